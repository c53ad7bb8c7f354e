theorem dX12_isFor_8 : decode cX12_isFor 8 = .ok (.aload_n 0, 1) := by decide +kernel
theorem dX12_isFor_9 : decode cX12_isFor 9 = .ok (.getfield 7, 3) := by decide +kernel
theorem dX12_isFor_12 : decode cX12_isFor 12 = .ok (.bipush 31, 2) := by decide +kernel
theorem dX12_isFor_14 : decode cX12_isFor 14 = .ok (.iload_n 1, 1) := by decide +kernel
theorem dX12_isFor_15 : decode cX12_isFor 15 = .ok (.iadd, 1) := by decide +kernel
theorem dX12_isFor_16 : decode cX12_isFor 16 = .ok (.iaload, 1) := by decide +kernel
theorem dX12_isFor_17 : decode cX12_isFor 17 = .ok (.iload_n 2, 1) := by decide +kernel
theorem dX12_isFor_18 : decode cX12_isFor 18 = .ok (.if_icmp .ne 7, 3) := by decide +kernel
theorem dX12_isFor_21 : decode cX12_isFor 21 = .ok (.iconst 1, 1) := by decide +kernel
theorem dX12_isFor_22 : decode cX12_isFor 22 = .ok (.goto 4, 3) := by decide +kernel
theorem dX12_isFor_25 : decode cX12_isFor 25 = .ok (.iconst 0, 1) := by decide +kernel
theorem dX12_isFor_26 : decode cX12_isFor 26 = .ok (.ireturn, 1) := by decide +kernel
theorem dX12_more_0 : decode cX12_more 0 = .ok (.iload_n 1, 1) := by decide +kernel
theorem dX12_more_1 : decode cX12_more 1 = .ok (.ifCond .ge 7, 3) := by decide +kernel
theorem dX12_more_4 : decode cX12_more 4 = .ok (.iconst 0, 1) := by decide +kernel
theorem dX12_more_5 : decode cX12_more 5 = .ok (.goto 12, 3) := by decide +kernel
theorem dX12_more_8 : decode cX12_more 8 = .ok (.aload_n 0, 1) := by decide +kernel
theorem dX12_more_9 : decode cX12_more 9 = .ok (.getfield 7, 3) := by decide +kernel
theorem dX12_more_12 : decode cX12_more 12 = .ok (.bipush 47, 2) := by decide +kernel
theorem dX12_more_14 : decode cX12_more 14 = .ok (.iload_n 1, 1) := by decide +kernel
theorem dX12_more_15 : decode cX12_more 15 = .ok (.iadd, 1) := by decide +kernel
theorem dX12_more_16 : decode cX12_more 16 = .ok (.iaload, 1) := by decide +kernel
theorem dX12_more_17 : decode cX12_more 17 = .ok (.istore_n 3, 1) := by decide +kernel
theorem dX12_more_18 : decode cX12_more 18 = .ok (.iload_n 3, 1) := by decide +kernel
theorem dX12_more_19 : decode cX12_more 19 = .ok (.iconst 1, 1) := by decide +kernel
theorem dX12_more_20 : decode cX12_more 20 = .ok (.if_icmp .ne 7, 3) := by decide +kernel
theorem dX12_more_23 : decode cX12_more 23 = .ok (.iconst (-1), 1) := by decide +kernel
theorem dX12_more_24 : decode cX12_more 24 = .ok (.goto 23, 3) := by decide +kernel
theorem dX12_more_27 : decode cX12_more 27 = .ok (.iload_n 3, 1) := by decide +kernel
theorem dX12_more_28 : decode cX12_more 28 = .ok (.iconst 2, 1) := by decide +kernel
theorem dX12_more_29 : decode cX12_more 29 = .ok (.if_icmp .eq 7, 3) := by decide +kernel
theorem dX12_more_32 : decode cX12_more 32 = .ok (.iconst 0, 1) := by decide +kernel
theorem dX12_more_33 : decode cX12_more 33 = .ok (.goto 14, 3) := by decide +kernel
theorem dX12_more_36 : decode cX12_more 36 = .ok (.iload_n 2, 1) := by decide +kernel
theorem dX12_more_37 : decode cX12_more 37 = .ok (.iconst 5, 1) := by decide +kernel
theorem dX12_more_38 : decode cX12_more 38 = .ok (.if_icmp .ge 7, 3) := by decide +kernel
theorem dX12_more_41 : decode cX12_more 41 = .ok (.iconst 1, 1) := by decide +kernel
theorem dX12_more_42 : decode cX12_more 42 = .ok (.goto 5, 3) := by decide +kernel
theorem dX12_more_45 : decode cX12_more 45 = .ok (.bipush (-2), 2) := by decide +kernel
theorem dX12_more_47 : decode cX12_more 47 = .ok (.ireturn, 1) := by decide +kernel
set_option maxRecDepth 20000 in
theorem ggX12_minutesOf_X12_more : GoodIn wsX12_minutesOf wsX12_more := goodIn_r _ [6, 1, 7, 8, 9, 10, 11, 12, 13, 14, 15, 16, 17, 18, 19, 20, 21, 22, 23, 24, 25, 26, 27, 28, 29, 30, 31, 32] (by decide +kernel) (by decide +kernel)
set_option maxRecDepth 20000 in
theorem gX12_minutesOf_X12_more : GoodIn wsX12_minutesOf (wsV RX12 144 RX12 yX12_more wsX12_more) := goodIn_app (goodIn_of _ (by decide +kernel)) ggX12_minutesOf_X12_more
theorem dX12_minutesOf_0 : decode cX12_minutesOf 0 = .ok (.aload_n 0, 1) := by decide +kernel
theorem dX12_minutesOf_1 : decode cX12_minutesOf 1 = .ok (.getfield 7, 3) := by decide +kernel
theorem dX12_minutesOf_4 : decode cX12_minutesOf 4 = .ok (.bipush 99, 2) := by decide +kernel
theorem dX12_minutesOf_6 : decode cX12_minutesOf 6 = .ok (.iload_n 2, 1) := by decide +kernel
theorem dX12_minutesOf_7 : decode cX12_minutesOf 7 = .ok (.iadd, 1) := by decide +kernel
theorem dX12_minutesOf_8 : decode cX12_minutesOf 8 = .ok (.iaload, 1) := by decide +kernel
theorem dX12_minutesOf_9 : decode cX12_minutesOf 9 = .ok (.istore 5, 2) := by decide +kernel
theorem dX12_minutesOf_11 : decode cX12_minutesOf 11 = .ok (.iload_n 1, 1) := by decide +kernel
theorem dX12_minutesOf_12 : decode cX12_minutesOf 12 = .ok (.ifCond .ne 11, 3) := by decide +kernel
theorem dX12_minutesOf_15 : decode cX12_minutesOf 15 = .ok (.bipush 20, 2) := by decide +kernel
theorem dX12_minutesOf_17 : decode cX12_minutesOf 17 = .ok (.iload 5, 2) := by decide +kernel
theorem dX12_minutesOf_19 : decode cX12_minutesOf 19 = .ok (.iadd, 1) := by decide +kernel
theorem dX12_minutesOf_20 : decode cX12_minutesOf 20 = .ok (.goto 38, 3) := by decide +kernel
theorem dX12_minutesOf_23 : decode cX12_minutesOf 23 = .ok (.iload_n 1, 1) := by decide +kernel
theorem dX12_minutesOf_24 : decode cX12_minutesOf 24 = .ok (.iconst 1, 1) := by decide +kernel
theorem dX12_minutesOf_25 : decode cX12_minutesOf 25 = .ok (.if_icmp .ne 11, 3) := by decide +kernel
theorem dX12_minutesOf_28 : decode cX12_minutesOf 28 = .ok (.bipush 26, 2) := by decide +kernel
theorem dX12_minutesOf_30 : decode cX12_minutesOf 30 = .ok (.iload 5, 2) := by decide +kernel
theorem dX12_minutesOf_32 : decode cX12_minutesOf 32 = .ok (.iadd, 1) := by decide +kernel
theorem dX12_minutesOf_33 : decode cX12_minutesOf 33 = .ok (.goto 25, 3) := by decide +kernel
theorem dX12_minutesOf_36 : decode cX12_minutesOf 36 = .ok (.iload_n 1, 1) := by decide +kernel
theorem dX12_minutesOf_37 : decode cX12_minutesOf 37 = .ok (.iconst 2, 1) := by decide +kernel
theorem dX12_minutesOf_38 : decode cX12_minutesOf 38 = .ok (.if_icmp .ne 13, 3) := by decide +kernel
theorem dX12_minutesOf_41 : decode cX12_minutesOf 41 = .ok (.bipush 40, 2) := by decide +kernel
theorem dX12_minutesOf_43 : decode cX12_minutesOf 43 = .ok (.iconst 2, 1) := by decide +kernel
theorem dX12_minutesOf_44 : decode cX12_minutesOf 44 = .ok (.iload 5, 2) := by decide +kernel
theorem dX12_minutesOf_46 : decode cX12_minutesOf 46 = .ok (.imul, 1) := by decide +kernel
theorem dX12_minutesOf_47 : decode cX12_minutesOf 47 = .ok (.iadd, 1) := by decide +kernel
theorem dX12_minutesOf_48 : decode cX12_minutesOf 48 = .ok (.goto 10, 3) := by decide +kernel
theorem dX12_minutesOf_51 : decode cX12_minutesOf 51 = .ok (.bipush 30, 2) := by decide +kernel
theorem dX12_minutesOf_53 : decode cX12_minutesOf 53 = .ok (.iconst 3, 1) := by decide +kernel
theorem dX12_minutesOf_54 : decode cX12_minutesOf 54 = .ok (.iload 5, 2) := by decide +kernel
theorem dX12_minutesOf_56 : decode cX12_minutesOf 56 = .ok (.imul, 1) := by decide +kernel
theorem dX12_minutesOf_57 : decode cX12_minutesOf 57 = .ok (.iadd, 1) := by decide +kernel
theorem dX12_minutesOf_58 : decode cX12_minutesOf 58 = .ok (.istore 6, 2) := by decide +kernel
theorem dX12_minutesOf_60 : decode cX12_minutesOf 60 = .ok (.iload 6, 2) := by decide +kernel
theorem dX12_minutesOf_62 : decode cX12_minutesOf 62 = .ok (.aload_n 0, 1) := by decide +kernel
theorem dX12_minutesOf_63 : decode cX12_minutesOf 63 = .ok (.iload_n 3, 1) := by decide +kernel
theorem dX12_minutesOf_64 : decode cX12_minutesOf 64 = .ok (.iload 5, 2) := by decide +kernel
theorem dX12_minutesOf_66 : decode cX12_minutesOf 66 = .ok (.invokevirtual 144, 3) := by decide +kernel
theorem dX12_minutesOf_69 : decode cX12_minutesOf 69 = .ok (.iadd, 1) := by decide +kernel
theorem dX12_minutesOf_70 : decode cX12_minutesOf 70 = .ok (.aload_n 0, 1) := by decide +kernel
theorem dX12_minutesOf_71 : decode cX12_minutesOf 71 = .ok (.iload 4, 2) := by decide +kernel
theorem dX12_minutesOf_73 : decode cX12_minutesOf 73 = .ok (.iload 5, 2) := by decide +kernel
theorem dX12_minutesOf_75 : decode cX12_minutesOf 75 = .ok (.invokevirtual 144, 3) := by decide +kernel
theorem dX12_minutesOf_78 : decode cX12_minutesOf 78 = .ok (.iadd, 1) := by decide +kernel
theorem dX12_minutesOf_79 : decode cX12_minutesOf 79 = .ok (.ireturn, 1) := by decide +kernel
set_option maxRecDepth 20000 in
theorem ggX12_minutes_X12_in : GoodIn wsX12_minutes wsX12_in := goodIn_r _ [7] (by decide +kernel) (by decide +kernel)
set_option maxRecDepth 20000 in
theorem gX12_minutes_X12_in : GoodIn wsX12_minutes (va_wsS RX12 67 yX12_in wsX12_in) := goodIn_app (goodIn_of _ (by decide +kernel)) ggX12_minutes_X12_in
set_option maxRecDepth 20000 in
theorem ggX12_minutes_X12_isFor : GoodIn wsX12_minutes wsX12_isFor := goodIn_r _ [11, 3, 12, 13, 14, 6, 15, 4, 5, 7, 24, 25, 26, 27, 28, 29, 30, 31, 32, 33, 34, 35, 36, 37, 38, 39, 40, 41, 42, 43, 44, 45, 46, 47, 48, 49] (by decide +kernel) (by decide +kernel)
set_option maxRecDepth 20000 in
theorem gX12_minutes_X12_isFor : GoodIn wsX12_minutes (wsV RX12 147 RX12 yX12_isFor wsX12_isFor) := goodIn_app (goodIn_of _ (by decide +kernel)) ggX12_minutes_X12_isFor
set_option maxRecDepth 20000 in
theorem ggX12_minutes_X12_minutesOf : GoodIn wsX12_minutes wsX12_minutesOf := goodIn_r _ [19, 3, 20, 21, 22, 6, 23, 24, 25, 26, 27, 28, 29, 30, 31, 32, 33, 34, 35, 36, 37, 38, 39, 40, 41, 42, 43, 44, 45, 46, 47, 48, 49] (by decide +kernel) (by decide +kernel)
set_option maxRecDepth 20000 in
theorem gX12_minutes_X12_minutesOf : GoodIn wsX12_minutes (wsV RX12 150 RX12 yX12_minutesOf wsX12_minutesOf) := goodIn_app (goodIn_of _ (by decide +kernel)) ggX12_minutes_X12_minutesOf
theorem dX12_minutes_0 : decode cX12_minutes 0 = .ok (.iload_n 1, 1) := by decide +kernel
theorem dX12_minutes_1 : decode cX12_minutes 1 = .ok (.i2l, 1) := by decide +kernel
theorem dX12_minutes_2 : decode cX12_minutes 2 = .ok (.lconst 0, 1) := by decide +kernel
theorem dX12_minutes_3 : decode cX12_minutes 3 = .ok (.ldc2_w 79, 3) := by decide +kernel
theorem dX12_minutes_6 : decode cX12_minutes 6 = .ok (.invokestatic 67, 3) := by decide +kernel
theorem dX12_minutes_9 : decode cX12_minutes 9 = .ok (.ifCond .eq 15, 3) := by decide +kernel
theorem dX12_minutes_12 : decode cX12_minutes 12 = .ok (.iload_n 2, 1) := by decide +kernel
theorem dX12_minutes_13 : decode cX12_minutes 13 = .ok (.i2l, 1) := by decide +kernel
theorem dX12_minutes_14 : decode cX12_minutes 14 = .ok (.lconst 0, 1) := by decide +kernel
theorem dX12_minutes_15 : decode cX12_minutes 15 = .ok (.ldc2_w 95, 3) := by decide +kernel
theorem dX12_minutes_18 : decode cX12_minutes 18 = .ok (.invokestatic 67, 3) := by decide +kernel
theorem dX12_minutes_21 : decode cX12_minutes 21 = .ok (.ifCond .ne 5, 3) := by decide +kernel
theorem dX12_minutes_24 : decode cX12_minutes 24 = .ok (.iconst (-1), 1) := by decide +kernel
theorem dX12_minutes_25 : decode cX12_minutes 25 = .ok (.ireturn, 1) := by decide +kernel
theorem dX12_minutes_26 : decode cX12_minutes 26 = .ok (.aload_n 0, 1) := by decide +kernel
theorem dX12_minutes_27 : decode cX12_minutes 27 = .ok (.getfield 7, 3) := by decide +kernel
theorem dX12_minutes_30 : decode cX12_minutes 30 = .ok (.iconst 3, 1) := by decide +kernel
theorem dX12_minutes_31 : decode cX12_minutes 31 = .ok (.iaload, 1) := by decide +kernel
theorem dX12_minutes_32 : decode cX12_minutes 32 = .ok (.istore 5, 2) := by decide +kernel
theorem dX12_minutes_34 : decode cX12_minutes 34 = .ok (.iload_n 1, 1) := by decide +kernel
theorem dX12_minutes_35 : decode cX12_minutes 35 = .ok (.tableswitch 127 0 2 #[25, 58, 99], 25) := by decide +kernel
theorem dX12_minutes_60 : decode cX12_minutes 60 = .ok (.aload_n 0, 1) := by decide +kernel
theorem dX12_minutes_61 : decode cX12_minutes 61 = .ok (.iload_n 3, 1) := by decide +kernel
theorem dX12_minutes_62 : decode cX12_minutes 62 = .ok (.iload 5, 2) := by decide +kernel
theorem dX12_minutes_64 : decode cX12_minutes 64 = .ok (.invokevirtual 147, 3) := by decide +kernel
theorem dX12_minutes_67 : decode cX12_minutes 67 = .ok (.ifCond .eq 20, 3) := by decide +kernel
theorem dX12_minutes_70 : decode cX12_minutes 70 = .ok (.aload_n 0, 1) := by decide +kernel
theorem dX12_minutes_71 : decode cX12_minutes 71 = .ok (.iload 4, 2) := by decide +kernel
theorem dX12_minutes_73 : decode cX12_minutes 73 = .ok (.iconst 1, 1) := by decide +kernel
theorem dX12_minutes_74 : decode cX12_minutes 74 = .ok (.iload 5, 2) := by decide +kernel
theorem dX12_minutes_76 : decode cX12_minutes 76 = .ok (.isub, 1) := by decide +kernel
theorem dX12_minutes_77 : decode cX12_minutes 77 = .ok (.invokevirtual 147, 3) := by decide +kernel
theorem dX12_minutes_80 : decode cX12_minutes 80 = .ok (.ifCond .eq 7, 3) := by decide +kernel
theorem dX12_minutes_83 : decode cX12_minutes 83 = .ok (.iconst 1, 1) := by decide +kernel
theorem dX12_minutes_84 : decode cX12_minutes 84 = .ok (.goto 4, 3) := by decide +kernel
theorem dX12_minutes_87 : decode cX12_minutes 87 = .ok (.iconst 0, 1) := by decide +kernel
theorem dX12_minutes_88 : decode cX12_minutes 88 = .ok (.istore 6, 2) := by decide +kernel
theorem dX12_minutes_90 : decode cX12_minutes 90 = .ok (.goto 90, 3) := by decide +kernel
theorem dX12_minutes_93 : decode cX12_minutes 93 = .ok (.aload_n 0, 1) := by decide +kernel
theorem dX12_minutes_94 : decode cX12_minutes 94 = .ok (.iload_n 3, 1) := by decide +kernel
theorem dX12_minutes_95 : decode cX12_minutes 95 = .ok (.iconst 1, 1) := by decide +kernel
theorem dX12_minutes_96 : decode cX12_minutes 96 = .ok (.iload 5, 2) := by decide +kernel
theorem dX12_minutes_98 : decode cX12_minutes 98 = .ok (.isub, 1) := by decide +kernel
theorem dX12_minutes_99 : decode cX12_minutes 99 = .ok (.invokevirtual 147, 3) := by decide +kernel
theorem dX12_minutes_102 : decode cX12_minutes 102 = .ok (.ifCond .eq 26, 3) := by decide +kernel
theorem dX12_minutes_105 : decode cX12_minutes 105 = .ok (.aload_n 0, 1) := by decide +kernel
theorem dX12_minutes_106 : decode cX12_minutes 106 = .ok (.iload 4, 2) := by decide +kernel
theorem dX12_minutes_108 : decode cX12_minutes 108 = .ok (.iconst 1, 1) := by decide +kernel
theorem dX12_minutes_109 : decode cX12_minutes 109 = .ok (.iload 5, 2) := by decide +kernel
theorem dX12_minutes_111 : decode cX12_minutes 111 = .ok (.isub, 1) := by decide +kernel
theorem dX12_minutes_112 : decode cX12_minutes 112 = .ok (.invokevirtual 147, 3) := by decide +kernel
theorem dX12_minutes_115 : decode cX12_minutes 115 = .ok (.ifCond .eq 13, 3) := by decide +kernel
theorem dX12_minutes_118 : decode cX12_minutes 118 = .ok (.iload_n 3, 1) := by decide +kernel
theorem dX12_minutes_119 : decode cX12_minutes 119 = .ok (.iload 4, 2) := by decide +kernel
theorem dX12_minutes_121 : decode cX12_minutes 121 = .ok (.if_icmp .eq 7, 3) := by decide +kernel
theorem dX12_minutes_124 : decode cX12_minutes 124 = .ok (.iconst 1, 1) := by decide +kernel
theorem dX12_minutes_125 : decode cX12_minutes 125 = .ok (.goto 4, 3) := by decide +kernel
theorem dX12_minutes_128 : decode cX12_minutes 128 = .ok (.iconst 0, 1) := by decide +kernel
theorem dX12_minutes_129 : decode cX12_minutes 129 = .ok (.istore 6, 2) := by decide +kernel
theorem dX12_minutes_131 : decode cX12_minutes 131 = .ok (.goto 49, 3) := by decide +kernel
theorem dX12_minutes_134 : decode cX12_minutes 134 = .ok (.aload_n 0, 1) := by decide +kernel
theorem dX12_minutes_135 : decode cX12_minutes 135 = .ok (.iload_n 3, 1) := by decide +kernel
theorem dX12_minutes_136 : decode cX12_minutes 136 = .ok (.iconst 1, 1) := by decide +kernel
theorem dX12_minutes_137 : decode cX12_minutes 137 = .ok (.iload 5, 2) := by decide +kernel
theorem dX12_minutes_139 : decode cX12_minutes 139 = .ok (.isub, 1) := by decide +kernel
theorem dX12_minutes_140 : decode cX12_minutes 140 = .ok (.invokevirtual 147, 3) := by decide +kernel
theorem dX12_minutes_143 : decode cX12_minutes 143 = .ok (.ifCond .eq 13, 3) := by decide +kernel
theorem dX12_minutes_146 : decode cX12_minutes 146 = .ok (.iload 4, 2) := by decide +kernel
theorem dX12_minutes_148 : decode cX12_minutes 148 = .ok (.iconst (-1), 1) := by decide +kernel
theorem dX12_minutes_149 : decode cX12_minutes 149 = .ok (.if_icmp .ne 7, 3) := by decide +kernel
theorem dX12_minutes_152 : decode cX12_minutes 152 = .ok (.iconst 1, 1) := by decide +kernel
theorem dX12_minutes_153 : decode cX12_minutes 153 = .ok (.goto 4, 3) := by decide +kernel
theorem dX12_minutes_156 : decode cX12_minutes 156 = .ok (.iconst 0, 1) := by decide +kernel
theorem dX12_minutes_157 : decode cX12_minutes 157 = .ok (.istore 6, 2) := by decide +kernel
theorem dX12_minutes_159 : decode cX12_minutes 159 = .ok (.goto 21, 3) := by decide +kernel
theorem dX12_minutes_162 : decode cX12_minutes 162 = .ok (.iload_n 3, 1) := by decide +kernel
theorem dX12_minutes_163 : decode cX12_minutes 163 = .ok (.iconst (-1), 1) := by decide +kernel
theorem dX12_minutes_164 : decode cX12_minutes 164 = .ok (.if_icmp .ne 13, 3) := by decide +kernel
theorem dX12_minutes_167 : decode cX12_minutes 167 = .ok (.iload 4, 2) := by decide +kernel
theorem dX12_minutes_169 : decode cX12_minutes 169 = .ok (.iconst (-1), 1) := by decide +kernel
theorem dX12_minutes_170 : decode cX12_minutes 170 = .ok (.if_icmp .ne 7, 3) := by decide +kernel
theorem dX12_minutes_173 : decode cX12_minutes 173 = .ok (.iconst 1, 1) := by decide +kernel
theorem dX12_minutes_174 : decode cX12_minutes 174 = .ok (.goto 4, 3) := by decide +kernel
theorem dX12_minutes_177 : decode cX12_minutes 177 = .ok (.iconst 0, 1) := by decide +kernel
theorem dX12_minutes_178 : decode cX12_minutes 178 = .ok (.istore 6, 2) := by decide +kernel
theorem dX12_minutes_180 : decode cX12_minutes 180 = .ok (.iload 6, 2) := by decide +kernel
theorem dX12_minutes_182 : decode cX12_minutes 182 = .ok (.ifCond .eq 15, 3) := by decide +kernel
theorem dX12_minutes_185 : decode cX12_minutes 185 = .ok (.aload_n 0, 1) := by decide +kernel
theorem dX12_minutes_186 : decode cX12_minutes 186 = .ok (.iload_n 1, 1) := by decide +kernel
theorem dX12_minutes_187 : decode cX12_minutes 187 = .ok (.iload_n 2, 1) := by decide +kernel
theorem dX12_minutes_188 : decode cX12_minutes 188 = .ok (.iload_n 3, 1) := by decide +kernel
theorem dX12_minutes_189 : decode cX12_minutes 189 = .ok (.iload 4, 2) := by decide +kernel
theorem dX12_minutes_191 : decode cX12_minutes 191 = .ok (.invokevirtual 150, 3) := by decide +kernel
theorem dX12_minutes_194 : decode cX12_minutes 194 = .ok (.goto 4, 3) := by decide +kernel
theorem dX12_minutes_197 : decode cX12_minutes 197 = .ok (.iconst (-1), 1) := by decide +kernel
theorem dX12_minutes_198 : decode cX12_minutes 198 = .ok (.ireturn, 1) := by decide +kernel
theorem dX12_costOf_0 : decode cX12_costOf 0 = .ok (.aload_n 0, 1) := by decide +kernel
theorem dX12_costOf_1 : decode cX12_costOf 1 = .ok (.getfield 7, 3) := by decide +kernel
theorem dX12_costOf_4 : decode cX12_costOf 4 = .ok (.bipush 79, 2) := by decide +kernel
theorem dX12_costOf_6 : decode cX12_costOf 6 = .ok (.iload_n 1, 1) := by decide +kernel
theorem dX12_costOf_7 : decode cX12_costOf 7 = .ok (.iadd, 1) := by decide +kernel
theorem dX12_costOf_8 : decode cX12_costOf 8 = .ok (.iaload, 1) := by decide +kernel
theorem dX12_costOf_9 : decode cX12_costOf 9 = .ok (.iconst 1, 1) := by decide +kernel
theorem dX12_costOf_10 : decode cX12_costOf 10 = .ok (.if_icmp .ne 26, 3) := by decide +kernel
theorem dX12_costOf_13 : decode cX12_costOf 13 = .ok (.bipush 16, 2) := by decide +kernel
theorem dX12_costOf_15 : decode cX12_costOf 15 = .ok (.aload_n 0, 1) := by decide +kernel
theorem dX12_costOf_16 : decode cX12_costOf 16 = .ok (.getfield 7, 3) := by decide +kernel
theorem dX12_costOf_19 : decode cX12_costOf 19 = .ok (.bipush 95, 2) := by decide +kernel
theorem dX12_costOf_21 : decode cX12_costOf 21 = .ok (.aload_n 0, 1) := by decide +kernel
theorem dX12_costOf_22 : decode cX12_costOf 22 = .ok (.getfield 7, 3) := by decide +kernel
theorem dX12_costOf_25 : decode cX12_costOf 25 = .ok (.bipush 47, 2) := by decide +kernel
theorem dX12_costOf_27 : decode cX12_costOf 27 = .ok (.iload_n 1, 1) := by decide +kernel
theorem dX12_costOf_28 : decode cX12_costOf 28 = .ok (.iadd, 1) := by decide +kernel
theorem dX12_costOf_29 : decode cX12_costOf 29 = .ok (.iaload, 1) := by decide +kernel
theorem dX12_costOf_30 : decode cX12_costOf 30 = .ok (.iadd, 1) := by decide +kernel
theorem dX12_costOf_31 : decode cX12_costOf 31 = .ok (.iaload, 1) := by decide +kernel
theorem dX12_costOf_32 : decode cX12_costOf 32 = .ok (.imul, 1) := by decide +kernel
theorem dX12_costOf_33 : decode cX12_costOf 33 = .ok (.goto 19, 3) := by decide +kernel
theorem dX12_costOf_36 : decode cX12_costOf 36 = .ok (.aload_n 0, 1) := by decide +kernel
theorem dX12_costOf_37 : decode cX12_costOf 37 = .ok (.getfield 7, 3) := by decide +kernel
theorem dX12_costOf_40 : decode cX12_costOf 40 = .ok (.iconst 2, 1) := by decide +kernel
theorem dX12_costOf_41 : decode cX12_costOf 41 = .ok (.iaload, 1) := by decide +kernel
theorem dX12_costOf_42 : decode cX12_costOf 42 = .ok (.aload_n 0, 1) := by decide +kernel
theorem dX12_costOf_43 : decode cX12_costOf 43 = .ok (.getfield 7, 3) := by decide +kernel
theorem dX12_costOf_46 : decode cX12_costOf 46 = .ok (.bipush 108, 2) := by decide +kernel
theorem dX12_costOf_48 : decode cX12_costOf 48 = .ok (.iload_n 2, 1) := by decide +kernel
theorem dX12_costOf_49 : decode cX12_costOf 49 = .ok (.iadd, 1) := by decide +kernel
theorem dX12_costOf_50 : decode cX12_costOf 50 = .ok (.iaload, 1) := by decide +kernel
theorem dX12_costOf_51 : decode cX12_costOf 51 = .ok (.imul, 1) := by decide +kernel
theorem dX12_costOf_52 : decode cX12_costOf 52 = .ok (.ireturn, 1) := by decide +kernel
theorem dX12_wear_0 : decode cX12_wear 0 = .ok (.aload_n 0, 1) := by decide +kernel
theorem dX12_wear_1 : decode cX12_wear 1 = .ok (.getfield 7, 3) := by decide +kernel
theorem dX12_wear_4 : decode cX12_wear 4 = .ok (.bipush 47, 2) := by decide +kernel
theorem dX12_wear_6 : decode cX12_wear 6 = .ok (.iload_n 1, 1) := by decide +kernel
theorem dX12_wear_7 : decode cX12_wear 7 = .ok (.iadd, 1) := by decide +kernel
theorem dX12_wear_8 : decode cX12_wear 8 = .ok (.iaload, 1) := by decide +kernel
theorem dX12_wear_9 : decode cX12_wear 9 = .ok (.iconst 3, 1) := by decide +kernel
theorem dX12_wear_10 : decode cX12_wear 10 = .ok (.if_icmp .ne 7, 3) := by decide +kernel
theorem dX12_wear_13 : decode cX12_wear 13 = .ok (.iconst 2, 1) := by decide +kernel
theorem dX12_wear_14 : decode cX12_wear 14 = .ok (.goto 4, 3) := by decide +kernel
theorem dX12_wear_17 : decode cX12_wear 17 = .ok (.iconst 1, 1) := by decide +kernel
theorem dX12_wear_18 : decode cX12_wear 18 = .ok (.ireturn, 1) := by decide +kernel
set_option maxRecDepth 20000 in
theorem ggX12_isHis_X12_isFor : GoodIn wsX12_isHis wsX12_isFor := goodIn_r _ [6, 1, 7, 8, 9, 5, 10, 11, 12, 13, 14, 15, 16, 17, 18, 19, 20, 21, 22, 23, 24, 25, 26, 27, 28, 29, 30, 31, 32, 33, 34, 35, 36, 37, 38, 39] (by decide +kernel) (by decide +kernel)
set_option maxRecDepth 20000 in
theorem gX12_isHis_X12_isFor : GoodIn wsX12_isHis (wsV RX12 147 RX12 yX12_isFor wsX12_isFor) := goodIn_app (goodIn_of _ (by decide +kernel)) ggX12_isHis_X12_isFor
theorem dX12_isHis_0 : decode cX12_isHis 0 = .ok (.iload_n 2, 1) := by decide +kernel
theorem dX12_isHis_1 : decode cX12_isHis 1 = .ok (.iconst (-1), 1) := by decide +kernel
theorem dX12_isHis_2 : decode cX12_isHis 2 = .ok (.if_icmp .eq 25, 3) := by decide +kernel
theorem dX12_isHis_5 : decode cX12_isHis 5 = .ok (.aload_n 0, 1) := by decide +kernel
theorem dX12_isHis_6 : decode cX12_isHis 6 = .ok (.iload_n 2, 1) := by decide +kernel
theorem dX12_isHis_7 : decode cX12_isHis 7 = .ok (.iload_n 3, 1) := by decide +kernel
theorem dX12_isHis_8 : decode cX12_isHis 8 = .ok (.invokevirtual 147, 3) := by decide +kernel
theorem dX12_isHis_11 : decode cX12_isHis 11 = .ok (.ifCond .eq 20, 3) := by decide +kernel
theorem dX12_isHis_14 : decode cX12_isHis 14 = .ok (.aload_n 0, 1) := by decide +kernel
theorem dX12_isHis_15 : decode cX12_isHis 15 = .ok (.getfield 7, 3) := by decide +kernel
theorem dX12_isHis_18 : decode cX12_isHis 18 = .ok (.bipush 15, 2) := by decide +kernel
theorem dX12_isHis_20 : decode cX12_isHis 20 = .ok (.iload_n 2, 1) := by decide +kernel
theorem dX12_isHis_21 : decode cX12_isHis 21 = .ok (.iadd, 1) := by decide +kernel
theorem dX12_isHis_22 : decode cX12_isHis 22 = .ok (.iaload, 1) := by decide +kernel
theorem dX12_isHis_23 : decode cX12_isHis 23 = .ok (.iload_n 1, 1) := by decide +kernel
theorem dX12_isHis_24 : decode cX12_isHis 24 = .ok (.if_icmp .ne 7, 3) := by decide +kernel
theorem dX12_isHis_27 : decode cX12_isHis 27 = .ok (.iconst 1, 1) := by decide +kernel
theorem dX12_isHis_28 : decode cX12_isHis 28 = .ok (.goto 4, 3) := by decide +kernel
theorem dX12_isHis_31 : decode cX12_isHis 31 = .ok (.iconst 0, 1) := by decide +kernel
theorem dX12_isHis_32 : decode cX12_isHis 32 = .ok (.ireturn, 1) := by decide +kernel
set_option maxRecDepth 20000 in
theorem ggX12_isTrio_X12_isPerson : GoodIn wsX12_isTrio wsX12_isPerson := goodIn_r _ [6, 1, 7, 8, 5, 9, 22, 23, 24, 25, 26, 27, 28, 29, 30, 31, 32, 33, 34, 35, 36, 37, 38, 39, 40, 41, 42, 43, 44, 45, 46, 47] (by decide +kernel) (by decide +kernel)
set_option maxRecDepth 20000 in
theorem gX12_isTrio_X12_isPerson : GoodIn wsX12_isTrio (wsV RX12 75 RX12 yX12_isPerson wsX12_isPerson) := goodIn_app (goodIn_of _ (by decide +kernel)) ggX12_isTrio_X12_isPerson
set_option maxRecDepth 20000 in
theorem ggX12_isTrio_X12_isHis : GoodIn wsX12_isTrio wsX12_isHis := goodIn_r _ [13, 1, 14, 15, 16, 5, 17, 18, 19, 20, 21, 7, 8, 9, 22, 23, 24, 25, 26, 27, 28, 29, 30, 31, 32, 33, 34, 35, 36, 37, 38, 39, 40, 41, 42, 43, 44, 45, 46, 47] (by decide +kernel) (by decide +kernel)
set_option maxRecDepth 20000 in
theorem gX12_isTrio_X12_isHis : GoodIn wsX12_isTrio (wsV RX12 154 RX12 yX12_isHis wsX12_isHis) := goodIn_app (goodIn_of _ (by decide +kernel)) ggX12_isTrio_X12_isHis
theorem dX12_isTrio_0 : decode cX12_isTrio 0 = .ok (.aload_n 0, 1) := by decide +kernel
theorem dX12_isTrio_1 : decode cX12_isTrio 1 = .ok (.iload_n 1, 1) := by decide +kernel
theorem dX12_isTrio_2 : decode cX12_isTrio 2 = .ok (.invokevirtual 75, 3) := by decide +kernel
theorem dX12_isTrio_5 : decode cX12_isTrio 5 = .ok (.ifCond .ne 5, 3) := by decide +kernel
theorem dX12_isTrio_8 : decode cX12_isTrio 8 = .ok (.iconst 0, 1) := by decide +kernel
theorem dX12_isTrio_9 : decode cX12_isTrio 9 = .ok (.ireturn, 1) := by decide +kernel
theorem dX12_isTrio_10 : decode cX12_isTrio 10 = .ok (.aload_n 0, 1) := by decide +kernel
theorem dX12_isTrio_11 : decode cX12_isTrio 11 = .ok (.getfield 7, 3) := by decide +kernel
theorem dX12_isTrio_14 : decode cX12_isTrio 14 = .ok (.bipush 10, 2) := by decide +kernel
theorem dX12_isTrio_16 : decode cX12_isTrio 16 = .ok (.iload_n 1, 1) := by decide +kernel
theorem dX12_isTrio_17 : decode cX12_isTrio 17 = .ok (.iadd, 1) := by decide +kernel
theorem dX12_isTrio_18 : decode cX12_isTrio 18 = .ok (.iaload, 1) := by decide +kernel
theorem dX12_isTrio_19 : decode cX12_isTrio 19 = .ok (.istore 5, 2) := by decide +kernel
theorem dX12_isTrio_21 : decode cX12_isTrio 21 = .ok (.iload 5, 2) := by decide +kernel
theorem dX12_isTrio_23 : decode cX12_isTrio 23 = .ok (.ifCond .le 33, 3) := by decide +kernel
theorem dX12_isTrio_26 : decode cX12_isTrio 26 = .ok (.iload_n 2, 1) := by decide +kernel
theorem dX12_isTrio_27 : decode cX12_isTrio 27 = .ok (.iconst (-1), 1) := by decide +kernel
theorem dX12_isTrio_28 : decode cX12_isTrio 28 = .ok (.if_icmp .ne 26, 3) := by decide +kernel
theorem dX12_isTrio_31 : decode cX12_isTrio 31 = .ok (.iload 4, 2) := by decide +kernel
theorem dX12_isTrio_33 : decode cX12_isTrio 33 = .ok (.iconst (-1), 1) := by decide +kernel
theorem dX12_isTrio_34 : decode cX12_isTrio 34 = .ok (.if_icmp .ne 20, 3) := by decide +kernel
theorem dX12_isTrio_37 : decode cX12_isTrio 37 = .ok (.aload_n 0, 1) := by decide +kernel
theorem dX12_isTrio_38 : decode cX12_isTrio 38 = .ok (.iload_n 1, 1) := by decide +kernel
theorem dX12_isTrio_39 : decode cX12_isTrio 39 = .ok (.iload_n 3, 1) := by decide +kernel
theorem dX12_isTrio_40 : decode cX12_isTrio 40 = .ok (.iload 5, 2) := by decide +kernel
theorem dX12_isTrio_42 : decode cX12_isTrio 42 = .ok (.iconst 1, 1) := by decide +kernel
theorem dX12_isTrio_43 : decode cX12_isTrio 43 = .ok (.isub, 1) := by decide +kernel
theorem dX12_isTrio_44 : decode cX12_isTrio 44 = .ok (.invokevirtual 154, 3) := by decide +kernel
theorem dX12_isTrio_47 : decode cX12_isTrio 47 = .ok (.ifCond .eq 7, 3) := by decide +kernel
theorem dX12_isTrio_50 : decode cX12_isTrio 50 = .ok (.iconst 1, 1) := by decide +kernel
theorem dX12_isTrio_51 : decode cX12_isTrio 51 = .ok (.goto 4, 3) := by decide +kernel
theorem dX12_isTrio_54 : decode cX12_isTrio 54 = .ok (.iconst 0, 1) := by decide +kernel
theorem dX12_isTrio_55 : decode cX12_isTrio 55 = .ok (.ireturn, 1) := by decide +kernel
theorem dX12_isTrio_56 : decode cX12_isTrio 56 = .ok (.aload_n 0, 1) := by decide +kernel
theorem dX12_isTrio_57 : decode cX12_isTrio 57 = .ok (.getfield 7, 3) := by decide +kernel
theorem dX12_isTrio_60 : decode cX12_isTrio 60 = .ok (.iconst 3, 1) := by decide +kernel
theorem dX12_isTrio_61 : decode cX12_isTrio 61 = .ok (.iaload, 1) := by decide +kernel
theorem dX12_isTrio_62 : decode cX12_isTrio 62 = .ok (.istore 6, 2) := by decide +kernel
theorem dX12_isTrio_64 : decode cX12_isTrio 64 = .ok (.aload_n 0, 1) := by decide +kernel
theorem dX12_isTrio_65 : decode cX12_isTrio 65 = .ok (.iload_n 1, 1) := by decide +kernel
theorem dX12_isTrio_66 : decode cX12_isTrio 66 = .ok (.iload_n 2, 1) := by decide +kernel
theorem dX12_isTrio_67 : decode cX12_isTrio 67 = .ok (.iload 6, 2) := by decide +kernel
theorem dX12_isTrio_69 : decode cX12_isTrio 69 = .ok (.invokevirtual 154, 3) := by decide +kernel
theorem dX12_isTrio_72 : decode cX12_isTrio 72 = .ok (.ifCond .eq 45, 3) := by decide +kernel
theorem dX12_isTrio_75 : decode cX12_isTrio 75 = .ok (.aload_n 0, 1) := by decide +kernel
theorem dX12_isTrio_76 : decode cX12_isTrio 76 = .ok (.iload_n 1, 1) := by decide +kernel
theorem dX12_isTrio_77 : decode cX12_isTrio 77 = .ok (.iload_n 3, 1) := by decide +kernel
theorem dX12_isTrio_78 : decode cX12_isTrio 78 = .ok (.iconst 1, 1) := by decide +kernel
theorem dX12_isTrio_79 : decode cX12_isTrio 79 = .ok (.iload 6, 2) := by decide +kernel
theorem dX12_isTrio_81 : decode cX12_isTrio 81 = .ok (.isub, 1) := by decide +kernel
theorem dX12_isTrio_82 : decode cX12_isTrio 82 = .ok (.invokevirtual 154, 3) := by decide +kernel
theorem dX12_isTrio_85 : decode cX12_isTrio 85 = .ok (.ifCond .eq 32, 3) := by decide +kernel
theorem dX12_isTrio_88 : decode cX12_isTrio 88 = .ok (.aload_n 0, 1) := by decide +kernel
theorem dX12_isTrio_89 : decode cX12_isTrio 89 = .ok (.iload_n 1, 1) := by decide +kernel
theorem dX12_isTrio_90 : decode cX12_isTrio 90 = .ok (.iload 4, 2) := by decide +kernel
theorem dX12_isTrio_92 : decode cX12_isTrio 92 = .ok (.iconst 1, 1) := by decide +kernel
theorem dX12_isTrio_93 : decode cX12_isTrio 93 = .ok (.iload 6, 2) := by decide +kernel
theorem dX12_isTrio_95 : decode cX12_isTrio 95 = .ok (.isub, 1) := by decide +kernel
theorem dX12_isTrio_96 : decode cX12_isTrio 96 = .ok (.invokevirtual 154, 3) := by decide +kernel
theorem dX12_isTrio_99 : decode cX12_isTrio 99 = .ok (.ifCond .eq 18, 3) := by decide +kernel
theorem dX12_isTrio_102 : decode cX12_isTrio 102 = .ok (.iload_n 3, 1) := by decide +kernel
theorem dX12_isTrio_103 : decode cX12_isTrio 103 = .ok (.iconst (-1), 1) := by decide +kernel
theorem dX12_isTrio_104 : decode cX12_isTrio 104 = .ok (.if_icmp .eq 9, 3) := by decide +kernel
theorem dX12_isTrio_107 : decode cX12_isTrio 107 = .ok (.iload_n 3, 1) := by decide +kernel
theorem dX12_isTrio_108 : decode cX12_isTrio 108 = .ok (.iload 4, 2) := by decide +kernel
theorem dX12_isTrio_110 : decode cX12_isTrio 110 = .ok (.if_icmp .eq 7, 3) := by decide +kernel
theorem dX12_isTrio_113 : decode cX12_isTrio 113 = .ok (.iconst 1, 1) := by decide +kernel
theorem dX12_isTrio_114 : decode cX12_isTrio 114 = .ok (.goto 4, 3) := by decide +kernel
theorem dX12_isTrio_117 : decode cX12_isTrio 117 = .ok (.iconst 0, 1) := by decide +kernel
theorem dX12_isTrio_118 : decode cX12_isTrio 118 = .ok (.ireturn, 1) := by decide +kernel
set_option maxRecDepth 20000 in
theorem ggX12_sum_X12_costOf : GoodIn wsX12_sum wsX12_costOf := goodIn_r _ [14, 2, 27, 28, 29, 30, 31, 32, 33, 34, 35, 36, 37, 38, 39, 40, 41, 42, 43, 44, 45, 46, 47, 48, 49, 50, 51, 52] (by decide +kernel) (by decide +kernel)
set_option maxRecDepth 20000 in
theorem gX12_sum_X12_costOf : GoodIn wsX12_sum (wsV RX12 158 RX12 yX12_costOf wsX12_costOf) := goodIn_app (goodIn_of _ (by decide +kernel)) ggX12_sum_X12_costOf
set_option maxRecDepth 20000 in
theorem ggX12_sum_X12_minutesOf : GoodIn wsX12_sum wsX12_minutesOf := goodIn_r _ [18, 2, 19, 20, 21, 13, 22, 27, 28, 29, 30, 31, 32, 33, 34, 35, 36, 37, 38, 39, 40, 41, 42, 43, 44, 45, 46, 47, 48, 49, 50, 51, 52] (by decide +kernel) (by decide +kernel)
set_option maxRecDepth 20000 in
theorem gX12_sum_X12_minutesOf : GoodIn wsX12_sum (wsV RX12 150 RX12 yX12_minutesOf wsX12_minutesOf) := goodIn_app (goodIn_of _ (by decide +kernel)) ggX12_sum_X12_minutesOf
set_option maxRecDepth 20000 in
theorem ggX12_sum_X12_wear : GoodIn wsX12_sum wsX12_wear := goodIn_r _ [26, 2, 27, 28, 29, 30, 31, 32, 33, 34, 35, 36, 37, 38, 39, 40, 41, 42, 43, 44, 45, 46, 47, 48, 49, 50, 51, 52] (by decide +kernel) (by decide +kernel)
set_option maxRecDepth 20000 in
theorem gX12_sum_X12_wear : GoodIn wsX12_sum (wsV RX12 161 RX12 yX12_wear wsX12_wear) := goodIn_app (goodIn_of _ (by decide +kernel)) ggX12_sum_X12_wear
theorem dX12_sum_0 : decode cX12_sum 0 = .ok (.aload_n 0, 1) := by decide +kernel
theorem dX12_sum_1 : decode cX12_sum 1 = .ok (.getfield 31, 3) := by decide +kernel
theorem dX12_sum_4 : decode cX12_sum 4 = .ok (.iload 5, 2) := by decide +kernel
theorem dX12_sum_6 : decode cX12_sum 6 = .ok (.iaload, 1) := by decide +kernel
theorem dX12_sum_7 : decode cX12_sum 7 = .ok (.istore 6, 2) := by decide +kernel
theorem dX12_sum_9 : decode cX12_sum 9 = .ok (.aload_n 0, 1) := by decide +kernel
theorem dX12_sum_10 : decode cX12_sum 10 = .ok (.getfield 7, 3) := by decide +kernel
theorem dX12_sum_13 : decode cX12_sum 13 = .ok (.bipush 10, 2) := by decide +kernel
theorem dX12_sum_15 : decode cX12_sum 15 = .ok (.iload_n 1, 1) := by decide +kernel
theorem dX12_sum_16 : decode cX12_sum 16 = .ok (.iadd, 1) := by decide +kernel
theorem dX12_sum_17 : decode cX12_sum 17 = .ok (.iaload, 1) := by decide +kernel
theorem dX12_sum_18 : decode cX12_sum 18 = .ok (.ifCond .le 7, 3) := by decide +kernel
theorem dX12_sum_21 : decode cX12_sum 21 = .ok (.iconst 1, 1) := by decide +kernel
theorem dX12_sum_22 : decode cX12_sum 22 = .ok (.goto 4, 3) := by decide +kernel
theorem dX12_sum_25 : decode cX12_sum 25 = .ok (.iconst 0, 1) := by decide +kernel
theorem dX12_sum_26 : decode cX12_sum 26 = .ok (.istore 7, 2) := by decide +kernel
theorem dX12_sum_28 : decode cX12_sum 28 = .ok (.iload 6, 2) := by decide +kernel
theorem dX12_sum_30 : decode cX12_sum 30 = .ok (.ifCond .eq 26, 3) := by decide +kernel
theorem dX12_sum_33 : decode cX12_sum 33 = .ok (.iload 7, 2) := by decide +kernel
theorem dX12_sum_35 : decode cX12_sum 35 = .ok (.ifCond .eq 25, 3) := by decide +kernel
theorem dX12_sum_38 : decode cX12_sum 38 = .ok (.aload_n 0, 1) := by decide +kernel
theorem dX12_sum_39 : decode cX12_sum 39 = .ok (.getfield 7, 3) := by decide +kernel
theorem dX12_sum_42 : decode cX12_sum 42 = .ok (.bipush 31, 2) := by decide +kernel
theorem dX12_sum_44 : decode cX12_sum 44 = .ok (.iload_n 3, 1) := by decide +kernel
theorem dX12_sum_45 : decode cX12_sum 45 = .ok (.iadd, 1) := by decide +kernel
theorem dX12_sum_46 : decode cX12_sum 46 = .ok (.iaload, 1) := by decide +kernel
theorem dX12_sum_47 : decode cX12_sum 47 = .ok (.aload_n 0, 1) := by decide +kernel
theorem dX12_sum_48 : decode cX12_sum 48 = .ok (.getfield 7, 3) := by decide +kernel
theorem dX12_sum_51 : decode cX12_sum 51 = .ok (.iconst 3, 1) := by decide +kernel
theorem dX12_sum_52 : decode cX12_sum 52 = .ok (.iaload, 1) := by decide +kernel
theorem dX12_sum_53 : decode cX12_sum 53 = .ok (.if_icmp .ne 7, 3) := by decide +kernel
theorem dX12_sum_56 : decode cX12_sum 56 = .ok (.iconst 1, 1) := by decide +kernel
theorem dX12_sum_57 : decode cX12_sum 57 = .ok (.goto 4, 3) := by decide +kernel
theorem dX12_sum_60 : decode cX12_sum 60 = .ok (.iconst 0, 1) := by decide +kernel
theorem dX12_sum_61 : decode cX12_sum 61 = .ok (.istore 8, 2) := by decide +kernel
theorem dX12_sum_63 : decode cX12_sum 63 = .ok (.aload_n 0, 1) := by decide +kernel
theorem dX12_sum_64 : decode cX12_sum 64 = .ok (.getfield 34, 3) := by decide +kernel
theorem dX12_sum_67 : decode cX12_sum 67 = .ok (.iload 5, 2) := by decide +kernel
theorem dX12_sum_69 : decode cX12_sum 69 = .ok (.iconst 1, 1) := by decide +kernel
theorem dX12_sum_70 : decode cX12_sum 70 = .ok (.iadd, 1) := by decide +kernel
theorem dX12_sum_71 : decode cX12_sum 71 = .ok (.aload_n 0, 1) := by decide +kernel
theorem dX12_sum_72 : decode cX12_sum 72 = .ok (.getfield 34, 3) := by decide +kernel
theorem dX12_sum_75 : decode cX12_sum 75 = .ok (.iload 5, 2) := by decide +kernel
theorem dX12_sum_77 : decode cX12_sum 77 = .ok (.iaload, 1) := by decide +kernel
theorem dX12_sum_78 : decode cX12_sum 78 = .ok (.iload 8, 2) := by decide +kernel
theorem dX12_sum_80 : decode cX12_sum 80 = .ok (.ifCond .eq 22, 3) := by decide +kernel
theorem dX12_sum_83 : decode cX12_sum 83 = .ok (.aload_n 0, 1) := by decide +kernel
theorem dX12_sum_84 : decode cX12_sum 84 = .ok (.iload 6, 2) := by decide +kernel
theorem dX12_sum_86 : decode cX12_sum 86 = .ok (.ifCond .ne 7, 3) := by decide +kernel
theorem dX12_sum_89 : decode cX12_sum 89 = .ok (.iload_n 2, 1) := by decide +kernel
theorem dX12_sum_90 : decode cX12_sum 90 = .ok (.goto 4, 3) := by decide +kernel
theorem dX12_sum_93 : decode cX12_sum 93 = .ok (.iload_n 3, 1) := by decide +kernel
theorem dX12_sum_94 : decode cX12_sum 94 = .ok (.iload 5, 2) := by decide +kernel
theorem dX12_sum_96 : decode cX12_sum 96 = .ok (.invokevirtual 158, 3) := by decide +kernel
theorem dX12_sum_99 : decode cX12_sum 99 = .ok (.goto 4, 3) := by decide +kernel
theorem dX12_sum_102 : decode cX12_sum 102 = .ok (.iconst 0, 1) := by decide +kernel
theorem dX12_sum_103 : decode cX12_sum 103 = .ok (.iadd, 1) := by decide +kernel
theorem dX12_sum_104 : decode cX12_sum 104 = .ok (.iastore, 1) := by decide +kernel
theorem dX12_sum_105 : decode cX12_sum 105 = .ok (.aload_n 0, 1) := by decide +kernel
theorem dX12_sum_106 : decode cX12_sum 106 = .ok (.getfield 37, 3) := by decide +kernel
theorem dX12_sum_109 : decode cX12_sum 109 = .ok (.iload 5, 2) := by decide +kernel
theorem dX12_sum_111 : decode cX12_sum 111 = .ok (.iconst 1, 1) := by decide +kernel
theorem dX12_sum_112 : decode cX12_sum 112 = .ok (.iadd, 1) := by decide +kernel
theorem dX12_sum_113 : decode cX12_sum 113 = .ok (.aload_n 0, 1) := by decide +kernel
theorem dX12_sum_114 : decode cX12_sum 114 = .ok (.getfield 37, 3) := by decide +kernel
theorem dX12_sum_117 : decode cX12_sum 117 = .ok (.iload 5, 2) := by decide +kernel
theorem dX12_sum_119 : decode cX12_sum 119 = .ok (.iaload, 1) := by decide +kernel
theorem dX12_sum_120 : decode cX12_sum 120 = .ok (.aload_n 0, 1) := by decide +kernel
theorem dX12_sum_121 : decode cX12_sum 121 = .ok (.iload 6, 2) := by decide +kernel
theorem dX12_sum_123 : decode cX12_sum 123 = .ok (.iload 5, 2) := by decide +kernel
theorem dX12_sum_125 : decode cX12_sum 125 = .ok (.iload 6, 2) := by decide +kernel
theorem dX12_sum_127 : decode cX12_sum 127 = .ok (.ifCond .ne 7, 3) := by decide +kernel
theorem dX12_sum_130 : decode cX12_sum 130 = .ok (.iload_n 2, 1) := by decide +kernel
theorem dX12_sum_131 : decode cX12_sum 131 = .ok (.goto 14, 3) := by decide +kernel
theorem dX12_sum_134 : decode cX12_sum 134 = .ok (.iload 6, 2) := by decide +kernel
theorem dX12_sum_136 : decode cX12_sum 136 = .ok (.iconst 3, 1) := by decide +kernel
theorem dX12_sum_137 : decode cX12_sum 137 = .ok (.if_icmp .ne 7, 3) := by decide +kernel
theorem dX12_sum_140 : decode cX12_sum 140 = .ok (.iconst (-1), 1) := by decide +kernel
theorem dX12_sum_141 : decode cX12_sum 141 = .ok (.goto 4, 3) := by decide +kernel
theorem dX12_sum_144 : decode cX12_sum 144 = .ok (.iload_n 3, 1) := by decide +kernel
theorem dX12_sum_145 : decode cX12_sum 145 = .ok (.iload 6, 2) := by decide +kernel
theorem dX12_sum_147 : decode cX12_sum 147 = .ok (.ifCond .ne 7, 3) := by decide +kernel
theorem dX12_sum_150 : decode cX12_sum 150 = .ok (.iload_n 3, 1) := by decide +kernel
theorem dX12_sum_151 : decode cX12_sum 151 = .ok (.goto 15, 3) := by decide +kernel
theorem dX12_sum_154 : decode cX12_sum 154 = .ok (.iload 6, 2) := by decide +kernel
theorem dX12_sum_156 : decode cX12_sum 156 = .ok (.iconst 1, 1) := by decide +kernel
theorem dX12_sum_157 : decode cX12_sum 157 = .ok (.if_icmp .ne 8, 3) := by decide +kernel
theorem dX12_sum_160 : decode cX12_sum 160 = .ok (.iload 4, 2) := by decide +kernel
theorem dX12_sum_162 : decode cX12_sum 162 = .ok (.goto 4, 3) := by decide +kernel
theorem dX12_sum_165 : decode cX12_sum 165 = .ok (.iconst (-1), 1) := by decide +kernel
theorem dX12_sum_166 : decode cX12_sum 166 = .ok (.invokevirtual 150, 3) := by decide +kernel
theorem dX12_sum_169 : decode cX12_sum 169 = .ok (.iadd, 1) := by decide +kernel
theorem dX12_sum_170 : decode cX12_sum 170 = .ok (.iastore, 1) := by decide +kernel
theorem dX12_sum_171 : decode cX12_sum 171 = .ok (.aload_n 0, 1) := by decide +kernel
theorem dX12_sum_172 : decode cX12_sum 172 = .ok (.getfield 40, 3) := by decide +kernel
theorem dX12_sum_175 : decode cX12_sum 175 = .ok (.iload 5, 2) := by decide +kernel
theorem dX12_sum_177 : decode cX12_sum 177 = .ok (.iconst 1, 1) := by decide +kernel
theorem dX12_sum_178 : decode cX12_sum 178 = .ok (.iadd, 1) := by decide +kernel
theorem dX12_sum_179 : decode cX12_sum 179 = .ok (.aload_n 0, 1) := by decide +kernel
theorem dX12_sum_180 : decode cX12_sum 180 = .ok (.getfield 40, 3) := by decide +kernel
theorem dX12_sum_183 : decode cX12_sum 183 = .ok (.iload 5, 2) := by decide +kernel
theorem dX12_sum_185 : decode cX12_sum 185 = .ok (.iaload, 1) := by decide +kernel
theorem dX12_sum_186 : decode cX12_sum 186 = .ok (.iload 6, 2) := by decide +kernel
theorem dX12_sum_188 : decode cX12_sum 188 = .ok (.ifCond .ne 11, 3) := by decide +kernel
theorem dX12_sum_191 : decode cX12_sum 191 = .ok (.aload_n 0, 1) := by decide +kernel
theorem dX12_sum_192 : decode cX12_sum 192 = .ok (.iload_n 2, 1) := by decide +kernel
theorem dX12_sum_193 : decode cX12_sum 193 = .ok (.invokevirtual 161, 3) := by decide +kernel
theorem dX12_sum_196 : decode cX12_sum 196 = .ok (.goto 4, 3) := by decide +kernel
theorem dX12_sum_199 : decode cX12_sum 199 = .ok (.iconst 0, 1) := by decide +kernel
theorem dX12_sum_200 : decode cX12_sum 200 = .ok (.iadd, 1) := by decide +kernel
theorem dX12_sum_201 : decode cX12_sum 201 = .ok (.iastore, 1) := by decide +kernel
theorem dX12_sum_202 : decode cX12_sum 202 = .ok (.aload_n 0, 1) := by decide +kernel
theorem dX12_sum_203 : decode cX12_sum 203 = .ok (.getfield 43, 3) := by decide +kernel
theorem dX12_sum_206 : decode cX12_sum 206 = .ok (.iload 5, 2) := by decide +kernel
theorem dX12_sum_208 : decode cX12_sum 208 = .ok (.iconst 1, 1) := by decide +kernel
theorem dX12_sum_209 : decode cX12_sum 209 = .ok (.iadd, 1) := by decide +kernel
theorem dX12_sum_210 : decode cX12_sum 210 = .ok (.aload_n 0, 1) := by decide +kernel
theorem dX12_sum_211 : decode cX12_sum 211 = .ok (.getfield 43, 3) := by decide +kernel
theorem dX12_sum_214 : decode cX12_sum 214 = .ok (.iload 5, 2) := by decide +kernel
theorem dX12_sum_216 : decode cX12_sum 216 = .ok (.iaload, 1) := by decide +kernel
theorem dX12_sum_217 : decode cX12_sum 217 = .ok (.iload 6, 2) := by decide +kernel
theorem dX12_sum_219 : decode cX12_sum 219 = .ok (.iconst 3, 1) := by decide +kernel
theorem dX12_sum_220 : decode cX12_sum 220 = .ok (.if_icmp .ne 7, 3) := by decide +kernel
theorem dX12_sum_223 : decode cX12_sum 223 = .ok (.iconst 0, 1) := by decide +kernel
theorem dX12_sum_224 : decode cX12_sum 224 = .ok (.goto 24, 3) := by decide +kernel
theorem dX12_sum_227 : decode cX12_sum 227 = .ok (.iload 6, 2) := by decide +kernel
theorem dX12_sum_229 : decode cX12_sum 229 = .ok (.iconst 2, 1) := by decide +kernel
theorem dX12_sum_230 : decode cX12_sum 230 = .ok (.if_icmp .ne 13, 3) := by decide +kernel
theorem dX12_sum_233 : decode cX12_sum 233 = .ok (.iconst 2, 1) := by decide +kernel
theorem dX12_sum_234 : decode cX12_sum 234 = .ok (.aload_n 0, 1) := by decide +kernel
theorem dX12_sum_235 : decode cX12_sum 235 = .ok (.iload_n 3, 1) := by decide +kernel
theorem dX12_sum_236 : decode cX12_sum 236 = .ok (.invokevirtual 161, 3) := by decide +kernel
theorem dX12_sum_239 : decode cX12_sum 239 = .ok (.imul, 1) := by decide +kernel
theorem dX12_sum_240 : decode cX12_sum 240 = .ok (.goto 8, 3) := by decide +kernel
theorem dX12_sum_243 : decode cX12_sum 243 = .ok (.aload_n 0, 1) := by decide +kernel
theorem dX12_sum_244 : decode cX12_sum 244 = .ok (.iload_n 3, 1) := by decide +kernel
theorem dX12_sum_245 : decode cX12_sum 245 = .ok (.invokevirtual 161, 3) := by decide +kernel
theorem dX12_sum_248 : decode cX12_sum 248 = .ok (.iadd, 1) := by decide +kernel
theorem dX12_sum_249 : decode cX12_sum 249 = .ok (.iastore, 1) := by decide +kernel
theorem dX12_sum_250 : decode cX12_sum 250 = .ok (.aload_n 0, 1) := by decide +kernel
theorem dX12_sum_251 : decode cX12_sum 251 = .ok (.getfield 46, 3) := by decide +kernel
theorem dX12_sum_254 : decode cX12_sum 254 = .ok (.iload 5, 2) := by decide +kernel
theorem dX12_sum_256 : decode cX12_sum 256 = .ok (.iconst 1, 1) := by decide +kernel
theorem dX12_sum_257 : decode cX12_sum 257 = .ok (.iadd, 1) := by decide +kernel
theorem dX12_sum_258 : decode cX12_sum 258 = .ok (.aload_n 0, 1) := by decide +kernel
theorem dX12_sum_259 : decode cX12_sum 259 = .ok (.getfield 46, 3) := by decide +kernel
theorem dX12_sum_262 : decode cX12_sum 262 = .ok (.iload 5, 2) := by decide +kernel
theorem dX12_sum_264 : decode cX12_sum 264 = .ok (.iaload, 1) := by decide +kernel
theorem dX12_sum_265 : decode cX12_sum 265 = .ok (.iload 6, 2) := by decide +kernel
theorem dX12_sum_267 : decode cX12_sum 267 = .ok (.iconst 1, 1) := by decide +kernel
theorem dX12_sum_268 : decode cX12_sum 268 = .ok (.if_icmp .ne 12, 3) := by decide +kernel
theorem dX12_sum_271 : decode cX12_sum 271 = .ok (.aload_n 0, 1) := by decide +kernel
theorem dX12_sum_272 : decode cX12_sum 272 = .ok (.iload 4, 2) := by decide +kernel
theorem dX12_sum_274 : decode cX12_sum 274 = .ok (.invokevirtual 161, 3) := by decide +kernel
theorem dX12_sum_277 : decode cX12_sum 277 = .ok (.goto 4, 3) := by decide +kernel
theorem dX12_sum_280 : decode cX12_sum 280 = .ok (.iconst 0, 1) := by decide +kernel
theorem dX12_sum_281 : decode cX12_sum 281 = .ok (.iadd, 1) := by decide +kernel
theorem dX12_sum_282 : decode cX12_sum 282 = .ok (.iastore, 1) := by decide +kernel
theorem dX12_sum_283 : decode cX12_sum 283 = .ok (.aload_n 0, 1) := by decide +kernel
theorem dX12_sum_284 : decode cX12_sum 284 = .ok (.getfield 49, 3) := by decide +kernel
theorem dX12_sum_287 : decode cX12_sum 287 = .ok (.iload 5, 2) := by decide +kernel
theorem dX12_sum_289 : decode cX12_sum 289 = .ok (.iconst 1, 1) := by decide +kernel
theorem dX12_sum_290 : decode cX12_sum 290 = .ok (.iadd, 1) := by decide +kernel
theorem dX12_sum_291 : decode cX12_sum 291 = .ok (.aload_n 0, 1) := by decide +kernel
theorem dX12_sum_292 : decode cX12_sum 292 = .ok (.getfield 49, 3) := by decide +kernel
theorem dX12_sum_295 : decode cX12_sum 295 = .ok (.iload 5, 2) := by decide +kernel
theorem dX12_sum_297 : decode cX12_sum 297 = .ok (.iaload, 1) := by decide +kernel
theorem dX12_sum_298 : decode cX12_sum 298 = .ok (.iload 6, 2) := by decide +kernel
theorem dX12_sum_300 : decode cX12_sum 300 = .ok (.iconst 3, 1) := by decide +kernel
theorem dX12_sum_301 : decode cX12_sum 301 = .ok (.if_icmp .ne 7, 3) := by decide +kernel
theorem dX12_sum_304 : decode cX12_sum 304 = .ok (.iconst 1, 1) := by decide +kernel
theorem dX12_sum_305 : decode cX12_sum 305 = .ok (.goto 4, 3) := by decide +kernel
theorem dX12_sum_308 : decode cX12_sum 308 = .ok (.iconst 0, 1) := by decide +kernel
theorem dX12_sum_309 : decode cX12_sum 309 = .ok (.iadd, 1) := by decide +kernel
theorem dX12_sum_310 : decode cX12_sum 310 = .ok (.iastore, 1) := by decide +kernel
theorem dX12_sum_311 : decode cX12_sum 311 = .ok (.aload_n 0, 1) := by decide +kernel
theorem dX12_sum_312 : decode cX12_sum 312 = .ok (.getfield 52, 3) := by decide +kernel
theorem dX12_sum_315 : decode cX12_sum 315 = .ok (.iload 5, 2) := by decide +kernel
theorem dX12_sum_317 : decode cX12_sum 317 = .ok (.iconst 1, 1) := by decide +kernel
theorem dX12_sum_318 : decode cX12_sum 318 = .ok (.iadd, 1) := by decide +kernel
theorem dX12_sum_319 : decode cX12_sum 319 = .ok (.iload 6, 2) := by decide +kernel
theorem dX12_sum_321 : decode cX12_sum 321 = .ok (.iconst 2, 1) := by decide +kernel
theorem dX12_sum_322 : decode cX12_sum 322 = .ok (.if_icmp .ne 15, 3) := by decide +kernel
theorem dX12_sum_325 : decode cX12_sum 325 = .ok (.aload_n 0, 1) := by decide +kernel
theorem dX12_sum_326 : decode cX12_sum 326 = .ok (.getfield 52, 3) := by decide +kernel
theorem dX12_sum_329 : decode cX12_sum 329 = .ok (.iload 5, 2) := by decide +kernel
theorem dX12_sum_331 : decode cX12_sum 331 = .ok (.iaload, 1) := by decide +kernel
theorem dX12_sum_332 : decode cX12_sum 332 = .ok (.iconst 1, 1) := by decide +kernel
theorem dX12_sum_333 : decode cX12_sum 333 = .ok (.iadd, 1) := by decide +kernel
theorem dX12_sum_334 : decode cX12_sum 334 = .ok (.goto 4, 3) := by decide +kernel
theorem dX12_sum_337 : decode cX12_sum 337 = .ok (.iconst 0, 1) := by decide +kernel
theorem dX12_sum_338 : decode cX12_sum 338 = .ok (.iastore, 1) := by decide +kernel
theorem dX12_sum_339 : decode cX12_sum 339 = .ok (.return_, 1) := by decide +kernel
theorem dX12_can_0 : decode cX12_can 0 = .ok (.aload_n 0, 1) := by decide +kernel
theorem dX12_can_1 : decode cX12_can 1 = .ok (.getfield 31, 3) := by decide +kernel
theorem dX12_can_4 : decode cX12_can 4 = .ok (.iload 5, 2) := by decide +kernel
theorem dX12_can_6 : decode cX12_can 6 = .ok (.iaload, 1) := by decide +kernel
theorem dX12_can_7 : decode cX12_can 7 = .ok (.istore 6, 2) := by decide +kernel
theorem dX12_can_9 : decode cX12_can 9 = .ok (.aload_n 0, 1) := by decide +kernel
theorem dX12_can_10 : decode cX12_can 10 = .ok (.getfield 7, 3) := by decide +kernel
theorem dX12_can_13 : decode cX12_can 13 = .ok (.bipush 10, 2) := by decide +kernel
theorem dX12_can_15 : decode cX12_can 15 = .ok (.iload_n 1, 1) := by decide +kernel
theorem dX12_can_16 : decode cX12_can 16 = .ok (.iadd, 1) := by decide +kernel
theorem dX12_can_17 : decode cX12_can 17 = .ok (.iaload, 1) := by decide +kernel
theorem dX12_can_18 : decode cX12_can 18 = .ok (.ifCond .le 19, 3) := by decide +kernel
theorem dX12_can_21 : decode cX12_can 21 = .ok (.iload 6, 2) := by decide +kernel
theorem dX12_can_23 : decode cX12_can 23 = .ok (.iconst 2, 1) := by decide +kernel
theorem dX12_can_24 : decode cX12_can 24 = .ok (.if_icmp .ne 11, 3) := by decide +kernel
theorem dX12_can_27 : decode cX12_can 27 = .ok (.iload_n 3, 1) := by decide +kernel
theorem dX12_can_28 : decode cX12_can 28 = .ok (.ifCond .lt 7, 3) := by decide +kernel
theorem dX12_can_31 : decode cX12_can 31 = .ok (.iconst 1, 1) := by decide +kernel
theorem dX12_can_32 : decode cX12_can 32 = .ok (.goto 4, 3) := by decide +kernel
theorem dX12_can_35 : decode cX12_can 35 = .ok (.iconst 0, 1) := by decide +kernel
theorem dX12_can_36 : decode cX12_can 36 = .ok (.ireturn, 1) := by decide +kernel
theorem dX12_can_37 : decode cX12_can 37 = .ok (.iload 6, 2) := by decide +kernel
theorem dX12_can_39 : decode cX12_can 39 = .ok (.ifCond .ne 19, 3) := by decide +kernel
theorem dX12_can_42 : decode cX12_can 42 = .ok (.iload_n 2, 1) := by decide +kernel
theorem dX12_can_43 : decode cX12_can 43 = .ok (.ifCond .lt 11, 3) := by decide +kernel
theorem dX12_can_46 : decode cX12_can 46 = .ok (.iload_n 3, 1) := by decide +kernel
theorem dX12_can_47 : decode cX12_can 47 = .ok (.ifCond .lt 7, 3) := by decide +kernel
theorem dX12_can_50 : decode cX12_can 50 = .ok (.iconst 1, 1) := by decide +kernel
theorem dX12_can_51 : decode cX12_can 51 = .ok (.goto 75, 3) := by decide +kernel
theorem dX12_can_54 : decode cX12_can 54 = .ok (.iconst 0, 1) := by decide +kernel
theorem dX12_can_55 : decode cX12_can 55 = .ok (.goto 71, 3) := by decide +kernel
theorem dX12_can_58 : decode cX12_can 58 = .ok (.iload 6, 2) := by decide +kernel
theorem dX12_can_60 : decode cX12_can 60 = .ok (.iconst 1, 1) := by decide +kernel
theorem dX12_can_61 : decode cX12_can 61 = .ok (.if_icmp .ne 20, 3) := by decide +kernel
theorem dX12_can_64 : decode cX12_can 64 = .ok (.iload_n 3, 1) := by decide +kernel
theorem dX12_can_65 : decode cX12_can 65 = .ok (.ifCond .lt 12, 3) := by decide +kernel
theorem dX12_can_68 : decode cX12_can 68 = .ok (.iload 4, 2) := by decide +kernel
theorem dX12_can_70 : decode cX12_can 70 = .ok (.ifCond .lt 7, 3) := by decide +kernel
theorem dX12_can_73 : decode cX12_can 73 = .ok (.iconst 1, 1) := by decide +kernel
theorem dX12_can_74 : decode cX12_can 74 = .ok (.goto 52, 3) := by decide +kernel
theorem dX12_can_77 : decode cX12_can 77 = .ok (.iconst 0, 1) := by decide +kernel
theorem dX12_can_78 : decode cX12_can 78 = .ok (.goto 48, 3) := by decide +kernel
theorem dX12_can_81 : decode cX12_can 81 = .ok (.iload 6, 2) := by decide +kernel
theorem dX12_can_83 : decode cX12_can 83 = .ok (.iconst 2, 1) := by decide +kernel
theorem dX12_can_84 : decode cX12_can 84 = .ok (.if_icmp .ne 26, 3) := by decide +kernel
theorem dX12_can_87 : decode cX12_can 87 = .ok (.iload_n 3, 1) := by decide +kernel
theorem dX12_can_88 : decode cX12_can 88 = .ok (.ifCond .lt 18, 3) := by decide +kernel
theorem dX12_can_91 : decode cX12_can 91 = .ok (.aload_n 0, 1) := by decide +kernel
theorem dX12_can_92 : decode cX12_can 92 = .ok (.getfield 52, 3) := by decide +kernel
theorem dX12_can_95 : decode cX12_can 95 = .ok (.iload 5, 2) := by decide +kernel
theorem dX12_can_97 : decode cX12_can 97 = .ok (.iaload, 1) := by decide +kernel
theorem dX12_can_98 : decode cX12_can 98 = .ok (.iconst 2, 1) := by decide +kernel
theorem dX12_can_99 : decode cX12_can 99 = .ok (.if_icmp .ge 7, 3) := by decide +kernel
theorem dX12_can_102 : decode cX12_can 102 = .ok (.iconst 1, 1) := by decide +kernel
theorem dX12_can_103 : decode cX12_can 103 = .ok (.goto 23, 3) := by decide +kernel
theorem dX12_can_106 : decode cX12_can 106 = .ok (.iconst 0, 1) := by decide +kernel
theorem dX12_can_107 : decode cX12_can 107 = .ok (.goto 19, 3) := by decide +kernel
theorem dX12_can_110 : decode cX12_can 110 = .ok (.aload_n 0, 1) := by decide +kernel
theorem dX12_can_111 : decode cX12_can 111 = .ok (.getfield 49, 3) := by decide +kernel
theorem dX12_can_114 : decode cX12_can 114 = .ok (.iload 5, 2) := by decide +kernel
theorem dX12_can_116 : decode cX12_can 116 = .ok (.iaload, 1) := by decide +kernel
theorem dX12_can_117 : decode cX12_can 117 = .ok (.iconst 4, 1) := by decide +kernel
theorem dX12_can_118 : decode cX12_can 118 = .ok (.if_icmp .ge 7, 3) := by decide +kernel
theorem dX12_can_121 : decode cX12_can 121 = .ok (.iconst 1, 1) := by decide +kernel
theorem dX12_can_122 : decode cX12_can 122 = .ok (.goto 4, 3) := by decide +kernel
theorem dX12_can_125 : decode cX12_can 125 = .ok (.iconst 0, 1) := by decide +kernel
theorem dX12_can_126 : decode cX12_can 126 = .ok (.ireturn, 1) := by decide +kernel
theorem dX12_lasts_0 : decode cX12_lasts 0 = .ok (.iload_n 1, 1) := by decide +kernel
theorem dX12_lasts_1 : decode cX12_lasts 1 = .ok (.ifCond .lt 16, 3) := by decide +kernel
theorem dX12_lasts_4 : decode cX12_lasts 4 = .ok (.iload_n 2, 1) := by decide +kernel
theorem dX12_lasts_5 : decode cX12_lasts 5 = .ok (.aload_n 0, 1) := by decide +kernel
theorem dX12_lasts_6 : decode cX12_lasts 6 = .ok (.getfield 7, 3) := by decide +kernel
theorem dX12_lasts_9 : decode cX12_lasts 9 = .ok (.bipush 63, 2) := by decide +kernel
theorem dX12_lasts_11 : decode cX12_lasts 11 = .ok (.iload_n 1, 1) := by decide +kernel
theorem dX12_lasts_12 : decode cX12_lasts 12 = .ok (.iadd, 1) := by decide +kernel
theorem dX12_lasts_13 : decode cX12_lasts 13 = .ok (.iaload, 1) := by decide +kernel
theorem dX12_lasts_14 : decode cX12_lasts 14 = .ok (.if_icmp .gt 7, 3) := by decide +kernel
theorem dX12_lasts_17 : decode cX12_lasts 17 = .ok (.iconst 1, 1) := by decide +kernel
theorem dX12_lasts_18 : decode cX12_lasts 18 = .ok (.goto 4, 3) := by decide +kernel
theorem dX12_lasts_21 : decode cX12_lasts 21 = .ok (.iconst 0, 1) := by decide +kernel
theorem dX12_lasts_22 : decode cX12_lasts 22 = .ok (.ireturn, 1) := by decide +kernel
set_option maxRecDepth 20000 in
theorem ggX12_finds_X12_can : GoodIn wsX12_finds wsX12_can := goodIn_r _ [14, 2, 15, 16, 17, 42, 43, 44, 45, 46, 47, 48, 49, 50, 51, 52, 53, 54, 55, 56, 57, 58, 59, 60, 61, 62, 63, 64, 65, 66, 67] (by decide +kernel) (by decide +kernel)
set_option maxRecDepth 20000 in
theorem gX12_finds_X12_can : GoodIn wsX12_finds (wsV RX12 167 RX12 yX12_can wsX12_can) := goodIn_app (goodIn_of _ (by decide +kernel)) ggX12_finds_X12_can
set_option maxRecDepth 20000 in
theorem ggX12_finds_X12_sum : GoodIn wsX12_finds wsX12_sum := goodIn_r _ [21, 2, 15, 7, 3, 4, 5, 6, 17, 16, 22, 23, 24, 13, 25, 26, 27, 28, 29, 30, 31, 32, 33, 34, 35, 36, 37, 42, 43, 44, 45, 46, 47, 48, 49, 50, 51, 52, 53, 54, 55, 56, 57, 58, 59, 60, 61, 62, 63, 64, 65, 66, 67] (by decide +kernel) (by decide +kernel)
set_option maxRecDepth 20000 in
theorem gX12_finds_X12_sum : GoodIn wsX12_finds (wsV RX12 171 RX12 yX12_sum wsX12_sum) := goodIn_app (goodIn_of _ (by decide +kernel)) ggX12_finds_X12_sum
set_option maxRecDepth 20000 in
theorem ggX12_finds_X12_lasts : GoodIn wsX12_finds wsX12_lasts := goodIn_r _ [41, 15, 42, 43, 44, 45, 46, 47, 48, 49, 50, 51, 52, 53, 54, 55, 56, 57, 58, 59, 60, 61, 62, 63, 64, 65, 66, 67] (by decide +kernel) (by decide +kernel)
set_option maxRecDepth 20000 in
theorem gX12_finds_X12_lasts : GoodIn wsX12_finds (wsV RX12 175 RX12 yX12_lasts wsX12_lasts) := goodIn_app (goodIn_of _ (by decide +kernel)) ggX12_finds_X12_lasts
theorem dX12_finds_0 : decode cX12_finds 0 = .ok (.aload_n 0, 1) := by decide +kernel
theorem dX12_finds_1 : decode cX12_finds 1 = .ok (.iconst (-1), 1) := by decide +kernel
theorem dX12_finds_2 : decode cX12_finds 2 = .ok (.putfield 164, 3) := by decide +kernel
theorem dX12_finds_5 : decode cX12_finds 5 = .ok (.iconst 0, 1) := by decide +kernel
theorem dX12_finds_6 : decode cX12_finds 6 = .ok (.istore 6, 2) := by decide +kernel
theorem dX12_finds_8 : decode cX12_finds 8 = .ok (.aload_n 0, 1) := by decide +kernel
theorem dX12_finds_9 : decode cX12_finds 9 = .ok (.getfield 31, 3) := by decide +kernel
theorem dX12_finds_12 : decode cX12_finds 12 = .ok (.iconst 0, 1) := by decide +kernel
theorem dX12_finds_13 : decode cX12_finds 13 = .ok (.iconst (-1), 1) := by decide +kernel
theorem dX12_finds_14 : decode cX12_finds 14 = .ok (.iastore, 1) := by decide +kernel
theorem dX12_finds_15 : decode cX12_finds 15 = .ok (.iload 6, 2) := by decide +kernel
theorem dX12_finds_17 : decode cX12_finds 17 = .ok (.ifCond .lt 283, 3) := by decide +kernel
theorem dX12_finds_20 : decode cX12_finds 20 = .ok (.aload_n 0, 1) := by decide +kernel
theorem dX12_finds_21 : decode cX12_finds 21 = .ok (.getfield 31, 3) := by decide +kernel
theorem dX12_finds_24 : decode cX12_finds 24 = .ok (.iload 6, 2) := by decide +kernel
theorem dX12_finds_26 : decode cX12_finds 26 = .ok (.dup2, 1) := by decide +kernel
theorem dX12_finds_27 : decode cX12_finds 27 = .ok (.iaload, 1) := by decide +kernel
theorem dX12_finds_28 : decode cX12_finds 28 = .ok (.iconst 1, 1) := by decide +kernel
theorem dX12_finds_29 : decode cX12_finds 29 = .ok (.iadd, 1) := by decide +kernel
theorem dX12_finds_30 : decode cX12_finds 30 = .ok (.iastore, 1) := by decide +kernel
theorem dX12_finds_31 : decode cX12_finds 31 = .ok (.aload_n 0, 1) := by decide +kernel
theorem dX12_finds_32 : decode cX12_finds 32 = .ok (.getfield 31, 3) := by decide +kernel
theorem dX12_finds_35 : decode cX12_finds 35 = .ok (.iload 6, 2) := by decide +kernel
theorem dX12_finds_37 : decode cX12_finds 37 = .ok (.iaload, 1) := by decide +kernel
theorem dX12_finds_38 : decode cX12_finds 38 = .ok (.iconst 3, 1) := by decide +kernel
theorem dX12_finds_39 : decode cX12_finds 39 = .ok (.if_icmp .le 9, 3) := by decide +kernel
theorem dX12_finds_42 : decode cX12_finds 42 = .ok (.iinc 6 (-1), 3) := by decide +kernel
theorem dX12_finds_45 : decode cX12_finds 45 = .ok (.goto (-30), 3) := by decide +kernel
theorem dX12_finds_48 : decode cX12_finds 48 = .ok (.aload_n 0, 1) := by decide +kernel
theorem dX12_finds_49 : decode cX12_finds 49 = .ok (.iload_n 1, 1) := by decide +kernel
theorem dX12_finds_50 : decode cX12_finds 50 = .ok (.iload_n 2, 1) := by decide +kernel
theorem dX12_finds_51 : decode cX12_finds 51 = .ok (.iload_n 3, 1) := by decide +kernel
theorem dX12_finds_52 : decode cX12_finds 52 = .ok (.iload 4, 2) := by decide +kernel
theorem dX12_finds_54 : decode cX12_finds 54 = .ok (.iload 6, 2) := by decide +kernel
theorem dX12_finds_56 : decode cX12_finds 56 = .ok (.invokevirtual 167, 3) := by decide +kernel
theorem dX12_finds_59 : decode cX12_finds 59 = .ok (.ifCond .ne 6, 3) := by decide +kernel
theorem dX12_finds_62 : decode cX12_finds 62 = .ok (.goto (-47), 3) := by decide +kernel
theorem dX12_finds_65 : decode cX12_finds 65 = .ok (.aload_n 0, 1) := by decide +kernel
theorem dX12_finds_66 : decode cX12_finds 66 = .ok (.iload_n 1, 1) := by decide +kernel
theorem dX12_finds_67 : decode cX12_finds 67 = .ok (.iload_n 2, 1) := by decide +kernel
theorem dX12_finds_68 : decode cX12_finds 68 = .ok (.iload_n 3, 1) := by decide +kernel
theorem dX12_finds_69 : decode cX12_finds 69 = .ok (.iload 4, 2) := by decide +kernel
theorem dX12_finds_71 : decode cX12_finds 71 = .ok (.iload 6, 2) := by decide +kernel
theorem dX12_finds_73 : decode cX12_finds 73 = .ok (.invokevirtual 171, 3) := by decide +kernel
theorem dX12_finds_76 : decode cX12_finds 76 = .ok (.aload_n 0, 1) := by decide +kernel
theorem dX12_finds_77 : decode cX12_finds 77 = .ok (.getfield 37, 3) := by decide +kernel
theorem dX12_finds_80 : decode cX12_finds 80 = .ok (.iload 6, 2) := by decide +kernel
theorem dX12_finds_82 : decode cX12_finds 82 = .ok (.iconst 1, 1) := by decide +kernel
theorem dX12_finds_83 : decode cX12_finds 83 = .ok (.iadd, 1) := by decide +kernel
theorem dX12_finds_84 : decode cX12_finds 84 = .ok (.iaload, 1) := by decide +kernel
theorem dX12_finds_85 : decode cX12_finds 85 = .ok (.iload 5, 2) := by decide +kernel
theorem dX12_finds_87 : decode cX12_finds 87 = .ok (.if_icmp .gt 59, 3) := by decide +kernel
theorem dX12_finds_90 : decode cX12_finds 90 = .ok (.aload_n 0, 1) := by decide +kernel
theorem dX12_finds_91 : decode cX12_finds 91 = .ok (.iload_n 2, 1) := by decide +kernel
theorem dX12_finds_92 : decode cX12_finds 92 = .ok (.aload_n 0, 1) := by decide +kernel
theorem dX12_finds_93 : decode cX12_finds 93 = .ok (.getfield 40, 3) := by decide +kernel
theorem dX12_finds_96 : decode cX12_finds 96 = .ok (.iload 6, 2) := by decide +kernel
theorem dX12_finds_98 : decode cX12_finds 98 = .ok (.iconst 1, 1) := by decide +kernel
theorem dX12_finds_99 : decode cX12_finds 99 = .ok (.iadd, 1) := by decide +kernel
theorem dX12_finds_100 : decode cX12_finds 100 = .ok (.iaload, 1) := by decide +kernel
theorem dX12_finds_101 : decode cX12_finds 101 = .ok (.invokevirtual 175, 3) := by decide +kernel
theorem dX12_finds_104 : decode cX12_finds 104 = .ok (.ifCond .eq 42, 3) := by decide +kernel
theorem dX12_finds_107 : decode cX12_finds 107 = .ok (.aload_n 0, 1) := by decide +kernel
theorem dX12_finds_108 : decode cX12_finds 108 = .ok (.iload_n 3, 1) := by decide +kernel
theorem dX12_finds_109 : decode cX12_finds 109 = .ok (.aload_n 0, 1) := by decide +kernel
theorem dX12_finds_110 : decode cX12_finds 110 = .ok (.getfield 43, 3) := by decide +kernel
theorem dX12_finds_113 : decode cX12_finds 113 = .ok (.iload 6, 2) := by decide +kernel
theorem dX12_finds_115 : decode cX12_finds 115 = .ok (.iconst 1, 1) := by decide +kernel
theorem dX12_finds_116 : decode cX12_finds 116 = .ok (.iadd, 1) := by decide +kernel
theorem dX12_finds_117 : decode cX12_finds 117 = .ok (.iaload, 1) := by decide +kernel
theorem dX12_finds_118 : decode cX12_finds 118 = .ok (.invokevirtual 175, 3) := by decide +kernel
theorem dX12_finds_121 : decode cX12_finds 121 = .ok (.ifCond .eq 25, 3) := by decide +kernel
theorem dX12_finds_124 : decode cX12_finds 124 = .ok (.aload_n 0, 1) := by decide +kernel
theorem dX12_finds_125 : decode cX12_finds 125 = .ok (.iload 4, 2) := by decide +kernel
theorem dX12_finds_127 : decode cX12_finds 127 = .ok (.aload_n 0, 1) := by decide +kernel
theorem dX12_finds_128 : decode cX12_finds 128 = .ok (.getfield 46, 3) := by decide +kernel
theorem dX12_finds_131 : decode cX12_finds 131 = .ok (.iload 6, 2) := by decide +kernel
theorem dX12_finds_133 : decode cX12_finds 133 = .ok (.iconst 1, 1) := by decide +kernel
theorem dX12_finds_134 : decode cX12_finds 134 = .ok (.iadd, 1) := by decide +kernel
theorem dX12_finds_135 : decode cX12_finds 135 = .ok (.iaload, 1) := by decide +kernel
theorem dX12_finds_136 : decode cX12_finds 136 = .ok (.invokevirtual 175, 3) := by decide +kernel
theorem dX12_finds_139 : decode cX12_finds 139 = .ok (.ifCond .eq 7, 3) := by decide +kernel
theorem dX12_finds_142 : decode cX12_finds 142 = .ok (.iconst 1, 1) := by decide +kernel
theorem dX12_finds_143 : decode cX12_finds 143 = .ok (.goto 4, 3) := by decide +kernel
theorem dX12_finds_146 : decode cX12_finds 146 = .ok (.iconst 0, 1) := by decide +kernel
theorem dX12_finds_147 : decode cX12_finds 147 = .ok (.istore 7, 2) := by decide +kernel
theorem dX12_finds_149 : decode cX12_finds 149 = .ok (.aload_n 0, 1) := by decide +kernel
theorem dX12_finds_150 : decode cX12_finds 150 = .ok (.getfield 164, 3) := by decide +kernel
theorem dX12_finds_153 : decode cX12_finds 153 = .ok (.ifCond .lt 51, 3) := by decide +kernel
theorem dX12_finds_156 : decode cX12_finds 156 = .ok (.aload_n 0, 1) := by decide +kernel
theorem dX12_finds_157 : decode cX12_finds 157 = .ok (.getfield 34, 3) := by decide +kernel
theorem dX12_finds_160 : decode cX12_finds 160 = .ok (.iload 6, 2) := by decide +kernel
theorem dX12_finds_162 : decode cX12_finds 162 = .ok (.iconst 1, 1) := by decide +kernel
theorem dX12_finds_163 : decode cX12_finds 163 = .ok (.iadd, 1) := by decide +kernel
theorem dX12_finds_164 : decode cX12_finds 164 = .ok (.iaload, 1) := by decide +kernel
theorem dX12_finds_165 : decode cX12_finds 165 = .ok (.aload_n 0, 1) := by decide +kernel
theorem dX12_finds_166 : decode cX12_finds 166 = .ok (.getfield 164, 3) := by decide +kernel
theorem dX12_finds_169 : decode cX12_finds 169 = .ok (.if_icmp .lt 35, 3) := by decide +kernel
theorem dX12_finds_172 : decode cX12_finds 172 = .ok (.aload_n 0, 1) := by decide +kernel
theorem dX12_finds_173 : decode cX12_finds 173 = .ok (.getfield 34, 3) := by decide +kernel
theorem dX12_finds_176 : decode cX12_finds 176 = .ok (.iload 6, 2) := by decide +kernel
theorem dX12_finds_178 : decode cX12_finds 178 = .ok (.iconst 1, 1) := by decide +kernel
theorem dX12_finds_179 : decode cX12_finds 179 = .ok (.iadd, 1) := by decide +kernel
theorem dX12_finds_180 : decode cX12_finds 180 = .ok (.iaload, 1) := by decide +kernel
theorem dX12_finds_181 : decode cX12_finds 181 = .ok (.aload_n 0, 1) := by decide +kernel
theorem dX12_finds_182 : decode cX12_finds 182 = .ok (.getfield 164, 3) := by decide +kernel
theorem dX12_finds_185 : decode cX12_finds 185 = .ok (.if_icmp .ne 23, 3) := by decide +kernel
theorem dX12_finds_188 : decode cX12_finds 188 = .ok (.aload_n 0, 1) := by decide +kernel
theorem dX12_finds_189 : decode cX12_finds 189 = .ok (.getfield 37, 3) := by decide +kernel
theorem dX12_finds_192 : decode cX12_finds 192 = .ok (.iload 6, 2) := by decide +kernel
theorem dX12_finds_194 : decode cX12_finds 194 = .ok (.iconst 1, 1) := by decide +kernel
theorem dX12_finds_195 : decode cX12_finds 195 = .ok (.iadd, 1) := by decide +kernel
theorem dX12_finds_196 : decode cX12_finds 196 = .ok (.iaload, 1) := by decide +kernel
theorem dX12_finds_197 : decode cX12_finds 197 = .ok (.aload_n 0, 1) := by decide +kernel
theorem dX12_finds_198 : decode cX12_finds 198 = .ok (.getfield 178, 3) := by decide +kernel
theorem dX12_finds_201 : decode cX12_finds 201 = .ok (.if_icmp .ge 7, 3) := by decide +kernel
theorem dX12_finds_204 : decode cX12_finds 204 = .ok (.iconst 1, 1) := by decide +kernel
theorem dX12_finds_205 : decode cX12_finds 205 = .ok (.goto 4, 3) := by decide +kernel
theorem dX12_finds_208 : decode cX12_finds 208 = .ok (.iconst 0, 1) := by decide +kernel
theorem dX12_finds_209 : decode cX12_finds 209 = .ok (.istore 8, 2) := by decide +kernel
theorem dX12_finds_211 : decode cX12_finds 211 = .ok (.iload 7, 2) := by decide +kernel
theorem dX12_finds_213 : decode cX12_finds 213 = .ok (.ifCond .eq (-198), 3) := by decide +kernel
theorem dX12_finds_216 : decode cX12_finds 216 = .ok (.iload 8, 2) := by decide +kernel
theorem dX12_finds_218 : decode cX12_finds 218 = .ok (.ifCond .ne 6, 3) := by decide +kernel
theorem dX12_finds_221 : decode cX12_finds 221 = .ok (.goto (-206), 3) := by decide +kernel
theorem dX12_finds_224 : decode cX12_finds 224 = .ok (.iload 6, 2) := by decide +kernel
theorem dX12_finds_226 : decode cX12_finds 226 = .ok (.bipush 8, 2) := by decide +kernel
theorem dX12_finds_228 : decode cX12_finds 228 = .ok (.if_icmp .ge 17, 3) := by decide +kernel
theorem dX12_finds_231 : decode cX12_finds 231 = .ok (.iinc 6 1, 3) := by decide +kernel
theorem dX12_finds_234 : decode cX12_finds 234 = .ok (.aload_n 0, 1) := by decide +kernel
theorem dX12_finds_235 : decode cX12_finds 235 = .ok (.getfield 31, 3) := by decide +kernel
theorem dX12_finds_238 : decode cX12_finds 238 = .ok (.iload 6, 2) := by decide +kernel
theorem dX12_finds_240 : decode cX12_finds 240 = .ok (.iconst (-1), 1) := by decide +kernel
theorem dX12_finds_241 : decode cX12_finds 241 = .ok (.iastore, 1) := by decide +kernel
theorem dX12_finds_242 : decode cX12_finds 242 = .ok (.goto (-227), 3) := by decide +kernel
theorem dX12_finds_245 : decode cX12_finds 245 = .ok (.aload_n 0, 1) := by decide +kernel
theorem dX12_finds_246 : decode cX12_finds 246 = .ok (.aload_n 0, 1) := by decide +kernel
theorem dX12_finds_247 : decode cX12_finds 247 = .ok (.getfield 34, 3) := by decide +kernel
theorem dX12_finds_250 : decode cX12_finds 250 = .ok (.bipush 9, 2) := by decide +kernel
theorem dX12_finds_252 : decode cX12_finds 252 = .ok (.iaload, 1) := by decide +kernel
theorem dX12_finds_253 : decode cX12_finds 253 = .ok (.putfield 164, 3) := by decide +kernel
theorem dX12_finds_256 : decode cX12_finds 256 = .ok (.aload_n 0, 1) := by decide +kernel
theorem dX12_finds_257 : decode cX12_finds 257 = .ok (.aload_n 0, 1) := by decide +kernel
theorem dX12_finds_258 : decode cX12_finds 258 = .ok (.getfield 37, 3) := by decide +kernel
theorem dX12_finds_261 : decode cX12_finds 261 = .ok (.bipush 9, 2) := by decide +kernel
theorem dX12_finds_263 : decode cX12_finds 263 = .ok (.iaload, 1) := by decide +kernel
theorem dX12_finds_264 : decode cX12_finds 264 = .ok (.putfield 178, 3) := by decide +kernel
theorem dX12_finds_267 : decode cX12_finds 267 = .ok (.iconst 0, 1) := by decide +kernel
theorem dX12_finds_268 : decode cX12_finds 268 = .ok (.istore 9, 2) := by decide +kernel
theorem dX12_finds_270 : decode cX12_finds 270 = .ok (.iload 9, 2) := by decide +kernel
theorem dX12_finds_272 : decode cX12_finds 272 = .ok (.bipush 9, 2) := by decide +kernel
theorem dX12_finds_274 : decode cX12_finds 274 = .ok (.if_icmp .ge 23, 3) := by decide +kernel
theorem dX12_finds_277 : decode cX12_finds 277 = .ok (.aload_n 0, 1) := by decide +kernel
theorem dX12_finds_278 : decode cX12_finds 278 = .ok (.getfield 55, 3) := by decide +kernel
theorem dX12_finds_281 : decode cX12_finds 281 = .ok (.iload 9, 2) := by decide +kernel
theorem dX12_finds_283 : decode cX12_finds 283 = .ok (.aload_n 0, 1) := by decide +kernel
theorem dX12_finds_284 : decode cX12_finds 284 = .ok (.getfield 31, 3) := by decide +kernel
theorem dX12_finds_287 : decode cX12_finds 287 = .ok (.iload 9, 2) := by decide +kernel
theorem dX12_finds_289 : decode cX12_finds 289 = .ok (.iaload, 1) := by decide +kernel
theorem dX12_finds_290 : decode cX12_finds 290 = .ok (.iastore, 1) := by decide +kernel
theorem dX12_finds_291 : decode cX12_finds 291 = .ok (.iinc 9 1, 3) := by decide +kernel
theorem dX12_finds_294 : decode cX12_finds 294 = .ok (.goto (-24), 3) := by decide +kernel
theorem dX12_finds_297 : decode cX12_finds 297 = .ok (.goto (-282), 3) := by decide +kernel
theorem dX12_finds_300 : decode cX12_finds 300 = .ok (.aload_n 0, 1) := by decide +kernel
theorem dX12_finds_301 : decode cX12_finds 301 = .ok (.getfield 164, 3) := by decide +kernel
theorem dX12_finds_304 : decode cX12_finds 304 = .ok (.ifCond .lt 7, 3) := by decide +kernel
theorem dX12_finds_307 : decode cX12_finds 307 = .ok (.iconst 1, 1) := by decide +kernel
theorem dX12_finds_308 : decode cX12_finds 308 = .ok (.goto 4, 3) := by decide +kernel
theorem dX12_finds_311 : decode cX12_finds 311 = .ok (.iconst 0, 1) := by decide +kernel
theorem dX12_finds_312 : decode cX12_finds 312 = .ok (.ireturn, 1) := by decide +kernel
set_option maxRecDepth 20000 in
theorem ggX12_cheapest_X12_isTrio : GoodIn wsX12_cheapest wsX12_isTrio := goodIn_r _ [11, 12, 13, 14, 15, 10, 16, 17, 18, 19, 20, 21, 22, 23, 24, 25, 26, 27, 28, 29, 30, 31, 72, 73, 74, 75, 76, 77, 78, 79, 80, 81, 82, 83, 84, 85, 86, 87, 88, 89, 90, 91, 92, 93, 94, 95, 96, 97] (by decide +kernel) (by decide +kernel)
set_option maxRecDepth 20000 in
theorem gX12_cheapest_X12_isTrio : GoodIn wsX12_cheapest (wsV RX12 181 RX12 yX12_isTrio wsX12_isTrio) := goodIn_app (goodIn_of _ (by decide +kernel)) ggX12_cheapest_X12_isTrio
set_option maxRecDepth 20000 in
theorem ggX12_cheapest_X12_in : GoodIn wsX12_cheapest wsX12_in := goodIn_r _ [19] (by decide +kernel) (by decide +kernel)
set_option maxRecDepth 20000 in
theorem gX12_cheapest_X12_in : GoodIn wsX12_cheapest (va_wsS RX12 67 yX12_in wsX12_in) := goodIn_app (goodIn_of _ (by decide +kernel)) ggX12_cheapest_X12_in
set_option maxRecDepth 20000 in
theorem ggX12_cheapest_X12_finds : GoodIn wsX12_cheapest wsX12_finds := goodIn_r _ [35, 4, 36, 37, 38, 39, 40, 41, 5, 6, 42, 43, 44, 10, 45, 12, 46, 47, 48, 49, 50, 51, 52, 53, 54, 55, 56, 57, 58, 59, 60, 61, 62, 63, 64, 65, 66, 67, 68, 69, 70, 71, 72, 73, 74, 75, 76, 77, 78, 79, 80, 81, 82, 83, 84, 85, 86, 87, 88, 89, 90, 91, 92, 93, 94, 95, 96, 97] (by decide +kernel) (by decide +kernel)
set_option maxRecDepth 20000 in
theorem gX12_cheapest_X12_finds : GoodIn wsX12_cheapest (wsV RX12 189 RX12 yX12_finds wsX12_finds) := goodIn_app (goodIn_of _ (by decide +kernel)) ggX12_cheapest_X12_finds
theorem dX12_cheapest_0 : decode cX12_cheapest 0 = .ok (.aload_n 0, 1) := by decide +kernel
theorem dX12_cheapest_1 : decode cX12_cheapest 1 = .ok (.iload_n 1, 1) := by decide +kernel
theorem dX12_cheapest_2 : decode cX12_cheapest 2 = .ok (.iload_n 2, 1) := by decide +kernel
theorem dX12_cheapest_3 : decode cX12_cheapest 3 = .ok (.iload_n 3, 1) := by decide +kernel
theorem dX12_cheapest_4 : decode cX12_cheapest 4 = .ok (.iload 4, 2) := by decide +kernel
theorem dX12_cheapest_6 : decode cX12_cheapest 6 = .ok (.invokevirtual 181, 3) := by decide +kernel
theorem dX12_cheapest_9 : decode cX12_cheapest 9 = .ok (.ifCond .eq 31, 3) := by decide +kernel
theorem dX12_cheapest_12 : decode cX12_cheapest 12 = .ok (.iload 5, 2) := by decide +kernel
theorem dX12_cheapest_14 : decode cX12_cheapest 14 = .ok (.i2l, 1) := by decide +kernel
theorem dX12_cheapest_15 : decode cX12_cheapest 15 = .ok (.lconst 1, 1) := by decide +kernel
theorem dX12_cheapest_16 : decode cX12_cheapest 16 = .ok (.ldc2_w 185, 3) := by decide +kernel
theorem dX12_cheapest_19 : decode cX12_cheapest 19 = .ok (.invokestatic 67, 3) := by decide +kernel
theorem dX12_cheapest_22 : decode cX12_cheapest 22 = .ok (.ifCond .eq 18, 3) := by decide +kernel
theorem dX12_cheapest_25 : decode cX12_cheapest 25 = .ok (.iload 6, 2) := by decide +kernel
theorem dX12_cheapest_27 : decode cX12_cheapest 27 = .ok (.i2l, 1) := by decide +kernel
theorem dX12_cheapest_28 : decode cX12_cheapest 28 = .ok (.ldc2_w 187, 3) := by decide +kernel
theorem dX12_cheapest_31 : decode cX12_cheapest 31 = .ok (.ldc2_w 95, 3) := by decide +kernel
theorem dX12_cheapest_34 : decode cX12_cheapest 34 = .ok (.invokestatic 67, 3) := by decide +kernel
theorem dX12_cheapest_37 : decode cX12_cheapest 37 = .ok (.ifCond .ne 5, 3) := by decide +kernel
theorem dX12_cheapest_40 : decode cX12_cheapest 40 = .ok (.iconst (-1), 1) := by decide +kernel
theorem dX12_cheapest_41 : decode cX12_cheapest 41 = .ok (.ireturn, 1) := by decide +kernel
theorem dX12_cheapest_42 : decode cX12_cheapest 42 = .ok (.aload_n 0, 1) := by decide +kernel
theorem dX12_cheapest_43 : decode cX12_cheapest 43 = .ok (.iload_n 1, 1) := by decide +kernel
theorem dX12_cheapest_44 : decode cX12_cheapest 44 = .ok (.iload_n 2, 1) := by decide +kernel
theorem dX12_cheapest_45 : decode cX12_cheapest 45 = .ok (.iload_n 3, 1) := by decide +kernel
theorem dX12_cheapest_46 : decode cX12_cheapest 46 = .ok (.iload 4, 2) := by decide +kernel
theorem dX12_cheapest_48 : decode cX12_cheapest 48 = .ok (.iload 5, 2) := by decide +kernel
theorem dX12_cheapest_50 : decode cX12_cheapest 50 = .ok (.invokevirtual 189, 3) := by decide +kernel
theorem dX12_cheapest_53 : decode cX12_cheapest 53 = .ok (.ifCond .ne 6, 3) := by decide +kernel
theorem dX12_cheapest_56 : decode cX12_cheapest 56 = .ok (.bipush (-4), 2) := by decide +kernel
theorem dX12_cheapest_58 : decode cX12_cheapest 58 = .ok (.ireturn, 1) := by decide +kernel
theorem dX12_cheapest_59 : decode cX12_cheapest 59 = .ok (.iload 6, 2) := by decide +kernel
theorem dX12_cheapest_61 : decode cX12_cheapest 61 = .ok (.iconst (-1), 1) := by decide +kernel
theorem dX12_cheapest_62 : decode cX12_cheapest 62 = .ok (.if_icmp .ne 10, 3) := by decide +kernel
theorem dX12_cheapest_65 : decode cX12_cheapest 65 = .ok (.aload_n 0, 1) := by decide +kernel
theorem dX12_cheapest_66 : decode cX12_cheapest 66 = .ok (.getfield 164, 3) := by decide +kernel
theorem dX12_cheapest_69 : decode cX12_cheapest 69 = .ok (.goto 24, 3) := by decide +kernel
theorem dX12_cheapest_72 : decode cX12_cheapest 72 = .ok (.iload 6, 2) := by decide +kernel
theorem dX12_cheapest_74 : decode cX12_cheapest 74 = .ok (.bipush (-2), 2) := by decide +kernel
theorem dX12_cheapest_76 : decode cX12_cheapest 76 = .ok (.if_icmp .ne 10, 3) := by decide +kernel
theorem dX12_cheapest_79 : decode cX12_cheapest 79 = .ok (.aload_n 0, 1) := by decide +kernel
theorem dX12_cheapest_80 : decode cX12_cheapest 80 = .ok (.getfield 178, 3) := by decide +kernel
theorem dX12_cheapest_83 : decode cX12_cheapest 83 = .ok (.goto 10, 3) := by decide +kernel
theorem dX12_cheapest_86 : decode cX12_cheapest 86 = .ok (.aload_n 0, 1) := by decide +kernel
theorem dX12_cheapest_87 : decode cX12_cheapest 87 = .ok (.getfield 55, 3) := by decide +kernel
theorem dX12_cheapest_90 : decode cX12_cheapest 90 = .ok (.iload 6, 2) := by decide +kernel
theorem dX12_cheapest_92 : decode cX12_cheapest 92 = .ok (.iaload, 1) := by decide +kernel
theorem dX12_cheapest_93 : decode cX12_cheapest 93 = .ok (.ireturn, 1) := by decide +kernel
set_option maxRecDepth 20000 in
theorem ggX12_go_X12_isTrio : GoodIn wsX12_go wsX12_isTrio := goodIn_r _ [9, 3, 10, 11, 12, 8, 13, 14, 15, 16, 17, 18, 19, 20, 21, 22, 23, 24, 25, 26, 27, 28, 70, 71, 72, 73, 74, 75, 76, 77, 78, 79, 80, 81, 82, 83, 84, 85, 86, 87, 88, 89, 90, 91, 92, 93, 94, 95] (by decide +kernel) (by decide +kernel)
set_option maxRecDepth 20000 in
theorem gX12_go_X12_isTrio : GoodIn wsX12_go (wsV RX12 181 RX12 yX12_isTrio wsX12_isTrio) := goodIn_app (goodIn_of _ (by decide +kernel)) ggX12_go_X12_isTrio
set_option maxRecDepth 20000 in
theorem ggX12_go_X12_in : GoodIn wsX12_go wsX12_in := goodIn_r _ [16] (by decide +kernel) (by decide +kernel)
set_option maxRecDepth 20000 in
theorem gX12_go_X12_in : GoodIn wsX12_go (va_wsS RX12 67 yX12_in wsX12_in) := goodIn_app (goodIn_of _ (by decide +kernel)) ggX12_go_X12_in
set_option maxRecDepth 20000 in
theorem ggX12_go_X12_finds : GoodIn wsX12_go wsX12_finds := goodIn_r _ [32, 2, 33, 34, 35, 36, 37, 38, 39, 4, 40, 41, 42, 8, 43, 3, 44, 45, 46, 47, 48, 49, 50, 51, 52, 53, 54, 55, 56, 57, 58, 59, 60, 61, 62, 63, 64, 65, 66, 67, 68, 69, 70, 71, 72, 73, 74, 75, 76, 77, 78, 79, 80, 81, 82, 83, 84, 85, 86, 87, 88, 89, 90, 91, 92, 93, 94, 95] (by decide +kernel) (by decide +kernel)
set_option maxRecDepth 20000 in
theorem gX12_go_X12_finds : GoodIn wsX12_go (wsV RX12 189 RX12 yX12_finds wsX12_finds) := goodIn_app (goodIn_of _ (by decide +kernel)) ggX12_go_X12_finds
set_option maxRecDepth 20000 in
theorem ggX12_go_X12_wear : GoodIn wsX12_go wsX12_wear := goodIn_r _ [65, 3, 70, 71, 72, 73, 74, 75, 76, 77, 78, 79, 80, 81, 82, 83, 84, 85, 86, 87, 88, 89, 90, 91, 92, 93, 94, 95] (by decide +kernel) (by decide +kernel)
set_option maxRecDepth 20000 in
theorem gX12_go_X12_wear : GoodIn wsX12_go (wsV RX12 161 RX12 yX12_wear wsX12_wear) := goodIn_app (goodIn_of _ (by decide +kernel)) ggX12_go_X12_wear
theorem dX12_go_0 : decode cX12_go 0 = .ok (.aload_n 0, 1) := by decide +kernel
theorem dX12_go_1 : decode cX12_go 1 = .ok (.iload_n 1, 1) := by decide +kernel
theorem dX12_go_2 : decode cX12_go 2 = .ok (.iload_n 2, 1) := by decide +kernel
theorem dX12_go_3 : decode cX12_go 3 = .ok (.iload_n 3, 1) := by decide +kernel
theorem dX12_go_4 : decode cX12_go 4 = .ok (.iload 4, 2) := by decide +kernel
theorem dX12_go_6 : decode cX12_go 6 = .ok (.invokevirtual 181, 3) := by decide +kernel
theorem dX12_go_9 : decode cX12_go 9 = .ok (.ifCond .eq 16, 3) := by decide +kernel
theorem dX12_go_12 : decode cX12_go 12 = .ok (.iload 5, 2) := by decide +kernel
theorem dX12_go_14 : decode cX12_go 14 = .ok (.i2l, 1) := by decide +kernel
theorem dX12_go_15 : decode cX12_go 15 = .ok (.lconst 1, 1) := by decide +kernel
theorem dX12_go_16 : decode cX12_go 16 = .ok (.ldc2_w 185, 3) := by decide +kernel
theorem dX12_go_19 : decode cX12_go 19 = .ok (.invokestatic 67, 3) := by decide +kernel
theorem dX12_go_22 : decode cX12_go 22 = .ok (.ifCond .ne 5, 3) := by decide +kernel
theorem dX12_go_25 : decode cX12_go 25 = .ok (.iconst (-1), 1) := by decide +kernel
theorem dX12_go_26 : decode cX12_go 26 = .ok (.ireturn, 1) := by decide +kernel
theorem dX12_go_27 : decode cX12_go 27 = .ok (.aload_n 0, 1) := by decide +kernel
theorem dX12_go_28 : decode cX12_go 28 = .ok (.iload_n 1, 1) := by decide +kernel
theorem dX12_go_29 : decode cX12_go 29 = .ok (.iload_n 2, 1) := by decide +kernel
theorem dX12_go_30 : decode cX12_go 30 = .ok (.iload_n 3, 1) := by decide +kernel
theorem dX12_go_31 : decode cX12_go 31 = .ok (.iload 4, 2) := by decide +kernel
theorem dX12_go_33 : decode cX12_go 33 = .ok (.iload 5, 2) := by decide +kernel
theorem dX12_go_35 : decode cX12_go 35 = .ok (.invokevirtual 189, 3) := by decide +kernel
theorem dX12_go_38 : decode cX12_go 38 = .ok (.ifCond .ne 6, 3) := by decide +kernel
theorem dX12_go_41 : decode cX12_go 41 = .ok (.bipush (-4), 2) := by decide +kernel
theorem dX12_go_43 : decode cX12_go 43 = .ok (.ireturn, 1) := by decide +kernel
theorem dX12_go_44 : decode cX12_go 44 = .ok (.aload_n 0, 1) := by decide +kernel
theorem dX12_go_45 : decode cX12_go 45 = .ok (.getfield 164, 3) := by decide +kernel
theorem dX12_go_48 : decode cX12_go 48 = .ok (.bipush 16, 2) := by decide +kernel
theorem dX12_go_50 : decode cX12_go 50 = .ok (.idiv, 1) := by decide +kernel
theorem dX12_go_51 : decode cX12_go 51 = .ok (.istore 6, 2) := by decide +kernel
theorem dX12_go_53 : decode cX12_go 53 = .ok (.iload 6, 2) := by decide +kernel
theorem dX12_go_55 : decode cX12_go 55 = .ok (.aload_n 0, 1) := by decide +kernel
theorem dX12_go_56 : decode cX12_go 56 = .ok (.getfield 7, 3) := by decide +kernel
theorem dX12_go_59 : decode cX12_go 59 = .ok (.iconst 5, 1) := by decide +kernel
theorem dX12_go_60 : decode cX12_go 60 = .ok (.iload_n 1, 1) := by decide +kernel
theorem dX12_go_61 : decode cX12_go 61 = .ok (.iadd, 1) := by decide +kernel
theorem dX12_go_62 : decode cX12_go 62 = .ok (.iaload, 1) := by decide +kernel
theorem dX12_go_63 : decode cX12_go 63 = .ok (.if_icmp .le 6, 3) := by decide +kernel
theorem dX12_go_66 : decode cX12_go 66 = .ok (.bipush (-2), 2) := by decide +kernel
theorem dX12_go_68 : decode cX12_go 68 = .ok (.ireturn, 1) := by decide +kernel
theorem dX12_go_69 : decode cX12_go 69 = .ok (.aload_n 0, 1) := by decide +kernel
theorem dX12_go_70 : decode cX12_go 70 = .ok (.getfield 7, 3) := by decide +kernel
theorem dX12_go_73 : decode cX12_go 73 = .ok (.iconst 5, 1) := by decide +kernel
theorem dX12_go_74 : decode cX12_go 74 = .ok (.iload_n 1, 1) := by decide +kernel
theorem dX12_go_75 : decode cX12_go 75 = .ok (.iadd, 1) := by decide +kernel
theorem dX12_go_76 : decode cX12_go 76 = .ok (.dup2, 1) := by decide +kernel
theorem dX12_go_77 : decode cX12_go 77 = .ok (.iaload, 1) := by decide +kernel
theorem dX12_go_78 : decode cX12_go 78 = .ok (.iload 6, 2) := by decide +kernel
theorem dX12_go_80 : decode cX12_go 80 = .ok (.isub, 1) := by decide +kernel
theorem dX12_go_81 : decode cX12_go 81 = .ok (.iastore, 1) := by decide +kernel
theorem dX12_go_82 : decode cX12_go 82 = .ok (.iconst 0, 1) := by decide +kernel
theorem dX12_go_83 : decode cX12_go 83 = .ok (.istore 7, 2) := by decide +kernel
theorem dX12_go_85 : decode cX12_go 85 = .ok (.iload 7, 2) := by decide +kernel
theorem dX12_go_87 : decode cX12_go 87 = .ok (.bipush 9, 2) := by decide +kernel
theorem dX12_go_89 : decode cX12_go 89 = .ok (.if_icmp .ge 104, 3) := by decide +kernel
theorem dX12_go_92 : decode cX12_go 92 = .ok (.aload_n 0, 1) := by decide +kernel
theorem dX12_go_93 : decode cX12_go 93 = .ok (.getfield 55, 3) := by decide +kernel
theorem dX12_go_96 : decode cX12_go 96 = .ok (.iload 7, 2) := by decide +kernel
theorem dX12_go_98 : decode cX12_go 98 = .ok (.iaload, 1) := by decide +kernel
theorem dX12_go_99 : decode cX12_go 99 = .ok (.istore 8, 2) := by decide +kernel
theorem dX12_go_101 : decode cX12_go 101 = .ok (.iload 8, 2) := by decide +kernel
theorem dX12_go_103 : decode cX12_go 103 = .ok (.ifCond .ne 20, 3) := by decide +kernel
theorem dX12_go_106 : decode cX12_go 106 = .ok (.aload_n 0, 1) := by decide +kernel
theorem dX12_go_107 : decode cX12_go 107 = .ok (.getfield 7, 3) := by decide +kernel
theorem dX12_go_110 : decode cX12_go 110 = .ok (.bipush 63, 2) := by decide +kernel
theorem dX12_go_112 : decode cX12_go 112 = .ok (.iload_n 2, 1) := by decide +kernel
theorem dX12_go_113 : decode cX12_go 113 = .ok (.iadd, 1) := by decide +kernel
theorem dX12_go_114 : decode cX12_go 114 = .ok (.dup2, 1) := by decide +kernel
theorem dX12_go_115 : decode cX12_go 115 = .ok (.iaload, 1) := by decide +kernel
theorem dX12_go_116 : decode cX12_go 116 = .ok (.aload_n 0, 1) := by decide +kernel
theorem dX12_go_117 : decode cX12_go 117 = .ok (.iload_n 2, 1) := by decide +kernel
theorem dX12_go_118 : decode cX12_go 118 = .ok (.invokevirtual 161, 3) := by decide +kernel
theorem dX12_go_121 : decode cX12_go 121 = .ok (.isub, 1) := by decide +kernel
theorem dX12_go_122 : decode cX12_go 122 = .ok (.iastore, 1) := by decide +kernel
theorem dX12_go_123 : decode cX12_go 123 = .ok (.iload 8, 2) := by decide +kernel
theorem dX12_go_125 : decode cX12_go 125 = .ok (.iconst 3, 1) := by decide +kernel
theorem dX12_go_126 : decode cX12_go 126 = .ok (.if_icmp .eq 36, 3) := by decide +kernel
theorem dX12_go_129 : decode cX12_go 129 = .ok (.aload_n 0, 1) := by decide +kernel
theorem dX12_go_130 : decode cX12_go 130 = .ok (.getfield 7, 3) := by decide +kernel
theorem dX12_go_133 : decode cX12_go 133 = .ok (.bipush 63, 2) := by decide +kernel
theorem dX12_go_135 : decode cX12_go 135 = .ok (.iload_n 3, 1) := by decide +kernel
theorem dX12_go_136 : decode cX12_go 136 = .ok (.iadd, 1) := by decide +kernel
theorem dX12_go_137 : decode cX12_go 137 = .ok (.dup2, 1) := by decide +kernel
theorem dX12_go_138 : decode cX12_go 138 = .ok (.iaload, 1) := by decide +kernel
theorem dX12_go_139 : decode cX12_go 139 = .ok (.iload 8, 2) := by decide +kernel
theorem dX12_go_141 : decode cX12_go 141 = .ok (.iconst 2, 1) := by decide +kernel
theorem dX12_go_142 : decode cX12_go 142 = .ok (.if_icmp .ne 13, 3) := by decide +kernel
theorem dX12_go_145 : decode cX12_go 145 = .ok (.iconst 2, 1) := by decide +kernel
theorem dX12_go_146 : decode cX12_go 146 = .ok (.aload_n 0, 1) := by decide +kernel
theorem dX12_go_147 : decode cX12_go 147 = .ok (.iload_n 3, 1) := by decide +kernel
theorem dX12_go_148 : decode cX12_go 148 = .ok (.invokevirtual 161, 3) := by decide +kernel
theorem dX12_go_151 : decode cX12_go 151 = .ok (.imul, 1) := by decide +kernel
theorem dX12_go_152 : decode cX12_go 152 = .ok (.goto 8, 3) := by decide +kernel
theorem dX12_go_155 : decode cX12_go 155 = .ok (.aload_n 0, 1) := by decide +kernel
theorem dX12_go_156 : decode cX12_go 156 = .ok (.iload_n 3, 1) := by decide +kernel
theorem dX12_go_157 : decode cX12_go 157 = .ok (.invokevirtual 161, 3) := by decide +kernel
theorem dX12_go_160 : decode cX12_go 160 = .ok (.isub, 1) := by decide +kernel
theorem dX12_go_161 : decode cX12_go 161 = .ok (.iastore, 1) := by decide +kernel
theorem dX12_go_162 : decode cX12_go 162 = .ok (.iload 8, 2) := by decide +kernel
theorem dX12_go_164 : decode cX12_go 164 = .ok (.iconst 1, 1) := by decide +kernel
theorem dX12_go_165 : decode cX12_go 165 = .ok (.if_icmp .ne 22, 3) := by decide +kernel
theorem dX12_go_168 : decode cX12_go 168 = .ok (.aload_n 0, 1) := by decide +kernel
theorem dX12_go_169 : decode cX12_go 169 = .ok (.getfield 7, 3) := by decide +kernel
theorem dX12_go_172 : decode cX12_go 172 = .ok (.bipush 63, 2) := by decide +kernel
theorem dX12_go_174 : decode cX12_go 174 = .ok (.iload 4, 2) := by decide +kernel
theorem dX12_go_176 : decode cX12_go 176 = .ok (.iadd, 1) := by decide +kernel
theorem dX12_go_177 : decode cX12_go 177 = .ok (.dup2, 1) := by decide +kernel
theorem dX12_go_178 : decode cX12_go 178 = .ok (.iaload, 1) := by decide +kernel
theorem dX12_go_179 : decode cX12_go 179 = .ok (.aload_n 0, 1) := by decide +kernel
theorem dX12_go_180 : decode cX12_go 180 = .ok (.iload 4, 2) := by decide +kernel
theorem dX12_go_182 : decode cX12_go 182 = .ok (.invokevirtual 161, 3) := by decide +kernel
theorem dX12_go_185 : decode cX12_go 185 = .ok (.isub, 1) := by decide +kernel
theorem dX12_go_186 : decode cX12_go 186 = .ok (.iastore, 1) := by decide +kernel
theorem dX12_go_187 : decode cX12_go 187 = .ok (.iinc 7 1, 3) := by decide +kernel
theorem dX12_go_190 : decode cX12_go 190 = .ok (.goto (-105), 3) := by decide +kernel
theorem dX12_go_193 : decode cX12_go 193 = .ok (.iload 6, 2) := by decide +kernel
theorem dX12_go_195 : decode cX12_go 195 = .ok (.ireturn, 1) := by decide +kernel
set_option maxRecDepth 20000 in
theorem ggX12_areFords_X12_in : GoodIn wsX12_areFords wsX12_in := goodIn_r _ [5] (by decide +kernel) (by decide +kernel)
set_option maxRecDepth 20000 in
theorem gX12_areFords_X12_in : GoodIn wsX12_areFords (va_wsS RX12 67 yX12_in wsX12_in) := goodIn_app (goodIn_of _ (by decide +kernel)) ggX12_areFords_X12_in
theorem dX12_areFords_0 : decode cX12_areFords 0 = .ok (.iload_n 0, 1) := by decide +kernel
theorem dX12_areFords_1 : decode cX12_areFords 1 = .ok (.i2l, 1) := by decide +kernel
theorem dX12_areFords_2 : decode cX12_areFords 2 = .ok (.lconst 0, 1) := by decide +kernel
theorem dX12_areFords_3 : decode cX12_areFords 3 = .ok (.ldc2_w 192, 3) := by decide +kernel
theorem dX12_areFords_6 : decode cX12_areFords 6 = .ok (.invokestatic 67, 3) := by decide +kernel
theorem dX12_areFords_9 : decode cX12_areFords 9 = .ok (.ifCond .eq 24, 3) := by decide +kernel
theorem dX12_areFords_12 : decode cX12_areFords 12 = .ok (.iload_n 1, 1) := by decide +kernel
theorem dX12_areFords_13 : decode cX12_areFords 13 = .ok (.i2l, 1) := by decide +kernel
theorem dX12_areFords_14 : decode cX12_areFords 14 = .ok (.lconst 0, 1) := by decide +kernel
theorem dX12_areFords_15 : decode cX12_areFords 15 = .ok (.ldc2_w 192, 3) := by decide +kernel
theorem dX12_areFords_18 : decode cX12_areFords 18 = .ok (.invokestatic 67, 3) := by decide +kernel
theorem dX12_areFords_21 : decode cX12_areFords 21 = .ok (.ifCond .eq 12, 3) := by decide +kernel
theorem dX12_areFords_24 : decode cX12_areFords 24 = .ok (.iload_n 0, 1) := by decide +kernel
theorem dX12_areFords_25 : decode cX12_areFords 25 = .ok (.iload_n 1, 1) := by decide +kernel
theorem dX12_areFords_26 : decode cX12_areFords 26 = .ok (.if_icmp .eq 7, 3) := by decide +kernel
theorem dX12_areFords_29 : decode cX12_areFords 29 = .ok (.iconst 1, 1) := by decide +kernel
theorem dX12_areFords_30 : decode cX12_areFords 30 = .ok (.goto 4, 3) := by decide +kernel
theorem dX12_areFords_33 : decode cX12_areFords 33 = .ok (.iconst 0, 1) := by decide +kernel
theorem dX12_areFords_34 : decode cX12_areFords 34 = .ok (.ireturn, 1) := by decide +kernel
set_option maxRecDepth 20000 in
theorem ggX12_path_X12_areFords : GoodIn wsX12_path wsX12_areFords := goodIn_r _ [7, 8, 9, 10, 6, 11] (by decide +kernel) (by decide +kernel)
set_option maxRecDepth 20000 in
theorem gX12_path_X12_areFords : GoodIn wsX12_path (va_wsS RX12 194 yX12_areFords wsX12_areFords) := goodIn_app (goodIn_of _ (by decide +kernel)) ggX12_path_X12_areFords
set_option maxRecDepth 20000 in
theorem ggX12_path_X12_in : GoodIn wsX12_path wsX12_in := goodIn_r _ [11] (by decide +kernel) (by decide +kernel)
set_option maxRecDepth 20000 in
theorem gX12_path_X12_in : GoodIn wsX12_path (va_wsS RX12 67 yX12_in wsX12_in) := goodIn_app (goodIn_of _ (by decide +kernel)) ggX12_path_X12_in
set_option maxRecDepth 20000 in
theorem ggX12_path_X12_changed : GoodIn wsX12_path wsX12_changed := goodIn_r _ [15, 3, 16, 17, 18, 19, 20, 21, 22, 23, 24, 25, 26, 27, 28, 29, 30, 31, 32, 33, 34, 35, 36, 37, 38, 39, 40, 41] (by decide +kernel) (by decide +kernel)
set_option maxRecDepth 20000 in
theorem gX12_path_X12_changed : GoodIn wsX12_path (wsV RX12 88 RX12 yX12_changed wsX12_changed) := goodIn_app (goodIn_of _ (by decide +kernel)) ggX12_path_X12_changed
theorem dX12_path_0 : decode cX12_path 0 = .ok (.iload_n 1, 1) := by decide +kernel
theorem dX12_path_1 : decode cX12_path 1 = .ok (.iload_n 2, 1) := by decide +kernel
theorem dX12_path_2 : decode cX12_path 2 = .ok (.invokestatic 194, 3) := by decide +kernel
theorem dX12_path_5 : decode cX12_path 5 = .ok (.ifCond .eq 17, 3) := by decide +kernel
theorem dX12_path_8 : decode cX12_path 8 = .ok (.iload_n 3, 1) := by decide +kernel
theorem dX12_path_9 : decode cX12_path 9 = .ok (.i2l, 1) := by decide +kernel
theorem dX12_path_10 : decode cX12_path 10 = .ok (.ldc2_w 197, 3) := by decide +kernel
theorem dX12_path_13 : decode cX12_path 13 = .ok (.ldc2_w 199, 3) := by decide +kernel
theorem dX12_path_16 : decode cX12_path 16 = .ok (.invokestatic 67, 3) := by decide +kernel
theorem dX12_path_19 : decode cX12_path 19 = .ok (.ifCond .ne 5, 3) := by decide +kernel
theorem dX12_path_22 : decode cX12_path 22 = .ok (.iconst (-1), 1) := by decide +kernel
theorem dX12_path_23 : decode cX12_path 23 = .ok (.ireturn, 1) := by decide +kernel
theorem dX12_path_24 : decode cX12_path 24 = .ok (.aload_n 0, 1) := by decide +kernel
theorem dX12_path_25 : decode cX12_path 25 = .ok (.bipush 117, 2) := by decide +kernel
theorem dX12_path_27 : decode cX12_path 27 = .ok (.bipush 8, 2) := by decide +kernel
theorem dX12_path_29 : decode cX12_path 29 = .ok (.iload_n 1, 1) := by decide +kernel
theorem dX12_path_30 : decode cX12_path 30 = .ok (.imul, 1) := by decide +kernel
theorem dX12_path_31 : decode cX12_path 31 = .ok (.iadd, 1) := by decide +kernel
theorem dX12_path_32 : decode cX12_path 32 = .ok (.iload_n 2, 1) := by decide +kernel
theorem dX12_path_33 : decode cX12_path 33 = .ok (.iadd, 1) := by decide +kernel
theorem dX12_path_34 : decode cX12_path 34 = .ok (.iload_n 3, 1) := by decide +kernel
theorem dX12_path_35 : decode cX12_path 35 = .ok (.invokevirtual 88, 3) := by decide +kernel
theorem dX12_path_38 : decode cX12_path 38 = .ok (.istore 4, 2) := by decide +kernel
theorem dX12_path_40 : decode cX12_path 40 = .ok (.aload_n 0, 1) := by decide +kernel
theorem dX12_path_41 : decode cX12_path 41 = .ok (.getfield 7, 3) := by decide +kernel
theorem dX12_path_44 : decode cX12_path 44 = .ok (.bipush 117, 2) := by decide +kernel
theorem dX12_path_46 : decode cX12_path 46 = .ok (.bipush 8, 2) := by decide +kernel
theorem dX12_path_48 : decode cX12_path 48 = .ok (.iload_n 2, 1) := by decide +kernel
theorem dX12_path_49 : decode cX12_path 49 = .ok (.imul, 1) := by decide +kernel
theorem dX12_path_50 : decode cX12_path 50 = .ok (.iadd, 1) := by decide +kernel
theorem dX12_path_51 : decode cX12_path 51 = .ok (.iload_n 1, 1) := by decide +kernel
theorem dX12_path_52 : decode cX12_path 52 = .ok (.iadd, 1) := by decide +kernel
theorem dX12_path_53 : decode cX12_path 53 = .ok (.iload_n 3, 1) := by decide +kernel
theorem dX12_path_54 : decode cX12_path 54 = .ok (.iastore, 1) := by decide +kernel
theorem dX12_path_55 : decode cX12_path 55 = .ok (.iload 4, 2) := by decide +kernel
theorem dX12_path_57 : decode cX12_path 57 = .ok (.bipush 100, 2) := by decide +kernel
theorem dX12_path_59 : decode cX12_path 59 = .ok (.iadd, 1) := by decide +kernel
theorem dX12_path_60 : decode cX12_path 60 = .ok (.ireturn, 1) := by decide +kernel
theorem dX12_wander_0 : decode cX12_wander 0 = .ok (.aload_n 0, 1) := by decide +kernel
theorem dX12_wander_1 : decode cX12_wander 1 = .ok (.iconst 0, 1) := by decide +kernel
theorem dX12_wander_2 : decode cX12_wander 2 = .ok (.putfield 201, 3) := by decide +kernel
theorem dX12_wander_5 : decode cX12_wander 5 = .ok (.iconst 0, 1) := by decide +kernel
theorem dX12_wander_6 : decode cX12_wander 6 = .ok (.istore_n 3, 1) := by decide +kernel
theorem dX12_wander_7 : decode cX12_wander 7 = .ok (.iload_n 3, 1) := by decide +kernel
theorem dX12_wander_8 : decode cX12_wander 8 = .ok (.bipush 8, 2) := by decide +kernel
theorem dX12_wander_10 : decode cX12_wander 10 = .ok (.if_icmp .ge 25, 3) := by decide +kernel
theorem dX12_wander_13 : decode cX12_wander 13 = .ok (.aload_n 0, 1) := by decide +kernel
theorem dX12_wander_14 : decode cX12_wander 14 = .ok (.getfield 58, 3) := by decide +kernel
theorem dX12_wander_17 : decode cX12_wander 17 = .ok (.iload_n 3, 1) := by decide +kernel
theorem dX12_wander_18 : decode cX12_wander 18 = .ok (.iload_n 3, 1) := by decide +kernel
theorem dX12_wander_19 : decode cX12_wander 19 = .ok (.iload_n 1, 1) := by decide +kernel
theorem dX12_wander_20 : decode cX12_wander 20 = .ok (.if_icmp .ne 7, 3) := by decide +kernel
theorem dX12_wander_23 : decode cX12_wander 23 = .ok (.iconst 1, 1) := by decide +kernel
theorem dX12_wander_24 : decode cX12_wander 24 = .ok (.goto 4, 3) := by decide +kernel
theorem dX12_wander_27 : decode cX12_wander 27 = .ok (.iconst 0, 1) := by decide +kernel
theorem dX12_wander_28 : decode cX12_wander 28 = .ok (.iastore, 1) := by decide +kernel
theorem dX12_wander_29 : decode cX12_wander 29 = .ok (.iinc 3 1, 3) := by decide +kernel
theorem dX12_wander_32 : decode cX12_wander 32 = .ok (.goto (-25), 3) := by decide +kernel
theorem dX12_wander_35 : decode cX12_wander 35 = .ok (.ldc 204, 2) := by decide +kernel
theorem dX12_wander_37 : decode cX12_wander 37 = .ok (.istore_n 3, 1) := by decide +kernel
theorem dX12_wander_38 : decode cX12_wander 38 = .ok (.iconst 1, 1) := by decide +kernel
theorem dX12_wander_39 : decode cX12_wander 39 = .ok (.istore 4, 2) := by decide +kernel
theorem dX12_wander_41 : decode cX12_wander 41 = .ok (.iload 4, 2) := by decide +kernel
theorem dX12_wander_43 : decode cX12_wander 43 = .ok (.bipush 8, 2) := by decide +kernel
theorem dX12_wander_45 : decode cX12_wander 45 = .ok (.if_icmp .ge 190, 3) := by decide +kernel
theorem dX12_wander_48 : decode cX12_wander 48 = .ok (.iconst 0, 1) := by decide +kernel
theorem dX12_wander_49 : decode cX12_wander 49 = .ok (.istore 5, 2) := by decide +kernel
theorem dX12_wander_51 : decode cX12_wander 51 = .ok (.iload 5, 2) := by decide +kernel
theorem dX12_wander_53 : decode cX12_wander 53 = .ok (.bipush 8, 2) := by decide +kernel
theorem dX12_wander_55 : decode cX12_wander 55 = .ok (.if_icmp .ge 106, 3) := by decide +kernel
theorem dX12_wander_58 : decode cX12_wander 58 = .ok (.aload_n 0, 1) := by decide +kernel
theorem dX12_wander_59 : decode cX12_wander 59 = .ok (.getfield 61, 3) := by decide +kernel
theorem dX12_wander_62 : decode cX12_wander 62 = .ok (.iload 5, 2) := by decide +kernel
theorem dX12_wander_64 : decode cX12_wander 64 = .ok (.iconst 0, 1) := by decide +kernel
theorem dX12_wander_65 : decode cX12_wander 65 = .ok (.iastore, 1) := by decide +kernel
theorem dX12_wander_66 : decode cX12_wander 66 = .ok (.iconst 0, 1) := by decide +kernel
theorem dX12_wander_67 : decode cX12_wander 67 = .ok (.istore 6, 2) := by decide +kernel
theorem dX12_wander_69 : decode cX12_wander 69 = .ok (.iload 6, 2) := by decide +kernel
theorem dX12_wander_71 : decode cX12_wander 71 = .ok (.bipush 8, 2) := by decide +kernel
theorem dX12_wander_73 : decode cX12_wander 73 = .ok (.if_icmp .ge 82, 3) := by decide +kernel
theorem dX12_wander_76 : decode cX12_wander 76 = .ok (.aload_n 0, 1) := by decide +kernel
theorem dX12_wander_77 : decode cX12_wander 77 = .ok (.getfield 7, 3) := by decide +kernel
theorem dX12_wander_80 : decode cX12_wander 80 = .ok (.bipush 117, 2) := by decide +kernel
theorem dX12_wander_82 : decode cX12_wander 82 = .ok (.bipush 8, 2) := by decide +kernel
theorem dX12_wander_84 : decode cX12_wander 84 = .ok (.iload 6, 2) := by decide +kernel
theorem dX12_wander_86 : decode cX12_wander 86 = .ok (.imul, 1) := by decide +kernel
theorem dX12_wander_87 : decode cX12_wander 87 = .ok (.iadd, 1) := by decide +kernel
theorem dX12_wander_88 : decode cX12_wander 88 = .ok (.iload 5, 2) := by decide +kernel
theorem dX12_wander_90 : decode cX12_wander 90 = .ok (.iadd, 1) := by decide +kernel
theorem dX12_wander_91 : decode cX12_wander 91 = .ok (.iaload, 1) := by decide +kernel
theorem dX12_wander_92 : decode cX12_wander 92 = .ok (.istore 7, 2) := by decide +kernel
theorem dX12_wander_94 : decode cX12_wander 94 = .ok (.iload 7, 2) := by decide +kernel
theorem dX12_wander_96 : decode cX12_wander 96 = .ok (.ifCond .ge 7, 3) := by decide +kernel
theorem dX12_wander_99 : decode cX12_wander 99 = .ok (.iconst 0, 1) := by decide +kernel
theorem dX12_wander_100 : decode cX12_wander 100 = .ok (.goto 16, 3) := by decide +kernel
theorem dX12_wander_103 : decode cX12_wander 103 = .ok (.aload_n 0, 1) := by decide +kernel
theorem dX12_wander_104 : decode cX12_wander 104 = .ok (.getfield 58, 3) := by decide +kernel
theorem dX12_wander_107 : decode cX12_wander 107 = .ok (.iload 6, 2) := by decide +kernel
theorem dX12_wander_109 : decode cX12_wander 109 = .ok (.iaload, 1) := by decide +kernel
theorem dX12_wander_110 : decode cX12_wander 110 = .ok (.bipush 16, 2) := by decide +kernel
theorem dX12_wander_112 : decode cX12_wander 112 = .ok (.iload 7, 2) := by decide +kernel
theorem dX12_wander_114 : decode cX12_wander 114 = .ok (.isub, 1) := by decide +kernel
theorem dX12_wander_115 : decode cX12_wander 115 = .ok (.imul, 1) := by decide +kernel
theorem dX12_wander_116 : decode cX12_wander 116 = .ok (.istore 8, 2) := by decide +kernel
theorem dX12_wander_118 : decode cX12_wander 118 = .ok (.aload_n 0, 1) := by decide +kernel
theorem dX12_wander_119 : decode cX12_wander 119 = .ok (.getfield 61, 3) := by decide +kernel
theorem dX12_wander_122 : decode cX12_wander 122 = .ok (.iload 5, 2) := by decide +kernel
theorem dX12_wander_124 : decode cX12_wander 124 = .ok (.iload 8, 2) := by decide +kernel
theorem dX12_wander_126 : decode cX12_wander 126 = .ok (.aload_n 0, 1) := by decide +kernel
theorem dX12_wander_127 : decode cX12_wander 127 = .ok (.getfield 61, 3) := by decide +kernel
theorem dX12_wander_130 : decode cX12_wander 130 = .ok (.iload 5, 2) := by decide +kernel
theorem dX12_wander_132 : decode cX12_wander 132 = .ok (.iaload, 1) := by decide +kernel
theorem dX12_wander_133 : decode cX12_wander 133 = .ok (.if_icmp .le 8, 3) := by decide +kernel
theorem dX12_wander_136 : decode cX12_wander 136 = .ok (.iload 8, 2) := by decide +kernel
theorem dX12_wander_138 : decode cX12_wander 138 = .ok (.goto 10, 3) := by decide +kernel
theorem dX12_wander_141 : decode cX12_wander 141 = .ok (.aload_n 0, 1) := by decide +kernel
theorem dX12_wander_142 : decode cX12_wander 142 = .ok (.getfield 61, 3) := by decide +kernel
theorem dX12_wander_145 : decode cX12_wander 145 = .ok (.iload 5, 2) := by decide +kernel
theorem dX12_wander_147 : decode cX12_wander 147 = .ok (.iaload, 1) := by decide +kernel
theorem dX12_wander_148 : decode cX12_wander 148 = .ok (.iastore, 1) := by decide +kernel
theorem dX12_wander_149 : decode cX12_wander 149 = .ok (.iinc 6 1, 3) := by decide +kernel
theorem dX12_wander_152 : decode cX12_wander 152 = .ok (.goto (-83), 3) := by decide +kernel
theorem dX12_wander_155 : decode cX12_wander 155 = .ok (.iinc 5 1, 3) := by decide +kernel
theorem dX12_wander_158 : decode cX12_wander 158 = .ok (.goto (-107), 3) := by decide +kernel
theorem dX12_wander_161 : decode cX12_wander 161 = .ok (.iconst 0, 1) := by decide +kernel
theorem dX12_wander_162 : decode cX12_wander 162 = .ok (.istore 5, 2) := by decide +kernel
theorem dX12_wander_164 : decode cX12_wander 164 = .ok (.iload 5, 2) := by decide +kernel
theorem dX12_wander_166 : decode cX12_wander 166 = .ok (.bipush 8, 2) := by decide +kernel
theorem dX12_wander_168 : decode cX12_wander 168 = .ok (.if_icmp .ge 23, 3) := by decide +kernel
theorem dX12_wander_171 : decode cX12_wander 171 = .ok (.aload_n 0, 1) := by decide +kernel
theorem dX12_wander_172 : decode cX12_wander 172 = .ok (.getfield 58, 3) := by decide +kernel
theorem dX12_wander_175 : decode cX12_wander 175 = .ok (.iload 5, 2) := by decide +kernel
theorem dX12_wander_177 : decode cX12_wander 177 = .ok (.aload_n 0, 1) := by decide +kernel
theorem dX12_wander_178 : decode cX12_wander 178 = .ok (.getfield 61, 3) := by decide +kernel
theorem dX12_wander_181 : decode cX12_wander 181 = .ok (.iload 5, 2) := by decide +kernel
theorem dX12_wander_183 : decode cX12_wander 183 = .ok (.iaload, 1) := by decide +kernel
theorem dX12_wander_184 : decode cX12_wander 184 = .ok (.iastore, 1) := by decide +kernel
theorem dX12_wander_185 : decode cX12_wander 185 = .ok (.iinc 5 1, 3) := by decide +kernel
theorem dX12_wander_188 : decode cX12_wander 188 = .ok (.goto (-24), 3) := by decide +kernel
theorem dX12_wander_191 : decode cX12_wander 191 = .ok (.aload_n 0, 1) := by decide +kernel
theorem dX12_wander_192 : decode cX12_wander 192 = .ok (.getfield 58, 3) := by decide +kernel
theorem dX12_wander_195 : decode cX12_wander 195 = .ok (.iload_n 2, 1) := by decide +kernel
theorem dX12_wander_196 : decode cX12_wander 196 = .ok (.iaload, 1) := by decide +kernel
theorem dX12_wander_197 : decode cX12_wander 197 = .ok (.iload_n 3, 1) := by decide +kernel
theorem dX12_wander_198 : decode cX12_wander 198 = .ok (.imul, 1) := by decide +kernel
theorem dX12_wander_199 : decode cX12_wander 199 = .ok (.aload_n 0, 1) := by decide +kernel
theorem dX12_wander_200 : decode cX12_wander 200 = .ok (.getfield 201, 3) := by decide +kernel
theorem dX12_wander_203 : decode cX12_wander 203 = .ok (.if_icmp .le 21, 3) := by decide +kernel
theorem dX12_wander_206 : decode cX12_wander 206 = .ok (.aload_n 0, 1) := by decide +kernel
theorem dX12_wander_207 : decode cX12_wander 207 = .ok (.aload_n 0, 1) := by decide +kernel
theorem dX12_wander_208 : decode cX12_wander 208 = .ok (.getfield 58, 3) := by decide +kernel
theorem dX12_wander_211 : decode cX12_wander 211 = .ok (.iload_n 2, 1) := by decide +kernel
theorem dX12_wander_212 : decode cX12_wander 212 = .ok (.iaload, 1) := by decide +kernel
theorem dX12_wander_213 : decode cX12_wander 213 = .ok (.iload_n 3, 1) := by decide +kernel
theorem dX12_wander_214 : decode cX12_wander 214 = .ok (.imul, 1) := by decide +kernel
theorem dX12_wander_215 : decode cX12_wander 215 = .ok (.putfield 201, 3) := by decide +kernel
theorem dX12_wander_218 : decode cX12_wander 218 = .ok (.aload_n 0, 1) := by decide +kernel
theorem dX12_wander_219 : decode cX12_wander 219 = .ok (.iload 4, 2) := by decide +kernel
theorem dX12_wander_221 : decode cX12_wander 221 = .ok (.putfield 205, 3) := by decide +kernel
theorem dX12_wander_224 : decode cX12_wander 224 = .ok (.iload_n 3, 1) := by decide +kernel
theorem dX12_wander_225 : decode cX12_wander 225 = .ok (.bipush 16, 2) := by decide +kernel
theorem dX12_wander_227 : decode cX12_wander 227 = .ok (.idiv, 1) := by decide +kernel
theorem dX12_wander_228 : decode cX12_wander 228 = .ok (.istore_n 3, 1) := by decide +kernel
theorem dX12_wander_229 : decode cX12_wander 229 = .ok (.iinc 4 1, 3) := by decide +kernel
theorem dX12_wander_232 : decode cX12_wander 232 = .ok (.goto (-191), 3) := by decide +kernel
theorem dX12_wander_235 : decode cX12_wander 235 = .ok (.return_, 1) := by decide +kernel
set_option maxRecDepth 20000 in
theorem ggX12_unseen_X12_areFords : GoodIn wsX12_unseen wsX12_areFords := goodIn_r _ [6, 7, 8, 9, 5, 10] (by decide +kernel) (by decide +kernel)
set_option maxRecDepth 20000 in
theorem gX12_unseen_X12_areFords : GoodIn wsX12_unseen (va_wsS RX12 194 yX12_areFords wsX12_areFords) := goodIn_app (goodIn_of _ (by decide +kernel)) ggX12_unseen_X12_areFords
set_option maxRecDepth 20000 in
theorem ggX12_unseen_X12_in : GoodIn wsX12_unseen wsX12_in := goodIn_r _ [10] (by decide +kernel) (by decide +kernel)
set_option maxRecDepth 20000 in
theorem gX12_unseen_X12_in : GoodIn wsX12_unseen (va_wsS RX12 67 yX12_in wsX12_in) := goodIn_app (goodIn_of _ (by decide +kernel)) ggX12_unseen_X12_in
set_option maxRecDepth 20000 in
theorem ggX12_unseen_X12_wander : GoodIn wsX12_unseen wsX12_wander := goodIn_r _ [14, 1, 15, 16, 17, 18, 19, 20, 21, 22, 23, 24, 25, 26, 27, 28, 29, 30, 31, 32, 33, 34, 35, 36, 37, 38, 39, 40, 41, 42, 43, 44, 45] (by decide +kernel) (by decide +kernel)
set_option maxRecDepth 20000 in
theorem gX12_unseen_X12_wander : GoodIn wsX12_unseen (wsV RX12 208 RX12 yX12_wander wsX12_wander) := goodIn_app (goodIn_of _ (by decide +kernel)) ggX12_unseen_X12_wander
theorem dX12_unseen_0 : decode cX12_unseen 0 = .ok (.iload_n 1, 1) := by decide +kernel
theorem dX12_unseen_1 : decode cX12_unseen 1 = .ok (.iload_n 2, 1) := by decide +kernel
theorem dX12_unseen_2 : decode cX12_unseen 2 = .ok (.invokestatic 194, 3) := by decide +kernel
theorem dX12_unseen_5 : decode cX12_unseen 5 = .ok (.ifCond .eq 13, 3) := by decide +kernel
theorem dX12_unseen_8 : decode cX12_unseen 8 = .ok (.iload_n 3, 1) := by decide +kernel
theorem dX12_unseen_9 : decode cX12_unseen 9 = .ok (.i2l, 1) := by decide +kernel
theorem dX12_unseen_10 : decode cX12_unseen 10 = .ok (.lconst 0, 1) := by decide +kernel
theorem dX12_unseen_11 : decode cX12_unseen 11 = .ok (.lconst 1, 1) := by decide +kernel
theorem dX12_unseen_12 : decode cX12_unseen 12 = .ok (.invokestatic 67, 3) := by decide +kernel
theorem dX12_unseen_15 : decode cX12_unseen 15 = .ok (.ifCond .ne 5, 3) := by decide +kernel
theorem dX12_unseen_18 : decode cX12_unseen 18 = .ok (.iconst (-1), 1) := by decide +kernel
theorem dX12_unseen_19 : decode cX12_unseen 19 = .ok (.ireturn, 1) := by decide +kernel
theorem dX12_unseen_20 : decode cX12_unseen 20 = .ok (.aload_n 0, 1) := by decide +kernel
theorem dX12_unseen_21 : decode cX12_unseen 21 = .ok (.iload_n 1, 1) := by decide +kernel
theorem dX12_unseen_22 : decode cX12_unseen 22 = .ok (.iload_n 2, 1) := by decide +kernel
theorem dX12_unseen_23 : decode cX12_unseen 23 = .ok (.invokevirtual 208, 3) := by decide +kernel
theorem dX12_unseen_26 : decode cX12_unseen 26 = .ok (.aload_n 0, 1) := by decide +kernel
theorem dX12_unseen_27 : decode cX12_unseen 27 = .ok (.getfield 201, 3) := by decide +kernel
theorem dX12_unseen_30 : decode cX12_unseen 30 = .ok (.ifCond .ne 6, 3) := by decide +kernel
theorem dX12_unseen_33 : decode cX12_unseen 33 = .ok (.bipush (-4), 2) := by decide +kernel
theorem dX12_unseen_35 : decode cX12_unseen 35 = .ok (.ireturn, 1) := by decide +kernel
theorem dX12_unseen_36 : decode cX12_unseen 36 = .ok (.aload_n 0, 1) := by decide +kernel
theorem dX12_unseen_37 : decode cX12_unseen 37 = .ok (.getfield 201, 3) := by decide +kernel
theorem dX12_unseen_40 : decode cX12_unseen 40 = .ok (.istore 4, 2) := by decide +kernel
theorem dX12_unseen_42 : decode cX12_unseen 42 = .ok (.ldc 212, 2) := by decide +kernel
theorem dX12_unseen_44 : decode cX12_unseen 44 = .ok (.istore 5, 2) := by decide +kernel
theorem dX12_unseen_46 : decode cX12_unseen 46 = .ok (.iload 4, 2) := by decide +kernel
theorem dX12_unseen_48 : decode cX12_unseen 48 = .ok (.iconst 2, 1) := by decide +kernel
theorem dX12_unseen_49 : decode cX12_unseen 49 = .ok (.irem, 1) := by decide +kernel
theorem dX12_unseen_50 : decode cX12_unseen 50 = .ok (.ifCond .ne 24, 3) := by decide +kernel
theorem dX12_unseen_53 : decode cX12_unseen 53 = .ok (.iload 5, 2) := by decide +kernel
theorem dX12_unseen_55 : decode cX12_unseen 55 = .ok (.iconst 1, 1) := by decide +kernel
theorem dX12_unseen_56 : decode cX12_unseen 56 = .ok (.if_icmp .le 18, 3) := by decide +kernel
theorem dX12_unseen_59 : decode cX12_unseen 59 = .ok (.iload 4, 2) := by decide +kernel
theorem dX12_unseen_61 : decode cX12_unseen 61 = .ok (.iconst 2, 1) := by decide +kernel
theorem dX12_unseen_62 : decode cX12_unseen 62 = .ok (.idiv, 1) := by decide +kernel
theorem dX12_unseen_63 : decode cX12_unseen 63 = .ok (.istore 4, 2) := by decide +kernel
theorem dX12_unseen_65 : decode cX12_unseen 65 = .ok (.iload 5, 2) := by decide +kernel
theorem dX12_unseen_67 : decode cX12_unseen 67 = .ok (.iconst 2, 1) := by decide +kernel
theorem dX12_unseen_68 : decode cX12_unseen 68 = .ok (.idiv, 1) := by decide +kernel
theorem dX12_unseen_69 : decode cX12_unseen 69 = .ok (.istore 5, 2) := by decide +kernel
theorem dX12_unseen_71 : decode cX12_unseen 71 = .ok (.goto (-25), 3) := by decide +kernel
theorem dX12_unseen_74 : decode cX12_unseen 74 = .ok (.iload_n 3, 1) := by decide +kernel
theorem dX12_unseen_75 : decode cX12_unseen 75 = .ok (.ifCond .ne 8, 3) := by decide +kernel
theorem dX12_unseen_78 : decode cX12_unseen 78 = .ok (.iload 4, 2) := by decide +kernel
theorem dX12_unseen_80 : decode cX12_unseen 80 = .ok (.goto 5, 3) := by decide +kernel
theorem dX12_unseen_83 : decode cX12_unseen 83 = .ok (.iload 5, 2) := by decide +kernel
theorem dX12_unseen_85 : decode cX12_unseen 85 = .ok (.ireturn, 1) := by decide +kernel
set_option maxRecDepth 20000 in
theorem ggX12_paths_X12_areFords : GoodIn wsX12_paths wsX12_areFords := goodIn_r _ [6, 7, 8, 9, 5, 10] (by decide +kernel) (by decide +kernel)
set_option maxRecDepth 20000 in
theorem gX12_paths_X12_areFords : GoodIn wsX12_paths (va_wsS RX12 194 yX12_areFords wsX12_areFords) := goodIn_app (goodIn_of _ (by decide +kernel)) ggX12_paths_X12_areFords
set_option maxRecDepth 20000 in
theorem ggX12_paths_X12_wander : GoodIn wsX12_paths wsX12_wander := goodIn_r _ [14, 1, 15, 16, 17, 18, 2, 19, 20, 21, 22, 23, 24, 25, 26, 27, 28, 29, 30, 31, 32, 33, 34, 35, 36, 37, 38, 39, 40, 41, 42, 43, 44] (by decide +kernel) (by decide +kernel)
set_option maxRecDepth 20000 in
theorem gX12_paths_X12_wander : GoodIn wsX12_paths (wsV RX12 208 RX12 yX12_wander wsX12_wander) := goodIn_app (goodIn_of _ (by decide +kernel)) ggX12_paths_X12_wander
theorem dX12_paths_0 : decode cX12_paths 0 = .ok (.iload_n 1, 1) := by decide +kernel
theorem dX12_paths_1 : decode cX12_paths 1 = .ok (.iload_n 2, 1) := by decide +kernel
theorem dX12_paths_2 : decode cX12_paths 2 = .ok (.invokestatic 194, 3) := by decide +kernel
theorem dX12_paths_5 : decode cX12_paths 5 = .ok (.ifCond .ne 5, 3) := by decide +kernel
theorem dX12_paths_8 : decode cX12_paths 8 = .ok (.iconst (-1), 1) := by decide +kernel
theorem dX12_paths_9 : decode cX12_paths 9 = .ok (.ireturn, 1) := by decide +kernel
theorem dX12_paths_10 : decode cX12_paths 10 = .ok (.aload_n 0, 1) := by decide +kernel
theorem dX12_paths_11 : decode cX12_paths 11 = .ok (.iload_n 1, 1) := by decide +kernel
theorem dX12_paths_12 : decode cX12_paths 12 = .ok (.iload_n 2, 1) := by decide +kernel
theorem dX12_paths_13 : decode cX12_paths 13 = .ok (.invokevirtual 208, 3) := by decide +kernel
theorem dX12_paths_16 : decode cX12_paths 16 = .ok (.aload_n 0, 1) := by decide +kernel
theorem dX12_paths_17 : decode cX12_paths 17 = .ok (.getfield 201, 3) := by decide +kernel
theorem dX12_paths_20 : decode cX12_paths 20 = .ok (.ifCond .ne 8, 3) := by decide +kernel
theorem dX12_paths_23 : decode cX12_paths 23 = .ok (.bipush (-4), 2) := by decide +kernel
theorem dX12_paths_25 : decode cX12_paths 25 = .ok (.goto 7, 3) := by decide +kernel
theorem dX12_paths_28 : decode cX12_paths 28 = .ok (.aload_n 0, 1) := by decide +kernel
theorem dX12_paths_29 : decode cX12_paths 29 = .ok (.getfield 205, 3) := by decide +kernel
theorem dX12_paths_32 : decode cX12_paths 32 = .ok (.ireturn, 1) := by decide +kernel
set_option maxRecDepth 20000 in
theorem ggX12_buyer_X12_in : GoodIn wsX12_buyer wsX12_in := goodIn_r _ [7] (by decide +kernel) (by decide +kernel)
set_option maxRecDepth 20000 in
theorem gX12_buyer_X12_in : GoodIn wsX12_buyer (va_wsS RX12 67 yX12_in wsX12_in) := goodIn_app (goodIn_of _ (by decide +kernel)) ggX12_buyer_X12_in
theorem dX12_buyer_0 : decode cX12_buyer 0 = .ok (.iload_n 1, 1) := by decide +kernel
theorem dX12_buyer_1 : decode cX12_buyer 1 = .ok (.i2l, 1) := by decide +kernel
theorem dX12_buyer_2 : decode cX12_buyer 2 = .ok (.lconst 1, 1) := by decide +kernel
theorem dX12_buyer_3 : decode cX12_buyer 3 = .ok (.ldc2_w 213, 3) := by decide +kernel
theorem dX12_buyer_6 : decode cX12_buyer 6 = .ok (.invokestatic 67, 3) := by decide +kernel
theorem dX12_buyer_9 : decode cX12_buyer 9 = .ok (.ifCond .eq 15, 3) := by decide +kernel
theorem dX12_buyer_12 : decode cX12_buyer 12 = .ok (.iload_n 2, 1) := by decide +kernel
theorem dX12_buyer_13 : decode cX12_buyer 13 = .ok (.i2l, 1) := by decide +kernel
theorem dX12_buyer_14 : decode cX12_buyer 14 = .ok (.lconst 1, 1) := by decide +kernel
theorem dX12_buyer_15 : decode cX12_buyer 15 = .ok (.ldc2_w 81, 3) := by decide +kernel
theorem dX12_buyer_18 : decode cX12_buyer 18 = .ok (.invokestatic 67, 3) := by decide +kernel
theorem dX12_buyer_21 : decode cX12_buyer 21 = .ok (.ifCond .ne 5, 3) := by decide +kernel
theorem dX12_buyer_24 : decode cX12_buyer 24 = .ok (.iconst (-1), 1) := by decide +kernel
theorem dX12_buyer_25 : decode cX12_buyer 25 = .ok (.ireturn, 1) := by decide +kernel
theorem dX12_buyer_26 : decode cX12_buyer 26 = .ok (.aload_n 0, 1) := by decide +kernel
theorem dX12_buyer_27 : decode cX12_buyer 27 = .ok (.getfield 7, 3) := by decide +kernel
theorem dX12_buyer_30 : decode cX12_buyer 30 = .ok (.iconst 4, 1) := by decide +kernel
theorem dX12_buyer_31 : decode cX12_buyer 31 = .ok (.iaload, 1) := by decide +kernel
theorem dX12_buyer_32 : decode cX12_buyer 32 = .ok (.istore_n 3, 1) := by decide +kernel
theorem dX12_buyer_33 : decode cX12_buyer 33 = .ok (.iload_n 3, 1) := by decide +kernel
theorem dX12_buyer_34 : decode cX12_buyer 34 = .ok (.bipush 6, 2) := by decide +kernel
theorem dX12_buyer_36 : decode cX12_buyer 36 = .ok (.if_icmp .ne 6, 3) := by decide +kernel
theorem dX12_buyer_39 : decode cX12_buyer 39 = .ok (.bipush (-3), 2) := by decide +kernel
theorem dX12_buyer_41 : decode cX12_buyer 41 = .ok (.ireturn, 1) := by decide +kernel
theorem dX12_buyer_42 : decode cX12_buyer 42 = .ok (.aload_n 0, 1) := by decide +kernel
theorem dX12_buyer_43 : decode cX12_buyer 43 = .ok (.getfield 7, 3) := by decide +kernel
theorem dX12_buyer_46 : decode cX12_buyer 46 = .ok (.sipush 181, 3) := by decide +kernel
theorem dX12_buyer_49 : decode cX12_buyer 49 = .ok (.iload_n 3, 1) := by decide +kernel
theorem dX12_buyer_50 : decode cX12_buyer 50 = .ok (.iadd, 1) := by decide +kernel
theorem dX12_buyer_51 : decode cX12_buyer 51 = .ok (.iload_n 1, 1) := by decide +kernel
theorem dX12_buyer_52 : decode cX12_buyer 52 = .ok (.iastore, 1) := by decide +kernel
theorem dX12_buyer_53 : decode cX12_buyer 53 = .ok (.aload_n 0, 1) := by decide +kernel
theorem dX12_buyer_54 : decode cX12_buyer 54 = .ok (.getfield 7, 3) := by decide +kernel
theorem dX12_buyer_57 : decode cX12_buyer 57 = .ok (.sipush 187, 3) := by decide +kernel
theorem dX12_buyer_60 : decode cX12_buyer 60 = .ok (.iload_n 3, 1) := by decide +kernel
theorem dX12_buyer_61 : decode cX12_buyer 61 = .ok (.iadd, 1) := by decide +kernel
theorem dX12_buyer_62 : decode cX12_buyer 62 = .ok (.iload_n 2, 1) := by decide +kernel
theorem dX12_buyer_63 : decode cX12_buyer 63 = .ok (.iastore, 1) := by decide +kernel
theorem dX12_buyer_64 : decode cX12_buyer 64 = .ok (.aload_n 0, 1) := by decide +kernel
theorem dX12_buyer_65 : decode cX12_buyer 65 = .ok (.getfield 7, 3) := by decide +kernel
theorem dX12_buyer_68 : decode cX12_buyer 68 = .ok (.iconst 4, 1) := by decide +kernel
theorem dX12_buyer_69 : decode cX12_buyer 69 = .ok (.iload_n 3, 1) := by decide +kernel
theorem dX12_buyer_70 : decode cX12_buyer 70 = .ok (.iconst 1, 1) := by decide +kernel
theorem dX12_buyer_71 : decode cX12_buyer 71 = .ok (.iadd, 1) := by decide +kernel
theorem dX12_buyer_72 : decode cX12_buyer 72 = .ok (.iastore, 1) := by decide +kernel
theorem dX12_buyer_73 : decode cX12_buyer 73 = .ok (.iload_n 3, 1) := by decide +kernel
theorem dX12_buyer_74 : decode cX12_buyer 74 = .ok (.ireturn, 1) := by decide +kernel
theorem dX12_wanted_0 : decode cX12_wanted 0 = .ok (.iconst 0, 1) := by decide +kernel
theorem dX12_wanted_1 : decode cX12_wanted 1 = .ok (.istore_n 2, 1) := by decide +kernel
theorem dX12_wanted_2 : decode cX12_wanted 2 = .ok (.iconst 0, 1) := by decide +kernel
theorem dX12_wanted_3 : decode cX12_wanted 3 = .ok (.istore_n 3, 1) := by decide +kernel
theorem dX12_wanted_4 : decode cX12_wanted 4 = .ok (.iload_n 3, 1) := by decide +kernel
theorem dX12_wanted_5 : decode cX12_wanted 5 = .ok (.aload_n 0, 1) := by decide +kernel
theorem dX12_wanted_6 : decode cX12_wanted 6 = .ok (.getfield 7, 3) := by decide +kernel
theorem dX12_wanted_9 : decode cX12_wanted 9 = .ok (.iconst 4, 1) := by decide +kernel
theorem dX12_wanted_10 : decode cX12_wanted 10 = .ok (.iaload, 1) := by decide +kernel
theorem dX12_wanted_11 : decode cX12_wanted 11 = .ok (.if_icmp .ge 40, 3) := by decide +kernel
theorem dX12_wanted_14 : decode cX12_wanted 14 = .ok (.iload_n 2, 1) := by decide +kernel
theorem dX12_wanted_15 : decode cX12_wanted 15 = .ok (.iload_n 1, 1) := by decide +kernel
theorem dX12_wanted_16 : decode cX12_wanted 16 = .ok (.aload_n 0, 1) := by decide +kernel
theorem dX12_wanted_17 : decode cX12_wanted 17 = .ok (.getfield 7, 3) := by decide +kernel
theorem dX12_wanted_20 : decode cX12_wanted 20 = .ok (.sipush 187, 3) := by decide +kernel
theorem dX12_wanted_23 : decode cX12_wanted 23 = .ok (.iload_n 3, 1) := by decide +kernel
theorem dX12_wanted_24 : decode cX12_wanted 24 = .ok (.iadd, 1) := by decide +kernel
theorem dX12_wanted_25 : decode cX12_wanted 25 = .ok (.iaload, 1) := by decide +kernel
theorem dX12_wanted_26 : decode cX12_wanted 26 = .ok (.if_icmp .gt 16, 3) := by decide +kernel
theorem dX12_wanted_29 : decode cX12_wanted 29 = .ok (.aload_n 0, 1) := by decide +kernel
theorem dX12_wanted_30 : decode cX12_wanted 30 = .ok (.getfield 7, 3) := by decide +kernel
theorem dX12_wanted_33 : decode cX12_wanted 33 = .ok (.sipush 181, 3) := by decide +kernel
theorem dX12_wanted_36 : decode cX12_wanted 36 = .ok (.iload_n 3, 1) := by decide +kernel
theorem dX12_wanted_37 : decode cX12_wanted 37 = .ok (.iadd, 1) := by decide +kernel
theorem dX12_wanted_38 : decode cX12_wanted 38 = .ok (.iaload, 1) := by decide +kernel
theorem dX12_wanted_39 : decode cX12_wanted 39 = .ok (.goto 4, 3) := by decide +kernel
theorem dX12_wanted_42 : decode cX12_wanted 42 = .ok (.iconst 0, 1) := by decide +kernel
theorem dX12_wanted_43 : decode cX12_wanted 43 = .ok (.iadd, 1) := by decide +kernel
theorem dX12_wanted_44 : decode cX12_wanted 44 = .ok (.istore_n 2, 1) := by decide +kernel
theorem dX12_wanted_45 : decode cX12_wanted 45 = .ok (.iinc 3 1, 3) := by decide +kernel
theorem dX12_wanted_48 : decode cX12_wanted 48 = .ok (.goto (-44), 3) := by decide +kernel
theorem dX12_wanted_51 : decode cX12_wanted 51 = .ok (.iload_n 2, 1) := by decide +kernel
theorem dX12_wanted_52 : decode cX12_wanted 52 = .ok (.ireturn, 1) := by decide +kernel
set_option maxRecDepth 20000 in
theorem ggX12_market_X12_in : GoodIn wsX12_market wsX12_in := goodIn_r _ [6] (by decide +kernel) (by decide +kernel)
set_option maxRecDepth 20000 in
theorem gX12_market_X12_in : GoodIn wsX12_market (va_wsS RX12 67 yX12_in wsX12_in) := goodIn_app (goodIn_of _ (by decide +kernel)) ggX12_market_X12_in
set_option maxRecDepth 20000 in
theorem ggX12_market_X12_wanted : GoodIn wsX12_market wsX12_wanted := goodIn_r _ [10, 11, 12, 13, 14, 15, 16, 17, 18, 19, 20, 21, 22, 23, 24, 25, 26, 27, 28, 29, 30, 31, 32, 33, 34, 35, 36, 37] (by decide +kernel) (by decide +kernel)
set_option maxRecDepth 20000 in
theorem gX12_market_X12_wanted : GoodIn wsX12_market (wsV RX12 217 RX12 yX12_wanted wsX12_wanted) := goodIn_app (goodIn_of _ (by decide +kernel)) ggX12_market_X12_wanted
theorem dX12_market_0 : decode cX12_market 0 = .ok (.iload_n 1, 1) := by decide +kernel
theorem dX12_market_1 : decode cX12_market 1 = .ok (.i2l, 1) := by decide +kernel
theorem dX12_market_2 : decode cX12_market 2 = .ok (.lconst 1, 1) := by decide +kernel
theorem dX12_market_3 : decode cX12_market 3 = .ok (.ldc2_w 81, 3) := by decide +kernel
theorem dX12_market_6 : decode cX12_market 6 = .ok (.invokestatic 67, 3) := by decide +kernel
theorem dX12_market_9 : decode cX12_market 9 = .ok (.ifCond .eq 25, 3) := by decide +kernel
theorem dX12_market_12 : decode cX12_market 12 = .ok (.iload_n 2, 1) := by decide +kernel
theorem dX12_market_13 : decode cX12_market 13 = .ok (.i2l, 1) := by decide +kernel
theorem dX12_market_14 : decode cX12_market 14 = .ok (.lconst 0, 1) := by decide +kernel
theorem dX12_market_15 : decode cX12_market 15 = .ok (.ldc2_w 215, 3) := by decide +kernel
theorem dX12_market_18 : decode cX12_market 18 = .ok (.invokestatic 67, 3) := by decide +kernel
theorem dX12_market_21 : decode cX12_market 21 = .ok (.ifCond .eq 13, 3) := by decide +kernel
theorem dX12_market_24 : decode cX12_market 24 = .ok (.iload_n 3, 1) := by decide +kernel
theorem dX12_market_25 : decode cX12_market 25 = .ok (.i2l, 1) := by decide +kernel
theorem dX12_market_26 : decode cX12_market 26 = .ok (.lconst 0, 1) := by decide +kernel
theorem dX12_market_27 : decode cX12_market 27 = .ok (.lconst 1, 1) := by decide +kernel
theorem dX12_market_28 : decode cX12_market 28 = .ok (.invokestatic 67, 3) := by decide +kernel
theorem dX12_market_31 : decode cX12_market 31 = .ok (.ifCond .ne 5, 3) := by decide +kernel
theorem dX12_market_34 : decode cX12_market 34 = .ok (.iconst (-1), 1) := by decide +kernel
theorem dX12_market_35 : decode cX12_market 35 = .ok (.ireturn, 1) := by decide +kernel
theorem dX12_market_36 : decode cX12_market 36 = .ok (.iload_n 1, 1) := by decide +kernel
theorem dX12_market_37 : decode cX12_market 37 = .ok (.istore 4, 2) := by decide +kernel
theorem dX12_market_39 : decode cX12_market 39 = .ok (.iconst 0, 1) := by decide +kernel
theorem dX12_market_40 : decode cX12_market 40 = .ok (.istore 5, 2) := by decide +kernel
theorem dX12_market_42 : decode cX12_market 42 = .ok (.iconst 0, 1) := by decide +kernel
theorem dX12_market_43 : decode cX12_market 43 = .ok (.istore 6, 2) := by decide +kernel
theorem dX12_market_45 : decode cX12_market 45 = .ok (.iload 6, 2) := by decide +kernel
theorem dX12_market_47 : decode cX12_market 47 = .ok (.sipush 200, 3) := by decide +kernel
theorem dX12_market_50 : decode cX12_market 50 = .ok (.if_icmp .ge 116, 3) := by decide +kernel
theorem dX12_market_53 : decode cX12_market 53 = .ok (.aload_n 0, 1) := by decide +kernel
theorem dX12_market_54 : decode cX12_market 54 = .ok (.iload 4, 2) := by decide +kernel
theorem dX12_market_56 : decode cX12_market 56 = .ok (.invokevirtual 217, 3) := by decide +kernel
theorem dX12_market_59 : decode cX12_market 59 = .ok (.istore 7, 2) := by decide +kernel
theorem dX12_market_61 : decode cX12_market 61 = .ok (.iload 7, 2) := by decide +kernel
theorem dX12_market_63 : decode cX12_market 63 = .ok (.iload_n 2, 1) := by decide +kernel
theorem dX12_market_64 : decode cX12_market 64 = .ok (.if_icmp .ne 15, 3) := by decide +kernel
theorem dX12_market_67 : decode cX12_market 67 = .ok (.iload_n 3, 1) := by decide +kernel
theorem dX12_market_68 : decode cX12_market 68 = .ok (.ifCond .ne 8, 3) := by decide +kernel
theorem dX12_market_71 : decode cX12_market 71 = .ok (.iload 4, 2) := by decide +kernel
theorem dX12_market_73 : decode cX12_market 73 = .ok (.goto 5, 3) := by decide +kernel
theorem dX12_market_76 : decode cX12_market 76 = .ok (.iload 6, 2) := by decide +kernel
theorem dX12_market_78 : decode cX12_market 78 = .ok (.ireturn, 1) := by decide +kernel
theorem dX12_market_79 : decode cX12_market 79 = .ok (.iload 7, 2) := by decide +kernel
theorem dX12_market_81 : decode cX12_market 81 = .ok (.iload_n 2, 1) := by decide +kernel
theorem dX12_market_82 : decode cX12_market 82 = .ok (.if_icmp .le 7, 3) := by decide +kernel
theorem dX12_market_85 : decode cX12_market 85 = .ok (.iconst 1, 1) := by decide +kernel
theorem dX12_market_86 : decode cX12_market 86 = .ok (.goto 4, 3) := by decide +kernel
theorem dX12_market_89 : decode cX12_market 89 = .ok (.iconst (-1), 1) := by decide +kernel
theorem dX12_market_90 : decode cX12_market 90 = .ok (.istore 8, 2) := by decide +kernel
theorem dX12_market_92 : decode cX12_market 92 = .ok (.iload 5, 2) := by decide +kernel
theorem dX12_market_94 : decode cX12_market 94 = .ok (.ifCond .eq 10, 3) := by decide +kernel
theorem dX12_market_97 : decode cX12_market 97 = .ok (.iload 8, 2) := by decide +kernel
theorem dX12_market_99 : decode cX12_market 99 = .ok (.iload 5, 2) := by decide +kernel
theorem dX12_market_101 : decode cX12_market 101 = .ok (.if_icmp .ne 22, 3) := by decide +kernel
theorem dX12_market_104 : decode cX12_market 104 = .ok (.iload 4, 2) := by decide +kernel
theorem dX12_market_106 : decode cX12_market 106 = .ok (.iload 8, 2) := by decide +kernel
theorem dX12_market_108 : decode cX12_market 108 = .ok (.iadd, 1) := by decide +kernel
theorem dX12_market_109 : decode cX12_market 109 = .ok (.bipush 99, 2) := by decide +kernel
theorem dX12_market_111 : decode cX12_market 111 = .ok (.if_icmp .gt 12, 3) := by decide +kernel
theorem dX12_market_114 : decode cX12_market 114 = .ok (.iload 4, 2) := by decide +kernel
theorem dX12_market_116 : decode cX12_market 116 = .ok (.iload 8, 2) := by decide +kernel
theorem dX12_market_118 : decode cX12_market 118 = .ok (.iadd, 1) := by decide +kernel
theorem dX12_market_119 : decode cX12_market 119 = .ok (.iconst 1, 1) := by decide +kernel
theorem dX12_market_120 : decode cX12_market 120 = .ok (.if_icmp .ge 7, 3) := by decide +kernel
theorem dX12_market_123 : decode cX12_market 123 = .ok (.iconst 1, 1) := by decide +kernel
theorem dX12_market_124 : decode cX12_market 124 = .ok (.goto 4, 3) := by decide +kernel
theorem dX12_market_127 : decode cX12_market 127 = .ok (.iconst 0, 1) := by decide +kernel
theorem dX12_market_128 : decode cX12_market 128 = .ok (.istore 9, 2) := by decide +kernel
theorem dX12_market_130 : decode cX12_market 130 = .ok (.iload 9, 2) := by decide +kernel
theorem dX12_market_132 : decode cX12_market 132 = .ok (.ifCond .eq 17, 3) := by decide +kernel
theorem dX12_market_135 : decode cX12_market 135 = .ok (.iload_n 3, 1) := by decide +kernel
theorem dX12_market_136 : decode cX12_market 136 = .ok (.ifCond .ne 8, 3) := by decide +kernel
theorem dX12_market_139 : decode cX12_market 139 = .ok (.bipush (-4), 2) := by decide +kernel
theorem dX12_market_141 : decode cX12_market 141 = .ok (.goto 7, 3) := by decide +kernel
theorem dX12_market_144 : decode cX12_market 144 = .ok (.iload 6, 2) := by decide +kernel
theorem dX12_market_146 : decode cX12_market 146 = .ok (.iconst 1, 1) := by decide +kernel
theorem dX12_market_147 : decode cX12_market 147 = .ok (.iadd, 1) := by decide +kernel
theorem dX12_market_148 : decode cX12_market 148 = .ok (.ireturn, 1) := by decide +kernel
theorem dX12_market_149 : decode cX12_market 149 = .ok (.iload 8, 2) := by decide +kernel
theorem dX12_market_151 : decode cX12_market 151 = .ok (.istore 5, 2) := by decide +kernel
theorem dX12_market_153 : decode cX12_market 153 = .ok (.iload 4, 2) := by decide +kernel
theorem dX12_market_155 : decode cX12_market 155 = .ok (.iload 8, 2) := by decide +kernel
theorem dX12_market_157 : decode cX12_market 157 = .ok (.iadd, 1) := by decide +kernel
theorem dX12_market_158 : decode cX12_market 158 = .ok (.istore 4, 2) := by decide +kernel
theorem dX12_market_160 : decode cX12_market 160 = .ok (.iinc 6 1, 3) := by decide +kernel
theorem dX12_market_163 : decode cX12_market 163 = .ok (.goto (-118), 3) := by decide +kernel
theorem dX12_market_166 : decode cX12_market 166 = .ok (.bipush (-4), 2) := by decide +kernel
theorem dX12_market_168 : decode cX12_market 168 = .ok (.ireturn, 1) := by decide +kernel
set_option maxRecDepth 20000 in
theorem ggX12_fair_X12_changed : GoodIn wsX12_fair wsX12_changed := goodIn_r _ [5, 6, 7, 8, 9, 10, 11, 12, 13, 14, 15, 16, 17, 18, 19, 20, 21, 22, 23, 24, 25, 26, 27, 28, 29, 30, 31, 32] (by decide +kernel) (by decide +kernel)
set_option maxRecDepth 20000 in
theorem gX12_fair_X12_changed : GoodIn wsX12_fair (wsV RX12 88 RX12 yX12_changed wsX12_changed) := goodIn_app (goodIn_of _ (by decide +kernel)) ggX12_fair_X12_changed
theorem dX12_fair_0 : decode cX12_fair 0 = .ok (.aload_n 0, 1) := by decide +kernel
theorem dX12_fair_1 : decode cX12_fair 1 = .ok (.iconst 4, 1) := by decide +kernel
theorem dX12_fair_2 : decode cX12_fair 2 = .ok (.iconst 0, 1) := by decide +kernel
theorem dX12_fair_3 : decode cX12_fair 3 = .ok (.invokevirtual 88, 3) := by decide +kernel
theorem dX12_fair_6 : decode cX12_fair 6 = .ok (.ireturn, 1) := by decide +kernel
set_option maxRecDepth 20000 in
theorem ggX12_brothers_X12_in : GoodIn wsX12_brothers wsX12_in := goodIn_r _ [5] (by decide +kernel) (by decide +kernel)
set_option maxRecDepth 20000 in
theorem gX12_brothers_X12_in : GoodIn wsX12_brothers (va_wsS RX12 67 yX12_in wsX12_in) := goodIn_app (goodIn_of _ (by decide +kernel)) ggX12_brothers_X12_in
theorem dX12_brothers_0 : decode cX12_brothers 0 = .ok (.iload_n 1, 1) := by decide +kernel
theorem dX12_brothers_1 : decode cX12_brothers 1 = .ok (.i2l, 1) := by decide +kernel
theorem dX12_brothers_2 : decode cX12_brothers 2 = .ok (.lconst 0, 1) := by decide +kernel
theorem dX12_brothers_3 : decode cX12_brothers 3 = .ok (.iconst 1, 1) := by decide +kernel
theorem dX12_brothers_4 : decode cX12_brothers 4 = .ok (.aload_n 0, 1) := by decide +kernel
theorem dX12_brothers_5 : decode cX12_brothers 5 = .ok (.getfield 7, 3) := by decide +kernel
theorem dX12_brothers_8 : decode cX12_brothers 8 = .ok (.iconst 0, 1) := by decide +kernel
theorem dX12_brothers_9 : decode cX12_brothers 9 = .ok (.iaload, 1) := by decide +kernel
theorem dX12_brothers_10 : decode cX12_brothers 10 = .ok (.ishl, 1) := by decide +kernel
theorem dX12_brothers_11 : decode cX12_brothers 11 = .ok (.iconst 1, 1) := by decide +kernel
theorem dX12_brothers_12 : decode cX12_brothers 12 = .ok (.isub, 1) := by decide +kernel
theorem dX12_brothers_13 : decode cX12_brothers 13 = .ok (.i2l, 1) := by decide +kernel
