theorem dX5_in_0 : decode cX5_in 0 = .ok (.lload_n 0, 1) := by decide +kernel
theorem dX5_in_1 : decode cX5_in 1 = .ok (.lload_n 2, 1) := by decide +kernel
theorem dX5_in_2 : decode cX5_in 2 = .ok (.lcmp, 1) := by decide +kernel
theorem dX5_in_3 : decode cX5_in 3 = .ok (.ifCond .lt 14, 3) := by decide +kernel
theorem dX5_in_6 : decode cX5_in 6 = .ok (.lload_n 0, 1) := by decide +kernel
theorem dX5_in_7 : decode cX5_in 7 = .ok (.lload 4, 2) := by decide +kernel
theorem dX5_in_9 : decode cX5_in 9 = .ok (.lcmp, 1) := by decide +kernel
theorem dX5_in_10 : decode cX5_in 10 = .ok (.ifCond .gt 7, 3) := by decide +kernel
theorem dX5_in_13 : decode cX5_in 13 = .ok (.iconst 1, 1) := by decide +kernel
theorem dX5_in_14 : decode cX5_in 14 = .ok (.goto 4, 3) := by decide +kernel
theorem dX5_in_17 : decode cX5_in 17 = .ok (.iconst 0, 1) := by decide +kernel
theorem dX5_in_18 : decode cX5_in 18 = .ok (.ireturn, 1) := by decide +kernel
theorem dX5_greater_0 : decode cX5_greater 0 = .ok (.iload_n 0, 1) := by decide +kernel
theorem dX5_greater_1 : decode cX5_greater 1 = .ok (.iload_n 1, 1) := by decide +kernel
theorem dX5_greater_2 : decode cX5_greater 2 = .ok (.if_icmp .le 7, 3) := by decide +kernel
theorem dX5_greater_5 : decode cX5_greater 5 = .ok (.iload_n 0, 1) := by decide +kernel
theorem dX5_greater_6 : decode cX5_greater 6 = .ok (.goto 4, 3) := by decide +kernel
theorem dX5_greater_9 : decode cX5_greater 9 = .ok (.iload_n 1, 1) := by decide +kernel
theorem dX5_greater_10 : decode cX5_greater 10 = .ok (.ireturn, 1) := by decide +kernel
theorem dX5_init_0 : decode cX5_init 0 = .ok (.aload_n 0, 1) := by decide +kernel
theorem dX5_init_1 : decode cX5_init 1 = .ok (.invokespecial 1, 3) := by decide +kernel
theorem dX5_init_4 : decode cX5_init 4 = .ok (.aload_n 0, 1) := by decide +kernel
theorem dX5_init_5 : decode cX5_init 5 = .ok (.iconst 3, 1) := by decide +kernel
theorem dX5_init_6 : decode cX5_init 6 = .ok (.putfield 7, 3) := by decide +kernel
theorem dX5_init_9 : decode cX5_init 9 = .ok (.aload_n 0, 1) := by decide +kernel
theorem dX5_init_10 : decode cX5_init 10 = .ok (.iconst 3, 1) := by decide +kernel
theorem dX5_init_11 : decode cX5_init 11 = .ok (.putfield 13, 3) := by decide +kernel
theorem dX5_init_14 : decode cX5_init 14 = .ok (.aload_n 0, 1) := by decide +kernel
theorem dX5_init_15 : decode cX5_init 15 = .ok (.bipush 36, 2) := by decide +kernel
theorem dX5_init_17 : decode cX5_init 17 = .ok (.newarray .int, 2) := by decide +kernel
theorem dX5_init_19 : decode cX5_init 19 = .ok (.putfield 16, 3) := by decide +kernel
theorem dX5_init_22 : decode cX5_init 22 = .ok (.aload_n 0, 1) := by decide +kernel
theorem dX5_init_23 : decode cX5_init 23 = .ok (.iconst 4, 1) := by decide +kernel
theorem dX5_init_24 : decode cX5_init 24 = .ok (.newarray .int, 2) := by decide +kernel
theorem dX5_init_26 : decode cX5_init 26 = .ok (.putfield 20, 3) := by decide +kernel
theorem dX5_init_29 : decode cX5_init 29 = .ok (.aload_n 0, 1) := by decide +kernel
theorem dX5_init_30 : decode cX5_init 30 = .ok (.iconst 4, 1) := by decide +kernel
theorem dX5_init_31 : decode cX5_init 31 = .ok (.newarray .int, 2) := by decide +kernel
theorem dX5_init_33 : decode cX5_init 33 = .ok (.putfield 23, 3) := by decide +kernel
theorem dX5_init_36 : decode cX5_init 36 = .ok (.aload_n 0, 1) := by decide +kernel
theorem dX5_init_37 : decode cX5_init 37 = .ok (.sipush 144, 3) := by decide +kernel
theorem dX5_init_40 : decode cX5_init 40 = .ok (.newarray .int, 2) := by decide +kernel
theorem dX5_init_42 : decode cX5_init 42 = .ok (.putfield 26, 3) := by decide +kernel
theorem dX5_init_45 : decode cX5_init 45 = .ok (.aload_n 0, 1) := by decide +kernel
theorem dX5_init_46 : decode cX5_init 46 = .ok (.bipush 36, 2) := by decide +kernel
theorem dX5_init_48 : decode cX5_init 48 = .ok (.newarray .int, 2) := by decide +kernel
theorem dX5_init_50 : decode cX5_init 50 = .ok (.putfield 29, 3) := by decide +kernel
theorem dX5_init_53 : decode cX5_init 53 = .ok (.aload_n 0, 1) := by decide +kernel
theorem dX5_init_54 : decode cX5_init 54 = .ok (.sipush 294, 3) := by decide +kernel
theorem dX5_init_57 : decode cX5_init 57 = .ok (.newarray .int, 2) := by decide +kernel
theorem dX5_init_59 : decode cX5_init 59 = .ok (.putfield 32, 3) := by decide +kernel
theorem dX5_init_62 : decode cX5_init 62 = .ok (.aload_n 0, 1) := by decide +kernel
theorem dX5_init_63 : decode cX5_init 63 = .ok (.bipush 36, 2) := by decide +kernel
theorem dX5_init_65 : decode cX5_init 65 = .ok (.newarray .long, 2) := by decide +kernel
theorem dX5_init_67 : decode cX5_init 67 = .ok (.putfield 35, 3) := by decide +kernel
theorem dX5_init_70 : decode cX5_init 70 = .ok (.aload_n 0, 1) := by decide +kernel
theorem dX5_init_71 : decode cX5_init 71 = .ok (.bipush 40, 2) := by decide +kernel
theorem dX5_init_73 : decode cX5_init 73 = .ok (.newarray .int, 2) := by decide +kernel
theorem dX5_init_75 : decode cX5_init 75 = .ok (.putfield 39, 3) := by decide +kernel
theorem dX5_init_78 : decode cX5_init 78 = .ok (.aload_n 0, 1) := by decide +kernel
theorem dX5_init_79 : decode cX5_init 79 = .ok (.sipush 360, 3) := by decide +kernel
theorem dX5_init_82 : decode cX5_init 82 = .ok (.newarray .int, 2) := by decide +kernel
theorem dX5_init_84 : decode cX5_init 84 = .ok (.putfield 42, 3) := by decide +kernel
theorem dX5_init_87 : decode cX5_init 87 = .ok (.aload_n 0, 1) := by decide +kernel
theorem dX5_init_88 : decode cX5_init 88 = .ok (.sipush 360, 3) := by decide +kernel
theorem dX5_init_91 : decode cX5_init 91 = .ok (.newarray .int, 2) := by decide +kernel
theorem dX5_init_93 : decode cX5_init 93 = .ok (.putfield 45, 3) := by decide +kernel
theorem dX5_init_96 : decode cX5_init 96 = .ok (.aload_n 0, 1) := by decide +kernel
theorem dX5_init_97 : decode cX5_init 97 = .ok (.bipush 9, 2) := by decide +kernel
theorem dX5_init_99 : decode cX5_init 99 = .ok (.newarray .int, 2) := by decide +kernel
theorem dX5_init_101 : decode cX5_init 101 = .ok (.putfield 48, 3) := by decide +kernel
theorem dX5_init_104 : decode cX5_init 104 = .ok (.aload_n 0, 1) := by decide +kernel
theorem dX5_init_105 : decode cX5_init 105 = .ok (.bipush 40, 2) := by decide +kernel
theorem dX5_init_107 : decode cX5_init 107 = .ok (.newarray .int, 2) := by decide +kernel
theorem dX5_init_109 : decode cX5_init 109 = .ok (.putfield 51, 3) := by decide +kernel
theorem dX5_init_112 : decode cX5_init 112 = .ok (.aload_n 0, 1) := by decide +kernel
theorem dX5_init_113 : decode cX5_init 113 = .ok (.sipush 360, 3) := by decide +kernel
theorem dX5_init_116 : decode cX5_init 116 = .ok (.newarray .int, 2) := by decide +kernel
theorem dX5_init_118 : decode cX5_init 118 = .ok (.putfield 54, 3) := by decide +kernel
theorem dX5_init_121 : decode cX5_init 121 = .ok (.aload_n 0, 1) := by decide +kernel
theorem dX5_init_122 : decode cX5_init 122 = .ok (.sipush 360, 3) := by decide +kernel
theorem dX5_init_125 : decode cX5_init 125 = .ok (.newarray .int, 2) := by decide +kernel
theorem dX5_init_127 : decode cX5_init 127 = .ok (.putfield 57, 3) := by decide +kernel
theorem dX5_init_130 : decode cX5_init 130 = .ok (.aload_n 0, 1) := by decide +kernel
theorem dX5_init_131 : decode cX5_init 131 = .ok (.bipush 9, 2) := by decide +kernel
theorem dX5_init_133 : decode cX5_init 133 = .ok (.newarray .int, 2) := by decide +kernel
theorem dX5_init_135 : decode cX5_init 135 = .ok (.putfield 60, 3) := by decide +kernel
theorem dX5_init_138 : decode cX5_init 138 = .ok (.aload_n 0, 1) := by decide +kernel
theorem dX5_init_139 : decode cX5_init 139 = .ok (.bipush 9, 2) := by decide +kernel
theorem dX5_init_141 : decode cX5_init 141 = .ok (.newarray .int, 2) := by decide +kernel
theorem dX5_init_143 : decode cX5_init 143 = .ok (.putfield 63, 3) := by decide +kernel
theorem dX5_init_146 : decode cX5_init 146 = .ok (.aload_n 0, 1) := by decide +kernel
theorem dX5_init_147 : decode cX5_init 147 = .ok (.bipush 41, 2) := by decide +kernel
theorem dX5_init_149 : decode cX5_init 149 = .ok (.newarray .boolean, 2) := by decide +kernel
theorem dX5_init_151 : decode cX5_init 151 = .ok (.putfield 66, 3) := by decide +kernel
theorem dX5_init_154 : decode cX5_init 154 = .ok (.aload_n 0, 1) := by decide +kernel
theorem dX5_init_155 : decode cX5_init 155 = .ok (.sipush 729, 3) := by decide +kernel
theorem dX5_init_158 : decode cX5_init 158 = .ok (.newarray .long, 2) := by decide +kernel
theorem dX5_init_160 : decode cX5_init 160 = .ok (.putfield 70, 3) := by decide +kernel
theorem dX5_init_163 : decode cX5_init 163 = .ok (.aload_n 0, 1) := by decide +kernel
theorem dX5_init_164 : decode cX5_init 164 = .ok (.sipush 729, 3) := by decide +kernel
theorem dX5_init_167 : decode cX5_init 167 = .ok (.newarray .long, 2) := by decide +kernel
theorem dX5_init_169 : decode cX5_init 169 = .ok (.putfield 73, 3) := by decide +kernel
theorem dX5_init_172 : decode cX5_init 172 = .ok (.iconst 0, 1) := by decide +kernel
theorem dX5_init_173 : decode cX5_init 173 = .ok (.istore_n 1, 1) := by decide +kernel
theorem dX5_init_174 : decode cX5_init 174 = .ok (.iload_n 1, 1) := by decide +kernel
theorem dX5_init_175 : decode cX5_init 175 = .ok (.iconst 4, 1) := by decide +kernel
theorem dX5_init_176 : decode cX5_init 176 = .ok (.if_icmp .ge 16, 3) := by decide +kernel
theorem dX5_init_179 : decode cX5_init 179 = .ok (.aload_n 0, 1) := by decide +kernel
theorem dX5_init_180 : decode cX5_init 180 = .ok (.getfield 20, 3) := by decide +kernel
theorem dX5_init_183 : decode cX5_init 183 = .ok (.iload_n 1, 1) := by decide +kernel
theorem dX5_init_184 : decode cX5_init 184 = .ok (.iconst (-1), 1) := by decide +kernel
theorem dX5_init_185 : decode cX5_init 185 = .ok (.iastore, 1) := by decide +kernel
theorem dX5_init_186 : decode cX5_init 186 = .ok (.iinc 1 1, 3) := by decide +kernel
theorem dX5_init_189 : decode cX5_init 189 = .ok (.goto (-15), 3) := by decide +kernel
theorem dX5_init_192 : decode cX5_init 192 = .ok (.return_, 1) := by decide +kernel
set_option maxRecDepth 20000 in
theorem ggX5_isPlace_X5_in : GoodIn wsX5_isPlace wsX5_in := goodIn_r _ [6] (by decide +kernel) (by decide +kernel)
set_option maxRecDepth 20000 in
theorem gX5_isPlace_X5_in : GoodIn wsX5_isPlace (va_wsS RX5 76 yX5_in wsX5_in) := goodIn_app (goodIn_of _ (by decide +kernel)) ggX5_isPlace_X5_in
theorem dX5_isPlace_0 : decode cX5_isPlace 0 = .ok (.iload_n 1, 1) := by decide +kernel
theorem dX5_isPlace_1 : decode cX5_isPlace 1 = .ok (.i2l, 1) := by decide +kernel
theorem dX5_isPlace_2 : decode cX5_isPlace 2 = .ok (.lconst 0, 1) := by decide +kernel
theorem dX5_isPlace_3 : decode cX5_isPlace 3 = .ok (.aload_n 0, 1) := by decide +kernel
theorem dX5_isPlace_4 : decode cX5_isPlace 4 = .ok (.getfield 7, 3) := by decide +kernel
theorem dX5_isPlace_7 : decode cX5_isPlace 7 = .ok (.iconst 1, 1) := by decide +kernel
theorem dX5_isPlace_8 : decode cX5_isPlace 8 = .ok (.isub, 1) := by decide +kernel
theorem dX5_isPlace_9 : decode cX5_isPlace 9 = .ok (.i2l, 1) := by decide +kernel
theorem dX5_isPlace_10 : decode cX5_isPlace 10 = .ok (.invokestatic 76, 3) := by decide +kernel
theorem dX5_isPlace_13 : decode cX5_isPlace 13 = .ok (.ifCond .eq 23, 3) := by decide +kernel
theorem dX5_isPlace_16 : decode cX5_isPlace 16 = .ok (.iload_n 2, 1) := by decide +kernel
theorem dX5_isPlace_17 : decode cX5_isPlace 17 = .ok (.i2l, 1) := by decide +kernel
theorem dX5_isPlace_18 : decode cX5_isPlace 18 = .ok (.lconst 0, 1) := by decide +kernel
theorem dX5_isPlace_19 : decode cX5_isPlace 19 = .ok (.aload_n 0, 1) := by decide +kernel
theorem dX5_isPlace_20 : decode cX5_isPlace 20 = .ok (.getfield 13, 3) := by decide +kernel
theorem dX5_isPlace_23 : decode cX5_isPlace 23 = .ok (.iconst 1, 1) := by decide +kernel
theorem dX5_isPlace_24 : decode cX5_isPlace 24 = .ok (.isub, 1) := by decide +kernel
theorem dX5_isPlace_25 : decode cX5_isPlace 25 = .ok (.i2l, 1) := by decide +kernel
theorem dX5_isPlace_26 : decode cX5_isPlace 26 = .ok (.invokestatic 76, 3) := by decide +kernel
theorem dX5_isPlace_29 : decode cX5_isPlace 29 = .ok (.ifCond .eq 7, 3) := by decide +kernel
theorem dX5_isPlace_32 : decode cX5_isPlace 32 = .ok (.iconst 1, 1) := by decide +kernel
theorem dX5_isPlace_33 : decode cX5_isPlace 33 = .ok (.goto 4, 3) := by decide +kernel
theorem dX5_isPlace_36 : decode cX5_isPlace 36 = .ok (.iconst 0, 1) := by decide +kernel
theorem dX5_isPlace_37 : decode cX5_isPlace 37 = .ok (.ireturn, 1) := by decide +kernel
set_option maxRecDepth 20000 in
theorem ggX5_box_X5_in : GoodIn wsX5_box wsX5_in := goodIn_r _ [8] (by decide +kernel) (by decide +kernel)
set_option maxRecDepth 20000 in
theorem gX5_box_X5_in : GoodIn wsX5_box (va_wsS RX5 76 yX5_in wsX5_in) := goodIn_app (goodIn_of _ (by decide +kernel)) ggX5_box_X5_in
theorem dX5_box_0 : decode cX5_box 0 = .ok (.iload_n 1, 1) := by decide +kernel
theorem dX5_box_1 : decode cX5_box 1 = .ok (.i2l, 1) := by decide +kernel
theorem dX5_box_2 : decode cX5_box 2 = .ok (.lconst 1, 1) := by decide +kernel
theorem dX5_box_3 : decode cX5_box 3 = .ok (.ldc2_w 80, 3) := by decide +kernel
theorem dX5_box_6 : decode cX5_box 6 = .ok (.invokestatic 76, 3) := by decide +kernel
theorem dX5_box_9 : decode cX5_box 9 = .ok (.ifCond .eq 15, 3) := by decide +kernel
theorem dX5_box_12 : decode cX5_box 12 = .ok (.iload_n 2, 1) := by decide +kernel
theorem dX5_box_13 : decode cX5_box 13 = .ok (.i2l, 1) := by decide +kernel
theorem dX5_box_14 : decode cX5_box 14 = .ok (.lconst 1, 1) := by decide +kernel
theorem dX5_box_15 : decode cX5_box 15 = .ok (.ldc2_w 80, 3) := by decide +kernel
theorem dX5_box_18 : decode cX5_box 18 = .ok (.invokestatic 76, 3) := by decide +kernel
theorem dX5_box_21 : decode cX5_box 21 = .ok (.ifCond .ne 5, 3) := by decide +kernel
theorem dX5_box_24 : decode cX5_box 24 = .ok (.iconst (-1), 1) := by decide +kernel
theorem dX5_box_25 : decode cX5_box 25 = .ok (.ireturn, 1) := by decide +kernel
theorem dX5_box_26 : decode cX5_box 26 = .ok (.aload_n 0, 1) := by decide +kernel
theorem dX5_box_27 : decode cX5_box 27 = .ok (.iload_n 1, 1) := by decide +kernel
theorem dX5_box_28 : decode cX5_box 28 = .ok (.putfield 7, 3) := by decide +kernel
theorem dX5_box_31 : decode cX5_box 31 = .ok (.aload_n 0, 1) := by decide +kernel
theorem dX5_box_32 : decode cX5_box 32 = .ok (.iload_n 2, 1) := by decide +kernel
theorem dX5_box_33 : decode cX5_box 33 = .ok (.putfield 13, 3) := by decide +kernel
theorem dX5_box_36 : decode cX5_box 36 = .ok (.iconst 0, 1) := by decide +kernel
theorem dX5_box_37 : decode cX5_box 37 = .ok (.istore_n 3, 1) := by decide +kernel
theorem dX5_box_38 : decode cX5_box 38 = .ok (.iload_n 3, 1) := by decide +kernel
theorem dX5_box_39 : decode cX5_box 39 = .ok (.bipush 36, 2) := by decide +kernel
theorem dX5_box_41 : decode cX5_box 41 = .ok (.if_icmp .ge 16, 3) := by decide +kernel
theorem dX5_box_44 : decode cX5_box 44 = .ok (.aload_n 0, 1) := by decide +kernel
theorem dX5_box_45 : decode cX5_box 45 = .ok (.getfield 16, 3) := by decide +kernel
theorem dX5_box_48 : decode cX5_box 48 = .ok (.iload_n 3, 1) := by decide +kernel
theorem dX5_box_49 : decode cX5_box 49 = .ok (.iconst 0, 1) := by decide +kernel
theorem dX5_box_50 : decode cX5_box 50 = .ok (.iastore, 1) := by decide +kernel
theorem dX5_box_51 : decode cX5_box 51 = .ok (.iinc 3 1, 3) := by decide +kernel
theorem dX5_box_54 : decode cX5_box 54 = .ok (.goto (-16), 3) := by decide +kernel
theorem dX5_box_57 : decode cX5_box 57 = .ok (.iconst 1, 1) := by decide +kernel
theorem dX5_box_58 : decode cX5_box 58 = .ok (.ireturn, 1) := by decide +kernel
set_option maxRecDepth 20000 in
theorem ggX5_weight_X5_isPlace : GoodIn wsX5_weight wsX5_isPlace := goodIn_r _ [7, 8, 9, 10, 11, 6, 12, 13, 14, 15, 16, 17, 18, 19, 20, 21, 22, 23, 24, 25, 26, 27, 28, 29, 30, 31, 32, 33, 34] (by decide +kernel) (by decide +kernel)
set_option maxRecDepth 20000 in
theorem gX5_weight_X5_isPlace : GoodIn wsX5_weight (wsV RX5 82 RX5 yX5_isPlace wsX5_isPlace) := goodIn_app (goodIn_of _ (by decide +kernel)) ggX5_weight_X5_isPlace
set_option maxRecDepth 20000 in
theorem ggX5_weight_X5_in : GoodIn wsX5_weight wsX5_in := goodIn_r _ [12] (by decide +kernel) (by decide +kernel)
set_option maxRecDepth 20000 in
theorem gX5_weight_X5_in : GoodIn wsX5_weight (va_wsS RX5 76 yX5_in wsX5_in) := goodIn_app (goodIn_of _ (by decide +kernel)) ggX5_weight_X5_in
theorem dX5_weight_0 : decode cX5_weight 0 = .ok (.aload_n 0, 1) := by decide +kernel
theorem dX5_weight_1 : decode cX5_weight 1 = .ok (.iload_n 1, 1) := by decide +kernel
theorem dX5_weight_2 : decode cX5_weight 2 = .ok (.iload_n 2, 1) := by decide +kernel
theorem dX5_weight_3 : decode cX5_weight 3 = .ok (.invokevirtual 82, 3) := by decide +kernel
theorem dX5_weight_6 : decode cX5_weight 6 = .ok (.ifCond .eq 15, 3) := by decide +kernel
theorem dX5_weight_9 : decode cX5_weight 9 = .ok (.iload_n 3, 1) := by decide +kernel
theorem dX5_weight_10 : decode cX5_weight 10 = .ok (.i2l, 1) := by decide +kernel
theorem dX5_weight_11 : decode cX5_weight 11 = .ok (.lconst 0, 1) := by decide +kernel
theorem dX5_weight_12 : decode cX5_weight 12 = .ok (.ldc2_w 86, 3) := by decide +kernel
theorem dX5_weight_15 : decode cX5_weight 15 = .ok (.invokestatic 76, 3) := by decide +kernel
theorem dX5_weight_18 : decode cX5_weight 18 = .ok (.ifCond .ne 5, 3) := by decide +kernel
theorem dX5_weight_21 : decode cX5_weight 21 = .ok (.iconst (-1), 1) := by decide +kernel
theorem dX5_weight_22 : decode cX5_weight 22 = .ok (.ireturn, 1) := by decide +kernel
theorem dX5_weight_23 : decode cX5_weight 23 = .ok (.aload_n 0, 1) := by decide +kernel
theorem dX5_weight_24 : decode cX5_weight 24 = .ok (.getfield 16, 3) := by decide +kernel
theorem dX5_weight_27 : decode cX5_weight 27 = .ok (.bipush 6, 2) := by decide +kernel
theorem dX5_weight_29 : decode cX5_weight 29 = .ok (.iload_n 1, 1) := by decide +kernel
theorem dX5_weight_30 : decode cX5_weight 30 = .ok (.imul, 1) := by decide +kernel
theorem dX5_weight_31 : decode cX5_weight 31 = .ok (.iload_n 2, 1) := by decide +kernel
theorem dX5_weight_32 : decode cX5_weight 32 = .ok (.iadd, 1) := by decide +kernel
theorem dX5_weight_33 : decode cX5_weight 33 = .ok (.iaload, 1) := by decide +kernel
theorem dX5_weight_34 : decode cX5_weight 34 = .ok (.istore 4, 2) := by decide +kernel
theorem dX5_weight_36 : decode cX5_weight 36 = .ok (.aload_n 0, 1) := by decide +kernel
theorem dX5_weight_37 : decode cX5_weight 37 = .ok (.getfield 16, 3) := by decide +kernel
theorem dX5_weight_40 : decode cX5_weight 40 = .ok (.bipush 6, 2) := by decide +kernel
theorem dX5_weight_42 : decode cX5_weight 42 = .ok (.iload_n 1, 1) := by decide +kernel
theorem dX5_weight_43 : decode cX5_weight 43 = .ok (.imul, 1) := by decide +kernel
theorem dX5_weight_44 : decode cX5_weight 44 = .ok (.iload_n 2, 1) := by decide +kernel
theorem dX5_weight_45 : decode cX5_weight 45 = .ok (.iadd, 1) := by decide +kernel
theorem dX5_weight_46 : decode cX5_weight 46 = .ok (.iload_n 3, 1) := by decide +kernel
theorem dX5_weight_47 : decode cX5_weight 47 = .ok (.iastore, 1) := by decide +kernel
theorem dX5_weight_48 : decode cX5_weight 48 = .ok (.iload 4, 2) := by decide +kernel
theorem dX5_weight_50 : decode cX5_weight 50 = .ok (.ireturn, 1) := by decide +kernel
set_option maxRecDepth 20000 in
theorem ggX5_isSheet_X5_in : GoodIn wsX5_isSheet wsX5_in := goodIn_r _ [5] (by decide +kernel) (by decide +kernel)
set_option maxRecDepth 20000 in
theorem gX5_isSheet_X5_in : GoodIn wsX5_isSheet (va_wsS RX5 76 yX5_in wsX5_in) := goodIn_app (goodIn_of _ (by decide +kernel)) ggX5_isSheet_X5_in
theorem dX5_isSheet_0 : decode cX5_isSheet 0 = .ok (.iload_n 0, 1) := by decide +kernel
theorem dX5_isSheet_1 : decode cX5_isSheet 1 = .ok (.i2l, 1) := by decide +kernel
theorem dX5_isSheet_2 : decode cX5_isSheet 2 = .ok (.lconst 0, 1) := by decide +kernel
theorem dX5_isSheet_3 : decode cX5_isSheet 3 = .ok (.ldc2_w 88, 3) := by decide +kernel
theorem dX5_isSheet_6 : decode cX5_isSheet 6 = .ok (.invokestatic 76, 3) := by decide +kernel
theorem dX5_isSheet_9 : decode cX5_isSheet 9 = .ok (.ifCond .eq 17, 3) := by decide +kernel
theorem dX5_isSheet_12 : decode cX5_isSheet 12 = .ok (.iload_n 1, 1) := by decide +kernel
theorem dX5_isSheet_13 : decode cX5_isSheet 13 = .ok (.i2l, 1) := by decide +kernel
theorem dX5_isSheet_14 : decode cX5_isSheet 14 = .ok (.lconst 0, 1) := by decide +kernel
theorem dX5_isSheet_15 : decode cX5_isSheet 15 = .ok (.lconst 1, 1) := by decide +kernel
theorem dX5_isSheet_16 : decode cX5_isSheet 16 = .ok (.invokestatic 76, 3) := by decide +kernel
theorem dX5_isSheet_19 : decode cX5_isSheet 19 = .ok (.ifCond .eq 7, 3) := by decide +kernel
theorem dX5_isSheet_22 : decode cX5_isSheet 22 = .ok (.iconst 1, 1) := by decide +kernel
theorem dX5_isSheet_23 : decode cX5_isSheet 23 = .ok (.goto 4, 3) := by decide +kernel
theorem dX5_isSheet_26 : decode cX5_isSheet 26 = .ok (.iconst 0, 1) := by decide +kernel
theorem dX5_isSheet_27 : decode cX5_isSheet 27 = .ok (.ireturn, 1) := by decide +kernel
set_option maxRecDepth 20000 in
theorem ggX5_sheet_X5_isSheet : GoodIn wsX5_sheet wsX5_isSheet := goodIn_r _ [7, 8, 9, 10, 6, 11] (by decide +kernel) (by decide +kernel)
set_option maxRecDepth 20000 in
theorem gX5_sheet_X5_isSheet : GoodIn wsX5_sheet (va_wsS RX5 90 yX5_isSheet wsX5_isSheet) := goodIn_app (goodIn_of _ (by decide +kernel)) ggX5_sheet_X5_isSheet
theorem dX5_sheet_0 : decode cX5_sheet 0 = .ok (.iload_n 1, 1) := by decide +kernel
theorem dX5_sheet_1 : decode cX5_sheet 1 = .ok (.iload_n 2, 1) := by decide +kernel
theorem dX5_sheet_2 : decode cX5_sheet 2 = .ok (.invokestatic 90, 3) := by decide +kernel
theorem dX5_sheet_5 : decode cX5_sheet 5 = .ok (.ifCond .eq 9, 3) := by decide +kernel
theorem dX5_sheet_8 : decode cX5_sheet 8 = .ok (.iload_n 3, 1) := by decide +kernel
theorem dX5_sheet_9 : decode cX5_sheet 9 = .ok (.bipush 36, 2) := by decide +kernel
theorem dX5_sheet_11 : decode cX5_sheet 11 = .ok (.if_icmp .le 5, 3) := by decide +kernel
theorem dX5_sheet_14 : decode cX5_sheet 14 = .ok (.iconst (-1), 1) := by decide +kernel
theorem dX5_sheet_15 : decode cX5_sheet 15 = .ok (.ireturn, 1) := by decide +kernel
theorem dX5_sheet_16 : decode cX5_sheet 16 = .ok (.iload_n 3, 1) := by decide +kernel
theorem dX5_sheet_17 : decode cX5_sheet 17 = .ok (.ifCond .ge 6, 3) := by decide +kernel
theorem dX5_sheet_20 : decode cX5_sheet 20 = .ok (.bipush (-14), 2) := by decide +kernel
theorem dX5_sheet_22 : decode cX5_sheet 22 = .ok (.ireturn, 1) := by decide +kernel
theorem dX5_sheet_23 : decode cX5_sheet 23 = .ok (.aload_n 0, 1) := by decide +kernel
theorem dX5_sheet_24 : decode cX5_sheet 24 = .ok (.getfield 20, 3) := by decide +kernel
theorem dX5_sheet_27 : decode cX5_sheet 27 = .ok (.iload_n 1, 1) := by decide +kernel
theorem dX5_sheet_28 : decode cX5_sheet 28 = .ok (.iload_n 2, 1) := by decide +kernel
theorem dX5_sheet_29 : decode cX5_sheet 29 = .ok (.iastore, 1) := by decide +kernel
theorem dX5_sheet_30 : decode cX5_sheet 30 = .ok (.aload_n 0, 1) := by decide +kernel
theorem dX5_sheet_31 : decode cX5_sheet 31 = .ok (.getfield 23, 3) := by decide +kernel
theorem dX5_sheet_34 : decode cX5_sheet 34 = .ok (.iload_n 1, 1) := by decide +kernel
theorem dX5_sheet_35 : decode cX5_sheet 35 = .ok (.iload_n 3, 1) := by decide +kernel
theorem dX5_sheet_36 : decode cX5_sheet 36 = .ok (.iastore, 1) := by decide +kernel
theorem dX5_sheet_37 : decode cX5_sheet 37 = .ok (.iconst 0, 1) := by decide +kernel
theorem dX5_sheet_38 : decode cX5_sheet 38 = .ok (.istore 4, 2) := by decide +kernel
theorem dX5_sheet_40 : decode cX5_sheet 40 = .ok (.iload 4, 2) := by decide +kernel
theorem dX5_sheet_42 : decode cX5_sheet 42 = .ok (.bipush 36, 2) := by decide +kernel
theorem dX5_sheet_44 : decode cX5_sheet 44 = .ok (.if_icmp .ge 22, 3) := by decide +kernel
theorem dX5_sheet_47 : decode cX5_sheet 47 = .ok (.aload_n 0, 1) := by decide +kernel
theorem dX5_sheet_48 : decode cX5_sheet 48 = .ok (.getfield 26, 3) := by decide +kernel
theorem dX5_sheet_51 : decode cX5_sheet 51 = .ok (.bipush 36, 2) := by decide +kernel
theorem dX5_sheet_53 : decode cX5_sheet 53 = .ok (.iload_n 1, 1) := by decide +kernel
theorem dX5_sheet_54 : decode cX5_sheet 54 = .ok (.imul, 1) := by decide +kernel
theorem dX5_sheet_55 : decode cX5_sheet 55 = .ok (.iload 4, 2) := by decide +kernel
theorem dX5_sheet_57 : decode cX5_sheet 57 = .ok (.iadd, 1) := by decide +kernel
theorem dX5_sheet_58 : decode cX5_sheet 58 = .ok (.iconst 0, 1) := by decide +kernel
theorem dX5_sheet_59 : decode cX5_sheet 59 = .ok (.iastore, 1) := by decide +kernel
theorem dX5_sheet_60 : decode cX5_sheet 60 = .ok (.iinc 4 1, 3) := by decide +kernel
theorem dX5_sheet_63 : decode cX5_sheet 63 = .ok (.goto (-23), 3) := by decide +kernel
theorem dX5_sheet_66 : decode cX5_sheet 66 = .ok (.iload_n 3, 1) := by decide +kernel
theorem dX5_sheet_67 : decode cX5_sheet 67 = .ok (.ireturn, 1) := by decide +kernel
set_option maxRecDepth 20000 in
theorem ggX5_drop_X5_in : GoodIn wsX5_drop wsX5_in := goodIn_r _ [7] (by decide +kernel) (by decide +kernel)
set_option maxRecDepth 20000 in
theorem gX5_drop_X5_in : GoodIn wsX5_drop (va_wsS RX5 76 yX5_in wsX5_in) := goodIn_app (goodIn_of _ (by decide +kernel)) ggX5_drop_X5_in
theorem dX5_drop_0 : decode cX5_drop 0 = .ok (.iload_n 1, 1) := by decide +kernel
theorem dX5_drop_1 : decode cX5_drop 1 = .ok (.i2l, 1) := by decide +kernel
theorem dX5_drop_2 : decode cX5_drop 2 = .ok (.lconst 0, 1) := by decide +kernel
theorem dX5_drop_3 : decode cX5_drop 3 = .ok (.ldc2_w 88, 3) := by decide +kernel
theorem dX5_drop_6 : decode cX5_drop 6 = .ok (.invokestatic 76, 3) := by decide +kernel
theorem dX5_drop_9 : decode cX5_drop 9 = .ok (.ifCond .ne 5, 3) := by decide +kernel
theorem dX5_drop_12 : decode cX5_drop 12 = .ok (.iconst (-1), 1) := by decide +kernel
theorem dX5_drop_13 : decode cX5_drop 13 = .ok (.ireturn, 1) := by decide +kernel
theorem dX5_drop_14 : decode cX5_drop 14 = .ok (.aload_n 0, 1) := by decide +kernel
theorem dX5_drop_15 : decode cX5_drop 15 = .ok (.getfield 20, 3) := by decide +kernel
theorem dX5_drop_18 : decode cX5_drop 18 = .ok (.iload_n 1, 1) := by decide +kernel
theorem dX5_drop_19 : decode cX5_drop 19 = .ok (.iaload, 1) := by decide +kernel
theorem dX5_drop_20 : decode cX5_drop 20 = .ok (.ifCond .ge 6, 3) := by decide +kernel
theorem dX5_drop_23 : decode cX5_drop 23 = .ok (.bipush (-11), 2) := by decide +kernel
theorem dX5_drop_25 : decode cX5_drop 25 = .ok (.ireturn, 1) := by decide +kernel
theorem dX5_drop_26 : decode cX5_drop 26 = .ok (.aload_n 0, 1) := by decide +kernel
theorem dX5_drop_27 : decode cX5_drop 27 = .ok (.getfield 20, 3) := by decide +kernel
theorem dX5_drop_30 : decode cX5_drop 30 = .ok (.iload_n 1, 1) := by decide +kernel
theorem dX5_drop_31 : decode cX5_drop 31 = .ok (.iconst (-1), 1) := by decide +kernel
theorem dX5_drop_32 : decode cX5_drop 32 = .ok (.iastore, 1) := by decide +kernel
theorem dX5_drop_33 : decode cX5_drop 33 = .ok (.aload_n 0, 1) := by decide +kernel
theorem dX5_drop_34 : decode cX5_drop 34 = .ok (.getfield 23, 3) := by decide +kernel
theorem dX5_drop_37 : decode cX5_drop 37 = .ok (.iload_n 1, 1) := by decide +kernel
theorem dX5_drop_38 : decode cX5_drop 38 = .ok (.iaload, 1) := by decide +kernel
theorem dX5_drop_39 : decode cX5_drop 39 = .ok (.ireturn, 1) := by decide +kernel
set_option maxRecDepth 20000 in
theorem ggX5_item_X5_isSheet : GoodIn wsX5_item wsX5_isSheet := goodIn_r _ [7, 8, 9, 10, 6, 11] (by decide +kernel) (by decide +kernel)
set_option maxRecDepth 20000 in
theorem gX5_item_X5_isSheet : GoodIn wsX5_item (va_wsS RX5 90 yX5_isSheet wsX5_isSheet) := goodIn_app (goodIn_of _ (by decide +kernel)) ggX5_item_X5_isSheet
set_option maxRecDepth 20000 in
theorem ggX5_item_X5_in : GoodIn wsX5_item wsX5_in := goodIn_r _ [11] (by decide +kernel) (by decide +kernel)
set_option maxRecDepth 20000 in
theorem gX5_item_X5_in : GoodIn wsX5_item (va_wsS RX5 76 yX5_in wsX5_in) := goodIn_app (goodIn_of _ (by decide +kernel)) ggX5_item_X5_in
theorem dX5_item_0 : decode cX5_item 0 = .ok (.iload_n 1, 1) := by decide +kernel
theorem dX5_item_1 : decode cX5_item 1 = .ok (.iload_n 2, 1) := by decide +kernel
theorem dX5_item_2 : decode cX5_item 2 = .ok (.invokestatic 90, 3) := by decide +kernel
theorem dX5_item_5 : decode cX5_item 5 = .ok (.ifCond .ne 5, 3) := by decide +kernel
theorem dX5_item_8 : decode cX5_item 8 = .ok (.iconst (-1), 1) := by decide +kernel
theorem dX5_item_9 : decode cX5_item 9 = .ok (.ireturn, 1) := by decide +kernel
theorem dX5_item_10 : decode cX5_item 10 = .ok (.aload_n 0, 1) := by decide +kernel
theorem dX5_item_11 : decode cX5_item 11 = .ok (.getfield 20, 3) := by decide +kernel
theorem dX5_item_14 : decode cX5_item 14 = .ok (.iload_n 1, 1) := by decide +kernel
theorem dX5_item_15 : decode cX5_item 15 = .ok (.iaload, 1) := by decide +kernel
theorem dX5_item_16 : decode cX5_item 16 = .ok (.iload_n 2, 1) := by decide +kernel
theorem dX5_item_17 : decode cX5_item 17 = .ok (.if_icmp .eq 20, 3) := by decide +kernel
theorem dX5_item_20 : decode cX5_item 20 = .ok (.aload_n 0, 1) := by decide +kernel
theorem dX5_item_21 : decode cX5_item 21 = .ok (.getfield 20, 3) := by decide +kernel
theorem dX5_item_24 : decode cX5_item 24 = .ok (.iload_n 1, 1) := by decide +kernel
theorem dX5_item_25 : decode cX5_item 25 = .ok (.iaload, 1) := by decide +kernel
theorem dX5_item_26 : decode cX5_item 26 = .ok (.ifCond .ge 8, 3) := by decide +kernel
theorem dX5_item_29 : decode cX5_item 29 = .ok (.bipush (-11), 2) := by decide +kernel
theorem dX5_item_31 : decode cX5_item 31 = .ok (.goto 5, 3) := by decide +kernel
theorem dX5_item_34 : decode cX5_item 34 = .ok (.bipush (-12), 2) := by decide +kernel
theorem dX5_item_36 : decode cX5_item 36 = .ok (.ireturn, 1) := by decide +kernel
theorem dX5_item_37 : decode cX5_item 37 = .ok (.iload_n 3, 1) := by decide +kernel
theorem dX5_item_38 : decode cX5_item 38 = .ok (.i2l, 1) := by decide +kernel
theorem dX5_item_39 : decode cX5_item 39 = .ok (.lconst 0, 1) := by decide +kernel
theorem dX5_item_40 : decode cX5_item 40 = .ok (.aload_n 0, 1) := by decide +kernel
theorem dX5_item_41 : decode cX5_item 41 = .ok (.getfield 23, 3) := by decide +kernel
theorem dX5_item_44 : decode cX5_item 44 = .ok (.iload_n 1, 1) := by decide +kernel
theorem dX5_item_45 : decode cX5_item 45 = .ok (.iaload, 1) := by decide +kernel
theorem dX5_item_46 : decode cX5_item 46 = .ok (.iconst 1, 1) := by decide +kernel
theorem dX5_item_47 : decode cX5_item 47 = .ok (.isub, 1) := by decide +kernel
theorem dX5_item_48 : decode cX5_item 48 = .ok (.i2l, 1) := by decide +kernel
theorem dX5_item_49 : decode cX5_item 49 = .ok (.invokestatic 76, 3) := by decide +kernel
theorem dX5_item_52 : decode cX5_item 52 = .ok (.ifCond .ne 6, 3) := by decide +kernel
theorem dX5_item_55 : decode cX5_item 55 = .ok (.bipush (-13), 2) := by decide +kernel
theorem dX5_item_57 : decode cX5_item 57 = .ok (.ireturn, 1) := by decide +kernel
theorem dX5_item_58 : decode cX5_item 58 = .ok (.aload_n 0, 1) := by decide +kernel
theorem dX5_item_59 : decode cX5_item 59 = .ok (.getfield 26, 3) := by decide +kernel
theorem dX5_item_62 : decode cX5_item 62 = .ok (.bipush 36, 2) := by decide +kernel
theorem dX5_item_64 : decode cX5_item 64 = .ok (.iload_n 1, 1) := by decide +kernel
theorem dX5_item_65 : decode cX5_item 65 = .ok (.imul, 1) := by decide +kernel
theorem dX5_item_66 : decode cX5_item 66 = .ok (.iload_n 3, 1) := by decide +kernel
theorem dX5_item_67 : decode cX5_item 67 = .ok (.iadd, 1) := by decide +kernel
theorem dX5_item_68 : decode cX5_item 68 = .ok (.iload 4, 2) := by decide +kernel
theorem dX5_item_70 : decode cX5_item 70 = .ok (.iastore, 1) := by decide +kernel
theorem dX5_item_71 : decode cX5_item 71 = .ok (.iconst 1, 1) := by decide +kernel
theorem dX5_item_72 : decode cX5_item 72 = .ok (.ireturn, 1) := by decide +kernel
set_option maxRecDepth 20000 in
theorem ggX5_weights_X5_isSheet : GoodIn wsX5_weights wsX5_isSheet := goodIn_r _ [11, 12, 13, 14, 10, 15] (by decide +kernel) (by decide +kernel)
set_option maxRecDepth 20000 in
theorem gX5_weights_X5_isSheet : GoodIn wsX5_weights (va_wsS RX5 90 yX5_isSheet wsX5_isSheet) := goodIn_app (goodIn_of _ (by decide +kernel)) ggX5_weights_X5_isSheet
set_option maxRecDepth 20000 in
theorem ggX5_weights_X5_in : GoodIn wsX5_weights wsX5_in := goodIn_r _ [15] (by decide +kernel) (by decide +kernel)
set_option maxRecDepth 20000 in
theorem gX5_weights_X5_in : GoodIn wsX5_weights (va_wsS RX5 76 yX5_in wsX5_in) := goodIn_app (goodIn_of _ (by decide +kernel)) ggX5_weights_X5_in
theorem dX5_weights_0 : decode cX5_weights 0 = .ok (.iload_n 1, 1) := by decide +kernel
theorem dX5_weights_1 : decode cX5_weights 1 = .ok (.iload_n 2, 1) := by decide +kernel
theorem dX5_weights_2 : decode cX5_weights 2 = .ok (.invokestatic 90, 3) := by decide +kernel
theorem dX5_weights_5 : decode cX5_weights 5 = .ok (.ifCond .ne 5, 3) := by decide +kernel
theorem dX5_weights_8 : decode cX5_weights 8 = .ok (.iconst (-1), 1) := by decide +kernel
theorem dX5_weights_9 : decode cX5_weights 9 = .ok (.ireturn, 1) := by decide +kernel
theorem dX5_weights_10 : decode cX5_weights 10 = .ok (.aload_n 0, 1) := by decide +kernel
theorem dX5_weights_11 : decode cX5_weights 11 = .ok (.getfield 20, 3) := by decide +kernel
theorem dX5_weights_14 : decode cX5_weights 14 = .ok (.iload_n 1, 1) := by decide +kernel
theorem dX5_weights_15 : decode cX5_weights 15 = .ok (.iaload, 1) := by decide +kernel
theorem dX5_weights_16 : decode cX5_weights 16 = .ok (.iload_n 2, 1) := by decide +kernel
theorem dX5_weights_17 : decode cX5_weights 17 = .ok (.if_icmp .eq 20, 3) := by decide +kernel
theorem dX5_weights_20 : decode cX5_weights 20 = .ok (.aload_n 0, 1) := by decide +kernel
theorem dX5_weights_21 : decode cX5_weights 21 = .ok (.getfield 20, 3) := by decide +kernel
theorem dX5_weights_24 : decode cX5_weights 24 = .ok (.iload_n 1, 1) := by decide +kernel
theorem dX5_weights_25 : decode cX5_weights 25 = .ok (.iaload, 1) := by decide +kernel
theorem dX5_weights_26 : decode cX5_weights 26 = .ok (.ifCond .ge 8, 3) := by decide +kernel
theorem dX5_weights_29 : decode cX5_weights 29 = .ok (.bipush (-11), 2) := by decide +kernel
theorem dX5_weights_31 : decode cX5_weights 31 = .ok (.goto 5, 3) := by decide +kernel
theorem dX5_weights_34 : decode cX5_weights 34 = .ok (.bipush (-12), 2) := by decide +kernel
theorem dX5_weights_36 : decode cX5_weights 36 = .ok (.ireturn, 1) := by decide +kernel
theorem dX5_weights_37 : decode cX5_weights 37 = .ok (.iload_n 3, 1) := by decide +kernel
theorem dX5_weights_38 : decode cX5_weights 38 = .ok (.i2l, 1) := by decide +kernel
theorem dX5_weights_39 : decode cX5_weights 39 = .ok (.lconst 0, 1) := by decide +kernel
theorem dX5_weights_40 : decode cX5_weights 40 = .ok (.aload_n 0, 1) := by decide +kernel
theorem dX5_weights_41 : decode cX5_weights 41 = .ok (.getfield 23, 3) := by decide +kernel
theorem dX5_weights_44 : decode cX5_weights 44 = .ok (.iload_n 1, 1) := by decide +kernel
theorem dX5_weights_45 : decode cX5_weights 45 = .ok (.iaload, 1) := by decide +kernel
theorem dX5_weights_46 : decode cX5_weights 46 = .ok (.aload_n 0, 1) := by decide +kernel
theorem dX5_weights_47 : decode cX5_weights 47 = .ok (.getfield 7, 3) := by decide +kernel
theorem dX5_weights_50 : decode cX5_weights 50 = .ok (.aload_n 0, 1) := by decide +kernel
theorem dX5_weights_51 : decode cX5_weights 51 = .ok (.getfield 13, 3) := by decide +kernel
theorem dX5_weights_54 : decode cX5_weights 54 = .ok (.imul, 1) := by decide +kernel
theorem dX5_weights_55 : decode cX5_weights 55 = .ok (.isub, 1) := by decide +kernel
theorem dX5_weights_56 : decode cX5_weights 56 = .ok (.i2l, 1) := by decide +kernel
theorem dX5_weights_57 : decode cX5_weights 57 = .ok (.invokestatic 76, 3) := by decide +kernel
theorem dX5_weights_60 : decode cX5_weights 60 = .ok (.ifCond .ne 6, 3) := by decide +kernel
theorem dX5_weights_63 : decode cX5_weights 63 = .ok (.bipush (-13), 2) := by decide +kernel
theorem dX5_weights_65 : decode cX5_weights 65 = .ok (.ireturn, 1) := by decide +kernel
theorem dX5_weights_66 : decode cX5_weights 66 = .ok (.iconst 0, 1) := by decide +kernel
theorem dX5_weights_67 : decode cX5_weights 67 = .ok (.istore 4, 2) := by decide +kernel
theorem dX5_weights_69 : decode cX5_weights 69 = .ok (.bipush 36, 2) := by decide +kernel
theorem dX5_weights_71 : decode cX5_weights 71 = .ok (.iload_n 1, 1) := by decide +kernel
theorem dX5_weights_72 : decode cX5_weights 72 = .ok (.imul, 1) := by decide +kernel
theorem dX5_weights_73 : decode cX5_weights 73 = .ok (.iload_n 3, 1) := by decide +kernel
theorem dX5_weights_74 : decode cX5_weights 74 = .ok (.iadd, 1) := by decide +kernel
theorem dX5_weights_75 : decode cX5_weights 75 = .ok (.istore 5, 2) := by decide +kernel
theorem dX5_weights_77 : decode cX5_weights 77 = .ok (.iconst 0, 1) := by decide +kernel
theorem dX5_weights_78 : decode cX5_weights 78 = .ok (.istore 6, 2) := by decide +kernel
theorem dX5_weights_80 : decode cX5_weights 80 = .ok (.iload 6, 2) := by decide +kernel
theorem dX5_weights_82 : decode cX5_weights 82 = .ok (.aload_n 0, 1) := by decide +kernel
theorem dX5_weights_83 : decode cX5_weights 83 = .ok (.getfield 7, 3) := by decide +kernel
theorem dX5_weights_86 : decode cX5_weights 86 = .ok (.aload_n 0, 1) := by decide +kernel
theorem dX5_weights_87 : decode cX5_weights 87 = .ok (.getfield 13, 3) := by decide +kernel
theorem dX5_weights_90 : decode cX5_weights 90 = .ok (.imul, 1) := by decide +kernel
theorem dX5_weights_91 : decode cX5_weights 91 = .ok (.if_icmp .ge 48, 3) := by decide +kernel
theorem dX5_weights_94 : decode cX5_weights 94 = .ok (.aload_n 0, 1) := by decide +kernel
theorem dX5_weights_95 : decode cX5_weights 95 = .ok (.getfield 26, 3) := by decide +kernel
theorem dX5_weights_98 : decode cX5_weights 98 = .ok (.iload 5, 2) := by decide +kernel
theorem dX5_weights_100 : decode cX5_weights 100 = .ok (.iload 6, 2) := by decide +kernel
theorem dX5_weights_102 : decode cX5_weights 102 = .ok (.iadd, 1) := by decide +kernel
theorem dX5_weights_103 : decode cX5_weights 103 = .ok (.iaload, 1) := by decide +kernel
theorem dX5_weights_104 : decode cX5_weights 104 = .ok (.i2l, 1) := by decide +kernel
theorem dX5_weights_105 : decode cX5_weights 105 = .ok (.lconst 0, 1) := by decide +kernel
theorem dX5_weights_106 : decode cX5_weights 106 = .ok (.ldc2_w 86, 3) := by decide +kernel
theorem dX5_weights_109 : decode cX5_weights 109 = .ok (.invokestatic 76, 3) := by decide +kernel
theorem dX5_weights_112 : decode cX5_weights 112 = .ok (.ifCond .ne 6, 3) := by decide +kernel
theorem dX5_weights_115 : decode cX5_weights 115 = .ok (.bipush (-2), 2) := by decide +kernel
theorem dX5_weights_117 : decode cX5_weights 117 = .ok (.ireturn, 1) := by decide +kernel
theorem dX5_weights_118 : decode cX5_weights 118 = .ok (.iload 4, 2) := by decide +kernel
theorem dX5_weights_120 : decode cX5_weights 120 = .ok (.aload_n 0, 1) := by decide +kernel
theorem dX5_weights_121 : decode cX5_weights 121 = .ok (.getfield 26, 3) := by decide +kernel
theorem dX5_weights_124 : decode cX5_weights 124 = .ok (.iload 5, 2) := by decide +kernel
theorem dX5_weights_126 : decode cX5_weights 126 = .ok (.iload 6, 2) := by decide +kernel
theorem dX5_weights_128 : decode cX5_weights 128 = .ok (.iadd, 1) := by decide +kernel
theorem dX5_weights_129 : decode cX5_weights 129 = .ok (.iaload, 1) := by decide +kernel
theorem dX5_weights_130 : decode cX5_weights 130 = .ok (.iadd, 1) := by decide +kernel
theorem dX5_weights_131 : decode cX5_weights 131 = .ok (.istore 4, 2) := by decide +kernel
theorem dX5_weights_133 : decode cX5_weights 133 = .ok (.iinc 6 1, 3) := by decide +kernel
theorem dX5_weights_136 : decode cX5_weights 136 = .ok (.goto (-56), 3) := by decide +kernel
theorem dX5_weights_139 : decode cX5_weights 139 = .ok (.iconst 0, 1) := by decide +kernel
theorem dX5_weights_140 : decode cX5_weights 140 = .ok (.istore 6, 2) := by decide +kernel
theorem dX5_weights_142 : decode cX5_weights 142 = .ok (.iload 6, 2) := by decide +kernel
theorem dX5_weights_144 : decode cX5_weights 144 = .ok (.aload_n 0, 1) := by decide +kernel
theorem dX5_weights_145 : decode cX5_weights 145 = .ok (.getfield 7, 3) := by decide +kernel
theorem dX5_weights_148 : decode cX5_weights 148 = .ok (.aload_n 0, 1) := by decide +kernel
theorem dX5_weights_149 : decode cX5_weights 149 = .ok (.getfield 13, 3) := by decide +kernel
theorem dX5_weights_152 : decode cX5_weights 152 = .ok (.imul, 1) := by decide +kernel
theorem dX5_weights_153 : decode cX5_weights 153 = .ok (.if_icmp .ge 42, 3) := by decide +kernel
theorem dX5_weights_156 : decode cX5_weights 156 = .ok (.aload_n 0, 1) := by decide +kernel
theorem dX5_weights_157 : decode cX5_weights 157 = .ok (.getfield 16, 3) := by decide +kernel
theorem dX5_weights_160 : decode cX5_weights 160 = .ok (.bipush 6, 2) := by decide +kernel
theorem dX5_weights_162 : decode cX5_weights 162 = .ok (.iload 6, 2) := by decide +kernel
theorem dX5_weights_164 : decode cX5_weights 164 = .ok (.aload_n 0, 1) := by decide +kernel
theorem dX5_weights_165 : decode cX5_weights 165 = .ok (.getfield 13, 3) := by decide +kernel
theorem dX5_weights_168 : decode cX5_weights 168 = .ok (.idiv, 1) := by decide +kernel
theorem dX5_weights_169 : decode cX5_weights 169 = .ok (.imul, 1) := by decide +kernel
theorem dX5_weights_170 : decode cX5_weights 170 = .ok (.iload 6, 2) := by decide +kernel
theorem dX5_weights_172 : decode cX5_weights 172 = .ok (.aload_n 0, 1) := by decide +kernel
theorem dX5_weights_173 : decode cX5_weights 173 = .ok (.getfield 13, 3) := by decide +kernel
theorem dX5_weights_176 : decode cX5_weights 176 = .ok (.irem, 1) := by decide +kernel
theorem dX5_weights_177 : decode cX5_weights 177 = .ok (.iadd, 1) := by decide +kernel
theorem dX5_weights_178 : decode cX5_weights 178 = .ok (.aload_n 0, 1) := by decide +kernel
theorem dX5_weights_179 : decode cX5_weights 179 = .ok (.getfield 26, 3) := by decide +kernel
theorem dX5_weights_182 : decode cX5_weights 182 = .ok (.iload 5, 2) := by decide +kernel
theorem dX5_weights_184 : decode cX5_weights 184 = .ok (.iload 6, 2) := by decide +kernel
theorem dX5_weights_186 : decode cX5_weights 186 = .ok (.iadd, 1) := by decide +kernel
theorem dX5_weights_187 : decode cX5_weights 187 = .ok (.iaload, 1) := by decide +kernel
theorem dX5_weights_188 : decode cX5_weights 188 = .ok (.iastore, 1) := by decide +kernel
theorem dX5_weights_189 : decode cX5_weights 189 = .ok (.iinc 6 1, 3) := by decide +kernel
theorem dX5_weights_192 : decode cX5_weights 192 = .ok (.goto (-50), 3) := by decide +kernel
theorem dX5_weights_195 : decode cX5_weights 195 = .ok (.iload 4, 2) := by decide +kernel
theorem dX5_weights_197 : decode cX5_weights 197 = .ok (.ireturn, 1) := by decide +kernel
theorem dX5_turn_0 : decode cX5_turn 0 = .ok (.iconst 0, 1) := by decide +kernel
theorem dX5_turn_1 : decode cX5_turn 1 = .ok (.istore_n 1, 1) := by decide +kernel
theorem dX5_turn_2 : decode cX5_turn 2 = .ok (.iload_n 1, 1) := by decide +kernel
theorem dX5_turn_3 : decode cX5_turn 3 = .ok (.bipush 6, 2) := by decide +kernel
theorem dX5_turn_5 : decode cX5_turn 5 = .ok (.if_icmp .ge 68, 3) := by decide +kernel
theorem dX5_turn_8 : decode cX5_turn 8 = .ok (.iconst 0, 1) := by decide +kernel
theorem dX5_turn_9 : decode cX5_turn 9 = .ok (.istore_n 2, 1) := by decide +kernel
theorem dX5_turn_10 : decode cX5_turn 10 = .ok (.iload_n 2, 1) := by decide +kernel
theorem dX5_turn_11 : decode cX5_turn 11 = .ok (.iload_n 1, 1) := by decide +kernel
theorem dX5_turn_12 : decode cX5_turn 12 = .ok (.if_icmp .ge 55, 3) := by decide +kernel
theorem dX5_turn_15 : decode cX5_turn 15 = .ok (.aload_n 0, 1) := by decide +kernel
theorem dX5_turn_16 : decode cX5_turn 16 = .ok (.getfield 16, 3) := by decide +kernel
theorem dX5_turn_19 : decode cX5_turn 19 = .ok (.bipush 6, 2) := by decide +kernel
theorem dX5_turn_21 : decode cX5_turn 21 = .ok (.iload_n 1, 1) := by decide +kernel
theorem dX5_turn_22 : decode cX5_turn 22 = .ok (.imul, 1) := by decide +kernel
theorem dX5_turn_23 : decode cX5_turn 23 = .ok (.iload_n 2, 1) := by decide +kernel
theorem dX5_turn_24 : decode cX5_turn 24 = .ok (.iadd, 1) := by decide +kernel
theorem dX5_turn_25 : decode cX5_turn 25 = .ok (.iaload, 1) := by decide +kernel
theorem dX5_turn_26 : decode cX5_turn 26 = .ok (.istore_n 3, 1) := by decide +kernel
theorem dX5_turn_27 : decode cX5_turn 27 = .ok (.aload_n 0, 1) := by decide +kernel
theorem dX5_turn_28 : decode cX5_turn 28 = .ok (.getfield 16, 3) := by decide +kernel
theorem dX5_turn_31 : decode cX5_turn 31 = .ok (.bipush 6, 2) := by decide +kernel
theorem dX5_turn_33 : decode cX5_turn 33 = .ok (.iload_n 1, 1) := by decide +kernel
theorem dX5_turn_34 : decode cX5_turn 34 = .ok (.imul, 1) := by decide +kernel
theorem dX5_turn_35 : decode cX5_turn 35 = .ok (.iload_n 2, 1) := by decide +kernel
theorem dX5_turn_36 : decode cX5_turn 36 = .ok (.iadd, 1) := by decide +kernel
theorem dX5_turn_37 : decode cX5_turn 37 = .ok (.aload_n 0, 1) := by decide +kernel
theorem dX5_turn_38 : decode cX5_turn 38 = .ok (.getfield 16, 3) := by decide +kernel
theorem dX5_turn_41 : decode cX5_turn 41 = .ok (.bipush 6, 2) := by decide +kernel
theorem dX5_turn_43 : decode cX5_turn 43 = .ok (.iload_n 2, 1) := by decide +kernel
theorem dX5_turn_44 : decode cX5_turn 44 = .ok (.imul, 1) := by decide +kernel
theorem dX5_turn_45 : decode cX5_turn 45 = .ok (.iload_n 1, 1) := by decide +kernel
theorem dX5_turn_46 : decode cX5_turn 46 = .ok (.iadd, 1) := by decide +kernel
theorem dX5_turn_47 : decode cX5_turn 47 = .ok (.iaload, 1) := by decide +kernel
theorem dX5_turn_48 : decode cX5_turn 48 = .ok (.iastore, 1) := by decide +kernel
theorem dX5_turn_49 : decode cX5_turn 49 = .ok (.aload_n 0, 1) := by decide +kernel
theorem dX5_turn_50 : decode cX5_turn 50 = .ok (.getfield 16, 3) := by decide +kernel
theorem dX5_turn_53 : decode cX5_turn 53 = .ok (.bipush 6, 2) := by decide +kernel
theorem dX5_turn_55 : decode cX5_turn 55 = .ok (.iload_n 2, 1) := by decide +kernel
theorem dX5_turn_56 : decode cX5_turn 56 = .ok (.imul, 1) := by decide +kernel
theorem dX5_turn_57 : decode cX5_turn 57 = .ok (.iload_n 1, 1) := by decide +kernel
theorem dX5_turn_58 : decode cX5_turn 58 = .ok (.iadd, 1) := by decide +kernel
theorem dX5_turn_59 : decode cX5_turn 59 = .ok (.iload_n 3, 1) := by decide +kernel
theorem dX5_turn_60 : decode cX5_turn 60 = .ok (.iastore, 1) := by decide +kernel
theorem dX5_turn_61 : decode cX5_turn 61 = .ok (.iinc 2 1, 3) := by decide +kernel
theorem dX5_turn_64 : decode cX5_turn 64 = .ok (.goto (-54), 3) := by decide +kernel
theorem dX5_turn_67 : decode cX5_turn 67 = .ok (.iinc 1 1, 3) := by decide +kernel
theorem dX5_turn_70 : decode cX5_turn 70 = .ok (.goto (-68), 3) := by decide +kernel
theorem dX5_turn_73 : decode cX5_turn 73 = .ok (.aload_n 0, 1) := by decide +kernel
theorem dX5_turn_74 : decode cX5_turn 74 = .ok (.getfield 7, 3) := by decide +kernel
theorem dX5_turn_77 : decode cX5_turn 77 = .ok (.istore_n 1, 1) := by decide +kernel
theorem dX5_turn_78 : decode cX5_turn 78 = .ok (.aload_n 0, 1) := by decide +kernel
theorem dX5_turn_79 : decode cX5_turn 79 = .ok (.aload_n 0, 1) := by decide +kernel
theorem dX5_turn_80 : decode cX5_turn 80 = .ok (.getfield 13, 3) := by decide +kernel
theorem dX5_turn_83 : decode cX5_turn 83 = .ok (.putfield 7, 3) := by decide +kernel
theorem dX5_turn_86 : decode cX5_turn 86 = .ok (.aload_n 0, 1) := by decide +kernel
theorem dX5_turn_87 : decode cX5_turn 87 = .ok (.iload_n 1, 1) := by decide +kernel
theorem dX5_turn_88 : decode cX5_turn 88 = .ok (.putfield 13, 3) := by decide +kernel
theorem dX5_turn_91 : decode cX5_turn 91 = .ok (.iconst 1, 1) := by decide +kernel
theorem dX5_turn_92 : decode cX5_turn 92 = .ok (.ireturn, 1) := by decide +kernel
set_option maxRecDepth 20000 in
theorem ggX5_findBest_X5_greater : GoodIn wsX5_findBest wsX5_greater := goodIn_r _ [8] (by decide +kernel) (by decide +kernel)
set_option maxRecDepth 20000 in
theorem gX5_findBest_X5_greater : GoodIn wsX5_findBest (va_wsS RX5 93 yX5_greater wsX5_greater) := goodIn_app (goodIn_of _ (by decide +kernel)) ggX5_findBest_X5_greater
theorem dX5_findBest_0 : decode cX5_findBest 0 = .ok (.iload_n 1, 1) := by decide +kernel
theorem dX5_findBest_1 : decode cX5_findBest 1 = .ok (.istore_n 3, 1) := by decide +kernel
theorem dX5_findBest_2 : decode cX5_findBest 2 = .ok (.iload_n 3, 1) := by decide +kernel
theorem dX5_findBest_3 : decode cX5_findBest 3 = .ok (.aload_n 0, 1) := by decide +kernel
theorem dX5_findBest_4 : decode cX5_findBest 4 = .ok (.getfield 7, 3) := by decide +kernel
theorem dX5_findBest_7 : decode cX5_findBest 7 = .ok (.if_icmp .ge 110, 3) := by decide +kernel
theorem dX5_findBest_10 : decode cX5_findBest 10 = .ok (.iload_n 2, 1) := by decide +kernel
theorem dX5_findBest_11 : decode cX5_findBest 11 = .ok (.istore 4, 2) := by decide +kernel
theorem dX5_findBest_13 : decode cX5_findBest 13 = .ok (.iload 4, 2) := by decide +kernel
theorem dX5_findBest_15 : decode cX5_findBest 15 = .ok (.aload_n 0, 1) := by decide +kernel
theorem dX5_findBest_16 : decode cX5_findBest 16 = .ok (.getfield 13, 3) := by decide +kernel
theorem dX5_findBest_19 : decode cX5_findBest 19 = .ok (.if_icmp .ge 92, 3) := by decide +kernel
theorem dX5_findBest_22 : decode cX5_findBest 22 = .ok (.iload_n 3, 1) := by decide +kernel
theorem dX5_findBest_23 : decode cX5_findBest 23 = .ok (.iload_n 1, 1) := by decide +kernel
theorem dX5_findBest_24 : decode cX5_findBest 24 = .ok (.if_icmp .le 20, 3) := by decide +kernel
theorem dX5_findBest_27 : decode cX5_findBest 27 = .ok (.aload_n 0, 1) := by decide +kernel
theorem dX5_findBest_28 : decode cX5_findBest 28 = .ok (.getfield 29, 3) := by decide +kernel
theorem dX5_findBest_31 : decode cX5_findBest 31 = .ok (.bipush 6, 2) := by decide +kernel
theorem dX5_findBest_33 : decode cX5_findBest 33 = .ok (.iload_n 3, 1) := by decide +kernel
theorem dX5_findBest_34 : decode cX5_findBest 34 = .ok (.iconst 1, 1) := by decide +kernel
theorem dX5_findBest_35 : decode cX5_findBest 35 = .ok (.isub, 1) := by decide +kernel
theorem dX5_findBest_36 : decode cX5_findBest 36 = .ok (.imul, 1) := by decide +kernel
theorem dX5_findBest_37 : decode cX5_findBest 37 = .ok (.iload 4, 2) := by decide +kernel
theorem dX5_findBest_39 : decode cX5_findBest 39 = .ok (.iadd, 1) := by decide +kernel
theorem dX5_findBest_40 : decode cX5_findBest 40 = .ok (.iaload, 1) := by decide +kernel
theorem dX5_findBest_41 : decode cX5_findBest 41 = .ok (.goto 4, 3) := by decide +kernel
theorem dX5_findBest_44 : decode cX5_findBest 44 = .ok (.iconst 0, 1) := by decide +kernel
theorem dX5_findBest_45 : decode cX5_findBest 45 = .ok (.istore 5, 2) := by decide +kernel
theorem dX5_findBest_47 : decode cX5_findBest 47 = .ok (.iload 4, 2) := by decide +kernel
theorem dX5_findBest_49 : decode cX5_findBest 49 = .ok (.iload_n 2, 1) := by decide +kernel
theorem dX5_findBest_50 : decode cX5_findBest 50 = .ok (.if_icmp .le 20, 3) := by decide +kernel
theorem dX5_findBest_53 : decode cX5_findBest 53 = .ok (.aload_n 0, 1) := by decide +kernel
theorem dX5_findBest_54 : decode cX5_findBest 54 = .ok (.getfield 29, 3) := by decide +kernel
theorem dX5_findBest_57 : decode cX5_findBest 57 = .ok (.bipush 6, 2) := by decide +kernel
theorem dX5_findBest_59 : decode cX5_findBest 59 = .ok (.iload_n 3, 1) := by decide +kernel
theorem dX5_findBest_60 : decode cX5_findBest 60 = .ok (.imul, 1) := by decide +kernel
theorem dX5_findBest_61 : decode cX5_findBest 61 = .ok (.iload 4, 2) := by decide +kernel
theorem dX5_findBest_63 : decode cX5_findBest 63 = .ok (.iadd, 1) := by decide +kernel
theorem dX5_findBest_64 : decode cX5_findBest 64 = .ok (.iconst 1, 1) := by decide +kernel
theorem dX5_findBest_65 : decode cX5_findBest 65 = .ok (.isub, 1) := by decide +kernel
theorem dX5_findBest_66 : decode cX5_findBest 66 = .ok (.iaload, 1) := by decide +kernel
theorem dX5_findBest_67 : decode cX5_findBest 67 = .ok (.goto 4, 3) := by decide +kernel
theorem dX5_findBest_70 : decode cX5_findBest 70 = .ok (.iconst 0, 1) := by decide +kernel
theorem dX5_findBest_71 : decode cX5_findBest 71 = .ok (.istore 6, 2) := by decide +kernel
theorem dX5_findBest_73 : decode cX5_findBest 73 = .ok (.aload_n 0, 1) := by decide +kernel
theorem dX5_findBest_74 : decode cX5_findBest 74 = .ok (.getfield 29, 3) := by decide +kernel
theorem dX5_findBest_77 : decode cX5_findBest 77 = .ok (.bipush 6, 2) := by decide +kernel
theorem dX5_findBest_79 : decode cX5_findBest 79 = .ok (.iload_n 3, 1) := by decide +kernel
theorem dX5_findBest_80 : decode cX5_findBest 80 = .ok (.imul, 1) := by decide +kernel
theorem dX5_findBest_81 : decode cX5_findBest 81 = .ok (.iload 4, 2) := by decide +kernel
theorem dX5_findBest_83 : decode cX5_findBest 83 = .ok (.iadd, 1) := by decide +kernel
theorem dX5_findBest_84 : decode cX5_findBest 84 = .ok (.iload 5, 2) := by decide +kernel
theorem dX5_findBest_86 : decode cX5_findBest 86 = .ok (.iload 6, 2) := by decide +kernel
theorem dX5_findBest_88 : decode cX5_findBest 88 = .ok (.invokestatic 93, 3) := by decide +kernel
theorem dX5_findBest_91 : decode cX5_findBest 91 = .ok (.aload_n 0, 1) := by decide +kernel
theorem dX5_findBest_92 : decode cX5_findBest 92 = .ok (.getfield 16, 3) := by decide +kernel
theorem dX5_findBest_95 : decode cX5_findBest 95 = .ok (.bipush 6, 2) := by decide +kernel
theorem dX5_findBest_97 : decode cX5_findBest 97 = .ok (.iload_n 3, 1) := by decide +kernel
theorem dX5_findBest_98 : decode cX5_findBest 98 = .ok (.imul, 1) := by decide +kernel
theorem dX5_findBest_99 : decode cX5_findBest 99 = .ok (.iload 4, 2) := by decide +kernel
theorem dX5_findBest_101 : decode cX5_findBest 101 = .ok (.iadd, 1) := by decide +kernel
theorem dX5_findBest_102 : decode cX5_findBest 102 = .ok (.iaload, 1) := by decide +kernel
theorem dX5_findBest_103 : decode cX5_findBest 103 = .ok (.iadd, 1) := by decide +kernel
theorem dX5_findBest_104 : decode cX5_findBest 104 = .ok (.iastore, 1) := by decide +kernel
theorem dX5_findBest_105 : decode cX5_findBest 105 = .ok (.iinc 4 1, 3) := by decide +kernel
theorem dX5_findBest_108 : decode cX5_findBest 108 = .ok (.goto (-95), 3) := by decide +kernel
theorem dX5_findBest_111 : decode cX5_findBest 111 = .ok (.iinc 3 1, 3) := by decide +kernel
theorem dX5_findBest_114 : decode cX5_findBest 114 = .ok (.goto (-112), 3) := by decide +kernel
theorem dX5_findBest_117 : decode cX5_findBest 117 = .ok (.return_, 1) := by decide +kernel
set_option maxRecDepth 20000 in
theorem ggX5_best_X5_isPlace : GoodIn wsX5_best wsX5_isPlace := goodIn_r _ [6, 7, 8, 9, 10, 5, 11, 20, 21, 22, 23, 24, 25, 26, 27, 28, 29, 30, 31, 32, 33, 34, 35, 36, 37, 38, 39, 40, 41] (by decide +kernel) (by decide +kernel)
set_option maxRecDepth 20000 in
theorem gX5_best_X5_isPlace : GoodIn wsX5_best (wsV RX5 82 RX5 yX5_isPlace wsX5_isPlace) := goodIn_app (goodIn_of _ (by decide +kernel)) ggX5_best_X5_isPlace
set_option maxRecDepth 20000 in
theorem ggX5_best_X5_findBest : GoodIn wsX5_best wsX5_findBest := goodIn_r _ [15, 7, 8, 1, 16, 17, 18, 5, 19, 20, 21, 22, 23, 24, 25, 26, 27, 28, 29, 30, 31, 32, 33, 34, 35, 36, 37, 38, 39, 40, 41] (by decide +kernel) (by decide +kernel)
set_option maxRecDepth 20000 in
theorem gX5_best_X5_findBest : GoodIn wsX5_best (wsV RX5 97 RX5 yX5_findBest wsX5_findBest) := goodIn_app (goodIn_of _ (by decide +kernel)) ggX5_best_X5_findBest
theorem dX5_best_0 : decode cX5_best 0 = .ok (.aload_n 0, 1) := by decide +kernel
theorem dX5_best_1 : decode cX5_best 1 = .ok (.iload_n 1, 1) := by decide +kernel
theorem dX5_best_2 : decode cX5_best 2 = .ok (.iload_n 2, 1) := by decide +kernel
theorem dX5_best_3 : decode cX5_best 3 = .ok (.invokevirtual 82, 3) := by decide +kernel
theorem dX5_best_6 : decode cX5_best 6 = .ok (.ifCond .ne 5, 3) := by decide +kernel
theorem dX5_best_9 : decode cX5_best 9 = .ok (.iconst (-1), 1) := by decide +kernel
theorem dX5_best_10 : decode cX5_best 10 = .ok (.ireturn, 1) := by decide +kernel
theorem dX5_best_11 : decode cX5_best 11 = .ok (.aload_n 0, 1) := by decide +kernel
theorem dX5_best_12 : decode cX5_best 12 = .ok (.iconst 0, 1) := by decide +kernel
theorem dX5_best_13 : decode cX5_best 13 = .ok (.iconst 0, 1) := by decide +kernel
theorem dX5_best_14 : decode cX5_best 14 = .ok (.invokevirtual 97, 3) := by decide +kernel
theorem dX5_best_17 : decode cX5_best 17 = .ok (.aload_n 0, 1) := by decide +kernel
theorem dX5_best_18 : decode cX5_best 18 = .ok (.getfield 29, 3) := by decide +kernel
theorem dX5_best_21 : decode cX5_best 21 = .ok (.bipush 6, 2) := by decide +kernel
theorem dX5_best_23 : decode cX5_best 23 = .ok (.iload_n 1, 1) := by decide +kernel
theorem dX5_best_24 : decode cX5_best 24 = .ok (.imul, 1) := by decide +kernel
theorem dX5_best_25 : decode cX5_best 25 = .ok (.iload_n 2, 1) := by decide +kernel
theorem dX5_best_26 : decode cX5_best 26 = .ok (.iadd, 1) := by decide +kernel
theorem dX5_best_27 : decode cX5_best 27 = .ok (.iaload, 1) := by decide +kernel
theorem dX5_best_28 : decode cX5_best 28 = .ok (.ireturn, 1) := by decide +kernel
set_option maxRecDepth 20000 in
theorem ggX5_between_X5_isPlace : GoodIn wsX5_between wsX5_isPlace := goodIn_r _ [6, 7, 8, 9, 10, 5, 11, 20, 21, 22, 23, 24, 25, 26, 27, 28, 29, 30, 31, 32, 33, 34, 35, 36, 37, 38, 39, 40, 41] (by decide +kernel) (by decide +kernel)
set_option maxRecDepth 20000 in
theorem gX5_between_X5_isPlace : GoodIn wsX5_between (wsV RX5 82 RX5 yX5_isPlace wsX5_isPlace) := goodIn_app (goodIn_of _ (by decide +kernel)) ggX5_between_X5_isPlace
set_option maxRecDepth 20000 in
theorem ggX5_between_X5_findBest : GoodIn wsX5_between wsX5_findBest := goodIn_r _ [15, 7, 8, 1, 16, 17, 18, 5, 19, 20, 21, 22, 23, 24, 25, 26, 27, 28, 29, 30, 31, 32, 33, 34, 35, 36, 37, 38, 39, 40, 41] (by decide +kernel) (by decide +kernel)
set_option maxRecDepth 20000 in
theorem gX5_between_X5_findBest : GoodIn wsX5_between (wsV RX5 97 RX5 yX5_findBest wsX5_findBest) := goodIn_app (goodIn_of _ (by decide +kernel)) ggX5_between_X5_findBest
theorem dX5_between_0 : decode cX5_between 0 = .ok (.aload_n 0, 1) := by decide +kernel
theorem dX5_between_1 : decode cX5_between 1 = .ok (.iload_n 1, 1) := by decide +kernel
theorem dX5_between_2 : decode cX5_between 2 = .ok (.iload_n 2, 1) := by decide +kernel
theorem dX5_between_3 : decode cX5_between 3 = .ok (.invokevirtual 82, 3) := by decide +kernel
theorem dX5_between_6 : decode cX5_between 6 = .ok (.ifCond .eq 13, 3) := by decide +kernel
theorem dX5_between_9 : decode cX5_between 9 = .ok (.aload_n 0, 1) := by decide +kernel
theorem dX5_between_10 : decode cX5_between 10 = .ok (.iload_n 3, 1) := by decide +kernel
theorem dX5_between_11 : decode cX5_between 11 = .ok (.iload 4, 2) := by decide +kernel
theorem dX5_between_13 : decode cX5_between 13 = .ok (.invokevirtual 82, 3) := by decide +kernel
theorem dX5_between_16 : decode cX5_between 16 = .ok (.ifCond .ne 5, 3) := by decide +kernel
theorem dX5_between_19 : decode cX5_between 19 = .ok (.iconst (-1), 1) := by decide +kernel
theorem dX5_between_20 : decode cX5_between 20 = .ok (.ireturn, 1) := by decide +kernel
theorem dX5_between_21 : decode cX5_between 21 = .ok (.iload_n 3, 1) := by decide +kernel
theorem dX5_between_22 : decode cX5_between 22 = .ok (.iload_n 1, 1) := by decide +kernel
theorem dX5_between_23 : decode cX5_between 23 = .ok (.if_icmp .lt 9, 3) := by decide +kernel
theorem dX5_between_26 : decode cX5_between 26 = .ok (.iload 4, 2) := by decide +kernel
theorem dX5_between_28 : decode cX5_between 28 = .ok (.iload_n 2, 1) := by decide +kernel
theorem dX5_between_29 : decode cX5_between 29 = .ok (.if_icmp .ge 6, 3) := by decide +kernel
theorem dX5_between_32 : decode cX5_between 32 = .ok (.bipush (-4), 2) := by decide +kernel
theorem dX5_between_34 : decode cX5_between 34 = .ok (.ireturn, 1) := by decide +kernel
theorem dX5_between_35 : decode cX5_between 35 = .ok (.aload_n 0, 1) := by decide +kernel
theorem dX5_between_36 : decode cX5_between 36 = .ok (.iload_n 1, 1) := by decide +kernel
theorem dX5_between_37 : decode cX5_between 37 = .ok (.iload_n 2, 1) := by decide +kernel
theorem dX5_between_38 : decode cX5_between 38 = .ok (.invokevirtual 97, 3) := by decide +kernel
theorem dX5_between_41 : decode cX5_between 41 = .ok (.aload_n 0, 1) := by decide +kernel
theorem dX5_between_42 : decode cX5_between 42 = .ok (.getfield 29, 3) := by decide +kernel
theorem dX5_between_45 : decode cX5_between 45 = .ok (.bipush 6, 2) := by decide +kernel
theorem dX5_between_47 : decode cX5_between 47 = .ok (.iload_n 3, 1) := by decide +kernel
theorem dX5_between_48 : decode cX5_between 48 = .ok (.imul, 1) := by decide +kernel
theorem dX5_between_49 : decode cX5_between 49 = .ok (.iload 4, 2) := by decide +kernel
theorem dX5_between_51 : decode cX5_between 51 = .ok (.iadd, 1) := by decide +kernel
theorem dX5_between_52 : decode cX5_between 52 = .ok (.iaload, 1) := by decide +kernel
theorem dX5_between_53 : decode cX5_between 53 = .ok (.ireturn, 1) := by decide +kernel
set_option maxRecDepth 20000 in
theorem ggX5_findShapes_X5_greater : GoodIn wsX5_findShapes wsX5_greater := goodIn_r _ [8] (by decide +kernel) (by decide +kernel)
set_option maxRecDepth 20000 in
theorem gX5_findShapes_X5_greater : GoodIn wsX5_findShapes (va_wsS RX5 93 yX5_greater wsX5_greater) := goodIn_app (goodIn_of _ (by decide +kernel)) ggX5_findShapes_X5_greater
theorem dX5_findShapes_0 : decode cX5_findShapes 0 = .ok (.iconst 0, 1) := by decide +kernel
theorem dX5_findShapes_1 : decode cX5_findShapes 1 = .ok (.istore_n 1, 1) := by decide +kernel
theorem dX5_findShapes_2 : decode cX5_findShapes 2 = .ok (.iload_n 1, 1) := by decide +kernel
theorem dX5_findShapes_3 : decode cX5_findShapes 3 = .ok (.aload_n 0, 1) := by decide +kernel
theorem dX5_findShapes_4 : decode cX5_findShapes 4 = .ok (.getfield 7, 3) := by decide +kernel
theorem dX5_findShapes_7 : decode cX5_findShapes 7 = .ok (.if_icmp .gt 225, 3) := by decide +kernel
theorem dX5_findShapes_10 : decode cX5_findShapes 10 = .ok (.iconst 0, 1) := by decide +kernel
theorem dX5_findShapes_11 : decode cX5_findShapes 11 = .ok (.istore_n 2, 1) := by decide +kernel
theorem dX5_findShapes_12 : decode cX5_findShapes 12 = .ok (.iload_n 2, 1) := by decide +kernel
theorem dX5_findShapes_13 : decode cX5_findShapes 13 = .ok (.aload_n 0, 1) := by decide +kernel
theorem dX5_findShapes_14 : decode cX5_findShapes 14 = .ok (.getfield 13, 3) := by decide +kernel
theorem dX5_findShapes_17 : decode cX5_findShapes 17 = .ok (.if_icmp .gt 209, 3) := by decide +kernel
theorem dX5_findShapes_20 : decode cX5_findShapes 20 = .ok (.bipush 6, 2) := by decide +kernel
theorem dX5_findShapes_22 : decode cX5_findShapes 22 = .ok (.bipush 7, 2) := by decide +kernel
theorem dX5_findShapes_24 : decode cX5_findShapes 24 = .ok (.iload_n 1, 1) := by decide +kernel
theorem dX5_findShapes_25 : decode cX5_findShapes 25 = .ok (.imul, 1) := by decide +kernel
theorem dX5_findShapes_26 : decode cX5_findShapes 26 = .ok (.iload_n 2, 1) := by decide +kernel
theorem dX5_findShapes_27 : decode cX5_findShapes 27 = .ok (.iadd, 1) := by decide +kernel
theorem dX5_findShapes_28 : decode cX5_findShapes 28 = .ok (.imul, 1) := by decide +kernel
theorem dX5_findShapes_29 : decode cX5_findShapes 29 = .ok (.istore_n 3, 1) := by decide +kernel
theorem dX5_findShapes_30 : decode cX5_findShapes 30 = .ok (.iconst 0, 1) := by decide +kernel
theorem dX5_findShapes_31 : decode cX5_findShapes 31 = .ok (.istore 4, 2) := by decide +kernel
theorem dX5_findShapes_33 : decode cX5_findShapes 33 = .ok (.iload 4, 2) := by decide +kernel
theorem dX5_findShapes_35 : decode cX5_findShapes 35 = .ok (.bipush 6, 2) := by decide +kernel
theorem dX5_findShapes_37 : decode cX5_findShapes 37 = .ok (.if_icmp .ge 183, 3) := by decide +kernel
theorem dX5_findShapes_40 : decode cX5_findShapes 40 = .ok (.iload_n 3, 1) := by decide +kernel
theorem dX5_findShapes_41 : decode cX5_findShapes 41 = .ok (.bipush 42, 2) := by decide +kernel
theorem dX5_findShapes_43 : decode cX5_findShapes 43 = .ok (.isub, 1) := by decide +kernel
theorem dX5_findShapes_44 : decode cX5_findShapes 44 = .ok (.iload 4, 2) := by decide +kernel
theorem dX5_findShapes_46 : decode cX5_findShapes 46 = .ok (.iadd, 1) := by decide +kernel
theorem dX5_findShapes_47 : decode cX5_findShapes 47 = .ok (.istore 5, 2) := by decide +kernel
theorem dX5_findShapes_49 : decode cX5_findShapes 49 = .ok (.iload_n 3, 1) := by decide +kernel
theorem dX5_findShapes_50 : decode cX5_findShapes 50 = .ok (.bipush 6, 2) := by decide +kernel
theorem dX5_findShapes_52 : decode cX5_findShapes 52 = .ok (.isub, 1) := by decide +kernel
theorem dX5_findShapes_53 : decode cX5_findShapes 53 = .ok (.iload 4, 2) := by decide +kernel
theorem dX5_findShapes_55 : decode cX5_findShapes 55 = .ok (.iadd, 1) := by decide +kernel
theorem dX5_findShapes_56 : decode cX5_findShapes 56 = .ok (.istore 6, 2) := by decide +kernel
theorem dX5_findShapes_58 : decode cX5_findShapes 58 = .ok (.iload_n 1, 1) := by decide +kernel
theorem dX5_findShapes_59 : decode cX5_findShapes 59 = .ok (.ifCond .eq 7, 3) := by decide +kernel
theorem dX5_findShapes_62 : decode cX5_findShapes 62 = .ok (.iload_n 2, 1) := by decide +kernel
theorem dX5_findShapes_63 : decode cX5_findShapes 63 = .ok (.ifCond .ne 16, 3) := by decide +kernel
theorem dX5_findShapes_66 : decode cX5_findShapes 66 = .ok (.aload_n 0, 1) := by decide +kernel
theorem dX5_findShapes_67 : decode cX5_findShapes 67 = .ok (.getfield 32, 3) := by decide +kernel
theorem dX5_findShapes_70 : decode cX5_findShapes 70 = .ok (.iload_n 3, 1) := by decide +kernel
theorem dX5_findShapes_71 : decode cX5_findShapes 71 = .ok (.iload 4, 2) := by decide +kernel
theorem dX5_findShapes_73 : decode cX5_findShapes 73 = .ok (.iadd, 1) := by decide +kernel
theorem dX5_findShapes_74 : decode cX5_findShapes 74 = .ok (.iconst 0, 1) := by decide +kernel
theorem dX5_findShapes_75 : decode cX5_findShapes 75 = .ok (.iastore, 1) := by decide +kernel
theorem dX5_findShapes_76 : decode cX5_findShapes 76 = .ok (.goto 138, 3) := by decide +kernel
theorem dX5_findShapes_79 : decode cX5_findShapes 79 = .ok (.iload 4, 2) := by decide +kernel
theorem dX5_findShapes_81 : decode cX5_findShapes 81 = .ok (.ifCond .ne 45, 3) := by decide +kernel
theorem dX5_findShapes_84 : decode cX5_findShapes 84 = .ok (.aload_n 0, 1) := by decide +kernel
theorem dX5_findShapes_85 : decode cX5_findShapes 85 = .ok (.getfield 32, 3) := by decide +kernel
theorem dX5_findShapes_88 : decode cX5_findShapes 88 = .ok (.iload_n 3, 1) := by decide +kernel
theorem dX5_findShapes_89 : decode cX5_findShapes 89 = .ok (.aload_n 0, 1) := by decide +kernel
theorem dX5_findShapes_90 : decode cX5_findShapes 90 = .ok (.getfield 32, 3) := by decide +kernel
theorem dX5_findShapes_93 : decode cX5_findShapes 93 = .ok (.iload 5, 2) := by decide +kernel
theorem dX5_findShapes_95 : decode cX5_findShapes 95 = .ok (.iaload, 1) := by decide +kernel
theorem dX5_findShapes_96 : decode cX5_findShapes 96 = .ok (.aload_n 0, 1) := by decide +kernel
theorem dX5_findShapes_97 : decode cX5_findShapes 97 = .ok (.getfield 32, 3) := by decide +kernel
theorem dX5_findShapes_100 : decode cX5_findShapes 100 = .ok (.iload 6, 2) := by decide +kernel
theorem dX5_findShapes_102 : decode cX5_findShapes 102 = .ok (.iaload, 1) := by decide +kernel
theorem dX5_findShapes_103 : decode cX5_findShapes 103 = .ok (.invokestatic 93, 3) := by decide +kernel
theorem dX5_findShapes_106 : decode cX5_findShapes 106 = .ok (.aload_n 0, 1) := by decide +kernel
theorem dX5_findShapes_107 : decode cX5_findShapes 107 = .ok (.getfield 16, 3) := by decide +kernel
theorem dX5_findShapes_110 : decode cX5_findShapes 110 = .ok (.bipush 6, 2) := by decide +kernel
theorem dX5_findShapes_112 : decode cX5_findShapes 112 = .ok (.iload_n 1, 1) := by decide +kernel
theorem dX5_findShapes_113 : decode cX5_findShapes 113 = .ok (.iconst 1, 1) := by decide +kernel
theorem dX5_findShapes_114 : decode cX5_findShapes 114 = .ok (.isub, 1) := by decide +kernel
theorem dX5_findShapes_115 : decode cX5_findShapes 115 = .ok (.imul, 1) := by decide +kernel
theorem dX5_findShapes_116 : decode cX5_findShapes 116 = .ok (.iload_n 2, 1) := by decide +kernel
theorem dX5_findShapes_117 : decode cX5_findShapes 117 = .ok (.iadd, 1) := by decide +kernel
theorem dX5_findShapes_118 : decode cX5_findShapes 118 = .ok (.iconst 1, 1) := by decide +kernel
theorem dX5_findShapes_119 : decode cX5_findShapes 119 = .ok (.isub, 1) := by decide +kernel
theorem dX5_findShapes_120 : decode cX5_findShapes 120 = .ok (.iaload, 1) := by decide +kernel
theorem dX5_findShapes_121 : decode cX5_findShapes 121 = .ok (.iadd, 1) := by decide +kernel
theorem dX5_findShapes_122 : decode cX5_findShapes 122 = .ok (.iastore, 1) := by decide +kernel
theorem dX5_findShapes_123 : decode cX5_findShapes 123 = .ok (.goto 91, 3) := by decide +kernel
theorem dX5_findShapes_126 : decode cX5_findShapes 126 = .ok (.aload_n 0, 1) := by decide +kernel
theorem dX5_findShapes_127 : decode cX5_findShapes 127 = .ok (.getfield 32, 3) := by decide +kernel
theorem dX5_findShapes_130 : decode cX5_findShapes 130 = .ok (.iload 5, 2) := by decide +kernel
theorem dX5_findShapes_132 : decode cX5_findShapes 132 = .ok (.iconst 1, 1) := by decide +kernel
theorem dX5_findShapes_133 : decode cX5_findShapes 133 = .ok (.isub, 1) := by decide +kernel
theorem dX5_findShapes_134 : decode cX5_findShapes 134 = .ok (.iaload, 1) := by decide +kernel
theorem dX5_findShapes_135 : decode cX5_findShapes 135 = .ok (.aload_n 0, 1) := by decide +kernel
theorem dX5_findShapes_136 : decode cX5_findShapes 136 = .ok (.getfield 32, 3) := by decide +kernel
theorem dX5_findShapes_139 : decode cX5_findShapes 139 = .ok (.iload 6, 2) := by decide +kernel
theorem dX5_findShapes_141 : decode cX5_findShapes 141 = .ok (.iconst 1, 1) := by decide +kernel
theorem dX5_findShapes_142 : decode cX5_findShapes 142 = .ok (.isub, 1) := by decide +kernel
theorem dX5_findShapes_143 : decode cX5_findShapes 143 = .ok (.iaload, 1) := by decide +kernel
theorem dX5_findShapes_144 : decode cX5_findShapes 144 = .ok (.if_icmp .ge 15, 3) := by decide +kernel
theorem dX5_findShapes_147 : decode cX5_findShapes 147 = .ok (.aload_n 0, 1) := by decide +kernel
theorem dX5_findShapes_148 : decode cX5_findShapes 148 = .ok (.getfield 32, 3) := by decide +kernel
theorem dX5_findShapes_151 : decode cX5_findShapes 151 = .ok (.iload 5, 2) := by decide +kernel
theorem dX5_findShapes_153 : decode cX5_findShapes 153 = .ok (.iconst 1, 1) := by decide +kernel
theorem dX5_findShapes_154 : decode cX5_findShapes 154 = .ok (.isub, 1) := by decide +kernel
theorem dX5_findShapes_155 : decode cX5_findShapes 155 = .ok (.iaload, 1) := by decide +kernel
theorem dX5_findShapes_156 : decode cX5_findShapes 156 = .ok (.goto 12, 3) := by decide +kernel
theorem dX5_findShapes_159 : decode cX5_findShapes 159 = .ok (.aload_n 0, 1) := by decide +kernel
theorem dX5_findShapes_160 : decode cX5_findShapes 160 = .ok (.getfield 32, 3) := by decide +kernel
theorem dX5_findShapes_163 : decode cX5_findShapes 163 = .ok (.iload 6, 2) := by decide +kernel
theorem dX5_findShapes_165 : decode cX5_findShapes 165 = .ok (.iconst 1, 1) := by decide +kernel
theorem dX5_findShapes_166 : decode cX5_findShapes 166 = .ok (.isub, 1) := by decide +kernel
theorem dX5_findShapes_167 : decode cX5_findShapes 167 = .ok (.iaload, 1) := by decide +kernel
theorem dX5_findShapes_168 : decode cX5_findShapes 168 = .ok (.istore 7, 2) := by decide +kernel
theorem dX5_findShapes_170 : decode cX5_findShapes 170 = .ok (.aload_n 0, 1) := by decide +kernel
theorem dX5_findShapes_171 : decode cX5_findShapes 171 = .ok (.getfield 32, 3) := by decide +kernel
theorem dX5_findShapes_174 : decode cX5_findShapes 174 = .ok (.iload_n 3, 1) := by decide +kernel
theorem dX5_findShapes_175 : decode cX5_findShapes 175 = .ok (.iload 4, 2) := by decide +kernel
theorem dX5_findShapes_177 : decode cX5_findShapes 177 = .ok (.iadd, 1) := by decide +kernel
theorem dX5_findShapes_178 : decode cX5_findShapes 178 = .ok (.aload_n 0, 1) := by decide +kernel
theorem dX5_findShapes_179 : decode cX5_findShapes 179 = .ok (.getfield 32, 3) := by decide +kernel
theorem dX5_findShapes_182 : decode cX5_findShapes 182 = .ok (.iload 5, 2) := by decide +kernel
theorem dX5_findShapes_184 : decode cX5_findShapes 184 = .ok (.iaload, 1) := by decide +kernel
theorem dX5_findShapes_185 : decode cX5_findShapes 185 = .ok (.aload_n 0, 1) := by decide +kernel
theorem dX5_findShapes_186 : decode cX5_findShapes 186 = .ok (.getfield 32, 3) := by decide +kernel
theorem dX5_findShapes_189 : decode cX5_findShapes 189 = .ok (.iload 6, 2) := by decide +kernel
theorem dX5_findShapes_191 : decode cX5_findShapes 191 = .ok (.iaload, 1) := by decide +kernel
theorem dX5_findShapes_192 : decode cX5_findShapes 192 = .ok (.invokestatic 93, 3) := by decide +kernel
theorem dX5_findShapes_195 : decode cX5_findShapes 195 = .ok (.iload 7, 2) := by decide +kernel
theorem dX5_findShapes_197 : decode cX5_findShapes 197 = .ok (.iadd, 1) := by decide +kernel
theorem dX5_findShapes_198 : decode cX5_findShapes 198 = .ok (.aload_n 0, 1) := by decide +kernel
theorem dX5_findShapes_199 : decode cX5_findShapes 199 = .ok (.getfield 32, 3) := by decide +kernel
theorem dX5_findShapes_202 : decode cX5_findShapes 202 = .ok (.iload_n 3, 1) := by decide +kernel
theorem dX5_findShapes_203 : decode cX5_findShapes 203 = .ok (.bipush 48, 2) := by decide +kernel
theorem dX5_findShapes_205 : decode cX5_findShapes 205 = .ok (.isub, 1) := by decide +kernel
theorem dX5_findShapes_206 : decode cX5_findShapes 206 = .ok (.iload 4, 2) := by decide +kernel
theorem dX5_findShapes_208 : decode cX5_findShapes 208 = .ok (.iadd, 1) := by decide +kernel
theorem dX5_findShapes_209 : decode cX5_findShapes 209 = .ok (.iconst 1, 1) := by decide +kernel
theorem dX5_findShapes_210 : decode cX5_findShapes 210 = .ok (.isub, 1) := by decide +kernel
theorem dX5_findShapes_211 : decode cX5_findShapes 211 = .ok (.iaload, 1) := by decide +kernel
theorem dX5_findShapes_212 : decode cX5_findShapes 212 = .ok (.isub, 1) := by decide +kernel
theorem dX5_findShapes_213 : decode cX5_findShapes 213 = .ok (.iastore, 1) := by decide +kernel
theorem dX5_findShapes_214 : decode cX5_findShapes 214 = .ok (.iinc 4 1, 3) := by decide +kernel
theorem dX5_findShapes_217 : decode cX5_findShapes 217 = .ok (.goto (-184), 3) := by decide +kernel
theorem dX5_findShapes_220 : decode cX5_findShapes 220 = .ok (.iinc 2 1, 3) := by decide +kernel
theorem dX5_findShapes_223 : decode cX5_findShapes 223 = .ok (.goto (-211), 3) := by decide +kernel
theorem dX5_findShapes_226 : decode cX5_findShapes 226 = .ok (.iinc 1 1, 3) := by decide +kernel
theorem dX5_findShapes_229 : decode cX5_findShapes 229 = .ok (.goto (-227), 3) := by decide +kernel
theorem dX5_findShapes_232 : decode cX5_findShapes 232 = .ok (.return_, 1) := by decide +kernel
set_option maxRecDepth 20000 in
theorem ggX5_shape_X5_in : GoodIn wsX5_shape wsX5_in := goodIn_r _ [8] (by decide +kernel) (by decide +kernel)
set_option maxRecDepth 20000 in
theorem gX5_shape_X5_in : GoodIn wsX5_shape (va_wsS RX5 76 yX5_in wsX5_in) := goodIn_app (goodIn_of _ (by decide +kernel)) ggX5_shape_X5_in
set_option maxRecDepth 20000 in
theorem ggX5_shape_X5_findShapes : GoodIn wsX5_shape wsX5_findShapes := goodIn_r _ [12, 1, 2, 4, 13, 14, 15, 7, 16, 17, 18, 19, 20, 21, 22, 23, 24, 25, 26, 27, 28, 29, 30, 31, 32, 33, 34, 35, 36, 37, 38] (by decide +kernel) (by decide +kernel)
set_option maxRecDepth 20000 in
theorem gX5_shape_X5_findShapes : GoodIn wsX5_shape (wsV RX5 103 RX5 yX5_findShapes wsX5_findShapes) := goodIn_app (goodIn_of _ (by decide +kernel)) ggX5_shape_X5_findShapes
theorem dX5_shape_0 : decode cX5_shape 0 = .ok (.iload_n 1, 1) := by decide +kernel
theorem dX5_shape_1 : decode cX5_shape 1 = .ok (.i2l, 1) := by decide +kernel
theorem dX5_shape_2 : decode cX5_shape 2 = .ok (.lconst 0, 1) := by decide +kernel
theorem dX5_shape_3 : decode cX5_shape 3 = .ok (.aload_n 0, 1) := by decide +kernel
theorem dX5_shape_4 : decode cX5_shape 4 = .ok (.getfield 7, 3) := by decide +kernel
theorem dX5_shape_7 : decode cX5_shape 7 = .ok (.i2l, 1) := by decide +kernel
theorem dX5_shape_8 : decode cX5_shape 8 = .ok (.invokestatic 76, 3) := by decide +kernel
theorem dX5_shape_11 : decode cX5_shape 11 = .ok (.ifCond .eq 29, 3) := by decide +kernel
theorem dX5_shape_14 : decode cX5_shape 14 = .ok (.iload_n 2, 1) := by decide +kernel
theorem dX5_shape_15 : decode cX5_shape 15 = .ok (.i2l, 1) := by decide +kernel
theorem dX5_shape_16 : decode cX5_shape 16 = .ok (.lconst 0, 1) := by decide +kernel
theorem dX5_shape_17 : decode cX5_shape 17 = .ok (.aload_n 0, 1) := by decide +kernel
theorem dX5_shape_18 : decode cX5_shape 18 = .ok (.getfield 13, 3) := by decide +kernel
theorem dX5_shape_21 : decode cX5_shape 21 = .ok (.i2l, 1) := by decide +kernel
theorem dX5_shape_22 : decode cX5_shape 22 = .ok (.invokestatic 76, 3) := by decide +kernel
theorem dX5_shape_25 : decode cX5_shape 25 = .ok (.ifCond .eq 15, 3) := by decide +kernel
theorem dX5_shape_28 : decode cX5_shape 28 = .ok (.iload_n 3, 1) := by decide +kernel
theorem dX5_shape_29 : decode cX5_shape 29 = .ok (.i2l, 1) := by decide +kernel
theorem dX5_shape_30 : decode cX5_shape 30 = .ok (.lconst 0, 1) := by decide +kernel
theorem dX5_shape_31 : decode cX5_shape 31 = .ok (.ldc2_w 101, 3) := by decide +kernel
theorem dX5_shape_34 : decode cX5_shape 34 = .ok (.invokestatic 76, 3) := by decide +kernel
theorem dX5_shape_37 : decode cX5_shape 37 = .ok (.ifCond .ne 5, 3) := by decide +kernel
theorem dX5_shape_40 : decode cX5_shape 40 = .ok (.iconst (-1), 1) := by decide +kernel
theorem dX5_shape_41 : decode cX5_shape 41 = .ok (.ireturn, 1) := by decide +kernel
theorem dX5_shape_42 : decode cX5_shape 42 = .ok (.aload_n 0, 1) := by decide +kernel
theorem dX5_shape_43 : decode cX5_shape 43 = .ok (.invokevirtual 103, 3) := by decide +kernel
theorem dX5_shape_46 : decode cX5_shape 46 = .ok (.aload_n 0, 1) := by decide +kernel
theorem dX5_shape_47 : decode cX5_shape 47 = .ok (.getfield 32, 3) := by decide +kernel
theorem dX5_shape_50 : decode cX5_shape 50 = .ok (.bipush 6, 2) := by decide +kernel
theorem dX5_shape_52 : decode cX5_shape 52 = .ok (.bipush 7, 2) := by decide +kernel
theorem dX5_shape_54 : decode cX5_shape 54 = .ok (.iload_n 1, 1) := by decide +kernel
theorem dX5_shape_55 : decode cX5_shape 55 = .ok (.imul, 1) := by decide +kernel
theorem dX5_shape_56 : decode cX5_shape 56 = .ok (.iload_n 2, 1) := by decide +kernel
theorem dX5_shape_57 : decode cX5_shape 57 = .ok (.iadd, 1) := by decide +kernel
theorem dX5_shape_58 : decode cX5_shape 58 = .ok (.imul, 1) := by decide +kernel
theorem dX5_shape_59 : decode cX5_shape 59 = .ok (.iload_n 3, 1) := by decide +kernel
theorem dX5_shape_60 : decode cX5_shape 60 = .ok (.iadd, 1) := by decide +kernel
theorem dX5_shape_61 : decode cX5_shape 61 = .ok (.iaload, 1) := by decide +kernel
theorem dX5_shape_62 : decode cX5_shape 62 = .ok (.ireturn, 1) := by decide +kernel
set_option maxRecDepth 20000 in
theorem ggX5_ways_X5_in : GoodIn wsX5_ways wsX5_in := goodIn_r _ [8] (by decide +kernel) (by decide +kernel)
set_option maxRecDepth 20000 in
theorem gX5_ways_X5_in : GoodIn wsX5_ways (va_wsS RX5 76 yX5_in wsX5_in) := goodIn_app (goodIn_of _ (by decide +kernel)) ggX5_ways_X5_in
set_option maxRecDepth 20000 in
theorem ggX5_ways_X5_findShapes : GoodIn wsX5_ways wsX5_findShapes := goodIn_r _ [12, 3, 4, 2, 13, 14, 15, 7, 16, 17, 18, 19, 20, 21, 22, 23, 24, 25, 26, 27, 28, 29, 30, 31, 32, 33, 34, 35, 36, 37, 38] (by decide +kernel) (by decide +kernel)
set_option maxRecDepth 20000 in
theorem gX5_ways_X5_findShapes : GoodIn wsX5_ways (wsV RX5 103 RX5 yX5_findShapes wsX5_findShapes) := goodIn_app (goodIn_of _ (by decide +kernel)) ggX5_ways_X5_findShapes
theorem dX5_ways_0 : decode cX5_ways 0 = .ok (.iload_n 1, 1) := by decide +kernel
theorem dX5_ways_1 : decode cX5_ways 1 = .ok (.i2l, 1) := by decide +kernel
theorem dX5_ways_2 : decode cX5_ways 2 = .ok (.lconst 1, 1) := by decide +kernel
theorem dX5_ways_3 : decode cX5_ways 3 = .ok (.ldc2_w 80, 3) := by decide +kernel
theorem dX5_ways_6 : decode cX5_ways 6 = .ok (.invokestatic 76, 3) := by decide +kernel
theorem dX5_ways_9 : decode cX5_ways 9 = .ok (.ifCond .ne 5, 3) := by decide +kernel
theorem dX5_ways_12 : decode cX5_ways 12 = .ok (.iconst (-1), 1) := by decide +kernel
theorem dX5_ways_13 : decode cX5_ways 13 = .ok (.ireturn, 1) := by decide +kernel
theorem dX5_ways_14 : decode cX5_ways 14 = .ok (.aload_n 0, 1) := by decide +kernel
theorem dX5_ways_15 : decode cX5_ways 15 = .ok (.invokevirtual 103, 3) := by decide +kernel
theorem dX5_ways_18 : decode cX5_ways 18 = .ok (.iconst 0, 1) := by decide +kernel
theorem dX5_ways_19 : decode cX5_ways 19 = .ok (.istore_n 2, 1) := by decide +kernel
theorem dX5_ways_20 : decode cX5_ways 20 = .ok (.iconst 0, 1) := by decide +kernel
theorem dX5_ways_21 : decode cX5_ways 21 = .ok (.istore_n 3, 1) := by decide +kernel
theorem dX5_ways_22 : decode cX5_ways 22 = .ok (.iload_n 3, 1) := by decide +kernel
theorem dX5_ways_23 : decode cX5_ways 23 = .ok (.iload_n 1, 1) := by decide +kernel
theorem dX5_ways_24 : decode cX5_ways 24 = .ok (.if_icmp .ge 34, 3) := by decide +kernel
theorem dX5_ways_27 : decode cX5_ways 27 = .ok (.iload_n 2, 1) := by decide +kernel
theorem dX5_ways_28 : decode cX5_ways 28 = .ok (.aload_n 0, 1) := by decide +kernel
theorem dX5_ways_29 : decode cX5_ways 29 = .ok (.getfield 32, 3) := by decide +kernel
theorem dX5_ways_32 : decode cX5_ways 32 = .ok (.bipush 6, 2) := by decide +kernel
theorem dX5_ways_34 : decode cX5_ways 34 = .ok (.bipush 7, 2) := by decide +kernel
theorem dX5_ways_36 : decode cX5_ways 36 = .ok (.aload_n 0, 1) := by decide +kernel
theorem dX5_ways_37 : decode cX5_ways 37 = .ok (.getfield 7, 3) := by decide +kernel
theorem dX5_ways_40 : decode cX5_ways 40 = .ok (.imul, 1) := by decide +kernel
theorem dX5_ways_41 : decode cX5_ways 41 = .ok (.aload_n 0, 1) := by decide +kernel
theorem dX5_ways_42 : decode cX5_ways 42 = .ok (.getfield 13, 3) := by decide +kernel
theorem dX5_ways_45 : decode cX5_ways 45 = .ok (.iadd, 1) := by decide +kernel
theorem dX5_ways_46 : decode cX5_ways 46 = .ok (.imul, 1) := by decide +kernel
theorem dX5_ways_47 : decode cX5_ways 47 = .ok (.iload_n 3, 1) := by decide +kernel
theorem dX5_ways_48 : decode cX5_ways 48 = .ok (.iadd, 1) := by decide +kernel
theorem dX5_ways_49 : decode cX5_ways 49 = .ok (.iaload, 1) := by decide +kernel
theorem dX5_ways_50 : decode cX5_ways 50 = .ok (.iadd, 1) := by decide +kernel
theorem dX5_ways_51 : decode cX5_ways 51 = .ok (.istore_n 2, 1) := by decide +kernel
theorem dX5_ways_52 : decode cX5_ways 52 = .ok (.iinc 3 1, 3) := by decide +kernel
theorem dX5_ways_55 : decode cX5_ways 55 = .ok (.goto (-33), 3) := by decide +kernel
theorem dX5_ways_58 : decode cX5_ways 58 = .ok (.iload_n 2, 1) := by decide +kernel
theorem dX5_ways_59 : decode cX5_ways 59 = .ok (.ireturn, 1) := by decide +kernel
set_option maxRecDepth 20000 in
theorem ggX5_sums_X5_isPlace : GoodIn wsX5_sums wsX5_isPlace := goodIn_r _ [8, 9, 10, 11, 12, 7, 13, 14, 15, 16, 17, 18, 19, 20, 21, 22, 23, 24, 25, 26, 27, 28, 29, 30, 31, 32, 33, 34, 35] (by decide +kernel) (by decide +kernel)
set_option maxRecDepth 20000 in
theorem gX5_sums_X5_isPlace : GoodIn wsX5_sums (wsV RX5 82 RX5 yX5_isPlace wsX5_isPlace) := goodIn_app (goodIn_of _ (by decide +kernel)) ggX5_sums_X5_isPlace
theorem dX5_sums_0 : decode cX5_sums 0 = .ok (.aload_n 0, 1) := by decide +kernel
theorem dX5_sums_1 : decode cX5_sums 1 = .ok (.iload_n 1, 1) := by decide +kernel
theorem dX5_sums_2 : decode cX5_sums 2 = .ok (.iload_n 2, 1) := by decide +kernel
theorem dX5_sums_3 : decode cX5_sums 3 = .ok (.invokevirtual 82, 3) := by decide +kernel
theorem dX5_sums_6 : decode cX5_sums 6 = .ok (.ifCond .ne 7, 3) := by decide +kernel
theorem dX5_sums_9 : decode cX5_sums 9 = .ok (.ldc2_w 106, 3) := by decide +kernel
theorem dX5_sums_12 : decode cX5_sums 12 = .ok (.lreturn, 1) := by decide +kernel
theorem dX5_sums_13 : decode cX5_sums 13 = .ok (.iconst 0, 1) := by decide +kernel
theorem dX5_sums_14 : decode cX5_sums 14 = .ok (.istore_n 3, 1) := by decide +kernel
theorem dX5_sums_15 : decode cX5_sums 15 = .ok (.iload_n 3, 1) := by decide +kernel
theorem dX5_sums_16 : decode cX5_sums 16 = .ok (.iload_n 1, 1) := by decide +kernel
theorem dX5_sums_17 : decode cX5_sums 17 = .ok (.if_icmp .gt 123, 3) := by decide +kernel
theorem dX5_sums_20 : decode cX5_sums 20 = .ok (.iconst 0, 1) := by decide +kernel
theorem dX5_sums_21 : decode cX5_sums 21 = .ok (.istore 4, 2) := by decide +kernel
theorem dX5_sums_23 : decode cX5_sums 23 = .ok (.iload 4, 2) := by decide +kernel
theorem dX5_sums_25 : decode cX5_sums 25 = .ok (.iload_n 2, 1) := by decide +kernel
theorem dX5_sums_26 : decode cX5_sums 26 = .ok (.if_icmp .gt 108, 3) := by decide +kernel
theorem dX5_sums_29 : decode cX5_sums 29 = .ok (.iload_n 3, 1) := by decide +kernel
theorem dX5_sums_30 : decode cX5_sums 30 = .ok (.ifCond .ne 12, 3) := by decide +kernel
theorem dX5_sums_33 : decode cX5_sums 33 = .ok (.iload 4, 2) := by decide +kernel
theorem dX5_sums_35 : decode cX5_sums 35 = .ok (.ifCond .ne 7, 3) := by decide +kernel
theorem dX5_sums_38 : decode cX5_sums 38 = .ok (.lconst 1, 1) := by decide +kernel
theorem dX5_sums_39 : decode cX5_sums 39 = .ok (.goto 4, 3) := by decide +kernel
theorem dX5_sums_42 : decode cX5_sums 42 = .ok (.lconst 0, 1) := by decide +kernel
theorem dX5_sums_43 : decode cX5_sums 43 = .ok (.lstore 5, 2) := by decide +kernel
theorem dX5_sums_45 : decode cX5_sums 45 = .ok (.lload 5, 2) := by decide +kernel
theorem dX5_sums_47 : decode cX5_sums 47 = .ok (.iload_n 3, 1) := by decide +kernel
theorem dX5_sums_48 : decode cX5_sums 48 = .ok (.ifCond .le 20, 3) := by decide +kernel
theorem dX5_sums_51 : decode cX5_sums 51 = .ok (.aload_n 0, 1) := by decide +kernel
theorem dX5_sums_52 : decode cX5_sums 52 = .ok (.getfield 35, 3) := by decide +kernel
theorem dX5_sums_55 : decode cX5_sums 55 = .ok (.bipush 6, 2) := by decide +kernel
theorem dX5_sums_57 : decode cX5_sums 57 = .ok (.iload_n 3, 1) := by decide +kernel
theorem dX5_sums_58 : decode cX5_sums 58 = .ok (.iconst 1, 1) := by decide +kernel
theorem dX5_sums_59 : decode cX5_sums 59 = .ok (.isub, 1) := by decide +kernel
theorem dX5_sums_60 : decode cX5_sums 60 = .ok (.imul, 1) := by decide +kernel
theorem dX5_sums_61 : decode cX5_sums 61 = .ok (.iload 4, 2) := by decide +kernel
theorem dX5_sums_63 : decode cX5_sums 63 = .ok (.iadd, 1) := by decide +kernel
theorem dX5_sums_64 : decode cX5_sums 64 = .ok (.laload, 1) := by decide +kernel
theorem dX5_sums_65 : decode cX5_sums 65 = .ok (.goto 4, 3) := by decide +kernel
theorem dX5_sums_68 : decode cX5_sums 68 = .ok (.lconst 0, 1) := by decide +kernel
theorem dX5_sums_69 : decode cX5_sums 69 = .ok (.ladd, 1) := by decide +kernel
theorem dX5_sums_70 : decode cX5_sums 70 = .ok (.lstore 5, 2) := by decide +kernel
theorem dX5_sums_72 : decode cX5_sums 72 = .ok (.lload 5, 2) := by decide +kernel
theorem dX5_sums_74 : decode cX5_sums 74 = .ok (.iload 4, 2) := by decide +kernel
theorem dX5_sums_76 : decode cX5_sums 76 = .ok (.ifCond .le 20, 3) := by decide +kernel
theorem dX5_sums_79 : decode cX5_sums 79 = .ok (.aload_n 0, 1) := by decide +kernel
theorem dX5_sums_80 : decode cX5_sums 80 = .ok (.getfield 35, 3) := by decide +kernel
theorem dX5_sums_83 : decode cX5_sums 83 = .ok (.bipush 6, 2) := by decide +kernel
theorem dX5_sums_85 : decode cX5_sums 85 = .ok (.iload_n 3, 1) := by decide +kernel
theorem dX5_sums_86 : decode cX5_sums 86 = .ok (.imul, 1) := by decide +kernel
theorem dX5_sums_87 : decode cX5_sums 87 = .ok (.iload 4, 2) := by decide +kernel
theorem dX5_sums_89 : decode cX5_sums 89 = .ok (.iadd, 1) := by decide +kernel
theorem dX5_sums_90 : decode cX5_sums 90 = .ok (.iconst 1, 1) := by decide +kernel
theorem dX5_sums_91 : decode cX5_sums 91 = .ok (.isub, 1) := by decide +kernel
theorem dX5_sums_92 : decode cX5_sums 92 = .ok (.laload, 1) := by decide +kernel
theorem dX5_sums_93 : decode cX5_sums 93 = .ok (.goto 4, 3) := by decide +kernel
theorem dX5_sums_96 : decode cX5_sums 96 = .ok (.lconst 0, 1) := by decide +kernel
theorem dX5_sums_97 : decode cX5_sums 97 = .ok (.ladd, 1) := by decide +kernel
theorem dX5_sums_98 : decode cX5_sums 98 = .ok (.lstore 5, 2) := by decide +kernel
theorem dX5_sums_100 : decode cX5_sums 100 = .ok (.aload_n 0, 1) := by decide +kernel
theorem dX5_sums_101 : decode cX5_sums 101 = .ok (.getfield 35, 3) := by decide +kernel
theorem dX5_sums_104 : decode cX5_sums 104 = .ok (.bipush 6, 2) := by decide +kernel
theorem dX5_sums_106 : decode cX5_sums 106 = .ok (.iload_n 3, 1) := by decide +kernel
theorem dX5_sums_107 : decode cX5_sums 107 = .ok (.imul, 1) := by decide +kernel
theorem dX5_sums_108 : decode cX5_sums 108 = .ok (.iload 4, 2) := by decide +kernel
theorem dX5_sums_110 : decode cX5_sums 110 = .ok (.iadd, 1) := by decide +kernel
theorem dX5_sums_111 : decode cX5_sums 111 = .ok (.lload 5, 2) := by decide +kernel
theorem dX5_sums_113 : decode cX5_sums 113 = .ok (.aload_n 0, 1) := by decide +kernel
theorem dX5_sums_114 : decode cX5_sums 114 = .ok (.getfield 16, 3) := by decide +kernel
theorem dX5_sums_117 : decode cX5_sums 117 = .ok (.bipush 6, 2) := by decide +kernel
theorem dX5_sums_119 : decode cX5_sums 119 = .ok (.iload_n 3, 1) := by decide +kernel
theorem dX5_sums_120 : decode cX5_sums 120 = .ok (.imul, 1) := by decide +kernel
theorem dX5_sums_121 : decode cX5_sums 121 = .ok (.iload 4, 2) := by decide +kernel
theorem dX5_sums_123 : decode cX5_sums 123 = .ok (.iadd, 1) := by decide +kernel
theorem dX5_sums_124 : decode cX5_sums 124 = .ok (.iaload, 1) := by decide +kernel
theorem dX5_sums_125 : decode cX5_sums 125 = .ok (.i2l, 1) := by decide +kernel
theorem dX5_sums_126 : decode cX5_sums 126 = .ok (.lmul, 1) := by decide +kernel
theorem dX5_sums_127 : decode cX5_sums 127 = .ok (.lastore, 1) := by decide +kernel
theorem dX5_sums_128 : decode cX5_sums 128 = .ok (.iinc 4 1, 3) := by decide +kernel
theorem dX5_sums_131 : decode cX5_sums 131 = .ok (.goto (-108), 3) := by decide +kernel
theorem dX5_sums_134 : decode cX5_sums 134 = .ok (.iinc 3 1, 3) := by decide +kernel
theorem dX5_sums_137 : decode cX5_sums 137 = .ok (.goto (-122), 3) := by decide +kernel
theorem dX5_sums_140 : decode cX5_sums 140 = .ok (.aload_n 0, 1) := by decide +kernel
theorem dX5_sums_141 : decode cX5_sums 141 = .ok (.getfield 35, 3) := by decide +kernel
theorem dX5_sums_144 : decode cX5_sums 144 = .ok (.bipush 6, 2) := by decide +kernel
theorem dX5_sums_146 : decode cX5_sums 146 = .ok (.iload_n 1, 1) := by decide +kernel
theorem dX5_sums_147 : decode cX5_sums 147 = .ok (.imul, 1) := by decide +kernel
theorem dX5_sums_148 : decode cX5_sums 148 = .ok (.iload_n 2, 1) := by decide +kernel
theorem dX5_sums_149 : decode cX5_sums 149 = .ok (.iadd, 1) := by decide +kernel
theorem dX5_sums_150 : decode cX5_sums 150 = .ok (.laload, 1) := by decide +kernel
theorem dX5_sums_151 : decode cX5_sums 151 = .ok (.lreturn, 1) := by decide +kernel
set_option maxRecDepth 20000 in
theorem ggX5_served_X5_in : GoodIn wsX5_served wsX5_in := goodIn_r _ [7] (by decide +kernel) (by decide +kernel)
set_option maxRecDepth 20000 in
theorem gX5_served_X5_in : GoodIn wsX5_served (va_wsS RX5 76 yX5_in wsX5_in) := goodIn_app (goodIn_of _ (by decide +kernel)) ggX5_served_X5_in
set_option maxRecDepth 20000 in
theorem ggX5_served_X5_findBest : GoodIn wsX5_served wsX5_findBest := goodIn_r _ [11, 1, 2, 3, 12, 13, 14, 6, 15, 16, 17, 18, 19, 20, 21, 22, 23, 24, 25, 26, 27, 28, 29, 30, 31, 32, 33, 34, 35, 36, 37] (by decide +kernel) (by decide +kernel)
set_option maxRecDepth 20000 in
theorem gX5_served_X5_findBest : GoodIn wsX5_served (wsV RX5 97 RX5 yX5_findBest wsX5_findBest) := goodIn_app (goodIn_of _ (by decide +kernel)) ggX5_served_X5_findBest
theorem dX5_served_0 : decode cX5_served 0 = .ok (.iload_n 1, 1) := by decide +kernel
theorem dX5_served_1 : decode cX5_served 1 = .ok (.i2l, 1) := by decide +kernel
theorem dX5_served_2 : decode cX5_served 2 = .ok (.lconst 0, 1) := by decide +kernel
theorem dX5_served_3 : decode cX5_served 3 = .ok (.aload_n 0, 1) := by decide +kernel
theorem dX5_served_4 : decode cX5_served 4 = .ok (.getfield 7, 3) := by decide +kernel
theorem dX5_served_7 : decode cX5_served 7 = .ok (.iconst 1, 1) := by decide +kernel
theorem dX5_served_8 : decode cX5_served 8 = .ok (.isub, 1) := by decide +kernel
theorem dX5_served_9 : decode cX5_served 9 = .ok (.i2l, 1) := by decide +kernel
theorem dX5_served_10 : decode cX5_served 10 = .ok (.invokestatic 76, 3) := by decide +kernel
theorem dX5_served_13 : decode cX5_served 13 = .ok (.ifCond .eq 7, 3) := by decide +kernel
theorem dX5_served_16 : decode cX5_served 16 = .ok (.iload_n 2, 1) := by decide +kernel
theorem dX5_served_17 : decode cX5_served 17 = .ok (.ifCond .ge 5, 3) := by decide +kernel
theorem dX5_served_20 : decode cX5_served 20 = .ok (.iconst (-1), 1) := by decide +kernel
theorem dX5_served_21 : decode cX5_served 21 = .ok (.ireturn, 1) := by decide +kernel
theorem dX5_served_22 : decode cX5_served 22 = .ok (.aload_n 0, 1) := by decide +kernel
theorem dX5_served_23 : decode cX5_served 23 = .ok (.iconst 0, 1) := by decide +kernel
theorem dX5_served_24 : decode cX5_served 24 = .ok (.iconst 0, 1) := by decide +kernel
theorem dX5_served_25 : decode cX5_served 25 = .ok (.invokevirtual 97, 3) := by decide +kernel
theorem dX5_served_28 : decode cX5_served 28 = .ok (.iconst 0, 1) := by decide +kernel
theorem dX5_served_29 : decode cX5_served 29 = .ok (.istore_n 3, 1) := by decide +kernel
theorem dX5_served_30 : decode cX5_served 30 = .ok (.iconst 0, 1) := by decide +kernel
theorem dX5_served_31 : decode cX5_served 31 = .ok (.istore 4, 2) := by decide +kernel
theorem dX5_served_33 : decode cX5_served 33 = .ok (.iload 4, 2) := by decide +kernel
theorem dX5_served_35 : decode cX5_served 35 = .ok (.aload_n 0, 1) := by decide +kernel
theorem dX5_served_36 : decode cX5_served 36 = .ok (.getfield 13, 3) := by decide +kernel
theorem dX5_served_39 : decode cX5_served 39 = .ok (.if_icmp .ge 33, 3) := by decide +kernel
theorem dX5_served_42 : decode cX5_served 42 = .ok (.iload_n 3, 1) := by decide +kernel
theorem dX5_served_43 : decode cX5_served 43 = .ok (.aload_n 0, 1) := by decide +kernel
theorem dX5_served_44 : decode cX5_served 44 = .ok (.getfield 29, 3) := by decide +kernel
theorem dX5_served_47 : decode cX5_served 47 = .ok (.bipush 6, 2) := by decide +kernel
theorem dX5_served_49 : decode cX5_served 49 = .ok (.iload_n 1, 1) := by decide +kernel
theorem dX5_served_50 : decode cX5_served 50 = .ok (.imul, 1) := by decide +kernel
theorem dX5_served_51 : decode cX5_served 51 = .ok (.iload 4, 2) := by decide +kernel
theorem dX5_served_53 : decode cX5_served 53 = .ok (.iadd, 1) := by decide +kernel
theorem dX5_served_54 : decode cX5_served 54 = .ok (.iaload, 1) := by decide +kernel
theorem dX5_served_55 : decode cX5_served 55 = .ok (.iload_n 2, 1) := by decide +kernel
theorem dX5_served_56 : decode cX5_served 56 = .ok (.if_icmp .gt 7, 3) := by decide +kernel
theorem dX5_served_59 : decode cX5_served 59 = .ok (.iconst 1, 1) := by decide +kernel
theorem dX5_served_60 : decode cX5_served 60 = .ok (.goto 4, 3) := by decide +kernel
theorem dX5_served_63 : decode cX5_served 63 = .ok (.iconst 0, 1) := by decide +kernel
theorem dX5_served_64 : decode cX5_served 64 = .ok (.iadd, 1) := by decide +kernel
theorem dX5_served_65 : decode cX5_served 65 = .ok (.istore_n 3, 1) := by decide +kernel
theorem dX5_served_66 : decode cX5_served 66 = .ok (.iinc 4 1, 3) := by decide +kernel
theorem dX5_served_69 : decode cX5_served 69 = .ok (.goto (-36), 3) := by decide +kernel
theorem dX5_served_72 : decode cX5_served 72 = .ok (.iload_n 3, 1) := by decide +kernel
theorem dX5_served_73 : decode cX5_served 73 = .ok (.ireturn, 1) := by decide +kernel
set_option maxRecDepth 20000 in
theorem ggX5_line_X5_in : GoodIn wsX5_line wsX5_in := goodIn_r _ [7] (by decide +kernel) (by decide +kernel)
set_option maxRecDepth 20000 in
theorem gX5_line_X5_in : GoodIn wsX5_line (va_wsS RX5 76 yX5_in wsX5_in) := goodIn_app (goodIn_of _ (by decide +kernel)) ggX5_line_X5_in
set_option maxRecDepth 20000 in
theorem ggX5_line_X5_findBest : GoodIn wsX5_line wsX5_findBest := goodIn_r _ [11, 1, 2, 3, 12, 13, 14, 6, 15, 16, 17, 18, 19, 20, 21, 22, 23, 24, 25, 26, 27, 28, 29, 30, 31, 32, 33, 34, 35, 36, 37] (by decide +kernel) (by decide +kernel)
set_option maxRecDepth 20000 in
theorem gX5_line_X5_findBest : GoodIn wsX5_line (wsV RX5 97 RX5 yX5_findBest wsX5_findBest) := goodIn_app (goodIn_of _ (by decide +kernel)) ggX5_line_X5_findBest
theorem dX5_line_0 : decode cX5_line 0 = .ok (.iload_n 1, 1) := by decide +kernel
theorem dX5_line_1 : decode cX5_line 1 = .ok (.i2l, 1) := by decide +kernel
theorem dX5_line_2 : decode cX5_line 2 = .ok (.lconst 0, 1) := by decide +kernel
theorem dX5_line_3 : decode cX5_line 3 = .ok (.aload_n 0, 1) := by decide +kernel
theorem dX5_line_4 : decode cX5_line 4 = .ok (.getfield 7, 3) := by decide +kernel
theorem dX5_line_7 : decode cX5_line 7 = .ok (.aload_n 0, 1) := by decide +kernel
theorem dX5_line_8 : decode cX5_line 8 = .ok (.getfield 13, 3) := by decide +kernel
theorem dX5_line_11 : decode cX5_line 11 = .ok (.iadd, 1) := by decide +kernel
theorem dX5_line_12 : decode cX5_line 12 = .ok (.iconst 2, 1) := by decide +kernel
theorem dX5_line_13 : decode cX5_line 13 = .ok (.isub, 1) := by decide +kernel
theorem dX5_line_14 : decode cX5_line 14 = .ok (.i2l, 1) := by decide +kernel
theorem dX5_line_15 : decode cX5_line 15 = .ok (.invokestatic 76, 3) := by decide +kernel
theorem dX5_line_18 : decode cX5_line 18 = .ok (.ifCond .ne 5, 3) := by decide +kernel
theorem dX5_line_21 : decode cX5_line 21 = .ok (.iconst (-1), 1) := by decide +kernel
theorem dX5_line_22 : decode cX5_line 22 = .ok (.ireturn, 1) := by decide +kernel
theorem dX5_line_23 : decode cX5_line 23 = .ok (.aload_n 0, 1) := by decide +kernel
theorem dX5_line_24 : decode cX5_line 24 = .ok (.iconst 0, 1) := by decide +kernel
theorem dX5_line_25 : decode cX5_line 25 = .ok (.iconst 0, 1) := by decide +kernel
theorem dX5_line_26 : decode cX5_line 26 = .ok (.invokevirtual 97, 3) := by decide +kernel
theorem dX5_line_29 : decode cX5_line 29 = .ok (.iconst 0, 1) := by decide +kernel
theorem dX5_line_30 : decode cX5_line 30 = .ok (.istore_n 2, 1) := by decide +kernel
theorem dX5_line_31 : decode cX5_line 31 = .ok (.iconst 0, 1) := by decide +kernel
theorem dX5_line_32 : decode cX5_line 32 = .ok (.istore_n 3, 1) := by decide +kernel
theorem dX5_line_33 : decode cX5_line 33 = .ok (.iconst 0, 1) := by decide +kernel
theorem dX5_line_34 : decode cX5_line 34 = .ok (.istore 4, 2) := by decide +kernel
theorem dX5_line_36 : decode cX5_line 36 = .ok (.iload 4, 2) := by decide +kernel
theorem dX5_line_38 : decode cX5_line 38 = .ok (.iload_n 1, 1) := by decide +kernel
theorem dX5_line_39 : decode cX5_line 39 = .ok (.if_icmp .ge 91, 3) := by decide +kernel
theorem dX5_line_42 : decode cX5_line 42 = .ok (.iload_n 3, 1) := by decide +kernel
theorem dX5_line_43 : decode cX5_line 43 = .ok (.aload_n 0, 1) := by decide +kernel
theorem dX5_line_44 : decode cX5_line 44 = .ok (.getfield 13, 3) := by decide +kernel
theorem dX5_line_47 : decode cX5_line 47 = .ok (.iconst 1, 1) := by decide +kernel
theorem dX5_line_48 : decode cX5_line 48 = .ok (.isub, 1) := by decide +kernel
theorem dX5_line_49 : decode cX5_line 49 = .ok (.if_icmp .eq 42, 3) := by decide +kernel
theorem dX5_line_52 : decode cX5_line 52 = .ok (.iload_n 2, 1) := by decide +kernel
theorem dX5_line_53 : decode cX5_line 53 = .ok (.aload_n 0, 1) := by decide +kernel
theorem dX5_line_54 : decode cX5_line 54 = .ok (.getfield 7, 3) := by decide +kernel
theorem dX5_line_57 : decode cX5_line 57 = .ok (.iconst 1, 1) := by decide +kernel
theorem dX5_line_58 : decode cX5_line 58 = .ok (.isub, 1) := by decide +kernel
theorem dX5_line_59 : decode cX5_line 59 = .ok (.if_icmp .ge 36, 3) := by decide +kernel
theorem dX5_line_62 : decode cX5_line 62 = .ok (.aload_n 0, 1) := by decide +kernel
theorem dX5_line_63 : decode cX5_line 63 = .ok (.getfield 29, 3) := by decide +kernel
theorem dX5_line_66 : decode cX5_line 66 = .ok (.bipush 6, 2) := by decide +kernel
theorem dX5_line_68 : decode cX5_line 68 = .ok (.iload_n 2, 1) := by decide +kernel
theorem dX5_line_69 : decode cX5_line 69 = .ok (.iconst 1, 1) := by decide +kernel
theorem dX5_line_70 : decode cX5_line 70 = .ok (.iadd, 1) := by decide +kernel
theorem dX5_line_71 : decode cX5_line 71 = .ok (.imul, 1) := by decide +kernel
theorem dX5_line_72 : decode cX5_line 72 = .ok (.iload_n 3, 1) := by decide +kernel
theorem dX5_line_73 : decode cX5_line 73 = .ok (.iadd, 1) := by decide +kernel
theorem dX5_line_74 : decode cX5_line 74 = .ok (.iaload, 1) := by decide +kernel
theorem dX5_line_75 : decode cX5_line 75 = .ok (.aload_n 0, 1) := by decide +kernel
theorem dX5_line_76 : decode cX5_line 76 = .ok (.getfield 29, 3) := by decide +kernel
theorem dX5_line_79 : decode cX5_line 79 = .ok (.bipush 6, 2) := by decide +kernel
theorem dX5_line_81 : decode cX5_line 81 = .ok (.iload_n 2, 1) := by decide +kernel
theorem dX5_line_82 : decode cX5_line 82 = .ok (.imul, 1) := by decide +kernel
theorem dX5_line_83 : decode cX5_line 83 = .ok (.iload_n 3, 1) := by decide +kernel
theorem dX5_line_84 : decode cX5_line 84 = .ok (.iadd, 1) := by decide +kernel
theorem dX5_line_85 : decode cX5_line 85 = .ok (.iconst 1, 1) := by decide +kernel
theorem dX5_line_86 : decode cX5_line 86 = .ok (.iadd, 1) := by decide +kernel
theorem dX5_line_87 : decode cX5_line 87 = .ok (.iaload, 1) := by decide +kernel
theorem dX5_line_88 : decode cX5_line 88 = .ok (.if_icmp .ge 7, 3) := by decide +kernel
theorem dX5_line_91 : decode cX5_line 91 = .ok (.iconst 1, 1) := by decide +kernel
theorem dX5_line_92 : decode cX5_line 92 = .ok (.goto 4, 3) := by decide +kernel
theorem dX5_line_95 : decode cX5_line 95 = .ok (.iconst 0, 1) := by decide +kernel
theorem dX5_line_96 : decode cX5_line 96 = .ok (.istore 5, 2) := by decide +kernel
theorem dX5_line_98 : decode cX5_line 98 = .ok (.iload_n 2, 1) := by decide +kernel
theorem dX5_line_99 : decode cX5_line 99 = .ok (.iload 5, 2) := by decide +kernel
theorem dX5_line_101 : decode cX5_line 101 = .ok (.ifCond .eq 7, 3) := by decide +kernel
theorem dX5_line_104 : decode cX5_line 104 = .ok (.iconst 1, 1) := by decide +kernel
theorem dX5_line_105 : decode cX5_line 105 = .ok (.goto 4, 3) := by decide +kernel
theorem dX5_line_108 : decode cX5_line 108 = .ok (.iconst 0, 1) := by decide +kernel
theorem dX5_line_109 : decode cX5_line 109 = .ok (.iadd, 1) := by decide +kernel
theorem dX5_line_110 : decode cX5_line 110 = .ok (.istore_n 2, 1) := by decide +kernel
theorem dX5_line_111 : decode cX5_line 111 = .ok (.iload_n 3, 1) := by decide +kernel
theorem dX5_line_112 : decode cX5_line 112 = .ok (.iload 5, 2) := by decide +kernel
theorem dX5_line_114 : decode cX5_line 114 = .ok (.ifCond .eq 7, 3) := by decide +kernel
theorem dX5_line_117 : decode cX5_line 117 = .ok (.iconst 0, 1) := by decide +kernel
theorem dX5_line_118 : decode cX5_line 118 = .ok (.goto 4, 3) := by decide +kernel
theorem dX5_line_121 : decode cX5_line 121 = .ok (.iconst 1, 1) := by decide +kernel
theorem dX5_line_122 : decode cX5_line 122 = .ok (.iadd, 1) := by decide +kernel
theorem dX5_line_123 : decode cX5_line 123 = .ok (.istore_n 3, 1) := by decide +kernel
theorem dX5_line_124 : decode cX5_line 124 = .ok (.iinc 4 1, 3) := by decide +kernel
theorem dX5_line_127 : decode cX5_line 127 = .ok (.goto (-91), 3) := by decide +kernel
theorem dX5_line_130 : decode cX5_line 130 = .ok (.bipush 10, 2) := by decide +kernel
theorem dX5_line_132 : decode cX5_line 132 = .ok (.iload_n 2, 1) := by decide +kernel
theorem dX5_line_133 : decode cX5_line 133 = .ok (.imul, 1) := by decide +kernel
theorem dX5_line_134 : decode cX5_line 134 = .ok (.iload_n 3, 1) := by decide +kernel
theorem dX5_line_135 : decode cX5_line 135 = .ok (.iadd, 1) := by decide +kernel
theorem dX5_line_136 : decode cX5_line 136 = .ok (.ireturn, 1) := by decide +kernel
set_option maxRecDepth 20000 in
theorem ggX5_letter_X5_in : GoodIn wsX5_letter wsX5_in := goodIn_r _ [7] (by decide +kernel) (by decide +kernel)
set_option maxRecDepth 20000 in
theorem gX5_letter_X5_in : GoodIn wsX5_letter (va_wsS RX5 76 yX5_in wsX5_in) := goodIn_app (goodIn_of _ (by decide +kernel)) ggX5_letter_X5_in
theorem dX5_letter_0 : decode cX5_letter 0 = .ok (.iload_n 1, 1) := by decide +kernel
theorem dX5_letter_1 : decode cX5_letter 1 = .ok (.i2l, 1) := by decide +kernel
theorem dX5_letter_2 : decode cX5_letter 2 = .ok (.lconst 1, 1) := by decide +kernel
theorem dX5_letter_3 : decode cX5_letter 3 = .ok (.ldc2_w 108, 3) := by decide +kernel
theorem dX5_letter_6 : decode cX5_letter 6 = .ok (.invokestatic 76, 3) := by decide +kernel
theorem dX5_letter_9 : decode cX5_letter 9 = .ok (.ifCond .ne 5, 3) := by decide +kernel
theorem dX5_letter_12 : decode cX5_letter 12 = .ok (.iconst (-1), 1) := by decide +kernel
theorem dX5_letter_13 : decode cX5_letter 13 = .ok (.ireturn, 1) := by decide +kernel
theorem dX5_letter_14 : decode cX5_letter 14 = .ok (.aload_n 0, 1) := by decide +kernel
theorem dX5_letter_15 : decode cX5_letter 15 = .ok (.getfield 110, 3) := by decide +kernel
theorem dX5_letter_18 : decode cX5_letter 18 = .ok (.bipush 40, 2) := by decide +kernel
theorem dX5_letter_20 : decode cX5_letter 20 = .ok (.if_icmp .ne 6, 3) := by decide +kernel
theorem dX5_letter_23 : decode cX5_letter 23 = .ok (.bipush (-3), 2) := by decide +kernel
theorem dX5_letter_25 : decode cX5_letter 25 = .ok (.ireturn, 1) := by decide +kernel
theorem dX5_letter_26 : decode cX5_letter 26 = .ok (.aload_n 0, 1) := by decide +kernel
theorem dX5_letter_27 : decode cX5_letter 27 = .ok (.getfield 39, 3) := by decide +kernel
theorem dX5_letter_30 : decode cX5_letter 30 = .ok (.aload_n 0, 1) := by decide +kernel
theorem dX5_letter_31 : decode cX5_letter 31 = .ok (.getfield 110, 3) := by decide +kernel
theorem dX5_letter_34 : decode cX5_letter 34 = .ok (.iload_n 1, 1) := by decide +kernel
theorem dX5_letter_35 : decode cX5_letter 35 = .ok (.iastore, 1) := by decide +kernel
theorem dX5_letter_36 : decode cX5_letter 36 = .ok (.aload_n 0, 1) := by decide +kernel
theorem dX5_letter_37 : decode cX5_letter 37 = .ok (.dup, 1) := by decide +kernel
theorem dX5_letter_38 : decode cX5_letter 38 = .ok (.getfield 110, 3) := by decide +kernel
theorem dX5_letter_41 : decode cX5_letter 41 = .ok (.iconst 1, 1) := by decide +kernel
theorem dX5_letter_42 : decode cX5_letter 42 = .ok (.iadd, 1) := by decide +kernel
theorem dX5_letter_43 : decode cX5_letter 43 = .ok (.putfield 110, 3) := by decide +kernel
theorem dX5_letter_46 : decode cX5_letter 46 = .ok (.aload_n 0, 1) := by decide +kernel
theorem dX5_letter_47 : decode cX5_letter 47 = .ok (.getfield 110, 3) := by decide +kernel
theorem dX5_letter_50 : decode cX5_letter 50 = .ok (.ireturn, 1) := by decide +kernel
theorem dX5_clear_0 : decode cX5_clear 0 = .ok (.aload_n 0, 1) := by decide +kernel
theorem dX5_clear_1 : decode cX5_clear 1 = .ok (.getfield 110, 3) := by decide +kernel
theorem dX5_clear_4 : decode cX5_clear 4 = .ok (.istore_n 1, 1) := by decide +kernel
theorem dX5_clear_5 : decode cX5_clear 5 = .ok (.aload_n 0, 1) := by decide +kernel
theorem dX5_clear_6 : decode cX5_clear 6 = .ok (.iconst 0, 1) := by decide +kernel
theorem dX5_clear_7 : decode cX5_clear 7 = .ok (.putfield 110, 3) := by decide +kernel
theorem dX5_clear_10 : decode cX5_clear 10 = .ok (.iload_n 1, 1) := by decide +kernel
theorem dX5_clear_11 : decode cX5_clear 11 = .ok (.ireturn, 1) := by decide +kernel
theorem dX5_insert_0 : decode cX5_insert 0 = .ok (.iload_n 1, 1) := by decide +kernel
theorem dX5_insert_1 : decode cX5_insert 1 = .ok (.istore_n 3, 1) := by decide +kernel
theorem dX5_insert_2 : decode cX5_insert 2 = .ok (.iconst 0, 1) := by decide +kernel
theorem dX5_insert_3 : decode cX5_insert 3 = .ok (.istore 4, 2) := by decide +kernel
theorem dX5_insert_5 : decode cX5_insert 5 = .ok (.iconst 1, 1) := by decide +kernel
theorem dX5_insert_6 : decode cX5_insert 6 = .ok (.istore 5, 2) := by decide +kernel
theorem dX5_insert_8 : decode cX5_insert 8 = .ok (.iload 5, 2) := by decide +kernel
theorem dX5_insert_10 : decode cX5_insert 10 = .ok (.ifCond .eq 137, 3) := by decide +kernel
theorem dX5_insert_13 : decode cX5_insert 13 = .ok (.iconst 0, 1) := by decide +kernel
theorem dX5_insert_14 : decode cX5_insert 14 = .ok (.istore 6, 2) := by decide +kernel
theorem dX5_insert_16 : decode cX5_insert 16 = .ok (.iload 6, 2) := by decide +kernel
theorem dX5_insert_18 : decode cX5_insert 18 = .ok (.aload_n 0, 1) := by decide +kernel
theorem dX5_insert_19 : decode cX5_insert 19 = .ok (.getfield 48, 3) := by decide +kernel
theorem dX5_insert_22 : decode cX5_insert 22 = .ok (.iload 4, 2) := by decide +kernel
theorem dX5_insert_24 : decode cX5_insert 24 = .ok (.iaload, 1) := by decide +kernel
theorem dX5_insert_25 : decode cX5_insert 25 = .ok (.if_icmp .ge 26, 3) := by decide +kernel
theorem dX5_insert_28 : decode cX5_insert 28 = .ok (.aload_n 0, 1) := by decide +kernel
theorem dX5_insert_29 : decode cX5_insert 29 = .ok (.getfield 42, 3) := by decide +kernel
theorem dX5_insert_32 : decode cX5_insert 32 = .ok (.bipush 40, 2) := by decide +kernel
theorem dX5_insert_34 : decode cX5_insert 34 = .ok (.iload 4, 2) := by decide +kernel
theorem dX5_insert_36 : decode cX5_insert 36 = .ok (.imul, 1) := by decide +kernel
theorem dX5_insert_37 : decode cX5_insert 37 = .ok (.iload 6, 2) := by decide +kernel
theorem dX5_insert_39 : decode cX5_insert 39 = .ok (.iadd, 1) := by decide +kernel
theorem dX5_insert_40 : decode cX5_insert 40 = .ok (.iaload, 1) := by decide +kernel
theorem dX5_insert_41 : decode cX5_insert 41 = .ok (.iload_n 3, 1) := by decide +kernel
theorem dX5_insert_42 : decode cX5_insert 42 = .ok (.if_icmp .gt 9, 3) := by decide +kernel
theorem dX5_insert_45 : decode cX5_insert 45 = .ok (.iinc 6 1, 3) := by decide +kernel
theorem dX5_insert_48 : decode cX5_insert 48 = .ok (.goto (-32), 3) := by decide +kernel
theorem dX5_insert_51 : decode cX5_insert 51 = .ok (.iload 6, 2) := by decide +kernel
theorem dX5_insert_53 : decode cX5_insert 53 = .ok (.aload_n 0, 1) := by decide +kernel
theorem dX5_insert_54 : decode cX5_insert 54 = .ok (.getfield 48, 3) := by decide +kernel
theorem dX5_insert_57 : decode cX5_insert 57 = .ok (.iload 4, 2) := by decide +kernel
theorem dX5_insert_59 : decode cX5_insert 59 = .ok (.iaload, 1) := by decide +kernel
theorem dX5_insert_60 : decode cX5_insert 60 = .ok (.if_icmp .ge 7, 3) := by decide +kernel
theorem dX5_insert_63 : decode cX5_insert 63 = .ok (.iconst 1, 1) := by decide +kernel
theorem dX5_insert_64 : decode cX5_insert 64 = .ok (.goto 4, 3) := by decide +kernel
theorem dX5_insert_67 : decode cX5_insert 67 = .ok (.iconst 0, 1) := by decide +kernel
theorem dX5_insert_68 : decode cX5_insert 68 = .ok (.istore 5, 2) := by decide +kernel
theorem dX5_insert_70 : decode cX5_insert 70 = .ok (.iload 5, 2) := by decide +kernel
theorem dX5_insert_72 : decode cX5_insert 72 = .ok (.ifCond .eq 19, 3) := by decide +kernel
theorem dX5_insert_75 : decode cX5_insert 75 = .ok (.aload_n 0, 1) := by decide +kernel
theorem dX5_insert_76 : decode cX5_insert 76 = .ok (.getfield 42, 3) := by decide +kernel
theorem dX5_insert_79 : decode cX5_insert 79 = .ok (.bipush 40, 2) := by decide +kernel
theorem dX5_insert_81 : decode cX5_insert 81 = .ok (.iload 4, 2) := by decide +kernel
theorem dX5_insert_83 : decode cX5_insert 83 = .ok (.imul, 1) := by decide +kernel
theorem dX5_insert_84 : decode cX5_insert 84 = .ok (.iload 6, 2) := by decide +kernel
theorem dX5_insert_86 : decode cX5_insert 86 = .ok (.iadd, 1) := by decide +kernel
theorem dX5_insert_87 : decode cX5_insert 87 = .ok (.iaload, 1) := by decide +kernel
theorem dX5_insert_88 : decode cX5_insert 88 = .ok (.goto 4, 3) := by decide +kernel
theorem dX5_insert_91 : decode cX5_insert 91 = .ok (.iconst 0, 1) := by decide +kernel
theorem dX5_insert_92 : decode cX5_insert 92 = .ok (.istore 7, 2) := by decide +kernel
theorem dX5_insert_94 : decode cX5_insert 94 = .ok (.aload_n 0, 1) := by decide +kernel
theorem dX5_insert_95 : decode cX5_insert 95 = .ok (.getfield 42, 3) := by decide +kernel
theorem dX5_insert_98 : decode cX5_insert 98 = .ok (.bipush 40, 2) := by decide +kernel
theorem dX5_insert_100 : decode cX5_insert 100 = .ok (.iload 4, 2) := by decide +kernel
theorem dX5_insert_102 : decode cX5_insert 102 = .ok (.imul, 1) := by decide +kernel
theorem dX5_insert_103 : decode cX5_insert 103 = .ok (.iload 6, 2) := by decide +kernel
theorem dX5_insert_105 : decode cX5_insert 105 = .ok (.iadd, 1) := by decide +kernel
theorem dX5_insert_106 : decode cX5_insert 106 = .ok (.iload_n 3, 1) := by decide +kernel
theorem dX5_insert_107 : decode cX5_insert 107 = .ok (.iastore, 1) := by decide +kernel
theorem dX5_insert_108 : decode cX5_insert 108 = .ok (.iload 5, 2) := by decide +kernel
theorem dX5_insert_110 : decode cX5_insert 110 = .ok (.ifCond .ne 28, 3) := by decide +kernel
theorem dX5_insert_113 : decode cX5_insert 113 = .ok (.aload_n 0, 1) := by decide +kernel
theorem dX5_insert_114 : decode cX5_insert 114 = .ok (.getfield 45, 3) := by decide +kernel
theorem dX5_insert_117 : decode cX5_insert 117 = .ok (.bipush 40, 2) := by decide +kernel
theorem dX5_insert_119 : decode cX5_insert 119 = .ok (.iload 4, 2) := by decide +kernel
theorem dX5_insert_121 : decode cX5_insert 121 = .ok (.imul, 1) := by decide +kernel
theorem dX5_insert_122 : decode cX5_insert 122 = .ok (.iload 6, 2) := by decide +kernel
theorem dX5_insert_124 : decode cX5_insert 124 = .ok (.iadd, 1) := by decide +kernel
theorem dX5_insert_125 : decode cX5_insert 125 = .ok (.iload_n 2, 1) := by decide +kernel
theorem dX5_insert_126 : decode cX5_insert 126 = .ok (.iastore, 1) := by decide +kernel
theorem dX5_insert_127 : decode cX5_insert 127 = .ok (.aload_n 0, 1) := by decide +kernel
theorem dX5_insert_128 : decode cX5_insert 128 = .ok (.getfield 48, 3) := by decide +kernel
theorem dX5_insert_131 : decode cX5_insert 131 = .ok (.iload 4, 2) := by decide +kernel
theorem dX5_insert_133 : decode cX5_insert 133 = .ok (.dup2, 1) := by decide +kernel
theorem dX5_insert_134 : decode cX5_insert 134 = .ok (.iaload, 1) := by decide +kernel
theorem dX5_insert_135 : decode cX5_insert 135 = .ok (.iconst 1, 1) := by decide +kernel
theorem dX5_insert_136 : decode cX5_insert 136 = .ok (.iadd, 1) := by decide +kernel
theorem dX5_insert_137 : decode cX5_insert 137 = .ok (.iastore, 1) := by decide +kernel
theorem dX5_insert_138 : decode cX5_insert 138 = .ok (.iload 7, 2) := by decide +kernel
theorem dX5_insert_140 : decode cX5_insert 140 = .ok (.istore_n 3, 1) := by decide +kernel
theorem dX5_insert_141 : decode cX5_insert 141 = .ok (.iinc 4 1, 3) := by decide +kernel
theorem dX5_insert_144 : decode cX5_insert 144 = .ok (.goto (-136), 3) := by decide +kernel
theorem dX5_insert_147 : decode cX5_insert 147 = .ok (.return_, 1) := by decide +kernel
set_option maxRecDepth 20000 in
theorem ggX5_makeTableaux_X5_insert : GoodIn wsX5_makeTableaux wsX5_insert := goodIn_r _ [8, 1, 9, 10, 11, 12, 13, 14, 15, 16, 17, 18, 19, 20, 21, 22, 23, 24, 25, 26, 27, 28, 29, 30, 31, 32] (by decide +kernel) (by decide +kernel)
set_option maxRecDepth 20000 in
theorem gX5_makeTableaux_X5_insert : GoodIn wsX5_makeTableaux (wsV RX5 113 RX5 yX5_insert wsX5_insert) := goodIn_app (goodIn_of _ (by decide +kernel)) ggX5_makeTableaux_X5_insert
theorem dX5_makeTableaux_0 : decode cX5_makeTableaux 0 = .ok (.iconst 0, 1) := by decide +kernel
theorem dX5_makeTableaux_1 : decode cX5_makeTableaux 1 = .ok (.istore_n 1, 1) := by decide +kernel
theorem dX5_makeTableaux_2 : decode cX5_makeTableaux 2 = .ok (.iload_n 1, 1) := by decide +kernel
theorem dX5_makeTableaux_3 : decode cX5_makeTableaux 3 = .ok (.bipush 9, 2) := by decide +kernel
theorem dX5_makeTableaux_5 : decode cX5_makeTableaux 5 = .ok (.if_icmp .ge 16, 3) := by decide +kernel
theorem dX5_makeTableaux_8 : decode cX5_makeTableaux 8 = .ok (.aload_n 0, 1) := by decide +kernel
theorem dX5_makeTableaux_9 : decode cX5_makeTableaux 9 = .ok (.getfield 48, 3) := by decide +kernel
theorem dX5_makeTableaux_12 : decode cX5_makeTableaux 12 = .ok (.iload_n 1, 1) := by decide +kernel
theorem dX5_makeTableaux_13 : decode cX5_makeTableaux 13 = .ok (.iconst 0, 1) := by decide +kernel
theorem dX5_makeTableaux_14 : decode cX5_makeTableaux 14 = .ok (.iastore, 1) := by decide +kernel
theorem dX5_makeTableaux_15 : decode cX5_makeTableaux 15 = .ok (.iinc 1 1, 3) := by decide +kernel
theorem dX5_makeTableaux_18 : decode cX5_makeTableaux 18 = .ok (.goto (-16), 3) := by decide +kernel
theorem dX5_makeTableaux_21 : decode cX5_makeTableaux 21 = .ok (.iconst 0, 1) := by decide +kernel
theorem dX5_makeTableaux_22 : decode cX5_makeTableaux 22 = .ok (.istore_n 1, 1) := by decide +kernel
theorem dX5_makeTableaux_23 : decode cX5_makeTableaux 23 = .ok (.iload_n 1, 1) := by decide +kernel
theorem dX5_makeTableaux_24 : decode cX5_makeTableaux 24 = .ok (.aload_n 0, 1) := by decide +kernel
theorem dX5_makeTableaux_25 : decode cX5_makeTableaux 25 = .ok (.getfield 110, 3) := by decide +kernel
theorem dX5_makeTableaux_28 : decode cX5_makeTableaux 28 = .ok (.if_icmp .ge 22, 3) := by decide +kernel
theorem dX5_makeTableaux_31 : decode cX5_makeTableaux 31 = .ok (.aload_n 0, 1) := by decide +kernel
theorem dX5_makeTableaux_32 : decode cX5_makeTableaux 32 = .ok (.aload_n 0, 1) := by decide +kernel
theorem dX5_makeTableaux_33 : decode cX5_makeTableaux 33 = .ok (.getfield 39, 3) := by decide +kernel
theorem dX5_makeTableaux_36 : decode cX5_makeTableaux 36 = .ok (.iload_n 1, 1) := by decide +kernel
theorem dX5_makeTableaux_37 : decode cX5_makeTableaux 37 = .ok (.iaload, 1) := by decide +kernel
theorem dX5_makeTableaux_38 : decode cX5_makeTableaux 38 = .ok (.iload_n 1, 1) := by decide +kernel
theorem dX5_makeTableaux_39 : decode cX5_makeTableaux 39 = .ok (.iconst 1, 1) := by decide +kernel
theorem dX5_makeTableaux_40 : decode cX5_makeTableaux 40 = .ok (.iadd, 1) := by decide +kernel
theorem dX5_makeTableaux_41 : decode cX5_makeTableaux 41 = .ok (.invokevirtual 113, 3) := by decide +kernel
theorem dX5_makeTableaux_44 : decode cX5_makeTableaux 44 = .ok (.iinc 1 1, 3) := by decide +kernel
theorem dX5_makeTableaux_47 : decode cX5_makeTableaux 47 = .ok (.goto (-24), 3) := by decide +kernel
theorem dX5_makeTableaux_50 : decode cX5_makeTableaux 50 = .ok (.return_, 1) := by decide +kernel
set_option maxRecDepth 20000 in
theorem ggX5_row_X5_in : GoodIn wsX5_row wsX5_in := goodIn_r _ [6] (by decide +kernel) (by decide +kernel)
set_option maxRecDepth 20000 in
theorem gX5_row_X5_in : GoodIn wsX5_row (va_wsS RX5 76 yX5_in wsX5_in) := goodIn_app (goodIn_of _ (by decide +kernel)) ggX5_row_X5_in
set_option maxRecDepth 20000 in
theorem ggX5_row_X5_makeTableaux : GoodIn wsX5_row wsX5_makeTableaux := goodIn_r _ [10, 2, 11, 12, 13, 14, 15, 5, 16, 17, 18, 19, 20, 21, 22, 23, 24, 25, 26, 27, 28, 29, 30, 31, 32, 33, 34, 35, 36, 37, 38, 39, 40] (by decide +kernel) (by decide +kernel)
set_option maxRecDepth 20000 in
theorem gX5_row_X5_makeTableaux : GoodIn wsX5_row (wsV RX5 118 RX5 yX5_makeTableaux wsX5_makeTableaux) := goodIn_app (goodIn_of _ (by decide +kernel)) ggX5_row_X5_makeTableaux
theorem dX5_row_0 : decode cX5_row 0 = .ok (.iload_n 1, 1) := by decide +kernel
theorem dX5_row_1 : decode cX5_row 1 = .ok (.i2l, 1) := by decide +kernel
theorem dX5_row_2 : decode cX5_row 2 = .ok (.lconst 0, 1) := by decide +kernel
theorem dX5_row_3 : decode cX5_row 3 = .ok (.ldc2_w 116, 3) := by decide +kernel
theorem dX5_row_6 : decode cX5_row 6 = .ok (.invokestatic 76, 3) := by decide +kernel
theorem dX5_row_9 : decode cX5_row 9 = .ok (.ifCond .ne 5, 3) := by decide +kernel
theorem dX5_row_12 : decode cX5_row 12 = .ok (.iconst (-1), 1) := by decide +kernel
theorem dX5_row_13 : decode cX5_row 13 = .ok (.ireturn, 1) := by decide +kernel
theorem dX5_row_14 : decode cX5_row 14 = .ok (.aload_n 0, 1) := by decide +kernel
theorem dX5_row_15 : decode cX5_row 15 = .ok (.invokevirtual 118, 3) := by decide +kernel
theorem dX5_row_18 : decode cX5_row 18 = .ok (.aload_n 0, 1) := by decide +kernel
theorem dX5_row_19 : decode cX5_row 19 = .ok (.getfield 48, 3) := by decide +kernel
theorem dX5_row_22 : decode cX5_row 22 = .ok (.iload_n 1, 1) := by decide +kernel
theorem dX5_row_23 : decode cX5_row 23 = .ok (.iaload, 1) := by decide +kernel
theorem dX5_row_24 : decode cX5_row 24 = .ok (.ireturn, 1) := by decide +kernel
set_option maxRecDepth 20000 in
theorem ggX5_place_X5_in : GoodIn wsX5_place wsX5_in := goodIn_r _ [8] (by decide +kernel) (by decide +kernel)
set_option maxRecDepth 20000 in
theorem gX5_place_X5_in : GoodIn wsX5_place (va_wsS RX5 76 yX5_in wsX5_in) := goodIn_app (goodIn_of _ (by decide +kernel)) ggX5_place_X5_in
set_option maxRecDepth 20000 in
theorem ggX5_place_X5_makeTableaux : GoodIn wsX5_place wsX5_makeTableaux := goodIn_r _ [12, 2, 13, 14, 15, 16, 17, 7, 18, 3, 4, 19, 20, 21, 22, 23, 24, 25, 26, 27, 28, 29, 30, 31, 32, 33, 34, 35, 36, 37, 38, 39, 40] (by decide +kernel) (by decide +kernel)
set_option maxRecDepth 20000 in
theorem gX5_place_X5_makeTableaux : GoodIn wsX5_place (wsV RX5 118 RX5 yX5_makeTableaux wsX5_makeTableaux) := goodIn_app (goodIn_of _ (by decide +kernel)) ggX5_place_X5_makeTableaux
theorem dX5_place_0 : decode cX5_place 0 = .ok (.iload_n 1, 1) := by decide +kernel
theorem dX5_place_1 : decode cX5_place 1 = .ok (.i2l, 1) := by decide +kernel
theorem dX5_place_2 : decode cX5_place 2 = .ok (.lconst 0, 1) := by decide +kernel
theorem dX5_place_3 : decode cX5_place 3 = .ok (.lconst 1, 1) := by decide +kernel
theorem dX5_place_4 : decode cX5_place 4 = .ok (.invokestatic 76, 3) := by decide +kernel
theorem dX5_place_7 : decode cX5_place 7 = .ok (.ifCond .eq 19, 3) := by decide +kernel
theorem dX5_place_10 : decode cX5_place 10 = .ok (.iload_n 2, 1) := by decide +kernel
theorem dX5_place_11 : decode cX5_place 11 = .ok (.i2l, 1) := by decide +kernel
theorem dX5_place_12 : decode cX5_place 12 = .ok (.lconst 0, 1) := by decide +kernel
theorem dX5_place_13 : decode cX5_place 13 = .ok (.ldc2_w 116, 3) := by decide +kernel
theorem dX5_place_16 : decode cX5_place 16 = .ok (.invokestatic 76, 3) := by decide +kernel
theorem dX5_place_19 : decode cX5_place 19 = .ok (.ifCond .eq 7, 3) := by decide +kernel
theorem dX5_place_22 : decode cX5_place 22 = .ok (.iload_n 3, 1) := by decide +kernel
theorem dX5_place_23 : decode cX5_place 23 = .ok (.ifCond .ge 5, 3) := by decide +kernel
theorem dX5_place_26 : decode cX5_place 26 = .ok (.iconst (-1), 1) := by decide +kernel
theorem dX5_place_27 : decode cX5_place 27 = .ok (.ireturn, 1) := by decide +kernel
theorem dX5_place_28 : decode cX5_place 28 = .ok (.aload_n 0, 1) := by decide +kernel
theorem dX5_place_29 : decode cX5_place 29 = .ok (.invokevirtual 118, 3) := by decide +kernel
theorem dX5_place_32 : decode cX5_place 32 = .ok (.iload_n 3, 1) := by decide +kernel
theorem dX5_place_33 : decode cX5_place 33 = .ok (.aload_n 0, 1) := by decide +kernel
theorem dX5_place_34 : decode cX5_place 34 = .ok (.getfield 48, 3) := by decide +kernel
theorem dX5_place_37 : decode cX5_place 37 = .ok (.iload_n 2, 1) := by decide +kernel
theorem dX5_place_38 : decode cX5_place 38 = .ok (.iaload, 1) := by decide +kernel
theorem dX5_place_39 : decode cX5_place 39 = .ok (.if_icmp .lt 8, 3) := by decide +kernel
theorem dX5_place_42 : decode cX5_place 42 = .ok (.bipush (-4), 2) := by decide +kernel
theorem dX5_place_44 : decode cX5_place 44 = .ok (.goto 32, 3) := by decide +kernel
theorem dX5_place_47 : decode cX5_place 47 = .ok (.iload_n 1, 1) := by decide +kernel
theorem dX5_place_48 : decode cX5_place 48 = .ok (.ifCond .ne 17, 3) := by decide +kernel
theorem dX5_place_51 : decode cX5_place 51 = .ok (.aload_n 0, 1) := by decide +kernel
theorem dX5_place_52 : decode cX5_place 52 = .ok (.getfield 42, 3) := by decide +kernel
theorem dX5_place_55 : decode cX5_place 55 = .ok (.bipush 40, 2) := by decide +kernel
theorem dX5_place_57 : decode cX5_place 57 = .ok (.iload_n 2, 1) := by decide +kernel
theorem dX5_place_58 : decode cX5_place 58 = .ok (.imul, 1) := by decide +kernel
theorem dX5_place_59 : decode cX5_place 59 = .ok (.iload_n 3, 1) := by decide +kernel
theorem dX5_place_60 : decode cX5_place 60 = .ok (.iadd, 1) := by decide +kernel
theorem dX5_place_61 : decode cX5_place 61 = .ok (.iaload, 1) := by decide +kernel
theorem dX5_place_62 : decode cX5_place 62 = .ok (.goto 14, 3) := by decide +kernel
theorem dX5_place_65 : decode cX5_place 65 = .ok (.aload_n 0, 1) := by decide +kernel
theorem dX5_place_66 : decode cX5_place 66 = .ok (.getfield 45, 3) := by decide +kernel
theorem dX5_place_69 : decode cX5_place 69 = .ok (.bipush 40, 2) := by decide +kernel
theorem dX5_place_71 : decode cX5_place 71 = .ok (.iload_n 2, 1) := by decide +kernel
theorem dX5_place_72 : decode cX5_place 72 = .ok (.imul, 1) := by decide +kernel
theorem dX5_place_73 : decode cX5_place 73 = .ok (.iload_n 3, 1) := by decide +kernel
theorem dX5_place_74 : decode cX5_place 74 = .ok (.iadd, 1) := by decide +kernel
theorem dX5_place_75 : decode cX5_place 75 = .ok (.iaload, 1) := by decide +kernel
theorem dX5_place_76 : decode cX5_place 76 = .ok (.ireturn, 1) := by decide +kernel
set_option maxRecDepth 20000 in
theorem ggX5_longest_X5_in : GoodIn wsX5_longest wsX5_in := goodIn_r _ [7] (by decide +kernel) (by decide +kernel)
set_option maxRecDepth 20000 in
theorem gX5_longest_X5_in : GoodIn wsX5_longest (va_wsS RX5 76 yX5_in wsX5_in) := goodIn_app (goodIn_of _ (by decide +kernel)) ggX5_longest_X5_in
set_option maxRecDepth 20000 in
theorem ggX5_longest_X5_greater : GoodIn wsX5_longest wsX5_greater := goodIn_r _ [10] (by decide +kernel) (by decide +kernel)
set_option maxRecDepth 20000 in
theorem gX5_longest_X5_greater : GoodIn wsX5_longest (va_wsS RX5 93 yX5_greater wsX5_greater) := goodIn_app (goodIn_of _ (by decide +kernel)) ggX5_longest_X5_greater
theorem dX5_longest_0 : decode cX5_longest 0 = .ok (.iload_n 1, 1) := by decide +kernel
theorem dX5_longest_1 : decode cX5_longest 1 = .ok (.i2l, 1) := by decide +kernel
theorem dX5_longest_2 : decode cX5_longest 2 = .ok (.lconst 0, 1) := by decide +kernel
theorem dX5_longest_3 : decode cX5_longest 3 = .ok (.lconst 1, 1) := by decide +kernel
theorem dX5_longest_4 : decode cX5_longest 4 = .ok (.invokestatic 76, 3) := by decide +kernel
theorem dX5_longest_7 : decode cX5_longest 7 = .ok (.ifCond .ne 5, 3) := by decide +kernel
theorem dX5_longest_10 : decode cX5_longest 10 = .ok (.iconst (-1), 1) := by decide +kernel
theorem dX5_longest_11 : decode cX5_longest 11 = .ok (.ireturn, 1) := by decide +kernel
theorem dX5_longest_12 : decode cX5_longest 12 = .ok (.iconst 0, 1) := by decide +kernel
theorem dX5_longest_13 : decode cX5_longest 13 = .ok (.istore_n 2, 1) := by decide +kernel
theorem dX5_longest_14 : decode cX5_longest 14 = .ok (.iconst 0, 1) := by decide +kernel
theorem dX5_longest_15 : decode cX5_longest 15 = .ok (.istore_n 3, 1) := by decide +kernel
theorem dX5_longest_16 : decode cX5_longest 16 = .ok (.iload_n 3, 1) := by decide +kernel
theorem dX5_longest_17 : decode cX5_longest 17 = .ok (.aload_n 0, 1) := by decide +kernel
theorem dX5_longest_18 : decode cX5_longest 18 = .ok (.getfield 110, 3) := by decide +kernel
theorem dX5_longest_21 : decode cX5_longest 21 = .ok (.if_icmp .ge 131, 3) := by decide +kernel
theorem dX5_longest_24 : decode cX5_longest 24 = .ok (.aload_n 0, 1) := by decide +kernel
theorem dX5_longest_25 : decode cX5_longest 25 = .ok (.getfield 51, 3) := by decide +kernel
theorem dX5_longest_28 : decode cX5_longest 28 = .ok (.iload_n 3, 1) := by decide +kernel
theorem dX5_longest_29 : decode cX5_longest 29 = .ok (.iconst 1, 1) := by decide +kernel
theorem dX5_longest_30 : decode cX5_longest 30 = .ok (.iastore, 1) := by decide +kernel
theorem dX5_longest_31 : decode cX5_longest 31 = .ok (.iconst 0, 1) := by decide +kernel
theorem dX5_longest_32 : decode cX5_longest 32 = .ok (.istore 4, 2) := by decide +kernel
theorem dX5_longest_34 : decode cX5_longest 34 = .ok (.iload 4, 2) := by decide +kernel
theorem dX5_longest_36 : decode cX5_longest 36 = .ok (.iload_n 3, 1) := by decide +kernel
theorem dX5_longest_37 : decode cX5_longest 37 = .ok (.if_icmp .ge 98, 3) := by decide +kernel
theorem dX5_longest_40 : decode cX5_longest 40 = .ok (.iload_n 1, 1) := by decide +kernel
theorem dX5_longest_41 : decode cX5_longest 41 = .ok (.ifCond .ne 27, 3) := by decide +kernel
theorem dX5_longest_44 : decode cX5_longest 44 = .ok (.aload_n 0, 1) := by decide +kernel
theorem dX5_longest_45 : decode cX5_longest 45 = .ok (.getfield 39, 3) := by decide +kernel
theorem dX5_longest_48 : decode cX5_longest 48 = .ok (.iload 4, 2) := by decide +kernel
theorem dX5_longest_50 : decode cX5_longest 50 = .ok (.iaload, 1) := by decide +kernel
theorem dX5_longest_51 : decode cX5_longest 51 = .ok (.aload_n 0, 1) := by decide +kernel
theorem dX5_longest_52 : decode cX5_longest 52 = .ok (.getfield 39, 3) := by decide +kernel
theorem dX5_longest_55 : decode cX5_longest 55 = .ok (.iload_n 3, 1) := by decide +kernel
theorem dX5_longest_56 : decode cX5_longest 56 = .ok (.iaload, 1) := by decide +kernel
theorem dX5_longest_57 : decode cX5_longest 57 = .ok (.if_icmp .gt 7, 3) := by decide +kernel
theorem dX5_longest_60 : decode cX5_longest 60 = .ok (.iconst 1, 1) := by decide +kernel
theorem dX5_longest_61 : decode cX5_longest 61 = .ok (.goto 28, 3) := by decide +kernel
theorem dX5_longest_64 : decode cX5_longest 64 = .ok (.iconst 0, 1) := by decide +kernel
theorem dX5_longest_65 : decode cX5_longest 65 = .ok (.goto 24, 3) := by decide +kernel
theorem dX5_longest_68 : decode cX5_longest 68 = .ok (.aload_n 0, 1) := by decide +kernel
theorem dX5_longest_69 : decode cX5_longest 69 = .ok (.getfield 39, 3) := by decide +kernel
theorem dX5_longest_72 : decode cX5_longest 72 = .ok (.iload 4, 2) := by decide +kernel
theorem dX5_longest_74 : decode cX5_longest 74 = .ok (.iaload, 1) := by decide +kernel
theorem dX5_longest_75 : decode cX5_longest 75 = .ok (.aload_n 0, 1) := by decide +kernel
theorem dX5_longest_76 : decode cX5_longest 76 = .ok (.getfield 39, 3) := by decide +kernel
theorem dX5_longest_79 : decode cX5_longest 79 = .ok (.iload_n 3, 1) := by decide +kernel
theorem dX5_longest_80 : decode cX5_longest 80 = .ok (.iaload, 1) := by decide +kernel
theorem dX5_longest_81 : decode cX5_longest 81 = .ok (.if_icmp .le 7, 3) := by decide +kernel
theorem dX5_longest_84 : decode cX5_longest 84 = .ok (.iconst 1, 1) := by decide +kernel
theorem dX5_longest_85 : decode cX5_longest 85 = .ok (.goto 4, 3) := by decide +kernel
theorem dX5_longest_88 : decode cX5_longest 88 = .ok (.iconst 0, 1) := by decide +kernel
theorem dX5_longest_89 : decode cX5_longest 89 = .ok (.istore 5, 2) := by decide +kernel
theorem dX5_longest_91 : decode cX5_longest 91 = .ok (.aload_n 0, 1) := by decide +kernel
theorem dX5_longest_92 : decode cX5_longest 92 = .ok (.getfield 51, 3) := by decide +kernel
theorem dX5_longest_95 : decode cX5_longest 95 = .ok (.iload_n 3, 1) := by decide +kernel
theorem dX5_longest_96 : decode cX5_longest 96 = .ok (.iload 5, 2) := by decide +kernel
theorem dX5_longest_98 : decode cX5_longest 98 = .ok (.ifCond .eq 24, 3) := by decide +kernel
theorem dX5_longest_101 : decode cX5_longest 101 = .ok (.aload_n 0, 1) := by decide +kernel
theorem dX5_longest_102 : decode cX5_longest 102 = .ok (.getfield 51, 3) := by decide +kernel
theorem dX5_longest_105 : decode cX5_longest 105 = .ok (.iload_n 3, 1) := by decide +kernel
theorem dX5_longest_106 : decode cX5_longest 106 = .ok (.iaload, 1) := by decide +kernel
theorem dX5_longest_107 : decode cX5_longest 107 = .ok (.aload_n 0, 1) := by decide +kernel
theorem dX5_longest_108 : decode cX5_longest 108 = .ok (.getfield 51, 3) := by decide +kernel
theorem dX5_longest_111 : decode cX5_longest 111 = .ok (.iload 4, 2) := by decide +kernel
theorem dX5_longest_113 : decode cX5_longest 113 = .ok (.iaload, 1) := by decide +kernel
theorem dX5_longest_114 : decode cX5_longest 114 = .ok (.iconst 1, 1) := by decide +kernel
theorem dX5_longest_115 : decode cX5_longest 115 = .ok (.iadd, 1) := by decide +kernel
theorem dX5_longest_116 : decode cX5_longest 116 = .ok (.invokestatic 93, 3) := by decide +kernel
theorem dX5_longest_119 : decode cX5_longest 119 = .ok (.goto 9, 3) := by decide +kernel
theorem dX5_longest_122 : decode cX5_longest 122 = .ok (.aload_n 0, 1) := by decide +kernel
theorem dX5_longest_123 : decode cX5_longest 123 = .ok (.getfield 51, 3) := by decide +kernel
theorem dX5_longest_126 : decode cX5_longest 126 = .ok (.iload_n 3, 1) := by decide +kernel
theorem dX5_longest_127 : decode cX5_longest 127 = .ok (.iaload, 1) := by decide +kernel
theorem dX5_longest_128 : decode cX5_longest 128 = .ok (.iastore, 1) := by decide +kernel
theorem dX5_longest_129 : decode cX5_longest 129 = .ok (.iinc 4 1, 3) := by decide +kernel
theorem dX5_longest_132 : decode cX5_longest 132 = .ok (.goto (-98), 3) := by decide +kernel
theorem dX5_longest_135 : decode cX5_longest 135 = .ok (.iload_n 2, 1) := by decide +kernel
theorem dX5_longest_136 : decode cX5_longest 136 = .ok (.aload_n 0, 1) := by decide +kernel
theorem dX5_longest_137 : decode cX5_longest 137 = .ok (.getfield 51, 3) := by decide +kernel
theorem dX5_longest_140 : decode cX5_longest 140 = .ok (.iload_n 3, 1) := by decide +kernel
theorem dX5_longest_141 : decode cX5_longest 141 = .ok (.iaload, 1) := by decide +kernel
theorem dX5_longest_142 : decode cX5_longest 142 = .ok (.invokestatic 93, 3) := by decide +kernel
theorem dX5_longest_145 : decode cX5_longest 145 = .ok (.istore_n 2, 1) := by decide +kernel
theorem dX5_longest_146 : decode cX5_longest 146 = .ok (.iinc 3 1, 3) := by decide +kernel
theorem dX5_longest_149 : decode cX5_longest 149 = .ok (.goto (-133), 3) := by decide +kernel
theorem dX5_longest_152 : decode cX5_longest 152 = .ok (.iload_n 2, 1) := by decide +kernel
theorem dX5_longest_153 : decode cX5_longest 153 = .ok (.ireturn, 1) := by decide +kernel
theorem dX5_total_0 : decode cX5_total 0 = .ok (.iconst 0, 1) := by decide +kernel
theorem dX5_total_1 : decode cX5_total 1 = .ok (.istore_n 1, 1) := by decide +kernel
theorem dX5_total_2 : decode cX5_total 2 = .ok (.iconst 0, 1) := by decide +kernel
theorem dX5_total_3 : decode cX5_total 3 = .ok (.istore_n 2, 1) := by decide +kernel
theorem dX5_total_4 : decode cX5_total 4 = .ok (.iload_n 2, 1) := by decide +kernel
theorem dX5_total_5 : decode cX5_total 5 = .ok (.bipush 9, 2) := by decide +kernel
theorem dX5_total_7 : decode cX5_total 7 = .ok (.if_icmp .ge 15, 3) := by decide +kernel
theorem dX5_total_10 : decode cX5_total 10 = .ok (.iload_n 1, 1) := by decide +kernel
theorem dX5_total_11 : decode cX5_total 11 = .ok (.aload_n 0, 1) := by decide +kernel
theorem dX5_total_12 : decode cX5_total 12 = .ok (.iload_n 2, 1) := by decide +kernel
theorem dX5_total_13 : decode cX5_total 13 = .ok (.iaload, 1) := by decide +kernel
theorem dX5_total_14 : decode cX5_total 14 = .ok (.iadd, 1) := by decide +kernel
theorem dX5_total_15 : decode cX5_total 15 = .ok (.istore_n 1, 1) := by decide +kernel
theorem dX5_total_16 : decode cX5_total 16 = .ok (.iinc 2 1, 3) := by decide +kernel
theorem dX5_total_19 : decode cX5_total 19 = .ok (.goto (-15), 3) := by decide +kernel
theorem dX5_total_22 : decode cX5_total 22 = .ok (.iload_n 1, 1) := by decide +kernel
theorem dX5_total_23 : decode cX5_total 23 = .ok (.ireturn, 1) := by decide +kernel
theorem dX5_manyRows_0 : decode cX5_manyRows 0 = .ok (.iconst 0, 1) := by decide +kernel
theorem dX5_manyRows_1 : decode cX5_manyRows 1 = .ok (.istore_n 1, 1) := by decide +kernel
theorem dX5_manyRows_2 : decode cX5_manyRows 2 = .ok (.iload_n 1, 1) := by decide +kernel
theorem dX5_manyRows_3 : decode cX5_manyRows 3 = .ok (.bipush 9, 2) := by decide +kernel
theorem dX5_manyRows_5 : decode cX5_manyRows 5 = .ok (.if_icmp .ge 15, 3) := by decide +kernel
theorem dX5_manyRows_8 : decode cX5_manyRows 8 = .ok (.aload_n 0, 1) := by decide +kernel
theorem dX5_manyRows_9 : decode cX5_manyRows 9 = .ok (.iload_n 1, 1) := by decide +kernel
theorem dX5_manyRows_10 : decode cX5_manyRows 10 = .ok (.iaload, 1) := by decide +kernel
theorem dX5_manyRows_11 : decode cX5_manyRows 11 = .ok (.ifCond .le 9, 3) := by decide +kernel
theorem dX5_manyRows_14 : decode cX5_manyRows 14 = .ok (.iinc 1 1, 3) := by decide +kernel
theorem dX5_manyRows_17 : decode cX5_manyRows 17 = .ok (.goto (-15), 3) := by decide +kernel
theorem dX5_manyRows_20 : decode cX5_manyRows 20 = .ok (.iload_n 1, 1) := by decide +kernel
theorem dX5_manyRows_21 : decode cX5_manyRows 21 = .ok (.ireturn, 1) := by decide +kernel
set_option maxRecDepth 20000 in
theorem ggX5_lay_X5_in : GoodIn wsX5_lay wsX5_in := goodIn_r _ [10] (by decide +kernel) (by decide +kernel)
set_option maxRecDepth 20000 in
theorem gX5_lay_X5_in : GoodIn wsX5_lay (va_wsS RX5 76 yX5_in wsX5_in) := goodIn_app (goodIn_of _ (by decide +kernel)) ggX5_lay_X5_in
set_option maxRecDepth 20000 in
theorem ggX5_lay_X5_manyRows : GoodIn wsX5_lay wsX5_manyRows := goodIn_r _ [13] (by decide +kernel) (by decide +kernel)
set_option maxRecDepth 20000 in
theorem gX5_lay_X5_manyRows : GoodIn wsX5_lay (va_wsS RX5 123 yX5_manyRows wsX5_manyRows) := goodIn_app (goodIn_of _ (by decide +kernel)) ggX5_lay_X5_manyRows
set_option maxRecDepth 20000 in
theorem ggX5_lay_X5_total : GoodIn wsX5_lay wsX5_total := goodIn_r _ [16] (by decide +kernel) (by decide +kernel)
set_option maxRecDepth 20000 in
theorem gX5_lay_X5_total : GoodIn wsX5_lay (va_wsS RX5 127 yX5_total wsX5_total) := goodIn_app (goodIn_of _ (by decide +kernel)) ggX5_lay_X5_total
theorem dX5_lay_0 : decode cX5_lay 0 = .ok (.iload_n 1, 1) := by decide +kernel
theorem dX5_lay_1 : decode cX5_lay 1 = .ok (.i2l, 1) := by decide +kernel
theorem dX5_lay_2 : decode cX5_lay 2 = .ok (.lconst 0, 1) := by decide +kernel
theorem dX5_lay_3 : decode cX5_lay 3 = .ok (.lconst 1, 1) := by decide +kernel
theorem dX5_lay_4 : decode cX5_lay 4 = .ok (.invokestatic 76, 3) := by decide +kernel
theorem dX5_lay_7 : decode cX5_lay 7 = .ok (.ifCond .eq 27, 3) := by decide +kernel
theorem dX5_lay_10 : decode cX5_lay 10 = .ok (.iload_n 3, 1) := by decide +kernel
theorem dX5_lay_11 : decode cX5_lay 11 = .ok (.i2l, 1) := by decide +kernel
theorem dX5_lay_12 : decode cX5_lay 12 = .ok (.lconst 1, 1) := by decide +kernel
theorem dX5_lay_13 : decode cX5_lay 13 = .ok (.ldc2_w 121, 3) := by decide +kernel
theorem dX5_lay_16 : decode cX5_lay 16 = .ok (.invokestatic 76, 3) := by decide +kernel
theorem dX5_lay_19 : decode cX5_lay 19 = .ok (.ifCond .eq 15, 3) := by decide +kernel
theorem dX5_lay_22 : decode cX5_lay 22 = .ok (.iload_n 2, 1) := by decide +kernel
theorem dX5_lay_23 : decode cX5_lay 23 = .ok (.i2l, 1) := by decide +kernel
theorem dX5_lay_24 : decode cX5_lay 24 = .ok (.lconst 0, 1) := by decide +kernel
theorem dX5_lay_25 : decode cX5_lay 25 = .ok (.ldc2_w 116, 3) := by decide +kernel
theorem dX5_lay_28 : decode cX5_lay 28 = .ok (.invokestatic 76, 3) := by decide +kernel
theorem dX5_lay_31 : decode cX5_lay 31 = .ok (.ifCond .ne 5, 3) := by decide +kernel
theorem dX5_lay_34 : decode cX5_lay 34 = .ok (.iconst (-1), 1) := by decide +kernel
theorem dX5_lay_35 : decode cX5_lay 35 = .ok (.ireturn, 1) := by decide +kernel
theorem dX5_lay_36 : decode cX5_lay 36 = .ok (.iload_n 1, 1) := by decide +kernel
theorem dX5_lay_37 : decode cX5_lay 37 = .ok (.ifCond .ne 10, 3) := by decide +kernel
theorem dX5_lay_40 : decode cX5_lay 40 = .ok (.aload_n 0, 1) := by decide +kernel
theorem dX5_lay_41 : decode cX5_lay 41 = .ok (.getfield 60, 3) := by decide +kernel
theorem dX5_lay_44 : decode cX5_lay 44 = .ok (.goto 7, 3) := by decide +kernel
theorem dX5_lay_47 : decode cX5_lay 47 = .ok (.aload_n 0, 1) := by decide +kernel
theorem dX5_lay_48 : decode cX5_lay 48 = .ok (.getfield 63, 3) := by decide +kernel
theorem dX5_lay_51 : decode cX5_lay 51 = .ok (.astore 4, 2) := by decide +kernel
theorem dX5_lay_53 : decode cX5_lay 53 = .ok (.iload_n 1, 1) := by decide +kernel
theorem dX5_lay_54 : decode cX5_lay 54 = .ok (.ifCond .ne 10, 3) := by decide +kernel
theorem dX5_lay_57 : decode cX5_lay 57 = .ok (.aload_n 0, 1) := by decide +kernel
theorem dX5_lay_58 : decode cX5_lay 58 = .ok (.getfield 54, 3) := by decide +kernel
theorem dX5_lay_61 : decode cX5_lay 61 = .ok (.goto 7, 3) := by decide +kernel
theorem dX5_lay_64 : decode cX5_lay 64 = .ok (.aload_n 0, 1) := by decide +kernel
theorem dX5_lay_65 : decode cX5_lay 65 = .ok (.getfield 57, 3) := by decide +kernel
theorem dX5_lay_68 : decode cX5_lay 68 = .ok (.astore 5, 2) := by decide +kernel
theorem dX5_lay_70 : decode cX5_lay 70 = .ok (.iload_n 2, 1) := by decide +kernel
theorem dX5_lay_71 : decode cX5_lay 71 = .ok (.aload 4, 2) := by decide +kernel
theorem dX5_lay_73 : decode cX5_lay 73 = .ok (.invokestatic 123, 3) := by decide +kernel
theorem dX5_lay_76 : decode cX5_lay 76 = .ok (.if_icmp .le 5, 3) := by decide +kernel
theorem dX5_lay_79 : decode cX5_lay 79 = .ok (.iconst (-1), 1) := by decide +kernel
theorem dX5_lay_80 : decode cX5_lay 80 = .ok (.ireturn, 1) := by decide +kernel
theorem dX5_lay_81 : decode cX5_lay 81 = .ok (.aload 4, 2) := by decide +kernel
theorem dX5_lay_83 : decode cX5_lay 83 = .ok (.invokestatic 127, 3) := by decide +kernel
theorem dX5_lay_86 : decode cX5_lay 86 = .ok (.bipush 40, 2) := by decide +kernel
theorem dX5_lay_88 : decode cX5_lay 88 = .ok (.if_icmp .ne 6, 3) := by decide +kernel
theorem dX5_lay_91 : decode cX5_lay 91 = .ok (.bipush (-3), 2) := by decide +kernel
theorem dX5_lay_93 : decode cX5_lay 93 = .ok (.ireturn, 1) := by decide +kernel
theorem dX5_lay_94 : decode cX5_lay 94 = .ok (.aload 5, 2) := by decide +kernel
theorem dX5_lay_96 : decode cX5_lay 96 = .ok (.bipush 40, 2) := by decide +kernel
theorem dX5_lay_98 : decode cX5_lay 98 = .ok (.iload_n 2, 1) := by decide +kernel
theorem dX5_lay_99 : decode cX5_lay 99 = .ok (.imul, 1) := by decide +kernel
theorem dX5_lay_100 : decode cX5_lay 100 = .ok (.aload 4, 2) := by decide +kernel
theorem dX5_lay_102 : decode cX5_lay 102 = .ok (.iload_n 2, 1) := by decide +kernel
theorem dX5_lay_103 : decode cX5_lay 103 = .ok (.iaload, 1) := by decide +kernel
theorem dX5_lay_104 : decode cX5_lay 104 = .ok (.iadd, 1) := by decide +kernel
theorem dX5_lay_105 : decode cX5_lay 105 = .ok (.iload_n 3, 1) := by decide +kernel
theorem dX5_lay_106 : decode cX5_lay 106 = .ok (.iastore, 1) := by decide +kernel
theorem dX5_lay_107 : decode cX5_lay 107 = .ok (.aload 4, 2) := by decide +kernel
theorem dX5_lay_109 : decode cX5_lay 109 = .ok (.iload_n 2, 1) := by decide +kernel
theorem dX5_lay_110 : decode cX5_lay 110 = .ok (.dup2, 1) := by decide +kernel
theorem dX5_lay_111 : decode cX5_lay 111 = .ok (.iaload, 1) := by decide +kernel
theorem dX5_lay_112 : decode cX5_lay 112 = .ok (.iconst 1, 1) := by decide +kernel
theorem dX5_lay_113 : decode cX5_lay 113 = .ok (.iadd, 1) := by decide +kernel
theorem dX5_lay_114 : decode cX5_lay 114 = .ok (.iastore, 1) := by decide +kernel
theorem dX5_lay_115 : decode cX5_lay 115 = .ok (.aload 4, 2) := by decide +kernel
theorem dX5_lay_117 : decode cX5_lay 117 = .ok (.iload_n 2, 1) := by decide +kernel
theorem dX5_lay_118 : decode cX5_lay 118 = .ok (.iaload, 1) := by decide +kernel
theorem dX5_lay_119 : decode cX5_lay 119 = .ok (.ireturn, 1) := by decide +kernel
set_option maxRecDepth 20000 in
theorem ggX5_unlay_X5_total : GoodIn wsX5_unlay wsX5_total := goodIn_r _ [6] (by decide +kernel) (by decide +kernel)
set_option maxRecDepth 20000 in
theorem gX5_unlay_X5_total : GoodIn wsX5_unlay (va_wsS RX5 127 yX5_total wsX5_total) := goodIn_app (goodIn_of _ (by decide +kernel)) ggX5_unlay_X5_total
theorem dX5_unlay_0 : decode cX5_unlay 0 = .ok (.aload_n 0, 1) := by decide +kernel
theorem dX5_unlay_1 : decode cX5_unlay 1 = .ok (.getfield 60, 3) := by decide +kernel
theorem dX5_unlay_4 : decode cX5_unlay 4 = .ok (.invokestatic 127, 3) := by decide +kernel
theorem dX5_unlay_7 : decode cX5_unlay 7 = .ok (.aload_n 0, 1) := by decide +kernel
theorem dX5_unlay_8 : decode cX5_unlay 8 = .ok (.getfield 63, 3) := by decide +kernel
theorem dX5_unlay_11 : decode cX5_unlay 11 = .ok (.invokestatic 127, 3) := by decide +kernel
theorem dX5_unlay_14 : decode cX5_unlay 14 = .ok (.iadd, 1) := by decide +kernel
theorem dX5_unlay_15 : decode cX5_unlay 15 = .ok (.istore_n 1, 1) := by decide +kernel
theorem dX5_unlay_16 : decode cX5_unlay 16 = .ok (.iconst 0, 1) := by decide +kernel
theorem dX5_unlay_17 : decode cX5_unlay 17 = .ok (.istore_n 2, 1) := by decide +kernel
theorem dX5_unlay_18 : decode cX5_unlay 18 = .ok (.iload_n 2, 1) := by decide +kernel
theorem dX5_unlay_19 : decode cX5_unlay 19 = .ok (.bipush 9, 2) := by decide +kernel
theorem dX5_unlay_21 : decode cX5_unlay 21 = .ok (.if_icmp .ge 23, 3) := by decide +kernel
theorem dX5_unlay_24 : decode cX5_unlay 24 = .ok (.aload_n 0, 1) := by decide +kernel
theorem dX5_unlay_25 : decode cX5_unlay 25 = .ok (.getfield 60, 3) := by decide +kernel
theorem dX5_unlay_28 : decode cX5_unlay 28 = .ok (.iload_n 2, 1) := by decide +kernel
theorem dX5_unlay_29 : decode cX5_unlay 29 = .ok (.iconst 0, 1) := by decide +kernel
theorem dX5_unlay_30 : decode cX5_unlay 30 = .ok (.iastore, 1) := by decide +kernel
theorem dX5_unlay_31 : decode cX5_unlay 31 = .ok (.aload_n 0, 1) := by decide +kernel
theorem dX5_unlay_32 : decode cX5_unlay 32 = .ok (.getfield 63, 3) := by decide +kernel
theorem dX5_unlay_35 : decode cX5_unlay 35 = .ok (.iload_n 2, 1) := by decide +kernel
theorem dX5_unlay_36 : decode cX5_unlay 36 = .ok (.iconst 0, 1) := by decide +kernel
theorem dX5_unlay_37 : decode cX5_unlay 37 = .ok (.iastore, 1) := by decide +kernel
theorem dX5_unlay_38 : decode cX5_unlay 38 = .ok (.iinc 2 1, 3) := by decide +kernel
theorem dX5_unlay_41 : decode cX5_unlay 41 = .ok (.goto (-23), 3) := by decide +kernel
theorem dX5_unlay_44 : decode cX5_unlay 44 = .ok (.iload_n 1, 1) := by decide +kernel
theorem dX5_unlay_45 : decode cX5_unlay 45 = .ok (.ireturn, 1) := by decide +kernel
set_option maxRecDepth 20000 in
theorem ggX5_areTableaux_X5_total : GoodIn wsX5_areTableaux wsX5_total := goodIn_r _ [9] (by decide +kernel) (by decide +kernel)
set_option maxRecDepth 20000 in
theorem gX5_areTableaux_X5_total : GoodIn wsX5_areTableaux (va_wsS RX5 127 yX5_total wsX5_total) := goodIn_app (goodIn_of _ (by decide +kernel)) ggX5_areTableaux_X5_total
theorem dX5_areTableaux_0 : decode cX5_areTableaux 0 = .ok (.aload_n 0, 1) := by decide +kernel
theorem dX5_areTableaux_1 : decode cX5_areTableaux 1 = .ok (.getfield 60, 3) := by decide +kernel
theorem dX5_areTableaux_4 : decode cX5_areTableaux 4 = .ok (.invokestatic 127, 3) := by decide +kernel
theorem dX5_areTableaux_7 : decode cX5_areTableaux 7 = .ok (.istore_n 1, 1) := by decide +kernel
theorem dX5_areTableaux_8 : decode cX5_areTableaux 8 = .ok (.iconst 1, 1) := by decide +kernel
theorem dX5_areTableaux_9 : decode cX5_areTableaux 9 = .ok (.istore_n 2, 1) := by decide +kernel
theorem dX5_areTableaux_10 : decode cX5_areTableaux 10 = .ok (.iconst 0, 1) := by decide +kernel
theorem dX5_areTableaux_11 : decode cX5_areTableaux 11 = .ok (.istore_n 3, 1) := by decide +kernel
theorem dX5_areTableaux_12 : decode cX5_areTableaux 12 = .ok (.iload_n 3, 1) := by decide +kernel
theorem dX5_areTableaux_13 : decode cX5_areTableaux 13 = .ok (.bipush 40, 2) := by decide +kernel
theorem dX5_areTableaux_15 : decode cX5_areTableaux 15 = .ok (.if_icmp .gt 16, 3) := by decide +kernel
theorem dX5_areTableaux_18 : decode cX5_areTableaux 18 = .ok (.aload_n 0, 1) := by decide +kernel
theorem dX5_areTableaux_19 : decode cX5_areTableaux 19 = .ok (.getfield 66, 3) := by decide +kernel
theorem dX5_areTableaux_22 : decode cX5_areTableaux 22 = .ok (.iload_n 3, 1) := by decide +kernel
theorem dX5_areTableaux_23 : decode cX5_areTableaux 23 = .ok (.iconst 0, 1) := by decide +kernel
theorem dX5_areTableaux_24 : decode cX5_areTableaux 24 = .ok (.bastore, 1) := by decide +kernel
theorem dX5_areTableaux_25 : decode cX5_areTableaux 25 = .ok (.iinc 3 1, 3) := by decide +kernel
theorem dX5_areTableaux_28 : decode cX5_areTableaux 28 = .ok (.goto (-16), 3) := by decide +kernel
theorem dX5_areTableaux_31 : decode cX5_areTableaux 31 = .ok (.iconst 0, 1) := by decide +kernel
theorem dX5_areTableaux_32 : decode cX5_areTableaux 32 = .ok (.istore_n 3, 1) := by decide +kernel
theorem dX5_areTableaux_33 : decode cX5_areTableaux 33 = .ok (.iload_n 3, 1) := by decide +kernel
theorem dX5_areTableaux_34 : decode cX5_areTableaux 34 = .ok (.bipush 9, 2) := by decide +kernel
theorem dX5_areTableaux_36 : decode cX5_areTableaux 36 = .ok (.if_icmp .ge 55, 3) := by decide +kernel
theorem dX5_areTableaux_39 : decode cX5_areTableaux 39 = .ok (.iload_n 2, 1) := by decide +kernel
theorem dX5_areTableaux_40 : decode cX5_areTableaux 40 = .ok (.ifCond .eq 43, 3) := by decide +kernel
theorem dX5_areTableaux_43 : decode cX5_areTableaux 43 = .ok (.aload_n 0, 1) := by decide +kernel
theorem dX5_areTableaux_44 : decode cX5_areTableaux 44 = .ok (.getfield 60, 3) := by decide +kernel
theorem dX5_areTableaux_47 : decode cX5_areTableaux 47 = .ok (.iload_n 3, 1) := by decide +kernel
theorem dX5_areTableaux_48 : decode cX5_areTableaux 48 = .ok (.iaload, 1) := by decide +kernel
theorem dX5_areTableaux_49 : decode cX5_areTableaux 49 = .ok (.aload_n 0, 1) := by decide +kernel
theorem dX5_areTableaux_50 : decode cX5_areTableaux 50 = .ok (.getfield 63, 3) := by decide +kernel
theorem dX5_areTableaux_53 : decode cX5_areTableaux 53 = .ok (.iload_n 3, 1) := by decide +kernel
theorem dX5_areTableaux_54 : decode cX5_areTableaux 54 = .ok (.iaload, 1) := by decide +kernel
theorem dX5_areTableaux_55 : decode cX5_areTableaux 55 = .ok (.if_icmp .ne 28, 3) := by decide +kernel
theorem dX5_areTableaux_58 : decode cX5_areTableaux 58 = .ok (.iload_n 3, 1) := by decide +kernel
theorem dX5_areTableaux_59 : decode cX5_areTableaux 59 = .ok (.ifCond .eq 20, 3) := by decide +kernel
theorem dX5_areTableaux_62 : decode cX5_areTableaux 62 = .ok (.aload_n 0, 1) := by decide +kernel
theorem dX5_areTableaux_63 : decode cX5_areTableaux 63 = .ok (.getfield 60, 3) := by decide +kernel
theorem dX5_areTableaux_66 : decode cX5_areTableaux 66 = .ok (.iload_n 3, 1) := by decide +kernel
theorem dX5_areTableaux_67 : decode cX5_areTableaux 67 = .ok (.iaload, 1) := by decide +kernel
theorem dX5_areTableaux_68 : decode cX5_areTableaux 68 = .ok (.aload_n 0, 1) := by decide +kernel
theorem dX5_areTableaux_69 : decode cX5_areTableaux 69 = .ok (.getfield 60, 3) := by decide +kernel
theorem dX5_areTableaux_72 : decode cX5_areTableaux 72 = .ok (.iload_n 3, 1) := by decide +kernel
theorem dX5_areTableaux_73 : decode cX5_areTableaux 73 = .ok (.iconst 1, 1) := by decide +kernel
theorem dX5_areTableaux_74 : decode cX5_areTableaux 74 = .ok (.isub, 1) := by decide +kernel
theorem dX5_areTableaux_75 : decode cX5_areTableaux 75 = .ok (.iaload, 1) := by decide +kernel
theorem dX5_areTableaux_76 : decode cX5_areTableaux 76 = .ok (.if_icmp .gt 7, 3) := by decide +kernel
theorem dX5_areTableaux_79 : decode cX5_areTableaux 79 = .ok (.iconst 1, 1) := by decide +kernel
theorem dX5_areTableaux_80 : decode cX5_areTableaux 80 = .ok (.goto 4, 3) := by decide +kernel
theorem dX5_areTableaux_83 : decode cX5_areTableaux 83 = .ok (.iconst 0, 1) := by decide +kernel
theorem dX5_areTableaux_84 : decode cX5_areTableaux 84 = .ok (.istore_n 2, 1) := by decide +kernel
theorem dX5_areTableaux_85 : decode cX5_areTableaux 85 = .ok (.iinc 3 1, 3) := by decide +kernel
theorem dX5_areTableaux_88 : decode cX5_areTableaux 88 = .ok (.goto (-55), 3) := by decide +kernel
theorem dX5_areTableaux_91 : decode cX5_areTableaux 91 = .ok (.iconst 0, 1) := by decide +kernel
theorem dX5_areTableaux_92 : decode cX5_areTableaux 92 = .ok (.istore_n 3, 1) := by decide +kernel
theorem dX5_areTableaux_93 : decode cX5_areTableaux 93 = .ok (.iload_n 3, 1) := by decide +kernel
theorem dX5_areTableaux_94 : decode cX5_areTableaux 94 = .ok (.bipush 9, 2) := by decide +kernel
theorem dX5_areTableaux_96 : decode cX5_areTableaux 96 = .ok (.if_icmp .ge 210, 3) := by decide +kernel
theorem dX5_areTableaux_99 : decode cX5_areTableaux 99 = .ok (.iload_n 2, 1) := by decide +kernel
theorem dX5_areTableaux_100 : decode cX5_areTableaux 100 = .ok (.ifCond .eq 206, 3) := by decide +kernel
theorem dX5_areTableaux_103 : decode cX5_areTableaux 103 = .ok (.iconst 0, 1) := by decide +kernel
theorem dX5_areTableaux_104 : decode cX5_areTableaux 104 = .ok (.istore 4, 2) := by decide +kernel
theorem dX5_areTableaux_106 : decode cX5_areTableaux 106 = .ok (.iload 4, 2) := by decide +kernel
theorem dX5_areTableaux_108 : decode cX5_areTableaux 108 = .ok (.aload_n 0, 1) := by decide +kernel
theorem dX5_areTableaux_109 : decode cX5_areTableaux 109 = .ok (.getfield 60, 3) := by decide +kernel
theorem dX5_areTableaux_112 : decode cX5_areTableaux 112 = .ok (.iload_n 3, 1) := by decide +kernel
theorem dX5_areTableaux_113 : decode cX5_areTableaux 113 = .ok (.iaload, 1) := by decide +kernel
theorem dX5_areTableaux_114 : decode cX5_areTableaux 114 = .ok (.if_icmp .ge 186, 3) := by decide +kernel
theorem dX5_areTableaux_117 : decode cX5_areTableaux 117 = .ok (.bipush 40, 2) := by decide +kernel
theorem dX5_areTableaux_119 : decode cX5_areTableaux 119 = .ok (.iload_n 3, 1) := by decide +kernel
theorem dX5_areTableaux_120 : decode cX5_areTableaux 120 = .ok (.imul, 1) := by decide +kernel
theorem dX5_areTableaux_121 : decode cX5_areTableaux 121 = .ok (.iload 4, 2) := by decide +kernel
theorem dX5_areTableaux_123 : decode cX5_areTableaux 123 = .ok (.iadd, 1) := by decide +kernel
theorem dX5_areTableaux_124 : decode cX5_areTableaux 124 = .ok (.istore 5, 2) := by decide +kernel
theorem dX5_areTableaux_126 : decode cX5_areTableaux 126 = .ok (.iload_n 2, 1) := by decide +kernel
theorem dX5_areTableaux_127 : decode cX5_areTableaux 127 = .ok (.ifCond .eq 45, 3) := by decide +kernel
theorem dX5_areTableaux_130 : decode cX5_areTableaux 130 = .ok (.aload_n 0, 1) := by decide +kernel
theorem dX5_areTableaux_131 : decode cX5_areTableaux 131 = .ok (.getfield 54, 3) := by decide +kernel
theorem dX5_areTableaux_134 : decode cX5_areTableaux 134 = .ok (.iload 5, 2) := by decide +kernel
theorem dX5_areTableaux_136 : decode cX5_areTableaux 136 = .ok (.iaload, 1) := by decide +kernel
theorem dX5_areTableaux_137 : decode cX5_areTableaux 137 = .ok (.bipush 9, 2) := by decide +kernel
theorem dX5_areTableaux_139 : decode cX5_areTableaux 139 = .ok (.if_icmp .gt 33, 3) := by decide +kernel
theorem dX5_areTableaux_142 : decode cX5_areTableaux 142 = .ok (.aload_n 0, 1) := by decide +kernel
theorem dX5_areTableaux_143 : decode cX5_areTableaux 143 = .ok (.getfield 57, 3) := by decide +kernel
theorem dX5_areTableaux_146 : decode cX5_areTableaux 146 = .ok (.iload 5, 2) := by decide +kernel
theorem dX5_areTableaux_148 : decode cX5_areTableaux 148 = .ok (.iaload, 1) := by decide +kernel
theorem dX5_areTableaux_149 : decode cX5_areTableaux 149 = .ok (.iload_n 1, 1) := by decide +kernel
theorem dX5_areTableaux_150 : decode cX5_areTableaux 150 = .ok (.if_icmp .gt 22, 3) := by decide +kernel
theorem dX5_areTableaux_153 : decode cX5_areTableaux 153 = .ok (.aload_n 0, 1) := by decide +kernel
theorem dX5_areTableaux_154 : decode cX5_areTableaux 154 = .ok (.getfield 66, 3) := by decide +kernel
theorem dX5_areTableaux_157 : decode cX5_areTableaux 157 = .ok (.aload_n 0, 1) := by decide +kernel
theorem dX5_areTableaux_158 : decode cX5_areTableaux 158 = .ok (.getfield 57, 3) := by decide +kernel
theorem dX5_areTableaux_161 : decode cX5_areTableaux 161 = .ok (.iload 5, 2) := by decide +kernel
theorem dX5_areTableaux_163 : decode cX5_areTableaux 163 = .ok (.iaload, 1) := by decide +kernel
theorem dX5_areTableaux_164 : decode cX5_areTableaux 164 = .ok (.baload, 1) := by decide +kernel
theorem dX5_areTableaux_165 : decode cX5_areTableaux 165 = .ok (.ifCond .ne 7, 3) := by decide +kernel
theorem dX5_areTableaux_168 : decode cX5_areTableaux 168 = .ok (.iconst 1, 1) := by decide +kernel
theorem dX5_areTableaux_169 : decode cX5_areTableaux 169 = .ok (.goto 4, 3) := by decide +kernel
theorem dX5_areTableaux_172 : decode cX5_areTableaux 172 = .ok (.iconst 0, 1) := by decide +kernel
theorem dX5_areTableaux_173 : decode cX5_areTableaux 173 = .ok (.istore_n 2, 1) := by decide +kernel
theorem dX5_areTableaux_174 : decode cX5_areTableaux 174 = .ok (.aload_n 0, 1) := by decide +kernel
theorem dX5_areTableaux_175 : decode cX5_areTableaux 175 = .ok (.getfield 66, 3) := by decide +kernel
theorem dX5_areTableaux_178 : decode cX5_areTableaux 178 = .ok (.aload_n 0, 1) := by decide +kernel
theorem dX5_areTableaux_179 : decode cX5_areTableaux 179 = .ok (.getfield 57, 3) := by decide +kernel
theorem dX5_areTableaux_182 : decode cX5_areTableaux 182 = .ok (.iload 5, 2) := by decide +kernel
theorem dX5_areTableaux_184 : decode cX5_areTableaux 184 = .ok (.iaload, 1) := by decide +kernel
theorem dX5_areTableaux_185 : decode cX5_areTableaux 185 = .ok (.iconst 1, 1) := by decide +kernel
theorem dX5_areTableaux_186 : decode cX5_areTableaux 186 = .ok (.bastore, 1) := by decide +kernel
theorem dX5_areTableaux_187 : decode cX5_areTableaux 187 = .ok (.iload_n 2, 1) := by decide +kernel
theorem dX5_areTableaux_188 : decode cX5_areTableaux 188 = .ok (.ifCond .eq 50, 3) := by decide +kernel
theorem dX5_areTableaux_191 : decode cX5_areTableaux 191 = .ok (.iload 4, 2) := by decide +kernel
theorem dX5_areTableaux_193 : decode cX5_areTableaux 193 = .ok (.ifCond .eq 41, 3) := by decide +kernel
theorem dX5_areTableaux_196 : decode cX5_areTableaux 196 = .ok (.aload_n 0, 1) := by decide +kernel
theorem dX5_areTableaux_197 : decode cX5_areTableaux 197 = .ok (.getfield 54, 3) := by decide +kernel
theorem dX5_areTableaux_200 : decode cX5_areTableaux 200 = .ok (.iload 5, 2) := by decide +kernel
theorem dX5_areTableaux_202 : decode cX5_areTableaux 202 = .ok (.iaload, 1) := by decide +kernel
theorem dX5_areTableaux_203 : decode cX5_areTableaux 203 = .ok (.aload_n 0, 1) := by decide +kernel
theorem dX5_areTableaux_204 : decode cX5_areTableaux 204 = .ok (.getfield 54, 3) := by decide +kernel
theorem dX5_areTableaux_207 : decode cX5_areTableaux 207 = .ok (.iload 5, 2) := by decide +kernel
theorem dX5_areTableaux_209 : decode cX5_areTableaux 209 = .ok (.iconst 1, 1) := by decide +kernel
theorem dX5_areTableaux_210 : decode cX5_areTableaux 210 = .ok (.isub, 1) := by decide +kernel
theorem dX5_areTableaux_211 : decode cX5_areTableaux 211 = .ok (.iaload, 1) := by decide +kernel
theorem dX5_areTableaux_212 : decode cX5_areTableaux 212 = .ok (.if_icmp .lt 26, 3) := by decide +kernel
theorem dX5_areTableaux_215 : decode cX5_areTableaux 215 = .ok (.aload_n 0, 1) := by decide +kernel
theorem dX5_areTableaux_216 : decode cX5_areTableaux 216 = .ok (.getfield 57, 3) := by decide +kernel
theorem dX5_areTableaux_219 : decode cX5_areTableaux 219 = .ok (.iload 5, 2) := by decide +kernel
theorem dX5_areTableaux_221 : decode cX5_areTableaux 221 = .ok (.iaload, 1) := by decide +kernel
theorem dX5_areTableaux_222 : decode cX5_areTableaux 222 = .ok (.aload_n 0, 1) := by decide +kernel
theorem dX5_areTableaux_223 : decode cX5_areTableaux 223 = .ok (.getfield 57, 3) := by decide +kernel
theorem dX5_areTableaux_226 : decode cX5_areTableaux 226 = .ok (.iload 5, 2) := by decide +kernel
theorem dX5_areTableaux_228 : decode cX5_areTableaux 228 = .ok (.iconst 1, 1) := by decide +kernel
theorem dX5_areTableaux_229 : decode cX5_areTableaux 229 = .ok (.isub, 1) := by decide +kernel
theorem dX5_areTableaux_230 : decode cX5_areTableaux 230 = .ok (.iaload, 1) := by decide +kernel
theorem dX5_areTableaux_231 : decode cX5_areTableaux 231 = .ok (.if_icmp .le 7, 3) := by decide +kernel
theorem dX5_areTableaux_234 : decode cX5_areTableaux 234 = .ok (.iconst 1, 1) := by decide +kernel
theorem dX5_areTableaux_235 : decode cX5_areTableaux 235 = .ok (.goto 4, 3) := by decide +kernel
theorem dX5_areTableaux_238 : decode cX5_areTableaux 238 = .ok (.iconst 0, 1) := by decide +kernel
theorem dX5_areTableaux_239 : decode cX5_areTableaux 239 = .ok (.istore_n 2, 1) := by decide +kernel
theorem dX5_areTableaux_240 : decode cX5_areTableaux 240 = .ok (.iload_n 2, 1) := by decide +kernel
theorem dX5_areTableaux_241 : decode cX5_areTableaux 241 = .ok (.ifCond .eq 51, 3) := by decide +kernel
theorem dX5_areTableaux_244 : decode cX5_areTableaux 244 = .ok (.iload_n 3, 1) := by decide +kernel
theorem dX5_areTableaux_245 : decode cX5_areTableaux 245 = .ok (.ifCond .eq 43, 3) := by decide +kernel
theorem dX5_areTableaux_248 : decode cX5_areTableaux 248 = .ok (.aload_n 0, 1) := by decide +kernel
theorem dX5_areTableaux_249 : decode cX5_areTableaux 249 = .ok (.getfield 54, 3) := by decide +kernel
theorem dX5_areTableaux_252 : decode cX5_areTableaux 252 = .ok (.iload 5, 2) := by decide +kernel
theorem dX5_areTableaux_254 : decode cX5_areTableaux 254 = .ok (.iaload, 1) := by decide +kernel
theorem dX5_areTableaux_255 : decode cX5_areTableaux 255 = .ok (.aload_n 0, 1) := by decide +kernel
theorem dX5_areTableaux_256 : decode cX5_areTableaux 256 = .ok (.getfield 54, 3) := by decide +kernel
theorem dX5_areTableaux_259 : decode cX5_areTableaux 259 = .ok (.iload 5, 2) := by decide +kernel
theorem dX5_areTableaux_261 : decode cX5_areTableaux 261 = .ok (.bipush 40, 2) := by decide +kernel
theorem dX5_areTableaux_263 : decode cX5_areTableaux 263 = .ok (.isub, 1) := by decide +kernel
theorem dX5_areTableaux_264 : decode cX5_areTableaux 264 = .ok (.iaload, 1) := by decide +kernel
theorem dX5_areTableaux_265 : decode cX5_areTableaux 265 = .ok (.if_icmp .le 27, 3) := by decide +kernel
theorem dX5_areTableaux_268 : decode cX5_areTableaux 268 = .ok (.aload_n 0, 1) := by decide +kernel
theorem dX5_areTableaux_269 : decode cX5_areTableaux 269 = .ok (.getfield 57, 3) := by decide +kernel
theorem dX5_areTableaux_272 : decode cX5_areTableaux 272 = .ok (.iload 5, 2) := by decide +kernel
theorem dX5_areTableaux_274 : decode cX5_areTableaux 274 = .ok (.iaload, 1) := by decide +kernel
theorem dX5_areTableaux_275 : decode cX5_areTableaux 275 = .ok (.aload_n 0, 1) := by decide +kernel
theorem dX5_areTableaux_276 : decode cX5_areTableaux 276 = .ok (.getfield 57, 3) := by decide +kernel
theorem dX5_areTableaux_279 : decode cX5_areTableaux 279 = .ok (.iload 5, 2) := by decide +kernel
theorem dX5_areTableaux_281 : decode cX5_areTableaux 281 = .ok (.bipush 40, 2) := by decide +kernel
theorem dX5_areTableaux_283 : decode cX5_areTableaux 283 = .ok (.isub, 1) := by decide +kernel
theorem dX5_areTableaux_284 : decode cX5_areTableaux 284 = .ok (.iaload, 1) := by decide +kernel
theorem dX5_areTableaux_285 : decode cX5_areTableaux 285 = .ok (.if_icmp .le 7, 3) := by decide +kernel
theorem dX5_areTableaux_288 : decode cX5_areTableaux 288 = .ok (.iconst 1, 1) := by decide +kernel
theorem dX5_areTableaux_289 : decode cX5_areTableaux 289 = .ok (.goto 4, 3) := by decide +kernel
theorem dX5_areTableaux_292 : decode cX5_areTableaux 292 = .ok (.iconst 0, 1) := by decide +kernel
theorem dX5_areTableaux_293 : decode cX5_areTableaux 293 = .ok (.istore_n 2, 1) := by decide +kernel
theorem dX5_areTableaux_294 : decode cX5_areTableaux 294 = .ok (.iinc 4 1, 3) := by decide +kernel
theorem dX5_areTableaux_297 : decode cX5_areTableaux 297 = .ok (.goto (-191), 3) := by decide +kernel
theorem dX5_areTableaux_300 : decode cX5_areTableaux 300 = .ok (.iinc 3 1, 3) := by decide +kernel
theorem dX5_areTableaux_303 : decode cX5_areTableaux 303 = .ok (.goto (-210), 3) := by decide +kernel
theorem dX5_areTableaux_306 : decode cX5_areTableaux 306 = .ok (.iload_n 2, 1) := by decide +kernel
theorem dX5_areTableaux_307 : decode cX5_areTableaux 307 = .ok (.ireturn, 1) := by decide +kernel
set_option maxRecDepth 20000 in
theorem ggX5_back_X5_areTableaux : GoodIn wsX5_back wsX5_areTableaux := goodIn_r _ [11, 1, 12, 3, 5, 4, 13, 14, 10, 15, 16, 17, 18, 19, 20, 21, 22, 23, 24, 25, 26, 27, 28, 29, 30, 31, 32, 33, 34, 35, 36, 37] (by decide +kernel) (by decide +kernel)
set_option maxRecDepth 20000 in
theorem gX5_back_X5_areTableaux : GoodIn wsX5_back (wsV RX5 130 RX5 yX5_areTableaux wsX5_areTableaux) := goodIn_app (goodIn_of _ (by decide +kernel)) ggX5_back_X5_areTableaux
set_option maxRecDepth 20000 in
theorem ggX5_back_X5_total : GoodIn wsX5_back wsX5_total := goodIn_r _ [15] (by decide +kernel) (by decide +kernel)
set_option maxRecDepth 20000 in
theorem gX5_back_X5_total : GoodIn wsX5_back (va_wsS RX5 127 yX5_total wsX5_total) := goodIn_app (goodIn_of _ (by decide +kernel)) ggX5_back_X5_total
theorem dX5_back_0 : decode cX5_back 0 = .ok (.aload_n 0, 1) := by decide +kernel
theorem dX5_back_1 : decode cX5_back 1 = .ok (.invokevirtual 130, 3) := by decide +kernel
theorem dX5_back_4 : decode cX5_back 4 = .ok (.ifCond .ne 6, 3) := by decide +kernel
theorem dX5_back_7 : decode cX5_back 7 = .ok (.bipush (-2), 2) := by decide +kernel
theorem dX5_back_9 : decode cX5_back 9 = .ok (.ireturn, 1) := by decide +kernel
theorem dX5_back_10 : decode cX5_back 10 = .ok (.aload_n 0, 1) := by decide +kernel
theorem dX5_back_11 : decode cX5_back 11 = .ok (.aload_n 0, 1) := by decide +kernel
theorem dX5_back_12 : decode cX5_back 12 = .ok (.getfield 60, 3) := by decide +kernel
theorem dX5_back_15 : decode cX5_back 15 = .ok (.invokestatic 127, 3) := by decide +kernel
theorem dX5_back_18 : decode cX5_back 18 = .ok (.putfield 110, 3) := by decide +kernel
theorem dX5_back_21 : decode cX5_back 21 = .ok (.aload_n 0, 1) := by decide +kernel
theorem dX5_back_22 : decode cX5_back 22 = .ok (.getfield 110, 3) := by decide +kernel
theorem dX5_back_25 : decode cX5_back 25 = .ok (.istore_n 1, 1) := by decide +kernel
theorem dX5_back_26 : decode cX5_back 26 = .ok (.iload_n 1, 1) := by decide +kernel
theorem dX5_back_27 : decode cX5_back 27 = .ok (.iconst 1, 1) := by decide +kernel
theorem dX5_back_28 : decode cX5_back 28 = .ok (.if_icmp .lt 176, 3) := by decide +kernel
theorem dX5_back_31 : decode cX5_back 31 = .ok (.iconst 0, 1) := by decide +kernel
theorem dX5_back_32 : decode cX5_back 32 = .ok (.istore_n 2, 1) := by decide +kernel
theorem dX5_back_33 : decode cX5_back 33 = .ok (.aload_n 0, 1) := by decide +kernel
theorem dX5_back_34 : decode cX5_back 34 = .ok (.getfield 63, 3) := by decide +kernel
theorem dX5_back_37 : decode cX5_back 37 = .ok (.iload_n 2, 1) := by decide +kernel
theorem dX5_back_38 : decode cX5_back 38 = .ok (.iaload, 1) := by decide +kernel
theorem dX5_back_39 : decode cX5_back 39 = .ok (.ifCond .eq 25, 3) := by decide +kernel
theorem dX5_back_42 : decode cX5_back 42 = .ok (.aload_n 0, 1) := by decide +kernel
theorem dX5_back_43 : decode cX5_back 43 = .ok (.getfield 57, 3) := by decide +kernel
theorem dX5_back_46 : decode cX5_back 46 = .ok (.bipush 40, 2) := by decide +kernel
theorem dX5_back_48 : decode cX5_back 48 = .ok (.iload_n 2, 1) := by decide +kernel
theorem dX5_back_49 : decode cX5_back 49 = .ok (.imul, 1) := by decide +kernel
theorem dX5_back_50 : decode cX5_back 50 = .ok (.aload_n 0, 1) := by decide +kernel
theorem dX5_back_51 : decode cX5_back 51 = .ok (.getfield 63, 3) := by decide +kernel
theorem dX5_back_54 : decode cX5_back 54 = .ok (.iload_n 2, 1) := by decide +kernel
theorem dX5_back_55 : decode cX5_back 55 = .ok (.iaload, 1) := by decide +kernel
theorem dX5_back_56 : decode cX5_back 56 = .ok (.iadd, 1) := by decide +kernel
theorem dX5_back_57 : decode cX5_back 57 = .ok (.iconst 1, 1) := by decide +kernel
theorem dX5_back_58 : decode cX5_back 58 = .ok (.isub, 1) := by decide +kernel
theorem dX5_back_59 : decode cX5_back 59 = .ok (.iaload, 1) := by decide +kernel
theorem dX5_back_60 : decode cX5_back 60 = .ok (.iload_n 1, 1) := by decide +kernel
theorem dX5_back_61 : decode cX5_back 61 = .ok (.if_icmp .eq 9, 3) := by decide +kernel
theorem dX5_back_64 : decode cX5_back 64 = .ok (.iinc 2 1, 3) := by decide +kernel
theorem dX5_back_67 : decode cX5_back 67 = .ok (.goto (-34), 3) := by decide +kernel
theorem dX5_back_70 : decode cX5_back 70 = .ok (.aload_n 0, 1) := by decide +kernel
theorem dX5_back_71 : decode cX5_back 71 = .ok (.getfield 63, 3) := by decide +kernel
theorem dX5_back_74 : decode cX5_back 74 = .ok (.iload_n 2, 1) := by decide +kernel
theorem dX5_back_75 : decode cX5_back 75 = .ok (.dup2, 1) := by decide +kernel
theorem dX5_back_76 : decode cX5_back 76 = .ok (.iaload, 1) := by decide +kernel
theorem dX5_back_77 : decode cX5_back 77 = .ok (.iconst 1, 1) := by decide +kernel
theorem dX5_back_78 : decode cX5_back 78 = .ok (.isub, 1) := by decide +kernel
theorem dX5_back_79 : decode cX5_back 79 = .ok (.iastore, 1) := by decide +kernel
theorem dX5_back_80 : decode cX5_back 80 = .ok (.aload_n 0, 1) := by decide +kernel
theorem dX5_back_81 : decode cX5_back 81 = .ok (.getfield 60, 3) := by decide +kernel
theorem dX5_back_84 : decode cX5_back 84 = .ok (.iload_n 2, 1) := by decide +kernel
theorem dX5_back_85 : decode cX5_back 85 = .ok (.dup2, 1) := by decide +kernel
theorem dX5_back_86 : decode cX5_back 86 = .ok (.iaload, 1) := by decide +kernel
theorem dX5_back_87 : decode cX5_back 87 = .ok (.iconst 1, 1) := by decide +kernel
theorem dX5_back_88 : decode cX5_back 88 = .ok (.isub, 1) := by decide +kernel
theorem dX5_back_89 : decode cX5_back 89 = .ok (.iastore, 1) := by decide +kernel
theorem dX5_back_90 : decode cX5_back 90 = .ok (.aload_n 0, 1) := by decide +kernel
theorem dX5_back_91 : decode cX5_back 91 = .ok (.getfield 54, 3) := by decide +kernel
theorem dX5_back_94 : decode cX5_back 94 = .ok (.bipush 40, 2) := by decide +kernel
theorem dX5_back_96 : decode cX5_back 96 = .ok (.iload_n 2, 1) := by decide +kernel
theorem dX5_back_97 : decode cX5_back 97 = .ok (.imul, 1) := by decide +kernel
theorem dX5_back_98 : decode cX5_back 98 = .ok (.aload_n 0, 1) := by decide +kernel
theorem dX5_back_99 : decode cX5_back 99 = .ok (.getfield 60, 3) := by decide +kernel
theorem dX5_back_102 : decode cX5_back 102 = .ok (.iload_n 2, 1) := by decide +kernel
theorem dX5_back_103 : decode cX5_back 103 = .ok (.iaload, 1) := by decide +kernel
theorem dX5_back_104 : decode cX5_back 104 = .ok (.iadd, 1) := by decide +kernel
theorem dX5_back_105 : decode cX5_back 105 = .ok (.iaload, 1) := by decide +kernel
theorem dX5_back_106 : decode cX5_back 106 = .ok (.istore_n 3, 1) := by decide +kernel
theorem dX5_back_107 : decode cX5_back 107 = .ok (.iload_n 2, 1) := by decide +kernel
theorem dX5_back_108 : decode cX5_back 108 = .ok (.iconst 1, 1) := by decide +kernel
theorem dX5_back_109 : decode cX5_back 109 = .ok (.isub, 1) := by decide +kernel
theorem dX5_back_110 : decode cX5_back 110 = .ok (.istore 4, 2) := by decide +kernel
theorem dX5_back_112 : decode cX5_back 112 = .ok (.iload 4, 2) := by decide +kernel
theorem dX5_back_114 : decode cX5_back 114 = .ok (.ifCond .lt 75, 3) := by decide +kernel
theorem dX5_back_117 : decode cX5_back 117 = .ok (.aload_n 0, 1) := by decide +kernel
theorem dX5_back_118 : decode cX5_back 118 = .ok (.getfield 60, 3) := by decide +kernel
theorem dX5_back_121 : decode cX5_back 121 = .ok (.iload 4, 2) := by decide +kernel
theorem dX5_back_123 : decode cX5_back 123 = .ok (.iaload, 1) := by decide +kernel
theorem dX5_back_124 : decode cX5_back 124 = .ok (.iconst 1, 1) := by decide +kernel
theorem dX5_back_125 : decode cX5_back 125 = .ok (.isub, 1) := by decide +kernel
theorem dX5_back_126 : decode cX5_back 126 = .ok (.istore 5, 2) := by decide +kernel
theorem dX5_back_128 : decode cX5_back 128 = .ok (.aload_n 0, 1) := by decide +kernel
theorem dX5_back_129 : decode cX5_back 129 = .ok (.getfield 54, 3) := by decide +kernel
theorem dX5_back_132 : decode cX5_back 132 = .ok (.bipush 40, 2) := by decide +kernel
theorem dX5_back_134 : decode cX5_back 134 = .ok (.iload 4, 2) := by decide +kernel
theorem dX5_back_136 : decode cX5_back 136 = .ok (.imul, 1) := by decide +kernel
theorem dX5_back_137 : decode cX5_back 137 = .ok (.iload 5, 2) := by decide +kernel
theorem dX5_back_139 : decode cX5_back 139 = .ok (.iadd, 1) := by decide +kernel
theorem dX5_back_140 : decode cX5_back 140 = .ok (.iaload, 1) := by decide +kernel
theorem dX5_back_141 : decode cX5_back 141 = .ok (.iload_n 3, 1) := by decide +kernel
theorem dX5_back_142 : decode cX5_back 142 = .ok (.if_icmp .lt 9, 3) := by decide +kernel
theorem dX5_back_145 : decode cX5_back 145 = .ok (.iinc 5 (-1), 3) := by decide +kernel
theorem dX5_back_148 : decode cX5_back 148 = .ok (.goto (-20), 3) := by decide +kernel
theorem dX5_back_151 : decode cX5_back 151 = .ok (.aload_n 0, 1) := by decide +kernel
theorem dX5_back_152 : decode cX5_back 152 = .ok (.getfield 54, 3) := by decide +kernel
theorem dX5_back_155 : decode cX5_back 155 = .ok (.bipush 40, 2) := by decide +kernel
theorem dX5_back_157 : decode cX5_back 157 = .ok (.iload 4, 2) := by decide +kernel
theorem dX5_back_159 : decode cX5_back 159 = .ok (.imul, 1) := by decide +kernel
theorem dX5_back_160 : decode cX5_back 160 = .ok (.iload 5, 2) := by decide +kernel
theorem dX5_back_162 : decode cX5_back 162 = .ok (.iadd, 1) := by decide +kernel
theorem dX5_back_163 : decode cX5_back 163 = .ok (.iaload, 1) := by decide +kernel
theorem dX5_back_164 : decode cX5_back 164 = .ok (.istore 6, 2) := by decide +kernel
theorem dX5_back_166 : decode cX5_back 166 = .ok (.aload_n 0, 1) := by decide +kernel
theorem dX5_back_167 : decode cX5_back 167 = .ok (.getfield 54, 3) := by decide +kernel
theorem dX5_back_170 : decode cX5_back 170 = .ok (.bipush 40, 2) := by decide +kernel
theorem dX5_back_172 : decode cX5_back 172 = .ok (.iload 4, 2) := by decide +kernel
theorem dX5_back_174 : decode cX5_back 174 = .ok (.imul, 1) := by decide +kernel
theorem dX5_back_175 : decode cX5_back 175 = .ok (.iload 5, 2) := by decide +kernel
theorem dX5_back_177 : decode cX5_back 177 = .ok (.iadd, 1) := by decide +kernel
theorem dX5_back_178 : decode cX5_back 178 = .ok (.iload_n 3, 1) := by decide +kernel
theorem dX5_back_179 : decode cX5_back 179 = .ok (.iastore, 1) := by decide +kernel
theorem dX5_back_180 : decode cX5_back 180 = .ok (.iload 6, 2) := by decide +kernel
theorem dX5_back_182 : decode cX5_back 182 = .ok (.istore_n 3, 1) := by decide +kernel
theorem dX5_back_183 : decode cX5_back 183 = .ok (.iinc 4 (-1), 3) := by decide +kernel
theorem dX5_back_186 : decode cX5_back 186 = .ok (.goto (-74), 3) := by decide +kernel
theorem dX5_back_189 : decode cX5_back 189 = .ok (.aload_n 0, 1) := by decide +kernel
theorem dX5_back_190 : decode cX5_back 190 = .ok (.getfield 39, 3) := by decide +kernel
theorem dX5_back_193 : decode cX5_back 193 = .ok (.iload_n 1, 1) := by decide +kernel
theorem dX5_back_194 : decode cX5_back 194 = .ok (.iconst 1, 1) := by decide +kernel
theorem dX5_back_195 : decode cX5_back 195 = .ok (.isub, 1) := by decide +kernel
theorem dX5_back_196 : decode cX5_back 196 = .ok (.iload_n 3, 1) := by decide +kernel
theorem dX5_back_197 : decode cX5_back 197 = .ok (.iastore, 1) := by decide +kernel
theorem dX5_back_198 : decode cX5_back 198 = .ok (.iinc 1 (-1), 3) := by decide +kernel
theorem dX5_back_201 : decode cX5_back 201 = .ok (.goto (-175), 3) := by decide +kernel
theorem dX5_back_204 : decode cX5_back 204 = .ok (.aload_n 0, 1) := by decide +kernel
theorem dX5_back_205 : decode cX5_back 205 = .ok (.getfield 110, 3) := by decide +kernel
theorem dX5_back_208 : decode cX5_back 208 = .ok (.ireturn, 1) := by decide +kernel
theorem dX5_wordOf_0 : decode cX5_wordOf 0 = .ok (.iconst 0, 1) := by decide +kernel
theorem dX5_wordOf_1 : decode cX5_wordOf 1 = .ok (.istore_n 1, 1) := by decide +kernel
theorem dX5_wordOf_2 : decode cX5_wordOf 2 = .ok (.iconst 0, 1) := by decide +kernel
theorem dX5_wordOf_3 : decode cX5_wordOf 3 = .ok (.istore_n 2, 1) := by decide +kernel
theorem dX5_wordOf_4 : decode cX5_wordOf 4 = .ok (.iload_n 2, 1) := by decide +kernel
theorem dX5_wordOf_5 : decode cX5_wordOf 5 = .ok (.aload_n 0, 1) := by decide +kernel
theorem dX5_wordOf_6 : decode cX5_wordOf 6 = .ok (.getfield 7, 3) := by decide +kernel
theorem dX5_wordOf_9 : decode cX5_wordOf 9 = .ok (.if_icmp .ge 39, 3) := by decide +kernel
theorem dX5_wordOf_12 : decode cX5_wordOf 12 = .ok (.iconst 0, 1) := by decide +kernel
theorem dX5_wordOf_13 : decode cX5_wordOf 13 = .ok (.istore_n 3, 1) := by decide +kernel
theorem dX5_wordOf_14 : decode cX5_wordOf 14 = .ok (.iload_n 3, 1) := by decide +kernel
theorem dX5_wordOf_15 : decode cX5_wordOf 15 = .ok (.aload_n 0, 1) := by decide +kernel
theorem dX5_wordOf_16 : decode cX5_wordOf 16 = .ok (.getfield 13, 3) := by decide +kernel
theorem dX5_wordOf_19 : decode cX5_wordOf 19 = .ok (.if_icmp .ge 23, 3) := by decide +kernel
theorem dX5_wordOf_22 : decode cX5_wordOf 22 = .ok (.iload_n 1, 1) := by decide +kernel
theorem dX5_wordOf_23 : decode cX5_wordOf 23 = .ok (.aload_n 0, 1) := by decide +kernel
theorem dX5_wordOf_24 : decode cX5_wordOf 24 = .ok (.getfield 16, 3) := by decide +kernel
theorem dX5_wordOf_27 : decode cX5_wordOf 27 = .ok (.bipush 6, 2) := by decide +kernel
theorem dX5_wordOf_29 : decode cX5_wordOf 29 = .ok (.iload_n 2, 1) := by decide +kernel
theorem dX5_wordOf_30 : decode cX5_wordOf 30 = .ok (.imul, 1) := by decide +kernel
theorem dX5_wordOf_31 : decode cX5_wordOf 31 = .ok (.iload_n 3, 1) := by decide +kernel
theorem dX5_wordOf_32 : decode cX5_wordOf 32 = .ok (.iadd, 1) := by decide +kernel
theorem dX5_wordOf_33 : decode cX5_wordOf 33 = .ok (.iaload, 1) := by decide +kernel
theorem dX5_wordOf_34 : decode cX5_wordOf 34 = .ok (.iadd, 1) := by decide +kernel
theorem dX5_wordOf_35 : decode cX5_wordOf 35 = .ok (.istore_n 1, 1) := by decide +kernel
theorem dX5_wordOf_36 : decode cX5_wordOf 36 = .ok (.iinc 3 1, 3) := by decide +kernel
theorem dX5_wordOf_39 : decode cX5_wordOf 39 = .ok (.goto (-25), 3) := by decide +kernel
theorem dX5_wordOf_42 : decode cX5_wordOf 42 = .ok (.iinc 2 1, 3) := by decide +kernel
theorem dX5_wordOf_45 : decode cX5_wordOf 45 = .ok (.goto (-41), 3) := by decide +kernel
theorem dX5_wordOf_48 : decode cX5_wordOf 48 = .ok (.iload_n 1, 1) := by decide +kernel
theorem dX5_wordOf_49 : decode cX5_wordOf 49 = .ok (.bipush 40, 2) := by decide +kernel
theorem dX5_wordOf_51 : decode cX5_wordOf 51 = .ok (.if_icmp .le 6, 3) := by decide +kernel
theorem dX5_wordOf_54 : decode cX5_wordOf 54 = .ok (.bipush (-3), 2) := by decide +kernel
theorem dX5_wordOf_56 : decode cX5_wordOf 56 = .ok (.ireturn, 1) := by decide +kernel
theorem dX5_wordOf_57 : decode cX5_wordOf 57 = .ok (.aload_n 0, 1) := by decide +kernel
theorem dX5_wordOf_58 : decode cX5_wordOf 58 = .ok (.iconst 0, 1) := by decide +kernel
theorem dX5_wordOf_59 : decode cX5_wordOf 59 = .ok (.putfield 110, 3) := by decide +kernel
theorem dX5_wordOf_62 : decode cX5_wordOf 62 = .ok (.iconst 0, 1) := by decide +kernel
theorem dX5_wordOf_63 : decode cX5_wordOf 63 = .ok (.istore_n 2, 1) := by decide +kernel
theorem dX5_wordOf_64 : decode cX5_wordOf 64 = .ok (.iload_n 2, 1) := by decide +kernel
theorem dX5_wordOf_65 : decode cX5_wordOf 65 = .ok (.aload_n 0, 1) := by decide +kernel
theorem dX5_wordOf_66 : decode cX5_wordOf 66 = .ok (.getfield 7, 3) := by decide +kernel
theorem dX5_wordOf_69 : decode cX5_wordOf 69 = .ok (.if_icmp .ge 72, 3) := by decide +kernel
theorem dX5_wordOf_72 : decode cX5_wordOf 72 = .ok (.iconst 0, 1) := by decide +kernel
theorem dX5_wordOf_73 : decode cX5_wordOf 73 = .ok (.istore_n 3, 1) := by decide +kernel
theorem dX5_wordOf_74 : decode cX5_wordOf 74 = .ok (.iload_n 3, 1) := by decide +kernel
theorem dX5_wordOf_75 : decode cX5_wordOf 75 = .ok (.aload_n 0, 1) := by decide +kernel
theorem dX5_wordOf_76 : decode cX5_wordOf 76 = .ok (.getfield 13, 3) := by decide +kernel
theorem dX5_wordOf_79 : decode cX5_wordOf 79 = .ok (.if_icmp .ge 56, 3) := by decide +kernel
theorem dX5_wordOf_82 : decode cX5_wordOf 82 = .ok (.iconst 0, 1) := by decide +kernel
theorem dX5_wordOf_83 : decode cX5_wordOf 83 = .ok (.istore 4, 2) := by decide +kernel
theorem dX5_wordOf_85 : decode cX5_wordOf 85 = .ok (.iload 4, 2) := by decide +kernel
theorem dX5_wordOf_87 : decode cX5_wordOf 87 = .ok (.aload_n 0, 1) := by decide +kernel
theorem dX5_wordOf_88 : decode cX5_wordOf 88 = .ok (.getfield 16, 3) := by decide +kernel
theorem dX5_wordOf_91 : decode cX5_wordOf 91 = .ok (.bipush 6, 2) := by decide +kernel
theorem dX5_wordOf_93 : decode cX5_wordOf 93 = .ok (.iload_n 2, 1) := by decide +kernel
theorem dX5_wordOf_94 : decode cX5_wordOf 94 = .ok (.imul, 1) := by decide +kernel
theorem dX5_wordOf_95 : decode cX5_wordOf 95 = .ok (.iload_n 3, 1) := by decide +kernel
theorem dX5_wordOf_96 : decode cX5_wordOf 96 = .ok (.iadd, 1) := by decide +kernel
theorem dX5_wordOf_97 : decode cX5_wordOf 97 = .ok (.iaload, 1) := by decide +kernel
theorem dX5_wordOf_98 : decode cX5_wordOf 98 = .ok (.if_icmp .ge 31, 3) := by decide +kernel
theorem dX5_wordOf_101 : decode cX5_wordOf 101 = .ok (.aload_n 0, 1) := by decide +kernel
theorem dX5_wordOf_102 : decode cX5_wordOf 102 = .ok (.getfield 39, 3) := by decide +kernel
theorem dX5_wordOf_105 : decode cX5_wordOf 105 = .ok (.aload_n 0, 1) := by decide +kernel
theorem dX5_wordOf_106 : decode cX5_wordOf 106 = .ok (.getfield 110, 3) := by decide +kernel
theorem dX5_wordOf_109 : decode cX5_wordOf 109 = .ok (.iload_n 3, 1) := by decide +kernel
theorem dX5_wordOf_110 : decode cX5_wordOf 110 = .ok (.iconst 1, 1) := by decide +kernel
theorem dX5_wordOf_111 : decode cX5_wordOf 111 = .ok (.iadd, 1) := by decide +kernel
theorem dX5_wordOf_112 : decode cX5_wordOf 112 = .ok (.iastore, 1) := by decide +kernel
theorem dX5_wordOf_113 : decode cX5_wordOf 113 = .ok (.aload_n 0, 1) := by decide +kernel
theorem dX5_wordOf_114 : decode cX5_wordOf 114 = .ok (.dup, 1) := by decide +kernel
theorem dX5_wordOf_115 : decode cX5_wordOf 115 = .ok (.getfield 110, 3) := by decide +kernel
theorem dX5_wordOf_118 : decode cX5_wordOf 118 = .ok (.iconst 1, 1) := by decide +kernel
theorem dX5_wordOf_119 : decode cX5_wordOf 119 = .ok (.iadd, 1) := by decide +kernel
theorem dX5_wordOf_120 : decode cX5_wordOf 120 = .ok (.putfield 110, 3) := by decide +kernel
theorem dX5_wordOf_123 : decode cX5_wordOf 123 = .ok (.iinc 4 1, 3) := by decide +kernel
theorem dX5_wordOf_126 : decode cX5_wordOf 126 = .ok (.goto (-41), 3) := by decide +kernel
theorem dX5_wordOf_129 : decode cX5_wordOf 129 = .ok (.iinc 3 1, 3) := by decide +kernel
theorem dX5_wordOf_132 : decode cX5_wordOf 132 = .ok (.goto (-58), 3) := by decide +kernel
theorem dX5_wordOf_135 : decode cX5_wordOf 135 = .ok (.iinc 2 1, 3) := by decide +kernel
theorem dX5_wordOf_138 : decode cX5_wordOf 138 = .ok (.goto (-74), 3) := by decide +kernel
theorem dX5_wordOf_141 : decode cX5_wordOf 141 = .ok (.aload_n 0, 1) := by decide +kernel
theorem dX5_wordOf_142 : decode cX5_wordOf 142 = .ok (.getfield 110, 3) := by decide +kernel
theorem dX5_wordOf_145 : decode cX5_wordOf 145 = .ok (.ireturn, 1) := by decide +kernel
theorem dX5_power_0 : decode cX5_power 0 = .ok (.iload_n 0, 1) := by decide +kernel
theorem dX5_power_1 : decode cX5_power 1 = .ok (.ifCond .ne 7, 3) := by decide +kernel
theorem dX5_power_4 : decode cX5_power 4 = .ok (.iconst 1, 1) := by decide +kernel
theorem dX5_power_5 : decode cX5_power 5 = .ok (.goto 15, 3) := by decide +kernel
theorem dX5_power_8 : decode cX5_power 8 = .ok (.iload_n 0, 1) := by decide +kernel
theorem dX5_power_9 : decode cX5_power 9 = .ok (.iconst 1, 1) := by decide +kernel
theorem dX5_power_10 : decode cX5_power 10 = .ok (.if_icmp .ne 8, 3) := by decide +kernel
theorem dX5_power_13 : decode cX5_power 13 = .ok (.bipush 9, 2) := by decide +kernel
theorem dX5_power_15 : decode cX5_power 15 = .ok (.goto 5, 3) := by decide +kernel
theorem dX5_power_18 : decode cX5_power 18 = .ok (.bipush 81, 2) := by decide +kernel
theorem dX5_power_20 : decode cX5_power 20 = .ok (.ireturn, 1) := by decide +kernel
set_option maxRecDepth 20000 in
theorem ggX5_addPlace_X5_power : GoodIn wsX5_addPlace wsX5_power := goodIn_r _ [6] (by decide +kernel) (by decide +kernel)
set_option maxRecDepth 20000 in
theorem gX5_addPlace_X5_power : GoodIn wsX5_addPlace (va_wsS RX5 134 yX5_power wsX5_power) := goodIn_app (goodIn_of _ (by decide +kernel)) ggX5_addPlace_X5_power
set_option maxRecDepth 20000 in
theorem ggX5_addPlace_X5_greater : GoodIn wsX5_addPlace wsX5_greater := goodIn_r _ [9] (by decide +kernel) (by decide +kernel)
set_option maxRecDepth 20000 in
theorem gX5_addPlace_X5_greater : GoodIn wsX5_addPlace (va_wsS RX5 93 yX5_greater wsX5_greater) := goodIn_app (goodIn_of _ (by decide +kernel)) ggX5_addPlace_X5_greater
theorem dX5_addPlace_0 : decode cX5_addPlace 0 = .ok (.iconst 0, 1) := by decide +kernel
theorem dX5_addPlace_1 : decode cX5_addPlace 1 = .ok (.istore_n 3, 1) := by decide +kernel
theorem dX5_addPlace_2 : decode cX5_addPlace 2 = .ok (.iload_n 3, 1) := by decide +kernel
theorem dX5_addPlace_3 : decode cX5_addPlace 3 = .ok (.sipush 729, 3) := by decide +kernel
theorem dX5_addPlace_6 : decode cX5_addPlace 6 = .ok (.if_icmp .ge 16, 3) := by decide +kernel
theorem dX5_addPlace_9 : decode cX5_addPlace 9 = .ok (.aload_n 0, 1) := by decide +kernel
theorem dX5_addPlace_10 : decode cX5_addPlace 10 = .ok (.getfield 73, 3) := by decide +kernel
theorem dX5_addPlace_13 : decode cX5_addPlace 13 = .ok (.iload_n 3, 1) := by decide +kernel
theorem dX5_addPlace_14 : decode cX5_addPlace 14 = .ok (.lconst 0, 1) := by decide +kernel
theorem dX5_addPlace_15 : decode cX5_addPlace 15 = .ok (.lastore, 1) := by decide +kernel
theorem dX5_addPlace_16 : decode cX5_addPlace 16 = .ok (.iinc 3 1, 3) := by decide +kernel
theorem dX5_addPlace_19 : decode cX5_addPlace 19 = .ok (.goto (-17), 3) := by decide +kernel
theorem dX5_addPlace_22 : decode cX5_addPlace 22 = .ok (.iconst 0, 1) := by decide +kernel
theorem dX5_addPlace_23 : decode cX5_addPlace 23 = .ok (.istore_n 3, 1) := by decide +kernel
theorem dX5_addPlace_24 : decode cX5_addPlace 24 = .ok (.iload_n 3, 1) := by decide +kernel
theorem dX5_addPlace_25 : decode cX5_addPlace 25 = .ok (.sipush 729, 3) := by decide +kernel
theorem dX5_addPlace_28 : decode cX5_addPlace 28 = .ok (.if_icmp .ge 109, 3) := by decide +kernel
theorem dX5_addPlace_31 : decode cX5_addPlace 31 = .ok (.aload_n 0, 1) := by decide +kernel
theorem dX5_addPlace_32 : decode cX5_addPlace 32 = .ok (.getfield 70, 3) := by decide +kernel
theorem dX5_addPlace_35 : decode cX5_addPlace 35 = .ok (.iload_n 3, 1) := by decide +kernel
theorem dX5_addPlace_36 : decode cX5_addPlace 36 = .ok (.laload, 1) := by decide +kernel
theorem dX5_addPlace_37 : decode cX5_addPlace 37 = .ok (.lconst 0, 1) := by decide +kernel
theorem dX5_addPlace_38 : decode cX5_addPlace 38 = .ok (.lcmp, 1) := by decide +kernel
theorem dX5_addPlace_39 : decode cX5_addPlace 39 = .ok (.ifCond .le 92, 3) := by decide +kernel
theorem dX5_addPlace_42 : decode cX5_addPlace 42 = .ok (.iload_n 3, 1) := by decide +kernel
theorem dX5_addPlace_43 : decode cX5_addPlace 43 = .ok (.iload_n 1, 1) := by decide +kernel
theorem dX5_addPlace_44 : decode cX5_addPlace 44 = .ok (.invokestatic 134, 3) := by decide +kernel
theorem dX5_addPlace_47 : decode cX5_addPlace 47 = .ok (.idiv, 1) := by decide +kernel
theorem dX5_addPlace_48 : decode cX5_addPlace 48 = .ok (.bipush 9, 2) := by decide +kernel
theorem dX5_addPlace_50 : decode cX5_addPlace 50 = .ok (.irem, 1) := by decide +kernel
theorem dX5_addPlace_51 : decode cX5_addPlace 51 = .ok (.istore 4, 2) := by decide +kernel
theorem dX5_addPlace_53 : decode cX5_addPlace 53 = .ok (.iload_n 1, 1) := by decide +kernel
theorem dX5_addPlace_54 : decode cX5_addPlace 54 = .ok (.ifCond .ne 7, 3) := by decide +kernel
theorem dX5_addPlace_57 : decode cX5_addPlace 57 = .ok (.iconst 0, 1) := by decide +kernel
theorem dX5_addPlace_58 : decode cX5_addPlace 58 = .ok (.goto 14, 3) := by decide +kernel
theorem dX5_addPlace_61 : decode cX5_addPlace 61 = .ok (.iload_n 3, 1) := by decide +kernel
theorem dX5_addPlace_62 : decode cX5_addPlace 62 = .ok (.iload_n 1, 1) := by decide +kernel
theorem dX5_addPlace_63 : decode cX5_addPlace 63 = .ok (.iconst 1, 1) := by decide +kernel
theorem dX5_addPlace_64 : decode cX5_addPlace 64 = .ok (.isub, 1) := by decide +kernel
theorem dX5_addPlace_65 : decode cX5_addPlace 65 = .ok (.invokestatic 134, 3) := by decide +kernel
theorem dX5_addPlace_68 : decode cX5_addPlace 68 = .ok (.idiv, 1) := by decide +kernel
theorem dX5_addPlace_69 : decode cX5_addPlace 69 = .ok (.bipush 9, 2) := by decide +kernel
theorem dX5_addPlace_71 : decode cX5_addPlace 71 = .ok (.irem, 1) := by decide +kernel
theorem dX5_addPlace_72 : decode cX5_addPlace 72 = .ok (.istore 5, 2) := by decide +kernel
theorem dX5_addPlace_74 : decode cX5_addPlace 74 = .ok (.iload 4, 2) := by decide +kernel
theorem dX5_addPlace_76 : decode cX5_addPlace 76 = .ok (.iload 5, 2) := by decide +kernel
theorem dX5_addPlace_78 : decode cX5_addPlace 78 = .ok (.invokestatic 93, 3) := by decide +kernel
theorem dX5_addPlace_81 : decode cX5_addPlace 81 = .ok (.istore 6, 2) := by decide +kernel
theorem dX5_addPlace_83 : decode cX5_addPlace 83 = .ok (.iload 6, 2) := by decide +kernel
theorem dX5_addPlace_85 : decode cX5_addPlace 85 = .ok (.istore 7, 2) := by decide +kernel
theorem dX5_addPlace_87 : decode cX5_addPlace 87 = .ok (.iload 7, 2) := by decide +kernel
theorem dX5_addPlace_89 : decode cX5_addPlace 89 = .ok (.iload_n 2, 1) := by decide +kernel
theorem dX5_addPlace_90 : decode cX5_addPlace 90 = .ok (.if_icmp .gt 41, 3) := by decide +kernel
theorem dX5_addPlace_93 : decode cX5_addPlace 93 = .ok (.aload_n 0, 1) := by decide +kernel
theorem dX5_addPlace_94 : decode cX5_addPlace 94 = .ok (.getfield 73, 3) := by decide +kernel
theorem dX5_addPlace_97 : decode cX5_addPlace 97 = .ok (.iload_n 3, 1) := by decide +kernel
theorem dX5_addPlace_98 : decode cX5_addPlace 98 = .ok (.iload 7, 2) := by decide +kernel
theorem dX5_addPlace_100 : decode cX5_addPlace 100 = .ok (.iload 4, 2) := by decide +kernel
theorem dX5_addPlace_102 : decode cX5_addPlace 102 = .ok (.isub, 1) := by decide +kernel
theorem dX5_addPlace_103 : decode cX5_addPlace 103 = .ok (.iload_n 1, 1) := by decide +kernel
theorem dX5_addPlace_104 : decode cX5_addPlace 104 = .ok (.invokestatic 134, 3) := by decide +kernel
theorem dX5_addPlace_107 : decode cX5_addPlace 107 = .ok (.imul, 1) := by decide +kernel
theorem dX5_addPlace_108 : decode cX5_addPlace 108 = .ok (.iadd, 1) := by decide +kernel
theorem dX5_addPlace_109 : decode cX5_addPlace 109 = .ok (.dup2, 1) := by decide +kernel
theorem dX5_addPlace_110 : decode cX5_addPlace 110 = .ok (.laload, 1) := by decide +kernel
theorem dX5_addPlace_111 : decode cX5_addPlace 111 = .ok (.aload_n 0, 1) := by decide +kernel
theorem dX5_addPlace_112 : decode cX5_addPlace 112 = .ok (.getfield 70, 3) := by decide +kernel
theorem dX5_addPlace_115 : decode cX5_addPlace 115 = .ok (.iload_n 3, 1) := by decide +kernel
theorem dX5_addPlace_116 : decode cX5_addPlace 116 = .ok (.laload, 1) := by decide +kernel
theorem dX5_addPlace_117 : decode cX5_addPlace 117 = .ok (.iload 7, 2) := by decide +kernel
theorem dX5_addPlace_119 : decode cX5_addPlace 119 = .ok (.iload 6, 2) := by decide +kernel
theorem dX5_addPlace_121 : decode cX5_addPlace 121 = .ok (.isub, 1) := by decide +kernel
theorem dX5_addPlace_122 : decode cX5_addPlace 122 = .ok (.lshr, 1) := by decide +kernel
theorem dX5_addPlace_123 : decode cX5_addPlace 123 = .ok (.ladd, 1) := by decide +kernel
theorem dX5_addPlace_124 : decode cX5_addPlace 124 = .ok (.lastore, 1) := by decide +kernel
theorem dX5_addPlace_125 : decode cX5_addPlace 125 = .ok (.iinc 7 1, 3) := by decide +kernel
theorem dX5_addPlace_128 : decode cX5_addPlace 128 = .ok (.goto (-41), 3) := by decide +kernel
theorem dX5_addPlace_131 : decode cX5_addPlace 131 = .ok (.iinc 3 1, 3) := by decide +kernel
theorem dX5_addPlace_134 : decode cX5_addPlace 134 = .ok (.goto (-110), 3) := by decide +kernel
theorem dX5_addPlace_137 : decode cX5_addPlace 137 = .ok (.iconst 0, 1) := by decide +kernel
theorem dX5_addPlace_138 : decode cX5_addPlace 138 = .ok (.istore_n 3, 1) := by decide +kernel
theorem dX5_addPlace_139 : decode cX5_addPlace 139 = .ok (.iload_n 3, 1) := by decide +kernel
theorem dX5_addPlace_140 : decode cX5_addPlace 140 = .ok (.sipush 729, 3) := by decide +kernel
theorem dX5_addPlace_143 : decode cX5_addPlace 143 = .ok (.if_icmp .ge 21, 3) := by decide +kernel
theorem dX5_addPlace_146 : decode cX5_addPlace 146 = .ok (.aload_n 0, 1) := by decide +kernel
theorem dX5_addPlace_147 : decode cX5_addPlace 147 = .ok (.getfield 70, 3) := by decide +kernel
theorem dX5_addPlace_150 : decode cX5_addPlace 150 = .ok (.iload_n 3, 1) := by decide +kernel
theorem dX5_addPlace_151 : decode cX5_addPlace 151 = .ok (.aload_n 0, 1) := by decide +kernel
theorem dX5_addPlace_152 : decode cX5_addPlace 152 = .ok (.getfield 73, 3) := by decide +kernel
theorem dX5_addPlace_155 : decode cX5_addPlace 155 = .ok (.iload_n 3, 1) := by decide +kernel
theorem dX5_addPlace_156 : decode cX5_addPlace 156 = .ok (.laload, 1) := by decide +kernel
theorem dX5_addPlace_157 : decode cX5_addPlace 157 = .ok (.lastore, 1) := by decide +kernel
theorem dX5_addPlace_158 : decode cX5_addPlace 158 = .ok (.iinc 3 1, 3) := by decide +kernel
theorem dX5_addPlace_161 : decode cX5_addPlace 161 = .ok (.goto (-22), 3) := by decide +kernel
theorem dX5_addPlace_164 : decode cX5_addPlace 164 = .ok (.return_, 1) := by decide +kernel
set_option maxRecDepth 20000 in
theorem ggX5_chance_X5_in : GoodIn wsX5_chance wsX5_in := goodIn_r _ [8] (by decide +kernel) (by decide +kernel)
set_option maxRecDepth 20000 in
theorem gX5_chance_X5_in : GoodIn wsX5_chance (va_wsS RX5 76 yX5_in wsX5_in) := goodIn_app (goodIn_of _ (by decide +kernel)) ggX5_chance_X5_in
set_option maxRecDepth 20000 in
theorem ggX5_chance_X5_addPlace : GoodIn wsX5_chance wsX5_addPlace := goodIn_r _ [12, 13, 4, 14, 15, 7, 16, 17, 18, 19, 20, 21, 22, 23, 24, 25, 26, 27, 28, 29, 30, 31, 32, 33, 34, 35, 36, 37, 38, 39, 40, 41] (by decide +kernel) (by decide +kernel)
set_option maxRecDepth 20000 in
theorem gX5_chance_X5_addPlace : GoodIn wsX5_chance (wsV RX5 138 RX5 yX5_addPlace wsX5_addPlace) := goodIn_app (goodIn_of _ (by decide +kernel)) ggX5_chance_X5_addPlace
theorem dX5_chance_0 : decode cX5_chance 0 = .ok (.iload_n 1, 1) := by decide +kernel
theorem dX5_chance_1 : decode cX5_chance 1 = .ok (.i2l, 1) := by decide +kernel
theorem dX5_chance_2 : decode cX5_chance 2 = .ok (.lconst 1, 1) := by decide +kernel
theorem dX5_chance_3 : decode cX5_chance 3 = .ok (.ldc2_w 88, 3) := by decide +kernel
theorem dX5_chance_6 : decode cX5_chance 6 = .ok (.invokestatic 76, 3) := by decide +kernel
theorem dX5_chance_9 : decode cX5_chance 9 = .ok (.ifCond .eq 27, 3) := by decide +kernel
theorem dX5_chance_12 : decode cX5_chance 12 = .ok (.iload_n 2, 1) := by decide +kernel
theorem dX5_chance_13 : decode cX5_chance 13 = .ok (.i2l, 1) := by decide +kernel
theorem dX5_chance_14 : decode cX5_chance 14 = .ok (.lconst 1, 1) := by decide +kernel
theorem dX5_chance_15 : decode cX5_chance 15 = .ok (.ldc2_w 88, 3) := by decide +kernel
theorem dX5_chance_18 : decode cX5_chance 18 = .ok (.invokestatic 76, 3) := by decide +kernel
theorem dX5_chance_21 : decode cX5_chance 21 = .ok (.ifCond .eq 15, 3) := by decide +kernel
theorem dX5_chance_24 : decode cX5_chance 24 = .ok (.iload_n 3, 1) := by decide +kernel
theorem dX5_chance_25 : decode cX5_chance 25 = .ok (.i2l, 1) := by decide +kernel
theorem dX5_chance_26 : decode cX5_chance 26 = .ok (.lconst 0, 1) := by decide +kernel
theorem dX5_chance_27 : decode cX5_chance 27 = .ok (.ldc2_w 116, 3) := by decide +kernel
theorem dX5_chance_30 : decode cX5_chance 30 = .ok (.invokestatic 76, 3) := by decide +kernel
theorem dX5_chance_33 : decode cX5_chance 33 = .ok (.ifCond .ne 7, 3) := by decide +kernel
theorem dX5_chance_36 : decode cX5_chance 36 = .ok (.ldc2_w 106, 3) := by decide +kernel
theorem dX5_chance_39 : decode cX5_chance 39 = .ok (.lreturn, 1) := by decide +kernel
theorem dX5_chance_40 : decode cX5_chance 40 = .ok (.iconst 0, 1) := by decide +kernel
theorem dX5_chance_41 : decode cX5_chance 41 = .ok (.istore 4, 2) := by decide +kernel
theorem dX5_chance_43 : decode cX5_chance 43 = .ok (.iload 4, 2) := by decide +kernel
theorem dX5_chance_45 : decode cX5_chance 45 = .ok (.sipush 729, 3) := by decide +kernel
theorem dX5_chance_48 : decode cX5_chance 48 = .ok (.if_icmp .ge 17, 3) := by decide +kernel
theorem dX5_chance_51 : decode cX5_chance 51 = .ok (.aload_n 0, 1) := by decide +kernel
theorem dX5_chance_52 : decode cX5_chance 52 = .ok (.getfield 70, 3) := by decide +kernel
theorem dX5_chance_55 : decode cX5_chance 55 = .ok (.iload 4, 2) := by decide +kernel
theorem dX5_chance_57 : decode cX5_chance 57 = .ok (.lconst 0, 1) := by decide +kernel
theorem dX5_chance_58 : decode cX5_chance 58 = .ok (.lastore, 1) := by decide +kernel
theorem dX5_chance_59 : decode cX5_chance 59 = .ok (.iinc 4 1, 3) := by decide +kernel
theorem dX5_chance_62 : decode cX5_chance 62 = .ok (.goto (-19), 3) := by decide +kernel
theorem dX5_chance_65 : decode cX5_chance 65 = .ok (.aload_n 0, 1) := by decide +kernel
theorem dX5_chance_66 : decode cX5_chance 66 = .ok (.getfield 70, 3) := by decide +kernel
theorem dX5_chance_69 : decode cX5_chance 69 = .ok (.iconst 0, 1) := by decide +kernel
theorem dX5_chance_70 : decode cX5_chance 70 = .ok (.lconst 1, 1) := by decide +kernel
theorem dX5_chance_71 : decode cX5_chance 71 = .ok (.iload_n 3, 1) := by decide +kernel
theorem dX5_chance_72 : decode cX5_chance 72 = .ok (.iload_n 1, 1) := by decide +kernel
theorem dX5_chance_73 : decode cX5_chance 73 = .ok (.iload_n 2, 1) := by decide +kernel
theorem dX5_chance_74 : decode cX5_chance 74 = .ok (.if_icmp .ge 7, 3) := by decide +kernel
theorem dX5_chance_77 : decode cX5_chance 77 = .ok (.iload_n 1, 1) := by decide +kernel
theorem dX5_chance_78 : decode cX5_chance 78 = .ok (.goto 4, 3) := by decide +kernel
theorem dX5_chance_81 : decode cX5_chance 81 = .ok (.iload_n 2, 1) := by decide +kernel
theorem dX5_chance_82 : decode cX5_chance 82 = .ok (.imul, 1) := by decide +kernel
theorem dX5_chance_83 : decode cX5_chance 83 = .ok (.lshl, 1) := by decide +kernel
theorem dX5_chance_84 : decode cX5_chance 84 = .ok (.lastore, 1) := by decide +kernel
theorem dX5_chance_85 : decode cX5_chance 85 = .ok (.iconst 0, 1) := by decide +kernel
theorem dX5_chance_86 : decode cX5_chance 86 = .ok (.istore 4, 2) := by decide +kernel
theorem dX5_chance_88 : decode cX5_chance 88 = .ok (.iload 4, 2) := by decide +kernel
theorem dX5_chance_90 : decode cX5_chance 90 = .ok (.iload_n 1, 1) := by decide +kernel
theorem dX5_chance_91 : decode cX5_chance 91 = .ok (.if_icmp .ge 31, 3) := by decide +kernel
theorem dX5_chance_94 : decode cX5_chance 94 = .ok (.iconst 0, 1) := by decide +kernel
theorem dX5_chance_95 : decode cX5_chance 95 = .ok (.istore 5, 2) := by decide +kernel
theorem dX5_chance_97 : decode cX5_chance 97 = .ok (.iload 5, 2) := by decide +kernel
theorem dX5_chance_99 : decode cX5_chance 99 = .ok (.iload_n 2, 1) := by decide +kernel
theorem dX5_chance_100 : decode cX5_chance 100 = .ok (.if_icmp .ge 16, 3) := by decide +kernel
theorem dX5_chance_103 : decode cX5_chance 103 = .ok (.aload_n 0, 1) := by decide +kernel
theorem dX5_chance_104 : decode cX5_chance 104 = .ok (.iload 5, 2) := by decide +kernel
theorem dX5_chance_106 : decode cX5_chance 106 = .ok (.iload_n 3, 1) := by decide +kernel
theorem dX5_chance_107 : decode cX5_chance 107 = .ok (.invokevirtual 138, 3) := by decide +kernel
theorem dX5_chance_110 : decode cX5_chance 110 = .ok (.iinc 5 1, 3) := by decide +kernel
theorem dX5_chance_113 : decode cX5_chance 113 = .ok (.goto (-16), 3) := by decide +kernel
theorem dX5_chance_116 : decode cX5_chance 116 = .ok (.iinc 4 1, 3) := by decide +kernel
theorem dX5_chance_119 : decode cX5_chance 119 = .ok (.goto (-31), 3) := by decide +kernel
theorem dX5_chance_122 : decode cX5_chance 122 = .ok (.lconst 0, 1) := by decide +kernel
theorem dX5_chance_123 : decode cX5_chance 123 = .ok (.lstore 4, 2) := by decide +kernel
theorem dX5_chance_125 : decode cX5_chance 125 = .ok (.iconst 0, 1) := by decide +kernel
theorem dX5_chance_126 : decode cX5_chance 126 = .ok (.istore 6, 2) := by decide +kernel
theorem dX5_chance_128 : decode cX5_chance 128 = .ok (.iload 6, 2) := by decide +kernel
theorem dX5_chance_130 : decode cX5_chance 130 = .ok (.sipush 729, 3) := by decide +kernel
theorem dX5_chance_133 : decode cX5_chance 133 = .ok (.if_icmp .ge 21, 3) := by decide +kernel
theorem dX5_chance_136 : decode cX5_chance 136 = .ok (.lload 4, 2) := by decide +kernel
theorem dX5_chance_138 : decode cX5_chance 138 = .ok (.aload_n 0, 1) := by decide +kernel
theorem dX5_chance_139 : decode cX5_chance 139 = .ok (.getfield 70, 3) := by decide +kernel
theorem dX5_chance_142 : decode cX5_chance 142 = .ok (.iload 6, 2) := by decide +kernel
theorem dX5_chance_144 : decode cX5_chance 144 = .ok (.laload, 1) := by decide +kernel
theorem dX5_chance_145 : decode cX5_chance 145 = .ok (.ladd, 1) := by decide +kernel
theorem dX5_chance_146 : decode cX5_chance 146 = .ok (.lstore 4, 2) := by decide +kernel
theorem dX5_chance_148 : decode cX5_chance 148 = .ok (.iinc 6 1, 3) := by decide +kernel
theorem dX5_chance_151 : decode cX5_chance 151 = .ok (.goto (-23), 3) := by decide +kernel
theorem dX5_chance_154 : decode cX5_chance 154 = .ok (.lload 4, 2) := by decide +kernel
theorem dX5_chance_156 : decode cX5_chance 156 = .ok (.lreturn, 1) := by decide +kernel
