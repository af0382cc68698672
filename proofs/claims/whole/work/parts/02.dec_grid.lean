theorem dX0_init_0 : decode cX0_init 0 = .ok (.aload_n 0, 1) := by decide +kernel
theorem dX0_init_1 : decode cX0_init 1 = .ok (.invokespecial 3, 3) := by decide +kernel
theorem dX0_init_4 : decode cX0_init 4 = .ok (.aload_n 0, 1) := by decide +kernel
theorem dX0_init_5 : decode cX0_init 5 = .ok (.iconst 3, 1) := by decide +kernel
theorem dX0_init_6 : decode cX0_init 6 = .ok (.putfield 11, 3) := by decide +kernel
theorem dX0_init_9 : decode cX0_init 9 = .ok (.aload_n 0, 1) := by decide +kernel
theorem dX0_init_10 : decode cX0_init 10 = .ok (.iconst 3, 1) := by decide +kernel
theorem dX0_init_11 : decode cX0_init 11 = .ok (.putfield 15, 3) := by decide +kernel
theorem dX0_init_14 : decode cX0_init 14 = .ok (.aload_n 0, 1) := by decide +kernel
theorem dX0_init_15 : decode cX0_init 15 = .ok (.bipush 6, 2) := by decide +kernel
theorem dX0_init_17 : decode cX0_init 17 = .ok (.bipush 6, 2) := by decide +kernel
theorem dX0_init_19 : decode cX0_init 19 = .ok (.multianewarray 18 2, 4) := by decide +kernel
theorem dX0_init_23 : decode cX0_init 23 = .ok (.putfield 20, 3) := by decide +kernel
theorem dX0_init_26 : decode cX0_init 26 = .ok (.aload_n 0, 1) := by decide +kernel
theorem dX0_init_27 : decode cX0_init 27 = .ok (.bipush 6, 2) := by decide +kernel
theorem dX0_init_29 : decode cX0_init 29 = .ok (.bipush 6, 2) := by decide +kernel
theorem dX0_init_31 : decode cX0_init 31 = .ok (.multianewarray 18 2, 4) := by decide +kernel
theorem dX0_init_35 : decode cX0_init 35 = .ok (.putfield 23, 3) := by decide +kernel
theorem dX0_init_38 : decode cX0_init 38 = .ok (.aload_n 0, 1) := by decide +kernel
theorem dX0_init_39 : decode cX0_init 39 = .ok (.bipush 6, 2) := by decide +kernel
theorem dX0_init_41 : decode cX0_init 41 = .ok (.bipush 6, 2) := by decide +kernel
theorem dX0_init_43 : decode cX0_init 43 = .ok (.multianewarray 26 2, 4) := by decide +kernel
theorem dX0_init_47 : decode cX0_init 47 = .ok (.putfield 28, 3) := by decide +kernel
theorem dX0_init_50 : decode cX0_init 50 = .ok (.aload_n 0, 1) := by decide +kernel
theorem dX0_init_51 : decode cX0_init 51 = .ok (.bipush 49, 2) := by decide +kernel
theorem dX0_init_53 : decode cX0_init 53 = .ok (.bipush 6, 2) := by decide +kernel
theorem dX0_init_55 : decode cX0_init 55 = .ok (.multianewarray 18 2, 4) := by decide +kernel
theorem dX0_init_59 : decode cX0_init 59 = .ok (.putfield 31, 3) := by decide +kernel
theorem dX0_init_62 : decode cX0_init 62 = .ok (.return_, 1) := by decide +kernel
set_option maxRecDepth 20000 in
theorem ggX0_reset_J7_fill_53178 : GoodIn wsX0_reset wsJ7_fill_53178 := goodIn_r _ [7] (by decide +kernel) (by decide +kernel)
set_option maxRecDepth 20000 in
theorem gX0_reset_J7_fill_53178 : GoodIn wsX0_reset (va_wsS RX0 34 yJ7_fill_53178 wsJ7_fill_53178) := goodIn_app (goodIn_of _ (by decide +kernel)) ggX0_reset_J7_fill_53178
theorem dX0_reset_0 : decode cX0_reset 0 = .ok (.aload_n 0, 1) := by decide +kernel
theorem dX0_reset_1 : decode cX0_reset 1 = .ok (.iload_n 1, 1) := by decide +kernel
theorem dX0_reset_2 : decode cX0_reset 2 = .ok (.putfield 11, 3) := by decide +kernel
theorem dX0_reset_5 : decode cX0_reset 5 = .ok (.aload_n 0, 1) := by decide +kernel
theorem dX0_reset_6 : decode cX0_reset 6 = .ok (.iload_n 2, 1) := by decide +kernel
theorem dX0_reset_7 : decode cX0_reset 7 = .ok (.putfield 15, 3) := by decide +kernel
theorem dX0_reset_10 : decode cX0_reset 10 = .ok (.iconst 0, 1) := by decide +kernel
theorem dX0_reset_11 : decode cX0_reset 11 = .ok (.istore_n 3, 1) := by decide +kernel
theorem dX0_reset_12 : decode cX0_reset 12 = .ok (.iload_n 3, 1) := by decide +kernel
theorem dX0_reset_13 : decode cX0_reset 13 = .ok (.bipush 6, 2) := by decide +kernel
theorem dX0_reset_15 : decode cX0_reset 15 = .ok (.if_icmp .ge 19, 3) := by decide +kernel
theorem dX0_reset_18 : decode cX0_reset 18 = .ok (.aload_n 0, 1) := by decide +kernel
theorem dX0_reset_19 : decode cX0_reset 19 = .ok (.getfield 20, 3) := by decide +kernel
theorem dX0_reset_22 : decode cX0_reset 22 = .ok (.iload_n 3, 1) := by decide +kernel
theorem dX0_reset_23 : decode cX0_reset 23 = .ok (.aaload, 1) := by decide +kernel
theorem dX0_reset_24 : decode cX0_reset 24 = .ok (.iconst 0, 1) := by decide +kernel
theorem dX0_reset_25 : decode cX0_reset 25 = .ok (.invokestatic 34, 3) := by decide +kernel
theorem dX0_reset_28 : decode cX0_reset 28 = .ok (.iinc 3 1, 3) := by decide +kernel
theorem dX0_reset_31 : decode cX0_reset 31 = .ok (.goto (-19), 3) := by decide +kernel
theorem dX0_reset_34 : decode cX0_reset 34 = .ok (.return_, 1) := by decide +kernel
set_option maxRecDepth 20000 in
theorem ggX0_hasPlace_X4_isWithin : GoodIn wsX0_hasPlace wsX4_isWithin := goodIn_r _ [5] (by decide +kernel) (by decide +kernel)
set_option maxRecDepth 20000 in
theorem gX0_hasPlace_X4_isWithin_n40 : GoodIn wsX0_hasPlace (wsX4_isWithin) := ggX0_hasPlace_X4_isWithin
theorem dX0_hasPlace_0 : decode cX0_hasPlace 0 = .ok (.iload_n 1, 1) := by decide +kernel
theorem dX0_hasPlace_1 : decode cX0_hasPlace 1 = .ok (.iconst 0, 1) := by decide +kernel
theorem dX0_hasPlace_2 : decode cX0_hasPlace 2 = .ok (.aload_n 0, 1) := by decide +kernel
theorem dX0_hasPlace_3 : decode cX0_hasPlace 3 = .ok (.getfield 11, 3) := by decide +kernel
theorem dX0_hasPlace_6 : decode cX0_hasPlace 6 = .ok (.iconst 1, 1) := by decide +kernel
theorem dX0_hasPlace_7 : decode cX0_hasPlace 7 = .ok (.isub, 1) := by decide +kernel
theorem dX0_hasPlace_8 : decode cX0_hasPlace 8 = .ok (.invokestatic 40, 3) := by decide +kernel
theorem dX0_hasPlace_11 : decode cX0_hasPlace 11 = .ok (.ifCond .eq 21, 3) := by decide +kernel
theorem dX0_hasPlace_14 : decode cX0_hasPlace 14 = .ok (.iload_n 2, 1) := by decide +kernel
theorem dX0_hasPlace_15 : decode cX0_hasPlace 15 = .ok (.iconst 0, 1) := by decide +kernel
theorem dX0_hasPlace_16 : decode cX0_hasPlace 16 = .ok (.aload_n 0, 1) := by decide +kernel
theorem dX0_hasPlace_17 : decode cX0_hasPlace 17 = .ok (.getfield 15, 3) := by decide +kernel
theorem dX0_hasPlace_20 : decode cX0_hasPlace 20 = .ok (.iconst 1, 1) := by decide +kernel
theorem dX0_hasPlace_21 : decode cX0_hasPlace 21 = .ok (.isub, 1) := by decide +kernel
theorem dX0_hasPlace_22 : decode cX0_hasPlace 22 = .ok (.invokestatic 40, 3) := by decide +kernel
theorem dX0_hasPlace_25 : decode cX0_hasPlace 25 = .ok (.ifCond .eq 7, 3) := by decide +kernel
theorem dX0_hasPlace_28 : decode cX0_hasPlace 28 = .ok (.iconst 1, 1) := by decide +kernel
theorem dX0_hasPlace_29 : decode cX0_hasPlace 29 = .ok (.goto 4, 3) := by decide +kernel
theorem dX0_hasPlace_32 : decode cX0_hasPlace 32 = .ok (.iconst 0, 1) := by decide +kernel
theorem dX0_hasPlace_33 : decode cX0_hasPlace 33 = .ok (.ireturn, 1) := by decide +kernel
set_option maxRecDepth 20000 in
theorem ggX0_hasCorner_X4_isWithin : GoodIn wsX0_hasCorner wsX4_isWithin := goodIn_r _ [5] (by decide +kernel) (by decide +kernel)
set_option maxRecDepth 20000 in
theorem gX0_hasCorner_X4_isWithin_n40 : GoodIn wsX0_hasCorner (wsX4_isWithin) := ggX0_hasCorner_X4_isWithin
theorem dX0_hasCorner_0 : decode cX0_hasCorner 0 = .ok (.iload_n 1, 1) := by decide +kernel
theorem dX0_hasCorner_1 : decode cX0_hasCorner 1 = .ok (.iconst 0, 1) := by decide +kernel
theorem dX0_hasCorner_2 : decode cX0_hasCorner 2 = .ok (.aload_n 0, 1) := by decide +kernel
theorem dX0_hasCorner_3 : decode cX0_hasCorner 3 = .ok (.getfield 11, 3) := by decide +kernel
theorem dX0_hasCorner_6 : decode cX0_hasCorner 6 = .ok (.invokestatic 40, 3) := by decide +kernel
theorem dX0_hasCorner_9 : decode cX0_hasCorner 9 = .ok (.ifCond .eq 19, 3) := by decide +kernel
theorem dX0_hasCorner_12 : decode cX0_hasCorner 12 = .ok (.iload_n 2, 1) := by decide +kernel
theorem dX0_hasCorner_13 : decode cX0_hasCorner 13 = .ok (.iconst 0, 1) := by decide +kernel
theorem dX0_hasCorner_14 : decode cX0_hasCorner 14 = .ok (.aload_n 0, 1) := by decide +kernel
theorem dX0_hasCorner_15 : decode cX0_hasCorner 15 = .ok (.getfield 15, 3) := by decide +kernel
theorem dX0_hasCorner_18 : decode cX0_hasCorner 18 = .ok (.invokestatic 40, 3) := by decide +kernel
theorem dX0_hasCorner_21 : decode cX0_hasCorner 21 = .ok (.ifCond .eq 7, 3) := by decide +kernel
theorem dX0_hasCorner_24 : decode cX0_hasCorner 24 = .ok (.iconst 1, 1) := by decide +kernel
theorem dX0_hasCorner_25 : decode cX0_hasCorner 25 = .ok (.goto 4, 3) := by decide +kernel
theorem dX0_hasCorner_28 : decode cX0_hasCorner 28 = .ok (.iconst 0, 1) := by decide +kernel
theorem dX0_hasCorner_29 : decode cX0_hasCorner 29 = .ok (.ireturn, 1) := by decide +kernel
theorem dX0_placeCount_0 : decode cX0_placeCount 0 = .ok (.aload_n 0, 1) := by decide +kernel
theorem dX0_placeCount_1 : decode cX0_placeCount 1 = .ok (.getfield 11, 3) := by decide +kernel
theorem dX0_placeCount_4 : decode cX0_placeCount 4 = .ok (.aload_n 0, 1) := by decide +kernel
theorem dX0_placeCount_5 : decode cX0_placeCount 5 = .ok (.getfield 15, 3) := by decide +kernel
theorem dX0_placeCount_8 : decode cX0_placeCount 8 = .ok (.imul, 1) := by decide +kernel
theorem dX0_placeCount_9 : decode cX0_placeCount 9 = .ok (.ireturn, 1) := by decide +kernel
theorem dX0_lastStep_0 : decode cX0_lastStep 0 = .ok (.aload_n 0, 1) := by decide +kernel
theorem dX0_lastStep_1 : decode cX0_lastStep 1 = .ok (.getfield 11, 3) := by decide +kernel
theorem dX0_lastStep_4 : decode cX0_lastStep 4 = .ok (.aload_n 0, 1) := by decide +kernel
theorem dX0_lastStep_5 : decode cX0_lastStep 5 = .ok (.getfield 15, 3) := by decide +kernel
theorem dX0_lastStep_8 : decode cX0_lastStep 8 = .ok (.iadd, 1) := by decide +kernel
theorem dX0_lastStep_9 : decode cX0_lastStep 9 = .ok (.iconst 2, 1) := by decide +kernel
theorem dX0_lastStep_10 : decode cX0_lastStep 10 = .ok (.isub, 1) := by decide +kernel
theorem dX0_lastStep_11 : decode cX0_lastStep 11 = .ok (.ireturn, 1) := by decide +kernel
theorem dX0_exchange_0 : decode cX0_exchange 0 = .ok (.aload_n 0, 1) := by decide +kernel
theorem dX0_exchange_1 : decode cX0_exchange 1 = .ok (.getfield 20, 3) := by decide +kernel
theorem dX0_exchange_4 : decode cX0_exchange 4 = .ok (.iload_n 1, 1) := by decide +kernel
theorem dX0_exchange_5 : decode cX0_exchange 5 = .ok (.aaload, 1) := by decide +kernel
theorem dX0_exchange_6 : decode cX0_exchange 6 = .ok (.iload_n 2, 1) := by decide +kernel
theorem dX0_exchange_7 : decode cX0_exchange 7 = .ok (.iaload, 1) := by decide +kernel
theorem dX0_exchange_8 : decode cX0_exchange 8 = .ok (.istore 4, 2) := by decide +kernel
theorem dX0_exchange_10 : decode cX0_exchange 10 = .ok (.aload_n 0, 1) := by decide +kernel
theorem dX0_exchange_11 : decode cX0_exchange 11 = .ok (.getfield 20, 3) := by decide +kernel
theorem dX0_exchange_14 : decode cX0_exchange 14 = .ok (.iload_n 1, 1) := by decide +kernel
theorem dX0_exchange_15 : decode cX0_exchange 15 = .ok (.aaload, 1) := by decide +kernel
theorem dX0_exchange_16 : decode cX0_exchange 16 = .ok (.iload_n 2, 1) := by decide +kernel
theorem dX0_exchange_17 : decode cX0_exchange 17 = .ok (.iload_n 3, 1) := by decide +kernel
theorem dX0_exchange_18 : decode cX0_exchange 18 = .ok (.iastore, 1) := by decide +kernel
theorem dX0_exchange_19 : decode cX0_exchange 19 = .ok (.iload 4, 2) := by decide +kernel
theorem dX0_exchange_21 : decode cX0_exchange 21 = .ok (.ireturn, 1) := by decide +kernel
set_option maxRecDepth 20000 in
theorem ggX0_takeFrom_X1_itemAt : GoodIn wsX0_takeFrom wsX1_itemAt := goodIn_r _ [8, 9, 16, 17, 18] (by decide +kernel) (by decide +kernel)
set_option maxRecDepth 20000 in
theorem gX0_takeFrom_X1_itemAt : GoodIn wsX0_takeFrom (wsV RX0 44 RX1 yX1_itemAt wsX1_itemAt) := goodIn_app (goodIn_of _ (by decide +kernel)) ggX0_takeFrom_X1_itemAt
theorem dX0_takeFrom_0 : decode cX0_takeFrom 0 = .ok (.iload_n 2, 1) := by decide +kernel
theorem dX0_takeFrom_1 : decode cX0_takeFrom 1 = .ok (.istore_n 3, 1) := by decide +kernel
theorem dX0_takeFrom_2 : decode cX0_takeFrom 2 = .ok (.iconst 0, 1) := by decide +kernel
theorem dX0_takeFrom_3 : decode cX0_takeFrom 3 = .ok (.istore 4, 2) := by decide +kernel
theorem dX0_takeFrom_5 : decode cX0_takeFrom 5 = .ok (.iload 4, 2) := by decide +kernel
theorem dX0_takeFrom_7 : decode cX0_takeFrom 7 = .ok (.aload_n 0, 1) := by decide +kernel
theorem dX0_takeFrom_8 : decode cX0_takeFrom 8 = .ok (.getfield 11, 3) := by decide +kernel
theorem dX0_takeFrom_11 : decode cX0_takeFrom 11 = .ok (.if_icmp .ge 46, 3) := by decide +kernel
theorem dX0_takeFrom_14 : decode cX0_takeFrom 14 = .ok (.iconst 0, 1) := by decide +kernel
theorem dX0_takeFrom_15 : decode cX0_takeFrom 15 = .ok (.istore 5, 2) := by decide +kernel
theorem dX0_takeFrom_17 : decode cX0_takeFrom 17 = .ok (.iload 5, 2) := by decide +kernel
theorem dX0_takeFrom_19 : decode cX0_takeFrom 19 = .ok (.aload_n 0, 1) := by decide +kernel
theorem dX0_takeFrom_20 : decode cX0_takeFrom 20 = .ok (.getfield 15, 3) := by decide +kernel
theorem dX0_takeFrom_23 : decode cX0_takeFrom 23 = .ok (.if_icmp .ge 28, 3) := by decide +kernel
theorem dX0_takeFrom_26 : decode cX0_takeFrom 26 = .ok (.aload_n 0, 1) := by decide +kernel
theorem dX0_takeFrom_27 : decode cX0_takeFrom 27 = .ok (.getfield 20, 3) := by decide +kernel
theorem dX0_takeFrom_30 : decode cX0_takeFrom 30 = .ok (.iload 4, 2) := by decide +kernel
theorem dX0_takeFrom_32 : decode cX0_takeFrom 32 = .ok (.aaload, 1) := by decide +kernel
theorem dX0_takeFrom_33 : decode cX0_takeFrom 33 = .ok (.iload 5, 2) := by decide +kernel
theorem dX0_takeFrom_35 : decode cX0_takeFrom 35 = .ok (.aload_n 1, 1) := by decide +kernel
theorem dX0_takeFrom_36 : decode cX0_takeFrom 36 = .ok (.iload_n 3, 1) := by decide +kernel
theorem dX0_takeFrom_37 : decode cX0_takeFrom 37 = .ok (.invokevirtual 44, 3) := by decide +kernel
theorem dX0_takeFrom_40 : decode cX0_takeFrom 40 = .ok (.l2i, 1) := by decide +kernel
theorem dX0_takeFrom_41 : decode cX0_takeFrom 41 = .ok (.iastore, 1) := by decide +kernel
theorem dX0_takeFrom_42 : decode cX0_takeFrom 42 = .ok (.iinc 3 1, 3) := by decide +kernel
theorem dX0_takeFrom_45 : decode cX0_takeFrom 45 = .ok (.iinc 5 1, 3) := by decide +kernel
theorem dX0_takeFrom_48 : decode cX0_takeFrom 48 = .ok (.goto (-31), 3) := by decide +kernel
theorem dX0_takeFrom_51 : decode cX0_takeFrom 51 = .ok (.iinc 4 1, 3) := by decide +kernel
theorem dX0_takeFrom_54 : decode cX0_takeFrom 54 = .ok (.goto (-49), 3) := by decide +kernel
theorem dX0_takeFrom_57 : decode cX0_takeFrom 57 = .ok (.return_, 1) := by decide +kernel
theorem dX0_total_0 : decode cX0_total 0 = .ok (.iconst 0, 1) := by decide +kernel
theorem dX0_total_1 : decode cX0_total 1 = .ok (.istore_n 1, 1) := by decide +kernel
theorem dX0_total_2 : decode cX0_total 2 = .ok (.iconst 0, 1) := by decide +kernel
theorem dX0_total_3 : decode cX0_total 3 = .ok (.istore_n 2, 1) := by decide +kernel
theorem dX0_total_4 : decode cX0_total 4 = .ok (.iload_n 2, 1) := by decide +kernel
theorem dX0_total_5 : decode cX0_total 5 = .ok (.aload_n 0, 1) := by decide +kernel
theorem dX0_total_6 : decode cX0_total 6 = .ok (.getfield 11, 3) := by decide +kernel
theorem dX0_total_9 : decode cX0_total 9 = .ok (.if_icmp .ge 36, 3) := by decide +kernel
theorem dX0_total_12 : decode cX0_total 12 = .ok (.iconst 0, 1) := by decide +kernel
theorem dX0_total_13 : decode cX0_total 13 = .ok (.istore_n 3, 1) := by decide +kernel
theorem dX0_total_14 : decode cX0_total 14 = .ok (.iload_n 3, 1) := by decide +kernel
theorem dX0_total_15 : decode cX0_total 15 = .ok (.aload_n 0, 1) := by decide +kernel
theorem dX0_total_16 : decode cX0_total 16 = .ok (.getfield 15, 3) := by decide +kernel
theorem dX0_total_19 : decode cX0_total 19 = .ok (.if_icmp .ge 20, 3) := by decide +kernel
theorem dX0_total_22 : decode cX0_total 22 = .ok (.iload_n 1, 1) := by decide +kernel
theorem dX0_total_23 : decode cX0_total 23 = .ok (.aload_n 0, 1) := by decide +kernel
theorem dX0_total_24 : decode cX0_total 24 = .ok (.getfield 20, 3) := by decide +kernel
theorem dX0_total_27 : decode cX0_total 27 = .ok (.iload_n 2, 1) := by decide +kernel
theorem dX0_total_28 : decode cX0_total 28 = .ok (.aaload, 1) := by decide +kernel
theorem dX0_total_29 : decode cX0_total 29 = .ok (.iload_n 3, 1) := by decide +kernel
theorem dX0_total_30 : decode cX0_total 30 = .ok (.iaload, 1) := by decide +kernel
theorem dX0_total_31 : decode cX0_total 31 = .ok (.iadd, 1) := by decide +kernel
theorem dX0_total_32 : decode cX0_total 32 = .ok (.istore_n 1, 1) := by decide +kernel
theorem dX0_total_33 : decode cX0_total 33 = .ok (.iinc 3 1, 3) := by decide +kernel
theorem dX0_total_36 : decode cX0_total 36 = .ok (.goto (-22), 3) := by decide +kernel
theorem dX0_total_39 : decode cX0_total 39 = .ok (.iinc 2 1, 3) := by decide +kernel
theorem dX0_total_42 : decode cX0_total 42 = .ok (.goto (-38), 3) := by decide +kernel
theorem dX0_total_45 : decode cX0_total 45 = .ok (.iload_n 1, 1) := by decide +kernel
theorem dX0_total_46 : decode cX0_total 46 = .ok (.ireturn, 1) := by decide +kernel
theorem dX0_transpose_0 : decode cX0_transpose 0 = .ok (.iconst 0, 1) := by decide +kernel
theorem dX0_transpose_1 : decode cX0_transpose 1 = .ok (.istore_n 1, 1) := by decide +kernel
theorem dX0_transpose_2 : decode cX0_transpose 2 = .ok (.iload_n 1, 1) := by decide +kernel
theorem dX0_transpose_3 : decode cX0_transpose 3 = .ok (.bipush 6, 2) := by decide +kernel
theorem dX0_transpose_5 : decode cX0_transpose 5 = .ok (.if_icmp .ge 56, 3) := by decide +kernel
theorem dX0_transpose_8 : decode cX0_transpose 8 = .ok (.iconst 0, 1) := by decide +kernel
theorem dX0_transpose_9 : decode cX0_transpose 9 = .ok (.istore_n 2, 1) := by decide +kernel
theorem dX0_transpose_10 : decode cX0_transpose 10 = .ok (.iload_n 2, 1) := by decide +kernel
theorem dX0_transpose_11 : decode cX0_transpose 11 = .ok (.iload_n 1, 1) := by decide +kernel
theorem dX0_transpose_12 : decode cX0_transpose 12 = .ok (.if_icmp .ge 43, 3) := by decide +kernel
theorem dX0_transpose_15 : decode cX0_transpose 15 = .ok (.aload_n 0, 1) := by decide +kernel
theorem dX0_transpose_16 : decode cX0_transpose 16 = .ok (.getfield 20, 3) := by decide +kernel
theorem dX0_transpose_19 : decode cX0_transpose 19 = .ok (.iload_n 1, 1) := by decide +kernel
theorem dX0_transpose_20 : decode cX0_transpose 20 = .ok (.aaload, 1) := by decide +kernel
theorem dX0_transpose_21 : decode cX0_transpose 21 = .ok (.iload_n 2, 1) := by decide +kernel
theorem dX0_transpose_22 : decode cX0_transpose 22 = .ok (.iaload, 1) := by decide +kernel
theorem dX0_transpose_23 : decode cX0_transpose 23 = .ok (.istore_n 3, 1) := by decide +kernel
theorem dX0_transpose_24 : decode cX0_transpose 24 = .ok (.aload_n 0, 1) := by decide +kernel
theorem dX0_transpose_25 : decode cX0_transpose 25 = .ok (.getfield 20, 3) := by decide +kernel
theorem dX0_transpose_28 : decode cX0_transpose 28 = .ok (.iload_n 1, 1) := by decide +kernel
theorem dX0_transpose_29 : decode cX0_transpose 29 = .ok (.aaload, 1) := by decide +kernel
theorem dX0_transpose_30 : decode cX0_transpose 30 = .ok (.iload_n 2, 1) := by decide +kernel
theorem dX0_transpose_31 : decode cX0_transpose 31 = .ok (.aload_n 0, 1) := by decide +kernel
theorem dX0_transpose_32 : decode cX0_transpose 32 = .ok (.getfield 20, 3) := by decide +kernel
theorem dX0_transpose_35 : decode cX0_transpose 35 = .ok (.iload_n 2, 1) := by decide +kernel
theorem dX0_transpose_36 : decode cX0_transpose 36 = .ok (.aaload, 1) := by decide +kernel
theorem dX0_transpose_37 : decode cX0_transpose 37 = .ok (.iload_n 1, 1) := by decide +kernel
theorem dX0_transpose_38 : decode cX0_transpose 38 = .ok (.iaload, 1) := by decide +kernel
theorem dX0_transpose_39 : decode cX0_transpose 39 = .ok (.iastore, 1) := by decide +kernel
theorem dX0_transpose_40 : decode cX0_transpose 40 = .ok (.aload_n 0, 1) := by decide +kernel
theorem dX0_transpose_41 : decode cX0_transpose 41 = .ok (.getfield 20, 3) := by decide +kernel
theorem dX0_transpose_44 : decode cX0_transpose 44 = .ok (.iload_n 2, 1) := by decide +kernel
theorem dX0_transpose_45 : decode cX0_transpose 45 = .ok (.aaload, 1) := by decide +kernel
theorem dX0_transpose_46 : decode cX0_transpose 46 = .ok (.iload_n 1, 1) := by decide +kernel
theorem dX0_transpose_47 : decode cX0_transpose 47 = .ok (.iload_n 3, 1) := by decide +kernel
theorem dX0_transpose_48 : decode cX0_transpose 48 = .ok (.iastore, 1) := by decide +kernel
theorem dX0_transpose_49 : decode cX0_transpose 49 = .ok (.iinc 2 1, 3) := by decide +kernel
theorem dX0_transpose_52 : decode cX0_transpose 52 = .ok (.goto (-42), 3) := by decide +kernel
theorem dX0_transpose_55 : decode cX0_transpose 55 = .ok (.iinc 1 1, 3) := by decide +kernel
theorem dX0_transpose_58 : decode cX0_transpose 58 = .ok (.goto (-56), 3) := by decide +kernel
theorem dX0_transpose_61 : decode cX0_transpose 61 = .ok (.aload_n 0, 1) := by decide +kernel
theorem dX0_transpose_62 : decode cX0_transpose 62 = .ok (.getfield 11, 3) := by decide +kernel
theorem dX0_transpose_65 : decode cX0_transpose 65 = .ok (.istore_n 1, 1) := by decide +kernel
theorem dX0_transpose_66 : decode cX0_transpose 66 = .ok (.aload_n 0, 1) := by decide +kernel
theorem dX0_transpose_67 : decode cX0_transpose 67 = .ok (.aload_n 0, 1) := by decide +kernel
theorem dX0_transpose_68 : decode cX0_transpose 68 = .ok (.getfield 15, 3) := by decide +kernel
theorem dX0_transpose_71 : decode cX0_transpose 71 = .ok (.putfield 11, 3) := by decide +kernel
theorem dX0_transpose_74 : decode cX0_transpose 74 = .ok (.aload_n 0, 1) := by decide +kernel
theorem dX0_transpose_75 : decode cX0_transpose 75 = .ok (.iload_n 1, 1) := by decide +kernel
theorem dX0_transpose_76 : decode cX0_transpose 76 = .ok (.putfield 15, 3) := by decide +kernel
theorem dX0_transpose_79 : decode cX0_transpose 79 = .ok (.return_, 1) := by decide +kernel
theorem dX0_heaviest_0 : decode cX0_heaviest 0 = .ok (.iload_n 1, 1) := by decide +kernel
theorem dX0_heaviest_1 : decode cX0_heaviest 1 = .ok (.istore 5, 2) := by decide +kernel
theorem dX0_heaviest_3 : decode cX0_heaviest 3 = .ok (.iload 5, 2) := by decide +kernel
theorem dX0_heaviest_5 : decode cX0_heaviest 5 = .ok (.iload_n 3, 1) := by decide +kernel
theorem dX0_heaviest_6 : decode cX0_heaviest 6 = .ok (.if_icmp .gt 101, 3) := by decide +kernel
theorem dX0_heaviest_9 : decode cX0_heaviest 9 = .ok (.iload_n 2, 1) := by decide +kernel
theorem dX0_heaviest_10 : decode cX0_heaviest 10 = .ok (.istore 6, 2) := by decide +kernel
theorem dX0_heaviest_12 : decode cX0_heaviest 12 = .ok (.iload 6, 2) := by decide +kernel
theorem dX0_heaviest_14 : decode cX0_heaviest 14 = .ok (.iload 4, 2) := by decide +kernel
theorem dX0_heaviest_16 : decode cX0_heaviest 16 = .ok (.if_icmp .gt 85, 3) := by decide +kernel
theorem dX0_heaviest_19 : decode cX0_heaviest 19 = .ok (.iload 5, 2) := by decide +kernel
theorem dX0_heaviest_21 : decode cX0_heaviest 21 = .ok (.iload_n 1, 1) := by decide +kernel
theorem dX0_heaviest_22 : decode cX0_heaviest 22 = .ok (.if_icmp .le 18, 3) := by decide +kernel
theorem dX0_heaviest_25 : decode cX0_heaviest 25 = .ok (.aload_n 0, 1) := by decide +kernel
theorem dX0_heaviest_26 : decode cX0_heaviest 26 = .ok (.getfield 23, 3) := by decide +kernel
theorem dX0_heaviest_29 : decode cX0_heaviest 29 = .ok (.iload 5, 2) := by decide +kernel
theorem dX0_heaviest_31 : decode cX0_heaviest 31 = .ok (.iconst 1, 1) := by decide +kernel
theorem dX0_heaviest_32 : decode cX0_heaviest 32 = .ok (.isub, 1) := by decide +kernel
theorem dX0_heaviest_33 : decode cX0_heaviest 33 = .ok (.aaload, 1) := by decide +kernel
theorem dX0_heaviest_34 : decode cX0_heaviest 34 = .ok (.iload 6, 2) := by decide +kernel
theorem dX0_heaviest_36 : decode cX0_heaviest 36 = .ok (.iaload, 1) := by decide +kernel
theorem dX0_heaviest_37 : decode cX0_heaviest 37 = .ok (.goto 4, 3) := by decide +kernel
theorem dX0_heaviest_40 : decode cX0_heaviest 40 = .ok (.iconst 0, 1) := by decide +kernel
theorem dX0_heaviest_41 : decode cX0_heaviest 41 = .ok (.istore 7, 2) := by decide +kernel
theorem dX0_heaviest_43 : decode cX0_heaviest 43 = .ok (.iload 6, 2) := by decide +kernel
theorem dX0_heaviest_45 : decode cX0_heaviest 45 = .ok (.iload_n 2, 1) := by decide +kernel
theorem dX0_heaviest_46 : decode cX0_heaviest 46 = .ok (.if_icmp .le 18, 3) := by decide +kernel
theorem dX0_heaviest_49 : decode cX0_heaviest 49 = .ok (.aload_n 0, 1) := by decide +kernel
theorem dX0_heaviest_50 : decode cX0_heaviest 50 = .ok (.getfield 23, 3) := by decide +kernel
theorem dX0_heaviest_53 : decode cX0_heaviest 53 = .ok (.iload 5, 2) := by decide +kernel
theorem dX0_heaviest_55 : decode cX0_heaviest 55 = .ok (.aaload, 1) := by decide +kernel
theorem dX0_heaviest_56 : decode cX0_heaviest 56 = .ok (.iload 6, 2) := by decide +kernel
theorem dX0_heaviest_58 : decode cX0_heaviest 58 = .ok (.iconst 1, 1) := by decide +kernel
theorem dX0_heaviest_59 : decode cX0_heaviest 59 = .ok (.isub, 1) := by decide +kernel
theorem dX0_heaviest_60 : decode cX0_heaviest 60 = .ok (.iaload, 1) := by decide +kernel
theorem dX0_heaviest_61 : decode cX0_heaviest 61 = .ok (.goto 4, 3) := by decide +kernel
theorem dX0_heaviest_64 : decode cX0_heaviest 64 = .ok (.iconst 0, 1) := by decide +kernel
theorem dX0_heaviest_65 : decode cX0_heaviest 65 = .ok (.istore 8, 2) := by decide +kernel
theorem dX0_heaviest_67 : decode cX0_heaviest 67 = .ok (.aload_n 0, 1) := by decide +kernel
theorem dX0_heaviest_68 : decode cX0_heaviest 68 = .ok (.getfield 23, 3) := by decide +kernel
theorem dX0_heaviest_71 : decode cX0_heaviest 71 = .ok (.iload 5, 2) := by decide +kernel
theorem dX0_heaviest_73 : decode cX0_heaviest 73 = .ok (.aaload, 1) := by decide +kernel
theorem dX0_heaviest_74 : decode cX0_heaviest 74 = .ok (.iload 6, 2) := by decide +kernel
theorem dX0_heaviest_76 : decode cX0_heaviest 76 = .ok (.aload_n 0, 1) := by decide +kernel
theorem dX0_heaviest_77 : decode cX0_heaviest 77 = .ok (.getfield 20, 3) := by decide +kernel
theorem dX0_heaviest_80 : decode cX0_heaviest 80 = .ok (.iload 5, 2) := by decide +kernel
theorem dX0_heaviest_82 : decode cX0_heaviest 82 = .ok (.aaload, 1) := by decide +kernel
theorem dX0_heaviest_83 : decode cX0_heaviest 83 = .ok (.iload 6, 2) := by decide +kernel
theorem dX0_heaviest_85 : decode cX0_heaviest 85 = .ok (.iaload, 1) := by decide +kernel
theorem dX0_heaviest_86 : decode cX0_heaviest 86 = .ok (.iload 7, 2) := by decide +kernel
theorem dX0_heaviest_88 : decode cX0_heaviest 88 = .ok (.iload 8, 2) := by decide +kernel
theorem dX0_heaviest_90 : decode cX0_heaviest 90 = .ok (.invokestatic 50, 3) := by decide +kernel
theorem dX0_heaviest_93 : decode cX0_heaviest 93 = .ok (.iadd, 1) := by decide +kernel
theorem dX0_heaviest_94 : decode cX0_heaviest 94 = .ok (.iastore, 1) := by decide +kernel
theorem dX0_heaviest_95 : decode cX0_heaviest 95 = .ok (.iinc 6 1, 3) := by decide +kernel
theorem dX0_heaviest_98 : decode cX0_heaviest 98 = .ok (.goto (-86), 3) := by decide +kernel
theorem dX0_heaviest_101 : decode cX0_heaviest 101 = .ok (.iinc 5 1, 3) := by decide +kernel
theorem dX0_heaviest_104 : decode cX0_heaviest 104 = .ok (.goto (-101), 3) := by decide +kernel
theorem dX0_heaviest_107 : decode cX0_heaviest 107 = .ok (.aload_n 0, 1) := by decide +kernel
theorem dX0_heaviest_108 : decode cX0_heaviest 108 = .ok (.getfield 23, 3) := by decide +kernel
theorem dX0_heaviest_111 : decode cX0_heaviest 111 = .ok (.iload_n 3, 1) := by decide +kernel
theorem dX0_heaviest_112 : decode cX0_heaviest 112 = .ok (.aaload, 1) := by decide +kernel
theorem dX0_heaviest_113 : decode cX0_heaviest 113 = .ok (.iload 4, 2) := by decide +kernel
theorem dX0_heaviest_115 : decode cX0_heaviest 115 = .ok (.iaload, 1) := by decide +kernel
theorem dX0_heaviest_116 : decode cX0_heaviest 116 = .ok (.ireturn, 1) := by decide +kernel
set_option maxRecDepth 20000 in
theorem ggX0_growShapes_X0_growCorner : GoodIn wsX0_growShapes wsX0_growCorner := goodIn_r _ [7, 8, 9, 10, 11, 12, 13, 14, 15, 16, 17, 18, 6, 19, 20, 21, 22, 23, 24, 25] (by decide +kernel) (by decide +kernel)
set_option maxRecDepth 20000 in
theorem gX0_growShapes_X0_growCorner : GoodIn wsX0_growShapes (wsV RX0 56 RX0 yX0_growCorner wsX0_growCorner) := goodIn_app (goodIn_of _ (by decide +kernel)) ggX0_growShapes_X0_growCorner
theorem dX0_growShapes_0 : decode cX0_growShapes 0 = .ok (.iconst 1, 1) := by decide +kernel
theorem dX0_growShapes_1 : decode cX0_growShapes 1 = .ok (.istore_n 1, 1) := by decide +kernel
theorem dX0_growShapes_2 : decode cX0_growShapes 2 = .ok (.iload_n 1, 1) := by decide +kernel
theorem dX0_growShapes_3 : decode cX0_growShapes 3 = .ok (.aload_n 0, 1) := by decide +kernel
theorem dX0_growShapes_4 : decode cX0_growShapes 4 = .ok (.getfield 11, 3) := by decide +kernel
theorem dX0_growShapes_7 : decode cX0_growShapes 7 = .ok (.if_icmp .gt 31, 3) := by decide +kernel
theorem dX0_growShapes_10 : decode cX0_growShapes 10 = .ok (.iconst 1, 1) := by decide +kernel
theorem dX0_growShapes_11 : decode cX0_growShapes 11 = .ok (.istore_n 2, 1) := by decide +kernel
theorem dX0_growShapes_12 : decode cX0_growShapes 12 = .ok (.iload_n 2, 1) := by decide +kernel
theorem dX0_growShapes_13 : decode cX0_growShapes 13 = .ok (.aload_n 0, 1) := by decide +kernel
theorem dX0_growShapes_14 : decode cX0_growShapes 14 = .ok (.getfield 15, 3) := by decide +kernel
theorem dX0_growShapes_17 : decode cX0_growShapes 17 = .ok (.if_icmp .gt 15, 3) := by decide +kernel
theorem dX0_growShapes_20 : decode cX0_growShapes 20 = .ok (.aload_n 0, 1) := by decide +kernel
theorem dX0_growShapes_21 : decode cX0_growShapes 21 = .ok (.iload_n 1, 1) := by decide +kernel
theorem dX0_growShapes_22 : decode cX0_growShapes 22 = .ok (.iload_n 2, 1) := by decide +kernel
theorem dX0_growShapes_23 : decode cX0_growShapes 23 = .ok (.invokevirtual 56, 3) := by decide +kernel
theorem dX0_growShapes_26 : decode cX0_growShapes 26 = .ok (.iinc 2 1, 3) := by decide +kernel
theorem dX0_growShapes_29 : decode cX0_growShapes 29 = .ok (.goto (-17), 3) := by decide +kernel
theorem dX0_growShapes_32 : decode cX0_growShapes 32 = .ok (.iinc 1 1, 3) := by decide +kernel
theorem dX0_growShapes_35 : decode cX0_growShapes 35 = .ok (.goto (-33), 3) := by decide +kernel
theorem dX0_growShapes_38 : decode cX0_growShapes 38 = .ok (.return_, 1) := by decide +kernel
set_option maxRecDepth 20000 in
theorem ggX0_growCorner_X0_cornerNumber : GoodIn wsX0_growCorner wsX0_cornerNumber := goodIn_r _ [13] (by decide +kernel) (by decide +kernel)
set_option maxRecDepth 20000 in
theorem gX0_growCorner_X0_cornerNumber : GoodIn wsX0_growCorner (va_wsS RX0 60 yX0_cornerNumber wsX0_cornerNumber) := goodIn_app (goodIn_of _ (by decide +kernel)) ggX0_growCorner_X0_cornerNumber
theorem dX0_growCorner_0 : decode cX0_growCorner 0 = .ok (.aload_n 0, 1) := by decide +kernel
theorem dX0_growCorner_1 : decode cX0_growCorner 1 = .ok (.getfield 31, 3) := by decide +kernel
theorem dX0_growCorner_4 : decode cX0_growCorner 4 = .ok (.iload_n 1, 1) := by decide +kernel
theorem dX0_growCorner_5 : decode cX0_growCorner 5 = .ok (.iconst 1, 1) := by decide +kernel
theorem dX0_growCorner_6 : decode cX0_growCorner 6 = .ok (.isub, 1) := by decide +kernel
theorem dX0_growCorner_7 : decode cX0_growCorner 7 = .ok (.iload_n 2, 1) := by decide +kernel
theorem dX0_growCorner_8 : decode cX0_growCorner 8 = .ok (.iconst 1, 1) := by decide +kernel
theorem dX0_growCorner_9 : decode cX0_growCorner 9 = .ok (.isub, 1) := by decide +kernel
theorem dX0_growCorner_10 : decode cX0_growCorner 10 = .ok (.invokestatic 60, 3) := by decide +kernel
theorem dX0_growCorner_13 : decode cX0_growCorner 13 = .ok (.aaload, 1) := by decide +kernel
theorem dX0_growCorner_14 : decode cX0_growCorner 14 = .ok (.astore_n 3, 1) := by decide +kernel
theorem dX0_growCorner_15 : decode cX0_growCorner 15 = .ok (.aload_n 0, 1) := by decide +kernel
theorem dX0_growCorner_16 : decode cX0_growCorner 16 = .ok (.getfield 31, 3) := by decide +kernel
theorem dX0_growCorner_19 : decode cX0_growCorner 19 = .ok (.iload_n 1, 1) := by decide +kernel
theorem dX0_growCorner_20 : decode cX0_growCorner 20 = .ok (.iconst 1, 1) := by decide +kernel
theorem dX0_growCorner_21 : decode cX0_growCorner 21 = .ok (.isub, 1) := by decide +kernel
theorem dX0_growCorner_22 : decode cX0_growCorner 22 = .ok (.iload_n 2, 1) := by decide +kernel
theorem dX0_growCorner_23 : decode cX0_growCorner 23 = .ok (.invokestatic 60, 3) := by decide +kernel
theorem dX0_growCorner_26 : decode cX0_growCorner 26 = .ok (.aaload, 1) := by decide +kernel
theorem dX0_growCorner_27 : decode cX0_growCorner 27 = .ok (.astore 4, 2) := by decide +kernel
theorem dX0_growCorner_29 : decode cX0_growCorner 29 = .ok (.aload_n 0, 1) := by decide +kernel
theorem dX0_growCorner_30 : decode cX0_growCorner 30 = .ok (.getfield 31, 3) := by decide +kernel
theorem dX0_growCorner_33 : decode cX0_growCorner 33 = .ok (.iload_n 1, 1) := by decide +kernel
theorem dX0_growCorner_34 : decode cX0_growCorner 34 = .ok (.iload_n 2, 1) := by decide +kernel
theorem dX0_growCorner_35 : decode cX0_growCorner 35 = .ok (.iconst 1, 1) := by decide +kernel
theorem dX0_growCorner_36 : decode cX0_growCorner 36 = .ok (.isub, 1) := by decide +kernel
theorem dX0_growCorner_37 : decode cX0_growCorner 37 = .ok (.invokestatic 60, 3) := by decide +kernel
theorem dX0_growCorner_40 : decode cX0_growCorner 40 = .ok (.aaload, 1) := by decide +kernel
theorem dX0_growCorner_41 : decode cX0_growCorner 41 = .ok (.astore 5, 2) := by decide +kernel
theorem dX0_growCorner_43 : decode cX0_growCorner 43 = .ok (.aload_n 0, 1) := by decide +kernel
theorem dX0_growCorner_44 : decode cX0_growCorner 44 = .ok (.getfield 31, 3) := by decide +kernel
theorem dX0_growCorner_47 : decode cX0_growCorner 47 = .ok (.iload_n 1, 1) := by decide +kernel
theorem dX0_growCorner_48 : decode cX0_growCorner 48 = .ok (.iload_n 2, 1) := by decide +kernel
theorem dX0_growCorner_49 : decode cX0_growCorner 49 = .ok (.invokestatic 60, 3) := by decide +kernel
theorem dX0_growCorner_52 : decode cX0_growCorner 52 = .ok (.aaload, 1) := by decide +kernel
theorem dX0_growCorner_53 : decode cX0_growCorner 53 = .ok (.astore 6, 2) := by decide +kernel
theorem dX0_growCorner_55 : decode cX0_growCorner 55 = .ok (.aload 6, 2) := by decide +kernel
theorem dX0_growCorner_57 : decode cX0_growCorner 57 = .ok (.iconst 0, 1) := by decide +kernel
theorem dX0_growCorner_58 : decode cX0_growCorner 58 = .ok (.aload 4, 2) := by decide +kernel
theorem dX0_growCorner_60 : decode cX0_growCorner 60 = .ok (.iconst 0, 1) := by decide +kernel
theorem dX0_growCorner_61 : decode cX0_growCorner 61 = .ok (.iaload, 1) := by decide +kernel
theorem dX0_growCorner_62 : decode cX0_growCorner 62 = .ok (.aload 5, 2) := by decide +kernel
theorem dX0_growCorner_64 : decode cX0_growCorner 64 = .ok (.iconst 0, 1) := by decide +kernel
theorem dX0_growCorner_65 : decode cX0_growCorner 65 = .ok (.iaload, 1) := by decide +kernel
theorem dX0_growCorner_66 : decode cX0_growCorner 66 = .ok (.invokestatic 50, 3) := by decide +kernel
theorem dX0_growCorner_69 : decode cX0_growCorner 69 = .ok (.aload_n 0, 1) := by decide +kernel
theorem dX0_growCorner_70 : decode cX0_growCorner 70 = .ok (.getfield 20, 3) := by decide +kernel
theorem dX0_growCorner_73 : decode cX0_growCorner 73 = .ok (.iload_n 1, 1) := by decide +kernel
theorem dX0_growCorner_74 : decode cX0_growCorner 74 = .ok (.iconst 1, 1) := by decide +kernel
theorem dX0_growCorner_75 : decode cX0_growCorner 75 = .ok (.isub, 1) := by decide +kernel
theorem dX0_growCorner_76 : decode cX0_growCorner 76 = .ok (.aaload, 1) := by decide +kernel
theorem dX0_growCorner_77 : decode cX0_growCorner 77 = .ok (.iload_n 2, 1) := by decide +kernel
theorem dX0_growCorner_78 : decode cX0_growCorner 78 = .ok (.iconst 1, 1) := by decide +kernel
theorem dX0_growCorner_79 : decode cX0_growCorner 79 = .ok (.isub, 1) := by decide +kernel
theorem dX0_growCorner_80 : decode cX0_growCorner 80 = .ok (.iaload, 1) := by decide +kernel
theorem dX0_growCorner_81 : decode cX0_growCorner 81 = .ok (.iadd, 1) := by decide +kernel
theorem dX0_growCorner_82 : decode cX0_growCorner 82 = .ok (.iastore, 1) := by decide +kernel
theorem dX0_growCorner_83 : decode cX0_growCorner 83 = .ok (.iconst 1, 1) := by decide +kernel
theorem dX0_growCorner_84 : decode cX0_growCorner 84 = .ok (.istore 7, 2) := by decide +kernel
theorem dX0_growCorner_86 : decode cX0_growCorner 86 = .ok (.iload 7, 2) := by decide +kernel
theorem dX0_growCorner_88 : decode cX0_growCorner 88 = .ok (.bipush 6, 2) := by decide +kernel
theorem dX0_growCorner_90 : decode cX0_growCorner 90 = .ok (.if_icmp .ge 52, 3) := by decide +kernel
theorem dX0_growCorner_93 : decode cX0_growCorner 93 = .ok (.aload 6, 2) := by decide +kernel
theorem dX0_growCorner_95 : decode cX0_growCorner 95 = .ok (.iload 7, 2) := by decide +kernel
theorem dX0_growCorner_97 : decode cX0_growCorner 97 = .ok (.aload 4, 2) := by decide +kernel
theorem dX0_growCorner_99 : decode cX0_growCorner 99 = .ok (.iload 7, 2) := by decide +kernel
theorem dX0_growCorner_101 : decode cX0_growCorner 101 = .ok (.iaload, 1) := by decide +kernel
theorem dX0_growCorner_102 : decode cX0_growCorner 102 = .ok (.aload 5, 2) := by decide +kernel
theorem dX0_growCorner_104 : decode cX0_growCorner 104 = .ok (.iload 7, 2) := by decide +kernel
theorem dX0_growCorner_106 : decode cX0_growCorner 106 = .ok (.iaload, 1) := by decide +kernel
theorem dX0_growCorner_107 : decode cX0_growCorner 107 = .ok (.invokestatic 50, 3) := by decide +kernel
theorem dX0_growCorner_110 : decode cX0_growCorner 110 = .ok (.aload 4, 2) := by decide +kernel
theorem dX0_growCorner_112 : decode cX0_growCorner 112 = .ok (.iload 7, 2) := by decide +kernel
theorem dX0_growCorner_114 : decode cX0_growCorner 114 = .ok (.iconst 1, 1) := by decide +kernel
theorem dX0_growCorner_115 : decode cX0_growCorner 115 = .ok (.isub, 1) := by decide +kernel
theorem dX0_growCorner_116 : decode cX0_growCorner 116 = .ok (.iaload, 1) := by decide +kernel
theorem dX0_growCorner_117 : decode cX0_growCorner 117 = .ok (.aload 5, 2) := by decide +kernel
theorem dX0_growCorner_119 : decode cX0_growCorner 119 = .ok (.iload 7, 2) := by decide +kernel
theorem dX0_growCorner_121 : decode cX0_growCorner 121 = .ok (.iconst 1, 1) := by decide +kernel
theorem dX0_growCorner_122 : decode cX0_growCorner 122 = .ok (.isub, 1) := by decide +kernel
theorem dX0_growCorner_123 : decode cX0_growCorner 123 = .ok (.iaload, 1) := by decide +kernel
theorem dX0_growCorner_124 : decode cX0_growCorner 124 = .ok (.invokestatic 63, 3) := by decide +kernel
theorem dX0_growCorner_127 : decode cX0_growCorner 127 = .ok (.iadd, 1) := by decide +kernel
theorem dX0_growCorner_128 : decode cX0_growCorner 128 = .ok (.aload_n 3, 1) := by decide +kernel
theorem dX0_growCorner_129 : decode cX0_growCorner 129 = .ok (.iload 7, 2) := by decide +kernel
theorem dX0_growCorner_131 : decode cX0_growCorner 131 = .ok (.iconst 1, 1) := by decide +kernel
theorem dX0_growCorner_132 : decode cX0_growCorner 132 = .ok (.isub, 1) := by decide +kernel
theorem dX0_growCorner_133 : decode cX0_growCorner 133 = .ok (.iaload, 1) := by decide +kernel
theorem dX0_growCorner_134 : decode cX0_growCorner 134 = .ok (.isub, 1) := by decide +kernel
theorem dX0_growCorner_135 : decode cX0_growCorner 135 = .ok (.iastore, 1) := by decide +kernel
theorem dX0_growCorner_136 : decode cX0_growCorner 136 = .ok (.iinc 7 1, 3) := by decide +kernel
theorem dX0_growCorner_139 : decode cX0_growCorner 139 = .ok (.goto (-53), 3) := by decide +kernel
theorem dX0_growCorner_142 : decode cX0_growCorner 142 = .ok (.return_, 1) := by decide +kernel
theorem dX0_cornerNumber_0 : decode cX0_cornerNumber 0 = .ok (.iload_n 0, 1) := by decide +kernel
theorem dX0_cornerNumber_1 : decode cX0_cornerNumber 1 = .ok (.bipush 7, 2) := by decide +kernel
theorem dX0_cornerNumber_3 : decode cX0_cornerNumber 3 = .ok (.imul, 1) := by decide +kernel
theorem dX0_cornerNumber_4 : decode cX0_cornerNumber 4 = .ok (.iload_n 1, 1) := by decide +kernel
theorem dX0_cornerNumber_5 : decode cX0_cornerNumber 5 = .ok (.iadd, 1) := by decide +kernel
theorem dX0_cornerNumber_6 : decode cX0_cornerNumber 6 = .ok (.ireturn, 1) := by decide +kernel
set_option maxRecDepth 20000 in
theorem ggX0_partAt_X0_cornerNumber : GoodIn wsX0_partAt wsX0_cornerNumber := goodIn_r _ [5] (by decide +kernel) (by decide +kernel)
set_option maxRecDepth 20000 in
theorem gX0_partAt_X0_cornerNumber : GoodIn wsX0_partAt (va_wsS RX0 60 yX0_cornerNumber wsX0_cornerNumber) := goodIn_app (goodIn_of _ (by decide +kernel)) ggX0_partAt_X0_cornerNumber
theorem dX0_partAt_0 : decode cX0_partAt 0 = .ok (.aload_n 0, 1) := by decide +kernel
theorem dX0_partAt_1 : decode cX0_partAt 1 = .ok (.getfield 31, 3) := by decide +kernel
theorem dX0_partAt_4 : decode cX0_partAt 4 = .ok (.iload_n 1, 1) := by decide +kernel
theorem dX0_partAt_5 : decode cX0_partAt 5 = .ok (.iload_n 2, 1) := by decide +kernel
theorem dX0_partAt_6 : decode cX0_partAt 6 = .ok (.invokestatic 60, 3) := by decide +kernel
theorem dX0_partAt_9 : decode cX0_partAt 9 = .ok (.aaload, 1) := by decide +kernel
theorem dX0_partAt_10 : decode cX0_partAt 10 = .ok (.iload_n 3, 1) := by decide +kernel
theorem dX0_partAt_11 : decode cX0_partAt 11 = .ok (.iaload, 1) := by decide +kernel
theorem dX0_partAt_12 : decode cX0_partAt 12 = .ok (.ireturn, 1) := by decide +kernel
set_option maxRecDepth 20000 in
theorem ggX0_firstPartsAtEnd_X0_partAt : GoodIn wsX0_firstPartsAtEnd wsX0_partAt := goodIn_r _ [7, 8, 9, 10, 6, 11, 12, 13, 14, 15, 16, 17] (by decide +kernel) (by decide +kernel)
set_option maxRecDepth 20000 in
theorem gX0_firstPartsAtEnd_X0_partAt : GoodIn wsX0_firstPartsAtEnd (wsV RX0 66 RX0 yX0_partAt wsX0_partAt) := goodIn_app (goodIn_of _ (by decide +kernel)) ggX0_firstPartsAtEnd_X0_partAt
theorem dX0_firstPartsAtEnd_0 : decode cX0_firstPartsAtEnd 0 = .ok (.iconst 0, 1) := by decide +kernel
theorem dX0_firstPartsAtEnd_1 : decode cX0_firstPartsAtEnd 1 = .ok (.istore_n 2, 1) := by decide +kernel
theorem dX0_firstPartsAtEnd_2 : decode cX0_firstPartsAtEnd 2 = .ok (.iconst 0, 1) := by decide +kernel
theorem dX0_firstPartsAtEnd_3 : decode cX0_firstPartsAtEnd 3 = .ok (.istore_n 3, 1) := by decide +kernel
theorem dX0_firstPartsAtEnd_4 : decode cX0_firstPartsAtEnd 4 = .ok (.iload_n 3, 1) := by decide +kernel
theorem dX0_firstPartsAtEnd_5 : decode cX0_firstPartsAtEnd 5 = .ok (.iload_n 1, 1) := by decide +kernel
theorem dX0_firstPartsAtEnd_6 : decode cX0_firstPartsAtEnd 6 = .ok (.if_icmp .ge 25, 3) := by decide +kernel
theorem dX0_firstPartsAtEnd_9 : decode cX0_firstPartsAtEnd 9 = .ok (.iload_n 2, 1) := by decide +kernel
theorem dX0_firstPartsAtEnd_10 : decode cX0_firstPartsAtEnd 10 = .ok (.aload_n 0, 1) := by decide +kernel
theorem dX0_firstPartsAtEnd_11 : decode cX0_firstPartsAtEnd 11 = .ok (.aload_n 0, 1) := by decide +kernel
theorem dX0_firstPartsAtEnd_12 : decode cX0_firstPartsAtEnd 12 = .ok (.getfield 11, 3) := by decide +kernel
theorem dX0_firstPartsAtEnd_15 : decode cX0_firstPartsAtEnd 15 = .ok (.aload_n 0, 1) := by decide +kernel
theorem dX0_firstPartsAtEnd_16 : decode cX0_firstPartsAtEnd 16 = .ok (.getfield 15, 3) := by decide +kernel
theorem dX0_firstPartsAtEnd_19 : decode cX0_firstPartsAtEnd 19 = .ok (.iload_n 3, 1) := by decide +kernel
theorem dX0_firstPartsAtEnd_20 : decode cX0_firstPartsAtEnd 20 = .ok (.invokevirtual 66, 3) := by decide +kernel
theorem dX0_firstPartsAtEnd_23 : decode cX0_firstPartsAtEnd 23 = .ok (.iadd, 1) := by decide +kernel
theorem dX0_firstPartsAtEnd_24 : decode cX0_firstPartsAtEnd 24 = .ok (.istore_n 2, 1) := by decide +kernel
theorem dX0_firstPartsAtEnd_25 : decode cX0_firstPartsAtEnd 25 = .ok (.iinc 3 1, 3) := by decide +kernel
theorem dX0_firstPartsAtEnd_28 : decode cX0_firstPartsAtEnd 28 = .ok (.goto (-24), 3) := by decide +kernel
theorem dX0_firstPartsAtEnd_31 : decode cX0_firstPartsAtEnd 31 = .ok (.iload_n 2, 1) := by decide +kernel
theorem dX0_firstPartsAtEnd_32 : decode cX0_firstPartsAtEnd 32 = .ok (.ireturn, 1) := by decide +kernel
set_option maxRecDepth 20000 in
theorem ggX0_productSum_X0_productsBefore : GoodIn wsX0_productSum wsX0_productsBefore := goodIn_r _ [7, 1, 8, 9, 10, 11, 12, 13] (by decide +kernel) (by decide +kernel)
set_option maxRecDepth 20000 in
theorem gX0_productSum_X0_productsBefore : GoodIn wsX0_productSum (wsV RX0 70 RX0 yX0_productsBefore wsX0_productsBefore) := goodIn_app (goodIn_of _ (by decide +kernel)) ggX0_productSum_X0_productsBefore
theorem dX0_productSum_0 : decode cX0_productSum 0 = .ok (.iconst 0, 1) := by decide +kernel
theorem dX0_productSum_1 : decode cX0_productSum 1 = .ok (.istore_n 3, 1) := by decide +kernel
theorem dX0_productSum_2 : decode cX0_productSum 2 = .ok (.iload_n 3, 1) := by decide +kernel
theorem dX0_productSum_3 : decode cX0_productSum 3 = .ok (.iload_n 1, 1) := by decide +kernel
theorem dX0_productSum_4 : decode cX0_productSum 4 = .ok (.if_icmp .gt 51, 3) := by decide +kernel
theorem dX0_productSum_7 : decode cX0_productSum 7 = .ok (.iconst 0, 1) := by decide +kernel
theorem dX0_productSum_8 : decode cX0_productSum 8 = .ok (.istore 4, 2) := by decide +kernel
theorem dX0_productSum_10 : decode cX0_productSum 10 = .ok (.iload 4, 2) := by decide +kernel
theorem dX0_productSum_12 : decode cX0_productSum 12 = .ok (.iload_n 2, 1) := by decide +kernel
theorem dX0_productSum_13 : decode cX0_productSum 13 = .ok (.if_icmp .gt 36, 3) := by decide +kernel
theorem dX0_productSum_16 : decode cX0_productSum 16 = .ok (.aload_n 0, 1) := by decide +kernel
theorem dX0_productSum_17 : decode cX0_productSum 17 = .ok (.getfield 28, 3) := by decide +kernel
theorem dX0_productSum_20 : decode cX0_productSum 20 = .ok (.iload_n 3, 1) := by decide +kernel
theorem dX0_productSum_21 : decode cX0_productSum 21 = .ok (.aaload, 1) := by decide +kernel
theorem dX0_productSum_22 : decode cX0_productSum 22 = .ok (.iload 4, 2) := by decide +kernel
theorem dX0_productSum_24 : decode cX0_productSum 24 = .ok (.aload_n 0, 1) := by decide +kernel
theorem dX0_productSum_25 : decode cX0_productSum 25 = .ok (.getfield 20, 3) := by decide +kernel
theorem dX0_productSum_28 : decode cX0_productSum 28 = .ok (.iload_n 3, 1) := by decide +kernel
theorem dX0_productSum_29 : decode cX0_productSum 29 = .ok (.aaload, 1) := by decide +kernel
theorem dX0_productSum_30 : decode cX0_productSum 30 = .ok (.iload 4, 2) := by decide +kernel
theorem dX0_productSum_32 : decode cX0_productSum 32 = .ok (.iaload, 1) := by decide +kernel
theorem dX0_productSum_33 : decode cX0_productSum 33 = .ok (.i2l, 1) := by decide +kernel
theorem dX0_productSum_34 : decode cX0_productSum 34 = .ok (.aload_n 0, 1) := by decide +kernel
theorem dX0_productSum_35 : decode cX0_productSum 35 = .ok (.iload_n 3, 1) := by decide +kernel
theorem dX0_productSum_36 : decode cX0_productSum 36 = .ok (.iload 4, 2) := by decide +kernel
theorem dX0_productSum_38 : decode cX0_productSum 38 = .ok (.invokevirtual 70, 3) := by decide +kernel
theorem dX0_productSum_41 : decode cX0_productSum 41 = .ok (.lmul, 1) := by decide +kernel
theorem dX0_productSum_42 : decode cX0_productSum 42 = .ok (.lastore, 1) := by decide +kernel
theorem dX0_productSum_43 : decode cX0_productSum 43 = .ok (.iinc 4 1, 3) := by decide +kernel
theorem dX0_productSum_46 : decode cX0_productSum 46 = .ok (.goto (-36), 3) := by decide +kernel
theorem dX0_productSum_49 : decode cX0_productSum 49 = .ok (.iinc 3 1, 3) := by decide +kernel
theorem dX0_productSum_52 : decode cX0_productSum 52 = .ok (.goto (-50), 3) := by decide +kernel
theorem dX0_productSum_55 : decode cX0_productSum 55 = .ok (.aload_n 0, 1) := by decide +kernel
theorem dX0_productSum_56 : decode cX0_productSum 56 = .ok (.getfield 28, 3) := by decide +kernel
theorem dX0_productSum_59 : decode cX0_productSum 59 = .ok (.iload_n 1, 1) := by decide +kernel
theorem dX0_productSum_60 : decode cX0_productSum 60 = .ok (.aaload, 1) := by decide +kernel
theorem dX0_productSum_61 : decode cX0_productSum 61 = .ok (.iload_n 2, 1) := by decide +kernel
theorem dX0_productSum_62 : decode cX0_productSum 62 = .ok (.laload, 1) := by decide +kernel
theorem dX0_productSum_63 : decode cX0_productSum 63 = .ok (.lreturn, 1) := by decide +kernel
theorem dX0_productsBefore_0 : decode cX0_productsBefore 0 = .ok (.iload_n 1, 1) := by decide +kernel
theorem dX0_productsBefore_1 : decode cX0_productsBefore 1 = .ok (.ifCond .ne 9, 3) := by decide +kernel
theorem dX0_productsBefore_4 : decode cX0_productsBefore 4 = .ok (.iload_n 2, 1) := by decide +kernel
theorem dX0_productsBefore_5 : decode cX0_productsBefore 5 = .ok (.ifCond .ne 5, 3) := by decide +kernel
theorem dX0_productsBefore_8 : decode cX0_productsBefore 8 = .ok (.lconst 1, 1) := by decide +kernel
theorem dX0_productsBefore_9 : decode cX0_productsBefore 9 = .ok (.lreturn, 1) := by decide +kernel
theorem dX0_productsBefore_10 : decode cX0_productsBefore 10 = .ok (.iload_n 1, 1) := by decide +kernel
theorem dX0_productsBefore_11 : decode cX0_productsBefore 11 = .ok (.ifCond .le 16, 3) := by decide +kernel
theorem dX0_productsBefore_14 : decode cX0_productsBefore 14 = .ok (.aload_n 0, 1) := by decide +kernel
theorem dX0_productsBefore_15 : decode cX0_productsBefore 15 = .ok (.getfield 28, 3) := by decide +kernel
theorem dX0_productsBefore_18 : decode cX0_productsBefore 18 = .ok (.iload_n 1, 1) := by decide +kernel
theorem dX0_productsBefore_19 : decode cX0_productsBefore 19 = .ok (.iconst 1, 1) := by decide +kernel
theorem dX0_productsBefore_20 : decode cX0_productsBefore 20 = .ok (.isub, 1) := by decide +kernel
theorem dX0_productsBefore_21 : decode cX0_productsBefore 21 = .ok (.aaload, 1) := by decide +kernel
theorem dX0_productsBefore_22 : decode cX0_productsBefore 22 = .ok (.iload_n 2, 1) := by decide +kernel
theorem dX0_productsBefore_23 : decode cX0_productsBefore 23 = .ok (.laload, 1) := by decide +kernel
theorem dX0_productsBefore_24 : decode cX0_productsBefore 24 = .ok (.goto 4, 3) := by decide +kernel
theorem dX0_productsBefore_27 : decode cX0_productsBefore 27 = .ok (.lconst 0, 1) := by decide +kernel
theorem dX0_productsBefore_28 : decode cX0_productsBefore 28 = .ok (.lstore_n 3, 1) := by decide +kernel
theorem dX0_productsBefore_29 : decode cX0_productsBefore 29 = .ok (.iload_n 2, 1) := by decide +kernel
theorem dX0_productsBefore_30 : decode cX0_productsBefore 30 = .ok (.ifCond .le 16, 3) := by decide +kernel
theorem dX0_productsBefore_33 : decode cX0_productsBefore 33 = .ok (.aload_n 0, 1) := by decide +kernel
theorem dX0_productsBefore_34 : decode cX0_productsBefore 34 = .ok (.getfield 28, 3) := by decide +kernel
theorem dX0_productsBefore_37 : decode cX0_productsBefore 37 = .ok (.iload_n 1, 1) := by decide +kernel
theorem dX0_productsBefore_38 : decode cX0_productsBefore 38 = .ok (.aaload, 1) := by decide +kernel
theorem dX0_productsBefore_39 : decode cX0_productsBefore 39 = .ok (.iload_n 2, 1) := by decide +kernel
theorem dX0_productsBefore_40 : decode cX0_productsBefore 40 = .ok (.iconst 1, 1) := by decide +kernel
theorem dX0_productsBefore_41 : decode cX0_productsBefore 41 = .ok (.isub, 1) := by decide +kernel
theorem dX0_productsBefore_42 : decode cX0_productsBefore 42 = .ok (.laload, 1) := by decide +kernel
theorem dX0_productsBefore_43 : decode cX0_productsBefore 43 = .ok (.goto 4, 3) := by decide +kernel
theorem dX0_productsBefore_46 : decode cX0_productsBefore 46 = .ok (.lconst 0, 1) := by decide +kernel
theorem dX0_productsBefore_47 : decode cX0_productsBefore 47 = .ok (.lstore 5, 2) := by decide +kernel
theorem dX0_productsBefore_49 : decode cX0_productsBefore 49 = .ok (.lload_n 3, 1) := by decide +kernel
theorem dX0_productsBefore_50 : decode cX0_productsBefore 50 = .ok (.lload 5, 2) := by decide +kernel
theorem dX0_productsBefore_52 : decode cX0_productsBefore 52 = .ok (.ladd, 1) := by decide +kernel
theorem dX0_productsBefore_53 : decode cX0_productsBefore 53 = .ok (.lreturn, 1) := by decide +kernel
set_option maxRecDepth 20000 in
theorem ggX0_countServed_X0_heaviest : GoodIn wsX0_countServed wsX0_heaviest := goodIn_r _ [7, 2, 8, 9, 10, 11, 12, 13, 14, 15, 16, 17, 18] (by decide +kernel) (by decide +kernel)
set_option maxRecDepth 20000 in
theorem gX0_countServed_X0_heaviest : GoodIn wsX0_countServed (wsV RX0 74 RX0 yX0_heaviest wsX0_heaviest) := goodIn_app (goodIn_of _ (by decide +kernel)) ggX0_countServed_X0_heaviest
theorem dX0_countServed_0 : decode cX0_countServed 0 = .ok (.aload_n 0, 1) := by decide +kernel
theorem dX0_countServed_1 : decode cX0_countServed 1 = .ok (.iconst 0, 1) := by decide +kernel
theorem dX0_countServed_2 : decode cX0_countServed 2 = .ok (.iconst 0, 1) := by decide +kernel
theorem dX0_countServed_3 : decode cX0_countServed 3 = .ok (.iload_n 1, 1) := by decide +kernel
theorem dX0_countServed_4 : decode cX0_countServed 4 = .ok (.aload_n 0, 1) := by decide +kernel
theorem dX0_countServed_5 : decode cX0_countServed 5 = .ok (.getfield 15, 3) := by decide +kernel
theorem dX0_countServed_8 : decode cX0_countServed 8 = .ok (.iconst 1, 1) := by decide +kernel
theorem dX0_countServed_9 : decode cX0_countServed 9 = .ok (.isub, 1) := by decide +kernel
theorem dX0_countServed_10 : decode cX0_countServed 10 = .ok (.invokevirtual 74, 3) := by decide +kernel
theorem dX0_countServed_13 : decode cX0_countServed 13 = .ok (.pop, 1) := by decide +kernel
theorem dX0_countServed_14 : decode cX0_countServed 14 = .ok (.iconst 0, 1) := by decide +kernel
theorem dX0_countServed_15 : decode cX0_countServed 15 = .ok (.istore_n 3, 1) := by decide +kernel
theorem dX0_countServed_16 : decode cX0_countServed 16 = .ok (.iconst 0, 1) := by decide +kernel
theorem dX0_countServed_17 : decode cX0_countServed 17 = .ok (.istore 4, 2) := by decide +kernel
theorem dX0_countServed_19 : decode cX0_countServed 19 = .ok (.iload 4, 2) := by decide +kernel
theorem dX0_countServed_21 : decode cX0_countServed 21 = .ok (.aload_n 0, 1) := by decide +kernel
theorem dX0_countServed_22 : decode cX0_countServed 22 = .ok (.getfield 15, 3) := by decide +kernel
theorem dX0_countServed_25 : decode cX0_countServed 25 = .ok (.if_icmp .ge 25, 3) := by decide +kernel
theorem dX0_countServed_28 : decode cX0_countServed 28 = .ok (.aload_n 0, 1) := by decide +kernel
theorem dX0_countServed_29 : decode cX0_countServed 29 = .ok (.getfield 23, 3) := by decide +kernel
theorem dX0_countServed_32 : decode cX0_countServed 32 = .ok (.iload_n 1, 1) := by decide +kernel
theorem dX0_countServed_33 : decode cX0_countServed 33 = .ok (.aaload, 1) := by decide +kernel
theorem dX0_countServed_34 : decode cX0_countServed 34 = .ok (.iload 4, 2) := by decide +kernel
theorem dX0_countServed_36 : decode cX0_countServed 36 = .ok (.iaload, 1) := by decide +kernel
theorem dX0_countServed_37 : decode cX0_countServed 37 = .ok (.iload_n 2, 1) := by decide +kernel
theorem dX0_countServed_38 : decode cX0_countServed 38 = .ok (.if_icmp .gt 6, 3) := by decide +kernel
theorem dX0_countServed_41 : decode cX0_countServed 41 = .ok (.iinc 3 1, 3) := by decide +kernel
theorem dX0_countServed_44 : decode cX0_countServed 44 = .ok (.iinc 4 1, 3) := by decide +kernel
theorem dX0_countServed_47 : decode cX0_countServed 47 = .ok (.goto (-28), 3) := by decide +kernel
theorem dX0_countServed_50 : decode cX0_countServed 50 = .ok (.iload_n 3, 1) := by decide +kernel
theorem dX0_countServed_51 : decode cX0_countServed 51 = .ok (.ireturn, 1) := by decide +kernel
set_option maxRecDepth 20000 in
theorem ggX0_placeOnLine_X0_heaviest : GoodIn wsX0_placeOnLine wsX0_heaviest := goodIn_r _ [7, 8, 9, 10, 11, 12, 13, 25, 26, 27, 28, 29, 30] (by decide +kernel) (by decide +kernel)
set_option maxRecDepth 20000 in
theorem gX0_placeOnLine_X0_heaviest : GoodIn wsX0_placeOnLine (wsV RX0 74 RX0 yX0_heaviest wsX0_heaviest) := goodIn_app (goodIn_of _ (by decide +kernel)) ggX0_placeOnLine_X0_heaviest
set_option maxRecDepth 20000 in
theorem ggX0_placeOnLine_X0_lineGoesDown : GoodIn wsX0_placeOnLine wsX0_lineGoesDown := goodIn_r _ [17, 8, 18, 19, 20, 6, 21, 1, 2, 22, 23, 24, 25, 26, 27, 28, 29, 30] (by decide +kernel) (by decide +kernel)
set_option maxRecDepth 20000 in
theorem gX0_placeOnLine_X0_lineGoesDown : GoodIn wsX0_placeOnLine (wsV RX0 78 RX0 yX0_lineGoesDown wsX0_lineGoesDown) := goodIn_app (goodIn_of _ (by decide +kernel)) ggX0_placeOnLine_X0_lineGoesDown
theorem dX0_placeOnLine_0 : decode cX0_placeOnLine 0 = .ok (.aload_n 0, 1) := by decide +kernel
theorem dX0_placeOnLine_1 : decode cX0_placeOnLine 1 = .ok (.iconst 0, 1) := by decide +kernel
theorem dX0_placeOnLine_2 : decode cX0_placeOnLine 2 = .ok (.iconst 0, 1) := by decide +kernel
theorem dX0_placeOnLine_3 : decode cX0_placeOnLine 3 = .ok (.aload_n 0, 1) := by decide +kernel
theorem dX0_placeOnLine_4 : decode cX0_placeOnLine 4 = .ok (.getfield 11, 3) := by decide +kernel
theorem dX0_placeOnLine_7 : decode cX0_placeOnLine 7 = .ok (.iconst 1, 1) := by decide +kernel
theorem dX0_placeOnLine_8 : decode cX0_placeOnLine 8 = .ok (.isub, 1) := by decide +kernel
theorem dX0_placeOnLine_9 : decode cX0_placeOnLine 9 = .ok (.aload_n 0, 1) := by decide +kernel
theorem dX0_placeOnLine_10 : decode cX0_placeOnLine 10 = .ok (.getfield 15, 3) := by decide +kernel
theorem dX0_placeOnLine_13 : decode cX0_placeOnLine 13 = .ok (.iconst 1, 1) := by decide +kernel
theorem dX0_placeOnLine_14 : decode cX0_placeOnLine 14 = .ok (.isub, 1) := by decide +kernel
theorem dX0_placeOnLine_15 : decode cX0_placeOnLine 15 = .ok (.invokevirtual 74, 3) := by decide +kernel
theorem dX0_placeOnLine_18 : decode cX0_placeOnLine 18 = .ok (.pop, 1) := by decide +kernel
theorem dX0_placeOnLine_19 : decode cX0_placeOnLine 19 = .ok (.iconst 0, 1) := by decide +kernel
theorem dX0_placeOnLine_20 : decode cX0_placeOnLine 20 = .ok (.istore_n 2, 1) := by decide +kernel
theorem dX0_placeOnLine_21 : decode cX0_placeOnLine 21 = .ok (.iconst 0, 1) := by decide +kernel
theorem dX0_placeOnLine_22 : decode cX0_placeOnLine 22 = .ok (.istore_n 3, 1) := by decide +kernel
theorem dX0_placeOnLine_23 : decode cX0_placeOnLine 23 = .ok (.iconst 0, 1) := by decide +kernel
theorem dX0_placeOnLine_24 : decode cX0_placeOnLine 24 = .ok (.istore 4, 2) := by decide +kernel
theorem dX0_placeOnLine_26 : decode cX0_placeOnLine 26 = .ok (.iload 4, 2) := by decide +kernel
theorem dX0_placeOnLine_28 : decode cX0_placeOnLine 28 = .ok (.iload_n 1, 1) := by decide +kernel
theorem dX0_placeOnLine_29 : decode cX0_placeOnLine 29 = .ok (.if_icmp .ge 27, 3) := by decide +kernel
theorem dX0_placeOnLine_32 : decode cX0_placeOnLine 32 = .ok (.aload_n 0, 1) := by decide +kernel
theorem dX0_placeOnLine_33 : decode cX0_placeOnLine 33 = .ok (.iload_n 2, 1) := by decide +kernel
theorem dX0_placeOnLine_34 : decode cX0_placeOnLine 34 = .ok (.iload_n 3, 1) := by decide +kernel
theorem dX0_placeOnLine_35 : decode cX0_placeOnLine 35 = .ok (.invokevirtual 78, 3) := by decide +kernel
theorem dX0_placeOnLine_38 : decode cX0_placeOnLine 38 = .ok (.ifCond .eq 9, 3) := by decide +kernel
theorem dX0_placeOnLine_41 : decode cX0_placeOnLine 41 = .ok (.iinc 2 1, 3) := by decide +kernel
theorem dX0_placeOnLine_44 : decode cX0_placeOnLine 44 = .ok (.goto 6, 3) := by decide +kernel
theorem dX0_placeOnLine_47 : decode cX0_placeOnLine 47 = .ok (.iinc 3 1, 3) := by decide +kernel
theorem dX0_placeOnLine_50 : decode cX0_placeOnLine 50 = .ok (.iinc 4 1, 3) := by decide +kernel
theorem dX0_placeOnLine_53 : decode cX0_placeOnLine 53 = .ok (.goto (-27), 3) := by decide +kernel
theorem dX0_placeOnLine_56 : decode cX0_placeOnLine 56 = .ok (.bipush 10, 2) := by decide +kernel
theorem dX0_placeOnLine_58 : decode cX0_placeOnLine 58 = .ok (.iload_n 2, 1) := by decide +kernel
theorem dX0_placeOnLine_59 : decode cX0_placeOnLine 59 = .ok (.imul, 1) := by decide +kernel
theorem dX0_placeOnLine_60 : decode cX0_placeOnLine 60 = .ok (.iload_n 3, 1) := by decide +kernel
theorem dX0_placeOnLine_61 : decode cX0_placeOnLine 61 = .ok (.iadd, 1) := by decide +kernel
theorem dX0_placeOnLine_62 : decode cX0_placeOnLine 62 = .ok (.ireturn, 1) := by decide +kernel
set_option maxRecDepth 20000 in
theorem ggX0_lineGoesDown_X0_hasPlace : GoodIn wsX0_lineGoesDown wsX0_hasPlace := goodIn_r _ [6, 7, 8, 9, 10, 11, 12, 13, 14, 15, 16, 17] (by decide +kernel) (by decide +kernel)
set_option maxRecDepth 20000 in
theorem gX0_lineGoesDown_X0_hasPlace : GoodIn wsX0_lineGoesDown (wsV RX0 82 RX0 yX0_hasPlace wsX0_hasPlace) := goodIn_app (goodIn_of _ (by decide +kernel)) ggX0_lineGoesDown_X0_hasPlace
theorem dX0_lineGoesDown_0 : decode cX0_lineGoesDown 0 = .ok (.aload_n 0, 1) := by decide +kernel
theorem dX0_lineGoesDown_1 : decode cX0_lineGoesDown 1 = .ok (.iload_n 1, 1) := by decide +kernel
theorem dX0_lineGoesDown_2 : decode cX0_lineGoesDown 2 = .ok (.iconst 1, 1) := by decide +kernel
theorem dX0_lineGoesDown_3 : decode cX0_lineGoesDown 3 = .ok (.iadd, 1) := by decide +kernel
theorem dX0_lineGoesDown_4 : decode cX0_lineGoesDown 4 = .ok (.iload_n 2, 1) := by decide +kernel
theorem dX0_lineGoesDown_5 : decode cX0_lineGoesDown 5 = .ok (.invokevirtual 82, 3) := by decide +kernel
theorem dX0_lineGoesDown_8 : decode cX0_lineGoesDown 8 = .ok (.ifCond .ne 5, 3) := by decide +kernel
theorem dX0_lineGoesDown_11 : decode cX0_lineGoesDown 11 = .ok (.iconst 0, 1) := by decide +kernel
theorem dX0_lineGoesDown_12 : decode cX0_lineGoesDown 12 = .ok (.ireturn, 1) := by decide +kernel
theorem dX0_lineGoesDown_13 : decode cX0_lineGoesDown 13 = .ok (.aload_n 0, 1) := by decide +kernel
theorem dX0_lineGoesDown_14 : decode cX0_lineGoesDown 14 = .ok (.iload_n 1, 1) := by decide +kernel
theorem dX0_lineGoesDown_15 : decode cX0_lineGoesDown 15 = .ok (.iload_n 2, 1) := by decide +kernel
theorem dX0_lineGoesDown_16 : decode cX0_lineGoesDown 16 = .ok (.iconst 1, 1) := by decide +kernel
theorem dX0_lineGoesDown_17 : decode cX0_lineGoesDown 17 = .ok (.iadd, 1) := by decide +kernel
theorem dX0_lineGoesDown_18 : decode cX0_lineGoesDown 18 = .ok (.invokevirtual 82, 3) := by decide +kernel
theorem dX0_lineGoesDown_21 : decode cX0_lineGoesDown 21 = .ok (.ifCond .ne 5, 3) := by decide +kernel
theorem dX0_lineGoesDown_24 : decode cX0_lineGoesDown 24 = .ok (.iconst 1, 1) := by decide +kernel
theorem dX0_lineGoesDown_25 : decode cX0_lineGoesDown 25 = .ok (.ireturn, 1) := by decide +kernel
theorem dX0_lineGoesDown_26 : decode cX0_lineGoesDown 26 = .ok (.aload_n 0, 1) := by decide +kernel
theorem dX0_lineGoesDown_27 : decode cX0_lineGoesDown 27 = .ok (.getfield 23, 3) := by decide +kernel
theorem dX0_lineGoesDown_30 : decode cX0_lineGoesDown 30 = .ok (.iload_n 1, 1) := by decide +kernel
theorem dX0_lineGoesDown_31 : decode cX0_lineGoesDown 31 = .ok (.iconst 1, 1) := by decide +kernel
theorem dX0_lineGoesDown_32 : decode cX0_lineGoesDown 32 = .ok (.iadd, 1) := by decide +kernel
theorem dX0_lineGoesDown_33 : decode cX0_lineGoesDown 33 = .ok (.aaload, 1) := by decide +kernel
theorem dX0_lineGoesDown_34 : decode cX0_lineGoesDown 34 = .ok (.iload_n 2, 1) := by decide +kernel
theorem dX0_lineGoesDown_35 : decode cX0_lineGoesDown 35 = .ok (.iaload, 1) := by decide +kernel
theorem dX0_lineGoesDown_36 : decode cX0_lineGoesDown 36 = .ok (.aload_n 0, 1) := by decide +kernel
theorem dX0_lineGoesDown_37 : decode cX0_lineGoesDown 37 = .ok (.getfield 23, 3) := by decide +kernel
theorem dX0_lineGoesDown_40 : decode cX0_lineGoesDown 40 = .ok (.iload_n 1, 1) := by decide +kernel
theorem dX0_lineGoesDown_41 : decode cX0_lineGoesDown 41 = .ok (.aaload, 1) := by decide +kernel
theorem dX0_lineGoesDown_42 : decode cX0_lineGoesDown 42 = .ok (.iload_n 2, 1) := by decide +kernel
theorem dX0_lineGoesDown_43 : decode cX0_lineGoesDown 43 = .ok (.iconst 1, 1) := by decide +kernel
theorem dX0_lineGoesDown_44 : decode cX0_lineGoesDown 44 = .ok (.iadd, 1) := by decide +kernel
theorem dX0_lineGoesDown_45 : decode cX0_lineGoesDown 45 = .ok (.iaload, 1) := by decide +kernel
theorem dX0_lineGoesDown_46 : decode cX0_lineGoesDown 46 = .ok (.if_icmp .ge 7, 3) := by decide +kernel
theorem dX0_lineGoesDown_49 : decode cX0_lineGoesDown 49 = .ok (.iconst 1, 1) := by decide +kernel
theorem dX0_lineGoesDown_50 : decode cX0_lineGoesDown 50 = .ok (.goto 4, 3) := by decide +kernel
theorem dX0_lineGoesDown_53 : decode cX0_lineGoesDown 53 = .ok (.iconst 0, 1) := by decide +kernel
theorem dX0_lineGoesDown_54 : decode cX0_lineGoesDown 54 = .ok (.ireturn, 1) := by decide +kernel
theorem dX0_spell_0 : decode cX0_spell 0 = .ok (.iconst 0, 1) := by decide +kernel
theorem dX0_spell_1 : decode cX0_spell 1 = .ok (.istore_n 2, 1) := by decide +kernel
theorem dX0_spell_2 : decode cX0_spell 2 = .ok (.iconst 0, 1) := by decide +kernel
theorem dX0_spell_3 : decode cX0_spell 3 = .ok (.istore_n 3, 1) := by decide +kernel
theorem dX0_spell_4 : decode cX0_spell 4 = .ok (.iload_n 3, 1) := by decide +kernel
theorem dX0_spell_5 : decode cX0_spell 5 = .ok (.aload_n 0, 1) := by decide +kernel
theorem dX0_spell_6 : decode cX0_spell 6 = .ok (.getfield 11, 3) := by decide +kernel
theorem dX0_spell_9 : decode cX0_spell 9 = .ok (.if_icmp .ge 66, 3) := by decide +kernel
theorem dX0_spell_12 : decode cX0_spell 12 = .ok (.iconst 0, 1) := by decide +kernel
theorem dX0_spell_13 : decode cX0_spell 13 = .ok (.istore 4, 2) := by decide +kernel
theorem dX0_spell_15 : decode cX0_spell 15 = .ok (.iload 4, 2) := by decide +kernel
theorem dX0_spell_17 : decode cX0_spell 17 = .ok (.aload_n 0, 1) := by decide +kernel
theorem dX0_spell_18 : decode cX0_spell 18 = .ok (.getfield 15, 3) := by decide +kernel
theorem dX0_spell_21 : decode cX0_spell 21 = .ok (.if_icmp .ge 48, 3) := by decide +kernel
theorem dX0_spell_24 : decode cX0_spell 24 = .ok (.iconst 0, 1) := by decide +kernel
theorem dX0_spell_25 : decode cX0_spell 25 = .ok (.istore 5, 2) := by decide +kernel
theorem dX0_spell_27 : decode cX0_spell 27 = .ok (.iload 5, 2) := by decide +kernel
theorem dX0_spell_29 : decode cX0_spell 29 = .ok (.aload_n 0, 1) := by decide +kernel
theorem dX0_spell_30 : decode cX0_spell 30 = .ok (.getfield 20, 3) := by decide +kernel
theorem dX0_spell_33 : decode cX0_spell 33 = .ok (.iload_n 3, 1) := by decide +kernel
theorem dX0_spell_34 : decode cX0_spell 34 = .ok (.aaload, 1) := by decide +kernel
theorem dX0_spell_35 : decode cX0_spell 35 = .ok (.iload 4, 2) := by decide +kernel
theorem dX0_spell_37 : decode cX0_spell 37 = .ok (.iaload, 1) := by decide +kernel
theorem dX0_spell_38 : decode cX0_spell 38 = .ok (.if_icmp .ge 25, 3) := by decide +kernel
theorem dX0_spell_41 : decode cX0_spell 41 = .ok (.iload_n 2, 1) := by decide +kernel
theorem dX0_spell_42 : decode cX0_spell 42 = .ok (.aload_n 1, 1) := by decide +kernel
theorem dX0_spell_43 : decode cX0_spell 43 = .ok (.arraylength, 1) := by decide +kernel
theorem dX0_spell_44 : decode cX0_spell 44 = .ok (.if_icmp .ge 19, 3) := by decide +kernel
theorem dX0_spell_47 : decode cX0_spell 47 = .ok (.aload_n 1, 1) := by decide +kernel
theorem dX0_spell_48 : decode cX0_spell 48 = .ok (.iload_n 2, 1) := by decide +kernel
theorem dX0_spell_49 : decode cX0_spell 49 = .ok (.iload 4, 2) := by decide +kernel
theorem dX0_spell_51 : decode cX0_spell 51 = .ok (.iconst 1, 1) := by decide +kernel
theorem dX0_spell_52 : decode cX0_spell 52 = .ok (.iadd, 1) := by decide +kernel
theorem dX0_spell_53 : decode cX0_spell 53 = .ok (.iastore, 1) := by decide +kernel
theorem dX0_spell_54 : decode cX0_spell 54 = .ok (.iinc 2 1, 3) := by decide +kernel
theorem dX0_spell_57 : decode cX0_spell 57 = .ok (.iinc 5 1, 3) := by decide +kernel
theorem dX0_spell_60 : decode cX0_spell 60 = .ok (.goto (-33), 3) := by decide +kernel
theorem dX0_spell_63 : decode cX0_spell 63 = .ok (.iinc 4 1, 3) := by decide +kernel
theorem dX0_spell_66 : decode cX0_spell 66 = .ok (.goto (-51), 3) := by decide +kernel
theorem dX0_spell_69 : decode cX0_spell 69 = .ok (.iinc 3 1, 3) := by decide +kernel
theorem dX0_spell_72 : decode cX0_spell 72 = .ok (.goto (-68), 3) := by decide +kernel
theorem dX0_spell_75 : decode cX0_spell 75 = .ok (.return_, 1) := by decide +kernel
theorem dX1_init_0 : decode cX1_init 0 = .ok (.aload_n 0, 1) := by decide +kernel
theorem dX1_init_1 : decode cX1_init 1 = .ok (.invokespecial 3, 3) := by decide +kernel
theorem dX1_init_4 : decode cX1_init 4 = .ok (.aload_n 0, 1) := by decide +kernel
theorem dX1_init_5 : decode cX1_init 5 = .ok (.bipush 36, 2) := by decide +kernel
theorem dX1_init_7 : decode cX1_init 7 = .ok (.newarray .long, 2) := by decide +kernel
theorem dX1_init_9 : decode cX1_init 9 = .ok (.putfield 9, 3) := by decide +kernel
theorem dX1_init_12 : decode cX1_init 12 = .ok (.aload_n 0, 1) := by decide +kernel
theorem dX1_init_13 : decode cX1_init 13 = .ok (.iconst (-1), 1) := by decide +kernel
theorem dX1_init_14 : decode cX1_init 14 = .ok (.putfield 15, 3) := by decide +kernel
theorem dX1_init_17 : decode cX1_init 17 = .ok (.aload_n 0, 1) := by decide +kernel
theorem dX1_init_18 : decode cX1_init 18 = .ok (.iconst 0, 1) := by decide +kernel
theorem dX1_init_19 : decode cX1_init 19 = .ok (.putfield 19, 3) := by decide +kernel
theorem dX1_init_22 : decode cX1_init 22 = .ok (.return_, 1) := by decide +kernel
theorem dX1_isMissing_0 : decode cX1_isMissing 0 = .ok (.aload_n 0, 1) := by decide +kernel
theorem dX1_isMissing_1 : decode cX1_isMissing 1 = .ok (.getfield 15, 3) := by decide +kernel
theorem dX1_isMissing_4 : decode cX1_isMissing 4 = .ok (.iconst (-1), 1) := by decide +kernel
theorem dX1_isMissing_5 : decode cX1_isMissing 5 = .ok (.if_icmp .ne 7, 3) := by decide +kernel
theorem dX1_isMissing_8 : decode cX1_isMissing 8 = .ok (.iconst 1, 1) := by decide +kernel
theorem dX1_isMissing_9 : decode cX1_isMissing 9 = .ok (.goto 4, 3) := by decide +kernel
theorem dX1_isMissing_12 : decode cX1_isMissing 12 = .ok (.iconst 0, 1) := by decide +kernel
theorem dX1_isMissing_13 : decode cX1_isMissing 13 = .ok (.ireturn, 1) := by decide +kernel
theorem dX1_isOf_0 : decode cX1_isOf 0 = .ok (.aload_n 0, 1) := by decide +kernel
theorem dX1_isOf_1 : decode cX1_isOf 1 = .ok (.getfield 15, 3) := by decide +kernel
theorem dX1_isOf_4 : decode cX1_isOf 4 = .ok (.iload_n 1, 1) := by decide +kernel
theorem dX1_isOf_5 : decode cX1_isOf 5 = .ok (.if_icmp .ne 7, 3) := by decide +kernel
theorem dX1_isOf_8 : decode cX1_isOf 8 = .ok (.iconst 1, 1) := by decide +kernel
theorem dX1_isOf_9 : decode cX1_isOf 9 = .ok (.goto 4, 3) := by decide +kernel
theorem dX1_isOf_12 : decode cX1_isOf 12 = .ok (.iconst 0, 1) := by decide +kernel
theorem dX1_isOf_13 : decode cX1_isOf 13 = .ok (.ireturn, 1) := by decide +kernel
theorem dX1_reaches_0 : decode cX1_reaches 0 = .ok (.iload_n 1, 1) := by decide +kernel
theorem dX1_reaches_1 : decode cX1_reaches 1 = .ok (.ifCond .lt 17, 3) := by decide +kernel
theorem dX1_reaches_4 : decode cX1_reaches 4 = .ok (.iload_n 1, 1) := by decide +kernel
theorem dX1_reaches_5 : decode cX1_reaches 5 = .ok (.aload_n 0, 1) := by decide +kernel
theorem dX1_reaches_6 : decode cX1_reaches 6 = .ok (.getfield 19, 3) := by decide +kernel
theorem dX1_reaches_9 : decode cX1_reaches 9 = .ok (.iload_n 2, 1) := by decide +kernel
theorem dX1_reaches_10 : decode cX1_reaches 10 = .ok (.isub, 1) := by decide +kernel
theorem dX1_reaches_11 : decode cX1_reaches 11 = .ok (.if_icmp .gt 7, 3) := by decide +kernel
theorem dX1_reaches_14 : decode cX1_reaches 14 = .ok (.iconst 1, 1) := by decide +kernel
theorem dX1_reaches_15 : decode cX1_reaches 15 = .ok (.goto 4, 3) := by decide +kernel
theorem dX1_reaches_18 : decode cX1_reaches 18 = .ok (.iconst 0, 1) := by decide +kernel
theorem dX1_reaches_19 : decode cX1_reaches 19 = .ok (.ireturn, 1) := by decide +kernel
set_option maxRecDepth 20000 in
theorem ggX1_renew_J7_fill_d0a16 : GoodIn wsX1_renew wsJ7_fill_d0a16 := goodIn_r _ [7] (by decide +kernel) (by decide +kernel)
set_option maxRecDepth 20000 in
theorem gX1_renew_J7_fill_d0a16 : GoodIn wsX1_renew (va_wsS RX1 22 yJ7_fill_d0a16 wsJ7_fill_d0a16) := goodIn_app (goodIn_of _ (by decide +kernel)) ggX1_renew_J7_fill_d0a16
theorem dX1_renew_0 : decode cX1_renew 0 = .ok (.aload_n 0, 1) := by decide +kernel
theorem dX1_renew_1 : decode cX1_renew 1 = .ok (.getfield 9, 3) := by decide +kernel
theorem dX1_renew_4 : decode cX1_renew 4 = .ok (.lconst 0, 1) := by decide +kernel
theorem dX1_renew_5 : decode cX1_renew 5 = .ok (.invokestatic 22, 3) := by decide +kernel
theorem dX1_renew_8 : decode cX1_renew 8 = .ok (.aload_n 0, 1) := by decide +kernel
theorem dX1_renew_9 : decode cX1_renew 9 = .ok (.iload_n 1, 1) := by decide +kernel
theorem dX1_renew_10 : decode cX1_renew 10 = .ok (.putfield 15, 3) := by decide +kernel
theorem dX1_renew_13 : decode cX1_renew 13 = .ok (.aload_n 0, 1) := by decide +kernel
theorem dX1_renew_14 : decode cX1_renew 14 = .ok (.iload_n 2, 1) := by decide +kernel
theorem dX1_renew_15 : decode cX1_renew 15 = .ok (.putfield 19, 3) := by decide +kernel
theorem dX1_renew_18 : decode cX1_renew 18 = .ok (.return_, 1) := by decide +kernel
theorem dX1_vanish_0 : decode cX1_vanish 0 = .ok (.aload_n 0, 1) := by decide +kernel
theorem dX1_vanish_1 : decode cX1_vanish 1 = .ok (.getfield 19, 3) := by decide +kernel
theorem dX1_vanish_4 : decode cX1_vanish 4 = .ok (.istore_n 1, 1) := by decide +kernel
theorem dX1_vanish_5 : decode cX1_vanish 5 = .ok (.aload_n 0, 1) := by decide +kernel
theorem dX1_vanish_6 : decode cX1_vanish 6 = .ok (.iconst (-1), 1) := by decide +kernel
theorem dX1_vanish_7 : decode cX1_vanish 7 = .ok (.putfield 15, 3) := by decide +kernel
theorem dX1_vanish_10 : decode cX1_vanish 10 = .ok (.aload_n 0, 1) := by decide +kernel
theorem dX1_vanish_11 : decode cX1_vanish 11 = .ok (.iconst 0, 1) := by decide +kernel
theorem dX1_vanish_12 : decode cX1_vanish 12 = .ok (.putfield 19, 3) := by decide +kernel
theorem dX1_vanish_15 : decode cX1_vanish 15 = .ok (.iload_n 1, 1) := by decide +kernel
theorem dX1_vanish_16 : decode cX1_vanish 16 = .ok (.ireturn, 1) := by decide +kernel
theorem dX1_setItem_0 : decode cX1_setItem 0 = .ok (.aload_n 0, 1) := by decide +kernel
theorem dX1_setItem_1 : decode cX1_setItem 1 = .ok (.getfield 9, 3) := by decide +kernel
theorem dX1_setItem_4 : decode cX1_setItem 4 = .ok (.iload_n 1, 1) := by decide +kernel
theorem dX1_setItem_5 : decode cX1_setItem 5 = .ok (.iload_n 2, 1) := by decide +kernel
theorem dX1_setItem_6 : decode cX1_setItem 6 = .ok (.i2l, 1) := by decide +kernel
theorem dX1_setItem_7 : decode cX1_setItem 7 = .ok (.lastore, 1) := by decide +kernel
theorem dX1_setItem_8 : decode cX1_setItem 8 = .ok (.return_, 1) := by decide +kernel
theorem dX1_itemAt_0 : decode cX1_itemAt 0 = .ok (.aload_n 0, 1) := by decide +kernel
theorem dX1_itemAt_1 : decode cX1_itemAt 1 = .ok (.getfield 9, 3) := by decide +kernel
theorem dX1_itemAt_4 : decode cX1_itemAt 4 = .ok (.iload_n 1, 1) := by decide +kernel
theorem dX1_itemAt_5 : decode cX1_itemAt 5 = .ok (.laload, 1) := by decide +kernel
theorem dX1_itemAt_6 : decode cX1_itemAt 6 = .ok (.lreturn, 1) := by decide +kernel
set_option maxRecDepth 20000 in
theorem ggX1_areWeights_X4_isWeight : GoodIn wsX1_areWeights wsX4_isWeight := goodIn_r _ [4, 5] (by decide +kernel) (by decide +kernel)
set_option maxRecDepth 20000 in
theorem gX1_areWeights_X4_isWeight_n28 : GoodIn wsX1_areWeights (wsX4_isWeight) := ggX1_areWeights_X4_isWeight
theorem dX1_areWeights_0 : decode cX1_areWeights 0 = .ok (.iload_n 1, 1) := by decide +kernel
theorem dX1_areWeights_1 : decode cX1_areWeights 1 = .ok (.istore_n 3, 1) := by decide +kernel
theorem dX1_areWeights_2 : decode cX1_areWeights 2 = .ok (.iload_n 3, 1) := by decide +kernel
theorem dX1_areWeights_3 : decode cX1_areWeights 3 = .ok (.iload_n 1, 1) := by decide +kernel
theorem dX1_areWeights_4 : decode cX1_areWeights 4 = .ok (.iload_n 2, 1) := by decide +kernel
theorem dX1_areWeights_5 : decode cX1_areWeights 5 = .ok (.iadd, 1) := by decide +kernel
theorem dX1_areWeights_6 : decode cX1_areWeights 6 = .ok (.if_icmp .ge 23, 3) := by decide +kernel
theorem dX1_areWeights_9 : decode cX1_areWeights 9 = .ok (.aload_n 0, 1) := by decide +kernel
theorem dX1_areWeights_10 : decode cX1_areWeights 10 = .ok (.getfield 9, 3) := by decide +kernel
theorem dX1_areWeights_13 : decode cX1_areWeights 13 = .ok (.iload_n 3, 1) := by decide +kernel
theorem dX1_areWeights_14 : decode cX1_areWeights 14 = .ok (.laload, 1) := by decide +kernel
theorem dX1_areWeights_15 : decode cX1_areWeights 15 = .ok (.invokestatic 28, 3) := by decide +kernel
theorem dX1_areWeights_18 : decode cX1_areWeights 18 = .ok (.ifCond .ne 5, 3) := by decide +kernel
theorem dX1_areWeights_21 : decode cX1_areWeights 21 = .ok (.iconst 0, 1) := by decide +kernel
theorem dX1_areWeights_22 : decode cX1_areWeights 22 = .ok (.ireturn, 1) := by decide +kernel
theorem dX1_areWeights_23 : decode cX1_areWeights 23 = .ok (.iinc 3 1, 3) := by decide +kernel
theorem dX1_areWeights_26 : decode cX1_areWeights 26 = .ok (.goto (-24), 3) := by decide +kernel
theorem dX1_areWeights_29 : decode cX1_areWeights 29 = .ok (.iconst 1, 1) := by decide +kernel
theorem dX1_areWeights_30 : decode cX1_areWeights 30 = .ok (.ireturn, 1) := by decide +kernel
