theorem dX2_init_0 : decode cX2_init 0 = .ok (.aload_n 0, 1) := by decide +kernel
theorem dX2_init_1 : decode cX2_init 1 = .ok (.invokespecial 3, 3) := by decide +kernel
theorem dX2_init_4 : decode cX2_init 4 = .ok (.aload_n 0, 1) := by decide +kernel
theorem dX2_init_5 : decode cX2_init 5 = .ok (.bipush 9, 2) := by decide +kernel
theorem dX2_init_7 : decode cX2_init 7 = .ok (.bipush 40, 2) := by decide +kernel
theorem dX2_init_9 : decode cX2_init 9 = .ok (.multianewarray 9 2, 4) := by decide +kernel
theorem dX2_init_13 : decode cX2_init 13 = .ok (.putfield 11, 3) := by decide +kernel
theorem dX2_init_16 : decode cX2_init 16 = .ok (.aload_n 0, 1) := by decide +kernel
theorem dX2_init_17 : decode cX2_init 17 = .ok (.bipush 9, 2) := by decide +kernel
theorem dX2_init_19 : decode cX2_init 19 = .ok (.newarray .int, 2) := by decide +kernel
theorem dX2_init_21 : decode cX2_init 21 = .ok (.putfield 16, 3) := by decide +kernel
theorem dX2_init_24 : decode cX2_init 24 = .ok (.aload_n 0, 1) := by decide +kernel
theorem dX2_init_25 : decode cX2_init 25 = .ok (.iconst 0, 1) := by decide +kernel
theorem dX2_init_26 : decode cX2_init 26 = .ok (.putfield 20, 3) := by decide +kernel
theorem dX2_init_29 : decode cX2_init 29 = .ok (.aload_n 0, 1) := by decide +kernel
theorem dX2_init_30 : decode cX2_init 30 = .ok (.iconst 0, 1) := by decide +kernel
theorem dX2_init_31 : decode cX2_init 31 = .ok (.putfield 24, 3) := by decide +kernel
theorem dX2_init_34 : decode cX2_init 34 = .ok (.return_, 1) := by decide +kernel
theorem dX2_rowCount_0 : decode cX2_rowCount 0 = .ok (.aload_n 0, 1) := by decide +kernel
theorem dX2_rowCount_1 : decode cX2_rowCount 1 = .ok (.getfield 20, 3) := by decide +kernel
theorem dX2_rowCount_4 : decode cX2_rowCount 4 = .ok (.ireturn, 1) := by decide +kernel
theorem dX2_placeCount_0 : decode cX2_placeCount 0 = .ok (.aload_n 0, 1) := by decide +kernel
theorem dX2_placeCount_1 : decode cX2_placeCount 1 = .ok (.getfield 24, 3) := by decide +kernel
theorem dX2_placeCount_4 : decode cX2_placeCount 4 = .ok (.ireturn, 1) := by decide +kernel
theorem dX2_lengthOf_0 : decode cX2_lengthOf 0 = .ok (.iload_n 1, 1) := by decide +kernel
theorem dX2_lengthOf_1 : decode cX2_lengthOf 1 = .ok (.ifCond .lt 18, 3) := by decide +kernel
theorem dX2_lengthOf_4 : decode cX2_lengthOf 4 = .ok (.iload_n 1, 1) := by decide +kernel
theorem dX2_lengthOf_5 : decode cX2_lengthOf 5 = .ok (.bipush 9, 2) := by decide +kernel
theorem dX2_lengthOf_7 : decode cX2_lengthOf 7 = .ok (.if_icmp .ge 12, 3) := by decide +kernel
theorem dX2_lengthOf_10 : decode cX2_lengthOf 10 = .ok (.aload_n 0, 1) := by decide +kernel
theorem dX2_lengthOf_11 : decode cX2_lengthOf 11 = .ok (.getfield 16, 3) := by decide +kernel
theorem dX2_lengthOf_14 : decode cX2_lengthOf 14 = .ok (.iload_n 1, 1) := by decide +kernel
theorem dX2_lengthOf_15 : decode cX2_lengthOf 15 = .ok (.iaload, 1) := by decide +kernel
theorem dX2_lengthOf_16 : decode cX2_lengthOf 16 = .ok (.goto 4, 3) := by decide +kernel
theorem dX2_lengthOf_19 : decode cX2_lengthOf 19 = .ok (.iconst 0, 1) := by decide +kernel
theorem dX2_lengthOf_20 : decode cX2_lengthOf 20 = .ok (.ireturn, 1) := by decide +kernel
set_option maxRecDepth 20000 in
theorem ggX2_has_X2_lengthOf : GoodIn wsX2_has wsX2_lengthOf := goodIn_r _ [5, 6, 7, 8, 9, 10] (by decide +kernel) (by decide +kernel)
set_option maxRecDepth 20000 in
theorem gX2_has_X2_lengthOf : GoodIn wsX2_has (wsV RX2 27 RX2 yX2_lengthOf wsX2_lengthOf) := goodIn_app (goodIn_of _ (by decide +kernel)) ggX2_has_X2_lengthOf
theorem dX2_has_0 : decode cX2_has 0 = .ok (.iload_n 2, 1) := by decide +kernel
theorem dX2_has_1 : decode cX2_has 1 = .ok (.ifCond .lt 16, 3) := by decide +kernel
theorem dX2_has_4 : decode cX2_has 4 = .ok (.iload_n 2, 1) := by decide +kernel
theorem dX2_has_5 : decode cX2_has 5 = .ok (.aload_n 0, 1) := by decide +kernel
theorem dX2_has_6 : decode cX2_has 6 = .ok (.iload_n 1, 1) := by decide +kernel
theorem dX2_has_7 : decode cX2_has 7 = .ok (.invokevirtual 27, 3) := by decide +kernel
theorem dX2_has_10 : decode cX2_has 10 = .ok (.if_icmp .ge 7, 3) := by decide +kernel
theorem dX2_has_13 : decode cX2_has 13 = .ok (.iconst 1, 1) := by decide +kernel
theorem dX2_has_14 : decode cX2_has 14 = .ok (.goto 4, 3) := by decide +kernel
theorem dX2_has_17 : decode cX2_has 17 = .ok (.iconst 0, 1) := by decide +kernel
theorem dX2_has_18 : decode cX2_has 18 = .ok (.ireturn, 1) := by decide +kernel
set_option maxRecDepth 20000 in
theorem ggX2_at_X2_has : GoodIn wsX2_at wsX2_has := goodIn_r _ [6, 7, 8, 9, 5, 10, 11, 12, 13, 14, 15] (by decide +kernel) (by decide +kernel)
set_option maxRecDepth 20000 in
theorem gX2_at_X2_has : GoodIn wsX2_at (wsV RX2 31 RX2 yX2_has wsX2_has) := goodIn_app (goodIn_of _ (by decide +kernel)) ggX2_at_X2_has
theorem dX2_at_0 : decode cX2_at 0 = .ok (.aload_n 0, 1) := by decide +kernel
theorem dX2_at_1 : decode cX2_at 1 = .ok (.iload_n 1, 1) := by decide +kernel
theorem dX2_at_2 : decode cX2_at 2 = .ok (.iload_n 2, 1) := by decide +kernel
theorem dX2_at_3 : decode cX2_at 3 = .ok (.invokevirtual 31, 3) := by decide +kernel
theorem dX2_at_6 : decode cX2_at 6 = .ok (.ifCond .eq 14, 3) := by decide +kernel
theorem dX2_at_9 : decode cX2_at 9 = .ok (.aload_n 0, 1) := by decide +kernel
theorem dX2_at_10 : decode cX2_at 10 = .ok (.getfield 11, 3) := by decide +kernel
theorem dX2_at_13 : decode cX2_at 13 = .ok (.iload_n 1, 1) := by decide +kernel
theorem dX2_at_14 : decode cX2_at 14 = .ok (.aaload, 1) := by decide +kernel
theorem dX2_at_15 : decode cX2_at 15 = .ok (.iload_n 2, 1) := by decide +kernel
theorem dX2_at_16 : decode cX2_at 16 = .ok (.iaload, 1) := by decide +kernel
theorem dX2_at_17 : decode cX2_at 17 = .ok (.goto 4, 3) := by decide +kernel
theorem dX2_at_20 : decode cX2_at 20 = .ok (.iconst 0, 1) := by decide +kernel
theorem dX2_at_21 : decode cX2_at 21 = .ok (.ireturn, 1) := by decide +kernel
set_option maxRecDepth 20000 in
theorem ggX2_empty_J7_fill_53178 : GoodIn wsX2_empty wsJ7_fill_53178 := goodIn_r _ [7] (by decide +kernel) (by decide +kernel)
set_option maxRecDepth 20000 in
theorem gX2_empty_J7_fill_53178 : GoodIn wsX2_empty (va_wsS RX2 35 yJ7_fill_53178 wsJ7_fill_53178) := goodIn_app (goodIn_of _ (by decide +kernel)) ggX2_empty_J7_fill_53178
theorem dX2_empty_0 : decode cX2_empty 0 = .ok (.aload_n 0, 1) := by decide +kernel
theorem dX2_empty_1 : decode cX2_empty 1 = .ok (.getfield 16, 3) := by decide +kernel
theorem dX2_empty_4 : decode cX2_empty 4 = .ok (.iconst 0, 1) := by decide +kernel
theorem dX2_empty_5 : decode cX2_empty 5 = .ok (.invokestatic 35, 3) := by decide +kernel
theorem dX2_empty_8 : decode cX2_empty 8 = .ok (.aload_n 0, 1) := by decide +kernel
theorem dX2_empty_9 : decode cX2_empty 9 = .ok (.iconst 0, 1) := by decide +kernel
theorem dX2_empty_10 : decode cX2_empty 10 = .ok (.putfield 20, 3) := by decide +kernel
theorem dX2_empty_13 : decode cX2_empty 13 = .ok (.aload_n 0, 1) := by decide +kernel
theorem dX2_empty_14 : decode cX2_empty 14 = .ok (.iconst 0, 1) := by decide +kernel
theorem dX2_empty_15 : decode cX2_empty 15 = .ok (.putfield 24, 3) := by decide +kernel
theorem dX2_empty_18 : decode cX2_empty 18 = .ok (.return_, 1) := by decide +kernel
set_option maxRecDepth 20000 in
theorem ggX2_append_X4_isWithin : GoodIn wsX2_append wsX4_isWithin := goodIn_r _ [11] (by decide +kernel) (by decide +kernel)
set_option maxRecDepth 20000 in
theorem gX2_append_X4_isWithin_n41 : GoodIn wsX2_append (wsX4_isWithin) := ggX2_append_X4_isWithin
theorem dX2_append_0 : decode cX2_append 0 = .ok (.iload_n 1, 1) := by decide +kernel
theorem dX2_append_1 : decode cX2_append 1 = .ok (.iconst 0, 1) := by decide +kernel
theorem dX2_append_2 : decode cX2_append 2 = .ok (.bipush 8, 2) := by decide +kernel
theorem dX2_append_4 : decode cX2_append 4 = .ok (.invokestatic 41, 3) := by decide +kernel
theorem dX2_append_7 : decode cX2_append 7 = .ok (.ifCond .eq 12, 3) := by decide +kernel
theorem dX2_append_10 : decode cX2_append 10 = .ok (.aload_n 0, 1) := by decide +kernel
theorem dX2_append_11 : decode cX2_append 11 = .ok (.getfield 24, 3) := by decide +kernel
theorem dX2_append_14 : decode cX2_append 14 = .ok (.bipush 40, 2) := by decide +kernel
theorem dX2_append_16 : decode cX2_append 16 = .ok (.if_icmp .lt 4, 3) := by decide +kernel
theorem dX2_append_19 : decode cX2_append 19 = .ok (.return_, 1) := by decide +kernel
theorem dX2_append_20 : decode cX2_append 20 = .ok (.aload_n 0, 1) := by decide +kernel
theorem dX2_append_21 : decode cX2_append 21 = .ok (.getfield 11, 3) := by decide +kernel
theorem dX2_append_24 : decode cX2_append 24 = .ok (.iload_n 1, 1) := by decide +kernel
theorem dX2_append_25 : decode cX2_append 25 = .ok (.aaload, 1) := by decide +kernel
theorem dX2_append_26 : decode cX2_append 26 = .ok (.aload_n 0, 1) := by decide +kernel
theorem dX2_append_27 : decode cX2_append 27 = .ok (.getfield 16, 3) := by decide +kernel
theorem dX2_append_30 : decode cX2_append 30 = .ok (.iload_n 1, 1) := by decide +kernel
theorem dX2_append_31 : decode cX2_append 31 = .ok (.iaload, 1) := by decide +kernel
theorem dX2_append_32 : decode cX2_append 32 = .ok (.iload_n 2, 1) := by decide +kernel
theorem dX2_append_33 : decode cX2_append 33 = .ok (.iastore, 1) := by decide +kernel
theorem dX2_append_34 : decode cX2_append 34 = .ok (.aload_n 0, 1) := by decide +kernel
theorem dX2_append_35 : decode cX2_append 35 = .ok (.getfield 16, 3) := by decide +kernel
theorem dX2_append_38 : decode cX2_append 38 = .ok (.iload_n 1, 1) := by decide +kernel
theorem dX2_append_39 : decode cX2_append 39 = .ok (.dup2, 1) := by decide +kernel
theorem dX2_append_40 : decode cX2_append 40 = .ok (.iaload, 1) := by decide +kernel
theorem dX2_append_41 : decode cX2_append 41 = .ok (.iconst 1, 1) := by decide +kernel
theorem dX2_append_42 : decode cX2_append 42 = .ok (.iadd, 1) := by decide +kernel
theorem dX2_append_43 : decode cX2_append 43 = .ok (.iastore, 1) := by decide +kernel
theorem dX2_append_44 : decode cX2_append 44 = .ok (.aload_n 0, 1) := by decide +kernel
theorem dX2_append_45 : decode cX2_append 45 = .ok (.dup, 1) := by decide +kernel
theorem dX2_append_46 : decode cX2_append 46 = .ok (.getfield 24, 3) := by decide +kernel
theorem dX2_append_49 : decode cX2_append 49 = .ok (.iconst 1, 1) := by decide +kernel
theorem dX2_append_50 : decode cX2_append 50 = .ok (.iadd, 1) := by decide +kernel
theorem dX2_append_51 : decode cX2_append 51 = .ok (.putfield 24, 3) := by decide +kernel
theorem dX2_append_54 : decode cX2_append 54 = .ok (.aload_n 0, 1) := by decide +kernel
theorem dX2_append_55 : decode cX2_append 55 = .ok (.aload_n 0, 1) := by decide +kernel
theorem dX2_append_56 : decode cX2_append 56 = .ok (.getfield 20, 3) := by decide +kernel
theorem dX2_append_59 : decode cX2_append 59 = .ok (.iload_n 1, 1) := by decide +kernel
theorem dX2_append_60 : decode cX2_append 60 = .ok (.iconst 1, 1) := by decide +kernel
theorem dX2_append_61 : decode cX2_append 61 = .ok (.iadd, 1) := by decide +kernel
theorem dX2_append_62 : decode cX2_append 62 = .ok (.invokestatic 45, 3) := by decide +kernel
theorem dX2_append_65 : decode cX2_append 65 = .ok (.putfield 20, 3) := by decide +kernel
theorem dX2_append_68 : decode cX2_append 68 = .ok (.return_, 1) := by decide +kernel
set_option maxRecDepth 20000 in
theorem ggX2_takeLast_X2_lengthOf : GoodIn wsX2_takeLast wsX2_lengthOf := goodIn_r _ [9, 1, 10, 11, 12, 13] (by decide +kernel) (by decide +kernel)
set_option maxRecDepth 20000 in
theorem gX2_takeLast_X2_lengthOf : GoodIn wsX2_takeLast (wsV RX2 27 RX2 yX2_lengthOf wsX2_lengthOf) := goodIn_app (goodIn_of _ (by decide +kernel)) ggX2_takeLast_X2_lengthOf
theorem dX2_takeLast_0 : decode cX2_takeLast 0 = .ok (.aload_n 0, 1) := by decide +kernel
theorem dX2_takeLast_1 : decode cX2_takeLast 1 = .ok (.iload_n 1, 1) := by decide +kernel
theorem dX2_takeLast_2 : decode cX2_takeLast 2 = .ok (.invokevirtual 27, 3) := by decide +kernel
theorem dX2_takeLast_5 : decode cX2_takeLast 5 = .ok (.iconst 1, 1) := by decide +kernel
theorem dX2_takeLast_6 : decode cX2_takeLast 6 = .ok (.isub, 1) := by decide +kernel
theorem dX2_takeLast_7 : decode cX2_takeLast 7 = .ok (.istore_n 2, 1) := by decide +kernel
theorem dX2_takeLast_8 : decode cX2_takeLast 8 = .ok (.iload_n 2, 1) := by decide +kernel
theorem dX2_takeLast_9 : decode cX2_takeLast 9 = .ok (.ifCond .ge 5, 3) := by decide +kernel
theorem dX2_takeLast_12 : decode cX2_takeLast 12 = .ok (.iconst 0, 1) := by decide +kernel
theorem dX2_takeLast_13 : decode cX2_takeLast 13 = .ok (.ireturn, 1) := by decide +kernel
theorem dX2_takeLast_14 : decode cX2_takeLast 14 = .ok (.aload_n 0, 1) := by decide +kernel
theorem dX2_takeLast_15 : decode cX2_takeLast 15 = .ok (.getfield 16, 3) := by decide +kernel
theorem dX2_takeLast_18 : decode cX2_takeLast 18 = .ok (.iload_n 1, 1) := by decide +kernel
theorem dX2_takeLast_19 : decode cX2_takeLast 19 = .ok (.iload_n 2, 1) := by decide +kernel
theorem dX2_takeLast_20 : decode cX2_takeLast 20 = .ok (.iastore, 1) := by decide +kernel
theorem dX2_takeLast_21 : decode cX2_takeLast 21 = .ok (.aload_n 0, 1) := by decide +kernel
theorem dX2_takeLast_22 : decode cX2_takeLast 22 = .ok (.dup, 1) := by decide +kernel
theorem dX2_takeLast_23 : decode cX2_takeLast 23 = .ok (.getfield 24, 3) := by decide +kernel
theorem dX2_takeLast_26 : decode cX2_takeLast 26 = .ok (.iconst 1, 1) := by decide +kernel
theorem dX2_takeLast_27 : decode cX2_takeLast 27 = .ok (.isub, 1) := by decide +kernel
theorem dX2_takeLast_28 : decode cX2_takeLast 28 = .ok (.putfield 24, 3) := by decide +kernel
theorem dX2_takeLast_31 : decode cX2_takeLast 31 = .ok (.iload_n 2, 1) := by decide +kernel
theorem dX2_takeLast_32 : decode cX2_takeLast 32 = .ok (.ifCond .ne 23, 3) := by decide +kernel
theorem dX2_takeLast_35 : decode cX2_takeLast 35 = .ok (.iload_n 1, 1) := by decide +kernel
theorem dX2_takeLast_36 : decode cX2_takeLast 36 = .ok (.aload_n 0, 1) := by decide +kernel
theorem dX2_takeLast_37 : decode cX2_takeLast 37 = .ok (.getfield 20, 3) := by decide +kernel
theorem dX2_takeLast_40 : decode cX2_takeLast 40 = .ok (.iconst 1, 1) := by decide +kernel
theorem dX2_takeLast_41 : decode cX2_takeLast 41 = .ok (.isub, 1) := by decide +kernel
theorem dX2_takeLast_42 : decode cX2_takeLast 42 = .ok (.if_icmp .ne 13, 3) := by decide +kernel
theorem dX2_takeLast_45 : decode cX2_takeLast 45 = .ok (.aload_n 0, 1) := by decide +kernel
theorem dX2_takeLast_46 : decode cX2_takeLast 46 = .ok (.dup, 1) := by decide +kernel
theorem dX2_takeLast_47 : decode cX2_takeLast 47 = .ok (.getfield 20, 3) := by decide +kernel
theorem dX2_takeLast_50 : decode cX2_takeLast 50 = .ok (.iconst 1, 1) := by decide +kernel
theorem dX2_takeLast_51 : decode cX2_takeLast 51 = .ok (.isub, 1) := by decide +kernel
theorem dX2_takeLast_52 : decode cX2_takeLast 52 = .ok (.putfield 20, 3) := by decide +kernel
theorem dX2_takeLast_55 : decode cX2_takeLast 55 = .ok (.aload_n 0, 1) := by decide +kernel
theorem dX2_takeLast_56 : decode cX2_takeLast 56 = .ok (.getfield 11, 3) := by decide +kernel
theorem dX2_takeLast_59 : decode cX2_takeLast 59 = .ok (.iload_n 1, 1) := by decide +kernel
theorem dX2_takeLast_60 : decode cX2_takeLast 60 = .ok (.aaload, 1) := by decide +kernel
theorem dX2_takeLast_61 : decode cX2_takeLast 61 = .ok (.iload_n 2, 1) := by decide +kernel
theorem dX2_takeLast_62 : decode cX2_takeLast 62 = .ok (.iaload, 1) := by decide +kernel
theorem dX2_takeLast_63 : decode cX2_takeLast 63 = .ok (.ireturn, 1) := by decide +kernel
set_option maxRecDepth 20000 in
theorem ggX2_exchange_X2_has : GoodIn wsX2_exchange wsX2_has := goodIn_r _ [6, 7, 8, 9, 5, 10, 11, 12, 13, 14, 15] (by decide +kernel) (by decide +kernel)
set_option maxRecDepth 20000 in
theorem gX2_exchange_X2_has : GoodIn wsX2_exchange (wsV RX2 31 RX2 yX2_has wsX2_has) := goodIn_app (goodIn_of _ (by decide +kernel)) ggX2_exchange_X2_has
theorem dX2_exchange_0 : decode cX2_exchange 0 = .ok (.aload_n 0, 1) := by decide +kernel
theorem dX2_exchange_1 : decode cX2_exchange 1 = .ok (.iload_n 1, 1) := by decide +kernel
theorem dX2_exchange_2 : decode cX2_exchange 2 = .ok (.iload_n 2, 1) := by decide +kernel
theorem dX2_exchange_3 : decode cX2_exchange 3 = .ok (.invokevirtual 31, 3) := by decide +kernel
theorem dX2_exchange_6 : decode cX2_exchange 6 = .ok (.ifCond .ne 5, 3) := by decide +kernel
theorem dX2_exchange_9 : decode cX2_exchange 9 = .ok (.iload_n 3, 1) := by decide +kernel
theorem dX2_exchange_10 : decode cX2_exchange 10 = .ok (.ireturn, 1) := by decide +kernel
theorem dX2_exchange_11 : decode cX2_exchange 11 = .ok (.aload_n 0, 1) := by decide +kernel
theorem dX2_exchange_12 : decode cX2_exchange 12 = .ok (.getfield 11, 3) := by decide +kernel
theorem dX2_exchange_15 : decode cX2_exchange 15 = .ok (.iload_n 1, 1) := by decide +kernel
theorem dX2_exchange_16 : decode cX2_exchange 16 = .ok (.aaload, 1) := by decide +kernel
theorem dX2_exchange_17 : decode cX2_exchange 17 = .ok (.iload_n 2, 1) := by decide +kernel
theorem dX2_exchange_18 : decode cX2_exchange 18 = .ok (.iaload, 1) := by decide +kernel
theorem dX2_exchange_19 : decode cX2_exchange 19 = .ok (.istore 4, 2) := by decide +kernel
theorem dX2_exchange_21 : decode cX2_exchange 21 = .ok (.aload_n 0, 1) := by decide +kernel
theorem dX2_exchange_22 : decode cX2_exchange 22 = .ok (.getfield 11, 3) := by decide +kernel
theorem dX2_exchange_25 : decode cX2_exchange 25 = .ok (.iload_n 1, 1) := by decide +kernel
theorem dX2_exchange_26 : decode cX2_exchange 26 = .ok (.aaload, 1) := by decide +kernel
theorem dX2_exchange_27 : decode cX2_exchange 27 = .ok (.iload_n 2, 1) := by decide +kernel
theorem dX2_exchange_28 : decode cX2_exchange 28 = .ok (.iload_n 3, 1) := by decide +kernel
theorem dX2_exchange_29 : decode cX2_exchange 29 = .ok (.iastore, 1) := by decide +kernel
theorem dX2_exchange_30 : decode cX2_exchange 30 = .ok (.iload 4, 2) := by decide +kernel
theorem dX2_exchange_32 : decode cX2_exchange 32 = .ok (.ireturn, 1) := by decide +kernel
set_option maxRecDepth 20000 in
theorem ggX2_insert_X2_firstGreater : GoodIn wsX2_insert wsX2_firstGreater := goodIn_r _ [5, 6, 7, 8, 9, 4, 10, 11, 33, 34, 35, 36] (by decide +kernel) (by decide +kernel)
set_option maxRecDepth 20000 in
theorem gX2_insert_X2_firstGreater : GoodIn wsX2_insert (wsV RX2 51 RX2 yX2_firstGreater wsX2_firstGreater) := goodIn_app (goodIn_of _ (by decide +kernel)) ggX2_insert_X2_firstGreater
set_option maxRecDepth 20000 in
theorem ggX2_insert_X2_has : GoodIn wsX2_insert wsX2_has := goodIn_r _ [15, 7, 8, 9, 4, 10, 11, 33, 34, 35, 36] (by decide +kernel) (by decide +kernel)
set_option maxRecDepth 20000 in
theorem gX2_insert_X2_has : GoodIn wsX2_insert (wsV RX2 31 RX2 yX2_has wsX2_has) := goodIn_app (goodIn_of _ (by decide +kernel)) ggX2_insert_X2_has
set_option maxRecDepth 20000 in
theorem ggX2_insert_X2_append : GoodIn wsX2_insert wsX2_append := goodIn_r _ [19, 20, 6, 11, 21, 22, 23, 24, 25, 26, 27, 28, 33, 34, 35, 36] (by decide +kernel) (by decide +kernel)
set_option maxRecDepth 20000 in
theorem gX2_insert_X2_append : GoodIn wsX2_insert (wsV RX2 54 RX2 yX2_append wsX2_append) := goodIn_app (goodIn_of _ (by decide +kernel)) ggX2_insert_X2_append
set_option maxRecDepth 20000 in
theorem ggX2_insert_X2_exchange : GoodIn wsX2_insert wsX2_exchange := goodIn_r _ [32, 6, 12, 13, 14, 4, 15, 7, 8, 9, 10, 11, 33, 34, 35, 36] (by decide +kernel) (by decide +kernel)
set_option maxRecDepth 20000 in
theorem gX2_insert_X2_exchange : GoodIn wsX2_insert (wsV RX2 58 RX2 yX2_exchange wsX2_exchange) := goodIn_app (goodIn_of _ (by decide +kernel)) ggX2_insert_X2_exchange
theorem dX2_insert_0 : decode cX2_insert 0 = .ok (.iload_n 1, 1) := by decide +kernel
theorem dX2_insert_1 : decode cX2_insert 1 = .ok (.istore_n 2, 1) := by decide +kernel
theorem dX2_insert_2 : decode cX2_insert 2 = .ok (.iconst 0, 1) := by decide +kernel
theorem dX2_insert_3 : decode cX2_insert 3 = .ok (.istore_n 3, 1) := by decide +kernel
theorem dX2_insert_4 : decode cX2_insert 4 = .ok (.iload_n 3, 1) := by decide +kernel
theorem dX2_insert_5 : decode cX2_insert 5 = .ok (.bipush 9, 2) := by decide +kernel
theorem dX2_insert_7 : decode cX2_insert 7 = .ok (.if_icmp .ge 44, 3) := by decide +kernel
theorem dX2_insert_10 : decode cX2_insert 10 = .ok (.aload_n 0, 1) := by decide +kernel
theorem dX2_insert_11 : decode cX2_insert 11 = .ok (.iload_n 3, 1) := by decide +kernel
theorem dX2_insert_12 : decode cX2_insert 12 = .ok (.iload_n 2, 1) := by decide +kernel
theorem dX2_insert_13 : decode cX2_insert 13 = .ok (.invokevirtual 51, 3) := by decide +kernel
theorem dX2_insert_16 : decode cX2_insert 16 = .ok (.istore 4, 2) := by decide +kernel
theorem dX2_insert_18 : decode cX2_insert 18 = .ok (.aload_n 0, 1) := by decide +kernel
theorem dX2_insert_19 : decode cX2_insert 19 = .ok (.iload_n 3, 1) := by decide +kernel
theorem dX2_insert_20 : decode cX2_insert 20 = .ok (.iload 4, 2) := by decide +kernel
theorem dX2_insert_22 : decode cX2_insert 22 = .ok (.invokevirtual 31, 3) := by decide +kernel
theorem dX2_insert_25 : decode cX2_insert 25 = .ok (.ifCond .ne 11, 3) := by decide +kernel
theorem dX2_insert_28 : decode cX2_insert 28 = .ok (.aload_n 0, 1) := by decide +kernel
theorem dX2_insert_29 : decode cX2_insert 29 = .ok (.iload_n 3, 1) := by decide +kernel
theorem dX2_insert_30 : decode cX2_insert 30 = .ok (.iload_n 2, 1) := by decide +kernel
theorem dX2_insert_31 : decode cX2_insert 31 = .ok (.invokevirtual 54, 3) := by decide +kernel
theorem dX2_insert_34 : decode cX2_insert 34 = .ok (.iload_n 3, 1) := by decide +kernel
theorem dX2_insert_35 : decode cX2_insert 35 = .ok (.ireturn, 1) := by decide +kernel
theorem dX2_insert_36 : decode cX2_insert 36 = .ok (.aload_n 0, 1) := by decide +kernel
theorem dX2_insert_37 : decode cX2_insert 37 = .ok (.iload_n 3, 1) := by decide +kernel
theorem dX2_insert_38 : decode cX2_insert 38 = .ok (.iload 4, 2) := by decide +kernel
theorem dX2_insert_40 : decode cX2_insert 40 = .ok (.iload_n 2, 1) := by decide +kernel
theorem dX2_insert_41 : decode cX2_insert 41 = .ok (.invokevirtual 58, 3) := by decide +kernel
theorem dX2_insert_44 : decode cX2_insert 44 = .ok (.istore_n 2, 1) := by decide +kernel
theorem dX2_insert_45 : decode cX2_insert 45 = .ok (.iinc 3 1, 3) := by decide +kernel
theorem dX2_insert_48 : decode cX2_insert 48 = .ok (.goto (-44), 3) := by decide +kernel
theorem dX2_insert_51 : decode cX2_insert 51 = .ok (.bipush 9, 2) := by decide +kernel
theorem dX2_insert_53 : decode cX2_insert 53 = .ok (.ireturn, 1) := by decide +kernel
set_option maxRecDepth 20000 in
theorem ggX2_firstGreater_X2_lengthOf : GoodIn wsX2_firstGreater wsX2_lengthOf := goodIn_r _ [6, 7, 8, 9, 10, 11] (by decide +kernel) (by decide +kernel)
set_option maxRecDepth 20000 in
theorem gX2_firstGreater_X2_lengthOf : GoodIn wsX2_firstGreater (wsV RX2 27 RX2 yX2_lengthOf wsX2_lengthOf) := goodIn_app (goodIn_of _ (by decide +kernel)) ggX2_firstGreater_X2_lengthOf
theorem dX2_firstGreater_0 : decode cX2_firstGreater 0 = .ok (.aload_n 0, 1) := by decide +kernel
theorem dX2_firstGreater_1 : decode cX2_firstGreater 1 = .ok (.iload_n 1, 1) := by decide +kernel
theorem dX2_firstGreater_2 : decode cX2_firstGreater 2 = .ok (.invokevirtual 27, 3) := by decide +kernel
theorem dX2_firstGreater_5 : decode cX2_firstGreater 5 = .ok (.istore_n 3, 1) := by decide +kernel
theorem dX2_firstGreater_6 : decode cX2_firstGreater 6 = .ok (.iconst 0, 1) := by decide +kernel
theorem dX2_firstGreater_7 : decode cX2_firstGreater 7 = .ok (.istore 4, 2) := by decide +kernel
theorem dX2_firstGreater_9 : decode cX2_firstGreater 9 = .ok (.iload 4, 2) := by decide +kernel
theorem dX2_firstGreater_11 : decode cX2_firstGreater 11 = .ok (.iload_n 3, 1) := by decide +kernel
theorem dX2_firstGreater_12 : decode cX2_firstGreater 12 = .ok (.if_icmp .ge 25, 3) := by decide +kernel
theorem dX2_firstGreater_15 : decode cX2_firstGreater 15 = .ok (.aload_n 0, 1) := by decide +kernel
theorem dX2_firstGreater_16 : decode cX2_firstGreater 16 = .ok (.getfield 11, 3) := by decide +kernel
theorem dX2_firstGreater_19 : decode cX2_firstGreater 19 = .ok (.iload_n 1, 1) := by decide +kernel
theorem dX2_firstGreater_20 : decode cX2_firstGreater 20 = .ok (.aaload, 1) := by decide +kernel
theorem dX2_firstGreater_21 : decode cX2_firstGreater 21 = .ok (.iload 4, 2) := by decide +kernel
theorem dX2_firstGreater_23 : decode cX2_firstGreater 23 = .ok (.iaload, 1) := by decide +kernel
theorem dX2_firstGreater_24 : decode cX2_firstGreater 24 = .ok (.iload_n 2, 1) := by decide +kernel
theorem dX2_firstGreater_25 : decode cX2_firstGreater 25 = .ok (.if_icmp .le 6, 3) := by decide +kernel
theorem dX2_firstGreater_28 : decode cX2_firstGreater 28 = .ok (.iload 4, 2) := by decide +kernel
theorem dX2_firstGreater_30 : decode cX2_firstGreater 30 = .ok (.ireturn, 1) := by decide +kernel
theorem dX2_firstGreater_31 : decode cX2_firstGreater 31 = .ok (.iinc 4 1, 3) := by decide +kernel
theorem dX2_firstGreater_34 : decode cX2_firstGreater 34 = .ok (.goto (-25), 3) := by decide +kernel
theorem dX2_firstGreater_37 : decode cX2_firstGreater 37 = .ok (.iload_n 3, 1) := by decide +kernel
theorem dX2_firstGreater_38 : decode cX2_firstGreater 38 = .ok (.ireturn, 1) := by decide +kernel
set_option maxRecDepth 20000 in
theorem ggX2_takeOut_X2_takeLast : GoodIn wsX2_takeOut wsX2_takeLast := goodIn_r _ [5, 6, 7, 8, 9, 10, 11, 12, 4, 13, 26, 27, 28, 29] (by decide +kernel) (by decide +kernel)
set_option maxRecDepth 20000 in
theorem gX2_takeOut_X2_takeLast : GoodIn wsX2_takeOut (wsV RX2 62 RX2 yX2_takeLast wsX2_takeLast) := goodIn_app (goodIn_of _ (by decide +kernel)) ggX2_takeOut_X2_takeLast
set_option maxRecDepth 20000 in
theorem ggX2_takeOut_X2_lastLess : GoodIn wsX2_takeOut wsX2_lastLess := goodIn_r _ [17, 9, 10, 11, 12, 4, 13, 6, 26, 27, 28, 29] (by decide +kernel) (by decide +kernel)
set_option maxRecDepth 20000 in
theorem gX2_takeOut_X2_lastLess : GoodIn wsX2_takeOut (wsV RX2 65 RX2 yX2_lastLess wsX2_lastLess) := goodIn_app (goodIn_of _ (by decide +kernel)) ggX2_takeOut_X2_lastLess
set_option maxRecDepth 20000 in
theorem ggX2_takeOut_X2_exchange : GoodIn wsX2_takeOut wsX2_exchange := goodIn_r _ [21, 9, 22, 23, 24, 4, 25, 10, 11, 12, 13, 6, 26, 27, 28, 29] (by decide +kernel) (by decide +kernel)
set_option maxRecDepth 20000 in
theorem gX2_takeOut_X2_exchange : GoodIn wsX2_takeOut (wsV RX2 58 RX2 yX2_exchange wsX2_exchange) := goodIn_app (goodIn_of _ (by decide +kernel)) ggX2_takeOut_X2_exchange
theorem dX2_takeOut_0 : decode cX2_takeOut 0 = .ok (.aload_n 0, 1) := by decide +kernel
theorem dX2_takeOut_1 : decode cX2_takeOut 1 = .ok (.iload_n 1, 1) := by decide +kernel
theorem dX2_takeOut_2 : decode cX2_takeOut 2 = .ok (.invokevirtual 62, 3) := by decide +kernel
theorem dX2_takeOut_5 : decode cX2_takeOut 5 = .ok (.istore_n 2, 1) := by decide +kernel
theorem dX2_takeOut_6 : decode cX2_takeOut 6 = .ok (.iload_n 1, 1) := by decide +kernel
theorem dX2_takeOut_7 : decode cX2_takeOut 7 = .ok (.iconst 1, 1) := by decide +kernel
theorem dX2_takeOut_8 : decode cX2_takeOut 8 = .ok (.isub, 1) := by decide +kernel
theorem dX2_takeOut_9 : decode cX2_takeOut 9 = .ok (.istore_n 3, 1) := by decide +kernel
theorem dX2_takeOut_10 : decode cX2_takeOut 10 = .ok (.iload_n 3, 1) := by decide +kernel
theorem dX2_takeOut_11 : decode cX2_takeOut 11 = .ok (.ifCond .lt 22, 3) := by decide +kernel
theorem dX2_takeOut_14 : decode cX2_takeOut 14 = .ok (.aload_n 0, 1) := by decide +kernel
theorem dX2_takeOut_15 : decode cX2_takeOut 15 = .ok (.iload_n 3, 1) := by decide +kernel
theorem dX2_takeOut_16 : decode cX2_takeOut 16 = .ok (.aload_n 0, 1) := by decide +kernel
theorem dX2_takeOut_17 : decode cX2_takeOut 17 = .ok (.iload_n 3, 1) := by decide +kernel
theorem dX2_takeOut_18 : decode cX2_takeOut 18 = .ok (.iload_n 2, 1) := by decide +kernel
theorem dX2_takeOut_19 : decode cX2_takeOut 19 = .ok (.invokevirtual 65, 3) := by decide +kernel
theorem dX2_takeOut_22 : decode cX2_takeOut 22 = .ok (.iload_n 2, 1) := by decide +kernel
theorem dX2_takeOut_23 : decode cX2_takeOut 23 = .ok (.invokevirtual 58, 3) := by decide +kernel
theorem dX2_takeOut_26 : decode cX2_takeOut 26 = .ok (.istore_n 2, 1) := by decide +kernel
theorem dX2_takeOut_27 : decode cX2_takeOut 27 = .ok (.iinc 3 (-1), 3) := by decide +kernel
theorem dX2_takeOut_30 : decode cX2_takeOut 30 = .ok (.goto (-20), 3) := by decide +kernel
theorem dX2_takeOut_33 : decode cX2_takeOut 33 = .ok (.iload_n 2, 1) := by decide +kernel
theorem dX2_takeOut_34 : decode cX2_takeOut 34 = .ok (.ireturn, 1) := by decide +kernel
set_option maxRecDepth 20000 in
theorem ggX2_lastLess_X2_lengthOf : GoodIn wsX2_lastLess wsX2_lengthOf := goodIn_r _ [6, 7, 8, 9, 10, 11] (by decide +kernel) (by decide +kernel)
set_option maxRecDepth 20000 in
theorem gX2_lastLess_X2_lengthOf : GoodIn wsX2_lastLess (wsV RX2 27 RX2 yX2_lengthOf wsX2_lengthOf) := goodIn_app (goodIn_of _ (by decide +kernel)) ggX2_lastLess_X2_lengthOf
theorem dX2_lastLess_0 : decode cX2_lastLess 0 = .ok (.aload_n 0, 1) := by decide +kernel
theorem dX2_lastLess_1 : decode cX2_lastLess 1 = .ok (.iload_n 1, 1) := by decide +kernel
theorem dX2_lastLess_2 : decode cX2_lastLess 2 = .ok (.invokevirtual 27, 3) := by decide +kernel
theorem dX2_lastLess_5 : decode cX2_lastLess 5 = .ok (.iconst 1, 1) := by decide +kernel
theorem dX2_lastLess_6 : decode cX2_lastLess 6 = .ok (.isub, 1) := by decide +kernel
theorem dX2_lastLess_7 : decode cX2_lastLess 7 = .ok (.istore_n 3, 1) := by decide +kernel
theorem dX2_lastLess_8 : decode cX2_lastLess 8 = .ok (.iload_n 3, 1) := by decide +kernel
theorem dX2_lastLess_9 : decode cX2_lastLess 9 = .ok (.ifCond .lt 21, 3) := by decide +kernel
theorem dX2_lastLess_12 : decode cX2_lastLess 12 = .ok (.aload_n 0, 1) := by decide +kernel
theorem dX2_lastLess_13 : decode cX2_lastLess 13 = .ok (.getfield 11, 3) := by decide +kernel
theorem dX2_lastLess_16 : decode cX2_lastLess 16 = .ok (.iload_n 1, 1) := by decide +kernel
theorem dX2_lastLess_17 : decode cX2_lastLess 17 = .ok (.aaload, 1) := by decide +kernel
theorem dX2_lastLess_18 : decode cX2_lastLess 18 = .ok (.iload_n 3, 1) := by decide +kernel
theorem dX2_lastLess_19 : decode cX2_lastLess 19 = .ok (.iaload, 1) := by decide +kernel
theorem dX2_lastLess_20 : decode cX2_lastLess 20 = .ok (.iload_n 2, 1) := by decide +kernel
theorem dX2_lastLess_21 : decode cX2_lastLess 21 = .ok (.if_icmp .lt 9, 3) := by decide +kernel
theorem dX2_lastLess_24 : decode cX2_lastLess 24 = .ok (.iinc 3 (-1), 3) := by decide +kernel
theorem dX2_lastLess_27 : decode cX2_lastLess 27 = .ok (.goto (-19), 3) := by decide +kernel
theorem dX2_lastLess_30 : decode cX2_lastLess 30 = .ok (.iload_n 3, 1) := by decide +kernel
theorem dX2_lastLess_31 : decode cX2_lastLess 31 = .ok (.ireturn, 1) := by decide +kernel
set_option maxRecDepth 20000 in
theorem ggX2_rowEndingIn_X2_at : GoodIn wsX2_rowEndingIn wsX2_at := goodIn_r _ [7, 8, 9, 10, 11, 6, 12, 13, 14, 15, 16, 2, 17, 18, 19, 20] (by decide +kernel) (by decide +kernel)
set_option maxRecDepth 20000 in
theorem gX2_rowEndingIn_X2_at : GoodIn wsX2_rowEndingIn (wsV RX2 68 RX2 yX2_at wsX2_at) := goodIn_app (goodIn_of _ (by decide +kernel)) ggX2_rowEndingIn_X2_at
theorem dX2_rowEndingIn_0 : decode cX2_rowEndingIn 0 = .ok (.iconst 0, 1) := by decide +kernel
theorem dX2_rowEndingIn_1 : decode cX2_rowEndingIn 1 = .ok (.istore_n 2, 1) := by decide +kernel
theorem dX2_rowEndingIn_2 : decode cX2_rowEndingIn 2 = .ok (.iload_n 2, 1) := by decide +kernel
theorem dX2_rowEndingIn_3 : decode cX2_rowEndingIn 3 = .ok (.aload_n 0, 1) := by decide +kernel
theorem dX2_rowEndingIn_4 : decode cX2_rowEndingIn 4 = .ok (.getfield 20, 3) := by decide +kernel
theorem dX2_rowEndingIn_7 : decode cX2_rowEndingIn 7 = .ok (.if_icmp .ge 28, 3) := by decide +kernel
theorem dX2_rowEndingIn_10 : decode cX2_rowEndingIn 10 = .ok (.aload_n 0, 1) := by decide +kernel
theorem dX2_rowEndingIn_11 : decode cX2_rowEndingIn 11 = .ok (.iload_n 2, 1) := by decide +kernel
theorem dX2_rowEndingIn_12 : decode cX2_rowEndingIn 12 = .ok (.aload_n 0, 1) := by decide +kernel
theorem dX2_rowEndingIn_13 : decode cX2_rowEndingIn 13 = .ok (.getfield 16, 3) := by decide +kernel
theorem dX2_rowEndingIn_16 : decode cX2_rowEndingIn 16 = .ok (.iload_n 2, 1) := by decide +kernel
theorem dX2_rowEndingIn_17 : decode cX2_rowEndingIn 17 = .ok (.iaload, 1) := by decide +kernel
theorem dX2_rowEndingIn_18 : decode cX2_rowEndingIn 18 = .ok (.iconst 1, 1) := by decide +kernel
theorem dX2_rowEndingIn_19 : decode cX2_rowEndingIn 19 = .ok (.isub, 1) := by decide +kernel
theorem dX2_rowEndingIn_20 : decode cX2_rowEndingIn 20 = .ok (.invokevirtual 68, 3) := by decide +kernel
theorem dX2_rowEndingIn_23 : decode cX2_rowEndingIn 23 = .ok (.iload_n 1, 1) := by decide +kernel
theorem dX2_rowEndingIn_24 : decode cX2_rowEndingIn 24 = .ok (.if_icmp .ne 5, 3) := by decide +kernel
theorem dX2_rowEndingIn_27 : decode cX2_rowEndingIn 27 = .ok (.iload_n 2, 1) := by decide +kernel
theorem dX2_rowEndingIn_28 : decode cX2_rowEndingIn 28 = .ok (.ireturn, 1) := by decide +kernel
theorem dX2_rowEndingIn_29 : decode cX2_rowEndingIn 29 = .ok (.iinc 2 1, 3) := by decide +kernel
theorem dX2_rowEndingIn_32 : decode cX2_rowEndingIn 32 = .ok (.goto (-30), 3) := by decide +kernel
theorem dX2_rowEndingIn_35 : decode cX2_rowEndingIn 35 = .ok (.iconst 0, 1) := by decide +kernel
theorem dX2_rowEndingIn_36 : decode cX2_rowEndingIn 36 = .ok (.ireturn, 1) := by decide +kernel
set_option maxRecDepth 20000 in
theorem ggX2_hasShapeOf_X2_lengthOf : GoodIn wsX2_hasShapeOf wsX2_lengthOf := goodIn_r _ [6, 1, 7, 8, 9, 10] (by decide +kernel) (by decide +kernel)
set_option maxRecDepth 20000 in
theorem gX2_hasShapeOf_X2_lengthOf : GoodIn wsX2_hasShapeOf (wsV RX2 27 RX2 yX2_lengthOf wsX2_lengthOf) := goodIn_app (goodIn_of _ (by decide +kernel)) ggX2_hasShapeOf_X2_lengthOf
theorem dX2_hasShapeOf_0 : decode cX2_hasShapeOf 0 = .ok (.iconst 0, 1) := by decide +kernel
theorem dX2_hasShapeOf_1 : decode cX2_hasShapeOf 1 = .ok (.istore_n 2, 1) := by decide +kernel
theorem dX2_hasShapeOf_2 : decode cX2_hasShapeOf 2 = .ok (.iload_n 2, 1) := by decide +kernel
theorem dX2_hasShapeOf_3 : decode cX2_hasShapeOf 3 = .ok (.bipush 9, 2) := by decide +kernel
theorem dX2_hasShapeOf_5 : decode cX2_hasShapeOf 5 = .ok (.if_icmp .ge 25, 3) := by decide +kernel
theorem dX2_hasShapeOf_8 : decode cX2_hasShapeOf 8 = .ok (.aload_n 0, 1) := by decide +kernel
theorem dX2_hasShapeOf_9 : decode cX2_hasShapeOf 9 = .ok (.getfield 16, 3) := by decide +kernel
theorem dX2_hasShapeOf_12 : decode cX2_hasShapeOf 12 = .ok (.iload_n 2, 1) := by decide +kernel
theorem dX2_hasShapeOf_13 : decode cX2_hasShapeOf 13 = .ok (.iaload, 1) := by decide +kernel
theorem dX2_hasShapeOf_14 : decode cX2_hasShapeOf 14 = .ok (.aload_n 1, 1) := by decide +kernel
theorem dX2_hasShapeOf_15 : decode cX2_hasShapeOf 15 = .ok (.iload_n 2, 1) := by decide +kernel
theorem dX2_hasShapeOf_16 : decode cX2_hasShapeOf 16 = .ok (.invokevirtual 27, 3) := by decide +kernel
theorem dX2_hasShapeOf_19 : decode cX2_hasShapeOf 19 = .ok (.if_icmp .eq 5, 3) := by decide +kernel
theorem dX2_hasShapeOf_22 : decode cX2_hasShapeOf 22 = .ok (.iconst 0, 1) := by decide +kernel
theorem dX2_hasShapeOf_23 : decode cX2_hasShapeOf 23 = .ok (.ireturn, 1) := by decide +kernel
theorem dX2_hasShapeOf_24 : decode cX2_hasShapeOf 24 = .ok (.iinc 2 1, 3) := by decide +kernel
theorem dX2_hasShapeOf_27 : decode cX2_hasShapeOf 27 = .ok (.goto (-25), 3) := by decide +kernel
theorem dX2_hasShapeOf_30 : decode cX2_hasShapeOf 30 = .ok (.iconst 1, 1) := by decide +kernel
theorem dX2_hasShapeOf_31 : decode cX2_hasShapeOf 31 = .ok (.ireturn, 1) := by decide +kernel
theorem dX2_isStaircase_0 : decode cX2_isStaircase 0 = .ok (.iconst 1, 1) := by decide +kernel
theorem dX2_isStaircase_1 : decode cX2_isStaircase 1 = .ok (.istore_n 1, 1) := by decide +kernel
theorem dX2_isStaircase_2 : decode cX2_isStaircase 2 = .ok (.iload_n 1, 1) := by decide +kernel
theorem dX2_isStaircase_3 : decode cX2_isStaircase 3 = .ok (.aload_n 0, 1) := by decide +kernel
theorem dX2_isStaircase_4 : decode cX2_isStaircase 4 = .ok (.getfield 20, 3) := by decide +kernel
theorem dX2_isStaircase_7 : decode cX2_isStaircase 7 = .ok (.if_icmp .ge 28, 3) := by decide +kernel
theorem dX2_isStaircase_10 : decode cX2_isStaircase 10 = .ok (.aload_n 0, 1) := by decide +kernel
theorem dX2_isStaircase_11 : decode cX2_isStaircase 11 = .ok (.getfield 16, 3) := by decide +kernel
theorem dX2_isStaircase_14 : decode cX2_isStaircase 14 = .ok (.iload_n 1, 1) := by decide +kernel
theorem dX2_isStaircase_15 : decode cX2_isStaircase 15 = .ok (.iaload, 1) := by decide +kernel
theorem dX2_isStaircase_16 : decode cX2_isStaircase 16 = .ok (.aload_n 0, 1) := by decide +kernel
theorem dX2_isStaircase_17 : decode cX2_isStaircase 17 = .ok (.getfield 16, 3) := by decide +kernel
theorem dX2_isStaircase_20 : decode cX2_isStaircase 20 = .ok (.iload_n 1, 1) := by decide +kernel
theorem dX2_isStaircase_21 : decode cX2_isStaircase 21 = .ok (.iconst 1, 1) := by decide +kernel
theorem dX2_isStaircase_22 : decode cX2_isStaircase 22 = .ok (.isub, 1) := by decide +kernel
theorem dX2_isStaircase_23 : decode cX2_isStaircase 23 = .ok (.iaload, 1) := by decide +kernel
theorem dX2_isStaircase_24 : decode cX2_isStaircase 24 = .ok (.if_icmp .le 5, 3) := by decide +kernel
theorem dX2_isStaircase_27 : decode cX2_isStaircase 27 = .ok (.iconst 0, 1) := by decide +kernel
theorem dX2_isStaircase_28 : decode cX2_isStaircase 28 = .ok (.ireturn, 1) := by decide +kernel
theorem dX2_isStaircase_29 : decode cX2_isStaircase 29 = .ok (.iinc 1 1, 3) := by decide +kernel
theorem dX2_isStaircase_32 : decode cX2_isStaircase 32 = .ok (.goto (-30), 3) := by decide +kernel
theorem dX2_isStaircase_35 : decode cX2_isStaircase 35 = .ok (.iconst 1, 1) := by decide +kernel
theorem dX2_isStaircase_36 : decode cX2_isStaircase 36 = .ok (.ireturn, 1) := by decide +kernel
set_option maxRecDepth 20000 in
theorem ggX2_rises_X2_at : GoodIn wsX2_rises wsX2_at := goodIn_r _ [8, 3, 9, 10, 11, 7, 12, 13, 14, 15, 16, 2, 17, 18, 19, 20] (by decide +kernel) (by decide +kernel)
set_option maxRecDepth 20000 in
theorem gX2_rises_X2_at : GoodIn wsX2_rises (wsV RX2 68 RX2 yX2_at wsX2_at) := goodIn_app (goodIn_of _ (by decide +kernel)) ggX2_rises_X2_at
theorem dX2_rises_0 : decode cX2_rises 0 = .ok (.iconst 0, 1) := by decide +kernel
theorem dX2_rises_1 : decode cX2_rises 1 = .ok (.istore_n 2, 1) := by decide +kernel
theorem dX2_rises_2 : decode cX2_rises 2 = .ok (.iload_n 2, 1) := by decide +kernel
theorem dX2_rises_3 : decode cX2_rises 3 = .ok (.aload_n 0, 1) := by decide +kernel
theorem dX2_rises_4 : decode cX2_rises 4 = .ok (.getfield 20, 3) := by decide +kernel
theorem dX2_rises_7 : decode cX2_rises 7 = .ok (.if_icmp .ge 81, 3) := by decide +kernel
theorem dX2_rises_10 : decode cX2_rises 10 = .ok (.iconst 0, 1) := by decide +kernel
theorem dX2_rises_11 : decode cX2_rises 11 = .ok (.istore_n 3, 1) := by decide +kernel
theorem dX2_rises_12 : decode cX2_rises 12 = .ok (.iload_n 3, 1) := by decide +kernel
theorem dX2_rises_13 : decode cX2_rises 13 = .ok (.aload_n 0, 1) := by decide +kernel
theorem dX2_rises_14 : decode cX2_rises 14 = .ok (.getfield 16, 3) := by decide +kernel
theorem dX2_rises_17 : decode cX2_rises 17 = .ok (.iload_n 2, 1) := by decide +kernel
theorem dX2_rises_18 : decode cX2_rises 18 = .ok (.iaload, 1) := by decide +kernel
theorem dX2_rises_19 : decode cX2_rises 19 = .ok (.if_icmp .ge 63, 3) := by decide +kernel
theorem dX2_rises_22 : decode cX2_rises 22 = .ok (.iload_n 3, 1) := by decide +kernel
theorem dX2_rises_23 : decode cX2_rises 23 = .ok (.ifCond .le 28, 3) := by decide +kernel
theorem dX2_rises_26 : decode cX2_rises 26 = .ok (.aload_n 0, 1) := by decide +kernel
theorem dX2_rises_27 : decode cX2_rises 27 = .ok (.getfield 11, 3) := by decide +kernel
theorem dX2_rises_30 : decode cX2_rises 30 = .ok (.iload_n 2, 1) := by decide +kernel
theorem dX2_rises_31 : decode cX2_rises 31 = .ok (.aaload, 1) := by decide +kernel
theorem dX2_rises_32 : decode cX2_rises 32 = .ok (.iload_n 3, 1) := by decide +kernel
theorem dX2_rises_33 : decode cX2_rises 33 = .ok (.iaload, 1) := by decide +kernel
theorem dX2_rises_34 : decode cX2_rises 34 = .ok (.aload_n 0, 1) := by decide +kernel
theorem dX2_rises_35 : decode cX2_rises 35 = .ok (.getfield 11, 3) := by decide +kernel
theorem dX2_rises_38 : decode cX2_rises 38 = .ok (.iload_n 2, 1) := by decide +kernel
theorem dX2_rises_39 : decode cX2_rises 39 = .ok (.aaload, 1) := by decide +kernel
theorem dX2_rises_40 : decode cX2_rises 40 = .ok (.iload_n 3, 1) := by decide +kernel
theorem dX2_rises_41 : decode cX2_rises 41 = .ok (.iconst 1, 1) := by decide +kernel
theorem dX2_rises_42 : decode cX2_rises 42 = .ok (.isub, 1) := by decide +kernel
theorem dX2_rises_43 : decode cX2_rises 43 = .ok (.iaload, 1) := by decide +kernel
theorem dX2_rises_44 : decode cX2_rises 44 = .ok (.iload_n 1, 1) := by decide +kernel
theorem dX2_rises_45 : decode cX2_rises 45 = .ok (.iadd, 1) := by decide +kernel
theorem dX2_rises_46 : decode cX2_rises 46 = .ok (.if_icmp .ge 5, 3) := by decide +kernel
theorem dX2_rises_49 : decode cX2_rises 49 = .ok (.iconst 0, 1) := by decide +kernel
theorem dX2_rises_50 : decode cX2_rises 50 = .ok (.ireturn, 1) := by decide +kernel
theorem dX2_rises_51 : decode cX2_rises 51 = .ok (.iload_n 2, 1) := by decide +kernel
theorem dX2_rises_52 : decode cX2_rises 52 = .ok (.ifCond .le 24, 3) := by decide +kernel
theorem dX2_rises_55 : decode cX2_rises 55 = .ok (.aload_n 0, 1) := by decide +kernel
theorem dX2_rises_56 : decode cX2_rises 56 = .ok (.getfield 11, 3) := by decide +kernel
theorem dX2_rises_59 : decode cX2_rises 59 = .ok (.iload_n 2, 1) := by decide +kernel
theorem dX2_rises_60 : decode cX2_rises 60 = .ok (.aaload, 1) := by decide +kernel
theorem dX2_rises_61 : decode cX2_rises 61 = .ok (.iload_n 3, 1) := by decide +kernel
theorem dX2_rises_62 : decode cX2_rises 62 = .ok (.iaload, 1) := by decide +kernel
theorem dX2_rises_63 : decode cX2_rises 63 = .ok (.aload_n 0, 1) := by decide +kernel
theorem dX2_rises_64 : decode cX2_rises 64 = .ok (.iload_n 2, 1) := by decide +kernel
theorem dX2_rises_65 : decode cX2_rises 65 = .ok (.iconst 1, 1) := by decide +kernel
theorem dX2_rises_66 : decode cX2_rises 66 = .ok (.isub, 1) := by decide +kernel
theorem dX2_rises_67 : decode cX2_rises 67 = .ok (.iload_n 3, 1) := by decide +kernel
theorem dX2_rises_68 : decode cX2_rises 68 = .ok (.invokevirtual 68, 3) := by decide +kernel
theorem dX2_rises_71 : decode cX2_rises 71 = .ok (.if_icmp .gt 5, 3) := by decide +kernel
theorem dX2_rises_74 : decode cX2_rises 74 = .ok (.iconst 0, 1) := by decide +kernel
theorem dX2_rises_75 : decode cX2_rises 75 = .ok (.ireturn, 1) := by decide +kernel
theorem dX2_rises_76 : decode cX2_rises 76 = .ok (.iinc 3 1, 3) := by decide +kernel
theorem dX2_rises_79 : decode cX2_rises 79 = .ok (.goto (-67), 3) := by decide +kernel
theorem dX2_rises_82 : decode cX2_rises 82 = .ok (.iinc 2 1, 3) := by decide +kernel
theorem dX2_rises_85 : decode cX2_rises 85 = .ok (.goto (-83), 3) := by decide +kernel
theorem dX2_rises_88 : decode cX2_rises 88 = .ok (.iconst 1, 1) := by decide +kernel
theorem dX2_rises_89 : decode cX2_rises 89 = .ok (.ireturn, 1) := by decide +kernel
theorem dX2_isBelow_0 : decode cX2_isBelow 0 = .ok (.iconst 0, 1) := by decide +kernel
theorem dX2_isBelow_1 : decode cX2_isBelow 1 = .ok (.istore_n 2, 1) := by decide +kernel
theorem dX2_isBelow_2 : decode cX2_isBelow 2 = .ok (.iload_n 2, 1) := by decide +kernel
theorem dX2_isBelow_3 : decode cX2_isBelow 3 = .ok (.aload_n 0, 1) := by decide +kernel
theorem dX2_isBelow_4 : decode cX2_isBelow 4 = .ok (.getfield 20, 3) := by decide +kernel
theorem dX2_isBelow_7 : decode cX2_isBelow 7 = .ok (.if_icmp .ge 41, 3) := by decide +kernel
theorem dX2_isBelow_10 : decode cX2_isBelow 10 = .ok (.iconst 0, 1) := by decide +kernel
theorem dX2_isBelow_11 : decode cX2_isBelow 11 = .ok (.istore_n 3, 1) := by decide +kernel
theorem dX2_isBelow_12 : decode cX2_isBelow 12 = .ok (.iload_n 3, 1) := by decide +kernel
theorem dX2_isBelow_13 : decode cX2_isBelow 13 = .ok (.aload_n 0, 1) := by decide +kernel
theorem dX2_isBelow_14 : decode cX2_isBelow 14 = .ok (.getfield 16, 3) := by decide +kernel
theorem dX2_isBelow_17 : decode cX2_isBelow 17 = .ok (.iload_n 2, 1) := by decide +kernel
theorem dX2_isBelow_18 : decode cX2_isBelow 18 = .ok (.iaload, 1) := by decide +kernel
theorem dX2_isBelow_19 : decode cX2_isBelow 19 = .ok (.if_icmp .ge 23, 3) := by decide +kernel
theorem dX2_isBelow_22 : decode cX2_isBelow 22 = .ok (.aload_n 0, 1) := by decide +kernel
theorem dX2_isBelow_23 : decode cX2_isBelow 23 = .ok (.getfield 11, 3) := by decide +kernel
theorem dX2_isBelow_26 : decode cX2_isBelow 26 = .ok (.iload_n 2, 1) := by decide +kernel
theorem dX2_isBelow_27 : decode cX2_isBelow 27 = .ok (.aaload, 1) := by decide +kernel
theorem dX2_isBelow_28 : decode cX2_isBelow 28 = .ok (.iload_n 3, 1) := by decide +kernel
theorem dX2_isBelow_29 : decode cX2_isBelow 29 = .ok (.iaload, 1) := by decide +kernel
theorem dX2_isBelow_30 : decode cX2_isBelow 30 = .ok (.iload_n 1, 1) := by decide +kernel
theorem dX2_isBelow_31 : decode cX2_isBelow 31 = .ok (.if_icmp .lt 5, 3) := by decide +kernel
theorem dX2_isBelow_34 : decode cX2_isBelow 34 = .ok (.iconst 0, 1) := by decide +kernel
theorem dX2_isBelow_35 : decode cX2_isBelow 35 = .ok (.ireturn, 1) := by decide +kernel
theorem dX2_isBelow_36 : decode cX2_isBelow 36 = .ok (.iinc 3 1, 3) := by decide +kernel
theorem dX2_isBelow_39 : decode cX2_isBelow 39 = .ok (.goto (-27), 3) := by decide +kernel
theorem dX2_isBelow_42 : decode cX2_isBelow 42 = .ok (.iinc 2 1, 3) := by decide +kernel
theorem dX2_isBelow_45 : decode cX2_isBelow 45 = .ok (.goto (-43), 3) := by decide +kernel
theorem dX2_isBelow_48 : decode cX2_isBelow 48 = .ok (.iconst 1, 1) := by decide +kernel
theorem dX2_isBelow_49 : decode cX2_isBelow 49 = .ok (.ireturn, 1) := by decide +kernel
theorem dX2_hasEachOnce_0 : decode cX2_hasEachOnce 0 = .ok (.lconst 0, 1) := by decide +kernel
theorem dX2_hasEachOnce_1 : decode cX2_hasEachOnce 1 = .ok (.lstore_n 1, 1) := by decide +kernel
theorem dX2_hasEachOnce_2 : decode cX2_hasEachOnce 2 = .ok (.iconst 0, 1) := by decide +kernel
theorem dX2_hasEachOnce_3 : decode cX2_hasEachOnce 3 = .ok (.istore_n 3, 1) := by decide +kernel
theorem dX2_hasEachOnce_4 : decode cX2_hasEachOnce 4 = .ok (.iload_n 3, 1) := by decide +kernel
theorem dX2_hasEachOnce_5 : decode cX2_hasEachOnce 5 = .ok (.aload_n 0, 1) := by decide +kernel
theorem dX2_hasEachOnce_6 : decode cX2_hasEachOnce 6 = .ok (.getfield 20, 3) := by decide +kernel
theorem dX2_hasEachOnce_9 : decode cX2_hasEachOnce 9 = .ok (.if_icmp .ge 45, 3) := by decide +kernel
theorem dX2_hasEachOnce_12 : decode cX2_hasEachOnce 12 = .ok (.iconst 0, 1) := by decide +kernel
theorem dX2_hasEachOnce_13 : decode cX2_hasEachOnce 13 = .ok (.istore 4, 2) := by decide +kernel
theorem dX2_hasEachOnce_15 : decode cX2_hasEachOnce 15 = .ok (.iload 4, 2) := by decide +kernel
theorem dX2_hasEachOnce_17 : decode cX2_hasEachOnce 17 = .ok (.aload_n 0, 1) := by decide +kernel
theorem dX2_hasEachOnce_18 : decode cX2_hasEachOnce 18 = .ok (.getfield 16, 3) := by decide +kernel
theorem dX2_hasEachOnce_21 : decode cX2_hasEachOnce 21 = .ok (.iload_n 3, 1) := by decide +kernel
theorem dX2_hasEachOnce_22 : decode cX2_hasEachOnce 22 = .ok (.iaload, 1) := by decide +kernel
theorem dX2_hasEachOnce_23 : decode cX2_hasEachOnce 23 = .ok (.if_icmp .ge 25, 3) := by decide +kernel
theorem dX2_hasEachOnce_26 : decode cX2_hasEachOnce 26 = .ok (.lload_n 1, 1) := by decide +kernel
theorem dX2_hasEachOnce_27 : decode cX2_hasEachOnce 27 = .ok (.lconst 1, 1) := by decide +kernel
theorem dX2_hasEachOnce_28 : decode cX2_hasEachOnce 28 = .ok (.aload_n 0, 1) := by decide +kernel
theorem dX2_hasEachOnce_29 : decode cX2_hasEachOnce 29 = .ok (.getfield 11, 3) := by decide +kernel
theorem dX2_hasEachOnce_32 : decode cX2_hasEachOnce 32 = .ok (.iload_n 3, 1) := by decide +kernel
theorem dX2_hasEachOnce_33 : decode cX2_hasEachOnce 33 = .ok (.aaload, 1) := by decide +kernel
theorem dX2_hasEachOnce_34 : decode cX2_hasEachOnce 34 = .ok (.iload 4, 2) := by decide +kernel
theorem dX2_hasEachOnce_36 : decode cX2_hasEachOnce 36 = .ok (.iaload, 1) := by decide +kernel
theorem dX2_hasEachOnce_37 : decode cX2_hasEachOnce 37 = .ok (.iconst 1, 1) := by decide +kernel
theorem dX2_hasEachOnce_38 : decode cX2_hasEachOnce 38 = .ok (.isub, 1) := by decide +kernel
theorem dX2_hasEachOnce_39 : decode cX2_hasEachOnce 39 = .ok (.lshl, 1) := by decide +kernel
theorem dX2_hasEachOnce_40 : decode cX2_hasEachOnce 40 = .ok (.lor, 1) := by decide +kernel
theorem dX2_hasEachOnce_41 : decode cX2_hasEachOnce 41 = .ok (.lstore_n 1, 1) := by decide +kernel
theorem dX2_hasEachOnce_42 : decode cX2_hasEachOnce 42 = .ok (.iinc 4 1, 3) := by decide +kernel
theorem dX2_hasEachOnce_45 : decode cX2_hasEachOnce 45 = .ok (.goto (-30), 3) := by decide +kernel
theorem dX2_hasEachOnce_48 : decode cX2_hasEachOnce 48 = .ok (.iinc 3 1, 3) := by decide +kernel
theorem dX2_hasEachOnce_51 : decode cX2_hasEachOnce 51 = .ok (.goto (-47), 3) := by decide +kernel
theorem dX2_hasEachOnce_54 : decode cX2_hasEachOnce 54 = .ok (.lload_n 1, 1) := by decide +kernel
theorem dX2_hasEachOnce_55 : decode cX2_hasEachOnce 55 = .ok (.lconst 1, 1) := by decide +kernel
theorem dX2_hasEachOnce_56 : decode cX2_hasEachOnce 56 = .ok (.aload_n 0, 1) := by decide +kernel
theorem dX2_hasEachOnce_57 : decode cX2_hasEachOnce 57 = .ok (.getfield 24, 3) := by decide +kernel
theorem dX2_hasEachOnce_60 : decode cX2_hasEachOnce 60 = .ok (.lshl, 1) := by decide +kernel
theorem dX2_hasEachOnce_61 : decode cX2_hasEachOnce 61 = .ok (.lconst 1, 1) := by decide +kernel
theorem dX2_hasEachOnce_62 : decode cX2_hasEachOnce 62 = .ok (.lsub, 1) := by decide +kernel
theorem dX2_hasEachOnce_63 : decode cX2_hasEachOnce 63 = .ok (.lcmp, 1) := by decide +kernel
theorem dX2_hasEachOnce_64 : decode cX2_hasEachOnce 64 = .ok (.ifCond .ne 7, 3) := by decide +kernel
theorem dX2_hasEachOnce_67 : decode cX2_hasEachOnce 67 = .ok (.iconst 1, 1) := by decide +kernel
theorem dX2_hasEachOnce_68 : decode cX2_hasEachOnce 68 = .ok (.goto 4, 3) := by decide +kernel
theorem dX2_hasEachOnce_71 : decode cX2_hasEachOnce 71 = .ok (.iconst 0, 1) := by decide +kernel
theorem dX2_hasEachOnce_72 : decode cX2_hasEachOnce 72 = .ok (.ireturn, 1) := by decide +kernel
set_option maxRecDepth 20000 in
theorem ggX3_init_X2_init : GoodIn wsX3_init wsX2_init := goodIn_r _ [11, 12, 2, 3, 13, 14, 15, 16, 17, 18, 19, 20, 21, 22] (by decide +kernel) (by decide +kernel)
set_option maxRecDepth 20000 in
theorem gX3_init_X2_init : GoodIn wsX3_init (wsX2_init) := ggX3_init_X2_init
theorem dX3_init_0 : decode cX3_init 0 = .ok (.aload_n 0, 1) := by decide +kernel
theorem dX3_init_1 : decode cX3_init 1 = .ok (.invokespecial 1, 3) := by decide +kernel
theorem dX3_init_4 : decode cX3_init 4 = .ok (.aload_n 0, 1) := by decide +kernel
theorem dX3_init_5 : decode cX3_init 5 = .ok (.new 7, 3) := by decide +kernel
theorem dX3_init_8 : decode cX3_init 8 = .ok (.dup, 1) := by decide +kernel
theorem dX3_init_9 : decode cX3_init 9 = .ok (.invokespecial 9, 3) := by decide +kernel
theorem dX3_init_12 : decode cX3_init 12 = .ok (.putfield 10, 3) := by decide +kernel
theorem dX3_init_15 : decode cX3_init 15 = .ok (.aload_n 0, 1) := by decide +kernel
theorem dX3_init_16 : decode cX3_init 16 = .ok (.new 7, 3) := by decide +kernel
theorem dX3_init_19 : decode cX3_init 19 = .ok (.dup, 1) := by decide +kernel
theorem dX3_init_20 : decode cX3_init 20 = .ok (.invokespecial 9, 3) := by decide +kernel
theorem dX3_init_23 : decode cX3_init 23 = .ok (.putfield 16, 3) := by decide +kernel
theorem dX3_init_26 : decode cX3_init 26 = .ok (.return_, 1) := by decide +kernel
set_option maxRecDepth 20000 in
theorem ggX3_letterCount_X2_placeCount : GoodIn wsX3_letterCount wsX2_placeCount := goodIn_r _ [6, 7, 10, 11, 12, 13] (by decide +kernel) (by decide +kernel)
set_option maxRecDepth 20000 in
theorem gX3_letterCount_X2_placeCount : GoodIn wsX3_letterCount (wsV RX3 19 RX2 yX2_placeCount wsX2_placeCount) := goodIn_app (goodIn_of _ (by decide +kernel)) ggX3_letterCount_X2_placeCount
theorem dX3_letterCount_0 : decode cX3_letterCount 0 = .ok (.aload_n 0, 1) := by decide +kernel
theorem dX3_letterCount_1 : decode cX3_letterCount 1 = .ok (.getfield 10, 3) := by decide +kernel
theorem dX3_letterCount_4 : decode cX3_letterCount 4 = .ok (.invokevirtual 19, 3) := by decide +kernel
theorem dX3_letterCount_7 : decode cX3_letterCount 7 = .ok (.ireturn, 1) := by decide +kernel
theorem dX3_tableau_0 : decode cX3_tableau 0 = .ok (.iload_n 1, 1) := by decide +kernel
theorem dX3_tableau_1 : decode cX3_tableau 1 = .ok (.ifCond .ne 10, 3) := by decide +kernel
theorem dX3_tableau_4 : decode cX3_tableau 4 = .ok (.aload_n 0, 1) := by decide +kernel
theorem dX3_tableau_5 : decode cX3_tableau 5 = .ok (.getfield 10, 3) := by decide +kernel
theorem dX3_tableau_8 : decode cX3_tableau 8 = .ok (.goto 7, 3) := by decide +kernel
theorem dX3_tableau_11 : decode cX3_tableau 11 = .ok (.aload_n 0, 1) := by decide +kernel
theorem dX3_tableau_12 : decode cX3_tableau 12 = .ok (.getfield 16, 3) := by decide +kernel
theorem dX3_tableau_15 : decode cX3_tableau 15 = .ok (.areturn, 1) := by decide +kernel
set_option maxRecDepth 20000 in
theorem ggX3_forget_X2_empty : GoodIn wsX3_forget wsX2_empty := goodIn_r _ [7, 8, 9, 10, 11, 12, 13, 14, 17, 18, 19, 20] (by decide +kernel) (by decide +kernel)
set_option maxRecDepth 20000 in
theorem gX3_forget_X2_empty : GoodIn wsX3_forget (wsV RX3 23 RX2 yX2_empty wsX2_empty) := goodIn_app (goodIn_of _ (by decide +kernel)) ggX3_forget_X2_empty
theorem dX3_forget_0 : decode cX3_forget 0 = .ok (.aload_n 0, 1) := by decide +kernel
theorem dX3_forget_1 : decode cX3_forget 1 = .ok (.getfield 10, 3) := by decide +kernel
theorem dX3_forget_4 : decode cX3_forget 4 = .ok (.invokevirtual 23, 3) := by decide +kernel
theorem dX3_forget_7 : decode cX3_forget 7 = .ok (.aload_n 0, 1) := by decide +kernel
theorem dX3_forget_8 : decode cX3_forget 8 = .ok (.getfield 16, 3) := by decide +kernel
theorem dX3_forget_11 : decode cX3_forget 11 = .ok (.invokevirtual 23, 3) := by decide +kernel
theorem dX3_forget_14 : decode cX3_forget 14 = .ok (.return_, 1) := by decide +kernel
set_option maxRecDepth 20000 in
theorem ggX3_become_X3_forget : GoodIn wsX3_become wsX3_forget := goodIn_r _ [5, 6, 7, 8, 9, 10, 11, 12, 13, 14, 15, 16, 17, 18, 19, 65, 66, 67, 68, 69, 70] (by decide +kernel) (by decide +kernel)
set_option maxRecDepth 20000 in
theorem gX3_become_X3_forget : GoodIn wsX3_become (wsV RX3 26 RX3 yX3_forget wsX3_forget) := goodIn_app (goodIn_of _ (by decide +kernel)) ggX3_become_X3_forget
set_option maxRecDepth 20000 in
theorem ggX3_become_X3_takeLetter : GoodIn wsX3_become wsX3_takeLetter := goodIn_r _ [23, 6, 7, 24, 25, 26, 11, 27, 28, 29, 30, 31, 32, 33, 34, 35, 36, 13, 37, 38, 39, 40, 41, 42, 43, 44, 15, 14, 45, 46, 47, 48, 49, 50, 51, 52, 53, 54, 55, 56, 57, 58, 4, 59, 60, 61, 62, 63, 64, 65, 66, 67, 68, 69, 70] (by decide +kernel) (by decide +kernel)
set_option maxRecDepth 20000 in
theorem gX3_become_X3_takeLetter : GoodIn wsX3_become (wsV RX3 29 RX3 yX3_takeLetter wsX3_takeLetter) := goodIn_app (goodIn_of _ (by decide +kernel)) ggX3_become_X3_takeLetter
theorem dX3_become_0 : decode cX3_become 0 = .ok (.aload_n 0, 1) := by decide +kernel
theorem dX3_become_1 : decode cX3_become 1 = .ok (.invokevirtual 26, 3) := by decide +kernel
theorem dX3_become_4 : decode cX3_become 4 = .ok (.iconst 0, 1) := by decide +kernel
theorem dX3_become_5 : decode cX3_become 5 = .ok (.istore_n 3, 1) := by decide +kernel
theorem dX3_become_6 : decode cX3_become 6 = .ok (.iload_n 3, 1) := by decide +kernel
theorem dX3_become_7 : decode cX3_become 7 = .ok (.iload_n 2, 1) := by decide +kernel
theorem dX3_become_8 : decode cX3_become 8 = .ok (.if_icmp .ge 16, 3) := by decide +kernel
theorem dX3_become_11 : decode cX3_become 11 = .ok (.aload_n 0, 1) := by decide +kernel
theorem dX3_become_12 : decode cX3_become 12 = .ok (.aload_n 1, 1) := by decide +kernel
theorem dX3_become_13 : decode cX3_become 13 = .ok (.iload_n 3, 1) := by decide +kernel
theorem dX3_become_14 : decode cX3_become 14 = .ok (.iaload, 1) := by decide +kernel
theorem dX3_become_15 : decode cX3_become 15 = .ok (.invokevirtual 29, 3) := by decide +kernel
theorem dX3_become_18 : decode cX3_become 18 = .ok (.iinc 3 1, 3) := by decide +kernel
theorem dX3_become_21 : decode cX3_become 21 = .ok (.goto (-15), 3) := by decide +kernel
theorem dX3_become_24 : decode cX3_become 24 = .ok (.return_, 1) := by decide +kernel
set_option maxRecDepth 20000 in
theorem ggX3_takeLetter_X2_insert : GoodIn wsX3_takeLetter wsX2_insert := goodIn_r _ [7, 8, 9, 10, 6, 11, 12, 13, 14, 15, 16, 17, 18, 19, 20, 21, 22, 23, 24, 25, 26, 27, 28, 29, 30, 31, 32, 33, 34, 35, 36, 37, 38, 51, 52, 53, 54] (by decide +kernel) (by decide +kernel)
set_option maxRecDepth 20000 in
theorem gX3_takeLetter_X2_insert : GoodIn wsX3_takeLetter (wsV RX3 33 RX2 yX2_insert wsX2_insert) := goodIn_app (goodIn_of _ (by decide +kernel)) ggX3_takeLetter_X2_insert
set_option maxRecDepth 20000 in
theorem ggX3_takeLetter_X3_letterCount : GoodIn wsX3_takeLetter wsX3_letterCount := goodIn_r _ [43, 1, 44, 45, 46, 6, 47, 26, 49, 50, 51, 52, 53, 54] (by decide +kernel) (by decide +kernel)
set_option maxRecDepth 20000 in
theorem gX3_takeLetter_X3_letterCount : GoodIn wsX3_takeLetter (wsV RX3 37 RX3 yX3_letterCount wsX3_letterCount) := goodIn_app (goodIn_of _ (by decide +kernel)) ggX3_takeLetter_X3_letterCount
set_option maxRecDepth 20000 in
theorem ggX3_takeLetter_X2_append : GoodIn wsX3_takeLetter wsX2_append := goodIn_r _ [25, 26, 12, 17, 27, 28, 29, 30, 31, 32, 33, 34, 51, 52, 53, 54] (by decide +kernel) (by decide +kernel)
set_option maxRecDepth 20000 in
theorem gX3_takeLetter_X2_append : GoodIn wsX3_takeLetter (wsV RX3 40 RX2 yX2_append wsX2_append) := goodIn_app (goodIn_of _ (by decide +kernel)) ggX3_takeLetter_X2_append
theorem dX3_takeLetter_0 : decode cX3_takeLetter 0 = .ok (.aload_n 0, 1) := by decide +kernel
theorem dX3_takeLetter_1 : decode cX3_takeLetter 1 = .ok (.getfield 10, 3) := by decide +kernel
theorem dX3_takeLetter_4 : decode cX3_takeLetter 4 = .ok (.iload_n 1, 1) := by decide +kernel
theorem dX3_takeLetter_5 : decode cX3_takeLetter 5 = .ok (.invokevirtual 33, 3) := by decide +kernel
theorem dX3_takeLetter_8 : decode cX3_takeLetter 8 = .ok (.istore_n 2, 1) := by decide +kernel
theorem dX3_takeLetter_9 : decode cX3_takeLetter 9 = .ok (.aload_n 0, 1) := by decide +kernel
theorem dX3_takeLetter_10 : decode cX3_takeLetter 10 = .ok (.getfield 16, 3) := by decide +kernel
theorem dX3_takeLetter_13 : decode cX3_takeLetter 13 = .ok (.iload_n 2, 1) := by decide +kernel
theorem dX3_takeLetter_14 : decode cX3_takeLetter 14 = .ok (.aload_n 0, 1) := by decide +kernel
theorem dX3_takeLetter_15 : decode cX3_takeLetter 15 = .ok (.invokevirtual 37, 3) := by decide +kernel
theorem dX3_takeLetter_18 : decode cX3_takeLetter 18 = .ok (.invokevirtual 40, 3) := by decide +kernel
theorem dX3_takeLetter_21 : decode cX3_takeLetter 21 = .ok (.return_, 1) := by decide +kernel
theorem dJ9_max_7cf53_0 : decode cJ9_max_7cf53 0 = .ok (.iload_n 0, 1) := by decide +kernel
theorem dJ9_max_7cf53_1 : decode cJ9_max_7cf53 1 = .ok (.iload_n 1, 1) := by decide +kernel
theorem dJ9_max_7cf53_2 : decode cJ9_max_7cf53 2 = .ok (.if_icmp .lt 7, 3) := by decide +kernel
theorem dJ9_max_7cf53_5 : decode cJ9_max_7cf53 5 = .ok (.iload_n 0, 1) := by decide +kernel
theorem dJ9_max_7cf53_6 : decode cJ9_max_7cf53 6 = .ok (.goto 4, 3) := by decide +kernel
theorem dJ9_max_7cf53_9 : decode cJ9_max_7cf53 9 = .ok (.iload_n 1, 1) := by decide +kernel
theorem dJ9_max_7cf53_10 : decode cJ9_max_7cf53 10 = .ok (.ireturn, 1) := by decide +kernel
theorem dJ9_min_7cf53_0 : decode cJ9_min_7cf53 0 = .ok (.iload_n 0, 1) := by decide +kernel
theorem dJ9_min_7cf53_1 : decode cJ9_min_7cf53 1 = .ok (.iload_n 1, 1) := by decide +kernel
theorem dJ9_min_7cf53_2 : decode cJ9_min_7cf53 2 = .ok (.if_icmp .gt 7, 3) := by decide +kernel
theorem dJ9_min_7cf53_5 : decode cJ9_min_7cf53 5 = .ok (.iload_n 0, 1) := by decide +kernel
theorem dJ9_min_7cf53_6 : decode cJ9_min_7cf53 6 = .ok (.goto 4, 3) := by decide +kernel
theorem dJ9_min_7cf53_9 : decode cJ9_min_7cf53 9 = .ok (.iload_n 1, 1) := by decide +kernel
theorem dJ9_min_7cf53_10 : decode cJ9_min_7cf53 10 = .ok (.ireturn, 1) := by decide +kernel
theorem dJ7_fill_d0a16_0 : decode cJ7_fill_d0a16 0 = .ok (.iconst 0, 1) := by decide +kernel
theorem dJ7_fill_d0a16_1 : decode cJ7_fill_d0a16 1 = .ok (.istore_n 3, 1) := by decide +kernel
theorem dJ7_fill_d0a16_2 : decode cJ7_fill_d0a16 2 = .ok (.aload_n 0, 1) := by decide +kernel
theorem dJ7_fill_d0a16_3 : decode cJ7_fill_d0a16 3 = .ok (.arraylength, 1) := by decide +kernel
theorem dJ7_fill_d0a16_4 : decode cJ7_fill_d0a16 4 = .ok (.istore 4, 2) := by decide +kernel
theorem dJ7_fill_d0a16_6 : decode cJ7_fill_d0a16 6 = .ok (.iload_n 3, 1) := by decide +kernel
theorem dJ7_fill_d0a16_7 : decode cJ7_fill_d0a16 7 = .ok (.iload 4, 2) := by decide +kernel
theorem dJ7_fill_d0a16_9 : decode cJ7_fill_d0a16 9 = .ok (.if_icmp .ge 13, 3) := by decide +kernel
theorem dJ7_fill_d0a16_12 : decode cJ7_fill_d0a16 12 = .ok (.aload_n 0, 1) := by decide +kernel
theorem dJ7_fill_d0a16_13 : decode cJ7_fill_d0a16 13 = .ok (.iload_n 3, 1) := by decide +kernel
theorem dJ7_fill_d0a16_14 : decode cJ7_fill_d0a16 14 = .ok (.lload_n 1, 1) := by decide +kernel
theorem dJ7_fill_d0a16_15 : decode cJ7_fill_d0a16 15 = .ok (.lastore, 1) := by decide +kernel
theorem dJ7_fill_d0a16_16 : decode cJ7_fill_d0a16 16 = .ok (.iinc 3 1, 3) := by decide +kernel
theorem dJ7_fill_d0a16_19 : decode cJ7_fill_d0a16 19 = .ok (.goto (-13), 3) := by decide +kernel
theorem dJ7_fill_d0a16_22 : decode cJ7_fill_d0a16 22 = .ok (.return_, 1) := by decide +kernel
theorem dJ7_fill_53178_0 : decode cJ7_fill_53178 0 = .ok (.iconst 0, 1) := by decide +kernel
theorem dJ7_fill_53178_1 : decode cJ7_fill_53178 1 = .ok (.istore_n 2, 1) := by decide +kernel
theorem dJ7_fill_53178_2 : decode cJ7_fill_53178 2 = .ok (.aload_n 0, 1) := by decide +kernel
theorem dJ7_fill_53178_3 : decode cJ7_fill_53178 3 = .ok (.arraylength, 1) := by decide +kernel
theorem dJ7_fill_53178_4 : decode cJ7_fill_53178 4 = .ok (.istore_n 3, 1) := by decide +kernel
theorem dJ7_fill_53178_5 : decode cJ7_fill_53178 5 = .ok (.iload_n 2, 1) := by decide +kernel
theorem dJ7_fill_53178_6 : decode cJ7_fill_53178 6 = .ok (.iload_n 3, 1) := by decide +kernel
theorem dJ7_fill_53178_7 : decode cJ7_fill_53178 7 = .ok (.if_icmp .ge 13, 3) := by decide +kernel
theorem dJ7_fill_53178_10 : decode cJ7_fill_53178 10 = .ok (.aload_n 0, 1) := by decide +kernel
theorem dJ7_fill_53178_11 : decode cJ7_fill_53178 11 = .ok (.iload_n 2, 1) := by decide +kernel
theorem dJ7_fill_53178_12 : decode cJ7_fill_53178 12 = .ok (.iload_n 1, 1) := by decide +kernel
theorem dJ7_fill_53178_13 : decode cJ7_fill_53178 13 = .ok (.iastore, 1) := by decide +kernel
theorem dJ7_fill_53178_14 : decode cJ7_fill_53178 14 = .ok (.iinc 2 1, 3) := by decide +kernel
theorem dJ7_fill_53178_17 : decode cJ7_fill_53178 17 = .ok (.goto (-12), 3) := by decide +kernel
theorem dJ7_fill_53178_20 : decode cJ7_fill_53178 20 = .ok (.return_, 1) := by decide +kernel
