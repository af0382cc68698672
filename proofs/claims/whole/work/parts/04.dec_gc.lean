set_option maxRecDepth 20000 in
theorem ggX4_init_X0_init : GoodIn wsX4_init wsX0_init := goodIn_r _ [25, 26, 2, 3, 27, 28, 29, 21, 30, 31, 32, 33, 34, 35, 60, 61, 62, 63, 64, 65] (by decide +kernel) (by decide +kernel)
set_option maxRecDepth 20000 in
theorem gX4_init_X0_init : GoodIn wsX4_init (wsX0_init) := ggX4_init_X0_init
set_option maxRecDepth 20000 in
theorem ggX4_init_X1_init : GoodIn wsX4_init wsX1_init := goodIn_r _ [38, 39, 2, 3, 33, 40, 41, 42, 72, 73, 74] (by decide +kernel) (by decide +kernel)
set_option maxRecDepth 20000 in
theorem gX4_init_X1_init : GoodIn wsX4_init (wsX1_init) := ggX4_init_X1_init
set_option maxRecDepth 20000 in
theorem ggX4_init_X3_init : GoodIn wsX4_init wsX3_init := goodIn_r _ [45, 46, 2, 3, 47, 17, 18, 48, 49, 50, 51, 52, 53, 54, 21, 55, 56, 57, 58, 77, 78, 79, 80, 75, 76] (by decide +kernel) (by decide +kernel)
set_option maxRecDepth 20000 in
theorem gX4_init_X3_init : GoodIn wsX4_init (wsX3_init) := ggX4_init_X3_init
set_option maxRecDepth 20000 in
theorem ggX4_init_X2_init : GoodIn wsX4_init wsX2_init := goodIn_r _ [52, 53, 2, 3, 54, 21, 55, 56, 57, 58, 77, 78, 79, 80] (by decide +kernel) (by decide +kernel)
set_option maxRecDepth 20000 in
theorem gX4_init_X2_init : GoodIn wsX4_init (wsX2_init) := ggX4_init_X2_init
theorem dX4_init_0 : decode cX4_init 0 = .ok (.aload_n 0, 1) := by decide +kernel
theorem dX4_init_1 : decode cX4_init 1 = .ok (.invokespecial 1, 3) := by decide +kernel
theorem dX4_init_4 : decode cX4_init 4 = .ok (.aload_n 0, 1) := by decide +kernel
theorem dX4_init_5 : decode cX4_init 5 = .ok (.new 7, 3) := by decide +kernel
theorem dX4_init_8 : decode cX4_init 8 = .ok (.dup, 1) := by decide +kernel
theorem dX4_init_9 : decode cX4_init 9 = .ok (.invokespecial 9, 3) := by decide +kernel
theorem dX4_init_12 : decode cX4_init 12 = .ok (.putfield 10, 3) := by decide +kernel
theorem dX4_init_15 : decode cX4_init 15 = .ok (.aload_n 0, 1) := by decide +kernel
theorem dX4_init_16 : decode cX4_init 16 = .ok (.iconst 4, 1) := by decide +kernel
theorem dX4_init_17 : decode cX4_init 17 = .ok (.anewarray 16, 3) := by decide +kernel
theorem dX4_init_20 : decode cX4_init 20 = .ok (.putfield 18, 3) := by decide +kernel
theorem dX4_init_23 : decode cX4_init 23 = .ok (.iconst 0, 1) := by decide +kernel
theorem dX4_init_24 : decode cX4_init 24 = .ok (.istore_n 1, 1) := by decide +kernel
theorem dX4_init_25 : decode cX4_init 25 = .ok (.iload_n 1, 1) := by decide +kernel
theorem dX4_init_26 : decode cX4_init 26 = .ok (.iconst 4, 1) := by decide +kernel
theorem dX4_init_27 : decode cX4_init 27 = .ok (.if_icmp .ge 22, 3) := by decide +kernel
theorem dX4_init_30 : decode cX4_init 30 = .ok (.aload_n 0, 1) := by decide +kernel
theorem dX4_init_31 : decode cX4_init 31 = .ok (.getfield 18, 3) := by decide +kernel
theorem dX4_init_34 : decode cX4_init 34 = .ok (.iload_n 1, 1) := by decide +kernel
theorem dX4_init_35 : decode cX4_init 35 = .ok (.new 16, 3) := by decide +kernel
theorem dX4_init_38 : decode cX4_init 38 = .ok (.dup, 1) := by decide +kernel
theorem dX4_init_39 : decode cX4_init 39 = .ok (.invokespecial 22, 3) := by decide +kernel
theorem dX4_init_42 : decode cX4_init 42 = .ok (.aastore, 1) := by decide +kernel
theorem dX4_init_43 : decode cX4_init 43 = .ok (.iinc 1 1, 3) := by decide +kernel
theorem dX4_init_46 : decode cX4_init 46 = .ok (.goto (-21), 3) := by decide +kernel
theorem dX4_init_49 : decode cX4_init 49 = .ok (.aload_n 0, 1) := by decide +kernel
theorem dX4_init_50 : decode cX4_init 50 = .ok (.new 23, 3) := by decide +kernel
theorem dX4_init_53 : decode cX4_init 53 = .ok (.dup, 1) := by decide +kernel
theorem dX4_init_54 : decode cX4_init 54 = .ok (.invokespecial 25, 3) := by decide +kernel
theorem dX4_init_57 : decode cX4_init 57 = .ok (.putfield 26, 3) := by decide +kernel
theorem dX4_init_60 : decode cX4_init 60 = .ok (.aload_n 0, 1) := by decide +kernel
theorem dX4_init_61 : decode cX4_init 61 = .ok (.new 30, 3) := by decide +kernel
theorem dX4_init_64 : decode cX4_init 64 = .ok (.dup, 1) := by decide +kernel
theorem dX4_init_65 : decode cX4_init 65 = .ok (.invokespecial 32, 3) := by decide +kernel
theorem dX4_init_68 : decode cX4_init 68 = .ok (.putfield 33, 3) := by decide +kernel
theorem dX4_init_71 : decode cX4_init 71 = .ok (.aload_n 0, 1) := by decide +kernel
theorem dX4_init_72 : decode cX4_init 72 = .ok (.new 30, 3) := by decide +kernel
theorem dX4_init_75 : decode cX4_init 75 = .ok (.dup, 1) := by decide +kernel
theorem dX4_init_76 : decode cX4_init 76 = .ok (.invokespecial 32, 3) := by decide +kernel
theorem dX4_init_79 : decode cX4_init 79 = .ok (.putfield 37, 3) := by decide +kernel
theorem dX4_init_82 : decode cX4_init 82 = .ok (.aload_n 0, 1) := by decide +kernel
theorem dX4_init_83 : decode cX4_init 83 = .ok (.bipush 40, 2) := by decide +kernel
theorem dX4_init_85 : decode cX4_init 85 = .ok (.newarray .int, 2) := by decide +kernel
theorem dX4_init_87 : decode cX4_init 87 = .ok (.putfield 40, 3) := by decide +kernel
theorem dX4_init_90 : decode cX4_init 90 = .ok (.return_, 1) := by decide +kernel
set_option maxRecDepth 20000 in
theorem ggX4_box_X4_isWithin : GoodIn wsX4_box wsX4_isWithin := goodIn_r _ [5] (by decide +kernel) (by decide +kernel)
set_option maxRecDepth 20000 in
theorem gX4_box_X4_isWithin : GoodIn wsX4_box (va_wsS RX4 44 yX4_isWithin wsX4_isWithin) := goodIn_app (goodIn_of _ (by decide +kernel)) ggX4_box_X4_isWithin
set_option maxRecDepth 20000 in
theorem ggX4_box_X0_reset : GoodIn wsX4_box wsX0_reset := goodIn_r _ [10, 11, 12, 13, 14, 15, 16, 17, 24, 25, 26, 27, 28, 29] (by decide +kernel) (by decide +kernel)
set_option maxRecDepth 20000 in
theorem gX4_box_X0_reset : GoodIn wsX4_box (wsV RX4 48 RX0 yX0_reset wsX0_reset) := goodIn_app (goodIn_of _ (by decide +kernel)) ggX4_box_X0_reset
theorem dX4_box_0 : decode cX4_box 0 = .ok (.iload_n 1, 1) := by decide +kernel
theorem dX4_box_1 : decode cX4_box 1 = .ok (.iconst 1, 1) := by decide +kernel
theorem dX4_box_2 : decode cX4_box 2 = .ok (.bipush 6, 2) := by decide +kernel
theorem dX4_box_4 : decode cX4_box 4 = .ok (.invokestatic 44, 3) := by decide +kernel
theorem dX4_box_7 : decode cX4_box 7 = .ok (.ifCond .eq 13, 3) := by decide +kernel
theorem dX4_box_10 : decode cX4_box 10 = .ok (.iload_n 2, 1) := by decide +kernel
theorem dX4_box_11 : decode cX4_box 11 = .ok (.iconst 1, 1) := by decide +kernel
theorem dX4_box_12 : decode cX4_box 12 = .ok (.bipush 6, 2) := by decide +kernel
theorem dX4_box_14 : decode cX4_box 14 = .ok (.invokestatic 44, 3) := by decide +kernel
theorem dX4_box_17 : decode cX4_box 17 = .ok (.ifCond .ne 5, 3) := by decide +kernel
theorem dX4_box_20 : decode cX4_box 20 = .ok (.iconst (-1), 1) := by decide +kernel
theorem dX4_box_21 : decode cX4_box 21 = .ok (.ireturn, 1) := by decide +kernel
theorem dX4_box_22 : decode cX4_box 22 = .ok (.aload_n 0, 1) := by decide +kernel
theorem dX4_box_23 : decode cX4_box 23 = .ok (.getfield 10, 3) := by decide +kernel
theorem dX4_box_26 : decode cX4_box 26 = .ok (.iload_n 1, 1) := by decide +kernel
theorem dX4_box_27 : decode cX4_box 27 = .ok (.iload_n 2, 1) := by decide +kernel
theorem dX4_box_28 : decode cX4_box 28 = .ok (.invokevirtual 48, 3) := by decide +kernel
theorem dX4_box_31 : decode cX4_box 31 = .ok (.iconst 1, 1) := by decide +kernel
theorem dX4_box_32 : decode cX4_box 32 = .ok (.ireturn, 1) := by decide +kernel
set_option maxRecDepth 20000 in
theorem ggX4_weight_X0_hasPlace : GoodIn wsX4_weight wsX0_hasPlace := goodIn_r _ [6, 7, 8, 9, 10, 11, 27, 28, 29, 30, 31, 32] (by decide +kernel) (by decide +kernel)
set_option maxRecDepth 20000 in
theorem gX4_weight_X0_hasPlace : GoodIn wsX4_weight (wsV RX4 52 RX0 yX0_hasPlace wsX0_hasPlace) := goodIn_app (goodIn_of _ (by decide +kernel)) ggX4_weight_X0_hasPlace
set_option maxRecDepth 20000 in
theorem ggX4_weight_X4_isWeight : GoodIn wsX4_weight wsX4_isWeight := goodIn_r _ [14, 15] (by decide +kernel) (by decide +kernel)
set_option maxRecDepth 20000 in
theorem gX4_weight_X4_isWeight : GoodIn wsX4_weight (va_wsS RX4 56 yX4_isWeight wsX4_isWeight) := goodIn_app (goodIn_of _ (by decide +kernel)) ggX4_weight_X4_isWeight
set_option maxRecDepth 20000 in
theorem ggX4_weight_X0_exchange : GoodIn wsX4_weight wsX0_exchange := goodIn_r _ [19, 20, 27, 28, 29, 30, 31, 32] (by decide +kernel) (by decide +kernel)
set_option maxRecDepth 20000 in
theorem gX4_weight_X0_exchange : GoodIn wsX4_weight (wsV RX4 60 RX0 yX0_exchange wsX0_exchange) := goodIn_app (goodIn_of _ (by decide +kernel)) ggX4_weight_X0_exchange
theorem dX4_weight_0 : decode cX4_weight 0 = .ok (.aload_n 0, 1) := by decide +kernel
theorem dX4_weight_1 : decode cX4_weight 1 = .ok (.getfield 10, 3) := by decide +kernel
theorem dX4_weight_4 : decode cX4_weight 4 = .ok (.iload_n 1, 1) := by decide +kernel
theorem dX4_weight_5 : decode cX4_weight 5 = .ok (.iload_n 2, 1) := by decide +kernel
theorem dX4_weight_6 : decode cX4_weight 6 = .ok (.invokevirtual 52, 3) := by decide +kernel
theorem dX4_weight_9 : decode cX4_weight 9 = .ok (.ifCond .eq 11, 3) := by decide +kernel
theorem dX4_weight_12 : decode cX4_weight 12 = .ok (.iload_n 3, 1) := by decide +kernel
theorem dX4_weight_13 : decode cX4_weight 13 = .ok (.i2l, 1) := by decide +kernel
theorem dX4_weight_14 : decode cX4_weight 14 = .ok (.invokestatic 56, 3) := by decide +kernel
theorem dX4_weight_17 : decode cX4_weight 17 = .ok (.ifCond .ne 5, 3) := by decide +kernel
theorem dX4_weight_20 : decode cX4_weight 20 = .ok (.iconst (-1), 1) := by decide +kernel
theorem dX4_weight_21 : decode cX4_weight 21 = .ok (.ireturn, 1) := by decide +kernel
theorem dX4_weight_22 : decode cX4_weight 22 = .ok (.aload_n 0, 1) := by decide +kernel
theorem dX4_weight_23 : decode cX4_weight 23 = .ok (.getfield 10, 3) := by decide +kernel
theorem dX4_weight_26 : decode cX4_weight 26 = .ok (.iload_n 1, 1) := by decide +kernel
theorem dX4_weight_27 : decode cX4_weight 27 = .ok (.iload_n 2, 1) := by decide +kernel
theorem dX4_weight_28 : decode cX4_weight 28 = .ok (.iload_n 3, 1) := by decide +kernel
theorem dX4_weight_29 : decode cX4_weight 29 = .ok (.invokevirtual 60, 3) := by decide +kernel
theorem dX4_weight_32 : decode cX4_weight 32 = .ok (.ireturn, 1) := by decide +kernel
set_option maxRecDepth 20000 in
theorem ggX4_sheet_X4_isSheet : GoodIn wsX4_sheet wsX4_isSheet := goodIn_r _ [5, 6, 7, 4, 8] (by decide +kernel) (by decide +kernel)
set_option maxRecDepth 20000 in
theorem gX4_sheet_X4_isSheet : GoodIn wsX4_sheet (va_wsS RX4 64 yX4_isSheet wsX4_isSheet) := goodIn_app (goodIn_of _ (by decide +kernel)) ggX4_sheet_X4_isSheet
set_option maxRecDepth 20000 in
theorem ggX4_sheet_X4_isLane : GoodIn wsX4_sheet wsX4_isLane := goodIn_r _ [11, 6, 7, 4, 8] (by decide +kernel) (by decide +kernel)
set_option maxRecDepth 20000 in
theorem gX4_sheet_X4_isLane : GoodIn wsX4_sheet (va_wsS RX4 68 yX4_isLane wsX4_isLane) := goodIn_app (goodIn_of _ (by decide +kernel)) ggX4_sheet_X4_isLane
set_option maxRecDepth 20000 in
theorem ggX4_sheet_X1_renew : GoodIn wsX4_sheet wsX1_renew := goodIn_r _ [16, 17, 18, 19, 20, 21, 22, 23, 30, 31, 32] (by decide +kernel) (by decide +kernel)
set_option maxRecDepth 20000 in
theorem gX4_sheet_X1_renew : GoodIn wsX4_sheet (wsV RX4 71 RX1 yX1_renew wsX1_renew) := goodIn_app (goodIn_of _ (by decide +kernel)) ggX4_sheet_X1_renew
theorem dX4_sheet_0 : decode cX4_sheet 0 = .ok (.iload_n 1, 1) := by decide +kernel
theorem dX4_sheet_1 : decode cX4_sheet 1 = .ok (.invokestatic 64, 3) := by decide +kernel
theorem dX4_sheet_4 : decode cX4_sheet 4 = .ok (.ifCond .eq 16, 3) := by decide +kernel
theorem dX4_sheet_7 : decode cX4_sheet 7 = .ok (.iload_n 2, 1) := by decide +kernel
theorem dX4_sheet_8 : decode cX4_sheet 8 = .ok (.invokestatic 68, 3) := by decide +kernel
theorem dX4_sheet_11 : decode cX4_sheet 11 = .ok (.ifCond .eq 9, 3) := by decide +kernel
theorem dX4_sheet_14 : decode cX4_sheet 14 = .ok (.iload_n 3, 1) := by decide +kernel
theorem dX4_sheet_15 : decode cX4_sheet 15 = .ok (.bipush 36, 2) := by decide +kernel
theorem dX4_sheet_17 : decode cX4_sheet 17 = .ok (.if_icmp .le 5, 3) := by decide +kernel
theorem dX4_sheet_20 : decode cX4_sheet 20 = .ok (.iconst (-1), 1) := by decide +kernel
theorem dX4_sheet_21 : decode cX4_sheet 21 = .ok (.ireturn, 1) := by decide +kernel
theorem dX4_sheet_22 : decode cX4_sheet 22 = .ok (.iload_n 3, 1) := by decide +kernel
theorem dX4_sheet_23 : decode cX4_sheet 23 = .ok (.ifCond .ge 6, 3) := by decide +kernel
theorem dX4_sheet_26 : decode cX4_sheet 26 = .ok (.bipush (-14), 2) := by decide +kernel
theorem dX4_sheet_28 : decode cX4_sheet 28 = .ok (.ireturn, 1) := by decide +kernel
theorem dX4_sheet_29 : decode cX4_sheet 29 = .ok (.aload_n 0, 1) := by decide +kernel
theorem dX4_sheet_30 : decode cX4_sheet 30 = .ok (.getfield 18, 3) := by decide +kernel
theorem dX4_sheet_33 : decode cX4_sheet 33 = .ok (.iload_n 1, 1) := by decide +kernel
theorem dX4_sheet_34 : decode cX4_sheet 34 = .ok (.aaload, 1) := by decide +kernel
theorem dX4_sheet_35 : decode cX4_sheet 35 = .ok (.iload_n 2, 1) := by decide +kernel
theorem dX4_sheet_36 : decode cX4_sheet 36 = .ok (.iload_n 3, 1) := by decide +kernel
theorem dX4_sheet_37 : decode cX4_sheet 37 = .ok (.invokevirtual 71, 3) := by decide +kernel
theorem dX4_sheet_40 : decode cX4_sheet 40 = .ok (.iload_n 3, 1) := by decide +kernel
theorem dX4_sheet_41 : decode cX4_sheet 41 = .ok (.ireturn, 1) := by decide +kernel
set_option maxRecDepth 20000 in
theorem ggX4_drop_X4_isSheet : GoodIn wsX4_drop wsX4_isSheet := goodIn_r _ [5, 6, 7, 4, 8] (by decide +kernel) (by decide +kernel)
set_option maxRecDepth 20000 in
theorem gX4_drop_X4_isSheet : GoodIn wsX4_drop (va_wsS RX4 64 yX4_isSheet wsX4_isSheet) := goodIn_app (goodIn_of _ (by decide +kernel)) ggX4_drop_X4_isSheet
set_option maxRecDepth 20000 in
theorem ggX4_drop_X1_isMissing : GoodIn wsX4_drop wsX1_isMissing := goodIn_r _ [13, 14, 26, 27, 28] (by decide +kernel) (by decide +kernel)
set_option maxRecDepth 20000 in
theorem gX4_drop_X1_isMissing : GoodIn wsX4_drop (wsV RX4 74 RX1 yX1_isMissing wsX1_isMissing) := goodIn_app (goodIn_of _ (by decide +kernel)) ggX4_drop_X1_isMissing
set_option maxRecDepth 20000 in
theorem ggX4_drop_X1_vanish : GoodIn wsX4_drop wsX1_vanish := goodIn_r _ [18, 19, 14, 26, 27, 28] (by decide +kernel) (by decide +kernel)
set_option maxRecDepth 20000 in
theorem gX4_drop_X1_vanish : GoodIn wsX4_drop (wsV RX4 78 RX1 yX1_vanish wsX1_vanish) := goodIn_app (goodIn_of _ (by decide +kernel)) ggX4_drop_X1_vanish
theorem dX4_drop_0 : decode cX4_drop 0 = .ok (.iload_n 1, 1) := by decide +kernel
theorem dX4_drop_1 : decode cX4_drop 1 = .ok (.invokestatic 64, 3) := by decide +kernel
theorem dX4_drop_4 : decode cX4_drop 4 = .ok (.ifCond .ne 5, 3) := by decide +kernel
theorem dX4_drop_7 : decode cX4_drop 7 = .ok (.iconst (-1), 1) := by decide +kernel
theorem dX4_drop_8 : decode cX4_drop 8 = .ok (.ireturn, 1) := by decide +kernel
theorem dX4_drop_9 : decode cX4_drop 9 = .ok (.aload_n 0, 1) := by decide +kernel
theorem dX4_drop_10 : decode cX4_drop 10 = .ok (.getfield 18, 3) := by decide +kernel
theorem dX4_drop_13 : decode cX4_drop 13 = .ok (.iload_n 1, 1) := by decide +kernel
theorem dX4_drop_14 : decode cX4_drop 14 = .ok (.aaload, 1) := by decide +kernel
theorem dX4_drop_15 : decode cX4_drop 15 = .ok (.invokevirtual 74, 3) := by decide +kernel
theorem dX4_drop_18 : decode cX4_drop 18 = .ok (.ifCond .eq 6, 3) := by decide +kernel
theorem dX4_drop_21 : decode cX4_drop 21 = .ok (.bipush (-11), 2) := by decide +kernel
theorem dX4_drop_23 : decode cX4_drop 23 = .ok (.ireturn, 1) := by decide +kernel
theorem dX4_drop_24 : decode cX4_drop 24 = .ok (.aload_n 0, 1) := by decide +kernel
theorem dX4_drop_25 : decode cX4_drop 25 = .ok (.getfield 18, 3) := by decide +kernel
theorem dX4_drop_28 : decode cX4_drop 28 = .ok (.iload_n 1, 1) := by decide +kernel
theorem dX4_drop_29 : decode cX4_drop 29 = .ok (.aaload, 1) := by decide +kernel
theorem dX4_drop_30 : decode cX4_drop 30 = .ok (.invokevirtual 78, 3) := by decide +kernel
theorem dX4_drop_33 : decode cX4_drop 33 = .ok (.ireturn, 1) := by decide +kernel
set_option maxRecDepth 20000 in
theorem ggX4_item_X4_lookAtItems : GoodIn wsX4_item wsX4_lookAtItems := goodIn_r _ [6, 1, 7, 8, 5, 9, 10, 11, 12, 13, 14, 15, 16, 17, 18, 19, 20, 21, 22, 23, 24, 25, 26, 27, 28, 29, 30, 36, 37, 38, 39, 40, 41, 42, 43, 44] (by decide +kernel) (by decide +kernel)
set_option maxRecDepth 20000 in
theorem gX4_item_X4_lookAtItems : GoodIn wsX4_item (wsV RX4 82 RX4 yX4_lookAtItems wsX4_lookAtItems) := goodIn_app (goodIn_of _ (by decide +kernel)) ggX4_item_X4_lookAtItems
set_option maxRecDepth 20000 in
theorem ggX4_item_X1_setItem : GoodIn wsX4_item wsX1_setItem := goodIn_r _ [34, 35, 42, 43, 44] (by decide +kernel) (by decide +kernel)
set_option maxRecDepth 20000 in
theorem gX4_item_X1_setItem : GoodIn wsX4_item (wsV RX4 86 RX1 yX1_setItem wsX1_setItem) := goodIn_app (goodIn_of _ (by decide +kernel)) ggX4_item_X1_setItem
theorem dX4_item_0 : decode cX4_item 0 = .ok (.aload_n 0, 1) := by decide +kernel
theorem dX4_item_1 : decode cX4_item 1 = .ok (.iload_n 1, 1) := by decide +kernel
theorem dX4_item_2 : decode cX4_item 2 = .ok (.iload_n 2, 1) := by decide +kernel
theorem dX4_item_3 : decode cX4_item 3 = .ok (.iload_n 3, 1) := by decide +kernel
theorem dX4_item_4 : decode cX4_item 4 = .ok (.iconst 1, 1) := by decide +kernel
theorem dX4_item_5 : decode cX4_item 5 = .ok (.invokevirtual 82, 3) := by decide +kernel
theorem dX4_item_8 : decode cX4_item 8 = .ok (.istore 5, 2) := by decide +kernel
theorem dX4_item_10 : decode cX4_item 10 = .ok (.iload 5, 2) := by decide +kernel
theorem dX4_item_12 : decode cX4_item 12 = .ok (.iconst 1, 1) := by decide +kernel
theorem dX4_item_13 : decode cX4_item 13 = .ok (.if_icmp .eq 6, 3) := by decide +kernel
theorem dX4_item_16 : decode cX4_item 16 = .ok (.iload 5, 2) := by decide +kernel
theorem dX4_item_18 : decode cX4_item 18 = .ok (.ireturn, 1) := by decide +kernel
theorem dX4_item_19 : decode cX4_item 19 = .ok (.aload_n 0, 1) := by decide +kernel
theorem dX4_item_20 : decode cX4_item 20 = .ok (.getfield 18, 3) := by decide +kernel
theorem dX4_item_23 : decode cX4_item 23 = .ok (.iload_n 1, 1) := by decide +kernel
theorem dX4_item_24 : decode cX4_item 24 = .ok (.aaload, 1) := by decide +kernel
theorem dX4_item_25 : decode cX4_item 25 = .ok (.iload_n 3, 1) := by decide +kernel
theorem dX4_item_26 : decode cX4_item 26 = .ok (.iload 4, 2) := by decide +kernel
theorem dX4_item_28 : decode cX4_item 28 = .ok (.invokevirtual 86, 3) := by decide +kernel
theorem dX4_item_31 : decode cX4_item 31 = .ok (.iconst 1, 1) := by decide +kernel
theorem dX4_item_32 : decode cX4_item 32 = .ok (.ireturn, 1) := by decide +kernel
set_option maxRecDepth 20000 in
theorem ggX4_weights_X0_placeCount : GoodIn wsX4_weights wsX0_placeCount := goodIn_r _ [7, 8, 9, 66, 67, 68, 69, 70, 71] (by decide +kernel) (by decide +kernel)
set_option maxRecDepth 20000 in
theorem gX4_weights_X0_placeCount : GoodIn wsX4_weights (wsV RX4 89 RX0 yX0_placeCount wsX0_placeCount) := goodIn_app (goodIn_of _ (by decide +kernel)) ggX4_weights_X0_placeCount
set_option maxRecDepth 20000 in
theorem ggX4_weights_X4_lookAtItems : GoodIn wsX4_weights wsX4_lookAtItems := goodIn_r _ [14, 2, 15, 16, 13, 17, 18, 19, 20, 21, 22, 23, 24, 25, 26, 27, 28, 29, 30, 31, 32, 33, 34, 35, 36, 37, 38, 60, 61, 62, 63, 64, 65, 72, 73, 74] (by decide +kernel) (by decide +kernel)
set_option maxRecDepth 20000 in
theorem gX4_weights_X4_lookAtItems : GoodIn wsX4_weights (wsV RX4 82 RX4 yX4_lookAtItems wsX4_lookAtItems) := goodIn_app (goodIn_of _ (by decide +kernel)) ggX4_weights_X4_lookAtItems
set_option maxRecDepth 20000 in
theorem ggX4_weights_X1_areWeights : GoodIn wsX4_weights wsX1_areWeights := goodIn_r _ [42, 43, 44, 13, 45, 46, 72, 73, 74] (by decide +kernel) (by decide +kernel)
set_option maxRecDepth 20000 in
theorem gX4_weights_X1_areWeights : GoodIn wsX4_weights (wsV RX4 92 RX1 yX1_areWeights wsX1_areWeights) := goodIn_app (goodIn_of _ (by decide +kernel)) ggX4_weights_X1_areWeights
set_option maxRecDepth 20000 in
theorem ggX4_weights_X0_takeFrom : GoodIn wsX4_weights wsX0_takeFrom := goodIn_r _ [50, 8, 9, 51, 52, 53, 54, 27, 55, 43, 66, 67, 68, 69, 70, 71, 72, 73, 74] (by decide +kernel) (by decide +kernel)
set_option maxRecDepth 20000 in
theorem gX4_weights_X0_takeFrom : GoodIn wsX4_weights (wsV RX4 95 RX0 yX0_takeFrom wsX0_takeFrom) := goodIn_app (goodIn_of _ (by decide +kernel)) ggX4_weights_X0_takeFrom
set_option maxRecDepth 20000 in
theorem ggX4_weights_X0_total : GoodIn wsX4_weights wsX0_total := goodIn_r _ [59, 8, 9, 51, 66, 67, 68, 69, 70, 71] (by decide +kernel) (by decide +kernel)
set_option maxRecDepth 20000 in
theorem gX4_weights_X0_total : GoodIn wsX4_weights (wsV RX4 99 RX0 yX0_total wsX0_total) := goodIn_app (goodIn_of _ (by decide +kernel)) ggX4_weights_X0_total
theorem dX4_weights_0 : decode cX4_weights 0 = .ok (.aload_n 0, 1) := by decide +kernel
theorem dX4_weights_1 : decode cX4_weights 1 = .ok (.iload_n 1, 1) := by decide +kernel
theorem dX4_weights_2 : decode cX4_weights 2 = .ok (.iload_n 2, 1) := by decide +kernel
theorem dX4_weights_3 : decode cX4_weights 3 = .ok (.iload_n 3, 1) := by decide +kernel
theorem dX4_weights_4 : decode cX4_weights 4 = .ok (.aload_n 0, 1) := by decide +kernel
theorem dX4_weights_5 : decode cX4_weights 5 = .ok (.getfield 10, 3) := by decide +kernel
theorem dX4_weights_8 : decode cX4_weights 8 = .ok (.invokevirtual 89, 3) := by decide +kernel
theorem dX4_weights_11 : decode cX4_weights 11 = .ok (.invokevirtual 82, 3) := by decide +kernel
theorem dX4_weights_14 : decode cX4_weights 14 = .ok (.istore 4, 2) := by decide +kernel
theorem dX4_weights_16 : decode cX4_weights 16 = .ok (.iload 4, 2) := by decide +kernel
theorem dX4_weights_18 : decode cX4_weights 18 = .ok (.iconst 1, 1) := by decide +kernel
theorem dX4_weights_19 : decode cX4_weights 19 = .ok (.if_icmp .eq 6, 3) := by decide +kernel
theorem dX4_weights_22 : decode cX4_weights 22 = .ok (.iload 4, 2) := by decide +kernel
theorem dX4_weights_24 : decode cX4_weights 24 = .ok (.ireturn, 1) := by decide +kernel
theorem dX4_weights_25 : decode cX4_weights 25 = .ok (.aload_n 0, 1) := by decide +kernel
theorem dX4_weights_26 : decode cX4_weights 26 = .ok (.getfield 18, 3) := by decide +kernel
theorem dX4_weights_29 : decode cX4_weights 29 = .ok (.iload_n 1, 1) := by decide +kernel
theorem dX4_weights_30 : decode cX4_weights 30 = .ok (.aaload, 1) := by decide +kernel
theorem dX4_weights_31 : decode cX4_weights 31 = .ok (.astore 5, 2) := by decide +kernel
theorem dX4_weights_33 : decode cX4_weights 33 = .ok (.aload 5, 2) := by decide +kernel
theorem dX4_weights_35 : decode cX4_weights 35 = .ok (.iload_n 3, 1) := by decide +kernel
theorem dX4_weights_36 : decode cX4_weights 36 = .ok (.aload_n 0, 1) := by decide +kernel
theorem dX4_weights_37 : decode cX4_weights 37 = .ok (.getfield 10, 3) := by decide +kernel
theorem dX4_weights_40 : decode cX4_weights 40 = .ok (.invokevirtual 89, 3) := by decide +kernel
theorem dX4_weights_43 : decode cX4_weights 43 = .ok (.invokevirtual 92, 3) := by decide +kernel
theorem dX4_weights_46 : decode cX4_weights 46 = .ok (.ifCond .ne 6, 3) := by decide +kernel
theorem dX4_weights_49 : decode cX4_weights 49 = .ok (.bipush (-2), 2) := by decide +kernel
theorem dX4_weights_51 : decode cX4_weights 51 = .ok (.ireturn, 1) := by decide +kernel
theorem dX4_weights_52 : decode cX4_weights 52 = .ok (.aload_n 0, 1) := by decide +kernel
theorem dX4_weights_53 : decode cX4_weights 53 = .ok (.getfield 10, 3) := by decide +kernel
theorem dX4_weights_56 : decode cX4_weights 56 = .ok (.aload 5, 2) := by decide +kernel
theorem dX4_weights_58 : decode cX4_weights 58 = .ok (.iload_n 3, 1) := by decide +kernel
theorem dX4_weights_59 : decode cX4_weights 59 = .ok (.invokevirtual 95, 3) := by decide +kernel
theorem dX4_weights_62 : decode cX4_weights 62 = .ok (.aload_n 0, 1) := by decide +kernel
theorem dX4_weights_63 : decode cX4_weights 63 = .ok (.getfield 10, 3) := by decide +kernel
theorem dX4_weights_66 : decode cX4_weights 66 = .ok (.invokevirtual 99, 3) := by decide +kernel
theorem dX4_weights_69 : decode cX4_weights 69 = .ok (.ireturn, 1) := by decide +kernel
set_option maxRecDepth 20000 in
theorem ggX4_turn_X0_transpose : GoodIn wsX4_turn wsX0_transpose := goodIn_r _ [6, 7, 8, 9, 16, 17, 18, 19, 20, 21] (by decide +kernel) (by decide +kernel)
set_option maxRecDepth 20000 in
theorem gX4_turn_X0_transpose : GoodIn wsX4_turn (wsV RX4 102 RX0 yX0_transpose wsX0_transpose) := goodIn_app (goodIn_of _ (by decide +kernel)) ggX4_turn_X0_transpose
theorem dX4_turn_0 : decode cX4_turn 0 = .ok (.aload_n 0, 1) := by decide +kernel
theorem dX4_turn_1 : decode cX4_turn 1 = .ok (.getfield 10, 3) := by decide +kernel
theorem dX4_turn_4 : decode cX4_turn 4 = .ok (.invokevirtual 102, 3) := by decide +kernel
theorem dX4_turn_7 : decode cX4_turn 7 = .ok (.iconst 1, 1) := by decide +kernel
theorem dX4_turn_8 : decode cX4_turn 8 = .ok (.ireturn, 1) := by decide +kernel
set_option maxRecDepth 20000 in
theorem ggX4_best_X0_hasPlace : GoodIn wsX4_best wsX0_hasPlace := goodIn_r _ [6, 7, 8, 9, 10, 11, 28, 29, 30, 31, 32, 33] (by decide +kernel) (by decide +kernel)
set_option maxRecDepth 20000 in
theorem gX4_best_X0_hasPlace : GoodIn wsX4_best (wsV RX4 52 RX0 yX0_hasPlace wsX0_hasPlace) := goodIn_app (goodIn_of _ (by decide +kernel)) ggX4_best_X0_hasPlace
set_option maxRecDepth 20000 in
theorem ggX4_best_X0_heaviest : GoodIn wsX4_best wsX0_heaviest := goodIn_r _ [15, 16, 17, 18, 19, 20, 21, 28, 29, 30, 31, 32, 33] (by decide +kernel) (by decide +kernel)
set_option maxRecDepth 20000 in
theorem gX4_best_X0_heaviest : GoodIn wsX4_best (wsV RX4 105 RX0 yX0_heaviest wsX0_heaviest) := goodIn_app (goodIn_of _ (by decide +kernel)) ggX4_best_X0_heaviest
theorem dX4_best_0 : decode cX4_best 0 = .ok (.aload_n 0, 1) := by decide +kernel
theorem dX4_best_1 : decode cX4_best 1 = .ok (.getfield 10, 3) := by decide +kernel
theorem dX4_best_4 : decode cX4_best 4 = .ok (.iload_n 1, 1) := by decide +kernel
theorem dX4_best_5 : decode cX4_best 5 = .ok (.iload_n 2, 1) := by decide +kernel
theorem dX4_best_6 : decode cX4_best 6 = .ok (.invokevirtual 52, 3) := by decide +kernel
theorem dX4_best_9 : decode cX4_best 9 = .ok (.ifCond .ne 5, 3) := by decide +kernel
theorem dX4_best_12 : decode cX4_best 12 = .ok (.iconst (-1), 1) := by decide +kernel
theorem dX4_best_13 : decode cX4_best 13 = .ok (.ireturn, 1) := by decide +kernel
theorem dX4_best_14 : decode cX4_best 14 = .ok (.aload_n 0, 1) := by decide +kernel
theorem dX4_best_15 : decode cX4_best 15 = .ok (.getfield 10, 3) := by decide +kernel
theorem dX4_best_18 : decode cX4_best 18 = .ok (.iconst 0, 1) := by decide +kernel
theorem dX4_best_19 : decode cX4_best 19 = .ok (.iconst 0, 1) := by decide +kernel
theorem dX4_best_20 : decode cX4_best 20 = .ok (.iload_n 1, 1) := by decide +kernel
theorem dX4_best_21 : decode cX4_best 21 = .ok (.iload_n 2, 1) := by decide +kernel
theorem dX4_best_22 : decode cX4_best 22 = .ok (.invokevirtual 105, 3) := by decide +kernel
theorem dX4_best_25 : decode cX4_best 25 = .ok (.ireturn, 1) := by decide +kernel
set_option maxRecDepth 20000 in
theorem ggX4_between_X0_hasPlace : GoodIn wsX4_between wsX0_hasPlace := goodIn_r _ [6, 7, 8, 9, 10, 11, 28, 29, 30, 31, 32, 33] (by decide +kernel) (by decide +kernel)
set_option maxRecDepth 20000 in
theorem gX4_between_X0_hasPlace : GoodIn wsX4_between (wsV RX4 52 RX0 yX0_hasPlace wsX0_hasPlace) := goodIn_app (goodIn_of _ (by decide +kernel)) ggX4_between_X0_hasPlace
set_option maxRecDepth 20000 in
theorem ggX4_between_X0_heaviest : GoodIn wsX4_between wsX0_heaviest := goodIn_r _ [15, 16, 17, 18, 19, 20, 21, 28, 29, 30, 31, 32, 33] (by decide +kernel) (by decide +kernel)
set_option maxRecDepth 20000 in
theorem gX4_between_X0_heaviest : GoodIn wsX4_between (wsV RX4 105 RX0 yX0_heaviest wsX0_heaviest) := goodIn_app (goodIn_of _ (by decide +kernel)) ggX4_between_X0_heaviest
theorem dX4_between_0 : decode cX4_between 0 = .ok (.aload_n 0, 1) := by decide +kernel
theorem dX4_between_1 : decode cX4_between 1 = .ok (.getfield 10, 3) := by decide +kernel
theorem dX4_between_4 : decode cX4_between 4 = .ok (.iload_n 1, 1) := by decide +kernel
theorem dX4_between_5 : decode cX4_between 5 = .ok (.iload_n 2, 1) := by decide +kernel
theorem dX4_between_6 : decode cX4_between 6 = .ok (.invokevirtual 52, 3) := by decide +kernel
theorem dX4_between_9 : decode cX4_between 9 = .ok (.ifCond .eq 16, 3) := by decide +kernel
theorem dX4_between_12 : decode cX4_between 12 = .ok (.aload_n 0, 1) := by decide +kernel
theorem dX4_between_13 : decode cX4_between 13 = .ok (.getfield 10, 3) := by decide +kernel
theorem dX4_between_16 : decode cX4_between 16 = .ok (.iload_n 3, 1) := by decide +kernel
theorem dX4_between_17 : decode cX4_between 17 = .ok (.iload 4, 2) := by decide +kernel
theorem dX4_between_19 : decode cX4_between 19 = .ok (.invokevirtual 52, 3) := by decide +kernel
theorem dX4_between_22 : decode cX4_between 22 = .ok (.ifCond .ne 5, 3) := by decide +kernel
theorem dX4_between_25 : decode cX4_between 25 = .ok (.iconst (-1), 1) := by decide +kernel
theorem dX4_between_26 : decode cX4_between 26 = .ok (.ireturn, 1) := by decide +kernel
theorem dX4_between_27 : decode cX4_between 27 = .ok (.iload_n 3, 1) := by decide +kernel
theorem dX4_between_28 : decode cX4_between 28 = .ok (.iload_n 1, 1) := by decide +kernel
theorem dX4_between_29 : decode cX4_between 29 = .ok (.if_icmp .lt 9, 3) := by decide +kernel
theorem dX4_between_32 : decode cX4_between 32 = .ok (.iload 4, 2) := by decide +kernel
theorem dX4_between_34 : decode cX4_between 34 = .ok (.iload_n 2, 1) := by decide +kernel
theorem dX4_between_35 : decode cX4_between 35 = .ok (.if_icmp .ge 6, 3) := by decide +kernel
theorem dX4_between_38 : decode cX4_between 38 = .ok (.bipush (-4), 2) := by decide +kernel
theorem dX4_between_40 : decode cX4_between 40 = .ok (.ireturn, 1) := by decide +kernel
theorem dX4_between_41 : decode cX4_between 41 = .ok (.aload_n 0, 1) := by decide +kernel
theorem dX4_between_42 : decode cX4_between 42 = .ok (.getfield 10, 3) := by decide +kernel
theorem dX4_between_45 : decode cX4_between 45 = .ok (.iload_n 1, 1) := by decide +kernel
theorem dX4_between_46 : decode cX4_between 46 = .ok (.iload_n 2, 1) := by decide +kernel
theorem dX4_between_47 : decode cX4_between 47 = .ok (.iload_n 3, 1) := by decide +kernel
theorem dX4_between_48 : decode cX4_between 48 = .ok (.iload 4, 2) := by decide +kernel
theorem dX4_between_50 : decode cX4_between 50 = .ok (.invokevirtual 105, 3) := by decide +kernel
theorem dX4_between_53 : decode cX4_between 53 = .ok (.ireturn, 1) := by decide +kernel
set_option maxRecDepth 20000 in
theorem ggX4_shape_X0_hasCorner : GoodIn wsX4_shape wsX0_hasCorner := goodIn_r _ [6, 7, 8, 9, 10, 11, 43, 44, 45, 46, 47, 48] (by decide +kernel) (by decide +kernel)
set_option maxRecDepth 20000 in
theorem gX4_shape_X0_hasCorner : GoodIn wsX4_shape (wsV RX4 108 RX0 yX0_hasCorner wsX0_hasCorner) := goodIn_app (goodIn_of _ (by decide +kernel)) ggX4_shape_X0_hasCorner
set_option maxRecDepth 20000 in
theorem ggX4_shape_X4_isWithin : GoodIn wsX4_shape wsX4_isWithin := goodIn_r _ [11] (by decide +kernel) (by decide +kernel)
set_option maxRecDepth 20000 in
theorem gX4_shape_X4_isWithin : GoodIn wsX4_shape (va_wsS RX4 44 yX4_isWithin wsX4_isWithin) := goodIn_app (goodIn_of _ (by decide +kernel)) ggX4_shape_X4_isWithin
set_option maxRecDepth 20000 in
theorem ggX4_shape_X0_growShapes : GoodIn wsX4_shape wsX0_growShapes := goodIn_r _ [16, 7, 8, 17, 18, 19, 5, 20, 21, 22, 23, 24, 25, 26, 27, 28, 29, 30, 31, 32, 43, 44, 45, 46, 47, 48] (by decide +kernel) (by decide +kernel)
set_option maxRecDepth 20000 in
theorem gX4_shape_X0_growShapes : GoodIn wsX4_shape (wsV RX4 111 RX0 yX0_growShapes wsX0_growShapes) := goodIn_app (goodIn_of _ (by decide +kernel)) ggX4_shape_X0_growShapes
set_option maxRecDepth 20000 in
theorem ggX4_shape_X0_partAt : GoodIn wsX4_shape wsX0_partAt := goodIn_r _ [36, 21, 30, 31, 5, 32, 43, 44, 45, 46, 47, 48] (by decide +kernel) (by decide +kernel)
set_option maxRecDepth 20000 in
theorem gX4_shape_X0_partAt : GoodIn wsX4_shape (wsV RX4 114 RX0 yX0_partAt wsX0_partAt) := goodIn_app (goodIn_of _ (by decide +kernel)) ggX4_shape_X0_partAt
theorem dX4_shape_0 : decode cX4_shape 0 = .ok (.aload_n 0, 1) := by decide +kernel
theorem dX4_shape_1 : decode cX4_shape 1 = .ok (.getfield 10, 3) := by decide +kernel
theorem dX4_shape_4 : decode cX4_shape 4 = .ok (.iload_n 1, 1) := by decide +kernel
theorem dX4_shape_5 : decode cX4_shape 5 = .ok (.iload_n 2, 1) := by decide +kernel
theorem dX4_shape_6 : decode cX4_shape 6 = .ok (.invokevirtual 108, 3) := by decide +kernel
theorem dX4_shape_9 : decode cX4_shape 9 = .ok (.ifCond .eq 12, 3) := by decide +kernel
theorem dX4_shape_12 : decode cX4_shape 12 = .ok (.iload_n 3, 1) := by decide +kernel
theorem dX4_shape_13 : decode cX4_shape 13 = .ok (.iconst 0, 1) := by decide +kernel
theorem dX4_shape_14 : decode cX4_shape 14 = .ok (.iconst 5, 1) := by decide +kernel
theorem dX4_shape_15 : decode cX4_shape 15 = .ok (.invokestatic 44, 3) := by decide +kernel
theorem dX4_shape_18 : decode cX4_shape 18 = .ok (.ifCond .ne 5, 3) := by decide +kernel
theorem dX4_shape_21 : decode cX4_shape 21 = .ok (.iconst (-1), 1) := by decide +kernel
theorem dX4_shape_22 : decode cX4_shape 22 = .ok (.ireturn, 1) := by decide +kernel
theorem dX4_shape_23 : decode cX4_shape 23 = .ok (.aload_n 0, 1) := by decide +kernel
theorem dX4_shape_24 : decode cX4_shape 24 = .ok (.getfield 10, 3) := by decide +kernel
theorem dX4_shape_27 : decode cX4_shape 27 = .ok (.invokevirtual 111, 3) := by decide +kernel
theorem dX4_shape_30 : decode cX4_shape 30 = .ok (.aload_n 0, 1) := by decide +kernel
theorem dX4_shape_31 : decode cX4_shape 31 = .ok (.getfield 10, 3) := by decide +kernel
theorem dX4_shape_34 : decode cX4_shape 34 = .ok (.iload_n 1, 1) := by decide +kernel
theorem dX4_shape_35 : decode cX4_shape 35 = .ok (.iload_n 2, 1) := by decide +kernel
theorem dX4_shape_36 : decode cX4_shape 36 = .ok (.iload_n 3, 1) := by decide +kernel
theorem dX4_shape_37 : decode cX4_shape 37 = .ok (.invokevirtual 114, 3) := by decide +kernel
theorem dX4_shape_40 : decode cX4_shape 40 = .ok (.ireturn, 1) := by decide +kernel
set_option maxRecDepth 20000 in
theorem ggX4_ways_X4_isWithin : GoodIn wsX4_ways wsX4_isWithin := goodIn_r _ [5] (by decide +kernel) (by decide +kernel)
set_option maxRecDepth 20000 in
theorem gX4_ways_X4_isWithin : GoodIn wsX4_ways (va_wsS RX4 44 yX4_isWithin wsX4_isWithin) := goodIn_app (goodIn_of _ (by decide +kernel)) ggX4_ways_X4_isWithin
set_option maxRecDepth 20000 in
theorem ggX4_ways_X0_growShapes : GoodIn wsX4_ways wsX0_growShapes := goodIn_r _ [10, 11, 12, 13, 14, 15, 9, 16, 17, 18, 19, 20, 21, 22, 23, 24, 25, 26, 27, 28, 43, 44, 45, 46, 47, 48] (by decide +kernel) (by decide +kernel)
set_option maxRecDepth 20000 in
theorem gX4_ways_X0_growShapes : GoodIn wsX4_ways (wsV RX4 111 RX0 yX0_growShapes wsX0_growShapes) := goodIn_app (goodIn_of _ (by decide +kernel)) ggX4_ways_X0_growShapes
set_option maxRecDepth 20000 in
theorem ggX4_ways_X0_firstPartsAtEnd : GoodIn wsX4_ways wsX0_firstPartsAtEnd := goodIn_r _ [32, 11, 12, 33, 34, 35, 9, 36, 17, 26, 27, 28, 43, 44, 45, 46, 47, 48] (by decide +kernel) (by decide +kernel)
set_option maxRecDepth 20000 in
theorem gX4_ways_X0_firstPartsAtEnd : GoodIn wsX4_ways (wsV RX4 117 RX0 yX0_firstPartsAtEnd wsX0_firstPartsAtEnd) := goodIn_app (goodIn_of _ (by decide +kernel)) ggX4_ways_X0_firstPartsAtEnd
theorem dX4_ways_0 : decode cX4_ways 0 = .ok (.iload_n 1, 1) := by decide +kernel
theorem dX4_ways_1 : decode cX4_ways 1 = .ok (.iconst 1, 1) := by decide +kernel
theorem dX4_ways_2 : decode cX4_ways 2 = .ok (.bipush 6, 2) := by decide +kernel
theorem dX4_ways_4 : decode cX4_ways 4 = .ok (.invokestatic 44, 3) := by decide +kernel
theorem dX4_ways_7 : decode cX4_ways 7 = .ok (.ifCond .ne 5, 3) := by decide +kernel
theorem dX4_ways_10 : decode cX4_ways 10 = .ok (.iconst (-1), 1) := by decide +kernel
theorem dX4_ways_11 : decode cX4_ways 11 = .ok (.ireturn, 1) := by decide +kernel
theorem dX4_ways_12 : decode cX4_ways 12 = .ok (.aload_n 0, 1) := by decide +kernel
theorem dX4_ways_13 : decode cX4_ways 13 = .ok (.getfield 10, 3) := by decide +kernel
theorem dX4_ways_16 : decode cX4_ways 16 = .ok (.invokevirtual 111, 3) := by decide +kernel
theorem dX4_ways_19 : decode cX4_ways 19 = .ok (.aload_n 0, 1) := by decide +kernel
theorem dX4_ways_20 : decode cX4_ways 20 = .ok (.getfield 10, 3) := by decide +kernel
theorem dX4_ways_23 : decode cX4_ways 23 = .ok (.iload_n 1, 1) := by decide +kernel
theorem dX4_ways_24 : decode cX4_ways 24 = .ok (.invokevirtual 117, 3) := by decide +kernel
theorem dX4_ways_27 : decode cX4_ways 27 = .ok (.ireturn, 1) := by decide +kernel
set_option maxRecDepth 20000 in
theorem ggX4_sums_X0_hasPlace : GoodIn wsX4_sums wsX0_hasPlace := goodIn_r _ [7, 8, 9, 10, 11, 12, 29, 30, 31, 32, 33, 34] (by decide +kernel) (by decide +kernel)
set_option maxRecDepth 20000 in
theorem gX4_sums_X0_hasPlace : GoodIn wsX4_sums (wsV RX4 52 RX0 yX0_hasPlace wsX0_hasPlace) := goodIn_app (goodIn_of _ (by decide +kernel)) ggX4_sums_X0_hasPlace
set_option maxRecDepth 20000 in
theorem ggX4_sums_X0_productSum : GoodIn wsX4_sums wsX0_productSum := goodIn_r _ [16, 17, 18, 19, 20, 21, 6, 22, 29, 30, 31, 32, 33, 34] (by decide +kernel) (by decide +kernel)
set_option maxRecDepth 20000 in
theorem gX4_sums_X0_productSum : GoodIn wsX4_sums (wsV RX4 123 RX0 yX0_productSum wsX0_productSum) := goodIn_app (goodIn_of _ (by decide +kernel)) ggX4_sums_X0_productSum
theorem dX4_sums_0 : decode cX4_sums 0 = .ok (.aload_n 0, 1) := by decide +kernel
theorem dX4_sums_1 : decode cX4_sums 1 = .ok (.getfield 10, 3) := by decide +kernel
theorem dX4_sums_4 : decode cX4_sums 4 = .ok (.iload_n 1, 1) := by decide +kernel
theorem dX4_sums_5 : decode cX4_sums 5 = .ok (.iload_n 2, 1) := by decide +kernel
theorem dX4_sums_6 : decode cX4_sums 6 = .ok (.invokevirtual 52, 3) := by decide +kernel
theorem dX4_sums_9 : decode cX4_sums 9 = .ok (.ifCond .ne 7, 3) := by decide +kernel
theorem dX4_sums_12 : decode cX4_sums 12 = .ok (.ldc2_w 121, 3) := by decide +kernel
theorem dX4_sums_15 : decode cX4_sums 15 = .ok (.lreturn, 1) := by decide +kernel
theorem dX4_sums_16 : decode cX4_sums 16 = .ok (.aload_n 0, 1) := by decide +kernel
theorem dX4_sums_17 : decode cX4_sums 17 = .ok (.getfield 10, 3) := by decide +kernel
theorem dX4_sums_20 : decode cX4_sums 20 = .ok (.iload_n 1, 1) := by decide +kernel
theorem dX4_sums_21 : decode cX4_sums 21 = .ok (.iload_n 2, 1) := by decide +kernel
theorem dX4_sums_22 : decode cX4_sums 22 = .ok (.invokevirtual 123, 3) := by decide +kernel
theorem dX4_sums_25 : decode cX4_sums 25 = .ok (.lreturn, 1) := by decide +kernel
set_option maxRecDepth 20000 in
theorem ggX4_served_X0_hasPlace : GoodIn wsX4_served wsX0_hasPlace := goodIn_r _ [6, 7, 8, 9, 10, 11, 32, 33, 34, 35, 36, 37] (by decide +kernel) (by decide +kernel)
set_option maxRecDepth 20000 in
theorem gX4_served_X0_hasPlace : GoodIn wsX4_served (wsV RX4 52 RX0 yX0_hasPlace wsX0_hasPlace) := goodIn_app (goodIn_of _ (by decide +kernel)) ggX4_served_X0_hasPlace
set_option maxRecDepth 20000 in
theorem ggX4_served_X0_countServed : GoodIn wsX4_served wsX0_countServed := goodIn_r _ [15, 8, 16, 17, 18, 19, 5, 20, 21, 22, 23, 24, 25, 32, 33, 34, 35, 36, 37] (by decide +kernel) (by decide +kernel)
set_option maxRecDepth 20000 in
theorem gX4_served_X0_countServed : GoodIn wsX4_served (wsV RX4 127 RX0 yX0_countServed wsX0_countServed) := goodIn_app (goodIn_of _ (by decide +kernel)) ggX4_served_X0_countServed
theorem dX4_served_0 : decode cX4_served 0 = .ok (.aload_n 0, 1) := by decide +kernel
theorem dX4_served_1 : decode cX4_served 1 = .ok (.getfield 10, 3) := by decide +kernel
theorem dX4_served_4 : decode cX4_served 4 = .ok (.iload_n 1, 1) := by decide +kernel
theorem dX4_served_5 : decode cX4_served 5 = .ok (.iconst 0, 1) := by decide +kernel
theorem dX4_served_6 : decode cX4_served 6 = .ok (.invokevirtual 52, 3) := by decide +kernel
theorem dX4_served_9 : decode cX4_served 9 = .ok (.ifCond .eq 7, 3) := by decide +kernel
theorem dX4_served_12 : decode cX4_served 12 = .ok (.iload_n 2, 1) := by decide +kernel
theorem dX4_served_13 : decode cX4_served 13 = .ok (.ifCond .ge 5, 3) := by decide +kernel
theorem dX4_served_16 : decode cX4_served 16 = .ok (.iconst (-1), 1) := by decide +kernel
theorem dX4_served_17 : decode cX4_served 17 = .ok (.ireturn, 1) := by decide +kernel
theorem dX4_served_18 : decode cX4_served 18 = .ok (.aload_n 0, 1) := by decide +kernel
theorem dX4_served_19 : decode cX4_served 19 = .ok (.getfield 10, 3) := by decide +kernel
theorem dX4_served_22 : decode cX4_served 22 = .ok (.iload_n 1, 1) := by decide +kernel
theorem dX4_served_23 : decode cX4_served 23 = .ok (.iload_n 2, 1) := by decide +kernel
theorem dX4_served_24 : decode cX4_served 24 = .ok (.invokevirtual 127, 3) := by decide +kernel
theorem dX4_served_27 : decode cX4_served 27 = .ok (.ireturn, 1) := by decide +kernel
set_option maxRecDepth 20000 in
theorem ggX4_line_X0_lastStep : GoodIn wsX4_line wsX0_lastStep := goodIn_r _ [6, 7, 8, 41, 42, 43, 44, 45, 46] (by decide +kernel) (by decide +kernel)
set_option maxRecDepth 20000 in
theorem gX4_line_X0_lastStep : GoodIn wsX4_line (wsV RX4 131 RX0 yX0_lastStep wsX0_lastStep) := goodIn_app (goodIn_of _ (by decide +kernel)) ggX4_line_X0_lastStep
set_option maxRecDepth 20000 in
theorem ggX4_line_X4_isWithin : GoodIn wsX4_line wsX4_isWithin := goodIn_r _ [12] (by decide +kernel) (by decide +kernel)
set_option maxRecDepth 20000 in
theorem gX4_line_X4_isWithin : GoodIn wsX4_line (va_wsS RX4 44 yX4_isWithin wsX4_isWithin) := goodIn_app (goodIn_of _ (by decide +kernel)) ggX4_line_X4_isWithin
set_option maxRecDepth 20000 in
theorem ggX4_line_X0_placeOnLine : GoodIn wsX4_line wsX0_placeOnLine := goodIn_r _ [16, 7, 8, 17, 18, 19, 5, 20, 21, 22, 23, 24, 25, 26, 27, 28, 29, 30, 31, 32, 33, 34, 10, 11, 12, 41, 42, 43, 44, 45, 46] (by decide +kernel) (by decide +kernel)
set_option maxRecDepth 20000 in
theorem gX4_line_X0_placeOnLine : GoodIn wsX4_line (wsV RX4 134 RX0 yX0_placeOnLine wsX0_placeOnLine) := goodIn_app (goodIn_of _ (by decide +kernel)) ggX4_line_X0_placeOnLine
theorem dX4_line_0 : decode cX4_line 0 = .ok (.iload_n 1, 1) := by decide +kernel
theorem dX4_line_1 : decode cX4_line 1 = .ok (.iconst 0, 1) := by decide +kernel
theorem dX4_line_2 : decode cX4_line 2 = .ok (.aload_n 0, 1) := by decide +kernel
theorem dX4_line_3 : decode cX4_line 3 = .ok (.getfield 10, 3) := by decide +kernel
theorem dX4_line_6 : decode cX4_line 6 = .ok (.invokevirtual 131, 3) := by decide +kernel
theorem dX4_line_9 : decode cX4_line 9 = .ok (.invokestatic 44, 3) := by decide +kernel
theorem dX4_line_12 : decode cX4_line 12 = .ok (.ifCond .ne 5, 3) := by decide +kernel
theorem dX4_line_15 : decode cX4_line 15 = .ok (.iconst (-1), 1) := by decide +kernel
theorem dX4_line_16 : decode cX4_line 16 = .ok (.ireturn, 1) := by decide +kernel
theorem dX4_line_17 : decode cX4_line 17 = .ok (.aload_n 0, 1) := by decide +kernel
theorem dX4_line_18 : decode cX4_line 18 = .ok (.getfield 10, 3) := by decide +kernel
theorem dX4_line_21 : decode cX4_line 21 = .ok (.iload_n 1, 1) := by decide +kernel
theorem dX4_line_22 : decode cX4_line 22 = .ok (.invokevirtual 134, 3) := by decide +kernel
theorem dX4_line_25 : decode cX4_line 25 = .ok (.ireturn, 1) := by decide +kernel
set_option maxRecDepth 20000 in
theorem ggX4_letter_X4_isWithin : GoodIn wsX4_letter wsX4_isWithin := goodIn_r _ [5] (by decide +kernel) (by decide +kernel)
set_option maxRecDepth 20000 in
theorem gX4_letter_X4_isWithin : GoodIn wsX4_letter (va_wsS RX4 44 yX4_isWithin wsX4_isWithin) := goodIn_app (goodIn_of _ (by decide +kernel)) ggX4_letter_X4_isWithin
set_option maxRecDepth 20000 in
theorem ggX4_letter_X3_letterCount : GoodIn wsX4_letter wsX3_letterCount := goodIn_r _ [10, 11, 12, 13, 14, 15, 16, 17, 62, 63, 64, 65, 66, 67] (by decide +kernel) (by decide +kernel)
set_option maxRecDepth 20000 in
theorem gX4_letter_X3_letterCount : GoodIn wsX4_letter (wsV RX4 137 RX3 yX3_letterCount wsX3_letterCount) := goodIn_app (goodIn_of _ (by decide +kernel)) ggX4_letter_X3_letterCount
set_option maxRecDepth 20000 in
theorem ggX4_letter_X3_takeLetter : GoodIn wsX4_letter wsX3_takeLetter := goodIn_r _ [21, 11, 22, 23, 24, 25, 15, 26, 27, 28, 29, 30, 31, 32, 33, 34, 35, 36, 37, 38, 39, 40, 41, 42, 43, 44, 17, 45, 46, 47, 48, 49, 3, 4, 5, 50, 51, 52, 53, 54, 7, 8, 9, 10, 12, 13, 14, 16, 55, 62, 63, 64, 65, 66, 67] (by decide +kernel) (by decide +kernel)
set_option maxRecDepth 20000 in
theorem gX4_letter_X3_takeLetter : GoodIn wsX4_letter (wsV RX4 140 RX3 yX3_takeLetter wsX3_takeLetter) := goodIn_app (goodIn_of _ (by decide +kernel)) ggX4_letter_X3_takeLetter
theorem dX4_letter_0 : decode cX4_letter 0 = .ok (.iload_n 1, 1) := by decide +kernel
theorem dX4_letter_1 : decode cX4_letter 1 = .ok (.iconst 1, 1) := by decide +kernel
theorem dX4_letter_2 : decode cX4_letter 2 = .ok (.bipush 9, 2) := by decide +kernel
theorem dX4_letter_4 : decode cX4_letter 4 = .ok (.invokestatic 44, 3) := by decide +kernel
theorem dX4_letter_7 : decode cX4_letter 7 = .ok (.ifCond .ne 5, 3) := by decide +kernel
theorem dX4_letter_10 : decode cX4_letter 10 = .ok (.iconst (-1), 1) := by decide +kernel
theorem dX4_letter_11 : decode cX4_letter 11 = .ok (.ireturn, 1) := by decide +kernel
theorem dX4_letter_12 : decode cX4_letter 12 = .ok (.aload_n 0, 1) := by decide +kernel
theorem dX4_letter_13 : decode cX4_letter 13 = .ok (.getfield 26, 3) := by decide +kernel
theorem dX4_letter_16 : decode cX4_letter 16 = .ok (.invokevirtual 137, 3) := by decide +kernel
theorem dX4_letter_19 : decode cX4_letter 19 = .ok (.bipush 40, 2) := by decide +kernel
theorem dX4_letter_21 : decode cX4_letter 21 = .ok (.if_icmp .lt 6, 3) := by decide +kernel
theorem dX4_letter_24 : decode cX4_letter 24 = .ok (.bipush (-3), 2) := by decide +kernel
theorem dX4_letter_26 : decode cX4_letter 26 = .ok (.ireturn, 1) := by decide +kernel
theorem dX4_letter_27 : decode cX4_letter 27 = .ok (.aload_n 0, 1) := by decide +kernel
theorem dX4_letter_28 : decode cX4_letter 28 = .ok (.getfield 26, 3) := by decide +kernel
theorem dX4_letter_31 : decode cX4_letter 31 = .ok (.iload_n 1, 1) := by decide +kernel
theorem dX4_letter_32 : decode cX4_letter 32 = .ok (.invokevirtual 140, 3) := by decide +kernel
theorem dX4_letter_35 : decode cX4_letter 35 = .ok (.aload_n 0, 1) := by decide +kernel
theorem dX4_letter_36 : decode cX4_letter 36 = .ok (.getfield 26, 3) := by decide +kernel
theorem dX4_letter_39 : decode cX4_letter 39 = .ok (.invokevirtual 137, 3) := by decide +kernel
theorem dX4_letter_42 : decode cX4_letter 42 = .ok (.ireturn, 1) := by decide +kernel
set_option maxRecDepth 20000 in
theorem ggX4_clear_X3_letterCount : GoodIn wsX4_clear wsX3_letterCount := goodIn_r _ [6, 7, 8, 9, 10, 11, 12, 13, 35, 36, 37, 38, 39, 40] (by decide +kernel) (by decide +kernel)
set_option maxRecDepth 20000 in
theorem gX4_clear_X3_letterCount : GoodIn wsX4_clear (wsV RX4 137 RX3 yX3_letterCount wsX3_letterCount) := goodIn_app (goodIn_of _ (by decide +kernel)) ggX4_clear_X3_letterCount
set_option maxRecDepth 20000 in
theorem ggX4_clear_X3_forget : GoodIn wsX4_clear wsX3_forget := goodIn_r _ [17, 7, 18, 19, 20, 21, 11, 22, 23, 24, 13, 25, 26, 27, 28, 35, 36, 37, 38, 39, 40] (by decide +kernel) (by decide +kernel)
set_option maxRecDepth 20000 in
theorem gX4_clear_X3_forget : GoodIn wsX4_clear (wsV RX4 144 RX3 yX3_forget wsX3_forget) := goodIn_app (goodIn_of _ (by decide +kernel)) ggX4_clear_X3_forget
theorem dX4_clear_0 : decode cX4_clear 0 = .ok (.aload_n 0, 1) := by decide +kernel
theorem dX4_clear_1 : decode cX4_clear 1 = .ok (.getfield 26, 3) := by decide +kernel
theorem dX4_clear_4 : decode cX4_clear 4 = .ok (.invokevirtual 137, 3) := by decide +kernel
theorem dX4_clear_7 : decode cX4_clear 7 = .ok (.istore_n 1, 1) := by decide +kernel
theorem dX4_clear_8 : decode cX4_clear 8 = .ok (.aload_n 0, 1) := by decide +kernel
theorem dX4_clear_9 : decode cX4_clear 9 = .ok (.getfield 26, 3) := by decide +kernel
theorem dX4_clear_12 : decode cX4_clear 12 = .ok (.invokevirtual 144, 3) := by decide +kernel
theorem dX4_clear_15 : decode cX4_clear 15 = .ok (.iload_n 1, 1) := by decide +kernel
theorem dX4_clear_16 : decode cX4_clear 16 = .ok (.ireturn, 1) := by decide +kernel
set_option maxRecDepth 20000 in
theorem ggX4_row_X4_isWithin : GoodIn wsX4_row wsX4_isWithin := goodIn_r _ [5] (by decide +kernel) (by decide +kernel)
set_option maxRecDepth 20000 in
theorem gX4_row_X4_isWithin : GoodIn wsX4_row (va_wsS RX4 44 yX4_isWithin wsX4_isWithin) := goodIn_app (goodIn_of _ (by decide +kernel)) ggX4_row_X4_isWithin
set_option maxRecDepth 20000 in
theorem ggX4_row_X3_tableau : GoodIn wsX4_row wsX3_tableau := goodIn_r _ [10, 11, 12, 25, 26] (by decide +kernel) (by decide +kernel)
set_option maxRecDepth 20000 in
theorem gX4_row_X3_tableau : GoodIn wsX4_row (wsV RX4 147 RX3 yX3_tableau wsX3_tableau) := goodIn_app (goodIn_of _ (by decide +kernel)) ggX4_row_X3_tableau
set_option maxRecDepth 20000 in
theorem ggX4_row_X2_lengthOf : GoodIn wsX4_row wsX2_lengthOf := goodIn_r _ [17, 18, 27, 28, 29, 30] (by decide +kernel) (by decide +kernel)
set_option maxRecDepth 20000 in
theorem gX4_row_X2_lengthOf : GoodIn wsX4_row (wsV RX4 151 RX2 yX2_lengthOf wsX2_lengthOf) := goodIn_app (goodIn_of _ (by decide +kernel)) ggX4_row_X2_lengthOf
theorem dX4_row_0 : decode cX4_row 0 = .ok (.iload_n 1, 1) := by decide +kernel
theorem dX4_row_1 : decode cX4_row 1 = .ok (.iconst 0, 1) := by decide +kernel
theorem dX4_row_2 : decode cX4_row 2 = .ok (.bipush 8, 2) := by decide +kernel
theorem dX4_row_4 : decode cX4_row 4 = .ok (.invokestatic 44, 3) := by decide +kernel
theorem dX4_row_7 : decode cX4_row 7 = .ok (.ifCond .ne 5, 3) := by decide +kernel
theorem dX4_row_10 : decode cX4_row 10 = .ok (.iconst (-1), 1) := by decide +kernel
theorem dX4_row_11 : decode cX4_row 11 = .ok (.ireturn, 1) := by decide +kernel
theorem dX4_row_12 : decode cX4_row 12 = .ok (.aload_n 0, 1) := by decide +kernel
theorem dX4_row_13 : decode cX4_row 13 = .ok (.getfield 26, 3) := by decide +kernel
theorem dX4_row_16 : decode cX4_row 16 = .ok (.iconst 0, 1) := by decide +kernel
theorem dX4_row_17 : decode cX4_row 17 = .ok (.invokevirtual 147, 3) := by decide +kernel
theorem dX4_row_20 : decode cX4_row 20 = .ok (.iload_n 1, 1) := by decide +kernel
theorem dX4_row_21 : decode cX4_row 21 = .ok (.invokevirtual 151, 3) := by decide +kernel
theorem dX4_row_24 : decode cX4_row 24 = .ok (.ireturn, 1) := by decide +kernel
set_option maxRecDepth 20000 in
theorem ggX4_place_X4_isWhich : GoodIn wsX4_place wsX4_isWhich := goodIn_r _ [5, 6, 7, 4, 8] (by decide +kernel) (by decide +kernel)
set_option maxRecDepth 20000 in
theorem gX4_place_X4_isWhich : GoodIn wsX4_place (va_wsS RX4 154 yX4_isWhich wsX4_isWhich) := goodIn_app (goodIn_of _ (by decide +kernel)) ggX4_place_X4_isWhich
set_option maxRecDepth 20000 in
theorem ggX4_place_X4_isWithin : GoodIn wsX4_place wsX4_isWithin := goodIn_r _ [8] (by decide +kernel) (by decide +kernel)
set_option maxRecDepth 20000 in
theorem gX4_place_X4_isWithin : GoodIn wsX4_place (va_wsS RX4 44 yX4_isWithin wsX4_isWithin) := goodIn_app (goodIn_of _ (by decide +kernel)) ggX4_place_X4_isWithin
set_option maxRecDepth 20000 in
theorem ggX4_place_X3_tableau : GoodIn wsX4_place wsX3_tableau := goodIn_r _ [13, 14, 15, 38, 39] (by decide +kernel) (by decide +kernel)
set_option maxRecDepth 20000 in
theorem gX4_place_X3_tableau : GoodIn wsX4_place (wsV RX4 147 RX3 yX3_tableau wsX3_tableau) := goodIn_app (goodIn_of _ (by decide +kernel)) ggX4_place_X3_tableau
set_option maxRecDepth 20000 in
theorem ggX4_place_X2_has : GoodIn wsX4_place wsX2_has := goodIn_r _ [20, 21, 22, 23, 19, 24, 25, 40, 41, 42, 43] (by decide +kernel) (by decide +kernel)
set_option maxRecDepth 20000 in
theorem gX4_place_X2_has : GoodIn wsX4_place (wsV RX4 157 RX2 yX2_has wsX2_has) := goodIn_app (goodIn_of _ (by decide +kernel)) ggX4_place_X2_has
set_option maxRecDepth 20000 in
theorem ggX4_place_X2_at : GoodIn wsX4_place wsX2_at := goodIn_r _ [29, 30, 31, 17, 18, 19, 20, 21, 22, 23, 24, 25, 40, 41, 42, 43] (by decide +kernel) (by decide +kernel)
set_option maxRecDepth 20000 in
theorem gX4_place_X2_at : GoodIn wsX4_place (wsV RX4 160 RX2 yX2_at wsX2_at) := goodIn_app (goodIn_of _ (by decide +kernel)) ggX4_place_X2_at
theorem dX4_place_0 : decode cX4_place 0 = .ok (.iload_n 1, 1) := by decide +kernel
theorem dX4_place_1 : decode cX4_place 1 = .ok (.invokestatic 154, 3) := by decide +kernel
theorem dX4_place_4 : decode cX4_place 4 = .ok (.ifCond .eq 17, 3) := by decide +kernel
theorem dX4_place_7 : decode cX4_place 7 = .ok (.iload_n 2, 1) := by decide +kernel
theorem dX4_place_8 : decode cX4_place 8 = .ok (.iconst 0, 1) := by decide +kernel
theorem dX4_place_9 : decode cX4_place 9 = .ok (.bipush 8, 2) := by decide +kernel
theorem dX4_place_11 : decode cX4_place 11 = .ok (.invokestatic 44, 3) := by decide +kernel
theorem dX4_place_14 : decode cX4_place 14 = .ok (.ifCond .eq 7, 3) := by decide +kernel
theorem dX4_place_17 : decode cX4_place 17 = .ok (.iload_n 3, 1) := by decide +kernel
theorem dX4_place_18 : decode cX4_place 18 = .ok (.ifCond .ge 5, 3) := by decide +kernel
theorem dX4_place_21 : decode cX4_place 21 = .ok (.iconst (-1), 1) := by decide +kernel
theorem dX4_place_22 : decode cX4_place 22 = .ok (.ireturn, 1) := by decide +kernel
theorem dX4_place_23 : decode cX4_place 23 = .ok (.aload_n 0, 1) := by decide +kernel
theorem dX4_place_24 : decode cX4_place 24 = .ok (.getfield 26, 3) := by decide +kernel
theorem dX4_place_27 : decode cX4_place 27 = .ok (.iload_n 1, 1) := by decide +kernel
theorem dX4_place_28 : decode cX4_place 28 = .ok (.invokevirtual 147, 3) := by decide +kernel
theorem dX4_place_31 : decode cX4_place 31 = .ok (.astore 4, 2) := by decide +kernel
theorem dX4_place_33 : decode cX4_place 33 = .ok (.aload 4, 2) := by decide +kernel
theorem dX4_place_35 : decode cX4_place 35 = .ok (.iload_n 2, 1) := by decide +kernel
theorem dX4_place_36 : decode cX4_place 36 = .ok (.iload_n 3, 1) := by decide +kernel
theorem dX4_place_37 : decode cX4_place 37 = .ok (.invokevirtual 157, 3) := by decide +kernel
theorem dX4_place_40 : decode cX4_place 40 = .ok (.ifCond .eq 13, 3) := by decide +kernel
theorem dX4_place_43 : decode cX4_place 43 = .ok (.aload 4, 2) := by decide +kernel
theorem dX4_place_45 : decode cX4_place 45 = .ok (.iload_n 2, 1) := by decide +kernel
theorem dX4_place_46 : decode cX4_place 46 = .ok (.iload_n 3, 1) := by decide +kernel
theorem dX4_place_47 : decode cX4_place 47 = .ok (.invokevirtual 160, 3) := by decide +kernel
theorem dX4_place_50 : decode cX4_place 50 = .ok (.goto 5, 3) := by decide +kernel
theorem dX4_place_53 : decode cX4_place 53 = .ok (.bipush (-4), 2) := by decide +kernel
theorem dX4_place_55 : decode cX4_place 55 = .ok (.ireturn, 1) := by decide +kernel
set_option maxRecDepth 20000 in
theorem ggX4_longest_X4_isWhich : GoodIn wsX4_longest wsX4_isWhich := goodIn_r _ [5, 6, 7, 4, 8] (by decide +kernel) (by decide +kernel)
set_option maxRecDepth 20000 in
theorem gX4_longest_X4_isWhich : GoodIn wsX4_longest (va_wsS RX4 154 yX4_isWhich wsX4_isWhich) := goodIn_app (goodIn_of _ (by decide +kernel)) ggX4_longest_X4_isWhich
set_option maxRecDepth 20000 in
theorem ggX4_longest_X3_tableau : GoodIn wsX4_longest wsX3_tableau := goodIn_r _ [13, 14, 15, 33, 34] (by decide +kernel) (by decide +kernel)
set_option maxRecDepth 20000 in
theorem gX4_longest_X3_tableau : GoodIn wsX4_longest (wsV RX4 147 RX3 yX3_tableau wsX3_tableau) := goodIn_app (goodIn_of _ (by decide +kernel)) ggX4_longest_X3_tableau
set_option maxRecDepth 20000 in
theorem ggX4_longest_X2_lengthOf : GoodIn wsX4_longest wsX2_lengthOf := goodIn_r _ [20, 21, 35, 36, 37, 38] (by decide +kernel) (by decide +kernel)
set_option maxRecDepth 20000 in
theorem gX4_longest_X2_lengthOf : GoodIn wsX4_longest (wsV RX4 151 RX2 yX2_lengthOf wsX2_lengthOf) := goodIn_app (goodIn_of _ (by decide +kernel)) ggX4_longest_X2_lengthOf
set_option maxRecDepth 20000 in
theorem ggX4_longest_X2_rowCount : GoodIn wsX4_longest wsX2_rowCount := goodIn_r _ [25, 26, 35, 36, 37, 38] (by decide +kernel) (by decide +kernel)
set_option maxRecDepth 20000 in
theorem gX4_longest_X2_rowCount : GoodIn wsX4_longest (wsV RX4 163 RX2 yX2_rowCount wsX2_rowCount) := goodIn_app (goodIn_of _ (by decide +kernel)) ggX4_longest_X2_rowCount
theorem dX4_longest_0 : decode cX4_longest 0 = .ok (.iload_n 1, 1) := by decide +kernel
theorem dX4_longest_1 : decode cX4_longest 1 = .ok (.invokestatic 154, 3) := by decide +kernel
theorem dX4_longest_4 : decode cX4_longest 4 = .ok (.ifCond .ne 5, 3) := by decide +kernel
theorem dX4_longest_7 : decode cX4_longest 7 = .ok (.iconst (-1), 1) := by decide +kernel
theorem dX4_longest_8 : decode cX4_longest 8 = .ok (.ireturn, 1) := by decide +kernel
theorem dX4_longest_9 : decode cX4_longest 9 = .ok (.aload_n 0, 1) := by decide +kernel
theorem dX4_longest_10 : decode cX4_longest 10 = .ok (.getfield 26, 3) := by decide +kernel
theorem dX4_longest_13 : decode cX4_longest 13 = .ok (.iconst 0, 1) := by decide +kernel
theorem dX4_longest_14 : decode cX4_longest 14 = .ok (.invokevirtual 147, 3) := by decide +kernel
theorem dX4_longest_17 : decode cX4_longest 17 = .ok (.astore_n 2, 1) := by decide +kernel
theorem dX4_longest_18 : decode cX4_longest 18 = .ok (.iload_n 1, 1) := by decide +kernel
theorem dX4_longest_19 : decode cX4_longest 19 = .ok (.ifCond .ne 11, 3) := by decide +kernel
theorem dX4_longest_22 : decode cX4_longest 22 = .ok (.aload_n 2, 1) := by decide +kernel
theorem dX4_longest_23 : decode cX4_longest 23 = .ok (.iconst 0, 1) := by decide +kernel
theorem dX4_longest_24 : decode cX4_longest 24 = .ok (.invokevirtual 151, 3) := by decide +kernel
theorem dX4_longest_27 : decode cX4_longest 27 = .ok (.goto 7, 3) := by decide +kernel
theorem dX4_longest_30 : decode cX4_longest 30 = .ok (.aload_n 2, 1) := by decide +kernel
theorem dX4_longest_31 : decode cX4_longest 31 = .ok (.invokevirtual 163, 3) := by decide +kernel
theorem dX4_longest_34 : decode cX4_longest 34 = .ok (.ireturn, 1) := by decide +kernel
set_option maxRecDepth 20000 in
theorem ggX4_lay_X4_isWhich : GoodIn wsX4_lay wsX4_isWhich := goodIn_r _ [10, 11, 12, 9, 13] (by decide +kernel) (by decide +kernel)
set_option maxRecDepth 20000 in
theorem gX4_lay_X4_isWhich : GoodIn wsX4_lay (va_wsS RX4 154 yX4_isWhich wsX4_isWhich) := goodIn_app (goodIn_of _ (by decide +kernel)) ggX4_lay_X4_isWhich
set_option maxRecDepth 20000 in
theorem ggX4_lay_X4_isWithin : GoodIn wsX4_lay wsX4_isWithin := goodIn_r _ [13] (by decide +kernel) (by decide +kernel)
set_option maxRecDepth 20000 in
theorem gX4_lay_X4_isWithin : GoodIn wsX4_lay (va_wsS RX4 44 yX4_isWithin wsX4_isWithin) := goodIn_app (goodIn_of _ (by decide +kernel)) ggX4_lay_X4_isWithin
set_option maxRecDepth 20000 in
theorem ggX4_lay_X2_rowCount : GoodIn wsX4_lay wsX2_rowCount := goodIn_r _ [18, 19, 44, 45, 46, 47] (by decide +kernel) (by decide +kernel)
set_option maxRecDepth 20000 in
theorem gX4_lay_X2_rowCount : GoodIn wsX4_lay (wsV RX4 163 RX2 yX2_rowCount wsX2_rowCount) := goodIn_app (goodIn_of _ (by decide +kernel)) ggX4_lay_X2_rowCount
set_option maxRecDepth 20000 in
theorem ggX4_lay_X2_placeCount : GoodIn wsX4_lay wsX2_placeCount := goodIn_r _ [23, 24, 44, 45, 46, 47] (by decide +kernel) (by decide +kernel)
set_option maxRecDepth 20000 in
theorem gX4_lay_X2_placeCount : GoodIn wsX4_lay (wsV RX4 171 RX2 yX2_placeCount wsX2_placeCount) := goodIn_app (goodIn_of _ (by decide +kernel)) ggX4_lay_X2_placeCount
set_option maxRecDepth 20000 in
theorem ggX4_lay_X2_append : GoodIn wsX4_lay wsX2_append := goodIn_r _ [28, 24, 29, 30, 19, 31, 32, 5, 33, 12, 9, 13, 44, 45, 46, 47] (by decide +kernel) (by decide +kernel)
set_option maxRecDepth 20000 in
theorem gX4_lay_X2_append : GoodIn wsX4_lay (wsV RX4 172 RX2 yX2_append wsX2_append) := goodIn_app (goodIn_of _ (by decide +kernel)) ggX4_lay_X2_append
set_option maxRecDepth 20000 in
theorem ggX4_lay_X2_lengthOf : GoodIn wsX4_lay wsX2_lengthOf := goodIn_r _ [37, 30, 44, 45, 46, 47] (by decide +kernel) (by decide +kernel)
set_option maxRecDepth 20000 in
theorem gX4_lay_X2_lengthOf : GoodIn wsX4_lay (wsV RX4 151 RX2 yX2_lengthOf wsX2_lengthOf) := goodIn_app (goodIn_of _ (by decide +kernel)) ggX4_lay_X2_lengthOf
theorem dX4_lay_0 : decode cX4_lay 0 = .ok (.iload_n 1, 1) := by decide +kernel
theorem dX4_lay_1 : decode cX4_lay 1 = .ok (.invokestatic 154, 3) := by decide +kernel
theorem dX4_lay_4 : decode cX4_lay 4 = .ok (.ifCond .eq 13, 3) := by decide +kernel
theorem dX4_lay_7 : decode cX4_lay 7 = .ok (.iload_n 3, 1) := by decide +kernel
theorem dX4_lay_8 : decode cX4_lay 8 = .ok (.iconst 1, 1) := by decide +kernel
theorem dX4_lay_9 : decode cX4_lay 9 = .ok (.bipush 40, 2) := by decide +kernel
theorem dX4_lay_11 : decode cX4_lay 11 = .ok (.invokestatic 44, 3) := by decide +kernel
theorem dX4_lay_14 : decode cX4_lay 14 = .ok (.ifCond .ne 5, 3) := by decide +kernel
theorem dX4_lay_17 : decode cX4_lay 17 = .ok (.iconst (-1), 1) := by decide +kernel
theorem dX4_lay_18 : decode cX4_lay 18 = .ok (.ireturn, 1) := by decide +kernel
theorem dX4_lay_19 : decode cX4_lay 19 = .ok (.iload_n 1, 1) := by decide +kernel
theorem dX4_lay_20 : decode cX4_lay 20 = .ok (.ifCond .ne 10, 3) := by decide +kernel
theorem dX4_lay_23 : decode cX4_lay 23 = .ok (.aload_n 0, 1) := by decide +kernel
theorem dX4_lay_24 : decode cX4_lay 24 = .ok (.getfield 33, 3) := by decide +kernel
theorem dX4_lay_27 : decode cX4_lay 27 = .ok (.goto 7, 3) := by decide +kernel
theorem dX4_lay_30 : decode cX4_lay 30 = .ok (.aload_n 0, 1) := by decide +kernel
theorem dX4_lay_31 : decode cX4_lay 31 = .ok (.getfield 37, 3) := by decide +kernel
theorem dX4_lay_34 : decode cX4_lay 34 = .ok (.astore 4, 2) := by decide +kernel
theorem dX4_lay_36 : decode cX4_lay 36 = .ok (.iload_n 2, 1) := by decide +kernel
theorem dX4_lay_37 : decode cX4_lay 37 = .ok (.iconst 0, 1) := by decide +kernel
theorem dX4_lay_38 : decode cX4_lay 38 = .ok (.aload 4, 2) := by decide +kernel
theorem dX4_lay_40 : decode cX4_lay 40 = .ok (.invokevirtual 163, 3) := by decide +kernel
theorem dX4_lay_43 : decode cX4_lay 43 = .ok (.bipush 8, 2) := by decide +kernel
theorem dX4_lay_45 : decode cX4_lay 45 = .ok (.invokestatic 166, 3) := by decide +kernel
theorem dX4_lay_48 : decode cX4_lay 48 = .ok (.invokestatic 44, 3) := by decide +kernel
theorem dX4_lay_51 : decode cX4_lay 51 = .ok (.ifCond .ne 5, 3) := by decide +kernel
theorem dX4_lay_54 : decode cX4_lay 54 = .ok (.iconst (-1), 1) := by decide +kernel
theorem dX4_lay_55 : decode cX4_lay 55 = .ok (.ireturn, 1) := by decide +kernel
theorem dX4_lay_56 : decode cX4_lay 56 = .ok (.aload 4, 2) := by decide +kernel
theorem dX4_lay_58 : decode cX4_lay 58 = .ok (.invokevirtual 171, 3) := by decide +kernel
theorem dX4_lay_61 : decode cX4_lay 61 = .ok (.bipush 40, 2) := by decide +kernel
theorem dX4_lay_63 : decode cX4_lay 63 = .ok (.if_icmp .lt 6, 3) := by decide +kernel
theorem dX4_lay_66 : decode cX4_lay 66 = .ok (.bipush (-3), 2) := by decide +kernel
theorem dX4_lay_68 : decode cX4_lay 68 = .ok (.ireturn, 1) := by decide +kernel
theorem dX4_lay_69 : decode cX4_lay 69 = .ok (.aload 4, 2) := by decide +kernel
theorem dX4_lay_71 : decode cX4_lay 71 = .ok (.iload_n 2, 1) := by decide +kernel
theorem dX4_lay_72 : decode cX4_lay 72 = .ok (.iload_n 3, 1) := by decide +kernel
theorem dX4_lay_73 : decode cX4_lay 73 = .ok (.invokevirtual 172, 3) := by decide +kernel
theorem dX4_lay_76 : decode cX4_lay 76 = .ok (.aload 4, 2) := by decide +kernel
theorem dX4_lay_78 : decode cX4_lay 78 = .ok (.iload_n 2, 1) := by decide +kernel
theorem dX4_lay_79 : decode cX4_lay 79 = .ok (.invokevirtual 151, 3) := by decide +kernel
theorem dX4_lay_82 : decode cX4_lay 82 = .ok (.ireturn, 1) := by decide +kernel
set_option maxRecDepth 20000 in
theorem ggX4_unlay_X2_placeCount : GoodIn wsX4_unlay wsX2_placeCount := goodIn_r _ [7, 8, 25, 26, 27, 28] (by decide +kernel) (by decide +kernel)
set_option maxRecDepth 20000 in
theorem gX4_unlay_X2_placeCount : GoodIn wsX4_unlay (wsV RX4 171 RX2 yX2_placeCount wsX2_placeCount) := goodIn_app (goodIn_of _ (by decide +kernel)) ggX4_unlay_X2_placeCount
set_option maxRecDepth 20000 in
theorem ggX4_unlay_X2_empty : GoodIn wsX4_unlay wsX2_empty := goodIn_r _ [12, 13, 14, 8, 15, 16, 17, 18, 25, 26, 27, 28] (by decide +kernel) (by decide +kernel)
set_option maxRecDepth 20000 in
theorem gX4_unlay_X2_empty : GoodIn wsX4_unlay (wsV RX4 175 RX2 yX2_empty wsX2_empty) := goodIn_app (goodIn_of _ (by decide +kernel)) ggX4_unlay_X2_empty
theorem dX4_unlay_0 : decode cX4_unlay 0 = .ok (.aload_n 0, 1) := by decide +kernel
theorem dX4_unlay_1 : decode cX4_unlay 1 = .ok (.getfield 33, 3) := by decide +kernel
theorem dX4_unlay_4 : decode cX4_unlay 4 = .ok (.invokevirtual 171, 3) := by decide +kernel
theorem dX4_unlay_7 : decode cX4_unlay 7 = .ok (.aload_n 0, 1) := by decide +kernel
theorem dX4_unlay_8 : decode cX4_unlay 8 = .ok (.getfield 37, 3) := by decide +kernel
theorem dX4_unlay_11 : decode cX4_unlay 11 = .ok (.invokevirtual 171, 3) := by decide +kernel
theorem dX4_unlay_14 : decode cX4_unlay 14 = .ok (.iadd, 1) := by decide +kernel
theorem dX4_unlay_15 : decode cX4_unlay 15 = .ok (.istore_n 1, 1) := by decide +kernel
theorem dX4_unlay_16 : decode cX4_unlay 16 = .ok (.aload_n 0, 1) := by decide +kernel
theorem dX4_unlay_17 : decode cX4_unlay 17 = .ok (.getfield 33, 3) := by decide +kernel
theorem dX4_unlay_20 : decode cX4_unlay 20 = .ok (.invokevirtual 175, 3) := by decide +kernel
theorem dX4_unlay_23 : decode cX4_unlay 23 = .ok (.aload_n 0, 1) := by decide +kernel
theorem dX4_unlay_24 : decode cX4_unlay 24 = .ok (.getfield 37, 3) := by decide +kernel
theorem dX4_unlay_27 : decode cX4_unlay 27 = .ok (.invokevirtual 175, 3) := by decide +kernel
theorem dX4_unlay_30 : decode cX4_unlay 30 = .ok (.iload_n 1, 1) := by decide +kernel
theorem dX4_unlay_31 : decode cX4_unlay 31 = .ok (.ireturn, 1) := by decide +kernel
set_option maxRecDepth 20000 in
theorem ggX4_back_X4_laidIsAsTold : GoodIn wsX4_back wsX4_laidIsAsTold := goodIn_r _ [9, 1, 2, 10, 11, 12, 13, 14, 15, 16, 17, 18, 19, 20, 21, 22, 23, 24, 25, 26, 27, 28, 29, 30, 31, 32, 33, 34, 35, 36, 37, 38, 39, 40, 41, 42, 43, 44, 45, 46, 124, 125, 126, 127, 128, 129, 130, 131, 132, 133] (by decide +kernel) (by decide +kernel)
set_option maxRecDepth 20000 in
theorem gX4_back_X4_laidIsAsTold : GoodIn wsX4_back (wsV RX4 178 RX4 yX4_laidIsAsTold wsX4_laidIsAsTold) := goodIn_app (goodIn_of _ (by decide +kernel)) ggX4_back_X4_laidIsAsTold
set_option maxRecDepth 20000 in
theorem ggX4_back_X2_placeCount : GoodIn wsX4_back wsX2_placeCount := goodIn_r _ [50, 46, 130, 131, 132, 133] (by decide +kernel) (by decide +kernel)
set_option maxRecDepth 20000 in
theorem gX4_back_X2_placeCount : GoodIn wsX4_back (wsV RX4 171 RX2 yX2_placeCount wsX2_placeCount) := goodIn_app (goodIn_of _ (by decide +kernel)) ggX4_back_X2_placeCount
set_option maxRecDepth 20000 in
theorem ggX4_back_X4_readLaidIntoDraft : GoodIn wsX4_back wsX4_readLaidIntoDraft := goodIn_r _ [54, 2, 4, 1, 55, 56, 57, 13, 58, 24, 15, 30, 31, 32, 33, 29, 34, 35, 36, 37, 16, 17, 18, 19, 59, 60, 61, 62, 46, 63, 64, 65, 66, 67, 68, 69, 70, 71, 72, 73, 74, 75, 124, 125, 126, 127, 128, 129, 130, 131, 132, 133] (by decide +kernel) (by decide +kernel)
set_option maxRecDepth 20000 in
theorem gX4_back_X4_readLaidIntoDraft : GoodIn wsX4_back (wsV RX4 181 RX4 yX4_readLaidIntoDraft wsX4_readLaidIntoDraft) := goodIn_app (goodIn_of _ (by decide +kernel)) ggX4_back_X4_readLaidIntoDraft
set_option maxRecDepth 20000 in
theorem ggX4_back_X2_empty : GoodIn wsX4_back wsX2_empty := goodIn_r _ [79, 15, 24, 46, 80, 81, 82, 83, 130, 131, 132, 133] (by decide +kernel) (by decide +kernel)
set_option maxRecDepth 20000 in
theorem gX4_back_X2_empty : GoodIn wsX4_back (wsV RX4 175 RX2 yX2_empty wsX2_empty) := goodIn_app (goodIn_of _ (by decide +kernel)) ggX4_back_X2_empty
set_option maxRecDepth 20000 in
theorem ggX4_back_X3_become : GoodIn wsX4_back wsX3_become := goodIn_r _ [88, 89, 90, 91, 87, 92, 93, 94, 95, 77, 78, 13, 79, 15, 24, 46, 80, 81, 82, 83, 96, 97, 98, 99, 100, 101, 102, 103, 104, 105, 106, 107, 29, 16, 17, 18, 19, 34, 35, 36, 37, 108, 109, 110, 111, 112, 113, 114, 115, 116, 8, 117, 72, 73, 74, 75, 118, 119, 120, 121, 122, 48, 49, 50, 123, 134, 135, 130, 131, 132, 133] (by decide +kernel) (by decide +kernel)
set_option maxRecDepth 20000 in
theorem gX4_back_X3_become : GoodIn wsX4_back (wsV RX4 184 RX3 yX3_become wsX3_become) := goodIn_app (goodIn_of _ (by decide +kernel)) ggX4_back_X3_become
theorem dX4_back_0 : decode cX4_back 0 = .ok (.aload_n 0, 1) := by decide +kernel
theorem dX4_back_1 : decode cX4_back 1 = .ok (.invokevirtual 178, 3) := by decide +kernel
theorem dX4_back_4 : decode cX4_back 4 = .ok (.ifCond .ne 6, 3) := by decide +kernel
theorem dX4_back_7 : decode cX4_back 7 = .ok (.bipush (-2), 2) := by decide +kernel
theorem dX4_back_9 : decode cX4_back 9 = .ok (.ireturn, 1) := by decide +kernel
theorem dX4_back_10 : decode cX4_back 10 = .ok (.aload_n 0, 1) := by decide +kernel
theorem dX4_back_11 : decode cX4_back 11 = .ok (.getfield 33, 3) := by decide +kernel
theorem dX4_back_14 : decode cX4_back 14 = .ok (.invokevirtual 171, 3) := by decide +kernel
theorem dX4_back_17 : decode cX4_back 17 = .ok (.istore_n 1, 1) := by decide +kernel
theorem dX4_back_18 : decode cX4_back 18 = .ok (.aload_n 0, 1) := by decide +kernel
theorem dX4_back_19 : decode cX4_back 19 = .ok (.iload_n 1, 1) := by decide +kernel
theorem dX4_back_20 : decode cX4_back 20 = .ok (.invokevirtual 181, 3) := by decide +kernel
theorem dX4_back_23 : decode cX4_back 23 = .ok (.aload_n 0, 1) := by decide +kernel
theorem dX4_back_24 : decode cX4_back 24 = .ok (.getfield 33, 3) := by decide +kernel
theorem dX4_back_27 : decode cX4_back 27 = .ok (.invokevirtual 175, 3) := by decide +kernel
theorem dX4_back_30 : decode cX4_back 30 = .ok (.aload_n 0, 1) := by decide +kernel
theorem dX4_back_31 : decode cX4_back 31 = .ok (.getfield 37, 3) := by decide +kernel
theorem dX4_back_34 : decode cX4_back 34 = .ok (.invokevirtual 175, 3) := by decide +kernel
theorem dX4_back_37 : decode cX4_back 37 = .ok (.aload_n 0, 1) := by decide +kernel
theorem dX4_back_38 : decode cX4_back 38 = .ok (.getfield 26, 3) := by decide +kernel
theorem dX4_back_41 : decode cX4_back 41 = .ok (.aload_n 0, 1) := by decide +kernel
theorem dX4_back_42 : decode cX4_back 42 = .ok (.getfield 40, 3) := by decide +kernel
theorem dX4_back_45 : decode cX4_back 45 = .ok (.iload_n 1, 1) := by decide +kernel
theorem dX4_back_46 : decode cX4_back 46 = .ok (.invokevirtual 184, 3) := by decide +kernel
theorem dX4_back_49 : decode cX4_back 49 = .ok (.iload_n 1, 1) := by decide +kernel
theorem dX4_back_50 : decode cX4_back 50 = .ok (.ireturn, 1) := by decide +kernel
set_option maxRecDepth 20000 in
theorem ggX4_wordOf_X0_total : GoodIn wsX4_wordOf wsX0_total := goodIn_r _ [8, 9, 10, 11, 90, 91, 92, 93, 94, 95] (by decide +kernel) (by decide +kernel)
set_option maxRecDepth 20000 in
theorem gX4_wordOf_X0_total : GoodIn wsX4_wordOf (wsV RX4 99 RX0 yX0_total wsX0_total) := goodIn_app (goodIn_of _ (by decide +kernel)) ggX4_wordOf_X0_total
set_option maxRecDepth 20000 in
theorem ggX4_wordOf_X0_spell : GoodIn wsX4_wordOf wsX0_spell := goodIn_r _ [15, 9, 10, 11, 90, 91, 92, 93, 94, 95] (by decide +kernel) (by decide +kernel)
set_option maxRecDepth 20000 in
theorem gX4_wordOf_X0_spell : GoodIn wsX4_wordOf (wsV RX4 188 RX0 yX0_spell wsX0_spell) := goodIn_app (goodIn_of _ (by decide +kernel)) ggX4_wordOf_X0_spell
set_option maxRecDepth 20000 in
theorem ggX4_wordOf_X3_become : GoodIn wsX4_wordOf wsX3_become := goodIn_r _ [20, 21, 22, 23, 19, 24, 25, 26, 27, 28, 29, 30, 31, 32, 33, 34, 35, 36, 37, 38, 39, 40, 41, 42, 43, 44, 45, 46, 47, 48, 49, 50, 51, 52, 53, 54, 55, 56, 57, 58, 59, 60, 61, 62, 63, 64, 65, 66, 67, 68, 69, 70, 71, 72, 73, 74, 75, 76, 77, 78, 79, 80, 81, 82, 83, 96, 97, 98, 99, 100, 101] (by decide +kernel) (by decide +kernel)
set_option maxRecDepth 20000 in
theorem gX4_wordOf_X3_become : GoodIn wsX4_wordOf (wsV RX4 184 RX3 yX3_become wsX3_become) := goodIn_app (goodIn_of _ (by decide +kernel)) ggX4_wordOf_X3_become
theorem dX4_wordOf_0 : decode cX4_wordOf 0 = .ok (.aload_n 0, 1) := by decide +kernel
theorem dX4_wordOf_1 : decode cX4_wordOf 1 = .ok (.getfield 10, 3) := by decide +kernel
theorem dX4_wordOf_4 : decode cX4_wordOf 4 = .ok (.invokevirtual 99, 3) := by decide +kernel
theorem dX4_wordOf_7 : decode cX4_wordOf 7 = .ok (.istore_n 1, 1) := by decide +kernel
theorem dX4_wordOf_8 : decode cX4_wordOf 8 = .ok (.iload_n 1, 1) := by decide +kernel
theorem dX4_wordOf_9 : decode cX4_wordOf 9 = .ok (.bipush 40, 2) := by decide +kernel
theorem dX4_wordOf_11 : decode cX4_wordOf 11 = .ok (.if_icmp .le 6, 3) := by decide +kernel
theorem dX4_wordOf_14 : decode cX4_wordOf 14 = .ok (.bipush (-3), 2) := by decide +kernel
theorem dX4_wordOf_16 : decode cX4_wordOf 16 = .ok (.ireturn, 1) := by decide +kernel
theorem dX4_wordOf_17 : decode cX4_wordOf 17 = .ok (.aload_n 0, 1) := by decide +kernel
theorem dX4_wordOf_18 : decode cX4_wordOf 18 = .ok (.getfield 10, 3) := by decide +kernel
theorem dX4_wordOf_21 : decode cX4_wordOf 21 = .ok (.aload_n 0, 1) := by decide +kernel
theorem dX4_wordOf_22 : decode cX4_wordOf 22 = .ok (.getfield 40, 3) := by decide +kernel
theorem dX4_wordOf_25 : decode cX4_wordOf 25 = .ok (.invokevirtual 188, 3) := by decide +kernel
theorem dX4_wordOf_28 : decode cX4_wordOf 28 = .ok (.aload_n 0, 1) := by decide +kernel
theorem dX4_wordOf_29 : decode cX4_wordOf 29 = .ok (.getfield 26, 3) := by decide +kernel
theorem dX4_wordOf_32 : decode cX4_wordOf 32 = .ok (.aload_n 0, 1) := by decide +kernel
theorem dX4_wordOf_33 : decode cX4_wordOf 33 = .ok (.getfield 40, 3) := by decide +kernel
theorem dX4_wordOf_36 : decode cX4_wordOf 36 = .ok (.iload_n 1, 1) := by decide +kernel
theorem dX4_wordOf_37 : decode cX4_wordOf 37 = .ok (.invokevirtual 184, 3) := by decide +kernel
theorem dX4_wordOf_40 : decode cX4_wordOf 40 = .ok (.iload_n 1, 1) := by decide +kernel
theorem dX4_wordOf_41 : decode cX4_wordOf 41 = .ok (.ireturn, 1) := by decide +kernel
set_option maxRecDepth 20000 in
theorem ggX4_chance_X4_isWithin : GoodIn wsX4_chance wsX4_isWithin := goodIn_r _ [5] (by decide +kernel) (by decide +kernel)
set_option maxRecDepth 20000 in
theorem gX4_chance_X4_isWithin : GoodIn wsX4_chance (va_wsS RX4 44 yX4_isWithin wsX4_isWithin) := goodIn_app (goodIn_of _ (by decide +kernel)) ggX4_chance_X4_isWithin
set_option maxRecDepth 20000 in
theorem ggX4_chance_X4_countByShapes : GoodIn wsX4_chance wsX4_countByShapes := goodIn_r _ [8, 9, 10, 11, 12, 13, 14, 4, 15, 16] (by decide +kernel) (by decide +kernel)
set_option maxRecDepth 20000 in
theorem gX4_chance_X4_countByShapes : GoodIn wsX4_chance (va_wsS RX4 192 yX4_countByShapes wsX4_countByShapes) := goodIn_app (goodIn_of _ (by decide +kernel)) ggX4_chance_X4_countByShapes
theorem dX4_chance_0 : decode cX4_chance 0 = .ok (.iload_n 1, 1) := by decide +kernel
theorem dX4_chance_1 : decode cX4_chance 1 = .ok (.iconst 1, 1) := by decide +kernel
theorem dX4_chance_2 : decode cX4_chance 2 = .ok (.iconst 3, 1) := by decide +kernel
theorem dX4_chance_3 : decode cX4_chance 3 = .ok (.invokestatic 44, 3) := by decide +kernel
theorem dX4_chance_6 : decode cX4_chance 6 = .ok (.ifCond .eq 22, 3) := by decide +kernel
theorem dX4_chance_9 : decode cX4_chance 9 = .ok (.iload_n 2, 1) := by decide +kernel
theorem dX4_chance_10 : decode cX4_chance 10 = .ok (.iconst 1, 1) := by decide +kernel
theorem dX4_chance_11 : decode cX4_chance 11 = .ok (.iconst 3, 1) := by decide +kernel
theorem dX4_chance_12 : decode cX4_chance 12 = .ok (.invokestatic 44, 3) := by decide +kernel
theorem dX4_chance_15 : decode cX4_chance 15 = .ok (.ifCond .eq 13, 3) := by decide +kernel
theorem dX4_chance_18 : decode cX4_chance 18 = .ok (.iload_n 3, 1) := by decide +kernel
theorem dX4_chance_19 : decode cX4_chance 19 = .ok (.iconst 0, 1) := by decide +kernel
theorem dX4_chance_20 : decode cX4_chance 20 = .ok (.bipush 8, 2) := by decide +kernel
theorem dX4_chance_22 : decode cX4_chance 22 = .ok (.invokestatic 44, 3) := by decide +kernel
theorem dX4_chance_25 : decode cX4_chance 25 = .ok (.ifCond .ne 7, 3) := by decide +kernel
theorem dX4_chance_28 : decode cX4_chance 28 = .ok (.ldc2_w 121, 3) := by decide +kernel
theorem dX4_chance_31 : decode cX4_chance 31 = .ok (.lreturn, 1) := by decide +kernel
theorem dX4_chance_32 : decode cX4_chance 32 = .ok (.iload_n 1, 1) := by decide +kernel
theorem dX4_chance_33 : decode cX4_chance 33 = .ok (.iload_n 2, 1) := by decide +kernel
theorem dX4_chance_34 : decode cX4_chance 34 = .ok (.iload_n 3, 1) := by decide +kernel
theorem dX4_chance_35 : decode cX4_chance 35 = .ok (.invokestatic 192, 3) := by decide +kernel
theorem dX4_chance_38 : decode cX4_chance 38 = .ok (.lreturn, 1) := by decide +kernel
theorem dX4_isWithin_0 : decode cX4_isWithin 0 = .ok (.iload_n 0, 1) := by decide +kernel
theorem dX4_isWithin_1 : decode cX4_isWithin 1 = .ok (.iload_n 1, 1) := by decide +kernel
theorem dX4_isWithin_2 : decode cX4_isWithin 2 = .ok (.if_icmp .lt 12, 3) := by decide +kernel
theorem dX4_isWithin_5 : decode cX4_isWithin 5 = .ok (.iload_n 0, 1) := by decide +kernel
theorem dX4_isWithin_6 : decode cX4_isWithin 6 = .ok (.iload_n 2, 1) := by decide +kernel
theorem dX4_isWithin_7 : decode cX4_isWithin 7 = .ok (.if_icmp .gt 7, 3) := by decide +kernel
theorem dX4_isWithin_10 : decode cX4_isWithin 10 = .ok (.iconst 1, 1) := by decide +kernel
theorem dX4_isWithin_11 : decode cX4_isWithin 11 = .ok (.goto 4, 3) := by decide +kernel
theorem dX4_isWithin_14 : decode cX4_isWithin 14 = .ok (.iconst 0, 1) := by decide +kernel
theorem dX4_isWithin_15 : decode cX4_isWithin 15 = .ok (.ireturn, 1) := by decide +kernel
theorem dX4_isWeight_0 : decode cX4_isWeight 0 = .ok (.lload_n 0, 1) := by decide +kernel
theorem dX4_isWeight_1 : decode cX4_isWeight 1 = .ok (.lconst 0, 1) := by decide +kernel
theorem dX4_isWeight_2 : decode cX4_isWeight 2 = .ok (.lcmp, 1) := by decide +kernel
theorem dX4_isWeight_3 : decode cX4_isWeight 3 = .ok (.ifCond .lt 15, 3) := by decide +kernel
theorem dX4_isWeight_6 : decode cX4_isWeight 6 = .ok (.lload_n 0, 1) := by decide +kernel
theorem dX4_isWeight_7 : decode cX4_isWeight 7 = .ok (.ldc2_w 196, 3) := by decide +kernel
theorem dX4_isWeight_10 : decode cX4_isWeight 10 = .ok (.lcmp, 1) := by decide +kernel
theorem dX4_isWeight_11 : decode cX4_isWeight 11 = .ok (.ifCond .gt 7, 3) := by decide +kernel
theorem dX4_isWeight_14 : decode cX4_isWeight 14 = .ok (.iconst 1, 1) := by decide +kernel
theorem dX4_isWeight_15 : decode cX4_isWeight 15 = .ok (.goto 4, 3) := by decide +kernel
theorem dX4_isWeight_18 : decode cX4_isWeight 18 = .ok (.iconst 0, 1) := by decide +kernel
theorem dX4_isWeight_19 : decode cX4_isWeight 19 = .ok (.ireturn, 1) := by decide +kernel
set_option maxRecDepth 20000 in
theorem ggX4_isSheet_X4_isWithin : GoodIn wsX4_isSheet wsX4_isWithin := goodIn_r _ [4] (by decide +kernel) (by decide +kernel)
set_option maxRecDepth 20000 in
theorem gX4_isSheet_X4_isWithin : GoodIn wsX4_isSheet (va_wsS RX4 44 yX4_isWithin wsX4_isWithin) := goodIn_app (goodIn_of _ (by decide +kernel)) ggX4_isSheet_X4_isWithin
theorem dX4_isSheet_0 : decode cX4_isSheet 0 = .ok (.iload_n 0, 1) := by decide +kernel
theorem dX4_isSheet_1 : decode cX4_isSheet 1 = .ok (.iconst 0, 1) := by decide +kernel
theorem dX4_isSheet_2 : decode cX4_isSheet 2 = .ok (.iconst 3, 1) := by decide +kernel
theorem dX4_isSheet_3 : decode cX4_isSheet 3 = .ok (.invokestatic 44, 3) := by decide +kernel
theorem dX4_isSheet_6 : decode cX4_isSheet 6 = .ok (.ireturn, 1) := by decide +kernel
set_option maxRecDepth 20000 in
theorem ggX4_isLane_X4_isWithin : GoodIn wsX4_isLane wsX4_isWithin := goodIn_r _ [4] (by decide +kernel) (by decide +kernel)
set_option maxRecDepth 20000 in
theorem gX4_isLane_X4_isWithin : GoodIn wsX4_isLane (va_wsS RX4 44 yX4_isWithin wsX4_isWithin) := goodIn_app (goodIn_of _ (by decide +kernel)) ggX4_isLane_X4_isWithin
theorem dX4_isLane_0 : decode cX4_isLane 0 = .ok (.iload_n 0, 1) := by decide +kernel
theorem dX4_isLane_1 : decode cX4_isLane 1 = .ok (.iconst 0, 1) := by decide +kernel
theorem dX4_isLane_2 : decode cX4_isLane 2 = .ok (.iconst 1, 1) := by decide +kernel
theorem dX4_isLane_3 : decode cX4_isLane 3 = .ok (.invokestatic 44, 3) := by decide +kernel
theorem dX4_isLane_6 : decode cX4_isLane 6 = .ok (.ireturn, 1) := by decide +kernel
set_option maxRecDepth 20000 in
theorem ggX4_isWhich_X4_isWithin : GoodIn wsX4_isWhich wsX4_isWithin := goodIn_r _ [4] (by decide +kernel) (by decide +kernel)
set_option maxRecDepth 20000 in
theorem gX4_isWhich_X4_isWithin : GoodIn wsX4_isWhich (va_wsS RX4 44 yX4_isWithin wsX4_isWithin) := goodIn_app (goodIn_of _ (by decide +kernel)) ggX4_isWhich_X4_isWithin
theorem dX4_isWhich_0 : decode cX4_isWhich 0 = .ok (.iload_n 0, 1) := by decide +kernel
theorem dX4_isWhich_1 : decode cX4_isWhich 1 = .ok (.iconst 0, 1) := by decide +kernel
theorem dX4_isWhich_2 : decode cX4_isWhich 2 = .ok (.iconst 1, 1) := by decide +kernel
theorem dX4_isWhich_3 : decode cX4_isWhich 3 = .ok (.invokestatic 44, 3) := by decide +kernel
theorem dX4_isWhich_6 : decode cX4_isWhich 6 = .ok (.ireturn, 1) := by decide +kernel
set_option maxRecDepth 20000 in
theorem ggX4_lookAtItems_X4_isSheet : GoodIn wsX4_lookAtItems wsX4_isSheet := goodIn_r _ [5, 6, 7, 4, 8] (by decide +kernel) (by decide +kernel)
set_option maxRecDepth 20000 in
theorem gX4_lookAtItems_X4_isSheet : GoodIn wsX4_lookAtItems (va_wsS RX4 64 yX4_isSheet wsX4_isSheet) := goodIn_app (goodIn_of _ (by decide +kernel)) ggX4_lookAtItems_X4_isSheet
set_option maxRecDepth 20000 in
theorem ggX4_lookAtItems_X4_isLane : GoodIn wsX4_lookAtItems wsX4_isLane := goodIn_r _ [11, 6, 7, 4, 8] (by decide +kernel) (by decide +kernel)
set_option maxRecDepth 20000 in
theorem gX4_lookAtItems_X4_isLane : GoodIn wsX4_lookAtItems (va_wsS RX4 68 yX4_isLane wsX4_isLane) := goodIn_app (goodIn_of _ (by decide +kernel)) ggX4_lookAtItems_X4_isLane
set_option maxRecDepth 20000 in
theorem ggX4_lookAtItems_X1_isMissing : GoodIn wsX4_lookAtItems wsX1_isMissing := goodIn_r _ [16, 17, 33, 34, 35] (by decide +kernel) (by decide +kernel)
set_option maxRecDepth 20000 in
theorem gX4_lookAtItems_X1_isMissing : GoodIn wsX4_lookAtItems (wsV RX4 74 RX1 yX1_isMissing wsX1_isMissing) := goodIn_app (goodIn_of _ (by decide +kernel)) ggX4_lookAtItems_X1_isMissing
set_option maxRecDepth 20000 in
theorem ggX4_lookAtItems_X1_isOf : GoodIn wsX4_lookAtItems wsX1_isOf := goodIn_r _ [21, 17, 33, 34, 35] (by decide +kernel) (by decide +kernel)
set_option maxRecDepth 20000 in
theorem gX4_lookAtItems_X1_isOf : GoodIn wsX4_lookAtItems (wsV RX4 198 RX1 yX1_isOf wsX1_isOf) := goodIn_app (goodIn_of _ (by decide +kernel)) ggX4_lookAtItems_X1_isOf
set_option maxRecDepth 20000 in
theorem ggX4_lookAtItems_X1_reaches : GoodIn wsX4_lookAtItems wsX1_reaches := goodIn_r _ [25, 26, 33, 34, 35] (by decide +kernel) (by decide +kernel)
set_option maxRecDepth 20000 in
theorem gX4_lookAtItems_X1_reaches : GoodIn wsX4_lookAtItems (wsV RX4 201 RX1 yX1_reaches wsX1_reaches) := goodIn_app (goodIn_of _ (by decide +kernel)) ggX4_lookAtItems_X1_reaches
theorem dX4_lookAtItems_0 : decode cX4_lookAtItems 0 = .ok (.iload_n 1, 1) := by decide +kernel
theorem dX4_lookAtItems_1 : decode cX4_lookAtItems 1 = .ok (.invokestatic 64, 3) := by decide +kernel
theorem dX4_lookAtItems_4 : decode cX4_lookAtItems 4 = .ok (.ifCond .eq 10, 3) := by decide +kernel
theorem dX4_lookAtItems_7 : decode cX4_lookAtItems 7 = .ok (.iload_n 2, 1) := by decide +kernel
theorem dX4_lookAtItems_8 : decode cX4_lookAtItems 8 = .ok (.invokestatic 68, 3) := by decide +kernel
theorem dX4_lookAtItems_11 : decode cX4_lookAtItems 11 = .ok (.ifCond .ne 5, 3) := by decide +kernel
theorem dX4_lookAtItems_14 : decode cX4_lookAtItems 14 = .ok (.iconst (-1), 1) := by decide +kernel
theorem dX4_lookAtItems_15 : decode cX4_lookAtItems 15 = .ok (.ireturn, 1) := by decide +kernel
theorem dX4_lookAtItems_16 : decode cX4_lookAtItems 16 = .ok (.aload_n 0, 1) := by decide +kernel
theorem dX4_lookAtItems_17 : decode cX4_lookAtItems 17 = .ok (.getfield 18, 3) := by decide +kernel
theorem dX4_lookAtItems_20 : decode cX4_lookAtItems 20 = .ok (.iload_n 1, 1) := by decide +kernel
theorem dX4_lookAtItems_21 : decode cX4_lookAtItems 21 = .ok (.aaload, 1) := by decide +kernel
theorem dX4_lookAtItems_22 : decode cX4_lookAtItems 22 = .ok (.astore 5, 2) := by decide +kernel
theorem dX4_lookAtItems_24 : decode cX4_lookAtItems 24 = .ok (.aload 5, 2) := by decide +kernel
theorem dX4_lookAtItems_26 : decode cX4_lookAtItems 26 = .ok (.invokevirtual 74, 3) := by decide +kernel
theorem dX4_lookAtItems_29 : decode cX4_lookAtItems 29 = .ok (.ifCond .eq 6, 3) := by decide +kernel
theorem dX4_lookAtItems_32 : decode cX4_lookAtItems 32 = .ok (.bipush (-11), 2) := by decide +kernel
theorem dX4_lookAtItems_34 : decode cX4_lookAtItems 34 = .ok (.ireturn, 1) := by decide +kernel
theorem dX4_lookAtItems_35 : decode cX4_lookAtItems 35 = .ok (.aload 5, 2) := by decide +kernel
theorem dX4_lookAtItems_37 : decode cX4_lookAtItems 37 = .ok (.iload_n 2, 1) := by decide +kernel
theorem dX4_lookAtItems_38 : decode cX4_lookAtItems 38 = .ok (.invokevirtual 198, 3) := by decide +kernel
theorem dX4_lookAtItems_41 : decode cX4_lookAtItems 41 = .ok (.ifCond .ne 6, 3) := by decide +kernel
theorem dX4_lookAtItems_44 : decode cX4_lookAtItems 44 = .ok (.bipush (-12), 2) := by decide +kernel
theorem dX4_lookAtItems_46 : decode cX4_lookAtItems 46 = .ok (.ireturn, 1) := by decide +kernel
theorem dX4_lookAtItems_47 : decode cX4_lookAtItems 47 = .ok (.aload 5, 2) := by decide +kernel
theorem dX4_lookAtItems_49 : decode cX4_lookAtItems 49 = .ok (.iload_n 3, 1) := by decide +kernel
theorem dX4_lookAtItems_50 : decode cX4_lookAtItems 50 = .ok (.iload 4, 2) := by decide +kernel
theorem dX4_lookAtItems_52 : decode cX4_lookAtItems 52 = .ok (.invokevirtual 201, 3) := by decide +kernel
theorem dX4_lookAtItems_55 : decode cX4_lookAtItems 55 = .ok (.ifCond .eq 7, 3) := by decide +kernel
theorem dX4_lookAtItems_58 : decode cX4_lookAtItems 58 = .ok (.iconst 1, 1) := by decide +kernel
theorem dX4_lookAtItems_59 : decode cX4_lookAtItems 59 = .ok (.goto 5, 3) := by decide +kernel
theorem dX4_lookAtItems_62 : decode cX4_lookAtItems 62 = .ok (.bipush (-13), 2) := by decide +kernel
theorem dX4_lookAtItems_64 : decode cX4_lookAtItems 64 = .ok (.ireturn, 1) := by decide +kernel
set_option maxRecDepth 20000 in
theorem ggX4_laidIsAsTold_X2_hasShapeOf : GoodIn wsX4_laidIsAsTold wsX2_hasShapeOf := goodIn_r _ [7, 8, 9, 10, 11, 6, 12, 46, 47, 48, 49] (by decide +kernel) (by decide +kernel)
set_option maxRecDepth 20000 in
theorem gX4_laidIsAsTold_X2_hasShapeOf : GoodIn wsX4_laidIsAsTold (wsV RX4 204 RX2 yX2_hasShapeOf wsX2_hasShapeOf) := goodIn_app (goodIn_of _ (by decide +kernel)) ggX4_laidIsAsTold_X2_hasShapeOf
set_option maxRecDepth 20000 in
theorem ggX4_laidIsAsTold_X2_isStaircase : GoodIn wsX4_laidIsAsTold wsX2_isStaircase := goodIn_r _ [16, 17, 8, 46, 47, 48, 49] (by decide +kernel) (by decide +kernel)
set_option maxRecDepth 20000 in
theorem gX4_laidIsAsTold_X2_isStaircase : GoodIn wsX4_laidIsAsTold (wsV RX4 208 RX2 yX2_isStaircase wsX2_isStaircase) := goodIn_app (goodIn_of _ (by decide +kernel)) ggX4_laidIsAsTold_X2_isStaircase
set_option maxRecDepth 20000 in
theorem ggX4_laidIsAsTold_X2_rises : GoodIn wsX4_laidIsAsTold wsX2_rises := goodIn_r _ [21, 17, 8, 22, 23, 24, 25, 6, 26, 27, 28, 29, 30, 9, 10, 11, 12, 46, 47, 48, 49] (by decide +kernel) (by decide +kernel)
set_option maxRecDepth 20000 in
theorem gX4_laidIsAsTold_X2_rises : GoodIn wsX4_laidIsAsTold (wsV RX4 211 RX2 yX2_rises wsX2_rises) := goodIn_app (goodIn_of _ (by decide +kernel)) ggX4_laidIsAsTold_X2_rises
set_option maxRecDepth 20000 in
theorem ggX4_laidIsAsTold_X2_isBelow : GoodIn wsX4_laidIsAsTold wsX2_isBelow := goodIn_r _ [34, 17, 8, 22, 46, 47, 48, 49] (by decide +kernel) (by decide +kernel)
set_option maxRecDepth 20000 in
theorem gX4_laidIsAsTold_X2_isBelow : GoodIn wsX4_laidIsAsTold (wsV RX4 214 RX2 yX2_isBelow wsX2_isBelow) := goodIn_app (goodIn_of _ (by decide +kernel)) ggX4_laidIsAsTold_X2_isBelow
set_option maxRecDepth 20000 in
theorem ggX4_laidIsAsTold_X2_hasEachOnce : GoodIn wsX4_laidIsAsTold wsX2_hasEachOnce := goodIn_r _ [38, 17, 8, 22, 39, 46, 47, 48, 49] (by decide +kernel) (by decide +kernel)
set_option maxRecDepth 20000 in
theorem gX4_laidIsAsTold_X2_hasEachOnce : GoodIn wsX4_laidIsAsTold (wsV RX4 217 RX2 yX2_hasEachOnce wsX2_hasEachOnce) := goodIn_app (goodIn_of _ (by decide +kernel)) ggX4_laidIsAsTold_X2_hasEachOnce
theorem dX4_laidIsAsTold_0 : decode cX4_laidIsAsTold 0 = .ok (.aload_n 0, 1) := by decide +kernel
theorem dX4_laidIsAsTold_1 : decode cX4_laidIsAsTold 1 = .ok (.getfield 33, 3) := by decide +kernel
theorem dX4_laidIsAsTold_4 : decode cX4_laidIsAsTold 4 = .ok (.aload_n 0, 1) := by decide +kernel
theorem dX4_laidIsAsTold_5 : decode cX4_laidIsAsTold 5 = .ok (.getfield 37, 3) := by decide +kernel
theorem dX4_laidIsAsTold_8 : decode cX4_laidIsAsTold 8 = .ok (.invokevirtual 204, 3) := by decide +kernel
theorem dX4_laidIsAsTold_11 : decode cX4_laidIsAsTold 11 = .ok (.ifCond .eq 61, 3) := by decide +kernel
theorem dX4_laidIsAsTold_14 : decode cX4_laidIsAsTold 14 = .ok (.aload_n 0, 1) := by decide +kernel
theorem dX4_laidIsAsTold_15 : decode cX4_laidIsAsTold 15 = .ok (.getfield 33, 3) := by decide +kernel
theorem dX4_laidIsAsTold_18 : decode cX4_laidIsAsTold 18 = .ok (.invokevirtual 208, 3) := by decide +kernel
theorem dX4_laidIsAsTold_21 : decode cX4_laidIsAsTold 21 = .ok (.ifCond .eq 51, 3) := by decide +kernel
theorem dX4_laidIsAsTold_24 : decode cX4_laidIsAsTold 24 = .ok (.aload_n 0, 1) := by decide +kernel
theorem dX4_laidIsAsTold_25 : decode cX4_laidIsAsTold 25 = .ok (.getfield 33, 3) := by decide +kernel
theorem dX4_laidIsAsTold_28 : decode cX4_laidIsAsTold 28 = .ok (.iconst 0, 1) := by decide +kernel
theorem dX4_laidIsAsTold_29 : decode cX4_laidIsAsTold 29 = .ok (.invokevirtual 211, 3) := by decide +kernel
theorem dX4_laidIsAsTold_32 : decode cX4_laidIsAsTold 32 = .ok (.ifCond .eq 40, 3) := by decide +kernel
theorem dX4_laidIsAsTold_35 : decode cX4_laidIsAsTold 35 = .ok (.aload_n 0, 1) := by decide +kernel
theorem dX4_laidIsAsTold_36 : decode cX4_laidIsAsTold 36 = .ok (.getfield 33, 3) := by decide +kernel
theorem dX4_laidIsAsTold_39 : decode cX4_laidIsAsTold 39 = .ok (.bipush 10, 2) := by decide +kernel
theorem dX4_laidIsAsTold_41 : decode cX4_laidIsAsTold 41 = .ok (.invokevirtual 214, 3) := by decide +kernel
theorem dX4_laidIsAsTold_44 : decode cX4_laidIsAsTold 44 = .ok (.ifCond .eq 28, 3) := by decide +kernel
theorem dX4_laidIsAsTold_47 : decode cX4_laidIsAsTold 47 = .ok (.aload_n 0, 1) := by decide +kernel
theorem dX4_laidIsAsTold_48 : decode cX4_laidIsAsTold 48 = .ok (.getfield 37, 3) := by decide +kernel
theorem dX4_laidIsAsTold_51 : decode cX4_laidIsAsTold 51 = .ok (.iconst 1, 1) := by decide +kernel
theorem dX4_laidIsAsTold_52 : decode cX4_laidIsAsTold 52 = .ok (.invokevirtual 211, 3) := by decide +kernel
theorem dX4_laidIsAsTold_55 : decode cX4_laidIsAsTold 55 = .ok (.ifCond .eq 17, 3) := by decide +kernel
theorem dX4_laidIsAsTold_58 : decode cX4_laidIsAsTold 58 = .ok (.aload_n 0, 1) := by decide +kernel
theorem dX4_laidIsAsTold_59 : decode cX4_laidIsAsTold 59 = .ok (.getfield 37, 3) := by decide +kernel
theorem dX4_laidIsAsTold_62 : decode cX4_laidIsAsTold 62 = .ok (.invokevirtual 217, 3) := by decide +kernel
theorem dX4_laidIsAsTold_65 : decode cX4_laidIsAsTold 65 = .ok (.ifCond .eq 7, 3) := by decide +kernel
theorem dX4_laidIsAsTold_68 : decode cX4_laidIsAsTold 68 = .ok (.iconst 1, 1) := by decide +kernel
theorem dX4_laidIsAsTold_69 : decode cX4_laidIsAsTold 69 = .ok (.goto 4, 3) := by decide +kernel
theorem dX4_laidIsAsTold_72 : decode cX4_laidIsAsTold 72 = .ok (.iconst 0, 1) := by decide +kernel
theorem dX4_laidIsAsTold_73 : decode cX4_laidIsAsTold 73 = .ok (.ireturn, 1) := by decide +kernel
set_option maxRecDepth 20000 in
theorem ggX4_readLaidIntoDraft_X2_rowEndingIn : GoodIn wsX4_readLaidIntoDraft wsX2_rowEndingIn := goodIn_r _ [8, 9, 10, 11, 12, 13, 7, 14, 15, 16, 17, 18, 19, 20, 21, 22, 23, 48, 49, 50, 51] (by decide +kernel) (by decide +kernel)
set_option maxRecDepth 20000 in
theorem gX4_readLaidIntoDraft_X2_rowEndingIn : GoodIn wsX4_readLaidIntoDraft (wsV RX4 220 RX2 yX2_rowEndingIn wsX2_rowEndingIn) := goodIn_app (goodIn_of _ (by decide +kernel)) ggX4_readLaidIntoDraft_X2_rowEndingIn
set_option maxRecDepth 20000 in
theorem ggX4_readLaidIntoDraft_X2_takeLast : GoodIn wsX4_readLaidIntoDraft wsX2_takeLast := goodIn_r _ [27, 10, 28, 9, 15, 20, 21, 22, 7, 23, 48, 49, 50, 51] (by decide +kernel) (by decide +kernel)
set_option maxRecDepth 20000 in
theorem gX4_readLaidIntoDraft_X2_takeLast : GoodIn wsX4_readLaidIntoDraft (wsV RX4 223 RX2 yX2_takeLast wsX2_takeLast) := goodIn_app (goodIn_of _ (by decide +kernel)) ggX4_readLaidIntoDraft_X2_takeLast
set_option maxRecDepth 20000 in
theorem ggX4_readLaidIntoDraft_X2_takeOut : GoodIn wsX4_readLaidIntoDraft wsX2_takeOut := goodIn_r _ [32, 33, 25, 26, 7, 27, 10, 28, 9, 15, 20, 21, 22, 23, 34, 35, 36, 37, 38, 39, 40, 41, 16, 17, 18, 19, 48, 49, 50, 51] (by decide +kernel) (by decide +kernel)
set_option maxRecDepth 20000 in
theorem gX4_readLaidIntoDraft_X2_takeOut : GoodIn wsX4_readLaidIntoDraft (wsV RX4 226 RX2 yX2_takeOut wsX2_takeOut) := goodIn_app (goodIn_of _ (by decide +kernel)) ggX4_readLaidIntoDraft_X2_takeOut
theorem dX4_readLaidIntoDraft_0 : decode cX4_readLaidIntoDraft 0 = .ok (.iload_n 1, 1) := by decide +kernel
theorem dX4_readLaidIntoDraft_1 : decode cX4_readLaidIntoDraft 1 = .ok (.istore_n 2, 1) := by decide +kernel
theorem dX4_readLaidIntoDraft_2 : decode cX4_readLaidIntoDraft 2 = .ok (.iload_n 2, 1) := by decide +kernel
theorem dX4_readLaidIntoDraft_3 : decode cX4_readLaidIntoDraft 3 = .ok (.iconst 1, 1) := by decide +kernel
theorem dX4_readLaidIntoDraft_4 : decode cX4_readLaidIntoDraft 4 = .ok (.if_icmp .lt 43, 3) := by decide +kernel
theorem dX4_readLaidIntoDraft_7 : decode cX4_readLaidIntoDraft 7 = .ok (.aload_n 0, 1) := by decide +kernel
theorem dX4_readLaidIntoDraft_8 : decode cX4_readLaidIntoDraft 8 = .ok (.getfield 37, 3) := by decide +kernel
theorem dX4_readLaidIntoDraft_11 : decode cX4_readLaidIntoDraft 11 = .ok (.iload_n 2, 1) := by decide +kernel
theorem dX4_readLaidIntoDraft_12 : decode cX4_readLaidIntoDraft 12 = .ok (.invokevirtual 220, 3) := by decide +kernel
theorem dX4_readLaidIntoDraft_15 : decode cX4_readLaidIntoDraft 15 = .ok (.istore_n 3, 1) := by decide +kernel
theorem dX4_readLaidIntoDraft_16 : decode cX4_readLaidIntoDraft 16 = .ok (.aload_n 0, 1) := by decide +kernel
theorem dX4_readLaidIntoDraft_17 : decode cX4_readLaidIntoDraft 17 = .ok (.getfield 37, 3) := by decide +kernel
theorem dX4_readLaidIntoDraft_20 : decode cX4_readLaidIntoDraft 20 = .ok (.iload_n 3, 1) := by decide +kernel
theorem dX4_readLaidIntoDraft_21 : decode cX4_readLaidIntoDraft 21 = .ok (.invokevirtual 223, 3) := by decide +kernel
theorem dX4_readLaidIntoDraft_24 : decode cX4_readLaidIntoDraft 24 = .ok (.pop, 1) := by decide +kernel
theorem dX4_readLaidIntoDraft_25 : decode cX4_readLaidIntoDraft 25 = .ok (.aload_n 0, 1) := by decide +kernel
theorem dX4_readLaidIntoDraft_26 : decode cX4_readLaidIntoDraft 26 = .ok (.getfield 40, 3) := by decide +kernel
theorem dX4_readLaidIntoDraft_29 : decode cX4_readLaidIntoDraft 29 = .ok (.iload_n 2, 1) := by decide +kernel
theorem dX4_readLaidIntoDraft_30 : decode cX4_readLaidIntoDraft 30 = .ok (.iconst 1, 1) := by decide +kernel
theorem dX4_readLaidIntoDraft_31 : decode cX4_readLaidIntoDraft 31 = .ok (.isub, 1) := by decide +kernel
theorem dX4_readLaidIntoDraft_32 : decode cX4_readLaidIntoDraft 32 = .ok (.aload_n 0, 1) := by decide +kernel
theorem dX4_readLaidIntoDraft_33 : decode cX4_readLaidIntoDraft 33 = .ok (.getfield 33, 3) := by decide +kernel
theorem dX4_readLaidIntoDraft_36 : decode cX4_readLaidIntoDraft 36 = .ok (.iload_n 3, 1) := by decide +kernel
theorem dX4_readLaidIntoDraft_37 : decode cX4_readLaidIntoDraft 37 = .ok (.invokevirtual 226, 3) := by decide +kernel
theorem dX4_readLaidIntoDraft_40 : decode cX4_readLaidIntoDraft 40 = .ok (.iastore, 1) := by decide +kernel
theorem dX4_readLaidIntoDraft_41 : decode cX4_readLaidIntoDraft 41 = .ok (.iinc 2 (-1), 3) := by decide +kernel
theorem dX4_readLaidIntoDraft_44 : decode cX4_readLaidIntoDraft 44 = .ok (.goto (-42), 3) := by decide +kernel
theorem dX4_readLaidIntoDraft_47 : decode cX4_readLaidIntoDraft 47 = .ok (.return_, 1) := by decide +kernel
set_option maxRecDepth 20000 in
theorem ggX4_countByShapes_X4_tableauxOf : GoodIn wsX4_countByShapes wsX4_tableauxOf := goodIn_r _ [8, 9] (by decide +kernel) (by decide +kernel)
set_option maxRecDepth 20000 in
theorem gX4_countByShapes_X4_tableauxOf : GoodIn wsX4_countByShapes (va_wsS RX4 229 yX4_tableauxOf wsX4_tableauxOf) := goodIn_app (goodIn_of _ (by decide +kernel)) ggX4_countByShapes_X4_tableauxOf
theorem dX4_countByShapes_0 : decode cX4_countByShapes 0 = .ok (.iload_n 0, 1) := by decide +kernel
theorem dX4_countByShapes_1 : decode cX4_countByShapes 1 = .ok (.iload_n 1, 1) := by decide +kernel
theorem dX4_countByShapes_2 : decode cX4_countByShapes 2 = .ok (.invokestatic 166, 3) := by decide +kernel
theorem dX4_countByShapes_5 : decode cX4_countByShapes 5 = .ok (.istore_n 3, 1) := by decide +kernel
theorem dX4_countByShapes_6 : decode cX4_countByShapes 6 = .ok (.lconst 0, 1) := by decide +kernel
theorem dX4_countByShapes_7 : decode cX4_countByShapes 7 = .ok (.lstore 4, 2) := by decide +kernel
theorem dX4_countByShapes_9 : decode cX4_countByShapes 9 = .ok (.iconst 0, 1) := by decide +kernel
theorem dX4_countByShapes_10 : decode cX4_countByShapes 10 = .ok (.istore 6, 2) := by decide +kernel
theorem dX4_countByShapes_12 : decode cX4_countByShapes 12 = .ok (.iload 6, 2) := by decide +kernel
theorem dX4_countByShapes_14 : decode cX4_countByShapes 14 = .ok (.iload_n 2, 1) := by decide +kernel
theorem dX4_countByShapes_15 : decode cX4_countByShapes 15 = .ok (.if_icmp .gt 110, 3) := by decide +kernel
theorem dX4_countByShapes_18 : decode cX4_countByShapes 18 = .ok (.iload_n 3, 1) := by decide +kernel
theorem dX4_countByShapes_19 : decode cX4_countByShapes 19 = .ok (.iconst 1, 1) := by decide +kernel
theorem dX4_countByShapes_20 : decode cX4_countByShapes 20 = .ok (.if_icmp .le 8, 3) := by decide +kernel
theorem dX4_countByShapes_23 : decode cX4_countByShapes 23 = .ok (.iload 6, 2) := by decide +kernel
theorem dX4_countByShapes_25 : decode cX4_countByShapes 25 = .ok (.goto 4, 3) := by decide +kernel
theorem dX4_countByShapes_28 : decode cX4_countByShapes 28 = .ok (.iconst 0, 1) := by decide +kernel
theorem dX4_countByShapes_29 : decode cX4_countByShapes 29 = .ok (.istore 7, 2) := by decide +kernel
theorem dX4_countByShapes_31 : decode cX4_countByShapes 31 = .ok (.iconst 0, 1) := by decide +kernel
theorem dX4_countByShapes_32 : decode cX4_countByShapes 32 = .ok (.istore 8, 2) := by decide +kernel
theorem dX4_countByShapes_34 : decode cX4_countByShapes 34 = .ok (.iload 8, 2) := by decide +kernel
theorem dX4_countByShapes_36 : decode cX4_countByShapes 36 = .ok (.iload 7, 2) := by decide +kernel
theorem dX4_countByShapes_38 : decode cX4_countByShapes 38 = .ok (.if_icmp .gt 81, 3) := by decide +kernel
theorem dX4_countByShapes_41 : decode cX4_countByShapes 41 = .ok (.iload_n 3, 1) := by decide +kernel
theorem dX4_countByShapes_42 : decode cX4_countByShapes 42 = .ok (.iconst 2, 1) := by decide +kernel
theorem dX4_countByShapes_43 : decode cX4_countByShapes 43 = .ok (.if_icmp .le 8, 3) := by decide +kernel
theorem dX4_countByShapes_46 : decode cX4_countByShapes 46 = .ok (.iload 8, 2) := by decide +kernel
theorem dX4_countByShapes_48 : decode cX4_countByShapes 48 = .ok (.goto 4, 3) := by decide +kernel
theorem dX4_countByShapes_51 : decode cX4_countByShapes 51 = .ok (.iconst 0, 1) := by decide +kernel
theorem dX4_countByShapes_52 : decode cX4_countByShapes 52 = .ok (.istore 9, 2) := by decide +kernel
theorem dX4_countByShapes_54 : decode cX4_countByShapes 54 = .ok (.iconst 0, 1) := by decide +kernel
theorem dX4_countByShapes_55 : decode cX4_countByShapes 55 = .ok (.istore 10, 2) := by decide +kernel
theorem dX4_countByShapes_57 : decode cX4_countByShapes 57 = .ok (.iload 10, 2) := by decide +kernel
theorem dX4_countByShapes_59 : decode cX4_countByShapes 59 = .ok (.iload 9, 2) := by decide +kernel
theorem dX4_countByShapes_61 : decode cX4_countByShapes 61 = .ok (.if_icmp .gt 52, 3) := by decide +kernel
theorem dX4_countByShapes_64 : decode cX4_countByShapes 64 = .ok (.iload_n 0, 1) := by decide +kernel
theorem dX4_countByShapes_65 : decode cX4_countByShapes 65 = .ok (.iload 6, 2) := by decide +kernel
theorem dX4_countByShapes_67 : decode cX4_countByShapes 67 = .ok (.iload 8, 2) := by decide +kernel
theorem dX4_countByShapes_69 : decode cX4_countByShapes 69 = .ok (.iload 10, 2) := by decide +kernel
theorem dX4_countByShapes_71 : decode cX4_countByShapes 71 = .ok (.invokestatic 229, 3) := by decide +kernel
theorem dX4_countByShapes_74 : decode cX4_countByShapes 74 = .ok (.iload_n 1, 1) := by decide +kernel
theorem dX4_countByShapes_75 : decode cX4_countByShapes 75 = .ok (.iload 6, 2) := by decide +kernel
theorem dX4_countByShapes_77 : decode cX4_countByShapes 77 = .ok (.iload 8, 2) := by decide +kernel
theorem dX4_countByShapes_79 : decode cX4_countByShapes 79 = .ok (.iload 10, 2) := by decide +kernel
theorem dX4_countByShapes_81 : decode cX4_countByShapes 81 = .ok (.invokestatic 229, 3) := by decide +kernel
theorem dX4_countByShapes_84 : decode cX4_countByShapes 84 = .ok (.lmul, 1) := by decide +kernel
theorem dX4_countByShapes_85 : decode cX4_countByShapes 85 = .ok (.lstore 11, 2) := by decide +kernel
theorem dX4_countByShapes_87 : decode cX4_countByShapes 87 = .ok (.lload 4, 2) := by decide +kernel
theorem dX4_countByShapes_89 : decode cX4_countByShapes 89 = .ok (.lload 11, 2) := by decide +kernel
theorem dX4_countByShapes_91 : decode cX4_countByShapes 91 = .ok (.iload_n 2, 1) := by decide +kernel
theorem dX4_countByShapes_92 : decode cX4_countByShapes 92 = .ok (.iload_n 3, 1) := by decide +kernel
theorem dX4_countByShapes_93 : decode cX4_countByShapes 93 = .ok (.imul, 1) := by decide +kernel
theorem dX4_countByShapes_94 : decode cX4_countByShapes 94 = .ok (.iload 6, 2) := by decide +kernel
theorem dX4_countByShapes_96 : decode cX4_countByShapes 96 = .ok (.isub, 1) := by decide +kernel
theorem dX4_countByShapes_97 : decode cX4_countByShapes 97 = .ok (.iload 8, 2) := by decide +kernel
theorem dX4_countByShapes_99 : decode cX4_countByShapes 99 = .ok (.isub, 1) := by decide +kernel
theorem dX4_countByShapes_100 : decode cX4_countByShapes 100 = .ok (.iload 10, 2) := by decide +kernel
theorem dX4_countByShapes_102 : decode cX4_countByShapes 102 = .ok (.isub, 1) := by decide +kernel
theorem dX4_countByShapes_103 : decode cX4_countByShapes 103 = .ok (.lshl, 1) := by decide +kernel
theorem dX4_countByShapes_104 : decode cX4_countByShapes 104 = .ok (.ladd, 1) := by decide +kernel
theorem dX4_countByShapes_105 : decode cX4_countByShapes 105 = .ok (.lstore 4, 2) := by decide +kernel
theorem dX4_countByShapes_107 : decode cX4_countByShapes 107 = .ok (.iinc 10 1, 3) := by decide +kernel
theorem dX4_countByShapes_110 : decode cX4_countByShapes 110 = .ok (.goto (-53), 3) := by decide +kernel
theorem dX4_countByShapes_113 : decode cX4_countByShapes 113 = .ok (.iinc 8 1, 3) := by decide +kernel
theorem dX4_countByShapes_116 : decode cX4_countByShapes 116 = .ok (.goto (-82), 3) := by decide +kernel
theorem dX4_countByShapes_119 : decode cX4_countByShapes 119 = .ok (.iinc 6 1, 3) := by decide +kernel
theorem dX4_countByShapes_122 : decode cX4_countByShapes 122 = .ok (.goto (-110), 3) := by decide +kernel
theorem dX4_countByShapes_125 : decode cX4_countByShapes 125 = .ok (.lload 4, 2) := by decide +kernel
theorem dX4_countByShapes_127 : decode cX4_countByShapes 127 = .ok (.lreturn, 1) := by decide +kernel
theorem dX4_tableauxOf_0 : decode cX4_tableauxOf 0 = .ok (.iload_n 0, 1) := by decide +kernel
theorem dX4_tableauxOf_1 : decode cX4_tableauxOf 1 = .ok (.iconst 1, 1) := by decide +kernel
theorem dX4_tableauxOf_2 : decode cX4_tableauxOf 2 = .ok (.if_icmp .ne 5, 3) := by decide +kernel
theorem dX4_tableauxOf_5 : decode cX4_tableauxOf 5 = .ok (.lconst 1, 1) := by decide +kernel
theorem dX4_tableauxOf_6 : decode cX4_tableauxOf 6 = .ok (.lreturn, 1) := by decide +kernel
theorem dX4_tableauxOf_7 : decode cX4_tableauxOf 7 = .ok (.iload_n 0, 1) := by decide +kernel
theorem dX4_tableauxOf_8 : decode cX4_tableauxOf 8 = .ok (.iconst 2, 1) := by decide +kernel
theorem dX4_tableauxOf_9 : decode cX4_tableauxOf 9 = .ok (.if_icmp .ne 10, 3) := by decide +kernel
theorem dX4_tableauxOf_12 : decode cX4_tableauxOf 12 = .ok (.iload_n 1, 1) := by decide +kernel
theorem dX4_tableauxOf_13 : decode cX4_tableauxOf 13 = .ok (.iload_n 2, 1) := by decide +kernel
theorem dX4_tableauxOf_14 : decode cX4_tableauxOf 14 = .ok (.isub, 1) := by decide +kernel
theorem dX4_tableauxOf_15 : decode cX4_tableauxOf 15 = .ok (.iconst 1, 1) := by decide +kernel
theorem dX4_tableauxOf_16 : decode cX4_tableauxOf 16 = .ok (.iadd, 1) := by decide +kernel
theorem dX4_tableauxOf_17 : decode cX4_tableauxOf 17 = .ok (.i2l, 1) := by decide +kernel
theorem dX4_tableauxOf_18 : decode cX4_tableauxOf 18 = .ok (.lreturn, 1) := by decide +kernel
theorem dX4_tableauxOf_19 : decode cX4_tableauxOf 19 = .ok (.iload_n 1, 1) := by decide +kernel
theorem dX4_tableauxOf_20 : decode cX4_tableauxOf 20 = .ok (.iload_n 2, 1) := by decide +kernel
theorem dX4_tableauxOf_21 : decode cX4_tableauxOf 21 = .ok (.isub, 1) := by decide +kernel
theorem dX4_tableauxOf_22 : decode cX4_tableauxOf 22 = .ok (.iconst 1, 1) := by decide +kernel
theorem dX4_tableauxOf_23 : decode cX4_tableauxOf 23 = .ok (.iadd, 1) := by decide +kernel
theorem dX4_tableauxOf_24 : decode cX4_tableauxOf 24 = .ok (.i2l, 1) := by decide +kernel
theorem dX4_tableauxOf_25 : decode cX4_tableauxOf 25 = .ok (.iload_n 2, 1) := by decide +kernel
theorem dX4_tableauxOf_26 : decode cX4_tableauxOf 26 = .ok (.iload_n 3, 1) := by decide +kernel
theorem dX4_tableauxOf_27 : decode cX4_tableauxOf 27 = .ok (.isub, 1) := by decide +kernel
theorem dX4_tableauxOf_28 : decode cX4_tableauxOf 28 = .ok (.iconst 1, 1) := by decide +kernel
theorem dX4_tableauxOf_29 : decode cX4_tableauxOf 29 = .ok (.iadd, 1) := by decide +kernel
theorem dX4_tableauxOf_30 : decode cX4_tableauxOf 30 = .ok (.i2l, 1) := by decide +kernel
theorem dX4_tableauxOf_31 : decode cX4_tableauxOf 31 = .ok (.lmul, 1) := by decide +kernel
theorem dX4_tableauxOf_32 : decode cX4_tableauxOf 32 = .ok (.iload_n 1, 1) := by decide +kernel
theorem dX4_tableauxOf_33 : decode cX4_tableauxOf 33 = .ok (.iload_n 3, 1) := by decide +kernel
theorem dX4_tableauxOf_34 : decode cX4_tableauxOf 34 = .ok (.isub, 1) := by decide +kernel
theorem dX4_tableauxOf_35 : decode cX4_tableauxOf 35 = .ok (.iconst 2, 1) := by decide +kernel
theorem dX4_tableauxOf_36 : decode cX4_tableauxOf 36 = .ok (.iadd, 1) := by decide +kernel
theorem dX4_tableauxOf_37 : decode cX4_tableauxOf 37 = .ok (.i2l, 1) := by decide +kernel
theorem dX4_tableauxOf_38 : decode cX4_tableauxOf 38 = .ok (.lmul, 1) := by decide +kernel
theorem dX4_tableauxOf_39 : decode cX4_tableauxOf 39 = .ok (.ldc2_w 233, 3) := by decide +kernel
theorem dX4_tableauxOf_42 : decode cX4_tableauxOf 42 = .ok (.ldiv, 1) := by decide +kernel
theorem dX4_tableauxOf_43 : decode cX4_tableauxOf 43 = .ok (.lreturn, 1) := by decide +kernel
