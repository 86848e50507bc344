set_option maxRecDepth 20000 in
theorem ggX0_init_X4_init : GoodIn wsX0_init wsX4_init := goodIn_r _ [11, 12, 2, 3, 13, 14, 15, 16, 17, 18, 19, 20, 21, 22, 23, 24, 27, 28, 29, 30, 31, 32, 33] (by decide +kernel) (by decide +kernel)
set_option maxRecDepth 20000 in
theorem gX0_init_X4_init : GoodIn wsX0_init (wsX4_init) := ggX0_init_X4_init
theorem dX0_init_0 : decode cX0_init 0 = .ok (.aload_n 0, 1) := by decide +kernel
theorem dX0_init_1 : decode cX0_init 1 = .ok (.invokespecial 3, 3) := by decide +kernel
theorem dX0_init_4 : decode cX0_init 4 = .ok (.aload_n 0, 1) := by decide +kernel
theorem dX0_init_5 : decode cX0_init 5 = .ok (.iconst 0, 1) := by decide +kernel
theorem dX0_init_6 : decode cX0_init 6 = .ok (.putfield 9, 3) := by decide +kernel
theorem dX0_init_9 : decode cX0_init 9 = .ok (.aload_n 0, 1) := by decide +kernel
theorem dX0_init_10 : decode cX0_init 10 = .ok (.iconst 4, 1) := by decide +kernel
theorem dX0_init_11 : decode cX0_init 11 = .ok (.anewarray 15, 3) := by decide +kernel
theorem dX0_init_14 : decode cX0_init 14 = .ok (.putfield 17, 3) := by decide +kernel
theorem dX0_init_17 : decode cX0_init 17 = .ok (.iconst 0, 1) := by decide +kernel
theorem dX0_init_18 : decode cX0_init 18 = .ok (.istore_n 1, 1) := by decide +kernel
theorem dX0_init_19 : decode cX0_init 19 = .ok (.iload_n 1, 1) := by decide +kernel
theorem dX0_init_20 : decode cX0_init 20 = .ok (.aload_n 0, 1) := by decide +kernel
theorem dX0_init_21 : decode cX0_init 21 = .ok (.getfield 17, 3) := by decide +kernel
theorem dX0_init_24 : decode cX0_init 24 = .ok (.arraylength, 1) := by decide +kernel
theorem dX0_init_25 : decode cX0_init 25 = .ok (.if_icmp .ge 22, 3) := by decide +kernel
theorem dX0_init_28 : decode cX0_init 28 = .ok (.aload_n 0, 1) := by decide +kernel
theorem dX0_init_29 : decode cX0_init 29 = .ok (.getfield 17, 3) := by decide +kernel
theorem dX0_init_32 : decode cX0_init 32 = .ok (.iload_n 1, 1) := by decide +kernel
theorem dX0_init_33 : decode cX0_init 33 = .ok (.new 15, 3) := by decide +kernel
theorem dX0_init_36 : decode cX0_init 36 = .ok (.dup, 1) := by decide +kernel
theorem dX0_init_37 : decode cX0_init 37 = .ok (.invokespecial 21, 3) := by decide +kernel
theorem dX0_init_40 : decode cX0_init 40 = .ok (.aastore, 1) := by decide +kernel
theorem dX0_init_41 : decode cX0_init 41 = .ok (.iinc 1 1, 3) := by decide +kernel
theorem dX0_init_44 : decode cX0_init 44 = .ok (.goto (-25), 3) := by decide +kernel
theorem dX0_init_47 : decode cX0_init 47 = .ok (.return_, 1) := by decide +kernel
set_option maxRecDepth 20000 in
theorem ggX0_record_X0_dropOldest : GoodIn wsX0_record wsX0_dropOldest := goodIn_r _ [7, 2, 1, 8, 9, 10, 6, 11, 28, 29] (by decide +kernel) (by decide +kernel)
set_option maxRecDepth 20000 in
theorem gX0_record_X0_dropOldest : GoodIn wsX0_record (wsV RX0 22 RX0 yX0_dropOldest wsX0_dropOldest) := goodIn_app (goodIn_of _ (by decide +kernel)) ggX0_record_X0_dropOldest
set_option maxRecDepth 20000 in
theorem ggX0_record_X0_rowAt : GoodIn wsX0_record wsX0_rowAt := goodIn_r _ [11, 2, 28, 29] (by decide +kernel) (by decide +kernel)
set_option maxRecDepth 20000 in
theorem gX0_record_X0_rowAt : GoodIn wsX0_record (wsV RX0 25 RX0 yX0_rowAt wsX0_rowAt) := goodIn_app (goodIn_of _ (by decide +kernel)) ggX0_record_X0_rowAt
set_option maxRecDepth 20000 in
theorem ggX0_record_X4_copyFrom : GoodIn wsX0_record wsX4_copyFrom := goodIn_r _ [16, 17, 18, 19, 20, 21, 22, 23, 24, 25, 26, 27, 30, 31, 32, 33, 34, 35, 36] (by decide +kernel) (by decide +kernel)
set_option maxRecDepth 20000 in
theorem gX0_record_X4_copyFrom : GoodIn wsX0_record (wsV RX0 29 RX4 yX4_copyFrom wsX4_copyFrom) := goodIn_app (goodIn_of _ (by decide +kernel)) ggX0_record_X4_copyFrom
theorem dX0_record_0 : decode cX0_record 0 = .ok (.aload_n 0, 1) := by decide +kernel
theorem dX0_record_1 : decode cX0_record 1 = .ok (.getfield 9, 3) := by decide +kernel
theorem dX0_record_4 : decode cX0_record 4 = .ok (.aload_n 0, 1) := by decide +kernel
theorem dX0_record_5 : decode cX0_record 5 = .ok (.getfield 17, 3) := by decide +kernel
theorem dX0_record_8 : decode cX0_record 8 = .ok (.arraylength, 1) := by decide +kernel
theorem dX0_record_9 : decode cX0_record 9 = .ok (.if_icmp .lt 7, 3) := by decide +kernel
theorem dX0_record_12 : decode cX0_record 12 = .ok (.aload_n 0, 1) := by decide +kernel
theorem dX0_record_13 : decode cX0_record 13 = .ok (.invokevirtual 22, 3) := by decide +kernel
theorem dX0_record_16 : decode cX0_record 16 = .ok (.aload_n 0, 1) := by decide +kernel
theorem dX0_record_17 : decode cX0_record 17 = .ok (.aload_n 0, 1) := by decide +kernel
theorem dX0_record_18 : decode cX0_record 18 = .ok (.getfield 9, 3) := by decide +kernel
theorem dX0_record_21 : decode cX0_record 21 = .ok (.invokevirtual 25, 3) := by decide +kernel
theorem dX0_record_24 : decode cX0_record 24 = .ok (.astore_n 2, 1) := by decide +kernel
theorem dX0_record_25 : decode cX0_record 25 = .ok (.aload_n 2, 1) := by decide +kernel
theorem dX0_record_26 : decode cX0_record 26 = .ok (.ifnull 18, 3) := by decide +kernel
theorem dX0_record_29 : decode cX0_record 29 = .ok (.aload_n 2, 1) := by decide +kernel
theorem dX0_record_30 : decode cX0_record 30 = .ok (.aload_n 1, 1) := by decide +kernel
theorem dX0_record_31 : decode cX0_record 31 = .ok (.invokevirtual 29, 3) := by decide +kernel
theorem dX0_record_34 : decode cX0_record 34 = .ok (.aload_n 0, 1) := by decide +kernel
theorem dX0_record_35 : decode cX0_record 35 = .ok (.dup, 1) := by decide +kernel
theorem dX0_record_36 : decode cX0_record 36 = .ok (.getfield 9, 3) := by decide +kernel
theorem dX0_record_39 : decode cX0_record 39 = .ok (.iconst 1, 1) := by decide +kernel
theorem dX0_record_40 : decode cX0_record 40 = .ok (.iadd, 1) := by decide +kernel
theorem dX0_record_41 : decode cX0_record 41 = .ok (.putfield 9, 3) := by decide +kernel
theorem dX0_record_44 : decode cX0_record 44 = .ok (.return_, 1) := by decide +kernel
set_option maxRecDepth 20000 in
theorem ggX0_dropOldest_X0_rowAt : GoodIn wsX0_dropOldest wsX0_rowAt := goodIn_r _ [7, 1, 8, 9] (by decide +kernel) (by decide +kernel)
set_option maxRecDepth 20000 in
theorem gX0_dropOldest_X0_rowAt : GoodIn wsX0_dropOldest (wsV RX0 25 RX0 yX0_rowAt wsX0_rowAt) := goodIn_app (goodIn_of _ (by decide +kernel)) ggX0_dropOldest_X0_rowAt
theorem dX0_dropOldest_0 : decode cX0_dropOldest 0 = .ok (.aload_n 0, 1) := by decide +kernel
theorem dX0_dropOldest_1 : decode cX0_dropOldest 1 = .ok (.iconst 0, 1) := by decide +kernel
theorem dX0_dropOldest_2 : decode cX0_dropOldest 2 = .ok (.invokevirtual 25, 3) := by decide +kernel
theorem dX0_dropOldest_5 : decode cX0_dropOldest 5 = .ok (.astore_n 1, 1) := by decide +kernel
theorem dX0_dropOldest_6 : decode cX0_dropOldest 6 = .ok (.iconst 1, 1) := by decide +kernel
theorem dX0_dropOldest_7 : decode cX0_dropOldest 7 = .ok (.istore_n 2, 1) := by decide +kernel
theorem dX0_dropOldest_8 : decode cX0_dropOldest 8 = .ok (.iload_n 2, 1) := by decide +kernel
theorem dX0_dropOldest_9 : decode cX0_dropOldest 9 = .ok (.aload_n 0, 1) := by decide +kernel
theorem dX0_dropOldest_10 : decode cX0_dropOldest 10 = .ok (.getfield 17, 3) := by decide +kernel
theorem dX0_dropOldest_13 : decode cX0_dropOldest 13 = .ok (.arraylength, 1) := by decide +kernel
theorem dX0_dropOldest_14 : decode cX0_dropOldest 14 = .ok (.if_icmp .ge 23, 3) := by decide +kernel
theorem dX0_dropOldest_17 : decode cX0_dropOldest 17 = .ok (.aload_n 0, 1) := by decide +kernel
theorem dX0_dropOldest_18 : decode cX0_dropOldest 18 = .ok (.getfield 17, 3) := by decide +kernel
theorem dX0_dropOldest_21 : decode cX0_dropOldest 21 = .ok (.iload_n 2, 1) := by decide +kernel
theorem dX0_dropOldest_22 : decode cX0_dropOldest 22 = .ok (.iconst 1, 1) := by decide +kernel
theorem dX0_dropOldest_23 : decode cX0_dropOldest 23 = .ok (.isub, 1) := by decide +kernel
theorem dX0_dropOldest_24 : decode cX0_dropOldest 24 = .ok (.aload_n 0, 1) := by decide +kernel
theorem dX0_dropOldest_25 : decode cX0_dropOldest 25 = .ok (.getfield 17, 3) := by decide +kernel
theorem dX0_dropOldest_28 : decode cX0_dropOldest 28 = .ok (.iload_n 2, 1) := by decide +kernel
theorem dX0_dropOldest_29 : decode cX0_dropOldest 29 = .ok (.aaload, 1) := by decide +kernel
theorem dX0_dropOldest_30 : decode cX0_dropOldest 30 = .ok (.aastore, 1) := by decide +kernel
theorem dX0_dropOldest_31 : decode cX0_dropOldest 31 = .ok (.iinc 2 1, 3) := by decide +kernel
theorem dX0_dropOldest_34 : decode cX0_dropOldest 34 = .ok (.goto (-26), 3) := by decide +kernel
theorem dX0_dropOldest_37 : decode cX0_dropOldest 37 = .ok (.aload_n 0, 1) := by decide +kernel
theorem dX0_dropOldest_38 : decode cX0_dropOldest 38 = .ok (.aload_n 0, 1) := by decide +kernel
theorem dX0_dropOldest_39 : decode cX0_dropOldest 39 = .ok (.getfield 17, 3) := by decide +kernel
theorem dX0_dropOldest_42 : decode cX0_dropOldest 42 = .ok (.arraylength, 1) := by decide +kernel
theorem dX0_dropOldest_43 : decode cX0_dropOldest 43 = .ok (.iconst 1, 1) := by decide +kernel
theorem dX0_dropOldest_44 : decode cX0_dropOldest 44 = .ok (.isub, 1) := by decide +kernel
theorem dX0_dropOldest_45 : decode cX0_dropOldest 45 = .ok (.putfield 9, 3) := by decide +kernel
theorem dX0_dropOldest_48 : decode cX0_dropOldest 48 = .ok (.aload_n 0, 1) := by decide +kernel
theorem dX0_dropOldest_49 : decode cX0_dropOldest 49 = .ok (.getfield 17, 3) := by decide +kernel
theorem dX0_dropOldest_52 : decode cX0_dropOldest 52 = .ok (.aload_n 0, 1) := by decide +kernel
theorem dX0_dropOldest_53 : decode cX0_dropOldest 53 = .ok (.getfield 9, 3) := by decide +kernel
theorem dX0_dropOldest_56 : decode cX0_dropOldest 56 = .ok (.aload_n 1, 1) := by decide +kernel
theorem dX0_dropOldest_57 : decode cX0_dropOldest 57 = .ok (.aastore, 1) := by decide +kernel
theorem dX0_dropOldest_58 : decode cX0_dropOldest 58 = .ok (.return_, 1) := by decide +kernel
theorem dX0_rowAt_0 : decode cX0_rowAt 0 = .ok (.iload_n 1, 1) := by decide +kernel
theorem dX0_rowAt_1 : decode cX0_rowAt 1 = .ok (.ifCond .lt 21, 3) := by decide +kernel
theorem dX0_rowAt_4 : decode cX0_rowAt 4 = .ok (.iload_n 1, 1) := by decide +kernel
theorem dX0_rowAt_5 : decode cX0_rowAt 5 = .ok (.aload_n 0, 1) := by decide +kernel
theorem dX0_rowAt_6 : decode cX0_rowAt 6 = .ok (.getfield 17, 3) := by decide +kernel
theorem dX0_rowAt_9 : decode cX0_rowAt 9 = .ok (.arraylength, 1) := by decide +kernel
theorem dX0_rowAt_10 : decode cX0_rowAt 10 = .ok (.if_icmp .ge 12, 3) := by decide +kernel
theorem dX0_rowAt_13 : decode cX0_rowAt 13 = .ok (.aload_n 0, 1) := by decide +kernel
theorem dX0_rowAt_14 : decode cX0_rowAt 14 = .ok (.getfield 17, 3) := by decide +kernel
theorem dX0_rowAt_17 : decode cX0_rowAt 17 = .ok (.iload_n 1, 1) := by decide +kernel
theorem dX0_rowAt_18 : decode cX0_rowAt 18 = .ok (.aaload, 1) := by decide +kernel
theorem dX0_rowAt_19 : decode cX0_rowAt 19 = .ok (.goto 4, 3) := by decide +kernel
theorem dX0_rowAt_22 : decode cX0_rowAt 22 = .ok (.aconst_null, 1) := by decide +kernel
theorem dX0_rowAt_23 : decode cX0_rowAt 23 = .ok (.areturn, 1) := by decide +kernel
set_option maxRecDepth 20000 in
theorem ggX1_init_X2_init : GoodIn wsX1_init wsX2_init := goodIn_r _ [20, 21, 2, 3, 22, 23, 24, 25, 26, 27, 28, 29, 13, 30, 31, 32, 33, 34, 35, 65, 66, 67, 68, 69, 70, 71, 72, 73, 74, 75, 51] (by decide +kernel) (by decide +kernel)
set_option maxRecDepth 20000 in
theorem gX1_init_X2_init : GoodIn wsX1_init (wsX2_init) := ggX1_init_X2_init
set_option maxRecDepth 20000 in
theorem ggX1_init_X4_init : GoodIn wsX1_init wsX4_init := goodIn_r _ [38, 39, 2, 3, 40, 41, 42, 43, 44, 13, 45, 46, 47, 48, 49, 50, 58, 59, 60, 61, 62, 63, 64] (by decide +kernel) (by decide +kernel)
set_option maxRecDepth 20000 in
theorem gX1_init_X4_init : GoodIn wsX1_init (wsX4_init) := ggX1_init_X4_init
theorem dX1_init_0 : decode cX1_init 0 = .ok (.aload_n 0, 1) := by decide +kernel
theorem dX1_init_1 : decode cX1_init 1 = .ok (.invokespecial 3, 3) := by decide +kernel
theorem dX1_init_4 : decode cX1_init 4 = .ok (.aload_n 0, 1) := by decide +kernel
theorem dX1_init_5 : decode cX1_init 5 = .ok (.new 9, 3) := by decide +kernel
theorem dX1_init_8 : decode cX1_init 8 = .ok (.dup, 1) := by decide +kernel
theorem dX1_init_9 : decode cX1_init 9 = .ok (.invokespecial 11, 3) := by decide +kernel
theorem dX1_init_12 : decode cX1_init 12 = .ok (.putfield 12, 3) := by decide +kernel
theorem dX1_init_15 : decode cX1_init 15 = .ok (.aload_n 0, 1) := by decide +kernel
theorem dX1_init_16 : decode cX1_init 16 = .ok (.new 18, 3) := by decide +kernel
theorem dX1_init_19 : decode cX1_init 19 = .ok (.dup, 1) := by decide +kernel
theorem dX1_init_20 : decode cX1_init 20 = .ok (.invokespecial 20, 3) := by decide +kernel
theorem dX1_init_23 : decode cX1_init 23 = .ok (.putfield 21, 3) := by decide +kernel
theorem dX1_init_26 : decode cX1_init 26 = .ok (.aload_n 0, 1) := by decide +kernel
theorem dX1_init_27 : decode cX1_init 27 = .ok (.iconst 0, 1) := by decide +kernel
theorem dX1_init_28 : decode cX1_init 28 = .ok (.putfield 25, 3) := by decide +kernel
theorem dX1_init_31 : decode cX1_init 31 = .ok (.aload_n 0, 1) := by decide +kernel
theorem dX1_init_32 : decode cX1_init 32 = .ok (.sipush 128, 3) := by decide +kernel
theorem dX1_init_35 : decode cX1_init 35 = .ok (.newarray .int, 2) := by decide +kernel
theorem dX1_init_37 : decode cX1_init 37 = .ok (.putfield 29, 3) := by decide +kernel
theorem dX1_init_40 : decode cX1_init 40 = .ok (.aload_n 0, 1) := by decide +kernel
theorem dX1_init_41 : decode cX1_init 41 = .ok (.sipush 128, 3) := by decide +kernel
theorem dX1_init_44 : decode cX1_init 44 = .ok (.newarray .int, 2) := by decide +kernel
theorem dX1_init_46 : decode cX1_init 46 = .ok (.putfield 33, 3) := by decide +kernel
theorem dX1_init_49 : decode cX1_init 49 = .ok (.aload_n 0, 1) := by decide +kernel
theorem dX1_init_50 : decode cX1_init 50 = .ok (.sipush 128, 3) := by decide +kernel
theorem dX1_init_53 : decode cX1_init 53 = .ok (.newarray .boolean, 2) := by decide +kernel
theorem dX1_init_55 : decode cX1_init 55 = .ok (.putfield 36, 3) := by decide +kernel
theorem dX1_init_58 : decode cX1_init 58 = .ok (.return_, 1) := by decide +kernel
set_option maxRecDepth 20000 in
theorem ggX1_prepare_X4_bendsLike : GoodIn wsX1_prepare wsX4_bendsLike := goodIn_r _ [12, 13, 14, 15, 16, 17, 11, 18, 19, 20, 21, 22, 23, 24, 128, 129, 130, 131, 132, 133, 134] (by decide +kernel) (by decide +kernel)
set_option maxRecDepth 20000 in
theorem gX1_prepare_X4_bendsLike : GoodIn wsX1_prepare (wsV RX1 40 RX4 yX4_bendsLike wsX4_bendsLike) := goodIn_app (goodIn_of _ (by decide +kernel)) ggX1_prepare_X4_bendsLike
set_option maxRecDepth 20000 in
theorem ggX1_prepare_X4_copyFrom : GoodIn wsX1_prepare wsX4_copyFrom := goodIn_r _ [28, 13, 14, 29, 30, 31, 19, 32, 33, 34, 35, 24, 128, 129, 130, 131, 132, 133, 134] (by decide +kernel) (by decide +kernel)
set_option maxRecDepth 20000 in
theorem gX1_prepare_X4_copyFrom : GoodIn wsX1_prepare (wsV RX1 44 RX4 yX4_copyFrom wsX4_copyFrom) := goodIn_app (goodIn_of _ (by decide +kernel)) ggX1_prepare_X4_copyFrom
set_option maxRecDepth 20000 in
theorem ggX1_prepare_X4_allBends : GoodIn wsX1_prepare wsX4_allBends := goodIn_r _ [39, 13, 128, 129, 130, 131, 132, 133, 134] (by decide +kernel) (by decide +kernel)
set_option maxRecDepth 20000 in
theorem gX1_prepare_X4_allBends : GoodIn wsX1_prepare (wsV RX1 48 RX4 yX4_allBends wsX4_allBends) := goodIn_app (goodIn_of _ (by decide +kernel)) ggX1_prepare_X4_allBends
set_option maxRecDepth 20000 in
theorem ggX1_prepare_X1_fillRow : GoodIn wsX1_prepare wsX1_fillRow := goodIn_r _ [44, 2, 45, 46, 3, 47, 48, 49, 50, 43, 51, 52, 53, 54, 11, 55, 14, 56, 57, 58, 59, 60, 61, 62, 63, 64, 65, 66, 13, 15, 16, 17, 18, 19, 67, 21, 22, 23, 24, 68, 69, 70, 71, 72, 73, 74, 5, 6, 7, 75, 76, 77, 78, 79, 80, 81, 82, 83, 84, 85, 86, 87, 88, 89, 90, 91, 92, 93, 94, 95, 96, 97, 98, 99, 100, 101, 102, 103, 104, 105, 106, 107, 108, 109, 110, 111, 112, 113, 114, 115, 116, 117, 118, 119, 120, 121, 122, 123, 124, 125, 126, 127, 128, 129, 130, 131, 132, 133, 134, 135, 136, 137, 138, 139, 140, 141, 142, 143, 144, 145, 146] (by decide +kernel) (by decide +kernel)
set_option maxRecDepth 20000 in
theorem gX1_prepare_X1_fillRow : GoodIn wsX1_prepare (wsV RX1 58 RX1 yX1_fillRow wsX1_fillRow) := goodIn_app (goodIn_of _ (by decide +kernel)) ggX1_prepare_X1_fillRow
theorem dX1_prepare_0 : decode cX1_prepare 0 = .ok (.aload_n 0, 1) := by decide +kernel
theorem dX1_prepare_1 : decode cX1_prepare 1 = .ok (.getfield 25, 3) := by decide +kernel
theorem dX1_prepare_4 : decode cX1_prepare 4 = .ok (.ifCond .eq 15, 3) := by decide +kernel
theorem dX1_prepare_7 : decode cX1_prepare 7 = .ok (.aload_n 0, 1) := by decide +kernel
theorem dX1_prepare_8 : decode cX1_prepare 8 = .ok (.getfield 21, 3) := by decide +kernel
theorem dX1_prepare_11 : decode cX1_prepare 11 = .ok (.aload_n 1, 1) := by decide +kernel
theorem dX1_prepare_12 : decode cX1_prepare 12 = .ok (.invokevirtual 40, 3) := by decide +kernel
theorem dX1_prepare_15 : decode cX1_prepare 15 = .ok (.ifCond .eq 4, 3) := by decide +kernel
theorem dX1_prepare_18 : decode cX1_prepare 18 = .ok (.return_, 1) := by decide +kernel
theorem dX1_prepare_19 : decode cX1_prepare 19 = .ok (.aload_n 0, 1) := by decide +kernel
theorem dX1_prepare_20 : decode cX1_prepare 20 = .ok (.getfield 21, 3) := by decide +kernel
theorem dX1_prepare_23 : decode cX1_prepare 23 = .ok (.aload_n 1, 1) := by decide +kernel
theorem dX1_prepare_24 : decode cX1_prepare 24 = .ok (.invokevirtual 44, 3) := by decide +kernel
theorem dX1_prepare_27 : decode cX1_prepare 27 = .ok (.aload_n 0, 1) := by decide +kernel
theorem dX1_prepare_28 : decode cX1_prepare 28 = .ok (.getfield 21, 3) := by decide +kernel
theorem dX1_prepare_31 : decode cX1_prepare 31 = .ok (.invokevirtual 48, 3) := by decide +kernel
theorem dX1_prepare_34 : decode cX1_prepare 34 = .ok (.istore_n 2, 1) := by decide +kernel
theorem dX1_prepare_35 : decode cX1_prepare 35 = .ok (.iload_n 2, 1) := by decide +kernel
theorem dX1_prepare_36 : decode cX1_prepare 36 = .ok (.aload_n 0, 1) := by decide +kernel
theorem dX1_prepare_37 : decode cX1_prepare 37 = .ok (.getfield 29, 3) := by decide +kernel
theorem dX1_prepare_40 : decode cX1_prepare 40 = .ok (.arraylength, 1) := by decide +kernel
theorem dX1_prepare_41 : decode cX1_prepare 41 = .ok (.iconst 1, 1) := by decide +kernel
theorem dX1_prepare_42 : decode cX1_prepare 42 = .ok (.isub, 1) := by decide +kernel
theorem dX1_prepare_43 : decode cX1_prepare 43 = .ok (.invokestatic 52, 3) := by decide +kernel
theorem dX1_prepare_46 : decode cX1_prepare 46 = .ok (.istore_n 3, 1) := by decide +kernel
theorem dX1_prepare_47 : decode cX1_prepare 47 = .ok (.iload_n 3, 1) := by decide +kernel
theorem dX1_prepare_48 : decode cX1_prepare 48 = .ok (.ifCond .lt 15, 3) := by decide +kernel
theorem dX1_prepare_51 : decode cX1_prepare 51 = .ok (.aload_n 0, 1) := by decide +kernel
theorem dX1_prepare_52 : decode cX1_prepare 52 = .ok (.iload_n 3, 1) := by decide +kernel
theorem dX1_prepare_53 : decode cX1_prepare 53 = .ok (.iload_n 2, 1) := by decide +kernel
theorem dX1_prepare_54 : decode cX1_prepare 54 = .ok (.invokevirtual 58, 3) := by decide +kernel
theorem dX1_prepare_57 : decode cX1_prepare 57 = .ok (.iinc 3 (-1), 3) := by decide +kernel
theorem dX1_prepare_60 : decode cX1_prepare 60 = .ok (.goto (-13), 3) := by decide +kernel
theorem dX1_prepare_63 : decode cX1_prepare 63 = .ok (.aload_n 0, 1) := by decide +kernel
theorem dX1_prepare_64 : decode cX1_prepare 64 = .ok (.iconst 1, 1) := by decide +kernel
theorem dX1_prepare_65 : decode cX1_prepare 65 = .ok (.putfield 25, 3) := by decide +kernel
theorem dX1_prepare_68 : decode cX1_prepare 68 = .ok (.return_, 1) := by decide +kernel
set_option maxRecDepth 20000 in
theorem ggX1_fillRow_X1_waysFrom : GoodIn wsX1_fillRow wsX1_waysFrom := goodIn_r _ [10, 4, 96, 97, 98, 99, 100, 101] (by decide +kernel) (by decide +kernel)
set_option maxRecDepth 20000 in
theorem gX1_fillRow_X1_waysFrom : GoodIn wsX1_fillRow (wsV RX1 66 RX1 yX1_waysFrom wsX1_waysFrom) := goodIn_app (goodIn_of _ (by decide +kernel)) ggX1_fillRow_X1_waysFrom
set_option maxRecDepth 20000 in
theorem ggX1_fillRow_X4_isUp : GoodIn wsX1_fillRow wsX4_isUp := goodIn_r _ [15, 16, 102, 103, 104, 105, 106, 107, 108] (by decide +kernel) (by decide +kernel)
set_option maxRecDepth 20000 in
theorem gX1_fillRow_X4_isUp : GoodIn wsX1_fillRow (wsV RX1 70 RX4 yX4_isUp wsX4_isUp) := goodIn_app (goodIn_of _ (by decide +kernel)) ggX1_fillRow_X4_isUp
set_option maxRecDepth 20000 in
theorem ggX1_fillRow_X2_reason : GoodIn wsX1_fillRow wsX2_reason := goodIn_r _ [21, 22, 23, 12, 13, 14, 15, 16, 24, 25, 26, 27, 28, 29, 30, 31, 32, 33, 34, 35, 36, 37, 38, 39, 40, 41, 42, 43, 44, 45, 46, 47, 48, 49, 50, 51, 52, 53, 54, 55, 56, 57, 58, 59, 60, 61, 62, 63, 64, 65, 66, 67, 68, 69, 70, 71, 72, 73, 74, 75, 76, 20, 77, 78, 79, 80, 81, 82, 83, 84, 85, 86, 87, 88, 89, 90, 91, 92, 93, 94, 95, 109, 102, 103, 104, 105, 106, 107, 108, 110, 111, 112, 113, 114, 115, 116, 117, 118, 119, 120] (by decide +kernel) (by decide +kernel)
set_option maxRecDepth 20000 in
theorem gX1_fillRow_X2_reason : GoodIn wsX1_fillRow (wsV RX1 74 RX2 yX2_reason wsX2_reason) := goodIn_app (goodIn_of _ (by decide +kernel)) ggX1_fillRow_X2_reason
theorem dX1_fillRow_0 : decode cX1_fillRow 0 = .ok (.iload_n 1, 1) := by decide +kernel
theorem dX1_fillRow_1 : decode cX1_fillRow 1 = .ok (.iload_n 2, 1) := by decide +kernel
theorem dX1_fillRow_2 : decode cX1_fillRow 2 = .ok (.if_icmp .ne 7, 3) := by decide +kernel
theorem dX1_fillRow_5 : decode cX1_fillRow 5 = .ok (.iconst 1, 1) := by decide +kernel
theorem dX1_fillRow_6 : decode cX1_fillRow 6 = .ok (.goto 4, 3) := by decide +kernel
theorem dX1_fillRow_9 : decode cX1_fillRow 9 = .ok (.iconst 0, 1) := by decide +kernel
theorem dX1_fillRow_10 : decode cX1_fillRow 10 = .ok (.istore_n 3, 1) := by decide +kernel
theorem dX1_fillRow_11 : decode cX1_fillRow 11 = .ok (.iconst 0, 1) := by decide +kernel
theorem dX1_fillRow_12 : decode cX1_fillRow 12 = .ok (.istore 4, 2) := by decide +kernel
theorem dX1_fillRow_14 : decode cX1_fillRow 14 = .ok (.iconst 0, 1) := by decide +kernel
theorem dX1_fillRow_15 : decode cX1_fillRow 15 = .ok (.istore 5, 2) := by decide +kernel
theorem dX1_fillRow_17 : decode cX1_fillRow 17 = .ok (.iload 5, 2) := by decide +kernel
theorem dX1_fillRow_19 : decode cX1_fillRow 19 = .ok (.aload_n 0, 1) := by decide +kernel
theorem dX1_fillRow_20 : decode cX1_fillRow 20 = .ok (.getfield 21, 3) := by decide +kernel
theorem dX1_fillRow_23 : decode cX1_fillRow 23 = .ok (.getfield 62, 3) := by decide +kernel
theorem dX1_fillRow_26 : decode cX1_fillRow 26 = .ok (.if_icmp .ge 78, 3) := by decide +kernel
theorem dX1_fillRow_29 : decode cX1_fillRow 29 = .ok (.aload_n 0, 1) := by decide +kernel
theorem dX1_fillRow_30 : decode cX1_fillRow 30 = .ok (.iload_n 1, 1) := by decide +kernel
theorem dX1_fillRow_31 : decode cX1_fillRow 31 = .ok (.iconst 1, 1) := by decide +kernel
theorem dX1_fillRow_32 : decode cX1_fillRow 32 = .ok (.iload 5, 2) := by decide +kernel
theorem dX1_fillRow_34 : decode cX1_fillRow 34 = .ok (.ishl, 1) := by decide +kernel
theorem dX1_fillRow_35 : decode cX1_fillRow 35 = .ok (.ior, 1) := by decide +kernel
theorem dX1_fillRow_36 : decode cX1_fillRow 36 = .ok (.invokevirtual 66, 3) := by decide +kernel
theorem dX1_fillRow_39 : decode cX1_fillRow 39 = .ok (.istore 6, 2) := by decide +kernel
theorem dX1_fillRow_41 : decode cX1_fillRow 41 = .ok (.aload_n 0, 1) := by decide +kernel
theorem dX1_fillRow_42 : decode cX1_fillRow 42 = .ok (.getfield 21, 3) := by decide +kernel
theorem dX1_fillRow_45 : decode cX1_fillRow 45 = .ok (.iload 5, 2) := by decide +kernel
theorem dX1_fillRow_47 : decode cX1_fillRow 47 = .ok (.invokevirtual 70, 3) := by decide +kernel
theorem dX1_fillRow_50 : decode cX1_fillRow 50 = .ok (.ifCond .ne 7, 3) := by decide +kernel
theorem dX1_fillRow_53 : decode cX1_fillRow 53 = .ok (.iconst 1, 1) := by decide +kernel
theorem dX1_fillRow_54 : decode cX1_fillRow 54 = .ok (.goto 4, 3) := by decide +kernel
theorem dX1_fillRow_57 : decode cX1_fillRow 57 = .ok (.iconst 0, 1) := by decide +kernel
theorem dX1_fillRow_58 : decode cX1_fillRow 58 = .ok (.istore 7, 2) := by decide +kernel
theorem dX1_fillRow_60 : decode cX1_fillRow 60 = .ok (.iload 6, 2) := by decide +kernel
theorem dX1_fillRow_62 : decode cX1_fillRow 62 = .ok (.ifCond .le 36, 3) := by decide +kernel
theorem dX1_fillRow_65 : decode cX1_fillRow 65 = .ok (.aload_n 0, 1) := by decide +kernel
theorem dX1_fillRow_66 : decode cX1_fillRow 66 = .ok (.getfield 12, 3) := by decide +kernel
theorem dX1_fillRow_69 : decode cX1_fillRow 69 = .ok (.aload_n 0, 1) := by decide +kernel
theorem dX1_fillRow_70 : decode cX1_fillRow 70 = .ok (.getfield 21, 3) := by decide +kernel
theorem dX1_fillRow_73 : decode cX1_fillRow 73 = .ok (.iload 5, 2) := by decide +kernel
theorem dX1_fillRow_75 : decode cX1_fillRow 75 = .ok (.iload_n 1, 1) := by decide +kernel
theorem dX1_fillRow_76 : decode cX1_fillRow 76 = .ok (.iload 7, 2) := by decide +kernel
theorem dX1_fillRow_78 : decode cX1_fillRow 78 = .ok (.invokevirtual 74, 3) := by decide +kernel
theorem dX1_fillRow_81 : decode cX1_fillRow 81 = .ok (.ifCond .ne 17, 3) := by decide +kernel
theorem dX1_fillRow_84 : decode cX1_fillRow 84 = .ok (.iload_n 3, 1) := by decide +kernel
theorem dX1_fillRow_85 : decode cX1_fillRow 85 = .ok (.iload 6, 2) := by decide +kernel
theorem dX1_fillRow_87 : decode cX1_fillRow 87 = .ok (.iadd, 1) := by decide +kernel
theorem dX1_fillRow_88 : decode cX1_fillRow 88 = .ok (.istore_n 3, 1) := by decide +kernel
theorem dX1_fillRow_89 : decode cX1_fillRow 89 = .ok (.iload 4, 2) := by decide +kernel
theorem dX1_fillRow_91 : decode cX1_fillRow 91 = .ok (.iconst 1, 1) := by decide +kernel
theorem dX1_fillRow_92 : decode cX1_fillRow 92 = .ok (.iload 5, 2) := by decide +kernel
theorem dX1_fillRow_94 : decode cX1_fillRow 94 = .ok (.ishl, 1) := by decide +kernel
theorem dX1_fillRow_95 : decode cX1_fillRow 95 = .ok (.ior, 1) := by decide +kernel
theorem dX1_fillRow_96 : decode cX1_fillRow 96 = .ok (.istore 4, 2) := by decide +kernel
theorem dX1_fillRow_98 : decode cX1_fillRow 98 = .ok (.iinc 5 1, 3) := by decide +kernel
theorem dX1_fillRow_101 : decode cX1_fillRow 101 = .ok (.goto (-84), 3) := by decide +kernel
theorem dX1_fillRow_104 : decode cX1_fillRow 104 = .ok (.iload_n 1, 1) := by decide +kernel
theorem dX1_fillRow_105 : decode cX1_fillRow 105 = .ok (.ifCond .lt 36, 3) := by decide +kernel
theorem dX1_fillRow_108 : decode cX1_fillRow 108 = .ok (.iload_n 1, 1) := by decide +kernel
theorem dX1_fillRow_109 : decode cX1_fillRow 109 = .ok (.aload_n 0, 1) := by decide +kernel
theorem dX1_fillRow_110 : decode cX1_fillRow 110 = .ok (.getfield 29, 3) := by decide +kernel
theorem dX1_fillRow_113 : decode cX1_fillRow 113 = .ok (.arraylength, 1) := by decide +kernel
theorem dX1_fillRow_114 : decode cX1_fillRow 114 = .ok (.if_icmp .ge 27, 3) := by decide +kernel
theorem dX1_fillRow_117 : decode cX1_fillRow 117 = .ok (.iload_n 1, 1) := by decide +kernel
theorem dX1_fillRow_118 : decode cX1_fillRow 118 = .ok (.aload_n 0, 1) := by decide +kernel
theorem dX1_fillRow_119 : decode cX1_fillRow 119 = .ok (.getfield 33, 3) := by decide +kernel
theorem dX1_fillRow_122 : decode cX1_fillRow 122 = .ok (.arraylength, 1) := by decide +kernel
theorem dX1_fillRow_123 : decode cX1_fillRow 123 = .ok (.if_icmp .ge 18, 3) := by decide +kernel
theorem dX1_fillRow_126 : decode cX1_fillRow 126 = .ok (.aload_n 0, 1) := by decide +kernel
theorem dX1_fillRow_127 : decode cX1_fillRow 127 = .ok (.getfield 29, 3) := by decide +kernel
theorem dX1_fillRow_130 : decode cX1_fillRow 130 = .ok (.iload_n 1, 1) := by decide +kernel
theorem dX1_fillRow_131 : decode cX1_fillRow 131 = .ok (.iload_n 3, 1) := by decide +kernel
theorem dX1_fillRow_132 : decode cX1_fillRow 132 = .ok (.iastore, 1) := by decide +kernel
theorem dX1_fillRow_133 : decode cX1_fillRow 133 = .ok (.aload_n 0, 1) := by decide +kernel
theorem dX1_fillRow_134 : decode cX1_fillRow 134 = .ok (.getfield 33, 3) := by decide +kernel
theorem dX1_fillRow_137 : decode cX1_fillRow 137 = .ok (.iload_n 1, 1) := by decide +kernel
theorem dX1_fillRow_138 : decode cX1_fillRow 138 = .ok (.iload 4, 2) := by decide +kernel
theorem dX1_fillRow_140 : decode cX1_fillRow 140 = .ok (.iastore, 1) := by decide +kernel
theorem dX1_fillRow_141 : decode cX1_fillRow 141 = .ok (.return_, 1) := by decide +kernel
theorem dX1_waysFrom_0 : decode cX1_waysFrom 0 = .ok (.iload_n 1, 1) := by decide +kernel
theorem dX1_waysFrom_1 : decode cX1_waysFrom 1 = .ok (.ifCond .lt 21, 3) := by decide +kernel
theorem dX1_waysFrom_4 : decode cX1_waysFrom 4 = .ok (.iload_n 1, 1) := by decide +kernel
theorem dX1_waysFrom_5 : decode cX1_waysFrom 5 = .ok (.aload_n 0, 1) := by decide +kernel
theorem dX1_waysFrom_6 : decode cX1_waysFrom 6 = .ok (.getfield 29, 3) := by decide +kernel
theorem dX1_waysFrom_9 : decode cX1_waysFrom 9 = .ok (.arraylength, 1) := by decide +kernel
theorem dX1_waysFrom_10 : decode cX1_waysFrom 10 = .ok (.if_icmp .ge 12, 3) := by decide +kernel
theorem dX1_waysFrom_13 : decode cX1_waysFrom 13 = .ok (.aload_n 0, 1) := by decide +kernel
theorem dX1_waysFrom_14 : decode cX1_waysFrom 14 = .ok (.getfield 29, 3) := by decide +kernel
theorem dX1_waysFrom_17 : decode cX1_waysFrom 17 = .ok (.iload_n 1, 1) := by decide +kernel
theorem dX1_waysFrom_18 : decode cX1_waysFrom 18 = .ok (.iaload, 1) := by decide +kernel
theorem dX1_waysFrom_19 : decode cX1_waysFrom 19 = .ok (.goto 4, 3) := by decide +kernel
theorem dX1_waysFrom_22 : decode cX1_waysFrom 22 = .ok (.iconst 0, 1) := by decide +kernel
theorem dX1_waysFrom_23 : decode cX1_waysFrom 23 = .ok (.ireturn, 1) := by decide +kernel
theorem dX1_stepsFrom_0 : decode cX1_stepsFrom 0 = .ok (.iload_n 1, 1) := by decide +kernel
theorem dX1_stepsFrom_1 : decode cX1_stepsFrom 1 = .ok (.ifCond .lt 21, 3) := by decide +kernel
theorem dX1_stepsFrom_4 : decode cX1_stepsFrom 4 = .ok (.iload_n 1, 1) := by decide +kernel
theorem dX1_stepsFrom_5 : decode cX1_stepsFrom 5 = .ok (.aload_n 0, 1) := by decide +kernel
theorem dX1_stepsFrom_6 : decode cX1_stepsFrom 6 = .ok (.getfield 33, 3) := by decide +kernel
theorem dX1_stepsFrom_9 : decode cX1_stepsFrom 9 = .ok (.arraylength, 1) := by decide +kernel
theorem dX1_stepsFrom_10 : decode cX1_stepsFrom 10 = .ok (.if_icmp .ge 12, 3) := by decide +kernel
theorem dX1_stepsFrom_13 : decode cX1_stepsFrom 13 = .ok (.aload_n 0, 1) := by decide +kernel
theorem dX1_stepsFrom_14 : decode cX1_stepsFrom 14 = .ok (.getfield 33, 3) := by decide +kernel
theorem dX1_stepsFrom_17 : decode cX1_stepsFrom 17 = .ok (.iload_n 1, 1) := by decide +kernel
theorem dX1_stepsFrom_18 : decode cX1_stepsFrom 18 = .ok (.iaload, 1) := by decide +kernel
theorem dX1_stepsFrom_19 : decode cX1_stepsFrom 19 = .ok (.goto 4, 3) := by decide +kernel
theorem dX1_stepsFrom_22 : decode cX1_stepsFrom 22 = .ok (.iconst 0, 1) := by decide +kernel
theorem dX1_stepsFrom_23 : decode cX1_stepsFrom 23 = .ok (.ireturn, 1) := by decide +kernel
set_option maxRecDepth 20000 in
theorem ggX1_firstStep_X1_stepsFrom : GoodIn wsX1_firstStep wsX1_stepsFrom := goodIn_r _ [7, 8, 9, 10, 11, 12, 13, 14] (by decide +kernel) (by decide +kernel)
set_option maxRecDepth 20000 in
theorem gX1_firstStep_X1_stepsFrom : GoodIn wsX1_firstStep (wsV RX1 78 RX1 yX1_stepsFrom wsX1_stepsFrom) := goodIn_app (goodIn_of _ (by decide +kernel)) ggX1_firstStep_X1_stepsFrom
theorem dX1_firstStep_0 : decode cX1_firstStep 0 = .ok (.aload_n 0, 1) := by decide +kernel
theorem dX1_firstStep_1 : decode cX1_firstStep 1 = .ok (.iload_n 1, 1) := by decide +kernel
theorem dX1_firstStep_2 : decode cX1_firstStep 2 = .ok (.invokevirtual 78, 3) := by decide +kernel
theorem dX1_firstStep_5 : decode cX1_firstStep 5 = .ok (.istore_n 2, 1) := by decide +kernel
theorem dX1_firstStep_6 : decode cX1_firstStep 6 = .ok (.iconst 0, 1) := by decide +kernel
theorem dX1_firstStep_7 : decode cX1_firstStep 7 = .ok (.istore_n 3, 1) := by decide +kernel
theorem dX1_firstStep_8 : decode cX1_firstStep 8 = .ok (.iload_n 3, 1) := by decide +kernel
theorem dX1_firstStep_9 : decode cX1_firstStep 9 = .ok (.aload_n 0, 1) := by decide +kernel
theorem dX1_firstStep_10 : decode cX1_firstStep 10 = .ok (.getfield 21, 3) := by decide +kernel
theorem dX1_firstStep_13 : decode cX1_firstStep 13 = .ok (.getfield 62, 3) := by decide +kernel
theorem dX1_firstStep_16 : decode cX1_firstStep 16 = .ok (.if_icmp .ge 20, 3) := by decide +kernel
theorem dX1_firstStep_19 : decode cX1_firstStep 19 = .ok (.iload_n 2, 1) := by decide +kernel
theorem dX1_firstStep_20 : decode cX1_firstStep 20 = .ok (.iload_n 3, 1) := by decide +kernel
theorem dX1_firstStep_21 : decode cX1_firstStep 21 = .ok (.ishr, 1) := by decide +kernel
theorem dX1_firstStep_22 : decode cX1_firstStep 22 = .ok (.iconst 1, 1) := by decide +kernel
theorem dX1_firstStep_23 : decode cX1_firstStep 23 = .ok (.iand, 1) := by decide +kernel
theorem dX1_firstStep_24 : decode cX1_firstStep 24 = .ok (.iconst 1, 1) := by decide +kernel
theorem dX1_firstStep_25 : decode cX1_firstStep 25 = .ok (.if_icmp .ne 5, 3) := by decide +kernel
theorem dX1_firstStep_28 : decode cX1_firstStep 28 = .ok (.iload_n 3, 1) := by decide +kernel
theorem dX1_firstStep_29 : decode cX1_firstStep 29 = .ok (.ireturn, 1) := by decide +kernel
theorem dX1_firstStep_30 : decode cX1_firstStep 30 = .ok (.iinc 3 1, 3) := by decide +kernel
theorem dX1_firstStep_33 : decode cX1_firstStep 33 = .ok (.goto (-25), 3) := by decide +kernel
theorem dX1_firstStep_36 : decode cX1_firstStep 36 = .ok (.iconst 0, 1) := by decide +kernel
theorem dX1_firstStep_37 : decode cX1_firstStep 37 = .ok (.ireturn, 1) := by decide +kernel
set_option maxRecDepth 20000 in
theorem ggX1_turnings_X4_allBends : GoodIn wsX1_turnings wsX4_allBends := goodIn_r _ [7, 8, 30, 31, 32, 33, 34, 35, 36] (by decide +kernel) (by decide +kernel)
set_option maxRecDepth 20000 in
theorem gX1_turnings_X4_allBends : GoodIn wsX1_turnings (wsV RX1 48 RX4 yX4_allBends wsX4_allBends) := goodIn_app (goodIn_of _ (by decide +kernel)) ggX1_turnings_X4_allBends
set_option maxRecDepth 20000 in
theorem ggX1_turnings_X1_firstStep : GoodIn wsX1_turnings wsX1_firstStep := goodIn_r _ [13, 1, 2, 14, 15, 16, 12, 17, 18, 24, 25, 26, 27, 28, 29, 30, 31, 32, 33, 34, 35, 36] (by decide +kernel) (by decide +kernel)
set_option maxRecDepth 20000 in
theorem gX1_turnings_X1_firstStep : GoodIn wsX1_turnings (wsV RX1 81 RX1 yX1_firstStep wsX1_firstStep) := goodIn_app (goodIn_of _ (by decide +kernel)) ggX1_turnings_X1_firstStep
set_option maxRecDepth 20000 in
theorem ggX1_turnings_X4_isUp : GoodIn wsX1_turnings wsX4_isUp := goodIn_r _ [22, 23, 30, 31, 32, 33, 34, 35, 36] (by decide +kernel) (by decide +kernel)
set_option maxRecDepth 20000 in
theorem gX1_turnings_X4_isUp : GoodIn wsX1_turnings (wsV RX1 70 RX4 yX4_isUp wsX4_isUp) := goodIn_app (goodIn_of _ (by decide +kernel)) ggX1_turnings_X4_isUp
theorem dX1_turnings_0 : decode cX1_turnings 0 = .ok (.aload_n 0, 1) := by decide +kernel
theorem dX1_turnings_1 : decode cX1_turnings 1 = .ok (.getfield 21, 3) := by decide +kernel
theorem dX1_turnings_4 : decode cX1_turnings 4 = .ok (.invokevirtual 48, 3) := by decide +kernel
theorem dX1_turnings_7 : decode cX1_turnings 7 = .ok (.istore_n 3, 1) := by decide +kernel
theorem dX1_turnings_8 : decode cX1_turnings 8 = .ok (.iconst 0, 1) := by decide +kernel
theorem dX1_turnings_9 : decode cX1_turnings 9 = .ok (.istore 4, 2) := by decide +kernel
theorem dX1_turnings_11 : decode cX1_turnings 11 = .ok (.iconst 0, 1) := by decide +kernel
theorem dX1_turnings_12 : decode cX1_turnings 12 = .ok (.istore 5, 2) := by decide +kernel
theorem dX1_turnings_14 : decode cX1_turnings 14 = .ok (.iload 5, 2) := by decide +kernel
theorem dX1_turnings_16 : decode cX1_turnings 16 = .ok (.aload_n 0, 1) := by decide +kernel
theorem dX1_turnings_17 : decode cX1_turnings 17 = .ok (.getfield 21, 3) := by decide +kernel
theorem dX1_turnings_20 : decode cX1_turnings 20 = .ok (.getfield 62, 3) := by decide +kernel
theorem dX1_turnings_23 : decode cX1_turnings 23 = .ok (.if_icmp .ge 59, 3) := by decide +kernel
theorem dX1_turnings_26 : decode cX1_turnings 26 = .ok (.iload_n 1, 1) := by decide +kernel
theorem dX1_turnings_27 : decode cX1_turnings 27 = .ok (.iload_n 3, 1) := by decide +kernel
theorem dX1_turnings_28 : decode cX1_turnings 28 = .ok (.if_icmp .eq 54, 3) := by decide +kernel
theorem dX1_turnings_31 : decode cX1_turnings 31 = .ok (.aload_n 0, 1) := by decide +kernel
theorem dX1_turnings_32 : decode cX1_turnings 32 = .ok (.iload_n 1, 1) := by decide +kernel
theorem dX1_turnings_33 : decode cX1_turnings 33 = .ok (.invokevirtual 81, 3) := by decide +kernel
theorem dX1_turnings_36 : decode cX1_turnings 36 = .ok (.istore 6, 2) := by decide +kernel
theorem dX1_turnings_38 : decode cX1_turnings 38 = .ok (.aload_n 0, 1) := by decide +kernel
theorem dX1_turnings_39 : decode cX1_turnings 39 = .ok (.getfield 21, 3) := by decide +kernel
theorem dX1_turnings_42 : decode cX1_turnings 42 = .ok (.iload 6, 2) := by decide +kernel
theorem dX1_turnings_44 : decode cX1_turnings 44 = .ok (.invokevirtual 70, 3) := by decide +kernel
theorem dX1_turnings_47 : decode cX1_turnings 47 = .ok (.ifCond .ne 7, 3) := by decide +kernel
theorem dX1_turnings_50 : decode cX1_turnings 50 = .ok (.iconst 1, 1) := by decide +kernel
theorem dX1_turnings_51 : decode cX1_turnings 51 = .ok (.goto 4, 3) := by decide +kernel
theorem dX1_turnings_54 : decode cX1_turnings 54 = .ok (.iconst 0, 1) := by decide +kernel
theorem dX1_turnings_55 : decode cX1_turnings 55 = .ok (.istore 7, 2) := by decide +kernel
theorem dX1_turnings_57 : decode cX1_turnings 57 = .ok (.iload 7, 2) := by decide +kernel
theorem dX1_turnings_59 : decode cX1_turnings 59 = .ok (.iload_n 2, 1) := by decide +kernel
theorem dX1_turnings_60 : decode cX1_turnings 60 = .ok (.if_icmp .eq 6, 3) := by decide +kernel
theorem dX1_turnings_63 : decode cX1_turnings 63 = .ok (.iinc 4 1, 3) := by decide +kernel
theorem dX1_turnings_66 : decode cX1_turnings 66 = .ok (.iload 7, 2) := by decide +kernel
theorem dX1_turnings_68 : decode cX1_turnings 68 = .ok (.istore_n 2, 1) := by decide +kernel
theorem dX1_turnings_69 : decode cX1_turnings 69 = .ok (.iload_n 1, 1) := by decide +kernel
theorem dX1_turnings_70 : decode cX1_turnings 70 = .ok (.iconst 1, 1) := by decide +kernel
theorem dX1_turnings_71 : decode cX1_turnings 71 = .ok (.iload 6, 2) := by decide +kernel
theorem dX1_turnings_73 : decode cX1_turnings 73 = .ok (.ishl, 1) := by decide +kernel
theorem dX1_turnings_74 : decode cX1_turnings 74 = .ok (.ior, 1) := by decide +kernel
theorem dX1_turnings_75 : decode cX1_turnings 75 = .ok (.istore_n 1, 1) := by decide +kernel
theorem dX1_turnings_76 : decode cX1_turnings 76 = .ok (.iinc 5 1, 3) := by decide +kernel
theorem dX1_turnings_79 : decode cX1_turnings 79 = .ok (.goto (-65), 3) := by decide +kernel
theorem dX1_turnings_82 : decode cX1_turnings 82 = .ok (.iload 4, 2) := by decide +kernel
theorem dX1_turnings_84 : decode cX1_turnings 84 = .ok (.ireturn, 1) := by decide +kernel
set_option maxRecDepth 20000 in
theorem ggX1_canPrecede_X1_stepsFrom : GoodIn wsX1_canPrecede wsX1_stepsFrom := goodIn_r _ [10, 11, 18, 19, 20, 21, 22, 23] (by decide +kernel) (by decide +kernel)
set_option maxRecDepth 20000 in
theorem gX1_canPrecede_X1_stepsFrom : GoodIn wsX1_canPrecede (wsV RX1 78 RX1 yX1_stepsFrom wsX1_stepsFrom) := goodIn_app (goodIn_of _ (by decide +kernel)) ggX1_canPrecede_X1_stepsFrom
set_option maxRecDepth 20000 in
theorem ggX1_canPrecede_X1_reachFrom : GoodIn wsX1_canPrecede wsX1_reachFrom := goodIn_r _ [15, 16, 17, 1, 18, 19, 20, 21, 22, 23, 24, 25, 26, 27, 28, 29, 30] (by decide +kernel) (by decide +kernel)
set_option maxRecDepth 20000 in
theorem gX1_canPrecede_X1_reachFrom : GoodIn wsX1_canPrecede (wsV RX1 87 RX1 yX1_reachFrom wsX1_reachFrom) := goodIn_app (goodIn_of _ (by decide +kernel)) ggX1_canPrecede_X1_reachFrom
theorem dX1_canPrecede_0 : decode cX1_canPrecede 0 = .ok (.iconst 0, 1) := by decide +kernel
theorem dX1_canPrecede_1 : decode cX1_canPrecede 1 = .ok (.istore 4, 2) := by decide +kernel
theorem dX1_canPrecede_3 : decode cX1_canPrecede 3 = .ok (.iload 4, 2) := by decide +kernel
theorem dX1_canPrecede_5 : decode cX1_canPrecede 5 = .ok (.aload_n 0, 1) := by decide +kernel
theorem dX1_canPrecede_6 : decode cX1_canPrecede 6 = .ok (.getfield 36, 3) := by decide +kernel
theorem dX1_canPrecede_9 : decode cX1_canPrecede 9 = .ok (.arraylength, 1) := by decide +kernel
theorem dX1_canPrecede_10 : decode cX1_canPrecede 10 = .ok (.if_icmp .ge 27, 3) := by decide +kernel
theorem dX1_canPrecede_13 : decode cX1_canPrecede 13 = .ok (.aload_n 0, 1) := by decide +kernel
theorem dX1_canPrecede_14 : decode cX1_canPrecede 14 = .ok (.getfield 36, 3) := by decide +kernel
theorem dX1_canPrecede_17 : decode cX1_canPrecede 17 = .ok (.iload 4, 2) := by decide +kernel
theorem dX1_canPrecede_19 : decode cX1_canPrecede 19 = .ok (.iload 4, 2) := by decide +kernel
theorem dX1_canPrecede_21 : decode cX1_canPrecede 21 = .ok (.iload_n 1, 1) := by decide +kernel
theorem dX1_canPrecede_22 : decode cX1_canPrecede 22 = .ok (.if_icmp .ne 7, 3) := by decide +kernel
theorem dX1_canPrecede_25 : decode cX1_canPrecede 25 = .ok (.iconst 1, 1) := by decide +kernel
theorem dX1_canPrecede_26 : decode cX1_canPrecede 26 = .ok (.goto 4, 3) := by decide +kernel
theorem dX1_canPrecede_29 : decode cX1_canPrecede 29 = .ok (.iconst 0, 1) := by decide +kernel
theorem dX1_canPrecede_30 : decode cX1_canPrecede 30 = .ok (.bastore, 1) := by decide +kernel
theorem dX1_canPrecede_31 : decode cX1_canPrecede 31 = .ok (.iinc 4 1, 3) := by decide +kernel
theorem dX1_canPrecede_34 : decode cX1_canPrecede 34 = .ok (.goto (-31), 3) := by decide +kernel
theorem dX1_canPrecede_37 : decode cX1_canPrecede 37 = .ok (.iconst 0, 1) := by decide +kernel
theorem dX1_canPrecede_38 : decode cX1_canPrecede 38 = .ok (.iload_n 1, 1) := by decide +kernel
theorem dX1_canPrecede_39 : decode cX1_canPrecede 39 = .ok (.invokestatic 84, 3) := by decide +kernel
theorem dX1_canPrecede_42 : decode cX1_canPrecede 42 = .ok (.istore 4, 2) := by decide +kernel
theorem dX1_canPrecede_44 : decode cX1_canPrecede 44 = .ok (.iload 4, 2) := by decide +kernel
theorem dX1_canPrecede_46 : decode cX1_canPrecede 46 = .ok (.aload_n 0, 1) := by decide +kernel
theorem dX1_canPrecede_47 : decode cX1_canPrecede 47 = .ok (.getfield 36, 3) := by decide +kernel
theorem dX1_canPrecede_50 : decode cX1_canPrecede 50 = .ok (.arraylength, 1) := by decide +kernel
theorem dX1_canPrecede_51 : decode cX1_canPrecede 51 = .ok (.if_icmp .ge 57, 3) := by decide +kernel
theorem dX1_canPrecede_54 : decode cX1_canPrecede 54 = .ok (.aload_n 0, 1) := by decide +kernel
theorem dX1_canPrecede_55 : decode cX1_canPrecede 55 = .ok (.getfield 36, 3) := by decide +kernel
theorem dX1_canPrecede_58 : decode cX1_canPrecede 58 = .ok (.iload 4, 2) := by decide +kernel
theorem dX1_canPrecede_60 : decode cX1_canPrecede 60 = .ok (.baload, 1) := by decide +kernel
theorem dX1_canPrecede_61 : decode cX1_canPrecede 61 = .ok (.ifCond .eq 12, 3) := by decide +kernel
theorem dX1_canPrecede_64 : decode cX1_canPrecede 64 = .ok (.aload_n 0, 1) := by decide +kernel
theorem dX1_canPrecede_65 : decode cX1_canPrecede 65 = .ok (.iload 4, 2) := by decide +kernel
theorem dX1_canPrecede_67 : decode cX1_canPrecede 67 = .ok (.invokevirtual 78, 3) := by decide +kernel
theorem dX1_canPrecede_70 : decode cX1_canPrecede 70 = .ok (.goto 4, 3) := by decide +kernel
theorem dX1_canPrecede_73 : decode cX1_canPrecede 73 = .ok (.iconst 0, 1) := by decide +kernel
theorem dX1_canPrecede_74 : decode cX1_canPrecede 74 = .ok (.istore 5, 2) := by decide +kernel
theorem dX1_canPrecede_76 : decode cX1_canPrecede 76 = .ok (.iload 5, 2) := by decide +kernel
theorem dX1_canPrecede_78 : decode cX1_canPrecede 78 = .ok (.iload_n 2, 1) := by decide +kernel
theorem dX1_canPrecede_79 : decode cX1_canPrecede 79 = .ok (.ishr, 1) := by decide +kernel
theorem dX1_canPrecede_80 : decode cX1_canPrecede 80 = .ok (.iconst 1, 1) := by decide +kernel
theorem dX1_canPrecede_81 : decode cX1_canPrecede 81 = .ok (.iand, 1) := by decide +kernel
theorem dX1_canPrecede_82 : decode cX1_canPrecede 82 = .ok (.iconst 1, 1) := by decide +kernel
theorem dX1_canPrecede_83 : decode cX1_canPrecede 83 = .ok (.if_icmp .ne 5, 3) := by decide +kernel
theorem dX1_canPrecede_86 : decode cX1_canPrecede 86 = .ok (.iconst 1, 1) := by decide +kernel
theorem dX1_canPrecede_87 : decode cX1_canPrecede 87 = .ok (.ireturn, 1) := by decide +kernel
theorem dX1_canPrecede_88 : decode cX1_canPrecede 88 = .ok (.aload_n 0, 1) := by decide +kernel
theorem dX1_canPrecede_89 : decode cX1_canPrecede 89 = .ok (.iload 4, 2) := by decide +kernel
theorem dX1_canPrecede_91 : decode cX1_canPrecede 91 = .ok (.iload 5, 2) := by decide +kernel
theorem dX1_canPrecede_93 : decode cX1_canPrecede 93 = .ok (.iconst 1, 1) := by decide +kernel
theorem dX1_canPrecede_94 : decode cX1_canPrecede 94 = .ok (.iload_n 3, 1) := by decide +kernel
theorem dX1_canPrecede_95 : decode cX1_canPrecede 95 = .ok (.ishl, 1) := by decide +kernel
theorem dX1_canPrecede_96 : decode cX1_canPrecede 96 = .ok (.iconst (-1), 1) := by decide +kernel
theorem dX1_canPrecede_97 : decode cX1_canPrecede 97 = .ok (.ixor, 1) := by decide +kernel
theorem dX1_canPrecede_98 : decode cX1_canPrecede 98 = .ok (.iand, 1) := by decide +kernel
theorem dX1_canPrecede_99 : decode cX1_canPrecede 99 = .ok (.invokevirtual 87, 3) := by decide +kernel
theorem dX1_canPrecede_102 : decode cX1_canPrecede 102 = .ok (.iinc 4 1, 3) := by decide +kernel
theorem dX1_canPrecede_105 : decode cX1_canPrecede 105 = .ok (.goto (-61), 3) := by decide +kernel
theorem dX1_canPrecede_108 : decode cX1_canPrecede 108 = .ok (.iconst 0, 1) := by decide +kernel
theorem dX1_canPrecede_109 : decode cX1_canPrecede 109 = .ok (.ireturn, 1) := by decide +kernel
theorem dX1_reachFrom_0 : decode cX1_reachFrom 0 = .ok (.iconst 0, 1) := by decide +kernel
theorem dX1_reachFrom_1 : decode cX1_reachFrom 1 = .ok (.istore_n 3, 1) := by decide +kernel
theorem dX1_reachFrom_2 : decode cX1_reachFrom 2 = .ok (.iload_n 3, 1) := by decide +kernel
theorem dX1_reachFrom_3 : decode cX1_reachFrom 3 = .ok (.aload_n 0, 1) := by decide +kernel
theorem dX1_reachFrom_4 : decode cX1_reachFrom 4 = .ok (.getfield 21, 3) := by decide +kernel
theorem dX1_reachFrom_7 : decode cX1_reachFrom 7 = .ok (.getfield 62, 3) := by decide +kernel
theorem dX1_reachFrom_10 : decode cX1_reachFrom 10 = .ok (.if_icmp .ge 48, 3) := by decide +kernel
theorem dX1_reachFrom_13 : decode cX1_reachFrom 13 = .ok (.iload_n 1, 1) := by decide +kernel
theorem dX1_reachFrom_14 : decode cX1_reachFrom 14 = .ok (.iconst 1, 1) := by decide +kernel
theorem dX1_reachFrom_15 : decode cX1_reachFrom 15 = .ok (.iload_n 3, 1) := by decide +kernel
theorem dX1_reachFrom_16 : decode cX1_reachFrom 16 = .ok (.ishl, 1) := by decide +kernel
theorem dX1_reachFrom_17 : decode cX1_reachFrom 17 = .ok (.ior, 1) := by decide +kernel
theorem dX1_reachFrom_18 : decode cX1_reachFrom 18 = .ok (.istore 4, 2) := by decide +kernel
theorem dX1_reachFrom_20 : decode cX1_reachFrom 20 = .ok (.iload_n 2, 1) := by decide +kernel
theorem dX1_reachFrom_21 : decode cX1_reachFrom 21 = .ok (.iload_n 3, 1) := by decide +kernel
theorem dX1_reachFrom_22 : decode cX1_reachFrom 22 = .ok (.ishr, 1) := by decide +kernel
theorem dX1_reachFrom_23 : decode cX1_reachFrom 23 = .ok (.iconst 1, 1) := by decide +kernel
theorem dX1_reachFrom_24 : decode cX1_reachFrom 24 = .ok (.iand, 1) := by decide +kernel
theorem dX1_reachFrom_25 : decode cX1_reachFrom 25 = .ok (.iconst 1, 1) := by decide +kernel
theorem dX1_reachFrom_26 : decode cX1_reachFrom 26 = .ok (.if_icmp .ne 26, 3) := by decide +kernel
theorem dX1_reachFrom_29 : decode cX1_reachFrom 29 = .ok (.iload 4, 2) := by decide +kernel
theorem dX1_reachFrom_31 : decode cX1_reachFrom 31 = .ok (.ifCond .lt 21, 3) := by decide +kernel
theorem dX1_reachFrom_34 : decode cX1_reachFrom 34 = .ok (.iload 4, 2) := by decide +kernel
theorem dX1_reachFrom_36 : decode cX1_reachFrom 36 = .ok (.aload_n 0, 1) := by decide +kernel
theorem dX1_reachFrom_37 : decode cX1_reachFrom 37 = .ok (.getfield 36, 3) := by decide +kernel
theorem dX1_reachFrom_40 : decode cX1_reachFrom 40 = .ok (.arraylength, 1) := by decide +kernel
theorem dX1_reachFrom_41 : decode cX1_reachFrom 41 = .ok (.if_icmp .ge 11, 3) := by decide +kernel
theorem dX1_reachFrom_44 : decode cX1_reachFrom 44 = .ok (.aload_n 0, 1) := by decide +kernel
theorem dX1_reachFrom_45 : decode cX1_reachFrom 45 = .ok (.getfield 36, 3) := by decide +kernel
theorem dX1_reachFrom_48 : decode cX1_reachFrom 48 = .ok (.iload 4, 2) := by decide +kernel
theorem dX1_reachFrom_50 : decode cX1_reachFrom 50 = .ok (.iconst 1, 1) := by decide +kernel
theorem dX1_reachFrom_51 : decode cX1_reachFrom 51 = .ok (.bastore, 1) := by decide +kernel
theorem dX1_reachFrom_52 : decode cX1_reachFrom 52 = .ok (.iinc 3 1, 3) := by decide +kernel
theorem dX1_reachFrom_55 : decode cX1_reachFrom 55 = .ok (.goto (-53), 3) := by decide +kernel
theorem dX1_reachFrom_58 : decode cX1_reachFrom 58 = .ok (.return_, 1) := by decide +kernel
set_option maxRecDepth 20000 in
theorem ggX2_init_X3_init : GoodIn wsX2_init wsX3_init := goodIn_r _ [10, 11, 2, 3, 12, 13, 14, 15, 16, 17, 18, 19, 20, 21, 22, 23, 24, 25, 26, 27, 28, 29] (by decide +kernel) (by decide +kernel)
set_option maxRecDepth 20000 in
theorem gX2_init_X3_init : GoodIn wsX2_init (wsX3_init) := ggX2_init_X3_init
theorem dX2_init_0 : decode cX2_init 0 = .ok (.aload_n 0, 1) := by decide +kernel
theorem dX2_init_1 : decode cX2_init 1 = .ok (.invokespecial 3, 3) := by decide +kernel
theorem dX2_init_4 : decode cX2_init 4 = .ok (.aload_n 0, 1) := by decide +kernel
theorem dX2_init_5 : decode cX2_init 5 = .ok (.new 9, 3) := by decide +kernel
theorem dX2_init_8 : decode cX2_init 8 = .ok (.dup, 1) := by decide +kernel
theorem dX2_init_9 : decode cX2_init 9 = .ok (.invokespecial 11, 3) := by decide +kernel
theorem dX2_init_12 : decode cX2_init 12 = .ok (.putfield 12, 3) := by decide +kernel
theorem dX2_init_15 : decode cX2_init 15 = .ok (.return_, 1) := by decide +kernel
set_option maxRecDepth 20000 in
theorem ggX2_reason_X4_isUp : GoodIn wsX2_reason wsX4_isUp := goodIn_r _ [6, 7, 82, 83, 84, 85, 86, 87, 88] (by decide +kernel) (by decide +kernel)
set_option maxRecDepth 20000 in
theorem gX2_reason_X4_isUp : GoodIn wsX2_reason (wsV RX2 18 RX4 yX4_isUp wsX4_isUp) := goodIn_app (goodIn_of _ (by decide +kernel)) ggX2_reason_X4_isUp
set_option maxRecDepth 20000 in
theorem ggX2_reason_X4_clampedLength : GoodIn wsX2_reason wsX4_clampedLength := goodIn_r _ [11, 12, 13, 14, 15, 5, 16, 17, 82, 83, 84, 85, 86, 87, 88] (by decide +kernel) (by decide +kernel)
set_option maxRecDepth 20000 in
theorem gX2_reason_X4_clampedLength : GoodIn wsX2_reason (wsV RX2 24 RX4 yX4_clampedLength wsX4_clampedLength) := goodIn_app (goodIn_of _ (by decide +kernel)) ggX2_reason_X4_clampedLength
set_option maxRecDepth 20000 in
theorem ggX2_reason_X4_settingAt : GoodIn wsX2_reason wsX4_settingAt := goodIn_r _ [21, 22, 82, 83, 84, 85, 86, 87, 88] (by decide +kernel) (by decide +kernel)
set_option maxRecDepth 20000 in
theorem gX2_reason_X4_settingAt : GoodIn wsX2_reason (wsV RX2 28 RX4 yX4_settingAt wsX4_settingAt) := goodIn_app (goodIn_of _ (by decide +kernel)) ggX2_reason_X4_settingAt
set_option maxRecDepth 20000 in
theorem ggX2_reason_X3_layFlat : GoodIn wsX2_reason wsX3_layFlat := goodIn_r _ [27, 28, 29, 30, 31, 32, 33, 34, 35, 36, 26, 37, 38, 39, 40, 41, 42, 3, 4, 5, 6, 7, 43, 44, 45, 46, 47, 14, 15, 16, 17, 48, 49, 50, 51, 52, 53, 54, 55, 56, 57, 82, 83, 84, 85, 86, 87, 88, 89, 90, 91, 92, 93, 94, 95, 96, 97, 98, 99] (by decide +kernel) (by decide +kernel)
set_option maxRecDepth 20000 in
theorem gX2_reason_X3_layFlat : GoodIn wsX2_reason (wsV RX2 32 RX3 yX3_layFlat wsX3_layFlat) := goodIn_app (goodIn_of _ (by decide +kernel)) ggX2_reason_X3_layFlat
set_option maxRecDepth 20000 in
theorem ggX2_reason_X2_inUpper : GoodIn wsX2_reason wsX2_inUpper := goodIn_r _ [62, 1, 63, 30, 31, 32, 18, 19, 20, 5, 21, 22, 64, 65, 66, 26, 67, 33, 53, 52, 54, 55, 81, 82, 83, 84, 85, 86, 87, 88, 89, 90, 91, 92, 93, 94, 95, 96, 97, 98, 99] (by decide +kernel) (by decide +kernel)
set_option maxRecDepth 20000 in
theorem gX2_reason_X2_inUpper : GoodIn wsX2_reason (wsV RX2 36 RX2 yX2_inUpper wsX2_inUpper) := goodIn_app (goodIn_of _ (by decide +kernel)) ggX2_reason_X2_inUpper
set_option maxRecDepth 20000 in
theorem ggX2_reason_X2_inLower : GoodIn wsX2_reason wsX2_inLower := goodIn_r _ [71, 1, 64, 65, 66, 26, 67, 33, 53, 52, 54, 55, 81, 89, 90, 91, 92, 93, 94, 95, 96, 97, 98, 99] (by decide +kernel) (by decide +kernel)
set_option maxRecDepth 20000 in
theorem gX2_reason_X2_inLower : GoodIn wsX2_reason (wsV RX2 40 RX2 yX2_inLower wsX2_inLower) := goodIn_app (goodIn_of _ (by decide +kernel)) ggX2_reason_X2_inLower
set_option maxRecDepth 20000 in
theorem ggX2_reason_X3_swingUp : GoodIn wsX2_reason wsX3_swingUp := goodIn_r _ [75, 52, 53, 54, 55, 89, 90, 91, 92, 93, 94, 95, 96, 97, 98, 99] (by decide +kernel) (by decide +kernel)
set_option maxRecDepth 20000 in
theorem gX2_reason_X3_swingUp : GoodIn wsX2_reason (wsV RX2 44 RX3 yX3_swingUp wsX3_swingUp) := goodIn_app (goodIn_of _ (by decide +kernel)) ggX2_reason_X3_swingUp
set_option maxRecDepth 20000 in
theorem ggX2_reason_X3_strikesItself : GoodIn wsX2_reason wsX3_strikesItself := goodIn_r _ [79, 33, 52, 53, 54, 55, 80, 65, 66, 26, 67, 89, 90, 91, 92, 93, 94, 95, 96, 97, 98, 99] (by decide +kernel) (by decide +kernel)
set_option maxRecDepth 20000 in
theorem gX2_reason_X3_strikesItself : GoodIn wsX2_reason (wsV RX2 48 RX3 yX3_strikesItself wsX3_strikesItself) := goodIn_app (goodIn_of _ (by decide +kernel)) ggX2_reason_X3_strikesItself
theorem dX2_reason_0 : decode cX2_reason 0 = .ok (.iload_n 3, 1) := by decide +kernel
theorem dX2_reason_1 : decode cX2_reason 1 = .ok (.iload_n 2, 1) := by decide +kernel
theorem dX2_reason_2 : decode cX2_reason 2 = .ok (.ishr, 1) := by decide +kernel
theorem dX2_reason_3 : decode cX2_reason 3 = .ok (.iconst 1, 1) := by decide +kernel
theorem dX2_reason_4 : decode cX2_reason 4 = .ok (.iand, 1) := by decide +kernel
theorem dX2_reason_5 : decode cX2_reason 5 = .ok (.iconst 1, 1) := by decide +kernel
theorem dX2_reason_6 : decode cX2_reason 6 = .ok (.if_icmp .ne 5, 3) := by decide +kernel
theorem dX2_reason_9 : decode cX2_reason 9 = .ok (.iconst 1, 1) := by decide +kernel
theorem dX2_reason_10 : decode cX2_reason 10 = .ok (.ireturn, 1) := by decide +kernel
theorem dX2_reason_11 : decode cX2_reason 11 = .ok (.aload_n 1, 1) := by decide +kernel
theorem dX2_reason_12 : decode cX2_reason 12 = .ok (.iload_n 2, 1) := by decide +kernel
theorem dX2_reason_13 : decode cX2_reason 13 = .ok (.invokevirtual 18, 3) := by decide +kernel
theorem dX2_reason_16 : decode cX2_reason 16 = .ok (.iload 4, 2) := by decide +kernel
theorem dX2_reason_18 : decode cX2_reason 18 = .ok (.if_icmp .ne 5, 3) := by decide +kernel
theorem dX2_reason_21 : decode cX2_reason 21 = .ok (.iconst 2, 1) := by decide +kernel
theorem dX2_reason_22 : decode cX2_reason 22 = .ok (.ireturn, 1) := by decide +kernel
theorem dX2_reason_23 : decode cX2_reason 23 = .ok (.aload_n 1, 1) := by decide +kernel
theorem dX2_reason_24 : decode cX2_reason 24 = .ok (.iload_n 2, 1) := by decide +kernel
theorem dX2_reason_25 : decode cX2_reason 25 = .ok (.iload_n 3, 1) := by decide +kernel
theorem dX2_reason_26 : decode cX2_reason 26 = .ok (.invokevirtual 24, 3) := by decide +kernel
theorem dX2_reason_29 : decode cX2_reason 29 = .ok (.aload_n 1, 1) := by decide +kernel
theorem dX2_reason_30 : decode cX2_reason 30 = .ok (.iconst 2, 1) := by decide +kernel
theorem dX2_reason_31 : decode cX2_reason 31 = .ok (.invokevirtual 28, 3) := by decide +kernel
theorem dX2_reason_34 : decode cX2_reason 34 = .ok (.if_icmp .ge 5, 3) := by decide +kernel
theorem dX2_reason_37 : decode cX2_reason 37 = .ok (.iconst 3, 1) := by decide +kernel
theorem dX2_reason_38 : decode cX2_reason 38 = .ok (.ireturn, 1) := by decide +kernel
theorem dX2_reason_39 : decode cX2_reason 39 = .ok (.aload_n 0, 1) := by decide +kernel
theorem dX2_reason_40 : decode cX2_reason 40 = .ok (.getfield 12, 3) := by decide +kernel
theorem dX2_reason_43 : decode cX2_reason 43 = .ok (.aload_n 1, 1) := by decide +kernel
theorem dX2_reason_44 : decode cX2_reason 44 = .ok (.iload_n 2, 1) := by decide +kernel
theorem dX2_reason_45 : decode cX2_reason 45 = .ok (.iload_n 3, 1) := by decide +kernel
theorem dX2_reason_46 : decode cX2_reason 46 = .ok (.iload 4, 2) := by decide +kernel
theorem dX2_reason_48 : decode cX2_reason 48 = .ok (.invokevirtual 32, 3) := by decide +kernel
theorem dX2_reason_51 : decode cX2_reason 51 = .ok (.aload_n 0, 1) := by decide +kernel
theorem dX2_reason_52 : decode cX2_reason 52 = .ok (.aload_n 1, 1) := by decide +kernel
theorem dX2_reason_53 : decode cX2_reason 53 = .ok (.invokevirtual 36, 3) := by decide +kernel
theorem dX2_reason_56 : decode cX2_reason 56 = .ok (.ifCond .eq 7, 3) := by decide +kernel
theorem dX2_reason_59 : decode cX2_reason 59 = .ok (.iconst 1, 1) := by decide +kernel
theorem dX2_reason_60 : decode cX2_reason 60 = .ok (.goto 4, 3) := by decide +kernel
theorem dX2_reason_63 : decode cX2_reason 63 = .ok (.iconst 0, 1) := by decide +kernel
theorem dX2_reason_64 : decode cX2_reason 64 = .ok (.istore 5, 2) := by decide +kernel
theorem dX2_reason_66 : decode cX2_reason 66 = .ok (.aload_n 0, 1) := by decide +kernel
theorem dX2_reason_67 : decode cX2_reason 67 = .ok (.invokevirtual 40, 3) := by decide +kernel
theorem dX2_reason_70 : decode cX2_reason 70 = .ok (.ifCond .eq 7, 3) := by decide +kernel
theorem dX2_reason_73 : decode cX2_reason 73 = .ok (.iconst 1, 1) := by decide +kernel
theorem dX2_reason_74 : decode cX2_reason 74 = .ok (.goto 4, 3) := by decide +kernel
theorem dX2_reason_77 : decode cX2_reason 77 = .ok (.iconst 0, 1) := by decide +kernel
theorem dX2_reason_78 : decode cX2_reason 78 = .ok (.istore 6, 2) := by decide +kernel
theorem dX2_reason_80 : decode cX2_reason 80 = .ok (.aload_n 0, 1) := by decide +kernel
theorem dX2_reason_81 : decode cX2_reason 81 = .ok (.getfield 12, 3) := by decide +kernel
theorem dX2_reason_84 : decode cX2_reason 84 = .ok (.iload_n 2, 1) := by decide +kernel
theorem dX2_reason_85 : decode cX2_reason 85 = .ok (.invokevirtual 44, 3) := by decide +kernel
theorem dX2_reason_88 : decode cX2_reason 88 = .ok (.iload 5, 2) := by decide +kernel
theorem dX2_reason_90 : decode cX2_reason 90 = .ok (.ifCond .ne 11, 3) := by decide +kernel
theorem dX2_reason_93 : decode cX2_reason 93 = .ok (.aload_n 0, 1) := by decide +kernel
theorem dX2_reason_94 : decode cX2_reason 94 = .ok (.aload_n 1, 1) := by decide +kernel
theorem dX2_reason_95 : decode cX2_reason 95 = .ok (.invokevirtual 36, 3) := by decide +kernel
theorem dX2_reason_98 : decode cX2_reason 98 = .ok (.ifCond .eq 5, 3) := by decide +kernel
theorem dX2_reason_101 : decode cX2_reason 101 = .ok (.iconst 4, 1) := by decide +kernel
theorem dX2_reason_102 : decode cX2_reason 102 = .ok (.ireturn, 1) := by decide +kernel
theorem dX2_reason_103 : decode cX2_reason 103 = .ok (.iload 6, 2) := by decide +kernel
theorem dX2_reason_105 : decode cX2_reason 105 = .ok (.ifCond .ne 10, 3) := by decide +kernel
theorem dX2_reason_108 : decode cX2_reason 108 = .ok (.aload_n 0, 1) := by decide +kernel
theorem dX2_reason_109 : decode cX2_reason 109 = .ok (.invokevirtual 40, 3) := by decide +kernel
theorem dX2_reason_112 : decode cX2_reason 112 = .ok (.ifCond .eq 5, 3) := by decide +kernel
theorem dX2_reason_115 : decode cX2_reason 115 = .ok (.iconst 5, 1) := by decide +kernel
theorem dX2_reason_116 : decode cX2_reason 116 = .ok (.ireturn, 1) := by decide +kernel
theorem dX2_reason_117 : decode cX2_reason 117 = .ok (.aload_n 0, 1) := by decide +kernel
theorem dX2_reason_118 : decode cX2_reason 118 = .ok (.getfield 12, 3) := by decide +kernel
theorem dX2_reason_121 : decode cX2_reason 121 = .ok (.invokevirtual 48, 3) := by decide +kernel
theorem dX2_reason_124 : decode cX2_reason 124 = .ok (.ifCond .eq 8, 3) := by decide +kernel
theorem dX2_reason_127 : decode cX2_reason 127 = .ok (.bipush 6, 2) := by decide +kernel
theorem dX2_reason_129 : decode cX2_reason 129 = .ok (.goto 4, 3) := by decide +kernel
theorem dX2_reason_132 : decode cX2_reason 132 = .ok (.iconst 0, 1) := by decide +kernel
theorem dX2_reason_133 : decode cX2_reason 133 = .ok (.ireturn, 1) := by decide +kernel
set_option maxRecDepth 20000 in
theorem ggX2_upperStrikers_X3_layFlat : GoodIn wsX2_upperStrikers wsX3_layFlat := goodIn_r _ [6, 7, 8, 9, 10, 11, 12, 13, 14, 15, 5, 16, 17, 18, 19, 20, 21, 22, 23, 24, 25, 26, 27, 28, 29, 30, 31, 32, 33, 34, 35, 36, 37, 38, 39, 40, 41, 42, 43, 44, 45, 66, 67, 68, 69, 70, 71, 72, 73, 74, 75, 76, 77, 78, 79, 80, 81, 82, 83] (by decide +kernel) (by decide +kernel)
set_option maxRecDepth 20000 in
theorem gX2_upperStrikers_X3_layFlat : GoodIn wsX2_upperStrikers (wsV RX2 32 RX3 yX3_layFlat wsX3_layFlat) := goodIn_app (goodIn_of _ (by decide +kernel)) ggX2_upperStrikers_X3_layFlat
set_option maxRecDepth 20000 in
theorem ggX2_upperStrikers_X2_inUpper : GoodIn wsX2_upperStrikers wsX2_inUpper := goodIn_r _ [50, 1, 51, 9, 10, 11, 52, 53, 54, 24, 55, 56, 57, 58, 59, 5, 60, 12, 41, 40, 42, 43, 65, 66, 67, 68, 69, 70, 71, 72, 73, 74, 75, 76, 77, 78, 79, 80, 81, 82, 83] (by decide +kernel) (by decide +kernel)
set_option maxRecDepth 20000 in
theorem gX2_upperStrikers_X2_inUpper : GoodIn wsX2_upperStrikers (wsV RX2 36 RX2 yX2_inUpper wsX2_inUpper) := goodIn_app (goodIn_of _ (by decide +kernel)) ggX2_upperStrikers_X2_inUpper
set_option maxRecDepth 20000 in
theorem ggX2_upperStrikers_X3_swingUp : GoodIn wsX2_upperStrikers wsX3_swingUp := goodIn_r _ [64, 40, 41, 42, 43, 73, 74, 75, 76, 77, 78, 79, 80, 81, 82, 83] (by decide +kernel) (by decide +kernel)
set_option maxRecDepth 20000 in
theorem gX2_upperStrikers_X3_swingUp : GoodIn wsX2_upperStrikers (wsV RX2 44 RX3 yX3_swingUp wsX3_swingUp) := goodIn_app (goodIn_of _ (by decide +kernel)) ggX2_upperStrikers_X3_swingUp
theorem dX2_upperStrikers_0 : decode cX2_upperStrikers 0 = .ok (.aload_n 0, 1) := by decide +kernel
theorem dX2_upperStrikers_1 : decode cX2_upperStrikers 1 = .ok (.getfield 12, 3) := by decide +kernel
theorem dX2_upperStrikers_4 : decode cX2_upperStrikers 4 = .ok (.aload_n 1, 1) := by decide +kernel
theorem dX2_upperStrikers_5 : decode cX2_upperStrikers 5 = .ok (.iload_n 2, 1) := by decide +kernel
theorem dX2_upperStrikers_6 : decode cX2_upperStrikers 6 = .ok (.iload_n 3, 1) := by decide +kernel
theorem dX2_upperStrikers_7 : decode cX2_upperStrikers 7 = .ok (.iload 4, 2) := by decide +kernel
theorem dX2_upperStrikers_9 : decode cX2_upperStrikers 9 = .ok (.invokevirtual 32, 3) := by decide +kernel
theorem dX2_upperStrikers_12 : decode cX2_upperStrikers 12 = .ok (.aload_n 0, 1) := by decide +kernel
theorem dX2_upperStrikers_13 : decode cX2_upperStrikers 13 = .ok (.aload_n 1, 1) := by decide +kernel
theorem dX2_upperStrikers_14 : decode cX2_upperStrikers 14 = .ok (.invokevirtual 36, 3) := by decide +kernel
theorem dX2_upperStrikers_17 : decode cX2_upperStrikers 17 = .ok (.istore 5, 2) := by decide +kernel
theorem dX2_upperStrikers_19 : decode cX2_upperStrikers 19 = .ok (.aload_n 0, 1) := by decide +kernel
theorem dX2_upperStrikers_20 : decode cX2_upperStrikers 20 = .ok (.getfield 12, 3) := by decide +kernel
theorem dX2_upperStrikers_23 : decode cX2_upperStrikers 23 = .ok (.iload_n 2, 1) := by decide +kernel
theorem dX2_upperStrikers_24 : decode cX2_upperStrikers 24 = .ok (.invokevirtual 44, 3) := by decide +kernel
theorem dX2_upperStrikers_27 : decode cX2_upperStrikers 27 = .ok (.iload 5, 2) := by decide +kernel
theorem dX2_upperStrikers_29 : decode cX2_upperStrikers 29 = .ok (.aload_n 0, 1) := by decide +kernel
theorem dX2_upperStrikers_30 : decode cX2_upperStrikers 30 = .ok (.aload_n 1, 1) := by decide +kernel
theorem dX2_upperStrikers_31 : decode cX2_upperStrikers 31 = .ok (.invokevirtual 36, 3) := by decide +kernel
theorem dX2_upperStrikers_34 : decode cX2_upperStrikers 34 = .ok (.ior, 1) := by decide +kernel
theorem dX2_upperStrikers_35 : decode cX2_upperStrikers 35 = .ok (.ireturn, 1) := by decide +kernel
set_option maxRecDepth 20000 in
theorem ggX2_farEnd_X3_layFlat : GoodIn wsX2_farEnd wsX3_layFlat := goodIn_r _ [8, 9, 10, 11, 12, 13, 14, 15, 16, 17, 7, 18, 19, 20, 21, 22, 23, 24, 25, 26, 27, 28, 29, 30, 31, 32, 33, 34, 35, 36, 37, 38, 39, 40, 41, 42, 43, 44, 45, 46, 47, 57, 58, 59, 60, 61, 62, 63, 64, 65, 66, 67, 68, 69, 70, 71, 72, 73, 74] (by decide +kernel) (by decide +kernel)
set_option maxRecDepth 20000 in
theorem gX2_farEnd_X3_layFlat : GoodIn wsX2_farEnd (wsV RX2 32 RX3 yX3_layFlat wsX3_layFlat) := goodIn_app (goodIn_of _ (by decide +kernel)) ggX2_farEnd_X3_layFlat
set_option maxRecDepth 20000 in
theorem ggX2_farEnd_X3_farEndY : GoodIn wsX2_farEnd wsX3_farEndY := goodIn_r _ [51, 47, 64, 65, 66, 67, 68, 69, 70, 71, 72, 73, 74] (by decide +kernel) (by decide +kernel)
set_option maxRecDepth 20000 in
theorem gX2_farEnd_X3_farEndY : GoodIn wsX2_farEnd (wsV RX2 60 RX3 yX3_farEndY wsX3_farEndY) := goodIn_app (goodIn_of _ (by decide +kernel)) ggX2_farEnd_X3_farEndY
set_option maxRecDepth 20000 in
theorem ggX2_farEnd_X3_farEndX : GoodIn wsX2_farEnd wsX3_farEndX := goodIn_r _ [55, 46, 64, 65, 66, 67, 68, 69, 70, 71, 72, 73, 74] (by decide +kernel) (by decide +kernel)
set_option maxRecDepth 20000 in
theorem gX2_farEnd_X3_farEndX : GoodIn wsX2_farEnd (wsV RX2 63 RX3 yX3_farEndX wsX3_farEndX) := goodIn_app (goodIn_of _ (by decide +kernel)) ggX2_farEnd_X3_farEndX
theorem dX2_farEnd_0 : decode cX2_farEnd 0 = .ok (.aload_n 0, 1) := by decide +kernel
theorem dX2_farEnd_1 : decode cX2_farEnd 1 = .ok (.getfield 12, 3) := by decide +kernel
theorem dX2_farEnd_4 : decode cX2_farEnd 4 = .ok (.aload_n 1, 1) := by decide +kernel
theorem dX2_farEnd_5 : decode cX2_farEnd 5 = .ok (.iload_n 2, 1) := by decide +kernel
theorem dX2_farEnd_6 : decode cX2_farEnd 6 = .ok (.aload_n 1, 1) := by decide +kernel
theorem dX2_farEnd_7 : decode cX2_farEnd 7 = .ok (.getfield 52, 3) := by decide +kernel
theorem dX2_farEnd_10 : decode cX2_farEnd 10 = .ok (.aload_n 1, 1) := by decide +kernel
theorem dX2_farEnd_11 : decode cX2_farEnd 11 = .ok (.getfield 56, 3) := by decide +kernel
theorem dX2_farEnd_14 : decode cX2_farEnd 14 = .ok (.invokevirtual 32, 3) := by decide +kernel
theorem dX2_farEnd_17 : decode cX2_farEnd 17 = .ok (.iload 4, 2) := by decide +kernel
theorem dX2_farEnd_19 : decode cX2_farEnd 19 = .ok (.ifCond .eq 14, 3) := by decide +kernel
theorem dX2_farEnd_22 : decode cX2_farEnd 22 = .ok (.aload_n 0, 1) := by decide +kernel
theorem dX2_farEnd_23 : decode cX2_farEnd 23 = .ok (.getfield 12, 3) := by decide +kernel
theorem dX2_farEnd_26 : decode cX2_farEnd 26 = .ok (.iload_n 3, 1) := by decide +kernel
theorem dX2_farEnd_27 : decode cX2_farEnd 27 = .ok (.invokevirtual 60, 3) := by decide +kernel
theorem dX2_farEnd_30 : decode cX2_farEnd 30 = .ok (.goto 11, 3) := by decide +kernel
theorem dX2_farEnd_33 : decode cX2_farEnd 33 = .ok (.aload_n 0, 1) := by decide +kernel
theorem dX2_farEnd_34 : decode cX2_farEnd 34 = .ok (.getfield 12, 3) := by decide +kernel
theorem dX2_farEnd_37 : decode cX2_farEnd 37 = .ok (.iload_n 3, 1) := by decide +kernel
theorem dX2_farEnd_38 : decode cX2_farEnd 38 = .ok (.invokevirtual 63, 3) := by decide +kernel
theorem dX2_farEnd_41 : decode cX2_farEnd 41 = .ok (.ireturn, 1) := by decide +kernel
set_option maxRecDepth 20000 in
theorem ggX2_inUpper_X4_settingAt : GoodIn wsX2_inUpper wsX4_settingAt := goodIn_r _ [10, 11, 23, 24, 25, 26, 27, 28, 29] (by decide +kernel) (by decide +kernel)
set_option maxRecDepth 20000 in
theorem gX2_inUpper_X4_settingAt : GoodIn wsX2_inUpper (wsV RX2 28 RX4 yX4_settingAt wsX4_settingAt) := goodIn_app (goodIn_of _ (by decide +kernel)) ggX2_inUpper_X4_settingAt
set_option maxRecDepth 20000 in
theorem ggX2_inUpper_X3_flangesIn : GoodIn wsX2_inUpper wsX3_flangesIn := goodIn_r _ [16, 17, 18, 19, 20, 21, 30, 31, 32, 33, 34, 35, 36, 37, 38, 39, 40] (by decide +kernel) (by decide +kernel)
set_option maxRecDepth 20000 in
theorem gX2_inUpper_X3_flangesIn : GoodIn wsX2_inUpper (wsV RX2 71 RX3 yX3_flangesIn wsX3_flangesIn) := goodIn_app (goodIn_of _ (by decide +kernel)) ggX2_inUpper_X3_flangesIn
theorem dX2_inUpper_0 : decode cX2_inUpper 0 = .ok (.aload_n 1, 1) := by decide +kernel
theorem dX2_inUpper_1 : decode cX2_inUpper 1 = .ok (.iconst 0, 1) := by decide +kernel
theorem dX2_inUpper_2 : decode cX2_inUpper 2 = .ok (.invokevirtual 28, 3) := by decide +kernel
theorem dX2_inUpper_5 : decode cX2_inUpper 5 = .ok (.istore_n 2, 1) := by decide +kernel
theorem dX2_inUpper_6 : decode cX2_inUpper 6 = .ok (.aload_n 1, 1) := by decide +kernel
theorem dX2_inUpper_7 : decode cX2_inUpper 7 = .ok (.iconst 1, 1) := by decide +kernel
theorem dX2_inUpper_8 : decode cX2_inUpper 8 = .ok (.invokevirtual 28, 3) := by decide +kernel
theorem dX2_inUpper_11 : decode cX2_inUpper 11 = .ok (.istore_n 3, 1) := by decide +kernel
theorem dX2_inUpper_12 : decode cX2_inUpper 12 = .ok (.aload_n 0, 1) := by decide +kernel
theorem dX2_inUpper_13 : decode cX2_inUpper 13 = .ok (.getfield 12, 3) := by decide +kernel
theorem dX2_inUpper_16 : decode cX2_inUpper 16 = .ok (.iconst 1, 1) := by decide +kernel
theorem dX2_inUpper_17 : decode cX2_inUpper 17 = .ok (.iconst 1, 1) := by decide +kernel
theorem dX2_inUpper_18 : decode cX2_inUpper 18 = .ok (.iconst 1, 1) := by decide +kernel
theorem dX2_inUpper_19 : decode cX2_inUpper 19 = .ok (.iconst 2, 1) := by decide +kernel
theorem dX2_inUpper_20 : decode cX2_inUpper 20 = .ok (.iload_n 2, 1) := by decide +kernel
theorem dX2_inUpper_21 : decode cX2_inUpper 21 = .ok (.invokestatic 66, 3) := by decide +kernel
theorem dX2_inUpper_24 : decode cX2_inUpper 24 = .ok (.invokevirtual 71, 3) := by decide +kernel
theorem dX2_inUpper_27 : decode cX2_inUpper 27 = .ok (.istore 4, 2) := by decide +kernel
theorem dX2_inUpper_29 : decode cX2_inUpper 29 = .ok (.aload_n 0, 1) := by decide +kernel
theorem dX2_inUpper_30 : decode cX2_inUpper 30 = .ok (.getfield 12, 3) := by decide +kernel
theorem dX2_inUpper_33 : decode cX2_inUpper 33 = .ok (.iconst 1, 1) := by decide +kernel
theorem dX2_inUpper_34 : decode cX2_inUpper 34 = .ok (.iconst 1, 1) := by decide +kernel
theorem dX2_inUpper_35 : decode cX2_inUpper 35 = .ok (.iload_n 3, 1) := by decide +kernel
theorem dX2_inUpper_36 : decode cX2_inUpper 36 = .ok (.iadd, 1) := by decide +kernel
theorem dX2_inUpper_37 : decode cX2_inUpper 37 = .ok (.iconst 3, 1) := by decide +kernel
theorem dX2_inUpper_38 : decode cX2_inUpper 38 = .ok (.iload_n 2, 1) := by decide +kernel
theorem dX2_inUpper_39 : decode cX2_inUpper 39 = .ok (.invokevirtual 71, 3) := by decide +kernel
theorem dX2_inUpper_42 : decode cX2_inUpper 42 = .ok (.istore 5, 2) := by decide +kernel
theorem dX2_inUpper_44 : decode cX2_inUpper 44 = .ok (.iload 4, 2) := by decide +kernel
theorem dX2_inUpper_46 : decode cX2_inUpper 46 = .ok (.iload 5, 2) := by decide +kernel
theorem dX2_inUpper_48 : decode cX2_inUpper 48 = .ok (.ior, 1) := by decide +kernel
theorem dX2_inUpper_49 : decode cX2_inUpper 49 = .ok (.ireturn, 1) := by decide +kernel
set_option maxRecDepth 20000 in
theorem ggX2_inLower_X3_flangesIn : GoodIn wsX2_inLower wsX3_flangesIn := goodIn_r _ [6, 7, 8, 9, 10, 11, 13, 14, 15, 16, 17, 18, 19, 20, 21, 22, 23] (by decide +kernel) (by decide +kernel)
set_option maxRecDepth 20000 in
theorem gX2_inLower_X3_flangesIn : GoodIn wsX2_inLower (wsV RX2 71 RX3 yX3_flangesIn wsX3_flangesIn) := goodIn_app (goodIn_of _ (by decide +kernel)) ggX2_inLower_X3_flangesIn
theorem dX2_inLower_0 : decode cX2_inLower 0 = .ok (.aload_n 0, 1) := by decide +kernel
theorem dX2_inLower_1 : decode cX2_inLower 1 = .ok (.getfield 12, 3) := by decide +kernel
theorem dX2_inLower_4 : decode cX2_inLower 4 = .ok (.iconst 1, 1) := by decide +kernel
theorem dX2_inLower_5 : decode cX2_inLower 5 = .ok (.iconst 3, 1) := by decide +kernel
theorem dX2_inLower_6 : decode cX2_inLower 6 = .ok (.bipush (-3), 2) := by decide +kernel
theorem dX2_inLower_8 : decode cX2_inLower 8 = .ok (.iconst (-1), 1) := by decide +kernel
theorem dX2_inLower_9 : decode cX2_inLower 9 = .ok (.invokevirtual 71, 3) := by decide +kernel
theorem dX2_inLower_12 : decode cX2_inLower 12 = .ok (.ireturn, 1) := by decide +kernel
theorem dX3_init_0 : decode cX3_init 0 = .ok (.aload_n 0, 1) := by decide +kernel
theorem dX3_init_1 : decode cX3_init 1 = .ok (.invokespecial 3, 3) := by decide +kernel
theorem dX3_init_4 : decode cX3_init 4 = .ok (.aload_n 0, 1) := by decide +kernel
theorem dX3_init_5 : decode cX3_init 5 = .ok (.bipush 8, 2) := by decide +kernel
theorem dX3_init_7 : decode cX3_init 7 = .ok (.newarray .int, 2) := by decide +kernel
theorem dX3_init_9 : decode cX3_init 9 = .ok (.putfield 9, 3) := by decide +kernel
theorem dX3_init_12 : decode cX3_init 12 = .ok (.aload_n 0, 1) := by decide +kernel
theorem dX3_init_13 : decode cX3_init 13 = .ok (.bipush 8, 2) := by decide +kernel
theorem dX3_init_15 : decode cX3_init 15 = .ok (.newarray .int, 2) := by decide +kernel
theorem dX3_init_17 : decode cX3_init 17 = .ok (.putfield 15, 3) := by decide +kernel
theorem dX3_init_20 : decode cX3_init 20 = .ok (.aload_n 0, 1) := by decide +kernel
theorem dX3_init_21 : decode cX3_init 21 = .ok (.bipush 8, 2) := by decide +kernel
theorem dX3_init_23 : decode cX3_init 23 = .ok (.newarray .int, 2) := by decide +kernel
theorem dX3_init_25 : decode cX3_init 25 = .ok (.putfield 18, 3) := by decide +kernel
theorem dX3_init_28 : decode cX3_init 28 = .ok (.aload_n 0, 1) := by decide +kernel
theorem dX3_init_29 : decode cX3_init 29 = .ok (.bipush 8, 2) := by decide +kernel
theorem dX3_init_31 : decode cX3_init 31 = .ok (.newarray .int, 2) := by decide +kernel
theorem dX3_init_33 : decode cX3_init 33 = .ok (.putfield 21, 3) := by decide +kernel
theorem dX3_init_36 : decode cX3_init 36 = .ok (.aload_n 0, 1) := by decide +kernel
theorem dX3_init_37 : decode cX3_init 37 = .ok (.bipush 8, 2) := by decide +kernel
theorem dX3_init_39 : decode cX3_init 39 = .ok (.newarray .int, 2) := by decide +kernel
theorem dX3_init_41 : decode cX3_init 41 = .ok (.putfield 24, 3) := by decide +kernel
theorem dX3_init_44 : decode cX3_init 44 = .ok (.aload_n 0, 1) := by decide +kernel
theorem dX3_init_45 : decode cX3_init 45 = .ok (.bipush 8, 2) := by decide +kernel
theorem dX3_init_47 : decode cX3_init 47 = .ok (.newarray .int, 2) := by decide +kernel
theorem dX3_init_49 : decode cX3_init 49 = .ok (.putfield 27, 3) := by decide +kernel
theorem dX3_init_52 : decode cX3_init 52 = .ok (.return_, 1) := by decide +kernel
set_option maxRecDepth 20000 in
theorem ggX3_layFlat_X3_startAtTool : GoodIn wsX3_layFlat wsX3_startAtTool := goodIn_r _ [11, 12, 13, 14, 15, 48, 49, 50, 51, 52, 53, 54, 55, 56, 57, 58] (by decide +kernel) (by decide +kernel)
set_option maxRecDepth 20000 in
theorem gX3_layFlat_X3_startAtTool : GoodIn wsX3_layFlat (wsV RX3 45 RX3 yX3_startAtTool wsX3_startAtTool) := goodIn_app (goodIn_of _ (by decide +kernel)) ggX3_layFlat_X3_startAtTool
set_option maxRecDepth 20000 in
theorem ggX3_layFlat_X4_isUp : GoodIn wsX3_layFlat wsX4_isUp := goodIn_r _ [20, 21, 41, 42, 43, 44, 45, 46, 47] (by decide +kernel) (by decide +kernel)
set_option maxRecDepth 20000 in
theorem gX3_layFlat_X4_isUp : GoodIn wsX3_layFlat (wsV RX3 49 RX4 yX4_isUp wsX4_isUp) := goodIn_app (goodIn_of _ (by decide +kernel)) ggX3_layFlat_X4_isUp
set_option maxRecDepth 20000 in
theorem ggX3_layFlat_X3_turnAt : GoodIn wsX3_layFlat wsX3_turnAt := goodIn_r _ [25, 14, 15, 48, 49, 50, 51, 52, 53, 54, 55, 56, 57, 58] (by decide +kernel) (by decide +kernel)
set_option maxRecDepth 20000 in
theorem gX3_layFlat_X3_turnAt : GoodIn wsX3_layFlat (wsV RX3 53 RX3 yX3_turnAt wsX3_turnAt) := goodIn_app (goodIn_of _ (by decide +kernel)) ggX3_layFlat_X3_turnAt
set_option maxRecDepth 20000 in
theorem ggX3_layFlat_X4_lengthAt : GoodIn wsX3_layFlat wsX4_lengthAt := goodIn_r _ [29, 30, 41, 42, 43, 44, 45, 46, 47] (by decide +kernel) (by decide +kernel)
set_option maxRecDepth 20000 in
theorem gX3_layFlat_X4_lengthAt : GoodIn wsX3_layFlat (wsV RX3 57 RX4 yX4_lengthAt wsX4_lengthAt) := goodIn_app (goodIn_of _ (by decide +kernel)) ggX3_layFlat_X4_lengthAt
set_option maxRecDepth 20000 in
theorem ggX3_layFlat_X3_draw : GoodIn wsX3_layFlat wsX3_draw := goodIn_r _ [34, 12, 13, 14, 15, 35, 36, 37, 38, 39, 40, 48, 49, 50, 51, 52, 53, 54, 55, 56, 57, 58] (by decide +kernel) (by decide +kernel)
set_option maxRecDepth 20000 in
theorem gX3_layFlat_X3_draw : GoodIn wsX3_layFlat (wsV RX3 61 RX3 yX3_draw wsX3_draw) := goodIn_app (goodIn_of _ (by decide +kernel)) ggX3_layFlat_X3_draw
theorem dX3_layFlat_0 : decode cX3_layFlat 0 = .ok (.iload_n 3, 1) := by decide +kernel
theorem dX3_layFlat_1 : decode cX3_layFlat 1 = .ok (.iconst 1, 1) := by decide +kernel
theorem dX3_layFlat_2 : decode cX3_layFlat 2 = .ok (.iload_n 2, 1) := by decide +kernel
theorem dX3_layFlat_3 : decode cX3_layFlat 3 = .ok (.ishl, 1) := by decide +kernel
theorem dX3_layFlat_4 : decode cX3_layFlat 4 = .ok (.iconst (-1), 1) := by decide +kernel
theorem dX3_layFlat_5 : decode cX3_layFlat 5 = .ok (.ixor, 1) := by decide +kernel
theorem dX3_layFlat_6 : decode cX3_layFlat 6 = .ok (.iand, 1) := by decide +kernel
theorem dX3_layFlat_7 : decode cX3_layFlat 7 = .ok (.istore 5, 2) := by decide +kernel
theorem dX3_layFlat_9 : decode cX3_layFlat 9 = .ok (.aload_n 0, 1) := by decide +kernel
theorem dX3_layFlat_10 : decode cX3_layFlat 10 = .ok (.aload_n 1, 1) := by decide +kernel
theorem dX3_layFlat_11 : decode cX3_layFlat 11 = .ok (.getfield 30, 3) := by decide +kernel
theorem dX3_layFlat_14 : decode cX3_layFlat 14 = .ok (.iconst 1, 1) := by decide +kernel
theorem dX3_layFlat_15 : decode cX3_layFlat 15 = .ok (.iadd, 1) := by decide +kernel
theorem dX3_layFlat_16 : decode cX3_layFlat 16 = .ok (.bipush 8, 2) := by decide +kernel
theorem dX3_layFlat_18 : decode cX3_layFlat 18 = .ok (.invokestatic 36, 3) := by decide +kernel
theorem dX3_layFlat_21 : decode cX3_layFlat 21 = .ok (.putfield 42, 3) := by decide +kernel
theorem dX3_layFlat_24 : decode cX3_layFlat 24 = .ok (.aload_n 0, 1) := by decide +kernel
theorem dX3_layFlat_25 : decode cX3_layFlat 25 = .ok (.iconst 1, 1) := by decide +kernel
theorem dX3_layFlat_26 : decode cX3_layFlat 26 = .ok (.invokevirtual 45, 3) := by decide +kernel
theorem dX3_layFlat_29 : decode cX3_layFlat 29 = .ok (.iload_n 2, 1) := by decide +kernel
theorem dX3_layFlat_30 : decode cX3_layFlat 30 = .ok (.iconst 1, 1) := by decide +kernel
theorem dX3_layFlat_31 : decode cX3_layFlat 31 = .ok (.iadd, 1) := by decide +kernel
theorem dX3_layFlat_32 : decode cX3_layFlat 32 = .ok (.istore 6, 2) := by decide +kernel
theorem dX3_layFlat_34 : decode cX3_layFlat 34 = .ok (.iload 6, 2) := by decide +kernel
theorem dX3_layFlat_36 : decode cX3_layFlat 36 = .ok (.aload_n 0, 1) := by decide +kernel
theorem dX3_layFlat_37 : decode cX3_layFlat 37 = .ok (.getfield 42, 3) := by decide +kernel
theorem dX3_layFlat_40 : decode cX3_layFlat 40 = .ok (.if_icmp .ge 49, 3) := by decide +kernel
theorem dX3_layFlat_43 : decode cX3_layFlat 43 = .ok (.aload_n 0, 1) := by decide +kernel
theorem dX3_layFlat_44 : decode cX3_layFlat 44 = .ok (.iload 6, 2) := by decide +kernel
theorem dX3_layFlat_46 : decode cX3_layFlat 46 = .ok (.iconst 1, 1) := by decide +kernel
theorem dX3_layFlat_47 : decode cX3_layFlat 47 = .ok (.isub, 1) := by decide +kernel
theorem dX3_layFlat_48 : decode cX3_layFlat 48 = .ok (.iload 5, 2) := by decide +kernel
theorem dX3_layFlat_50 : decode cX3_layFlat 50 = .ok (.aload_n 1, 1) := by decide +kernel
theorem dX3_layFlat_51 : decode cX3_layFlat 51 = .ok (.iload 6, 2) := by decide +kernel
theorem dX3_layFlat_53 : decode cX3_layFlat 53 = .ok (.iconst 1, 1) := by decide +kernel
theorem dX3_layFlat_54 : decode cX3_layFlat 54 = .ok (.isub, 1) := by decide +kernel
theorem dX3_layFlat_55 : decode cX3_layFlat 55 = .ok (.invokevirtual 49, 3) := by decide +kernel
theorem dX3_layFlat_58 : decode cX3_layFlat 58 = .ok (.iload 4, 2) := by decide +kernel
theorem dX3_layFlat_60 : decode cX3_layFlat 60 = .ok (.if_icmp .eq 7, 3) := by decide +kernel
theorem dX3_layFlat_63 : decode cX3_layFlat 63 = .ok (.iconst 1, 1) := by decide +kernel
theorem dX3_layFlat_64 : decode cX3_layFlat 64 = .ok (.goto 4, 3) := by decide +kernel
theorem dX3_layFlat_67 : decode cX3_layFlat 67 = .ok (.iconst 0, 1) := by decide +kernel
theorem dX3_layFlat_68 : decode cX3_layFlat 68 = .ok (.invokevirtual 53, 3) := by decide +kernel
theorem dX3_layFlat_71 : decode cX3_layFlat 71 = .ok (.aload_n 0, 1) := by decide +kernel
theorem dX3_layFlat_72 : decode cX3_layFlat 72 = .ok (.iload 6, 2) := by decide +kernel
theorem dX3_layFlat_74 : decode cX3_layFlat 74 = .ok (.aload_n 1, 1) := by decide +kernel
theorem dX3_layFlat_75 : decode cX3_layFlat 75 = .ok (.iload 6, 2) := by decide +kernel
theorem dX3_layFlat_77 : decode cX3_layFlat 77 = .ok (.invokevirtual 57, 3) := by decide +kernel
theorem dX3_layFlat_80 : decode cX3_layFlat 80 = .ok (.invokevirtual 61, 3) := by decide +kernel
theorem dX3_layFlat_83 : decode cX3_layFlat 83 = .ok (.iinc 6 1, 3) := by decide +kernel
theorem dX3_layFlat_86 : decode cX3_layFlat 86 = .ok (.goto (-52), 3) := by decide +kernel
theorem dX3_layFlat_89 : decode cX3_layFlat 89 = .ok (.aload_n 0, 1) := by decide +kernel
theorem dX3_layFlat_90 : decode cX3_layFlat 90 = .ok (.iconst (-1), 1) := by decide +kernel
theorem dX3_layFlat_91 : decode cX3_layFlat 91 = .ok (.invokevirtual 45, 3) := by decide +kernel
theorem dX3_layFlat_94 : decode cX3_layFlat 94 = .ok (.iload_n 2, 1) := by decide +kernel
theorem dX3_layFlat_95 : decode cX3_layFlat 95 = .ok (.istore 6, 2) := by decide +kernel
theorem dX3_layFlat_97 : decode cX3_layFlat 97 = .ok (.iload 6, 2) := by decide +kernel
theorem dX3_layFlat_99 : decode cX3_layFlat 99 = .ok (.ifCond .lt 45, 3) := by decide +kernel
theorem dX3_layFlat_102 : decode cX3_layFlat 102 = .ok (.aload_n 0, 1) := by decide +kernel
theorem dX3_layFlat_103 : decode cX3_layFlat 103 = .ok (.iload 6, 2) := by decide +kernel
theorem dX3_layFlat_105 : decode cX3_layFlat 105 = .ok (.iload 5, 2) := by decide +kernel
theorem dX3_layFlat_107 : decode cX3_layFlat 107 = .ok (.aload_n 1, 1) := by decide +kernel
theorem dX3_layFlat_108 : decode cX3_layFlat 108 = .ok (.iload 6, 2) := by decide +kernel
theorem dX3_layFlat_110 : decode cX3_layFlat 110 = .ok (.invokevirtual 49, 3) := by decide +kernel
theorem dX3_layFlat_113 : decode cX3_layFlat 113 = .ok (.iload 4, 2) := by decide +kernel
theorem dX3_layFlat_115 : decode cX3_layFlat 115 = .ok (.if_icmp .ne 7, 3) := by decide +kernel
theorem dX3_layFlat_118 : decode cX3_layFlat 118 = .ok (.iconst 1, 1) := by decide +kernel
theorem dX3_layFlat_119 : decode cX3_layFlat 119 = .ok (.goto 4, 3) := by decide +kernel
theorem dX3_layFlat_122 : decode cX3_layFlat 122 = .ok (.iconst 0, 1) := by decide +kernel
theorem dX3_layFlat_123 : decode cX3_layFlat 123 = .ok (.invokevirtual 53, 3) := by decide +kernel
theorem dX3_layFlat_126 : decode cX3_layFlat 126 = .ok (.aload_n 0, 1) := by decide +kernel
theorem dX3_layFlat_127 : decode cX3_layFlat 127 = .ok (.iload 6, 2) := by decide +kernel
theorem dX3_layFlat_129 : decode cX3_layFlat 129 = .ok (.aload_n 1, 1) := by decide +kernel
theorem dX3_layFlat_130 : decode cX3_layFlat 130 = .ok (.iload 6, 2) := by decide +kernel
theorem dX3_layFlat_132 : decode cX3_layFlat 132 = .ok (.invokevirtual 57, 3) := by decide +kernel
theorem dX3_layFlat_135 : decode cX3_layFlat 135 = .ok (.invokevirtual 61, 3) := by decide +kernel
theorem dX3_layFlat_138 : decode cX3_layFlat 138 = .ok (.iinc 6 (-1), 3) := by decide +kernel
theorem dX3_layFlat_141 : decode cX3_layFlat 141 = .ok (.goto (-44), 3) := by decide +kernel
theorem dX3_layFlat_144 : decode cX3_layFlat 144 = .ok (.return_, 1) := by decide +kernel
theorem dX3_startAtTool_0 : decode cX3_startAtTool 0 = .ok (.aload_n 0, 1) := by decide +kernel
theorem dX3_startAtTool_1 : decode cX3_startAtTool 1 = .ok (.iconst 0, 1) := by decide +kernel
theorem dX3_startAtTool_2 : decode cX3_startAtTool 2 = .ok (.putfield 65, 3) := by decide +kernel
theorem dX3_startAtTool_5 : decode cX3_startAtTool 5 = .ok (.aload_n 0, 1) := by decide +kernel
theorem dX3_startAtTool_6 : decode cX3_startAtTool 6 = .ok (.iconst 0, 1) := by decide +kernel
theorem dX3_startAtTool_7 : decode cX3_startAtTool 7 = .ok (.putfield 68, 3) := by decide +kernel
theorem dX3_startAtTool_10 : decode cX3_startAtTool 10 = .ok (.aload_n 0, 1) := by decide +kernel
theorem dX3_startAtTool_11 : decode cX3_startAtTool 11 = .ok (.iload_n 1, 1) := by decide +kernel
theorem dX3_startAtTool_12 : decode cX3_startAtTool 12 = .ok (.putfield 71, 3) := by decide +kernel
theorem dX3_startAtTool_15 : decode cX3_startAtTool 15 = .ok (.aload_n 0, 1) := by decide +kernel
theorem dX3_startAtTool_16 : decode cX3_startAtTool 16 = .ok (.iconst 0, 1) := by decide +kernel
theorem dX3_startAtTool_17 : decode cX3_startAtTool 17 = .ok (.putfield 74, 3) := by decide +kernel
theorem dX3_startAtTool_20 : decode cX3_startAtTool 20 = .ok (.return_, 1) := by decide +kernel
theorem dX3_turnAt_0 : decode cX3_turnAt 0 = .ok (.iload_n 2, 1) := by decide +kernel
theorem dX3_turnAt_1 : decode cX3_turnAt 1 = .ok (.iload_n 1, 1) := by decide +kernel
theorem dX3_turnAt_2 : decode cX3_turnAt 2 = .ok (.ishr, 1) := by decide +kernel
theorem dX3_turnAt_3 : decode cX3_turnAt 3 = .ok (.iconst 1, 1) := by decide +kernel
theorem dX3_turnAt_4 : decode cX3_turnAt 4 = .ok (.iand, 1) := by decide +kernel
theorem dX3_turnAt_5 : decode cX3_turnAt 5 = .ok (.ifCond .ne 4, 3) := by decide +kernel
theorem dX3_turnAt_8 : decode cX3_turnAt 8 = .ok (.return_, 1) := by decide +kernel
theorem dX3_turnAt_9 : decode cX3_turnAt 9 = .ok (.aload_n 0, 1) := by decide +kernel
theorem dX3_turnAt_10 : decode cX3_turnAt 10 = .ok (.getfield 71, 3) := by decide +kernel
theorem dX3_turnAt_13 : decode cX3_turnAt 13 = .ok (.istore 4, 2) := by decide +kernel
theorem dX3_turnAt_15 : decode cX3_turnAt 15 = .ok (.aload_n 0, 1) := by decide +kernel
theorem dX3_turnAt_16 : decode cX3_turnAt 16 = .ok (.iload_n 3, 1) := by decide +kernel
theorem dX3_turnAt_17 : decode cX3_turnAt 17 = .ok (.ifCond .eq 11, 3) := by decide +kernel
theorem dX3_turnAt_20 : decode cX3_turnAt 20 = .ok (.aload_n 0, 1) := by decide +kernel
theorem dX3_turnAt_21 : decode cX3_turnAt 21 = .ok (.getfield 74, 3) := by decide +kernel
theorem dX3_turnAt_24 : decode cX3_turnAt 24 = .ok (.ineg, 1) := by decide +kernel
theorem dX3_turnAt_25 : decode cX3_turnAt 25 = .ok (.goto 7, 3) := by decide +kernel
theorem dX3_turnAt_28 : decode cX3_turnAt 28 = .ok (.aload_n 0, 1) := by decide +kernel
theorem dX3_turnAt_29 : decode cX3_turnAt 29 = .ok (.getfield 74, 3) := by decide +kernel
theorem dX3_turnAt_32 : decode cX3_turnAt 32 = .ok (.putfield 71, 3) := by decide +kernel
theorem dX3_turnAt_35 : decode cX3_turnAt 35 = .ok (.aload_n 0, 1) := by decide +kernel
theorem dX3_turnAt_36 : decode cX3_turnAt 36 = .ok (.iload_n 3, 1) := by decide +kernel
theorem dX3_turnAt_37 : decode cX3_turnAt 37 = .ok (.ifCond .eq 8, 3) := by decide +kernel
theorem dX3_turnAt_40 : decode cX3_turnAt 40 = .ok (.iload 4, 2) := by decide +kernel
theorem dX3_turnAt_42 : decode cX3_turnAt 42 = .ok (.goto 6, 3) := by decide +kernel
theorem dX3_turnAt_45 : decode cX3_turnAt 45 = .ok (.iload 4, 2) := by decide +kernel
theorem dX3_turnAt_47 : decode cX3_turnAt 47 = .ok (.ineg, 1) := by decide +kernel
theorem dX3_turnAt_48 : decode cX3_turnAt 48 = .ok (.putfield 74, 3) := by decide +kernel
theorem dX3_turnAt_51 : decode cX3_turnAt 51 = .ok (.return_, 1) := by decide +kernel
theorem dX3_draw_0 : decode cX3_draw 0 = .ok (.iload_n 1, 1) := by decide +kernel
theorem dX3_draw_1 : decode cX3_draw 1 = .ok (.ifCond .lt 9, 3) := by decide +kernel
theorem dX3_draw_4 : decode cX3_draw 4 = .ok (.iload_n 1, 1) := by decide +kernel
theorem dX3_draw_5 : decode cX3_draw 5 = .ok (.bipush 8, 2) := by decide +kernel
theorem dX3_draw_7 : decode cX3_draw 7 = .ok (.if_icmp .lt 4, 3) := by decide +kernel
theorem dX3_draw_10 : decode cX3_draw 10 = .ok (.return_, 1) := by decide +kernel
theorem dX3_draw_11 : decode cX3_draw 11 = .ok (.aload_n 0, 1) := by decide +kernel
theorem dX3_draw_12 : decode cX3_draw 12 = .ok (.getfield 65, 3) := by decide +kernel
theorem dX3_draw_15 : decode cX3_draw 15 = .ok (.istore_n 3, 1) := by decide +kernel
theorem dX3_draw_16 : decode cX3_draw 16 = .ok (.aload_n 0, 1) := by decide +kernel
theorem dX3_draw_17 : decode cX3_draw 17 = .ok (.getfield 68, 3) := by decide +kernel
theorem dX3_draw_20 : decode cX3_draw 20 = .ok (.istore 4, 2) := by decide +kernel
theorem dX3_draw_22 : decode cX3_draw 22 = .ok (.aload_n 0, 1) := by decide +kernel
theorem dX3_draw_23 : decode cX3_draw 23 = .ok (.dup, 1) := by decide +kernel
theorem dX3_draw_24 : decode cX3_draw 24 = .ok (.getfield 65, 3) := by decide +kernel
theorem dX3_draw_27 : decode cX3_draw 27 = .ok (.aload_n 0, 1) := by decide +kernel
theorem dX3_draw_28 : decode cX3_draw 28 = .ok (.getfield 71, 3) := by decide +kernel
theorem dX3_draw_31 : decode cX3_draw 31 = .ok (.iload_n 2, 1) := by decide +kernel
theorem dX3_draw_32 : decode cX3_draw 32 = .ok (.imul, 1) := by decide +kernel
theorem dX3_draw_33 : decode cX3_draw 33 = .ok (.iadd, 1) := by decide +kernel
theorem dX3_draw_34 : decode cX3_draw 34 = .ok (.putfield 65, 3) := by decide +kernel
theorem dX3_draw_37 : decode cX3_draw 37 = .ok (.aload_n 0, 1) := by decide +kernel
theorem dX3_draw_38 : decode cX3_draw 38 = .ok (.dup, 1) := by decide +kernel
theorem dX3_draw_39 : decode cX3_draw 39 = .ok (.getfield 68, 3) := by decide +kernel
theorem dX3_draw_42 : decode cX3_draw 42 = .ok (.aload_n 0, 1) := by decide +kernel
theorem dX3_draw_43 : decode cX3_draw 43 = .ok (.getfield 74, 3) := by decide +kernel
theorem dX3_draw_46 : decode cX3_draw 46 = .ok (.iload_n 2, 1) := by decide +kernel
theorem dX3_draw_47 : decode cX3_draw 47 = .ok (.imul, 1) := by decide +kernel
theorem dX3_draw_48 : decode cX3_draw 48 = .ok (.iadd, 1) := by decide +kernel
theorem dX3_draw_49 : decode cX3_draw 49 = .ok (.putfield 68, 3) := by decide +kernel
theorem dX3_draw_52 : decode cX3_draw 52 = .ok (.aload_n 0, 1) := by decide +kernel
theorem dX3_draw_53 : decode cX3_draw 53 = .ok (.getfield 9, 3) := by decide +kernel
theorem dX3_draw_56 : decode cX3_draw 56 = .ok (.iload_n 1, 1) := by decide +kernel
theorem dX3_draw_57 : decode cX3_draw 57 = .ok (.aload_n 0, 1) := by decide +kernel
theorem dX3_draw_58 : decode cX3_draw 58 = .ok (.getfield 71, 3) := by decide +kernel
theorem dX3_draw_61 : decode cX3_draw 61 = .ok (.ifCond .ge 10, 3) := by decide +kernel
theorem dX3_draw_64 : decode cX3_draw 64 = .ok (.aload_n 0, 1) := by decide +kernel
theorem dX3_draw_65 : decode cX3_draw 65 = .ok (.getfield 65, 3) := by decide +kernel
theorem dX3_draw_68 : decode cX3_draw 68 = .ok (.goto 4, 3) := by decide +kernel
theorem dX3_draw_71 : decode cX3_draw 71 = .ok (.iload_n 3, 1) := by decide +kernel
theorem dX3_draw_72 : decode cX3_draw 72 = .ok (.iastore, 1) := by decide +kernel
theorem dX3_draw_73 : decode cX3_draw 73 = .ok (.aload_n 0, 1) := by decide +kernel
theorem dX3_draw_74 : decode cX3_draw 74 = .ok (.getfield 15, 3) := by decide +kernel
theorem dX3_draw_77 : decode cX3_draw 77 = .ok (.iload_n 1, 1) := by decide +kernel
theorem dX3_draw_78 : decode cX3_draw 78 = .ok (.aload_n 0, 1) := by decide +kernel
theorem dX3_draw_79 : decode cX3_draw 79 = .ok (.getfield 71, 3) := by decide +kernel
theorem dX3_draw_82 : decode cX3_draw 82 = .ok (.ifCond .ge 7, 3) := by decide +kernel
theorem dX3_draw_85 : decode cX3_draw 85 = .ok (.iload_n 3, 1) := by decide +kernel
theorem dX3_draw_86 : decode cX3_draw 86 = .ok (.goto 7, 3) := by decide +kernel
theorem dX3_draw_89 : decode cX3_draw 89 = .ok (.aload_n 0, 1) := by decide +kernel
theorem dX3_draw_90 : decode cX3_draw 90 = .ok (.getfield 65, 3) := by decide +kernel
theorem dX3_draw_93 : decode cX3_draw 93 = .ok (.iastore, 1) := by decide +kernel
theorem dX3_draw_94 : decode cX3_draw 94 = .ok (.aload_n 0, 1) := by decide +kernel
theorem dX3_draw_95 : decode cX3_draw 95 = .ok (.getfield 18, 3) := by decide +kernel
theorem dX3_draw_98 : decode cX3_draw 98 = .ok (.iload_n 1, 1) := by decide +kernel
theorem dX3_draw_99 : decode cX3_draw 99 = .ok (.aload_n 0, 1) := by decide +kernel
theorem dX3_draw_100 : decode cX3_draw 100 = .ok (.getfield 74, 3) := by decide +kernel
theorem dX3_draw_103 : decode cX3_draw 103 = .ok (.ifCond .ge 10, 3) := by decide +kernel
theorem dX3_draw_106 : decode cX3_draw 106 = .ok (.aload_n 0, 1) := by decide +kernel
theorem dX3_draw_107 : decode cX3_draw 107 = .ok (.getfield 68, 3) := by decide +kernel
theorem dX3_draw_110 : decode cX3_draw 110 = .ok (.goto 5, 3) := by decide +kernel
theorem dX3_draw_113 : decode cX3_draw 113 = .ok (.iload 4, 2) := by decide +kernel
theorem dX3_draw_115 : decode cX3_draw 115 = .ok (.iastore, 1) := by decide +kernel
theorem dX3_draw_116 : decode cX3_draw 116 = .ok (.aload_n 0, 1) := by decide +kernel
theorem dX3_draw_117 : decode cX3_draw 117 = .ok (.getfield 21, 3) := by decide +kernel
theorem dX3_draw_120 : decode cX3_draw 120 = .ok (.iload_n 1, 1) := by decide +kernel
theorem dX3_draw_121 : decode cX3_draw 121 = .ok (.aload_n 0, 1) := by decide +kernel
theorem dX3_draw_122 : decode cX3_draw 122 = .ok (.getfield 74, 3) := by decide +kernel
theorem dX3_draw_125 : decode cX3_draw 125 = .ok (.ifCond .ge 8, 3) := by decide +kernel
theorem dX3_draw_128 : decode cX3_draw 128 = .ok (.iload 4, 2) := by decide +kernel
theorem dX3_draw_130 : decode cX3_draw 130 = .ok (.goto 7, 3) := by decide +kernel
theorem dX3_draw_133 : decode cX3_draw 133 = .ok (.aload_n 0, 1) := by decide +kernel
theorem dX3_draw_134 : decode cX3_draw 134 = .ok (.getfield 68, 3) := by decide +kernel
theorem dX3_draw_137 : decode cX3_draw 137 = .ok (.iastore, 1) := by decide +kernel
theorem dX3_draw_138 : decode cX3_draw 138 = .ok (.aload_n 0, 1) := by decide +kernel
theorem dX3_draw_139 : decode cX3_draw 139 = .ok (.getfield 24, 3) := by decide +kernel
theorem dX3_draw_142 : decode cX3_draw 142 = .ok (.iload_n 1, 1) := by decide +kernel
theorem dX3_draw_143 : decode cX3_draw 143 = .ok (.aload_n 0, 1) := by decide +kernel
theorem dX3_draw_144 : decode cX3_draw 144 = .ok (.getfield 65, 3) := by decide +kernel
theorem dX3_draw_147 : decode cX3_draw 147 = .ok (.iastore, 1) := by decide +kernel
theorem dX3_draw_148 : decode cX3_draw 148 = .ok (.aload_n 0, 1) := by decide +kernel
theorem dX3_draw_149 : decode cX3_draw 149 = .ok (.getfield 27, 3) := by decide +kernel
theorem dX3_draw_152 : decode cX3_draw 152 = .ok (.iload_n 1, 1) := by decide +kernel
theorem dX3_draw_153 : decode cX3_draw 153 = .ok (.aload_n 0, 1) := by decide +kernel
theorem dX3_draw_154 : decode cX3_draw 154 = .ok (.getfield 68, 3) := by decide +kernel
theorem dX3_draw_157 : decode cX3_draw 157 = .ok (.iastore, 1) := by decide +kernel
theorem dX3_draw_158 : decode cX3_draw 158 = .ok (.return_, 1) := by decide +kernel
theorem dX3_swingUp_0 : decode cX3_swingUp 0 = .ok (.iconst 0, 1) := by decide +kernel
theorem dX3_swingUp_1 : decode cX3_swingUp 1 = .ok (.istore_n 2, 1) := by decide +kernel
theorem dX3_swingUp_2 : decode cX3_swingUp 2 = .ok (.iload_n 2, 1) := by decide +kernel
theorem dX3_swingUp_3 : decode cX3_swingUp 3 = .ok (.iload_n 1, 1) := by decide +kernel
theorem dX3_swingUp_4 : decode cX3_swingUp 4 = .ok (.if_icmp .gt 71, 3) := by decide +kernel
theorem dX3_swingUp_7 : decode cX3_swingUp 7 = .ok (.iload_n 2, 1) := by decide +kernel
theorem dX3_swingUp_8 : decode cX3_swingUp 8 = .ok (.bipush 8, 2) := by decide +kernel
theorem dX3_swingUp_10 : decode cX3_swingUp 10 = .ok (.if_icmp .ge 65, 3) := by decide +kernel
theorem dX3_swingUp_13 : decode cX3_swingUp 13 = .ok (.aload_n 0, 1) := by decide +kernel
theorem dX3_swingUp_14 : decode cX3_swingUp 14 = .ok (.getfield 9, 3) := by decide +kernel
theorem dX3_swingUp_17 : decode cX3_swingUp 17 = .ok (.iload_n 2, 1) := by decide +kernel
theorem dX3_swingUp_18 : decode cX3_swingUp 18 = .ok (.iaload, 1) := by decide +kernel
theorem dX3_swingUp_19 : decode cX3_swingUp 19 = .ok (.istore_n 3, 1) := by decide +kernel
theorem dX3_swingUp_20 : decode cX3_swingUp 20 = .ok (.aload_n 0, 1) := by decide +kernel
theorem dX3_swingUp_21 : decode cX3_swingUp 21 = .ok (.getfield 15, 3) := by decide +kernel
theorem dX3_swingUp_24 : decode cX3_swingUp 24 = .ok (.iload_n 2, 1) := by decide +kernel
theorem dX3_swingUp_25 : decode cX3_swingUp 25 = .ok (.iaload, 1) := by decide +kernel
theorem dX3_swingUp_26 : decode cX3_swingUp 26 = .ok (.istore 4, 2) := by decide +kernel
theorem dX3_swingUp_28 : decode cX3_swingUp 28 = .ok (.aload_n 0, 1) := by decide +kernel
theorem dX3_swingUp_29 : decode cX3_swingUp 29 = .ok (.getfield 9, 3) := by decide +kernel
theorem dX3_swingUp_32 : decode cX3_swingUp 32 = .ok (.iload_n 2, 1) := by decide +kernel
theorem dX3_swingUp_33 : decode cX3_swingUp 33 = .ok (.aload_n 0, 1) := by decide +kernel
theorem dX3_swingUp_34 : decode cX3_swingUp 34 = .ok (.getfield 18, 3) := by decide +kernel
theorem dX3_swingUp_37 : decode cX3_swingUp 37 = .ok (.iload_n 2, 1) := by decide +kernel
theorem dX3_swingUp_38 : decode cX3_swingUp 38 = .ok (.iaload, 1) := by decide +kernel
theorem dX3_swingUp_39 : decode cX3_swingUp 39 = .ok (.iastore, 1) := by decide +kernel
theorem dX3_swingUp_40 : decode cX3_swingUp 40 = .ok (.aload_n 0, 1) := by decide +kernel
theorem dX3_swingUp_41 : decode cX3_swingUp 41 = .ok (.getfield 15, 3) := by decide +kernel
theorem dX3_swingUp_44 : decode cX3_swingUp 44 = .ok (.iload_n 2, 1) := by decide +kernel
theorem dX3_swingUp_45 : decode cX3_swingUp 45 = .ok (.aload_n 0, 1) := by decide +kernel
theorem dX3_swingUp_46 : decode cX3_swingUp 46 = .ok (.getfield 21, 3) := by decide +kernel
theorem dX3_swingUp_49 : decode cX3_swingUp 49 = .ok (.iload_n 2, 1) := by decide +kernel
theorem dX3_swingUp_50 : decode cX3_swingUp 50 = .ok (.iaload, 1) := by decide +kernel
theorem dX3_swingUp_51 : decode cX3_swingUp 51 = .ok (.iastore, 1) := by decide +kernel
theorem dX3_swingUp_52 : decode cX3_swingUp 52 = .ok (.aload_n 0, 1) := by decide +kernel
theorem dX3_swingUp_53 : decode cX3_swingUp 53 = .ok (.getfield 18, 3) := by decide +kernel
theorem dX3_swingUp_56 : decode cX3_swingUp 56 = .ok (.iload_n 2, 1) := by decide +kernel
theorem dX3_swingUp_57 : decode cX3_swingUp 57 = .ok (.iload 4, 2) := by decide +kernel
theorem dX3_swingUp_59 : decode cX3_swingUp 59 = .ok (.ineg, 1) := by decide +kernel
theorem dX3_swingUp_60 : decode cX3_swingUp 60 = .ok (.iastore, 1) := by decide +kernel
theorem dX3_swingUp_61 : decode cX3_swingUp 61 = .ok (.aload_n 0, 1) := by decide +kernel
theorem dX3_swingUp_62 : decode cX3_swingUp 62 = .ok (.getfield 21, 3) := by decide +kernel
theorem dX3_swingUp_65 : decode cX3_swingUp 65 = .ok (.iload_n 2, 1) := by decide +kernel
theorem dX3_swingUp_66 : decode cX3_swingUp 66 = .ok (.iload_n 3, 1) := by decide +kernel
theorem dX3_swingUp_67 : decode cX3_swingUp 67 = .ok (.ineg, 1) := by decide +kernel
theorem dX3_swingUp_68 : decode cX3_swingUp 68 = .ok (.iastore, 1) := by decide +kernel
theorem dX3_swingUp_69 : decode cX3_swingUp 69 = .ok (.iinc 2 1, 3) := by decide +kernel
theorem dX3_swingUp_72 : decode cX3_swingUp 72 = .ok (.goto (-70), 3) := by decide +kernel
theorem dX3_swingUp_75 : decode cX3_swingUp 75 = .ok (.return_, 1) := by decide +kernel
theorem dX3_farEndX_0 : decode cX3_farEndX 0 = .ok (.iload_n 1, 1) := by decide +kernel
theorem dX3_farEndX_1 : decode cX3_farEndX 1 = .ok (.ifCond .lt 18, 3) := by decide +kernel
theorem dX3_farEndX_4 : decode cX3_farEndX 4 = .ok (.iload_n 1, 1) := by decide +kernel
theorem dX3_farEndX_5 : decode cX3_farEndX 5 = .ok (.bipush 8, 2) := by decide +kernel
theorem dX3_farEndX_7 : decode cX3_farEndX 7 = .ok (.if_icmp .ge 12, 3) := by decide +kernel
theorem dX3_farEndX_10 : decode cX3_farEndX 10 = .ok (.aload_n 0, 1) := by decide +kernel
theorem dX3_farEndX_11 : decode cX3_farEndX 11 = .ok (.getfield 24, 3) := by decide +kernel
theorem dX3_farEndX_14 : decode cX3_farEndX 14 = .ok (.iload_n 1, 1) := by decide +kernel
theorem dX3_farEndX_15 : decode cX3_farEndX 15 = .ok (.iaload, 1) := by decide +kernel
theorem dX3_farEndX_16 : decode cX3_farEndX 16 = .ok (.goto 4, 3) := by decide +kernel
theorem dX3_farEndX_19 : decode cX3_farEndX 19 = .ok (.iconst 0, 1) := by decide +kernel
theorem dX3_farEndX_20 : decode cX3_farEndX 20 = .ok (.ireturn, 1) := by decide +kernel
theorem dX3_farEndY_0 : decode cX3_farEndY 0 = .ok (.iload_n 1, 1) := by decide +kernel
theorem dX3_farEndY_1 : decode cX3_farEndY 1 = .ok (.ifCond .lt 18, 3) := by decide +kernel
theorem dX3_farEndY_4 : decode cX3_farEndY 4 = .ok (.iload_n 1, 1) := by decide +kernel
theorem dX3_farEndY_5 : decode cX3_farEndY 5 = .ok (.bipush 8, 2) := by decide +kernel
theorem dX3_farEndY_7 : decode cX3_farEndY 7 = .ok (.if_icmp .ge 12, 3) := by decide +kernel
theorem dX3_farEndY_10 : decode cX3_farEndY 10 = .ok (.aload_n 0, 1) := by decide +kernel
theorem dX3_farEndY_11 : decode cX3_farEndY 11 = .ok (.getfield 27, 3) := by decide +kernel
theorem dX3_farEndY_14 : decode cX3_farEndY 14 = .ok (.iload_n 1, 1) := by decide +kernel
theorem dX3_farEndY_15 : decode cX3_farEndY 15 = .ok (.iaload, 1) := by decide +kernel
theorem dX3_farEndY_16 : decode cX3_farEndY 16 = .ok (.goto 4, 3) := by decide +kernel
theorem dX3_farEndY_19 : decode cX3_farEndY 19 = .ok (.iconst 0, 1) := by decide +kernel
theorem dX3_farEndY_20 : decode cX3_farEndY 20 = .ok (.ireturn, 1) := by decide +kernel
theorem dX3_flangesIn_0 : decode cX3_flangesIn 0 = .ok (.iconst 0, 1) := by decide +kernel
theorem dX3_flangesIn_1 : decode cX3_flangesIn 1 = .ok (.istore 5, 2) := by decide +kernel
theorem dX3_flangesIn_3 : decode cX3_flangesIn 3 = .ok (.iconst 0, 1) := by decide +kernel
theorem dX3_flangesIn_4 : decode cX3_flangesIn 4 = .ok (.istore 6, 2) := by decide +kernel
theorem dX3_flangesIn_6 : decode cX3_flangesIn 6 = .ok (.iload 6, 2) := by decide +kernel
theorem dX3_flangesIn_8 : decode cX3_flangesIn 8 = .ok (.aload_n 0, 1) := by decide +kernel
theorem dX3_flangesIn_9 : decode cX3_flangesIn 9 = .ok (.getfield 42, 3) := by decide +kernel
theorem dX3_flangesIn_12 : decode cX3_flangesIn 12 = .ok (.if_icmp .ge 112, 3) := by decide +kernel
theorem dX3_flangesIn_15 : decode cX3_flangesIn 15 = .ok (.iload 6, 2) := by decide +kernel
theorem dX3_flangesIn_17 : decode cX3_flangesIn 17 = .ok (.bipush 8, 2) := by decide +kernel
theorem dX3_flangesIn_19 : decode cX3_flangesIn 19 = .ok (.if_icmp .ge 105, 3) := by decide +kernel
theorem dX3_flangesIn_22 : decode cX3_flangesIn 22 = .ok (.aload_n 0, 1) := by decide +kernel
theorem dX3_flangesIn_23 : decode cX3_flangesIn 23 = .ok (.getfield 15, 3) := by decide +kernel
theorem dX3_flangesIn_26 : decode cX3_flangesIn 26 = .ok (.iload 6, 2) := by decide +kernel
theorem dX3_flangesIn_28 : decode cX3_flangesIn 28 = .ok (.iaload, 1) := by decide +kernel
theorem dX3_flangesIn_29 : decode cX3_flangesIn 29 = .ok (.iload_n 1, 1) := by decide +kernel
theorem dX3_flangesIn_30 : decode cX3_flangesIn 30 = .ok (.if_icmp .lt 14, 3) := by decide +kernel
theorem dX3_flangesIn_33 : decode cX3_flangesIn 33 = .ok (.aload_n 0, 1) := by decide +kernel
theorem dX3_flangesIn_34 : decode cX3_flangesIn 34 = .ok (.getfield 9, 3) := by decide +kernel
theorem dX3_flangesIn_37 : decode cX3_flangesIn 37 = .ok (.iload 6, 2) := by decide +kernel
theorem dX3_flangesIn_39 : decode cX3_flangesIn 39 = .ok (.iaload, 1) := by decide +kernel
theorem dX3_flangesIn_40 : decode cX3_flangesIn 40 = .ok (.iload_n 2, 1) := by decide +kernel
theorem dX3_flangesIn_41 : decode cX3_flangesIn 41 = .ok (.if_icmp .le 7, 3) := by decide +kernel
theorem dX3_flangesIn_44 : decode cX3_flangesIn 44 = .ok (.iconst 1, 1) := by decide +kernel
theorem dX3_flangesIn_45 : decode cX3_flangesIn 45 = .ok (.goto 4, 3) := by decide +kernel
theorem dX3_flangesIn_48 : decode cX3_flangesIn 48 = .ok (.iconst 0, 1) := by decide +kernel
theorem dX3_flangesIn_49 : decode cX3_flangesIn 49 = .ok (.istore 7, 2) := by decide +kernel
theorem dX3_flangesIn_51 : decode cX3_flangesIn 51 = .ok (.aload_n 0, 1) := by decide +kernel
theorem dX3_flangesIn_52 : decode cX3_flangesIn 52 = .ok (.getfield 18, 3) := by decide +kernel
theorem dX3_flangesIn_55 : decode cX3_flangesIn 55 = .ok (.iload 6, 2) := by decide +kernel
theorem dX3_flangesIn_57 : decode cX3_flangesIn 57 = .ok (.iaload, 1) := by decide +kernel
theorem dX3_flangesIn_58 : decode cX3_flangesIn 58 = .ok (.iload 4, 2) := by decide +kernel
theorem dX3_flangesIn_60 : decode cX3_flangesIn 60 = .ok (.if_icmp .le 7, 3) := by decide +kernel
theorem dX3_flangesIn_63 : decode cX3_flangesIn 63 = .ok (.iconst 1, 1) := by decide +kernel
theorem dX3_flangesIn_64 : decode cX3_flangesIn 64 = .ok (.goto 4, 3) := by decide +kernel
theorem dX3_flangesIn_67 : decode cX3_flangesIn 67 = .ok (.iconst 0, 1) := by decide +kernel
theorem dX3_flangesIn_68 : decode cX3_flangesIn 68 = .ok (.istore 8, 2) := by decide +kernel
theorem dX3_flangesIn_70 : decode cX3_flangesIn 70 = .ok (.aload_n 0, 1) := by decide +kernel
theorem dX3_flangesIn_71 : decode cX3_flangesIn 71 = .ok (.getfield 21, 3) := by decide +kernel
theorem dX3_flangesIn_74 : decode cX3_flangesIn 74 = .ok (.iload 6, 2) := by decide +kernel
theorem dX3_flangesIn_76 : decode cX3_flangesIn 76 = .ok (.iaload, 1) := by decide +kernel
theorem dX3_flangesIn_77 : decode cX3_flangesIn 77 = .ok (.iload_n 3, 1) := by decide +kernel
theorem dX3_flangesIn_78 : decode cX3_flangesIn 78 = .ok (.if_icmp .ge 7, 3) := by decide +kernel
theorem dX3_flangesIn_81 : decode cX3_flangesIn 81 = .ok (.iconst 1, 1) := by decide +kernel
theorem dX3_flangesIn_82 : decode cX3_flangesIn 82 = .ok (.goto 4, 3) := by decide +kernel
theorem dX3_flangesIn_85 : decode cX3_flangesIn 85 = .ok (.iconst 0, 1) := by decide +kernel
theorem dX3_flangesIn_86 : decode cX3_flangesIn 86 = .ok (.istore 9, 2) := by decide +kernel
theorem dX3_flangesIn_88 : decode cX3_flangesIn 88 = .ok (.iload 7, 2) := by decide +kernel
theorem dX3_flangesIn_90 : decode cX3_flangesIn 90 = .ok (.ifCond .ne 28, 3) := by decide +kernel
theorem dX3_flangesIn_93 : decode cX3_flangesIn 93 = .ok (.iload 8, 2) := by decide +kernel
theorem dX3_flangesIn_95 : decode cX3_flangesIn 95 = .ok (.ifCond .ne 23, 3) := by decide +kernel
theorem dX3_flangesIn_98 : decode cX3_flangesIn 98 = .ok (.iload 9, 2) := by decide +kernel
theorem dX3_flangesIn_100 : decode cX3_flangesIn 100 = .ok (.ifCond .ne 18, 3) := by decide +kernel
theorem dX3_flangesIn_103 : decode cX3_flangesIn 103 = .ok (.iload_n 3, 1) := by decide +kernel
theorem dX3_flangesIn_104 : decode cX3_flangesIn 104 = .ok (.iload 4, 2) := by decide +kernel
theorem dX3_flangesIn_106 : decode cX3_flangesIn 106 = .ok (.if_icmp .gt 12, 3) := by decide +kernel
theorem dX3_flangesIn_109 : decode cX3_flangesIn 109 = .ok (.iload 5, 2) := by decide +kernel
theorem dX3_flangesIn_111 : decode cX3_flangesIn 111 = .ok (.iconst 1, 1) := by decide +kernel
theorem dX3_flangesIn_112 : decode cX3_flangesIn 112 = .ok (.iload 6, 2) := by decide +kernel
theorem dX3_flangesIn_114 : decode cX3_flangesIn 114 = .ok (.ishl, 1) := by decide +kernel
theorem dX3_flangesIn_115 : decode cX3_flangesIn 115 = .ok (.ior, 1) := by decide +kernel
theorem dX3_flangesIn_116 : decode cX3_flangesIn 116 = .ok (.istore 5, 2) := by decide +kernel
theorem dX3_flangesIn_118 : decode cX3_flangesIn 118 = .ok (.iinc 6 1, 3) := by decide +kernel
theorem dX3_flangesIn_121 : decode cX3_flangesIn 121 = .ok (.goto (-115), 3) := by decide +kernel
theorem dX3_flangesIn_124 : decode cX3_flangesIn 124 = .ok (.iload 5, 2) := by decide +kernel
theorem dX3_flangesIn_126 : decode cX3_flangesIn 126 = .ok (.ireturn, 1) := by decide +kernel
set_option maxRecDepth 20000 in
theorem ggX3_strikesItself_X3_flangesIn : GoodIn wsX3_strikesItself wsX3_flangesIn := goodIn_r _ [10, 1, 3, 2, 4, 5, 11, 12, 13, 14, 15, 16, 17, 18, 19, 20, 21] (by decide +kernel) (by decide +kernel)
set_option maxRecDepth 20000 in
theorem gX3_strikesItself_X3_flangesIn : GoodIn wsX3_strikesItself (wsV RX3 77 RX3 yX3_flangesIn wsX3_flangesIn) := goodIn_app (goodIn_of _ (by decide +kernel)) ggX3_strikesItself_X3_flangesIn
theorem dX3_strikesItself_0 : decode cX3_strikesItself 0 = .ok (.iconst 0, 1) := by decide +kernel
theorem dX3_strikesItself_1 : decode cX3_strikesItself 1 = .ok (.istore_n 1, 1) := by decide +kernel
theorem dX3_strikesItself_2 : decode cX3_strikesItself 2 = .ok (.iload_n 1, 1) := by decide +kernel
theorem dX3_strikesItself_3 : decode cX3_strikesItself 3 = .ok (.aload_n 0, 1) := by decide +kernel
theorem dX3_strikesItself_4 : decode cX3_strikesItself 4 = .ok (.getfield 42, 3) := by decide +kernel
theorem dX3_strikesItself_7 : decode cX3_strikesItself 7 = .ok (.if_icmp .ge 54, 3) := by decide +kernel
theorem dX3_strikesItself_10 : decode cX3_strikesItself 10 = .ok (.iload_n 1, 1) := by decide +kernel
theorem dX3_strikesItself_11 : decode cX3_strikesItself 11 = .ok (.bipush 8, 2) := by decide +kernel
theorem dX3_strikesItself_13 : decode cX3_strikesItself 13 = .ok (.if_icmp .ge 48, 3) := by decide +kernel
theorem dX3_strikesItself_16 : decode cX3_strikesItself 16 = .ok (.aload_n 0, 1) := by decide +kernel
theorem dX3_strikesItself_17 : decode cX3_strikesItself 17 = .ok (.aload_n 0, 1) := by decide +kernel
theorem dX3_strikesItself_18 : decode cX3_strikesItself 18 = .ok (.getfield 9, 3) := by decide +kernel
theorem dX3_strikesItself_21 : decode cX3_strikesItself 21 = .ok (.iload_n 1, 1) := by decide +kernel
theorem dX3_strikesItself_22 : decode cX3_strikesItself 22 = .ok (.iaload, 1) := by decide +kernel
theorem dX3_strikesItself_23 : decode cX3_strikesItself 23 = .ok (.aload_n 0, 1) := by decide +kernel
theorem dX3_strikesItself_24 : decode cX3_strikesItself 24 = .ok (.getfield 15, 3) := by decide +kernel
theorem dX3_strikesItself_27 : decode cX3_strikesItself 27 = .ok (.iload_n 1, 1) := by decide +kernel
theorem dX3_strikesItself_28 : decode cX3_strikesItself 28 = .ok (.iaload, 1) := by decide +kernel
theorem dX3_strikesItself_29 : decode cX3_strikesItself 29 = .ok (.aload_n 0, 1) := by decide +kernel
theorem dX3_strikesItself_30 : decode cX3_strikesItself 30 = .ok (.getfield 18, 3) := by decide +kernel
theorem dX3_strikesItself_33 : decode cX3_strikesItself 33 = .ok (.iload_n 1, 1) := by decide +kernel
theorem dX3_strikesItself_34 : decode cX3_strikesItself 34 = .ok (.iaload, 1) := by decide +kernel
theorem dX3_strikesItself_35 : decode cX3_strikesItself 35 = .ok (.aload_n 0, 1) := by decide +kernel
theorem dX3_strikesItself_36 : decode cX3_strikesItself 36 = .ok (.getfield 21, 3) := by decide +kernel
theorem dX3_strikesItself_39 : decode cX3_strikesItself 39 = .ok (.iload_n 1, 1) := by decide +kernel
theorem dX3_strikesItself_40 : decode cX3_strikesItself 40 = .ok (.iaload, 1) := by decide +kernel
theorem dX3_strikesItself_41 : decode cX3_strikesItself 41 = .ok (.invokevirtual 77, 3) := by decide +kernel
theorem dX3_strikesItself_44 : decode cX3_strikesItself 44 = .ok (.istore_n 2, 1) := by decide +kernel
theorem dX3_strikesItself_45 : decode cX3_strikesItself 45 = .ok (.iload_n 2, 1) := by decide +kernel
theorem dX3_strikesItself_46 : decode cX3_strikesItself 46 = .ok (.iload_n 1, 1) := by decide +kernel
theorem dX3_strikesItself_47 : decode cX3_strikesItself 47 = .ok (.iconst 2, 1) := by decide +kernel
theorem dX3_strikesItself_48 : decode cX3_strikesItself 48 = .ok (.iadd, 1) := by decide +kernel
theorem dX3_strikesItself_49 : decode cX3_strikesItself 49 = .ok (.ishr, 1) := by decide +kernel
theorem dX3_strikesItself_50 : decode cX3_strikesItself 50 = .ok (.ifCond .eq 5, 3) := by decide +kernel
theorem dX3_strikesItself_53 : decode cX3_strikesItself 53 = .ok (.iconst 1, 1) := by decide +kernel
theorem dX3_strikesItself_54 : decode cX3_strikesItself 54 = .ok (.ireturn, 1) := by decide +kernel
theorem dX3_strikesItself_55 : decode cX3_strikesItself 55 = .ok (.iinc 1 1, 3) := by decide +kernel
theorem dX3_strikesItself_58 : decode cX3_strikesItself 58 = .ok (.goto (-56), 3) := by decide +kernel
theorem dX3_strikesItself_61 : decode cX3_strikesItself 61 = .ok (.iconst 0, 1) := by decide +kernel
theorem dX3_strikesItself_62 : decode cX3_strikesItself 62 = .ok (.ireturn, 1) := by decide +kernel
theorem dX4_init_0 : decode cX4_init 0 = .ok (.aload_n 0, 1) := by decide +kernel
theorem dX4_init_1 : decode cX4_init 1 = .ok (.invokespecial 3, 3) := by decide +kernel
theorem dX4_init_4 : decode cX4_init 4 = .ok (.aload_n 0, 1) := by decide +kernel
theorem dX4_init_5 : decode cX4_init 5 = .ok (.iconst 1, 1) := by decide +kernel
theorem dX4_init_6 : decode cX4_init 6 = .ok (.putfield 9, 3) := by decide +kernel
theorem dX4_init_9 : decode cX4_init 9 = .ok (.aload_n 0, 1) := by decide +kernel
theorem dX4_init_10 : decode cX4_init 10 = .ok (.iconst 1, 1) := by decide +kernel
theorem dX4_init_11 : decode cX4_init 11 = .ok (.putfield 15, 3) := by decide +kernel
theorem dX4_init_14 : decode cX4_init 14 = .ok (.aload_n 0, 1) := by decide +kernel
theorem dX4_init_15 : decode cX4_init 15 = .ok (.iconst 0, 1) := by decide +kernel
theorem dX4_init_16 : decode cX4_init 16 = .ok (.putfield 18, 3) := by decide +kernel
theorem dX4_init_19 : decode cX4_init 19 = .ok (.aload_n 0, 1) := by decide +kernel
theorem dX4_init_20 : decode cX4_init 20 = .ok (.iconst 0, 1) := by decide +kernel
theorem dX4_init_21 : decode cX4_init 21 = .ok (.putfield 21, 3) := by decide +kernel
theorem dX4_init_24 : decode cX4_init 24 = .ok (.aload_n 0, 1) := by decide +kernel
theorem dX4_init_25 : decode cX4_init 25 = .ok (.iconst 0, 1) := by decide +kernel
theorem dX4_init_26 : decode cX4_init 26 = .ok (.putfield 25, 3) := by decide +kernel
theorem dX4_init_29 : decode cX4_init 29 = .ok (.aload_n 0, 1) := by decide +kernel
theorem dX4_init_30 : decode cX4_init 30 = .ok (.bipush 8, 2) := by decide +kernel
theorem dX4_init_32 : decode cX4_init 32 = .ok (.newarray .int, 2) := by decide +kernel
theorem dX4_init_34 : decode cX4_init 34 = .ok (.dup, 1) := by decide +kernel
theorem dX4_init_35 : decode cX4_init 35 = .ok (.iconst 0, 1) := by decide +kernel
theorem dX4_init_36 : decode cX4_init 36 = .ok (.iconst 5, 1) := by decide +kernel
theorem dX4_init_37 : decode cX4_init 37 = .ok (.iastore, 1) := by decide +kernel
theorem dX4_init_38 : decode cX4_init 38 = .ok (.dup, 1) := by decide +kernel
theorem dX4_init_39 : decode cX4_init 39 = .ok (.iconst 1, 1) := by decide +kernel
theorem dX4_init_40 : decode cX4_init 40 = .ok (.iconst 5, 1) := by decide +kernel
theorem dX4_init_41 : decode cX4_init 41 = .ok (.iastore, 1) := by decide +kernel
theorem dX4_init_42 : decode cX4_init 42 = .ok (.dup, 1) := by decide +kernel
theorem dX4_init_43 : decode cX4_init 43 = .ok (.iconst 2, 1) := by decide +kernel
theorem dX4_init_44 : decode cX4_init 44 = .ok (.iconst 0, 1) := by decide +kernel
theorem dX4_init_45 : decode cX4_init 45 = .ok (.iastore, 1) := by decide +kernel
theorem dX4_init_46 : decode cX4_init 46 = .ok (.dup, 1) := by decide +kernel
theorem dX4_init_47 : decode cX4_init 47 = .ok (.iconst 3, 1) := by decide +kernel
theorem dX4_init_48 : decode cX4_init 48 = .ok (.iconst 0, 1) := by decide +kernel
theorem dX4_init_49 : decode cX4_init 49 = .ok (.iastore, 1) := by decide +kernel
theorem dX4_init_50 : decode cX4_init 50 = .ok (.dup, 1) := by decide +kernel
theorem dX4_init_51 : decode cX4_init 51 = .ok (.iconst 4, 1) := by decide +kernel
theorem dX4_init_52 : decode cX4_init 52 = .ok (.iconst 0, 1) := by decide +kernel
theorem dX4_init_53 : decode cX4_init 53 = .ok (.iastore, 1) := by decide +kernel
theorem dX4_init_54 : decode cX4_init 54 = .ok (.dup, 1) := by decide +kernel
theorem dX4_init_55 : decode cX4_init 55 = .ok (.iconst 5, 1) := by decide +kernel
theorem dX4_init_56 : decode cX4_init 56 = .ok (.iconst 0, 1) := by decide +kernel
theorem dX4_init_57 : decode cX4_init 57 = .ok (.iastore, 1) := by decide +kernel
theorem dX4_init_58 : decode cX4_init 58 = .ok (.dup, 1) := by decide +kernel
theorem dX4_init_59 : decode cX4_init 59 = .ok (.bipush 6, 2) := by decide +kernel
theorem dX4_init_61 : decode cX4_init 61 = .ok (.iconst 0, 1) := by decide +kernel
theorem dX4_init_62 : decode cX4_init 62 = .ok (.iastore, 1) := by decide +kernel
theorem dX4_init_63 : decode cX4_init 63 = .ok (.dup, 1) := by decide +kernel
theorem dX4_init_64 : decode cX4_init 64 = .ok (.bipush 7, 2) := by decide +kernel
theorem dX4_init_66 : decode cX4_init 66 = .ok (.iconst 0, 1) := by decide +kernel
theorem dX4_init_67 : decode cX4_init 67 = .ok (.iastore, 1) := by decide +kernel
theorem dX4_init_68 : decode cX4_init 68 = .ok (.putfield 28, 3) := by decide +kernel
theorem dX4_init_71 : decode cX4_init 71 = .ok (.aload_n 0, 1) := by decide +kernel
theorem dX4_init_72 : decode cX4_init 72 = .ok (.getstatic 32, 3) := by decide +kernel
theorem dX4_init_75 : decode cX4_init 75 = .ok (.arraylength, 1) := by decide +kernel
theorem dX4_init_76 : decode cX4_init 76 = .ok (.newarray .int, 2) := by decide +kernel
theorem dX4_init_78 : decode cX4_init 78 = .ok (.putfield 35, 3) := by decide +kernel
theorem dX4_init_81 : decode cX4_init 81 = .ok (.getstatic 32, 3) := by decide +kernel
theorem dX4_init_84 : decode cX4_init 84 = .ok (.iconst 0, 1) := by decide +kernel
theorem dX4_init_85 : decode cX4_init 85 = .ok (.aload_n 0, 1) := by decide +kernel
theorem dX4_init_86 : decode cX4_init 86 = .ok (.getfield 35, 3) := by decide +kernel
theorem dX4_init_89 : decode cX4_init 89 = .ok (.iconst 0, 1) := by decide +kernel
theorem dX4_init_90 : decode cX4_init 90 = .ok (.aload_n 0, 1) := by decide +kernel
theorem dX4_init_91 : decode cX4_init 91 = .ok (.getfield 35, 3) := by decide +kernel
theorem dX4_init_94 : decode cX4_init 94 = .ok (.arraylength, 1) := by decide +kernel
theorem dX4_init_95 : decode cX4_init 95 = .ok (.invokestatic 38, 3) := by decide +kernel
theorem dX4_init_98 : decode cX4_init 98 = .ok (.return_, 1) := by decide +kernel
theorem dX4_copyFrom_0 : decode cX4_copyFrom 0 = .ok (.aload_n 0, 1) := by decide +kernel
theorem dX4_copyFrom_1 : decode cX4_copyFrom 1 = .ok (.aload_n 1, 1) := by decide +kernel
theorem dX4_copyFrom_2 : decode cX4_copyFrom 2 = .ok (.getfield 9, 3) := by decide +kernel
theorem dX4_copyFrom_5 : decode cX4_copyFrom 5 = .ok (.putfield 9, 3) := by decide +kernel
theorem dX4_copyFrom_8 : decode cX4_copyFrom 8 = .ok (.aload_n 0, 1) := by decide +kernel
theorem dX4_copyFrom_9 : decode cX4_copyFrom 9 = .ok (.aload_n 1, 1) := by decide +kernel
theorem dX4_copyFrom_10 : decode cX4_copyFrom 10 = .ok (.getfield 15, 3) := by decide +kernel
theorem dX4_copyFrom_13 : decode cX4_copyFrom 13 = .ok (.putfield 15, 3) := by decide +kernel
theorem dX4_copyFrom_16 : decode cX4_copyFrom 16 = .ok (.aload_n 0, 1) := by decide +kernel
theorem dX4_copyFrom_17 : decode cX4_copyFrom 17 = .ok (.aload_n 1, 1) := by decide +kernel
theorem dX4_copyFrom_18 : decode cX4_copyFrom 18 = .ok (.getfield 18, 3) := by decide +kernel
theorem dX4_copyFrom_21 : decode cX4_copyFrom 21 = .ok (.putfield 18, 3) := by decide +kernel
theorem dX4_copyFrom_24 : decode cX4_copyFrom 24 = .ok (.aload_n 0, 1) := by decide +kernel
theorem dX4_copyFrom_25 : decode cX4_copyFrom 25 = .ok (.aload_n 1, 1) := by decide +kernel
theorem dX4_copyFrom_26 : decode cX4_copyFrom 26 = .ok (.getfield 21, 3) := by decide +kernel
theorem dX4_copyFrom_29 : decode cX4_copyFrom 29 = .ok (.putfield 21, 3) := by decide +kernel
theorem dX4_copyFrom_32 : decode cX4_copyFrom 32 = .ok (.aload_n 0, 1) := by decide +kernel
theorem dX4_copyFrom_33 : decode cX4_copyFrom 33 = .ok (.aload_n 1, 1) := by decide +kernel
theorem dX4_copyFrom_34 : decode cX4_copyFrom 34 = .ok (.getfield 25, 3) := by decide +kernel
theorem dX4_copyFrom_37 : decode cX4_copyFrom 37 = .ok (.putfield 25, 3) := by decide +kernel
theorem dX4_copyFrom_40 : decode cX4_copyFrom 40 = .ok (.aload_n 1, 1) := by decide +kernel
theorem dX4_copyFrom_41 : decode cX4_copyFrom 41 = .ok (.getfield 28, 3) := by decide +kernel
theorem dX4_copyFrom_44 : decode cX4_copyFrom 44 = .ok (.iconst 0, 1) := by decide +kernel
theorem dX4_copyFrom_45 : decode cX4_copyFrom 45 = .ok (.aload_n 0, 1) := by decide +kernel
theorem dX4_copyFrom_46 : decode cX4_copyFrom 46 = .ok (.getfield 28, 3) := by decide +kernel
theorem dX4_copyFrom_49 : decode cX4_copyFrom 49 = .ok (.iconst 0, 1) := by decide +kernel
theorem dX4_copyFrom_50 : decode cX4_copyFrom 50 = .ok (.aload_n 0, 1) := by decide +kernel
theorem dX4_copyFrom_51 : decode cX4_copyFrom 51 = .ok (.getfield 28, 3) := by decide +kernel
theorem dX4_copyFrom_54 : decode cX4_copyFrom 54 = .ok (.arraylength, 1) := by decide +kernel
theorem dX4_copyFrom_55 : decode cX4_copyFrom 55 = .ok (.invokestatic 38, 3) := by decide +kernel
theorem dX4_copyFrom_58 : decode cX4_copyFrom 58 = .ok (.aload_n 1, 1) := by decide +kernel
theorem dX4_copyFrom_59 : decode cX4_copyFrom 59 = .ok (.getfield 35, 3) := by decide +kernel
theorem dX4_copyFrom_62 : decode cX4_copyFrom 62 = .ok (.iconst 0, 1) := by decide +kernel
theorem dX4_copyFrom_63 : decode cX4_copyFrom 63 = .ok (.aload_n 0, 1) := by decide +kernel
theorem dX4_copyFrom_64 : decode cX4_copyFrom 64 = .ok (.getfield 35, 3) := by decide +kernel
theorem dX4_copyFrom_67 : decode cX4_copyFrom 67 = .ok (.iconst 0, 1) := by decide +kernel
theorem dX4_copyFrom_68 : decode cX4_copyFrom 68 = .ok (.aload_n 0, 1) := by decide +kernel
theorem dX4_copyFrom_69 : decode cX4_copyFrom 69 = .ok (.getfield 35, 3) := by decide +kernel
theorem dX4_copyFrom_72 : decode cX4_copyFrom 72 = .ok (.arraylength, 1) := by decide +kernel
theorem dX4_copyFrom_73 : decode cX4_copyFrom 73 = .ok (.invokestatic 38, 3) := by decide +kernel
theorem dX4_copyFrom_76 : decode cX4_copyFrom 76 = .ok (.return_, 1) := by decide +kernel
theorem dX4_beginStrip_0 : decode cX4_beginStrip 0 = .ok (.aload_n 0, 1) := by decide +kernel
theorem dX4_beginStrip_1 : decode cX4_beginStrip 1 = .ok (.iconst 1, 1) := by decide +kernel
theorem dX4_beginStrip_2 : decode cX4_beginStrip 2 = .ok (.iload_n 1, 1) := by decide +kernel
theorem dX4_beginStrip_3 : decode cX4_beginStrip 3 = .ok (.bipush 7, 2) := by decide +kernel
theorem dX4_beginStrip_5 : decode cX4_beginStrip 5 = .ok (.invokestatic 44, 3) := by decide +kernel
theorem dX4_beginStrip_8 : decode cX4_beginStrip 8 = .ok (.invokestatic 50, 3) := by decide +kernel
theorem dX4_beginStrip_11 : decode cX4_beginStrip 11 = .ok (.putfield 9, 3) := by decide +kernel
theorem dX4_beginStrip_14 : decode cX4_beginStrip 14 = .ok (.aload_n 0, 1) := by decide +kernel
theorem dX4_beginStrip_15 : decode cX4_beginStrip 15 = .ok (.iconst 0, 1) := by decide +kernel
theorem dX4_beginStrip_16 : decode cX4_beginStrip 16 = .ok (.putfield 15, 3) := by decide +kernel
theorem dX4_beginStrip_19 : decode cX4_beginStrip 19 = .ok (.aload_n 0, 1) := by decide +kernel
theorem dX4_beginStrip_20 : decode cX4_beginStrip 20 = .ok (.iconst 0, 1) := by decide +kernel
theorem dX4_beginStrip_21 : decode cX4_beginStrip 21 = .ok (.putfield 18, 3) := by decide +kernel
theorem dX4_beginStrip_24 : decode cX4_beginStrip 24 = .ok (.aload_n 0, 1) := by decide +kernel
theorem dX4_beginStrip_25 : decode cX4_beginStrip 25 = .ok (.iconst 0, 1) := by decide +kernel
theorem dX4_beginStrip_26 : decode cX4_beginStrip 26 = .ok (.putfield 21, 3) := by decide +kernel
theorem dX4_beginStrip_29 : decode cX4_beginStrip 29 = .ok (.return_, 1) := by decide +kernel
theorem dX4_hasBend_0 : decode cX4_hasBend 0 = .ok (.iload_n 1, 1) := by decide +kernel
theorem dX4_hasBend_1 : decode cX4_hasBend 1 = .ok (.ifCond .lt 15, 3) := by decide +kernel
theorem dX4_hasBend_4 : decode cX4_hasBend 4 = .ok (.iload_n 1, 1) := by decide +kernel
theorem dX4_hasBend_5 : decode cX4_hasBend 5 = .ok (.aload_n 0, 1) := by decide +kernel
theorem dX4_hasBend_6 : decode cX4_hasBend 6 = .ok (.getfield 9, 3) := by decide +kernel
theorem dX4_hasBend_9 : decode cX4_hasBend 9 = .ok (.if_icmp .ge 7, 3) := by decide +kernel
theorem dX4_hasBend_12 : decode cX4_hasBend 12 = .ok (.iconst 1, 1) := by decide +kernel
theorem dX4_hasBend_13 : decode cX4_hasBend 13 = .ok (.goto 4, 3) := by decide +kernel
theorem dX4_hasBend_16 : decode cX4_hasBend 16 = .ok (.iconst 0, 1) := by decide +kernel
theorem dX4_hasBend_17 : decode cX4_hasBend 17 = .ok (.ireturn, 1) := by decide +kernel
theorem dX4_hasFlange_0 : decode cX4_hasFlange 0 = .ok (.iload_n 1, 1) := by decide +kernel
theorem dX4_hasFlange_1 : decode cX4_hasFlange 1 = .ok (.ifCond .lt 15, 3) := by decide +kernel
theorem dX4_hasFlange_4 : decode cX4_hasFlange 4 = .ok (.iload_n 1, 1) := by decide +kernel
theorem dX4_hasFlange_5 : decode cX4_hasFlange 5 = .ok (.aload_n 0, 1) := by decide +kernel
theorem dX4_hasFlange_6 : decode cX4_hasFlange 6 = .ok (.getfield 9, 3) := by decide +kernel
theorem dX4_hasFlange_9 : decode cX4_hasFlange 9 = .ok (.if_icmp .gt 7, 3) := by decide +kernel
theorem dX4_hasFlange_12 : decode cX4_hasFlange 12 = .ok (.iconst 1, 1) := by decide +kernel
theorem dX4_hasFlange_13 : decode cX4_hasFlange 13 = .ok (.goto 4, 3) := by decide +kernel
theorem dX4_hasFlange_16 : decode cX4_hasFlange 16 = .ok (.iconst 0, 1) := by decide +kernel
theorem dX4_hasFlange_17 : decode cX4_hasFlange 17 = .ok (.ireturn, 1) := by decide +kernel
theorem dX4_isUp_0 : decode cX4_isUp 0 = .ok (.aload_n 0, 1) := by decide +kernel
theorem dX4_isUp_1 : decode cX4_isUp 1 = .ok (.getfield 15, 3) := by decide +kernel
theorem dX4_isUp_4 : decode cX4_isUp 4 = .ok (.iload_n 1, 1) := by decide +kernel
theorem dX4_isUp_5 : decode cX4_isUp 5 = .ok (.ishr, 1) := by decide +kernel
theorem dX4_isUp_6 : decode cX4_isUp 6 = .ok (.iconst 1, 1) := by decide +kernel
theorem dX4_isUp_7 : decode cX4_isUp 7 = .ok (.iand, 1) := by decide +kernel
theorem dX4_isUp_8 : decode cX4_isUp 8 = .ok (.iconst 1, 1) := by decide +kernel
theorem dX4_isUp_9 : decode cX4_isUp 9 = .ok (.if_icmp .ne 7, 3) := by decide +kernel
theorem dX4_isUp_12 : decode cX4_isUp 12 = .ok (.iconst 1, 1) := by decide +kernel
theorem dX4_isUp_13 : decode cX4_isUp 13 = .ok (.goto 4, 3) := by decide +kernel
theorem dX4_isUp_16 : decode cX4_isUp 16 = .ok (.iconst 0, 1) := by decide +kernel
theorem dX4_isUp_17 : decode cX4_isUp 17 = .ok (.ireturn, 1) := by decide +kernel
theorem dX4_isDone_0 : decode cX4_isDone 0 = .ok (.aload_n 0, 1) := by decide +kernel
theorem dX4_isDone_1 : decode cX4_isDone 1 = .ok (.getfield 18, 3) := by decide +kernel
theorem dX4_isDone_4 : decode cX4_isDone 4 = .ok (.iload_n 1, 1) := by decide +kernel
theorem dX4_isDone_5 : decode cX4_isDone 5 = .ok (.ishr, 1) := by decide +kernel
theorem dX4_isDone_6 : decode cX4_isDone 6 = .ok (.iconst 1, 1) := by decide +kernel
theorem dX4_isDone_7 : decode cX4_isDone 7 = .ok (.iand, 1) := by decide +kernel
theorem dX4_isDone_8 : decode cX4_isDone 8 = .ok (.iconst 1, 1) := by decide +kernel
theorem dX4_isDone_9 : decode cX4_isDone 9 = .ok (.if_icmp .ne 7, 3) := by decide +kernel
theorem dX4_isDone_12 : decode cX4_isDone 12 = .ok (.iconst 1, 1) := by decide +kernel
theorem dX4_isDone_13 : decode cX4_isDone 13 = .ok (.goto 4, 3) := by decide +kernel
theorem dX4_isDone_16 : decode cX4_isDone 16 = .ok (.iconst 0, 1) := by decide +kernel
theorem dX4_isDone_17 : decode cX4_isDone 17 = .ok (.ireturn, 1) := by decide +kernel
theorem dX4_putUp_0 : decode cX4_putUp 0 = .ok (.aload_n 0, 1) := by decide +kernel
theorem dX4_putUp_1 : decode cX4_putUp 1 = .ok (.iload_n 2, 1) := by decide +kernel
theorem dX4_putUp_2 : decode cX4_putUp 2 = .ok (.ifCond .eq 14, 3) := by decide +kernel
theorem dX4_putUp_5 : decode cX4_putUp 5 = .ok (.aload_n 0, 1) := by decide +kernel
theorem dX4_putUp_6 : decode cX4_putUp 6 = .ok (.getfield 15, 3) := by decide +kernel
theorem dX4_putUp_9 : decode cX4_putUp 9 = .ok (.iconst 1, 1) := by decide +kernel
theorem dX4_putUp_10 : decode cX4_putUp 10 = .ok (.iload_n 1, 1) := by decide +kernel
theorem dX4_putUp_11 : decode cX4_putUp 11 = .ok (.ishl, 1) := by decide +kernel
theorem dX4_putUp_12 : decode cX4_putUp 12 = .ok (.ior, 1) := by decide +kernel
theorem dX4_putUp_13 : decode cX4_putUp 13 = .ok (.goto 13, 3) := by decide +kernel
theorem dX4_putUp_16 : decode cX4_putUp 16 = .ok (.aload_n 0, 1) := by decide +kernel
theorem dX4_putUp_17 : decode cX4_putUp 17 = .ok (.getfield 15, 3) := by decide +kernel
theorem dX4_putUp_20 : decode cX4_putUp 20 = .ok (.iconst 1, 1) := by decide +kernel
theorem dX4_putUp_21 : decode cX4_putUp 21 = .ok (.iload_n 1, 1) := by decide +kernel
theorem dX4_putUp_22 : decode cX4_putUp 22 = .ok (.ishl, 1) := by decide +kernel
theorem dX4_putUp_23 : decode cX4_putUp 23 = .ok (.iconst (-1), 1) := by decide +kernel
theorem dX4_putUp_24 : decode cX4_putUp 24 = .ok (.ixor, 1) := by decide +kernel
theorem dX4_putUp_25 : decode cX4_putUp 25 = .ok (.iand, 1) := by decide +kernel
theorem dX4_putUp_26 : decode cX4_putUp 26 = .ok (.putfield 15, 3) := by decide +kernel
theorem dX4_putUp_29 : decode cX4_putUp 29 = .ok (.return_, 1) := by decide +kernel
theorem dX4_doBend_0 : decode cX4_doBend 0 = .ok (.aload_n 0, 1) := by decide +kernel
theorem dX4_doBend_1 : decode cX4_doBend 1 = .ok (.dup, 1) := by decide +kernel
theorem dX4_doBend_2 : decode cX4_doBend 2 = .ok (.getfield 18, 3) := by decide +kernel
theorem dX4_doBend_5 : decode cX4_doBend 5 = .ok (.iconst 1, 1) := by decide +kernel
theorem dX4_doBend_6 : decode cX4_doBend 6 = .ok (.iload_n 1, 1) := by decide +kernel
theorem dX4_doBend_7 : decode cX4_doBend 7 = .ok (.ishl, 1) := by decide +kernel
theorem dX4_doBend_8 : decode cX4_doBend 8 = .ok (.ior, 1) := by decide +kernel
theorem dX4_doBend_9 : decode cX4_doBend 9 = .ok (.putfield 18, 3) := by decide +kernel
theorem dX4_doBend_12 : decode cX4_doBend 12 = .ok (.aload_n 0, 1) := by decide +kernel
theorem dX4_doBend_13 : decode cX4_doBend 13 = .ok (.dup, 1) := by decide +kernel
theorem dX4_doBend_14 : decode cX4_doBend 14 = .ok (.getfield 25, 3) := by decide +kernel
theorem dX4_doBend_17 : decode cX4_doBend 17 = .ok (.iconst 1, 1) := by decide +kernel
theorem dX4_doBend_18 : decode cX4_doBend 18 = .ok (.iadd, 1) := by decide +kernel
theorem dX4_doBend_19 : decode cX4_doBend 19 = .ok (.putfield 25, 3) := by decide +kernel
theorem dX4_doBend_22 : decode cX4_doBend 22 = .ok (.return_, 1) := by decide +kernel
theorem dX4_allBends_0 : decode cX4_allBends 0 = .ok (.iconst 1, 1) := by decide +kernel
theorem dX4_allBends_1 : decode cX4_allBends 1 = .ok (.aload_n 0, 1) := by decide +kernel
theorem dX4_allBends_2 : decode cX4_allBends 2 = .ok (.getfield 9, 3) := by decide +kernel
theorem dX4_allBends_5 : decode cX4_allBends 5 = .ok (.ishl, 1) := by decide +kernel
theorem dX4_allBends_6 : decode cX4_allBends 6 = .ok (.iconst 1, 1) := by decide +kernel
theorem dX4_allBends_7 : decode cX4_allBends 7 = .ok (.isub, 1) := by decide +kernel
theorem dX4_allBends_8 : decode cX4_allBends 8 = .ok (.ireturn, 1) := by decide +kernel
set_option maxRecDepth 20000 in
theorem ggX4_doneBends_J6_bitCount_0f7a4 : GoodIn wsX4_doneBends wsJ6_bitCount_0f7a4 := goodIn_r _ [5, 6, 7, 8] (by decide +kernel) (by decide +kernel)
set_option maxRecDepth 20000 in
theorem gX4_doneBends_J6_bitCount_0f7a4 : GoodIn wsX4_doneBends (va_wsS RX4 53 yJ6_bitCount_0f7a4 wsJ6_bitCount_0f7a4) := goodIn_app (goodIn_of _ (by decide +kernel)) ggX4_doneBends_J6_bitCount_0f7a4
theorem dX4_doneBends_0 : decode cX4_doneBends 0 = .ok (.aload_n 0, 1) := by decide +kernel
theorem dX4_doneBends_1 : decode cX4_doneBends 1 = .ok (.getfield 18, 3) := by decide +kernel
theorem dX4_doneBends_4 : decode cX4_doneBends 4 = .ok (.invokestatic 53, 3) := by decide +kernel
theorem dX4_doneBends_7 : decode cX4_doneBends 7 = .ok (.ireturn, 1) := by decide +kernel
set_option maxRecDepth 20000 in
theorem ggX4_openBends_X4_doneBends : GoodIn wsX4_openBends wsX4_doneBends := goodIn_r _ [6, 7, 8, 9, 10, 11, 12, 13, 14, 15, 16, 17, 18, 19, 20, 21] (by decide +kernel) (by decide +kernel)
set_option maxRecDepth 20000 in
theorem gX4_openBends_X4_doneBends : GoodIn wsX4_openBends (wsV RX4 59 RX4 yX4_doneBends wsX4_doneBends) := goodIn_app (goodIn_of _ (by decide +kernel)) ggX4_openBends_X4_doneBends
theorem dX4_openBends_0 : decode cX4_openBends 0 = .ok (.aload_n 0, 1) := by decide +kernel
theorem dX4_openBends_1 : decode cX4_openBends 1 = .ok (.getfield 9, 3) := by decide +kernel
theorem dX4_openBends_4 : decode cX4_openBends 4 = .ok (.aload_n 0, 1) := by decide +kernel
theorem dX4_openBends_5 : decode cX4_openBends 5 = .ok (.invokevirtual 59, 3) := by decide +kernel
theorem dX4_openBends_8 : decode cX4_openBends 8 = .ok (.isub, 1) := by decide +kernel
theorem dX4_openBends_9 : decode cX4_openBends 9 = .ok (.ireturn, 1) := by decide +kernel
theorem dX4_lengthAt_0 : decode cX4_lengthAt 0 = .ok (.iload_n 1, 1) := by decide +kernel
theorem dX4_lengthAt_1 : decode cX4_lengthAt 1 = .ok (.ifCond .lt 21, 3) := by decide +kernel
theorem dX4_lengthAt_4 : decode cX4_lengthAt 4 = .ok (.iload_n 1, 1) := by decide +kernel
theorem dX4_lengthAt_5 : decode cX4_lengthAt 5 = .ok (.aload_n 0, 1) := by decide +kernel
theorem dX4_lengthAt_6 : decode cX4_lengthAt 6 = .ok (.getfield 28, 3) := by decide +kernel
theorem dX4_lengthAt_9 : decode cX4_lengthAt 9 = .ok (.arraylength, 1) := by decide +kernel
theorem dX4_lengthAt_10 : decode cX4_lengthAt 10 = .ok (.if_icmp .ge 12, 3) := by decide +kernel
theorem dX4_lengthAt_13 : decode cX4_lengthAt 13 = .ok (.aload_n 0, 1) := by decide +kernel
theorem dX4_lengthAt_14 : decode cX4_lengthAt 14 = .ok (.getfield 28, 3) := by decide +kernel
theorem dX4_lengthAt_17 : decode cX4_lengthAt 17 = .ok (.iload_n 1, 1) := by decide +kernel
theorem dX4_lengthAt_18 : decode cX4_lengthAt 18 = .ok (.iaload, 1) := by decide +kernel
theorem dX4_lengthAt_19 : decode cX4_lengthAt 19 = .ok (.goto 4, 3) := by decide +kernel
theorem dX4_lengthAt_22 : decode cX4_lengthAt 22 = .ok (.iconst 0, 1) := by decide +kernel
theorem dX4_lengthAt_23 : decode cX4_lengthAt 23 = .ok (.ireturn, 1) := by decide +kernel
theorem dX4_putLength_0 : decode cX4_putLength 0 = .ok (.iload_n 1, 1) := by decide +kernel
theorem dX4_putLength_1 : decode cX4_putLength 1 = .ok (.ifCond .lt 19, 3) := by decide +kernel
theorem dX4_putLength_4 : decode cX4_putLength 4 = .ok (.iload_n 1, 1) := by decide +kernel
theorem dX4_putLength_5 : decode cX4_putLength 5 = .ok (.aload_n 0, 1) := by decide +kernel
theorem dX4_putLength_6 : decode cX4_putLength 6 = .ok (.getfield 28, 3) := by decide +kernel
theorem dX4_putLength_9 : decode cX4_putLength 9 = .ok (.arraylength, 1) := by decide +kernel
theorem dX4_putLength_10 : decode cX4_putLength 10 = .ok (.if_icmp .ge 10, 3) := by decide +kernel
theorem dX4_putLength_13 : decode cX4_putLength 13 = .ok (.aload_n 0, 1) := by decide +kernel
theorem dX4_putLength_14 : decode cX4_putLength 14 = .ok (.getfield 28, 3) := by decide +kernel
theorem dX4_putLength_17 : decode cX4_putLength 17 = .ok (.iload_n 1, 1) := by decide +kernel
theorem dX4_putLength_18 : decode cX4_putLength 18 = .ok (.iload_n 2, 1) := by decide +kernel
theorem dX4_putLength_19 : decode cX4_putLength 19 = .ok (.iastore, 1) := by decide +kernel
theorem dX4_putLength_20 : decode cX4_putLength 20 = .ok (.return_, 1) := by decide +kernel
theorem dX4_settingAt_0 : decode cX4_settingAt 0 = .ok (.iload_n 1, 1) := by decide +kernel
theorem dX4_settingAt_1 : decode cX4_settingAt 1 = .ok (.ifCond .lt 21, 3) := by decide +kernel
theorem dX4_settingAt_4 : decode cX4_settingAt 4 = .ok (.iload_n 1, 1) := by decide +kernel
theorem dX4_settingAt_5 : decode cX4_settingAt 5 = .ok (.aload_n 0, 1) := by decide +kernel
theorem dX4_settingAt_6 : decode cX4_settingAt 6 = .ok (.getfield 35, 3) := by decide +kernel
theorem dX4_settingAt_9 : decode cX4_settingAt 9 = .ok (.arraylength, 1) := by decide +kernel
theorem dX4_settingAt_10 : decode cX4_settingAt 10 = .ok (.if_icmp .ge 12, 3) := by decide +kernel
theorem dX4_settingAt_13 : decode cX4_settingAt 13 = .ok (.aload_n 0, 1) := by decide +kernel
theorem dX4_settingAt_14 : decode cX4_settingAt 14 = .ok (.getfield 35, 3) := by decide +kernel
theorem dX4_settingAt_17 : decode cX4_settingAt 17 = .ok (.iload_n 1, 1) := by decide +kernel
theorem dX4_settingAt_18 : decode cX4_settingAt 18 = .ok (.iaload, 1) := by decide +kernel
theorem dX4_settingAt_19 : decode cX4_settingAt 19 = .ok (.goto 4, 3) := by decide +kernel
theorem dX4_settingAt_22 : decode cX4_settingAt 22 = .ok (.iconst 0, 1) := by decide +kernel
theorem dX4_settingAt_23 : decode cX4_settingAt 23 = .ok (.ireturn, 1) := by decide +kernel
theorem dX4_putSetting_0 : decode cX4_putSetting 0 = .ok (.iload_n 1, 1) := by decide +kernel
theorem dX4_putSetting_1 : decode cX4_putSetting 1 = .ok (.ifCond .lt 19, 3) := by decide +kernel
theorem dX4_putSetting_4 : decode cX4_putSetting 4 = .ok (.iload_n 1, 1) := by decide +kernel
theorem dX4_putSetting_5 : decode cX4_putSetting 5 = .ok (.aload_n 0, 1) := by decide +kernel
theorem dX4_putSetting_6 : decode cX4_putSetting 6 = .ok (.getfield 35, 3) := by decide +kernel
theorem dX4_putSetting_9 : decode cX4_putSetting 9 = .ok (.arraylength, 1) := by decide +kernel
theorem dX4_putSetting_10 : decode cX4_putSetting 10 = .ok (.if_icmp .ge 10, 3) := by decide +kernel
theorem dX4_putSetting_13 : decode cX4_putSetting 13 = .ok (.aload_n 0, 1) := by decide +kernel
theorem dX4_putSetting_14 : decode cX4_putSetting 14 = .ok (.getfield 35, 3) := by decide +kernel
theorem dX4_putSetting_17 : decode cX4_putSetting 17 = .ok (.iload_n 1, 1) := by decide +kernel
theorem dX4_putSetting_18 : decode cX4_putSetting 18 = .ok (.iload_n 2, 1) := by decide +kernel
theorem dX4_putSetting_19 : decode cX4_putSetting 19 = .ok (.iastore, 1) := by decide +kernel
theorem dX4_putSetting_20 : decode cX4_putSetting 20 = .ok (.return_, 1) := by decide +kernel
set_option maxRecDepth 20000 in
theorem ggX4_wholeLength_X4_lengthAt : GoodIn wsX4_wholeLength wsX4_lengthAt := goodIn_r _ [6, 7, 8, 9, 10, 11, 12, 13, 14] (by decide +kernel) (by decide +kernel)
set_option maxRecDepth 20000 in
theorem gX4_wholeLength_X4_lengthAt : GoodIn wsX4_wholeLength (wsV RX4 63 RX4 yX4_lengthAt wsX4_lengthAt) := goodIn_app (goodIn_of _ (by decide +kernel)) ggX4_wholeLength_X4_lengthAt
theorem dX4_wholeLength_0 : decode cX4_wholeLength 0 = .ok (.iconst 0, 1) := by decide +kernel
theorem dX4_wholeLength_1 : decode cX4_wholeLength 1 = .ok (.istore_n 1, 1) := by decide +kernel
theorem dX4_wholeLength_2 : decode cX4_wholeLength 2 = .ok (.iconst 0, 1) := by decide +kernel
theorem dX4_wholeLength_3 : decode cX4_wholeLength 3 = .ok (.istore_n 2, 1) := by decide +kernel
theorem dX4_wholeLength_4 : decode cX4_wholeLength 4 = .ok (.iload_n 2, 1) := by decide +kernel
theorem dX4_wholeLength_5 : decode cX4_wholeLength 5 = .ok (.aload_n 0, 1) := by decide +kernel
theorem dX4_wholeLength_6 : decode cX4_wholeLength 6 = .ok (.getfield 9, 3) := by decide +kernel
theorem dX4_wholeLength_9 : decode cX4_wholeLength 9 = .ok (.if_icmp .gt 17, 3) := by decide +kernel
theorem dX4_wholeLength_12 : decode cX4_wholeLength 12 = .ok (.iload_n 1, 1) := by decide +kernel
theorem dX4_wholeLength_13 : decode cX4_wholeLength 13 = .ok (.aload_n 0, 1) := by decide +kernel
theorem dX4_wholeLength_14 : decode cX4_wholeLength 14 = .ok (.iload_n 2, 1) := by decide +kernel
theorem dX4_wholeLength_15 : decode cX4_wholeLength 15 = .ok (.invokevirtual 63, 3) := by decide +kernel
theorem dX4_wholeLength_18 : decode cX4_wholeLength 18 = .ok (.iadd, 1) := by decide +kernel
theorem dX4_wholeLength_19 : decode cX4_wholeLength 19 = .ok (.istore_n 1, 1) := by decide +kernel
theorem dX4_wholeLength_20 : decode cX4_wholeLength 20 = .ok (.iinc 2 1, 3) := by decide +kernel
theorem dX4_wholeLength_23 : decode cX4_wholeLength 23 = .ok (.goto (-19), 3) := by decide +kernel
theorem dX4_wholeLength_26 : decode cX4_wholeLength 26 = .ok (.iload_n 1, 1) := by decide +kernel
theorem dX4_wholeLength_27 : decode cX4_wholeLength 27 = .ok (.ireturn, 1) := by decide +kernel
set_option maxRecDepth 20000 in
theorem ggX4_degrees_X4_settingAt : GoodIn wsX4_degrees wsX4_settingAt := goodIn_r _ [9, 10, 16, 17, 18, 19, 20, 21, 22] (by decide +kernel) (by decide +kernel)
set_option maxRecDepth 20000 in
theorem gX4_degrees_X4_settingAt : GoodIn wsX4_degrees (wsV RX4 66 RX4 yX4_settingAt wsX4_settingAt) := goodIn_app (goodIn_of _ (by decide +kernel)) ggX4_degrees_X4_settingAt
set_option maxRecDepth 20000 in
theorem ggX4_degrees_X4_lengthAt : GoodIn wsX4_degrees wsX4_lengthAt := goodIn_r _ [14, 15, 16, 17, 18, 19, 20, 21, 22] (by decide +kernel) (by decide +kernel)
set_option maxRecDepth 20000 in
theorem gX4_degrees_X4_lengthAt : GoodIn wsX4_degrees (wsV RX4 63 RX4 yX4_lengthAt wsX4_lengthAt) := goodIn_app (goodIn_of _ (by decide +kernel)) ggX4_degrees_X4_lengthAt
theorem dX4_degrees_0 : decode cX4_degrees 0 = .ok (.aload_n 0, 1) := by decide +kernel
theorem dX4_degrees_1 : decode cX4_degrees 1 = .ok (.iconst 3, 1) := by decide +kernel
theorem dX4_degrees_2 : decode cX4_degrees 2 = .ok (.invokevirtual 66, 3) := by decide +kernel
theorem dX4_degrees_5 : decode cX4_degrees 5 = .ok (.aload_n 0, 1) := by decide +kernel
theorem dX4_degrees_6 : decode cX4_degrees 6 = .ok (.iload_n 1, 1) := by decide +kernel
theorem dX4_degrees_7 : decode cX4_degrees 7 = .ok (.iconst 1, 1) := by decide +kernel
theorem dX4_degrees_8 : decode cX4_degrees 8 = .ok (.iadd, 1) := by decide +kernel
theorem dX4_degrees_9 : decode cX4_degrees 9 = .ok (.invokevirtual 63, 3) := by decide +kernel
theorem dX4_degrees_12 : decode cX4_degrees 12 = .ok (.iconst 1, 1) := by decide +kernel
theorem dX4_degrees_13 : decode cX4_degrees 13 = .ok (.isub, 1) := by decide +kernel
theorem dX4_degrees_14 : decode cX4_degrees 14 = .ok (.isub, 1) := by decide +kernel
theorem dX4_degrees_15 : decode cX4_degrees 15 = .ok (.istore_n 2, 1) := by decide +kernel
theorem dX4_degrees_16 : decode cX4_degrees 16 = .ok (.bipush 90, 2) := by decide +kernel
theorem dX4_degrees_18 : decode cX4_degrees 18 = .ok (.iconst 0, 1) := by decide +kernel
theorem dX4_degrees_19 : decode cX4_degrees 19 = .ok (.iload_n 2, 1) := by decide +kernel
theorem dX4_degrees_20 : decode cX4_degrees 20 = .ok (.invokestatic 50, 3) := by decide +kernel
theorem dX4_degrees_23 : decode cX4_degrees 23 = .ok (.iadd, 1) := by decide +kernel
theorem dX4_degrees_24 : decode cX4_degrees 24 = .ok (.ireturn, 1) := by decide +kernel
set_option maxRecDepth 20000 in
theorem ggX4_clampedLength_X4_lengthAt : GoodIn wsX4_clampedLength wsX4_lengthAt := goodIn_r _ [6, 7, 8, 9, 10, 11, 12, 13, 14] (by decide +kernel) (by decide +kernel)
set_option maxRecDepth 20000 in
theorem gX4_clampedLength_X4_lengthAt : GoodIn wsX4_clampedLength (wsV RX4 63 RX4 yX4_lengthAt wsX4_lengthAt) := goodIn_app (goodIn_of _ (by decide +kernel)) ggX4_clampedLength_X4_lengthAt
theorem dX4_clampedLength_0 : decode cX4_clampedLength 0 = .ok (.aload_n 0, 1) := by decide +kernel
theorem dX4_clampedLength_1 : decode cX4_clampedLength 1 = .ok (.iload_n 1, 1) := by decide +kernel
theorem dX4_clampedLength_2 : decode cX4_clampedLength 2 = .ok (.iconst 1, 1) := by decide +kernel
theorem dX4_clampedLength_3 : decode cX4_clampedLength 3 = .ok (.iadd, 1) := by decide +kernel
theorem dX4_clampedLength_4 : decode cX4_clampedLength 4 = .ok (.invokevirtual 63, 3) := by decide +kernel
theorem dX4_clampedLength_7 : decode cX4_clampedLength 7 = .ok (.istore_n 3, 1) := by decide +kernel
theorem dX4_clampedLength_8 : decode cX4_clampedLength 8 = .ok (.iload_n 1, 1) := by decide +kernel
theorem dX4_clampedLength_9 : decode cX4_clampedLength 9 = .ok (.iconst 1, 1) := by decide +kernel
theorem dX4_clampedLength_10 : decode cX4_clampedLength 10 = .ok (.iadd, 1) := by decide +kernel
theorem dX4_clampedLength_11 : decode cX4_clampedLength 11 = .ok (.istore 4, 2) := by decide +kernel
theorem dX4_clampedLength_13 : decode cX4_clampedLength 13 = .ok (.iload 4, 2) := by decide +kernel
theorem dX4_clampedLength_15 : decode cX4_clampedLength 15 = .ok (.aload_n 0, 1) := by decide +kernel
theorem dX4_clampedLength_16 : decode cX4_clampedLength 16 = .ok (.getfield 9, 3) := by decide +kernel
theorem dX4_clampedLength_19 : decode cX4_clampedLength 19 = .ok (.if_icmp .ge 29, 3) := by decide +kernel
theorem dX4_clampedLength_22 : decode cX4_clampedLength 22 = .ok (.iload_n 2, 1) := by decide +kernel
theorem dX4_clampedLength_23 : decode cX4_clampedLength 23 = .ok (.iload 4, 2) := by decide +kernel
theorem dX4_clampedLength_25 : decode cX4_clampedLength 25 = .ok (.ishr, 1) := by decide +kernel
theorem dX4_clampedLength_26 : decode cX4_clampedLength 26 = .ok (.iconst 1, 1) := by decide +kernel
theorem dX4_clampedLength_27 : decode cX4_clampedLength 27 = .ok (.iand, 1) := by decide +kernel
theorem dX4_clampedLength_28 : decode cX4_clampedLength 28 = .ok (.ifCond .ne 20, 3) := by decide +kernel
theorem dX4_clampedLength_31 : decode cX4_clampedLength 31 = .ok (.iload_n 3, 1) := by decide +kernel
theorem dX4_clampedLength_32 : decode cX4_clampedLength 32 = .ok (.aload_n 0, 1) := by decide +kernel
theorem dX4_clampedLength_33 : decode cX4_clampedLength 33 = .ok (.iload 4, 2) := by decide +kernel
theorem dX4_clampedLength_35 : decode cX4_clampedLength 35 = .ok (.iconst 1, 1) := by decide +kernel
theorem dX4_clampedLength_36 : decode cX4_clampedLength 36 = .ok (.iadd, 1) := by decide +kernel
theorem dX4_clampedLength_37 : decode cX4_clampedLength 37 = .ok (.invokevirtual 63, 3) := by decide +kernel
theorem dX4_clampedLength_40 : decode cX4_clampedLength 40 = .ok (.iadd, 1) := by decide +kernel
theorem dX4_clampedLength_41 : decode cX4_clampedLength 41 = .ok (.istore_n 3, 1) := by decide +kernel
theorem dX4_clampedLength_42 : decode cX4_clampedLength 42 = .ok (.iinc 4 1, 3) := by decide +kernel
theorem dX4_clampedLength_45 : decode cX4_clampedLength 45 = .ok (.goto (-32), 3) := by decide +kernel
theorem dX4_clampedLength_48 : decode cX4_clampedLength 48 = .ok (.iload_n 3, 1) := by decide +kernel
theorem dX4_clampedLength_49 : decode cX4_clampedLength 49 = .ok (.ireturn, 1) := by decide +kernel
set_option maxRecDepth 20000 in
theorem ggX4_bendsLike_X4_lengthAt : GoodIn wsX4_bendsLike wsX4_lengthAt := goodIn_r _ [7, 8, 14, 15, 16, 17, 18, 19, 20] (by decide +kernel) (by decide +kernel)
set_option maxRecDepth 20000 in
theorem gX4_bendsLike_X4_lengthAt : GoodIn wsX4_bendsLike (wsV RX4 63 RX4 yX4_lengthAt wsX4_lengthAt) := goodIn_app (goodIn_of _ (by decide +kernel)) ggX4_bendsLike_X4_lengthAt
set_option maxRecDepth 20000 in
theorem ggX4_bendsLike_X4_settingAt : GoodIn wsX4_bendsLike wsX4_settingAt := goodIn_r _ [12, 13, 14, 15, 16, 17, 18, 19, 20] (by decide +kernel) (by decide +kernel)
set_option maxRecDepth 20000 in
theorem gX4_bendsLike_X4_settingAt : GoodIn wsX4_bendsLike (wsV RX4 66 RX4 yX4_settingAt wsX4_settingAt) := goodIn_app (goodIn_of _ (by decide +kernel)) ggX4_bendsLike_X4_settingAt
theorem dX4_bendsLike_0 : decode cX4_bendsLike 0 = .ok (.aload_n 0, 1) := by decide +kernel
theorem dX4_bendsLike_1 : decode cX4_bendsLike 1 = .ok (.getfield 9, 3) := by decide +kernel
theorem dX4_bendsLike_4 : decode cX4_bendsLike 4 = .ok (.aload_n 1, 1) := by decide +kernel
theorem dX4_bendsLike_5 : decode cX4_bendsLike 5 = .ok (.getfield 9, 3) := by decide +kernel
theorem dX4_bendsLike_8 : decode cX4_bendsLike 8 = .ok (.if_icmp .ne 14, 3) := by decide +kernel
theorem dX4_bendsLike_11 : decode cX4_bendsLike 11 = .ok (.aload_n 0, 1) := by decide +kernel
theorem dX4_bendsLike_12 : decode cX4_bendsLike 12 = .ok (.getfield 15, 3) := by decide +kernel
theorem dX4_bendsLike_15 : decode cX4_bendsLike 15 = .ok (.aload_n 1, 1) := by decide +kernel
theorem dX4_bendsLike_16 : decode cX4_bendsLike 16 = .ok (.getfield 15, 3) := by decide +kernel
theorem dX4_bendsLike_19 : decode cX4_bendsLike 19 = .ok (.if_icmp .eq 5, 3) := by decide +kernel
theorem dX4_bendsLike_22 : decode cX4_bendsLike 22 = .ok (.iconst 0, 1) := by decide +kernel
theorem dX4_bendsLike_23 : decode cX4_bendsLike 23 = .ok (.ireturn, 1) := by decide +kernel
theorem dX4_bendsLike_24 : decode cX4_bendsLike 24 = .ok (.iconst 0, 1) := by decide +kernel
theorem dX4_bendsLike_25 : decode cX4_bendsLike 25 = .ok (.istore_n 2, 1) := by decide +kernel
theorem dX4_bendsLike_26 : decode cX4_bendsLike 26 = .ok (.iload_n 2, 1) := by decide +kernel
theorem dX4_bendsLike_27 : decode cX4_bendsLike 27 = .ok (.aload_n 0, 1) := by decide +kernel
theorem dX4_bendsLike_28 : decode cX4_bendsLike 28 = .ok (.getfield 9, 3) := by decide +kernel
theorem dX4_bendsLike_31 : decode cX4_bendsLike 31 = .ok (.if_icmp .gt 24, 3) := by decide +kernel
theorem dX4_bendsLike_34 : decode cX4_bendsLike 34 = .ok (.aload_n 0, 1) := by decide +kernel
theorem dX4_bendsLike_35 : decode cX4_bendsLike 35 = .ok (.iload_n 2, 1) := by decide +kernel
theorem dX4_bendsLike_36 : decode cX4_bendsLike 36 = .ok (.invokevirtual 63, 3) := by decide +kernel
theorem dX4_bendsLike_39 : decode cX4_bendsLike 39 = .ok (.aload_n 1, 1) := by decide +kernel
theorem dX4_bendsLike_40 : decode cX4_bendsLike 40 = .ok (.iload_n 2, 1) := by decide +kernel
theorem dX4_bendsLike_41 : decode cX4_bendsLike 41 = .ok (.invokevirtual 63, 3) := by decide +kernel
theorem dX4_bendsLike_44 : decode cX4_bendsLike 44 = .ok (.if_icmp .eq 5, 3) := by decide +kernel
theorem dX4_bendsLike_47 : decode cX4_bendsLike 47 = .ok (.iconst 0, 1) := by decide +kernel
theorem dX4_bendsLike_48 : decode cX4_bendsLike 48 = .ok (.ireturn, 1) := by decide +kernel
theorem dX4_bendsLike_49 : decode cX4_bendsLike 49 = .ok (.iinc 2 1, 3) := by decide +kernel
theorem dX4_bendsLike_52 : decode cX4_bendsLike 52 = .ok (.goto (-26), 3) := by decide +kernel
theorem dX4_bendsLike_55 : decode cX4_bendsLike 55 = .ok (.aload_n 0, 1) := by decide +kernel
theorem dX4_bendsLike_56 : decode cX4_bendsLike 56 = .ok (.iconst 0, 1) := by decide +kernel
theorem dX4_bendsLike_57 : decode cX4_bendsLike 57 = .ok (.invokevirtual 66, 3) := by decide +kernel
theorem dX4_bendsLike_60 : decode cX4_bendsLike 60 = .ok (.aload_n 1, 1) := by decide +kernel
theorem dX4_bendsLike_61 : decode cX4_bendsLike 61 = .ok (.iconst 0, 1) := by decide +kernel
theorem dX4_bendsLike_62 : decode cX4_bendsLike 62 = .ok (.invokevirtual 66, 3) := by decide +kernel
theorem dX4_bendsLike_65 : decode cX4_bendsLike 65 = .ok (.if_icmp .ne 33, 3) := by decide +kernel
theorem dX4_bendsLike_68 : decode cX4_bendsLike 68 = .ok (.aload_n 0, 1) := by decide +kernel
theorem dX4_bendsLike_69 : decode cX4_bendsLike 69 = .ok (.iconst 1, 1) := by decide +kernel
theorem dX4_bendsLike_70 : decode cX4_bendsLike 70 = .ok (.invokevirtual 66, 3) := by decide +kernel
theorem dX4_bendsLike_73 : decode cX4_bendsLike 73 = .ok (.aload_n 1, 1) := by decide +kernel
theorem dX4_bendsLike_74 : decode cX4_bendsLike 74 = .ok (.iconst 1, 1) := by decide +kernel
theorem dX4_bendsLike_75 : decode cX4_bendsLike 75 = .ok (.invokevirtual 66, 3) := by decide +kernel
theorem dX4_bendsLike_78 : decode cX4_bendsLike 78 = .ok (.if_icmp .ne 20, 3) := by decide +kernel
theorem dX4_bendsLike_81 : decode cX4_bendsLike 81 = .ok (.aload_n 0, 1) := by decide +kernel
theorem dX4_bendsLike_82 : decode cX4_bendsLike 82 = .ok (.iconst 2, 1) := by decide +kernel
theorem dX4_bendsLike_83 : decode cX4_bendsLike 83 = .ok (.invokevirtual 66, 3) := by decide +kernel
theorem dX4_bendsLike_86 : decode cX4_bendsLike 86 = .ok (.aload_n 1, 1) := by decide +kernel
theorem dX4_bendsLike_87 : decode cX4_bendsLike 87 = .ok (.iconst 2, 1) := by decide +kernel
theorem dX4_bendsLike_88 : decode cX4_bendsLike 88 = .ok (.invokevirtual 66, 3) := by decide +kernel
theorem dX4_bendsLike_91 : decode cX4_bendsLike 91 = .ok (.if_icmp .ne 7, 3) := by decide +kernel
theorem dX4_bendsLike_94 : decode cX4_bendsLike 94 = .ok (.iconst 1, 1) := by decide +kernel
theorem dX4_bendsLike_95 : decode cX4_bendsLike 95 = .ok (.goto 4, 3) := by decide +kernel
theorem dX4_bendsLike_98 : decode cX4_bendsLike 98 = .ok (.iconst 0, 1) := by decide +kernel
theorem dX4_bendsLike_99 : decode cX4_bendsLike 99 = .ok (.ireturn, 1) := by decide +kernel
