theorem dX5_init_0 : decode cX5_init 0 = .ok (.aload_n 0, 1) := by decide +kernel
theorem dX5_init_1 : decode cX5_init 1 = .ok (.invokespecial 3, 3) := by decide +kernel
theorem dX5_init_4 : decode cX5_init 4 = .ok (.aload_n 0, 1) := by decide +kernel
theorem dX5_init_5 : decode cX5_init 5 = .ok (.iconst 0, 1) := by decide +kernel
theorem dX5_init_6 : decode cX5_init 6 = .ok (.putfield 9, 3) := by decide +kernel
theorem dX5_init_9 : decode cX5_init 9 = .ok (.aload_n 0, 1) := by decide +kernel
theorem dX5_init_10 : decode cX5_init 10 = .ok (.bipush 60, 2) := by decide +kernel
theorem dX5_init_12 : decode cX5_init 12 = .ok (.newarray .char, 2) := by decide +kernel
theorem dX5_init_14 : decode cX5_init 14 = .ok (.putfield 15, 3) := by decide +kernel
theorem dX5_init_17 : decode cX5_init 17 = .ok (.return_, 1) := by decide +kernel
theorem dX5_append_0 : decode cX5_append 0 = .ok (.aload_n 0, 1) := by decide +kernel
theorem dX5_append_1 : decode cX5_append 1 = .ok (.getfield 9, 3) := by decide +kernel
theorem dX5_append_4 : decode cX5_append 4 = .ok (.ifCond .lt 35, 3) := by decide +kernel
theorem dX5_append_7 : decode cX5_append 7 = .ok (.aload_n 0, 1) := by decide +kernel
theorem dX5_append_8 : decode cX5_append 8 = .ok (.getfield 9, 3) := by decide +kernel
theorem dX5_append_11 : decode cX5_append 11 = .ok (.aload_n 0, 1) := by decide +kernel
theorem dX5_append_12 : decode cX5_append 12 = .ok (.getfield 15, 3) := by decide +kernel
theorem dX5_append_15 : decode cX5_append 15 = .ok (.arraylength, 1) := by decide +kernel
theorem dX5_append_16 : decode cX5_append 16 = .ok (.if_icmp .ge 23, 3) := by decide +kernel
theorem dX5_append_19 : decode cX5_append 19 = .ok (.aload_n 0, 1) := by decide +kernel
theorem dX5_append_20 : decode cX5_append 20 = .ok (.getfield 15, 3) := by decide +kernel
theorem dX5_append_23 : decode cX5_append 23 = .ok (.aload_n 0, 1) := by decide +kernel
theorem dX5_append_24 : decode cX5_append 24 = .ok (.getfield 9, 3) := by decide +kernel
theorem dX5_append_27 : decode cX5_append 27 = .ok (.iload_n 1, 1) := by decide +kernel
theorem dX5_append_28 : decode cX5_append 28 = .ok (.castore, 1) := by decide +kernel
theorem dX5_append_29 : decode cX5_append 29 = .ok (.aload_n 0, 1) := by decide +kernel
theorem dX5_append_30 : decode cX5_append 30 = .ok (.dup, 1) := by decide +kernel
theorem dX5_append_31 : decode cX5_append 31 = .ok (.getfield 9, 3) := by decide +kernel
theorem dX5_append_34 : decode cX5_append 34 = .ok (.iconst 1, 1) := by decide +kernel
theorem dX5_append_35 : decode cX5_append 35 = .ok (.iadd, 1) := by decide +kernel
theorem dX5_append_36 : decode cX5_append 36 = .ok (.putfield 9, 3) := by decide +kernel
theorem dX5_append_39 : decode cX5_append 39 = .ok (.return_, 1) := by decide +kernel
theorem dX5_signAt_0 : decode cX5_signAt 0 = .ok (.iload_n 1, 1) := by decide +kernel
theorem dX5_signAt_1 : decode cX5_signAt 1 = .ok (.ifCond .lt 29, 3) := by decide +kernel
theorem dX5_signAt_4 : decode cX5_signAt 4 = .ok (.iload_n 1, 1) := by decide +kernel
theorem dX5_signAt_5 : decode cX5_signAt 5 = .ok (.aload_n 0, 1) := by decide +kernel
theorem dX5_signAt_6 : decode cX5_signAt 6 = .ok (.getfield 9, 3) := by decide +kernel
theorem dX5_signAt_9 : decode cX5_signAt 9 = .ok (.if_icmp .ge 21, 3) := by decide +kernel
theorem dX5_signAt_12 : decode cX5_signAt 12 = .ok (.iload_n 1, 1) := by decide +kernel
theorem dX5_signAt_13 : decode cX5_signAt 13 = .ok (.aload_n 0, 1) := by decide +kernel
theorem dX5_signAt_14 : decode cX5_signAt 14 = .ok (.getfield 15, 3) := by decide +kernel
theorem dX5_signAt_17 : decode cX5_signAt 17 = .ok (.arraylength, 1) := by decide +kernel
theorem dX5_signAt_18 : decode cX5_signAt 18 = .ok (.if_icmp .ge 12, 3) := by decide +kernel
theorem dX5_signAt_21 : decode cX5_signAt 21 = .ok (.aload_n 0, 1) := by decide +kernel
theorem dX5_signAt_22 : decode cX5_signAt 22 = .ok (.getfield 15, 3) := by decide +kernel
theorem dX5_signAt_25 : decode cX5_signAt 25 = .ok (.iload_n 1, 1) := by decide +kernel
theorem dX5_signAt_26 : decode cX5_signAt 26 = .ok (.caload, 1) := by decide +kernel
theorem dX5_signAt_27 : decode cX5_signAt 27 = .ok (.goto 4, 3) := by decide +kernel
theorem dX5_signAt_30 : decode cX5_signAt 30 = .ok (.iconst 0, 1) := by decide +kernel
theorem dX5_signAt_31 : decode cX5_signAt 31 = .ok (.ireturn, 1) := by decide +kernel
theorem dX5_pairs_0 : decode cX5_pairs 0 = .ok (.aload_n 0, 1) := by decide +kernel
theorem dX5_pairs_1 : decode cX5_pairs 1 = .ok (.getfield 9, 3) := by decide +kernel
theorem dX5_pairs_4 : decode cX5_pairs 4 = .ok (.iconst 2, 1) := by decide +kernel
theorem dX5_pairs_5 : decode cX5_pairs 5 = .ok (.idiv, 1) := by decide +kernel
theorem dX5_pairs_6 : decode cX5_pairs 6 = .ok (.ireturn, 1) := by decide +kernel
set_option maxRecDepth 20000 in
theorem ggX5_fault_X5_isAllowed : GoodIn wsX5_fault wsX5_isAllowed := goodIn_r _ [6, 7, 8, 9, 5, 10, 1, 11, 12, 13] (by decide +kernel) (by decide +kernel)
set_option maxRecDepth 20000 in
theorem gX5_fault_X5_isAllowed : GoodIn wsX5_fault (wsV RX5 19 RX5 yX5_isAllowed wsX5_isAllowed) := goodIn_app (goodIn_of _ (by decide +kernel)) ggX5_fault_X5_isAllowed
theorem dX5_fault_0 : decode cX5_fault 0 = .ok (.iconst 0, 1) := by decide +kernel
theorem dX5_fault_1 : decode cX5_fault 1 = .ok (.istore_n 1, 1) := by decide +kernel
theorem dX5_fault_2 : decode cX5_fault 2 = .ok (.iload_n 1, 1) := by decide +kernel
theorem dX5_fault_3 : decode cX5_fault 3 = .ok (.aload_n 0, 1) := by decide +kernel
theorem dX5_fault_4 : decode cX5_fault 4 = .ok (.getfield 9, 3) := by decide +kernel
theorem dX5_fault_7 : decode cX5_fault 7 = .ok (.if_icmp .ge 19, 3) := by decide +kernel
theorem dX5_fault_10 : decode cX5_fault 10 = .ok (.aload_n 0, 1) := by decide +kernel
theorem dX5_fault_11 : decode cX5_fault 11 = .ok (.iload_n 1, 1) := by decide +kernel
theorem dX5_fault_12 : decode cX5_fault 12 = .ok (.invokevirtual 19, 3) := by decide +kernel
theorem dX5_fault_15 : decode cX5_fault 15 = .ok (.ifCond .ne 5, 3) := by decide +kernel
theorem dX5_fault_18 : decode cX5_fault 18 = .ok (.iload_n 1, 1) := by decide +kernel
theorem dX5_fault_19 : decode cX5_fault 19 = .ok (.ireturn, 1) := by decide +kernel
theorem dX5_fault_20 : decode cX5_fault 20 = .ok (.iinc 1 1, 3) := by decide +kernel
theorem dX5_fault_23 : decode cX5_fault 23 = .ok (.goto (-21), 3) := by decide +kernel
theorem dX5_fault_26 : decode cX5_fault 26 = .ok (.aload_n 0, 1) := by decide +kernel
theorem dX5_fault_27 : decode cX5_fault 27 = .ok (.getfield 9, 3) := by decide +kernel
theorem dX5_fault_30 : decode cX5_fault 30 = .ok (.iconst 3, 1) := by decide +kernel
theorem dX5_fault_31 : decode cX5_fault 31 = .ok (.if_icmp .lt 17, 3) := by decide +kernel
theorem dX5_fault_34 : decode cX5_fault 34 = .ok (.aload_n 0, 1) := by decide +kernel
theorem dX5_fault_35 : decode cX5_fault 35 = .ok (.getfield 9, 3) := by decide +kernel
theorem dX5_fault_38 : decode cX5_fault 38 = .ok (.iconst 2, 1) := by decide +kernel
theorem dX5_fault_39 : decode cX5_fault 39 = .ok (.irem, 1) := by decide +kernel
theorem dX5_fault_40 : decode cX5_fault 40 = .ok (.iconst 1, 1) := by decide +kernel
theorem dX5_fault_41 : decode cX5_fault 41 = .ok (.if_icmp .ne 7, 3) := by decide +kernel
theorem dX5_fault_44 : decode cX5_fault 44 = .ok (.iconst 1, 1) := by decide +kernel
theorem dX5_fault_45 : decode cX5_fault 45 = .ok (.goto 4, 3) := by decide +kernel
theorem dX5_fault_48 : decode cX5_fault 48 = .ok (.iconst 0, 1) := by decide +kernel
theorem dX5_fault_49 : decode cX5_fault 49 = .ok (.istore_n 1, 1) := by decide +kernel
theorem dX5_fault_50 : decode cX5_fault 50 = .ok (.iload_n 1, 1) := by decide +kernel
theorem dX5_fault_51 : decode cX5_fault 51 = .ok (.ifCond .eq 7, 3) := by decide +kernel
theorem dX5_fault_54 : decode cX5_fault 54 = .ok (.iconst (-1), 1) := by decide +kernel
theorem dX5_fault_55 : decode cX5_fault 55 = .ok (.goto 7, 3) := by decide +kernel
theorem dX5_fault_58 : decode cX5_fault 58 = .ok (.aload_n 0, 1) := by decide +kernel
theorem dX5_fault_59 : decode cX5_fault 59 = .ok (.getfield 9, 3) := by decide +kernel
theorem dX5_fault_62 : decode cX5_fault 62 = .ok (.ireturn, 1) := by decide +kernel
set_option maxRecDepth 20000 in
theorem ggX5_isAllowed_X5_signAt : GoodIn wsX5_isAllowed wsX5_signAt := goodIn_r _ [5, 6, 7, 8, 9] (by decide +kernel) (by decide +kernel)
set_option maxRecDepth 20000 in
theorem gX5_isAllowed_X5_signAt : GoodIn wsX5_isAllowed (wsV RX5 23 RX5 yX5_signAt wsX5_signAt) := goodIn_app (goodIn_of _ (by decide +kernel)) ggX5_isAllowed_X5_signAt
theorem dX5_isAllowed_0 : decode cX5_isAllowed 0 = .ok (.aload_n 0, 1) := by decide +kernel
theorem dX5_isAllowed_1 : decode cX5_isAllowed 1 = .ok (.iload_n 1, 1) := by decide +kernel
theorem dX5_isAllowed_2 : decode cX5_isAllowed 2 = .ok (.invokevirtual 23, 3) := by decide +kernel
theorem dX5_isAllowed_5 : decode cX5_isAllowed 5 = .ok (.istore_n 2, 1) := by decide +kernel
theorem dX5_isAllowed_6 : decode cX5_isAllowed 6 = .ok (.iload_n 1, 1) := by decide +kernel
theorem dX5_isAllowed_7 : decode cX5_isAllowed 7 = .ok (.bipush 14, 2) := by decide +kernel
theorem dX5_isAllowed_9 : decode cX5_isAllowed 9 = .ok (.if_icmp .le 5, 3) := by decide +kernel
theorem dX5_isAllowed_12 : decode cX5_isAllowed 12 = .ok (.iconst 0, 1) := by decide +kernel
theorem dX5_isAllowed_13 : decode cX5_isAllowed 13 = .ok (.ireturn, 1) := by decide +kernel
theorem dX5_isAllowed_14 : decode cX5_isAllowed 14 = .ok (.iload_n 1, 1) := by decide +kernel
theorem dX5_isAllowed_15 : decode cX5_isAllowed 15 = .ok (.iconst 2, 1) := by decide +kernel
theorem dX5_isAllowed_16 : decode cX5_isAllowed 16 = .ok (.irem, 1) := by decide +kernel
theorem dX5_isAllowed_17 : decode cX5_isAllowed 17 = .ok (.ifCond .ne 23, 3) := by decide +kernel
theorem dX5_isAllowed_20 : decode cX5_isAllowed 20 = .ok (.iload_n 2, 1) := by decide +kernel
theorem dX5_isAllowed_21 : decode cX5_isAllowed 21 = .ok (.bipush 49, 2) := by decide +kernel
theorem dX5_isAllowed_23 : decode cX5_isAllowed 23 = .ok (.if_icmp .lt 13, 3) := by decide +kernel
theorem dX5_isAllowed_26 : decode cX5_isAllowed 26 = .ok (.iload_n 2, 1) := by decide +kernel
theorem dX5_isAllowed_27 : decode cX5_isAllowed 27 = .ok (.bipush 57, 2) := by decide +kernel
theorem dX5_isAllowed_29 : decode cX5_isAllowed 29 = .ok (.if_icmp .gt 7, 3) := by decide +kernel
theorem dX5_isAllowed_32 : decode cX5_isAllowed 32 = .ok (.iconst 1, 1) := by decide +kernel
theorem dX5_isAllowed_33 : decode cX5_isAllowed 33 = .ok (.goto 24, 3) := by decide +kernel
theorem dX5_isAllowed_36 : decode cX5_isAllowed 36 = .ok (.iconst 0, 1) := by decide +kernel
theorem dX5_isAllowed_37 : decode cX5_isAllowed 37 = .ok (.goto 20, 3) := by decide +kernel
theorem dX5_isAllowed_40 : decode cX5_isAllowed 40 = .ok (.iload_n 2, 1) := by decide +kernel
theorem dX5_isAllowed_41 : decode cX5_isAllowed 41 = .ok (.bipush 117, 2) := by decide +kernel
theorem dX5_isAllowed_43 : decode cX5_isAllowed 43 = .ok (.if_icmp .eq 9, 3) := by decide +kernel
theorem dX5_isAllowed_46 : decode cX5_isAllowed 46 = .ok (.iload_n 2, 1) := by decide +kernel
theorem dX5_isAllowed_47 : decode cX5_isAllowed 47 = .ok (.bipush 100, 2) := by decide +kernel
theorem dX5_isAllowed_49 : decode cX5_isAllowed 49 = .ok (.if_icmp .ne 7, 3) := by decide +kernel
theorem dX5_isAllowed_52 : decode cX5_isAllowed 52 = .ok (.iconst 1, 1) := by decide +kernel
theorem dX5_isAllowed_53 : decode cX5_isAllowed 53 = .ok (.goto 4, 3) := by decide +kernel
theorem dX5_isAllowed_56 : decode cX5_isAllowed 56 = .ok (.iconst 0, 1) := by decide +kernel
theorem dX5_isAllowed_57 : decode cX5_isAllowed 57 = .ok (.ireturn, 1) := by decide +kernel
set_option maxRecDepth 20000 in
theorem ggX6_init_X4_init : GoodIn wsX6_init wsX4_init := goodIn_r _ [28, 29, 2, 3, 30, 31, 32, 33, 34, 35, 36, 37, 38, 39, 40, 41, 90, 91, 92, 93, 94, 95, 96] (by decide +kernel) (by decide +kernel)
set_option maxRecDepth 20000 in
theorem gX6_init_X4_init : GoodIn wsX6_init (wsX4_init) := ggX6_init_X4_init
set_option maxRecDepth 20000 in
theorem ggX6_init_X0_init : GoodIn wsX6_init wsX0_init := goodIn_r _ [44, 45, 2, 3, 46, 47, 48, 5, 6, 49, 27, 28, 29, 30, 31, 32, 33, 34, 35, 36, 37, 38, 39, 40, 41, 104, 105, 90, 91, 92, 93, 94, 95, 96] (by decide +kernel) (by decide +kernel)
set_option maxRecDepth 20000 in
theorem gX6_init_X0_init : GoodIn wsX6_init (wsX0_init) := ggX6_init_X0_init
set_option maxRecDepth 20000 in
theorem ggX6_init_X5_init : GoodIn wsX6_init wsX5_init := goodIn_r _ [52, 53, 2, 3, 54, 55, 56, 106, 107] (by decide +kernel) (by decide +kernel)
set_option maxRecDepth 20000 in
theorem gX6_init_X5_init : GoodIn wsX6_init (wsX5_init) := ggX6_init_X5_init
set_option maxRecDepth 20000 in
theorem ggX6_init_X2_init : GoodIn wsX6_init wsX2_init := goodIn_r _ [59, 60, 2, 3, 61, 62, 63, 64, 65, 66, 67, 68, 35, 69, 70, 71, 72, 73, 74, 115, 116, 117, 118, 119, 120, 121, 122, 123, 124, 125, 108] (by decide +kernel) (by decide +kernel)
set_option maxRecDepth 20000 in
theorem gX6_init_X2_init : GoodIn wsX6_init (wsX2_init) := ggX6_init_X2_init
set_option maxRecDepth 20000 in
theorem ggX6_init_X1_init : GoodIn wsX6_init wsX1_init := goodIn_r _ [77, 78, 2, 3, 79, 19, 20, 80, 81, 5, 6, 82, 83, 35, 84, 85, 86, 87, 88, 58, 59, 60, 61, 62, 63, 64, 65, 66, 67, 68, 69, 70, 71, 72, 73, 74, 89, 27, 28, 29, 30, 31, 32, 33, 34, 36, 37, 38, 39, 40, 41, 108, 109, 110, 111, 112, 113, 114, 90, 91, 92, 93, 94, 95, 96, 115, 116, 117, 118, 119, 120, 121, 122, 123, 124, 125] (by decide +kernel) (by decide +kernel)
set_option maxRecDepth 20000 in
theorem gX6_init_X1_init : GoodIn wsX6_init (wsX1_init) := ggX6_init_X1_init
theorem dX6_init_0 : decode cX6_init 0 = .ok (.aload_n 0, 1) := by decide +kernel
theorem dX6_init_1 : decode cX6_init 1 = .ok (.invokespecial 1, 3) := by decide +kernel
theorem dX6_init_4 : decode cX6_init 4 = .ok (.aload_n 0, 1) := by decide +kernel
theorem dX6_init_5 : decode cX6_init 5 = .ok (.new 7, 3) := by decide +kernel
theorem dX6_init_8 : decode cX6_init 8 = .ok (.dup, 1) := by decide +kernel
theorem dX6_init_9 : decode cX6_init 9 = .ok (.invokespecial 9, 3) := by decide +kernel
theorem dX6_init_12 : decode cX6_init 12 = .ok (.putfield 10, 3) := by decide +kernel
theorem dX6_init_15 : decode cX6_init 15 = .ok (.aload_n 0, 1) := by decide +kernel
theorem dX6_init_16 : decode cX6_init 16 = .ok (.new 7, 3) := by decide +kernel
theorem dX6_init_19 : decode cX6_init 19 = .ok (.dup, 1) := by decide +kernel
theorem dX6_init_20 : decode cX6_init 20 = .ok (.invokespecial 9, 3) := by decide +kernel
theorem dX6_init_23 : decode cX6_init 23 = .ok (.putfield 16, 3) := by decide +kernel
theorem dX6_init_26 : decode cX6_init 26 = .ok (.aload_n 0, 1) := by decide +kernel
theorem dX6_init_27 : decode cX6_init 27 = .ok (.iconst 0, 1) := by decide +kernel
theorem dX6_init_28 : decode cX6_init 28 = .ok (.putfield 19, 3) := by decide +kernel
theorem dX6_init_31 : decode cX6_init 31 = .ok (.aload_n 0, 1) := by decide +kernel
theorem dX6_init_32 : decode cX6_init 32 = .ok (.new 23, 3) := by decide +kernel
theorem dX6_init_35 : decode cX6_init 35 = .ok (.dup, 1) := by decide +kernel
theorem dX6_init_36 : decode cX6_init 36 = .ok (.invokespecial 25, 3) := by decide +kernel
theorem dX6_init_39 : decode cX6_init 39 = .ok (.putfield 26, 3) := by decide +kernel
theorem dX6_init_42 : decode cX6_init 42 = .ok (.aload_n 0, 1) := by decide +kernel
theorem dX6_init_43 : decode cX6_init 43 = .ok (.new 30, 3) := by decide +kernel
theorem dX6_init_46 : decode cX6_init 46 = .ok (.dup, 1) := by decide +kernel
theorem dX6_init_47 : decode cX6_init 47 = .ok (.invokespecial 32, 3) := by decide +kernel
theorem dX6_init_50 : decode cX6_init 50 = .ok (.putfield 33, 3) := by decide +kernel
theorem dX6_init_53 : decode cX6_init 53 = .ok (.aload_n 0, 1) := by decide +kernel
theorem dX6_init_54 : decode cX6_init 54 = .ok (.new 37, 3) := by decide +kernel
theorem dX6_init_57 : decode cX6_init 57 = .ok (.dup, 1) := by decide +kernel
theorem dX6_init_58 : decode cX6_init 58 = .ok (.invokespecial 39, 3) := by decide +kernel
theorem dX6_init_61 : decode cX6_init 61 = .ok (.putfield 40, 3) := by decide +kernel
theorem dX6_init_64 : decode cX6_init 64 = .ok (.aload_n 0, 1) := by decide +kernel
theorem dX6_init_65 : decode cX6_init 65 = .ok (.new 44, 3) := by decide +kernel
theorem dX6_init_68 : decode cX6_init 68 = .ok (.dup, 1) := by decide +kernel
theorem dX6_init_69 : decode cX6_init 69 = .ok (.invokespecial 46, 3) := by decide +kernel
theorem dX6_init_72 : decode cX6_init 72 = .ok (.putfield 47, 3) := by decide +kernel
theorem dX6_init_75 : decode cX6_init 75 = .ok (.return_, 1) := by decide +kernel
set_option maxRecDepth 20000 in
theorem ggX6_takeStrip_X5_fault : GoodIn wsX6_takeStrip wsX5_fault := goodIn_r _ [9, 10, 11, 12, 13, 8, 14, 15, 16, 17, 18, 19, 89, 90] (by decide +kernel) (by decide +kernel)
set_option maxRecDepth 20000 in
theorem gX6_takeStrip_X5_fault : GoodIn wsX6_takeStrip (wsV RX6 51 RX5 yX5_fault wsX5_fault) := goodIn_app (goodIn_of _ (by decide +kernel)) ggX6_takeStrip_X5_fault
set_option maxRecDepth 20000 in
theorem ggX6_takeStrip_X0_record : GoodIn wsX6_takeStrip wsX0_record := goodIn_r _ [24, 25, 26, 27, 28, 29, 23, 30, 31, 32, 33, 34, 35, 36, 37, 38, 39, 40, 41, 42, 43, 44, 45, 46, 47, 48, 49, 50, 91, 92, 82, 83, 84, 85, 86, 87, 88] (by decide +kernel) (by decide +kernel)
set_option maxRecDepth 20000 in
theorem gX6_takeStrip_X0_record : GoodIn wsX6_takeStrip (wsV RX6 55 RX0 yX0_record wsX0_record) := goodIn_app (goodIn_of _ (by decide +kernel)) ggX6_takeStrip_X0_record
set_option maxRecDepth 20000 in
theorem ggX6_takeStrip_X5_pairs : GoodIn wsX6_takeStrip wsX5_pairs := goodIn_r _ [54, 10, 89, 90] (by decide +kernel) (by decide +kernel)
set_option maxRecDepth 20000 in
theorem gX6_takeStrip_X5_pairs : GoodIn wsX6_takeStrip (wsV RX6 59 RX5 yX5_pairs wsX5_pairs) := goodIn_app (goodIn_of _ (by decide +kernel)) ggX6_takeStrip_X5_pairs
set_option maxRecDepth 20000 in
theorem ggX6_takeStrip_X4_beginStrip : GoodIn wsX6_takeStrip wsX4_beginStrip := goodIn_r _ [58, 59, 60, 61, 62, 63, 64, 65, 40, 41, 42, 43, 82, 83, 84, 85, 86, 87, 88] (by decide +kernel) (by decide +kernel)
set_option maxRecDepth 20000 in
theorem gX6_takeStrip_X4_beginStrip : GoodIn wsX6_takeStrip (wsV RX6 62 RX4 yX4_beginStrip wsX4_beginStrip) := goodIn_app (goodIn_of _ (by decide +kernel)) ggX6_takeStrip_X4_beginStrip
set_option maxRecDepth 20000 in
theorem ggX6_takeStrip_X5_signAt : GoodIn wsX6_takeStrip wsX5_signAt := goodIn_r _ [18, 10, 19, 89, 90] (by decide +kernel) (by decide +kernel)
set_option maxRecDepth 20000 in
theorem gX6_takeStrip_X5_signAt : GoodIn wsX6_takeStrip (wsV RX6 70 RX5 yX5_signAt wsX5_signAt) := goodIn_app (goodIn_of _ (by decide +kernel)) ggX6_takeStrip_X5_signAt
set_option maxRecDepth 20000 in
theorem ggX6_takeStrip_X4_putLength : GoodIn wsX6_takeStrip wsX4_putLength := goodIn_r _ [70, 45, 82, 83, 84, 85, 86, 87, 88] (by decide +kernel) (by decide +kernel)
set_option maxRecDepth 20000 in
theorem gX6_takeStrip_X4_putLength : GoodIn wsX6_takeStrip (wsV RX6 74 RX4 yX4_putLength wsX4_putLength) := goodIn_app (goodIn_of _ (by decide +kernel)) ggX6_takeStrip_X4_putLength
set_option maxRecDepth 20000 in
theorem ggX6_takeStrip_X4_putUp : GoodIn wsX6_takeStrip wsX4_putUp := goodIn_r _ [74, 41, 82, 83, 84, 85, 86, 87, 88] (by decide +kernel) (by decide +kernel)
set_option maxRecDepth 20000 in
theorem gX6_takeStrip_X4_putUp : GoodIn wsX6_takeStrip (wsV RX6 78 RX4 yX4_putUp wsX4_putUp) := goodIn_app (goodIn_of _ (by decide +kernel)) ggX6_takeStrip_X4_putUp
theorem dX6_takeStrip_0 : decode cX6_takeStrip 0 = .ok (.aload_n 0, 1) := by decide +kernel
theorem dX6_takeStrip_1 : decode cX6_takeStrip 1 = .ok (.getfield 33, 3) := by decide +kernel
theorem dX6_takeStrip_4 : decode cX6_takeStrip 4 = .ok (.invokevirtual 51, 3) := by decide +kernel
theorem dX6_takeStrip_7 : decode cX6_takeStrip 7 = .ok (.istore_n 1, 1) := by decide +kernel
theorem dX6_takeStrip_8 : decode cX6_takeStrip 8 = .ok (.iload_n 1, 1) := by decide +kernel
theorem dX6_takeStrip_9 : decode cX6_takeStrip 9 = .ok (.iconst (-1), 1) := by decide +kernel
theorem dX6_takeStrip_10 : decode cX6_takeStrip 10 = .ok (.if_icmp .eq 9, 3) := by decide +kernel
theorem dX6_takeStrip_13 : decode cX6_takeStrip 13 = .ok (.sipush (-1100), 3) := by decide +kernel
theorem dX6_takeStrip_16 : decode cX6_takeStrip 16 = .ok (.iload_n 1, 1) := by decide +kernel
theorem dX6_takeStrip_17 : decode cX6_takeStrip 17 = .ok (.isub, 1) := by decide +kernel
theorem dX6_takeStrip_18 : decode cX6_takeStrip 18 = .ok (.ireturn, 1) := by decide +kernel
theorem dX6_takeStrip_19 : decode cX6_takeStrip 19 = .ok (.aload_n 0, 1) := by decide +kernel
theorem dX6_takeStrip_20 : decode cX6_takeStrip 20 = .ok (.getfield 26, 3) := by decide +kernel
theorem dX6_takeStrip_23 : decode cX6_takeStrip 23 = .ok (.aload_n 0, 1) := by decide +kernel
theorem dX6_takeStrip_24 : decode cX6_takeStrip 24 = .ok (.getfield 10, 3) := by decide +kernel
theorem dX6_takeStrip_27 : decode cX6_takeStrip 27 = .ok (.invokevirtual 55, 3) := by decide +kernel
theorem dX6_takeStrip_30 : decode cX6_takeStrip 30 = .ok (.aload_n 0, 1) := by decide +kernel
theorem dX6_takeStrip_31 : decode cX6_takeStrip 31 = .ok (.getfield 10, 3) := by decide +kernel
theorem dX6_takeStrip_34 : decode cX6_takeStrip 34 = .ok (.aload_n 0, 1) := by decide +kernel
theorem dX6_takeStrip_35 : decode cX6_takeStrip 35 = .ok (.getfield 33, 3) := by decide +kernel
theorem dX6_takeStrip_38 : decode cX6_takeStrip 38 = .ok (.invokevirtual 59, 3) := by decide +kernel
theorem dX6_takeStrip_41 : decode cX6_takeStrip 41 = .ok (.invokevirtual 62, 3) := by decide +kernel
theorem dX6_takeStrip_44 : decode cX6_takeStrip 44 = .ok (.iconst 0, 1) := by decide +kernel
theorem dX6_takeStrip_45 : decode cX6_takeStrip 45 = .ok (.istore_n 2, 1) := by decide +kernel
theorem dX6_takeStrip_46 : decode cX6_takeStrip 46 = .ok (.iload_n 2, 1) := by decide +kernel
theorem dX6_takeStrip_47 : decode cX6_takeStrip 47 = .ok (.aload_n 0, 1) := by decide +kernel
theorem dX6_takeStrip_48 : decode cX6_takeStrip 48 = .ok (.getfield 10, 3) := by decide +kernel
theorem dX6_takeStrip_51 : decode cX6_takeStrip 51 = .ok (.getfield 66, 3) := by decide +kernel
theorem dX6_takeStrip_54 : decode cX6_takeStrip 54 = .ok (.if_icmp .gt 30, 3) := by decide +kernel
theorem dX6_takeStrip_57 : decode cX6_takeStrip 57 = .ok (.aload_n 0, 1) := by decide +kernel
theorem dX6_takeStrip_58 : decode cX6_takeStrip 58 = .ok (.getfield 10, 3) := by decide +kernel
theorem dX6_takeStrip_61 : decode cX6_takeStrip 61 = .ok (.iload_n 2, 1) := by decide +kernel
theorem dX6_takeStrip_62 : decode cX6_takeStrip 62 = .ok (.aload_n 0, 1) := by decide +kernel
theorem dX6_takeStrip_63 : decode cX6_takeStrip 63 = .ok (.getfield 33, 3) := by decide +kernel
theorem dX6_takeStrip_66 : decode cX6_takeStrip 66 = .ok (.iconst 2, 1) := by decide +kernel
theorem dX6_takeStrip_67 : decode cX6_takeStrip 67 = .ok (.iload_n 2, 1) := by decide +kernel
theorem dX6_takeStrip_68 : decode cX6_takeStrip 68 = .ok (.imul, 1) := by decide +kernel
theorem dX6_takeStrip_69 : decode cX6_takeStrip 69 = .ok (.invokevirtual 70, 3) := by decide +kernel
theorem dX6_takeStrip_72 : decode cX6_takeStrip 72 = .ok (.bipush 48, 2) := by decide +kernel
theorem dX6_takeStrip_74 : decode cX6_takeStrip 74 = .ok (.isub, 1) := by decide +kernel
theorem dX6_takeStrip_75 : decode cX6_takeStrip 75 = .ok (.invokevirtual 74, 3) := by decide +kernel
theorem dX6_takeStrip_78 : decode cX6_takeStrip 78 = .ok (.iinc 2 1, 3) := by decide +kernel
theorem dX6_takeStrip_81 : decode cX6_takeStrip 81 = .ok (.goto (-35), 3) := by decide +kernel
theorem dX6_takeStrip_84 : decode cX6_takeStrip 84 = .ok (.iconst 0, 1) := by decide +kernel
theorem dX6_takeStrip_85 : decode cX6_takeStrip 85 = .ok (.istore_n 2, 1) := by decide +kernel
theorem dX6_takeStrip_86 : decode cX6_takeStrip 86 = .ok (.iload_n 2, 1) := by decide +kernel
theorem dX6_takeStrip_87 : decode cX6_takeStrip 87 = .ok (.aload_n 0, 1) := by decide +kernel
theorem dX6_takeStrip_88 : decode cX6_takeStrip 88 = .ok (.getfield 10, 3) := by decide +kernel
theorem dX6_takeStrip_91 : decode cX6_takeStrip 91 = .ok (.getfield 66, 3) := by decide +kernel
theorem dX6_takeStrip_94 : decode cX6_takeStrip 94 = .ok (.if_icmp .ge 39, 3) := by decide +kernel
theorem dX6_takeStrip_97 : decode cX6_takeStrip 97 = .ok (.aload_n 0, 1) := by decide +kernel
theorem dX6_takeStrip_98 : decode cX6_takeStrip 98 = .ok (.getfield 10, 3) := by decide +kernel
theorem dX6_takeStrip_101 : decode cX6_takeStrip 101 = .ok (.iload_n 2, 1) := by decide +kernel
theorem dX6_takeStrip_102 : decode cX6_takeStrip 102 = .ok (.aload_n 0, 1) := by decide +kernel
theorem dX6_takeStrip_103 : decode cX6_takeStrip 103 = .ok (.getfield 33, 3) := by decide +kernel
theorem dX6_takeStrip_106 : decode cX6_takeStrip 106 = .ok (.iconst 2, 1) := by decide +kernel
theorem dX6_takeStrip_107 : decode cX6_takeStrip 107 = .ok (.iload_n 2, 1) := by decide +kernel
theorem dX6_takeStrip_108 : decode cX6_takeStrip 108 = .ok (.imul, 1) := by decide +kernel
theorem dX6_takeStrip_109 : decode cX6_takeStrip 109 = .ok (.iconst 1, 1) := by decide +kernel
theorem dX6_takeStrip_110 : decode cX6_takeStrip 110 = .ok (.iadd, 1) := by decide +kernel
theorem dX6_takeStrip_111 : decode cX6_takeStrip 111 = .ok (.invokevirtual 70, 3) := by decide +kernel
theorem dX6_takeStrip_114 : decode cX6_takeStrip 114 = .ok (.bipush 117, 2) := by decide +kernel
theorem dX6_takeStrip_116 : decode cX6_takeStrip 116 = .ok (.if_icmp .ne 7, 3) := by decide +kernel
theorem dX6_takeStrip_119 : decode cX6_takeStrip 119 = .ok (.iconst 1, 1) := by decide +kernel
theorem dX6_takeStrip_120 : decode cX6_takeStrip 120 = .ok (.goto 4, 3) := by decide +kernel
theorem dX6_takeStrip_123 : decode cX6_takeStrip 123 = .ok (.iconst 0, 1) := by decide +kernel
theorem dX6_takeStrip_124 : decode cX6_takeStrip 124 = .ok (.invokevirtual 78, 3) := by decide +kernel
theorem dX6_takeStrip_127 : decode cX6_takeStrip 127 = .ok (.iinc 2 1, 3) := by decide +kernel
theorem dX6_takeStrip_130 : decode cX6_takeStrip 130 = .ok (.goto (-44), 3) := by decide +kernel
theorem dX6_takeStrip_133 : decode cX6_takeStrip 133 = .ok (.aload_n 0, 1) := by decide +kernel
theorem dX6_takeStrip_134 : decode cX6_takeStrip 134 = .ok (.getfield 10, 3) := by decide +kernel
theorem dX6_takeStrip_137 : decode cX6_takeStrip 137 = .ok (.getfield 66, 3) := by decide +kernel
theorem dX6_takeStrip_140 : decode cX6_takeStrip 140 = .ok (.ireturn, 1) := by decide +kernel
set_option maxRecDepth 20000 in
theorem ggX6_setLength_X4_hasFlange : GoodIn wsX6_setLength wsX4_hasFlange := goodIn_r _ [8, 9, 54, 55, 56, 57, 58, 59, 60] (by decide +kernel) (by decide +kernel)
set_option maxRecDepth 20000 in
theorem gX6_setLength_X4_hasFlange : GoodIn wsX6_setLength (wsV RX6 82 RX4 yX4_hasFlange wsX4_hasFlange) := goodIn_app (goodIn_of _ (by decide +kernel)) ggX6_setLength_X4_hasFlange
set_option maxRecDepth 20000 in
theorem ggX6_setLength_X4_lengthAt : GoodIn wsX6_setLength wsX4_lengthAt := goodIn_r _ [13, 14, 54, 55, 56, 57, 58, 59, 60] (by decide +kernel) (by decide +kernel)
set_option maxRecDepth 20000 in
theorem gX6_setLength_X4_lengthAt : GoodIn wsX6_setLength (wsV RX6 89 RX4 yX4_lengthAt wsX4_lengthAt) := goodIn_app (goodIn_of _ (by decide +kernel)) ggX6_setLength_X4_lengthAt
set_option maxRecDepth 20000 in
theorem ggX6_setLength_X0_record : GoodIn wsX6_setLength wsX0_record := goodIn_r _ [19, 20, 21, 22, 23, 24, 18, 25, 26, 27, 28, 29, 30, 31, 32, 7, 33, 9, 34, 35, 36, 37, 14, 38, 39, 40, 41, 42, 61, 62, 54, 55, 56, 57, 58, 59, 60] (by decide +kernel) (by decide +kernel)
set_option maxRecDepth 20000 in
theorem gX6_setLength_X0_record : GoodIn wsX6_setLength (wsV RX6 55 RX0 yX0_record wsX0_record) := goodIn_app (goodIn_of _ (by decide +kernel)) ggX6_setLength_X0_record
set_option maxRecDepth 20000 in
theorem ggX6_setLength_X4_putLength : GoodIn wsX6_setLength wsX4_putLength := goodIn_r _ [46, 14, 54, 55, 56, 57, 58, 59, 60] (by decide +kernel) (by decide +kernel)
set_option maxRecDepth 20000 in
theorem gX6_setLength_X4_putLength : GoodIn wsX6_setLength (wsV RX6 74 RX4 yX4_putLength wsX4_putLength) := goodIn_app (goodIn_of _ (by decide +kernel)) ggX6_setLength_X4_putLength
theorem dX6_setLength_0 : decode cX6_setLength 0 = .ok (.aload_n 0, 1) := by decide +kernel
theorem dX6_setLength_1 : decode cX6_setLength 1 = .ok (.getfield 10, 3) := by decide +kernel
theorem dX6_setLength_4 : decode cX6_setLength 4 = .ok (.iload_n 1, 1) := by decide +kernel
theorem dX6_setLength_5 : decode cX6_setLength 5 = .ok (.invokevirtual 82, 3) := by decide +kernel
theorem dX6_setLength_8 : decode cX6_setLength 8 = .ok (.ifCond .ne 7, 3) := by decide +kernel
theorem dX6_setLength_11 : decode cX6_setLength 11 = .ok (.sipush (-1001), 3) := by decide +kernel
theorem dX6_setLength_14 : decode cX6_setLength 14 = .ok (.ireturn, 1) := by decide +kernel
theorem dX6_setLength_15 : decode cX6_setLength 15 = .ok (.iload_n 2, 1) := by decide +kernel
theorem dX6_setLength_16 : decode cX6_setLength 16 = .ok (.iconst 1, 1) := by decide +kernel
theorem dX6_setLength_17 : decode cX6_setLength 17 = .ok (.if_icmp .lt 9, 3) := by decide +kernel
theorem dX6_setLength_20 : decode cX6_setLength 20 = .ok (.iload_n 2, 1) := by decide +kernel
theorem dX6_setLength_21 : decode cX6_setLength 21 = .ok (.bipush 9, 2) := by decide +kernel
theorem dX6_setLength_23 : decode cX6_setLength 23 = .ok (.if_icmp .le 7, 3) := by decide +kernel
theorem dX6_setLength_26 : decode cX6_setLength 26 = .ok (.sipush (-1002), 3) := by decide +kernel
theorem dX6_setLength_29 : decode cX6_setLength 29 = .ok (.ireturn, 1) := by decide +kernel
theorem dX6_setLength_30 : decode cX6_setLength 30 = .ok (.aload_n 0, 1) := by decide +kernel
theorem dX6_setLength_31 : decode cX6_setLength 31 = .ok (.getfield 10, 3) := by decide +kernel
theorem dX6_setLength_34 : decode cX6_setLength 34 = .ok (.getfield 86, 3) := by decide +kernel
theorem dX6_setLength_37 : decode cX6_setLength 37 = .ok (.ifCond .eq 7, 3) := by decide +kernel
theorem dX6_setLength_40 : decode cX6_setLength 40 = .ok (.sipush (-1004), 3) := by decide +kernel
theorem dX6_setLength_43 : decode cX6_setLength 43 = .ok (.ireturn, 1) := by decide +kernel
theorem dX6_setLength_44 : decode cX6_setLength 44 = .ok (.aload_n 0, 1) := by decide +kernel
theorem dX6_setLength_45 : decode cX6_setLength 45 = .ok (.getfield 10, 3) := by decide +kernel
theorem dX6_setLength_48 : decode cX6_setLength 48 = .ok (.iload_n 1, 1) := by decide +kernel
theorem dX6_setLength_49 : decode cX6_setLength 49 = .ok (.invokevirtual 89, 3) := by decide +kernel
theorem dX6_setLength_52 : decode cX6_setLength 52 = .ok (.istore_n 3, 1) := by decide +kernel
theorem dX6_setLength_53 : decode cX6_setLength 53 = .ok (.iload_n 3, 1) := by decide +kernel
theorem dX6_setLength_54 : decode cX6_setLength 54 = .ok (.iload_n 2, 1) := by decide +kernel
theorem dX6_setLength_55 : decode cX6_setLength 55 = .ok (.if_icmp .ne 7, 3) := by decide +kernel
theorem dX6_setLength_58 : decode cX6_setLength 58 = .ok (.sipush (-1005), 3) := by decide +kernel
theorem dX6_setLength_61 : decode cX6_setLength 61 = .ok (.ireturn, 1) := by decide +kernel
theorem dX6_setLength_62 : decode cX6_setLength 62 = .ok (.aload_n 0, 1) := by decide +kernel
theorem dX6_setLength_63 : decode cX6_setLength 63 = .ok (.getfield 26, 3) := by decide +kernel
theorem dX6_setLength_66 : decode cX6_setLength 66 = .ok (.aload_n 0, 1) := by decide +kernel
theorem dX6_setLength_67 : decode cX6_setLength 67 = .ok (.getfield 10, 3) := by decide +kernel
theorem dX6_setLength_70 : decode cX6_setLength 70 = .ok (.invokevirtual 55, 3) := by decide +kernel
theorem dX6_setLength_73 : decode cX6_setLength 73 = .ok (.aload_n 0, 1) := by decide +kernel
theorem dX6_setLength_74 : decode cX6_setLength 74 = .ok (.getfield 10, 3) := by decide +kernel
theorem dX6_setLength_77 : decode cX6_setLength 77 = .ok (.iload_n 1, 1) := by decide +kernel
theorem dX6_setLength_78 : decode cX6_setLength 78 = .ok (.iload_n 2, 1) := by decide +kernel
theorem dX6_setLength_79 : decode cX6_setLength 79 = .ok (.invokevirtual 74, 3) := by decide +kernel
theorem dX6_setLength_82 : decode cX6_setLength 82 = .ok (.iload_n 3, 1) := by decide +kernel
theorem dX6_setLength_83 : decode cX6_setLength 83 = .ok (.ireturn, 1) := by decide +kernel
set_option maxRecDepth 20000 in
theorem ggX6_setUp_X4_hasBend : GoodIn wsX6_setUp wsX4_hasBend := goodIn_r _ [9, 10, 62, 63, 64, 65, 66, 67, 68] (by decide +kernel) (by decide +kernel)
set_option maxRecDepth 20000 in
theorem gX6_setUp_X4_hasBend : GoodIn wsX6_setUp (wsV RX6 93 RX4 yX4_hasBend wsX4_hasBend) := goodIn_app (goodIn_of _ (by decide +kernel)) ggX6_setUp_X4_hasBend
set_option maxRecDepth 20000 in
theorem ggX6_setUp_X4_isUp : GoodIn wsX6_setUp wsX4_isUp := goodIn_r _ [14, 15, 62, 63, 64, 65, 66, 67, 68] (by decide +kernel) (by decide +kernel)
set_option maxRecDepth 20000 in
theorem gX6_setUp_X4_isUp : GoodIn wsX6_setUp (wsV RX6 96 RX4 yX4_isUp wsX4_isUp) := goodIn_app (goodIn_of _ (by decide +kernel)) ggX6_setUp_X4_isUp
set_option maxRecDepth 20000 in
theorem ggX6_setUp_X0_record : GoodIn wsX6_setUp wsX0_record := goodIn_r _ [20, 21, 22, 23, 24, 25, 19, 26, 27, 28, 29, 30, 31, 32, 33, 8, 34, 10, 15, 35, 36, 37, 38, 39, 40, 41, 42, 43, 69, 70, 62, 63, 64, 65, 66, 67, 68] (by decide +kernel) (by decide +kernel)
set_option maxRecDepth 20000 in
theorem gX6_setUp_X0_record : GoodIn wsX6_setUp (wsV RX6 55 RX0 yX0_record wsX0_record) := goodIn_app (goodIn_of _ (by decide +kernel)) ggX6_setUp_X0_record
set_option maxRecDepth 20000 in
theorem ggX6_setUp_X4_putUp : GoodIn wsX6_setUp wsX4_putUp := goodIn_r _ [47, 15, 62, 63, 64, 65, 66, 67, 68] (by decide +kernel) (by decide +kernel)
set_option maxRecDepth 20000 in
theorem gX6_setUp_X4_putUp : GoodIn wsX6_setUp (wsV RX6 78 RX4 yX4_putUp wsX4_putUp) := goodIn_app (goodIn_of _ (by decide +kernel)) ggX6_setUp_X4_putUp
set_option maxRecDepth 20000 in
theorem ggX6_setUp_J6_bitCount_0f7a4 : GoodIn wsX6_setUp wsJ6_bitCount_0f7a4 := goodIn_r _ [51, 52, 53, 54] (by decide +kernel) (by decide +kernel)
set_option maxRecDepth 20000 in
theorem gX6_setUp_J6_bitCount_0f7a4 : GoodIn wsX6_setUp (va_wsS RX6 102 yJ6_bitCount_0f7a4 wsJ6_bitCount_0f7a4) := goodIn_app (goodIn_of _ (by decide +kernel)) ggX6_setUp_J6_bitCount_0f7a4
theorem dX6_setUp_0 : decode cX6_setUp 0 = .ok (.aload_n 0, 1) := by decide +kernel
theorem dX6_setUp_1 : decode cX6_setUp 1 = .ok (.getfield 10, 3) := by decide +kernel
theorem dX6_setUp_4 : decode cX6_setUp 4 = .ok (.iload_n 1, 1) := by decide +kernel
theorem dX6_setUp_5 : decode cX6_setUp 5 = .ok (.invokevirtual 93, 3) := by decide +kernel
theorem dX6_setUp_8 : decode cX6_setUp 8 = .ok (.ifCond .ne 7, 3) := by decide +kernel
theorem dX6_setUp_11 : decode cX6_setUp 11 = .ok (.sipush (-1001), 3) := by decide +kernel
theorem dX6_setUp_14 : decode cX6_setUp 14 = .ok (.ireturn, 1) := by decide +kernel
theorem dX6_setUp_15 : decode cX6_setUp 15 = .ok (.aload_n 0, 1) := by decide +kernel
theorem dX6_setUp_16 : decode cX6_setUp 16 = .ok (.getfield 10, 3) := by decide +kernel
theorem dX6_setUp_19 : decode cX6_setUp 19 = .ok (.getfield 86, 3) := by decide +kernel
theorem dX6_setUp_22 : decode cX6_setUp 22 = .ok (.ifCond .eq 7, 3) := by decide +kernel
theorem dX6_setUp_25 : decode cX6_setUp 25 = .ok (.sipush (-1004), 3) := by decide +kernel
theorem dX6_setUp_28 : decode cX6_setUp 28 = .ok (.ireturn, 1) := by decide +kernel
theorem dX6_setUp_29 : decode cX6_setUp 29 = .ok (.aload_n 0, 1) := by decide +kernel
theorem dX6_setUp_30 : decode cX6_setUp 30 = .ok (.getfield 10, 3) := by decide +kernel
theorem dX6_setUp_33 : decode cX6_setUp 33 = .ok (.iload_n 1, 1) := by decide +kernel
theorem dX6_setUp_34 : decode cX6_setUp 34 = .ok (.invokevirtual 96, 3) := by decide +kernel
theorem dX6_setUp_37 : decode cX6_setUp 37 = .ok (.iload_n 2, 1) := by decide +kernel
theorem dX6_setUp_38 : decode cX6_setUp 38 = .ok (.if_icmp .ne 7, 3) := by decide +kernel
theorem dX6_setUp_41 : decode cX6_setUp 41 = .ok (.sipush (-1005), 3) := by decide +kernel
theorem dX6_setUp_44 : decode cX6_setUp 44 = .ok (.ireturn, 1) := by decide +kernel
theorem dX6_setUp_45 : decode cX6_setUp 45 = .ok (.aload_n 0, 1) := by decide +kernel
theorem dX6_setUp_46 : decode cX6_setUp 46 = .ok (.getfield 26, 3) := by decide +kernel
theorem dX6_setUp_49 : decode cX6_setUp 49 = .ok (.aload_n 0, 1) := by decide +kernel
theorem dX6_setUp_50 : decode cX6_setUp 50 = .ok (.getfield 10, 3) := by decide +kernel
theorem dX6_setUp_53 : decode cX6_setUp 53 = .ok (.invokevirtual 55, 3) := by decide +kernel
theorem dX6_setUp_56 : decode cX6_setUp 56 = .ok (.aload_n 0, 1) := by decide +kernel
theorem dX6_setUp_57 : decode cX6_setUp 57 = .ok (.getfield 10, 3) := by decide +kernel
theorem dX6_setUp_60 : decode cX6_setUp 60 = .ok (.iload_n 1, 1) := by decide +kernel
theorem dX6_setUp_61 : decode cX6_setUp 61 = .ok (.iload_n 2, 1) := by decide +kernel
theorem dX6_setUp_62 : decode cX6_setUp 62 = .ok (.invokevirtual 78, 3) := by decide +kernel
theorem dX6_setUp_65 : decode cX6_setUp 65 = .ok (.aload_n 0, 1) := by decide +kernel
theorem dX6_setUp_66 : decode cX6_setUp 66 = .ok (.getfield 10, 3) := by decide +kernel
theorem dX6_setUp_69 : decode cX6_setUp 69 = .ok (.getfield 99, 3) := by decide +kernel
theorem dX6_setUp_72 : decode cX6_setUp 72 = .ok (.invokestatic 102, 3) := by decide +kernel
theorem dX6_setUp_75 : decode cX6_setUp 75 = .ok (.ireturn, 1) := by decide +kernel
set_option maxRecDepth 20000 in
theorem ggX6_set_X6_mayBeSet : GoodIn wsX6_set wsX6_mayBeSet := goodIn_r _ [6, 7, 8] (by decide +kernel) (by decide +kernel)
set_option maxRecDepth 20000 in
theorem gX6_set_X6_mayBeSet : GoodIn wsX6_set (va_wsS RX6 107 yX6_mayBeSet wsX6_mayBeSet) := goodIn_app (goodIn_of _ (by decide +kernel)) ggX6_set_X6_mayBeSet
set_option maxRecDepth 20000 in
theorem ggX6_set_X4_settingAt : GoodIn wsX6_set wsX4_settingAt := goodIn_r _ [13, 14, 55, 56, 57, 58, 59, 60, 61] (by decide +kernel) (by decide +kernel)
set_option maxRecDepth 20000 in
theorem gX6_set_X4_settingAt : GoodIn wsX6_set (wsV RX6 111 RX4 yX4_settingAt wsX4_settingAt) := goodIn_app (goodIn_of _ (by decide +kernel)) ggX6_set_X4_settingAt
set_option maxRecDepth 20000 in
theorem ggX6_set_X0_record : GoodIn wsX6_set wsX0_record := goodIn_r _ [19, 20, 21, 22, 23, 24, 18, 25, 26, 27, 28, 29, 30, 31, 32, 12, 33, 34, 35, 36, 37, 38, 39, 40, 41, 42, 43, 14, 62, 63, 55, 56, 57, 58, 59, 60, 61] (by decide +kernel) (by decide +kernel)
set_option maxRecDepth 20000 in
theorem gX6_set_X0_record : GoodIn wsX6_set (wsV RX6 55 RX0 yX0_record wsX0_record) := goodIn_app (goodIn_of _ (by decide +kernel)) ggX6_set_X0_record
set_option maxRecDepth 20000 in
theorem ggX6_set_X4_putSetting : GoodIn wsX6_set wsX4_putSetting := goodIn_r _ [47, 14, 55, 56, 57, 58, 59, 60, 61] (by decide +kernel) (by decide +kernel)
set_option maxRecDepth 20000 in
theorem gX6_set_X4_putSetting : GoodIn wsX6_set (wsV RX6 114 RX4 yX4_putSetting wsX4_putSetting) := goodIn_app (goodIn_of _ (by decide +kernel)) ggX6_set_X4_putSetting
theorem dX6_set_0 : decode cX6_set 0 = .ok (.iload_n 1, 1) := by decide +kernel
theorem dX6_set_1 : decode cX6_set 1 = .ok (.iload_n 2, 1) := by decide +kernel
theorem dX6_set_2 : decode cX6_set 2 = .ok (.invokestatic 107, 3) := by decide +kernel
theorem dX6_set_5 : decode cX6_set 5 = .ok (.ifCond .ne 7, 3) := by decide +kernel
theorem dX6_set_8 : decode cX6_set 8 = .ok (.sipush (-1002), 3) := by decide +kernel
theorem dX6_set_11 : decode cX6_set 11 = .ok (.ireturn, 1) := by decide +kernel
theorem dX6_set_12 : decode cX6_set 12 = .ok (.aload_n 0, 1) := by decide +kernel
theorem dX6_set_13 : decode cX6_set 13 = .ok (.getfield 10, 3) := by decide +kernel
theorem dX6_set_16 : decode cX6_set 16 = .ok (.iload_n 1, 1) := by decide +kernel
theorem dX6_set_17 : decode cX6_set 17 = .ok (.invokevirtual 111, 3) := by decide +kernel
theorem dX6_set_20 : decode cX6_set 20 = .ok (.istore_n 3, 1) := by decide +kernel
theorem dX6_set_21 : decode cX6_set 21 = .ok (.iload_n 3, 1) := by decide +kernel
theorem dX6_set_22 : decode cX6_set 22 = .ok (.iload_n 2, 1) := by decide +kernel
theorem dX6_set_23 : decode cX6_set 23 = .ok (.if_icmp .ne 7, 3) := by decide +kernel
theorem dX6_set_26 : decode cX6_set 26 = .ok (.sipush (-1005), 3) := by decide +kernel
theorem dX6_set_29 : decode cX6_set 29 = .ok (.ireturn, 1) := by decide +kernel
theorem dX6_set_30 : decode cX6_set 30 = .ok (.aload_n 0, 1) := by decide +kernel
theorem dX6_set_31 : decode cX6_set 31 = .ok (.getfield 26, 3) := by decide +kernel
theorem dX6_set_34 : decode cX6_set 34 = .ok (.aload_n 0, 1) := by decide +kernel
theorem dX6_set_35 : decode cX6_set 35 = .ok (.getfield 10, 3) := by decide +kernel
theorem dX6_set_38 : decode cX6_set 38 = .ok (.invokevirtual 55, 3) := by decide +kernel
theorem dX6_set_41 : decode cX6_set 41 = .ok (.aload_n 0, 1) := by decide +kernel
theorem dX6_set_42 : decode cX6_set 42 = .ok (.getfield 10, 3) := by decide +kernel
theorem dX6_set_45 : decode cX6_set 45 = .ok (.iload_n 1, 1) := by decide +kernel
theorem dX6_set_46 : decode cX6_set 46 = .ok (.iload_n 2, 1) := by decide +kernel
theorem dX6_set_47 : decode cX6_set 47 = .ok (.invokevirtual 114, 3) := by decide +kernel
theorem dX6_set_50 : decode cX6_set 50 = .ok (.iload_n 3, 1) := by decide +kernel
theorem dX6_set_51 : decode cX6_set 51 = .ok (.ireturn, 1) := by decide +kernel
theorem dX6_mayBeSet_0 : decode cX6_mayBeSet 0 = .ok (.iload_n 0, 1) := by decide +kernel
theorem dX6_mayBeSet_1 : decode cX6_mayBeSet 1 = .ok (.ifCond .lt 19, 3) := by decide +kernel
theorem dX6_mayBeSet_4 : decode cX6_mayBeSet 4 = .ok (.iload_n 0, 1) := by decide +kernel
theorem dX6_mayBeSet_5 : decode cX6_mayBeSet 5 = .ok (.getstatic 117, 3) := by decide +kernel
theorem dX6_mayBeSet_8 : decode cX6_mayBeSet 8 = .ok (.arraylength, 1) := by decide +kernel
theorem dX6_mayBeSet_9 : decode cX6_mayBeSet 9 = .ok (.if_icmp .ge 11, 3) := by decide +kernel
theorem dX6_mayBeSet_12 : decode cX6_mayBeSet 12 = .ok (.iload_n 0, 1) := by decide +kernel
theorem dX6_mayBeSet_13 : decode cX6_mayBeSet 13 = .ok (.getstatic 121, 3) := by decide +kernel
theorem dX6_mayBeSet_16 : decode cX6_mayBeSet 16 = .ok (.arraylength, 1) := by decide +kernel
theorem dX6_mayBeSet_17 : decode cX6_mayBeSet 17 = .ok (.if_icmp .lt 5, 3) := by decide +kernel
theorem dX6_mayBeSet_20 : decode cX6_mayBeSet 20 = .ok (.iconst 0, 1) := by decide +kernel
theorem dX6_mayBeSet_21 : decode cX6_mayBeSet 21 = .ok (.ireturn, 1) := by decide +kernel
theorem dX6_mayBeSet_22 : decode cX6_mayBeSet 22 = .ok (.iload_n 1, 1) := by decide +kernel
theorem dX6_mayBeSet_23 : decode cX6_mayBeSet 23 = .ok (.getstatic 117, 3) := by decide +kernel
theorem dX6_mayBeSet_26 : decode cX6_mayBeSet 26 = .ok (.iload_n 0, 1) := by decide +kernel
theorem dX6_mayBeSet_27 : decode cX6_mayBeSet 27 = .ok (.iaload, 1) := by decide +kernel
theorem dX6_mayBeSet_28 : decode cX6_mayBeSet 28 = .ok (.if_icmp .lt 16, 3) := by decide +kernel
theorem dX6_mayBeSet_31 : decode cX6_mayBeSet 31 = .ok (.iload_n 1, 1) := by decide +kernel
theorem dX6_mayBeSet_32 : decode cX6_mayBeSet 32 = .ok (.getstatic 121, 3) := by decide +kernel
theorem dX6_mayBeSet_35 : decode cX6_mayBeSet 35 = .ok (.iload_n 0, 1) := by decide +kernel
theorem dX6_mayBeSet_36 : decode cX6_mayBeSet 36 = .ok (.iaload, 1) := by decide +kernel
theorem dX6_mayBeSet_37 : decode cX6_mayBeSet 37 = .ok (.if_icmp .gt 7, 3) := by decide +kernel
theorem dX6_mayBeSet_40 : decode cX6_mayBeSet 40 = .ok (.iconst 1, 1) := by decide +kernel
theorem dX6_mayBeSet_41 : decode cX6_mayBeSet 41 = .ok (.goto 4, 3) := by decide +kernel
theorem dX6_mayBeSet_44 : decode cX6_mayBeSet 44 = .ok (.iconst 0, 1) := by decide +kernel
theorem dX6_mayBeSet_45 : decode cX6_mayBeSet 45 = .ok (.ireturn, 1) := by decide +kernel
set_option maxRecDepth 20000 in
theorem ggX6_layOver_X0_record : GoodIn wsX6_layOver wsX0_record := goodIn_r _ [8, 9, 10, 11, 12, 13, 7, 14, 15, 16, 17, 18, 19, 20, 21, 22, 23, 24, 25, 26, 27, 28, 29, 30, 31, 32, 33, 34, 53, 54, 46, 47, 48, 49, 50, 51, 52] (by decide +kernel) (by decide +kernel)
set_option maxRecDepth 20000 in
theorem gX6_layOver_X0_record : GoodIn wsX6_layOver (wsV RX6 55 RX0 yX0_record wsX0_record) := goodIn_app (goodIn_of _ (by decide +kernel)) ggX6_layOver_X0_record
set_option maxRecDepth 20000 in
theorem ggX6_layOver_X6_asNumber : GoodIn wsX6_layOver wsX6_asNumber := goodIn_r _ [38] (by decide +kernel) (by decide +kernel)
set_option maxRecDepth 20000 in
theorem gX6_layOver_X6_asNumber : GoodIn wsX6_layOver (va_wsS RX6 127 yX6_asNumber wsX6_asNumber) := goodIn_app (goodIn_of _ (by decide +kernel)) ggX6_layOver_X6_asNumber
theorem dX6_layOver_0 : decode cX6_layOver 0 = .ok (.aload_n 0, 1) := by decide +kernel
theorem dX6_layOver_1 : decode cX6_layOver 1 = .ok (.getfield 26, 3) := by decide +kernel
theorem dX6_layOver_4 : decode cX6_layOver 4 = .ok (.aload_n 0, 1) := by decide +kernel
theorem dX6_layOver_5 : decode cX6_layOver 5 = .ok (.getfield 10, 3) := by decide +kernel
theorem dX6_layOver_8 : decode cX6_layOver 8 = .ok (.invokevirtual 55, 3) := by decide +kernel
theorem dX6_layOver_11 : decode cX6_layOver 11 = .ok (.aload_n 0, 1) := by decide +kernel
theorem dX6_layOver_12 : decode cX6_layOver 12 = .ok (.getfield 10, 3) := by decide +kernel
theorem dX6_layOver_15 : decode cX6_layOver 15 = .ok (.aload_n 0, 1) := by decide +kernel
theorem dX6_layOver_16 : decode cX6_layOver 16 = .ok (.getfield 10, 3) := by decide +kernel
theorem dX6_layOver_19 : decode cX6_layOver 19 = .ok (.getfield 124, 3) := by decide +kernel
theorem dX6_layOver_22 : decode cX6_layOver 22 = .ok (.ifCond .ne 7, 3) := by decide +kernel
theorem dX6_layOver_25 : decode cX6_layOver 25 = .ok (.iconst 1, 1) := by decide +kernel
theorem dX6_layOver_26 : decode cX6_layOver 26 = .ok (.goto 4, 3) := by decide +kernel
theorem dX6_layOver_29 : decode cX6_layOver 29 = .ok (.iconst 0, 1) := by decide +kernel
theorem dX6_layOver_30 : decode cX6_layOver 30 = .ok (.putfield 124, 3) := by decide +kernel
theorem dX6_layOver_33 : decode cX6_layOver 33 = .ok (.aload_n 0, 1) := by decide +kernel
theorem dX6_layOver_34 : decode cX6_layOver 34 = .ok (.getfield 10, 3) := by decide +kernel
theorem dX6_layOver_37 : decode cX6_layOver 37 = .ok (.getfield 124, 3) := by decide +kernel
theorem dX6_layOver_40 : decode cX6_layOver 40 = .ok (.invokestatic 127, 3) := by decide +kernel
theorem dX6_layOver_43 : decode cX6_layOver 43 = .ok (.ireturn, 1) := by decide +kernel
set_option maxRecDepth 20000 in
theorem ggX6_bend_X4_hasBend : GoodIn wsX6_bend wsX4_hasBend := goodIn_r _ [10, 11, 142, 143, 144, 145, 146, 147, 148] (by decide +kernel) (by decide +kernel)
set_option maxRecDepth 20000 in
theorem gX6_bend_X4_hasBend : GoodIn wsX6_bend (wsV RX6 93 RX4 yX4_hasBend wsX4_hasBend) := goodIn_app (goodIn_of _ (by decide +kernel)) ggX6_bend_X4_hasBend
set_option maxRecDepth 20000 in
theorem ggX6_bend_X2_reason : GoodIn wsX6_bend wsX2_reason := goodIn_r _ [16, 17, 18, 19, 20, 9, 21, 22, 23, 24, 25, 26, 11, 27, 28, 29, 30, 31, 32, 33, 34, 35, 36, 37, 38, 39, 40, 41, 42, 43, 44, 45, 46, 47, 48, 49, 50, 51, 52, 53, 54, 55, 56, 57, 58, 59, 60, 61, 62, 63, 64, 65, 66, 67, 68, 69, 70, 71, 72, 73, 74, 15, 75, 76, 77, 78, 79, 80, 81, 82, 83, 84, 85, 86, 87, 88, 89, 90, 91, 92, 93, 149, 142, 143, 144, 145, 146, 147, 148, 150, 151, 152, 153, 154, 155, 156, 157, 158, 159, 160] (by decide +kernel) (by decide +kernel)
set_option maxRecDepth 20000 in
theorem gX6_bend_X2_reason : GoodIn wsX6_bend (wsV RX6 131 RX2 yX2_reason wsX2_reason) := goodIn_app (goodIn_of _ (by decide +kernel)) ggX6_bend_X2_reason
set_option maxRecDepth 20000 in
theorem ggX6_bend_X0_record : GoodIn wsX6_bend wsX0_record := goodIn_r _ [98, 99, 100, 101, 102, 103, 97, 104, 105, 106, 107, 108, 109, 110, 111, 9, 112, 11, 22, 113, 114, 115, 31, 116, 117, 118, 119, 36, 161, 162, 142, 143, 144, 145, 146, 147, 148] (by decide +kernel) (by decide +kernel)
set_option maxRecDepth 20000 in
theorem gX6_bend_X0_record : GoodIn wsX6_bend (wsV RX6 55 RX0 yX0_record wsX0_record) := goodIn_app (goodIn_of _ (by decide +kernel)) ggX6_bend_X0_record
set_option maxRecDepth 20000 in
theorem ggX6_bend_X4_doBend : GoodIn wsX6_bend wsX4_doBend := goodIn_r _ [123, 113, 115, 142, 143, 144, 145, 146, 147, 148] (by decide +kernel) (by decide +kernel)
set_option maxRecDepth 20000 in
theorem gX6_bend_X4_doBend : GoodIn wsX6_bend (wsV RX6 135 RX4 yX4_doBend wsX4_doBend) := goodIn_app (goodIn_of _ (by decide +kernel)) ggX6_bend_X4_doBend
set_option maxRecDepth 20000 in
theorem ggX6_bend_X4_doneBends : GoodIn wsX6_bend wsX4_doneBends := goodIn_r _ [127, 113, 128, 129, 130, 131, 132, 133, 134, 142, 143, 144, 145, 146, 147, 148] (by decide +kernel) (by decide +kernel)
set_option maxRecDepth 20000 in
theorem gX6_bend_X4_doneBends : GoodIn wsX6_bend (wsV RX6 138 RX4 yX4_doneBends wsX4_doneBends) := goodIn_app (goodIn_of _ (by decide +kernel)) ggX6_bend_X4_doneBends
theorem dX6_bend_0 : decode cX6_bend 0 = .ok (.aload_n 0, 1) := by decide +kernel
theorem dX6_bend_1 : decode cX6_bend 1 = .ok (.getfield 10, 3) := by decide +kernel
theorem dX6_bend_4 : decode cX6_bend 4 = .ok (.iload_n 1, 1) := by decide +kernel
theorem dX6_bend_5 : decode cX6_bend 5 = .ok (.invokevirtual 93, 3) := by decide +kernel
theorem dX6_bend_8 : decode cX6_bend 8 = .ok (.ifCond .ne 7, 3) := by decide +kernel
theorem dX6_bend_11 : decode cX6_bend 11 = .ok (.sipush (-1001), 3) := by decide +kernel
theorem dX6_bend_14 : decode cX6_bend 14 = .ok (.ireturn, 1) := by decide +kernel
theorem dX6_bend_15 : decode cX6_bend 15 = .ok (.aload_n 0, 1) := by decide +kernel
theorem dX6_bend_16 : decode cX6_bend 16 = .ok (.getfield 40, 3) := by decide +kernel
theorem dX6_bend_19 : decode cX6_bend 19 = .ok (.aload_n 0, 1) := by decide +kernel
theorem dX6_bend_20 : decode cX6_bend 20 = .ok (.getfield 10, 3) := by decide +kernel
theorem dX6_bend_23 : decode cX6_bend 23 = .ok (.iload_n 1, 1) := by decide +kernel
theorem dX6_bend_24 : decode cX6_bend 24 = .ok (.aload_n 0, 1) := by decide +kernel
theorem dX6_bend_25 : decode cX6_bend 25 = .ok (.getfield 10, 3) := by decide +kernel
theorem dX6_bend_28 : decode cX6_bend 28 = .ok (.getfield 86, 3) := by decide +kernel
theorem dX6_bend_31 : decode cX6_bend 31 = .ok (.aload_n 0, 1) := by decide +kernel
theorem dX6_bend_32 : decode cX6_bend 32 = .ok (.getfield 10, 3) := by decide +kernel
theorem dX6_bend_35 : decode cX6_bend 35 = .ok (.getfield 124, 3) := by decide +kernel
theorem dX6_bend_38 : decode cX6_bend 38 = .ok (.invokevirtual 131, 3) := by decide +kernel
theorem dX6_bend_41 : decode cX6_bend 41 = .ok (.ifCond .eq 7, 3) := by decide +kernel
theorem dX6_bend_44 : decode cX6_bend 44 = .ok (.sipush (-1004), 3) := by decide +kernel
theorem dX6_bend_47 : decode cX6_bend 47 = .ok (.ireturn, 1) := by decide +kernel
theorem dX6_bend_48 : decode cX6_bend 48 = .ok (.aload_n 0, 1) := by decide +kernel
theorem dX6_bend_49 : decode cX6_bend 49 = .ok (.getfield 26, 3) := by decide +kernel
theorem dX6_bend_52 : decode cX6_bend 52 = .ok (.aload_n 0, 1) := by decide +kernel
theorem dX6_bend_53 : decode cX6_bend 53 = .ok (.getfield 10, 3) := by decide +kernel
theorem dX6_bend_56 : decode cX6_bend 56 = .ok (.invokevirtual 55, 3) := by decide +kernel
theorem dX6_bend_59 : decode cX6_bend 59 = .ok (.aload_n 0, 1) := by decide +kernel
theorem dX6_bend_60 : decode cX6_bend 60 = .ok (.getfield 10, 3) := by decide +kernel
theorem dX6_bend_63 : decode cX6_bend 63 = .ok (.iload_n 1, 1) := by decide +kernel
theorem dX6_bend_64 : decode cX6_bend 64 = .ok (.invokevirtual 135, 3) := by decide +kernel
theorem dX6_bend_67 : decode cX6_bend 67 = .ok (.aload_n 0, 1) := by decide +kernel
theorem dX6_bend_68 : decode cX6_bend 68 = .ok (.getfield 10, 3) := by decide +kernel
theorem dX6_bend_71 : decode cX6_bend 71 = .ok (.invokevirtual 138, 3) := by decide +kernel
theorem dX6_bend_74 : decode cX6_bend 74 = .ok (.ireturn, 1) := by decide +kernel
set_option maxRecDepth 20000 in
theorem ggX6_flatten_X4_hasBend : GoodIn wsX6_flatten wsX4_hasBend := goodIn_r _ [8, 9, 61, 62, 63, 64, 65, 66, 67] (by decide +kernel) (by decide +kernel)
set_option maxRecDepth 20000 in
theorem gX6_flatten_X4_hasBend : GoodIn wsX6_flatten (wsV RX6 93 RX4 yX4_hasBend wsX4_hasBend) := goodIn_app (goodIn_of _ (by decide +kernel)) ggX6_flatten_X4_hasBend
set_option maxRecDepth 20000 in
theorem ggX6_flatten_X4_isDone : GoodIn wsX6_flatten wsX4_isDone := goodIn_r _ [13, 14, 61, 62, 63, 64, 65, 66, 67] (by decide +kernel) (by decide +kernel)
set_option maxRecDepth 20000 in
theorem gX6_flatten_X4_isDone : GoodIn wsX6_flatten (wsV RX6 141 RX4 yX4_isDone wsX4_isDone) := goodIn_app (goodIn_of _ (by decide +kernel)) ggX6_flatten_X4_isDone
set_option maxRecDepth 20000 in
theorem ggX6_flatten_X0_record : GoodIn wsX6_flatten wsX0_record := goodIn_r _ [19, 20, 21, 22, 23, 24, 18, 25, 26, 27, 28, 29, 30, 31, 32, 7, 33, 9, 34, 14, 35, 36, 37, 38, 39, 40, 41, 42, 68, 69, 61, 62, 63, 64, 65, 66, 67] (by decide +kernel) (by decide +kernel)
set_option maxRecDepth 20000 in
theorem gX6_flatten_X0_record : GoodIn wsX6_flatten (wsV RX6 55 RX0 yX0_record wsX0_record) := goodIn_app (goodIn_of _ (by decide +kernel)) ggX6_flatten_X0_record
set_option maxRecDepth 20000 in
theorem ggX6_flatten_X4_doneBends : GoodIn wsX6_flatten wsX4_doneBends := goodIn_r _ [46, 14, 47, 48, 49, 50, 51, 52, 53, 61, 62, 63, 64, 65, 66, 67] (by decide +kernel) (by decide +kernel)
set_option maxRecDepth 20000 in
theorem gX6_flatten_X4_doneBends : GoodIn wsX6_flatten (wsV RX6 138 RX4 yX4_doneBends wsX4_doneBends) := goodIn_app (goodIn_of _ (by decide +kernel)) ggX6_flatten_X4_doneBends
theorem dX6_flatten_0 : decode cX6_flatten 0 = .ok (.aload_n 0, 1) := by decide +kernel
theorem dX6_flatten_1 : decode cX6_flatten 1 = .ok (.getfield 10, 3) := by decide +kernel
theorem dX6_flatten_4 : decode cX6_flatten 4 = .ok (.iload_n 1, 1) := by decide +kernel
theorem dX6_flatten_5 : decode cX6_flatten 5 = .ok (.invokevirtual 93, 3) := by decide +kernel
theorem dX6_flatten_8 : decode cX6_flatten 8 = .ok (.ifCond .ne 7, 3) := by decide +kernel
theorem dX6_flatten_11 : decode cX6_flatten 11 = .ok (.sipush (-1001), 3) := by decide +kernel
theorem dX6_flatten_14 : decode cX6_flatten 14 = .ok (.ireturn, 1) := by decide +kernel
theorem dX6_flatten_15 : decode cX6_flatten 15 = .ok (.aload_n 0, 1) := by decide +kernel
theorem dX6_flatten_16 : decode cX6_flatten 16 = .ok (.getfield 10, 3) := by decide +kernel
theorem dX6_flatten_19 : decode cX6_flatten 19 = .ok (.iload_n 1, 1) := by decide +kernel
theorem dX6_flatten_20 : decode cX6_flatten 20 = .ok (.invokevirtual 141, 3) := by decide +kernel
theorem dX6_flatten_23 : decode cX6_flatten 23 = .ok (.ifCond .ne 7, 3) := by decide +kernel
theorem dX6_flatten_26 : decode cX6_flatten 26 = .ok (.sipush (-1005), 3) := by decide +kernel
theorem dX6_flatten_29 : decode cX6_flatten 29 = .ok (.ireturn, 1) := by decide +kernel
theorem dX6_flatten_30 : decode cX6_flatten 30 = .ok (.aload_n 0, 1) := by decide +kernel
theorem dX6_flatten_31 : decode cX6_flatten 31 = .ok (.getfield 26, 3) := by decide +kernel
theorem dX6_flatten_34 : decode cX6_flatten 34 = .ok (.aload_n 0, 1) := by decide +kernel
theorem dX6_flatten_35 : decode cX6_flatten 35 = .ok (.getfield 10, 3) := by decide +kernel
theorem dX6_flatten_38 : decode cX6_flatten 38 = .ok (.invokevirtual 55, 3) := by decide +kernel
theorem dX6_flatten_41 : decode cX6_flatten 41 = .ok (.aload_n 0, 1) := by decide +kernel
theorem dX6_flatten_42 : decode cX6_flatten 42 = .ok (.getfield 10, 3) := by decide +kernel
theorem dX6_flatten_45 : decode cX6_flatten 45 = .ok (.dup, 1) := by decide +kernel
theorem dX6_flatten_46 : decode cX6_flatten 46 = .ok (.getfield 86, 3) := by decide +kernel
theorem dX6_flatten_49 : decode cX6_flatten 49 = .ok (.iconst 1, 1) := by decide +kernel
theorem dX6_flatten_50 : decode cX6_flatten 50 = .ok (.iload_n 1, 1) := by decide +kernel
theorem dX6_flatten_51 : decode cX6_flatten 51 = .ok (.ishl, 1) := by decide +kernel
theorem dX6_flatten_52 : decode cX6_flatten 52 = .ok (.iconst (-1), 1) := by decide +kernel
theorem dX6_flatten_53 : decode cX6_flatten 53 = .ok (.ixor, 1) := by decide +kernel
theorem dX6_flatten_54 : decode cX6_flatten 54 = .ok (.iand, 1) := by decide +kernel
theorem dX6_flatten_55 : decode cX6_flatten 55 = .ok (.putfield 86, 3) := by decide +kernel
theorem dX6_flatten_58 : decode cX6_flatten 58 = .ok (.aload_n 0, 1) := by decide +kernel
theorem dX6_flatten_59 : decode cX6_flatten 59 = .ok (.getfield 10, 3) := by decide +kernel
theorem dX6_flatten_62 : decode cX6_flatten 62 = .ok (.invokevirtual 138, 3) := by decide +kernel
theorem dX6_flatten_65 : decode cX6_flatten 65 = .ok (.ireturn, 1) := by decide +kernel
set_option maxRecDepth 20000 in
theorem ggX6_follow_X6_hasOrder : GoodIn wsX6_follow wsX6_hasOrder := goodIn_r _ [14, 7, 1, 8, 15, 16, 17, 18, 19, 20, 21, 22, 23, 4, 5, 6, 24, 25, 26, 27, 28, 29, 30, 31, 32, 33, 34, 35, 36, 37, 38, 39, 40, 41, 42, 43, 44, 45, 46, 47, 48, 49, 50, 51, 52, 53, 54, 55, 56, 57, 58, 59, 60, 61, 62, 63, 64, 65, 66, 67, 68, 69, 70, 71, 72, 73, 74, 75, 76, 77, 78, 79, 80, 81, 82, 83, 84, 85, 86, 87, 88, 89, 90, 91, 92, 93, 94, 95, 96, 97, 98, 99, 100, 101, 102, 103, 104, 105, 106, 107, 108, 109, 110, 111, 112, 113, 114, 115, 116, 117, 118, 119, 120, 121, 122, 123, 124, 125, 126, 127, 128, 129, 130, 131, 132, 133, 134, 135, 136, 137, 183, 184, 185, 186, 187, 188, 189, 190, 191, 192, 193, 194, 195, 196, 197, 198, 199, 200, 201, 202, 203, 204, 205, 206, 207, 208, 209, 210, 211, 212, 213, 214] (by decide +kernel) (by decide +kernel)
set_option maxRecDepth 20000 in
theorem gX6_follow_X6_hasOrder : GoodIn wsX6_follow (wsV RX6 144 RX6 yX6_hasOrder wsX6_hasOrder) := goodIn_app (goodIn_of _ (by decide +kernel)) ggX6_follow_X6_hasOrder
set_option maxRecDepth 20000 in
theorem ggX6_follow_X4_openBends : GoodIn wsX6_follow wsX4_openBends := goodIn_r _ [141, 29, 142, 143, 144, 27, 145, 45, 146, 147, 148, 149, 150, 151, 152, 190, 191, 192, 193, 194, 195, 196] (by decide +kernel) (by decide +kernel)
set_option maxRecDepth 20000 in
theorem gX6_follow_X4_openBends : GoodIn wsX6_follow (wsV RX6 148 RX4 yX4_openBends wsX4_openBends) := goodIn_app (goodIn_of _ (by decide +kernel)) ggX6_follow_X4_openBends
set_option maxRecDepth 20000 in
theorem ggX6_follow_X0_record : GoodIn wsX6_follow wsX0_record := goodIn_r _ [157, 158, 159, 160, 161, 162, 156, 163, 164, 165, 166, 167, 168, 42, 43, 27, 44, 29, 30, 45, 46, 47, 35, 48, 49, 50, 51, 40, 215, 216, 190, 191, 192, 193, 194, 195, 196] (by decide +kernel) (by decide +kernel)
set_option maxRecDepth 20000 in
theorem gX6_follow_X0_record : GoodIn wsX6_follow (wsV RX6 55 RX0 yX0_record wsX0_record) := goodIn_app (goodIn_of _ (by decide +kernel)) ggX6_follow_X0_record
set_option maxRecDepth 20000 in
theorem ggX6_follow_X1_firstStep : GoodIn wsX6_follow wsX1_firstStep := goodIn_r _ [172, 21, 60, 173, 174, 175, 18, 176, 62, 197, 198, 199, 200, 201, 202, 190, 191, 192, 193, 194, 195, 196] (by decide +kernel) (by decide +kernel)
set_option maxRecDepth 20000 in
theorem gX6_follow_X1_firstStep : GoodIn wsX6_follow (wsV RX6 157 RX1 yX1_firstStep wsX1_firstStep) := goodIn_app (goodIn_of _ (by decide +kernel)) ggX6_follow_X1_firstStep
set_option maxRecDepth 20000 in
theorem ggX6_follow_X4_isUp : GoodIn wsX6_follow wsX4_isUp := goodIn_r _ [70, 30, 190, 191, 192, 193, 194, 195, 196] (by decide +kernel) (by decide +kernel)
set_option maxRecDepth 20000 in
theorem gX6_follow_X4_isUp : GoodIn wsX6_follow (wsV RX6 96 RX4 yX4_isUp wsX4_isUp) := goodIn_app (goodIn_of _ (by decide +kernel)) ggX6_follow_X4_isUp
set_option maxRecDepth 20000 in
theorem ggX6_follow_X4_doBend : GoodIn wsX6_follow wsX4_doBend := goodIn_r _ [181, 45, 47, 190, 191, 192, 193, 194, 195, 196] (by decide +kernel) (by decide +kernel)
set_option maxRecDepth 20000 in
theorem gX6_follow_X4_doBend : GoodIn wsX6_follow (wsV RX6 135 RX4 yX4_doBend wsX4_doBend) := goodIn_app (goodIn_of _ (by decide +kernel)) ggX6_follow_X4_doBend
set_option maxRecDepth 20000 in
theorem ggX6_follow_X4_doneBends : GoodIn wsX6_follow wsX4_doneBends := goodIn_r _ [145, 45, 146, 147, 148, 149, 150, 151, 152, 190, 191, 192, 193, 194, 195, 196] (by decide +kernel) (by decide +kernel)
set_option maxRecDepth 20000 in
theorem gX6_follow_X4_doneBends : GoodIn wsX6_follow (wsV RX6 138 RX4 yX4_doneBends wsX4_doneBends) := goodIn_app (goodIn_of _ (by decide +kernel)) ggX6_follow_X4_doneBends
theorem dX6_follow_0 : decode cX6_follow 0 = .ok (.iload_n 1, 1) := by decide +kernel
theorem dX6_follow_1 : decode cX6_follow 1 = .ok (.iconst 1, 1) := by decide +kernel
theorem dX6_follow_2 : decode cX6_follow 2 = .ok (.if_icmp .lt 9, 3) := by decide +kernel
theorem dX6_follow_5 : decode cX6_follow 5 = .ok (.iload_n 1, 1) := by decide +kernel
theorem dX6_follow_6 : decode cX6_follow 6 = .ok (.bipush 7, 2) := by decide +kernel
theorem dX6_follow_8 : decode cX6_follow 8 = .ok (.if_icmp .le 7, 3) := by decide +kernel
theorem dX6_follow_11 : decode cX6_follow 11 = .ok (.sipush (-1002), 3) := by decide +kernel
theorem dX6_follow_14 : decode cX6_follow 14 = .ok (.ireturn, 1) := by decide +kernel
theorem dX6_follow_15 : decode cX6_follow 15 = .ok (.aload_n 0, 1) := by decide +kernel
theorem dX6_follow_16 : decode cX6_follow 16 = .ok (.invokevirtual 144, 3) := by decide +kernel
theorem dX6_follow_19 : decode cX6_follow 19 = .ok (.ifCond .ne 7, 3) := by decide +kernel
theorem dX6_follow_22 : decode cX6_follow 22 = .ok (.sipush (-1004), 3) := by decide +kernel
theorem dX6_follow_25 : decode cX6_follow 25 = .ok (.ireturn, 1) := by decide +kernel
theorem dX6_follow_26 : decode cX6_follow 26 = .ok (.aload_n 0, 1) := by decide +kernel
theorem dX6_follow_27 : decode cX6_follow 27 = .ok (.getfield 10, 3) := by decide +kernel
theorem dX6_follow_30 : decode cX6_follow 30 = .ok (.invokevirtual 148, 3) := by decide +kernel
theorem dX6_follow_33 : decode cX6_follow 33 = .ok (.istore_n 2, 1) := by decide +kernel
theorem dX6_follow_34 : decode cX6_follow 34 = .ok (.iload_n 2, 1) := by decide +kernel
theorem dX6_follow_35 : decode cX6_follow 35 = .ok (.ifCond .ne 7, 3) := by decide +kernel
theorem dX6_follow_38 : decode cX6_follow 38 = .ok (.sipush (-1005), 3) := by decide +kernel
theorem dX6_follow_41 : decode cX6_follow 41 = .ok (.ireturn, 1) := by decide +kernel
theorem dX6_follow_42 : decode cX6_follow 42 = .ok (.aload_n 0, 1) := by decide +kernel
theorem dX6_follow_43 : decode cX6_follow 43 = .ok (.getfield 26, 3) := by decide +kernel
theorem dX6_follow_46 : decode cX6_follow 46 = .ok (.aload_n 0, 1) := by decide +kernel
theorem dX6_follow_47 : decode cX6_follow 47 = .ok (.getfield 10, 3) := by decide +kernel
theorem dX6_follow_50 : decode cX6_follow 50 = .ok (.invokevirtual 55, 3) := by decide +kernel
theorem dX6_follow_53 : decode cX6_follow 53 = .ok (.iload_n 1, 1) := by decide +kernel
theorem dX6_follow_54 : decode cX6_follow 54 = .ok (.iload_n 2, 1) := by decide +kernel
theorem dX6_follow_55 : decode cX6_follow 55 = .ok (.invokestatic 151, 3) := by decide +kernel
theorem dX6_follow_58 : decode cX6_follow 58 = .ok (.istore_n 3, 1) := by decide +kernel
theorem dX6_follow_59 : decode cX6_follow 59 = .ok (.iconst 0, 1) := by decide +kernel
theorem dX6_follow_60 : decode cX6_follow 60 = .ok (.istore 4, 2) := by decide +kernel
theorem dX6_follow_62 : decode cX6_follow 62 = .ok (.iload 4, 2) := by decide +kernel
theorem dX6_follow_64 : decode cX6_follow 64 = .ok (.iload_n 3, 1) := by decide +kernel
theorem dX6_follow_65 : decode cX6_follow 65 = .ok (.if_icmp .ge 58, 3) := by decide +kernel
theorem dX6_follow_68 : decode cX6_follow 68 = .ok (.aload_n 0, 1) := by decide +kernel
theorem dX6_follow_69 : decode cX6_follow 69 = .ok (.getfield 47, 3) := by decide +kernel
theorem dX6_follow_72 : decode cX6_follow 72 = .ok (.aload_n 0, 1) := by decide +kernel
theorem dX6_follow_73 : decode cX6_follow 73 = .ok (.getfield 10, 3) := by decide +kernel
theorem dX6_follow_76 : decode cX6_follow 76 = .ok (.getfield 86, 3) := by decide +kernel
theorem dX6_follow_79 : decode cX6_follow 79 = .ok (.invokevirtual 157, 3) := by decide +kernel
theorem dX6_follow_82 : decode cX6_follow 82 = .ok (.istore 5, 2) := by decide +kernel
theorem dX6_follow_84 : decode cX6_follow 84 = .ok (.aload_n 0, 1) := by decide +kernel
theorem dX6_follow_85 : decode cX6_follow 85 = .ok (.getfield 10, 3) := by decide +kernel
theorem dX6_follow_88 : decode cX6_follow 88 = .ok (.aload_n 0, 1) := by decide +kernel
theorem dX6_follow_89 : decode cX6_follow 89 = .ok (.getfield 10, 3) := by decide +kernel
theorem dX6_follow_92 : decode cX6_follow 92 = .ok (.iload 5, 2) := by decide +kernel
theorem dX6_follow_94 : decode cX6_follow 94 = .ok (.invokevirtual 96, 3) := by decide +kernel
theorem dX6_follow_97 : decode cX6_follow 97 = .ok (.ifCond .ne 7, 3) := by decide +kernel
theorem dX6_follow_100 : decode cX6_follow 100 = .ok (.iconst 1, 1) := by decide +kernel
theorem dX6_follow_101 : decode cX6_follow 101 = .ok (.goto 4, 3) := by decide +kernel
theorem dX6_follow_104 : decode cX6_follow 104 = .ok (.iconst 0, 1) := by decide +kernel
theorem dX6_follow_105 : decode cX6_follow 105 = .ok (.putfield 124, 3) := by decide +kernel
theorem dX6_follow_108 : decode cX6_follow 108 = .ok (.aload_n 0, 1) := by decide +kernel
theorem dX6_follow_109 : decode cX6_follow 109 = .ok (.getfield 10, 3) := by decide +kernel
theorem dX6_follow_112 : decode cX6_follow 112 = .ok (.iload 5, 2) := by decide +kernel
theorem dX6_follow_114 : decode cX6_follow 114 = .ok (.invokevirtual 135, 3) := by decide +kernel
theorem dX6_follow_117 : decode cX6_follow 117 = .ok (.iinc 4 1, 3) := by decide +kernel
theorem dX6_follow_120 : decode cX6_follow 120 = .ok (.goto (-58), 3) := by decide +kernel
theorem dX6_follow_123 : decode cX6_follow 123 = .ok (.aload_n 0, 1) := by decide +kernel
theorem dX6_follow_124 : decode cX6_follow 124 = .ok (.getfield 10, 3) := by decide +kernel
theorem dX6_follow_127 : decode cX6_follow 127 = .ok (.invokevirtual 138, 3) := by decide +kernel
theorem dX6_follow_130 : decode cX6_follow 130 = .ok (.ireturn, 1) := by decide +kernel
set_option maxRecDepth 20000 in
theorem ggX6_type_X5_append : GoodIn wsX6_type wsX5_append := goodIn_r _ [7, 8, 9, 17, 18] (by decide +kernel) (by decide +kernel)
set_option maxRecDepth 20000 in
theorem gX6_type_X5_append : GoodIn wsX6_type (wsV RX6 163 RX5 yX5_append wsX5_append) := goodIn_app (goodIn_of _ (by decide +kernel)) ggX6_type_X5_append
theorem dX6_type_0 : decode cX6_type 0 = .ok (.aload_n 0, 1) := by decide +kernel
theorem dX6_type_1 : decode cX6_type 1 = .ok (.getfield 33, 3) := by decide +kernel
theorem dX6_type_4 : decode cX6_type 4 = .ok (.getfield 160, 3) := by decide +kernel
theorem dX6_type_7 : decode cX6_type 7 = .ok (.bipush 60, 2) := by decide +kernel
theorem dX6_type_9 : decode cX6_type 9 = .ok (.if_icmp .ne 7, 3) := by decide +kernel
theorem dX6_type_12 : decode cX6_type 12 = .ok (.sipush (-1003), 3) := by decide +kernel
theorem dX6_type_15 : decode cX6_type 15 = .ok (.ireturn, 1) := by decide +kernel
theorem dX6_type_16 : decode cX6_type 16 = .ok (.aload_n 0, 1) := by decide +kernel
theorem dX6_type_17 : decode cX6_type 17 = .ok (.getfield 33, 3) := by decide +kernel
theorem dX6_type_20 : decode cX6_type 20 = .ok (.iload_n 1, 1) := by decide +kernel
theorem dX6_type_21 : decode cX6_type 21 = .ok (.invokevirtual 163, 3) := by decide +kernel
theorem dX6_type_24 : decode cX6_type 24 = .ok (.aload_n 0, 1) := by decide +kernel
theorem dX6_type_25 : decode cX6_type 25 = .ok (.getfield 33, 3) := by decide +kernel
theorem dX6_type_28 : decode cX6_type 28 = .ok (.getfield 160, 3) := by decide +kernel
theorem dX6_type_31 : decode cX6_type 31 = .ok (.ireturn, 1) := by decide +kernel
theorem dX6_clearText_0 : decode cX6_clearText 0 = .ok (.aload_n 0, 1) := by decide +kernel
theorem dX6_clearText_1 : decode cX6_clearText 1 = .ok (.getfield 33, 3) := by decide +kernel
theorem dX6_clearText_4 : decode cX6_clearText 4 = .ok (.getfield 160, 3) := by decide +kernel
theorem dX6_clearText_7 : decode cX6_clearText 7 = .ok (.istore_n 1, 1) := by decide +kernel
theorem dX6_clearText_8 : decode cX6_clearText 8 = .ok (.aload_n 0, 1) := by decide +kernel
theorem dX6_clearText_9 : decode cX6_clearText 9 = .ok (.getfield 33, 3) := by decide +kernel
theorem dX6_clearText_12 : decode cX6_clearText 12 = .ok (.iconst 0, 1) := by decide +kernel
theorem dX6_clearText_13 : decode cX6_clearText 13 = .ok (.putfield 160, 3) := by decide +kernel
theorem dX6_clearText_16 : decode cX6_clearText 16 = .ok (.iload_n 1, 1) := by decide +kernel
theorem dX6_clearText_17 : decode cX6_clearText 17 = .ok (.ireturn, 1) := by decide +kernel
set_option maxRecDepth 20000 in
theorem ggX6_keep_X4_copyFrom : GoodIn wsX6_keep wsX4_copyFrom := goodIn_r _ [8, 9, 10, 11, 12, 13, 14, 15, 16, 17, 18, 19, 38, 39, 40, 41, 42, 43, 44] (by decide +kernel) (by decide +kernel)
set_option maxRecDepth 20000 in
theorem gX6_keep_X4_copyFrom : GoodIn wsX6_keep (wsV RX6 171 RX4 yX4_copyFrom wsX4_copyFrom) := goodIn_app (goodIn_of _ (by decide +kernel)) ggX6_keep_X4_copyFrom
set_option maxRecDepth 20000 in
theorem ggX6_keep_X4_doneBends : GoodIn wsX6_keep wsX4_doneBends := goodIn_r _ [23, 11, 24, 25, 26, 27, 28, 29, 30, 38, 39, 40, 41, 42, 43, 44] (by decide +kernel) (by decide +kernel)
set_option maxRecDepth 20000 in
theorem gX6_keep_X4_doneBends : GoodIn wsX6_keep (wsV RX6 138 RX4 yX4_doneBends wsX4_doneBends) := goodIn_app (goodIn_of _ (by decide +kernel)) ggX6_keep_X4_doneBends
theorem dX6_keep_0 : decode cX6_keep 0 = .ok (.aload_n 0, 1) := by decide +kernel
theorem dX6_keep_1 : decode cX6_keep 1 = .ok (.getfield 16, 3) := by decide +kernel
theorem dX6_keep_4 : decode cX6_keep 4 = .ok (.aload_n 0, 1) := by decide +kernel
theorem dX6_keep_5 : decode cX6_keep 5 = .ok (.getfield 10, 3) := by decide +kernel
theorem dX6_keep_8 : decode cX6_keep 8 = .ok (.invokevirtual 171, 3) := by decide +kernel
theorem dX6_keep_11 : decode cX6_keep 11 = .ok (.aload_n 0, 1) := by decide +kernel
theorem dX6_keep_12 : decode cX6_keep 12 = .ok (.iconst 1, 1) := by decide +kernel
theorem dX6_keep_13 : decode cX6_keep 13 = .ok (.putfield 19, 3) := by decide +kernel
theorem dX6_keep_16 : decode cX6_keep 16 = .ok (.aload_n 0, 1) := by decide +kernel
theorem dX6_keep_17 : decode cX6_keep 17 = .ok (.getfield 10, 3) := by decide +kernel
theorem dX6_keep_20 : decode cX6_keep 20 = .ok (.invokevirtual 138, 3) := by decide +kernel
theorem dX6_keep_23 : decode cX6_keep 23 = .ok (.ireturn, 1) := by decide +kernel
set_option maxRecDepth 20000 in
theorem ggX6_restore_X0_record : GoodIn wsX6_restore wsX0_record := goodIn_r _ [9, 10, 11, 12, 13, 14, 8, 15, 16, 17, 18, 19, 20, 21, 22, 23, 24, 25, 26, 27, 28, 29, 30, 31, 32, 33, 34, 35, 55, 56, 57, 58, 59, 60, 61, 62, 63] (by decide +kernel) (by decide +kernel)
set_option maxRecDepth 20000 in
theorem gX6_restore_X0_record : GoodIn wsX6_restore (wsV RX6 55 RX0 yX0_record wsX0_record) := goodIn_app (goodIn_of _ (by decide +kernel)) ggX6_restore_X0_record
set_option maxRecDepth 20000 in
theorem ggX6_restore_X4_copyFrom : GoodIn wsX6_restore wsX4_copyFrom := goodIn_r _ [24, 25, 26, 27, 28, 29, 30, 31, 32, 33, 34, 35, 57, 58, 59, 60, 61, 62, 63] (by decide +kernel) (by decide +kernel)
set_option maxRecDepth 20000 in
theorem gX6_restore_X4_copyFrom : GoodIn wsX6_restore (wsV RX6 171 RX4 yX4_copyFrom wsX4_copyFrom) := goodIn_app (goodIn_of _ (by decide +kernel)) ggX6_restore_X4_copyFrom
set_option maxRecDepth 20000 in
theorem ggX6_restore_X4_doneBends : GoodIn wsX6_restore wsX4_doneBends := goodIn_r _ [40, 27, 41, 42, 43, 44, 45, 46, 47, 57, 58, 59, 60, 61, 62, 63] (by decide +kernel) (by decide +kernel)
set_option maxRecDepth 20000 in
theorem gX6_restore_X4_doneBends : GoodIn wsX6_restore (wsV RX6 138 RX4 yX4_doneBends wsX4_doneBends) := goodIn_app (goodIn_of _ (by decide +kernel)) ggX6_restore_X4_doneBends
theorem dX6_restore_0 : decode cX6_restore 0 = .ok (.aload_n 0, 1) := by decide +kernel
theorem dX6_restore_1 : decode cX6_restore 1 = .ok (.getfield 19, 3) := by decide +kernel
theorem dX6_restore_4 : decode cX6_restore 4 = .ok (.ifCond .ne 7, 3) := by decide +kernel
theorem dX6_restore_7 : decode cX6_restore 7 = .ok (.sipush (-1005), 3) := by decide +kernel
theorem dX6_restore_10 : decode cX6_restore 10 = .ok (.ireturn, 1) := by decide +kernel
theorem dX6_restore_11 : decode cX6_restore 11 = .ok (.aload_n 0, 1) := by decide +kernel
theorem dX6_restore_12 : decode cX6_restore 12 = .ok (.getfield 26, 3) := by decide +kernel
theorem dX6_restore_15 : decode cX6_restore 15 = .ok (.aload_n 0, 1) := by decide +kernel
theorem dX6_restore_16 : decode cX6_restore 16 = .ok (.getfield 10, 3) := by decide +kernel
theorem dX6_restore_19 : decode cX6_restore 19 = .ok (.invokevirtual 55, 3) := by decide +kernel
theorem dX6_restore_22 : decode cX6_restore 22 = .ok (.aload_n 0, 1) := by decide +kernel
theorem dX6_restore_23 : decode cX6_restore 23 = .ok (.getfield 10, 3) := by decide +kernel
theorem dX6_restore_26 : decode cX6_restore 26 = .ok (.aload_n 0, 1) := by decide +kernel
theorem dX6_restore_27 : decode cX6_restore 27 = .ok (.getfield 16, 3) := by decide +kernel
theorem dX6_restore_30 : decode cX6_restore 30 = .ok (.invokevirtual 171, 3) := by decide +kernel
theorem dX6_restore_33 : decode cX6_restore 33 = .ok (.aload_n 0, 1) := by decide +kernel
theorem dX6_restore_34 : decode cX6_restore 34 = .ok (.getfield 10, 3) := by decide +kernel
theorem dX6_restore_37 : decode cX6_restore 37 = .ok (.invokevirtual 138, 3) := by decide +kernel
theorem dX6_restore_40 : decode cX6_restore 40 = .ok (.ireturn, 1) := by decide +kernel
set_option maxRecDepth 20000 in
theorem ggX6_ofBend_X4_hasBend : GoodIn wsX6_ofBend wsX4_hasBend := goodIn_r _ [9, 10, 118, 119, 120, 121, 122, 123, 124] (by decide +kernel) (by decide +kernel)
set_option maxRecDepth 20000 in
theorem gX6_ofBend_X4_hasBend : GoodIn wsX6_ofBend (wsV RX6 93 RX4 yX4_hasBend wsX4_hasBend) := goodIn_app (goodIn_of _ (by decide +kernel)) ggX6_ofBend_X4_hasBend
set_option maxRecDepth 20000 in
theorem ggX6_ofBend_X4_isUp : GoodIn wsX6_ofBend wsX4_isUp := goodIn_r _ [14, 15, 118, 119, 120, 121, 122, 123, 124] (by decide +kernel) (by decide +kernel)
set_option maxRecDepth 20000 in
theorem gX6_ofBend_X4_isUp : GoodIn wsX6_ofBend (wsV RX6 96 RX4 yX4_isUp wsX4_isUp) := goodIn_app (goodIn_of _ (by decide +kernel)) ggX6_ofBend_X4_isUp
set_option maxRecDepth 20000 in
theorem ggX6_ofBend_X6_asNumber : GoodIn wsX6_ofBend wsX6_asNumber := goodIn_r _ [19] (by decide +kernel) (by decide +kernel)
set_option maxRecDepth 20000 in
theorem gX6_ofBend_X6_asNumber : GoodIn wsX6_ofBend (va_wsS RX6 127 yX6_asNumber wsX6_asNumber) := goodIn_app (goodIn_of _ (by decide +kernel)) ggX6_ofBend_X6_asNumber
set_option maxRecDepth 20000 in
theorem ggX6_ofBend_X4_isDone : GoodIn wsX6_ofBend wsX4_isDone := goodIn_r _ [23, 24, 118, 119, 120, 121, 122, 123, 124] (by decide +kernel) (by decide +kernel)
set_option maxRecDepth 20000 in
theorem gX6_ofBend_X4_isDone : GoodIn wsX6_ofBend (wsV RX6 141 RX4 yX4_isDone wsX4_isDone) := goodIn_app (goodIn_of _ (by decide +kernel)) ggX6_ofBend_X4_isDone
set_option maxRecDepth 20000 in
theorem ggX6_ofBend_X2_reason : GoodIn wsX6_ofBend wsX2_reason := goodIn_r _ [29, 30, 31, 12, 13, 8, 14, 15, 32, 33, 34, 35, 10, 36, 37, 38, 39, 40, 41, 42, 43, 44, 45, 46, 47, 48, 49, 50, 51, 52, 53, 54, 55, 56, 57, 58, 59, 60, 61, 62, 63, 64, 65, 66, 67, 68, 69, 70, 71, 72, 73, 74, 75, 76, 77, 78, 79, 80, 81, 82, 83, 28, 84, 85, 86, 87, 88, 89, 90, 91, 92, 93, 94, 95, 96, 97, 98, 99, 100, 101, 102, 125, 118, 119, 120, 121, 122, 123, 124, 126, 127, 128, 129, 130, 131, 132, 133, 134, 135, 136] (by decide +kernel) (by decide +kernel)
set_option maxRecDepth 20000 in
theorem gX6_ofBend_X2_reason : GoodIn wsX6_ofBend (wsV RX6 131 RX2 yX2_reason wsX2_reason) := goodIn_app (goodIn_of _ (by decide +kernel)) ggX6_ofBend_X2_reason
set_option maxRecDepth 20000 in
theorem ggX6_ofBend_X4_degrees : GoodIn wsX6_ofBend wsX4_degrees := goodIn_r _ [106, 107, 108, 54, 109, 110, 42, 43, 8, 44, 45, 36, 37, 38, 39, 40, 118, 119, 120, 121, 122, 123, 124] (by decide +kernel) (by decide +kernel)
set_option maxRecDepth 20000 in
theorem gX6_ofBend_X4_degrees : GoodIn wsX6_ofBend (wsV RX6 174 RX4 yX4_degrees wsX4_degrees) := goodIn_app (goodIn_of _ (by decide +kernel)) ggX6_ofBend_X4_degrees
theorem dX6_ofBend_0 : decode cX6_ofBend 0 = .ok (.aload_n 0, 1) := by decide +kernel
theorem dX6_ofBend_1 : decode cX6_ofBend 1 = .ok (.getfield 10, 3) := by decide +kernel
theorem dX6_ofBend_4 : decode cX6_ofBend 4 = .ok (.iload_n 1, 1) := by decide +kernel
theorem dX6_ofBend_5 : decode cX6_ofBend 5 = .ok (.invokevirtual 93, 3) := by decide +kernel
theorem dX6_ofBend_8 : decode cX6_ofBend 8 = .ok (.ifCond .ne 7, 3) := by decide +kernel
theorem dX6_ofBend_11 : decode cX6_ofBend 11 = .ok (.sipush (-1001), 3) := by decide +kernel
theorem dX6_ofBend_14 : decode cX6_ofBend 14 = .ok (.ireturn, 1) := by decide +kernel
theorem dX6_ofBend_15 : decode cX6_ofBend 15 = .ok (.iload_n 2, 1) := by decide +kernel
theorem dX6_ofBend_16 : decode cX6_ofBend 16 = .ok (.tableswitch 131 0 4 #[36, 48, 60, 87, 96], 36) := by decide +kernel
theorem dX6_ofBend_52 : decode cX6_ofBend 52 = .ok (.aload_n 0, 1) := by decide +kernel
theorem dX6_ofBend_53 : decode cX6_ofBend 53 = .ok (.getfield 10, 3) := by decide +kernel
theorem dX6_ofBend_56 : decode cX6_ofBend 56 = .ok (.iload_n 1, 1) := by decide +kernel
theorem dX6_ofBend_57 : decode cX6_ofBend 57 = .ok (.invokevirtual 96, 3) := by decide +kernel
theorem dX6_ofBend_60 : decode cX6_ofBend 60 = .ok (.invokestatic 127, 3) := by decide +kernel
theorem dX6_ofBend_63 : decode cX6_ofBend 63 = .ok (.ireturn, 1) := by decide +kernel
theorem dX6_ofBend_64 : decode cX6_ofBend 64 = .ok (.aload_n 0, 1) := by decide +kernel
theorem dX6_ofBend_65 : decode cX6_ofBend 65 = .ok (.getfield 10, 3) := by decide +kernel
theorem dX6_ofBend_68 : decode cX6_ofBend 68 = .ok (.iload_n 1, 1) := by decide +kernel
theorem dX6_ofBend_69 : decode cX6_ofBend 69 = .ok (.invokevirtual 141, 3) := by decide +kernel
theorem dX6_ofBend_72 : decode cX6_ofBend 72 = .ok (.invokestatic 127, 3) := by decide +kernel
theorem dX6_ofBend_75 : decode cX6_ofBend 75 = .ok (.ireturn, 1) := by decide +kernel
theorem dX6_ofBend_76 : decode cX6_ofBend 76 = .ok (.aload_n 0, 1) := by decide +kernel
theorem dX6_ofBend_77 : decode cX6_ofBend 77 = .ok (.getfield 40, 3) := by decide +kernel
theorem dX6_ofBend_80 : decode cX6_ofBend 80 = .ok (.aload_n 0, 1) := by decide +kernel
theorem dX6_ofBend_81 : decode cX6_ofBend 81 = .ok (.getfield 10, 3) := by decide +kernel
theorem dX6_ofBend_84 : decode cX6_ofBend 84 = .ok (.iload_n 1, 1) := by decide +kernel
theorem dX6_ofBend_85 : decode cX6_ofBend 85 = .ok (.aload_n 0, 1) := by decide +kernel
theorem dX6_ofBend_86 : decode cX6_ofBend 86 = .ok (.getfield 10, 3) := by decide +kernel
theorem dX6_ofBend_89 : decode cX6_ofBend 89 = .ok (.getfield 86, 3) := by decide +kernel
theorem dX6_ofBend_92 : decode cX6_ofBend 92 = .ok (.aload_n 0, 1) := by decide +kernel
theorem dX6_ofBend_93 : decode cX6_ofBend 93 = .ok (.getfield 10, 3) := by decide +kernel
theorem dX6_ofBend_96 : decode cX6_ofBend 96 = .ok (.getfield 124, 3) := by decide +kernel
theorem dX6_ofBend_99 : decode cX6_ofBend 99 = .ok (.invokevirtual 131, 3) := by decide +kernel
theorem dX6_ofBend_102 : decode cX6_ofBend 102 = .ok (.ireturn, 1) := by decide +kernel
theorem dX6_ofBend_103 : decode cX6_ofBend 103 = .ok (.aload_n 0, 1) := by decide +kernel
theorem dX6_ofBend_104 : decode cX6_ofBend 104 = .ok (.getfield 10, 3) := by decide +kernel
theorem dX6_ofBend_107 : decode cX6_ofBend 107 = .ok (.iload_n 1, 1) := by decide +kernel
theorem dX6_ofBend_108 : decode cX6_ofBend 108 = .ok (.invokevirtual 174, 3) := by decide +kernel
theorem dX6_ofBend_111 : decode cX6_ofBend 111 = .ok (.ireturn, 1) := by decide +kernel
theorem dX6_ofBend_112 : decode cX6_ofBend 112 = .ok (.aload_n 0, 1) := by decide +kernel
theorem dX6_ofBend_113 : decode cX6_ofBend 113 = .ok (.getfield 40, 3) := by decide +kernel
theorem dX6_ofBend_116 : decode cX6_ofBend 116 = .ok (.aload_n 0, 1) := by decide +kernel
theorem dX6_ofBend_117 : decode cX6_ofBend 117 = .ok (.getfield 10, 3) := by decide +kernel
theorem dX6_ofBend_120 : decode cX6_ofBend 120 = .ok (.iload_n 1, 1) := by decide +kernel
theorem dX6_ofBend_121 : decode cX6_ofBend 121 = .ok (.aload_n 0, 1) := by decide +kernel
theorem dX6_ofBend_122 : decode cX6_ofBend 122 = .ok (.getfield 10, 3) := by decide +kernel
theorem dX6_ofBend_125 : decode cX6_ofBend 125 = .ok (.getfield 86, 3) := by decide +kernel
theorem dX6_ofBend_128 : decode cX6_ofBend 128 = .ok (.aload_n 0, 1) := by decide +kernel
theorem dX6_ofBend_129 : decode cX6_ofBend 129 = .ok (.getfield 10, 3) := by decide +kernel
theorem dX6_ofBend_132 : decode cX6_ofBend 132 = .ok (.getfield 124, 3) := by decide +kernel
theorem dX6_ofBend_135 : decode cX6_ofBend 135 = .ok (.ifCond .ne 7, 3) := by decide +kernel
theorem dX6_ofBend_138 : decode cX6_ofBend 138 = .ok (.iconst 1, 1) := by decide +kernel
theorem dX6_ofBend_139 : decode cX6_ofBend 139 = .ok (.goto 4, 3) := by decide +kernel
theorem dX6_ofBend_142 : decode cX6_ofBend 142 = .ok (.iconst 0, 1) := by decide +kernel
theorem dX6_ofBend_143 : decode cX6_ofBend 143 = .ok (.invokevirtual 131, 3) := by decide +kernel
theorem dX6_ofBend_146 : decode cX6_ofBend 146 = .ok (.ireturn, 1) := by decide +kernel
theorem dX6_ofBend_147 : decode cX6_ofBend 147 = .ok (.sipush (-1002), 3) := by decide +kernel
theorem dX6_ofBend_150 : decode cX6_ofBend 150 = .ok (.ireturn, 1) := by decide +kernel
set_option maxRecDepth 20000 in
theorem ggX6_lengthOf_X4_hasFlange : GoodIn wsX6_lengthOf wsX4_hasFlange := goodIn_r _ [6, 7, 20, 21, 22, 23, 24, 25, 26] (by decide +kernel) (by decide +kernel)
set_option maxRecDepth 20000 in
theorem gX6_lengthOf_X4_hasFlange : GoodIn wsX6_lengthOf (wsV RX6 82 RX4 yX4_hasFlange wsX4_hasFlange) := goodIn_app (goodIn_of _ (by decide +kernel)) ggX6_lengthOf_X4_hasFlange
set_option maxRecDepth 20000 in
theorem ggX6_lengthOf_X4_lengthAt : GoodIn wsX6_lengthOf wsX4_lengthAt := goodIn_r _ [11, 12, 20, 21, 22, 23, 24, 25, 26] (by decide +kernel) (by decide +kernel)
set_option maxRecDepth 20000 in
theorem gX6_lengthOf_X4_lengthAt : GoodIn wsX6_lengthOf (wsV RX6 89 RX4 yX4_lengthAt wsX4_lengthAt) := goodIn_app (goodIn_of _ (by decide +kernel)) ggX6_lengthOf_X4_lengthAt
theorem dX6_lengthOf_0 : decode cX6_lengthOf 0 = .ok (.aload_n 0, 1) := by decide +kernel
theorem dX6_lengthOf_1 : decode cX6_lengthOf 1 = .ok (.getfield 10, 3) := by decide +kernel
theorem dX6_lengthOf_4 : decode cX6_lengthOf 4 = .ok (.iload_n 1, 1) := by decide +kernel
theorem dX6_lengthOf_5 : decode cX6_lengthOf 5 = .ok (.invokevirtual 82, 3) := by decide +kernel
theorem dX6_lengthOf_8 : decode cX6_lengthOf 8 = .ok (.ifCond .ne 7, 3) := by decide +kernel
theorem dX6_lengthOf_11 : decode cX6_lengthOf 11 = .ok (.sipush (-1001), 3) := by decide +kernel
theorem dX6_lengthOf_14 : decode cX6_lengthOf 14 = .ok (.ireturn, 1) := by decide +kernel
theorem dX6_lengthOf_15 : decode cX6_lengthOf 15 = .ok (.aload_n 0, 1) := by decide +kernel
theorem dX6_lengthOf_16 : decode cX6_lengthOf 16 = .ok (.getfield 10, 3) := by decide +kernel
theorem dX6_lengthOf_19 : decode cX6_lengthOf 19 = .ok (.iload_n 1, 1) := by decide +kernel
theorem dX6_lengthOf_20 : decode cX6_lengthOf 20 = .ok (.invokevirtual 89, 3) := by decide +kernel
theorem dX6_lengthOf_23 : decode cX6_lengthOf 23 = .ok (.ireturn, 1) := by decide +kernel
set_option maxRecDepth 20000 in
theorem ggX6_end_X4_hasBend : GoodIn wsX6_end wsX4_hasBend := goodIn_r _ [7, 8, 79, 80, 81, 82, 83, 84, 85] (by decide +kernel) (by decide +kernel)
set_option maxRecDepth 20000 in
theorem gX6_end_X4_hasBend : GoodIn wsX6_end (wsV RX6 93 RX4 yX4_hasBend wsX4_hasBend) := goodIn_app (goodIn_of _ (by decide +kernel)) ggX6_end_X4_hasBend
set_option maxRecDepth 20000 in
theorem ggX6_end_X4_hasFlange : GoodIn wsX6_end wsX4_hasFlange := goodIn_r _ [12, 8, 79, 80, 81, 82, 83, 84, 85] (by decide +kernel) (by decide +kernel)
set_option maxRecDepth 20000 in
theorem gX6_end_X4_hasFlange : GoodIn wsX6_end (wsV RX6 82 RX4 yX4_hasFlange wsX4_hasFlange) := goodIn_app (goodIn_of _ (by decide +kernel)) ggX6_end_X4_hasFlange
set_option maxRecDepth 20000 in
theorem ggX6_end_X2_farEnd : GoodIn wsX6_end wsX2_farEnd := goodIn_r _ [17, 18, 19, 20, 21, 22, 23, 24, 25, 26, 27, 28, 29, 30, 31, 32, 33, 34, 35, 36, 37, 38, 39, 40, 41, 42, 6, 43, 44, 45, 46, 47, 48, 49, 50, 51, 52, 53, 54, 55, 56, 57, 58, 59, 60, 61, 62, 63, 64, 65, 66, 67, 68, 69, 70, 71, 86, 79, 80, 81, 82, 83, 84, 85, 87, 88, 89, 90, 91, 92, 93, 94, 95, 96, 97] (by decide +kernel) (by decide +kernel)
set_option maxRecDepth 20000 in
theorem gX6_end_X2_farEnd : GoodIn wsX6_end (wsV RX6 177 RX2 yX2_farEnd wsX2_farEnd) := goodIn_app (goodIn_of _ (by decide +kernel)) ggX6_end_X2_farEnd
theorem dX6_end_0 : decode cX6_end 0 = .ok (.aload_n 0, 1) := by decide +kernel
theorem dX6_end_1 : decode cX6_end 1 = .ok (.getfield 10, 3) := by decide +kernel
theorem dX6_end_4 : decode cX6_end 4 = .ok (.iload_n 1, 1) := by decide +kernel
theorem dX6_end_5 : decode cX6_end 5 = .ok (.invokevirtual 93, 3) := by decide +kernel
theorem dX6_end_8 : decode cX6_end 8 = .ok (.ifCond .eq 14, 3) := by decide +kernel
theorem dX6_end_11 : decode cX6_end 11 = .ok (.aload_n 0, 1) := by decide +kernel
theorem dX6_end_12 : decode cX6_end 12 = .ok (.getfield 10, 3) := by decide +kernel
theorem dX6_end_15 : decode cX6_end 15 = .ok (.iload_n 2, 1) := by decide +kernel
theorem dX6_end_16 : decode cX6_end 16 = .ok (.invokevirtual 82, 3) := by decide +kernel
theorem dX6_end_19 : decode cX6_end 19 = .ok (.ifCond .ne 7, 3) := by decide +kernel
theorem dX6_end_22 : decode cX6_end 22 = .ok (.sipush (-1001), 3) := by decide +kernel
theorem dX6_end_25 : decode cX6_end 25 = .ok (.ireturn, 1) := by decide +kernel
theorem dX6_end_26 : decode cX6_end 26 = .ok (.aload_n 0, 1) := by decide +kernel
theorem dX6_end_27 : decode cX6_end 27 = .ok (.getfield 40, 3) := by decide +kernel
theorem dX6_end_30 : decode cX6_end 30 = .ok (.aload_n 0, 1) := by decide +kernel
theorem dX6_end_31 : decode cX6_end 31 = .ok (.getfield 10, 3) := by decide +kernel
theorem dX6_end_34 : decode cX6_end 34 = .ok (.iload_n 1, 1) := by decide +kernel
theorem dX6_end_35 : decode cX6_end 35 = .ok (.iload_n 2, 1) := by decide +kernel
theorem dX6_end_36 : decode cX6_end 36 = .ok (.iload_n 3, 1) := by decide +kernel
theorem dX6_end_37 : decode cX6_end 37 = .ok (.invokevirtual 177, 3) := by decide +kernel
theorem dX6_end_40 : decode cX6_end 40 = .ok (.ireturn, 1) := by decide +kernel
set_option maxRecDepth 20000 in
theorem ggX6_strikers_X4_hasBend : GoodIn wsX6_strikers wsX4_hasBend := goodIn_r _ [9, 10, 85, 86, 87, 88, 89, 90, 91] (by decide +kernel) (by decide +kernel)
set_option maxRecDepth 20000 in
theorem gX6_strikers_X4_hasBend : GoodIn wsX6_strikers (wsV RX6 93 RX4 yX4_hasBend wsX4_hasBend) := goodIn_app (goodIn_of _ (by decide +kernel)) ggX6_strikers_X4_hasBend
set_option maxRecDepth 20000 in
theorem ggX6_strikers_X2_upperStrikers : GoodIn wsX6_strikers wsX2_upperStrikers := goodIn_r _ [15, 16, 17, 18, 19, 20, 21, 22, 23, 24, 25, 26, 27, 28, 29, 30, 31, 32, 33, 34, 35, 36, 37, 38, 8, 39, 40, 41, 42, 43, 44, 45, 46, 47, 48, 49, 50, 51, 52, 53, 54, 55, 56, 57, 58, 59, 60, 61, 62, 14, 63, 64, 65, 66, 67, 68, 69, 70, 71, 72, 73, 74, 75, 76, 77, 92, 85, 86, 87, 88, 89, 90, 91, 93, 94, 95, 96, 97, 98, 99, 100, 101, 102, 103] (by decide +kernel) (by decide +kernel)
set_option maxRecDepth 20000 in
theorem gX6_strikers_X2_upperStrikers : GoodIn wsX6_strikers (wsV RX6 180 RX2 yX2_upperStrikers wsX2_upperStrikers) := goodIn_app (goodIn_of _ (by decide +kernel)) ggX6_strikers_X2_upperStrikers
theorem dX6_strikers_0 : decode cX6_strikers 0 = .ok (.aload_n 0, 1) := by decide +kernel
theorem dX6_strikers_1 : decode cX6_strikers 1 = .ok (.getfield 10, 3) := by decide +kernel
theorem dX6_strikers_4 : decode cX6_strikers 4 = .ok (.iload_n 1, 1) := by decide +kernel
theorem dX6_strikers_5 : decode cX6_strikers 5 = .ok (.invokevirtual 93, 3) := by decide +kernel
theorem dX6_strikers_8 : decode cX6_strikers 8 = .ok (.ifCond .ne 7, 3) := by decide +kernel
theorem dX6_strikers_11 : decode cX6_strikers 11 = .ok (.sipush (-1001), 3) := by decide +kernel
theorem dX6_strikers_14 : decode cX6_strikers 14 = .ok (.ireturn, 1) := by decide +kernel
theorem dX6_strikers_15 : decode cX6_strikers 15 = .ok (.aload_n 0, 1) := by decide +kernel
theorem dX6_strikers_16 : decode cX6_strikers 16 = .ok (.getfield 40, 3) := by decide +kernel
theorem dX6_strikers_19 : decode cX6_strikers 19 = .ok (.aload_n 0, 1) := by decide +kernel
theorem dX6_strikers_20 : decode cX6_strikers 20 = .ok (.getfield 10, 3) := by decide +kernel
theorem dX6_strikers_23 : decode cX6_strikers 23 = .ok (.iload_n 1, 1) := by decide +kernel
theorem dX6_strikers_24 : decode cX6_strikers 24 = .ok (.aload_n 0, 1) := by decide +kernel
theorem dX6_strikers_25 : decode cX6_strikers 25 = .ok (.getfield 10, 3) := by decide +kernel
theorem dX6_strikers_28 : decode cX6_strikers 28 = .ok (.getfield 86, 3) := by decide +kernel
theorem dX6_strikers_31 : decode cX6_strikers 31 = .ok (.aload_n 0, 1) := by decide +kernel
theorem dX6_strikers_32 : decode cX6_strikers 32 = .ok (.getfield 10, 3) := by decide +kernel
theorem dX6_strikers_35 : decode cX6_strikers 35 = .ok (.getfield 124, 3) := by decide +kernel
theorem dX6_strikers_38 : decode cX6_strikers 38 = .ok (.invokevirtual 180, 3) := by decide +kernel
theorem dX6_strikers_41 : decode cX6_strikers 41 = .ok (.ireturn, 1) := by decide +kernel
set_option maxRecDepth 20000 in
theorem ggX6_order_X6_hasOrder : GoodIn wsX6_order wsX6_hasOrder := goodIn_r _ [8, 3, 1, 2, 9, 10, 11, 12, 13, 14, 15, 16, 17, 18, 19, 20, 21, 22, 23, 24, 25, 26, 27, 28, 29, 30, 31, 32, 33, 34, 35, 36, 37, 38, 39, 40, 41, 42, 43, 44, 45, 46, 47, 48, 49, 50, 51, 52, 53, 54, 55, 56, 57, 58, 59, 60, 61, 62, 63, 64, 65, 66, 67, 68, 69, 70, 71, 72, 73, 74, 75, 76, 77, 78, 79, 80, 81, 82, 83, 84, 85, 86, 87, 88, 89, 90, 91, 92, 93, 94, 95, 96, 97, 98, 99, 100, 101, 102, 103, 104, 105, 106, 107, 108, 109, 110, 111, 112, 113, 114, 115, 116, 117, 118, 119, 120, 121, 122, 123, 124, 125, 126, 127, 128, 129, 130, 131, 132, 133, 134, 158, 159, 160, 161, 162, 163, 164, 165, 166, 167, 168, 169, 170, 171, 172, 173, 174, 175, 176, 177, 178, 179, 180, 181, 182, 183, 184, 185, 186, 187, 188, 189] (by decide +kernel) (by decide +kernel)
set_option maxRecDepth 20000 in
theorem gX6_order_X6_hasOrder : GoodIn wsX6_order (wsV RX6 144 RX6 yX6_hasOrder wsX6_hasOrder) := goodIn_app (goodIn_of _ (by decide +kernel)) ggX6_order_X6_hasOrder
set_option maxRecDepth 20000 in
theorem ggX6_order_X4_openBends : GoodIn wsX6_order wsX4_openBends := goodIn_r _ [138, 26, 139, 140, 141, 24, 142, 42, 143, 144, 145, 146, 147, 148, 149, 165, 166, 167, 168, 169, 170, 171] (by decide +kernel) (by decide +kernel)
set_option maxRecDepth 20000 in
theorem gX6_order_X4_openBends : GoodIn wsX6_order (wsV RX6 148 RX4 yX4_openBends wsX4_openBends) := goodIn_app (goodIn_of _ (by decide +kernel)) ggX6_order_X4_openBends
set_option maxRecDepth 20000 in
theorem ggX6_order_X1_firstStep : GoodIn wsX6_order wsX1_firstStep := goodIn_r _ [153, 15, 57, 154, 155, 156, 12, 157, 59, 172, 173, 174, 175, 176, 177, 165, 166, 167, 168, 169, 170, 171] (by decide +kernel) (by decide +kernel)
set_option maxRecDepth 20000 in
theorem gX6_order_X1_firstStep : GoodIn wsX6_order (wsV RX6 157 RX1 yX1_firstStep wsX1_firstStep) := goodIn_app (goodIn_of _ (by decide +kernel)) ggX6_order_X1_firstStep
theorem dX6_order_0 : decode cX6_order 0 = .ok (.iload_n 1, 1) := by decide +kernel
theorem dX6_order_1 : decode cX6_order 1 = .ok (.ifCond .ge 7, 3) := by decide +kernel
theorem dX6_order_4 : decode cX6_order 4 = .ok (.sipush (-1002), 3) := by decide +kernel
theorem dX6_order_7 : decode cX6_order 7 = .ok (.ireturn, 1) := by decide +kernel
theorem dX6_order_8 : decode cX6_order 8 = .ok (.aload_n 0, 1) := by decide +kernel
theorem dX6_order_9 : decode cX6_order 9 = .ok (.invokevirtual 144, 3) := by decide +kernel
theorem dX6_order_12 : decode cX6_order 12 = .ok (.ifCond .ne 7, 3) := by decide +kernel
theorem dX6_order_15 : decode cX6_order 15 = .ok (.sipush (-1004), 3) := by decide +kernel
theorem dX6_order_18 : decode cX6_order 18 = .ok (.ireturn, 1) := by decide +kernel
theorem dX6_order_19 : decode cX6_order 19 = .ok (.iload_n 1, 1) := by decide +kernel
theorem dX6_order_20 : decode cX6_order 20 = .ok (.aload_n 0, 1) := by decide +kernel
theorem dX6_order_21 : decode cX6_order 21 = .ok (.getfield 10, 3) := by decide +kernel
theorem dX6_order_24 : decode cX6_order 24 = .ok (.invokevirtual 148, 3) := by decide +kernel
theorem dX6_order_27 : decode cX6_order 27 = .ok (.if_icmp .lt 7, 3) := by decide +kernel
theorem dX6_order_30 : decode cX6_order 30 = .ok (.sipush (-1005), 3) := by decide +kernel
theorem dX6_order_33 : decode cX6_order 33 = .ok (.ireturn, 1) := by decide +kernel
theorem dX6_order_34 : decode cX6_order 34 = .ok (.aload_n 0, 1) := by decide +kernel
theorem dX6_order_35 : decode cX6_order 35 = .ok (.getfield 10, 3) := by decide +kernel
theorem dX6_order_38 : decode cX6_order 38 = .ok (.getfield 86, 3) := by decide +kernel
theorem dX6_order_41 : decode cX6_order 41 = .ok (.istore_n 2, 1) := by decide +kernel
theorem dX6_order_42 : decode cX6_order 42 = .ok (.iconst 0, 1) := by decide +kernel
theorem dX6_order_43 : decode cX6_order 43 = .ok (.istore_n 3, 1) := by decide +kernel
theorem dX6_order_44 : decode cX6_order 44 = .ok (.iload_n 3, 1) := by decide +kernel
theorem dX6_order_45 : decode cX6_order 45 = .ok (.iload_n 1, 1) := by decide +kernel
theorem dX6_order_46 : decode cX6_order 46 = .ok (.if_icmp .ge 22, 3) := by decide +kernel
theorem dX6_order_49 : decode cX6_order 49 = .ok (.iload_n 2, 1) := by decide +kernel
theorem dX6_order_50 : decode cX6_order 50 = .ok (.iconst 1, 1) := by decide +kernel
theorem dX6_order_51 : decode cX6_order 51 = .ok (.aload_n 0, 1) := by decide +kernel
theorem dX6_order_52 : decode cX6_order 52 = .ok (.getfield 47, 3) := by decide +kernel
theorem dX6_order_55 : decode cX6_order 55 = .ok (.iload_n 2, 1) := by decide +kernel
theorem dX6_order_56 : decode cX6_order 56 = .ok (.invokevirtual 157, 3) := by decide +kernel
theorem dX6_order_59 : decode cX6_order 59 = .ok (.ishl, 1) := by decide +kernel
theorem dX6_order_60 : decode cX6_order 60 = .ok (.ior, 1) := by decide +kernel
theorem dX6_order_61 : decode cX6_order 61 = .ok (.istore_n 2, 1) := by decide +kernel
theorem dX6_order_62 : decode cX6_order 62 = .ok (.iinc 3 1, 3) := by decide +kernel
theorem dX6_order_65 : decode cX6_order 65 = .ok (.goto (-21), 3) := by decide +kernel
theorem dX6_order_68 : decode cX6_order 68 = .ok (.aload_n 0, 1) := by decide +kernel
theorem dX6_order_69 : decode cX6_order 69 = .ok (.getfield 47, 3) := by decide +kernel
theorem dX6_order_72 : decode cX6_order 72 = .ok (.iload_n 2, 1) := by decide +kernel
theorem dX6_order_73 : decode cX6_order 73 = .ok (.invokevirtual 157, 3) := by decide +kernel
theorem dX6_order_76 : decode cX6_order 76 = .ok (.ireturn, 1) := by decide +kernel
set_option maxRecDepth 20000 in
theorem ggX6_orders_X1_prepare : GoodIn wsX6_orders wsX1_prepare := goodIn_r _ [8, 9, 10, 11, 12, 13, 14, 15, 16, 17, 18, 19, 20, 21, 22, 23, 24, 25, 26, 27, 28, 29, 30, 31, 32, 33, 34, 35, 36, 37, 38, 39, 40, 41, 42, 43, 44, 45, 46, 47, 48, 49, 50, 7, 51, 52, 53, 54, 55, 56, 57, 58, 59, 60, 61, 62, 63, 64, 65, 66, 67, 68, 69, 70, 71, 72, 73, 74, 75, 76, 77, 78, 79, 80, 81, 82, 83, 84, 85, 86, 87, 88, 89, 90, 91, 92, 93, 94, 95, 96, 97, 98, 99, 100, 101, 102, 103, 104, 105, 106, 107, 108, 109, 110, 111, 112, 113, 114, 115, 116, 117, 118, 119, 120, 121, 122, 123, 124, 125, 126, 127, 128, 144, 145, 146, 147, 148, 149, 137, 138, 139, 140, 141, 142, 143, 150, 151, 152, 153, 154, 155, 156, 157, 158, 159, 160, 161] (by decide +kernel) (by decide +kernel)
set_option maxRecDepth 20000 in
theorem gX6_orders_X1_prepare : GoodIn wsX6_orders (wsV RX6 183 RX1 yX1_prepare wsX1_prepare) := goodIn_app (goodIn_of _ (by decide +kernel)) ggX6_orders_X1_prepare
set_option maxRecDepth 20000 in
theorem ggX6_orders_X1_waysFrom : GoodIn wsX6_orders wsX1_waysFrom := goodIn_r _ [58, 11, 144, 145, 146, 147, 148, 149] (by decide +kernel) (by decide +kernel)
set_option maxRecDepth 20000 in
theorem gX6_orders_X1_waysFrom : GoodIn wsX6_orders (wsV RX6 186 RX1 yX1_waysFrom wsX1_waysFrom) := goodIn_app (goodIn_of _ (by decide +kernel)) ggX6_orders_X1_waysFrom
theorem dX6_orders_0 : decode cX6_orders 0 = .ok (.aload_n 0, 1) := by decide +kernel
theorem dX6_orders_1 : decode cX6_orders 1 = .ok (.getfield 47, 3) := by decide +kernel
theorem dX6_orders_4 : decode cX6_orders 4 = .ok (.aload_n 0, 1) := by decide +kernel
theorem dX6_orders_5 : decode cX6_orders 5 = .ok (.getfield 10, 3) := by decide +kernel
theorem dX6_orders_8 : decode cX6_orders 8 = .ok (.invokevirtual 183, 3) := by decide +kernel
theorem dX6_orders_11 : decode cX6_orders 11 = .ok (.aload_n 0, 1) := by decide +kernel
theorem dX6_orders_12 : decode cX6_orders 12 = .ok (.getfield 47, 3) := by decide +kernel
theorem dX6_orders_15 : decode cX6_orders 15 = .ok (.aload_n 0, 1) := by decide +kernel
theorem dX6_orders_16 : decode cX6_orders 16 = .ok (.getfield 10, 3) := by decide +kernel
theorem dX6_orders_19 : decode cX6_orders 19 = .ok (.getfield 86, 3) := by decide +kernel
theorem dX6_orders_22 : decode cX6_orders 22 = .ok (.invokevirtual 186, 3) := by decide +kernel
theorem dX6_orders_25 : decode cX6_orders 25 = .ok (.ireturn, 1) := by decide +kernel
set_option maxRecDepth 20000 in
theorem ggX6_mustWait_X6_isOpen : GoodIn wsX6_mustWait wsX6_isOpen := goodIn_r _ [8, 2, 9, 10, 11, 12, 13, 14, 15, 16, 17, 18, 19, 166, 167, 168, 169, 170, 171, 172, 173, 174, 175, 176, 177, 178, 179] (by decide +kernel) (by decide +kernel)
set_option maxRecDepth 20000 in
theorem gX6_mustWait_X6_isOpen : GoodIn wsX6_mustWait (wsV RX6 189 RX6 yX6_isOpen wsX6_isOpen) := goodIn_app (goodIn_of _ (by decide +kernel)) ggX6_mustWait_X6_isOpen
set_option maxRecDepth 20000 in
theorem ggX6_mustWait_X6_hasOrder : GoodIn wsX6_mustWait wsX6_hasOrder := goodIn_r _ [23, 1, 2, 3, 24, 25, 26, 27, 28, 29, 30, 31, 32, 33, 34, 35, 36, 37, 38, 12, 39, 14, 40, 41, 42, 43, 44, 45, 46, 47, 48, 49, 50, 51, 52, 53, 54, 19, 55, 56, 57, 58, 59, 60, 61, 62, 63, 64, 65, 66, 67, 68, 69, 70, 71, 72, 73, 74, 75, 76, 77, 78, 79, 80, 81, 82, 83, 84, 85, 86, 87, 88, 89, 90, 91, 92, 93, 94, 95, 96, 97, 98, 99, 100, 101, 102, 103, 104, 105, 106, 107, 108, 109, 110, 111, 112, 113, 114, 115, 116, 117, 118, 119, 120, 121, 122, 123, 124, 125, 126, 127, 128, 129, 130, 131, 132, 133, 134, 135, 136, 137, 138, 139, 140, 141, 142, 143, 144, 145, 146, 166, 167, 168, 169, 170, 171, 172, 173, 174, 175, 176, 177, 178, 179, 180, 181, 182, 183, 184, 185, 186, 187, 188, 189, 190, 191, 192, 193, 194, 195, 196, 197] (by decide +kernel) (by decide +kernel)
set_option maxRecDepth 20000 in
theorem gX6_mustWait_X6_hasOrder : GoodIn wsX6_mustWait (wsV RX6 144 RX6 yX6_hasOrder wsX6_hasOrder) := goodIn_app (goodIn_of _ (by decide +kernel)) ggX6_mustWait_X6_hasOrder
set_option maxRecDepth 20000 in
theorem ggX6_mustWait_X1_canPrecede : GoodIn wsX6_mustWait wsX1_canPrecede := goodIn_r _ [150, 151, 152, 153, 34, 154, 155, 156, 157, 27, 158, 71, 159, 160, 161, 162, 30, 69, 180, 181, 182, 183, 184, 185, 173, 174, 175, 176, 177, 178, 179] (by decide +kernel) (by decide +kernel)
set_option maxRecDepth 20000 in
theorem gX6_mustWait_X1_canPrecede : GoodIn wsX6_mustWait (wsV RX6 192 RX1 yX1_canPrecede wsX1_canPrecede) := goodIn_app (goodIn_of _ (by decide +kernel)) ggX6_mustWait_X1_canPrecede
set_option maxRecDepth 20000 in
theorem ggX6_mustWait_X6_asNumber : GoodIn wsX6_mustWait wsX6_asNumber := goodIn_r _ [165] (by decide +kernel) (by decide +kernel)
set_option maxRecDepth 20000 in
theorem gX6_mustWait_X6_asNumber : GoodIn wsX6_mustWait (va_wsS RX6 127 yX6_asNumber wsX6_asNumber) := goodIn_app (goodIn_of _ (by decide +kernel)) ggX6_mustWait_X6_asNumber
theorem dX6_mustWait_0 : decode cX6_mustWait 0 = .ok (.aload_n 0, 1) := by decide +kernel
theorem dX6_mustWait_1 : decode cX6_mustWait 1 = .ok (.iload_n 1, 1) := by decide +kernel
theorem dX6_mustWait_2 : decode cX6_mustWait 2 = .ok (.invokevirtual 189, 3) := by decide +kernel
theorem dX6_mustWait_5 : decode cX6_mustWait 5 = .ok (.ifCond .eq 11, 3) := by decide +kernel
theorem dX6_mustWait_8 : decode cX6_mustWait 8 = .ok (.aload_n 0, 1) := by decide +kernel
theorem dX6_mustWait_9 : decode cX6_mustWait 9 = .ok (.iload_n 2, 1) := by decide +kernel
theorem dX6_mustWait_10 : decode cX6_mustWait 10 = .ok (.invokevirtual 189, 3) := by decide +kernel
theorem dX6_mustWait_13 : decode cX6_mustWait 13 = .ok (.ifCond .ne 7, 3) := by decide +kernel
theorem dX6_mustWait_16 : decode cX6_mustWait 16 = .ok (.sipush (-1001), 3) := by decide +kernel
theorem dX6_mustWait_19 : decode cX6_mustWait 19 = .ok (.ireturn, 1) := by decide +kernel
theorem dX6_mustWait_20 : decode cX6_mustWait 20 = .ok (.iload_n 1, 1) := by decide +kernel
theorem dX6_mustWait_21 : decode cX6_mustWait 21 = .ok (.iload_n 2, 1) := by decide +kernel
theorem dX6_mustWait_22 : decode cX6_mustWait 22 = .ok (.if_icmp .ne 7, 3) := by decide +kernel
theorem dX6_mustWait_25 : decode cX6_mustWait 25 = .ok (.sipush (-1002), 3) := by decide +kernel
theorem dX6_mustWait_28 : decode cX6_mustWait 28 = .ok (.ireturn, 1) := by decide +kernel
theorem dX6_mustWait_29 : decode cX6_mustWait 29 = .ok (.aload_n 0, 1) := by decide +kernel
theorem dX6_mustWait_30 : decode cX6_mustWait 30 = .ok (.invokevirtual 144, 3) := by decide +kernel
theorem dX6_mustWait_33 : decode cX6_mustWait 33 = .ok (.ifCond .ne 7, 3) := by decide +kernel
theorem dX6_mustWait_36 : decode cX6_mustWait 36 = .ok (.sipush (-1004), 3) := by decide +kernel
theorem dX6_mustWait_39 : decode cX6_mustWait 39 = .ok (.ireturn, 1) := by decide +kernel
theorem dX6_mustWait_40 : decode cX6_mustWait 40 = .ok (.aload_n 0, 1) := by decide +kernel
theorem dX6_mustWait_41 : decode cX6_mustWait 41 = .ok (.getfield 47, 3) := by decide +kernel
theorem dX6_mustWait_44 : decode cX6_mustWait 44 = .ok (.aload_n 0, 1) := by decide +kernel
theorem dX6_mustWait_45 : decode cX6_mustWait 45 = .ok (.getfield 10, 3) := by decide +kernel
theorem dX6_mustWait_48 : decode cX6_mustWait 48 = .ok (.getfield 86, 3) := by decide +kernel
theorem dX6_mustWait_51 : decode cX6_mustWait 51 = .ok (.iload_n 1, 1) := by decide +kernel
theorem dX6_mustWait_52 : decode cX6_mustWait 52 = .ok (.iload_n 2, 1) := by decide +kernel
theorem dX6_mustWait_53 : decode cX6_mustWait 53 = .ok (.invokevirtual 192, 3) := by decide +kernel
theorem dX6_mustWait_56 : decode cX6_mustWait 56 = .ok (.ifCond .ne 7, 3) := by decide +kernel
theorem dX6_mustWait_59 : decode cX6_mustWait 59 = .ok (.iconst 1, 1) := by decide +kernel
theorem dX6_mustWait_60 : decode cX6_mustWait 60 = .ok (.goto 4, 3) := by decide +kernel
theorem dX6_mustWait_63 : decode cX6_mustWait 63 = .ok (.iconst 0, 1) := by decide +kernel
theorem dX6_mustWait_64 : decode cX6_mustWait 64 = .ok (.invokestatic 127, 3) := by decide +kernel
theorem dX6_mustWait_67 : decode cX6_mustWait 67 = .ok (.ireturn, 1) := by decide +kernel
set_option maxRecDepth 20000 in
theorem ggX6_count_X4_doneBends : GoodIn wsX6_count wsX4_doneBends := goodIn_r _ [15, 16, 17, 18, 19, 20, 21, 22, 23, 186, 187, 188, 189, 190, 191, 192] (by decide +kernel) (by decide +kernel)
set_option maxRecDepth 20000 in
theorem gX6_count_X4_doneBends : GoodIn wsX6_count (wsV RX6 138 RX4 yX4_doneBends wsX4_doneBends) := goodIn_app (goodIn_of _ (by decide +kernel)) ggX6_count_X4_doneBends
set_option maxRecDepth 20000 in
theorem ggX6_count_X6_asNumber : GoodIn wsX6_count wsX6_asNumber := goodIn_r _ [27] (by decide +kernel) (by decide +kernel)
set_option maxRecDepth 20000 in
theorem gX6_count_X6_asNumber : GoodIn wsX6_count (va_wsS RX6 127 yX6_asNumber wsX6_asNumber) := goodIn_app (goodIn_of _ (by decide +kernel)) ggX6_count_X6_asNumber
set_option maxRecDepth 20000 in
theorem ggX6_count_X6_hasOrder : GoodIn wsX6_count wsX6_hasOrder := goodIn_r _ [31, 4, 1, 5, 32, 33, 34, 35, 36, 37, 38, 39, 40, 41, 42, 43, 44, 45, 46, 14, 47, 48, 49, 50, 51, 52, 53, 54, 55, 56, 57, 58, 59, 60, 61, 62, 63, 16, 64, 65, 66, 67, 68, 69, 70, 71, 72, 73, 74, 75, 76, 77, 78, 79, 80, 81, 82, 83, 84, 85, 86, 87, 88, 89, 90, 91, 92, 93, 94, 95, 96, 97, 98, 99, 100, 101, 102, 103, 104, 105, 106, 107, 108, 109, 110, 111, 112, 113, 114, 115, 116, 117, 118, 119, 120, 121, 122, 123, 124, 125, 126, 127, 128, 129, 130, 131, 132, 133, 134, 135, 136, 137, 138, 139, 140, 141, 142, 143, 144, 145, 146, 147, 148, 149, 150, 151, 152, 153, 154, 155, 179, 180, 181, 182, 183, 184, 185, 186, 187, 188, 189, 190, 191, 192, 197, 198, 199, 200, 201, 202, 203, 204, 205, 206, 207, 208, 209, 210, 211, 212, 213, 214] (by decide +kernel) (by decide +kernel)
set_option maxRecDepth 20000 in
theorem gX6_count_X6_hasOrder : GoodIn wsX6_count (wsV RX6 144 RX6 yX6_hasOrder wsX6_hasOrder) := goodIn_app (goodIn_of _ (by decide +kernel)) ggX6_count_X6_hasOrder
set_option maxRecDepth 20000 in
theorem ggX6_count_X6_possibleNow : GoodIn wsX6_count wsX6_possibleNow := goodIn_r _ [159, 1, 2, 160, 5, 3, 161, 90, 91, 92, 93, 94, 95, 86, 87, 14, 88, 49, 96, 97, 98, 99, 48, 50, 51, 52, 53, 54, 100, 56, 57, 58, 59, 101, 102, 103, 104, 105, 106, 107, 41, 42, 43, 108, 109, 110, 111, 112, 113, 114, 115, 116, 117, 118, 119, 120, 121, 122, 123, 124, 125, 126, 127, 128, 129, 130, 131, 132, 133, 134, 135, 136, 137, 138, 139, 140, 141, 142, 143, 144, 145, 146, 147, 148, 149, 150, 151, 152, 153, 154, 179, 180, 181, 182, 183, 184, 185, 186, 187, 188, 189, 190, 191, 192, 203, 204, 205, 206, 207, 208, 209, 210, 211, 212, 213, 214] (by decide +kernel) (by decide +kernel)
set_option maxRecDepth 20000 in
theorem gX6_count_X6_possibleNow : GoodIn wsX6_count (wsV RX6 196 RX6 yX6_possibleNow wsX6_possibleNow) := goodIn_app (goodIn_of _ (by decide +kernel)) ggX6_count_X6_possibleNow
set_option maxRecDepth 20000 in
theorem ggX6_count_X1_turnings : GoodIn wsX6_count wsX1_turnings := goodIn_r _ [165, 38, 78, 70, 71, 72, 14, 73, 48, 166, 167, 168, 35, 169, 170, 171, 172, 173, 80, 85, 86, 87, 88, 49, 197, 198, 199, 200, 201, 202, 186, 187, 188, 189, 190, 191, 192] (by decide +kernel) (by decide +kernel)
set_option maxRecDepth 20000 in
theorem gX6_count_X1_turnings : GoodIn wsX6_count (wsV RX6 199 RX1 yX1_turnings wsX1_turnings) := goodIn_app (goodIn_of _ (by decide +kernel)) ggX6_count_X1_turnings
set_option maxRecDepth 20000 in
theorem ggX6_count_X4_wholeLength : GoodIn wsX6_count wsX4_wholeLength := goodIn_r _ [177, 48, 50, 51, 52, 14, 53, 54, 186, 187, 188, 189, 190, 191, 192] (by decide +kernel) (by decide +kernel)
set_option maxRecDepth 20000 in
theorem gX6_count_X4_wholeLength : GoodIn wsX6_count (wsV RX6 203 RX4 yX4_wholeLength wsX4_wholeLength) := goodIn_app (goodIn_of _ (by decide +kernel)) ggX6_count_X4_wholeLength
set_option maxRecDepth 20000 in
theorem ggX6_count_X4_settingAt : GoodIn wsX6_count wsX4_settingAt := goodIn_r _ [58, 59, 186, 187, 188, 189, 190, 191, 192] (by decide +kernel) (by decide +kernel)
set_option maxRecDepth 20000 in
theorem gX6_count_X4_settingAt : GoodIn wsX6_count (wsV RX6 111 RX4 yX4_settingAt wsX4_settingAt) := goodIn_app (goodIn_of _ (by decide +kernel)) ggX6_count_X4_settingAt
theorem dX6_count_0 : decode cX6_count 0 = .ok (.iload_n 1, 1) := by decide +kernel
theorem dX6_count_1 : decode cX6_count 1 = .ok (.tableswitch 190 0 13 #[71, 79, 87, 98, 106, 111, 146, 154, 162, 162, 162, 162, 174, 182], 71) := by decide +kernel
theorem dX6_count_72 : decode cX6_count 72 = .ok (.aload_n 0, 1) := by decide +kernel
theorem dX6_count_73 : decode cX6_count 73 = .ok (.getfield 10, 3) := by decide +kernel
theorem dX6_count_76 : decode cX6_count 76 = .ok (.getfield 66, 3) := by decide +kernel
theorem dX6_count_79 : decode cX6_count 79 = .ok (.ireturn, 1) := by decide +kernel
theorem dX6_count_80 : decode cX6_count 80 = .ok (.aload_n 0, 1) := by decide +kernel
theorem dX6_count_81 : decode cX6_count 81 = .ok (.getfield 10, 3) := by decide +kernel
theorem dX6_count_84 : decode cX6_count 84 = .ok (.invokevirtual 138, 3) := by decide +kernel
theorem dX6_count_87 : decode cX6_count 87 = .ok (.ireturn, 1) := by decide +kernel
theorem dX6_count_88 : decode cX6_count 88 = .ok (.aload_n 0, 1) := by decide +kernel
theorem dX6_count_89 : decode cX6_count 89 = .ok (.getfield 10, 3) := by decide +kernel
theorem dX6_count_92 : decode cX6_count 92 = .ok (.getfield 124, 3) := by decide +kernel
theorem dX6_count_95 : decode cX6_count 95 = .ok (.invokestatic 127, 3) := by decide +kernel
theorem dX6_count_98 : decode cX6_count 98 = .ok (.ireturn, 1) := by decide +kernel
theorem dX6_count_99 : decode cX6_count 99 = .ok (.aload_n 0, 1) := by decide +kernel
theorem dX6_count_100 : decode cX6_count 100 = .ok (.invokevirtual 144, 3) := by decide +kernel
theorem dX6_count_103 : decode cX6_count 103 = .ok (.invokestatic 127, 3) := by decide +kernel
theorem dX6_count_106 : decode cX6_count 106 = .ok (.ireturn, 1) := by decide +kernel
theorem dX6_count_107 : decode cX6_count 107 = .ok (.aload_n 0, 1) := by decide +kernel
theorem dX6_count_108 : decode cX6_count 108 = .ok (.invokevirtual 196, 3) := by decide +kernel
theorem dX6_count_111 : decode cX6_count 111 = .ok (.ireturn, 1) := by decide +kernel
theorem dX6_count_112 : decode cX6_count 112 = .ok (.aload_n 0, 1) := by decide +kernel
theorem dX6_count_113 : decode cX6_count 113 = .ok (.invokevirtual 144, 3) := by decide +kernel
theorem dX6_count_116 : decode cX6_count 116 = .ok (.ifCond .eq 27, 3) := by decide +kernel
theorem dX6_count_119 : decode cX6_count 119 = .ok (.aload_n 0, 1) := by decide +kernel
theorem dX6_count_120 : decode cX6_count 120 = .ok (.getfield 47, 3) := by decide +kernel
theorem dX6_count_123 : decode cX6_count 123 = .ok (.aload_n 0, 1) := by decide +kernel
theorem dX6_count_124 : decode cX6_count 124 = .ok (.getfield 10, 3) := by decide +kernel
theorem dX6_count_127 : decode cX6_count 127 = .ok (.getfield 86, 3) := by decide +kernel
theorem dX6_count_130 : decode cX6_count 130 = .ok (.aload_n 0, 1) := by decide +kernel
theorem dX6_count_131 : decode cX6_count 131 = .ok (.getfield 10, 3) := by decide +kernel
theorem dX6_count_134 : decode cX6_count 134 = .ok (.getfield 124, 3) := by decide +kernel
theorem dX6_count_137 : decode cX6_count 137 = .ok (.invokevirtual 199, 3) := by decide +kernel
theorem dX6_count_140 : decode cX6_count 140 = .ok (.goto 6, 3) := by decide +kernel
theorem dX6_count_143 : decode cX6_count 143 = .ok (.sipush (-1005), 3) := by decide +kernel
theorem dX6_count_146 : decode cX6_count 146 = .ok (.ireturn, 1) := by decide +kernel
theorem dX6_count_147 : decode cX6_count 147 = .ok (.aload_n 0, 1) := by decide +kernel
theorem dX6_count_148 : decode cX6_count 148 = .ok (.getfield 10, 3) := by decide +kernel
theorem dX6_count_151 : decode cX6_count 151 = .ok (.invokevirtual 203, 3) := by decide +kernel
theorem dX6_count_154 : decode cX6_count 154 = .ok (.ireturn, 1) := by decide +kernel
theorem dX6_count_155 : decode cX6_count 155 = .ok (.aload_n 0, 1) := by decide +kernel
theorem dX6_count_156 : decode cX6_count 156 = .ok (.getfield 10, 3) := by decide +kernel
theorem dX6_count_159 : decode cX6_count 159 = .ok (.getfield 206, 3) := by decide +kernel
theorem dX6_count_162 : decode cX6_count 162 = .ok (.ireturn, 1) := by decide +kernel
theorem dX6_count_163 : decode cX6_count 163 = .ok (.aload_n 0, 1) := by decide +kernel
theorem dX6_count_164 : decode cX6_count 164 = .ok (.getfield 10, 3) := by decide +kernel
theorem dX6_count_167 : decode cX6_count 167 = .ok (.iload_n 1, 1) := by decide +kernel
theorem dX6_count_168 : decode cX6_count 168 = .ok (.bipush 8, 2) := by decide +kernel
theorem dX6_count_170 : decode cX6_count 170 = .ok (.isub, 1) := by decide +kernel
theorem dX6_count_171 : decode cX6_count 171 = .ok (.invokevirtual 111, 3) := by decide +kernel
theorem dX6_count_174 : decode cX6_count 174 = .ok (.ireturn, 1) := by decide +kernel
theorem dX6_count_175 : decode cX6_count 175 = .ok (.aload_n 0, 1) := by decide +kernel
theorem dX6_count_176 : decode cX6_count 176 = .ok (.getfield 26, 3) := by decide +kernel
theorem dX6_count_179 : decode cX6_count 179 = .ok (.getfield 167, 3) := by decide +kernel
theorem dX6_count_182 : decode cX6_count 182 = .ok (.ireturn, 1) := by decide +kernel
theorem dX6_count_183 : decode cX6_count 183 = .ok (.aload_n 0, 1) := by decide +kernel
theorem dX6_count_184 : decode cX6_count 184 = .ok (.getfield 33, 3) := by decide +kernel
theorem dX6_count_187 : decode cX6_count 187 = .ok (.getfield 160, 3) := by decide +kernel
theorem dX6_count_190 : decode cX6_count 190 = .ok (.ireturn, 1) := by decide +kernel
theorem dX6_count_191 : decode cX6_count 191 = .ok (.sipush (-1002), 3) := by decide +kernel
theorem dX6_count_194 : decode cX6_count 194 = .ok (.ireturn, 1) := by decide +kernel
set_option maxRecDepth 20000 in
theorem ggX6_possibleNow_X2_reason : GoodIn wsX6_possibleNow wsX2_reason := goodIn_r _ [10, 11, 12, 13, 14, 15, 16, 17, 18, 19, 20, 21, 22, 23, 24, 25, 26, 27, 28, 29, 30, 31, 32, 33, 34, 35, 36, 37, 38, 39, 40, 41, 42, 43, 44, 45, 46, 47, 48, 49, 50, 51, 52, 53, 54, 55, 56, 57, 58, 59, 60, 61, 62, 63, 64, 65, 66, 67, 68, 69, 70, 9, 71, 72, 73, 74, 75, 76, 77, 78, 79, 80, 81, 82, 83, 84, 85, 86, 87, 88, 89, 104, 97, 98, 99, 100, 101, 102, 103, 105, 106, 107, 108, 109, 110, 111, 112, 113, 114, 115] (by decide +kernel) (by decide +kernel)
set_option maxRecDepth 20000 in
theorem gX6_possibleNow_X2_reason : GoodIn wsX6_possibleNow (wsV RX6 131 RX2 yX2_reason wsX2_reason) := goodIn_app (goodIn_of _ (by decide +kernel)) ggX6_possibleNow_X2_reason
theorem dX6_possibleNow_0 : decode cX6_possibleNow 0 = .ok (.iconst 0, 1) := by decide +kernel
theorem dX6_possibleNow_1 : decode cX6_possibleNow 1 = .ok (.istore_n 1, 1) := by decide +kernel
theorem dX6_possibleNow_2 : decode cX6_possibleNow 2 = .ok (.iconst 0, 1) := by decide +kernel
theorem dX6_possibleNow_3 : decode cX6_possibleNow 3 = .ok (.istore_n 2, 1) := by decide +kernel
theorem dX6_possibleNow_4 : decode cX6_possibleNow 4 = .ok (.iload_n 2, 1) := by decide +kernel
theorem dX6_possibleNow_5 : decode cX6_possibleNow 5 = .ok (.aload_n 0, 1) := by decide +kernel
theorem dX6_possibleNow_6 : decode cX6_possibleNow 6 = .ok (.getfield 10, 3) := by decide +kernel
theorem dX6_possibleNow_9 : decode cX6_possibleNow 9 = .ok (.getfield 66, 3) := by decide +kernel
theorem dX6_possibleNow_12 : decode cX6_possibleNow 12 = .ok (.if_icmp .ge 44, 3) := by decide +kernel
theorem dX6_possibleNow_15 : decode cX6_possibleNow 15 = .ok (.aload_n 0, 1) := by decide +kernel
theorem dX6_possibleNow_16 : decode cX6_possibleNow 16 = .ok (.getfield 40, 3) := by decide +kernel
theorem dX6_possibleNow_19 : decode cX6_possibleNow 19 = .ok (.aload_n 0, 1) := by decide +kernel
theorem dX6_possibleNow_20 : decode cX6_possibleNow 20 = .ok (.getfield 10, 3) := by decide +kernel
theorem dX6_possibleNow_23 : decode cX6_possibleNow 23 = .ok (.iload_n 2, 1) := by decide +kernel
theorem dX6_possibleNow_24 : decode cX6_possibleNow 24 = .ok (.aload_n 0, 1) := by decide +kernel
theorem dX6_possibleNow_25 : decode cX6_possibleNow 25 = .ok (.getfield 10, 3) := by decide +kernel
theorem dX6_possibleNow_28 : decode cX6_possibleNow 28 = .ok (.getfield 86, 3) := by decide +kernel
theorem dX6_possibleNow_31 : decode cX6_possibleNow 31 = .ok (.aload_n 0, 1) := by decide +kernel
theorem dX6_possibleNow_32 : decode cX6_possibleNow 32 = .ok (.getfield 10, 3) := by decide +kernel
theorem dX6_possibleNow_35 : decode cX6_possibleNow 35 = .ok (.getfield 124, 3) := by decide +kernel
theorem dX6_possibleNow_38 : decode cX6_possibleNow 38 = .ok (.invokevirtual 131, 3) := by decide +kernel
theorem dX6_possibleNow_41 : decode cX6_possibleNow 41 = .ok (.ifCond .ne 9, 3) := by decide +kernel
theorem dX6_possibleNow_44 : decode cX6_possibleNow 44 = .ok (.iload_n 1, 1) := by decide +kernel
theorem dX6_possibleNow_45 : decode cX6_possibleNow 45 = .ok (.iconst 1, 1) := by decide +kernel
theorem dX6_possibleNow_46 : decode cX6_possibleNow 46 = .ok (.iload_n 2, 1) := by decide +kernel
theorem dX6_possibleNow_47 : decode cX6_possibleNow 47 = .ok (.ishl, 1) := by decide +kernel
theorem dX6_possibleNow_48 : decode cX6_possibleNow 48 = .ok (.ior, 1) := by decide +kernel
theorem dX6_possibleNow_49 : decode cX6_possibleNow 49 = .ok (.istore_n 1, 1) := by decide +kernel
theorem dX6_possibleNow_50 : decode cX6_possibleNow 50 = .ok (.iinc 2 1, 3) := by decide +kernel
theorem dX6_possibleNow_53 : decode cX6_possibleNow 53 = .ok (.goto (-49), 3) := by decide +kernel
theorem dX6_possibleNow_56 : decode cX6_possibleNow 56 = .ok (.iload_n 1, 1) := by decide +kernel
theorem dX6_possibleNow_57 : decode cX6_possibleNow 57 = .ok (.ireturn, 1) := by decide +kernel
set_option maxRecDepth 20000 in
theorem ggX6_hasOrder_X1_prepare : GoodIn wsX6_hasOrder wsX1_prepare := goodIn_r _ [8, 9, 10, 11, 12, 13, 14, 15, 16, 17, 18, 19, 20, 21, 22, 23, 24, 25, 26, 27, 28, 29, 30, 31, 32, 33, 34, 35, 36, 37, 38, 39, 40, 41, 42, 43, 44, 45, 46, 47, 48, 49, 50, 7, 51, 52, 53, 54, 55, 56, 57, 58, 59, 60, 61, 62, 63, 64, 65, 66, 67, 68, 69, 70, 71, 72, 73, 74, 75, 76, 77, 78, 79, 80, 81, 82, 83, 84, 85, 86, 87, 88, 89, 90, 91, 92, 93, 94, 95, 96, 97, 98, 99, 100, 101, 102, 103, 104, 105, 106, 107, 108, 109, 110, 111, 112, 113, 114, 115, 116, 117, 118, 119, 120, 121, 122, 123, 124, 125, 126, 127, 128, 144, 145, 146, 147, 148, 149, 137, 138, 139, 140, 141, 142, 143, 150, 151, 152, 153, 154, 155, 156, 157, 158, 159, 160, 161] (by decide +kernel) (by decide +kernel)
set_option maxRecDepth 20000 in
theorem gX6_hasOrder_X1_prepare : GoodIn wsX6_hasOrder (wsV RX6 183 RX1 yX1_prepare wsX1_prepare) := goodIn_app (goodIn_of _ (by decide +kernel)) ggX6_hasOrder_X1_prepare
set_option maxRecDepth 20000 in
theorem ggX6_hasOrder_X1_waysFrom : GoodIn wsX6_hasOrder wsX1_waysFrom := goodIn_r _ [58, 11, 144, 145, 146, 147, 148, 149] (by decide +kernel) (by decide +kernel)
set_option maxRecDepth 20000 in
theorem gX6_hasOrder_X1_waysFrom : GoodIn wsX6_hasOrder (wsV RX6 186 RX1 yX1_waysFrom wsX1_waysFrom) := goodIn_app (goodIn_of _ (by decide +kernel)) ggX6_hasOrder_X1_waysFrom
theorem dX6_hasOrder_0 : decode cX6_hasOrder 0 = .ok (.aload_n 0, 1) := by decide +kernel
theorem dX6_hasOrder_1 : decode cX6_hasOrder 1 = .ok (.getfield 47, 3) := by decide +kernel
theorem dX6_hasOrder_4 : decode cX6_hasOrder 4 = .ok (.aload_n 0, 1) := by decide +kernel
theorem dX6_hasOrder_5 : decode cX6_hasOrder 5 = .ok (.getfield 10, 3) := by decide +kernel
theorem dX6_hasOrder_8 : decode cX6_hasOrder 8 = .ok (.invokevirtual 183, 3) := by decide +kernel
theorem dX6_hasOrder_11 : decode cX6_hasOrder 11 = .ok (.aload_n 0, 1) := by decide +kernel
theorem dX6_hasOrder_12 : decode cX6_hasOrder 12 = .ok (.getfield 47, 3) := by decide +kernel
theorem dX6_hasOrder_15 : decode cX6_hasOrder 15 = .ok (.aload_n 0, 1) := by decide +kernel
theorem dX6_hasOrder_16 : decode cX6_hasOrder 16 = .ok (.getfield 10, 3) := by decide +kernel
theorem dX6_hasOrder_19 : decode cX6_hasOrder 19 = .ok (.getfield 86, 3) := by decide +kernel
theorem dX6_hasOrder_22 : decode cX6_hasOrder 22 = .ok (.invokevirtual 186, 3) := by decide +kernel
theorem dX6_hasOrder_25 : decode cX6_hasOrder 25 = .ok (.ifCond .le 7, 3) := by decide +kernel
theorem dX6_hasOrder_28 : decode cX6_hasOrder 28 = .ok (.iconst 1, 1) := by decide +kernel
theorem dX6_hasOrder_29 : decode cX6_hasOrder 29 = .ok (.goto 4, 3) := by decide +kernel
theorem dX6_hasOrder_32 : decode cX6_hasOrder 32 = .ok (.iconst 0, 1) := by decide +kernel
theorem dX6_hasOrder_33 : decode cX6_hasOrder 33 = .ok (.ireturn, 1) := by decide +kernel
set_option maxRecDepth 20000 in
theorem ggX6_isOpen_X4_hasBend : GoodIn wsX6_isOpen wsX4_hasBend := goodIn_r _ [6, 7, 20, 21, 22, 23, 24, 25, 26] (by decide +kernel) (by decide +kernel)
set_option maxRecDepth 20000 in
theorem gX6_isOpen_X4_hasBend : GoodIn wsX6_isOpen (wsV RX6 93 RX4 yX4_hasBend wsX4_hasBend) := goodIn_app (goodIn_of _ (by decide +kernel)) ggX6_isOpen_X4_hasBend
set_option maxRecDepth 20000 in
theorem ggX6_isOpen_X4_isDone : GoodIn wsX6_isOpen wsX4_isDone := goodIn_r _ [11, 12, 20, 21, 22, 23, 24, 25, 26] (by decide +kernel) (by decide +kernel)
set_option maxRecDepth 20000 in
theorem gX6_isOpen_X4_isDone : GoodIn wsX6_isOpen (wsV RX6 141 RX4 yX4_isDone wsX4_isDone) := goodIn_app (goodIn_of _ (by decide +kernel)) ggX6_isOpen_X4_isDone
theorem dX6_isOpen_0 : decode cX6_isOpen 0 = .ok (.aload_n 0, 1) := by decide +kernel
theorem dX6_isOpen_1 : decode cX6_isOpen 1 = .ok (.getfield 10, 3) := by decide +kernel
theorem dX6_isOpen_4 : decode cX6_isOpen 4 = .ok (.iload_n 1, 1) := by decide +kernel
theorem dX6_isOpen_5 : decode cX6_isOpen 5 = .ok (.invokevirtual 93, 3) := by decide +kernel
theorem dX6_isOpen_8 : decode cX6_isOpen 8 = .ok (.ifCond .eq 18, 3) := by decide +kernel
theorem dX6_isOpen_11 : decode cX6_isOpen 11 = .ok (.aload_n 0, 1) := by decide +kernel
theorem dX6_isOpen_12 : decode cX6_isOpen 12 = .ok (.getfield 10, 3) := by decide +kernel
theorem dX6_isOpen_15 : decode cX6_isOpen 15 = .ok (.iload_n 1, 1) := by decide +kernel
theorem dX6_isOpen_16 : decode cX6_isOpen 16 = .ok (.invokevirtual 141, 3) := by decide +kernel
theorem dX6_isOpen_19 : decode cX6_isOpen 19 = .ok (.ifCond .ne 7, 3) := by decide +kernel
theorem dX6_isOpen_22 : decode cX6_isOpen 22 = .ok (.iconst 1, 1) := by decide +kernel
theorem dX6_isOpen_23 : decode cX6_isOpen 23 = .ok (.goto 4, 3) := by decide +kernel
theorem dX6_isOpen_26 : decode cX6_isOpen 26 = .ok (.iconst 0, 1) := by decide +kernel
theorem dX6_isOpen_27 : decode cX6_isOpen 27 = .ok (.ireturn, 1) := by decide +kernel
theorem dX6_asNumber_0 : decode cX6_asNumber 0 = .ok (.iload_n 0, 1) := by decide +kernel
theorem dX6_asNumber_1 : decode cX6_asNumber 1 = .ok (.ifCond .eq 7, 3) := by decide +kernel
theorem dX6_asNumber_4 : decode cX6_asNumber 4 = .ok (.iconst 1, 1) := by decide +kernel
theorem dX6_asNumber_5 : decode cX6_asNumber 5 = .ok (.goto 4, 3) := by decide +kernel
theorem dX6_asNumber_8 : decode cX6_asNumber 8 = .ok (.iconst 0, 1) := by decide +kernel
theorem dX6_asNumber_9 : decode cX6_asNumber 9 = .ok (.ireturn, 1) := by decide +kernel
theorem dJ6_bitCount_0f7a4_0 : decode cJ6_bitCount_0f7a4 0 = .ok (.iload_n 0, 1) := by decide +kernel
theorem dJ6_bitCount_0f7a4_1 : decode cJ6_bitCount_0f7a4 1 = .ok (.iload_n 0, 1) := by decide +kernel
theorem dJ6_bitCount_0f7a4_2 : decode cJ6_bitCount_0f7a4 2 = .ok (.iconst 1, 1) := by decide +kernel
theorem dJ6_bitCount_0f7a4_3 : decode cJ6_bitCount_0f7a4 3 = .ok (.iushr, 1) := by decide +kernel
theorem dJ6_bitCount_0f7a4_4 : decode cJ6_bitCount_0f7a4 4 = .ok (.ldc_w 265, 3) := by decide +kernel
theorem dJ6_bitCount_0f7a4_7 : decode cJ6_bitCount_0f7a4 7 = .ok (.iand, 1) := by decide +kernel
theorem dJ6_bitCount_0f7a4_8 : decode cJ6_bitCount_0f7a4 8 = .ok (.isub, 1) := by decide +kernel
theorem dJ6_bitCount_0f7a4_9 : decode cJ6_bitCount_0f7a4 9 = .ok (.istore_n 0, 1) := by decide +kernel
theorem dJ6_bitCount_0f7a4_10 : decode cJ6_bitCount_0f7a4 10 = .ok (.iload_n 0, 1) := by decide +kernel
theorem dJ6_bitCount_0f7a4_11 : decode cJ6_bitCount_0f7a4 11 = .ok (.ldc_w 266, 3) := by decide +kernel
theorem dJ6_bitCount_0f7a4_14 : decode cJ6_bitCount_0f7a4 14 = .ok (.iand, 1) := by decide +kernel
theorem dJ6_bitCount_0f7a4_15 : decode cJ6_bitCount_0f7a4 15 = .ok (.iload_n 0, 1) := by decide +kernel
theorem dJ6_bitCount_0f7a4_16 : decode cJ6_bitCount_0f7a4 16 = .ok (.iconst 2, 1) := by decide +kernel
theorem dJ6_bitCount_0f7a4_17 : decode cJ6_bitCount_0f7a4 17 = .ok (.iushr, 1) := by decide +kernel
theorem dJ6_bitCount_0f7a4_18 : decode cJ6_bitCount_0f7a4 18 = .ok (.ldc_w 266, 3) := by decide +kernel
theorem dJ6_bitCount_0f7a4_21 : decode cJ6_bitCount_0f7a4 21 = .ok (.iand, 1) := by decide +kernel
theorem dJ6_bitCount_0f7a4_22 : decode cJ6_bitCount_0f7a4 22 = .ok (.iadd, 1) := by decide +kernel
theorem dJ6_bitCount_0f7a4_23 : decode cJ6_bitCount_0f7a4 23 = .ok (.istore_n 0, 1) := by decide +kernel
theorem dJ6_bitCount_0f7a4_24 : decode cJ6_bitCount_0f7a4 24 = .ok (.iload_n 0, 1) := by decide +kernel
theorem dJ6_bitCount_0f7a4_25 : decode cJ6_bitCount_0f7a4 25 = .ok (.iload_n 0, 1) := by decide +kernel
theorem dJ6_bitCount_0f7a4_26 : decode cJ6_bitCount_0f7a4 26 = .ok (.iconst 4, 1) := by decide +kernel
theorem dJ6_bitCount_0f7a4_27 : decode cJ6_bitCount_0f7a4 27 = .ok (.iushr, 1) := by decide +kernel
theorem dJ6_bitCount_0f7a4_28 : decode cJ6_bitCount_0f7a4 28 = .ok (.iadd, 1) := by decide +kernel
theorem dJ6_bitCount_0f7a4_29 : decode cJ6_bitCount_0f7a4 29 = .ok (.ldc_w 267, 3) := by decide +kernel
theorem dJ6_bitCount_0f7a4_32 : decode cJ6_bitCount_0f7a4 32 = .ok (.iand, 1) := by decide +kernel
theorem dJ6_bitCount_0f7a4_33 : decode cJ6_bitCount_0f7a4 33 = .ok (.istore_n 0, 1) := by decide +kernel
theorem dJ6_bitCount_0f7a4_34 : decode cJ6_bitCount_0f7a4 34 = .ok (.iload_n 0, 1) := by decide +kernel
theorem dJ6_bitCount_0f7a4_35 : decode cJ6_bitCount_0f7a4 35 = .ok (.iload_n 0, 1) := by decide +kernel
theorem dJ6_bitCount_0f7a4_36 : decode cJ6_bitCount_0f7a4 36 = .ok (.bipush 8, 2) := by decide +kernel
theorem dJ6_bitCount_0f7a4_38 : decode cJ6_bitCount_0f7a4 38 = .ok (.iushr, 1) := by decide +kernel
theorem dJ6_bitCount_0f7a4_39 : decode cJ6_bitCount_0f7a4 39 = .ok (.iadd, 1) := by decide +kernel
theorem dJ6_bitCount_0f7a4_40 : decode cJ6_bitCount_0f7a4 40 = .ok (.istore_n 0, 1) := by decide +kernel
theorem dJ6_bitCount_0f7a4_41 : decode cJ6_bitCount_0f7a4 41 = .ok (.iload_n 0, 1) := by decide +kernel
theorem dJ6_bitCount_0f7a4_42 : decode cJ6_bitCount_0f7a4 42 = .ok (.iload_n 0, 1) := by decide +kernel
theorem dJ6_bitCount_0f7a4_43 : decode cJ6_bitCount_0f7a4 43 = .ok (.bipush 16, 2) := by decide +kernel
theorem dJ6_bitCount_0f7a4_45 : decode cJ6_bitCount_0f7a4 45 = .ok (.iushr, 1) := by decide +kernel
theorem dJ6_bitCount_0f7a4_46 : decode cJ6_bitCount_0f7a4 46 = .ok (.iadd, 1) := by decide +kernel
theorem dJ6_bitCount_0f7a4_47 : decode cJ6_bitCount_0f7a4 47 = .ok (.istore_n 0, 1) := by decide +kernel
theorem dJ6_bitCount_0f7a4_48 : decode cJ6_bitCount_0f7a4 48 = .ok (.iload_n 0, 1) := by decide +kernel
theorem dJ6_bitCount_0f7a4_49 : decode cJ6_bitCount_0f7a4 49 = .ok (.bipush 63, 2) := by decide +kernel
theorem dJ6_bitCount_0f7a4_51 : decode cJ6_bitCount_0f7a4 51 = .ok (.iand, 1) := by decide +kernel
theorem dJ6_bitCount_0f7a4_52 : decode cJ6_bitCount_0f7a4 52 = .ok (.ireturn, 1) := by decide +kernel
theorem dJ9_max_7cf53_0 : decode cJ9_max_7cf53 0 = .ok (.iload_n 0, 1) := by decide +kernel
theorem dJ9_max_7cf53_1 : decode cJ9_max_7cf53 1 = .ok (.iload_n 1, 1) := by decide +kernel
theorem dJ9_max_7cf53_2 : decode cJ9_max_7cf53 2 = .ok (.if_icmp .lt 7, 3) := by decide +kernel
theorem dJ9_max_7cf53_5 : decode cJ9_max_7cf53 5 = .ok (.iload_n 0, 1) := by decide +kernel
theorem dJ9_max_7cf53_6 : decode cJ9_max_7cf53 6 = .ok (.goto 4, 3) := by decide +kernel
theorem dJ9_max_7cf53_9 : decode cJ9_max_7cf53 9 = .ok (.iload_n 1, 1) := by decide +kernel
theorem dJ9_max_7cf53_10 : decode cJ9_max_7cf53 10 = .ok (.ireturn, 1) := by decide +kernel
theorem dJ9_min_7cf53_0 : decode cJ9_min_7cf53 0 = .ok (.iload_n 0, 1) := by decide +kernel
theorem dJ9_min_7cf53_1 : decode cJ9_min_7cf53 1 = .ok (.iload_n 1, 1) := by decide +kernel
theorem dJ9_min_7cf53_2 : decode cJ9_min_7cf53 2 = .ok (.if_icmp .gt 7, 3) := by decide +kernel
theorem dJ9_min_7cf53_5 : decode cJ9_min_7cf53 5 = .ok (.iload_n 0, 1) := by decide +kernel
theorem dJ9_min_7cf53_6 : decode cJ9_min_7cf53 6 = .ok (.goto 4, 3) := by decide +kernel
theorem dJ9_min_7cf53_9 : decode cJ9_min_7cf53 9 = .ok (.iload_n 1, 1) := by decide +kernel
theorem dJ9_min_7cf53_10 : decode cJ9_min_7cf53 10 = .ok (.ireturn, 1) := by decide +kernel
