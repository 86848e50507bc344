theorem dX7_setUp_57 : decode cX7_setUp 57 = .ok (.getfield 7, 3) := by decide +kernel
theorem dX7_setUp_60 : decode cX7_setUp 60 = .ok (.bipush 9, 2) := by decide +kernel
theorem dX7_setUp_62 : decode cX7_setUp 62 = .ok (.iload_n 1, 1) := by decide +kernel
theorem dX7_setUp_63 : decode cX7_setUp 63 = .ok (.iadd, 1) := by decide +kernel
theorem dX7_setUp_64 : decode cX7_setUp 64 = .ok (.iload_n 2, 1) := by decide +kernel
theorem dX7_setUp_65 : decode cX7_setUp 65 = .ok (.ifCond .eq 7, 3) := by decide +kernel
theorem dX7_setUp_68 : decode cX7_setUp 68 = .ok (.iconst 1, 1) := by decide +kernel
theorem dX7_setUp_69 : decode cX7_setUp 69 = .ok (.goto 4, 3) := by decide +kernel
theorem dX7_setUp_72 : decode cX7_setUp 72 = .ok (.iconst 0, 1) := by decide +kernel
theorem dX7_setUp_73 : decode cX7_setUp 73 = .ok (.iastore, 1) := by decide +kernel
theorem dX7_setUp_74 : decode cX7_setUp 74 = .ok (.iconst 0, 1) := by decide +kernel
theorem dX7_setUp_75 : decode cX7_setUp 75 = .ok (.istore_n 3, 1) := by decide +kernel
theorem dX7_setUp_76 : decode cX7_setUp 76 = .ok (.iconst 0, 1) := by decide +kernel
theorem dX7_setUp_77 : decode cX7_setUp 77 = .ok (.istore 4, 2) := by decide +kernel
theorem dX7_setUp_79 : decode cX7_setUp 79 = .ok (.iload 4, 2) := by decide +kernel
theorem dX7_setUp_81 : decode cX7_setUp 81 = .ok (.aload_n 0, 1) := by decide +kernel
theorem dX7_setUp_82 : decode cX7_setUp 82 = .ok (.getfield 7, 3) := by decide +kernel
theorem dX7_setUp_85 : decode cX7_setUp 85 = .ok (.iconst 0, 1) := by decide +kernel
theorem dX7_setUp_86 : decode cX7_setUp 86 = .ok (.iaload, 1) := by decide +kernel
theorem dX7_setUp_87 : decode cX7_setUp 87 = .ok (.if_icmp .ge 22, 3) := by decide +kernel
theorem dX7_setUp_90 : decode cX7_setUp 90 = .ok (.iload_n 3, 1) := by decide +kernel
theorem dX7_setUp_91 : decode cX7_setUp 91 = .ok (.aload_n 0, 1) := by decide +kernel
theorem dX7_setUp_92 : decode cX7_setUp 92 = .ok (.getfield 7, 3) := by decide +kernel
theorem dX7_setUp_95 : decode cX7_setUp 95 = .ok (.bipush 9, 2) := by decide +kernel
theorem dX7_setUp_97 : decode cX7_setUp 97 = .ok (.iload 4, 2) := by decide +kernel
theorem dX7_setUp_99 : decode cX7_setUp 99 = .ok (.iadd, 1) := by decide +kernel
theorem dX7_setUp_100 : decode cX7_setUp 100 = .ok (.iaload, 1) := by decide +kernel
theorem dX7_setUp_101 : decode cX7_setUp 101 = .ok (.iadd, 1) := by decide +kernel
theorem dX7_setUp_102 : decode cX7_setUp 102 = .ok (.istore_n 3, 1) := by decide +kernel
theorem dX7_setUp_103 : decode cX7_setUp 103 = .ok (.iinc 4 1, 3) := by decide +kernel
theorem dX7_setUp_106 : decode cX7_setUp 106 = .ok (.goto (-27), 3) := by decide +kernel
theorem dX7_setUp_109 : decode cX7_setUp 109 = .ok (.iload_n 3, 1) := by decide +kernel
theorem dX7_setUp_110 : decode cX7_setUp 110 = .ok (.ireturn, 1) := by decide +kernel
set_option maxRecDepth 20000 in
theorem ggX7_set_X7_in : GoodIn wsX7_set wsX7_in := goodIn_r _ [5] (by decide +kernel) (by decide +kernel)
set_option maxRecDepth 20000 in
theorem gX7_set_X7_in : GoodIn wsX7_set (va_wsS RX7 37 yX7_in wsX7_in) := goodIn_app (goodIn_of _ (by decide +kernel)) ggX7_set_X7_in
set_option maxRecDepth 20000 in
theorem ggX7_set_X7_know : GoodIn wsX7_set wsX7_know := goodIn_r _ [9, 10, 11, 1, 16, 17, 18, 19, 20, 21, 22, 23, 24, 25, 26, 27, 28] (by decide +kernel) (by decide +kernel)
set_option maxRecDepth 20000 in
theorem gX7_set_X7_know : GoodIn wsX7_set (wsV RX7 104 RX7 yX7_know wsX7_know) := goodIn_app (goodIn_of _ (by decide +kernel)) ggX7_set_X7_know
set_option maxRecDepth 20000 in
theorem ggX7_set_X7_puts : GoodIn wsX7_set wsX7_puts := goodIn_r _ [15, 1, 16, 17, 18, 19, 20, 21, 22, 23, 24, 25, 26, 27, 28] (by decide +kernel) (by decide +kernel)
set_option maxRecDepth 20000 in
theorem gX7_set_X7_puts : GoodIn wsX7_set (wsV RX7 107 RX7 yX7_puts wsX7_puts) := goodIn_app (goodIn_of _ (by decide +kernel)) ggX7_set_X7_puts
theorem dX7_set_0 : decode cX7_set 0 = .ok (.iload_n 1, 1) := by decide +kernel
theorem dX7_set_1 : decode cX7_set 1 = .ok (.ifCond .ne 7, 3) := by decide +kernel
theorem dX7_set_4 : decode cX7_set 4 = .ok (.iconst 1, 1) := by decide +kernel
theorem dX7_set_5 : decode cX7_set 5 = .ok (.goto 4, 3) := by decide +kernel
theorem dX7_set_8 : decode cX7_set 8 = .ok (.iconst 0, 1) := by decide +kernel
theorem dX7_set_9 : decode cX7_set 9 = .ok (.istore_n 3, 1) := by decide +kernel
theorem dX7_set_10 : decode cX7_set 10 = .ok (.iload_n 1, 1) := by decide +kernel
theorem dX7_set_11 : decode cX7_set 11 = .ok (.ifCond .ne 8, 3) := by decide +kernel
theorem dX7_set_14 : decode cX7_set 14 = .ok (.bipush 12, 2) := by decide +kernel
theorem dX7_set_16 : decode cX7_set 16 = .ok (.goto 14, 3) := by decide +kernel
theorem dX7_set_19 : decode cX7_set 19 = .ok (.iload_n 1, 1) := by decide +kernel
theorem dX7_set_20 : decode cX7_set 20 = .ok (.iconst 1, 1) := by decide +kernel
theorem dX7_set_21 : decode cX7_set 21 = .ok (.if_icmp .ne 7, 3) := by decide +kernel
theorem dX7_set_24 : decode cX7_set 24 = .ok (.iconst 3, 1) := by decide +kernel
theorem dX7_set_25 : decode cX7_set 25 = .ok (.goto 5, 3) := by decide +kernel
theorem dX7_set_28 : decode cX7_set 28 = .ok (.bipush 9, 2) := by decide +kernel
theorem dX7_set_30 : decode cX7_set 30 = .ok (.istore 4, 2) := by decide +kernel
theorem dX7_set_32 : decode cX7_set 32 = .ok (.iload_n 1, 1) := by decide +kernel
theorem dX7_set_33 : decode cX7_set 33 = .ok (.iconst 0, 1) := by decide +kernel
theorem dX7_set_34 : decode cX7_set 34 = .ok (.iconst 3, 1) := by decide +kernel
theorem dX7_set_35 : decode cX7_set 35 = .ok (.invokestatic 37, 3) := by decide +kernel
theorem dX7_set_38 : decode cX7_set 38 = .ok (.ifCond .eq 13, 3) := by decide +kernel
theorem dX7_set_41 : decode cX7_set 41 = .ok (.iload_n 2, 1) := by decide +kernel
theorem dX7_set_42 : decode cX7_set 42 = .ok (.iload_n 3, 1) := by decide +kernel
theorem dX7_set_43 : decode cX7_set 43 = .ok (.iload 4, 2) := by decide +kernel
theorem dX7_set_45 : decode cX7_set 45 = .ok (.invokestatic 37, 3) := by decide +kernel
theorem dX7_set_48 : decode cX7_set 48 = .ok (.ifCond .ne 7, 3) := by decide +kernel
theorem dX7_set_51 : decode cX7_set 51 = .ok (.sipush (-1002), 3) := by decide +kernel
theorem dX7_set_54 : decode cX7_set 54 = .ok (.ireturn, 1) := by decide +kernel
theorem dX7_set_55 : decode cX7_set 55 = .ok (.aload_n 0, 1) := by decide +kernel
theorem dX7_set_56 : decode cX7_set 56 = .ok (.getfield 7, 3) := by decide +kernel
theorem dX7_set_59 : decode cX7_set 59 = .ok (.bipush 18, 2) := by decide +kernel
theorem dX7_set_61 : decode cX7_set 61 = .ok (.iload_n 1, 1) := by decide +kernel
theorem dX7_set_62 : decode cX7_set 62 = .ok (.iadd, 1) := by decide +kernel
theorem dX7_set_63 : decode cX7_set 63 = .ok (.iaload, 1) := by decide +kernel
theorem dX7_set_64 : decode cX7_set 64 = .ok (.iload_n 2, 1) := by decide +kernel
theorem dX7_set_65 : decode cX7_set 65 = .ok (.if_icmp .ne 7, 3) := by decide +kernel
theorem dX7_set_68 : decode cX7_set 68 = .ok (.sipush (-1005), 3) := by decide +kernel
theorem dX7_set_71 : decode cX7_set 71 = .ok (.ireturn, 1) := by decide +kernel
theorem dX7_set_72 : decode cX7_set 72 = .ok (.aload_n 0, 1) := by decide +kernel
theorem dX7_set_73 : decode cX7_set 73 = .ok (.invokevirtual 104, 3) := by decide +kernel
theorem dX7_set_76 : decode cX7_set 76 = .ok (.aload_n 0, 1) := by decide +kernel
theorem dX7_set_77 : decode cX7_set 77 = .ok (.bipush 18, 2) := by decide +kernel
theorem dX7_set_79 : decode cX7_set 79 = .ok (.iload_n 1, 1) := by decide +kernel
theorem dX7_set_80 : decode cX7_set 80 = .ok (.iadd, 1) := by decide +kernel
theorem dX7_set_81 : decode cX7_set 81 = .ok (.iload_n 2, 1) := by decide +kernel
theorem dX7_set_82 : decode cX7_set 82 = .ok (.invokevirtual 107, 3) := by decide +kernel
theorem dX7_set_85 : decode cX7_set 85 = .ok (.ireturn, 1) := by decide +kernel
set_option maxRecDepth 20000 in
theorem ggX7_layOver_X7_know : GoodIn wsX7_layOver wsX7_know := goodIn_r _ [6, 7, 8, 1, 9, 10, 11, 12, 13, 14, 15, 16, 17, 18, 19, 20, 21] (by decide +kernel) (by decide +kernel)
set_option maxRecDepth 20000 in
theorem gX7_layOver_X7_know : GoodIn wsX7_layOver (wsV RX7 104 RX7 yX7_know wsX7_know) := goodIn_app (goodIn_of _ (by decide +kernel)) ggX7_layOver_X7_know
theorem dX7_layOver_0 : decode cX7_layOver 0 = .ok (.aload_n 0, 1) := by decide +kernel
theorem dX7_layOver_1 : decode cX7_layOver 1 = .ok (.invokevirtual 104, 3) := by decide +kernel
theorem dX7_layOver_4 : decode cX7_layOver 4 = .ok (.aload_n 0, 1) := by decide +kernel
theorem dX7_layOver_5 : decode cX7_layOver 5 = .ok (.getfield 7, 3) := by decide +kernel
theorem dX7_layOver_8 : decode cX7_layOver 8 = .ok (.bipush 17, 2) := by decide +kernel
theorem dX7_layOver_10 : decode cX7_layOver 10 = .ok (.iconst 1, 1) := by decide +kernel
theorem dX7_layOver_11 : decode cX7_layOver 11 = .ok (.aload_n 0, 1) := by decide +kernel
theorem dX7_layOver_12 : decode cX7_layOver 12 = .ok (.getfield 7, 3) := by decide +kernel
theorem dX7_layOver_15 : decode cX7_layOver 15 = .ok (.bipush 17, 2) := by decide +kernel
theorem dX7_layOver_17 : decode cX7_layOver 17 = .ok (.iaload, 1) := by decide +kernel
theorem dX7_layOver_18 : decode cX7_layOver 18 = .ok (.isub, 1) := by decide +kernel
theorem dX7_layOver_19 : decode cX7_layOver 19 = .ok (.iastore, 1) := by decide +kernel
theorem dX7_layOver_20 : decode cX7_layOver 20 = .ok (.aload_n 0, 1) := by decide +kernel
theorem dX7_layOver_21 : decode cX7_layOver 21 = .ok (.getfield 7, 3) := by decide +kernel
theorem dX7_layOver_24 : decode cX7_layOver 24 = .ok (.bipush 17, 2) := by decide +kernel
theorem dX7_layOver_26 : decode cX7_layOver 26 = .ok (.iaload, 1) := by decide +kernel
theorem dX7_layOver_27 : decode cX7_layOver 27 = .ok (.ireturn, 1) := by decide +kernel
set_option maxRecDepth 20000 in
theorem ggX7_does_X7_many : GoodIn wsX7_does wsX7_many := goodIn_r _ [5] (by decide +kernel) (by decide +kernel)
set_option maxRecDepth 20000 in
theorem gX7_does_X7_many : GoodIn wsX7_does (va_wsS RX7 113 yX7_many wsX7_many) := goodIn_app (goodIn_of _ (by decide +kernel)) ggX7_does_X7_many
theorem dX7_does_0 : decode cX7_does 0 = .ok (.aload_n 0, 1) := by decide +kernel
theorem dX7_does_1 : decode cX7_does 1 = .ok (.getfield 7, 3) := by decide +kernel
theorem dX7_does_4 : decode cX7_does 4 = .ok (.bipush 16, 2) := by decide +kernel
theorem dX7_does_6 : decode cX7_does 6 = .ok (.dup2, 1) := by decide +kernel
theorem dX7_does_7 : decode cX7_does 7 = .ok (.iaload, 1) := by decide +kernel
theorem dX7_does_8 : decode cX7_does 8 = .ok (.iconst 1, 1) := by decide +kernel
theorem dX7_does_9 : decode cX7_does 9 = .ok (.iload_n 1, 1) := by decide +kernel
theorem dX7_does_10 : decode cX7_does 10 = .ok (.ishl, 1) := by decide +kernel
theorem dX7_does_11 : decode cX7_does 11 = .ok (.ior, 1) := by decide +kernel
theorem dX7_does_12 : decode cX7_does 12 = .ok (.iastore, 1) := by decide +kernel
theorem dX7_does_13 : decode cX7_does 13 = .ok (.aload_n 0, 1) := by decide +kernel
theorem dX7_does_14 : decode cX7_does 14 = .ok (.getfield 7, 3) := by decide +kernel
theorem dX7_does_17 : decode cX7_does 17 = .ok (.bipush 22, 2) := by decide +kernel
theorem dX7_does_19 : decode cX7_does 19 = .ok (.dup2, 1) := by decide +kernel
theorem dX7_does_20 : decode cX7_does 20 = .ok (.iaload, 1) := by decide +kernel
theorem dX7_does_21 : decode cX7_does 21 = .ok (.iconst 1, 1) := by decide +kernel
theorem dX7_does_22 : decode cX7_does 22 = .ok (.iadd, 1) := by decide +kernel
theorem dX7_does_23 : decode cX7_does 23 = .ok (.iastore, 1) := by decide +kernel
theorem dX7_does_24 : decode cX7_does 24 = .ok (.aload_n 0, 1) := by decide +kernel
theorem dX7_does_25 : decode cX7_does 25 = .ok (.getfield 7, 3) := by decide +kernel
theorem dX7_does_28 : decode cX7_does 28 = .ok (.bipush 16, 2) := by decide +kernel
theorem dX7_does_30 : decode cX7_does 30 = .ok (.iaload, 1) := by decide +kernel
theorem dX7_does_31 : decode cX7_does 31 = .ok (.invokestatic 113, 3) := by decide +kernel
theorem dX7_does_34 : decode cX7_does 34 = .ok (.ireturn, 1) := by decide +kernel
set_option maxRecDepth 20000 in
theorem ggX7_bend_X7_isBend : GoodIn wsX7_bend wsX7_isBend := goodIn_r _ [6, 1, 7, 8, 5, 9, 66, 67, 68, 69, 70, 71, 72, 73, 74, 75, 76, 77, 78] (by decide +kernel) (by decide +kernel)
set_option maxRecDepth 20000 in
theorem gX7_bend_X7_isBend : GoodIn wsX7_bend (wsV RX7 110 RX7 yX7_isBend wsX7_isBend) := goodIn_app (goodIn_of _ (by decide +kernel)) ggX7_bend_X7_isBend
set_option maxRecDepth 20000 in
theorem ggX7_bend_X7_reason : GoodIn wsX7_bend wsX7_reason := goodIn_r _ [13, 1, 14, 15, 5, 16, 17, 18, 19, 20, 21, 22, 23, 24, 25, 26, 27, 28, 7, 8, 9, 29, 30, 31, 32, 33, 34, 35, 36, 37, 38, 39, 40, 41, 42, 43, 44, 45, 46, 47, 48, 49, 50, 51, 52, 66, 67, 68, 69, 70, 71, 72, 73, 74, 75, 76, 77, 78] (by decide +kernel) (by decide +kernel)
set_option maxRecDepth 20000 in
theorem gX7_bend_X7_reason : GoodIn wsX7_bend (wsV RX7 87 RX7 yX7_reason wsX7_reason) := goodIn_app (goodIn_of _ (by decide +kernel)) ggX7_bend_X7_reason
set_option maxRecDepth 20000 in
theorem ggX7_bend_X7_know : GoodIn wsX7_bend wsX7_know := goodIn_r _ [56, 57, 58, 1, 66, 67, 68, 69, 70, 71, 72, 73, 74, 75, 76, 77, 78] (by decide +kernel) (by decide +kernel)
set_option maxRecDepth 20000 in
theorem gX7_bend_X7_know : GoodIn wsX7_bend (wsV RX7 104 RX7 yX7_know wsX7_know) := goodIn_app (goodIn_of _ (by decide +kernel)) ggX7_bend_X7_know
set_option maxRecDepth 20000 in
theorem ggX7_bend_X7_does : GoodIn wsX7_bend wsX7_does := goodIn_r _ [62, 1, 63, 64, 5, 65, 66, 67, 68, 69, 70, 71, 72, 73, 74, 75, 76, 77, 78] (by decide +kernel) (by decide +kernel)
set_option maxRecDepth 20000 in
theorem gX7_bend_X7_does : GoodIn wsX7_bend (wsV RX7 116 RX7 yX7_does wsX7_does) := goodIn_app (goodIn_of _ (by decide +kernel)) ggX7_bend_X7_does
theorem dX7_bend_0 : decode cX7_bend 0 = .ok (.aload_n 0, 1) := by decide +kernel
theorem dX7_bend_1 : decode cX7_bend 1 = .ok (.iload_n 1, 1) := by decide +kernel
theorem dX7_bend_2 : decode cX7_bend 2 = .ok (.invokevirtual 110, 3) := by decide +kernel
theorem dX7_bend_5 : decode cX7_bend 5 = .ok (.ifCond .ne 7, 3) := by decide +kernel
theorem dX7_bend_8 : decode cX7_bend 8 = .ok (.sipush (-1001), 3) := by decide +kernel
theorem dX7_bend_11 : decode cX7_bend 11 = .ok (.ireturn, 1) := by decide +kernel
theorem dX7_bend_12 : decode cX7_bend 12 = .ok (.aload_n 0, 1) := by decide +kernel
theorem dX7_bend_13 : decode cX7_bend 13 = .ok (.iload_n 1, 1) := by decide +kernel
theorem dX7_bend_14 : decode cX7_bend 14 = .ok (.aload_n 0, 1) := by decide +kernel
theorem dX7_bend_15 : decode cX7_bend 15 = .ok (.getfield 7, 3) := by decide +kernel
theorem dX7_bend_18 : decode cX7_bend 18 = .ok (.bipush 16, 2) := by decide +kernel
theorem dX7_bend_20 : decode cX7_bend 20 = .ok (.iaload, 1) := by decide +kernel
theorem dX7_bend_21 : decode cX7_bend 21 = .ok (.aload_n 0, 1) := by decide +kernel
theorem dX7_bend_22 : decode cX7_bend 22 = .ok (.getfield 7, 3) := by decide +kernel
theorem dX7_bend_25 : decode cX7_bend 25 = .ok (.bipush 17, 2) := by decide +kernel
theorem dX7_bend_27 : decode cX7_bend 27 = .ok (.iaload, 1) := by decide +kernel
theorem dX7_bend_28 : decode cX7_bend 28 = .ok (.invokevirtual 87, 3) := by decide +kernel
theorem dX7_bend_31 : decode cX7_bend 31 = .ok (.ifCond .eq 7, 3) := by decide +kernel
theorem dX7_bend_34 : decode cX7_bend 34 = .ok (.sipush (-1004), 3) := by decide +kernel
theorem dX7_bend_37 : decode cX7_bend 37 = .ok (.ireturn, 1) := by decide +kernel
theorem dX7_bend_38 : decode cX7_bend 38 = .ok (.aload_n 0, 1) := by decide +kernel
theorem dX7_bend_39 : decode cX7_bend 39 = .ok (.invokevirtual 104, 3) := by decide +kernel
theorem dX7_bend_42 : decode cX7_bend 42 = .ok (.aload_n 0, 1) := by decide +kernel
theorem dX7_bend_43 : decode cX7_bend 43 = .ok (.iload_n 1, 1) := by decide +kernel
theorem dX7_bend_44 : decode cX7_bend 44 = .ok (.invokevirtual 116, 3) := by decide +kernel
theorem dX7_bend_47 : decode cX7_bend 47 = .ok (.ireturn, 1) := by decide +kernel
set_option maxRecDepth 20000 in
theorem ggX7_flatten_X7_isBend : GoodIn wsX7_flatten wsX7_isBend := goodIn_r _ [6, 1, 7, 8, 5, 9, 22, 23, 24, 25, 26, 27, 28, 29, 30, 31, 32, 33, 34] (by decide +kernel) (by decide +kernel)
set_option maxRecDepth 20000 in
theorem gX7_flatten_X7_isBend : GoodIn wsX7_flatten (wsV RX7 110 RX7 yX7_isBend wsX7_isBend) := goodIn_app (goodIn_of _ (by decide +kernel)) ggX7_flatten_X7_isBend
set_option maxRecDepth 20000 in
theorem ggX7_flatten_X7_has : GoodIn wsX7_flatten wsX7_has := goodIn_r _ [12] (by decide +kernel) (by decide +kernel)
set_option maxRecDepth 20000 in
theorem gX7_flatten_X7_has : GoodIn wsX7_flatten (va_wsS RX7 49 yX7_has wsX7_has) := goodIn_app (goodIn_of _ (by decide +kernel)) ggX7_flatten_X7_has
set_option maxRecDepth 20000 in
theorem ggX7_flatten_X7_know : GoodIn wsX7_flatten wsX7_know := goodIn_r _ [16, 17, 18, 1, 22, 23, 24, 25, 26, 27, 28, 29, 30, 31, 32, 33, 34] (by decide +kernel) (by decide +kernel)
set_option maxRecDepth 20000 in
theorem gX7_flatten_X7_know : GoodIn wsX7_flatten (wsV RX7 104 RX7 yX7_know wsX7_know) := goodIn_app (goodIn_of _ (by decide +kernel)) ggX7_flatten_X7_know
set_option maxRecDepth 20000 in
theorem ggX7_flatten_X7_many : GoodIn wsX7_flatten wsX7_many := goodIn_r _ [21] (by decide +kernel) (by decide +kernel)
set_option maxRecDepth 20000 in
theorem gX7_flatten_X7_many : GoodIn wsX7_flatten (va_wsS RX7 113 yX7_many wsX7_many) := goodIn_app (goodIn_of _ (by decide +kernel)) ggX7_flatten_X7_many
theorem dX7_flatten_0 : decode cX7_flatten 0 = .ok (.aload_n 0, 1) := by decide +kernel
theorem dX7_flatten_1 : decode cX7_flatten 1 = .ok (.iload_n 1, 1) := by decide +kernel
theorem dX7_flatten_2 : decode cX7_flatten 2 = .ok (.invokevirtual 110, 3) := by decide +kernel
theorem dX7_flatten_5 : decode cX7_flatten 5 = .ok (.ifCond .ne 7, 3) := by decide +kernel
theorem dX7_flatten_8 : decode cX7_flatten 8 = .ok (.sipush (-1001), 3) := by decide +kernel
theorem dX7_flatten_11 : decode cX7_flatten 11 = .ok (.ireturn, 1) := by decide +kernel
theorem dX7_flatten_12 : decode cX7_flatten 12 = .ok (.aload_n 0, 1) := by decide +kernel
theorem dX7_flatten_13 : decode cX7_flatten 13 = .ok (.getfield 7, 3) := by decide +kernel
theorem dX7_flatten_16 : decode cX7_flatten 16 = .ok (.bipush 16, 2) := by decide +kernel
theorem dX7_flatten_18 : decode cX7_flatten 18 = .ok (.iaload, 1) := by decide +kernel
theorem dX7_flatten_19 : decode cX7_flatten 19 = .ok (.iload_n 1, 1) := by decide +kernel
theorem dX7_flatten_20 : decode cX7_flatten 20 = .ok (.invokestatic 49, 3) := by decide +kernel
theorem dX7_flatten_23 : decode cX7_flatten 23 = .ok (.ifCond .ne 7, 3) := by decide +kernel
theorem dX7_flatten_26 : decode cX7_flatten 26 = .ok (.sipush (-1005), 3) := by decide +kernel
theorem dX7_flatten_29 : decode cX7_flatten 29 = .ok (.ireturn, 1) := by decide +kernel
theorem dX7_flatten_30 : decode cX7_flatten 30 = .ok (.aload_n 0, 1) := by decide +kernel
theorem dX7_flatten_31 : decode cX7_flatten 31 = .ok (.invokevirtual 104, 3) := by decide +kernel
theorem dX7_flatten_34 : decode cX7_flatten 34 = .ok (.aload_n 0, 1) := by decide +kernel
theorem dX7_flatten_35 : decode cX7_flatten 35 = .ok (.getfield 7, 3) := by decide +kernel
theorem dX7_flatten_38 : decode cX7_flatten 38 = .ok (.bipush 16, 2) := by decide +kernel
theorem dX7_flatten_40 : decode cX7_flatten 40 = .ok (.dup2, 1) := by decide +kernel
theorem dX7_flatten_41 : decode cX7_flatten 41 = .ok (.iaload, 1) := by decide +kernel
theorem dX7_flatten_42 : decode cX7_flatten 42 = .ok (.iconst 1, 1) := by decide +kernel
theorem dX7_flatten_43 : decode cX7_flatten 43 = .ok (.iload_n 1, 1) := by decide +kernel
theorem dX7_flatten_44 : decode cX7_flatten 44 = .ok (.ishl, 1) := by decide +kernel
theorem dX7_flatten_45 : decode cX7_flatten 45 = .ok (.isub, 1) := by decide +kernel
theorem dX7_flatten_46 : decode cX7_flatten 46 = .ok (.iastore, 1) := by decide +kernel
theorem dX7_flatten_47 : decode cX7_flatten 47 = .ok (.aload_n 0, 1) := by decide +kernel
theorem dX7_flatten_48 : decode cX7_flatten 48 = .ok (.getfield 7, 3) := by decide +kernel
theorem dX7_flatten_51 : decode cX7_flatten 51 = .ok (.bipush 16, 2) := by decide +kernel
theorem dX7_flatten_53 : decode cX7_flatten 53 = .ok (.iaload, 1) := by decide +kernel
theorem dX7_flatten_54 : decode cX7_flatten 54 = .ok (.invokestatic 113, 3) := by decide +kernel
theorem dX7_flatten_57 : decode cX7_flatten 57 = .ok (.ireturn, 1) := by decide +kernel
set_option maxRecDepth 20000 in
theorem ggX7_follow_X7_in : GoodIn wsX7_follow wsX7_in := goodIn_r _ [5] (by decide +kernel) (by decide +kernel)
set_option maxRecDepth 20000 in
theorem gX7_follow_X7_in : GoodIn wsX7_follow (va_wsS RX7 37 yX7_in wsX7_in) := goodIn_app (goodIn_of _ (by decide +kernel)) ggX7_follow_X7_in
set_option maxRecDepth 20000 in
theorem ggX7_follow_X7_allOrders : GoodIn wsX7_follow wsX7_allOrders := goodIn_r _ [9, 10, 11, 12, 4, 13, 14, 1, 15, 16, 17, 18, 19, 20, 21, 22, 23, 24, 25, 26, 27, 28, 29, 30, 31, 32, 33, 34, 35, 36, 37, 2, 3, 5, 38, 39, 40, 41, 42, 43, 44, 45, 46, 47, 48, 49, 50, 51, 52, 53, 54, 55, 56, 57, 58, 59, 60, 61, 62, 63, 64, 65, 66, 84, 85, 86, 87, 88, 89, 90, 91, 92, 93, 94, 95, 96] (by decide +kernel) (by decide +kernel)
set_option maxRecDepth 20000 in
theorem gX7_follow_X7_allOrders : GoodIn wsX7_follow (wsV RX7 97 RX7 yX7_allOrders wsX7_allOrders) := goodIn_app (goodIn_of _ (by decide +kernel)) ggX7_follow_X7_allOrders
set_option maxRecDepth 20000 in
theorem ggX7_follow_X7_all : GoodIn wsX7_follow wsX7_all := goodIn_r _ [18, 1, 84, 85, 86, 87, 88, 89, 90, 91, 92, 93, 94, 95, 96] (by decide +kernel) (by decide +kernel)
set_option maxRecDepth 20000 in
theorem gX7_follow_X7_all : GoodIn wsX7_follow (wsV RX7 83 RX7 yX7_all wsX7_all) := goodIn_app (goodIn_of _ (by decide +kernel)) ggX7_follow_X7_all
set_option maxRecDepth 20000 in
theorem ggX7_follow_X7_know : GoodIn wsX7_follow wsX7_know := goodIn_r _ [70, 71, 72, 1, 84, 85, 86, 87, 88, 89, 90, 91, 92, 93, 94, 95, 96] (by decide +kernel) (by decide +kernel)
set_option maxRecDepth 20000 in
theorem gX7_follow_X7_know : GoodIn wsX7_follow (wsV RX7 104 RX7 yX7_know wsX7_know) := goodIn_app (goodIn_of _ (by decide +kernel)) ggX7_follow_X7_know
set_option maxRecDepth 20000 in
theorem ggX7_follow_X7_nextOf : GoodIn wsX7_follow wsX7_nextOf := goodIn_r _ [76, 1, 14, 66, 23, 24, 4, 25, 84, 85, 86, 87, 88, 89, 90, 91, 92, 93, 94, 95, 96] (by decide +kernel) (by decide +kernel)
set_option maxRecDepth 20000 in
theorem gX7_follow_X7_nextOf : GoodIn wsX7_follow (wsV RX7 100 RX7 yX7_nextOf wsX7_nextOf) := goodIn_app (goodIn_of _ (by decide +kernel)) ggX7_follow_X7_nextOf
set_option maxRecDepth 20000 in
theorem ggX7_follow_X7_does : GoodIn wsX7_follow wsX7_does := goodIn_r _ [80, 1, 81, 82, 4, 83, 84, 85, 86, 87, 88, 89, 90, 91, 92, 93, 94, 95, 96] (by decide +kernel) (by decide +kernel)
set_option maxRecDepth 20000 in
theorem gX7_follow_X7_does : GoodIn wsX7_follow (wsV RX7 116 RX7 yX7_does wsX7_does) := goodIn_app (goodIn_of _ (by decide +kernel)) ggX7_follow_X7_does
set_option maxRecDepth 20000 in
theorem ggX7_follow_X7_many : GoodIn wsX7_follow wsX7_many := goodIn_r _ [83] (by decide +kernel) (by decide +kernel)
set_option maxRecDepth 20000 in
theorem gX7_follow_X7_many : GoodIn wsX7_follow (va_wsS RX7 113 yX7_many wsX7_many) := goodIn_app (goodIn_of _ (by decide +kernel)) ggX7_follow_X7_many
theorem dX7_follow_0 : decode cX7_follow 0 = .ok (.iload_n 1, 1) := by decide +kernel
theorem dX7_follow_1 : decode cX7_follow 1 = .ok (.iconst 1, 1) := by decide +kernel
theorem dX7_follow_2 : decode cX7_follow 2 = .ok (.bipush 7, 2) := by decide +kernel
theorem dX7_follow_4 : decode cX7_follow 4 = .ok (.invokestatic 37, 3) := by decide +kernel
theorem dX7_follow_7 : decode cX7_follow 7 = .ok (.ifCond .ne 7, 3) := by decide +kernel
theorem dX7_follow_10 : decode cX7_follow 10 = .ok (.sipush (-1002), 3) := by decide +kernel
theorem dX7_follow_13 : decode cX7_follow 13 = .ok (.ireturn, 1) := by decide +kernel
theorem dX7_follow_14 : decode cX7_follow 14 = .ok (.aload_n 0, 1) := by decide +kernel
theorem dX7_follow_15 : decode cX7_follow 15 = .ok (.invokevirtual 97, 3) := by decide +kernel
theorem dX7_follow_18 : decode cX7_follow 18 = .ok (.ifCond .ne 7, 3) := by decide +kernel
theorem dX7_follow_21 : decode cX7_follow 21 = .ok (.sipush (-1004), 3) := by decide +kernel
theorem dX7_follow_24 : decode cX7_follow 24 = .ok (.ireturn, 1) := by decide +kernel
theorem dX7_follow_25 : decode cX7_follow 25 = .ok (.aload_n 0, 1) := by decide +kernel
theorem dX7_follow_26 : decode cX7_follow 26 = .ok (.getfield 7, 3) := by decide +kernel
theorem dX7_follow_29 : decode cX7_follow 29 = .ok (.bipush 16, 2) := by decide +kernel
theorem dX7_follow_31 : decode cX7_follow 31 = .ok (.iaload, 1) := by decide +kernel
theorem dX7_follow_32 : decode cX7_follow 32 = .ok (.aload_n 0, 1) := by decide +kernel
theorem dX7_follow_33 : decode cX7_follow 33 = .ok (.invokevirtual 83, 3) := by decide +kernel
theorem dX7_follow_36 : decode cX7_follow 36 = .ok (.if_icmp .ne 7, 3) := by decide +kernel
theorem dX7_follow_39 : decode cX7_follow 39 = .ok (.sipush (-1005), 3) := by decide +kernel
theorem dX7_follow_42 : decode cX7_follow 42 = .ok (.ireturn, 1) := by decide +kernel
theorem dX7_follow_43 : decode cX7_follow 43 = .ok (.aload_n 0, 1) := by decide +kernel
theorem dX7_follow_44 : decode cX7_follow 44 = .ok (.invokevirtual 104, 3) := by decide +kernel
theorem dX7_follow_47 : decode cX7_follow 47 = .ok (.iconst 0, 1) := by decide +kernel
theorem dX7_follow_48 : decode cX7_follow 48 = .ok (.istore_n 2, 1) := by decide +kernel
theorem dX7_follow_49 : decode cX7_follow 49 = .ok (.iload_n 2, 1) := by decide +kernel
theorem dX7_follow_50 : decode cX7_follow 50 = .ok (.iload_n 1, 1) := by decide +kernel
theorem dX7_follow_51 : decode cX7_follow 51 = .ok (.if_icmp .ge 60, 3) := by decide +kernel
theorem dX7_follow_54 : decode cX7_follow 54 = .ok (.aload_n 0, 1) := by decide +kernel
theorem dX7_follow_55 : decode cX7_follow 55 = .ok (.getfield 7, 3) := by decide +kernel
theorem dX7_follow_58 : decode cX7_follow 58 = .ok (.bipush 16, 2) := by decide +kernel
theorem dX7_follow_60 : decode cX7_follow 60 = .ok (.iaload, 1) := by decide +kernel
theorem dX7_follow_61 : decode cX7_follow 61 = .ok (.aload_n 0, 1) := by decide +kernel
theorem dX7_follow_62 : decode cX7_follow 62 = .ok (.invokevirtual 83, 3) := by decide +kernel
theorem dX7_follow_65 : decode cX7_follow 65 = .ok (.if_icmp .eq 46, 3) := by decide +kernel
theorem dX7_follow_68 : decode cX7_follow 68 = .ok (.aload_n 0, 1) := by decide +kernel
theorem dX7_follow_69 : decode cX7_follow 69 = .ok (.aload_n 0, 1) := by decide +kernel
theorem dX7_follow_70 : decode cX7_follow 70 = .ok (.getfield 7, 3) := by decide +kernel
theorem dX7_follow_73 : decode cX7_follow 73 = .ok (.bipush 16, 2) := by decide +kernel
theorem dX7_follow_75 : decode cX7_follow 75 = .ok (.iaload, 1) := by decide +kernel
theorem dX7_follow_76 : decode cX7_follow 76 = .ok (.invokevirtual 100, 3) := by decide +kernel
theorem dX7_follow_79 : decode cX7_follow 79 = .ok (.istore_n 3, 1) := by decide +kernel
theorem dX7_follow_80 : decode cX7_follow 80 = .ok (.aload_n 0, 1) := by decide +kernel
theorem dX7_follow_81 : decode cX7_follow 81 = .ok (.getfield 7, 3) := by decide +kernel
theorem dX7_follow_84 : decode cX7_follow 84 = .ok (.bipush 17, 2) := by decide +kernel
theorem dX7_follow_86 : decode cX7_follow 86 = .ok (.iconst 1, 1) := by decide +kernel
theorem dX7_follow_87 : decode cX7_follow 87 = .ok (.aload_n 0, 1) := by decide +kernel
theorem dX7_follow_88 : decode cX7_follow 88 = .ok (.getfield 7, 3) := by decide +kernel
theorem dX7_follow_91 : decode cX7_follow 91 = .ok (.bipush 9, 2) := by decide +kernel
theorem dX7_follow_93 : decode cX7_follow 93 = .ok (.iload_n 3, 1) := by decide +kernel
theorem dX7_follow_94 : decode cX7_follow 94 = .ok (.iadd, 1) := by decide +kernel
theorem dX7_follow_95 : decode cX7_follow 95 = .ok (.iaload, 1) := by decide +kernel
theorem dX7_follow_96 : decode cX7_follow 96 = .ok (.isub, 1) := by decide +kernel
theorem dX7_follow_97 : decode cX7_follow 97 = .ok (.iastore, 1) := by decide +kernel
theorem dX7_follow_98 : decode cX7_follow 98 = .ok (.aload_n 0, 1) := by decide +kernel
theorem dX7_follow_99 : decode cX7_follow 99 = .ok (.iload_n 3, 1) := by decide +kernel
theorem dX7_follow_100 : decode cX7_follow 100 = .ok (.invokevirtual 116, 3) := by decide +kernel
theorem dX7_follow_103 : decode cX7_follow 103 = .ok (.istore 4, 2) := by decide +kernel
theorem dX7_follow_105 : decode cX7_follow 105 = .ok (.iinc 2 1, 3) := by decide +kernel
theorem dX7_follow_108 : decode cX7_follow 108 = .ok (.goto (-59), 3) := by decide +kernel
theorem dX7_follow_111 : decode cX7_follow 111 = .ok (.aload_n 0, 1) := by decide +kernel
theorem dX7_follow_112 : decode cX7_follow 112 = .ok (.getfield 7, 3) := by decide +kernel
theorem dX7_follow_115 : decode cX7_follow 115 = .ok (.bipush 16, 2) := by decide +kernel
theorem dX7_follow_117 : decode cX7_follow 117 = .ok (.iaload, 1) := by decide +kernel
theorem dX7_follow_118 : decode cX7_follow 118 = .ok (.invokestatic 113, 3) := by decide +kernel
theorem dX7_follow_121 : decode cX7_follow 121 = .ok (.ireturn, 1) := by decide +kernel
theorem dX7_type_0 : decode cX7_type 0 = .ok (.aload_n 0, 1) := by decide +kernel
theorem dX7_type_1 : decode cX7_type 1 = .ok (.getfield 119, 3) := by decide +kernel
theorem dX7_type_4 : decode cX7_type 4 = .ok (.bipush 60, 2) := by decide +kernel
theorem dX7_type_6 : decode cX7_type 6 = .ok (.if_icmp .ne 7, 3) := by decide +kernel
theorem dX7_type_9 : decode cX7_type 9 = .ok (.sipush (-1003), 3) := by decide +kernel
theorem dX7_type_12 : decode cX7_type 12 = .ok (.ireturn, 1) := by decide +kernel
theorem dX7_type_13 : decode cX7_type 13 = .ok (.aload_n 0, 1) := by decide +kernel
theorem dX7_type_14 : decode cX7_type 14 = .ok (.getfield 19, 3) := by decide +kernel
theorem dX7_type_17 : decode cX7_type 17 = .ok (.aload_n 0, 1) := by decide +kernel
theorem dX7_type_18 : decode cX7_type 18 = .ok (.getfield 119, 3) := by decide +kernel
theorem dX7_type_21 : decode cX7_type 21 = .ok (.iload_n 1, 1) := by decide +kernel
theorem dX7_type_22 : decode cX7_type 22 = .ok (.iastore, 1) := by decide +kernel
theorem dX7_type_23 : decode cX7_type 23 = .ok (.aload_n 0, 1) := by decide +kernel
theorem dX7_type_24 : decode cX7_type 24 = .ok (.dup, 1) := by decide +kernel
theorem dX7_type_25 : decode cX7_type 25 = .ok (.getfield 119, 3) := by decide +kernel
theorem dX7_type_28 : decode cX7_type 28 = .ok (.iconst 1, 1) := by decide +kernel
theorem dX7_type_29 : decode cX7_type 29 = .ok (.iadd, 1) := by decide +kernel
theorem dX7_type_30 : decode cX7_type 30 = .ok (.putfield 119, 3) := by decide +kernel
theorem dX7_type_33 : decode cX7_type 33 = .ok (.aload_n 0, 1) := by decide +kernel
theorem dX7_type_34 : decode cX7_type 34 = .ok (.getfield 119, 3) := by decide +kernel
theorem dX7_type_37 : decode cX7_type 37 = .ok (.ireturn, 1) := by decide +kernel
theorem dX7_clearText_0 : decode cX7_clearText 0 = .ok (.aload_n 0, 1) := by decide +kernel
theorem dX7_clearText_1 : decode cX7_clearText 1 = .ok (.getfield 119, 3) := by decide +kernel
theorem dX7_clearText_4 : decode cX7_clearText 4 = .ok (.istore_n 1, 1) := by decide +kernel
theorem dX7_clearText_5 : decode cX7_clearText 5 = .ok (.aload_n 0, 1) := by decide +kernel
theorem dX7_clearText_6 : decode cX7_clearText 6 = .ok (.iconst 0, 1) := by decide +kernel
theorem dX7_clearText_7 : decode cX7_clearText 7 = .ok (.putfield 119, 3) := by decide +kernel
theorem dX7_clearText_10 : decode cX7_clearText 10 = .ok (.iload_n 1, 1) := by decide +kernel
theorem dX7_clearText_11 : decode cX7_clearText 11 = .ok (.ireturn, 1) := by decide +kernel
set_option maxRecDepth 20000 in
theorem ggX7_fault_X7_in : GoodIn wsX7_fault wsX7_in := goodIn_r _ [6] (by decide +kernel) (by decide +kernel)
set_option maxRecDepth 20000 in
theorem gX7_fault_X7_in : GoodIn wsX7_fault (va_wsS RX7 37 yX7_in wsX7_in) := goodIn_app (goodIn_of _ (by decide +kernel)) ggX7_fault_X7_in
theorem dX7_fault_0 : decode cX7_fault 0 = .ok (.iconst 0, 1) := by decide +kernel
theorem dX7_fault_1 : decode cX7_fault 1 = .ok (.istore_n 1, 1) := by decide +kernel
theorem dX7_fault_2 : decode cX7_fault 2 = .ok (.iload_n 1, 1) := by decide +kernel
theorem dX7_fault_3 : decode cX7_fault 3 = .ok (.aload_n 0, 1) := by decide +kernel
theorem dX7_fault_4 : decode cX7_fault 4 = .ok (.getfield 119, 3) := by decide +kernel
theorem dX7_fault_7 : decode cX7_fault 7 = .ok (.if_icmp .ge 71, 3) := by decide +kernel
theorem dX7_fault_10 : decode cX7_fault 10 = .ok (.iload_n 1, 1) := by decide +kernel
theorem dX7_fault_11 : decode cX7_fault 11 = .ok (.iconst 2, 1) := by decide +kernel
theorem dX7_fault_12 : decode cX7_fault 12 = .ok (.irem, 1) := by decide +kernel
theorem dX7_fault_13 : decode cX7_fault 13 = .ok (.ifCond .ne 19, 3) := by decide +kernel
theorem dX7_fault_16 : decode cX7_fault 16 = .ok (.aload_n 0, 1) := by decide +kernel
theorem dX7_fault_17 : decode cX7_fault 17 = .ok (.getfield 19, 3) := by decide +kernel
theorem dX7_fault_20 : decode cX7_fault 20 = .ok (.iload_n 1, 1) := by decide +kernel
theorem dX7_fault_21 : decode cX7_fault 21 = .ok (.iaload, 1) := by decide +kernel
theorem dX7_fault_22 : decode cX7_fault 22 = .ok (.bipush 49, 2) := by decide +kernel
theorem dX7_fault_24 : decode cX7_fault 24 = .ok (.bipush 57, 2) := by decide +kernel
theorem dX7_fault_26 : decode cX7_fault 26 = .ok (.invokestatic 37, 3) := by decide +kernel
theorem dX7_fault_29 : decode cX7_fault 29 = .ok (.goto 30, 3) := by decide +kernel
theorem dX7_fault_32 : decode cX7_fault 32 = .ok (.aload_n 0, 1) := by decide +kernel
theorem dX7_fault_33 : decode cX7_fault 33 = .ok (.getfield 19, 3) := by decide +kernel
theorem dX7_fault_36 : decode cX7_fault 36 = .ok (.iload_n 1, 1) := by decide +kernel
theorem dX7_fault_37 : decode cX7_fault 37 = .ok (.iaload, 1) := by decide +kernel
theorem dX7_fault_38 : decode cX7_fault 38 = .ok (.bipush 117, 2) := by decide +kernel
theorem dX7_fault_40 : decode cX7_fault 40 = .ok (.if_icmp .eq 14, 3) := by decide +kernel
theorem dX7_fault_43 : decode cX7_fault 43 = .ok (.aload_n 0, 1) := by decide +kernel
theorem dX7_fault_44 : decode cX7_fault 44 = .ok (.getfield 19, 3) := by decide +kernel
theorem dX7_fault_47 : decode cX7_fault 47 = .ok (.iload_n 1, 1) := by decide +kernel
theorem dX7_fault_48 : decode cX7_fault 48 = .ok (.iaload, 1) := by decide +kernel
theorem dX7_fault_49 : decode cX7_fault 49 = .ok (.bipush 100, 2) := by decide +kernel
theorem dX7_fault_51 : decode cX7_fault 51 = .ok (.if_icmp .ne 7, 3) := by decide +kernel
theorem dX7_fault_54 : decode cX7_fault 54 = .ok (.iconst 1, 1) := by decide +kernel
theorem dX7_fault_55 : decode cX7_fault 55 = .ok (.goto 4, 3) := by decide +kernel
theorem dX7_fault_58 : decode cX7_fault 58 = .ok (.iconst 0, 1) := by decide +kernel
theorem dX7_fault_59 : decode cX7_fault 59 = .ok (.istore_n 2, 1) := by decide +kernel
theorem dX7_fault_60 : decode cX7_fault 60 = .ok (.iload_n 2, 1) := by decide +kernel
theorem dX7_fault_61 : decode cX7_fault 61 = .ok (.ifCond .eq 9, 3) := by decide +kernel
theorem dX7_fault_64 : decode cX7_fault 64 = .ok (.iload_n 1, 1) := by decide +kernel
theorem dX7_fault_65 : decode cX7_fault 65 = .ok (.bipush 14, 2) := by decide +kernel
theorem dX7_fault_67 : decode cX7_fault 67 = .ok (.if_icmp .le 5, 3) := by decide +kernel
theorem dX7_fault_70 : decode cX7_fault 70 = .ok (.iload_n 1, 1) := by decide +kernel
theorem dX7_fault_71 : decode cX7_fault 71 = .ok (.ireturn, 1) := by decide +kernel
theorem dX7_fault_72 : decode cX7_fault 72 = .ok (.iinc 1 1, 3) := by decide +kernel
theorem dX7_fault_75 : decode cX7_fault 75 = .ok (.goto (-73), 3) := by decide +kernel
theorem dX7_fault_78 : decode cX7_fault 78 = .ok (.aload_n 0, 1) := by decide +kernel
theorem dX7_fault_79 : decode cX7_fault 79 = .ok (.getfield 119, 3) := by decide +kernel
theorem dX7_fault_82 : decode cX7_fault 82 = .ok (.iconst 3, 1) := by decide +kernel
theorem dX7_fault_83 : decode cX7_fault 83 = .ok (.if_icmp .lt 12, 3) := by decide +kernel
theorem dX7_fault_86 : decode cX7_fault 86 = .ok (.aload_n 0, 1) := by decide +kernel
theorem dX7_fault_87 : decode cX7_fault 87 = .ok (.getfield 119, 3) := by decide +kernel
theorem dX7_fault_90 : decode cX7_fault 90 = .ok (.iconst 2, 1) := by decide +kernel
theorem dX7_fault_91 : decode cX7_fault 91 = .ok (.irem, 1) := by decide +kernel
theorem dX7_fault_92 : decode cX7_fault 92 = .ok (.ifCond .ne 10, 3) := by decide +kernel
theorem dX7_fault_95 : decode cX7_fault 95 = .ok (.aload_n 0, 1) := by decide +kernel
theorem dX7_fault_96 : decode cX7_fault 96 = .ok (.getfield 119, 3) := by decide +kernel
theorem dX7_fault_99 : decode cX7_fault 99 = .ok (.goto 6, 3) := by decide +kernel
theorem dX7_fault_102 : decode cX7_fault 102 = .ok (.sipush (-1005), 3) := by decide +kernel
theorem dX7_fault_105 : decode cX7_fault 105 = .ok (.ireturn, 1) := by decide +kernel
set_option maxRecDepth 20000 in
theorem ggX7_takeStrip_X7_fault : GoodIn wsX7_takeStrip wsX7_fault := goodIn_r _ [8, 2, 3, 9, 10, 7, 11, 18, 19, 20, 21, 22, 23, 24, 25, 26, 27, 28, 29, 30] (by decide +kernel) (by decide +kernel)
set_option maxRecDepth 20000 in
theorem gX7_takeStrip_X7_fault : GoodIn wsX7_takeStrip (wsV RX7 122 RX7 yX7_fault wsX7_fault) := goodIn_app (goodIn_of _ (by decide +kernel)) ggX7_takeStrip_X7_fault
set_option maxRecDepth 20000 in
theorem ggX7_takeStrip_X7_know : GoodIn wsX7_takeStrip wsX7_know := goodIn_r _ [15, 16, 17, 1, 18, 19, 20, 21, 22, 23, 24, 25, 26, 27, 28, 29, 30] (by decide +kernel) (by decide +kernel)
set_option maxRecDepth 20000 in
theorem gX7_takeStrip_X7_know : GoodIn wsX7_takeStrip (wsV RX7 104 RX7 yX7_know wsX7_know) := goodIn_app (goodIn_of _ (by decide +kernel)) ggX7_takeStrip_X7_know
theorem dX7_takeStrip_0 : decode cX7_takeStrip 0 = .ok (.aload_n 0, 1) := by decide +kernel
theorem dX7_takeStrip_1 : decode cX7_takeStrip 1 = .ok (.invokevirtual 122, 3) := by decide +kernel
theorem dX7_takeStrip_4 : decode cX7_takeStrip 4 = .ok (.istore_n 1, 1) := by decide +kernel
theorem dX7_takeStrip_5 : decode cX7_takeStrip 5 = .ok (.iload_n 1, 1) := by decide +kernel
theorem dX7_takeStrip_6 : decode cX7_takeStrip 6 = .ok (.sipush (-1005), 3) := by decide +kernel
theorem dX7_takeStrip_9 : decode cX7_takeStrip 9 = .ok (.if_icmp .eq 9, 3) := by decide +kernel
theorem dX7_takeStrip_12 : decode cX7_takeStrip 12 = .ok (.sipush (-1100), 3) := by decide +kernel
theorem dX7_takeStrip_15 : decode cX7_takeStrip 15 = .ok (.iload_n 1, 1) := by decide +kernel
theorem dX7_takeStrip_16 : decode cX7_takeStrip 16 = .ok (.isub, 1) := by decide +kernel
theorem dX7_takeStrip_17 : decode cX7_takeStrip 17 = .ok (.ireturn, 1) := by decide +kernel
theorem dX7_takeStrip_18 : decode cX7_takeStrip 18 = .ok (.aload_n 0, 1) := by decide +kernel
theorem dX7_takeStrip_19 : decode cX7_takeStrip 19 = .ok (.invokevirtual 104, 3) := by decide +kernel
theorem dX7_takeStrip_22 : decode cX7_takeStrip 22 = .ok (.aload_n 0, 1) := by decide +kernel
theorem dX7_takeStrip_23 : decode cX7_takeStrip 23 = .ok (.getfield 7, 3) := by decide +kernel
theorem dX7_takeStrip_26 : decode cX7_takeStrip 26 = .ok (.iconst 0, 1) := by decide +kernel
theorem dX7_takeStrip_27 : decode cX7_takeStrip 27 = .ok (.aload_n 0, 1) := by decide +kernel
theorem dX7_takeStrip_28 : decode cX7_takeStrip 28 = .ok (.getfield 119, 3) := by decide +kernel
theorem dX7_takeStrip_31 : decode cX7_takeStrip 31 = .ok (.iconst 2, 1) := by decide +kernel
theorem dX7_takeStrip_32 : decode cX7_takeStrip 32 = .ok (.idiv, 1) := by decide +kernel
theorem dX7_takeStrip_33 : decode cX7_takeStrip 33 = .ok (.iastore, 1) := by decide +kernel
theorem dX7_takeStrip_34 : decode cX7_takeStrip 34 = .ok (.iconst 0, 1) := by decide +kernel
theorem dX7_takeStrip_35 : decode cX7_takeStrip 35 = .ok (.istore_n 2, 1) := by decide +kernel
theorem dX7_takeStrip_36 : decode cX7_takeStrip 36 = .ok (.iload_n 2, 1) := by decide +kernel
theorem dX7_takeStrip_37 : decode cX7_takeStrip 37 = .ok (.aload_n 0, 1) := by decide +kernel
theorem dX7_takeStrip_38 : decode cX7_takeStrip 38 = .ok (.getfield 119, 3) := by decide +kernel
theorem dX7_takeStrip_41 : decode cX7_takeStrip 41 = .ok (.if_icmp .ge 64, 3) := by decide +kernel
theorem dX7_takeStrip_44 : decode cX7_takeStrip 44 = .ok (.iload_n 2, 1) := by decide +kernel
theorem dX7_takeStrip_45 : decode cX7_takeStrip 45 = .ok (.iconst 2, 1) := by decide +kernel
theorem dX7_takeStrip_46 : decode cX7_takeStrip 46 = .ok (.irem, 1) := by decide +kernel
theorem dX7_takeStrip_47 : decode cX7_takeStrip 47 = .ok (.ifCond .ne 25, 3) := by decide +kernel
theorem dX7_takeStrip_50 : decode cX7_takeStrip 50 = .ok (.aload_n 0, 1) := by decide +kernel
theorem dX7_takeStrip_51 : decode cX7_takeStrip 51 = .ok (.getfield 7, 3) := by decide +kernel
theorem dX7_takeStrip_54 : decode cX7_takeStrip 54 = .ok (.iconst 1, 1) := by decide +kernel
theorem dX7_takeStrip_55 : decode cX7_takeStrip 55 = .ok (.iload_n 2, 1) := by decide +kernel
theorem dX7_takeStrip_56 : decode cX7_takeStrip 56 = .ok (.iconst 2, 1) := by decide +kernel
theorem dX7_takeStrip_57 : decode cX7_takeStrip 57 = .ok (.idiv, 1) := by decide +kernel
theorem dX7_takeStrip_58 : decode cX7_takeStrip 58 = .ok (.iadd, 1) := by decide +kernel
theorem dX7_takeStrip_59 : decode cX7_takeStrip 59 = .ok (.aload_n 0, 1) := by decide +kernel
theorem dX7_takeStrip_60 : decode cX7_takeStrip 60 = .ok (.getfield 19, 3) := by decide +kernel
theorem dX7_takeStrip_63 : decode cX7_takeStrip 63 = .ok (.iload_n 2, 1) := by decide +kernel
theorem dX7_takeStrip_64 : decode cX7_takeStrip 64 = .ok (.iaload, 1) := by decide +kernel
theorem dX7_takeStrip_65 : decode cX7_takeStrip 65 = .ok (.bipush 48, 2) := by decide +kernel
theorem dX7_takeStrip_67 : decode cX7_takeStrip 67 = .ok (.isub, 1) := by decide +kernel
theorem dX7_takeStrip_68 : decode cX7_takeStrip 68 = .ok (.iastore, 1) := by decide +kernel
theorem dX7_takeStrip_69 : decode cX7_takeStrip 69 = .ok (.goto 30, 3) := by decide +kernel
theorem dX7_takeStrip_72 : decode cX7_takeStrip 72 = .ok (.aload_n 0, 1) := by decide +kernel
theorem dX7_takeStrip_73 : decode cX7_takeStrip 73 = .ok (.getfield 7, 3) := by decide +kernel
theorem dX7_takeStrip_76 : decode cX7_takeStrip 76 = .ok (.bipush 9, 2) := by decide +kernel
theorem dX7_takeStrip_78 : decode cX7_takeStrip 78 = .ok (.iload_n 2, 1) := by decide +kernel
theorem dX7_takeStrip_79 : decode cX7_takeStrip 79 = .ok (.iconst 2, 1) := by decide +kernel
theorem dX7_takeStrip_80 : decode cX7_takeStrip 80 = .ok (.idiv, 1) := by decide +kernel
theorem dX7_takeStrip_81 : decode cX7_takeStrip 81 = .ok (.iadd, 1) := by decide +kernel
theorem dX7_takeStrip_82 : decode cX7_takeStrip 82 = .ok (.aload_n 0, 1) := by decide +kernel
theorem dX7_takeStrip_83 : decode cX7_takeStrip 83 = .ok (.getfield 19, 3) := by decide +kernel
theorem dX7_takeStrip_86 : decode cX7_takeStrip 86 = .ok (.iload_n 2, 1) := by decide +kernel
theorem dX7_takeStrip_87 : decode cX7_takeStrip 87 = .ok (.iaload, 1) := by decide +kernel
theorem dX7_takeStrip_88 : decode cX7_takeStrip 88 = .ok (.bipush 117, 2) := by decide +kernel
theorem dX7_takeStrip_90 : decode cX7_takeStrip 90 = .ok (.if_icmp .ne 7, 3) := by decide +kernel
theorem dX7_takeStrip_93 : decode cX7_takeStrip 93 = .ok (.iconst 1, 1) := by decide +kernel
theorem dX7_takeStrip_94 : decode cX7_takeStrip 94 = .ok (.goto 4, 3) := by decide +kernel
theorem dX7_takeStrip_97 : decode cX7_takeStrip 97 = .ok (.iconst 0, 1) := by decide +kernel
theorem dX7_takeStrip_98 : decode cX7_takeStrip 98 = .ok (.iastore, 1) := by decide +kernel
theorem dX7_takeStrip_99 : decode cX7_takeStrip 99 = .ok (.iinc 2 1, 3) := by decide +kernel
theorem dX7_takeStrip_102 : decode cX7_takeStrip 102 = .ok (.goto (-66), 3) := by decide +kernel
theorem dX7_takeStrip_105 : decode cX7_takeStrip 105 = .ok (.aload_n 0, 1) := by decide +kernel
theorem dX7_takeStrip_106 : decode cX7_takeStrip 106 = .ok (.getfield 7, 3) := by decide +kernel
theorem dX7_takeStrip_109 : decode cX7_takeStrip 109 = .ok (.bipush 16, 2) := by decide +kernel
theorem dX7_takeStrip_111 : decode cX7_takeStrip 111 = .ok (.iconst 0, 1) := by decide +kernel
theorem dX7_takeStrip_112 : decode cX7_takeStrip 112 = .ok (.iastore, 1) := by decide +kernel
theorem dX7_takeStrip_113 : decode cX7_takeStrip 113 = .ok (.aload_n 0, 1) := by decide +kernel
theorem dX7_takeStrip_114 : decode cX7_takeStrip 114 = .ok (.getfield 7, 3) := by decide +kernel
theorem dX7_takeStrip_117 : decode cX7_takeStrip 117 = .ok (.bipush 17, 2) := by decide +kernel
theorem dX7_takeStrip_119 : decode cX7_takeStrip 119 = .ok (.iconst 0, 1) := by decide +kernel
theorem dX7_takeStrip_120 : decode cX7_takeStrip 120 = .ok (.iastore, 1) := by decide +kernel
theorem dX7_takeStrip_121 : decode cX7_takeStrip 121 = .ok (.aload_n 0, 1) := by decide +kernel
theorem dX7_takeStrip_122 : decode cX7_takeStrip 122 = .ok (.getfield 7, 3) := by decide +kernel
theorem dX7_takeStrip_125 : decode cX7_takeStrip 125 = .ok (.iconst 0, 1) := by decide +kernel
theorem dX7_takeStrip_126 : decode cX7_takeStrip 126 = .ok (.iaload, 1) := by decide +kernel
theorem dX7_takeStrip_127 : decode cX7_takeStrip 127 = .ok (.ireturn, 1) := by decide +kernel
theorem dX7_undo_0 : decode cX7_undo 0 = .ok (.aload_n 0, 1) := by decide +kernel
theorem dX7_undo_1 : decode cX7_undo 1 = .ok (.getfield 41, 3) := by decide +kernel
theorem dX7_undo_4 : decode cX7_undo 4 = .ok (.ifCond .ne 7, 3) := by decide +kernel
theorem dX7_undo_7 : decode cX7_undo 7 = .ok (.sipush (-1005), 3) := by decide +kernel
theorem dX7_undo_10 : decode cX7_undo 10 = .ok (.ireturn, 1) := by decide +kernel
theorem dX7_undo_11 : decode cX7_undo 11 = .ok (.aload_n 0, 1) := by decide +kernel
theorem dX7_undo_12 : decode cX7_undo 12 = .ok (.dup, 1) := by decide +kernel
theorem dX7_undo_13 : decode cX7_undo 13 = .ok (.getfield 41, 3) := by decide +kernel
theorem dX7_undo_16 : decode cX7_undo 16 = .ok (.iconst 1, 1) := by decide +kernel
theorem dX7_undo_17 : decode cX7_undo 17 = .ok (.isub, 1) := by decide +kernel
theorem dX7_undo_18 : decode cX7_undo 18 = .ok (.putfield 41, 3) := by decide +kernel
theorem dX7_undo_21 : decode cX7_undo 21 = .ok (.iconst 0, 1) := by decide +kernel
theorem dX7_undo_22 : decode cX7_undo 22 = .ok (.istore_n 1, 1) := by decide +kernel
theorem dX7_undo_23 : decode cX7_undo 23 = .ok (.iload_n 1, 1) := by decide +kernel
theorem dX7_undo_24 : decode cX7_undo 24 = .ok (.bipush 23, 2) := by decide +kernel
theorem dX7_undo_26 : decode cX7_undo 26 = .ok (.if_icmp .ge 29, 3) := by decide +kernel
theorem dX7_undo_29 : decode cX7_undo 29 = .ok (.aload_n 0, 1) := by decide +kernel
theorem dX7_undo_30 : decode cX7_undo 30 = .ok (.getfield 7, 3) := by decide +kernel
theorem dX7_undo_33 : decode cX7_undo 33 = .ok (.iload_n 1, 1) := by decide +kernel
theorem dX7_undo_34 : decode cX7_undo 34 = .ok (.aload_n 0, 1) := by decide +kernel
theorem dX7_undo_35 : decode cX7_undo 35 = .ok (.getfield 13, 3) := by decide +kernel
theorem dX7_undo_38 : decode cX7_undo 38 = .ok (.bipush 23, 2) := by decide +kernel
theorem dX7_undo_40 : decode cX7_undo 40 = .ok (.aload_n 0, 1) := by decide +kernel
theorem dX7_undo_41 : decode cX7_undo 41 = .ok (.getfield 41, 3) := by decide +kernel
theorem dX7_undo_44 : decode cX7_undo 44 = .ok (.imul, 1) := by decide +kernel
theorem dX7_undo_45 : decode cX7_undo 45 = .ok (.iload_n 1, 1) := by decide +kernel
theorem dX7_undo_46 : decode cX7_undo 46 = .ok (.iadd, 1) := by decide +kernel
theorem dX7_undo_47 : decode cX7_undo 47 = .ok (.iaload, 1) := by decide +kernel
theorem dX7_undo_48 : decode cX7_undo 48 = .ok (.iastore, 1) := by decide +kernel
theorem dX7_undo_49 : decode cX7_undo 49 = .ok (.iinc 1 1, 3) := by decide +kernel
theorem dX7_undo_52 : decode cX7_undo 52 = .ok (.goto (-29), 3) := by decide +kernel
theorem dX7_undo_55 : decode cX7_undo 55 = .ok (.aload_n 0, 1) := by decide +kernel
theorem dX7_undo_56 : decode cX7_undo 56 = .ok (.getfield 41, 3) := by decide +kernel
theorem dX7_undo_59 : decode cX7_undo 59 = .ok (.ireturn, 1) := by decide +kernel
set_option maxRecDepth 20000 in
theorem ggX7_keep_X7_many : GoodIn wsX7_keep wsX7_many := goodIn_r _ [7] (by decide +kernel) (by decide +kernel)
set_option maxRecDepth 20000 in
theorem gX7_keep_X7_many : GoodIn wsX7_keep (va_wsS RX7 113 yX7_many wsX7_many) := goodIn_app (goodIn_of _ (by decide +kernel)) ggX7_keep_X7_many
theorem dX7_keep_0 : decode cX7_keep 0 = .ok (.iconst 0, 1) := by decide +kernel
theorem dX7_keep_1 : decode cX7_keep 1 = .ok (.istore_n 1, 1) := by decide +kernel
theorem dX7_keep_2 : decode cX7_keep 2 = .ok (.iload_n 1, 1) := by decide +kernel
theorem dX7_keep_3 : decode cX7_keep 3 = .ok (.bipush 23, 2) := by decide +kernel
theorem dX7_keep_5 : decode cX7_keep 5 = .ok (.if_icmp .ge 21, 3) := by decide +kernel
theorem dX7_keep_8 : decode cX7_keep 8 = .ok (.aload_n 0, 1) := by decide +kernel
theorem dX7_keep_9 : decode cX7_keep 9 = .ok (.getfield 16, 3) := by decide +kernel
theorem dX7_keep_12 : decode cX7_keep 12 = .ok (.iload_n 1, 1) := by decide +kernel
theorem dX7_keep_13 : decode cX7_keep 13 = .ok (.aload_n 0, 1) := by decide +kernel
theorem dX7_keep_14 : decode cX7_keep 14 = .ok (.getfield 7, 3) := by decide +kernel
theorem dX7_keep_17 : decode cX7_keep 17 = .ok (.iload_n 1, 1) := by decide +kernel
theorem dX7_keep_18 : decode cX7_keep 18 = .ok (.iaload, 1) := by decide +kernel
theorem dX7_keep_19 : decode cX7_keep 19 = .ok (.iastore, 1) := by decide +kernel
theorem dX7_keep_20 : decode cX7_keep 20 = .ok (.iinc 1 1, 3) := by decide +kernel
theorem dX7_keep_23 : decode cX7_keep 23 = .ok (.goto (-21), 3) := by decide +kernel
theorem dX7_keep_26 : decode cX7_keep 26 = .ok (.aload_n 0, 1) := by decide +kernel
theorem dX7_keep_27 : decode cX7_keep 27 = .ok (.iconst 1, 1) := by decide +kernel
theorem dX7_keep_28 : decode cX7_keep 28 = .ok (.putfield 125, 3) := by decide +kernel
theorem dX7_keep_31 : decode cX7_keep 31 = .ok (.aload_n 0, 1) := by decide +kernel
theorem dX7_keep_32 : decode cX7_keep 32 = .ok (.getfield 7, 3) := by decide +kernel
theorem dX7_keep_35 : decode cX7_keep 35 = .ok (.bipush 16, 2) := by decide +kernel
theorem dX7_keep_37 : decode cX7_keep 37 = .ok (.iaload, 1) := by decide +kernel
theorem dX7_keep_38 : decode cX7_keep 38 = .ok (.invokestatic 113, 3) := by decide +kernel
theorem dX7_keep_41 : decode cX7_keep 41 = .ok (.ireturn, 1) := by decide +kernel
set_option maxRecDepth 20000 in
theorem ggX7_restore_X7_know : GoodIn wsX7_restore wsX7_know := goodIn_r _ [8, 9, 10, 2, 14, 15, 16, 17, 18, 19, 20, 21, 22, 23, 24, 25, 26] (by decide +kernel) (by decide +kernel)
set_option maxRecDepth 20000 in
theorem gX7_restore_X7_know : GoodIn wsX7_restore (wsV RX7 104 RX7 yX7_know wsX7_know) := goodIn_app (goodIn_of _ (by decide +kernel)) ggX7_restore_X7_know
set_option maxRecDepth 20000 in
theorem ggX7_restore_X7_many : GoodIn wsX7_restore wsX7_many := goodIn_r _ [13] (by decide +kernel) (by decide +kernel)
set_option maxRecDepth 20000 in
theorem gX7_restore_X7_many : GoodIn wsX7_restore (va_wsS RX7 113 yX7_many wsX7_many) := goodIn_app (goodIn_of _ (by decide +kernel)) ggX7_restore_X7_many
theorem dX7_restore_0 : decode cX7_restore 0 = .ok (.aload_n 0, 1) := by decide +kernel
theorem dX7_restore_1 : decode cX7_restore 1 = .ok (.getfield 125, 3) := by decide +kernel
theorem dX7_restore_4 : decode cX7_restore 4 = .ok (.ifCond .ne 7, 3) := by decide +kernel
theorem dX7_restore_7 : decode cX7_restore 7 = .ok (.sipush (-1005), 3) := by decide +kernel
theorem dX7_restore_10 : decode cX7_restore 10 = .ok (.ireturn, 1) := by decide +kernel
theorem dX7_restore_11 : decode cX7_restore 11 = .ok (.aload_n 0, 1) := by decide +kernel
theorem dX7_restore_12 : decode cX7_restore 12 = .ok (.invokevirtual 104, 3) := by decide +kernel
theorem dX7_restore_15 : decode cX7_restore 15 = .ok (.iconst 0, 1) := by decide +kernel
theorem dX7_restore_16 : decode cX7_restore 16 = .ok (.istore_n 1, 1) := by decide +kernel
theorem dX7_restore_17 : decode cX7_restore 17 = .ok (.iload_n 1, 1) := by decide +kernel
theorem dX7_restore_18 : decode cX7_restore 18 = .ok (.bipush 23, 2) := by decide +kernel
theorem dX7_restore_20 : decode cX7_restore 20 = .ok (.if_icmp .ge 21, 3) := by decide +kernel
theorem dX7_restore_23 : decode cX7_restore 23 = .ok (.aload_n 0, 1) := by decide +kernel
theorem dX7_restore_24 : decode cX7_restore 24 = .ok (.getfield 7, 3) := by decide +kernel
theorem dX7_restore_27 : decode cX7_restore 27 = .ok (.iload_n 1, 1) := by decide +kernel
theorem dX7_restore_28 : decode cX7_restore 28 = .ok (.aload_n 0, 1) := by decide +kernel
theorem dX7_restore_29 : decode cX7_restore 29 = .ok (.getfield 16, 3) := by decide +kernel
theorem dX7_restore_32 : decode cX7_restore 32 = .ok (.iload_n 1, 1) := by decide +kernel
theorem dX7_restore_33 : decode cX7_restore 33 = .ok (.iaload, 1) := by decide +kernel
theorem dX7_restore_34 : decode cX7_restore 34 = .ok (.iastore, 1) := by decide +kernel
theorem dX7_restore_35 : decode cX7_restore 35 = .ok (.iinc 1 1, 3) := by decide +kernel
theorem dX7_restore_38 : decode cX7_restore 38 = .ok (.goto (-21), 3) := by decide +kernel
theorem dX7_restore_41 : decode cX7_restore 41 = .ok (.aload_n 0, 1) := by decide +kernel
theorem dX7_restore_42 : decode cX7_restore 42 = .ok (.getfield 7, 3) := by decide +kernel
theorem dX7_restore_45 : decode cX7_restore 45 = .ok (.bipush 16, 2) := by decide +kernel
theorem dX7_restore_47 : decode cX7_restore 47 = .ok (.iaload, 1) := by decide +kernel
theorem dX7_restore_48 : decode cX7_restore 48 = .ok (.invokestatic 113, 3) := by decide +kernel
theorem dX7_restore_51 : decode cX7_restore 51 = .ok (.ireturn, 1) := by decide +kernel
theorem dX7_degrees_0 : decode cX7_degrees 0 = .ok (.aload_n 0, 1) := by decide +kernel
theorem dX7_degrees_1 : decode cX7_degrees 1 = .ok (.getfield 7, 3) := by decide +kernel
theorem dX7_degrees_4 : decode cX7_degrees 4 = .ok (.bipush 21, 2) := by decide +kernel
theorem dX7_degrees_6 : decode cX7_degrees 6 = .ok (.iaload, 1) := by decide +kernel
theorem dX7_degrees_7 : decode cX7_degrees 7 = .ok (.aload_n 0, 1) := by decide +kernel
theorem dX7_degrees_8 : decode cX7_degrees 8 = .ok (.getfield 7, 3) := by decide +kernel
theorem dX7_degrees_11 : decode cX7_degrees 11 = .ok (.iconst 1, 1) := by decide +kernel
theorem dX7_degrees_12 : decode cX7_degrees 12 = .ok (.iload_n 1, 1) := by decide +kernel
theorem dX7_degrees_13 : decode cX7_degrees 13 = .ok (.iadd, 1) := by decide +kernel
theorem dX7_degrees_14 : decode cX7_degrees 14 = .ok (.iconst 1, 1) := by decide +kernel
theorem dX7_degrees_15 : decode cX7_degrees 15 = .ok (.iadd, 1) := by decide +kernel
theorem dX7_degrees_16 : decode cX7_degrees 16 = .ok (.iaload, 1) := by decide +kernel
theorem dX7_degrees_17 : decode cX7_degrees 17 = .ok (.isub, 1) := by decide +kernel
theorem dX7_degrees_18 : decode cX7_degrees 18 = .ok (.iconst 1, 1) := by decide +kernel
theorem dX7_degrees_19 : decode cX7_degrees 19 = .ok (.iadd, 1) := by decide +kernel
theorem dX7_degrees_20 : decode cX7_degrees 20 = .ok (.istore_n 2, 1) := by decide +kernel
theorem dX7_degrees_21 : decode cX7_degrees 21 = .ok (.bipush 90, 2) := by decide +kernel
theorem dX7_degrees_23 : decode cX7_degrees 23 = .ok (.iload_n 2, 1) := by decide +kernel
theorem dX7_degrees_24 : decode cX7_degrees 24 = .ok (.ifCond .le 7, 3) := by decide +kernel
theorem dX7_degrees_27 : decode cX7_degrees 27 = .ok (.iload_n 2, 1) := by decide +kernel
theorem dX7_degrees_28 : decode cX7_degrees 28 = .ok (.goto 4, 3) := by decide +kernel
theorem dX7_degrees_31 : decode cX7_degrees 31 = .ok (.iconst 0, 1) := by decide +kernel
theorem dX7_degrees_32 : decode cX7_degrees 32 = .ok (.iadd, 1) := by decide +kernel
theorem dX7_degrees_33 : decode cX7_degrees 33 = .ok (.ireturn, 1) := by decide +kernel
set_option maxRecDepth 20000 in
theorem ggX7_ofBend_X7_isBend : GoodIn wsX7_ofBend wsX7_isBend := goodIn_r _ [6, 1, 7, 8, 5, 9, 57, 58, 59, 60, 61, 62, 63, 64, 65, 66, 67, 68, 69] (by decide +kernel) (by decide +kernel)
set_option maxRecDepth 20000 in
theorem gX7_ofBend_X7_isBend : GoodIn wsX7_ofBend (wsV RX7 110 RX7 yX7_isBend wsX7_isBend) := goodIn_app (goodIn_of _ (by decide +kernel)) ggX7_ofBend_X7_isBend
set_option maxRecDepth 20000 in
theorem ggX7_ofBend_X7_has : GoodIn wsX7_ofBend wsX7_has := goodIn_r _ [12] (by decide +kernel) (by decide +kernel)
set_option maxRecDepth 20000 in
theorem gX7_ofBend_X7_has : GoodIn wsX7_ofBend (va_wsS RX7 49 yX7_has wsX7_has) := goodIn_app (goodIn_of _ (by decide +kernel)) ggX7_ofBend_X7_has
set_option maxRecDepth 20000 in
theorem ggX7_ofBend_X7_reason : GoodIn wsX7_ofBend wsX7_reason := goodIn_r _ [16, 1, 10, 11, 5, 12, 17, 18, 19, 20, 21, 22, 23, 24, 25, 26, 27, 28, 7, 8, 9, 29, 30, 31, 32, 33, 34, 35, 36, 37, 38, 39, 40, 41, 42, 43, 44, 45, 46, 47, 48, 49, 50, 51, 52, 57, 58, 59, 60, 61, 62, 63, 64, 65, 66, 67, 68, 69] (by decide +kernel) (by decide +kernel)
set_option maxRecDepth 20000 in
theorem gX7_ofBend_X7_reason : GoodIn wsX7_ofBend (wsV RX7 87 RX7 yX7_reason wsX7_reason) := goodIn_app (goodIn_of _ (by decide +kernel)) ggX7_ofBend_X7_reason
set_option maxRecDepth 20000 in
theorem ggX7_ofBend_X7_degrees : GoodIn wsX7_ofBend wsX7_degrees := goodIn_r _ [56, 1, 57, 58, 59, 60, 61, 62, 63, 64, 65, 66, 67, 68, 69] (by decide +kernel) (by decide +kernel)
set_option maxRecDepth 20000 in
theorem gX7_ofBend_X7_degrees : GoodIn wsX7_ofBend (wsV RX7 129 RX7 yX7_degrees wsX7_degrees) := goodIn_app (goodIn_of _ (by decide +kernel)) ggX7_ofBend_X7_degrees
theorem dX7_ofBend_0 : decode cX7_ofBend 0 = .ok (.aload_n 0, 1) := by decide +kernel
theorem dX7_ofBend_1 : decode cX7_ofBend 1 = .ok (.iload_n 1, 1) := by decide +kernel
theorem dX7_ofBend_2 : decode cX7_ofBend 2 = .ok (.invokevirtual 110, 3) := by decide +kernel
theorem dX7_ofBend_5 : decode cX7_ofBend 5 = .ok (.ifCond .ne 7, 3) := by decide +kernel
theorem dX7_ofBend_8 : decode cX7_ofBend 8 = .ok (.sipush (-1001), 3) := by decide +kernel
theorem dX7_ofBend_11 : decode cX7_ofBend 11 = .ok (.ireturn, 1) := by decide +kernel
theorem dX7_ofBend_12 : decode cX7_ofBend 12 = .ok (.iload_n 2, 1) := by decide +kernel
theorem dX7_ofBend_13 : decode cX7_ofBend 13 = .ok (.tableswitch 113 0 4 #[35, 45, 65, 85, 91], 35) := by decide +kernel
theorem dX7_ofBend_48 : decode cX7_ofBend 48 = .ok (.aload_n 0, 1) := by decide +kernel
theorem dX7_ofBend_49 : decode cX7_ofBend 49 = .ok (.getfield 7, 3) := by decide +kernel
theorem dX7_ofBend_52 : decode cX7_ofBend 52 = .ok (.bipush 9, 2) := by decide +kernel
theorem dX7_ofBend_54 : decode cX7_ofBend 54 = .ok (.iload_n 1, 1) := by decide +kernel
theorem dX7_ofBend_55 : decode cX7_ofBend 55 = .ok (.iadd, 1) := by decide +kernel
theorem dX7_ofBend_56 : decode cX7_ofBend 56 = .ok (.iaload, 1) := by decide +kernel
theorem dX7_ofBend_57 : decode cX7_ofBend 57 = .ok (.ireturn, 1) := by decide +kernel
theorem dX7_ofBend_58 : decode cX7_ofBend 58 = .ok (.aload_n 0, 1) := by decide +kernel
theorem dX7_ofBend_59 : decode cX7_ofBend 59 = .ok (.getfield 7, 3) := by decide +kernel
theorem dX7_ofBend_62 : decode cX7_ofBend 62 = .ok (.bipush 16, 2) := by decide +kernel
theorem dX7_ofBend_64 : decode cX7_ofBend 64 = .ok (.iaload, 1) := by decide +kernel
theorem dX7_ofBend_65 : decode cX7_ofBend 65 = .ok (.iload_n 1, 1) := by decide +kernel
theorem dX7_ofBend_66 : decode cX7_ofBend 66 = .ok (.invokestatic 49, 3) := by decide +kernel
theorem dX7_ofBend_69 : decode cX7_ofBend 69 = .ok (.ifCond .eq 7, 3) := by decide +kernel
theorem dX7_ofBend_72 : decode cX7_ofBend 72 = .ok (.iconst 1, 1) := by decide +kernel
theorem dX7_ofBend_73 : decode cX7_ofBend 73 = .ok (.goto 4, 3) := by decide +kernel
theorem dX7_ofBend_76 : decode cX7_ofBend 76 = .ok (.iconst 0, 1) := by decide +kernel
theorem dX7_ofBend_77 : decode cX7_ofBend 77 = .ok (.ireturn, 1) := by decide +kernel
theorem dX7_ofBend_78 : decode cX7_ofBend 78 = .ok (.aload_n 0, 1) := by decide +kernel
theorem dX7_ofBend_79 : decode cX7_ofBend 79 = .ok (.iload_n 1, 1) := by decide +kernel
theorem dX7_ofBend_80 : decode cX7_ofBend 80 = .ok (.aload_n 0, 1) := by decide +kernel
theorem dX7_ofBend_81 : decode cX7_ofBend 81 = .ok (.getfield 7, 3) := by decide +kernel
theorem dX7_ofBend_84 : decode cX7_ofBend 84 = .ok (.bipush 16, 2) := by decide +kernel
theorem dX7_ofBend_86 : decode cX7_ofBend 86 = .ok (.iaload, 1) := by decide +kernel
theorem dX7_ofBend_87 : decode cX7_ofBend 87 = .ok (.aload_n 0, 1) := by decide +kernel
theorem dX7_ofBend_88 : decode cX7_ofBend 88 = .ok (.getfield 7, 3) := by decide +kernel
theorem dX7_ofBend_91 : decode cX7_ofBend 91 = .ok (.bipush 17, 2) := by decide +kernel
theorem dX7_ofBend_93 : decode cX7_ofBend 93 = .ok (.iaload, 1) := by decide +kernel
theorem dX7_ofBend_94 : decode cX7_ofBend 94 = .ok (.invokevirtual 87, 3) := by decide +kernel
theorem dX7_ofBend_97 : decode cX7_ofBend 97 = .ok (.ireturn, 1) := by decide +kernel
theorem dX7_ofBend_98 : decode cX7_ofBend 98 = .ok (.aload_n 0, 1) := by decide +kernel
theorem dX7_ofBend_99 : decode cX7_ofBend 99 = .ok (.iload_n 1, 1) := by decide +kernel
theorem dX7_ofBend_100 : decode cX7_ofBend 100 = .ok (.invokevirtual 129, 3) := by decide +kernel
theorem dX7_ofBend_103 : decode cX7_ofBend 103 = .ok (.ireturn, 1) := by decide +kernel
theorem dX7_ofBend_104 : decode cX7_ofBend 104 = .ok (.aload_n 0, 1) := by decide +kernel
theorem dX7_ofBend_105 : decode cX7_ofBend 105 = .ok (.iload_n 1, 1) := by decide +kernel
theorem dX7_ofBend_106 : decode cX7_ofBend 106 = .ok (.aload_n 0, 1) := by decide +kernel
theorem dX7_ofBend_107 : decode cX7_ofBend 107 = .ok (.getfield 7, 3) := by decide +kernel
theorem dX7_ofBend_110 : decode cX7_ofBend 110 = .ok (.bipush 16, 2) := by decide +kernel
theorem dX7_ofBend_112 : decode cX7_ofBend 112 = .ok (.iaload, 1) := by decide +kernel
theorem dX7_ofBend_113 : decode cX7_ofBend 113 = .ok (.iconst 1, 1) := by decide +kernel
theorem dX7_ofBend_114 : decode cX7_ofBend 114 = .ok (.aload_n 0, 1) := by decide +kernel
theorem dX7_ofBend_115 : decode cX7_ofBend 115 = .ok (.getfield 7, 3) := by decide +kernel
theorem dX7_ofBend_118 : decode cX7_ofBend 118 = .ok (.bipush 17, 2) := by decide +kernel
theorem dX7_ofBend_120 : decode cX7_ofBend 120 = .ok (.iaload, 1) := by decide +kernel
theorem dX7_ofBend_121 : decode cX7_ofBend 121 = .ok (.isub, 1) := by decide +kernel
theorem dX7_ofBend_122 : decode cX7_ofBend 122 = .ok (.invokevirtual 87, 3) := by decide +kernel
theorem dX7_ofBend_125 : decode cX7_ofBend 125 = .ok (.ireturn, 1) := by decide +kernel
theorem dX7_ofBend_126 : decode cX7_ofBend 126 = .ok (.sipush (-1002), 3) := by decide +kernel
theorem dX7_ofBend_129 : decode cX7_ofBend 129 = .ok (.ireturn, 1) := by decide +kernel
set_option maxRecDepth 20000 in
theorem ggX7_lengthOf_X7_isFlange : GoodIn wsX7_lengthOf wsX7_isFlange := goodIn_r _ [6, 1, 7, 8, 5, 9, 10, 11, 12, 13, 14, 15, 16, 17, 18, 19, 20, 21, 22] (by decide +kernel) (by decide +kernel)
set_option maxRecDepth 20000 in
theorem gX7_lengthOf_X7_isFlange : GoodIn wsX7_lengthOf (wsV RX7 45 RX7 yX7_isFlange wsX7_isFlange) := goodIn_app (goodIn_of _ (by decide +kernel)) ggX7_lengthOf_X7_isFlange
theorem dX7_lengthOf_0 : decode cX7_lengthOf 0 = .ok (.aload_n 0, 1) := by decide +kernel
theorem dX7_lengthOf_1 : decode cX7_lengthOf 1 = .ok (.iload_n 1, 1) := by decide +kernel
theorem dX7_lengthOf_2 : decode cX7_lengthOf 2 = .ok (.invokevirtual 45, 3) := by decide +kernel
theorem dX7_lengthOf_5 : decode cX7_lengthOf 5 = .ok (.ifCond .eq 14, 3) := by decide +kernel
theorem dX7_lengthOf_8 : decode cX7_lengthOf 8 = .ok (.aload_n 0, 1) := by decide +kernel
theorem dX7_lengthOf_9 : decode cX7_lengthOf 9 = .ok (.getfield 7, 3) := by decide +kernel
theorem dX7_lengthOf_12 : decode cX7_lengthOf 12 = .ok (.iconst 1, 1) := by decide +kernel
theorem dX7_lengthOf_13 : decode cX7_lengthOf 13 = .ok (.iload_n 1, 1) := by decide +kernel
theorem dX7_lengthOf_14 : decode cX7_lengthOf 14 = .ok (.iadd, 1) := by decide +kernel
theorem dX7_lengthOf_15 : decode cX7_lengthOf 15 = .ok (.iaload, 1) := by decide +kernel
theorem dX7_lengthOf_16 : decode cX7_lengthOf 16 = .ok (.goto 6, 3) := by decide +kernel
theorem dX7_lengthOf_19 : decode cX7_lengthOf 19 = .ok (.sipush (-1001), 3) := by decide +kernel
theorem dX7_lengthOf_22 : decode cX7_lengthOf 22 = .ok (.ireturn, 1) := by decide +kernel
set_option maxRecDepth 20000 in
theorem ggX7_end_X7_isBend : GoodIn wsX7_end wsX7_isBend := goodIn_r _ [10, 1, 11, 12, 9, 13, 33, 34, 35, 36, 37, 38, 39, 40, 41, 42, 43, 44, 45] (by decide +kernel) (by decide +kernel)
set_option maxRecDepth 20000 in
theorem gX7_end_X7_isBend : GoodIn wsX7_end (wsV RX7 110 RX7 yX7_isBend wsX7_isBend) := goodIn_app (goodIn_of _ (by decide +kernel)) ggX7_end_X7_isBend
set_option maxRecDepth 20000 in
theorem ggX7_end_X7_isFlange : GoodIn wsX7_end wsX7_isFlange := goodIn_r _ [17, 1, 11, 12, 9, 13, 33, 34, 35, 36, 37, 38, 39, 40, 41, 42, 43, 44, 45] (by decide +kernel) (by decide +kernel)
set_option maxRecDepth 20000 in
theorem gX7_end_X7_isFlange : GoodIn wsX7_end (wsV RX7 45 RX7 yX7_isFlange wsX7_isFlange) := goodIn_app (goodIn_of _ (by decide +kernel)) ggX7_end_X7_isFlange
set_option maxRecDepth 20000 in
theorem ggX7_end_X7_lay : GoodIn wsX7_end wsX7_lay := goodIn_r _ [21, 2, 22, 23, 24, 9, 25, 1, 5, 4, 3, 14, 15, 16, 17, 11, 12, 13, 26, 27, 28, 29, 30, 31, 32, 33, 34, 35, 36, 37, 38, 39, 40, 41, 42, 43, 44, 45] (by decide +kernel) (by decide +kernel)
set_option maxRecDepth 20000 in
theorem gX7_end_X7_lay : GoodIn wsX7_end (wsV RX7 67 RX7 yX7_lay wsX7_lay) := goodIn_app (goodIn_of _ (by decide +kernel)) ggX7_end_X7_lay
theorem dX7_end_0 : decode cX7_end 0 = .ok (.aload_n 0, 1) := by decide +kernel
theorem dX7_end_1 : decode cX7_end 1 = .ok (.iload_n 1, 1) := by decide +kernel
theorem dX7_end_2 : decode cX7_end 2 = .ok (.invokevirtual 110, 3) := by decide +kernel
theorem dX7_end_5 : decode cX7_end 5 = .ok (.ifCond .eq 11, 3) := by decide +kernel
theorem dX7_end_8 : decode cX7_end 8 = .ok (.aload_n 0, 1) := by decide +kernel
theorem dX7_end_9 : decode cX7_end 9 = .ok (.iload_n 2, 1) := by decide +kernel
theorem dX7_end_10 : decode cX7_end 10 = .ok (.invokevirtual 45, 3) := by decide +kernel
theorem dX7_end_13 : decode cX7_end 13 = .ok (.ifCond .ne 7, 3) := by decide +kernel
theorem dX7_end_16 : decode cX7_end 16 = .ok (.sipush (-1001), 3) := by decide +kernel
theorem dX7_end_19 : decode cX7_end 19 = .ok (.ireturn, 1) := by decide +kernel
theorem dX7_end_20 : decode cX7_end 20 = .ok (.aload_n 0, 1) := by decide +kernel
theorem dX7_end_21 : decode cX7_end 21 = .ok (.iload_n 1, 1) := by decide +kernel
theorem dX7_end_22 : decode cX7_end 22 = .ok (.aload_n 0, 1) := by decide +kernel
theorem dX7_end_23 : decode cX7_end 23 = .ok (.getfield 7, 3) := by decide +kernel
theorem dX7_end_26 : decode cX7_end 26 = .ok (.bipush 16, 2) := by decide +kernel
theorem dX7_end_28 : decode cX7_end 28 = .ok (.iaload, 1) := by decide +kernel
theorem dX7_end_29 : decode cX7_end 29 = .ok (.aload_n 0, 1) := by decide +kernel
theorem dX7_end_30 : decode cX7_end 30 = .ok (.getfield 7, 3) := by decide +kernel
theorem dX7_end_33 : decode cX7_end 33 = .ok (.bipush 17, 2) := by decide +kernel
theorem dX7_end_35 : decode cX7_end 35 = .ok (.iaload, 1) := by decide +kernel
theorem dX7_end_36 : decode cX7_end 36 = .ok (.invokevirtual 67, 3) := by decide +kernel
theorem dX7_end_39 : decode cX7_end 39 = .ok (.iconst 0, 1) := by decide +kernel
theorem dX7_end_40 : decode cX7_end 40 = .ok (.istore 4, 2) := by decide +kernel
theorem dX7_end_42 : decode cX7_end 42 = .ok (.iconst 0, 1) := by decide +kernel
theorem dX7_end_43 : decode cX7_end 43 = .ok (.istore 5, 2) := by decide +kernel
theorem dX7_end_45 : decode cX7_end 45 = .ok (.iload 5, 2) := by decide +kernel
theorem dX7_end_47 : decode cX7_end 47 = .ok (.aload_n 0, 1) := by decide +kernel
theorem dX7_end_48 : decode cX7_end 48 = .ok (.getfield 56, 3) := by decide +kernel
theorem dX7_end_51 : decode cX7_end 51 = .ok (.if_icmp .ge 29, 3) := by decide +kernel
theorem dX7_end_54 : decode cX7_end 54 = .ok (.aload_n 0, 1) := by decide +kernel
theorem dX7_end_55 : decode cX7_end 55 = .ok (.getfield 28, 3) := by decide +kernel
theorem dX7_end_58 : decode cX7_end 58 = .ok (.iload 5, 2) := by decide +kernel
theorem dX7_end_60 : decode cX7_end 60 = .ok (.iaload, 1) := by decide +kernel
theorem dX7_end_61 : decode cX7_end 61 = .ok (.iload_n 2, 1) := by decide +kernel
theorem dX7_end_62 : decode cX7_end 62 = .ok (.if_icmp .ne 8, 3) := by decide +kernel
theorem dX7_end_65 : decode cX7_end 65 = .ok (.iload 5, 2) := by decide +kernel
theorem dX7_end_67 : decode cX7_end 67 = .ok (.goto 5, 3) := by decide +kernel
theorem dX7_end_70 : decode cX7_end 70 = .ok (.iload 4, 2) := by decide +kernel
theorem dX7_end_72 : decode cX7_end 72 = .ok (.istore 4, 2) := by decide +kernel
theorem dX7_end_74 : decode cX7_end 74 = .ok (.iinc 5 1, 3) := by decide +kernel
theorem dX7_end_77 : decode cX7_end 77 = .ok (.goto (-32), 3) := by decide +kernel
theorem dX7_end_80 : decode cX7_end 80 = .ok (.iload_n 3, 1) := by decide +kernel
theorem dX7_end_81 : decode cX7_end 81 = .ok (.ifCond .eq 13, 3) := by decide +kernel
theorem dX7_end_84 : decode cX7_end 84 = .ok (.aload_n 0, 1) := by decide +kernel
theorem dX7_end_85 : decode cX7_end 85 = .ok (.getfield 25, 3) := by decide +kernel
theorem dX7_end_88 : decode cX7_end 88 = .ok (.iload 4, 2) := by decide +kernel
theorem dX7_end_90 : decode cX7_end 90 = .ok (.iaload, 1) := by decide +kernel
theorem dX7_end_91 : decode cX7_end 91 = .ok (.goto 10, 3) := by decide +kernel
theorem dX7_end_94 : decode cX7_end 94 = .ok (.aload_n 0, 1) := by decide +kernel
theorem dX7_end_95 : decode cX7_end 95 = .ok (.getfield 22, 3) := by decide +kernel
theorem dX7_end_98 : decode cX7_end 98 = .ok (.iload 4, 2) := by decide +kernel
theorem dX7_end_100 : decode cX7_end 100 = .ok (.iaload, 1) := by decide +kernel
theorem dX7_end_101 : decode cX7_end 101 = .ok (.ireturn, 1) := by decide +kernel
set_option maxRecDepth 20000 in
theorem ggX7_strikers_X7_isBend : GoodIn wsX7_strikers wsX7_isBend := goodIn_r _ [6, 1, 7, 8, 5, 9, 41, 42, 43, 44, 45, 46, 47, 48, 49, 50, 51, 52, 53] (by decide +kernel) (by decide +kernel)
set_option maxRecDepth 20000 in
theorem gX7_strikers_X7_isBend : GoodIn wsX7_strikers (wsV RX7 110 RX7 yX7_isBend wsX7_isBend) := goodIn_app (goodIn_of _ (by decide +kernel)) ggX7_strikers_X7_isBend
set_option maxRecDepth 20000 in
theorem ggX7_strikers_X7_lay : GoodIn wsX7_strikers wsX7_lay := goodIn_r _ [13, 14, 15, 16, 17, 5, 18, 1, 19, 20, 21, 22, 23, 24, 25, 7, 8, 9, 26, 27, 28, 29, 30, 31, 32, 41, 42, 43, 44, 45, 46, 47, 48, 49, 50, 51, 52, 53] (by decide +kernel) (by decide +kernel)
set_option maxRecDepth 20000 in
theorem gX7_strikers_X7_lay : GoodIn wsX7_strikers (wsV RX7 67 RX7 yX7_lay wsX7_lay) := goodIn_app (goodIn_of _ (by decide +kernel)) ggX7_strikers_X7_lay
set_option maxRecDepth 20000 in
theorem ggX7_strikers_X7_strike : GoodIn wsX7_strikers wsX7_strike := goodIn_r _ [36, 14, 20, 1, 19, 21, 7, 8, 5, 9, 41, 42, 43, 44, 45, 46, 47, 48, 49, 50, 51, 52, 53] (by decide +kernel) (by decide +kernel)
set_option maxRecDepth 20000 in
theorem gX7_strikers_X7_strike : GoodIn wsX7_strikers (wsV RX7 71 RX7 yX7_strike wsX7_strike) := goodIn_app (goodIn_of _ (by decide +kernel)) ggX7_strikers_X7_strike
set_option maxRecDepth 20000 in
theorem ggX7_strikers_X7_swing : GoodIn wsX7_strikers wsX7_swing := goodIn_r _ [40, 14, 21, 19, 20, 41, 42, 43, 44, 45, 46, 47, 48, 49, 50, 51, 52, 53] (by decide +kernel) (by decide +kernel)
set_option maxRecDepth 20000 in
theorem gX7_strikers_X7_swing : GoodIn wsX7_strikers (wsV RX7 75 RX7 yX7_swing wsX7_swing) := goodIn_app (goodIn_of _ (by decide +kernel)) ggX7_strikers_X7_swing
theorem dX7_strikers_0 : decode cX7_strikers 0 = .ok (.aload_n 0, 1) := by decide +kernel
theorem dX7_strikers_1 : decode cX7_strikers 1 = .ok (.iload_n 1, 1) := by decide +kernel
theorem dX7_strikers_2 : decode cX7_strikers 2 = .ok (.invokevirtual 110, 3) := by decide +kernel
theorem dX7_strikers_5 : decode cX7_strikers 5 = .ok (.ifCond .ne 7, 3) := by decide +kernel
theorem dX7_strikers_8 : decode cX7_strikers 8 = .ok (.sipush (-1001), 3) := by decide +kernel
theorem dX7_strikers_11 : decode cX7_strikers 11 = .ok (.ireturn, 1) := by decide +kernel
theorem dX7_strikers_12 : decode cX7_strikers 12 = .ok (.aload_n 0, 1) := by decide +kernel
theorem dX7_strikers_13 : decode cX7_strikers 13 = .ok (.iload_n 1, 1) := by decide +kernel
theorem dX7_strikers_14 : decode cX7_strikers 14 = .ok (.aload_n 0, 1) := by decide +kernel
theorem dX7_strikers_15 : decode cX7_strikers 15 = .ok (.getfield 7, 3) := by decide +kernel
theorem dX7_strikers_18 : decode cX7_strikers 18 = .ok (.bipush 16, 2) := by decide +kernel
theorem dX7_strikers_20 : decode cX7_strikers 20 = .ok (.iaload, 1) := by decide +kernel
theorem dX7_strikers_21 : decode cX7_strikers 21 = .ok (.aload_n 0, 1) := by decide +kernel
theorem dX7_strikers_22 : decode cX7_strikers 22 = .ok (.getfield 7, 3) := by decide +kernel
theorem dX7_strikers_25 : decode cX7_strikers 25 = .ok (.bipush 17, 2) := by decide +kernel
theorem dX7_strikers_27 : decode cX7_strikers 27 = .ok (.iaload, 1) := by decide +kernel
theorem dX7_strikers_28 : decode cX7_strikers 28 = .ok (.invokevirtual 67, 3) := by decide +kernel
theorem dX7_strikers_31 : decode cX7_strikers 31 = .ok (.aload_n 0, 1) := by decide +kernel
theorem dX7_strikers_32 : decode cX7_strikers 32 = .ok (.iconst 1, 1) := by decide +kernel
theorem dX7_strikers_33 : decode cX7_strikers 33 = .ok (.invokevirtual 71, 3) := by decide +kernel
theorem dX7_strikers_36 : decode cX7_strikers 36 = .ok (.istore_n 2, 1) := by decide +kernel
theorem dX7_strikers_37 : decode cX7_strikers 37 = .ok (.aload_n 0, 1) := by decide +kernel
theorem dX7_strikers_38 : decode cX7_strikers 38 = .ok (.iload_n 1, 1) := by decide +kernel
theorem dX7_strikers_39 : decode cX7_strikers 39 = .ok (.invokevirtual 75, 3) := by decide +kernel
theorem dX7_strikers_42 : decode cX7_strikers 42 = .ok (.iload_n 2, 1) := by decide +kernel
theorem dX7_strikers_43 : decode cX7_strikers 43 = .ok (.aload_n 0, 1) := by decide +kernel
theorem dX7_strikers_44 : decode cX7_strikers 44 = .ok (.iconst 1, 1) := by decide +kernel
theorem dX7_strikers_45 : decode cX7_strikers 45 = .ok (.invokevirtual 71, 3) := by decide +kernel
theorem dX7_strikers_48 : decode cX7_strikers 48 = .ok (.ior, 1) := by decide +kernel
theorem dX7_strikers_49 : decode cX7_strikers 49 = .ok (.ireturn, 1) := by decide +kernel
set_option maxRecDepth 20000 in
theorem ggX7_order_X7_allOrders : GoodIn wsX7_order wsX7_allOrders := goodIn_r _ [6, 7, 8, 9, 5, 10, 11, 1, 12, 13, 14, 15, 16, 17, 18, 19, 20, 21, 22, 23, 24, 25, 26, 27, 28, 29, 30, 31, 32, 33, 34, 35, 36, 37, 38, 39, 40, 41, 42, 43, 44, 45, 46, 47, 48, 49, 50, 51, 52, 53, 54, 55, 56, 57, 58, 59, 60, 61, 62, 63, 64, 65, 66, 71, 72, 73, 74, 75, 76, 77, 78, 79, 80, 81, 82, 83] (by decide +kernel) (by decide +kernel)
set_option maxRecDepth 20000 in
theorem gX7_order_X7_allOrders : GoodIn wsX7_order (wsV RX7 97 RX7 yX7_allOrders wsX7_allOrders) := goodIn_app (goodIn_of _ (by decide +kernel)) ggX7_order_X7_allOrders
set_option maxRecDepth 20000 in
theorem ggX7_order_X7_all : GoodIn wsX7_order wsX7_all := goodIn_r _ [15, 1, 71, 72, 73, 74, 75, 76, 77, 78, 79, 80, 81, 82, 83] (by decide +kernel) (by decide +kernel)
set_option maxRecDepth 20000 in
theorem gX7_order_X7_all : GoodIn wsX7_order (wsV RX7 83 RX7 yX7_all wsX7_all) := goodIn_app (goodIn_of _ (by decide +kernel)) ggX7_order_X7_all
set_option maxRecDepth 20000 in
theorem ggX7_order_X7_nextOf : GoodIn wsX7_order wsX7_nextOf := goodIn_r _ [70, 1, 11, 66, 20, 21, 5, 22, 71, 72, 73, 74, 75, 76, 77, 78, 79, 80, 81, 82, 83] (by decide +kernel) (by decide +kernel)
set_option maxRecDepth 20000 in
theorem gX7_order_X7_nextOf : GoodIn wsX7_order (wsV RX7 100 RX7 yX7_nextOf wsX7_nextOf) := goodIn_app (goodIn_of _ (by decide +kernel)) ggX7_order_X7_nextOf
theorem dX7_order_0 : decode cX7_order 0 = .ok (.iload_n 1, 1) := by decide +kernel
theorem dX7_order_1 : decode cX7_order 1 = .ok (.ifCond .ge 7, 3) := by decide +kernel
theorem dX7_order_4 : decode cX7_order 4 = .ok (.sipush (-1002), 3) := by decide +kernel
theorem dX7_order_7 : decode cX7_order 7 = .ok (.ireturn, 1) := by decide +kernel
theorem dX7_order_8 : decode cX7_order 8 = .ok (.aload_n 0, 1) := by decide +kernel
theorem dX7_order_9 : decode cX7_order 9 = .ok (.invokevirtual 97, 3) := by decide +kernel
theorem dX7_order_12 : decode cX7_order 12 = .ok (.ifCond .ne 7, 3) := by decide +kernel
theorem dX7_order_15 : decode cX7_order 15 = .ok (.sipush (-1004), 3) := by decide +kernel
theorem dX7_order_18 : decode cX7_order 18 = .ok (.ireturn, 1) := by decide +kernel
theorem dX7_order_19 : decode cX7_order 19 = .ok (.aload_n 0, 1) := by decide +kernel
theorem dX7_order_20 : decode cX7_order 20 = .ok (.getfield 7, 3) := by decide +kernel
theorem dX7_order_23 : decode cX7_order 23 = .ok (.bipush 16, 2) := by decide +kernel
theorem dX7_order_25 : decode cX7_order 25 = .ok (.iaload, 1) := by decide +kernel
theorem dX7_order_26 : decode cX7_order 26 = .ok (.istore_n 2, 1) := by decide +kernel
theorem dX7_order_27 : decode cX7_order 27 = .ok (.iconst 0, 1) := by decide +kernel
theorem dX7_order_28 : decode cX7_order 28 = .ok (.istore_n 3, 1) := by decide +kernel
theorem dX7_order_29 : decode cX7_order 29 = .ok (.iload_n 2, 1) := by decide +kernel
theorem dX7_order_30 : decode cX7_order 30 = .ok (.aload_n 0, 1) := by decide +kernel
theorem dX7_order_31 : decode cX7_order 31 = .ok (.invokevirtual 83, 3) := by decide +kernel
theorem dX7_order_34 : decode cX7_order 34 = .ok (.if_icmp .eq 31, 3) := by decide +kernel
theorem dX7_order_37 : decode cX7_order 37 = .ok (.aload_n 0, 1) := by decide +kernel
theorem dX7_order_38 : decode cX7_order 38 = .ok (.iload_n 2, 1) := by decide +kernel
theorem dX7_order_39 : decode cX7_order 39 = .ok (.invokevirtual 100, 3) := by decide +kernel
theorem dX7_order_42 : decode cX7_order 42 = .ok (.istore 4, 2) := by decide +kernel
theorem dX7_order_44 : decode cX7_order 44 = .ok (.iload_n 3, 1) := by decide +kernel
theorem dX7_order_45 : decode cX7_order 45 = .ok (.iload_n 1, 1) := by decide +kernel
theorem dX7_order_46 : decode cX7_order 46 = .ok (.if_icmp .ne 6, 3) := by decide +kernel
theorem dX7_order_49 : decode cX7_order 49 = .ok (.iload 4, 2) := by decide +kernel
theorem dX7_order_51 : decode cX7_order 51 = .ok (.ireturn, 1) := by decide +kernel
theorem dX7_order_52 : decode cX7_order 52 = .ok (.iload_n 2, 1) := by decide +kernel
theorem dX7_order_53 : decode cX7_order 53 = .ok (.iconst 1, 1) := by decide +kernel
theorem dX7_order_54 : decode cX7_order 54 = .ok (.iload 4, 2) := by decide +kernel
theorem dX7_order_56 : decode cX7_order 56 = .ok (.ishl, 1) := by decide +kernel
theorem dX7_order_57 : decode cX7_order 57 = .ok (.ior, 1) := by decide +kernel
theorem dX7_order_58 : decode cX7_order 58 = .ok (.istore_n 2, 1) := by decide +kernel
theorem dX7_order_59 : decode cX7_order 59 = .ok (.iinc 3 1, 3) := by decide +kernel
theorem dX7_order_62 : decode cX7_order 62 = .ok (.goto (-33), 3) := by decide +kernel
theorem dX7_order_65 : decode cX7_order 65 = .ok (.sipush (-1005), 3) := by decide +kernel
theorem dX7_order_68 : decode cX7_order 68 = .ok (.ireturn, 1) := by decide +kernel
set_option maxRecDepth 20000 in
theorem ggX7_orders_X7_allOrders : GoodIn wsX7_orders wsX7_allOrders := goodIn_r _ [5, 6, 7, 8, 4, 9, 10, 11, 12, 13, 14, 15, 16, 17, 18, 19, 20, 21, 22, 23, 24, 25, 26, 27, 28, 29, 30, 31, 32, 33, 34, 35, 36, 37, 38, 39, 40, 41, 42, 43, 44, 45, 46, 47, 48, 49, 50, 51, 52, 53, 54, 55, 56, 57, 58, 59, 60, 61, 62, 63, 64, 65, 66, 67, 68, 69, 70, 71, 72, 73, 74, 75, 76, 77, 78, 79] (by decide +kernel) (by decide +kernel)
set_option maxRecDepth 20000 in
theorem gX7_orders_X7_allOrders : GoodIn wsX7_orders (wsV RX7 97 RX7 yX7_allOrders wsX7_allOrders) := goodIn_app (goodIn_of _ (by decide +kernel)) ggX7_orders_X7_allOrders
theorem dX7_orders_0 : decode cX7_orders 0 = .ok (.aload_n 0, 1) := by decide +kernel
theorem dX7_orders_1 : decode cX7_orders 1 = .ok (.invokevirtual 97, 3) := by decide +kernel
theorem dX7_orders_4 : decode cX7_orders 4 = .ok (.ireturn, 1) := by decide +kernel
set_option maxRecDepth 20000 in
theorem ggX7_mustWait_X7_isBend : GoodIn wsX7_mustWait wsX7_isBend := goodIn_r _ [6, 1, 7, 8, 5, 9, 71, 72, 73, 74, 75, 76, 77, 78, 79, 80, 81, 82, 83] (by decide +kernel) (by decide +kernel)
set_option maxRecDepth 20000 in
theorem gX7_mustWait_X7_isBend : GoodIn wsX7_mustWait (wsV RX7 110 RX7 yX7_isBend wsX7_isBend) := goodIn_app (goodIn_of _ (by decide +kernel)) ggX7_mustWait_X7_isBend
set_option maxRecDepth 20000 in
theorem ggX7_mustWait_X7_has : GoodIn wsX7_mustWait wsX7_has := goodIn_r _ [12] (by decide +kernel) (by decide +kernel)
set_option maxRecDepth 20000 in
theorem gX7_mustWait_X7_has : GoodIn wsX7_mustWait (va_wsS RX7 49 yX7_has wsX7_has) := goodIn_app (goodIn_of _ (by decide +kernel)) ggX7_mustWait_X7_has
set_option maxRecDepth 20000 in
theorem ggX7_mustWait_X7_allOrders : GoodIn wsX7_mustWait wsX7_allOrders := goodIn_r _ [16, 17, 18, 19, 5, 20, 21, 1, 22, 23, 24, 25, 26, 27, 28, 29, 10, 11, 12, 30, 31, 32, 33, 34, 35, 36, 37, 38, 39, 40, 41, 7, 8, 9, 42, 43, 44, 45, 46, 47, 48, 49, 50, 51, 52, 53, 54, 55, 56, 57, 58, 59, 60, 61, 62, 63, 64, 65, 66, 67, 68, 69, 70, 71, 72, 73, 74, 75, 76, 77, 78, 79, 80, 81, 82, 83] (by decide +kernel) (by decide +kernel)
set_option maxRecDepth 20000 in
theorem gX7_mustWait_X7_allOrders : GoodIn wsX7_mustWait (wsV RX7 97 RX7 yX7_allOrders wsX7_allOrders) := goodIn_app (goodIn_of _ (by decide +kernel)) ggX7_mustWait_X7_allOrders
set_option maxRecDepth 20000 in
theorem ggX7_mustWait_X7_countOrders : GoodIn wsX7_mustWait wsX7_countOrders := goodIn_r _ [69, 70, 1, 21, 22, 23, 24, 5, 25, 10, 11, 12, 71, 72, 73, 74, 75, 76, 77, 78, 79, 80, 81, 82, 83] (by decide +kernel) (by decide +kernel)
set_option maxRecDepth 20000 in
theorem gX7_mustWait_X7_countOrders : GoodIn wsX7_mustWait (wsV RX7 94 RX7 yX7_countOrders wsX7_countOrders) := goodIn_app (goodIn_of _ (by decide +kernel)) ggX7_mustWait_X7_countOrders
theorem dX7_mustWait_0 : decode cX7_mustWait 0 = .ok (.aload_n 0, 1) := by decide +kernel
theorem dX7_mustWait_1 : decode cX7_mustWait 1 = .ok (.iload_n 1, 1) := by decide +kernel
theorem dX7_mustWait_2 : decode cX7_mustWait 2 = .ok (.invokevirtual 110, 3) := by decide +kernel
theorem dX7_mustWait_5 : decode cX7_mustWait 5 = .ok (.ifCond .eq 39, 3) := by decide +kernel
theorem dX7_mustWait_8 : decode cX7_mustWait 8 = .ok (.aload_n 0, 1) := by decide +kernel
theorem dX7_mustWait_9 : decode cX7_mustWait 9 = .ok (.iload_n 2, 1) := by decide +kernel
theorem dX7_mustWait_10 : decode cX7_mustWait 10 = .ok (.invokevirtual 110, 3) := by decide +kernel
theorem dX7_mustWait_13 : decode cX7_mustWait 13 = .ok (.ifCond .eq 31, 3) := by decide +kernel
theorem dX7_mustWait_16 : decode cX7_mustWait 16 = .ok (.aload_n 0, 1) := by decide +kernel
theorem dX7_mustWait_17 : decode cX7_mustWait 17 = .ok (.getfield 7, 3) := by decide +kernel
theorem dX7_mustWait_20 : decode cX7_mustWait 20 = .ok (.bipush 16, 2) := by decide +kernel
theorem dX7_mustWait_22 : decode cX7_mustWait 22 = .ok (.iaload, 1) := by decide +kernel
theorem dX7_mustWait_23 : decode cX7_mustWait 23 = .ok (.iload_n 1, 1) := by decide +kernel
theorem dX7_mustWait_24 : decode cX7_mustWait 24 = .ok (.invokestatic 49, 3) := by decide +kernel
theorem dX7_mustWait_27 : decode cX7_mustWait 27 = .ok (.ifCond .ne 17, 3) := by decide +kernel
theorem dX7_mustWait_30 : decode cX7_mustWait 30 = .ok (.aload_n 0, 1) := by decide +kernel
theorem dX7_mustWait_31 : decode cX7_mustWait 31 = .ok (.getfield 7, 3) := by decide +kernel
theorem dX7_mustWait_34 : decode cX7_mustWait 34 = .ok (.bipush 16, 2) := by decide +kernel
theorem dX7_mustWait_36 : decode cX7_mustWait 36 = .ok (.iaload, 1) := by decide +kernel
theorem dX7_mustWait_37 : decode cX7_mustWait 37 = .ok (.iload_n 2, 1) := by decide +kernel
theorem dX7_mustWait_38 : decode cX7_mustWait 38 = .ok (.invokestatic 49, 3) := by decide +kernel
theorem dX7_mustWait_41 : decode cX7_mustWait 41 = .ok (.ifCond .eq 7, 3) := by decide +kernel
theorem dX7_mustWait_44 : decode cX7_mustWait 44 = .ok (.sipush (-1001), 3) := by decide +kernel
theorem dX7_mustWait_47 : decode cX7_mustWait 47 = .ok (.ireturn, 1) := by decide +kernel
theorem dX7_mustWait_48 : decode cX7_mustWait 48 = .ok (.iload_n 1, 1) := by decide +kernel
theorem dX7_mustWait_49 : decode cX7_mustWait 49 = .ok (.iload_n 2, 1) := by decide +kernel
theorem dX7_mustWait_50 : decode cX7_mustWait 50 = .ok (.if_icmp .ne 7, 3) := by decide +kernel
theorem dX7_mustWait_53 : decode cX7_mustWait 53 = .ok (.sipush (-1002), 3) := by decide +kernel
theorem dX7_mustWait_56 : decode cX7_mustWait 56 = .ok (.ireturn, 1) := by decide +kernel
theorem dX7_mustWait_57 : decode cX7_mustWait 57 = .ok (.aload_n 0, 1) := by decide +kernel
theorem dX7_mustWait_58 : decode cX7_mustWait 58 = .ok (.invokevirtual 97, 3) := by decide +kernel
theorem dX7_mustWait_61 : decode cX7_mustWait 61 = .ok (.ifCond .ne 9, 3) := by decide +kernel
theorem dX7_mustWait_64 : decode cX7_mustWait 64 = .ok (.sipush (-1004), 3) := by decide +kernel
theorem dX7_mustWait_67 : decode cX7_mustWait 67 = .ok (.goto 17, 3) := by decide +kernel
theorem dX7_mustWait_70 : decode cX7_mustWait 70 = .ok (.aload_n 0, 1) := by decide +kernel
theorem dX7_mustWait_71 : decode cX7_mustWait 71 = .ok (.iload_n 1, 1) := by decide +kernel
theorem dX7_mustWait_72 : decode cX7_mustWait 72 = .ok (.iload_n 2, 1) := by decide +kernel
theorem dX7_mustWait_73 : decode cX7_mustWait 73 = .ok (.invokevirtual 94, 3) := by decide +kernel
theorem dX7_mustWait_76 : decode cX7_mustWait 76 = .ok (.ifCond .ne 7, 3) := by decide +kernel
theorem dX7_mustWait_79 : decode cX7_mustWait 79 = .ok (.iconst 1, 1) := by decide +kernel
theorem dX7_mustWait_80 : decode cX7_mustWait 80 = .ok (.goto 4, 3) := by decide +kernel
theorem dX7_mustWait_83 : decode cX7_mustWait 83 = .ok (.iconst 0, 1) := by decide +kernel
theorem dX7_mustWait_84 : decode cX7_mustWait 84 = .ok (.ireturn, 1) := by decide +kernel
set_option maxRecDepth 20000 in
theorem ggX7_canNow_X7_reason : GoodIn wsX7_canNow wsX7_reason := goodIn_r _ [6, 1, 7, 8, 5, 9, 10, 11, 12, 13, 14, 15, 16, 17, 18, 19, 20, 21, 22, 23, 24, 25, 26, 27, 28, 29, 30, 31, 32, 33, 34, 35, 36, 37, 38, 39, 40, 41, 42, 43, 44, 45, 46, 47, 48, 49, 50, 51, 52, 53, 54, 55, 56, 57, 58, 59, 60, 61] (by decide +kernel) (by decide +kernel)
set_option maxRecDepth 20000 in
theorem gX7_canNow_X7_reason : GoodIn wsX7_canNow (wsV RX7 87 RX7 yX7_reason wsX7_reason) := goodIn_app (goodIn_of _ (by decide +kernel)) ggX7_canNow_X7_reason
theorem dX7_canNow_0 : decode cX7_canNow 0 = .ok (.iconst 0, 1) := by decide +kernel
theorem dX7_canNow_1 : decode cX7_canNow 1 = .ok (.istore_n 1, 1) := by decide +kernel
theorem dX7_canNow_2 : decode cX7_canNow 2 = .ok (.iconst 0, 1) := by decide +kernel
theorem dX7_canNow_3 : decode cX7_canNow 3 = .ok (.istore_n 2, 1) := by decide +kernel
theorem dX7_canNow_4 : decode cX7_canNow 4 = .ok (.iload_n 2, 1) := by decide +kernel
theorem dX7_canNow_5 : decode cX7_canNow 5 = .ok (.aload_n 0, 1) := by decide +kernel
theorem dX7_canNow_6 : decode cX7_canNow 6 = .ok (.getfield 7, 3) := by decide +kernel
theorem dX7_canNow_9 : decode cX7_canNow 9 = .ok (.iconst 0, 1) := by decide +kernel
theorem dX7_canNow_10 : decode cX7_canNow 10 = .ok (.iaload, 1) := by decide +kernel
theorem dX7_canNow_11 : decode cX7_canNow 11 = .ok (.if_icmp .ge 41, 3) := by decide +kernel
theorem dX7_canNow_14 : decode cX7_canNow 14 = .ok (.iload_n 1, 1) := by decide +kernel
theorem dX7_canNow_15 : decode cX7_canNow 15 = .ok (.aload_n 0, 1) := by decide +kernel
theorem dX7_canNow_16 : decode cX7_canNow 16 = .ok (.iload_n 2, 1) := by decide +kernel
theorem dX7_canNow_17 : decode cX7_canNow 17 = .ok (.aload_n 0, 1) := by decide +kernel
theorem dX7_canNow_18 : decode cX7_canNow 18 = .ok (.getfield 7, 3) := by decide +kernel
theorem dX7_canNow_21 : decode cX7_canNow 21 = .ok (.bipush 16, 2) := by decide +kernel
theorem dX7_canNow_23 : decode cX7_canNow 23 = .ok (.iaload, 1) := by decide +kernel
theorem dX7_canNow_24 : decode cX7_canNow 24 = .ok (.aload_n 0, 1) := by decide +kernel
theorem dX7_canNow_25 : decode cX7_canNow 25 = .ok (.getfield 7, 3) := by decide +kernel
theorem dX7_canNow_28 : decode cX7_canNow 28 = .ok (.bipush 17, 2) := by decide +kernel
theorem dX7_canNow_30 : decode cX7_canNow 30 = .ok (.iaload, 1) := by decide +kernel
theorem dX7_canNow_31 : decode cX7_canNow 31 = .ok (.invokevirtual 87, 3) := by decide +kernel
theorem dX7_canNow_34 : decode cX7_canNow 34 = .ok (.ifCond .ne 9, 3) := by decide +kernel
theorem dX7_canNow_37 : decode cX7_canNow 37 = .ok (.iconst 1, 1) := by decide +kernel
theorem dX7_canNow_38 : decode cX7_canNow 38 = .ok (.iload_n 2, 1) := by decide +kernel
theorem dX7_canNow_39 : decode cX7_canNow 39 = .ok (.ishl, 1) := by decide +kernel
theorem dX7_canNow_40 : decode cX7_canNow 40 = .ok (.goto 4, 3) := by decide +kernel
theorem dX7_canNow_43 : decode cX7_canNow 43 = .ok (.iconst 0, 1) := by decide +kernel
theorem dX7_canNow_44 : decode cX7_canNow 44 = .ok (.ior, 1) := by decide +kernel
theorem dX7_canNow_45 : decode cX7_canNow 45 = .ok (.istore_n 1, 1) := by decide +kernel
theorem dX7_canNow_46 : decode cX7_canNow 46 = .ok (.iinc 2 1, 3) := by decide +kernel
theorem dX7_canNow_49 : decode cX7_canNow 49 = .ok (.goto (-45), 3) := by decide +kernel
theorem dX7_canNow_52 : decode cX7_canNow 52 = .ok (.iload_n 1, 1) := by decide +kernel
theorem dX7_canNow_53 : decode cX7_canNow 53 = .ok (.ireturn, 1) := by decide +kernel
theorem dX7_wholeLength_0 : decode cX7_wholeLength 0 = .ok (.iconst 0, 1) := by decide +kernel
theorem dX7_wholeLength_1 : decode cX7_wholeLength 1 = .ok (.istore_n 1, 1) := by decide +kernel
theorem dX7_wholeLength_2 : decode cX7_wholeLength 2 = .ok (.iconst 0, 1) := by decide +kernel
theorem dX7_wholeLength_3 : decode cX7_wholeLength 3 = .ok (.istore_n 2, 1) := by decide +kernel
theorem dX7_wholeLength_4 : decode cX7_wholeLength 4 = .ok (.iload_n 2, 1) := by decide +kernel
theorem dX7_wholeLength_5 : decode cX7_wholeLength 5 = .ok (.aload_n 0, 1) := by decide +kernel
theorem dX7_wholeLength_6 : decode cX7_wholeLength 6 = .ok (.getfield 7, 3) := by decide +kernel
theorem dX7_wholeLength_9 : decode cX7_wholeLength 9 = .ok (.iconst 0, 1) := by decide +kernel
theorem dX7_wholeLength_10 : decode cX7_wholeLength 10 = .ok (.iaload, 1) := by decide +kernel
theorem dX7_wholeLength_11 : decode cX7_wholeLength 11 = .ok (.if_icmp .gt 20, 3) := by decide +kernel
theorem dX7_wholeLength_14 : decode cX7_wholeLength 14 = .ok (.iload_n 1, 1) := by decide +kernel
theorem dX7_wholeLength_15 : decode cX7_wholeLength 15 = .ok (.aload_n 0, 1) := by decide +kernel
theorem dX7_wholeLength_16 : decode cX7_wholeLength 16 = .ok (.getfield 7, 3) := by decide +kernel
theorem dX7_wholeLength_19 : decode cX7_wholeLength 19 = .ok (.iconst 1, 1) := by decide +kernel
theorem dX7_wholeLength_20 : decode cX7_wholeLength 20 = .ok (.iload_n 2, 1) := by decide +kernel
theorem dX7_wholeLength_21 : decode cX7_wholeLength 21 = .ok (.iadd, 1) := by decide +kernel
theorem dX7_wholeLength_22 : decode cX7_wholeLength 22 = .ok (.iaload, 1) := by decide +kernel
theorem dX7_wholeLength_23 : decode cX7_wholeLength 23 = .ok (.iadd, 1) := by decide +kernel
theorem dX7_wholeLength_24 : decode cX7_wholeLength 24 = .ok (.istore_n 1, 1) := by decide +kernel
theorem dX7_wholeLength_25 : decode cX7_wholeLength 25 = .ok (.iinc 2 1, 3) := by decide +kernel
theorem dX7_wholeLength_28 : decode cX7_wholeLength 28 = .ok (.goto (-24), 3) := by decide +kernel
theorem dX7_wholeLength_31 : decode cX7_wholeLength 31 = .ok (.iload_n 1, 1) := by decide +kernel
theorem dX7_wholeLength_32 : decode cX7_wholeLength 32 = .ok (.ireturn, 1) := by decide +kernel
set_option maxRecDepth 20000 in
theorem ggX7_count_X7_many : GoodIn wsX7_count wsX7_many := goodIn_r _ [7] (by decide +kernel) (by decide +kernel)
set_option maxRecDepth 20000 in
theorem gX7_count_X7_many : GoodIn wsX7_count (va_wsS RX7 113 yX7_many wsX7_many) := goodIn_app (goodIn_of _ (by decide +kernel)) ggX7_count_X7_many
set_option maxRecDepth 20000 in
theorem ggX7_count_X7_allOrders : GoodIn wsX7_count wsX7_allOrders := goodIn_r _ [11, 12, 13, 14, 6, 15, 16, 1, 17, 18, 19, 20, 21, 22, 23, 24, 25, 26, 27, 28, 29, 30, 31, 32, 33, 34, 35, 36, 37, 38, 39, 40, 41, 42, 43, 44, 45, 46, 47, 48, 49, 50, 51, 52, 53, 54, 55, 56, 57, 58, 59, 60, 61, 62, 63, 64, 65, 66, 67, 68, 69, 70, 71, 88, 89, 90, 91, 92, 93, 94, 95, 96, 97, 98, 99, 100] (by decide +kernel) (by decide +kernel)
set_option maxRecDepth 20000 in
theorem gX7_count_X7_allOrders : GoodIn wsX7_count (wsV RX7 97 RX7 yX7_allOrders wsX7_allOrders) := goodIn_app (goodIn_of _ (by decide +kernel)) ggX7_count_X7_allOrders
set_option maxRecDepth 20000 in
theorem ggX7_count_X7_canNow : GoodIn wsX7_count wsX7_canNow := goodIn_r _ [75, 1, 21, 22, 23, 6, 24, 25, 26, 27, 28, 29, 30, 31, 32, 33, 34, 35, 36, 37, 38, 39, 40, 41, 42, 43, 44, 45, 46, 47, 48, 49, 50, 51, 52, 53, 54, 55, 56, 57, 58, 59, 60, 61, 62, 63, 64, 65, 66, 88, 89, 90, 91, 92, 93, 94, 95, 96, 97, 98, 99, 100] (by decide +kernel) (by decide +kernel)
set_option maxRecDepth 20000 in
theorem gX7_count_X7_canNow : GoodIn wsX7_count (wsV RX7 132 RX7 yX7_canNow wsX7_canNow) := goodIn_app (goodIn_of _ (by decide +kernel)) ggX7_count_X7_canNow
set_option maxRecDepth 20000 in
theorem ggX7_count_X7_turnings : GoodIn wsX7_count wsX7_turnings := goodIn_r _ [79, 1, 8, 9, 10, 6, 11, 12, 13, 14, 15, 16, 17, 18, 19, 20, 21, 22, 23, 24, 25, 26, 27, 28, 29, 30, 31, 32, 33, 34, 35, 36, 37, 38, 39, 40, 41, 42, 43, 44, 45, 46, 47, 48, 49, 50, 51, 52, 53, 54, 55, 56, 57, 58, 59, 60, 61, 62, 63, 64, 65, 66, 67, 68, 69, 70, 71, 80, 81, 82, 83, 88, 89, 90, 91, 92, 93, 94, 95, 96, 97, 98, 99, 100] (by decide +kernel) (by decide +kernel)
set_option maxRecDepth 20000 in
theorem gX7_count_X7_turnings : GoodIn wsX7_count (wsV RX7 135 RX7 yX7_turnings wsX7_turnings) := goodIn_app (goodIn_of _ (by decide +kernel)) ggX7_count_X7_turnings
set_option maxRecDepth 20000 in
theorem ggX7_count_X7_wholeLength : GoodIn wsX7_count wsX7_wholeLength := goodIn_r _ [87, 1, 88, 89, 90, 91, 92, 93, 94, 95, 96, 97, 98, 99, 100] (by decide +kernel) (by decide +kernel)
set_option maxRecDepth 20000 in
theorem gX7_count_X7_wholeLength : GoodIn wsX7_count (wsV RX7 138 RX7 yX7_wholeLength wsX7_wholeLength) := goodIn_app (goodIn_of _ (by decide +kernel)) ggX7_count_X7_wholeLength
theorem dX7_count_0 : decode cX7_count 0 = .ok (.iload_n 1, 1) := by decide +kernel
theorem dX7_count_1 : decode cX7_count 1 = .ok (.tableswitch 156 0 13 #[71, 78, 89, 97, 110, 115, 120, 125, 133, 133, 133, 133, 146, 151], 71) := by decide +kernel
theorem dX7_count_72 : decode cX7_count 72 = .ok (.aload_n 0, 1) := by decide +kernel
theorem dX7_count_73 : decode cX7_count 73 = .ok (.getfield 7, 3) := by decide +kernel
theorem dX7_count_76 : decode cX7_count 76 = .ok (.iconst 0, 1) := by decide +kernel
theorem dX7_count_77 : decode cX7_count 77 = .ok (.iaload, 1) := by decide +kernel
theorem dX7_count_78 : decode cX7_count 78 = .ok (.ireturn, 1) := by decide +kernel
theorem dX7_count_79 : decode cX7_count 79 = .ok (.aload_n 0, 1) := by decide +kernel
theorem dX7_count_80 : decode cX7_count 80 = .ok (.getfield 7, 3) := by decide +kernel
theorem dX7_count_83 : decode cX7_count 83 = .ok (.bipush 16, 2) := by decide +kernel
theorem dX7_count_85 : decode cX7_count 85 = .ok (.iaload, 1) := by decide +kernel
theorem dX7_count_86 : decode cX7_count 86 = .ok (.invokestatic 113, 3) := by decide +kernel
theorem dX7_count_89 : decode cX7_count 89 = .ok (.ireturn, 1) := by decide +kernel
theorem dX7_count_90 : decode cX7_count 90 = .ok (.aload_n 0, 1) := by decide +kernel
theorem dX7_count_91 : decode cX7_count 91 = .ok (.getfield 7, 3) := by decide +kernel
theorem dX7_count_94 : decode cX7_count 94 = .ok (.bipush 17, 2) := by decide +kernel
theorem dX7_count_96 : decode cX7_count 96 = .ok (.iaload, 1) := by decide +kernel
theorem dX7_count_97 : decode cX7_count 97 = .ok (.ireturn, 1) := by decide +kernel
theorem dX7_count_98 : decode cX7_count 98 = .ok (.aload_n 0, 1) := by decide +kernel
theorem dX7_count_99 : decode cX7_count 99 = .ok (.invokevirtual 97, 3) := by decide +kernel
theorem dX7_count_102 : decode cX7_count 102 = .ok (.ifCond .le 7, 3) := by decide +kernel
theorem dX7_count_105 : decode cX7_count 105 = .ok (.iconst 1, 1) := by decide +kernel
theorem dX7_count_106 : decode cX7_count 106 = .ok (.goto 4, 3) := by decide +kernel
theorem dX7_count_109 : decode cX7_count 109 = .ok (.iconst 0, 1) := by decide +kernel
theorem dX7_count_110 : decode cX7_count 110 = .ok (.ireturn, 1) := by decide +kernel
theorem dX7_count_111 : decode cX7_count 111 = .ok (.aload_n 0, 1) := by decide +kernel
theorem dX7_count_112 : decode cX7_count 112 = .ok (.invokevirtual 132, 3) := by decide +kernel
theorem dX7_count_115 : decode cX7_count 115 = .ok (.ireturn, 1) := by decide +kernel
theorem dX7_count_116 : decode cX7_count 116 = .ok (.aload_n 0, 1) := by decide +kernel
theorem dX7_count_117 : decode cX7_count 117 = .ok (.invokevirtual 135, 3) := by decide +kernel
theorem dX7_count_120 : decode cX7_count 120 = .ok (.ireturn, 1) := by decide +kernel
theorem dX7_count_121 : decode cX7_count 121 = .ok (.aload_n 0, 1) := by decide +kernel
theorem dX7_count_122 : decode cX7_count 122 = .ok (.invokevirtual 138, 3) := by decide +kernel
theorem dX7_count_125 : decode cX7_count 125 = .ok (.ireturn, 1) := by decide +kernel
theorem dX7_count_126 : decode cX7_count 126 = .ok (.aload_n 0, 1) := by decide +kernel
theorem dX7_count_127 : decode cX7_count 127 = .ok (.getfield 7, 3) := by decide +kernel
theorem dX7_count_130 : decode cX7_count 130 = .ok (.bipush 22, 2) := by decide +kernel
theorem dX7_count_132 : decode cX7_count 132 = .ok (.iaload, 1) := by decide +kernel
theorem dX7_count_133 : decode cX7_count 133 = .ok (.ireturn, 1) := by decide +kernel
theorem dX7_count_134 : decode cX7_count 134 = .ok (.aload_n 0, 1) := by decide +kernel
theorem dX7_count_135 : decode cX7_count 135 = .ok (.getfield 7, 3) := by decide +kernel
theorem dX7_count_138 : decode cX7_count 138 = .ok (.bipush 18, 2) := by decide +kernel
theorem dX7_count_140 : decode cX7_count 140 = .ok (.iload_n 1, 1) := by decide +kernel
theorem dX7_count_141 : decode cX7_count 141 = .ok (.iadd, 1) := by decide +kernel
theorem dX7_count_142 : decode cX7_count 142 = .ok (.bipush 8, 2) := by decide +kernel
theorem dX7_count_144 : decode cX7_count 144 = .ok (.isub, 1) := by decide +kernel
theorem dX7_count_145 : decode cX7_count 145 = .ok (.iaload, 1) := by decide +kernel
theorem dX7_count_146 : decode cX7_count 146 = .ok (.ireturn, 1) := by decide +kernel
theorem dX7_count_147 : decode cX7_count 147 = .ok (.aload_n 0, 1) := by decide +kernel
theorem dX7_count_148 : decode cX7_count 148 = .ok (.getfield 41, 3) := by decide +kernel
theorem dX7_count_151 : decode cX7_count 151 = .ok (.ireturn, 1) := by decide +kernel
theorem dX7_count_152 : decode cX7_count 152 = .ok (.aload_n 0, 1) := by decide +kernel
theorem dX7_count_153 : decode cX7_count 153 = .ok (.getfield 119, 3) := by decide +kernel
theorem dX7_count_156 : decode cX7_count 156 = .ok (.ireturn, 1) := by decide +kernel
theorem dX7_count_157 : decode cX7_count 157 = .ok (.sipush (-1002), 3) := by decide +kernel
theorem dX7_count_160 : decode cX7_count 160 = .ok (.ireturn, 1) := by decide +kernel
