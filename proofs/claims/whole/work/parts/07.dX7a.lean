theorem dX7_init_0 : decode cX7_init 0 = .ok (.aload_n 0, 1) := by decide +kernel
theorem dX7_init_1 : decode cX7_init 1 = .ok (.invokespecial 1, 3) := by decide +kernel
theorem dX7_init_4 : decode cX7_init 4 = .ok (.aload_n 0, 1) := by decide +kernel
theorem dX7_init_5 : decode cX7_init 5 = .ok (.bipush 23, 2) := by decide +kernel
theorem dX7_init_7 : decode cX7_init 7 = .ok (.newarray .int, 2) := by decide +kernel
theorem dX7_init_9 : decode cX7_init 9 = .ok (.putfield 7, 3) := by decide +kernel
theorem dX7_init_12 : decode cX7_init 12 = .ok (.aload_n 0, 1) := by decide +kernel
theorem dX7_init_13 : decode cX7_init 13 = .ok (.bipush 92, 2) := by decide +kernel
theorem dX7_init_15 : decode cX7_init 15 = .ok (.newarray .int, 2) := by decide +kernel
theorem dX7_init_17 : decode cX7_init 17 = .ok (.putfield 13, 3) := by decide +kernel
theorem dX7_init_20 : decode cX7_init 20 = .ok (.aload_n 0, 1) := by decide +kernel
theorem dX7_init_21 : decode cX7_init 21 = .ok (.bipush 23, 2) := by decide +kernel
theorem dX7_init_23 : decode cX7_init 23 = .ok (.newarray .int, 2) := by decide +kernel
theorem dX7_init_25 : decode cX7_init 25 = .ok (.putfield 16, 3) := by decide +kernel
theorem dX7_init_28 : decode cX7_init 28 = .ok (.aload_n 0, 1) := by decide +kernel
theorem dX7_init_29 : decode cX7_init 29 = .ok (.bipush 60, 2) := by decide +kernel
theorem dX7_init_31 : decode cX7_init 31 = .ok (.newarray .int, 2) := by decide +kernel
theorem dX7_init_33 : decode cX7_init 33 = .ok (.putfield 19, 3) := by decide +kernel
theorem dX7_init_36 : decode cX7_init 36 = .ok (.aload_n 0, 1) := by decide +kernel
theorem dX7_init_37 : decode cX7_init 37 = .ok (.bipush 80, 2) := by decide +kernel
theorem dX7_init_39 : decode cX7_init 39 = .ok (.newarray .int, 2) := by decide +kernel
theorem dX7_init_41 : decode cX7_init 41 = .ok (.putfield 22, 3) := by decide +kernel
theorem dX7_init_44 : decode cX7_init 44 = .ok (.aload_n 0, 1) := by decide +kernel
theorem dX7_init_45 : decode cX7_init 45 = .ok (.bipush 80, 2) := by decide +kernel
theorem dX7_init_47 : decode cX7_init 47 = .ok (.newarray .int, 2) := by decide +kernel
theorem dX7_init_49 : decode cX7_init 49 = .ok (.putfield 25, 3) := by decide +kernel
theorem dX7_init_52 : decode cX7_init 52 = .ok (.aload_n 0, 1) := by decide +kernel
theorem dX7_init_53 : decode cX7_init 53 = .ok (.bipush 80, 2) := by decide +kernel
theorem dX7_init_55 : decode cX7_init 55 = .ok (.newarray .int, 2) := by decide +kernel
theorem dX7_init_57 : decode cX7_init 57 = .ok (.putfield 28, 3) := by decide +kernel
theorem dX7_init_60 : decode cX7_init 60 = .ok (.aload_n 0, 1) := by decide +kernel
theorem dX7_init_61 : decode cX7_init 61 = .ok (.sipush 128, 3) := by decide +kernel
theorem dX7_init_64 : decode cX7_init 64 = .ok (.newarray .int, 2) := by decide +kernel
theorem dX7_init_66 : decode cX7_init 66 = .ok (.putfield 31, 3) := by decide +kernel
theorem dX7_init_69 : decode cX7_init 69 = .ok (.aload_n 0, 1) := by decide +kernel
theorem dX7_init_70 : decode cX7_init 70 = .ok (.sipush 128, 3) := by decide +kernel
theorem dX7_init_73 : decode cX7_init 73 = .ok (.newarray .int, 2) := by decide +kernel
theorem dX7_init_75 : decode cX7_init 75 = .ok (.putfield 34, 3) := by decide +kernel
theorem dX7_init_78 : decode cX7_init 78 = .ok (.aload_n 0, 1) := by decide +kernel
theorem dX7_init_79 : decode cX7_init 79 = .ok (.getfield 7, 3) := by decide +kernel
theorem dX7_init_82 : decode cX7_init 82 = .ok (.iconst 0, 1) := by decide +kernel
theorem dX7_init_83 : decode cX7_init 83 = .ok (.iconst 1, 1) := by decide +kernel
theorem dX7_init_84 : decode cX7_init 84 = .ok (.iastore, 1) := by decide +kernel
theorem dX7_init_85 : decode cX7_init 85 = .ok (.aload_n 0, 1) := by decide +kernel
theorem dX7_init_86 : decode cX7_init 86 = .ok (.getfield 7, 3) := by decide +kernel
theorem dX7_init_89 : decode cX7_init 89 = .ok (.iconst 1, 1) := by decide +kernel
theorem dX7_init_90 : decode cX7_init 90 = .ok (.iconst 5, 1) := by decide +kernel
theorem dX7_init_91 : decode cX7_init 91 = .ok (.iastore, 1) := by decide +kernel
theorem dX7_init_92 : decode cX7_init 92 = .ok (.aload_n 0, 1) := by decide +kernel
theorem dX7_init_93 : decode cX7_init 93 = .ok (.getfield 7, 3) := by decide +kernel
theorem dX7_init_96 : decode cX7_init 96 = .ok (.iconst 2, 1) := by decide +kernel
theorem dX7_init_97 : decode cX7_init 97 = .ok (.iconst 5, 1) := by decide +kernel
theorem dX7_init_98 : decode cX7_init 98 = .ok (.iastore, 1) := by decide +kernel
theorem dX7_init_99 : decode cX7_init 99 = .ok (.aload_n 0, 1) := by decide +kernel
theorem dX7_init_100 : decode cX7_init 100 = .ok (.getfield 7, 3) := by decide +kernel
theorem dX7_init_103 : decode cX7_init 103 = .ok (.bipush 9, 2) := by decide +kernel
theorem dX7_init_105 : decode cX7_init 105 = .ok (.iconst 1, 1) := by decide +kernel
theorem dX7_init_106 : decode cX7_init 106 = .ok (.iastore, 1) := by decide +kernel
theorem dX7_init_107 : decode cX7_init 107 = .ok (.aload_n 0, 1) := by decide +kernel
theorem dX7_init_108 : decode cX7_init 108 = .ok (.getfield 7, 3) := by decide +kernel
theorem dX7_init_111 : decode cX7_init 111 = .ok (.bipush 18, 2) := by decide +kernel
theorem dX7_init_113 : decode cX7_init 113 = .ok (.bipush 6, 2) := by decide +kernel
theorem dX7_init_115 : decode cX7_init 115 = .ok (.iastore, 1) := by decide +kernel
theorem dX7_init_116 : decode cX7_init 116 = .ok (.aload_n 0, 1) := by decide +kernel
theorem dX7_init_117 : decode cX7_init 117 = .ok (.getfield 7, 3) := by decide +kernel
theorem dX7_init_120 : decode cX7_init 120 = .ok (.bipush 19, 2) := by decide +kernel
theorem dX7_init_122 : decode cX7_init 122 = .ok (.iconst 1, 1) := by decide +kernel
theorem dX7_init_123 : decode cX7_init 123 = .ok (.iastore, 1) := by decide +kernel
theorem dX7_init_124 : decode cX7_init 124 = .ok (.aload_n 0, 1) := by decide +kernel
theorem dX7_init_125 : decode cX7_init 125 = .ok (.getfield 7, 3) := by decide +kernel
theorem dX7_init_128 : decode cX7_init 128 = .ok (.bipush 20, 2) := by decide +kernel
theorem dX7_init_130 : decode cX7_init 130 = .ok (.iconst 1, 1) := by decide +kernel
theorem dX7_init_131 : decode cX7_init 131 = .ok (.iastore, 1) := by decide +kernel
theorem dX7_init_132 : decode cX7_init 132 = .ok (.aload_n 0, 1) := by decide +kernel
theorem dX7_init_133 : decode cX7_init 133 = .ok (.getfield 7, 3) := by decide +kernel
theorem dX7_init_136 : decode cX7_init 136 = .ok (.bipush 21, 2) := by decide +kernel
theorem dX7_init_138 : decode cX7_init 138 = .ok (.iconst 3, 1) := by decide +kernel
theorem dX7_init_139 : decode cX7_init 139 = .ok (.iastore, 1) := by decide +kernel
theorem dX7_init_140 : decode cX7_init 140 = .ok (.return_, 1) := by decide +kernel
theorem dX7_in_0 : decode cX7_in 0 = .ok (.iload_n 0, 1) := by decide +kernel
theorem dX7_in_1 : decode cX7_in 1 = .ok (.iload_n 1, 1) := by decide +kernel
theorem dX7_in_2 : decode cX7_in 2 = .ok (.if_icmp .lt 12, 3) := by decide +kernel
theorem dX7_in_5 : decode cX7_in 5 = .ok (.iload_n 0, 1) := by decide +kernel
theorem dX7_in_6 : decode cX7_in 6 = .ok (.iload_n 2, 1) := by decide +kernel
theorem dX7_in_7 : decode cX7_in 7 = .ok (.if_icmp .gt 7, 3) := by decide +kernel
theorem dX7_in_10 : decode cX7_in 10 = .ok (.iconst 1, 1) := by decide +kernel
theorem dX7_in_11 : decode cX7_in 11 = .ok (.goto 4, 3) := by decide +kernel
theorem dX7_in_14 : decode cX7_in 14 = .ok (.iconst 0, 1) := by decide +kernel
theorem dX7_in_15 : decode cX7_in 15 = .ok (.ireturn, 1) := by decide +kernel
set_option maxRecDepth 20000 in
theorem ggX7_isBend_X7_in : GoodIn wsX7_isBend wsX7_in := goodIn_r _ [5] (by decide +kernel) (by decide +kernel)
set_option maxRecDepth 20000 in
theorem gX7_isBend_X7_in : GoodIn wsX7_isBend (va_wsS RX7 37 yX7_in wsX7_in) := goodIn_app (goodIn_of _ (by decide +kernel)) ggX7_isBend_X7_in
theorem dX7_isBend_0 : decode cX7_isBend 0 = .ok (.iload_n 1, 1) := by decide +kernel
theorem dX7_isBend_1 : decode cX7_isBend 1 = .ok (.iconst 0, 1) := by decide +kernel
theorem dX7_isBend_2 : decode cX7_isBend 2 = .ok (.aload_n 0, 1) := by decide +kernel
theorem dX7_isBend_3 : decode cX7_isBend 3 = .ok (.getfield 7, 3) := by decide +kernel
theorem dX7_isBend_6 : decode cX7_isBend 6 = .ok (.iconst 0, 1) := by decide +kernel
theorem dX7_isBend_7 : decode cX7_isBend 7 = .ok (.iaload, 1) := by decide +kernel
theorem dX7_isBend_8 : decode cX7_isBend 8 = .ok (.iconst 1, 1) := by decide +kernel
theorem dX7_isBend_9 : decode cX7_isBend 9 = .ok (.isub, 1) := by decide +kernel
theorem dX7_isBend_10 : decode cX7_isBend 10 = .ok (.invokestatic 37, 3) := by decide +kernel
theorem dX7_isBend_13 : decode cX7_isBend 13 = .ok (.ireturn, 1) := by decide +kernel
set_option maxRecDepth 20000 in
theorem ggX7_isFlange_X7_in : GoodIn wsX7_isFlange wsX7_in := goodIn_r _ [5] (by decide +kernel) (by decide +kernel)
set_option maxRecDepth 20000 in
theorem gX7_isFlange_X7_in : GoodIn wsX7_isFlange (va_wsS RX7 37 yX7_in wsX7_in) := goodIn_app (goodIn_of _ (by decide +kernel)) ggX7_isFlange_X7_in
theorem dX7_isFlange_0 : decode cX7_isFlange 0 = .ok (.iload_n 1, 1) := by decide +kernel
theorem dX7_isFlange_1 : decode cX7_isFlange 1 = .ok (.iconst 0, 1) := by decide +kernel
theorem dX7_isFlange_2 : decode cX7_isFlange 2 = .ok (.aload_n 0, 1) := by decide +kernel
theorem dX7_isFlange_3 : decode cX7_isFlange 3 = .ok (.getfield 7, 3) := by decide +kernel
theorem dX7_isFlange_6 : decode cX7_isFlange 6 = .ok (.iconst 0, 1) := by decide +kernel
theorem dX7_isFlange_7 : decode cX7_isFlange 7 = .ok (.iaload, 1) := by decide +kernel
theorem dX7_isFlange_8 : decode cX7_isFlange 8 = .ok (.invokestatic 37, 3) := by decide +kernel
theorem dX7_isFlange_11 : decode cX7_isFlange 11 = .ok (.ireturn, 1) := by decide +kernel
theorem dX7_has_0 : decode cX7_has 0 = .ok (.iload_n 0, 1) := by decide +kernel
theorem dX7_has_1 : decode cX7_has 1 = .ok (.iload_n 1, 1) := by decide +kernel
theorem dX7_has_2 : decode cX7_has 2 = .ok (.ishr, 1) := by decide +kernel
theorem dX7_has_3 : decode cX7_has 3 = .ok (.iconst 1, 1) := by decide +kernel
theorem dX7_has_4 : decode cX7_has 4 = .ok (.iand, 1) := by decide +kernel
theorem dX7_has_5 : decode cX7_has 5 = .ok (.iconst 1, 1) := by decide +kernel
theorem dX7_has_6 : decode cX7_has 6 = .ok (.if_icmp .ne 7, 3) := by decide +kernel
theorem dX7_has_9 : decode cX7_has 9 = .ok (.iconst 1, 1) := by decide +kernel
theorem dX7_has_10 : decode cX7_has 10 = .ok (.goto 4, 3) := by decide +kernel
theorem dX7_has_13 : decode cX7_has 13 = .ok (.iconst 0, 1) := by decide +kernel
theorem dX7_has_14 : decode cX7_has 14 = .ok (.ireturn, 1) := by decide +kernel
theorem dX7_many_0 : decode cX7_many 0 = .ok (.iconst 0, 1) := by decide +kernel
theorem dX7_many_1 : decode cX7_many 1 = .ok (.istore_n 1, 1) := by decide +kernel
theorem dX7_many_2 : decode cX7_many 2 = .ok (.iconst 0, 1) := by decide +kernel
theorem dX7_many_3 : decode cX7_many 3 = .ok (.istore_n 2, 1) := by decide +kernel
theorem dX7_many_4 : decode cX7_many 4 = .ok (.iload_n 2, 1) := by decide +kernel
theorem dX7_many_5 : decode cX7_many 5 = .ok (.bipush 7, 2) := by decide +kernel
theorem dX7_many_7 : decode cX7_many 7 = .ok (.if_icmp .ge 17, 3) := by decide +kernel
theorem dX7_many_10 : decode cX7_many 10 = .ok (.iload_n 1, 1) := by decide +kernel
theorem dX7_many_11 : decode cX7_many 11 = .ok (.iload_n 0, 1) := by decide +kernel
theorem dX7_many_12 : decode cX7_many 12 = .ok (.iload_n 2, 1) := by decide +kernel
theorem dX7_many_13 : decode cX7_many 13 = .ok (.ishr, 1) := by decide +kernel
theorem dX7_many_14 : decode cX7_many 14 = .ok (.iconst 1, 1) := by decide +kernel
theorem dX7_many_15 : decode cX7_many 15 = .ok (.iand, 1) := by decide +kernel
theorem dX7_many_16 : decode cX7_many 16 = .ok (.iadd, 1) := by decide +kernel
theorem dX7_many_17 : decode cX7_many 17 = .ok (.istore_n 1, 1) := by decide +kernel
theorem dX7_many_18 : decode cX7_many 18 = .ok (.iinc 2 1, 3) := by decide +kernel
theorem dX7_many_21 : decode cX7_many 21 = .ok (.goto (-17), 3) := by decide +kernel
theorem dX7_many_24 : decode cX7_many 24 = .ok (.iload_n 1, 1) := by decide +kernel
theorem dX7_many_25 : decode cX7_many 25 = .ok (.ireturn, 1) := by decide +kernel
theorem dX7_know_0 : decode cX7_know 0 = .ok (.aload_n 0, 1) := by decide +kernel
theorem dX7_know_1 : decode cX7_know 1 = .ok (.getfield 41, 3) := by decide +kernel
theorem dX7_know_4 : decode cX7_know 4 = .ok (.iconst 4, 1) := by decide +kernel
theorem dX7_know_5 : decode cX7_know 5 = .ok (.if_icmp .ne 42, 3) := by decide +kernel
theorem dX7_know_8 : decode cX7_know 8 = .ok (.iconst 0, 1) := by decide +kernel
theorem dX7_know_9 : decode cX7_know 9 = .ok (.istore_n 1, 1) := by decide +kernel
theorem dX7_know_10 : decode cX7_know 10 = .ok (.iload_n 1, 1) := by decide +kernel
theorem dX7_know_11 : decode cX7_know 11 = .ok (.bipush 69, 2) := by decide +kernel
theorem dX7_know_13 : decode cX7_know 13 = .ok (.if_icmp .ge 24, 3) := by decide +kernel
theorem dX7_know_16 : decode cX7_know 16 = .ok (.aload_n 0, 1) := by decide +kernel
theorem dX7_know_17 : decode cX7_know 17 = .ok (.getfield 13, 3) := by decide +kernel
theorem dX7_know_20 : decode cX7_know 20 = .ok (.iload_n 1, 1) := by decide +kernel
theorem dX7_know_21 : decode cX7_know 21 = .ok (.aload_n 0, 1) := by decide +kernel
theorem dX7_know_22 : decode cX7_know 22 = .ok (.getfield 13, 3) := by decide +kernel
theorem dX7_know_25 : decode cX7_know 25 = .ok (.bipush 23, 2) := by decide +kernel
theorem dX7_know_27 : decode cX7_know 27 = .ok (.iload_n 1, 1) := by decide +kernel
theorem dX7_know_28 : decode cX7_know 28 = .ok (.iadd, 1) := by decide +kernel
theorem dX7_know_29 : decode cX7_know 29 = .ok (.iaload, 1) := by decide +kernel
theorem dX7_know_30 : decode cX7_know 30 = .ok (.iastore, 1) := by decide +kernel
theorem dX7_know_31 : decode cX7_know 31 = .ok (.iinc 1 1, 3) := by decide +kernel
theorem dX7_know_34 : decode cX7_know 34 = .ok (.goto (-24), 3) := by decide +kernel
theorem dX7_know_37 : decode cX7_know 37 = .ok (.aload_n 0, 1) := by decide +kernel
theorem dX7_know_38 : decode cX7_know 38 = .ok (.dup, 1) := by decide +kernel
theorem dX7_know_39 : decode cX7_know 39 = .ok (.getfield 41, 3) := by decide +kernel
theorem dX7_know_42 : decode cX7_know 42 = .ok (.iconst 1, 1) := by decide +kernel
theorem dX7_know_43 : decode cX7_know 43 = .ok (.isub, 1) := by decide +kernel
theorem dX7_know_44 : decode cX7_know 44 = .ok (.putfield 41, 3) := by decide +kernel
theorem dX7_know_47 : decode cX7_know 47 = .ok (.iconst 0, 1) := by decide +kernel
theorem dX7_know_48 : decode cX7_know 48 = .ok (.istore_n 1, 1) := by decide +kernel
theorem dX7_know_49 : decode cX7_know 49 = .ok (.iload_n 1, 1) := by decide +kernel
theorem dX7_know_50 : decode cX7_know 50 = .ok (.bipush 23, 2) := by decide +kernel
theorem dX7_know_52 : decode cX7_know 52 = .ok (.if_icmp .ge 29, 3) := by decide +kernel
theorem dX7_know_55 : decode cX7_know 55 = .ok (.aload_n 0, 1) := by decide +kernel
theorem dX7_know_56 : decode cX7_know 56 = .ok (.getfield 13, 3) := by decide +kernel
theorem dX7_know_59 : decode cX7_know 59 = .ok (.bipush 23, 2) := by decide +kernel
theorem dX7_know_61 : decode cX7_know 61 = .ok (.aload_n 0, 1) := by decide +kernel
theorem dX7_know_62 : decode cX7_know 62 = .ok (.getfield 41, 3) := by decide +kernel
theorem dX7_know_65 : decode cX7_know 65 = .ok (.imul, 1) := by decide +kernel
theorem dX7_know_66 : decode cX7_know 66 = .ok (.iload_n 1, 1) := by decide +kernel
theorem dX7_know_67 : decode cX7_know 67 = .ok (.iadd, 1) := by decide +kernel
theorem dX7_know_68 : decode cX7_know 68 = .ok (.aload_n 0, 1) := by decide +kernel
theorem dX7_know_69 : decode cX7_know 69 = .ok (.getfield 7, 3) := by decide +kernel
theorem dX7_know_72 : decode cX7_know 72 = .ok (.iload_n 1, 1) := by decide +kernel
theorem dX7_know_73 : decode cX7_know 73 = .ok (.iaload, 1) := by decide +kernel
theorem dX7_know_74 : decode cX7_know 74 = .ok (.iastore, 1) := by decide +kernel
theorem dX7_know_75 : decode cX7_know 75 = .ok (.iinc 1 1, 3) := by decide +kernel
theorem dX7_know_78 : decode cX7_know 78 = .ok (.goto (-29), 3) := by decide +kernel
theorem dX7_know_81 : decode cX7_know 81 = .ok (.aload_n 0, 1) := by decide +kernel
theorem dX7_know_82 : decode cX7_know 82 = .ok (.dup, 1) := by decide +kernel
theorem dX7_know_83 : decode cX7_know 83 = .ok (.getfield 41, 3) := by decide +kernel
theorem dX7_know_86 : decode cX7_know 86 = .ok (.iconst 1, 1) := by decide +kernel
theorem dX7_know_87 : decode cX7_know 87 = .ok (.iadd, 1) := by decide +kernel
theorem dX7_know_88 : decode cX7_know 88 = .ok (.putfield 41, 3) := by decide +kernel
theorem dX7_know_91 : decode cX7_know 91 = .ok (.return_, 1) := by decide +kernel
theorem dX7_isUp_0 : decode cX7_isUp 0 = .ok (.aload_n 0, 1) := by decide +kernel
theorem dX7_isUp_1 : decode cX7_isUp 1 = .ok (.getfield 7, 3) := by decide +kernel
theorem dX7_isUp_4 : decode cX7_isUp 4 = .ok (.bipush 9, 2) := by decide +kernel
theorem dX7_isUp_6 : decode cX7_isUp 6 = .ok (.iload_n 1, 1) := by decide +kernel
theorem dX7_isUp_7 : decode cX7_isUp 7 = .ok (.iadd, 1) := by decide +kernel
theorem dX7_isUp_8 : decode cX7_isUp 8 = .ok (.iaload, 1) := by decide +kernel
theorem dX7_isUp_9 : decode cX7_isUp 9 = .ok (.iload_n 2, 1) := by decide +kernel
theorem dX7_isUp_10 : decode cX7_isUp 10 = .ok (.if_icmp .eq 7, 3) := by decide +kernel
theorem dX7_isUp_13 : decode cX7_isUp 13 = .ok (.iconst 1, 1) := by decide +kernel
theorem dX7_isUp_14 : decode cX7_isUp 14 = .ok (.goto 4, 3) := by decide +kernel
theorem dX7_isUp_17 : decode cX7_isUp 17 = .ok (.iconst 0, 1) := by decide +kernel
theorem dX7_isUp_18 : decode cX7_isUp 18 = .ok (.ireturn, 1) := by decide +kernel
set_option maxRecDepth 20000 in
theorem ggX7_laySide_X7_isFlange : GoodIn wsX7_laySide wsX7_isFlange := goodIn_r _ [10, 1, 11, 12, 9, 13, 21, 22, 23, 24, 25, 26, 27, 28, 29, 30, 31, 32, 33] (by decide +kernel) (by decide +kernel)
set_option maxRecDepth 20000 in
theorem gX7_laySide_X7_isFlange : GoodIn wsX7_laySide (wsV RX7 45 RX7 yX7_isFlange wsX7_isFlange) := goodIn_app (goodIn_of _ (by decide +kernel)) ggX7_laySide_X7_isFlange
set_option maxRecDepth 20000 in
theorem ggX7_laySide_X7_has : GoodIn wsX7_laySide wsX7_has := goodIn_r _ [16] (by decide +kernel) (by decide +kernel)
set_option maxRecDepth 20000 in
theorem gX7_laySide_X7_has : GoodIn wsX7_laySide (va_wsS RX7 49 yX7_has wsX7_has) := goodIn_app (goodIn_of _ (by decide +kernel)) ggX7_laySide_X7_has
set_option maxRecDepth 20000 in
theorem ggX7_laySide_X7_isUp : GoodIn wsX7_laySide wsX7_isUp := goodIn_r _ [20, 1, 21, 22, 23, 24, 25, 26, 27, 28, 29, 30, 31, 32, 33] (by decide +kernel) (by decide +kernel)
set_option maxRecDepth 20000 in
theorem gX7_laySide_X7_isUp : GoodIn wsX7_laySide (wsV RX7 53 RX7 yX7_isUp wsX7_isUp) := goodIn_app (goodIn_of _ (by decide +kernel)) ggX7_laySide_X7_isUp
theorem dX7_laySide_0 : decode cX7_laySide 0 = .ok (.iload_n 2, 1) := by decide +kernel
theorem dX7_laySide_1 : decode cX7_laySide 1 = .ok (.ifCond .eq 7, 3) := by decide +kernel
theorem dX7_laySide_4 : decode cX7_laySide 4 = .ok (.iconst 0, 1) := by decide +kernel
theorem dX7_laySide_5 : decode cX7_laySide 5 = .ok (.goto 4, 3) := by decide +kernel
theorem dX7_laySide_8 : decode cX7_laySide 8 = .ok (.iconst 2, 1) := by decide +kernel
theorem dX7_laySide_9 : decode cX7_laySide 9 = .ok (.istore 5, 2) := by decide +kernel
theorem dX7_laySide_11 : decode cX7_laySide 11 = .ok (.iconst 0, 1) := by decide +kernel
theorem dX7_laySide_12 : decode cX7_laySide 12 = .ok (.istore 6, 2) := by decide +kernel
theorem dX7_laySide_14 : decode cX7_laySide 14 = .ok (.iconst 0, 1) := by decide +kernel
theorem dX7_laySide_15 : decode cX7_laySide 15 = .ok (.istore 7, 2) := by decide +kernel
theorem dX7_laySide_17 : decode cX7_laySide 17 = .ok (.iload_n 2, 1) := by decide +kernel
theorem dX7_laySide_18 : decode cX7_laySide 18 = .ok (.ifCond .eq 7, 3) := by decide +kernel
theorem dX7_laySide_21 : decode cX7_laySide 21 = .ok (.iconst 1, 1) := by decide +kernel
theorem dX7_laySide_22 : decode cX7_laySide 22 = .ok (.goto 4, 3) := by decide +kernel
theorem dX7_laySide_25 : decode cX7_laySide 25 = .ok (.iconst (-1), 1) := by decide +kernel
theorem dX7_laySide_26 : decode cX7_laySide 26 = .ok (.istore 8, 2) := by decide +kernel
theorem dX7_laySide_28 : decode cX7_laySide 28 = .ok (.iload_n 2, 1) := by decide +kernel
theorem dX7_laySide_29 : decode cX7_laySide 29 = .ok (.ifCond .eq 9, 3) := by decide +kernel
theorem dX7_laySide_32 : decode cX7_laySide 32 = .ok (.iload_n 1, 1) := by decide +kernel
theorem dX7_laySide_33 : decode cX7_laySide 33 = .ok (.iconst 1, 1) := by decide +kernel
theorem dX7_laySide_34 : decode cX7_laySide 34 = .ok (.iadd, 1) := by decide +kernel
theorem dX7_laySide_35 : decode cX7_laySide 35 = .ok (.goto 4, 3) := by decide +kernel
theorem dX7_laySide_38 : decode cX7_laySide 38 = .ok (.iload_n 1, 1) := by decide +kernel
theorem dX7_laySide_39 : decode cX7_laySide 39 = .ok (.istore 9, 2) := by decide +kernel
theorem dX7_laySide_41 : decode cX7_laySide 41 = .ok (.aload_n 0, 1) := by decide +kernel
theorem dX7_laySide_42 : decode cX7_laySide 42 = .ok (.iload 9, 2) := by decide +kernel
theorem dX7_laySide_44 : decode cX7_laySide 44 = .ok (.invokevirtual 45, 3) := by decide +kernel
theorem dX7_laySide_47 : decode cX7_laySide 47 = .ok (.ifCond .eq 208, 3) := by decide +kernel
theorem dX7_laySide_50 : decode cX7_laySide 50 = .ok (.iload_n 2, 1) := by decide +kernel
theorem dX7_laySide_51 : decode cX7_laySide 51 = .ok (.ifCond .eq 10, 3) := by decide +kernel
theorem dX7_laySide_54 : decode cX7_laySide 54 = .ok (.iload 9, 2) := by decide +kernel
theorem dX7_laySide_56 : decode cX7_laySide 56 = .ok (.iconst 1, 1) := by decide +kernel
theorem dX7_laySide_57 : decode cX7_laySide 57 = .ok (.isub, 1) := by decide +kernel
theorem dX7_laySide_58 : decode cX7_laySide 58 = .ok (.goto 5, 3) := by decide +kernel
theorem dX7_laySide_61 : decode cX7_laySide 61 = .ok (.iload 9, 2) := by decide +kernel
theorem dX7_laySide_63 : decode cX7_laySide 63 = .ok (.istore 10, 2) := by decide +kernel
theorem dX7_laySide_65 : decode cX7_laySide 65 = .ok (.iload 10, 2) := by decide +kernel
theorem dX7_laySide_67 : decode cX7_laySide 67 = .ok (.iload_n 1, 1) := by decide +kernel
theorem dX7_laySide_68 : decode cX7_laySide 68 = .ok (.if_icmp .eq 36, 3) := by decide +kernel
theorem dX7_laySide_71 : decode cX7_laySide 71 = .ok (.iload_n 3, 1) := by decide +kernel
theorem dX7_laySide_72 : decode cX7_laySide 72 = .ok (.iload 10, 2) := by decide +kernel
theorem dX7_laySide_74 : decode cX7_laySide 74 = .ok (.invokestatic 49, 3) := by decide +kernel
theorem dX7_laySide_77 : decode cX7_laySide 77 = .ok (.ifCond .eq 27, 3) := by decide +kernel
theorem dX7_laySide_80 : decode cX7_laySide 80 = .ok (.iload 5, 2) := by decide +kernel
theorem dX7_laySide_82 : decode cX7_laySide 82 = .ok (.aload_n 0, 1) := by decide +kernel
theorem dX7_laySide_83 : decode cX7_laySide 83 = .ok (.iload 10, 2) := by decide +kernel
theorem dX7_laySide_85 : decode cX7_laySide 85 = .ok (.iload 4, 2) := by decide +kernel
theorem dX7_laySide_87 : decode cX7_laySide 87 = .ok (.invokevirtual 53, 3) := by decide +kernel
theorem dX7_laySide_90 : decode cX7_laySide 90 = .ok (.iload_n 2, 1) := by decide +kernel
theorem dX7_laySide_91 : decode cX7_laySide 91 = .ok (.if_icmp .ne 7, 3) := by decide +kernel
theorem dX7_laySide_94 : decode cX7_laySide 94 = .ok (.iconst 1, 1) := by decide +kernel
theorem dX7_laySide_95 : decode cX7_laySide 95 = .ok (.goto 4, 3) := by decide +kernel
theorem dX7_laySide_98 : decode cX7_laySide 98 = .ok (.iconst 3, 1) := by decide +kernel
theorem dX7_laySide_99 : decode cX7_laySide 99 = .ok (.iadd, 1) := by decide +kernel
theorem dX7_laySide_100 : decode cX7_laySide 100 = .ok (.iconst 4, 1) := by decide +kernel
theorem dX7_laySide_101 : decode cX7_laySide 101 = .ok (.irem, 1) := by decide +kernel
theorem dX7_laySide_102 : decode cX7_laySide 102 = .ok (.istore 5, 2) := by decide +kernel
theorem dX7_laySide_104 : decode cX7_laySide 104 = .ok (.iconst 0, 1) := by decide +kernel
theorem dX7_laySide_105 : decode cX7_laySide 105 = .ok (.istore 11, 2) := by decide +kernel
theorem dX7_laySide_107 : decode cX7_laySide 107 = .ok (.iload 11, 2) := by decide +kernel
theorem dX7_laySide_109 : decode cX7_laySide 109 = .ok (.aload_n 0, 1) := by decide +kernel
theorem dX7_laySide_110 : decode cX7_laySide 110 = .ok (.getfield 7, 3) := by decide +kernel
theorem dX7_laySide_113 : decode cX7_laySide 113 = .ok (.iconst 1, 1) := by decide +kernel
theorem dX7_laySide_114 : decode cX7_laySide 114 = .ok (.iload 9, 2) := by decide +kernel
theorem dX7_laySide_116 : decode cX7_laySide 116 = .ok (.iadd, 1) := by decide +kernel
theorem dX7_laySide_117 : decode cX7_laySide 117 = .ok (.iaload, 1) := by decide +kernel
theorem dX7_laySide_118 : decode cX7_laySide 118 = .ok (.if_icmp .gt 101, 3) := by decide +kernel
theorem dX7_laySide_121 : decode cX7_laySide 121 = .ok (.aload_n 0, 1) := by decide +kernel
theorem dX7_laySide_122 : decode cX7_laySide 122 = .ok (.getfield 22, 3) := by decide +kernel
theorem dX7_laySide_125 : decode cX7_laySide 125 = .ok (.aload_n 0, 1) := by decide +kernel
theorem dX7_laySide_126 : decode cX7_laySide 126 = .ok (.getfield 56, 3) := by decide +kernel
theorem dX7_laySide_129 : decode cX7_laySide 129 = .ok (.iload 6, 2) := by decide +kernel
theorem dX7_laySide_131 : decode cX7_laySide 131 = .ok (.iload 11, 2) := by decide +kernel
theorem dX7_laySide_133 : decode cX7_laySide 133 = .ok (.iload 5, 2) := by decide +kernel
theorem dX7_laySide_135 : decode cX7_laySide 135 = .ok (.ifCond .ne 7, 3) := by decide +kernel
theorem dX7_laySide_138 : decode cX7_laySide 138 = .ok (.iconst 1, 1) := by decide +kernel
theorem dX7_laySide_139 : decode cX7_laySide 139 = .ok (.goto 14, 3) := by decide +kernel
theorem dX7_laySide_142 : decode cX7_laySide 142 = .ok (.iload 5, 2) := by decide +kernel
theorem dX7_laySide_144 : decode cX7_laySide 144 = .ok (.iconst 2, 1) := by decide +kernel
theorem dX7_laySide_145 : decode cX7_laySide 145 = .ok (.if_icmp .ne 7, 3) := by decide +kernel
theorem dX7_laySide_148 : decode cX7_laySide 148 = .ok (.iconst (-1), 1) := by decide +kernel
theorem dX7_laySide_149 : decode cX7_laySide 149 = .ok (.goto 4, 3) := by decide +kernel
theorem dX7_laySide_152 : decode cX7_laySide 152 = .ok (.iconst 0, 1) := by decide +kernel
theorem dX7_laySide_153 : decode cX7_laySide 153 = .ok (.imul, 1) := by decide +kernel
theorem dX7_laySide_154 : decode cX7_laySide 154 = .ok (.iadd, 1) := by decide +kernel
theorem dX7_laySide_155 : decode cX7_laySide 155 = .ok (.iastore, 1) := by decide +kernel
theorem dX7_laySide_156 : decode cX7_laySide 156 = .ok (.aload_n 0, 1) := by decide +kernel
theorem dX7_laySide_157 : decode cX7_laySide 157 = .ok (.getfield 25, 3) := by decide +kernel
theorem dX7_laySide_160 : decode cX7_laySide 160 = .ok (.aload_n 0, 1) := by decide +kernel
theorem dX7_laySide_161 : decode cX7_laySide 161 = .ok (.getfield 56, 3) := by decide +kernel
theorem dX7_laySide_164 : decode cX7_laySide 164 = .ok (.iload 7, 2) := by decide +kernel
theorem dX7_laySide_166 : decode cX7_laySide 166 = .ok (.iload 11, 2) := by decide +kernel
theorem dX7_laySide_168 : decode cX7_laySide 168 = .ok (.iload 5, 2) := by decide +kernel
theorem dX7_laySide_170 : decode cX7_laySide 170 = .ok (.iconst 1, 1) := by decide +kernel
theorem dX7_laySide_171 : decode cX7_laySide 171 = .ok (.if_icmp .ne 7, 3) := by decide +kernel
theorem dX7_laySide_174 : decode cX7_laySide 174 = .ok (.iconst 1, 1) := by decide +kernel
theorem dX7_laySide_175 : decode cX7_laySide 175 = .ok (.goto 14, 3) := by decide +kernel
theorem dX7_laySide_178 : decode cX7_laySide 178 = .ok (.iload 5, 2) := by decide +kernel
theorem dX7_laySide_180 : decode cX7_laySide 180 = .ok (.iconst 3, 1) := by decide +kernel
theorem dX7_laySide_181 : decode cX7_laySide 181 = .ok (.if_icmp .ne 7, 3) := by decide +kernel
theorem dX7_laySide_184 : decode cX7_laySide 184 = .ok (.iconst (-1), 1) := by decide +kernel
theorem dX7_laySide_185 : decode cX7_laySide 185 = .ok (.goto 4, 3) := by decide +kernel
theorem dX7_laySide_188 : decode cX7_laySide 188 = .ok (.iconst 0, 1) := by decide +kernel
theorem dX7_laySide_189 : decode cX7_laySide 189 = .ok (.imul, 1) := by decide +kernel
theorem dX7_laySide_190 : decode cX7_laySide 190 = .ok (.iadd, 1) := by decide +kernel
theorem dX7_laySide_191 : decode cX7_laySide 191 = .ok (.iastore, 1) := by decide +kernel
theorem dX7_laySide_192 : decode cX7_laySide 192 = .ok (.aload_n 0, 1) := by decide +kernel
theorem dX7_laySide_193 : decode cX7_laySide 193 = .ok (.getfield 28, 3) := by decide +kernel
theorem dX7_laySide_196 : decode cX7_laySide 196 = .ok (.aload_n 0, 1) := by decide +kernel
theorem dX7_laySide_197 : decode cX7_laySide 197 = .ok (.getfield 56, 3) := by decide +kernel
theorem dX7_laySide_200 : decode cX7_laySide 200 = .ok (.iload 9, 2) := by decide +kernel
theorem dX7_laySide_202 : decode cX7_laySide 202 = .ok (.iastore, 1) := by decide +kernel
theorem dX7_laySide_203 : decode cX7_laySide 203 = .ok (.aload_n 0, 1) := by decide +kernel
theorem dX7_laySide_204 : decode cX7_laySide 204 = .ok (.dup, 1) := by decide +kernel
theorem dX7_laySide_205 : decode cX7_laySide 205 = .ok (.getfield 56, 3) := by decide +kernel
theorem dX7_laySide_208 : decode cX7_laySide 208 = .ok (.iconst 1, 1) := by decide +kernel
theorem dX7_laySide_209 : decode cX7_laySide 209 = .ok (.iadd, 1) := by decide +kernel
theorem dX7_laySide_210 : decode cX7_laySide 210 = .ok (.putfield 56, 3) := by decide +kernel
theorem dX7_laySide_213 : decode cX7_laySide 213 = .ok (.iinc 11 1, 3) := by decide +kernel
theorem dX7_laySide_216 : decode cX7_laySide 216 = .ok (.goto (-109), 3) := by decide +kernel
theorem dX7_laySide_219 : decode cX7_laySide 219 = .ok (.aload_n 0, 1) := by decide +kernel
theorem dX7_laySide_220 : decode cX7_laySide 220 = .ok (.getfield 22, 3) := by decide +kernel
theorem dX7_laySide_223 : decode cX7_laySide 223 = .ok (.aload_n 0, 1) := by decide +kernel
theorem dX7_laySide_224 : decode cX7_laySide 224 = .ok (.getfield 56, 3) := by decide +kernel
theorem dX7_laySide_227 : decode cX7_laySide 227 = .ok (.iconst 1, 1) := by decide +kernel
theorem dX7_laySide_228 : decode cX7_laySide 228 = .ok (.isub, 1) := by decide +kernel
theorem dX7_laySide_229 : decode cX7_laySide 229 = .ok (.iaload, 1) := by decide +kernel
theorem dX7_laySide_230 : decode cX7_laySide 230 = .ok (.istore 6, 2) := by decide +kernel
theorem dX7_laySide_232 : decode cX7_laySide 232 = .ok (.aload_n 0, 1) := by decide +kernel
theorem dX7_laySide_233 : decode cX7_laySide 233 = .ok (.getfield 25, 3) := by decide +kernel
theorem dX7_laySide_236 : decode cX7_laySide 236 = .ok (.aload_n 0, 1) := by decide +kernel
theorem dX7_laySide_237 : decode cX7_laySide 237 = .ok (.getfield 56, 3) := by decide +kernel
theorem dX7_laySide_240 : decode cX7_laySide 240 = .ok (.iconst 1, 1) := by decide +kernel
theorem dX7_laySide_241 : decode cX7_laySide 241 = .ok (.isub, 1) := by decide +kernel
theorem dX7_laySide_242 : decode cX7_laySide 242 = .ok (.iaload, 1) := by decide +kernel
theorem dX7_laySide_243 : decode cX7_laySide 243 = .ok (.istore 7, 2) := by decide +kernel
theorem dX7_laySide_245 : decode cX7_laySide 245 = .ok (.iload 9, 2) := by decide +kernel
theorem dX7_laySide_247 : decode cX7_laySide 247 = .ok (.iload 8, 2) := by decide +kernel
theorem dX7_laySide_249 : decode cX7_laySide 249 = .ok (.iadd, 1) := by decide +kernel
theorem dX7_laySide_250 : decode cX7_laySide 250 = .ok (.istore 9, 2) := by decide +kernel
theorem dX7_laySide_252 : decode cX7_laySide 252 = .ok (.goto (-211), 3) := by decide +kernel
theorem dX7_laySide_255 : decode cX7_laySide 255 = .ok (.return_, 1) := by decide +kernel
set_option maxRecDepth 20000 in
theorem ggX7_lay_X7_laySide : GoodIn wsX7_lay wsX7_laySide := goodIn_r _ [6, 7, 8, 1, 9, 10, 11, 12, 13, 5, 14, 15, 16, 17, 18, 19, 20, 21, 22, 23, 24, 25, 26, 27, 28, 29, 30, 31, 32, 33, 34, 35, 36, 37] (by decide +kernel) (by decide +kernel)
set_option maxRecDepth 20000 in
theorem gX7_lay_X7_laySide : GoodIn wsX7_lay (wsV RX7 59 RX7 yX7_laySide wsX7_laySide) := goodIn_app (goodIn_of _ (by decide +kernel)) ggX7_lay_X7_laySide
theorem dX7_lay_0 : decode cX7_lay 0 = .ok (.aload_n 0, 1) := by decide +kernel
theorem dX7_lay_1 : decode cX7_lay 1 = .ok (.iconst 0, 1) := by decide +kernel
theorem dX7_lay_2 : decode cX7_lay 2 = .ok (.putfield 56, 3) := by decide +kernel
theorem dX7_lay_5 : decode cX7_lay 5 = .ok (.aload_n 0, 1) := by decide +kernel
theorem dX7_lay_6 : decode cX7_lay 6 = .ok (.iload_n 1, 1) := by decide +kernel
theorem dX7_lay_7 : decode cX7_lay 7 = .ok (.iconst 0, 1) := by decide +kernel
theorem dX7_lay_8 : decode cX7_lay 8 = .ok (.iload_n 2, 1) := by decide +kernel
theorem dX7_lay_9 : decode cX7_lay 9 = .ok (.iload_n 3, 1) := by decide +kernel
theorem dX7_lay_10 : decode cX7_lay 10 = .ok (.invokevirtual 59, 3) := by decide +kernel
theorem dX7_lay_13 : decode cX7_lay 13 = .ok (.aload_n 0, 1) := by decide +kernel
theorem dX7_lay_14 : decode cX7_lay 14 = .ok (.iload_n 1, 1) := by decide +kernel
theorem dX7_lay_15 : decode cX7_lay 15 = .ok (.iconst 1, 1) := by decide +kernel
theorem dX7_lay_16 : decode cX7_lay 16 = .ok (.iload_n 2, 1) := by decide +kernel
theorem dX7_lay_17 : decode cX7_lay 17 = .ok (.iload_n 3, 1) := by decide +kernel
theorem dX7_lay_18 : decode cX7_lay 18 = .ok (.invokevirtual 59, 3) := by decide +kernel
theorem dX7_lay_21 : decode cX7_lay 21 = .ok (.return_, 1) := by decide +kernel
theorem dX7_swing_0 : decode cX7_swing 0 = .ok (.iconst 0, 1) := by decide +kernel
theorem dX7_swing_1 : decode cX7_swing 1 = .ok (.istore_n 2, 1) := by decide +kernel
theorem dX7_swing_2 : decode cX7_swing 2 = .ok (.iload_n 2, 1) := by decide +kernel
theorem dX7_swing_3 : decode cX7_swing 3 = .ok (.aload_n 0, 1) := by decide +kernel
theorem dX7_swing_4 : decode cX7_swing 4 = .ok (.getfield 56, 3) := by decide +kernel
theorem dX7_swing_7 : decode cX7_swing 7 = .ok (.if_icmp .ge 46, 3) := by decide +kernel
theorem dX7_swing_10 : decode cX7_swing 10 = .ok (.aload_n 0, 1) := by decide +kernel
theorem dX7_swing_11 : decode cX7_swing 11 = .ok (.getfield 28, 3) := by decide +kernel
theorem dX7_swing_14 : decode cX7_swing 14 = .ok (.iload_n 2, 1) := by decide +kernel
theorem dX7_swing_15 : decode cX7_swing 15 = .ok (.iaload, 1) := by decide +kernel
theorem dX7_swing_16 : decode cX7_swing 16 = .ok (.iload_n 1, 1) := by decide +kernel
theorem dX7_swing_17 : decode cX7_swing 17 = .ok (.if_icmp .gt 30, 3) := by decide +kernel
theorem dX7_swing_20 : decode cX7_swing 20 = .ok (.aload_n 0, 1) := by decide +kernel
theorem dX7_swing_21 : decode cX7_swing 21 = .ok (.getfield 22, 3) := by decide +kernel
theorem dX7_swing_24 : decode cX7_swing 24 = .ok (.iload_n 2, 1) := by decide +kernel
theorem dX7_swing_25 : decode cX7_swing 25 = .ok (.iaload, 1) := by decide +kernel
theorem dX7_swing_26 : decode cX7_swing 26 = .ok (.istore_n 3, 1) := by decide +kernel
theorem dX7_swing_27 : decode cX7_swing 27 = .ok (.aload_n 0, 1) := by decide +kernel
theorem dX7_swing_28 : decode cX7_swing 28 = .ok (.getfield 22, 3) := by decide +kernel
theorem dX7_swing_31 : decode cX7_swing 31 = .ok (.iload_n 2, 1) := by decide +kernel
theorem dX7_swing_32 : decode cX7_swing 32 = .ok (.aload_n 0, 1) := by decide +kernel
theorem dX7_swing_33 : decode cX7_swing 33 = .ok (.getfield 25, 3) := by decide +kernel
theorem dX7_swing_36 : decode cX7_swing 36 = .ok (.iload_n 2, 1) := by decide +kernel
theorem dX7_swing_37 : decode cX7_swing 37 = .ok (.iaload, 1) := by decide +kernel
theorem dX7_swing_38 : decode cX7_swing 38 = .ok (.iastore, 1) := by decide +kernel
theorem dX7_swing_39 : decode cX7_swing 39 = .ok (.aload_n 0, 1) := by decide +kernel
theorem dX7_swing_40 : decode cX7_swing 40 = .ok (.getfield 25, 3) := by decide +kernel
theorem dX7_swing_43 : decode cX7_swing 43 = .ok (.iload_n 2, 1) := by decide +kernel
theorem dX7_swing_44 : decode cX7_swing 44 = .ok (.iload_n 3, 1) := by decide +kernel
theorem dX7_swing_45 : decode cX7_swing 45 = .ok (.ineg, 1) := by decide +kernel
theorem dX7_swing_46 : decode cX7_swing 46 = .ok (.iastore, 1) := by decide +kernel
theorem dX7_swing_47 : decode cX7_swing 47 = .ok (.iinc 2 1, 3) := by decide +kernel
theorem dX7_swing_50 : decode cX7_swing 50 = .ok (.goto (-48), 3) := by decide +kernel
theorem dX7_swing_53 : decode cX7_swing 53 = .ok (.return_, 1) := by decide +kernel
set_option maxRecDepth 20000 in
theorem ggX7_strike_X7_in : GoodIn wsX7_strike wsX7_in := goodIn_r _ [9] (by decide +kernel) (by decide +kernel)
set_option maxRecDepth 20000 in
theorem gX7_strike_X7_in : GoodIn wsX7_strike (va_wsS RX7 37 yX7_in wsX7_in) := goodIn_app (goodIn_of _ (by decide +kernel)) ggX7_strike_X7_in
theorem dX7_strike_0 : decode cX7_strike 0 = .ok (.iconst 0, 1) := by decide +kernel
theorem dX7_strike_1 : decode cX7_strike 1 = .ok (.istore_n 2, 1) := by decide +kernel
theorem dX7_strike_2 : decode cX7_strike 2 = .ok (.iconst 0, 1) := by decide +kernel
theorem dX7_strike_3 : decode cX7_strike 3 = .ok (.istore_n 3, 1) := by decide +kernel
theorem dX7_strike_4 : decode cX7_strike 4 = .ok (.iload_n 3, 1) := by decide +kernel
theorem dX7_strike_5 : decode cX7_strike 5 = .ok (.aload_n 0, 1) := by decide +kernel
theorem dX7_strike_6 : decode cX7_strike 6 = .ok (.getfield 56, 3) := by decide +kernel
theorem dX7_strike_9 : decode cX7_strike 9 = .ok (.if_icmp .ge 133, 3) := by decide +kernel
theorem dX7_strike_12 : decode cX7_strike 12 = .ok (.iload_n 1, 1) := by decide +kernel
theorem dX7_strike_13 : decode cX7_strike 13 = .ok (.ifCond .eq 67, 3) := by decide +kernel
theorem dX7_strike_16 : decode cX7_strike 16 = .ok (.aload_n 0, 1) := by decide +kernel
theorem dX7_strike_17 : decode cX7_strike 17 = .ok (.getfield 25, 3) := by decide +kernel
theorem dX7_strike_20 : decode cX7_strike 20 = .ok (.iload_n 3, 1) := by decide +kernel
theorem dX7_strike_21 : decode cX7_strike 21 = .ok (.iaload, 1) := by decide +kernel
theorem dX7_strike_22 : decode cX7_strike 22 = .ok (.iconst 1, 1) := by decide +kernel
theorem dX7_strike_23 : decode cX7_strike 23 = .ok (.aload_n 0, 1) := by decide +kernel
theorem dX7_strike_24 : decode cX7_strike 24 = .ok (.getfield 7, 3) := by decide +kernel
theorem dX7_strike_27 : decode cX7_strike 27 = .ok (.bipush 18, 2) := by decide +kernel
theorem dX7_strike_29 : decode cX7_strike 29 = .ok (.iaload, 1) := by decide +kernel
theorem dX7_strike_30 : decode cX7_strike 30 = .ok (.invokestatic 37, 3) := by decide +kernel
theorem dX7_strike_33 : decode cX7_strike 33 = .ok (.ifCond .eq 43, 3) := by decide +kernel
theorem dX7_strike_36 : decode cX7_strike 36 = .ok (.aload_n 0, 1) := by decide +kernel
theorem dX7_strike_37 : decode cX7_strike 37 = .ok (.getfield 22, 3) := by decide +kernel
theorem dX7_strike_40 : decode cX7_strike 40 = .ok (.iload_n 3, 1) := by decide +kernel
theorem dX7_strike_41 : decode cX7_strike 41 = .ok (.iaload, 1) := by decide +kernel
theorem dX7_strike_42 : decode cX7_strike 42 = .ok (.iconst 1, 1) := by decide +kernel
theorem dX7_strike_43 : decode cX7_strike 43 = .ok (.aload_n 0, 1) := by decide +kernel
theorem dX7_strike_44 : decode cX7_strike 44 = .ok (.getfield 25, 3) := by decide +kernel
theorem dX7_strike_47 : decode cX7_strike 47 = .ok (.iload_n 3, 1) := by decide +kernel
theorem dX7_strike_48 : decode cX7_strike 48 = .ok (.iaload, 1) := by decide +kernel
theorem dX7_strike_49 : decode cX7_strike 49 = .ok (.iconst 3, 1) := by decide +kernel
theorem dX7_strike_50 : decode cX7_strike 50 = .ok (.if_icmp .ge 7, 3) := by decide +kernel
theorem dX7_strike_53 : decode cX7_strike 53 = .ok (.iconst 1, 1) := by decide +kernel
theorem dX7_strike_54 : decode cX7_strike 54 = .ok (.goto 12, 3) := by decide +kernel
theorem dX7_strike_57 : decode cX7_strike 57 = .ok (.iconst 1, 1) := by decide +kernel
theorem dX7_strike_58 : decode cX7_strike 58 = .ok (.aload_n 0, 1) := by decide +kernel
theorem dX7_strike_59 : decode cX7_strike 59 = .ok (.getfield 7, 3) := by decide +kernel
theorem dX7_strike_62 : decode cX7_strike 62 = .ok (.bipush 19, 2) := by decide +kernel
theorem dX7_strike_64 : decode cX7_strike 64 = .ok (.iaload, 1) := by decide +kernel
theorem dX7_strike_65 : decode cX7_strike 65 = .ok (.iadd, 1) := by decide +kernel
theorem dX7_strike_66 : decode cX7_strike 66 = .ok (.invokestatic 37, 3) := by decide +kernel
theorem dX7_strike_69 : decode cX7_strike 69 = .ok (.ifCond .eq 7, 3) := by decide +kernel
theorem dX7_strike_72 : decode cX7_strike 72 = .ok (.iconst 1, 1) := by decide +kernel
theorem dX7_strike_73 : decode cX7_strike 73 = .ok (.goto 41, 3) := by decide +kernel
theorem dX7_strike_76 : decode cX7_strike 76 = .ok (.iconst 0, 1) := by decide +kernel
theorem dX7_strike_77 : decode cX7_strike 77 = .ok (.goto 37, 3) := by decide +kernel
theorem dX7_strike_80 : decode cX7_strike 80 = .ok (.aload_n 0, 1) := by decide +kernel
theorem dX7_strike_81 : decode cX7_strike 81 = .ok (.getfield 25, 3) := by decide +kernel
theorem dX7_strike_84 : decode cX7_strike 84 = .ok (.iload_n 3, 1) := by decide +kernel
theorem dX7_strike_85 : decode cX7_strike 85 = .ok (.iaload, 1) := by decide +kernel
theorem dX7_strike_86 : decode cX7_strike 86 = .ok (.bipush (-3), 2) := by decide +kernel
theorem dX7_strike_88 : decode cX7_strike 88 = .ok (.iconst (-1), 1) := by decide +kernel
theorem dX7_strike_89 : decode cX7_strike 89 = .ok (.invokestatic 37, 3) := by decide +kernel
theorem dX7_strike_92 : decode cX7_strike 92 = .ok (.ifCond .eq 21, 3) := by decide +kernel
theorem dX7_strike_95 : decode cX7_strike 95 = .ok (.aload_n 0, 1) := by decide +kernel
theorem dX7_strike_96 : decode cX7_strike 96 = .ok (.getfield 22, 3) := by decide +kernel
theorem dX7_strike_99 : decode cX7_strike 99 = .ok (.iload_n 3, 1) := by decide +kernel
theorem dX7_strike_100 : decode cX7_strike 100 = .ok (.iaload, 1) := by decide +kernel
theorem dX7_strike_101 : decode cX7_strike 101 = .ok (.iconst 1, 1) := by decide +kernel
theorem dX7_strike_102 : decode cX7_strike 102 = .ok (.iconst 3, 1) := by decide +kernel
theorem dX7_strike_103 : decode cX7_strike 103 = .ok (.invokestatic 37, 3) := by decide +kernel
theorem dX7_strike_106 : decode cX7_strike 106 = .ok (.ifCond .eq 7, 3) := by decide +kernel
theorem dX7_strike_109 : decode cX7_strike 109 = .ok (.iconst 1, 1) := by decide +kernel
theorem dX7_strike_110 : decode cX7_strike 110 = .ok (.goto 4, 3) := by decide +kernel
theorem dX7_strike_113 : decode cX7_strike 113 = .ok (.iconst 0, 1) := by decide +kernel
theorem dX7_strike_114 : decode cX7_strike 114 = .ok (.istore 4, 2) := by decide +kernel
theorem dX7_strike_116 : decode cX7_strike 116 = .ok (.iload_n 2, 1) := by decide +kernel
theorem dX7_strike_117 : decode cX7_strike 117 = .ok (.iload 4, 2) := by decide +kernel
theorem dX7_strike_119 : decode cX7_strike 119 = .ok (.ifCond .eq 14, 3) := by decide +kernel
theorem dX7_strike_122 : decode cX7_strike 122 = .ok (.iconst 1, 1) := by decide +kernel
theorem dX7_strike_123 : decode cX7_strike 123 = .ok (.aload_n 0, 1) := by decide +kernel
theorem dX7_strike_124 : decode cX7_strike 124 = .ok (.getfield 28, 3) := by decide +kernel
theorem dX7_strike_127 : decode cX7_strike 127 = .ok (.iload_n 3, 1) := by decide +kernel
theorem dX7_strike_128 : decode cX7_strike 128 = .ok (.iaload, 1) := by decide +kernel
theorem dX7_strike_129 : decode cX7_strike 129 = .ok (.ishl, 1) := by decide +kernel
theorem dX7_strike_130 : decode cX7_strike 130 = .ok (.goto 4, 3) := by decide +kernel
theorem dX7_strike_133 : decode cX7_strike 133 = .ok (.iconst 0, 1) := by decide +kernel
theorem dX7_strike_134 : decode cX7_strike 134 = .ok (.ior, 1) := by decide +kernel
theorem dX7_strike_135 : decode cX7_strike 135 = .ok (.istore_n 2, 1) := by decide +kernel
theorem dX7_strike_136 : decode cX7_strike 136 = .ok (.iinc 3 1, 3) := by decide +kernel
theorem dX7_strike_139 : decode cX7_strike 139 = .ok (.goto (-135), 3) := by decide +kernel
theorem dX7_strike_142 : decode cX7_strike 142 = .ok (.iload_n 2, 1) := by decide +kernel
theorem dX7_strike_143 : decode cX7_strike 143 = .ok (.ireturn, 1) := by decide +kernel
theorem dX7_strikesItself_0 : decode cX7_strikesItself 0 = .ok (.iconst 0, 1) := by decide +kernel
theorem dX7_strikesItself_1 : decode cX7_strikesItself 1 = .ok (.istore_n 1, 1) := by decide +kernel
theorem dX7_strikesItself_2 : decode cX7_strikesItself 2 = .ok (.iconst 0, 1) := by decide +kernel
theorem dX7_strikesItself_3 : decode cX7_strikesItself 3 = .ok (.istore_n 2, 1) := by decide +kernel
theorem dX7_strikesItself_4 : decode cX7_strikesItself 4 = .ok (.iload_n 2, 1) := by decide +kernel
theorem dX7_strikesItself_5 : decode cX7_strikesItself 5 = .ok (.aload_n 0, 1) := by decide +kernel
theorem dX7_strikesItself_6 : decode cX7_strikesItself 6 = .ok (.getfield 56, 3) := by decide +kernel
theorem dX7_strikesItself_9 : decode cX7_strikesItself 9 = .ok (.if_icmp .ge 82, 3) := by decide +kernel
theorem dX7_strikesItself_12 : decode cX7_strikesItself 12 = .ok (.iconst 0, 1) := by decide +kernel
theorem dX7_strikesItself_13 : decode cX7_strikesItself 13 = .ok (.istore_n 3, 1) := by decide +kernel
theorem dX7_strikesItself_14 : decode cX7_strikesItself 14 = .ok (.iload_n 3, 1) := by decide +kernel
theorem dX7_strikesItself_15 : decode cX7_strikesItself 15 = .ok (.aload_n 0, 1) := by decide +kernel
theorem dX7_strikesItself_16 : decode cX7_strikesItself 16 = .ok (.getfield 56, 3) := by decide +kernel
theorem dX7_strikesItself_19 : decode cX7_strikesItself 19 = .ok (.if_icmp .ge 66, 3) := by decide +kernel
theorem dX7_strikesItself_22 : decode cX7_strikesItself 22 = .ok (.iload_n 1, 1) := by decide +kernel
theorem dX7_strikesItself_23 : decode cX7_strikesItself 23 = .ok (.ifCond .ne 50, 3) := by decide +kernel
theorem dX7_strikesItself_26 : decode cX7_strikesItself 26 = .ok (.aload_n 0, 1) := by decide +kernel
theorem dX7_strikesItself_27 : decode cX7_strikesItself 27 = .ok (.getfield 28, 3) := by decide +kernel
theorem dX7_strikesItself_30 : decode cX7_strikesItself 30 = .ok (.iload_n 2, 1) := by decide +kernel
theorem dX7_strikesItself_31 : decode cX7_strikesItself 31 = .ok (.iaload, 1) := by decide +kernel
theorem dX7_strikesItself_32 : decode cX7_strikesItself 32 = .ok (.aload_n 0, 1) := by decide +kernel
theorem dX7_strikesItself_33 : decode cX7_strikesItself 33 = .ok (.getfield 28, 3) := by decide +kernel
theorem dX7_strikesItself_36 : decode cX7_strikesItself 36 = .ok (.iload_n 3, 1) := by decide +kernel
theorem dX7_strikesItself_37 : decode cX7_strikesItself 37 = .ok (.iaload, 1) := by decide +kernel
theorem dX7_strikesItself_38 : decode cX7_strikesItself 38 = .ok (.iconst 1, 1) := by decide +kernel
theorem dX7_strikesItself_39 : decode cX7_strikesItself 39 = .ok (.iadd, 1) := by decide +kernel
theorem dX7_strikesItself_40 : decode cX7_strikesItself 40 = .ok (.if_icmp .le 37, 3) := by decide +kernel
theorem dX7_strikesItself_43 : decode cX7_strikesItself 43 = .ok (.aload_n 0, 1) := by decide +kernel
theorem dX7_strikesItself_44 : decode cX7_strikesItself 44 = .ok (.getfield 22, 3) := by decide +kernel
theorem dX7_strikesItself_47 : decode cX7_strikesItself 47 = .ok (.iload_n 2, 1) := by decide +kernel
theorem dX7_strikesItself_48 : decode cX7_strikesItself 48 = .ok (.iaload, 1) := by decide +kernel
theorem dX7_strikesItself_49 : decode cX7_strikesItself 49 = .ok (.aload_n 0, 1) := by decide +kernel
theorem dX7_strikesItself_50 : decode cX7_strikesItself 50 = .ok (.getfield 22, 3) := by decide +kernel
theorem dX7_strikesItself_53 : decode cX7_strikesItself 53 = .ok (.iload_n 3, 1) := by decide +kernel
theorem dX7_strikesItself_54 : decode cX7_strikesItself 54 = .ok (.iaload, 1) := by decide +kernel
theorem dX7_strikesItself_55 : decode cX7_strikesItself 55 = .ok (.if_icmp .ne 22, 3) := by decide +kernel
theorem dX7_strikesItself_58 : decode cX7_strikesItself 58 = .ok (.aload_n 0, 1) := by decide +kernel
theorem dX7_strikesItself_59 : decode cX7_strikesItself 59 = .ok (.getfield 25, 3) := by decide +kernel
theorem dX7_strikesItself_62 : decode cX7_strikesItself 62 = .ok (.iload_n 2, 1) := by decide +kernel
theorem dX7_strikesItself_63 : decode cX7_strikesItself 63 = .ok (.iaload, 1) := by decide +kernel
theorem dX7_strikesItself_64 : decode cX7_strikesItself 64 = .ok (.aload_n 0, 1) := by decide +kernel
theorem dX7_strikesItself_65 : decode cX7_strikesItself 65 = .ok (.getfield 25, 3) := by decide +kernel
theorem dX7_strikesItself_68 : decode cX7_strikesItself 68 = .ok (.iload_n 3, 1) := by decide +kernel
theorem dX7_strikesItself_69 : decode cX7_strikesItself 69 = .ok (.iaload, 1) := by decide +kernel
theorem dX7_strikesItself_70 : decode cX7_strikesItself 70 = .ok (.if_icmp .ne 7, 3) := by decide +kernel
theorem dX7_strikesItself_73 : decode cX7_strikesItself 73 = .ok (.iconst 1, 1) := by decide +kernel
theorem dX7_strikesItself_74 : decode cX7_strikesItself 74 = .ok (.goto 4, 3) := by decide +kernel
theorem dX7_strikesItself_77 : decode cX7_strikesItself 77 = .ok (.iconst 0, 1) := by decide +kernel
theorem dX7_strikesItself_78 : decode cX7_strikesItself 78 = .ok (.istore_n 1, 1) := by decide +kernel
theorem dX7_strikesItself_79 : decode cX7_strikesItself 79 = .ok (.iinc 3 1, 3) := by decide +kernel
theorem dX7_strikesItself_82 : decode cX7_strikesItself 82 = .ok (.goto (-68), 3) := by decide +kernel
theorem dX7_strikesItself_85 : decode cX7_strikesItself 85 = .ok (.iinc 2 1, 3) := by decide +kernel
theorem dX7_strikesItself_88 : decode cX7_strikesItself 88 = .ok (.goto (-84), 3) := by decide +kernel
theorem dX7_strikesItself_91 : decode cX7_strikesItself 91 = .ok (.iload_n 1, 1) := by decide +kernel
theorem dX7_strikesItself_92 : decode cX7_strikesItself 92 = .ok (.ireturn, 1) := by decide +kernel
set_option maxRecDepth 20000 in
theorem ggX7_clamped_X7_isFlange : GoodIn wsX7_clamped wsX7_isFlange := goodIn_r _ [6, 1, 7, 8, 5, 9, 13, 14, 15, 16, 17, 18, 19, 20, 21, 22, 23, 24, 25] (by decide +kernel) (by decide +kernel)
set_option maxRecDepth 20000 in
theorem gX7_clamped_X7_isFlange : GoodIn wsX7_clamped (wsV RX7 45 RX7 yX7_isFlange wsX7_isFlange) := goodIn_app (goodIn_of _ (by decide +kernel)) ggX7_clamped_X7_isFlange
set_option maxRecDepth 20000 in
theorem ggX7_clamped_X7_has : GoodIn wsX7_clamped wsX7_has := goodIn_r _ [12] (by decide +kernel) (by decide +kernel)
set_option maxRecDepth 20000 in
theorem gX7_clamped_X7_has : GoodIn wsX7_clamped (va_wsS RX7 49 yX7_has wsX7_has) := goodIn_app (goodIn_of _ (by decide +kernel)) ggX7_clamped_X7_has
theorem dX7_clamped_0 : decode cX7_clamped 0 = .ok (.aload_n 0, 1) := by decide +kernel
theorem dX7_clamped_1 : decode cX7_clamped 1 = .ok (.getfield 7, 3) := by decide +kernel
theorem dX7_clamped_4 : decode cX7_clamped 4 = .ok (.iconst 1, 1) := by decide +kernel
theorem dX7_clamped_5 : decode cX7_clamped 5 = .ok (.iload_n 1, 1) := by decide +kernel
theorem dX7_clamped_6 : decode cX7_clamped 6 = .ok (.iadd, 1) := by decide +kernel
theorem dX7_clamped_7 : decode cX7_clamped 7 = .ok (.iconst 1, 1) := by decide +kernel
theorem dX7_clamped_8 : decode cX7_clamped 8 = .ok (.iadd, 1) := by decide +kernel
theorem dX7_clamped_9 : decode cX7_clamped 9 = .ok (.iaload, 1) := by decide +kernel
theorem dX7_clamped_10 : decode cX7_clamped 10 = .ok (.istore_n 3, 1) := by decide +kernel
theorem dX7_clamped_11 : decode cX7_clamped 11 = .ok (.iload_n 1, 1) := by decide +kernel
theorem dX7_clamped_12 : decode cX7_clamped 12 = .ok (.iconst 2, 1) := by decide +kernel
theorem dX7_clamped_13 : decode cX7_clamped 13 = .ok (.iadd, 1) := by decide +kernel
theorem dX7_clamped_14 : decode cX7_clamped 14 = .ok (.istore 4, 2) := by decide +kernel
theorem dX7_clamped_16 : decode cX7_clamped 16 = .ok (.aload_n 0, 1) := by decide +kernel
theorem dX7_clamped_17 : decode cX7_clamped 17 = .ok (.iload 4, 2) := by decide +kernel
theorem dX7_clamped_19 : decode cX7_clamped 19 = .ok (.invokevirtual 45, 3) := by decide +kernel
theorem dX7_clamped_22 : decode cX7_clamped 22 = .ok (.ifCond .eq 32, 3) := by decide +kernel
theorem dX7_clamped_25 : decode cX7_clamped 25 = .ok (.iload_n 2, 1) := by decide +kernel
theorem dX7_clamped_26 : decode cX7_clamped 26 = .ok (.iload 4, 2) := by decide +kernel
theorem dX7_clamped_28 : decode cX7_clamped 28 = .ok (.iconst 1, 1) := by decide +kernel
theorem dX7_clamped_29 : decode cX7_clamped 29 = .ok (.isub, 1) := by decide +kernel
theorem dX7_clamped_30 : decode cX7_clamped 30 = .ok (.invokestatic 49, 3) := by decide +kernel
theorem dX7_clamped_33 : decode cX7_clamped 33 = .ok (.ifCond .ne 21, 3) := by decide +kernel
theorem dX7_clamped_36 : decode cX7_clamped 36 = .ok (.iload_n 3, 1) := by decide +kernel
theorem dX7_clamped_37 : decode cX7_clamped 37 = .ok (.aload_n 0, 1) := by decide +kernel
theorem dX7_clamped_38 : decode cX7_clamped 38 = .ok (.getfield 7, 3) := by decide +kernel
theorem dX7_clamped_41 : decode cX7_clamped 41 = .ok (.iconst 1, 1) := by decide +kernel
theorem dX7_clamped_42 : decode cX7_clamped 42 = .ok (.iload 4, 2) := by decide +kernel
theorem dX7_clamped_44 : decode cX7_clamped 44 = .ok (.iadd, 1) := by decide +kernel
theorem dX7_clamped_45 : decode cX7_clamped 45 = .ok (.iaload, 1) := by decide +kernel
theorem dX7_clamped_46 : decode cX7_clamped 46 = .ok (.iadd, 1) := by decide +kernel
theorem dX7_clamped_47 : decode cX7_clamped 47 = .ok (.istore_n 3, 1) := by decide +kernel
theorem dX7_clamped_48 : decode cX7_clamped 48 = .ok (.iinc 4 1, 3) := by decide +kernel
theorem dX7_clamped_51 : decode cX7_clamped 51 = .ok (.goto (-35), 3) := by decide +kernel
theorem dX7_clamped_54 : decode cX7_clamped 54 = .ok (.iload_n 3, 1) := by decide +kernel
theorem dX7_clamped_55 : decode cX7_clamped 55 = .ok (.ireturn, 1) := by decide +kernel
set_option maxRecDepth 20000 in
theorem ggX7_reason_X7_has : GoodIn wsX7_reason wsX7_has := goodIn_r _ [5] (by decide +kernel) (by decide +kernel)
set_option maxRecDepth 20000 in
theorem gX7_reason_X7_has : GoodIn wsX7_reason (va_wsS RX7 49 yX7_has wsX7_has) := goodIn_app (goodIn_of _ (by decide +kernel)) ggX7_reason_X7_has
set_option maxRecDepth 20000 in
theorem ggX7_reason_X7_isUp : GoodIn wsX7_reason wsX7_isUp := goodIn_r _ [9, 1, 45, 46, 47, 48, 49, 50, 51, 52, 53, 54, 55, 56, 57] (by decide +kernel) (by decide +kernel)
set_option maxRecDepth 20000 in
theorem gX7_reason_X7_isUp : GoodIn wsX7_reason (wsV RX7 53 RX7 yX7_isUp wsX7_isUp) := goodIn_app (goodIn_of _ (by decide +kernel)) ggX7_reason_X7_isUp
set_option maxRecDepth 20000 in
theorem ggX7_reason_X7_clamped : GoodIn wsX7_reason wsX7_clamped := goodIn_r _ [13, 1, 14, 15, 16, 4, 17, 18, 19, 20, 2, 3, 5, 45, 46, 47, 48, 49, 50, 51, 52, 53, 54, 55, 56, 57] (by decide +kernel) (by decide +kernel)
set_option maxRecDepth 20000 in
theorem gX7_reason_X7_clamped : GoodIn wsX7_reason (wsV RX7 63 RX7 yX7_clamped wsX7_clamped) := goodIn_app (goodIn_of _ (by decide +kernel)) ggX7_reason_X7_clamped
set_option maxRecDepth 20000 in
theorem ggX7_reason_X7_lay : GoodIn wsX7_reason wsX7_lay := goodIn_r _ [24, 25, 26, 27, 28, 4, 29, 1, 30, 31, 32, 14, 15, 16, 17, 18, 19, 20, 2, 3, 5, 6, 7, 8, 9, 45, 46, 47, 48, 49, 50, 51, 52, 53, 54, 55, 56, 57] (by decide +kernel) (by decide +kernel)
set_option maxRecDepth 20000 in
theorem gX7_reason_X7_lay : GoodIn wsX7_reason (wsV RX7 67 RX7 yX7_lay wsX7_lay) := goodIn_app (goodIn_of _ (by decide +kernel)) ggX7_reason_X7_lay
set_option maxRecDepth 20000 in
theorem ggX7_reason_X7_strike : GoodIn wsX7_reason wsX7_strike := goodIn_r _ [36, 25, 31, 1, 30, 32, 18, 19, 4, 20, 45, 46, 47, 48, 49, 50, 51, 52, 53, 54, 55, 56, 57] (by decide +kernel) (by decide +kernel)
set_option maxRecDepth 20000 in
theorem gX7_reason_X7_strike : GoodIn wsX7_reason (wsV RX7 71 RX7 yX7_strike wsX7_strike) := goodIn_app (goodIn_of _ (by decide +kernel)) ggX7_reason_X7_strike
set_option maxRecDepth 20000 in
theorem ggX7_reason_X7_swing : GoodIn wsX7_reason wsX7_swing := goodIn_r _ [40, 25, 32, 30, 31, 45, 46, 47, 48, 49, 50, 51, 52, 53, 54, 55, 56, 57] (by decide +kernel) (by decide +kernel)
set_option maxRecDepth 20000 in
theorem gX7_reason_X7_swing : GoodIn wsX7_reason (wsV RX7 75 RX7 yX7_swing wsX7_swing) := goodIn_app (goodIn_of _ (by decide +kernel)) ggX7_reason_X7_swing
set_option maxRecDepth 20000 in
theorem ggX7_reason_X7_strikesItself : GoodIn wsX7_reason wsX7_strikesItself := goodIn_r _ [44, 25, 32, 30, 31, 45, 46, 47, 48, 49, 50, 51, 52, 53, 54, 55, 56, 57] (by decide +kernel) (by decide +kernel)
set_option maxRecDepth 20000 in
theorem gX7_reason_X7_strikesItself : GoodIn wsX7_reason (wsV RX7 79 RX7 yX7_strikesItself wsX7_strikesItself) := goodIn_app (goodIn_of _ (by decide +kernel)) ggX7_reason_X7_strikesItself
theorem dX7_reason_0 : decode cX7_reason 0 = .ok (.iload_n 2, 1) := by decide +kernel
theorem dX7_reason_1 : decode cX7_reason 1 = .ok (.iload_n 1, 1) := by decide +kernel
theorem dX7_reason_2 : decode cX7_reason 2 = .ok (.invokestatic 49, 3) := by decide +kernel
theorem dX7_reason_5 : decode cX7_reason 5 = .ok (.ifCond .eq 5, 3) := by decide +kernel
theorem dX7_reason_8 : decode cX7_reason 8 = .ok (.iconst 1, 1) := by decide +kernel
theorem dX7_reason_9 : decode cX7_reason 9 = .ok (.ireturn, 1) := by decide +kernel
theorem dX7_reason_10 : decode cX7_reason 10 = .ok (.aload_n 0, 1) := by decide +kernel
theorem dX7_reason_11 : decode cX7_reason 11 = .ok (.iload_n 1, 1) := by decide +kernel
theorem dX7_reason_12 : decode cX7_reason 12 = .ok (.iload_n 3, 1) := by decide +kernel
theorem dX7_reason_13 : decode cX7_reason 13 = .ok (.invokevirtual 53, 3) := by decide +kernel
theorem dX7_reason_16 : decode cX7_reason 16 = .ok (.ifCond .ne 5, 3) := by decide +kernel
theorem dX7_reason_19 : decode cX7_reason 19 = .ok (.iconst 2, 1) := by decide +kernel
theorem dX7_reason_20 : decode cX7_reason 20 = .ok (.ireturn, 1) := by decide +kernel
theorem dX7_reason_21 : decode cX7_reason 21 = .ok (.aload_n 0, 1) := by decide +kernel
theorem dX7_reason_22 : decode cX7_reason 22 = .ok (.iload_n 1, 1) := by decide +kernel
theorem dX7_reason_23 : decode cX7_reason 23 = .ok (.iload_n 2, 1) := by decide +kernel
theorem dX7_reason_24 : decode cX7_reason 24 = .ok (.invokevirtual 63, 3) := by decide +kernel
theorem dX7_reason_27 : decode cX7_reason 27 = .ok (.aload_n 0, 1) := by decide +kernel
theorem dX7_reason_28 : decode cX7_reason 28 = .ok (.getfield 7, 3) := by decide +kernel
theorem dX7_reason_31 : decode cX7_reason 31 = .ok (.bipush 20, 2) := by decide +kernel
theorem dX7_reason_33 : decode cX7_reason 33 = .ok (.iaload, 1) := by decide +kernel
theorem dX7_reason_34 : decode cX7_reason 34 = .ok (.if_icmp .ge 5, 3) := by decide +kernel
theorem dX7_reason_37 : decode cX7_reason 37 = .ok (.iconst 3, 1) := by decide +kernel
theorem dX7_reason_38 : decode cX7_reason 38 = .ok (.ireturn, 1) := by decide +kernel
theorem dX7_reason_39 : decode cX7_reason 39 = .ok (.aload_n 0, 1) := by decide +kernel
theorem dX7_reason_40 : decode cX7_reason 40 = .ok (.iload_n 1, 1) := by decide +kernel
theorem dX7_reason_41 : decode cX7_reason 41 = .ok (.iload_n 2, 1) := by decide +kernel
theorem dX7_reason_42 : decode cX7_reason 42 = .ok (.iload_n 3, 1) := by decide +kernel
theorem dX7_reason_43 : decode cX7_reason 43 = .ok (.invokevirtual 67, 3) := by decide +kernel
theorem dX7_reason_46 : decode cX7_reason 46 = .ok (.aload_n 0, 1) := by decide +kernel
theorem dX7_reason_47 : decode cX7_reason 47 = .ok (.iconst 1, 1) := by decide +kernel
theorem dX7_reason_48 : decode cX7_reason 48 = .ok (.invokevirtual 71, 3) := by decide +kernel
theorem dX7_reason_51 : decode cX7_reason 51 = .ok (.istore 4, 2) := by decide +kernel
theorem dX7_reason_53 : decode cX7_reason 53 = .ok (.aload_n 0, 1) := by decide +kernel
theorem dX7_reason_54 : decode cX7_reason 54 = .ok (.iconst 0, 1) := by decide +kernel
theorem dX7_reason_55 : decode cX7_reason 55 = .ok (.invokevirtual 71, 3) := by decide +kernel
theorem dX7_reason_58 : decode cX7_reason 58 = .ok (.istore 5, 2) := by decide +kernel
theorem dX7_reason_60 : decode cX7_reason 60 = .ok (.aload_n 0, 1) := by decide +kernel
theorem dX7_reason_61 : decode cX7_reason 61 = .ok (.iload_n 1, 1) := by decide +kernel
theorem dX7_reason_62 : decode cX7_reason 62 = .ok (.invokevirtual 75, 3) := by decide +kernel
theorem dX7_reason_65 : decode cX7_reason 65 = .ok (.iload 4, 2) := by decide +kernel
theorem dX7_reason_67 : decode cX7_reason 67 = .ok (.aload_n 0, 1) := by decide +kernel
theorem dX7_reason_68 : decode cX7_reason 68 = .ok (.iconst 1, 1) := by decide +kernel
theorem dX7_reason_69 : decode cX7_reason 69 = .ok (.invokevirtual 71, 3) := by decide +kernel
theorem dX7_reason_72 : decode cX7_reason 72 = .ok (.ior, 1) := by decide +kernel
theorem dX7_reason_73 : decode cX7_reason 73 = .ok (.istore 4, 2) := by decide +kernel
theorem dX7_reason_75 : decode cX7_reason 75 = .ok (.iload 5, 2) := by decide +kernel
theorem dX7_reason_77 : decode cX7_reason 77 = .ok (.aload_n 0, 1) := by decide +kernel
theorem dX7_reason_78 : decode cX7_reason 78 = .ok (.iconst 0, 1) := by decide +kernel
theorem dX7_reason_79 : decode cX7_reason 79 = .ok (.invokevirtual 71, 3) := by decide +kernel
theorem dX7_reason_82 : decode cX7_reason 82 = .ok (.ior, 1) := by decide +kernel
theorem dX7_reason_83 : decode cX7_reason 83 = .ok (.istore 5, 2) := by decide +kernel
theorem dX7_reason_85 : decode cX7_reason 85 = .ok (.iload 4, 2) := by decide +kernel
theorem dX7_reason_87 : decode cX7_reason 87 = .ok (.ifCond .eq 7, 3) := by decide +kernel
theorem dX7_reason_90 : decode cX7_reason 90 = .ok (.iconst 4, 1) := by decide +kernel
theorem dX7_reason_91 : decode cX7_reason 91 = .ok (.goto 25, 3) := by decide +kernel
theorem dX7_reason_94 : decode cX7_reason 94 = .ok (.iload 5, 2) := by decide +kernel
theorem dX7_reason_96 : decode cX7_reason 96 = .ok (.ifCond .eq 7, 3) := by decide +kernel
theorem dX7_reason_99 : decode cX7_reason 99 = .ok (.iconst 5, 1) := by decide +kernel
theorem dX7_reason_100 : decode cX7_reason 100 = .ok (.goto 16, 3) := by decide +kernel
theorem dX7_reason_103 : decode cX7_reason 103 = .ok (.aload_n 0, 1) := by decide +kernel
theorem dX7_reason_104 : decode cX7_reason 104 = .ok (.invokevirtual 79, 3) := by decide +kernel
theorem dX7_reason_107 : decode cX7_reason 107 = .ok (.ifCond .eq 8, 3) := by decide +kernel
theorem dX7_reason_110 : decode cX7_reason 110 = .ok (.bipush 6, 2) := by decide +kernel
theorem dX7_reason_112 : decode cX7_reason 112 = .ok (.goto 4, 3) := by decide +kernel
theorem dX7_reason_115 : decode cX7_reason 115 = .ok (.iconst 0, 1) := by decide +kernel
theorem dX7_reason_116 : decode cX7_reason 116 = .ok (.ireturn, 1) := by decide +kernel
theorem dX7_all_0 : decode cX7_all 0 = .ok (.iconst 1, 1) := by decide +kernel
theorem dX7_all_1 : decode cX7_all 1 = .ok (.aload_n 0, 1) := by decide +kernel
theorem dX7_all_2 : decode cX7_all 2 = .ok (.getfield 7, 3) := by decide +kernel
theorem dX7_all_5 : decode cX7_all 5 = .ok (.iconst 0, 1) := by decide +kernel
theorem dX7_all_6 : decode cX7_all 6 = .ok (.iaload, 1) := by decide +kernel
theorem dX7_all_7 : decode cX7_all 7 = .ok (.ishl, 1) := by decide +kernel
theorem dX7_all_8 : decode cX7_all 8 = .ok (.iconst 1, 1) := by decide +kernel
theorem dX7_all_9 : decode cX7_all 9 = .ok (.isub, 1) := by decide +kernel
theorem dX7_all_10 : decode cX7_all 10 = .ok (.ireturn, 1) := by decide +kernel
set_option maxRecDepth 20000 in
theorem ggX7_findNext_X7_all : GoodIn wsX7_findNext wsX7_all := goodIn_r _ [7, 2, 54, 55, 56, 57, 58, 59, 60, 61, 62, 63, 64, 65, 66] (by decide +kernel) (by decide +kernel)
set_option maxRecDepth 20000 in
theorem gX7_findNext_X7_all : GoodIn wsX7_findNext (wsV RX7 83 RX7 yX7_all wsX7_all) := goodIn_app (goodIn_of _ (by decide +kernel)) ggX7_findNext_X7_all
set_option maxRecDepth 20000 in
theorem ggX7_findNext_X7_reason : GoodIn wsX7_findNext wsX7_reason := goodIn_r _ [11, 2, 12, 13, 6, 14, 15, 16, 17, 18, 19, 20, 21, 22, 23, 24, 25, 26, 27, 28, 29, 30, 31, 32, 33, 34, 35, 36, 37, 38, 39, 40, 41, 42, 43, 44, 45, 46, 47, 48, 49, 50, 51, 52, 53, 54, 55, 56, 57, 58, 59, 60, 61, 62, 63, 64, 65, 66] (by decide +kernel) (by decide +kernel)
set_option maxRecDepth 20000 in
theorem gX7_findNext_X7_reason : GoodIn wsX7_findNext (wsV RX7 87 RX7 yX7_reason wsX7_reason) := goodIn_app (goodIn_of _ (by decide +kernel)) ggX7_findNext_X7_reason
theorem dX7_findNext_0 : decode cX7_findNext 0 = .ok (.aload_n 0, 1) := by decide +kernel
theorem dX7_findNext_1 : decode cX7_findNext 1 = .ok (.invokevirtual 83, 3) := by decide +kernel
theorem dX7_findNext_4 : decode cX7_findNext 4 = .ok (.istore_n 1, 1) := by decide +kernel
theorem dX7_findNext_5 : decode cX7_findNext 5 = .ok (.iload_n 1, 1) := by decide +kernel
theorem dX7_findNext_6 : decode cX7_findNext 6 = .ok (.ifCond .lt 89, 3) := by decide +kernel
theorem dX7_findNext_9 : decode cX7_findNext 9 = .ok (.aload_n 0, 1) := by decide +kernel
theorem dX7_findNext_10 : decode cX7_findNext 10 = .ok (.getfield 31, 3) := by decide +kernel
theorem dX7_findNext_13 : decode cX7_findNext 13 = .ok (.iload_n 1, 1) := by decide +kernel
theorem dX7_findNext_14 : decode cX7_findNext 14 = .ok (.iconst 0, 1) := by decide +kernel
theorem dX7_findNext_15 : decode cX7_findNext 15 = .ok (.iastore, 1) := by decide +kernel
theorem dX7_findNext_16 : decode cX7_findNext 16 = .ok (.iconst 0, 1) := by decide +kernel
theorem dX7_findNext_17 : decode cX7_findNext 17 = .ok (.istore_n 2, 1) := by decide +kernel
theorem dX7_findNext_18 : decode cX7_findNext 18 = .ok (.iload_n 2, 1) := by decide +kernel
theorem dX7_findNext_19 : decode cX7_findNext 19 = .ok (.aload_n 0, 1) := by decide +kernel
theorem dX7_findNext_20 : decode cX7_findNext 20 = .ok (.getfield 7, 3) := by decide +kernel
theorem dX7_findNext_23 : decode cX7_findNext 23 = .ok (.iconst 0, 1) := by decide +kernel
theorem dX7_findNext_24 : decode cX7_findNext 24 = .ok (.iaload, 1) := by decide +kernel
theorem dX7_findNext_25 : decode cX7_findNext 25 = .ok (.if_icmp .ge 64, 3) := by decide +kernel
theorem dX7_findNext_28 : decode cX7_findNext 28 = .ok (.iload_n 1, 1) := by decide +kernel
theorem dX7_findNext_29 : decode cX7_findNext 29 = .ok (.aload_n 0, 1) := by decide +kernel
theorem dX7_findNext_30 : decode cX7_findNext 30 = .ok (.getfield 7, 3) := by decide +kernel
theorem dX7_findNext_33 : decode cX7_findNext 33 = .ok (.bipush 16, 2) := by decide +kernel
theorem dX7_findNext_35 : decode cX7_findNext 35 = .ok (.iaload, 1) := by decide +kernel
theorem dX7_findNext_36 : decode cX7_findNext 36 = .ok (.iand, 1) := by decide +kernel
theorem dX7_findNext_37 : decode cX7_findNext 37 = .ok (.aload_n 0, 1) := by decide +kernel
theorem dX7_findNext_38 : decode cX7_findNext 38 = .ok (.getfield 7, 3) := by decide +kernel
theorem dX7_findNext_41 : decode cX7_findNext 41 = .ok (.bipush 16, 2) := by decide +kernel
theorem dX7_findNext_43 : decode cX7_findNext 43 = .ok (.iaload, 1) := by decide +kernel
theorem dX7_findNext_44 : decode cX7_findNext 44 = .ok (.if_icmp .ne 45, 3) := by decide +kernel
theorem dX7_findNext_47 : decode cX7_findNext 47 = .ok (.aload_n 0, 1) := by decide +kernel
theorem dX7_findNext_48 : decode cX7_findNext 48 = .ok (.getfield 31, 3) := by decide +kernel
theorem dX7_findNext_51 : decode cX7_findNext 51 = .ok (.iload_n 1, 1) := by decide +kernel
theorem dX7_findNext_52 : decode cX7_findNext 52 = .ok (.dup2, 1) := by decide +kernel
theorem dX7_findNext_53 : decode cX7_findNext 53 = .ok (.iaload, 1) := by decide +kernel
theorem dX7_findNext_54 : decode cX7_findNext 54 = .ok (.aload_n 0, 1) := by decide +kernel
theorem dX7_findNext_55 : decode cX7_findNext 55 = .ok (.iload_n 2, 1) := by decide +kernel
theorem dX7_findNext_56 : decode cX7_findNext 56 = .ok (.iload_n 1, 1) := by decide +kernel
theorem dX7_findNext_57 : decode cX7_findNext 57 = .ok (.iconst 1, 1) := by decide +kernel
theorem dX7_findNext_58 : decode cX7_findNext 58 = .ok (.aload_n 0, 1) := by decide +kernel
theorem dX7_findNext_59 : decode cX7_findNext 59 = .ok (.getfield 7, 3) := by decide +kernel
theorem dX7_findNext_62 : decode cX7_findNext 62 = .ok (.bipush 9, 2) := by decide +kernel
theorem dX7_findNext_64 : decode cX7_findNext 64 = .ok (.iload_n 2, 1) := by decide +kernel
theorem dX7_findNext_65 : decode cX7_findNext 65 = .ok (.iadd, 1) := by decide +kernel
theorem dX7_findNext_66 : decode cX7_findNext 66 = .ok (.iaload, 1) := by decide +kernel
theorem dX7_findNext_67 : decode cX7_findNext 67 = .ok (.isub, 1) := by decide +kernel
theorem dX7_findNext_68 : decode cX7_findNext 68 = .ok (.invokevirtual 87, 3) := by decide +kernel
theorem dX7_findNext_71 : decode cX7_findNext 71 = .ok (.ifCond .ne 9, 3) := by decide +kernel
theorem dX7_findNext_74 : decode cX7_findNext 74 = .ok (.iconst 1, 1) := by decide +kernel
theorem dX7_findNext_75 : decode cX7_findNext 75 = .ok (.iload_n 2, 1) := by decide +kernel
theorem dX7_findNext_76 : decode cX7_findNext 76 = .ok (.ishl, 1) := by decide +kernel
theorem dX7_findNext_77 : decode cX7_findNext 77 = .ok (.goto 4, 3) := by decide +kernel
theorem dX7_findNext_80 : decode cX7_findNext 80 = .ok (.iconst 0, 1) := by decide +kernel
theorem dX7_findNext_81 : decode cX7_findNext 81 = .ok (.ior, 1) := by decide +kernel
theorem dX7_findNext_82 : decode cX7_findNext 82 = .ok (.iastore, 1) := by decide +kernel
theorem dX7_findNext_83 : decode cX7_findNext 83 = .ok (.iinc 2 1, 3) := by decide +kernel
theorem dX7_findNext_86 : decode cX7_findNext 86 = .ok (.goto (-68), 3) := by decide +kernel
theorem dX7_findNext_89 : decode cX7_findNext 89 = .ok (.iinc 1 (-1), 3) := by decide +kernel
theorem dX7_findNext_92 : decode cX7_findNext 92 = .ok (.goto (-87), 3) := by decide +kernel
theorem dX7_findNext_95 : decode cX7_findNext 95 = .ok (.return_, 1) := by decide +kernel
set_option maxRecDepth 20000 in
theorem ggX7_countOrders_X7_all : GoodIn wsX7_countOrders wsX7_all := goodIn_r _ [8, 2, 12, 13, 14, 15, 16, 17, 18, 19, 20, 21, 22, 23, 24] (by decide +kernel) (by decide +kernel)
set_option maxRecDepth 20000 in
theorem gX7_countOrders_X7_all : GoodIn wsX7_countOrders (wsV RX7 83 RX7 yX7_all wsX7_all) := goodIn_app (goodIn_of _ (by decide +kernel)) ggX7_countOrders_X7_all
set_option maxRecDepth 20000 in
theorem ggX7_countOrders_X7_has : GoodIn wsX7_countOrders wsX7_has := goodIn_r _ [11] (by decide +kernel) (by decide +kernel)
set_option maxRecDepth 20000 in
theorem gX7_countOrders_X7_has : GoodIn wsX7_countOrders (va_wsS RX7 49 yX7_has wsX7_has) := goodIn_app (goodIn_of _ (by decide +kernel)) ggX7_countOrders_X7_has
theorem dX7_countOrders_0 : decode cX7_countOrders 0 = .ok (.aload_n 0, 1) := by decide +kernel
theorem dX7_countOrders_1 : decode cX7_countOrders 1 = .ok (.invokevirtual 83, 3) := by decide +kernel
theorem dX7_countOrders_4 : decode cX7_countOrders 4 = .ok (.istore_n 3, 1) := by decide +kernel
theorem dX7_countOrders_5 : decode cX7_countOrders 5 = .ok (.iload_n 3, 1) := by decide +kernel
theorem dX7_countOrders_6 : decode cX7_countOrders 6 = .ok (.ifCond .lt 112, 3) := by decide +kernel
theorem dX7_countOrders_9 : decode cX7_countOrders 9 = .ok (.aload_n 0, 1) := by decide +kernel
theorem dX7_countOrders_10 : decode cX7_countOrders 10 = .ok (.getfield 34, 3) := by decide +kernel
theorem dX7_countOrders_13 : decode cX7_countOrders 13 = .ok (.iload_n 3, 1) := by decide +kernel
theorem dX7_countOrders_14 : decode cX7_countOrders 14 = .ok (.iload_n 3, 1) := by decide +kernel
theorem dX7_countOrders_15 : decode cX7_countOrders 15 = .ok (.aload_n 0, 1) := by decide +kernel
theorem dX7_countOrders_16 : decode cX7_countOrders 16 = .ok (.invokevirtual 83, 3) := by decide +kernel
theorem dX7_countOrders_19 : decode cX7_countOrders 19 = .ok (.if_icmp .ne 7, 3) := by decide +kernel
theorem dX7_countOrders_22 : decode cX7_countOrders 22 = .ok (.iconst 1, 1) := by decide +kernel
theorem dX7_countOrders_23 : decode cX7_countOrders 23 = .ok (.goto 4, 3) := by decide +kernel
theorem dX7_countOrders_26 : decode cX7_countOrders 26 = .ok (.iconst 0, 1) := by decide +kernel
theorem dX7_countOrders_27 : decode cX7_countOrders 27 = .ok (.iastore, 1) := by decide +kernel
theorem dX7_countOrders_28 : decode cX7_countOrders 28 = .ok (.iconst 0, 1) := by decide +kernel
theorem dX7_countOrders_29 : decode cX7_countOrders 29 = .ok (.istore 4, 2) := by decide +kernel
theorem dX7_countOrders_31 : decode cX7_countOrders 31 = .ok (.iload 4, 2) := by decide +kernel
theorem dX7_countOrders_33 : decode cX7_countOrders 33 = .ok (.aload_n 0, 1) := by decide +kernel
theorem dX7_countOrders_34 : decode cX7_countOrders 34 = .ok (.getfield 7, 3) := by decide +kernel
theorem dX7_countOrders_37 : decode cX7_countOrders 37 = .ok (.iconst 0, 1) := by decide +kernel
theorem dX7_countOrders_38 : decode cX7_countOrders 38 = .ok (.iaload, 1) := by decide +kernel
theorem dX7_countOrders_39 : decode cX7_countOrders 39 = .ok (.if_icmp .ge 73, 3) := by decide +kernel
theorem dX7_countOrders_42 : decode cX7_countOrders 42 = .ok (.aload_n 0, 1) := by decide +kernel
theorem dX7_countOrders_43 : decode cX7_countOrders 43 = .ok (.getfield 31, 3) := by decide +kernel
theorem dX7_countOrders_46 : decode cX7_countOrders 46 = .ok (.iload_n 3, 1) := by decide +kernel
theorem dX7_countOrders_47 : decode cX7_countOrders 47 = .ok (.iaload, 1) := by decide +kernel
theorem dX7_countOrders_48 : decode cX7_countOrders 48 = .ok (.iload 4, 2) := by decide +kernel
theorem dX7_countOrders_50 : decode cX7_countOrders 50 = .ok (.invokestatic 49, 3) := by decide +kernel
theorem dX7_countOrders_53 : decode cX7_countOrders 53 = .ok (.ifCond .eq 21, 3) := by decide +kernel
theorem dX7_countOrders_56 : decode cX7_countOrders 56 = .ok (.iload 4, 2) := by decide +kernel
theorem dX7_countOrders_58 : decode cX7_countOrders 58 = .ok (.iload_n 2, 1) := by decide +kernel
theorem dX7_countOrders_59 : decode cX7_countOrders 59 = .ok (.if_icmp .ne 11, 3) := by decide +kernel
theorem dX7_countOrders_62 : decode cX7_countOrders 62 = .ok (.iload_n 3, 1) := by decide +kernel
theorem dX7_countOrders_63 : decode cX7_countOrders 63 = .ok (.iload_n 1, 1) := by decide +kernel
theorem dX7_countOrders_64 : decode cX7_countOrders 64 = .ok (.invokestatic 49, 3) := by decide +kernel
theorem dX7_countOrders_67 : decode cX7_countOrders 67 = .ok (.ifCond .eq 7, 3) := by decide +kernel
theorem dX7_countOrders_70 : decode cX7_countOrders 70 = .ok (.iconst 1, 1) := by decide +kernel
theorem dX7_countOrders_71 : decode cX7_countOrders 71 = .ok (.goto 4, 3) := by decide +kernel
theorem dX7_countOrders_74 : decode cX7_countOrders 74 = .ok (.iconst 0, 1) := by decide +kernel
theorem dX7_countOrders_75 : decode cX7_countOrders 75 = .ok (.istore 5, 2) := by decide +kernel
theorem dX7_countOrders_77 : decode cX7_countOrders 77 = .ok (.aload_n 0, 1) := by decide +kernel
theorem dX7_countOrders_78 : decode cX7_countOrders 78 = .ok (.getfield 34, 3) := by decide +kernel
theorem dX7_countOrders_81 : decode cX7_countOrders 81 = .ok (.iload_n 3, 1) := by decide +kernel
theorem dX7_countOrders_82 : decode cX7_countOrders 82 = .ok (.dup2, 1) := by decide +kernel
theorem dX7_countOrders_83 : decode cX7_countOrders 83 = .ok (.iaload, 1) := by decide +kernel
theorem dX7_countOrders_84 : decode cX7_countOrders 84 = .ok (.iload 5, 2) := by decide +kernel
theorem dX7_countOrders_86 : decode cX7_countOrders 86 = .ok (.ifCond .eq 17, 3) := by decide +kernel
theorem dX7_countOrders_89 : decode cX7_countOrders 89 = .ok (.aload_n 0, 1) := by decide +kernel
theorem dX7_countOrders_90 : decode cX7_countOrders 90 = .ok (.getfield 34, 3) := by decide +kernel
theorem dX7_countOrders_93 : decode cX7_countOrders 93 = .ok (.iload_n 3, 1) := by decide +kernel
theorem dX7_countOrders_94 : decode cX7_countOrders 94 = .ok (.iconst 1, 1) := by decide +kernel
theorem dX7_countOrders_95 : decode cX7_countOrders 95 = .ok (.iload 4, 2) := by decide +kernel
theorem dX7_countOrders_97 : decode cX7_countOrders 97 = .ok (.ishl, 1) := by decide +kernel
theorem dX7_countOrders_98 : decode cX7_countOrders 98 = .ok (.ior, 1) := by decide +kernel
theorem dX7_countOrders_99 : decode cX7_countOrders 99 = .ok (.iaload, 1) := by decide +kernel
theorem dX7_countOrders_100 : decode cX7_countOrders 100 = .ok (.goto 4, 3) := by decide +kernel
theorem dX7_countOrders_103 : decode cX7_countOrders 103 = .ok (.iconst 0, 1) := by decide +kernel
theorem dX7_countOrders_104 : decode cX7_countOrders 104 = .ok (.iadd, 1) := by decide +kernel
theorem dX7_countOrders_105 : decode cX7_countOrders 105 = .ok (.iastore, 1) := by decide +kernel
theorem dX7_countOrders_106 : decode cX7_countOrders 106 = .ok (.iinc 4 1, 3) := by decide +kernel
theorem dX7_countOrders_109 : decode cX7_countOrders 109 = .ok (.goto (-78), 3) := by decide +kernel
theorem dX7_countOrders_112 : decode cX7_countOrders 112 = .ok (.iinc 3 (-1), 3) := by decide +kernel
theorem dX7_countOrders_115 : decode cX7_countOrders 115 = .ok (.goto (-110), 3) := by decide +kernel
theorem dX7_countOrders_118 : decode cX7_countOrders 118 = .ok (.aload_n 0, 1) := by decide +kernel
theorem dX7_countOrders_119 : decode cX7_countOrders 119 = .ok (.getfield 34, 3) := by decide +kernel
theorem dX7_countOrders_122 : decode cX7_countOrders 122 = .ok (.aload_n 0, 1) := by decide +kernel
theorem dX7_countOrders_123 : decode cX7_countOrders 123 = .ok (.getfield 7, 3) := by decide +kernel
theorem dX7_countOrders_126 : decode cX7_countOrders 126 = .ok (.bipush 16, 2) := by decide +kernel
theorem dX7_countOrders_128 : decode cX7_countOrders 128 = .ok (.iaload, 1) := by decide +kernel
theorem dX7_countOrders_129 : decode cX7_countOrders 129 = .ok (.iaload, 1) := by decide +kernel
theorem dX7_countOrders_130 : decode cX7_countOrders 130 = .ok (.ireturn, 1) := by decide +kernel
set_option maxRecDepth 20000 in
theorem ggX7_allOrders_X7_findNext : GoodIn wsX7_allOrders wsX7_findNext := goodIn_r _ [5, 6, 7, 8, 9, 10, 4, 11, 12, 13, 14, 15, 16, 17, 18, 19, 20, 21, 22, 23, 24, 25, 26, 27, 28, 29, 30, 31, 32, 33, 34, 35, 36, 37, 38, 39, 40, 41, 42, 43, 44, 45, 46, 47, 48, 49, 50, 51, 52, 53, 54, 55, 56, 57, 63, 64, 65, 66, 67, 68, 69, 70, 71, 72, 73, 74, 75] (by decide +kernel) (by decide +kernel)
set_option maxRecDepth 20000 in
theorem gX7_allOrders_X7_findNext : GoodIn wsX7_allOrders (wsV RX7 91 RX7 yX7_findNext wsX7_findNext) := goodIn_app (goodIn_of _ (by decide +kernel)) ggX7_allOrders_X7_findNext
set_option maxRecDepth 20000 in
theorem ggX7_allOrders_X7_countOrders : GoodIn wsX7_allOrders wsX7_countOrders := goodIn_r _ [61, 62, 7, 6, 8, 9, 10, 4, 11, 16, 17, 18, 63, 64, 65, 66, 67, 68, 69, 70, 71, 72, 73, 74, 75] (by decide +kernel) (by decide +kernel)
set_option maxRecDepth 20000 in
theorem gX7_allOrders_X7_countOrders : GoodIn wsX7_allOrders (wsV RX7 94 RX7 yX7_countOrders wsX7_countOrders) := goodIn_app (goodIn_of _ (by decide +kernel)) ggX7_allOrders_X7_countOrders
theorem dX7_allOrders_0 : decode cX7_allOrders 0 = .ok (.aload_n 0, 1) := by decide +kernel
theorem dX7_allOrders_1 : decode cX7_allOrders 1 = .ok (.invokevirtual 91, 3) := by decide +kernel
theorem dX7_allOrders_4 : decode cX7_allOrders 4 = .ok (.aload_n 0, 1) := by decide +kernel
theorem dX7_allOrders_5 : decode cX7_allOrders 5 = .ok (.sipush (-1005), 3) := by decide +kernel
theorem dX7_allOrders_8 : decode cX7_allOrders 8 = .ok (.sipush (-1005), 3) := by decide +kernel
theorem dX7_allOrders_11 : decode cX7_allOrders 11 = .ok (.invokevirtual 94, 3) := by decide +kernel
theorem dX7_allOrders_14 : decode cX7_allOrders 14 = .ok (.ireturn, 1) := by decide +kernel
set_option maxRecDepth 20000 in
theorem ggX7_nextOf_X7_has : GoodIn wsX7_nextOf wsX7_has := goodIn_r _ [7] (by decide +kernel) (by decide +kernel)
set_option maxRecDepth 20000 in
theorem gX7_nextOf_X7_has : GoodIn wsX7_nextOf (va_wsS RX7 49 yX7_has wsX7_has) := goodIn_app (goodIn_of _ (by decide +kernel)) ggX7_nextOf_X7_has
theorem dX7_nextOf_0 : decode cX7_nextOf 0 = .ok (.iconst 0, 1) := by decide +kernel
theorem dX7_nextOf_1 : decode cX7_nextOf 1 = .ok (.istore_n 2, 1) := by decide +kernel
theorem dX7_nextOf_2 : decode cX7_nextOf 2 = .ok (.iload_n 2, 1) := by decide +kernel
theorem dX7_nextOf_3 : decode cX7_nextOf 3 = .ok (.aload_n 0, 1) := by decide +kernel
theorem dX7_nextOf_4 : decode cX7_nextOf 4 = .ok (.getfield 7, 3) := by decide +kernel
theorem dX7_nextOf_7 : decode cX7_nextOf 7 = .ok (.iconst 0, 1) := by decide +kernel
theorem dX7_nextOf_8 : decode cX7_nextOf 8 = .ok (.iaload, 1) := by decide +kernel
theorem dX7_nextOf_9 : decode cX7_nextOf 9 = .ok (.if_icmp .ge 37, 3) := by decide +kernel
theorem dX7_nextOf_12 : decode cX7_nextOf 12 = .ok (.aload_n 0, 1) := by decide +kernel
theorem dX7_nextOf_13 : decode cX7_nextOf 13 = .ok (.getfield 31, 3) := by decide +kernel
theorem dX7_nextOf_16 : decode cX7_nextOf 16 = .ok (.iload_n 1, 1) := by decide +kernel
theorem dX7_nextOf_17 : decode cX7_nextOf 17 = .ok (.iaload, 1) := by decide +kernel
theorem dX7_nextOf_18 : decode cX7_nextOf 18 = .ok (.iload_n 2, 1) := by decide +kernel
theorem dX7_nextOf_19 : decode cX7_nextOf 19 = .ok (.invokestatic 49, 3) := by decide +kernel
theorem dX7_nextOf_22 : decode cX7_nextOf 22 = .ok (.ifCond .eq 18, 3) := by decide +kernel
theorem dX7_nextOf_25 : decode cX7_nextOf 25 = .ok (.aload_n 0, 1) := by decide +kernel
theorem dX7_nextOf_26 : decode cX7_nextOf 26 = .ok (.getfield 34, 3) := by decide +kernel
theorem dX7_nextOf_29 : decode cX7_nextOf 29 = .ok (.iload_n 1, 1) := by decide +kernel
theorem dX7_nextOf_30 : decode cX7_nextOf 30 = .ok (.iconst 1, 1) := by decide +kernel
theorem dX7_nextOf_31 : decode cX7_nextOf 31 = .ok (.iload_n 2, 1) := by decide +kernel
theorem dX7_nextOf_32 : decode cX7_nextOf 32 = .ok (.ishl, 1) := by decide +kernel
theorem dX7_nextOf_33 : decode cX7_nextOf 33 = .ok (.ior, 1) := by decide +kernel
theorem dX7_nextOf_34 : decode cX7_nextOf 34 = .ok (.iaload, 1) := by decide +kernel
theorem dX7_nextOf_35 : decode cX7_nextOf 35 = .ok (.ifCond .le 5, 3) := by decide +kernel
theorem dX7_nextOf_38 : decode cX7_nextOf 38 = .ok (.iload_n 2, 1) := by decide +kernel
theorem dX7_nextOf_39 : decode cX7_nextOf 39 = .ok (.ireturn, 1) := by decide +kernel
theorem dX7_nextOf_40 : decode cX7_nextOf 40 = .ok (.iinc 2 1, 3) := by decide +kernel
theorem dX7_nextOf_43 : decode cX7_nextOf 43 = .ok (.goto (-41), 3) := by decide +kernel
theorem dX7_nextOf_46 : decode cX7_nextOf 46 = .ok (.sipush (-1005), 3) := by decide +kernel
theorem dX7_nextOf_49 : decode cX7_nextOf 49 = .ok (.ireturn, 1) := by decide +kernel
set_option maxRecDepth 20000 in
theorem ggX7_turnings_X7_allOrders : GoodIn wsX7_turnings wsX7_allOrders := goodIn_r _ [6, 7, 8, 9, 5, 10, 11, 1, 12, 13, 14, 15, 16, 17, 18, 19, 20, 21, 22, 23, 24, 25, 26, 27, 28, 29, 30, 31, 32, 33, 34, 35, 36, 37, 38, 39, 40, 41, 42, 43, 44, 45, 46, 47, 48, 49, 50, 51, 52, 53, 54, 55, 56, 57, 58, 59, 60, 61, 62, 63, 64, 65, 66, 71, 72, 73, 74, 75, 76, 77, 78, 79, 80, 81, 82, 83] (by decide +kernel) (by decide +kernel)
set_option maxRecDepth 20000 in
theorem gX7_turnings_X7_allOrders : GoodIn wsX7_turnings (wsV RX7 97 RX7 yX7_allOrders wsX7_allOrders) := goodIn_app (goodIn_of _ (by decide +kernel)) ggX7_turnings_X7_allOrders
set_option maxRecDepth 20000 in
theorem ggX7_turnings_X7_all : GoodIn wsX7_turnings wsX7_all := goodIn_r _ [15, 1, 71, 72, 73, 74, 75, 76, 77, 78, 79, 80, 81, 82, 83] (by decide +kernel) (by decide +kernel)
set_option maxRecDepth 20000 in
theorem gX7_turnings_X7_all : GoodIn wsX7_turnings (wsV RX7 83 RX7 yX7_all wsX7_all) := goodIn_app (goodIn_of _ (by decide +kernel)) ggX7_turnings_X7_all
set_option maxRecDepth 20000 in
theorem ggX7_turnings_X7_nextOf : GoodIn wsX7_turnings wsX7_nextOf := goodIn_r _ [70, 1, 11, 66, 20, 21, 5, 22, 71, 72, 73, 74, 75, 76, 77, 78, 79, 80, 81, 82, 83] (by decide +kernel) (by decide +kernel)
set_option maxRecDepth 20000 in
theorem gX7_turnings_X7_nextOf : GoodIn wsX7_turnings (wsV RX7 100 RX7 yX7_nextOf wsX7_nextOf) := goodIn_app (goodIn_of _ (by decide +kernel)) ggX7_turnings_X7_nextOf
set_option maxRecDepth 20000 in
theorem ggX7_turnings_X7_isUp : GoodIn wsX7_turnings wsX7_isUp := goodIn_r _ [26, 1, 71, 72, 73, 74, 75, 76, 77, 78, 79, 80, 81, 82, 83] (by decide +kernel) (by decide +kernel)
set_option maxRecDepth 20000 in
theorem gX7_turnings_X7_isUp : GoodIn wsX7_turnings (wsV RX7 53 RX7 yX7_isUp wsX7_isUp) := goodIn_app (goodIn_of _ (by decide +kernel)) ggX7_turnings_X7_isUp
theorem dX7_turnings_0 : decode cX7_turnings 0 = .ok (.aload_n 0, 1) := by decide +kernel
theorem dX7_turnings_1 : decode cX7_turnings 1 = .ok (.invokevirtual 97, 3) := by decide +kernel
theorem dX7_turnings_4 : decode cX7_turnings 4 = .ok (.ifCond .ne 7, 3) := by decide +kernel
theorem dX7_turnings_7 : decode cX7_turnings 7 = .ok (.sipush (-1005), 3) := by decide +kernel
theorem dX7_turnings_10 : decode cX7_turnings 10 = .ok (.ireturn, 1) := by decide +kernel
theorem dX7_turnings_11 : decode cX7_turnings 11 = .ok (.iconst 0, 1) := by decide +kernel
theorem dX7_turnings_12 : decode cX7_turnings 12 = .ok (.istore_n 1, 1) := by decide +kernel
theorem dX7_turnings_13 : decode cX7_turnings 13 = .ok (.aload_n 0, 1) := by decide +kernel
theorem dX7_turnings_14 : decode cX7_turnings 14 = .ok (.getfield 7, 3) := by decide +kernel
theorem dX7_turnings_17 : decode cX7_turnings 17 = .ok (.bipush 17, 2) := by decide +kernel
theorem dX7_turnings_19 : decode cX7_turnings 19 = .ok (.iaload, 1) := by decide +kernel
theorem dX7_turnings_20 : decode cX7_turnings 20 = .ok (.istore_n 2, 1) := by decide +kernel
theorem dX7_turnings_21 : decode cX7_turnings 21 = .ok (.aload_n 0, 1) := by decide +kernel
theorem dX7_turnings_22 : decode cX7_turnings 22 = .ok (.getfield 7, 3) := by decide +kernel
theorem dX7_turnings_25 : decode cX7_turnings 25 = .ok (.bipush 16, 2) := by decide +kernel
theorem dX7_turnings_27 : decode cX7_turnings 27 = .ok (.iaload, 1) := by decide +kernel
theorem dX7_turnings_28 : decode cX7_turnings 28 = .ok (.istore_n 3, 1) := by decide +kernel
theorem dX7_turnings_29 : decode cX7_turnings 29 = .ok (.iload_n 3, 1) := by decide +kernel
theorem dX7_turnings_30 : decode cX7_turnings 30 = .ok (.aload_n 0, 1) := by decide +kernel
theorem dX7_turnings_31 : decode cX7_turnings 31 = .ok (.invokevirtual 83, 3) := by decide +kernel
theorem dX7_turnings_34 : decode cX7_turnings 34 = .ok (.if_icmp .eq 51, 3) := by decide +kernel
theorem dX7_turnings_37 : decode cX7_turnings 37 = .ok (.aload_n 0, 1) := by decide +kernel
theorem dX7_turnings_38 : decode cX7_turnings 38 = .ok (.iload_n 3, 1) := by decide +kernel
theorem dX7_turnings_39 : decode cX7_turnings 39 = .ok (.invokevirtual 100, 3) := by decide +kernel
theorem dX7_turnings_42 : decode cX7_turnings 42 = .ok (.istore 4, 2) := by decide +kernel
theorem dX7_turnings_44 : decode cX7_turnings 44 = .ok (.iload_n 1, 1) := by decide +kernel
theorem dX7_turnings_45 : decode cX7_turnings 45 = .ok (.aload_n 0, 1) := by decide +kernel
theorem dX7_turnings_46 : decode cX7_turnings 46 = .ok (.iload 4, 2) := by decide +kernel
theorem dX7_turnings_48 : decode cX7_turnings 48 = .ok (.iload_n 2, 1) := by decide +kernel
theorem dX7_turnings_49 : decode cX7_turnings 49 = .ok (.invokevirtual 53, 3) := by decide +kernel
theorem dX7_turnings_52 : decode cX7_turnings 52 = .ok (.ifCond .eq 7, 3) := by decide +kernel
theorem dX7_turnings_55 : decode cX7_turnings 55 = .ok (.iconst 0, 1) := by decide +kernel
theorem dX7_turnings_56 : decode cX7_turnings 56 = .ok (.goto 4, 3) := by decide +kernel
theorem dX7_turnings_59 : decode cX7_turnings 59 = .ok (.iconst 1, 1) := by decide +kernel
theorem dX7_turnings_60 : decode cX7_turnings 60 = .ok (.iadd, 1) := by decide +kernel
theorem dX7_turnings_61 : decode cX7_turnings 61 = .ok (.istore_n 1, 1) := by decide +kernel
theorem dX7_turnings_62 : decode cX7_turnings 62 = .ok (.iconst 1, 1) := by decide +kernel
theorem dX7_turnings_63 : decode cX7_turnings 63 = .ok (.aload_n 0, 1) := by decide +kernel
theorem dX7_turnings_64 : decode cX7_turnings 64 = .ok (.getfield 7, 3) := by decide +kernel
theorem dX7_turnings_67 : decode cX7_turnings 67 = .ok (.bipush 9, 2) := by decide +kernel
theorem dX7_turnings_69 : decode cX7_turnings 69 = .ok (.iload 4, 2) := by decide +kernel
theorem dX7_turnings_71 : decode cX7_turnings 71 = .ok (.iadd, 1) := by decide +kernel
theorem dX7_turnings_72 : decode cX7_turnings 72 = .ok (.iaload, 1) := by decide +kernel
theorem dX7_turnings_73 : decode cX7_turnings 73 = .ok (.isub, 1) := by decide +kernel
theorem dX7_turnings_74 : decode cX7_turnings 74 = .ok (.istore_n 2, 1) := by decide +kernel
theorem dX7_turnings_75 : decode cX7_turnings 75 = .ok (.iload_n 3, 1) := by decide +kernel
theorem dX7_turnings_76 : decode cX7_turnings 76 = .ok (.iconst 1, 1) := by decide +kernel
theorem dX7_turnings_77 : decode cX7_turnings 77 = .ok (.iload 4, 2) := by decide +kernel
theorem dX7_turnings_79 : decode cX7_turnings 79 = .ok (.ishl, 1) := by decide +kernel
theorem dX7_turnings_80 : decode cX7_turnings 80 = .ok (.ior, 1) := by decide +kernel
theorem dX7_turnings_81 : decode cX7_turnings 81 = .ok (.istore_n 3, 1) := by decide +kernel
theorem dX7_turnings_82 : decode cX7_turnings 82 = .ok (.goto (-53), 3) := by decide +kernel
theorem dX7_turnings_85 : decode cX7_turnings 85 = .ok (.iload_n 1, 1) := by decide +kernel
theorem dX7_turnings_86 : decode cX7_turnings 86 = .ok (.ireturn, 1) := by decide +kernel
theorem dX7_puts_0 : decode cX7_puts 0 = .ok (.aload_n 0, 1) := by decide +kernel
theorem dX7_puts_1 : decode cX7_puts 1 = .ok (.getfield 7, 3) := by decide +kernel
theorem dX7_puts_4 : decode cX7_puts 4 = .ok (.iload_n 1, 1) := by decide +kernel
theorem dX7_puts_5 : decode cX7_puts 5 = .ok (.iaload, 1) := by decide +kernel
theorem dX7_puts_6 : decode cX7_puts 6 = .ok (.istore_n 3, 1) := by decide +kernel
theorem dX7_puts_7 : decode cX7_puts 7 = .ok (.aload_n 0, 1) := by decide +kernel
theorem dX7_puts_8 : decode cX7_puts 8 = .ok (.getfield 7, 3) := by decide +kernel
theorem dX7_puts_11 : decode cX7_puts 11 = .ok (.iload_n 1, 1) := by decide +kernel
theorem dX7_puts_12 : decode cX7_puts 12 = .ok (.iload_n 2, 1) := by decide +kernel
theorem dX7_puts_13 : decode cX7_puts 13 = .ok (.iastore, 1) := by decide +kernel
theorem dX7_puts_14 : decode cX7_puts 14 = .ok (.iload_n 3, 1) := by decide +kernel
theorem dX7_puts_15 : decode cX7_puts 15 = .ok (.ireturn, 1) := by decide +kernel
set_option maxRecDepth 20000 in
theorem ggX7_setLength_X7_isFlange : GoodIn wsX7_setLength wsX7_isFlange := goodIn_r _ [6, 1, 7, 8, 5, 9, 20, 21, 22, 23, 24, 25, 26, 27, 28, 29, 30, 31, 32] (by decide +kernel) (by decide +kernel)
set_option maxRecDepth 20000 in
theorem gX7_setLength_X7_isFlange : GoodIn wsX7_setLength (wsV RX7 45 RX7 yX7_isFlange wsX7_isFlange) := goodIn_app (goodIn_of _ (by decide +kernel)) ggX7_setLength_X7_isFlange
set_option maxRecDepth 20000 in
theorem ggX7_setLength_X7_in : GoodIn wsX7_setLength wsX7_in := goodIn_r _ [9] (by decide +kernel) (by decide +kernel)
set_option maxRecDepth 20000 in
theorem gX7_setLength_X7_in : GoodIn wsX7_setLength (va_wsS RX7 37 yX7_in wsX7_in) := goodIn_app (goodIn_of _ (by decide +kernel)) ggX7_setLength_X7_in
set_option maxRecDepth 20000 in
theorem ggX7_setLength_X7_know : GoodIn wsX7_setLength wsX7_know := goodIn_r _ [13, 14, 15, 1, 20, 21, 22, 23, 24, 25, 26, 27, 28, 29, 30, 31, 32] (by decide +kernel) (by decide +kernel)
set_option maxRecDepth 20000 in
theorem gX7_setLength_X7_know : GoodIn wsX7_setLength (wsV RX7 104 RX7 yX7_know wsX7_know) := goodIn_app (goodIn_of _ (by decide +kernel)) ggX7_setLength_X7_know
set_option maxRecDepth 20000 in
theorem ggX7_setLength_X7_puts : GoodIn wsX7_setLength wsX7_puts := goodIn_r _ [19, 1, 20, 21, 22, 23, 24, 25, 26, 27, 28, 29, 30, 31, 32] (by decide +kernel) (by decide +kernel)
set_option maxRecDepth 20000 in
theorem gX7_setLength_X7_puts : GoodIn wsX7_setLength (wsV RX7 107 RX7 yX7_puts wsX7_puts) := goodIn_app (goodIn_of _ (by decide +kernel)) ggX7_setLength_X7_puts
theorem dX7_setLength_0 : decode cX7_setLength 0 = .ok (.aload_n 0, 1) := by decide +kernel
theorem dX7_setLength_1 : decode cX7_setLength 1 = .ok (.iload_n 1, 1) := by decide +kernel
theorem dX7_setLength_2 : decode cX7_setLength 2 = .ok (.invokevirtual 45, 3) := by decide +kernel
theorem dX7_setLength_5 : decode cX7_setLength 5 = .ok (.ifCond .ne 7, 3) := by decide +kernel
theorem dX7_setLength_8 : decode cX7_setLength 8 = .ok (.sipush (-1001), 3) := by decide +kernel
theorem dX7_setLength_11 : decode cX7_setLength 11 = .ok (.ireturn, 1) := by decide +kernel
theorem dX7_setLength_12 : decode cX7_setLength 12 = .ok (.iload_n 2, 1) := by decide +kernel
theorem dX7_setLength_13 : decode cX7_setLength 13 = .ok (.iconst 1, 1) := by decide +kernel
theorem dX7_setLength_14 : decode cX7_setLength 14 = .ok (.bipush 9, 2) := by decide +kernel
theorem dX7_setLength_16 : decode cX7_setLength 16 = .ok (.invokestatic 37, 3) := by decide +kernel
theorem dX7_setLength_19 : decode cX7_setLength 19 = .ok (.ifCond .ne 7, 3) := by decide +kernel
theorem dX7_setLength_22 : decode cX7_setLength 22 = .ok (.sipush (-1002), 3) := by decide +kernel
theorem dX7_setLength_25 : decode cX7_setLength 25 = .ok (.ireturn, 1) := by decide +kernel
theorem dX7_setLength_26 : decode cX7_setLength 26 = .ok (.aload_n 0, 1) := by decide +kernel
theorem dX7_setLength_27 : decode cX7_setLength 27 = .ok (.getfield 7, 3) := by decide +kernel
theorem dX7_setLength_30 : decode cX7_setLength 30 = .ok (.bipush 16, 2) := by decide +kernel
theorem dX7_setLength_32 : decode cX7_setLength 32 = .ok (.iaload, 1) := by decide +kernel
theorem dX7_setLength_33 : decode cX7_setLength 33 = .ok (.ifCond .eq 7, 3) := by decide +kernel
theorem dX7_setLength_36 : decode cX7_setLength 36 = .ok (.sipush (-1004), 3) := by decide +kernel
theorem dX7_setLength_39 : decode cX7_setLength 39 = .ok (.ireturn, 1) := by decide +kernel
theorem dX7_setLength_40 : decode cX7_setLength 40 = .ok (.aload_n 0, 1) := by decide +kernel
theorem dX7_setLength_41 : decode cX7_setLength 41 = .ok (.getfield 7, 3) := by decide +kernel
theorem dX7_setLength_44 : decode cX7_setLength 44 = .ok (.iconst 1, 1) := by decide +kernel
theorem dX7_setLength_45 : decode cX7_setLength 45 = .ok (.iload_n 1, 1) := by decide +kernel
theorem dX7_setLength_46 : decode cX7_setLength 46 = .ok (.iadd, 1) := by decide +kernel
theorem dX7_setLength_47 : decode cX7_setLength 47 = .ok (.iaload, 1) := by decide +kernel
theorem dX7_setLength_48 : decode cX7_setLength 48 = .ok (.iload_n 2, 1) := by decide +kernel
theorem dX7_setLength_49 : decode cX7_setLength 49 = .ok (.if_icmp .ne 7, 3) := by decide +kernel
theorem dX7_setLength_52 : decode cX7_setLength 52 = .ok (.sipush (-1005), 3) := by decide +kernel
theorem dX7_setLength_55 : decode cX7_setLength 55 = .ok (.ireturn, 1) := by decide +kernel
theorem dX7_setLength_56 : decode cX7_setLength 56 = .ok (.aload_n 0, 1) := by decide +kernel
theorem dX7_setLength_57 : decode cX7_setLength 57 = .ok (.invokevirtual 104, 3) := by decide +kernel
theorem dX7_setLength_60 : decode cX7_setLength 60 = .ok (.aload_n 0, 1) := by decide +kernel
theorem dX7_setLength_61 : decode cX7_setLength 61 = .ok (.iconst 1, 1) := by decide +kernel
theorem dX7_setLength_62 : decode cX7_setLength 62 = .ok (.iload_n 1, 1) := by decide +kernel
theorem dX7_setLength_63 : decode cX7_setLength 63 = .ok (.iadd, 1) := by decide +kernel
theorem dX7_setLength_64 : decode cX7_setLength 64 = .ok (.iload_n 2, 1) := by decide +kernel
theorem dX7_setLength_65 : decode cX7_setLength 65 = .ok (.invokevirtual 107, 3) := by decide +kernel
theorem dX7_setLength_68 : decode cX7_setLength 68 = .ok (.ireturn, 1) := by decide +kernel
set_option maxRecDepth 20000 in
theorem ggX7_setUp_X7_isBend : GoodIn wsX7_setUp wsX7_isBend := goodIn_r _ [6, 1, 7, 8, 5, 9, 16, 17, 18, 19, 20, 21, 22, 23, 24, 25, 26, 27, 28] (by decide +kernel) (by decide +kernel)
set_option maxRecDepth 20000 in
theorem gX7_setUp_X7_isBend : GoodIn wsX7_setUp (wsV RX7 110 RX7 yX7_isBend wsX7_isBend) := goodIn_app (goodIn_of _ (by decide +kernel)) ggX7_setUp_X7_isBend
set_option maxRecDepth 20000 in
theorem ggX7_setUp_X7_know : GoodIn wsX7_setUp wsX7_know := goodIn_r _ [13, 14, 15, 1, 16, 17, 18, 19, 20, 21, 22, 23, 24, 25, 26, 27, 28] (by decide +kernel) (by decide +kernel)
set_option maxRecDepth 20000 in
theorem gX7_setUp_X7_know : GoodIn wsX7_setUp (wsV RX7 104 RX7 yX7_know wsX7_know) := goodIn_app (goodIn_of _ (by decide +kernel)) ggX7_setUp_X7_know
theorem dX7_setUp_0 : decode cX7_setUp 0 = .ok (.aload_n 0, 1) := by decide +kernel
theorem dX7_setUp_1 : decode cX7_setUp 1 = .ok (.iload_n 1, 1) := by decide +kernel
theorem dX7_setUp_2 : decode cX7_setUp 2 = .ok (.invokevirtual 110, 3) := by decide +kernel
theorem dX7_setUp_5 : decode cX7_setUp 5 = .ok (.ifCond .ne 7, 3) := by decide +kernel
theorem dX7_setUp_8 : decode cX7_setUp 8 = .ok (.sipush (-1001), 3) := by decide +kernel
theorem dX7_setUp_11 : decode cX7_setUp 11 = .ok (.ireturn, 1) := by decide +kernel
theorem dX7_setUp_12 : decode cX7_setUp 12 = .ok (.aload_n 0, 1) := by decide +kernel
theorem dX7_setUp_13 : decode cX7_setUp 13 = .ok (.getfield 7, 3) := by decide +kernel
theorem dX7_setUp_16 : decode cX7_setUp 16 = .ok (.bipush 16, 2) := by decide +kernel
theorem dX7_setUp_18 : decode cX7_setUp 18 = .ok (.iaload, 1) := by decide +kernel
theorem dX7_setUp_19 : decode cX7_setUp 19 = .ok (.ifCond .eq 7, 3) := by decide +kernel
theorem dX7_setUp_22 : decode cX7_setUp 22 = .ok (.sipush (-1004), 3) := by decide +kernel
theorem dX7_setUp_25 : decode cX7_setUp 25 = .ok (.ireturn, 1) := by decide +kernel
theorem dX7_setUp_26 : decode cX7_setUp 26 = .ok (.aload_n 0, 1) := by decide +kernel
theorem dX7_setUp_27 : decode cX7_setUp 27 = .ok (.getfield 7, 3) := by decide +kernel
theorem dX7_setUp_30 : decode cX7_setUp 30 = .ok (.bipush 9, 2) := by decide +kernel
theorem dX7_setUp_32 : decode cX7_setUp 32 = .ok (.iload_n 1, 1) := by decide +kernel
theorem dX7_setUp_33 : decode cX7_setUp 33 = .ok (.iadd, 1) := by decide +kernel
theorem dX7_setUp_34 : decode cX7_setUp 34 = .ok (.iaload, 1) := by decide +kernel
theorem dX7_setUp_35 : decode cX7_setUp 35 = .ok (.iconst 1, 1) := by decide +kernel
theorem dX7_setUp_36 : decode cX7_setUp 36 = .ok (.if_icmp .ne 7, 3) := by decide +kernel
theorem dX7_setUp_39 : decode cX7_setUp 39 = .ok (.iconst 1, 1) := by decide +kernel
theorem dX7_setUp_40 : decode cX7_setUp 40 = .ok (.goto 4, 3) := by decide +kernel
theorem dX7_setUp_43 : decode cX7_setUp 43 = .ok (.iconst 0, 1) := by decide +kernel
theorem dX7_setUp_44 : decode cX7_setUp 44 = .ok (.iload_n 2, 1) := by decide +kernel
theorem dX7_setUp_45 : decode cX7_setUp 45 = .ok (.if_icmp .ne 7, 3) := by decide +kernel
theorem dX7_setUp_48 : decode cX7_setUp 48 = .ok (.sipush (-1005), 3) := by decide +kernel
theorem dX7_setUp_51 : decode cX7_setUp 51 = .ok (.ireturn, 1) := by decide +kernel
theorem dX7_setUp_52 : decode cX7_setUp 52 = .ok (.aload_n 0, 1) := by decide +kernel
theorem dX7_setUp_53 : decode cX7_setUp 53 = .ok (.invokevirtual 104, 3) := by decide +kernel
theorem dX7_setUp_56 : decode cX7_setUp 56 = .ok (.aload_n 0, 1) := by decide +kernel
