set_option maxRecDepth 20000 in
theorem ggL_isOrderSo_X6_orders : GoodIn wsL_isOrderSo wsX6_orders := goodIn_r _ [6, 7, 8, 9, 10, 11, 12, 13, 14, 15, 16, 17, 18, 19, 20, 21, 22, 23, 24, 25, 26, 27, 28, 29, 30, 31, 32, 33, 34, 35, 36, 37, 38, 39, 40, 41, 42, 43, 44, 45, 46, 47, 48, 49, 50, 51, 52, 53, 54, 55, 56, 57, 58, 59, 60, 61, 62, 63, 64, 65, 66, 67, 68, 69, 70, 71, 72, 73, 74, 75, 76, 77, 78, 79, 80, 81, 82, 83, 84, 85, 86, 87, 88, 89, 90, 91, 92, 93, 94, 95, 96, 97, 98, 99, 100, 101, 102, 103, 104, 105, 106, 107, 108, 109, 110, 111, 112, 113, 114, 115, 116, 117, 118, 119, 120, 121, 122, 123, 124, 125, 126, 127, 128, 129, 130, 131, 132, 133, 134, 135, 262, 263, 264, 265, 266, 267, 268, 269, 270, 271, 272, 273, 274, 275, 276, 277, 278, 279, 280, 281, 282, 283, 284, 285, 286, 287, 288, 289, 290, 291, 292, 293] (by decide +kernel) (by decide +kernel)
set_option maxRecDepth 20000 in
theorem gL_isOrderSo_X6_orders : GoodIn wsL_isOrderSo (wsV RL 66 RX6 yX6_orders wsX6_orders) := goodIn_app (goodIn_of _ (by decide +kernel)) ggL_isOrderSo_X6_orders
set_option maxRecDepth 20000 in
theorem ggL_isOrderSo_X6_count : GoodIn wsL_isOrderSo wsX6_count := goodIn_r _ [139, 8, 140, 141, 7, 9, 142, 143, 144, 145, 146, 147, 148, 149, 25, 150, 43, 151, 152, 153, 154, 155, 156, 157, 158, 159, 5, 160, 161, 162, 163, 164, 10, 11, 12, 13, 14, 15, 16, 17, 18, 19, 20, 21, 22, 23, 24, 26, 27, 28, 29, 30, 31, 32, 33, 34, 35, 36, 37, 38, 39, 40, 41, 42, 44, 45, 46, 47, 48, 49, 50, 51, 52, 53, 54, 55, 56, 57, 58, 59, 60, 61, 62, 63, 64, 65, 66, 67, 68, 69, 70, 71, 72, 73, 74, 75, 76, 77, 78, 79, 80, 81, 82, 83, 84, 85, 86, 87, 88, 89, 90, 91, 92, 93, 94, 95, 96, 97, 98, 99, 100, 101, 102, 103, 104, 105, 106, 107, 108, 109, 110, 111, 112, 113, 114, 115, 116, 117, 118, 119, 120, 121, 122, 123, 124, 125, 126, 127, 128, 129, 130, 131, 132, 133, 134, 135, 165, 166, 167, 168, 169, 170, 171, 172, 173, 174, 175, 176, 177, 178, 179, 180, 181, 182, 183, 184, 185, 186, 187, 262, 263, 264, 265, 266, 267, 268, 269, 270, 271, 272, 273, 274, 275, 294, 295, 296, 297, 276, 277, 278, 279, 280, 281, 282, 283, 284, 285, 286, 287, 288, 289, 290, 291, 292, 293] (by decide +kernel) (by decide +kernel)
set_option maxRecDepth 20000 in
theorem gL_isOrderSo_X6_count : GoodIn wsL_isOrderSo (wsV RL 8 RX6 yX6_count wsX6_count) := goodIn_app (goodIn_of _ (by decide +kernel)) ggL_isOrderSo_X6_count
set_option maxRecDepth 20000 in
theorem ggL_isOrderSo_X6_order : GoodIn wsL_isOrderSo wsX6_order := goodIn_r _ [191, 8, 9, 7, 161, 162, 163, 5, 164, 10, 11, 12, 13, 14, 15, 16, 17, 18, 19, 20, 21, 22, 23, 24, 25, 26, 27, 28, 29, 30, 31, 32, 33, 34, 35, 36, 37, 38, 39, 40, 41, 42, 43, 44, 45, 46, 47, 48, 49, 50, 51, 52, 53, 54, 55, 56, 57, 58, 59, 60, 61, 62, 63, 64, 65, 66, 67, 68, 69, 70, 71, 72, 73, 74, 75, 76, 77, 78, 79, 80, 81, 82, 83, 84, 85, 86, 87, 88, 89, 90, 91, 92, 93, 94, 95, 96, 97, 98, 99, 100, 101, 102, 103, 104, 105, 106, 107, 108, 109, 110, 111, 112, 113, 114, 115, 116, 117, 118, 119, 120, 121, 122, 123, 124, 125, 126, 127, 128, 129, 130, 131, 132, 133, 134, 135, 192, 193, 194, 195, 196, 148, 149, 150, 151, 152, 153, 154, 155, 156, 157, 197, 176, 177, 178, 179, 180, 181, 182, 262, 263, 264, 265, 266, 267, 268, 269, 270, 271, 272, 273, 274, 275, 276, 277, 278, 279, 280, 281, 282, 283, 284, 285, 286, 287, 288, 289, 290, 291, 292, 293] (by decide +kernel) (by decide +kernel)
set_option maxRecDepth 20000 in
theorem gL_isOrderSo_X6_order : GoodIn wsL_isOrderSo (wsV RL 69 RX6 yX6_order wsX6_order) := goodIn_app (goodIn_of _ (by decide +kernel)) ggL_isOrderSo_X6_order
set_option maxRecDepth 20000 in
theorem ggL_isOrderSo_X6_follow : GoodIn wsL_isOrderSo wsX6_follow := goodIn_r _ [201, 8, 143, 202, 19, 20, 21, 7, 9, 141, 161, 162, 163, 5, 164, 10, 11, 12, 13, 14, 15, 16, 17, 18, 22, 23, 24, 25, 26, 27, 28, 29, 30, 31, 32, 33, 34, 35, 36, 37, 38, 39, 40, 41, 42, 43, 44, 45, 46, 47, 48, 49, 50, 51, 52, 53, 54, 55, 56, 57, 58, 59, 60, 61, 62, 63, 64, 65, 66, 67, 68, 69, 70, 71, 72, 73, 74, 75, 76, 77, 78, 79, 80, 81, 82, 83, 84, 85, 86, 87, 88, 89, 90, 91, 92, 93, 94, 95, 96, 97, 98, 99, 100, 101, 102, 103, 104, 105, 106, 107, 108, 109, 110, 111, 112, 113, 114, 115, 116, 117, 118, 119, 120, 121, 122, 123, 124, 125, 126, 127, 128, 129, 130, 131, 132, 133, 134, 135, 192, 193, 194, 195, 196, 148, 149, 150, 151, 152, 153, 154, 155, 156, 157, 203, 204, 205, 206, 207, 208, 209, 210, 211, 212, 213, 214, 215, 216, 217, 218, 197, 176, 177, 178, 179, 180, 181, 182, 219, 220, 221, 222, 223, 147, 262, 263, 264, 265, 266, 267, 268, 269, 270, 271, 272, 273, 274, 275, 276, 277, 278, 279, 280, 281, 282, 283, 284, 285, 286, 287, 288, 289, 290, 291, 292, 293, 294, 295] (by decide +kernel) (by decide +kernel)
set_option maxRecDepth 20000 in
theorem gL_isOrderSo_X6_follow : GoodIn wsL_isOrderSo (wsV RL 40 RX6 yX6_follow wsX6_follow) := goodIn_app (goodIn_of _ (by decide +kernel)) ggL_isOrderSo_X6_follow
set_option maxRecDepth 20000 in
theorem ggL_isOrderSo_X6_keep : GoodIn wsL_isOrderSo wsX6_keep := goodIn_r _ [227, 228, 8, 229, 230, 40, 41, 25, 42, 27, 28, 43, 44, 45, 33, 46, 47, 48, 49, 38, 147, 148, 149, 150, 151, 152, 153, 154, 155, 156, 157, 262, 263, 264, 265, 266, 267, 268, 269, 270, 271, 272, 273, 274, 275] (by decide +kernel) (by decide +kernel)
set_option maxRecDepth 20000 in
theorem gL_isOrderSo_X6_keep : GoodIn wsL_isOrderSo (wsV RL 72 RX6 yX6_keep wsX6_keep) := goodIn_app (goodIn_of _ (by decide +kernel)) ggL_isOrderSo_X6_keep
set_option maxRecDepth 20000 in
theorem ggL_isOrderSo_X6_layOver : GoodIn wsL_isOrderSo wsX6_layOver := goodIn_r _ [234, 143, 8, 141, 203, 204, 205, 206, 207, 208, 209, 210, 211, 212, 213, 214, 215, 216, 217, 218, 40, 41, 25, 42, 27, 28, 43, 44, 45, 33, 46, 47, 48, 49, 38, 158, 159, 5, 160, 262, 263, 264, 265, 266, 267, 268, 269, 270, 271, 272, 273, 274, 275, 294, 295] (by decide +kernel) (by decide +kernel)
set_option maxRecDepth 20000 in
theorem gL_isOrderSo_X6_layOver : GoodIn wsL_isOrderSo (wsV RL 30 RX6 yX6_layOver wsX6_layOver) := goodIn_app (goodIn_of _ (by decide +kernel)) ggL_isOrderSo_X6_layOver
set_option maxRecDepth 20000 in
theorem ggL_isOrderSo_X6_ofBend : GoodIn wsL_isOrderSo wsX6_ofBend := goodIn_r _ [238, 8, 169, 9, 141, 239, 240, 241, 25, 242, 27, 219, 66, 67, 68, 28, 158, 159, 5, 160, 243, 244, 245, 246, 43, 170, 70, 71, 72, 73, 74, 75, 76, 77, 78, 79, 29, 30, 31, 32, 33, 80, 35, 36, 37, 38, 81, 82, 83, 84, 85, 86, 87, 19, 20, 21, 88, 89, 90, 91, 92, 93, 94, 95, 96, 97, 98, 99, 100, 101, 102, 103, 104, 105, 106, 107, 108, 109, 110, 111, 112, 113, 114, 115, 116, 117, 118, 119, 120, 121, 122, 123, 124, 125, 126, 127, 128, 129, 130, 131, 132, 133, 134, 247, 248, 249, 250, 251, 252, 253, 34, 262, 263, 264, 265, 266, 267, 268, 269, 270, 271, 272, 273, 274, 275, 282, 283, 284, 285, 286, 287, 288, 289, 290, 291, 292, 293] (by decide +kernel) (by decide +kernel)
set_option maxRecDepth 20000 in
theorem gL_isOrderSo_X6_ofBend : GoodIn wsL_isOrderSo (wsV RL 56 RX6 yX6_ofBend wsX6_ofBend) := goodIn_app (goodIn_of _ (by decide +kernel)) ggL_isOrderSo_X6_ofBend
set_option maxRecDepth 20000 in
theorem ggL_isOrderSo_X6_bend : GoodIn wsL_isOrderSo wsX6_bend := goodIn_r _ [257, 8, 169, 9, 141, 143, 239, 240, 241, 25, 242, 27, 170, 70, 71, 72, 73, 74, 75, 66, 67, 68, 28, 76, 77, 78, 79, 29, 30, 31, 32, 33, 80, 35, 36, 37, 38, 81, 82, 83, 84, 85, 86, 87, 19, 20, 21, 88, 89, 90, 91, 92, 93, 94, 95, 96, 97, 98, 99, 100, 101, 102, 103, 104, 105, 106, 107, 108, 109, 110, 111, 112, 113, 114, 115, 116, 117, 118, 119, 120, 121, 122, 123, 124, 125, 126, 127, 128, 129, 130, 131, 132, 133, 134, 203, 204, 205, 206, 207, 208, 209, 210, 211, 212, 213, 214, 215, 216, 217, 218, 40, 41, 42, 43, 44, 45, 46, 47, 48, 49, 220, 221, 222, 223, 147, 148, 149, 150, 151, 152, 153, 154, 155, 156, 157, 262, 263, 264, 265, 266, 267, 268, 269, 270, 271, 272, 273, 274, 275, 282, 283, 284, 285, 286, 287, 288, 289, 290, 291, 292, 293, 294, 295] (by decide +kernel) (by decide +kernel)
set_option maxRecDepth 20000 in
theorem gL_isOrderSo_X6_bend : GoodIn wsL_isOrderSo (wsV RL 34 RX6 yX6_bend wsX6_bend) := goodIn_app (goodIn_of _ (by decide +kernel)) ggL_isOrderSo_X6_bend
set_option maxRecDepth 20000 in
theorem ggL_isOrderSo_X6_restore : GoodIn wsL_isOrderSo wsX6_restore := goodIn_r _ [261, 229, 143, 8, 228, 203, 204, 205, 206, 207, 208, 209, 210, 211, 212, 213, 214, 215, 216, 217, 218, 40, 41, 25, 42, 27, 28, 43, 44, 45, 33, 46, 47, 48, 49, 38, 230, 147, 148, 149, 150, 151, 152, 153, 154, 155, 156, 157, 262, 263, 264, 265, 266, 267, 268, 294, 295, 269, 270, 271, 272, 273, 274, 275] (by decide +kernel) (by decide +kernel)
set_option maxRecDepth 20000 in
theorem gL_isOrderSo_X6_restore : GoodIn wsL_isOrderSo (wsV RL 75 RX6 yX6_restore wsX6_restore) := goodIn_app (goodIn_of _ (by decide +kernel)) ggL_isOrderSo_X6_restore
theorem dL_isOrderSo_0 : decode cL_isOrderSo 0 = .ok (.aload_n 0, 1) := by decide +kernel
theorem dL_isOrderSo_1 : decode cL_isOrderSo 1 = .ok (.invokevirtual 66, 3) := by decide +kernel
theorem dL_isOrderSo_4 : decode cL_isOrderSo 4 = .ok (.istore_n 1, 1) := by decide +kernel
theorem dL_isOrderSo_5 : decode cL_isOrderSo 5 = .ok (.aload_n 0, 1) := by decide +kernel
theorem dL_isOrderSo_6 : decode cL_isOrderSo 6 = .ok (.iconst 0, 1) := by decide +kernel
theorem dL_isOrderSo_7 : decode cL_isOrderSo 7 = .ok (.invokevirtual 8, 3) := by decide +kernel
theorem dL_isOrderSo_10 : decode cL_isOrderSo 10 = .ok (.aload_n 0, 1) := by decide +kernel
theorem dL_isOrderSo_11 : decode cL_isOrderSo 11 = .ok (.iconst 1, 1) := by decide +kernel
theorem dL_isOrderSo_12 : decode cL_isOrderSo 12 = .ok (.invokevirtual 8, 3) := by decide +kernel
theorem dL_isOrderSo_15 : decode cL_isOrderSo 15 = .ok (.isub, 1) := by decide +kernel
theorem dL_isOrderSo_16 : decode cL_isOrderSo 16 = .ok (.istore_n 2, 1) := by decide +kernel
theorem dL_isOrderSo_17 : decode cL_isOrderSo 17 = .ok (.aload_n 0, 1) := by decide +kernel
theorem dL_isOrderSo_18 : decode cL_isOrderSo 18 = .ok (.iconst 5, 1) := by decide +kernel
theorem dL_isOrderSo_19 : decode cL_isOrderSo 19 = .ok (.invokevirtual 8, 3) := by decide +kernel
theorem dL_isOrderSo_22 : decode cL_isOrderSo 22 = .ok (.istore_n 3, 1) := by decide +kernel
theorem dL_isOrderSo_23 : decode cL_isOrderSo 23 = .ok (.aload_n 0, 1) := by decide +kernel
theorem dL_isOrderSo_24 : decode cL_isOrderSo 24 = .ok (.iconst 0, 1) := by decide +kernel
theorem dL_isOrderSo_25 : decode cL_isOrderSo 25 = .ok (.invokevirtual 69, 3) := by decide +kernel
theorem dL_isOrderSo_28 : decode cL_isOrderSo 28 = .ok (.istore 4, 2) := by decide +kernel
theorem dL_isOrderSo_30 : decode cL_isOrderSo 30 = .ok (.iload_n 1, 1) := by decide +kernel
theorem dL_isOrderSo_31 : decode cL_isOrderSo 31 = .ok (.ifCond .ne 43, 3) := by decide +kernel
theorem dL_isOrderSo_34 : decode cL_isOrderSo 34 = .ok (.aload_n 0, 1) := by decide +kernel
theorem dL_isOrderSo_35 : decode cL_isOrderSo 35 = .ok (.iconst 3, 1) := by decide +kernel
theorem dL_isOrderSo_36 : decode cL_isOrderSo 36 = .ok (.invokevirtual 8, 3) := by decide +kernel
theorem dL_isOrderSo_39 : decode cL_isOrderSo 39 = .ok (.ifCond .ne 33, 3) := by decide +kernel
theorem dL_isOrderSo_42 : decode cL_isOrderSo 42 = .ok (.iload_n 3, 1) := by decide +kernel
theorem dL_isOrderSo_43 : decode cL_isOrderSo 43 = .ok (.sipush (-1005), 3) := by decide +kernel
theorem dL_isOrderSo_46 : decode cL_isOrderSo 46 = .ok (.if_icmp .ne 26, 3) := by decide +kernel
theorem dL_isOrderSo_49 : decode cL_isOrderSo 49 = .ok (.iload 4, 2) := by decide +kernel
theorem dL_isOrderSo_51 : decode cL_isOrderSo 51 = .ok (.sipush (-1004), 3) := by decide +kernel
theorem dL_isOrderSo_54 : decode cL_isOrderSo 54 = .ok (.if_icmp .ne 18, 3) := by decide +kernel
theorem dL_isOrderSo_57 : decode cL_isOrderSo 57 = .ok (.aload_n 0, 1) := by decide +kernel
theorem dL_isOrderSo_58 : decode cL_isOrderSo 58 = .ok (.iconst 2, 1) := by decide +kernel
theorem dL_isOrderSo_59 : decode cL_isOrderSo 59 = .ok (.invokevirtual 40, 3) := by decide +kernel
theorem dL_isOrderSo_62 : decode cL_isOrderSo 62 = .ok (.sipush (-1004), 3) := by decide +kernel
theorem dL_isOrderSo_65 : decode cL_isOrderSo 65 = .ok (.if_icmp .ne 7, 3) := by decide +kernel
theorem dL_isOrderSo_68 : decode cL_isOrderSo 68 = .ok (.iconst 1, 1) := by decide +kernel
theorem dL_isOrderSo_69 : decode cL_isOrderSo 69 = .ok (.goto 4, 3) := by decide +kernel
theorem dL_isOrderSo_72 : decode cL_isOrderSo 72 = .ok (.iconst 0, 1) := by decide +kernel
theorem dL_isOrderSo_73 : decode cL_isOrderSo 73 = .ok (.ireturn, 1) := by decide +kernel
theorem dL_isOrderSo_74 : decode cL_isOrderSo 74 = .ok (.aload_n 0, 1) := by decide +kernel
theorem dL_isOrderSo_75 : decode cL_isOrderSo 75 = .ok (.iconst 3, 1) := by decide +kernel
theorem dL_isOrderSo_76 : decode cL_isOrderSo 76 = .ok (.invokevirtual 8, 3) := by decide +kernel
theorem dL_isOrderSo_79 : decode cL_isOrderSo 79 = .ok (.iconst 1, 1) := by decide +kernel
theorem dL_isOrderSo_80 : decode cL_isOrderSo 80 = .ok (.if_icmp .ne 47, 3) := by decide +kernel
theorem dL_isOrderSo_83 : decode cL_isOrderSo 83 = .ok (.iload_n 3, 1) := by decide +kernel
theorem dL_isOrderSo_84 : decode cL_isOrderSo 84 = .ok (.ifCond .lt 43, 3) := by decide +kernel
theorem dL_isOrderSo_87 : decode cL_isOrderSo 87 = .ok (.iload_n 3, 1) := by decide +kernel
theorem dL_isOrderSo_88 : decode cL_isOrderSo 88 = .ok (.iload_n 2, 1) := by decide +kernel
theorem dL_isOrderSo_89 : decode cL_isOrderSo 89 = .ok (.if_icmp .gt 38, 3) := by decide +kernel
theorem dL_isOrderSo_92 : decode cL_isOrderSo 92 = .ok (.aload_n 0, 1) := by decide +kernel
theorem dL_isOrderSo_93 : decode cL_isOrderSo 93 = .ok (.iload_n 2, 1) := by decide +kernel
theorem dL_isOrderSo_94 : decode cL_isOrderSo 94 = .ok (.invokevirtual 69, 3) := by decide +kernel
theorem dL_isOrderSo_97 : decode cL_isOrderSo 97 = .ok (.sipush (-1005), 3) := by decide +kernel
theorem dL_isOrderSo_100 : decode cL_isOrderSo 100 = .ok (.if_icmp .ne 27, 3) := by decide +kernel
theorem dL_isOrderSo_103 : decode cL_isOrderSo 103 = .ok (.iload_n 2, 1) := by decide +kernel
theorem dL_isOrderSo_104 : decode cL_isOrderSo 104 = .ok (.ifCond .gt 19, 3) := by decide +kernel
theorem dL_isOrderSo_107 : decode cL_isOrderSo 107 = .ok (.iload_n 1, 1) := by decide +kernel
theorem dL_isOrderSo_108 : decode cL_isOrderSo 108 = .ok (.iconst 1, 1) := by decide +kernel
theorem dL_isOrderSo_109 : decode cL_isOrderSo 109 = .ok (.if_icmp .ne 18, 3) := by decide +kernel
theorem dL_isOrderSo_112 : decode cL_isOrderSo 112 = .ok (.aload_n 0, 1) := by decide +kernel
theorem dL_isOrderSo_113 : decode cL_isOrderSo 113 = .ok (.iconst 1, 1) := by decide +kernel
theorem dL_isOrderSo_114 : decode cL_isOrderSo 114 = .ok (.invokevirtual 40, 3) := by decide +kernel
theorem dL_isOrderSo_117 : decode cL_isOrderSo 117 = .ok (.sipush (-1005), 3) := by decide +kernel
theorem dL_isOrderSo_120 : decode cL_isOrderSo 120 = .ok (.if_icmp .ne 7, 3) := by decide +kernel
theorem dL_isOrderSo_123 : decode cL_isOrderSo 123 = .ok (.iconst 1, 1) := by decide +kernel
theorem dL_isOrderSo_124 : decode cL_isOrderSo 124 = .ok (.goto 4, 3) := by decide +kernel
theorem dL_isOrderSo_127 : decode cL_isOrderSo 127 = .ok (.iconst 0, 1) := by decide +kernel
theorem dL_isOrderSo_128 : decode cL_isOrderSo 128 = .ok (.istore 5, 2) := by decide +kernel
theorem dL_isOrderSo_130 : decode cL_isOrderSo 130 = .ok (.bipush 7, 2) := by decide +kernel
theorem dL_isOrderSo_132 : decode cL_isOrderSo 132 = .ok (.newarray .int, 2) := by decide +kernel
theorem dL_isOrderSo_134 : decode cL_isOrderSo 134 = .ok (.astore 6, 2) := by decide +kernel
theorem dL_isOrderSo_136 : decode cL_isOrderSo 136 = .ok (.iconst 0, 1) := by decide +kernel
theorem dL_isOrderSo_137 : decode cL_isOrderSo 137 = .ok (.istore 7, 2) := by decide +kernel
theorem dL_isOrderSo_139 : decode cL_isOrderSo 139 = .ok (.iload 7, 2) := by decide +kernel
theorem dL_isOrderSo_141 : decode cL_isOrderSo 141 = .ok (.iload_n 2, 1) := by decide +kernel
theorem dL_isOrderSo_142 : decode cL_isOrderSo 142 = .ok (.if_icmp .ge 20, 3) := by decide +kernel
theorem dL_isOrderSo_145 : decode cL_isOrderSo 145 = .ok (.aload 6, 2) := by decide +kernel
theorem dL_isOrderSo_147 : decode cL_isOrderSo 147 = .ok (.iload 7, 2) := by decide +kernel
theorem dL_isOrderSo_149 : decode cL_isOrderSo 149 = .ok (.aload_n 0, 1) := by decide +kernel
theorem dL_isOrderSo_150 : decode cL_isOrderSo 150 = .ok (.iload 7, 2) := by decide +kernel
theorem dL_isOrderSo_152 : decode cL_isOrderSo 152 = .ok (.invokevirtual 69, 3) := by decide +kernel
theorem dL_isOrderSo_155 : decode cL_isOrderSo 155 = .ok (.iastore, 1) := by decide +kernel
theorem dL_isOrderSo_156 : decode cL_isOrderSo 156 = .ok (.iinc 7 1, 3) := by decide +kernel
theorem dL_isOrderSo_159 : decode cL_isOrderSo 159 = .ok (.goto (-20), 3) := by decide +kernel
theorem dL_isOrderSo_162 : decode cL_isOrderSo 162 = .ok (.aload_n 0, 1) := by decide +kernel
theorem dL_isOrderSo_163 : decode cL_isOrderSo 163 = .ok (.invokevirtual 72, 3) := by decide +kernel
theorem dL_isOrderSo_166 : decode cL_isOrderSo 166 = .ok (.istore 7, 2) := by decide +kernel
theorem dL_isOrderSo_168 : decode cL_isOrderSo 168 = .ok (.aload_n 0, 1) := by decide +kernel
theorem dL_isOrderSo_169 : decode cL_isOrderSo 169 = .ok (.invokevirtual 30, 3) := by decide +kernel
theorem dL_isOrderSo_172 : decode cL_isOrderSo 172 = .ok (.istore 8, 2) := by decide +kernel
theorem dL_isOrderSo_174 : decode cL_isOrderSo 174 = .ok (.iload 5, 2) := by decide +kernel
theorem dL_isOrderSo_176 : decode cL_isOrderSo 176 = .ok (.ifCond .eq 29, 3) := by decide +kernel
theorem dL_isOrderSo_179 : decode cL_isOrderSo 179 = .ok (.aload_n 0, 1) := by decide +kernel
theorem dL_isOrderSo_180 : decode cL_isOrderSo 180 = .ok (.invokevirtual 66, 3) := by decide +kernel
theorem dL_isOrderSo_183 : decode cL_isOrderSo 183 = .ok (.iload_n 1, 1) := by decide +kernel
theorem dL_isOrderSo_184 : decode cL_isOrderSo 184 = .ok (.if_icmp .ne 21, 3) := by decide +kernel
theorem dL_isOrderSo_187 : decode cL_isOrderSo 187 = .ok (.iload_n 2, 1) := by decide +kernel
theorem dL_isOrderSo_188 : decode cL_isOrderSo 188 = .ok (.ifCond .eq 13, 3) := by decide +kernel
theorem dL_isOrderSo_191 : decode cL_isOrderSo 191 = .ok (.aload_n 0, 1) := by decide +kernel
theorem dL_isOrderSo_192 : decode cL_isOrderSo 192 = .ok (.iconst 0, 1) := by decide +kernel
theorem dL_isOrderSo_193 : decode cL_isOrderSo 193 = .ok (.invokevirtual 69, 3) := by decide +kernel
theorem dL_isOrderSo_196 : decode cL_isOrderSo 196 = .ok (.iload 4, 2) := by decide +kernel
theorem dL_isOrderSo_198 : decode cL_isOrderSo 198 = .ok (.if_icmp .ne 7, 3) := by decide +kernel
theorem dL_isOrderSo_201 : decode cL_isOrderSo 201 = .ok (.iconst 1, 1) := by decide +kernel
theorem dL_isOrderSo_202 : decode cL_isOrderSo 202 = .ok (.goto 4, 3) := by decide +kernel
theorem dL_isOrderSo_205 : decode cL_isOrderSo 205 = .ok (.iconst 0, 1) := by decide +kernel
theorem dL_isOrderSo_206 : decode cL_isOrderSo 206 = .ok (.istore 5, 2) := by decide +kernel
theorem dL_isOrderSo_208 : decode cL_isOrderSo 208 = .ok (.aload_n 0, 1) := by decide +kernel
theorem dL_isOrderSo_209 : decode cL_isOrderSo 209 = .ok (.invokevirtual 30, 3) := by decide +kernel
theorem dL_isOrderSo_212 : decode cL_isOrderSo 212 = .ok (.istore 8, 2) := by decide +kernel
theorem dL_isOrderSo_214 : decode cL_isOrderSo 214 = .ok (.iconst 0, 1) := by decide +kernel
theorem dL_isOrderSo_215 : decode cL_isOrderSo 215 = .ok (.istore 9, 2) := by decide +kernel
theorem dL_isOrderSo_217 : decode cL_isOrderSo 217 = .ok (.iload 9, 2) := by decide +kernel
theorem dL_isOrderSo_219 : decode cL_isOrderSo 219 = .ok (.iload_n 2, 1) := by decide +kernel
theorem dL_isOrderSo_220 : decode cL_isOrderSo 220 = .ok (.if_icmp .ge 89, 3) := by decide +kernel
theorem dL_isOrderSo_223 : decode cL_isOrderSo 223 = .ok (.aload_n 0, 1) := by decide +kernel
theorem dL_isOrderSo_224 : decode cL_isOrderSo 224 = .ok (.aload 6, 2) := by decide +kernel
theorem dL_isOrderSo_226 : decode cL_isOrderSo 226 = .ok (.iload 9, 2) := by decide +kernel
theorem dL_isOrderSo_228 : decode cL_isOrderSo 228 = .ok (.iaload, 1) := by decide +kernel
theorem dL_isOrderSo_229 : decode cL_isOrderSo 229 = .ok (.iconst 2, 1) := by decide +kernel
theorem dL_isOrderSo_230 : decode cL_isOrderSo 230 = .ok (.invokevirtual 56, 3) := by decide +kernel
theorem dL_isOrderSo_233 : decode cL_isOrderSo 233 = .ok (.iconst 2, 1) := by decide +kernel
theorem dL_isOrderSo_234 : decode cL_isOrderSo 234 = .ok (.if_icmp .ne 12, 3) := by decide +kernel
theorem dL_isOrderSo_237 : decode cL_isOrderSo 237 = .ok (.aload_n 0, 1) := by decide +kernel
theorem dL_isOrderSo_238 : decode cL_isOrderSo 238 = .ok (.invokevirtual 30, 3) := by decide +kernel
theorem dL_isOrderSo_241 : decode cL_isOrderSo 241 = .ok (.istore 8, 2) := by decide +kernel
theorem dL_isOrderSo_243 : decode cL_isOrderSo 243 = .ok (.iinc 3 (-1), 3) := by decide +kernel
theorem dL_isOrderSo_246 : decode cL_isOrderSo 246 = .ok (.iload 5, 2) := by decide +kernel
theorem dL_isOrderSo_248 : decode cL_isOrderSo 248 = .ok (.ifCond .eq 52, 3) := by decide +kernel
theorem dL_isOrderSo_251 : decode cL_isOrderSo 251 = .ok (.aload_n 0, 1) := by decide +kernel
theorem dL_isOrderSo_252 : decode cL_isOrderSo 252 = .ok (.iconst 0, 1) := by decide +kernel
theorem dL_isOrderSo_253 : decode cL_isOrderSo 253 = .ok (.invokevirtual 69, 3) := by decide +kernel
theorem dL_isOrderSo_256 : decode cL_isOrderSo 256 = .ok (.aload 6, 2) := by decide +kernel
theorem dL_isOrderSo_258 : decode cL_isOrderSo 258 = .ok (.iload 9, 2) := by decide +kernel
theorem dL_isOrderSo_260 : decode cL_isOrderSo 260 = .ok (.iaload, 1) := by decide +kernel
theorem dL_isOrderSo_261 : decode cL_isOrderSo 261 = .ok (.if_icmp .ne 39, 3) := by decide +kernel
theorem dL_isOrderSo_264 : decode cL_isOrderSo 264 = .ok (.aload_n 0, 1) := by decide +kernel
theorem dL_isOrderSo_265 : decode cL_isOrderSo 265 = .ok (.aload 6, 2) := by decide +kernel
theorem dL_isOrderSo_267 : decode cL_isOrderSo 267 = .ok (.iload 9, 2) := by decide +kernel
theorem dL_isOrderSo_269 : decode cL_isOrderSo 269 = .ok (.iaload, 1) := by decide +kernel
theorem dL_isOrderSo_270 : decode cL_isOrderSo 270 = .ok (.iconst 2, 1) := by decide +kernel
theorem dL_isOrderSo_271 : decode cL_isOrderSo 271 = .ok (.invokevirtual 56, 3) := by decide +kernel
theorem dL_isOrderSo_274 : decode cL_isOrderSo 274 = .ok (.ifCond .ne 26, 3) := by decide +kernel
theorem dL_isOrderSo_277 : decode cL_isOrderSo 277 = .ok (.aload_n 0, 1) := by decide +kernel
theorem dL_isOrderSo_278 : decode cL_isOrderSo 278 = .ok (.aload 6, 2) := by decide +kernel
theorem dL_isOrderSo_280 : decode cL_isOrderSo 280 = .ok (.iload 9, 2) := by decide +kernel
theorem dL_isOrderSo_282 : decode cL_isOrderSo 282 = .ok (.iaload, 1) := by decide +kernel
theorem dL_isOrderSo_283 : decode cL_isOrderSo 283 = .ok (.invokevirtual 34, 3) := by decide +kernel
theorem dL_isOrderSo_286 : decode cL_isOrderSo 286 = .ok (.iload 7, 2) := by decide +kernel
theorem dL_isOrderSo_288 : decode cL_isOrderSo 288 = .ok (.iload 9, 2) := by decide +kernel
theorem dL_isOrderSo_290 : decode cL_isOrderSo 290 = .ok (.iadd, 1) := by decide +kernel
theorem dL_isOrderSo_291 : decode cL_isOrderSo 291 = .ok (.iconst 1, 1) := by decide +kernel
theorem dL_isOrderSo_292 : decode cL_isOrderSo 292 = .ok (.iadd, 1) := by decide +kernel
theorem dL_isOrderSo_293 : decode cL_isOrderSo 293 = .ok (.if_icmp .ne 7, 3) := by decide +kernel
theorem dL_isOrderSo_296 : decode cL_isOrderSo 296 = .ok (.iconst 1, 1) := by decide +kernel
theorem dL_isOrderSo_297 : decode cL_isOrderSo 297 = .ok (.goto 4, 3) := by decide +kernel
theorem dL_isOrderSo_300 : decode cL_isOrderSo 300 = .ok (.iconst 0, 1) := by decide +kernel
theorem dL_isOrderSo_301 : decode cL_isOrderSo 301 = .ok (.istore 5, 2) := by decide +kernel
theorem dL_isOrderSo_303 : decode cL_isOrderSo 303 = .ok (.iinc 9 1, 3) := by decide +kernel
theorem dL_isOrderSo_306 : decode cL_isOrderSo 306 = .ok (.goto (-89), 3) := by decide +kernel
theorem dL_isOrderSo_309 : decode cL_isOrderSo 309 = .ok (.iload 5, 2) := by decide +kernel
theorem dL_isOrderSo_311 : decode cL_isOrderSo 311 = .ok (.ifCond .eq 19, 3) := by decide +kernel
theorem dL_isOrderSo_314 : decode cL_isOrderSo 314 = .ok (.iload_n 3, 1) := by decide +kernel
theorem dL_isOrderSo_315 : decode cL_isOrderSo 315 = .ok (.ifCond .ne 15, 3) := by decide +kernel
theorem dL_isOrderSo_318 : decode cL_isOrderSo 318 = .ok (.aload_n 0, 1) := by decide +kernel
theorem dL_isOrderSo_319 : decode cL_isOrderSo 319 = .ok (.invokevirtual 66, 3) := by decide +kernel
theorem dL_isOrderSo_322 : decode cL_isOrderSo 322 = .ok (.iconst 1, 1) := by decide +kernel
theorem dL_isOrderSo_323 : decode cL_isOrderSo 323 = .ok (.if_icmp .ne 7, 3) := by decide +kernel
theorem dL_isOrderSo_326 : decode cL_isOrderSo 326 = .ok (.iconst 1, 1) := by decide +kernel
theorem dL_isOrderSo_327 : decode cL_isOrderSo 327 = .ok (.goto 4, 3) := by decide +kernel
theorem dL_isOrderSo_330 : decode cL_isOrderSo 330 = .ok (.iconst 0, 1) := by decide +kernel
theorem dL_isOrderSo_331 : decode cL_isOrderSo 331 = .ok (.istore 5, 2) := by decide +kernel
theorem dL_isOrderSo_333 : decode cL_isOrderSo 333 = .ok (.iload 5, 2) := by decide +kernel
theorem dL_isOrderSo_335 : decode cL_isOrderSo 335 = .ok (.ifCond .eq 24, 3) := by decide +kernel
theorem dL_isOrderSo_338 : decode cL_isOrderSo 338 = .ok (.aload_n 0, 1) := by decide +kernel
theorem dL_isOrderSo_339 : decode cL_isOrderSo 339 = .ok (.invokevirtual 75, 3) := by decide +kernel
theorem dL_isOrderSo_342 : decode cL_isOrderSo 342 = .ok (.iload 7, 2) := by decide +kernel
theorem dL_isOrderSo_344 : decode cL_isOrderSo 344 = .ok (.if_icmp .ne 15, 3) := by decide +kernel
theorem dL_isOrderSo_347 : decode cL_isOrderSo 347 = .ok (.aload_n 0, 1) := by decide +kernel
theorem dL_isOrderSo_348 : decode cL_isOrderSo 348 = .ok (.invokevirtual 66, 3) := by decide +kernel
theorem dL_isOrderSo_351 : decode cL_isOrderSo 351 = .ok (.iload_n 1, 1) := by decide +kernel
theorem dL_isOrderSo_352 : decode cL_isOrderSo 352 = .ok (.if_icmp .ne 7, 3) := by decide +kernel
theorem dL_isOrderSo_355 : decode cL_isOrderSo 355 = .ok (.iconst 1, 1) := by decide +kernel
theorem dL_isOrderSo_356 : decode cL_isOrderSo 356 = .ok (.goto 4, 3) := by decide +kernel
theorem dL_isOrderSo_359 : decode cL_isOrderSo 359 = .ok (.iconst 0, 1) := by decide +kernel
theorem dL_isOrderSo_360 : decode cL_isOrderSo 360 = .ok (.ireturn, 1) := by decide +kernel
set_option maxRecDepth 20000 in
theorem ggL_areOrdersSo_X6_orders : GoodIn wsL_areOrdersSo wsX6_orders := goodIn_r _ [5, 6, 7, 8, 9, 10, 11, 12, 13, 14, 15, 16, 17, 18, 19, 20, 21, 22, 23, 24, 25, 26, 27, 28, 29, 30, 31, 32, 33, 34, 35, 36, 37, 38, 39, 40, 41, 42, 43, 44, 45, 46, 47, 48, 49, 50, 51, 52, 53, 54, 55, 56, 57, 58, 59, 60, 61, 62, 63, 64, 65, 66, 67, 68, 69, 70, 71, 72, 73, 74, 75, 76, 77, 78, 79, 80, 81, 82, 83, 84, 85, 86, 87, 88, 89, 90, 91, 92, 93, 94, 95, 96, 97, 98, 99, 100, 101, 102, 103, 104, 105, 106, 107, 108, 109, 110, 111, 112, 113, 114, 115, 116, 117, 118, 119, 120, 121, 122, 123, 124, 125, 126, 127, 128, 129, 130, 131, 132, 133, 134, 264, 265, 266, 267, 268, 269, 270, 271, 272, 273, 274, 275, 276, 277, 278, 279, 280, 281, 282, 283, 284, 285, 286, 287, 288, 289, 290, 291, 292, 293, 294, 295] (by decide +kernel) (by decide +kernel)
set_option maxRecDepth 20000 in
theorem gL_areOrdersSo_X6_orders : GoodIn wsL_areOrdersSo (wsV RL 66 RX6 yX6_orders wsX6_orders) := goodIn_app (goodIn_of _ (by decide +kernel)) ggL_areOrdersSo_X6_orders
set_option maxRecDepth 20000 in
theorem ggL_areOrdersSo_X6_mustWait : GoodIn wsL_areOrdersSo wsX6_mustWait := goodIn_r _ [138, 6, 7, 8, 139, 140, 141, 4, 142, 143, 144, 145, 24, 146, 26, 147, 148, 149, 150, 42, 151, 152, 153, 154, 9, 10, 11, 12, 13, 14, 15, 16, 17, 18, 19, 20, 21, 22, 23, 25, 27, 28, 29, 30, 31, 32, 33, 34, 35, 36, 37, 38, 39, 40, 41, 43, 44, 45, 46, 47, 48, 49, 50, 51, 52, 53, 54, 55, 56, 57, 58, 59, 60, 61, 62, 63, 64, 65, 66, 67, 68, 69, 70, 71, 72, 73, 74, 75, 76, 77, 78, 79, 80, 81, 82, 83, 84, 85, 86, 87, 88, 89, 90, 91, 92, 93, 94, 95, 96, 97, 98, 99, 100, 101, 102, 103, 104, 105, 106, 107, 108, 109, 110, 111, 112, 113, 114, 115, 116, 117, 118, 119, 120, 121, 122, 123, 124, 125, 126, 127, 128, 129, 130, 131, 132, 133, 134, 155, 156, 157, 158, 159, 160, 161, 162, 163, 164, 165, 166, 167, 168, 169, 170, 171, 172, 173, 264, 265, 266, 267, 268, 269, 270, 271, 272, 273, 274, 275, 276, 277, 278, 279, 280, 281, 282, 283, 284, 285, 286, 287, 288, 289, 290, 291, 292, 293, 294, 295] (by decide +kernel) (by decide +kernel)
set_option maxRecDepth 20000 in
theorem gL_areOrdersSo_X6_mustWait : GoodIn wsL_areOrdersSo (wsV RL 78 RX6 yX6_mustWait wsX6_mustWait) := goodIn_app (goodIn_of _ (by decide +kernel)) ggL_areOrdersSo_X6_mustWait
set_option maxRecDepth 20000 in
theorem ggL_areOrdersSo_X6_count : GoodIn wsL_areOrdersSo wsX6_count := goodIn_r _ [177, 7, 178, 179, 6, 8, 180, 181, 182, 183, 184, 185, 186, 187, 24, 188, 42, 189, 190, 191, 192, 193, 194, 195, 171, 172, 4, 173, 151, 152, 153, 154, 9, 10, 11, 12, 13, 14, 15, 16, 17, 18, 19, 20, 21, 22, 23, 25, 26, 27, 28, 29, 30, 31, 32, 33, 34, 35, 36, 37, 38, 39, 40, 41, 43, 44, 45, 46, 47, 48, 49, 50, 51, 52, 53, 54, 55, 56, 57, 58, 59, 60, 61, 62, 63, 64, 65, 66, 67, 68, 69, 70, 71, 72, 73, 74, 75, 76, 77, 78, 79, 80, 81, 82, 83, 84, 85, 86, 87, 88, 89, 90, 91, 92, 93, 94, 95, 96, 97, 98, 99, 100, 101, 102, 103, 104, 105, 106, 107, 108, 109, 110, 111, 112, 113, 114, 115, 116, 117, 118, 119, 120, 121, 122, 123, 124, 125, 126, 127, 128, 129, 130, 131, 132, 133, 134, 196, 197, 198, 199, 200, 201, 202, 203, 204, 205, 206, 207, 208, 209, 163, 164, 165, 166, 210, 211, 212, 213, 214, 264, 265, 266, 267, 268, 269, 270, 271, 272, 273, 274, 275, 276, 277, 296, 297, 298, 299, 278, 279, 280, 281, 282, 283, 284, 285, 286, 287, 288, 289, 290, 291, 292, 293, 294, 295] (by decide +kernel) (by decide +kernel)
set_option maxRecDepth 20000 in
theorem gL_areOrdersSo_X6_count : GoodIn wsL_areOrdersSo (wsV RL 8 RX6 yX6_count wsX6_count) := goodIn_app (goodIn_of _ (by decide +kernel)) ggL_areOrdersSo_X6_count
set_option maxRecDepth 20000 in
theorem ggL_areOrdersSo_X6_keep : GoodIn wsL_areOrdersSo wsX6_keep := goodIn_r _ [218, 219, 7, 220, 221, 39, 40, 24, 41, 26, 27, 42, 43, 44, 32, 45, 46, 47, 48, 37, 185, 186, 187, 188, 189, 190, 191, 192, 193, 194, 195, 264, 265, 266, 267, 268, 269, 270, 271, 272, 273, 274, 275, 276, 277] (by decide +kernel) (by decide +kernel)
set_option maxRecDepth 20000 in
theorem gL_areOrdersSo_X6_keep : GoodIn wsL_areOrdersSo (wsV RL 72 RX6 yX6_keep wsX6_keep) := goodIn_app (goodIn_of _ (by decide +kernel)) ggL_areOrdersSo_X6_keep
set_option maxRecDepth 20000 in
theorem ggL_areOrdersSo_X6_ofBend : GoodIn wsL_areOrdersSo wsX6_ofBend := goodIn_r _ [225, 7, 200, 8, 179, 143, 144, 145, 24, 146, 26, 226, 65, 66, 67, 27, 171, 172, 4, 173, 147, 148, 149, 150, 42, 201, 69, 70, 71, 72, 73, 74, 75, 76, 77, 78, 28, 29, 30, 31, 32, 79, 34, 35, 36, 37, 80, 81, 82, 83, 84, 85, 86, 18, 19, 20, 87, 88, 89, 90, 91, 92, 93, 94, 95, 96, 97, 98, 99, 100, 101, 102, 103, 104, 105, 106, 107, 108, 109, 110, 111, 112, 113, 114, 115, 116, 117, 118, 119, 120, 121, 122, 123, 124, 125, 126, 127, 128, 129, 130, 131, 132, 133, 227, 228, 229, 230, 231, 161, 162, 33, 264, 265, 266, 267, 268, 269, 270, 271, 272, 273, 274, 275, 276, 277, 284, 285, 286, 287, 288, 289, 290, 291, 292, 293, 294, 295] (by decide +kernel) (by decide +kernel)
set_option maxRecDepth 20000 in
theorem gL_areOrdersSo_X6_ofBend : GoodIn wsL_areOrdersSo (wsV RL 56 RX6 yX6_ofBend wsX6_ofBend) := goodIn_app (goodIn_of _ (by decide +kernel)) ggL_areOrdersSo_X6_ofBend
set_option maxRecDepth 20000 in
theorem ggL_areOrdersSo_X6_layOver : GoodIn wsL_areOrdersSo wsX6_layOver := goodIn_r _ [235, 181, 7, 179, 236, 237, 238, 239, 240, 241, 242, 243, 244, 245, 246, 247, 248, 249, 250, 251, 39, 40, 24, 41, 26, 27, 42, 43, 44, 32, 45, 46, 47, 48, 37, 171, 172, 4, 173, 264, 265, 266, 267, 268, 269, 270, 271, 272, 273, 274, 275, 276, 277, 296, 297] (by decide +kernel) (by decide +kernel)
set_option maxRecDepth 20000 in
theorem gL_areOrdersSo_X6_layOver : GoodIn wsL_areOrdersSo (wsV RL 30 RX6 yX6_layOver wsX6_layOver) := goodIn_app (goodIn_of _ (by decide +kernel)) ggL_areOrdersSo_X6_layOver
set_option maxRecDepth 20000 in
theorem ggL_areOrdersSo_X6_bend : GoodIn wsL_areOrdersSo wsX6_bend := goodIn_r _ [255, 7, 200, 8, 179, 181, 143, 144, 145, 24, 146, 26, 201, 69, 70, 71, 72, 73, 74, 65, 66, 67, 27, 75, 76, 77, 78, 28, 29, 30, 31, 32, 79, 34, 35, 36, 37, 80, 81, 82, 83, 84, 85, 86, 18, 19, 20, 87, 88, 89, 90, 91, 92, 93, 94, 95, 96, 97, 98, 99, 100, 101, 102, 103, 104, 105, 106, 107, 108, 109, 110, 111, 112, 113, 114, 115, 116, 117, 118, 119, 120, 121, 122, 123, 124, 125, 126, 127, 128, 129, 130, 131, 132, 133, 236, 237, 238, 239, 240, 241, 242, 243, 244, 245, 246, 247, 248, 249, 250, 251, 39, 40, 41, 42, 43, 44, 45, 46, 47, 48, 256, 257, 258, 259, 185, 186, 187, 188, 189, 190, 191, 192, 193, 194, 195, 264, 265, 266, 267, 268, 269, 270, 271, 272, 273, 274, 275, 276, 277, 284, 285, 286, 287, 288, 289, 290, 291, 292, 293, 294, 295, 296, 297] (by decide +kernel) (by decide +kernel)
set_option maxRecDepth 20000 in
theorem gL_areOrdersSo_X6_bend : GoodIn wsL_areOrdersSo (wsV RL 34 RX6 yX6_bend wsX6_bend) := goodIn_app (goodIn_of _ (by decide +kernel)) ggL_areOrdersSo_X6_bend
set_option maxRecDepth 20000 in
theorem ggL_areOrdersSo_X6_restore : GoodIn wsL_areOrdersSo wsX6_restore := goodIn_r _ [263, 220, 181, 7, 219, 236, 237, 238, 239, 240, 241, 242, 243, 244, 245, 246, 247, 248, 249, 250, 251, 39, 40, 24, 41, 26, 27, 42, 43, 44, 32, 45, 46, 47, 48, 37, 221, 185, 186, 187, 188, 189, 190, 191, 192, 193, 194, 195, 264, 265, 266, 267, 268, 269, 270, 296, 297, 271, 272, 273, 274, 275, 276, 277] (by decide +kernel) (by decide +kernel)
set_option maxRecDepth 20000 in
theorem gL_areOrdersSo_X6_restore : GoodIn wsL_areOrdersSo (wsV RL 75 RX6 yX6_restore wsX6_restore) := goodIn_app (goodIn_of _ (by decide +kernel)) ggL_areOrdersSo_X6_restore
theorem dL_areOrdersSo_0 : decode cL_areOrdersSo 0 = .ok (.aload_n 0, 1) := by decide +kernel
theorem dL_areOrdersSo_1 : decode cL_areOrdersSo 1 = .ok (.invokevirtual 66, 3) := by decide +kernel
theorem dL_areOrdersSo_4 : decode cL_areOrdersSo 4 = .ok (.istore_n 3, 1) := by decide +kernel
theorem dL_areOrdersSo_5 : decode cL_areOrdersSo 5 = .ok (.aload_n 0, 1) := by decide +kernel
theorem dL_areOrdersSo_6 : decode cL_areOrdersSo 6 = .ok (.iload_n 1, 1) := by decide +kernel
theorem dL_areOrdersSo_7 : decode cL_areOrdersSo 7 = .ok (.iload_n 2, 1) := by decide +kernel
theorem dL_areOrdersSo_8 : decode cL_areOrdersSo 8 = .ok (.invokevirtual 78, 3) := by decide +kernel
theorem dL_areOrdersSo_11 : decode cL_areOrdersSo 11 = .ok (.istore 4, 2) := by decide +kernel
theorem dL_areOrdersSo_13 : decode cL_areOrdersSo 13 = .ok (.aload_n 0, 1) := by decide +kernel
theorem dL_areOrdersSo_14 : decode cL_areOrdersSo 14 = .ok (.iconst 0, 1) := by decide +kernel
theorem dL_areOrdersSo_15 : decode cL_areOrdersSo 15 = .ok (.invokevirtual 8, 3) := by decide +kernel
theorem dL_areOrdersSo_18 : decode cL_areOrdersSo 18 = .ok (.istore 5, 2) := by decide +kernel
theorem dL_areOrdersSo_20 : decode cL_areOrdersSo 20 = .ok (.aload_n 0, 1) := by decide +kernel
theorem dL_areOrdersSo_21 : decode cL_areOrdersSo 21 = .ok (.iconst 1, 1) := by decide +kernel
theorem dL_areOrdersSo_22 : decode cL_areOrdersSo 22 = .ok (.invokevirtual 8, 3) := by decide +kernel
theorem dL_areOrdersSo_25 : decode cL_areOrdersSo 25 = .ok (.iload 5, 2) := by decide +kernel
theorem dL_areOrdersSo_27 : decode cL_areOrdersSo 27 = .ok (.if_icmp .ne 7, 3) := by decide +kernel
theorem dL_areOrdersSo_30 : decode cL_areOrdersSo 30 = .ok (.iconst 1, 1) := by decide +kernel
theorem dL_areOrdersSo_31 : decode cL_areOrdersSo 31 = .ok (.goto 4, 3) := by decide +kernel
theorem dL_areOrdersSo_34 : decode cL_areOrdersSo 34 = .ok (.iconst 0, 1) := by decide +kernel
theorem dL_areOrdersSo_35 : decode cL_areOrdersSo 35 = .ok (.istore 6, 2) := by decide +kernel
theorem dL_areOrdersSo_37 : decode cL_areOrdersSo 37 = .ok (.iconst 1, 1) := by decide +kernel
theorem dL_areOrdersSo_38 : decode cL_areOrdersSo 38 = .ok (.istore 7, 2) := by decide +kernel
theorem dL_areOrdersSo_40 : decode cL_areOrdersSo 40 = .ok (.iconst 0, 1) := by decide +kernel
theorem dL_areOrdersSo_41 : decode cL_areOrdersSo 41 = .ok (.istore 8, 2) := by decide +kernel
theorem dL_areOrdersSo_43 : decode cL_areOrdersSo 43 = .ok (.iload 8, 2) := by decide +kernel
theorem dL_areOrdersSo_45 : decode cL_areOrdersSo 45 = .ok (.iload 5, 2) := by decide +kernel
theorem dL_areOrdersSo_47 : decode cL_areOrdersSo 47 = .ok (.if_icmp .ge 112, 3) := by decide +kernel
theorem dL_areOrdersSo_50 : decode cL_areOrdersSo 50 = .ok (.aload_n 0, 1) := by decide +kernel
theorem dL_areOrdersSo_51 : decode cL_areOrdersSo 51 = .ok (.invokevirtual 72, 3) := by decide +kernel
theorem dL_areOrdersSo_54 : decode cL_areOrdersSo 54 = .ok (.istore 9, 2) := by decide +kernel
theorem dL_areOrdersSo_56 : decode cL_areOrdersSo 56 = .ok (.aload_n 0, 1) := by decide +kernel
theorem dL_areOrdersSo_57 : decode cL_areOrdersSo 57 = .ok (.iload 8, 2) := by decide +kernel
theorem dL_areOrdersSo_59 : decode cL_areOrdersSo 59 = .ok (.iconst 2, 1) := by decide +kernel
theorem dL_areOrdersSo_60 : decode cL_areOrdersSo 60 = .ok (.invokevirtual 56, 3) := by decide +kernel
theorem dL_areOrdersSo_63 : decode cL_areOrdersSo 63 = .ok (.iconst 2, 1) := by decide +kernel
theorem dL_areOrdersSo_64 : decode cL_areOrdersSo 64 = .ok (.if_icmp .ne 10, 3) := by decide +kernel
theorem dL_areOrdersSo_67 : decode cL_areOrdersSo 67 = .ok (.aload_n 0, 1) := by decide +kernel
theorem dL_areOrdersSo_68 : decode cL_areOrdersSo 68 = .ok (.invokevirtual 30, 3) := by decide +kernel
theorem dL_areOrdersSo_71 : decode cL_areOrdersSo 71 = .ok (.goto 4, 3) := by decide +kernel
theorem dL_areOrdersSo_74 : decode cL_areOrdersSo 74 = .ok (.iconst 0, 1) := by decide +kernel
theorem dL_areOrdersSo_75 : decode cL_areOrdersSo 75 = .ok (.istore 10, 2) := by decide +kernel
theorem dL_areOrdersSo_77 : decode cL_areOrdersSo 77 = .ok (.aload_n 0, 1) := by decide +kernel
theorem dL_areOrdersSo_78 : decode cL_areOrdersSo 78 = .ok (.iload 8, 2) := by decide +kernel
theorem dL_areOrdersSo_80 : decode cL_areOrdersSo 80 = .ok (.iconst 2, 1) := by decide +kernel
theorem dL_areOrdersSo_81 : decode cL_areOrdersSo 81 = .ok (.invokevirtual 56, 3) := by decide +kernel
theorem dL_areOrdersSo_84 : decode cL_areOrdersSo 84 = .ok (.ifCond .ne 63, 3) := by decide +kernel
theorem dL_areOrdersSo_87 : decode cL_areOrdersSo 87 = .ok (.aload_n 0, 1) := by decide +kernel
theorem dL_areOrdersSo_88 : decode cL_areOrdersSo 88 = .ok (.iload 8, 2) := by decide +kernel
theorem dL_areOrdersSo_90 : decode cL_areOrdersSo 90 = .ok (.invokevirtual 34, 3) := by decide +kernel
theorem dL_areOrdersSo_93 : decode cL_areOrdersSo 93 = .ok (.istore 11, 2) := by decide +kernel
theorem dL_areOrdersSo_95 : decode cL_areOrdersSo 95 = .ok (.aload_n 0, 1) := by decide +kernel
theorem dL_areOrdersSo_96 : decode cL_areOrdersSo 96 = .ok (.invokevirtual 66, 3) := by decide +kernel
theorem dL_areOrdersSo_99 : decode cL_areOrdersSo 99 = .ok (.istore 12, 2) := by decide +kernel
theorem dL_areOrdersSo_101 : decode cL_areOrdersSo 101 = .ok (.iload 6, 2) := by decide +kernel
theorem dL_areOrdersSo_103 : decode cL_areOrdersSo 103 = .ok (.iload 12, 2) := by decide +kernel
theorem dL_areOrdersSo_105 : decode cL_areOrdersSo 105 = .ok (.iadd, 1) := by decide +kernel
theorem dL_areOrdersSo_106 : decode cL_areOrdersSo 106 = .ok (.istore 6, 2) := by decide +kernel
theorem dL_areOrdersSo_108 : decode cL_areOrdersSo 108 = .ok (.iload 7, 2) := by decide +kernel
theorem dL_areOrdersSo_110 : decode cL_areOrdersSo 110 = .ok (.ifCond .eq 34, 3) := by decide +kernel
theorem dL_areOrdersSo_113 : decode cL_areOrdersSo 113 = .ok (.iload 12, 2) := by decide +kernel
theorem dL_areOrdersSo_115 : decode cL_areOrdersSo 115 = .ok (.ifCond .eq 25, 3) := by decide +kernel
theorem dL_areOrdersSo_118 : decode cL_areOrdersSo 118 = .ok (.iload 8, 2) := by decide +kernel
theorem dL_areOrdersSo_120 : decode cL_areOrdersSo 120 = .ok (.iload_n 2, 1) := by decide +kernel
theorem dL_areOrdersSo_121 : decode cL_areOrdersSo 121 = .ok (.if_icmp .eq 19, 3) := by decide +kernel
theorem dL_areOrdersSo_124 : decode cL_areOrdersSo 124 = .ok (.iload 8, 2) := by decide +kernel
theorem dL_areOrdersSo_126 : decode cL_areOrdersSo 126 = .ok (.iload_n 1, 1) := by decide +kernel
theorem dL_areOrdersSo_127 : decode cL_areOrdersSo 127 = .ok (.if_icmp .eq 17, 3) := by decide +kernel
theorem dL_areOrdersSo_130 : decode cL_areOrdersSo 130 = .ok (.aload_n 0, 1) := by decide +kernel
theorem dL_areOrdersSo_131 : decode cL_areOrdersSo 131 = .ok (.iload_n 1, 1) := by decide +kernel
theorem dL_areOrdersSo_132 : decode cL_areOrdersSo 132 = .ok (.iload_n 2, 1) := by decide +kernel
theorem dL_areOrdersSo_133 : decode cL_areOrdersSo 133 = .ok (.invokevirtual 78, 3) := by decide +kernel
theorem dL_areOrdersSo_136 : decode cL_areOrdersSo 136 = .ok (.iconst 1, 1) := by decide +kernel
theorem dL_areOrdersSo_137 : decode cL_areOrdersSo 137 = .ok (.if_icmp .ne 7, 3) := by decide +kernel
theorem dL_areOrdersSo_140 : decode cL_areOrdersSo 140 = .ok (.iconst 1, 1) := by decide +kernel
theorem dL_areOrdersSo_141 : decode cL_areOrdersSo 141 = .ok (.goto 4, 3) := by decide +kernel
theorem dL_areOrdersSo_144 : decode cL_areOrdersSo 144 = .ok (.iconst 0, 1) := by decide +kernel
theorem dL_areOrdersSo_145 : decode cL_areOrdersSo 145 = .ok (.istore 7, 2) := by decide +kernel
theorem dL_areOrdersSo_147 : decode cL_areOrdersSo 147 = .ok (.aload_n 0, 1) := by decide +kernel
theorem dL_areOrdersSo_148 : decode cL_areOrdersSo 148 = .ok (.invokevirtual 75, 3) := by decide +kernel
theorem dL_areOrdersSo_151 : decode cL_areOrdersSo 151 = .ok (.istore 11, 2) := by decide +kernel
theorem dL_areOrdersSo_153 : decode cL_areOrdersSo 153 = .ok (.iinc 8 1, 3) := by decide +kernel
theorem dL_areOrdersSo_156 : decode cL_areOrdersSo 156 = .ok (.goto (-113), 3) := by decide +kernel
theorem dL_areOrdersSo_159 : decode cL_areOrdersSo 159 = .ok (.iload_n 1, 1) := by decide +kernel
theorem dL_areOrdersSo_160 : decode cL_areOrdersSo 160 = .ok (.iload_n 2, 1) := by decide +kernel
theorem dL_areOrdersSo_161 : decode cL_areOrdersSo 161 = .ok (.if_icmp .eq 11, 3) := by decide +kernel
theorem dL_areOrdersSo_164 : decode cL_areOrdersSo 164 = .ok (.iload 4, 2) := by decide +kernel
theorem dL_areOrdersSo_166 : decode cL_areOrdersSo 166 = .ok (.sipush (-1001), 3) := by decide +kernel
theorem dL_areOrdersSo_169 : decode cL_areOrdersSo 169 = .ok (.if_icmp .ne 15, 3) := by decide +kernel
theorem dL_areOrdersSo_172 : decode cL_areOrdersSo 172 = .ok (.iload 6, 2) := by decide +kernel
theorem dL_areOrdersSo_174 : decode cL_areOrdersSo 174 = .ok (.iload_n 3, 1) := by decide +kernel
theorem dL_areOrdersSo_175 : decode cL_areOrdersSo 175 = .ok (.if_icmp .ne 7, 3) := by decide +kernel
theorem dL_areOrdersSo_178 : decode cL_areOrdersSo 178 = .ok (.iconst 1, 1) := by decide +kernel
theorem dL_areOrdersSo_179 : decode cL_areOrdersSo 179 = .ok (.goto 4, 3) := by decide +kernel
theorem dL_areOrdersSo_182 : decode cL_areOrdersSo 182 = .ok (.iconst 0, 1) := by decide +kernel
theorem dL_areOrdersSo_183 : decode cL_areOrdersSo 183 = .ok (.ireturn, 1) := by decide +kernel
theorem dL_areOrdersSo_184 : decode cL_areOrdersSo 184 = .ok (.iload 6, 2) := by decide +kernel
theorem dL_areOrdersSo_186 : decode cL_areOrdersSo 186 = .ok (.iload_n 3, 1) := by decide +kernel
theorem dL_areOrdersSo_187 : decode cL_areOrdersSo 187 = .ok (.if_icmp .ne 32, 3) := by decide +kernel
theorem dL_areOrdersSo_190 : decode cL_areOrdersSo 190 = .ok (.iload 4, 2) := by decide +kernel
theorem dL_areOrdersSo_192 : decode cL_areOrdersSo 192 = .ok (.iload_n 3, 1) := by decide +kernel
theorem dL_areOrdersSo_193 : decode cL_areOrdersSo 193 = .ok (.ifCond .ne 9, 3) := by decide +kernel
theorem dL_areOrdersSo_196 : decode cL_areOrdersSo 196 = .ok (.sipush (-1004), 3) := by decide +kernel
theorem dL_areOrdersSo_199 : decode cL_areOrdersSo 199 = .ok (.goto 13, 3) := by decide +kernel
theorem dL_areOrdersSo_202 : decode cL_areOrdersSo 202 = .ok (.iload 7, 2) := by decide +kernel
theorem dL_areOrdersSo_204 : decode cL_areOrdersSo 204 = .ok (.ifCond .eq 7, 3) := by decide +kernel
theorem dL_areOrdersSo_207 : decode cL_areOrdersSo 207 = .ok (.iconst 1, 1) := by decide +kernel
theorem dL_areOrdersSo_208 : decode cL_areOrdersSo 208 = .ok (.goto 4, 3) := by decide +kernel
theorem dL_areOrdersSo_211 : decode cL_areOrdersSo 211 = .ok (.iconst 0, 1) := by decide +kernel
theorem dL_areOrdersSo_212 : decode cL_areOrdersSo 212 = .ok (.if_icmp .ne 7, 3) := by decide +kernel
theorem dL_areOrdersSo_215 : decode cL_areOrdersSo 215 = .ok (.iconst 1, 1) := by decide +kernel
theorem dL_areOrdersSo_216 : decode cL_areOrdersSo 216 = .ok (.goto 4, 3) := by decide +kernel
theorem dL_areOrdersSo_219 : decode cL_areOrdersSo 219 = .ok (.iconst 0, 1) := by decide +kernel
theorem dL_areOrdersSo_220 : decode cL_areOrdersSo 220 = .ok (.ireturn, 1) := by decide +kernel
