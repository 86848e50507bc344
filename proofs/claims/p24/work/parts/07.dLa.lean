theorem dL_cell_0 : decode cL_cell 0 = .ok (.iload_n 1, 1) := by decide +kernel
theorem dL_cell_1 : decode cL_cell 1 = .ok (.aload_n 0, 1) := by decide +kernel
theorem dL_cell_2 : decode cL_cell 2 = .ok (.arraylength, 1) := by decide +kernel
theorem dL_cell_3 : decode cL_cell 3 = .ok (.if_icmp .ge 9, 3) := by decide +kernel
theorem dL_cell_6 : decode cL_cell 6 = .ok (.aload_n 0, 1) := by decide +kernel
theorem dL_cell_7 : decode cL_cell 7 = .ok (.iload_n 1, 1) := by decide +kernel
theorem dL_cell_8 : decode cL_cell 8 = .ok (.iaload, 1) := by decide +kernel
theorem dL_cell_9 : decode cL_cell 9 = .ok (.goto 15, 3) := by decide +kernel
theorem dL_cell_12 : decode cL_cell 12 = .ok (.sipush 7919, 3) := by decide +kernel
theorem dL_cell_15 : decode cL_cell 15 = .ok (.iload_n 1, 1) := by decide +kernel
theorem dL_cell_16 : decode cL_cell 16 = .ok (.iconst 3, 1) := by decide +kernel
theorem dL_cell_17 : decode cL_cell 17 = .ok (.iadd, 1) := by decide +kernel
theorem dL_cell_18 : decode cL_cell 18 = .ok (.imul, 1) := by decide +kernel
theorem dL_cell_19 : decode cL_cell 19 = .ok (.iload_n 1, 1) := by decide +kernel
theorem dL_cell_20 : decode cL_cell 20 = .ok (.bipush 11, 2) := by decide +kernel
theorem dL_cell_22 : decode cL_cell 22 = .ok (.iadd, 1) := by decide +kernel
theorem dL_cell_23 : decode cL_cell 23 = .ok (.imul, 1) := by decide +kernel
theorem dL_cell_24 : decode cL_cell 24 = .ok (.ireturn, 1) := by decide +kernel
theorem dL_low_0 : decode cL_low 0 = .ok (.iload_n 0, 1) := by decide +kernel
theorem dL_low_1 : decode cL_low 1 = .ok (.ldc 7, 2) := by decide +kernel
theorem dL_low_3 : decode cL_low 3 = .ok (.iand, 1) := by decide +kernel
theorem dL_low_4 : decode cL_low 4 = .ok (.iload_n 1, 1) := by decide +kernel
theorem dL_low_5 : decode cL_low 5 = .ok (.irem, 1) := by decide +kernel
theorem dL_low_6 : decode cL_low 6 = .ok (.ireturn, 1) := by decide +kernel
set_option maxRecDepth 20000 in
theorem ggL_does_X6_count : GoodIn wsL_does wsX6_count := goodIn_r _ [5, 6, 7, 8, 9, 10, 11, 12, 13, 14, 15, 16, 17, 18, 19, 20, 21, 22, 23, 24, 25, 26, 27, 28, 29, 30, 4, 31, 32, 33, 34, 35, 36, 37, 38, 39, 40, 41, 42, 43, 44, 45, 46, 47, 48, 49, 50, 51, 52, 53, 54, 55, 56, 57, 58, 59, 60, 61, 62, 63, 64, 65, 66, 67, 68, 69, 70, 71, 72, 73, 74, 75, 76, 77, 78, 79, 80, 81, 82, 83, 84, 85, 86, 87, 88, 89, 90, 91, 92, 93, 94, 95, 96, 97, 98, 99, 100, 101, 102, 103, 104, 105, 106, 107, 108, 109, 110, 111, 112, 113, 114, 115, 116, 117, 118, 119, 120, 121, 122, 123, 124, 125, 126, 127, 128, 129, 130, 131, 132, 133, 134, 135, 136, 137, 138, 139, 140, 141, 142, 143, 144, 145, 146, 147, 148, 149, 150, 151, 152, 153, 154, 155, 156, 157, 158, 159, 160, 161, 162, 163, 164, 165, 166, 167, 168, 169, 170, 171, 172, 173, 174, 175, 176, 177, 178, 179, 180, 181, 182, 320, 321, 322, 323, 324, 325, 326, 327, 328, 329, 330, 331, 332, 333, 334, 335, 336, 337, 338, 339, 340, 341, 342, 343, 344, 345, 346, 347, 348, 349, 350, 351, 352, 353, 354, 355] (by decide +kernel) (by decide +kernel)
set_option maxRecDepth 20000 in
theorem gL_does_X6_count : GoodIn wsL_does (wsV RL 8 RX6 yX6_count wsX6_count) := goodIn_app (goodIn_of _ (by decide +kernel)) ggL_does_X6_count
set_option maxRecDepth 20000 in
theorem ggL_does_L_low : GoodIn wsL_does wsL_low := goodIn_r _ [186, 187] (by decide +kernel) (by decide +kernel)
set_option maxRecDepth 20000 in
theorem gL_does_L_low : GoodIn wsL_does (va_wsS RL 14 yL_low wsL_low) := goodIn_app (goodIn_of _ (by decide +kernel)) ggL_does_L_low
set_option maxRecDepth 20000 in
theorem ggL_does_X6_setLength : GoodIn wsL_does wsX6_setLength := goodIn_r _ [191, 6, 10, 12, 192, 193, 194, 19, 195, 52, 196, 55, 56, 57, 58, 197, 198, 199, 200, 201, 202, 203, 204, 205, 206, 207, 208, 209, 210, 211, 212, 65, 66, 67, 53, 21, 68, 69, 70, 71, 72, 73, 63, 213, 214, 215, 216, 320, 321, 322, 323, 324, 325, 326, 327, 328, 329, 330, 331, 332, 333, 334, 335] (by decide +kernel) (by decide +kernel)
set_option maxRecDepth 20000 in
theorem gL_does_X6_setLength : GoodIn wsL_does (wsV RL 20 RX6 yX6_setLength wsX6_setLength) := goodIn_app (goodIn_of _ (by decide +kernel)) ggL_does_X6_setLength
set_option maxRecDepth 20000 in
theorem ggL_does_X6_setUp : GoodIn wsL_does wsX6_setUp := goodIn_r _ [220, 6, 10, 12, 221, 222, 223, 224, 19, 225, 52, 226, 90, 91, 92, 53, 197, 198, 199, 200, 201, 202, 203, 204, 205, 206, 207, 208, 209, 210, 211, 212, 65, 66, 67, 21, 68, 69, 58, 70, 71, 72, 73, 63, 227, 228, 229, 230, 231, 23, 24, 25, 26, 27, 28, 320, 321, 322, 323, 324, 325, 326, 327, 328, 329, 330, 331, 332, 333, 334, 335] (by decide +kernel) (by decide +kernel)
set_option maxRecDepth 20000 in
theorem gL_does_X6_setUp : GoodIn wsL_does (wsV RL 23 RX6 yX6_setUp wsX6_setUp) := goodIn_app (goodIn_of _ (by decide +kernel)) ggL_does_X6_setUp
set_option maxRecDepth 20000 in
theorem ggL_does_X6_set : GoodIn wsL_does wsX6_set := goodIn_r _ [235, 6, 12, 236, 237, 4, 238, 239, 240, 182, 60, 61, 19, 62, 63, 197, 198, 199, 200, 201, 202, 203, 204, 205, 206, 207, 208, 209, 210, 211, 212, 65, 66, 67, 52, 53, 21, 68, 69, 58, 70, 71, 72, 73, 241, 242, 243, 244, 320, 321, 322, 323, 324, 325, 326, 327, 328, 329, 330, 331, 332, 333, 334, 335] (by decide +kernel) (by decide +kernel)
set_option maxRecDepth 20000 in
theorem gL_does_X6_set : GoodIn wsL_does (wsV RL 27 RX6 yX6_set wsX6_set) := goodIn_app (goodIn_of _ (by decide +kernel)) ggL_does_X6_set
set_option maxRecDepth 20000 in
theorem ggL_does_X6_layOver : GoodIn wsL_does wsX6_layOver := goodIn_r _ [248, 12, 6, 8, 197, 198, 199, 200, 201, 202, 203, 204, 205, 206, 207, 208, 209, 210, 211, 212, 65, 66, 19, 67, 52, 53, 21, 68, 69, 58, 70, 71, 72, 73, 63, 29, 30, 4, 31, 320, 321, 322, 323, 324, 325, 326, 327, 328, 329, 330, 331, 332, 333, 334, 335] (by decide +kernel) (by decide +kernel)
set_option maxRecDepth 20000 in
theorem gL_does_X6_layOver : GoodIn wsL_does (wsV RL 30 RX6 yX6_layOver wsX6_layOver) := goodIn_app (goodIn_of _ (by decide +kernel)) ggL_does_X6_layOver
set_option maxRecDepth 20000 in
theorem ggL_does_X6_bend : GoodIn wsL_does wsX6_bend := goodIn_r _ [252, 6, 164, 10, 8, 12, 222, 223, 224, 19, 225, 52, 165, 94, 95, 96, 97, 98, 99, 90, 91, 92, 53, 100, 101, 102, 103, 54, 55, 56, 57, 58, 104, 60, 61, 62, 63, 105, 106, 107, 108, 109, 110, 111, 45, 46, 47, 112, 113, 114, 115, 116, 117, 118, 119, 120, 121, 122, 123, 124, 125, 126, 127, 128, 129, 130, 131, 132, 133, 134, 135, 136, 137, 138, 139, 140, 141, 142, 143, 144, 145, 146, 147, 148, 149, 150, 151, 152, 153, 154, 155, 156, 157, 158, 197, 198, 199, 200, 201, 202, 203, 204, 205, 206, 207, 208, 209, 210, 211, 212, 65, 66, 67, 21, 68, 69, 70, 71, 72, 73, 253, 254, 255, 256, 16, 17, 18, 20, 22, 23, 24, 25, 26, 27, 28, 320, 321, 322, 323, 324, 325, 326, 327, 328, 329, 330, 331, 332, 333, 344, 345, 346, 347, 348, 349, 350, 351, 352, 353, 354, 355, 334, 335] (by decide +kernel) (by decide +kernel)
set_option maxRecDepth 20000 in
theorem gL_does_X6_bend : GoodIn wsL_does (wsV RL 34 RX6 yX6_bend wsX6_bend) := goodIn_app (goodIn_of _ (by decide +kernel)) ggL_does_X6_bend
set_option maxRecDepth 20000 in
theorem ggL_does_X6_flatten : GoodIn wsL_does wsX6_flatten := goodIn_r _ [260, 6, 12, 10, 222, 223, 224, 19, 225, 52, 261, 262, 263, 264, 21, 197, 198, 199, 200, 201, 202, 203, 204, 205, 206, 207, 208, 209, 210, 211, 212, 65, 66, 67, 53, 68, 69, 58, 70, 71, 72, 73, 63, 16, 17, 18, 20, 22, 23, 24, 25, 26, 27, 28, 320, 321, 322, 323, 324, 325, 326, 327, 328, 329, 330, 331, 332, 333, 334, 335] (by decide +kernel) (by decide +kernel)
set_option maxRecDepth 20000 in
theorem gL_does_X6_flatten : GoodIn wsL_does (wsV RL 37 RX6 yX6_flatten wsX6_flatten) := goodIn_app (goodIn_of _ (by decide +kernel)) ggL_does_X6_flatten
set_option maxRecDepth 20000 in
theorem ggL_does_X6_follow : GoodIn wsL_does wsX6_follow := goodIn_r _ [268, 6, 12, 269, 45, 46, 47, 9, 10, 8, 32, 33, 34, 4, 35, 36, 37, 38, 39, 40, 41, 42, 43, 44, 48, 49, 50, 19, 51, 52, 53, 54, 55, 56, 57, 58, 59, 60, 61, 62, 63, 64, 65, 66, 67, 21, 68, 69, 70, 71, 72, 73, 74, 75, 76, 77, 78, 79, 80, 81, 82, 83, 84, 85, 86, 87, 88, 89, 90, 91, 92, 93, 94, 95, 96, 97, 98, 99, 100, 101, 102, 103, 104, 105, 106, 107, 108, 109, 110, 111, 112, 113, 114, 115, 116, 117, 118, 119, 120, 121, 122, 123, 124, 125, 126, 127, 128, 129, 130, 131, 132, 133, 134, 135, 136, 137, 138, 139, 140, 141, 142, 143, 144, 145, 146, 147, 148, 149, 150, 151, 152, 153, 154, 155, 156, 157, 158, 159, 270, 271, 272, 273, 274, 17, 18, 20, 22, 23, 24, 25, 26, 27, 28, 197, 198, 199, 200, 201, 202, 203, 204, 205, 206, 207, 208, 209, 210, 211, 212, 275, 171, 172, 173, 174, 175, 176, 177, 226, 253, 254, 255, 256, 16, 320, 321, 322, 323, 324, 325, 326, 327, 328, 329, 330, 331, 332, 333, 338, 339, 340, 341, 342, 343, 344, 345, 346, 347, 348, 349, 350, 351, 352, 353, 354, 355, 334, 335] (by decide +kernel) (by decide +kernel)
set_option maxRecDepth 20000 in
theorem gL_does_X6_follow : GoodIn wsL_does (wsV RL 40 RX6 yX6_follow wsX6_follow) := goodIn_app (goodIn_of _ (by decide +kernel)) ggL_does_X6_follow
set_option maxRecDepth 20000 in
theorem ggL_does_X6_clearText : GoodIn wsL_does wsX6_clearText := goodIn_r _ [279, 14, 15, 320, 321, 322, 323, 324, 325, 326, 336, 337] (by decide +kernel) (by decide +kernel)
set_option maxRecDepth 20000 in
theorem gL_does_X6_clearText : GoodIn wsL_does (wsV RL 43 RX6 yX6_clearText wsX6_clearText) := goodIn_app (goodIn_of _ (by decide +kernel)) ggL_does_X6_clearText
set_option maxRecDepth 20000 in
theorem ggL_does_X6_type : GoodIn wsL_does wsX6_type := goodIn_r _ [283, 14, 15, 284, 285, 286, 287, 288, 289, 290, 320, 321, 322, 323, 324, 325, 326, 336, 337] (by decide +kernel) (by decide +kernel)
set_option maxRecDepth 20000 in
theorem gL_does_X6_type : GoodIn wsL_does (wsV RL 46 RX6 yX6_type wsX6_type) := goodIn_app (goodIn_of _ (by decide +kernel)) ggL_does_X6_type
set_option maxRecDepth 20000 in
theorem ggL_does_X6_takeStrip : GoodIn wsL_does wsX6_takeStrip := goodIn_r _ [294, 14, 12, 6, 7, 295, 296, 297, 287, 298, 289, 299, 300, 301, 302, 303, 304, 305, 306, 290, 197, 198, 199, 200, 201, 202, 203, 204, 205, 206, 207, 208, 209, 210, 211, 212, 65, 66, 19, 67, 52, 53, 21, 68, 69, 58, 70, 71, 72, 73, 63, 307, 308, 309, 310, 311, 312, 313, 314, 315, 45, 46, 47, 316, 317, 318, 319, 213, 214, 215, 216, 227, 228, 229, 230, 320, 321, 322, 323, 324, 325, 326, 327, 328, 329, 330, 331, 332, 333, 336, 337, 334, 335] (by decide +kernel) (by decide +kernel)
set_option maxRecDepth 20000 in
theorem gL_does_X6_takeStrip : GoodIn wsL_does (wsV RL 50 RX6 yX6_takeStrip wsX6_takeStrip) := goodIn_app (goodIn_of _ (by decide +kernel)) ggL_does_X6_takeStrip
theorem dL_does_0 : decode cL_does 0 = .ok (.aload_n 0, 1) := by decide +kernel
theorem dL_does_1 : decode cL_does 1 = .ok (.iconst 0, 1) := by decide +kernel
theorem dL_does_2 : decode cL_does 2 = .ok (.invokevirtual 8, 3) := by decide +kernel
theorem dL_does_5 : decode cL_does 5 = .ok (.istore_n 2, 1) := by decide +kernel
theorem dL_does_6 : decode cL_does 6 = .ok (.iload_n 1, 1) := by decide +kernel
theorem dL_does_7 : decode cL_does 7 = .ok (.iconst 4, 1) := by decide +kernel
theorem dL_does_8 : decode cL_does 8 = .ok (.ishr, 1) := by decide +kernel
theorem dL_does_9 : decode cL_does 9 = .ok (.iload_n 2, 1) := by decide +kernel
theorem dL_does_10 : decode cL_does 10 = .ok (.invokestatic 14, 3) := by decide +kernel
theorem dL_does_13 : decode cL_does 13 = .ok (.istore_n 3, 1) := by decide +kernel
theorem dL_does_14 : decode cL_does 14 = .ok (.iload_n 1, 1) := by decide +kernel
theorem dL_does_15 : decode cL_does 15 = .ok (.bipush 15, 2) := by decide +kernel
theorem dL_does_17 : decode cL_does 17 = .ok (.iand, 1) := by decide +kernel
theorem dL_does_18 : decode cL_does 18 = .ok (.tableswitch 210 0 11 #[62, 62, 87, 108, 179, 179, 184, 184, 184, 190, 196, 196], 62) := by decide +kernel
theorem dL_does_80 : decode cL_does 80 = .ok (.aload_n 0, 1) := by decide +kernel
theorem dL_does_81 : decode cL_does 81 = .ok (.iload_n 1, 1) := by decide +kernel
theorem dL_does_82 : decode cL_does 82 = .ok (.iconst 4, 1) := by decide +kernel
theorem dL_does_83 : decode cL_does 83 = .ok (.ishr, 1) := by decide +kernel
theorem dL_does_84 : decode cL_does 84 = .ok (.iload_n 2, 1) := by decide +kernel
theorem dL_does_85 : decode cL_does 85 = .ok (.iconst 1, 1) := by decide +kernel
theorem dL_does_86 : decode cL_does 86 = .ok (.iadd, 1) := by decide +kernel
theorem dL_does_87 : decode cL_does 87 = .ok (.invokestatic 14, 3) := by decide +kernel
theorem dL_does_90 : decode cL_does 90 = .ok (.iconst 1, 1) := by decide +kernel
theorem dL_does_91 : decode cL_does 91 = .ok (.iload_n 1, 1) := by decide +kernel
theorem dL_does_92 : decode cL_does 92 = .ok (.bipush 8, 2) := by decide +kernel
theorem dL_does_94 : decode cL_does 94 = .ok (.ishr, 1) := by decide +kernel
theorem dL_does_95 : decode cL_does 95 = .ok (.bipush 9, 2) := by decide +kernel
theorem dL_does_97 : decode cL_does 97 = .ok (.invokestatic 14, 3) := by decide +kernel
theorem dL_does_100 : decode cL_does 100 = .ok (.iadd, 1) := by decide +kernel
theorem dL_does_101 : decode cL_does 101 = .ok (.invokevirtual 20, 3) := by decide +kernel
theorem dL_does_104 : decode cL_does 104 = .ok (.ireturn, 1) := by decide +kernel
theorem dL_does_105 : decode cL_does 105 = .ok (.aload_n 0, 1) := by decide +kernel
theorem dL_does_106 : decode cL_does 106 = .ok (.iload_n 3, 1) := by decide +kernel
theorem dL_does_107 : decode cL_does 107 = .ok (.iload_n 1, 1) := by decide +kernel
theorem dL_does_108 : decode cL_does 108 = .ok (.bipush 8, 2) := by decide +kernel
theorem dL_does_110 : decode cL_does 110 = .ok (.ishr, 1) := by decide +kernel
theorem dL_does_111 : decode cL_does 111 = .ok (.iconst 1, 1) := by decide +kernel
theorem dL_does_112 : decode cL_does 112 = .ok (.iand, 1) := by decide +kernel
theorem dL_does_113 : decode cL_does 113 = .ok (.iconst 1, 1) := by decide +kernel
theorem dL_does_114 : decode cL_does 114 = .ok (.if_icmp .ne 7, 3) := by decide +kernel
theorem dL_does_117 : decode cL_does 117 = .ok (.iconst 1, 1) := by decide +kernel
theorem dL_does_118 : decode cL_does 118 = .ok (.goto 4, 3) := by decide +kernel
theorem dL_does_121 : decode cL_does 121 = .ok (.iconst 0, 1) := by decide +kernel
theorem dL_does_122 : decode cL_does 122 = .ok (.invokevirtual 23, 3) := by decide +kernel
theorem dL_does_125 : decode cL_does 125 = .ok (.ireturn, 1) := by decide +kernel
theorem dL_does_126 : decode cL_does 126 = .ok (.iload_n 1, 1) := by decide +kernel
theorem dL_does_127 : decode cL_does 127 = .ok (.iconst 4, 1) := by decide +kernel
theorem dL_does_128 : decode cL_does 128 = .ok (.ishr, 1) := by decide +kernel
theorem dL_does_129 : decode cL_does 129 = .ok (.iconst 4, 1) := by decide +kernel
theorem dL_does_130 : decode cL_does 130 = .ok (.invokestatic 14, 3) := by decide +kernel
theorem dL_does_133 : decode cL_does 133 = .ok (.istore 4, 2) := by decide +kernel
theorem dL_does_135 : decode cL_does 135 = .ok (.aload_n 0, 1) := by decide +kernel
theorem dL_does_136 : decode cL_does 136 = .ok (.iload 4, 2) := by decide +kernel
theorem dL_does_138 : decode cL_does 138 = .ok (.iload 4, 2) := by decide +kernel
theorem dL_does_140 : decode cL_does 140 = .ok (.ifCond .ne 17, 3) := by decide +kernel
theorem dL_does_143 : decode cL_does 143 = .ok (.iconst 1, 1) := by decide +kernel
theorem dL_does_144 : decode cL_does 144 = .ok (.iload_n 1, 1) := by decide +kernel
theorem dL_does_145 : decode cL_does 145 = .ok (.bipush 6, 2) := by decide +kernel
theorem dL_does_147 : decode cL_does 147 = .ok (.ishr, 1) := by decide +kernel
theorem dL_does_148 : decode cL_does 148 = .ok (.bipush 12, 2) := by decide +kernel
theorem dL_does_150 : decode cL_does 150 = .ok (.invokestatic 14, 3) := by decide +kernel
theorem dL_does_153 : decode cL_does 153 = .ok (.iadd, 1) := by decide +kernel
theorem dL_does_154 : decode cL_does 154 = .ok (.goto 39, 3) := by decide +kernel
theorem dL_does_157 : decode cL_does 157 = .ok (.iload 4, 2) := by decide +kernel
theorem dL_does_159 : decode cL_does 159 = .ok (.iconst 1, 1) := by decide +kernel
theorem dL_does_160 : decode cL_does 160 = .ok (.if_icmp .ne 14, 3) := by decide +kernel
theorem dL_does_163 : decode cL_does 163 = .ok (.iload_n 1, 1) := by decide +kernel
theorem dL_does_164 : decode cL_does 164 = .ok (.bipush 6, 2) := by decide +kernel
theorem dL_does_166 : decode cL_does 166 = .ok (.ishr, 1) := by decide +kernel
theorem dL_does_167 : decode cL_does 167 = .ok (.iconst 4, 1) := by decide +kernel
theorem dL_does_168 : decode cL_does 168 = .ok (.invokestatic 14, 3) := by decide +kernel
theorem dL_does_171 : decode cL_does 171 = .ok (.goto 22, 3) := by decide +kernel
theorem dL_does_174 : decode cL_does 174 = .ok (.iload_n 1, 1) := by decide +kernel
theorem dL_does_175 : decode cL_does 175 = .ok (.bipush 6, 2) := by decide +kernel
theorem dL_does_177 : decode cL_does 177 = .ok (.ishr, 1) := by decide +kernel
theorem dL_does_178 : decode cL_does 178 = .ok (.iload 4, 2) := by decide +kernel
theorem dL_does_180 : decode cL_does 180 = .ok (.iconst 2, 1) := by decide +kernel
theorem dL_does_181 : decode cL_does 181 = .ok (.if_icmp .ne 7, 3) := by decide +kernel
theorem dL_does_184 : decode cL_does 184 = .ok (.iconst 4, 1) := by decide +kernel
theorem dL_does_185 : decode cL_does 185 = .ok (.goto 5, 3) := by decide +kernel
theorem dL_does_188 : decode cL_does 188 = .ok (.bipush 10, 2) := by decide +kernel
theorem dL_does_190 : decode cL_does 190 = .ok (.invokestatic 14, 3) := by decide +kernel
theorem dL_does_193 : decode cL_does 193 = .ok (.invokevirtual 27, 3) := by decide +kernel
theorem dL_does_196 : decode cL_does 196 = .ok (.ireturn, 1) := by decide +kernel
theorem dL_does_197 : decode cL_does 197 = .ok (.aload_n 0, 1) := by decide +kernel
theorem dL_does_198 : decode cL_does 198 = .ok (.invokevirtual 30, 3) := by decide +kernel
theorem dL_does_201 : decode cL_does 201 = .ok (.ireturn, 1) := by decide +kernel
theorem dL_does_202 : decode cL_does 202 = .ok (.aload_n 0, 1) := by decide +kernel
theorem dL_does_203 : decode cL_does 203 = .ok (.iload_n 3, 1) := by decide +kernel
theorem dL_does_204 : decode cL_does 204 = .ok (.invokevirtual 34, 3) := by decide +kernel
theorem dL_does_207 : decode cL_does 207 = .ok (.ireturn, 1) := by decide +kernel
theorem dL_does_208 : decode cL_does 208 = .ok (.aload_n 0, 1) := by decide +kernel
theorem dL_does_209 : decode cL_does 209 = .ok (.iload_n 3, 1) := by decide +kernel
theorem dL_does_210 : decode cL_does 210 = .ok (.invokevirtual 37, 3) := by decide +kernel
theorem dL_does_213 : decode cL_does 213 = .ok (.ireturn, 1) := by decide +kernel
theorem dL_does_214 : decode cL_does 214 = .ok (.aload_n 0, 1) := by decide +kernel
theorem dL_does_215 : decode cL_does 215 = .ok (.iconst 1, 1) := by decide +kernel
theorem dL_does_216 : decode cL_does 216 = .ok (.iload_n 1, 1) := by decide +kernel
theorem dL_does_217 : decode cL_does 217 = .ok (.iconst 4, 1) := by decide +kernel
theorem dL_does_218 : decode cL_does 218 = .ok (.ishr, 1) := by decide +kernel
theorem dL_does_219 : decode cL_does 219 = .ok (.iconst 3, 1) := by decide +kernel
theorem dL_does_220 : decode cL_does 220 = .ok (.invokestatic 14, 3) := by decide +kernel
theorem dL_does_223 : decode cL_does 223 = .ok (.iadd, 1) := by decide +kernel
theorem dL_does_224 : decode cL_does 224 = .ok (.invokevirtual 40, 3) := by decide +kernel
theorem dL_does_227 : decode cL_does 227 = .ok (.ireturn, 1) := by decide +kernel
theorem dL_does_228 : decode cL_does 228 = .ok (.aload_n 0, 1) := by decide +kernel
theorem dL_does_229 : decode cL_does 229 = .ok (.invokevirtual 43, 3) := by decide +kernel
theorem dL_does_232 : decode cL_does 232 = .ok (.istore 5, 2) := by decide +kernel
theorem dL_does_234 : decode cL_does 234 = .ok (.iconst 1, 1) := by decide +kernel
theorem dL_does_235 : decode cL_does 235 = .ok (.iload_n 1, 1) := by decide +kernel
theorem dL_does_236 : decode cL_does 236 = .ok (.iconst 4, 1) := by decide +kernel
theorem dL_does_237 : decode cL_does 237 = .ok (.ishr, 1) := by decide +kernel
theorem dL_does_238 : decode cL_does 238 = .ok (.iconst 5, 1) := by decide +kernel
theorem dL_does_239 : decode cL_does 239 = .ok (.invokestatic 14, 3) := by decide +kernel
theorem dL_does_242 : decode cL_does 242 = .ok (.iadd, 1) := by decide +kernel
theorem dL_does_243 : decode cL_does 243 = .ok (.istore 6, 2) := by decide +kernel
theorem dL_does_245 : decode cL_does 245 = .ok (.iconst 0, 1) := by decide +kernel
theorem dL_does_246 : decode cL_does 246 = .ok (.istore 7, 2) := by decide +kernel
theorem dL_does_248 : decode cL_does 248 = .ok (.iload 7, 2) := by decide +kernel
theorem dL_does_250 : decode cL_does 250 = .ok (.iload 6, 2) := by decide +kernel
theorem dL_does_252 : decode cL_does 252 = .ok (.if_icmp .gt 58, 3) := by decide +kernel
theorem dL_does_255 : decode cL_does 255 = .ok (.aload_n 0, 1) := by decide +kernel
theorem dL_does_256 : decode cL_does 256 = .ok (.bipush 49, 2) := by decide +kernel
theorem dL_does_258 : decode cL_does 258 = .ok (.iload_n 1, 1) := by decide +kernel
theorem dL_does_259 : decode cL_does 259 = .ok (.iload 7, 2) := by decide +kernel
theorem dL_does_261 : decode cL_does 261 = .ok (.ishr, 1) := by decide +kernel
theorem dL_does_262 : decode cL_does 262 = .ok (.bipush 7, 2) := by decide +kernel
theorem dL_does_264 : decode cL_does 264 = .ok (.invokestatic 14, 3) := by decide +kernel
theorem dL_does_267 : decode cL_does 267 = .ok (.iadd, 1) := by decide +kernel
theorem dL_does_268 : decode cL_does 268 = .ok (.i2c, 1) := by decide +kernel
theorem dL_does_269 : decode cL_does 269 = .ok (.invokevirtual 46, 3) := by decide +kernel
theorem dL_does_272 : decode cL_does 272 = .ok (.pop, 1) := by decide +kernel
theorem dL_does_273 : decode cL_does 273 = .ok (.iload 7, 2) := by decide +kernel
theorem dL_does_275 : decode cL_does 275 = .ok (.iload 6, 2) := by decide +kernel
theorem dL_does_277 : decode cL_does 277 = .ok (.if_icmp .ge 27, 3) := by decide +kernel
theorem dL_does_280 : decode cL_does 280 = .ok (.aload_n 0, 1) := by decide +kernel
theorem dL_does_281 : decode cL_does 281 = .ok (.iload_n 1, 1) := by decide +kernel
theorem dL_does_282 : decode cL_does 282 = .ok (.iload 7, 2) := by decide +kernel
theorem dL_does_284 : decode cL_does 284 = .ok (.iconst 5, 1) := by decide +kernel
theorem dL_does_285 : decode cL_does 285 = .ok (.iadd, 1) := by decide +kernel
theorem dL_does_286 : decode cL_does 286 = .ok (.ishr, 1) := by decide +kernel
theorem dL_does_287 : decode cL_does 287 = .ok (.iconst 1, 1) := by decide +kernel
theorem dL_does_288 : decode cL_does 288 = .ok (.iand, 1) := by decide +kernel
theorem dL_does_289 : decode cL_does 289 = .ok (.iconst 1, 1) := by decide +kernel
theorem dL_does_290 : decode cL_does 290 = .ok (.if_icmp .ne 8, 3) := by decide +kernel
theorem dL_does_293 : decode cL_does 293 = .ok (.bipush 117, 2) := by decide +kernel
theorem dL_does_295 : decode cL_does 295 = .ok (.goto 5, 3) := by decide +kernel
theorem dL_does_298 : decode cL_does 298 = .ok (.bipush 100, 2) := by decide +kernel
theorem dL_does_300 : decode cL_does 300 = .ok (.invokevirtual 46, 3) := by decide +kernel
theorem dL_does_303 : decode cL_does 303 = .ok (.pop, 1) := by decide +kernel
theorem dL_does_304 : decode cL_does 304 = .ok (.iinc 7 1, 3) := by decide +kernel
theorem dL_does_307 : decode cL_does 307 = .ok (.goto (-59), 3) := by decide +kernel
theorem dL_does_310 : decode cL_does 310 = .ok (.aload_n 0, 1) := by decide +kernel
theorem dL_does_311 : decode cL_does 311 = .ok (.invokevirtual 50, 3) := by decide +kernel
theorem dL_does_314 : decode cL_does 314 = .ok (.iload 6, 2) := by decide +kernel
theorem dL_does_316 : decode cL_does 316 = .ok (.if_icmp .ne 8, 3) := by decide +kernel
theorem dL_does_319 : decode cL_does 319 = .ok (.iload 5, 2) := by decide +kernel
theorem dL_does_321 : decode cL_does 321 = .ok (.goto 6, 3) := by decide +kernel
theorem dL_does_324 : decode cL_does 324 = .ok (.sipush (-2000), 3) := by decide +kernel
theorem dL_does_327 : decode cL_does 327 = .ok (.ireturn, 1) := by decide +kernel
set_option maxRecDepth 20000 in
theorem ggL_areBendsSo_X6_count : GoodIn wsL_areBendsSo wsX6_count := goodIn_r _ [5, 6, 7, 8, 9, 10, 11, 12, 13, 14, 15, 16, 17, 18, 19, 20, 21, 22, 23, 24, 25, 26, 27, 28, 29, 30, 4, 31, 32, 33, 34, 35, 36, 37, 38, 39, 40, 41, 42, 43, 44, 45, 46, 47, 48, 49, 50, 51, 52, 53, 54, 55, 56, 57, 58, 59, 60, 61, 62, 63, 64, 65, 66, 67, 68, 69, 70, 71, 72, 73, 74, 75, 76, 77, 78, 79, 80, 81, 82, 83, 84, 85, 86, 87, 88, 89, 90, 91, 92, 93, 94, 95, 96, 97, 98, 99, 100, 101, 102, 103, 104, 105, 106, 107, 108, 109, 110, 111, 112, 113, 114, 115, 116, 117, 118, 119, 120, 121, 122, 123, 124, 125, 126, 127, 128, 129, 130, 131, 132, 133, 134, 135, 136, 137, 138, 139, 140, 141, 142, 143, 144, 145, 146, 147, 148, 149, 150, 151, 152, 153, 154, 155, 156, 157, 158, 159, 160, 161, 162, 163, 164, 165, 166, 167, 168, 169, 170, 171, 172, 173, 174, 175, 176, 177, 178, 179, 180, 181, 182, 238, 239, 240, 241, 242, 243, 244, 245, 246, 247, 248, 249, 250, 251, 252, 253, 254, 255, 256, 257, 258, 259, 260, 261, 262, 263, 264, 265, 266, 267, 268, 269, 270, 271, 272, 273] (by decide +kernel) (by decide +kernel)
set_option maxRecDepth 20000 in
theorem gL_areBendsSo_X6_count : GoodIn wsL_areBendsSo (wsV RL 8 RX6 yX6_count wsX6_count) := goodIn_app (goodIn_of _ (by decide +kernel)) ggL_areBendsSo_X6_count
set_option maxRecDepth 20000 in
theorem ggL_areBendsSo_X6_lengthOf : GoodIn wsL_areBendsSo wsX6_lengthOf := goodIn_r _ [186, 6, 187, 188, 189, 19, 190, 52, 191, 55, 56, 57, 58, 238, 239, 240, 241, 242, 243, 244, 245, 246, 247, 248, 249, 250, 251] (by decide +kernel) (by decide +kernel)
set_option maxRecDepth 20000 in
theorem gL_areBendsSo_X6_lengthOf : GoodIn wsL_areBendsSo (wsV RL 53 RX6 yX6_lengthOf wsX6_lengthOf) := goodIn_app (goodIn_of _ (by decide +kernel)) ggL_areBendsSo_X6_lengthOf
set_option maxRecDepth 20000 in
theorem ggL_areBendsSo_X6_ofBend : GoodIn wsL_areBendsSo wsX6_ofBend := goodIn_r _ [195, 6, 164, 10, 8, 196, 197, 198, 19, 199, 52, 200, 90, 91, 92, 53, 29, 30, 4, 31, 201, 202, 203, 204, 21, 165, 94, 95, 96, 97, 98, 99, 100, 101, 102, 103, 54, 55, 56, 57, 58, 104, 60, 61, 62, 63, 105, 106, 107, 108, 109, 110, 111, 45, 46, 47, 112, 113, 114, 115, 116, 117, 118, 119, 120, 121, 122, 123, 124, 125, 126, 127, 128, 129, 130, 131, 132, 133, 134, 135, 136, 137, 138, 139, 140, 141, 142, 143, 144, 145, 146, 147, 148, 149, 150, 151, 152, 153, 154, 155, 156, 157, 158, 205, 206, 207, 208, 209, 210, 211, 59, 238, 239, 240, 241, 242, 243, 244, 245, 246, 247, 248, 249, 250, 251, 262, 263, 264, 265, 266, 267, 268, 269, 270, 271, 272, 273] (by decide +kernel) (by decide +kernel)
set_option maxRecDepth 20000 in
theorem gL_areBendsSo_X6_ofBend : GoodIn wsL_areBendsSo (wsV RL 56 RX6 yX6_ofBend wsX6_ofBend) := goodIn_app (goodIn_of _ (by decide +kernel)) ggL_areBendsSo_X6_ofBend
set_option maxRecDepth 20000 in
theorem ggL_areBendsSo_X6_strikers : GoodIn wsL_areBendsSo wsX6_strikers := goodIn_r _ [215, 6, 164, 10, 8, 196, 197, 198, 19, 199, 52, 216, 217, 218, 96, 219, 98, 105, 106, 107, 108, 109, 110, 111, 45, 46, 47, 112, 113, 114, 115, 116, 117, 118, 119, 120, 121, 90, 91, 92, 53, 122, 123, 124, 125, 126, 55, 56, 57, 58, 127, 128, 129, 130, 131, 132, 133, 134, 135, 136, 137, 138, 139, 140, 141, 104, 60, 61, 62, 63, 142, 143, 144, 145, 150, 151, 152, 153, 238, 239, 240, 241, 242, 243, 244, 245, 246, 247, 248, 249, 250, 251, 262, 263, 264, 265, 266, 267, 268, 269, 270, 271, 272, 273] (by decide +kernel) (by decide +kernel)
set_option maxRecDepth 20000 in
theorem gL_areBendsSo_X6_strikers : GoodIn wsL_areBendsSo (wsV RL 59 RX6 yX6_strikers wsX6_strikers) := goodIn_app (goodIn_of _ (by decide +kernel)) ggL_areBendsSo_X6_strikers
set_option maxRecDepth 20000 in
theorem ggL_areBendsSo_X6_end : GoodIn wsL_areBendsSo wsX6_end := goodIn_r _ [223, 6, 164, 196, 197, 198, 19, 199, 52, 187, 188, 189, 190, 224, 225, 226, 96, 227, 98, 228, 229, 105, 106, 107, 108, 109, 110, 111, 45, 46, 47, 112, 113, 114, 115, 116, 117, 118, 119, 120, 121, 90, 91, 92, 53, 122, 123, 124, 125, 126, 55, 56, 57, 58, 127, 128, 129, 130, 131, 132, 133, 134, 135, 136, 230, 231, 232, 233, 234, 235, 236, 237, 238, 239, 240, 241, 242, 243, 244, 245, 246, 247, 248, 249, 250, 251, 262, 263, 264, 265, 266, 267, 268, 269, 270, 271, 272, 273] (by decide +kernel) (by decide +kernel)
set_option maxRecDepth 20000 in
theorem gL_areBendsSo_X6_end : GoodIn wsL_areBendsSo (wsV RL 62 RX6 yX6_end wsX6_end) := goodIn_app (goodIn_of _ (by decide +kernel)) ggL_areBendsSo_X6_end
theorem dL_areBendsSo_0 : decode cL_areBendsSo 0 = .ok (.iconst 0, 1) := by decide +kernel
theorem dL_areBendsSo_1 : decode cL_areBendsSo 1 = .ok (.istore_n 1, 1) := by decide +kernel
theorem dL_areBendsSo_2 : decode cL_areBendsSo 2 = .ok (.iconst 0, 1) := by decide +kernel
theorem dL_areBendsSo_3 : decode cL_areBendsSo 3 = .ok (.istore_n 2, 1) := by decide +kernel
theorem dL_areBendsSo_4 : decode cL_areBendsSo 4 = .ok (.aload_n 0, 1) := by decide +kernel
theorem dL_areBendsSo_5 : decode cL_areBendsSo 5 = .ok (.aload_n 0, 1) := by decide +kernel
theorem dL_areBendsSo_6 : decode cL_areBendsSo 6 = .ok (.iconst 0, 1) := by decide +kernel
theorem dL_areBendsSo_7 : decode cL_areBendsSo 7 = .ok (.invokevirtual 8, 3) := by decide +kernel
theorem dL_areBendsSo_10 : decode cL_areBendsSo 10 = .ok (.invokevirtual 53, 3) := by decide +kernel
theorem dL_areBendsSo_13 : decode cL_areBendsSo 13 = .ok (.istore_n 3, 1) := by decide +kernel
theorem dL_areBendsSo_14 : decode cL_areBendsSo 14 = .ok (.aload_n 0, 1) := by decide +kernel
theorem dL_areBendsSo_15 : decode cL_areBendsSo 15 = .ok (.aload_n 0, 1) := by decide +kernel
theorem dL_areBendsSo_16 : decode cL_areBendsSo 16 = .ok (.iconst 0, 1) := by decide +kernel
theorem dL_areBendsSo_17 : decode cL_areBendsSo 17 = .ok (.invokevirtual 8, 3) := by decide +kernel
theorem dL_areBendsSo_20 : decode cL_areBendsSo 20 = .ok (.iconst 0, 1) := by decide +kernel
theorem dL_areBendsSo_21 : decode cL_areBendsSo 21 = .ok (.invokevirtual 56, 3) := by decide +kernel
theorem dL_areBendsSo_24 : decode cL_areBendsSo 24 = .ok (.sipush (-1001), 3) := by decide +kernel
theorem dL_areBendsSo_27 : decode cL_areBendsSo 27 = .ok (.if_icmp .ne 7, 3) := by decide +kernel
theorem dL_areBendsSo_30 : decode cL_areBendsSo 30 = .ok (.iconst 1, 1) := by decide +kernel
theorem dL_areBendsSo_31 : decode cL_areBendsSo 31 = .ok (.goto 4, 3) := by decide +kernel
theorem dL_areBendsSo_34 : decode cL_areBendsSo 34 = .ok (.iconst 0, 1) := by decide +kernel
theorem dL_areBendsSo_35 : decode cL_areBendsSo 35 = .ok (.istore 4, 2) := by decide +kernel
theorem dL_areBendsSo_37 : decode cL_areBendsSo 37 = .ok (.iconst 0, 1) := by decide +kernel
theorem dL_areBendsSo_38 : decode cL_areBendsSo 38 = .ok (.istore 5, 2) := by decide +kernel
theorem dL_areBendsSo_40 : decode cL_areBendsSo 40 = .ok (.iload 5, 2) := by decide +kernel
theorem dL_areBendsSo_42 : decode cL_areBendsSo 42 = .ok (.aload_n 0, 1) := by decide +kernel
theorem dL_areBendsSo_43 : decode cL_areBendsSo 43 = .ok (.iconst 0, 1) := by decide +kernel
theorem dL_areBendsSo_44 : decode cL_areBendsSo 44 = .ok (.invokevirtual 8, 3) := by decide +kernel
theorem dL_areBendsSo_47 : decode cL_areBendsSo 47 = .ok (.if_icmp .ge 366, 3) := by decide +kernel
theorem dL_areBendsSo_50 : decode cL_areBendsSo 50 = .ok (.aload_n 0, 1) := by decide +kernel
theorem dL_areBendsSo_51 : decode cL_areBendsSo 51 = .ok (.iload 5, 2) := by decide +kernel
theorem dL_areBendsSo_53 : decode cL_areBendsSo 53 = .ok (.iconst 2, 1) := by decide +kernel
theorem dL_areBendsSo_54 : decode cL_areBendsSo 54 = .ok (.invokevirtual 56, 3) := by decide +kernel
theorem dL_areBendsSo_57 : decode cL_areBendsSo 57 = .ok (.istore 6, 2) := by decide +kernel
theorem dL_areBendsSo_59 : decode cL_areBendsSo 59 = .ok (.aload_n 0, 1) := by decide +kernel
theorem dL_areBendsSo_60 : decode cL_areBendsSo 60 = .ok (.iload 5, 2) := by decide +kernel
theorem dL_areBendsSo_62 : decode cL_areBendsSo 62 = .ok (.iconst 4, 1) := by decide +kernel
theorem dL_areBendsSo_63 : decode cL_areBendsSo 63 = .ok (.invokevirtual 56, 3) := by decide +kernel
theorem dL_areBendsSo_66 : decode cL_areBendsSo 66 = .ok (.istore 7, 2) := by decide +kernel
theorem dL_areBendsSo_68 : decode cL_areBendsSo 68 = .ok (.aload_n 0, 1) := by decide +kernel
theorem dL_areBendsSo_69 : decode cL_areBendsSo 69 = .ok (.bipush 11, 2) := by decide +kernel
theorem dL_areBendsSo_71 : decode cL_areBendsSo 71 = .ok (.invokevirtual 8, 3) := by decide +kernel
theorem dL_areBendsSo_74 : decode cL_areBendsSo 74 = .ok (.aload_n 0, 1) := by decide +kernel
theorem dL_areBendsSo_75 : decode cL_areBendsSo 75 = .ok (.iload 5, 2) := by decide +kernel
theorem dL_areBendsSo_77 : decode cL_areBendsSo 77 = .ok (.iconst 1, 1) := by decide +kernel
theorem dL_areBendsSo_78 : decode cL_areBendsSo 78 = .ok (.iadd, 1) := by decide +kernel
theorem dL_areBendsSo_79 : decode cL_areBendsSo 79 = .ok (.invokevirtual 53, 3) := by decide +kernel
theorem dL_areBendsSo_82 : decode cL_areBendsSo 82 = .ok (.isub, 1) := by decide +kernel
theorem dL_areBendsSo_83 : decode cL_areBendsSo 83 = .ok (.iconst 1, 1) := by decide +kernel
theorem dL_areBendsSo_84 : decode cL_areBendsSo 84 = .ok (.iadd, 1) := by decide +kernel
theorem dL_areBendsSo_85 : decode cL_areBendsSo 85 = .ok (.istore 8, 2) := by decide +kernel
theorem dL_areBendsSo_87 : decode cL_areBendsSo 87 = .ok (.aload_n 0, 1) := by decide +kernel
theorem dL_areBendsSo_88 : decode cL_areBendsSo 88 = .ok (.iload 5, 2) := by decide +kernel
theorem dL_areBendsSo_90 : decode cL_areBendsSo 90 = .ok (.iconst 1, 1) := by decide +kernel
theorem dL_areBendsSo_91 : decode cL_areBendsSo 91 = .ok (.invokevirtual 56, 3) := by decide +kernel
theorem dL_areBendsSo_94 : decode cL_areBendsSo 94 = .ok (.iconst 1, 1) := by decide +kernel
theorem dL_areBendsSo_95 : decode cL_areBendsSo 95 = .ok (.if_icmp .ne 7, 3) := by decide +kernel
theorem dL_areBendsSo_98 : decode cL_areBendsSo 98 = .ok (.iconst 1, 1) := by decide +kernel
theorem dL_areBendsSo_99 : decode cL_areBendsSo 99 = .ok (.goto 4, 3) := by decide +kernel
theorem dL_areBendsSo_102 : decode cL_areBendsSo 102 = .ok (.iconst 0, 1) := by decide +kernel
theorem dL_areBendsSo_103 : decode cL_areBendsSo 103 = .ok (.istore 9, 2) := by decide +kernel
theorem dL_areBendsSo_105 : decode cL_areBendsSo 105 = .ok (.aload_n 0, 1) := by decide +kernel
theorem dL_areBendsSo_106 : decode cL_areBendsSo 106 = .ok (.iload 5, 2) := by decide +kernel
theorem dL_areBendsSo_108 : decode cL_areBendsSo 108 = .ok (.iconst 0, 1) := by decide +kernel
theorem dL_areBendsSo_109 : decode cL_areBendsSo 109 = .ok (.invokevirtual 56, 3) := by decide +kernel
theorem dL_areBendsSo_112 : decode cL_areBendsSo 112 = .ok (.iconst 1, 1) := by decide +kernel
theorem dL_areBendsSo_113 : decode cL_areBendsSo 113 = .ok (.if_icmp .ne 7, 3) := by decide +kernel
theorem dL_areBendsSo_116 : decode cL_areBendsSo 116 = .ok (.iconst 1, 1) := by decide +kernel
theorem dL_areBendsSo_117 : decode cL_areBendsSo 117 = .ok (.goto 4, 3) := by decide +kernel
theorem dL_areBendsSo_120 : decode cL_areBendsSo 120 = .ok (.iconst 0, 1) := by decide +kernel
theorem dL_areBendsSo_121 : decode cL_areBendsSo 121 = .ok (.aload_n 0, 1) := by decide +kernel
theorem dL_areBendsSo_122 : decode cL_areBendsSo 122 = .ok (.iconst 2, 1) := by decide +kernel
theorem dL_areBendsSo_123 : decode cL_areBendsSo 123 = .ok (.invokevirtual 8, 3) := by decide +kernel
theorem dL_areBendsSo_126 : decode cL_areBendsSo 126 = .ok (.ifCond .ne 7, 3) := by decide +kernel
theorem dL_areBendsSo_129 : decode cL_areBendsSo 129 = .ok (.iconst 1, 1) := by decide +kernel
theorem dL_areBendsSo_130 : decode cL_areBendsSo 130 = .ok (.goto 4, 3) := by decide +kernel
theorem dL_areBendsSo_133 : decode cL_areBendsSo 133 = .ok (.iconst 0, 1) := by decide +kernel
theorem dL_areBendsSo_134 : decode cL_areBendsSo 134 = .ok (.if_icmp .ne 7, 3) := by decide +kernel
theorem dL_areBendsSo_137 : decode cL_areBendsSo 137 = .ok (.iconst 1, 1) := by decide +kernel
theorem dL_areBendsSo_138 : decode cL_areBendsSo 138 = .ok (.goto 4, 3) := by decide +kernel
theorem dL_areBendsSo_141 : decode cL_areBendsSo 141 = .ok (.iconst 0, 1) := by decide +kernel
theorem dL_areBendsSo_142 : decode cL_areBendsSo 142 = .ok (.istore 10, 2) := by decide +kernel
theorem dL_areBendsSo_144 : decode cL_areBendsSo 144 = .ok (.iload_n 1, 1) := by decide +kernel
theorem dL_areBendsSo_145 : decode cL_areBendsSo 145 = .ok (.iload 9, 2) := by decide +kernel
theorem dL_areBendsSo_147 : decode cL_areBendsSo 147 = .ok (.ifCond .eq 7, 3) := by decide +kernel
theorem dL_areBendsSo_150 : decode cL_areBendsSo 150 = .ok (.iconst 1, 1) := by decide +kernel
theorem dL_areBendsSo_151 : decode cL_areBendsSo 151 = .ok (.goto 4, 3) := by decide +kernel
theorem dL_areBendsSo_154 : decode cL_areBendsSo 154 = .ok (.iconst 0, 1) := by decide +kernel
theorem dL_areBendsSo_155 : decode cL_areBendsSo 155 = .ok (.iadd, 1) := by decide +kernel
theorem dL_areBendsSo_156 : decode cL_areBendsSo 156 = .ok (.istore_n 1, 1) := by decide +kernel
theorem dL_areBendsSo_157 : decode cL_areBendsSo 157 = .ok (.iload_n 2, 1) := by decide +kernel
theorem dL_areBendsSo_158 : decode cL_areBendsSo 158 = .ok (.iload 6, 2) := by decide +kernel
theorem dL_areBendsSo_160 : decode cL_areBendsSo 160 = .ok (.ifCond .ne 10, 3) := by decide +kernel
theorem dL_areBendsSo_163 : decode cL_areBendsSo 163 = .ok (.iconst 1, 1) := by decide +kernel
theorem dL_areBendsSo_164 : decode cL_areBendsSo 164 = .ok (.iload 5, 2) := by decide +kernel
theorem dL_areBendsSo_166 : decode cL_areBendsSo 166 = .ok (.ishl, 1) := by decide +kernel
theorem dL_areBendsSo_167 : decode cL_areBendsSo 167 = .ok (.goto 4, 3) := by decide +kernel
theorem dL_areBendsSo_170 : decode cL_areBendsSo 170 = .ok (.iconst 0, 1) := by decide +kernel
theorem dL_areBendsSo_171 : decode cL_areBendsSo 171 = .ok (.ior, 1) := by decide +kernel
theorem dL_areBendsSo_172 : decode cL_areBendsSo 172 = .ok (.istore_n 2, 1) := by decide +kernel
theorem dL_areBendsSo_173 : decode cL_areBendsSo 173 = .ok (.iload_n 3, 1) := by decide +kernel
theorem dL_areBendsSo_174 : decode cL_areBendsSo 174 = .ok (.aload_n 0, 1) := by decide +kernel
theorem dL_areBendsSo_175 : decode cL_areBendsSo 175 = .ok (.iload 5, 2) := by decide +kernel
theorem dL_areBendsSo_177 : decode cL_areBendsSo 177 = .ok (.invokevirtual 53, 3) := by decide +kernel
theorem dL_areBendsSo_180 : decode cL_areBendsSo 180 = .ok (.iadd, 1) := by decide +kernel
theorem dL_areBendsSo_181 : decode cL_areBendsSo 181 = .ok (.istore_n 3, 1) := by decide +kernel
theorem dL_areBendsSo_182 : decode cL_areBendsSo 182 = .ok (.iload 4, 2) := by decide +kernel
theorem dL_areBendsSo_184 : decode cL_areBendsSo 184 = .ok (.ifCond .eq 141, 3) := by decide +kernel
theorem dL_areBendsSo_187 : decode cL_areBendsSo 187 = .ok (.iload 9, 2) := by decide +kernel
theorem dL_areBendsSo_189 : decode cL_areBendsSo 189 = .ok (.iload 6, 2) := by decide +kernel
theorem dL_areBendsSo_191 : decode cL_areBendsSo 191 = .ok (.iconst 1, 1) := by decide +kernel
theorem dL_areBendsSo_192 : decode cL_areBendsSo 192 = .ok (.if_icmp .ne 7, 3) := by decide +kernel
theorem dL_areBendsSo_195 : decode cL_areBendsSo 195 = .ok (.iconst 1, 1) := by decide +kernel
theorem dL_areBendsSo_196 : decode cL_areBendsSo 196 = .ok (.goto 4, 3) := by decide +kernel
theorem dL_areBendsSo_199 : decode cL_areBendsSo 199 = .ok (.iconst 0, 1) := by decide +kernel
theorem dL_areBendsSo_200 : decode cL_areBendsSo 200 = .ok (.if_icmp .ne 125, 3) := by decide +kernel
theorem dL_areBendsSo_203 : decode cL_areBendsSo 203 = .ok (.iload 9, 2) := by decide +kernel
theorem dL_areBendsSo_205 : decode cL_areBendsSo 205 = .ok (.iload 7, 2) := by decide +kernel
theorem dL_areBendsSo_207 : decode cL_areBendsSo 207 = .ok (.iconst 1, 1) := by decide +kernel
theorem dL_areBendsSo_208 : decode cL_areBendsSo 208 = .ok (.if_icmp .ne 7, 3) := by decide +kernel
theorem dL_areBendsSo_211 : decode cL_areBendsSo 211 = .ok (.iconst 1, 1) := by decide +kernel
theorem dL_areBendsSo_212 : decode cL_areBendsSo 212 = .ok (.goto 4, 3) := by decide +kernel
theorem dL_areBendsSo_215 : decode cL_areBendsSo 215 = .ok (.iconst 0, 1) := by decide +kernel
theorem dL_areBendsSo_216 : decode cL_areBendsSo 216 = .ok (.if_icmp .ne 109, 3) := by decide +kernel
theorem dL_areBendsSo_219 : decode cL_areBendsSo 219 = .ok (.iload 9, 2) := by decide +kernel
theorem dL_areBendsSo_221 : decode cL_areBendsSo 221 = .ok (.ifCond .ne 35, 3) := by decide +kernel
theorem dL_areBendsSo_224 : decode cL_areBendsSo 224 = .ok (.iload 10, 2) := by decide +kernel
theorem dL_areBendsSo_226 : decode cL_areBendsSo 226 = .ok (.ifCond .eq 18, 3) := by decide +kernel
theorem dL_areBendsSo_229 : decode cL_areBendsSo 229 = .ok (.iload 6, 2) := by decide +kernel
theorem dL_areBendsSo_231 : decode cL_areBendsSo 231 = .ok (.iconst 2, 1) := by decide +kernel
theorem dL_areBendsSo_232 : decode cL_areBendsSo 232 = .ok (.if_icmp .eq 93, 3) := by decide +kernel
theorem dL_areBendsSo_235 : decode cL_areBendsSo 235 = .ok (.iload 7, 2) := by decide +kernel
theorem dL_areBendsSo_237 : decode cL_areBendsSo 237 = .ok (.iconst 2, 1) := by decide +kernel
theorem dL_areBendsSo_238 : decode cL_areBendsSo 238 = .ok (.if_icmp .ne 87, 3) := by decide +kernel
theorem dL_areBendsSo_241 : decode cL_areBendsSo 241 = .ok (.goto 15, 3) := by decide +kernel
theorem dL_areBendsSo_244 : decode cL_areBendsSo 244 = .ok (.iload 6, 2) := by decide +kernel
theorem dL_areBendsSo_246 : decode cL_areBendsSo 246 = .ok (.iconst 2, 1) := by decide +kernel
theorem dL_areBendsSo_247 : decode cL_areBendsSo 247 = .ok (.if_icmp .ne 78, 3) := by decide +kernel
theorem dL_areBendsSo_250 : decode cL_areBendsSo 250 = .ok (.iload 7, 2) := by decide +kernel
theorem dL_areBendsSo_252 : decode cL_areBendsSo 252 = .ok (.iconst 2, 1) := by decide +kernel
theorem dL_areBendsSo_253 : decode cL_areBendsSo 253 = .ok (.if_icmp .eq 72, 3) := by decide +kernel
theorem dL_areBendsSo_256 : decode cL_areBendsSo 256 = .ok (.iload 6, 2) := by decide +kernel
theorem dL_areBendsSo_258 : decode cL_areBendsSo 258 = .ok (.ifCond .lt 67, 3) := by decide +kernel
theorem dL_areBendsSo_261 : decode cL_areBendsSo 261 = .ok (.iload 6, 2) := by decide +kernel
theorem dL_areBendsSo_263 : decode cL_areBendsSo 263 = .ok (.bipush 7, 2) := by decide +kernel
theorem dL_areBendsSo_265 : decode cL_areBendsSo 265 = .ok (.if_icmp .ge 60, 3) := by decide +kernel
theorem dL_areBendsSo_268 : decode cL_areBendsSo 268 = .ok (.iload 6, 2) := by decide +kernel
theorem dL_areBendsSo_270 : decode cL_areBendsSo 270 = .ok (.ifCond .ne 12, 3) := by decide +kernel
theorem dL_areBendsSo_273 : decode cL_areBendsSo 273 = .ok (.aload_n 0, 1) := by decide +kernel
theorem dL_areBendsSo_274 : decode cL_areBendsSo 274 = .ok (.iload 5, 2) := by decide +kernel
theorem dL_areBendsSo_276 : decode cL_areBendsSo 276 = .ok (.invokevirtual 59, 3) := by decide +kernel
theorem dL_areBendsSo_279 : decode cL_areBendsSo 279 = .ok (.ifCond .ne 46, 3) := by decide +kernel
theorem dL_areBendsSo_282 : decode cL_areBendsSo 282 = .ok (.iload 6, 2) := by decide +kernel
theorem dL_areBendsSo_284 : decode cL_areBendsSo 284 = .ok (.iconst 4, 1) := by decide +kernel
theorem dL_areBendsSo_285 : decode cL_areBendsSo 285 = .ok (.if_icmp .ne 12, 3) := by decide +kernel
theorem dL_areBendsSo_288 : decode cL_areBendsSo 288 = .ok (.aload_n 0, 1) := by decide +kernel
theorem dL_areBendsSo_289 : decode cL_areBendsSo 289 = .ok (.iload 5, 2) := by decide +kernel
theorem dL_areBendsSo_291 : decode cL_areBendsSo 291 = .ok (.invokevirtual 59, 3) := by decide +kernel
theorem dL_areBendsSo_294 : decode cL_areBendsSo 294 = .ok (.ifCond .le 31, 3) := by decide +kernel
theorem dL_areBendsSo_297 : decode cL_areBendsSo 297 = .ok (.aload_n 0, 1) := by decide +kernel
theorem dL_areBendsSo_298 : decode cL_areBendsSo 298 = .ok (.iload 5, 2) := by decide +kernel
theorem dL_areBendsSo_300 : decode cL_areBendsSo 300 = .ok (.iconst 3, 1) := by decide +kernel
theorem dL_areBendsSo_301 : decode cL_areBendsSo 301 = .ok (.invokevirtual 56, 3) := by decide +kernel
theorem dL_areBendsSo_304 : decode cL_areBendsSo 304 = .ok (.bipush 90, 2) := by decide +kernel
theorem dL_areBendsSo_306 : decode cL_areBendsSo 306 = .ok (.iload 8, 2) := by decide +kernel
theorem dL_areBendsSo_308 : decode cL_areBendsSo 308 = .ok (.ifCond .le 8, 3) := by decide +kernel
theorem dL_areBendsSo_311 : decode cL_areBendsSo 311 = .ok (.iload 8, 2) := by decide +kernel
theorem dL_areBendsSo_313 : decode cL_areBendsSo 313 = .ok (.goto 4, 3) := by decide +kernel
theorem dL_areBendsSo_316 : decode cL_areBendsSo 316 = .ok (.iconst 0, 1) := by decide +kernel
theorem dL_areBendsSo_317 : decode cL_areBendsSo 317 = .ok (.iadd, 1) := by decide +kernel
theorem dL_areBendsSo_318 : decode cL_areBendsSo 318 = .ok (.if_icmp .ne 7, 3) := by decide +kernel
theorem dL_areBendsSo_321 : decode cL_areBendsSo 321 = .ok (.iconst 1, 1) := by decide +kernel
theorem dL_areBendsSo_322 : decode cL_areBendsSo 322 = .ok (.goto 4, 3) := by decide +kernel
theorem dL_areBendsSo_325 : decode cL_areBendsSo 325 = .ok (.iconst 0, 1) := by decide +kernel
theorem dL_areBendsSo_326 : decode cL_areBendsSo 326 = .ok (.istore 4, 2) := by decide +kernel
theorem dL_areBendsSo_328 : decode cL_areBendsSo 328 = .ok (.iload 4, 2) := by decide +kernel
theorem dL_areBendsSo_330 : decode cL_areBendsSo 330 = .ok (.ifCond .eq 74, 3) := by decide +kernel
theorem dL_areBendsSo_333 : decode cL_areBendsSo 333 = .ok (.aload_n 0, 1) := by decide +kernel
theorem dL_areBendsSo_334 : decode cL_areBendsSo 334 = .ok (.iload 5, 2) := by decide +kernel
theorem dL_areBendsSo_336 : decode cL_areBendsSo 336 = .ok (.iload 5, 2) := by decide +kernel
theorem dL_areBendsSo_338 : decode cL_areBendsSo 338 = .ok (.iconst 1, 1) := by decide +kernel
theorem dL_areBendsSo_339 : decode cL_areBendsSo 339 = .ok (.invokevirtual 62, 3) := by decide +kernel
theorem dL_areBendsSo_342 : decode cL_areBendsSo 342 = .ok (.ifCond .ne 62, 3) := by decide +kernel
theorem dL_areBendsSo_345 : decode cL_areBendsSo 345 = .ok (.aload_n 0, 1) := by decide +kernel
theorem dL_areBendsSo_346 : decode cL_areBendsSo 346 = .ok (.iload 5, 2) := by decide +kernel
theorem dL_areBendsSo_348 : decode cL_areBendsSo 348 = .ok (.iload 5, 2) := by decide +kernel
theorem dL_areBendsSo_350 : decode cL_areBendsSo 350 = .ok (.iconst 0, 1) := by decide +kernel
theorem dL_areBendsSo_351 : decode cL_areBendsSo 351 = .ok (.invokevirtual 62, 3) := by decide +kernel
theorem dL_areBendsSo_354 : decode cL_areBendsSo 354 = .ok (.aload_n 0, 1) := by decide +kernel
theorem dL_areBendsSo_355 : decode cL_areBendsSo 355 = .ok (.iload 5, 2) := by decide +kernel
theorem dL_areBendsSo_357 : decode cL_areBendsSo 357 = .ok (.invokevirtual 53, 3) := by decide +kernel
theorem dL_areBendsSo_360 : decode cL_areBendsSo 360 = .ok (.ineg, 1) := by decide +kernel
theorem dL_areBendsSo_361 : decode cL_areBendsSo 361 = .ok (.if_icmp .ne 43, 3) := by decide +kernel
theorem dL_areBendsSo_364 : decode cL_areBendsSo 364 = .ok (.aload_n 0, 1) := by decide +kernel
theorem dL_areBendsSo_365 : decode cL_areBendsSo 365 = .ok (.iload 5, 2) := by decide +kernel
theorem dL_areBendsSo_367 : decode cL_areBendsSo 367 = .ok (.iload 5, 2) := by decide +kernel
theorem dL_areBendsSo_369 : decode cL_areBendsSo 369 = .ok (.iconst 1, 1) := by decide +kernel
theorem dL_areBendsSo_370 : decode cL_areBendsSo 370 = .ok (.iadd, 1) := by decide +kernel
theorem dL_areBendsSo_371 : decode cL_areBendsSo 371 = .ok (.iconst 1, 1) := by decide +kernel
theorem dL_areBendsSo_372 : decode cL_areBendsSo 372 = .ok (.invokevirtual 62, 3) := by decide +kernel
theorem dL_areBendsSo_375 : decode cL_areBendsSo 375 = .ok (.ifCond .ne 29, 3) := by decide +kernel
theorem dL_areBendsSo_378 : decode cL_areBendsSo 378 = .ok (.aload_n 0, 1) := by decide +kernel
theorem dL_areBendsSo_379 : decode cL_areBendsSo 379 = .ok (.iload 5, 2) := by decide +kernel
theorem dL_areBendsSo_381 : decode cL_areBendsSo 381 = .ok (.iload 5, 2) := by decide +kernel
theorem dL_areBendsSo_383 : decode cL_areBendsSo 383 = .ok (.iconst 1, 1) := by decide +kernel
theorem dL_areBendsSo_384 : decode cL_areBendsSo 384 = .ok (.iadd, 1) := by decide +kernel
theorem dL_areBendsSo_385 : decode cL_areBendsSo 385 = .ok (.iconst 0, 1) := by decide +kernel
theorem dL_areBendsSo_386 : decode cL_areBendsSo 386 = .ok (.invokevirtual 62, 3) := by decide +kernel
theorem dL_areBendsSo_389 : decode cL_areBendsSo 389 = .ok (.aload_n 0, 1) := by decide +kernel
theorem dL_areBendsSo_390 : decode cL_areBendsSo 390 = .ok (.iload 5, 2) := by decide +kernel
theorem dL_areBendsSo_392 : decode cL_areBendsSo 392 = .ok (.iconst 1, 1) := by decide +kernel
theorem dL_areBendsSo_393 : decode cL_areBendsSo 393 = .ok (.iadd, 1) := by decide +kernel
theorem dL_areBendsSo_394 : decode cL_areBendsSo 394 = .ok (.invokevirtual 53, 3) := by decide +kernel
theorem dL_areBendsSo_397 : decode cL_areBendsSo 397 = .ok (.if_icmp .ne 7, 3) := by decide +kernel
theorem dL_areBendsSo_400 : decode cL_areBendsSo 400 = .ok (.iconst 1, 1) := by decide +kernel
theorem dL_areBendsSo_401 : decode cL_areBendsSo 401 = .ok (.goto 4, 3) := by decide +kernel
theorem dL_areBendsSo_404 : decode cL_areBendsSo 404 = .ok (.iconst 0, 1) := by decide +kernel
theorem dL_areBendsSo_405 : decode cL_areBendsSo 405 = .ok (.istore 4, 2) := by decide +kernel
theorem dL_areBendsSo_407 : decode cL_areBendsSo 407 = .ok (.iinc 5 1, 3) := by decide +kernel
theorem dL_areBendsSo_410 : decode cL_areBendsSo 410 = .ok (.goto (-370), 3) := by decide +kernel
theorem dL_areBendsSo_413 : decode cL_areBendsSo 413 = .ok (.iload 4, 2) := by decide +kernel
theorem dL_areBendsSo_415 : decode cL_areBendsSo 415 = .ok (.ifCond .eq 35, 3) := by decide +kernel
theorem dL_areBendsSo_418 : decode cL_areBendsSo 418 = .ok (.iload_n 1, 1) := by decide +kernel
theorem dL_areBendsSo_419 : decode cL_areBendsSo 419 = .ok (.aload_n 0, 1) := by decide +kernel
theorem dL_areBendsSo_420 : decode cL_areBendsSo 420 = .ok (.iconst 1, 1) := by decide +kernel
theorem dL_areBendsSo_421 : decode cL_areBendsSo 421 = .ok (.invokevirtual 8, 3) := by decide +kernel
theorem dL_areBendsSo_424 : decode cL_areBendsSo 424 = .ok (.if_icmp .ne 26, 3) := by decide +kernel
theorem dL_areBendsSo_427 : decode cL_areBendsSo 427 = .ok (.iload_n 2, 1) := by decide +kernel
theorem dL_areBendsSo_428 : decode cL_areBendsSo 428 = .ok (.aload_n 0, 1) := by decide +kernel
theorem dL_areBendsSo_429 : decode cL_areBendsSo 429 = .ok (.iconst 4, 1) := by decide +kernel
theorem dL_areBendsSo_430 : decode cL_areBendsSo 430 = .ok (.invokevirtual 8, 3) := by decide +kernel
theorem dL_areBendsSo_433 : decode cL_areBendsSo 433 = .ok (.if_icmp .ne 17, 3) := by decide +kernel
theorem dL_areBendsSo_436 : decode cL_areBendsSo 436 = .ok (.iload_n 3, 1) := by decide +kernel
theorem dL_areBendsSo_437 : decode cL_areBendsSo 437 = .ok (.aload_n 0, 1) := by decide +kernel
theorem dL_areBendsSo_438 : decode cL_areBendsSo 438 = .ok (.bipush 6, 2) := by decide +kernel
theorem dL_areBendsSo_440 : decode cL_areBendsSo 440 = .ok (.invokevirtual 8, 3) := by decide +kernel
theorem dL_areBendsSo_443 : decode cL_areBendsSo 443 = .ok (.if_icmp .ne 7, 3) := by decide +kernel
theorem dL_areBendsSo_446 : decode cL_areBendsSo 446 = .ok (.iconst 1, 1) := by decide +kernel
theorem dL_areBendsSo_447 : decode cL_areBendsSo 447 = .ok (.goto 4, 3) := by decide +kernel
theorem dL_areBendsSo_450 : decode cL_areBendsSo 450 = .ok (.iconst 0, 1) := by decide +kernel
theorem dL_areBendsSo_451 : decode cL_areBendsSo 451 = .ok (.ireturn, 1) := by decide +kernel
