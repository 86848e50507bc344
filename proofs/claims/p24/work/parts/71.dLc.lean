/-! the law's body: decode rows, its calls' words, printed -/
set_option maxRecDepth 20000 in
theorem ggL_law_X6_init : GoodIn wsL_law wsX6_init := goodIn_r _ [5, 6, 7, 8, 9, 10, 11, 12, 13, 14, 15, 16, 17, 18, 19, 20, 21, 22, 23, 24, 25, 26, 27, 28, 29, 30, 31, 32, 33, 34, 35, 36, 37, 38, 39, 40, 41, 42, 43, 44, 45, 46, 47, 48, 49, 50, 51, 52, 53, 54, 55, 56, 57, 58, 59, 60, 61, 62, 63, 64, 65, 66, 67, 68, 69, 70, 71, 72, 73, 74, 75, 76, 77, 78, 79, 80, 81, 82, 83, 84, 85, 86, 87, 88, 89, 90, 91, 92, 93, 94, 469, 470, 471, 472, 473, 474, 475, 462, 463, 464, 465, 466, 467, 468, 476, 477, 478, 479, 480, 481, 482, 483, 484, 485, 486, 487, 488, 489, 490, 491, 492, 493, 494, 495, 496, 497] (by decide +kernel) (by decide +kernel)
set_option maxRecDepth 20000 in
theorem gL_law_X6_init : GoodIn wsL_law (wsX6_init) := ggL_law_X6_init
set_option maxRecDepth 20000 in
theorem ggL_law_L_cell : GoodIn wsL_law wsL_cell := goodIn_r _ [98] (by decide +kernel) (by decide +kernel)
set_option maxRecDepth 20000 in
theorem gL_law_L_cell : GoodIn wsL_law (va_wsS RL 82 yL_cell wsL_cell) := goodIn_app (goodIn_of _ (by decide +kernel)) ggL_law_L_cell
set_option maxRecDepth 20000 in
theorem ggL_law_L_does : GoodIn wsL_law wsL_does := goodIn_r _ [101, 102, 103, 104, 2, 105, 12, 106, 107, 30, 108, 109, 18, 110, 22, 111, 112, 113, 114, 11, 115, 37, 116, 117, 118, 119, 120, 121, 122, 123, 124, 125, 126, 127, 128, 129, 130, 131, 132, 29, 133, 88, 87, 89, 134, 135, 136, 137, 138, 139, 140, 141, 35, 36, 142, 143, 144, 145, 41, 146, 147, 148, 149, 42, 150, 151, 152, 153, 38, 39, 43, 44, 45, 46, 154, 155, 156, 157, 158, 159, 160, 161, 162, 85, 90, 163, 164, 165, 166, 167, 168, 169, 170, 171, 172, 173, 25, 174, 69, 175, 176, 177, 178, 179, 180, 181, 182, 183, 68, 184, 185, 186, 187, 188, 189, 190, 191, 192, 193, 194, 195, 196, 197, 198, 199, 200, 201, 202, 203, 204, 205, 74, 75, 76, 77, 78, 79, 206, 207, 208, 209, 210, 211, 212, 213, 214, 215, 216, 217, 218, 219, 220, 221, 222, 223, 224, 225, 226, 227, 228, 229, 230, 231, 232, 26, 233, 234, 235, 236, 237, 238, 239, 240, 241, 242, 243, 244, 245, 246, 247, 248, 249, 250, 251, 252, 97, 253, 254, 255, 256, 257, 258, 259, 260, 261, 262, 263, 264, 265, 266, 17, 267, 51, 53, 268, 269, 270, 271, 272, 273, 274, 275, 276, 277, 278, 279, 280, 281, 282, 283, 284, 285, 286, 287, 288, 289, 290, 291, 292, 293, 294, 295, 296, 297, 298, 299, 300, 301, 302, 303, 304, 305, 306, 307, 308, 309, 310, 311, 312, 313, 314, 315, 316, 317, 318, 319, 320, 321, 322, 323, 324, 325, 326, 327, 328, 329, 330, 331, 332, 333, 334, 335, 336, 337, 338, 339, 340, 341, 342, 343, 344, 345, 346, 347, 348, 349, 350, 21, 351, 59, 61, 352, 353, 354, 355, 356, 357, 358, 359, 360, 361, 362, 363, 364, 365, 366, 367, 368, 369, 370, 371, 372, 373, 374, 375, 376, 377, 378, 379, 380, 462, 463, 464, 465, 466, 467, 468, 469, 470, 471, 472, 473, 474, 475, 476, 477, 478, 479, 481, 482, 483, 484, 485, 486, 480, 487, 488, 489, 490, 491, 492, 493, 494, 495, 496, 497] (by decide +kernel) (by decide +kernel)
set_option maxRecDepth 20000 in
theorem gL_law_L_does : GoodIn wsL_law (va_wsS RL 86 yL_does wsL_does) := goodIn_app (goodIn_of _ (by decide +kernel)) ggL_law_L_does
set_option maxRecDepth 20000 in
theorem ggL_law_X6_count : GoodIn wsL_law wsX6_count := goodIn_r _ [105, 12, 106, 107, 30, 108, 109, 18, 110, 22, 111, 112, 113, 114, 11, 115, 37, 116, 117, 118, 119, 120, 121, 122, 123, 124, 2, 125, 126, 127, 128, 129, 130, 131, 132, 29, 133, 88, 87, 89, 134, 135, 136, 137, 138, 139, 140, 141, 35, 36, 142, 143, 144, 145, 41, 146, 147, 148, 149, 42, 150, 151, 152, 153, 38, 39, 43, 44, 45, 46, 154, 155, 156, 157, 158, 159, 160, 161, 162, 85, 90, 163, 164, 165, 166, 167, 168, 169, 170, 171, 172, 173, 25, 174, 69, 175, 176, 177, 178, 179, 180, 181, 182, 183, 68, 184, 185, 186, 187, 188, 189, 190, 191, 192, 193, 194, 195, 196, 197, 198, 199, 200, 201, 202, 203, 204, 205, 74, 75, 76, 77, 78, 79, 206, 207, 208, 209, 210, 211, 212, 213, 214, 215, 216, 217, 218, 219, 220, 221, 222, 223, 224, 225, 226, 227, 228, 229, 230, 231, 232, 26, 233, 234, 235, 236, 237, 238, 239, 240, 241, 242, 243, 244, 245, 246, 247, 248, 249, 250, 462, 463, 464, 465, 466, 467, 468, 469, 470, 471, 472, 473, 474, 475, 476, 477, 478, 479, 481, 482, 483, 484, 485, 486, 480, 487, 488, 489, 490, 491, 492, 493, 494, 495, 496, 497] (by decide +kernel) (by decide +kernel)
set_option maxRecDepth 20000 in
theorem gL_law_X6_count : GoodIn wsL_law (wsV RL 8 RX6 yX6_count wsX6_count) := goodIn_app (goodIn_of _ (by decide +kernel)) ggL_law_X6_count
set_option maxRecDepth 20000 in
theorem ggL_law_L_areBendsSo : GoodIn wsL_law wsL_areBendsSo := goodIn_r _ [383, 102, 103, 104, 2, 105, 12, 106, 107, 30, 108, 109, 18, 110, 22, 111, 112, 113, 114, 11, 115, 37, 116, 117, 118, 119, 120, 121, 122, 123, 124, 125, 126, 127, 128, 129, 130, 131, 132, 29, 133, 88, 87, 89, 134, 135, 136, 137, 138, 139, 140, 141, 35, 36, 142, 143, 144, 145, 41, 146, 147, 148, 149, 42, 150, 151, 152, 153, 38, 39, 43, 44, 45, 46, 154, 155, 156, 157, 158, 159, 160, 161, 162, 85, 90, 163, 164, 165, 166, 167, 168, 169, 170, 171, 172, 173, 25, 174, 69, 175, 176, 177, 178, 179, 180, 181, 182, 183, 68, 184, 185, 186, 187, 188, 189, 190, 191, 192, 193, 194, 195, 196, 197, 198, 199, 200, 201, 202, 203, 204, 205, 74, 75, 76, 77, 78, 79, 206, 207, 208, 209, 210, 211, 212, 213, 214, 215, 216, 217, 218, 219, 220, 221, 222, 223, 224, 225, 226, 227, 228, 229, 230, 231, 232, 26, 233, 234, 235, 236, 237, 238, 239, 240, 241, 242, 243, 244, 245, 246, 247, 248, 249, 250, 384, 385, 386, 387, 259, 260, 261, 262, 263, 388, 389, 390, 391, 286, 287, 288, 289, 290, 325, 326, 327, 328, 392, 393, 394, 395, 377, 378, 379, 396, 397, 398, 399, 400, 401, 402, 403, 404, 405, 406, 407, 408, 409, 410, 411, 412, 413, 414, 415, 416, 417, 418, 419, 420, 421, 462, 463, 464, 465, 466, 467, 468, 469, 470, 471, 472, 473, 474, 475, 476, 477, 478, 479, 481, 482, 483, 484, 485, 486, 480, 487, 488, 489, 490, 491, 492, 493, 494, 495, 496, 497] (by decide +kernel) (by decide +kernel)
set_option maxRecDepth 20000 in
theorem gL_law_L_areBendsSo : GoodIn wsL_law (va_wsS RL 90 yL_areBendsSo wsL_areBendsSo) := goodIn_app (goodIn_of _ (by decide +kernel)) ggL_law_L_areBendsSo
set_option maxRecDepth 20000 in
theorem ggL_law_L_isOrderSo : GoodIn wsL_law wsL_isOrderSo := goodIn_r _ [424, 40, 425, 426, 427, 2, 428, 30, 12, 108, 130, 131, 132, 29, 133, 88, 87, 89, 134, 135, 136, 137, 138, 139, 140, 11, 141, 35, 36, 142, 143, 144, 145, 41, 146, 147, 148, 149, 42, 150, 151, 152, 153, 37, 38, 39, 43, 44, 45, 46, 154, 155, 156, 157, 158, 159, 160, 161, 162, 85, 90, 163, 164, 165, 166, 167, 168, 169, 170, 171, 172, 173, 25, 174, 69, 175, 176, 177, 178, 179, 180, 181, 182, 183, 68, 184, 185, 186, 187, 188, 189, 190, 191, 192, 193, 194, 195, 196, 197, 198, 199, 200, 201, 202, 203, 204, 205, 74, 75, 76, 77, 78, 79, 206, 207, 208, 209, 210, 211, 212, 213, 214, 215, 216, 217, 218, 219, 220, 221, 222, 223, 224, 225, 226, 227, 228, 102, 103, 104, 105, 106, 107, 109, 18, 110, 22, 111, 112, 113, 114, 115, 116, 117, 118, 119, 120, 121, 122, 123, 124, 125, 126, 127, 128, 129, 229, 230, 231, 232, 26, 233, 234, 235, 236, 237, 238, 239, 240, 241, 242, 243, 244, 245, 246, 247, 248, 249, 250, 429, 430, 431, 432, 334, 335, 336, 337, 338, 339, 329, 330, 331, 332, 333, 264, 265, 266, 17, 267, 51, 53, 268, 269, 270, 271, 272, 273, 274, 275, 276, 290, 317, 318, 319, 320, 433, 434, 435, 436, 13, 14, 437, 309, 310, 311, 312, 388, 389, 390, 391, 286, 287, 288, 289, 325, 326, 327, 328, 392, 393, 394, 395, 377, 378, 379, 313, 314, 315, 316, 438, 439, 440, 441, 462, 463, 464, 465, 466, 467, 468, 469, 470, 471, 472, 473, 474, 475, 481, 482, 483, 484, 485, 486, 480, 487, 488, 489, 490, 491, 492, 493, 494, 495, 496, 497, 476, 477, 478, 479] (by decide +kernel) (by decide +kernel)
set_option maxRecDepth 20000 in
theorem gL_law_L_isOrderSo : GoodIn wsL_law (va_wsS RL 94 yL_isOrderSo wsL_isOrderSo) := goodIn_app (goodIn_of _ (by decide +kernel)) ggL_law_L_isOrderSo
set_option maxRecDepth 20000 in
theorem ggL_law_L_low : GoodIn wsL_law wsL_low := goodIn_r _ [253, 254] (by decide +kernel) (by decide +kernel)
set_option maxRecDepth 20000 in
theorem gL_law_L_low : GoodIn wsL_law (va_wsS RL 14 yL_low wsL_low) := goodIn_app (goodIn_of _ (by decide +kernel)) ggL_law_L_low
set_option maxRecDepth 20000 in
theorem ggL_law_L_areOrdersSo : GoodIn wsL_law wsL_areOrdersSo := goodIn_r _ [444, 425, 426, 427, 2, 428, 30, 12, 108, 130, 131, 132, 29, 133, 88, 87, 89, 134, 135, 136, 137, 138, 139, 140, 11, 141, 35, 36, 142, 143, 144, 145, 41, 146, 147, 148, 149, 42, 150, 151, 152, 153, 37, 38, 39, 43, 44, 45, 46, 154, 155, 156, 157, 158, 159, 160, 161, 162, 85, 90, 163, 164, 165, 166, 167, 168, 169, 170, 171, 172, 173, 25, 174, 69, 175, 176, 177, 178, 179, 180, 181, 182, 183, 68, 184, 185, 186, 187, 188, 189, 190, 191, 192, 193, 194, 195, 196, 197, 198, 199, 200, 201, 202, 203, 204, 205, 74, 75, 76, 77, 78, 79, 206, 207, 208, 209, 210, 211, 212, 213, 214, 215, 216, 217, 218, 219, 220, 221, 222, 223, 224, 225, 226, 227, 228, 445, 446, 447, 448, 449, 450, 451, 452, 286, 287, 288, 289, 325, 326, 327, 328, 126, 127, 128, 129, 453, 454, 455, 456, 92, 457, 378, 379, 242, 243, 244, 245, 458, 459, 460, 461, 123, 124, 125, 102, 103, 104, 105, 106, 107, 109, 18, 110, 22, 111, 112, 113, 114, 115, 116, 117, 118, 119, 120, 121, 122, 229, 230, 231, 232, 26, 233, 234, 235, 236, 237, 238, 239, 240, 241, 246, 247, 248, 249, 250, 433, 434, 435, 436, 13, 14, 437, 388, 389, 390, 391, 290, 392, 393, 394, 395, 377, 309, 310, 311, 312, 264, 265, 266, 17, 267, 51, 53, 268, 269, 270, 271, 272, 273, 274, 275, 276, 313, 314, 315, 316, 317, 318, 319, 320, 438, 439, 440, 441, 462, 463, 464, 465, 466, 467, 468, 469, 470, 471, 472, 473, 474, 475, 481, 482, 483, 484, 485, 486, 480, 487, 488, 489, 490, 491, 492, 493, 494, 495, 496, 497, 476, 477, 478, 479] (by decide +kernel) (by decide +kernel)
set_option maxRecDepth 20000 in
theorem gL_law_L_areOrdersSo : GoodIn wsL_law (va_wsS RL 97 yL_areOrdersSo wsL_areOrdersSo) := goodIn_app (goodIn_of _ (by decide +kernel)) ggL_law_L_areOrdersSo
theorem dL_law_0 : decode cL_law 0 = .ok (.new 9, 3) := by decide +kernel
theorem dL_law_3 : decode cL_law 3 = .ok (.dup, 1) := by decide +kernel
theorem dL_law_4 : decode cL_law 4 = .ok (.invokespecial 81, 3) := by decide +kernel
theorem dL_law_7 : decode cL_law 7 = .ok (.astore_n 1, 1) := by decide +kernel
theorem dL_law_8 : decode cL_law 8 = .ok (.iconst 0, 1) := by decide +kernel
theorem dL_law_9 : decode cL_law 9 = .ok (.istore_n 2, 1) := by decide +kernel
theorem dL_law_10 : decode cL_law 10 = .ok (.iload_n 2, 1) := by decide +kernel
theorem dL_law_11 : decode cL_law 11 = .ok (.bipush 36, 2) := by decide +kernel
theorem dL_law_13 : decode cL_law 13 = .ok (.if_icmp .ge 91, 3) := by decide +kernel
theorem dL_law_16 : decode cL_law 16 = .ok (.aload_n 0, 1) := by decide +kernel
theorem dL_law_17 : decode cL_law 17 = .ok (.iload_n 2, 1) := by decide +kernel
theorem dL_law_18 : decode cL_law 18 = .ok (.invokestatic 82, 3) := by decide +kernel
theorem dL_law_21 : decode cL_law 21 = .ok (.istore_n 3, 1) := by decide +kernel
theorem dL_law_22 : decode cL_law 22 = .ok (.aload_n 1, 1) := by decide +kernel
theorem dL_law_23 : decode cL_law 23 = .ok (.iload_n 3, 1) := by decide +kernel
theorem dL_law_24 : decode cL_law 24 = .ok (.invokestatic 86, 3) := by decide +kernel
theorem dL_law_27 : decode cL_law 27 = .ok (.istore 4, 2) := by decide +kernel
theorem dL_law_29 : decode cL_law 29 = .ok (.aload_n 1, 1) := by decide +kernel
theorem dL_law_30 : decode cL_law 30 = .ok (.iconst 0, 1) := by decide +kernel
theorem dL_law_31 : decode cL_law 31 = .ok (.invokevirtual 8, 3) := by decide +kernel
theorem dL_law_34 : decode cL_law 34 = .ok (.istore 5, 2) := by decide +kernel
theorem dL_law_36 : decode cL_law 36 = .ok (.iload 4, 2) := by decide +kernel
theorem dL_law_38 : decode cL_law 38 = .ok (.sipush (-1005), 3) := by decide +kernel
theorem dL_law_41 : decode cL_law 41 = .ok (.if_icmp .lt 55, 3) := by decide +kernel
theorem dL_law_44 : decode cL_law 44 = .ok (.aload_n 1, 1) := by decide +kernel
theorem dL_law_45 : decode cL_law 45 = .ok (.invokestatic 90, 3) := by decide +kernel
theorem dL_law_48 : decode cL_law 48 = .ok (.ifCond .eq 48, 3) := by decide +kernel
theorem dL_law_51 : decode cL_law 51 = .ok (.iload_n 2, 1) := by decide +kernel
theorem dL_law_52 : decode cL_law 52 = .ok (.iconst 3, 1) := by decide +kernel
theorem dL_law_53 : decode cL_law 53 = .ok (.irem, 1) := by decide +kernel
theorem dL_law_54 : decode cL_law 54 = .ok (.iconst 1, 1) := by decide +kernel
theorem dL_law_55 : decode cL_law 55 = .ok (.if_icmp .ne 10, 3) := by decide +kernel
theorem dL_law_58 : decode cL_law 58 = .ok (.aload_n 1, 1) := by decide +kernel
theorem dL_law_59 : decode cL_law 59 = .ok (.invokestatic 94, 3) := by decide +kernel
theorem dL_law_62 : decode cL_law 62 = .ok (.ifCond .eq 34, 3) := by decide +kernel
theorem dL_law_65 : decode cL_law 65 = .ok (.iload_n 2, 1) := by decide +kernel
theorem dL_law_66 : decode cL_law 66 = .ok (.iconst 4, 1) := by decide +kernel
theorem dL_law_67 : decode cL_law 67 = .ok (.irem, 1) := by decide +kernel
theorem dL_law_68 : decode cL_law 68 = .ok (.iconst 2, 1) := by decide +kernel
theorem dL_law_69 : decode cL_law 69 = .ok (.if_icmp .ne 29, 3) := by decide +kernel
theorem dL_law_72 : decode cL_law 72 = .ok (.aload_n 1, 1) := by decide +kernel
theorem dL_law_73 : decode cL_law 73 = .ok (.iload_n 3, 1) := by decide +kernel
theorem dL_law_74 : decode cL_law 74 = .ok (.iconst 5, 1) := by decide +kernel
theorem dL_law_75 : decode cL_law 75 = .ok (.ishr, 1) := by decide +kernel
theorem dL_law_76 : decode cL_law 76 = .ok (.iload 5, 2) := by decide +kernel
theorem dL_law_78 : decode cL_law 78 = .ok (.invokestatic 14, 3) := by decide +kernel
theorem dL_law_81 : decode cL_law 81 = .ok (.iload_n 3, 1) := by decide +kernel
theorem dL_law_82 : decode cL_law 82 = .ok (.bipush 8, 2) := by decide +kernel
theorem dL_law_84 : decode cL_law 84 = .ok (.ishr, 1) := by decide +kernel
theorem dL_law_85 : decode cL_law 85 = .ok (.iload 5, 2) := by decide +kernel
theorem dL_law_87 : decode cL_law 87 = .ok (.invokestatic 14, 3) := by decide +kernel
theorem dL_law_90 : decode cL_law 90 = .ok (.invokestatic 97, 3) := by decide +kernel
theorem dL_law_93 : decode cL_law 93 = .ok (.ifCond .ne 5, 3) := by decide +kernel
theorem dL_law_96 : decode cL_law 96 = .ok (.iconst 0, 1) := by decide +kernel
theorem dL_law_97 : decode cL_law 97 = .ok (.ireturn, 1) := by decide +kernel
theorem dL_law_98 : decode cL_law 98 = .ok (.iinc 2 1, 3) := by decide +kernel
theorem dL_law_101 : decode cL_law 101 = .ok (.goto (-91), 3) := by decide +kernel
theorem dL_law_104 : decode cL_law 104 = .ok (.iconst 1, 1) := by decide +kernel
theorem dL_law_105 : decode cL_law 105 = .ok (.ireturn, 1) := by decide +kernel
