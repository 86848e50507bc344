/-! printed (wip/p24/gen/mk71.py) -/
set_option maxRecDepth 20000 in
theorem gc_areBendsSo_c : GoodIn wsL_law [.code yL_areBendsSo cL_areBendsSo 11 (some .boolean)] := goodIn_r _ [383] (by decide +kernel) (by decide +kernel)
set_option maxRecDepth 20000 in
theorem gc_areBendsSo_r1 : GoodIn wsL_law wsL_areBendsSo_r1 := goodIn_r _ [102, 103, 104, 2, 105, 12, 106, 107, 30, 108, 109, 18, 110, 22, 111, 112, 113, 114, 11, 115, 37, 116, 117, 118] (by decide +kernel) (by decide +kernel)
set_option maxRecDepth 20000 in
theorem gc_areBendsSo_r2 : GoodIn wsL_law wsL_areBendsSo_r2 := goodIn_r _ [119, 120, 121, 122, 123, 124, 125, 126, 127, 128, 129, 130, 131, 132, 29, 133, 88, 87, 89, 134, 135, 136, 137, 138] (by decide +kernel) (by decide +kernel)
set_option maxRecDepth 20000 in
theorem gc_areBendsSo_r3 : GoodIn wsL_law wsL_areBendsSo_r3 := goodIn_r _ [139, 140, 141, 35, 36, 142, 143, 144, 145, 41, 146, 147, 148, 149, 42, 150, 151, 152, 153, 38, 39, 43, 44, 45] (by decide +kernel) (by decide +kernel)
set_option maxRecDepth 20000 in
theorem gc_areBendsSo_r4 : GoodIn wsL_law wsL_areBendsSo_r4 := goodIn_r _ [46, 154, 155, 156, 157, 158, 159, 160, 161, 162, 85, 90, 163, 164, 165, 166, 167, 168, 169, 170, 171, 172, 173, 25] (by decide +kernel) (by decide +kernel)
set_option maxRecDepth 20000 in
theorem gc_areBendsSo_r5 : GoodIn wsL_law wsL_areBendsSo_r5 := goodIn_r _ [174, 69, 175, 176, 177, 178, 179, 180, 181, 182, 183, 68, 184, 185, 186, 187, 188, 189, 190, 191, 192, 193, 194, 195] (by decide +kernel) (by decide +kernel)
set_option maxRecDepth 20000 in
theorem gc_areBendsSo_r6 : GoodIn wsL_law wsL_areBendsSo_r6 := goodIn_r _ [196, 197, 198, 199, 200, 201, 202, 203, 204, 205, 74, 75, 76, 77, 78, 79, 206, 207, 208, 209, 210, 211, 212, 213] (by decide +kernel) (by decide +kernel)
set_option maxRecDepth 20000 in
theorem gc_areBendsSo_r7 : GoodIn wsL_law wsL_areBendsSo_r7 := goodIn_r _ [214, 215, 216, 217, 218, 219, 220, 221, 222, 223, 224, 225, 226, 227, 228, 229, 230, 231, 232, 26, 233, 234, 235, 236] (by decide +kernel) (by decide +kernel)
set_option maxRecDepth 20000 in
theorem gc_areBendsSo_r8 : GoodIn wsL_law wsL_areBendsSo_r8 := goodIn_r _ [237, 238, 239, 240, 241, 242, 243, 244, 245, 246, 247, 248, 249, 250, 384, 385, 386, 387, 259, 260, 261, 262, 263, 388] (by decide +kernel) (by decide +kernel)
set_option maxRecDepth 20000 in
theorem gc_areBendsSo_r9 : GoodIn wsL_law wsL_areBendsSo_r9 := goodIn_r _ [389, 390, 391, 286, 287, 288, 289, 290, 325, 326, 327, 328, 392, 393, 394, 395, 377, 378, 379, 396, 397, 398, 399, 400] (by decide +kernel) (by decide +kernel)
set_option maxRecDepth 20000 in
theorem gc_areBendsSo_r10 : GoodIn wsL_law wsL_areBendsSo_r10 := goodIn_r _ [401, 402, 403, 404, 405, 406, 407, 408, 409, 410, 411, 412, 413, 414, 415, 416, 417, 418, 419, 420, 421] (by decide +kernel) (by decide +kernel)
set_option maxRecDepth 20000 in
theorem gc_areBendsSo_X6 : GoodIn wsL_law wsX60 := goodIn_r _ [462, 463, 464, 465, 466, 467, 468] (by decide +kernel) (by decide +kernel)
set_option maxRecDepth 20000 in
theorem gc_areBendsSo_X4 : GoodIn wsL_law wsX40 := goodIn_r _ [469, 470, 471, 472, 473, 474, 475] (by decide +kernel) (by decide +kernel)
set_option maxRecDepth 20000 in
theorem gc_areBendsSo_X0 : GoodIn wsL_law wsX00 := goodIn_r _ [476, 477] (by decide +kernel) (by decide +kernel)
set_option maxRecDepth 20000 in
theorem gc_areBendsSo_X5 : GoodIn wsL_law wsX50 := goodIn_r _ [478, 479] (by decide +kernel) (by decide +kernel)
set_option maxRecDepth 20000 in
theorem gc_areBendsSo_X1 : GoodIn wsL_law wsX10 := goodIn_r _ [481, 482, 483, 484, 485, 486] (by decide +kernel) (by decide +kernel)
set_option maxRecDepth 20000 in
theorem gc_areBendsSo_X2 : GoodIn wsL_law wsX20 := goodIn_r _ [480] (by decide +kernel) (by decide +kernel)
set_option maxRecDepth 20000 in
theorem gc_areBendsSo_X3 : GoodIn wsL_law wsX30 := goodIn_r _ [487, 488, 489, 490, 491, 492, 493, 494, 495, 496, 497] (by decide +kernel) (by decide +kernel)
theorem ggL_law_L_areBendsSo : GoodIn wsL_law wsL_areBendsSo := fun w h => (List.mem_cons.mp h).elim (fun e => gc_areBendsSo_c w (by rw [e]; exact List.mem_cons_self)) ((goodIn_app (goodIn_app (goodIn_app (goodIn_app (goodIn_app (goodIn_app (goodIn_app (goodIn_app gc_areBendsSo_r1 (goodIn_app gc_areBendsSo_r2 (goodIn_app gc_areBendsSo_r3 (goodIn_app gc_areBendsSo_r4 (goodIn_app gc_areBendsSo_r5 (goodIn_app gc_areBendsSo_r6 (goodIn_app gc_areBendsSo_r7 (goodIn_app gc_areBendsSo_r8 (goodIn_app gc_areBendsSo_r9 gc_areBendsSo_r10))))))))) gc_areBendsSo_X6) gc_areBendsSo_X4) gc_areBendsSo_X0) gc_areBendsSo_X5) gc_areBendsSo_X1) gc_areBendsSo_X2) gc_areBendsSo_X3) w)
set_option maxRecDepth 20000 in
theorem gL_law_L_areBendsSo : GoodIn wsL_law (va_wsS RL 90 yL_areBendsSo wsL_areBendsSo) := goodIn_app (goodIn_of _ (by decide +kernel)) ggL_law_L_areBendsSo
set_option maxRecDepth 20000 in
theorem gc_isOrderSo_c : GoodIn wsL_law [.code yL_isOrderSo cL_isOrderSo 10 (some .boolean)] := goodIn_r _ [424] (by decide +kernel) (by decide +kernel)
set_option maxRecDepth 20000 in
theorem gc_isOrderSo_r1 : GoodIn wsL_law wsL_isOrderSo_r1 := goodIn_r _ [40, 425, 426, 427, 2, 428, 30, 12, 108, 130, 131, 132, 29, 133, 88, 87, 89, 134, 135, 136, 137, 138, 139, 140] (by decide +kernel) (by decide +kernel)
set_option maxRecDepth 20000 in
theorem gc_isOrderSo_r2 : GoodIn wsL_law wsL_isOrderSo_r2 := goodIn_r _ [11, 141, 35, 36, 142, 143, 144, 145, 41, 146, 147, 148, 149, 42, 150, 151, 152, 153, 37, 38, 39, 43, 44, 45] (by decide +kernel) (by decide +kernel)
set_option maxRecDepth 20000 in
theorem gc_isOrderSo_r3 : GoodIn wsL_law wsL_isOrderSo_r3 := goodIn_r _ [46, 154, 155, 156, 157, 158, 159, 160, 161, 162, 85, 90, 163, 164, 165, 166, 167, 168, 169, 170, 171, 172, 173, 25] (by decide +kernel) (by decide +kernel)
set_option maxRecDepth 20000 in
theorem gc_isOrderSo_r4 : GoodIn wsL_law wsL_isOrderSo_r4 := goodIn_r _ [174, 69, 175, 176, 177, 178, 179, 180, 181, 182, 183, 68, 184, 185, 186, 187, 188, 189, 190, 191, 192, 193, 194, 195] (by decide +kernel) (by decide +kernel)
set_option maxRecDepth 20000 in
theorem gc_isOrderSo_r5 : GoodIn wsL_law wsL_isOrderSo_r5 := goodIn_r _ [196, 197, 198, 199, 200, 201, 202, 203, 204, 205, 74, 75, 76, 77, 78, 79, 206, 207, 208, 209, 210, 211, 212, 213] (by decide +kernel) (by decide +kernel)
set_option maxRecDepth 20000 in
theorem gc_isOrderSo_r6 : GoodIn wsL_law wsL_isOrderSo_r6 := goodIn_r _ [214, 215, 216, 217, 218, 219, 220, 221, 222, 223, 224, 225, 226, 227, 228, 102, 103, 104, 105, 106, 107, 109, 18, 110] (by decide +kernel) (by decide +kernel)
set_option maxRecDepth 20000 in
theorem gc_isOrderSo_r7 : GoodIn wsL_law wsL_isOrderSo_r7 := goodIn_r _ [22, 111, 112, 113, 114, 115, 116, 117, 118, 119, 120, 121, 122, 123, 124, 125, 126, 127, 128, 129, 229, 230, 231, 232] (by decide +kernel) (by decide +kernel)
set_option maxRecDepth 20000 in
theorem gc_isOrderSo_r8 : GoodIn wsL_law wsL_isOrderSo_r8 := goodIn_r _ [26, 233, 234, 235, 236, 237, 238, 239, 240, 241, 242, 243, 244, 245, 246, 247, 248, 249, 250, 429, 430, 431, 432, 334] (by decide +kernel) (by decide +kernel)
set_option maxRecDepth 20000 in
theorem gc_isOrderSo_r9 : GoodIn wsL_law wsL_isOrderSo_r9 := goodIn_r _ [335, 336, 337, 338, 339, 329, 330, 331, 332, 333, 264, 265, 266, 17, 267, 51, 53, 268, 269, 270, 271, 272, 273, 274] (by decide +kernel) (by decide +kernel)
set_option maxRecDepth 20000 in
theorem gc_isOrderSo_r10 : GoodIn wsL_law wsL_isOrderSo_r10 := goodIn_r _ [275, 276, 290, 317, 318, 319, 320, 433, 434, 435, 436, 13, 14, 437, 309, 310, 311, 312, 388, 389, 390, 391, 286, 287] (by decide +kernel) (by decide +kernel)
set_option maxRecDepth 20000 in
theorem gc_isOrderSo_r11 : GoodIn wsL_law wsL_isOrderSo_r11 := goodIn_r _ [288, 289, 325, 326, 327, 328, 392, 393, 394, 395, 377, 378, 379, 313, 314, 315, 316, 438, 439, 440, 441] (by decide +kernel) (by decide +kernel)
set_option maxRecDepth 20000 in
theorem gc_isOrderSo_X6 : GoodIn wsL_law wsX60 := goodIn_r _ [462, 463, 464, 465, 466, 467, 468] (by decide +kernel) (by decide +kernel)
set_option maxRecDepth 20000 in
theorem gc_isOrderSo_X4 : GoodIn wsL_law wsX40 := goodIn_r _ [469, 470, 471, 472, 473, 474, 475] (by decide +kernel) (by decide +kernel)
set_option maxRecDepth 20000 in
theorem gc_isOrderSo_X1 : GoodIn wsL_law wsX10 := goodIn_r _ [481, 482, 483, 484, 485, 486] (by decide +kernel) (by decide +kernel)
set_option maxRecDepth 20000 in
theorem gc_isOrderSo_X2 : GoodIn wsL_law wsX20 := goodIn_r _ [480] (by decide +kernel) (by decide +kernel)
set_option maxRecDepth 20000 in
theorem gc_isOrderSo_X3 : GoodIn wsL_law wsX30 := goodIn_r _ [487, 488, 489, 490, 491, 492, 493, 494, 495, 496, 497] (by decide +kernel) (by decide +kernel)
set_option maxRecDepth 20000 in
theorem gc_isOrderSo_X0 : GoodIn wsL_law wsX00 := goodIn_r _ [476, 477] (by decide +kernel) (by decide +kernel)
set_option maxRecDepth 20000 in
theorem gc_isOrderSo_X5 : GoodIn wsL_law wsX50 := goodIn_r _ [478, 479] (by decide +kernel) (by decide +kernel)
theorem ggL_law_L_isOrderSo : GoodIn wsL_law wsL_isOrderSo := fun w h => (List.mem_cons.mp h).elim (fun e => gc_isOrderSo_c w (by rw [e]; exact List.mem_cons_self)) ((goodIn_app (goodIn_app (goodIn_app (goodIn_app (goodIn_app (goodIn_app (goodIn_app (goodIn_app gc_isOrderSo_r1 (goodIn_app gc_isOrderSo_r2 (goodIn_app gc_isOrderSo_r3 (goodIn_app gc_isOrderSo_r4 (goodIn_app gc_isOrderSo_r5 (goodIn_app gc_isOrderSo_r6 (goodIn_app gc_isOrderSo_r7 (goodIn_app gc_isOrderSo_r8 (goodIn_app gc_isOrderSo_r9 (goodIn_app gc_isOrderSo_r10 gc_isOrderSo_r11)))))))))) gc_isOrderSo_X6) gc_isOrderSo_X4) gc_isOrderSo_X1) gc_isOrderSo_X2) gc_isOrderSo_X3) gc_isOrderSo_X0) gc_isOrderSo_X5) w)
set_option maxRecDepth 20000 in
theorem gL_law_L_isOrderSo : GoodIn wsL_law (va_wsS RL 94 yL_isOrderSo wsL_isOrderSo) := goodIn_app (goodIn_of _ (by decide +kernel)) ggL_law_L_isOrderSo
set_option maxRecDepth 20000 in
theorem gc_areOrdersSo_c : GoodIn wsL_law [.code yL_areOrdersSo cL_areOrdersSo 13 (some .boolean)] := goodIn_r _ [444] (by decide +kernel) (by decide +kernel)
set_option maxRecDepth 20000 in
theorem gc_areOrdersSo_r1 : GoodIn wsL_law wsL_areOrdersSo_r1 := goodIn_r _ [425, 426, 427, 2, 428, 30, 12, 108, 130, 131, 132, 29, 133, 88, 87, 89, 134, 135, 136, 137, 138, 139, 140, 11] (by decide +kernel) (by decide +kernel)
set_option maxRecDepth 20000 in
theorem gc_areOrdersSo_r2 : GoodIn wsL_law wsL_areOrdersSo_r2 := goodIn_r _ [141, 35, 36, 142, 143, 144, 145, 41, 146, 147, 148, 149, 42, 150, 151, 152, 153, 37, 38, 39, 43, 44, 45, 46] (by decide +kernel) (by decide +kernel)
set_option maxRecDepth 20000 in
theorem gc_areOrdersSo_r3 : GoodIn wsL_law wsL_areOrdersSo_r3 := goodIn_r _ [154, 155, 156, 157, 158, 159, 160, 161, 162, 85, 90, 163, 164, 165, 166, 167, 168, 169, 170, 171, 172, 173, 25, 174] (by decide +kernel) (by decide +kernel)
set_option maxRecDepth 20000 in
theorem gc_areOrdersSo_r4 : GoodIn wsL_law wsL_areOrdersSo_r4 := goodIn_r _ [69, 175, 176, 177, 178, 179, 180, 181, 182, 183, 68, 184, 185, 186, 187, 188, 189, 190, 191, 192, 193, 194, 195, 196] (by decide +kernel) (by decide +kernel)
set_option maxRecDepth 20000 in
theorem gc_areOrdersSo_r5 : GoodIn wsL_law wsL_areOrdersSo_r5 := goodIn_r _ [197, 198, 199, 200, 201, 202, 203, 204, 205, 74, 75, 76, 77, 78, 79, 206, 207, 208, 209, 210, 211, 212, 213, 214] (by decide +kernel) (by decide +kernel)
set_option maxRecDepth 20000 in
theorem gc_areOrdersSo_r6 : GoodIn wsL_law wsL_areOrdersSo_r6 := goodIn_r _ [215, 216, 217, 218, 219, 220, 221, 222, 223, 224, 225, 226, 227, 228, 445, 446, 447, 448, 449, 450, 451, 452, 286, 287] (by decide +kernel) (by decide +kernel)
set_option maxRecDepth 20000 in
theorem gc_areOrdersSo_r7 : GoodIn wsL_law wsL_areOrdersSo_r7 := goodIn_r _ [288, 289, 325, 326, 327, 328, 126, 127, 128, 129, 453, 454, 455, 456, 92, 457, 378, 379, 242, 243, 244, 245, 458, 459] (by decide +kernel) (by decide +kernel)
set_option maxRecDepth 20000 in
theorem gc_areOrdersSo_r8 : GoodIn wsL_law wsL_areOrdersSo_r8 := goodIn_r _ [460, 461, 123, 124, 125, 102, 103, 104, 105, 106, 107, 109, 18, 110, 22, 111, 112, 113, 114, 115, 116, 117, 118, 119] (by decide +kernel) (by decide +kernel)
set_option maxRecDepth 20000 in
theorem gc_areOrdersSo_r9 : GoodIn wsL_law wsL_areOrdersSo_r9 := goodIn_r _ [120, 121, 122, 229, 230, 231, 232, 26, 233, 234, 235, 236, 237, 238, 239, 240, 241, 246, 247, 248, 249, 250, 433, 434] (by decide +kernel) (by decide +kernel)
set_option maxRecDepth 20000 in
theorem gc_areOrdersSo_r10 : GoodIn wsL_law wsL_areOrdersSo_r10 := goodIn_r _ [435, 436, 13, 14, 437, 388, 389, 390, 391, 290, 392, 393, 394, 395, 377, 309, 310, 311, 312, 264, 265, 266, 17, 267] (by decide +kernel) (by decide +kernel)
set_option maxRecDepth 20000 in
theorem gc_areOrdersSo_r11 : GoodIn wsL_law wsL_areOrdersSo_r11 := goodIn_r _ [51, 53, 268, 269, 270, 271, 272, 273, 274, 275, 276, 313, 314, 315, 316, 317, 318, 319, 320, 438, 439, 440, 441] (by decide +kernel) (by decide +kernel)
set_option maxRecDepth 20000 in
theorem gc_areOrdersSo_X6 : GoodIn wsL_law wsX60 := goodIn_r _ [462, 463, 464, 465, 466, 467, 468] (by decide +kernel) (by decide +kernel)
set_option maxRecDepth 20000 in
theorem gc_areOrdersSo_X4 : GoodIn wsL_law wsX40 := goodIn_r _ [469, 470, 471, 472, 473, 474, 475] (by decide +kernel) (by decide +kernel)
set_option maxRecDepth 20000 in
theorem gc_areOrdersSo_X1 : GoodIn wsL_law wsX10 := goodIn_r _ [481, 482, 483, 484, 485, 486] (by decide +kernel) (by decide +kernel)
set_option maxRecDepth 20000 in
theorem gc_areOrdersSo_X2 : GoodIn wsL_law wsX20 := goodIn_r _ [480] (by decide +kernel) (by decide +kernel)
set_option maxRecDepth 20000 in
theorem gc_areOrdersSo_X3 : GoodIn wsL_law wsX30 := goodIn_r _ [487, 488, 489, 490, 491, 492, 493, 494, 495, 496, 497] (by decide +kernel) (by decide +kernel)
set_option maxRecDepth 20000 in
theorem gc_areOrdersSo_X0 : GoodIn wsL_law wsX00 := goodIn_r _ [476, 477] (by decide +kernel) (by decide +kernel)
set_option maxRecDepth 20000 in
theorem gc_areOrdersSo_X5 : GoodIn wsL_law wsX50 := goodIn_r _ [478, 479] (by decide +kernel) (by decide +kernel)
theorem ggL_law_L_areOrdersSo : GoodIn wsL_law wsL_areOrdersSo := fun w h => (List.mem_cons.mp h).elim (fun e => gc_areOrdersSo_c w (by rw [e]; exact List.mem_cons_self)) ((goodIn_app (goodIn_app (goodIn_app (goodIn_app (goodIn_app (goodIn_app (goodIn_app (goodIn_app gc_areOrdersSo_r1 (goodIn_app gc_areOrdersSo_r2 (goodIn_app gc_areOrdersSo_r3 (goodIn_app gc_areOrdersSo_r4 (goodIn_app gc_areOrdersSo_r5 (goodIn_app gc_areOrdersSo_r6 (goodIn_app gc_areOrdersSo_r7 (goodIn_app gc_areOrdersSo_r8 (goodIn_app gc_areOrdersSo_r9 (goodIn_app gc_areOrdersSo_r10 gc_areOrdersSo_r11)))))))))) gc_areOrdersSo_X6) gc_areOrdersSo_X4) gc_areOrdersSo_X1) gc_areOrdersSo_X2) gc_areOrdersSo_X3) gc_areOrdersSo_X0) gc_areOrdersSo_X5) w)
set_option maxRecDepth 20000 in
theorem gL_law_L_areOrdersSo : GoodIn wsL_law (va_wsS RL 97 yL_areOrdersSo wsL_areOrdersSo) := goodIn_app (goodIn_of _ (by decide +kernel)) ggL_law_L_areOrdersSo
