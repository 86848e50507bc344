/-! the law's words and their places in the tables, printed (wip/p24/gen/genlaw.py) -/
set_option maxRecDepth 20000 in
set_option maxHeartbeats 4000000 in
theorem li_r1 : ∀ w ∈ wsL_law_r1, w ∈ lw_tbl := fun w h => (goodIn_r wsL_law_r1 [25, 26, 15, 27, 28, 29, 30, 31, 32, 33, 34, 16, 188, 189, 190, 76, 77, 18, 191, 93, 94, 19, 192, 108] (by decide +kernel) (by decide +kernel) w h).1
set_option maxRecDepth 20000 in
set_option maxHeartbeats 4000000 in
theorem li_r2 : ∀ w ∈ wsL_law_r2, w ∈ lw_tbl := fun w h => (goodIn_r wsL_law_r2 [109, 20, 193, 158, 159, 22, 194, 35, 36, 37, 38, 44, 48, 50, 53, 56, 75, 58, 59, 41, 43, 42, 17, 78] (by decide +kernel) (by decide +kernel) w h).1
set_option maxRecDepth 20000 in
set_option maxHeartbeats 4000000 in
theorem li_r3 : ∀ w ∈ wsL_law_r3, w ∈ lw_tbl := fun w h => (goodIn_r wsL_law_r3 [79, 80, 81, 85, 82, 87, 84, 95, 96, 97, 98, 99, 107, 101, 110, 111, 112, 113, 114, 115, 21, 154, 116, 117] (by decide +kernel) (by decide +kernel) w h).1
set_option maxRecDepth 20000 in
set_option maxHeartbeats 4000000 in
theorem li_r4 : ∀ w ∈ wsL_law_r4, w ∈ lw_tbl := fun w h => (goodIn_r wsL_law_r4 [118, 119, 125, 126, 127, 128, 129, 130, 160, 161, 162, 163, 164, 168, 166, 169, 170, 171, 172, 187, 173, 165, 167, 344] (by decide +kernel) (by decide +kernel) w h).1
set_option maxRecDepth 20000 in
set_option maxHeartbeats 4000000 in
theorem li_r5 : ∀ w ∈ wsL_law_r5, w ∈ lw_tbl := fun w h => (goodIn_r wsL_law_r5 [345, 14, 346, 351, 352, 353, 210, 211, 212, 213, 46, 55, 51, 57, 86, 100, 214, 215, 216, 217, 218, 219, 23, 220] (by decide +kernel) (by decide +kernel) w h).1
set_option maxRecDepth 20000 in
set_option maxHeartbeats 4000000 in
theorem li_r6 : ∀ w ∈ wsL_law_r6, w ∈ lw_tbl := fun w h => (goodIn_r wsL_law_r6 [221, 222, 223, 224, 225, 226, 227, 229, 0, 230, 231, 232, 233, 234, 255, 256, 24, 257, 235, 236, 237, 238, 239, 240] (by decide +kernel) (by decide +kernel) w h).1
set_option maxRecDepth 20000 in
set_option maxHeartbeats 4000000 in
theorem li_r7 : ∀ w ∈ wsL_law_r7, w ∈ lw_tbl := fun w h => (goodIn_r wsL_law_r7 [241, 242, 243, 244, 245, 246, 247, 248, 249, 250, 251, 252, 253, 254, 258, 260, 1, 261, 47, 262, 263, 264, 265, 266] (by decide +kernel) (by decide +kernel) w h).1
set_option maxRecDepth 20000 in
set_option maxHeartbeats 4000000 in
theorem li_r8 : ∀ w ∈ wsL_law_r8, w ∈ lw_tbl := fun w h => (goodIn_r wsL_law_r8 [267, 268, 269, 270, 271, 272, 273, 274, 275, 276, 277, 278, 279, 280, 281, 282, 283, 45, 284, 120, 285, 287, 2, 288] (by decide +kernel) (by decide +kernel) w h).1
set_option maxRecDepth 20000 in
set_option maxHeartbeats 4000000 in
theorem li_r9 : ∀ w ∈ wsL_law_r9, w ∈ lw_tbl := fun w h => (goodIn_r wsL_law_r9 [121, 122, 123, 124, 289, 290, 292, 3, 293, 294, 295, 297, 4, 298, 299, 301, 5, 302, 303, 304, 305, 306, 307, 308] (by decide +kernel) (by decide +kernel) w h).1
set_option maxRecDepth 20000 in
set_option maxHeartbeats 4000000 in
theorem li_r10 : ∀ w ∈ wsL_law_r10, w ∈ lw_tbl := fun w h => (goodIn_r wsL_law_r10 [310, 6, 311, 312, 313, 314, 315, 316, 317, 318, 319, 320, 321, 322, 324, 7, 325, 326, 327, 328, 329, 330, 331, 332] (by decide +kernel) (by decide +kernel) w h).1
set_option maxRecDepth 20000 in
set_option maxHeartbeats 4000000 in
theorem li_r11 : ∀ w ∈ wsL_law_r11, w ∈ lw_tbl := fun w h => (goodIn_r wsL_law_r11 [333, 334, 335, 337, 8, 338, 339, 340, 341, 342, 343, 347, 348, 349, 350, 354, 355, 356, 357, 358, 359, 360, 361, 362] (by decide +kernel) (by decide +kernel) w h).1
set_option maxRecDepth 20000 in
set_option maxHeartbeats 4000000 in
theorem li_r12 : ∀ w ∈ wsL_law_r12, w ∈ lw_tbl := fun w h => (goodIn_r wsL_law_r12 [363, 364, 365, 366, 367, 369, 9, 370, 371, 373, 10, 374, 375, 376, 377, 378, 379, 380, 381, 382, 383, 49, 384, 385] (by decide +kernel) (by decide +kernel) w h).1
set_option maxRecDepth 20000 in
set_option maxHeartbeats 4000000 in
theorem li_r13 : ∀ w ∈ wsL_law_r13, w ∈ lw_tbl := fun w h => (goodIn_r wsL_law_r13 [386, 387, 388, 389, 390, 391, 392, 393, 394, 395, 396, 397, 398, 399, 400, 401, 403, 405, 406, 407, 408, 409, 410, 411] (by decide +kernel) (by decide +kernel) w h).1
set_option maxRecDepth 20000 in
set_option maxHeartbeats 4000000 in
theorem li_r14 : ∀ w ∈ wsL_law_r14, w ∈ lw_tbl := fun w h => (goodIn_r wsL_law_r14 [412, 413, 414, 415, 416, 417, 418, 419, 420, 421, 422, 423, 424, 425, 426, 427, 428, 429, 430, 431, 432, 438, 433, 434] (by decide +kernel) (by decide +kernel) w h).1
set_option maxRecDepth 20000 in
set_option maxHeartbeats 4000000 in
theorem li_r15 : ∀ w ∈ wsL_law_r15, w ∈ lw_tbl := fun w h => (goodIn_r wsL_law_r15 [435, 436, 437, 439, 440, 441, 442, 443, 444, 445, 446, 447, 448, 449, 450, 451, 452, 453, 454, 455, 456, 457, 458, 459] (by decide +kernel) (by decide +kernel) w h).1
set_option maxRecDepth 20000 in
set_option maxHeartbeats 4000000 in
theorem li_r16 : ∀ w ∈ wsL_law_r16, w ∈ lw_tbl := fun w h => (goodIn_r wsL_law_r16 [460, 462, 11, 463, 464, 465, 466, 467, 468, 469, 470, 471, 472, 473, 474, 475, 476, 477, 478, 479, 480, 481, 482, 483] (by decide +kernel) (by decide +kernel) w h).1
set_option maxRecDepth 20000 in
set_option maxHeartbeats 4000000 in
theorem li_r17 : ∀ w ∈ wsL_law_r17, w ∈ lw_tbl := fun w h => (goodIn_r wsL_law_r17 [484, 485, 486, 487, 488, 489, 490, 491, 492, 493, 494, 495, 496, 497, 498, 499, 500, 501, 502, 503, 504, 505, 506, 507] (by decide +kernel) (by decide +kernel) w h).1
set_option maxRecDepth 20000 in
set_option maxHeartbeats 4000000 in
theorem li_r18 : ∀ w ∈ wsL_law_r18, w ∈ lw_tbl := fun w h => (goodIn_r wsL_law_r18 [508, 509, 510, 511, 52, 54, 512, 513, 514, 515, 516, 517, 518, 519, 520, 521, 522, 523, 524, 525, 526, 527, 528, 529] (by decide +kernel) (by decide +kernel) w h).1
set_option maxRecDepth 20000 in
set_option maxHeartbeats 4000000 in
theorem li_r19 : ∀ w ∈ wsL_law_r19, w ∈ lw_tbl := fun w h => (goodIn_r wsL_law_r19 [530, 531, 532, 533, 534, 535, 536, 537, 538, 539, 540, 541, 542, 543, 544, 545, 546, 547, 549, 12, 550, 551, 552, 553] (by decide +kernel) (by decide +kernel) w h).1
set_option maxRecDepth 20000 in
set_option maxHeartbeats 4000000 in
theorem li_r20 : ∀ w ∈ wsL_law_r20, w ∈ lw_tbl := fun w h => (goodIn_r wsL_law_r20 [554, 555, 556, 558, 13, 559] (by decide +kernel) (by decide +kernel) w h).1
set_option maxRecDepth 20000 in
set_option maxHeartbeats 4000000 in
theorem li_X0 : ∀ w ∈ u_ws RX0 TX0 2, w ∈ lw_tbl := fun w h => (goodIn_r (u_ws RX0 TX0 2) [88, 90] (by decide +kernel) (by decide +kernel) w h).1
set_option maxRecDepth 20000 in
set_option maxHeartbeats 4000000 in
theorem li_X1 : ∀ w ∈ u_ws RX1 TX1 6, w ∈ lw_tbl := fun w h => (goodIn_r (u_ws RX1 TX1 6) [174, 176, 178, 180, 182, 184] (by decide +kernel) (by decide +kernel) w h).1
set_option maxRecDepth 20000 in
set_option maxHeartbeats 4000000 in
theorem li_X2 : ∀ w ∈ u_ws RX2 TX2 1, w ∈ lw_tbl := fun w h => (goodIn_r (u_ws RX2 TX2 1) [155] (by decide +kernel) (by decide +kernel) w h).1
set_option maxRecDepth 20000 in
set_option maxHeartbeats 4000000 in
theorem li_X3 : ∀ w ∈ u_ws RX3 TX3 11, w ∈ lw_tbl := fun w h => (goodIn_r (u_ws RX3 TX3 11) [131, 133, 135, 137, 139, 141, 143, 145, 147, 149, 151] (by decide +kernel) (by decide +kernel) w h).1
set_option maxRecDepth 20000 in
set_option maxHeartbeats 4000000 in
theorem li_X4 : ∀ w ∈ u_ws RX4 TX4 7, w ∈ lw_tbl := fun w h => (goodIn_r (u_ws RX4 TX4 7) [60, 62, 64, 66, 68, 70, 72] (by decide +kernel) (by decide +kernel) w h).1
set_option maxRecDepth 20000 in
set_option maxHeartbeats 4000000 in
theorem li_X5 : ∀ w ∈ u_ws RX5 TX5 2, w ∈ lw_tbl := fun w h => (goodIn_r (u_ws RX5 TX5 2) [102, 104] (by decide +kernel) (by decide +kernel) w h).1
set_option maxRecDepth 20000 in
set_option maxHeartbeats 4000000 in
theorem li_X6 : ∀ w ∈ u_ws RX6 TX6 7, w ∈ lw_tbl := fun w h => (goodIn_r (u_ws RX6 TX6 7) [195, 197, 199, 201, 203, 205, 207] (by decide +kernel) (by decide +kernel) w h).1
theorem mem_ap {a b big : List Cond} (ha : ∀ w ∈ a, w ∈ big) (hb : ∀ w ∈ b, w ∈ big) : ∀ w ∈ a ++ b, w ∈ big := fun w h => (List.mem_append.mp h).elim (ha w) (hb w)
theorem wsL_law_in : ∀ w ∈ wsL_law, w ∈ lw_tbl := (mem_ap (mem_ap (mem_ap (mem_ap (mem_ap (mem_ap (mem_ap (mem_ap (mem_ap li_r1 (mem_ap li_r2 (mem_ap li_r3 (mem_ap li_r4 (mem_ap li_r5 (mem_ap li_r6 (mem_ap li_r7 (mem_ap li_r8 (mem_ap li_r9 (mem_ap li_r10 (mem_ap li_r11 (mem_ap li_r12 (mem_ap li_r13 (mem_ap li_r14 (mem_ap li_r15 (mem_ap li_r16 (mem_ap li_r17 (mem_ap li_r18 (mem_ap li_r19 li_r20))))))))))))))))))) li_X6) li_X4) li_X0) li_X5) li_X2) li_X1) li_X3) (fun _ h => absurd h List.not_mem_nil))
