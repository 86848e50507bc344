/-! the law: its calls' words, printed (the class) -/
set_option maxRecDepth 20000 in
theorem ggL_law_X6_init : GoodIn wsL_law wsX6_init := goodIn_r _ [8, 9, 10, 11, 12, 13, 14, 15, 16, 17, 18, 19, 20, 21, 22, 23, 24, 25, 26, 27, 28, 29, 30, 31, 32, 33, 34, 35, 36, 37, 38, 39, 40, 41, 42, 43, 44, 45, 46, 47, 48, 49, 50, 51, 52, 53, 54, 55, 56, 57, 58, 59, 60, 61, 62, 63, 64, 65, 66, 67, 68, 69, 70, 71, 72, 73, 74, 75, 76, 77, 78, 79, 80, 81, 82, 83, 84, 85, 86, 87, 88, 89, 90, 91, 92, 93, 94, 95, 96, 97, 675, 676, 677, 678, 679, 680, 681, 655, 656, 657, 658, 659, 660, 661, 682, 683, 684, 685, 686, 687, 688, 689, 690, 691, 692, 693, 694, 695, 696, 697, 698, 699, 700, 701, 702, 703] (by decide +kernel) (by decide +kernel)
set_option maxRecDepth 20000 in
theorem gL_law_X6_init : GoodIn wsL_law (wsX6_init) := ggL_law_X6_init
set_option maxRecDepth 20000 in
theorem ggL_law_X6_takeStrip : GoodIn wsL_law wsX6_takeStrip := goodIn_r _ [114, 25, 21, 15, 115, 116, 117, 118, 24, 119, 62, 120, 121, 122, 123, 124, 125, 126, 127, 64, 128, 129, 130, 20, 131, 54, 56, 132, 133, 134, 135, 136, 137, 138, 139, 140, 141, 142, 14, 143, 38, 39, 40, 41, 42, 44, 46, 47, 48, 49, 45, 144, 145, 146, 147, 148, 149, 150, 151, 152, 153, 154, 155, 156, 157, 158, 159, 160, 161, 162, 163, 164, 165, 166, 167, 655, 656, 657, 658, 659, 660, 661, 675, 676, 677, 678, 679, 680, 681, 684, 685, 682, 683] (by decide +kernel) (by decide +kernel)
set_option maxRecDepth 20000 in
theorem gL_law_X6_takeStrip : GoodIn wsL_law (wsV RL 13 RX6 yX6_takeStrip wsX6_takeStrip) := goodIn_app (goodIn_of _ (by decide +kernel)) ggL_law_X6_takeStrip
set_option maxRecDepth 20000 in
theorem ggL_law_X6_setLength : GoodIn wsL_law wsX6_setLength := goodIn_r _ [188, 15, 189, 21, 190, 191, 192, 14, 193, 38, 194, 195, 196, 197, 44, 128, 129, 130, 20, 131, 54, 56, 132, 133, 134, 135, 136, 137, 138, 139, 140, 141, 142, 143, 39, 40, 41, 42, 46, 47, 48, 49, 45, 160, 161, 162, 163, 655, 656, 657, 658, 659, 660, 661, 675, 676, 677, 678, 679, 680, 681, 682, 683] (by decide +kernel) (by decide +kernel)
set_option maxRecDepth 20000 in
theorem gL_law_X6_setLength : GoodIn wsL_law (wsV RL 18 RX6 yX6_setLength wsX6_setLength) := goodIn_app (goodIn_of _ (by decide +kernel)) ggL_law_X6_setLength
set_option maxRecDepth 20000 in
theorem ggL_law_X6_setUp : GoodIn wsL_law wsX6_setUp := goodIn_r _ [213, 15, 189, 21, 214, 215, 216, 217, 14, 218, 38, 219, 220, 221, 222, 39, 128, 129, 130, 20, 131, 54, 56, 132, 133, 134, 135, 136, 137, 138, 139, 140, 141, 142, 143, 40, 41, 42, 44, 46, 47, 48, 49, 45, 164, 165, 166, 167, 223, 224, 225, 226, 227, 228, 229, 655, 656, 657, 658, 659, 660, 661, 675, 676, 677, 678, 679, 680, 681, 682, 683] (by decide +kernel) (by decide +kernel)
set_option maxRecDepth 20000 in
theorem gL_law_X6_setUp : GoodIn wsL_law (wsV RL 23 RX6 yX6_setUp wsX6_setUp) := goodIn_app (goodIn_of _ (by decide +kernel)) ggL_law_X6_setUp
set_option maxRecDepth 20000 in
theorem ggL_law_X6_set : GoodIn wsL_law wsX6_set := goodIn_r _ [241, 15, 21, 242, 243, 2, 244, 245, 246, 247, 248, 249, 14, 250, 45, 128, 129, 130, 20, 131, 54, 56, 132, 133, 134, 135, 136, 137, 138, 139, 140, 141, 142, 143, 38, 39, 40, 41, 42, 44, 46, 47, 48, 49, 251, 252, 253, 254, 655, 656, 657, 658, 659, 660, 661, 675, 676, 677, 678, 679, 680, 681, 682, 683] (by decide +kernel) (by decide +kernel)
set_option maxRecDepth 20000 in
theorem gL_law_X6_set : GoodIn wsL_law (wsV RL 28 RX6 yX6_set wsX6_set) := goodIn_app (goodIn_of _ (by decide +kernel)) ggL_law_X6_set
set_option maxRecDepth 20000 in
theorem ggL_law_X6_layOver : GoodIn wsL_law wsX6_layOver := goodIn_r _ [262, 21, 15, 263, 128, 129, 130, 20, 131, 54, 56, 132, 133, 134, 135, 136, 137, 138, 139, 140, 141, 142, 14, 143, 38, 39, 40, 41, 42, 44, 46, 47, 48, 49, 45, 264, 265, 2, 266, 655, 656, 657, 658, 659, 660, 661, 675, 676, 677, 678, 679, 680, 681, 682, 683] (by decide +kernel) (by decide +kernel)
set_option maxRecDepth 20000 in
theorem gL_law_X6_layOver : GoodIn wsL_law (wsV RL 32 RX6 yX6_layOver wsX6_layOver) := goodIn_app (goodIn_of _ (by decide +kernel)) ggL_law_X6_layOver
set_option maxRecDepth 20000 in
theorem ggL_law_X6_bend : GoodIn wsL_law wsX6_bend := goodIn_r _ [274, 15, 29, 189, 263, 21, 215, 216, 217, 14, 218, 38, 275, 276, 277, 28, 278, 72, 279, 220, 221, 222, 39, 280, 281, 282, 283, 284, 195, 196, 197, 44, 285, 248, 249, 250, 45, 286, 287, 288, 71, 289, 290, 291, 153, 154, 155, 292, 293, 294, 295, 296, 297, 298, 299, 300, 301, 302, 303, 304, 305, 306, 307, 308, 309, 310, 77, 78, 79, 80, 81, 82, 311, 312, 313, 314, 315, 316, 317, 318, 319, 320, 321, 322, 323, 324, 325, 326, 327, 328, 329, 330, 331, 332, 128, 129, 130, 20, 131, 54, 56, 132, 133, 134, 135, 136, 137, 138, 139, 140, 141, 142, 143, 40, 41, 42, 46, 47, 48, 49, 333, 334, 335, 336, 337, 338, 339, 340, 341, 224, 225, 226, 227, 228, 229, 655, 656, 657, 658, 659, 660, 661, 675, 676, 677, 678, 679, 680, 681, 686, 693, 694, 695, 696, 697, 698, 699, 700, 701, 702, 703, 682, 683] (by decide +kernel) (by decide +kernel)
set_option maxRecDepth 20000 in
theorem gL_law_X6_bend : GoodIn wsL_law (wsV RL 36 RX6 yX6_bend wsX6_bend) := goodIn_app (goodIn_of _ (by decide +kernel)) ggL_law_X6_bend
set_option maxRecDepth 20000 in
theorem ggL_law_X6_flatten : GoodIn wsL_law wsX6_flatten := goodIn_r _ [392, 15, 21, 189, 215, 216, 217, 14, 218, 38, 393, 394, 395, 396, 40, 128, 129, 130, 20, 131, 54, 56, 132, 133, 134, 135, 136, 137, 138, 139, 140, 141, 142, 143, 39, 41, 42, 44, 46, 47, 48, 49, 45, 337, 338, 339, 340, 341, 224, 225, 226, 227, 228, 229, 655, 656, 657, 658, 659, 660, 661, 675, 676, 677, 678, 679, 680, 681, 682, 683] (by decide +kernel) (by decide +kernel)
set_option maxRecDepth 20000 in
theorem gL_law_X6_flatten : GoodIn wsL_law (wsV RL 41 RX6 yX6_flatten wsX6_flatten) := goodIn_app (goodIn_of _ (by decide +kernel)) ggL_law_X6_flatten
set_option maxRecDepth 20000 in
theorem ggL_law_X6_follow : GoodIn wsL_law wsX6_follow := goodIn_r _ [404, 15, 21, 405, 153, 154, 155, 33, 189, 263, 406, 407, 408, 2, 409, 410, 411, 412, 32, 413, 91, 90, 92, 414, 415, 416, 417, 14, 418, 38, 39, 284, 195, 196, 197, 44, 419, 248, 249, 250, 45, 420, 141, 142, 143, 40, 41, 42, 46, 47, 48, 49, 421, 422, 423, 424, 425, 426, 427, 428, 429, 88, 93, 430, 431, 432, 433, 434, 220, 221, 222, 435, 276, 277, 28, 278, 72, 279, 280, 281, 282, 283, 285, 286, 287, 288, 71, 289, 290, 291, 292, 293, 294, 295, 296, 297, 298, 299, 300, 301, 302, 303, 304, 305, 306, 307, 308, 309, 310, 77, 78, 79, 80, 81, 82, 311, 312, 313, 314, 315, 316, 317, 318, 319, 320, 321, 322, 323, 324, 325, 326, 327, 328, 329, 330, 331, 332, 436, 437, 438, 439, 440, 441, 338, 339, 340, 341, 224, 225, 226, 227, 228, 229, 128, 129, 130, 20, 131, 54, 56, 132, 133, 134, 135, 136, 137, 138, 139, 140, 442, 443, 444, 445, 446, 447, 448, 449, 219, 333, 334, 335, 336, 337, 655, 656, 657, 658, 659, 660, 661, 675, 676, 677, 678, 679, 680, 681, 687, 688, 689, 690, 691, 692, 686, 693, 694, 695, 696, 697, 698, 699, 700, 701, 702, 703, 682, 683] (by decide +kernel) (by decide +kernel)
set_option maxRecDepth 20000 in
theorem gL_law_X6_follow : GoodIn wsL_law (wsV RL 45 RX6 yX6_follow wsX6_follow) := goodIn_app (goodIn_of _ (by decide +kernel)) ggL_law_X6_follow
set_option maxRecDepth 20000 in
theorem ggL_law_X6_type : GoodIn wsL_law wsX6_type := goodIn_r _ [477, 25, 478, 479, 480, 481, 24, 482, 62, 64, 655, 656, 657, 658, 659, 660, 661, 684, 685] (by decide +kernel) (by decide +kernel)
set_option maxRecDepth 20000 in
theorem gL_law_X6_type : GoodIn wsL_law (wsV RL 49 RX6 yX6_type wsX6_type) := goodIn_app (goodIn_of _ (by decide +kernel)) ggL_law_X6_type
set_option maxRecDepth 20000 in
theorem ggL_law_X6_clearText : GoodIn wsL_law wsX6_clearText := goodIn_r _ [490, 25, 478, 655, 656, 657, 658, 659, 660, 661, 684, 685] (by decide +kernel) (by decide +kernel)
set_option maxRecDepth 20000 in
theorem gL_law_X6_clearText : GoodIn wsL_law (wsV RL 54 RX6 yX6_clearText wsX6_clearText) := goodIn_app (goodIn_of _ (by decide +kernel)) ggL_law_X6_clearText
set_option maxRecDepth 20000 in
theorem ggL_law_X6_undo : GoodIn wsL_law wsX6_undo := goodIn_r _ [498, 21, 499, 15, 500, 501, 502, 20, 503, 54, 136, 137, 138, 139, 56, 140, 141, 142, 14, 143, 38, 39, 40, 41, 42, 44, 46, 47, 48, 49, 45, 655, 656, 657, 658, 659, 660, 661, 682, 683, 675, 676, 677, 678, 679, 680, 681] (by decide +kernel) (by decide +kernel)
set_option maxRecDepth 20000 in
theorem gL_law_X6_undo : GoodIn wsL_law (wsV RL 58 RX6 yX6_undo wsX6_undo) := goodIn_app (goodIn_of _ (by decide +kernel)) ggL_law_X6_undo
set_option maxRecDepth 20000 in
theorem ggL_law_X6_keep : GoodIn wsL_law wsX6_keep := goodIn_r _ [511, 16, 15, 17, 512, 141, 142, 14, 143, 38, 39, 40, 41, 42, 44, 46, 47, 48, 49, 45, 337, 338, 339, 340, 341, 224, 225, 226, 227, 228, 229, 655, 656, 657, 658, 659, 660, 661, 675, 676, 677, 678, 679, 680, 681] (by decide +kernel) (by decide +kernel)
set_option maxRecDepth 20000 in
theorem gL_law_X6_keep : GoodIn wsL_law (wsV RL 62 RX6 yX6_keep wsX6_keep) := goodIn_app (goodIn_of _ (by decide +kernel)) ggL_law_X6_keep
set_option maxRecDepth 20000 in
theorem ggL_law_X6_restore : GoodIn wsL_law wsX6_restore := goodIn_r _ [521, 17, 21, 15, 16, 128, 129, 130, 20, 131, 54, 56, 132, 133, 134, 135, 136, 137, 138, 139, 140, 141, 142, 14, 143, 38, 39, 40, 41, 42, 44, 46, 47, 48, 49, 45, 512, 337, 338, 339, 340, 341, 224, 225, 226, 227, 228, 229, 655, 656, 657, 658, 659, 660, 661, 682, 683, 675, 676, 677, 678, 679, 680, 681] (by decide +kernel) (by decide +kernel)
set_option maxRecDepth 20000 in
theorem gL_law_X6_restore : GoodIn wsL_law (wsV RL 66 RX6 yX6_restore wsX6_restore) := goodIn_app (goodIn_of _ (by decide +kernel)) ggL_law_X6_restore
set_option maxRecDepth 20000 in
theorem ggL_law_X6_ofBend : GoodIn wsL_law wsX6_ofBend := goodIn_r _ [529, 15, 29, 189, 263, 215, 216, 217, 14, 218, 38, 219, 220, 221, 222, 39, 264, 265, 2, 266, 393, 394, 395, 396, 40, 275, 276, 277, 28, 278, 72, 279, 280, 281, 282, 283, 284, 195, 196, 197, 44, 285, 248, 249, 250, 45, 286, 287, 288, 71, 289, 290, 291, 153, 154, 155, 292, 293, 294, 295, 296, 297, 298, 299, 300, 301, 302, 303, 304, 305, 306, 307, 308, 309, 310, 77, 78, 79, 80, 81, 82, 311, 312, 313, 314, 315, 316, 317, 318, 319, 320, 321, 322, 323, 324, 325, 326, 327, 328, 329, 330, 331, 332, 530, 531, 532, 533, 156, 157, 158, 419, 655, 656, 657, 658, 659, 660, 661, 675, 676, 677, 678, 679, 680, 681, 686, 693, 694, 695, 696, 697, 698, 699, 700, 701, 702, 703] (by decide +kernel) (by decide +kernel)
set_option maxRecDepth 20000 in
theorem gL_law_X6_ofBend : GoodIn wsL_law (wsV RL 70 RX6 yX6_ofBend wsX6_ofBend) := goodIn_app (goodIn_of _ (by decide +kernel)) ggL_law_X6_ofBend
set_option maxRecDepth 20000 in
theorem ggL_law_X6_lengthOf : GoodIn wsL_law wsX6_lengthOf := goodIn_r _ [545, 15, 190, 191, 192, 14, 193, 38, 194, 195, 196, 197, 44, 655, 656, 657, 658, 659, 660, 661, 675, 676, 677, 678, 679, 680, 681] (by decide +kernel) (by decide +kernel)
set_option maxRecDepth 20000 in
theorem gL_law_X6_lengthOf : GoodIn wsL_law (wsV RL 74 RX6 yX6_lengthOf wsX6_lengthOf) := goodIn_app (goodIn_of _ (by decide +kernel)) ggL_law_X6_lengthOf
set_option maxRecDepth 20000 in
theorem ggL_law_X6_end : GoodIn wsL_law wsX6_end := goodIn_r _ [553, 15, 29, 215, 216, 217, 14, 218, 38, 190, 191, 192, 193, 554, 555, 556, 28, 557, 72, 558, 559, 286, 287, 288, 71, 289, 290, 291, 153, 154, 155, 292, 293, 294, 295, 296, 297, 298, 299, 300, 301, 220, 221, 222, 39, 302, 303, 304, 305, 306, 195, 196, 197, 44, 307, 308, 309, 310, 77, 78, 79, 80, 81, 82, 560, 561, 562, 563, 564, 565, 566, 567, 655, 656, 657, 658, 659, 660, 661, 675, 676, 677, 678, 679, 680, 681, 686, 693, 694, 695, 696, 697, 698, 699, 700, 701, 702, 703] (by decide +kernel) (by decide +kernel)
set_option maxRecDepth 20000 in
theorem gL_law_X6_end : GoodIn wsL_law (wsV RL 78 RX6 yX6_end wsX6_end) := goodIn_app (goodIn_of _ (by decide +kernel)) ggL_law_X6_end
set_option maxRecDepth 20000 in
theorem ggL_law_X6_strikers : GoodIn wsL_law wsX6_strikers := goodIn_r _ [575, 15, 29, 189, 263, 215, 216, 217, 14, 218, 38, 576, 577, 578, 28, 579, 72, 286, 287, 288, 71, 289, 290, 291, 153, 154, 155, 292, 293, 294, 295, 296, 297, 298, 299, 300, 301, 220, 221, 222, 39, 302, 303, 304, 305, 306, 195, 196, 197, 44, 307, 308, 309, 310, 77, 78, 79, 80, 81, 82, 311, 312, 313, 314, 315, 285, 248, 249, 250, 45, 316, 317, 318, 319, 324, 325, 326, 327, 655, 656, 657, 658, 659, 660, 661, 675, 676, 677, 678, 679, 680, 681, 686, 693, 694, 695, 696, 697, 698, 699, 700, 701, 702, 703] (by decide +kernel) (by decide +kernel)
set_option maxRecDepth 20000 in
theorem gL_law_X6_strikers : GoodIn wsL_law (wsV RL 83 RX6 yX6_strikers wsX6_strikers) := goodIn_app (goodIn_of _ (by decide +kernel)) ggL_law_X6_strikers
set_option maxRecDepth 20000 in
theorem ggL_law_X6_order : GoodIn wsL_law wsX6_order := goodIn_r _ [587, 15, 189, 33, 406, 407, 408, 2, 409, 410, 411, 412, 32, 413, 91, 90, 92, 414, 153, 154, 155, 415, 416, 417, 14, 418, 38, 39, 284, 195, 196, 197, 44, 419, 248, 249, 250, 45, 420, 141, 142, 143, 40, 41, 42, 46, 47, 48, 49, 421, 422, 423, 424, 425, 426, 427, 428, 429, 88, 93, 430, 431, 432, 433, 434, 220, 221, 222, 435, 276, 277, 28, 278, 72, 279, 280, 281, 282, 283, 285, 286, 287, 288, 71, 289, 290, 291, 292, 293, 294, 295, 296, 297, 298, 299, 300, 301, 302, 303, 304, 305, 306, 307, 308, 309, 310, 77, 78, 79, 80, 81, 82, 311, 312, 313, 314, 315, 316, 317, 318, 319, 320, 321, 322, 323, 324, 325, 326, 327, 328, 329, 330, 331, 332, 436, 437, 438, 439, 440, 441, 338, 339, 340, 341, 224, 225, 226, 227, 228, 229, 442, 443, 444, 445, 446, 447, 448, 449, 655, 656, 657, 658, 659, 660, 661, 675, 676, 677, 678, 679, 680, 681, 687, 688, 689, 690, 691, 692, 686, 693, 694, 695, 696, 697, 698, 699, 700, 701, 702, 703] (by decide +kernel) (by decide +kernel)
set_option maxRecDepth 20000 in
theorem gL_law_X6_order : GoodIn wsL_law (wsV RL 87 RX6 yX6_order wsX6_order) := goodIn_app (goodIn_of _ (by decide +kernel)) ggL_law_X6_order
set_option maxRecDepth 20000 in
theorem ggL_law_X6_orders : GoodIn wsL_law wsX6_orders := goodIn_r _ [595, 33, 15, 189, 410, 411, 412, 32, 413, 91, 90, 92, 414, 153, 154, 155, 415, 416, 417, 14, 418, 38, 39, 284, 195, 196, 197, 44, 419, 248, 249, 250, 45, 420, 141, 142, 143, 40, 41, 42, 46, 47, 48, 49, 421, 422, 423, 424, 425, 426, 427, 428, 429, 88, 93, 430, 431, 432, 433, 434, 220, 221, 222, 435, 276, 277, 28, 278, 72, 279, 280, 281, 282, 283, 285, 286, 287, 288, 71, 289, 290, 291, 292, 293, 294, 295, 296, 297, 298, 299, 300, 301, 302, 303, 304, 305, 306, 307, 308, 309, 310, 77, 78, 79, 80, 81, 82, 311, 312, 313, 314, 315, 316, 317, 318, 319, 320, 321, 322, 323, 324, 325, 326, 327, 328, 329, 330, 331, 332, 436, 655, 656, 657, 658, 659, 660, 661, 675, 676, 677, 678, 679, 680, 681, 687, 688, 689, 690, 691, 692, 686, 693, 694, 695, 696, 697, 698, 699, 700, 701, 702, 703] (by decide +kernel) (by decide +kernel)
set_option maxRecDepth 20000 in
theorem gL_law_X6_orders : GoodIn wsL_law (wsV RL 91 RX6 yX6_orders wsX6_orders) := goodIn_app (goodIn_of _ (by decide +kernel)) ggL_law_X6_orders
set_option maxRecDepth 20000 in
theorem ggL_law_X6_mustWait : GoodIn wsL_law wsX6_mustWait := goodIn_r _ [603, 33, 15, 189, 604, 605, 606, 2, 607, 215, 216, 217, 14, 218, 38, 393, 394, 395, 396, 40, 406, 407, 408, 409, 410, 411, 412, 32, 413, 91, 90, 92, 414, 153, 154, 155, 415, 416, 417, 418, 39, 284, 195, 196, 197, 44, 419, 248, 249, 250, 45, 420, 141, 142, 143, 41, 42, 46, 47, 48, 49, 421, 422, 423, 424, 425, 426, 427, 428, 429, 88, 93, 430, 431, 432, 433, 434, 220, 221, 222, 435, 276, 277, 28, 278, 72, 279, 280, 281, 282, 283, 285, 286, 287, 288, 71, 289, 290, 291, 292, 293, 294, 295, 296, 297, 298, 299, 300, 301, 302, 303, 304, 305, 306, 307, 308, 309, 310, 77, 78, 79, 80, 81, 82, 311, 312, 313, 314, 315, 316, 317, 318, 319, 320, 321, 322, 323, 324, 325, 326, 327, 328, 329, 330, 331, 332, 436, 608, 609, 610, 611, 95, 612, 157, 158, 446, 447, 448, 449, 613, 614, 615, 616, 264, 265, 266, 655, 656, 657, 658, 659, 660, 661, 675, 676, 677, 678, 679, 680, 681, 687, 688, 689, 690, 691, 692, 686, 693, 694, 695, 696, 697, 698, 699, 700, 701, 702, 703] (by decide +kernel) (by decide +kernel)
set_option maxRecDepth 20000 in
theorem gL_law_X6_mustWait : GoodIn wsL_law (wsV RL 95 RX6 yX6_mustWait wsX6_mustWait) := goodIn_app (goodIn_of _ (by decide +kernel)) ggL_law_X6_mustWait
set_option maxRecDepth 20000 in
theorem ggL_law_X6_count : GoodIn wsL_law wsX6_count := goodIn_r _ [624, 15, 115, 263, 33, 189, 625, 21, 499, 25, 478, 337, 338, 339, 14, 340, 40, 341, 224, 225, 226, 227, 228, 229, 264, 265, 2, 266, 406, 407, 408, 409, 410, 411, 412, 32, 413, 91, 90, 92, 414, 153, 154, 155, 415, 416, 417, 418, 38, 39, 284, 195, 196, 197, 44, 419, 248, 249, 250, 45, 420, 141, 142, 143, 41, 42, 46, 47, 48, 49, 421, 422, 423, 424, 425, 426, 427, 428, 429, 88, 93, 430, 431, 432, 433, 434, 220, 221, 222, 435, 276, 277, 28, 278, 72, 279, 280, 281, 282, 283, 285, 286, 287, 288, 71, 289, 290, 291, 292, 293, 294, 295, 296, 297, 298, 299, 300, 301, 302, 303, 304, 305, 306, 307, 308, 309, 310, 77, 78, 79, 80, 81, 82, 311, 312, 313, 314, 315, 316, 317, 318, 319, 320, 321, 322, 323, 324, 325, 326, 327, 328, 329, 330, 331, 332, 436, 626, 627, 628, 629, 29, 275, 630, 631, 632, 633, 634, 443, 444, 445, 446, 447, 448, 449, 635, 636, 637, 638, 247, 655, 656, 657, 658, 659, 660, 661, 675, 676, 677, 678, 679, 680, 681, 682, 683, 684, 685, 687, 688, 689, 690, 691, 692, 686, 693, 694, 695, 696, 697, 698, 699, 700, 701, 702, 703] (by decide +kernel) (by decide +kernel)
set_option maxRecDepth 20000 in
theorem gL_law_X6_count : GoodIn wsL_law (wsV RL 99 RX6 yX6_count wsX6_count) := goodIn_app (goodIn_of _ (by decide +kernel)) ggL_law_X6_count
