/-! the law: its calls' words, printed (the reference) -/
set_option maxRecDepth 20000 in
theorem ggL_law_X7_init : GoodIn wsL_law wsX7_init := goodIn_r _ [100, 101, 10, 11, 43, 102, 103, 104, 105, 106, 107, 108, 109, 110, 662, 663, 664, 665, 666, 667, 668, 669, 670, 671, 672, 673, 674] (by decide +kernel) (by decide +kernel)
set_option maxRecDepth 20000 in
theorem gL_law_X7_init : GoodIn wsL_law (wsX7_init) := ggL_law_X7_init
set_option maxRecDepth 20000 in
theorem ggL_law_X7_takeStrip : GoodIn wsL_law wsX7_takeStrip := goodIn_r _ [171, 102, 172, 105, 173, 174, 175, 5, 176, 177, 178, 179, 180, 181, 182, 183, 184, 103, 662, 663, 664, 665, 666, 667, 668, 669, 670, 671, 672, 673, 674] (by decide +kernel) (by decide +kernel)
set_option maxRecDepth 20000 in
theorem gL_law_X7_takeStrip : GoodIn wsL_law (wsV RL 17 RX7 yX7_takeStrip wsX7_takeStrip) := goodIn_app (goodIn_of _ (by decide +kernel)) ggL_law_X7_takeStrip
set_option maxRecDepth 20000 in
theorem ggL_law_X7_setLength : GoodIn wsL_law wsX7_setLength := goodIn_r _ [201, 102, 202, 203, 204, 5, 205, 177, 178, 179, 180, 181, 182, 183, 184, 103, 206, 207, 208, 209, 662, 663, 664, 665, 666, 667, 668, 669, 670, 671, 672, 673, 674] (by decide +kernel) (by decide +kernel)
set_option maxRecDepth 20000 in
theorem gL_law_X7_setLength : GoodIn wsL_law (wsV RL 22 RX7 yX7_setLength wsX7_setLength) := goodIn_app (goodIn_of _ (by decide +kernel)) ggL_law_X7_setLength
set_option maxRecDepth 20000 in
theorem ggL_law_X7_setUp : GoodIn wsL_law wsX7_setUp := goodIn_r _ [233, 102, 234, 235, 236, 5, 237, 177, 178, 179, 180, 181, 182, 183, 184, 103, 662, 663, 664, 665, 666, 667, 668, 669, 670, 671, 672, 673, 674] (by decide +kernel) (by decide +kernel)
set_option maxRecDepth 20000 in
theorem gL_law_X7_setUp : GoodIn wsL_law (wsV RL 27 RX7 yX7_setUp wsX7_setUp) := goodIn_app (goodIn_of _ (by decide +kernel)) ggL_law_X7_setUp
set_option maxRecDepth 20000 in
theorem ggL_law_X7_set : GoodIn wsL_law wsX7_set := goodIn_r _ [258, 102, 177, 178, 5, 179, 180, 181, 182, 183, 184, 103, 206, 207, 208, 209, 662, 663, 664, 665, 666, 667, 668, 669, 670, 671, 672, 673, 674] (by decide +kernel) (by decide +kernel)
set_option maxRecDepth 20000 in
theorem gL_law_X7_set : GoodIn wsL_law (wsV RL 31 RX7 yX7_set wsX7_set) := goodIn_app (goodIn_of _ (by decide +kernel)) ggL_law_X7_set
set_option maxRecDepth 20000 in
theorem ggL_law_X7_layOver : GoodIn wsL_law wsX7_layOver := goodIn_r _ [270, 102, 180, 181, 182, 5, 183, 184, 103, 662, 663, 664, 665, 666, 667, 668, 669, 670, 671, 672, 673, 674] (by decide +kernel) (by decide +kernel)
set_option maxRecDepth 20000 in
theorem gL_law_X7_layOver : GoodIn wsL_law (wsV RL 35 RX7 yX7_layOver wsX7_layOver) := goodIn_app (goodIn_of _ (by decide +kernel)) ggL_law_X7_layOver
set_option maxRecDepth 20000 in
theorem ggL_law_X7_bend : GoodIn wsL_law wsX7_bend := goodIn_r _ [345, 102, 234, 235, 236, 5, 237, 177, 178, 179, 346, 347, 348, 349, 350, 351, 352, 353, 354, 355, 356, 357, 358, 359, 360, 202, 203, 204, 205, 361, 362, 363, 364, 365, 366, 367, 368, 369, 106, 107, 108, 370, 371, 372, 373, 374, 375, 376, 377, 378, 379, 380, 381, 180, 181, 182, 183, 184, 103, 382, 383, 384, 385, 386, 387, 388, 662, 663, 664, 665, 666, 667, 668, 669, 670, 671, 672, 673, 674] (by decide +kernel) (by decide +kernel)
set_option maxRecDepth 20000 in
theorem gL_law_X7_bend : GoodIn wsL_law (wsV RL 40 RX7 yX7_bend wsX7_bend) := goodIn_app (goodIn_of _ (by decide +kernel)) ggL_law_X7_bend
set_option maxRecDepth 20000 in
theorem ggL_law_X7_flatten : GoodIn wsL_law wsX7_flatten := goodIn_r _ [400, 102, 234, 235, 236, 5, 237, 177, 178, 179, 350, 351, 352, 180, 181, 182, 183, 184, 103, 386, 387, 388, 662, 663, 664, 665, 666, 667, 668, 669, 670, 671, 672, 673, 674] (by decide +kernel) (by decide +kernel)
set_option maxRecDepth 20000 in
theorem gL_law_X7_flatten : GoodIn wsL_law (wsV RL 44 RX7 yX7_flatten wsX7_flatten) := goodIn_app (goodIn_of _ (by decide +kernel)) ggL_law_X7_flatten
set_option maxRecDepth 20000 in
theorem ggL_law_X7_follow : GoodIn wsL_law wsX7_follow := goodIn_r _ [453, 102, 177, 178, 5, 179, 454, 455, 456, 457, 458, 459, 460, 461, 109, 462, 463, 464, 465, 346, 347, 348, 349, 350, 351, 352, 353, 354, 355, 356, 357, 358, 359, 360, 202, 203, 204, 205, 361, 362, 363, 364, 365, 366, 367, 368, 369, 106, 107, 108, 370, 371, 372, 373, 374, 375, 376, 377, 378, 379, 380, 381, 466, 467, 468, 469, 110, 180, 181, 182, 183, 184, 103, 470, 471, 472, 473, 382, 383, 384, 385, 386, 387, 388, 662, 663, 664, 665, 666, 667, 668, 669, 670, 671, 672, 673, 674] (by decide +kernel) (by decide +kernel)
set_option maxRecDepth 20000 in
theorem gL_law_X7_follow : GoodIn wsL_law (wsV RL 48 RX7 yX7_follow wsX7_follow) := goodIn_app (goodIn_of _ (by decide +kernel)) ggL_law_X7_follow
set_option maxRecDepth 20000 in
theorem ggL_law_X7_type : GoodIn wsL_law wsX7_type := goodIn_r _ [486, 172, 105, 662, 663, 664, 665, 666, 667, 668, 669, 670, 671, 672, 673, 674] (by decide +kernel) (by decide +kernel)
set_option maxRecDepth 20000 in
theorem gL_law_X7_type : GoodIn wsL_law (wsV RL 53 RX7 yX7_type wsX7_type) := goodIn_app (goodIn_of _ (by decide +kernel)) ggL_law_X7_type
set_option maxRecDepth 20000 in
theorem ggL_law_X7_clearText : GoodIn wsL_law wsX7_clearText := goodIn_r _ [494, 172, 662, 663, 664, 665, 666, 667, 668, 669, 670, 671, 672, 673, 674] (by decide +kernel) (by decide +kernel)
set_option maxRecDepth 20000 in
theorem gL_law_X7_clearText : GoodIn wsL_law (wsV RL 57 RX7 yX7_clearText wsX7_clearText) := goodIn_app (goodIn_of _ (by decide +kernel)) ggL_law_X7_clearText
set_option maxRecDepth 20000 in
theorem ggL_law_X7_undo : GoodIn wsL_law wsX7_undo := goodIn_r _ [507, 184, 102, 103, 662, 663, 664, 665, 666, 667, 668, 669, 670, 671, 672, 673, 674] (by decide +kernel) (by decide +kernel)
set_option maxRecDepth 20000 in
theorem gL_law_X7_undo : GoodIn wsL_law (wsV RL 61 RX7 yX7_undo wsX7_undo) := goodIn_app (goodIn_of _ (by decide +kernel)) ggL_law_X7_undo
set_option maxRecDepth 20000 in
theorem ggL_law_X7_keep : GoodIn wsL_law wsX7_keep := goodIn_r _ [516, 104, 102, 517, 386, 387, 5, 388, 662, 663, 664, 665, 666, 667, 668, 669, 670, 671, 672, 673, 674] (by decide +kernel) (by decide +kernel)
set_option maxRecDepth 20000 in
theorem gL_law_X7_keep : GoodIn wsL_law (wsV RL 65 RX7 yX7_keep wsX7_keep) := goodIn_app (goodIn_of _ (by decide +kernel)) ggL_law_X7_keep
set_option maxRecDepth 20000 in
theorem ggL_law_X7_restore : GoodIn wsL_law wsX7_restore := goodIn_r _ [525, 517, 102, 104, 180, 181, 182, 5, 183, 184, 103, 386, 387, 388, 662, 663, 664, 665, 666, 667, 668, 669, 670, 671, 672, 673, 674] (by decide +kernel) (by decide +kernel)
set_option maxRecDepth 20000 in
theorem gL_law_X7_restore : GoodIn wsL_law (wsV RL 69 RX7 yX7_restore wsX7_restore) := goodIn_app (goodIn_of _ (by decide +kernel)) ggL_law_X7_restore
set_option maxRecDepth 20000 in
theorem ggL_law_X7_ofBend : GoodIn wsL_law wsX7_ofBend := goodIn_r _ [537, 102, 234, 235, 236, 5, 237, 177, 178, 179, 350, 351, 352, 346, 347, 348, 349, 353, 354, 355, 356, 357, 358, 359, 360, 202, 203, 204, 205, 361, 362, 363, 364, 365, 366, 367, 368, 369, 106, 107, 108, 370, 371, 372, 373, 374, 375, 376, 377, 378, 379, 380, 381, 538, 539, 540, 541, 662, 663, 664, 665, 666, 667, 668, 669, 670, 671, 672, 673, 674] (by decide +kernel) (by decide +kernel)
set_option maxRecDepth 20000 in
theorem gL_law_X7_ofBend : GoodIn wsL_law (wsV RL 73 RX7 yX7_ofBend wsX7_ofBend) := goodIn_app (goodIn_of _ (by decide +kernel)) ggL_law_X7_ofBend
set_option maxRecDepth 20000 in
theorem ggL_law_X7_lengthOf : GoodIn wsL_law wsX7_lengthOf := goodIn_r _ [549, 102, 202, 203, 204, 5, 205, 177, 178, 179, 662, 663, 664, 665, 666, 667, 668, 669, 670, 671, 672, 673, 674] (by decide +kernel) (by decide +kernel)
set_option maxRecDepth 20000 in
theorem gL_law_X7_lengthOf : GoodIn wsL_law (wsV RL 77 RX7 yX7_lengthOf wsX7_lengthOf) := goodIn_app (goodIn_of _ (by decide +kernel)) ggL_law_X7_lengthOf
set_option maxRecDepth 20000 in
theorem ggL_law_X7_end : GoodIn wsL_law wsX7_end := goodIn_r _ [571, 102, 365, 108, 107, 106, 234, 235, 236, 5, 237, 177, 178, 179, 202, 203, 204, 205, 361, 362, 363, 364, 366, 367, 368, 369, 350, 351, 352, 353, 354, 355, 356, 662, 663, 664, 665, 666, 667, 668, 669, 670, 671, 672, 673, 674] (by decide +kernel) (by decide +kernel)
set_option maxRecDepth 20000 in
theorem gL_law_X7_end : GoodIn wsL_law (wsV RL 82 RX7 yX7_end wsX7_end) := goodIn_app (goodIn_of _ (by decide +kernel)) ggL_law_X7_end
set_option maxRecDepth 20000 in
theorem ggL_law_X7_strikers : GoodIn wsL_law wsX7_strikers := goodIn_r _ [583, 102, 234, 235, 236, 5, 237, 177, 178, 179, 361, 362, 363, 364, 365, 366, 367, 368, 369, 106, 107, 108, 202, 203, 204, 205, 350, 351, 352, 353, 354, 355, 356, 370, 371, 372, 373, 374, 375, 376, 377, 662, 663, 664, 665, 666, 667, 668, 669, 670, 671, 672, 673, 674] (by decide +kernel) (by decide +kernel)
set_option maxRecDepth 20000 in
theorem gL_law_X7_strikers : GoodIn wsL_law (wsV RL 86 RX7 yX7_strikers wsX7_strikers) := goodIn_app (goodIn_of _ (by decide +kernel)) ggL_law_X7_strikers
set_option maxRecDepth 20000 in
theorem ggL_law_X7_order : GoodIn wsL_law wsX7_order := goodIn_r _ [591, 102, 454, 455, 456, 5, 457, 458, 459, 460, 461, 109, 462, 463, 464, 465, 346, 347, 348, 349, 350, 351, 352, 353, 354, 355, 356, 357, 358, 359, 360, 202, 203, 204, 205, 177, 178, 179, 361, 362, 363, 364, 365, 366, 367, 368, 369, 106, 107, 108, 370, 371, 372, 373, 374, 375, 376, 377, 378, 379, 380, 381, 466, 467, 468, 469, 110, 470, 471, 472, 473, 662, 663, 664, 665, 666, 667, 668, 669, 670, 671, 672, 673, 674] (by decide +kernel) (by decide +kernel)
set_option maxRecDepth 20000 in
theorem gL_law_X7_order : GoodIn wsL_law (wsV RL 90 RX7 yX7_order wsX7_order) := goodIn_app (goodIn_of _ (by decide +kernel)) ggL_law_X7_order
set_option maxRecDepth 20000 in
theorem ggL_law_X7_orders : GoodIn wsL_law wsX7_orders := goodIn_r _ [599, 454, 455, 456, 5, 457, 458, 459, 460, 461, 109, 102, 462, 463, 464, 465, 346, 347, 348, 349, 350, 351, 352, 353, 354, 355, 356, 357, 358, 359, 360, 202, 203, 204, 205, 177, 178, 179, 361, 362, 363, 364, 365, 366, 367, 368, 369, 106, 107, 108, 370, 371, 372, 373, 374, 375, 376, 377, 378, 379, 380, 381, 466, 467, 468, 469, 110, 662, 663, 664, 665, 666, 667, 668, 669, 670, 671, 672, 673, 674] (by decide +kernel) (by decide +kernel)
set_option maxRecDepth 20000 in
theorem gL_law_X7_orders : GoodIn wsL_law (wsV RL 94 RX7 yX7_orders wsX7_orders) := goodIn_app (goodIn_of _ (by decide +kernel)) ggL_law_X7_orders
set_option maxRecDepth 20000 in
theorem ggL_law_X7_mustWait : GoodIn wsL_law wsX7_mustWait := goodIn_r _ [620, 102, 234, 235, 236, 5, 237, 177, 178, 179, 350, 351, 352, 454, 455, 456, 457, 458, 459, 460, 461, 109, 462, 463, 464, 465, 346, 347, 348, 349, 353, 354, 355, 356, 357, 358, 359, 360, 202, 203, 204, 205, 361, 362, 363, 364, 365, 366, 367, 368, 369, 106, 107, 108, 370, 371, 372, 373, 374, 375, 376, 377, 378, 379, 380, 381, 466, 467, 468, 469, 110, 662, 663, 664, 665, 666, 667, 668, 669, 670, 671, 672, 673, 674] (by decide +kernel) (by decide +kernel)
set_option maxRecDepth 20000 in
theorem gL_law_X7_mustWait : GoodIn wsL_law (wsV RL 98 RX7 yX7_mustWait wsX7_mustWait) := goodIn_app (goodIn_of _ (by decide +kernel)) ggL_law_X7_mustWait
set_option maxRecDepth 20000 in
theorem ggL_law_X7_count : GoodIn wsL_law wsX7_count := goodIn_r _ [642, 102, 184, 172, 386, 387, 5, 388, 454, 455, 456, 457, 458, 459, 460, 461, 109, 462, 463, 464, 465, 346, 347, 348, 349, 350, 351, 352, 353, 354, 355, 356, 357, 358, 359, 360, 202, 203, 204, 205, 177, 178, 179, 361, 362, 363, 364, 365, 366, 367, 368, 369, 106, 107, 108, 370, 371, 372, 373, 374, 375, 376, 377, 378, 379, 380, 381, 466, 467, 468, 469, 110, 643, 644, 645, 646, 647, 648, 649, 650, 470, 471, 472, 473, 651, 652, 653, 654, 662, 663, 664, 665, 666, 667, 668, 669, 670, 671, 672, 673, 674] (by decide +kernel) (by decide +kernel)
set_option maxRecDepth 20000 in
theorem gL_law_X7_count : GoodIn wsL_law (wsV RL 102 RX7 yX7_count wsX7_count) := goodIn_app (goodIn_of _ (by decide +kernel)) ggL_law_X7_count
