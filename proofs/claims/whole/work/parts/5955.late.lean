set_option maxRecDepth 20000 in
theorem gL_law_X9_remove : GoodIn wsL_law (wsV RL 92 RX9 yX9_remove wsX9_remove) := goodIn_app (goodIn_of _ (by decide +kernel)) ggL_law_X9_remove
set_option maxRecDepth 20000 in
theorem ggL_law_L_begin : GoodIn wsL_law wsL_begin := goodIn_ca (goodIn_ca (goodIn_r _ [396, 130, 131, 397, 398, 399, 2, 400, 136, 137, 138, 139, 36, 26, 30, 21, 20, 401, 402, 403, 25, 404, 56, 170, 171, 172, 405, 406, 407, 408, 409, 410, 411, 412, 413, 55, 414, 415, 416, 29, 417, 61, 62, 63, 418, 419, 420, 33, 421, 70, 422, 211, 212, 19, 213, 50, 423, 190, 191, 192, 49, 424, 425, 426, 427, 428, 194, 175, 195, 196, 157, 158, 159, 197, 198, 199, 429, 430, 431, 432, 68, 69, 433, 434, 435, 142, 436, 219, 220, 221, 222, 437, 438, 439, 440, 441, 442, 443, 444, 445, 446, 447, 448, 683, 684, 685, 686, 687, 688, 689, 690, 691, 721, 722, 734, 735, 736, 723, 724, 725, 726, 727, 728, 719, 720, 729, 730, 731, 732, 733] (by decide +kernel) (by decide +kernel)) (goodIn_sub (fun _ h => List.mem_append_left _ (List.mem_append_right _ h)) (by decide +kernel))) (goodIn_sub (fun _ h => List.mem_append_right _ h) (by decide +kernel))
set_option maxRecDepth 20000 in
theorem gL_law_L_begin : GoodIn wsL_law (va_wsS RL 93 yL_begin wsL_begin) := goodIn_app (goodIn_of _ (by decide +kernel)) ggL_law_L_begin
set_option maxRecDepth 20000 in
theorem ggL_law_X9_begin : GoodIn wsL_law wsX9_begin := goodIn_r _ [452, 240, 453, 89, 104, 454, 455, 456, 273, 274, 275, 5, 276, 75, 265, 266, 267, 268, 76, 269, 270, 271, 272, 77, 78, 79, 80, 84, 82, 81, 86, 252, 253, 254, 457, 458, 459, 460, 461, 462, 463, 464, 255, 256, 257, 258, 259, 260, 465, 466, 467, 468, 692, 693, 694, 695, 696, 697, 698, 699, 700, 701, 702, 703, 704, 705, 706, 707, 708, 709, 710, 711, 712, 713, 714, 715] (by decide +kernel) (by decide +kernel)
set_option maxRecDepth 20000 in
theorem gL_law_X9_begin : GoodIn wsL_law (wsV RL 95 RX9 yX9_begin wsX9_begin) := goodIn_app (goodIn_of _ (by decide +kernel)) ggL_law_X9_begin
set_option maxRecDepth 20000 in
theorem ggL_law_L_step : GoodIn wsL_law wsL_step := goodIn_ca (goodIn_ca (goodIn_r _ [471, 131, 130, 472, 473, 474, 2, 475, 136, 137, 138, 139, 36, 30, 476, 477, 157, 158, 159, 21, 478, 479, 480, 441, 442, 443, 29, 444, 61, 445, 446, 447, 33, 448, 70, 481, 482, 483, 484, 63, 485, 486, 487, 488, 489, 490, 491, 492, 493, 494, 495, 68, 69, 496, 497, 498, 427, 499, 224, 225, 19, 226, 184, 227, 181, 182, 183, 185, 186, 187, 188, 50, 189, 190, 191, 192, 49, 193, 194, 175, 195, 196, 197, 198, 199, 228, 229, 230, 231, 232, 233, 234, 235, 500, 501, 383, 384, 385, 502, 503, 504, 505, 26, 506, 507, 508, 509, 510, 511, 512, 513, 514, 515, 11, 12, 516, 517, 518, 18, 519, 45, 46, 47, 48, 520, 521, 522, 523, 524, 525, 526, 25, 527, 56, 55, 683, 684, 685, 686, 687, 688, 689, 690, 691, 723, 724, 725, 726, 727, 728, 729, 730, 731, 732, 733, 719, 720, 734, 735, 736, 721, 722] (by decide +kernel) (by decide +kernel)) (goodIn_sub (fun _ h => List.mem_append_left _ (List.mem_append_right _ h)) (by decide +kernel))) (goodIn_sub (fun _ h => List.mem_append_right _ h) (by decide +kernel))
set_option maxRecDepth 20000 in
theorem gL_law_L_step : GoodIn wsL_law (va_wsS RL 96 yL_step wsL_step) := goodIn_app (goodIn_of _ (by decide +kernel)) ggL_law_L_step
set_option maxRecDepth 20000 in
theorem ggL_law_X9_step : GoodIn wsL_law wsX9_step := goodIn_r _ [531, 240, 104, 456, 454, 89, 453, 455, 90, 532, 533, 534, 5, 535, 536, 537, 538, 539, 457, 458, 459, 460, 75, 265, 266, 267, 268, 76, 461, 462, 463, 464, 84, 80, 252, 253, 254, 255, 256, 257, 258, 259, 260, 465, 466, 467, 468, 77, 78, 79, 82, 86, 81, 269, 270, 271, 272, 273, 274, 275, 276, 692, 693, 694, 695, 696, 697, 698, 699, 700, 701, 702, 703, 704, 705, 706, 707, 708, 709, 710, 711, 712, 713, 714, 715] (by decide +kernel) (by decide +kernel)
set_option maxRecDepth 20000 in
theorem gL_law_X9_step : GoodIn wsL_law (wsV RL 98 RX9 yX9_step wsX9_step) := goodIn_app (goodIn_of _ (by decide +kernel)) ggL_law_X9_step
set_option maxRecDepth 20000 in
theorem ggL_law_L_crash : GoodIn wsL_law wsL_crash := goodIn_ca (goodIn_r _ [542, 131, 543, 544, 545, 2, 546, 136, 137, 36, 683, 684, 685, 686, 687, 688, 689, 690, 691] (by decide +kernel) (by decide +kernel)) (goodIn_sub (fun _ h => List.mem_append_left _ (List.mem_append_right _ h)) (by decide +kernel))
set_option maxRecDepth 20000 in
theorem gL_law_L_crash : GoodIn wsL_law (va_wsS RL 99 yL_crash wsL_crash) := goodIn_app (goodIn_of _ (by decide +kernel)) ggL_law_L_crash
set_option maxRecDepth 20000 in
theorem ggL_law_X9_crash : GoodIn wsL_law wsX9_crash := goodIn_r _ [550, 240, 104, 692, 693, 694, 695, 696, 697, 698, 699, 700, 701, 702, 703, 704, 705, 706, 707, 708, 709, 710, 711, 712, 713, 714, 715] (by decide +kernel) (by decide +kernel)
set_option maxRecDepth 20000 in
theorem gL_law_X9_crash : GoodIn wsL_law (wsV RL 102 RX9 yX9_crash wsX9_crash) := goodIn_app (goodIn_of _ (by decide +kernel)) ggL_law_X9_crash
set_option maxRecDepth 20000 in
theorem ggL_law_L_regress : GoodIn wsL_law wsL_regress := goodIn_ca (goodIn_ca (goodIn_r _ [553, 131, 130, 554, 555, 556, 2, 557, 136, 137, 138, 139, 36, 30, 476, 477, 157, 158, 159, 21, 478, 479, 480, 558, 559, 560, 29, 561, 63, 61, 485, 486, 487, 488, 445, 446, 447, 33, 448, 70, 489, 490, 491, 562, 563, 564, 565, 69, 68, 496, 497, 498, 427, 499, 224, 225, 19, 226, 184, 227, 181, 182, 183, 185, 186, 187, 188, 50, 189, 190, 191, 192, 49, 193, 194, 175, 195, 196, 197, 198, 199, 228, 229, 230, 231, 232, 233, 234, 235, 500, 501, 383, 384, 385, 683, 684, 685, 686, 687, 688, 689, 690, 691, 723, 724, 725, 726, 727, 728, 729, 730, 731, 732, 733, 719, 720] (by decide +kernel) (by decide +kernel)) (goodIn_sub (fun _ h => List.mem_append_left _ (List.mem_append_right _ h)) (by decide +kernel))) (goodIn_sub (fun _ h => List.mem_append_right _ h) (by decide +kernel))
set_option maxRecDepth 20000 in
theorem gL_law_L_regress : GoodIn wsL_law (va_wsS RL 103 yL_regress wsL_regress) := goodIn_app (goodIn_of _ (by decide +kernel)) ggL_law_L_regress
set_option maxRecDepth 20000 in
theorem ggL_law_X9_regress : GoodIn wsL_law wsX9_regress := goodIn_r _ [569, 240, 104, 454, 532, 533, 534, 5, 535, 536, 537, 538, 539, 456, 457, 458, 459, 460, 75, 265, 266, 267, 268, 76, 461, 462, 463, 464, 84, 80, 252, 253, 254, 255, 256, 257, 258, 259, 260, 465, 466, 467, 468, 77, 78, 79, 82, 86, 81, 269, 270, 271, 272, 692, 693, 694, 695, 696, 697, 698, 699, 700, 701, 702, 703, 704, 705, 706, 707, 708, 709, 710, 711, 712, 713, 714, 715] (by decide +kernel) (by decide +kernel)
set_option maxRecDepth 20000 in
theorem gL_law_X9_regress : GoodIn wsL_law (wsV RL 105 RX9 yX9_regress wsX9_regress) := goodIn_app (goodIn_of _ (by decide +kernel)) ggL_law_X9_regress
set_option maxRecDepth 20000 in
theorem ggL_law_L_restore : GoodIn wsL_law wsL_restore := goodIn_ca (goodIn_r _ [572, 131, 573, 574, 575, 2, 576, 136, 137, 26, 36, 22, 577, 578, 579, 580, 25, 581, 56, 55, 409, 582, 411, 412, 413, 583, 521, 522, 19, 523, 50, 49, 210, 211, 212, 213, 683, 684, 685, 686, 687, 688, 689, 690, 691, 734, 735, 736, 721, 722, 719, 720] (by decide +kernel) (by decide +kernel)) (goodIn_sub (fun _ h => List.mem_append_left _ (List.mem_append_right _ h)) (by decide +kernel))
set_option maxRecDepth 20000 in
theorem gL_law_L_restore : GoodIn wsL_law (va_wsS RL 106 yL_restore wsL_restore) := goodIn_app (goodIn_of _ (by decide +kernel)) ggL_law_L_restore
set_option maxRecDepth 20000 in
theorem ggL_law_X9_restore : GoodIn wsL_law wsX9_restore := goodIn_r _ [587, 240, 104, 75, 588, 589, 590, 5, 591, 453, 89, 273, 274, 275, 276, 265, 266, 267, 268, 76, 269, 270, 271, 272, 77, 78, 79, 80, 84, 82, 81, 86, 252, 253, 254, 692, 693, 694, 695, 696, 697, 698, 699, 700, 701, 702, 703, 704, 705, 706, 707, 708, 709, 710, 711, 712, 713, 714, 715] (by decide +kernel) (by decide +kernel)
set_option maxRecDepth 20000 in
theorem gL_law_X9_restore : GoodIn wsL_law (wsV RL 108 RX9 yX9_restore wsX9_restore) := goodIn_app (goodIn_of _ (by decide +kernel)) ggL_law_X9_restore
set_option maxRecDepth 20000 in
theorem ggL_law_L_prune : GoodIn wsL_law wsL_prune := goodIn_ca (goodIn_r _ [594, 131, 595, 596, 597, 2, 598, 136, 137, 36, 26, 578, 579, 580, 25, 581, 56, 55, 409, 599, 600, 601, 602, 683, 684, 685, 686, 687, 688, 689, 690, 691, 721, 722, 734, 735, 736] (by decide +kernel) (by decide +kernel)) (goodIn_sub (fun _ h => List.mem_append_left _ (List.mem_append_right _ h)) (by decide +kernel))
set_option maxRecDepth 20000 in
theorem gL_law_L_prune : GoodIn wsL_law (va_wsS RL 109 yL_prune wsL_prune) := goodIn_app (goodIn_of _ (by decide +kernel)) ggL_law_L_prune
set_option maxRecDepth 20000 in
theorem ggL_law_X9_prune : GoodIn wsL_law wsX9_prune := goodIn_r _ [606, 240, 104, 453, 89, 90, 588, 589, 590, 5, 591, 273, 274, 275, 276, 75, 265, 266, 267, 268, 76, 269, 270, 271, 272, 77, 78, 79, 80, 84, 82, 81, 86, 252, 253, 254, 692, 693, 694, 695, 696, 697, 698, 699, 700, 701, 702, 703, 704, 705, 706, 707, 708, 709, 710, 711, 712, 713, 714, 715] (by decide +kernel) (by decide +kernel)
set_option maxRecDepth 20000 in
theorem gL_law_X9_prune : GoodIn wsL_law (wsV RL 111 RX9 yX9_prune wsX9_prune) := goodIn_app (goodIn_of _ (by decide +kernel)) ggL_law_X9_prune
set_option maxRecDepth 20000 in
theorem ggL_law_X8_differ : GoodIn wsL_law wsX8_differ := goodIn_r _ [610, 34, 21, 20, 611, 419, 420, 33, 421, 70, 422, 211, 212, 19, 213, 50, 423, 190, 191, 192, 49, 424, 425, 426, 427, 428, 194, 175, 195, 196, 157, 158, 159, 197, 198, 199, 429, 430, 431, 432, 68, 69, 433, 434, 435, 142, 436, 219, 220, 221, 222, 437, 438, 439, 440, 511, 446, 447, 448, 683, 684, 685, 686, 687, 688, 689, 690, 691, 726, 727, 728, 719, 720, 729, 730, 731, 732, 733] (by decide +kernel) (by decide +kernel)
set_option maxRecDepth 20000 in
theorem gL_law_X8_differ : GoodIn wsL_law (wsV RL 112 RX8 yX8_differ wsX8_differ) := goodIn_app (goodIn_of _ (by decide +kernel)) ggL_law_X8_differ
set_option maxRecDepth 20000 in
theorem ggL_law_X9_differ : GoodIn wsL_law wsX9_differ := goodIn_r _ [615, 104, 457, 458, 459, 5, 460, 75, 265, 266, 267, 268, 76, 461, 462, 463, 464, 84, 80, 252, 253, 254, 255, 256, 257, 258, 259, 260, 465, 466, 467, 468, 77, 78, 79, 82, 86, 81, 269, 270, 271, 272, 692, 693, 694, 695, 696, 697, 698, 699, 700, 701, 702, 703, 704, 705, 706, 707, 708, 709, 710, 711, 712, 713, 714, 715] (by decide +kernel) (by decide +kernel)
set_option maxRecDepth 20000 in
theorem gL_law_X9_differ : GoodIn wsL_law (wsV RL 115 RX9 yX9_differ wsX9_differ) := goodIn_app (goodIn_of _ (by decide +kernel)) ggL_law_X9_differ
set_option maxRecDepth 20000 in
theorem ggL_law_X8_entry : GoodIn wsL_law wsX8_entry := goodIn_r _ [619, 204, 620, 621, 302, 622, 623, 624, 625, 2, 626, 20, 21, 22, 209, 190, 191, 19, 192, 50, 49, 729, 730, 731, 732, 733, 683, 684, 685, 686, 687, 688, 689, 690, 691, 719, 720] (by decide +kernel) (by decide +kernel)
set_option maxRecDepth 20000 in
theorem gL_law_X8_entry : GoodIn wsL_law (wsV RL 116 RX8 yX8_entry wsX8_entry) := goodIn_app (goodIn_of _ (by decide +kernel)) ggL_law_X8_entry
set_option maxRecDepth 20000 in
theorem ggL_law_X9_entry : GoodIn wsL_law wsX9_entry := goodIn_r _ [630, 104, 77, 78, 79, 82, 80, 631, 632, 633, 5, 634, 75, 252, 253, 254, 692, 693, 694, 695, 696, 697, 698, 699, 700, 701, 702, 703, 704, 705, 706, 707, 708, 709, 710, 711, 712, 713, 714, 715] (by decide +kernel) (by decide +kernel)
set_option maxRecDepth 20000 in
theorem gL_law_X9_entry : GoodIn wsL_law (wsV RL 119 RX9 yX9_entry wsX9_entry) := goodIn_app (goodIn_of _ (by decide +kernel)) ggL_law_X9_entry
set_option maxRecDepth 20000 in
theorem ggL_law_X8_at : GoodIn wsL_law wsX8_at := goodIn_r _ [638, 622, 302, 623, 624, 625, 2, 626, 20, 21, 22, 209, 190, 191, 19, 192, 50, 49, 729, 730, 731, 732, 733, 683, 684, 685, 686, 687, 688, 689, 690, 691, 719, 720] (by decide +kernel) (by decide +kernel)
set_option maxRecDepth 20000 in
theorem gL_law_X8_at : GoodIn wsL_law (wsV RL 120 RX8 yX8_at wsX8_at) := goodIn_app (goodIn_of _ (by decide +kernel)) ggL_law_X8_at
set_option maxRecDepth 20000 in
theorem ggL_law_X9_at : GoodIn wsL_law wsX9_at := goodIn_r _ [642, 104, 80, 84, 82, 86, 81, 631, 632, 633, 5, 634, 75, 692, 693, 694, 695, 696, 697, 698, 699, 700, 701, 702, 703, 704, 705, 706, 707, 708, 709, 710, 711, 712, 713, 714, 715] (by decide +kernel) (by decide +kernel)
set_option maxRecDepth 20000 in
theorem gL_law_X9_at : GoodIn wsL_law (wsV RL 124 RX9 yX9_at wsX9_at) := goodIn_app (goodIn_of _ (by decide +kernel)) ggL_law_X9_at
set_option maxRecDepth 20000 in
theorem ggL_law_X8_about : GoodIn wsL_law wsX8_about := goodIn_r _ [646, 36, 26, 30, 476, 20, 21, 22, 16, 647, 648, 649, 25, 650, 56, 210, 211, 212, 19, 213, 50, 310, 311, 312, 313, 49, 314, 651, 652, 653, 654, 55, 655, 656, 657, 658, 29, 659, 61, 63, 660, 157, 158, 159, 445, 446, 447, 33, 448, 70, 661, 662, 663, 15, 664, 44, 683, 684, 685, 686, 687, 688, 689, 690, 691, 723, 724, 725, 721, 722, 719, 720, 729, 730, 731, 732, 733, 734, 735, 736, 726, 727, 728, 716, 717, 718] (by decide +kernel) (by decide +kernel)
set_option maxRecDepth 20000 in
theorem gL_law_X8_about : GoodIn wsL_law (wsV RL 125 RX8 yX8_about wsX8_about) := goodIn_app (goodIn_of _ (by decide +kernel)) ggL_law_X8_about
set_option maxRecDepth 20000 in
theorem ggL_law_X9_about : GoodIn wsL_law wsX9_about := goodIn_r _ [668, 104, 240, 453, 454, 75, 76, 90, 125, 669, 670, 671, 5, 672, 456, 692, 693, 694, 695, 696, 697, 698, 699, 700, 701, 702, 703, 704, 705, 706, 707, 708, 709, 710, 711, 712, 713, 714, 715] (by decide +kernel) (by decide +kernel)
set_option maxRecDepth 20000 in
theorem gL_law_X9_about : GoodIn wsL_law (wsV RL 128 RX9 yX9_about wsX9_about) := goodIn_app (goodIn_of _ (by decide +kernel)) ggL_law_X9_about
set_option maxRecDepth 20000 in
theorem ggL_law_X8_session : GoodIn wsL_law wsX8_session := goodIn_r _ [676, 26, 677, 678, 582, 411, 412, 25, 413, 56, 55, 683, 684, 685, 686, 687, 688, 689, 690, 691, 734, 735, 736, 721, 722] (by decide +kernel) (by decide +kernel)
set_option maxRecDepth 20000 in
theorem gL_law_X8_session : GoodIn wsL_law (wsV RL 129 RX8 yX8_session wsX8_session) := goodIn_app (goodIn_of _ (by decide +kernel)) ggL_law_X8_session
set_option maxRecDepth 20000 in
theorem ggL_law_X9_session : GoodIn wsL_law wsX9_session := goodIn_r _ [682, 104, 453, 89, 90, 692, 693, 694, 695, 696, 697, 698, 699, 700, 701, 702, 703, 704, 705, 706, 707, 708, 709, 710, 711, 712, 713, 714, 715] (by decide +kernel) (by decide +kernel)
set_option maxRecDepth 20000 in
theorem gL_law_X9_session : GoodIn wsL_law (wsV RL 133 RX9 yX9_session wsX9_session) := goodIn_app (goodIn_of _ (by decide +kernel)) ggL_law_X9_session
