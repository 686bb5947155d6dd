set_option maxRecDepth 20000 in
theorem gL_law_X9_remove : GoodIn wsL_law (wsV RL 92 RX9 yX9_remove wsX9_remove) := goodIn_app (goodIn_of _ (by decide +kernel)) ggL_law_X9_remove
set_option maxRecDepth 20000 in
theorem ggL_law_L_begin : GoodIn wsL_law wsL_begin := goodIn_ca (goodIn_ca (goodIn_r _ [395, 130, 131, 396, 397, 398, 2, 399, 136, 137, 138, 139, 36, 26, 30, 21, 20, 400, 401, 402, 25, 403, 56, 170, 171, 172, 404, 405, 406, 407, 408, 409, 410, 411, 412, 55, 413, 414, 415, 29, 416, 61, 62, 63, 417, 418, 419, 33, 420, 70, 421, 211, 212, 19, 213, 50, 422, 190, 191, 192, 49, 423, 424, 425, 426, 427, 194, 175, 195, 428, 429, 430, 431, 68, 69, 432, 433, 434, 142, 435, 219, 220, 221, 222, 436, 437, 438, 439, 440, 441, 442, 443, 444, 445, 446, 447, 682, 683, 684, 685, 686, 687, 688, 689, 690, 720, 721, 733, 734, 735, 722, 723, 724, 725, 726, 727, 718, 719, 728, 729, 730, 731, 732] (by decide +kernel) (by decide +kernel)) (goodIn_sub (fun _ h => List.mem_append_left _ (List.mem_append_right _ h)) (by decide +kernel))) (goodIn_sub (fun _ h => List.mem_append_right _ h) (by decide +kernel))
set_option maxRecDepth 20000 in
theorem gL_law_L_begin : GoodIn wsL_law (va_wsS RL 93 yL_begin wsL_begin) := goodIn_app (goodIn_of _ (by decide +kernel)) ggL_law_L_begin
set_option maxRecDepth 20000 in
theorem ggL_law_X9_begin : GoodIn wsL_law wsX9_begin := goodIn_r _ [451, 239, 452, 89, 104, 453, 454, 455, 272, 273, 274, 5, 275, 75, 264, 265, 266, 267, 76, 268, 269, 270, 271, 77, 78, 79, 80, 84, 82, 81, 86, 251, 252, 253, 456, 457, 458, 459, 460, 461, 462, 463, 254, 255, 256, 257, 258, 259, 464, 465, 466, 467, 691, 692, 693, 694, 695, 696, 697, 698, 699, 700, 701, 702, 703, 704, 705, 706, 707, 708, 709, 710, 711, 712, 713, 714] (by decide +kernel) (by decide +kernel)
set_option maxRecDepth 20000 in
theorem gL_law_X9_begin : GoodIn wsL_law (wsV RL 95 RX9 yX9_begin wsX9_begin) := goodIn_app (goodIn_of _ (by decide +kernel)) ggL_law_X9_begin
set_option maxRecDepth 20000 in
theorem ggL_law_L_step : GoodIn wsL_law wsL_step := goodIn_ca (goodIn_ca (goodIn_r _ [470, 131, 130, 471, 472, 473, 2, 474, 136, 137, 138, 139, 36, 30, 475, 476, 157, 158, 159, 21, 477, 478, 479, 440, 441, 442, 29, 443, 61, 444, 445, 446, 33, 447, 70, 480, 481, 482, 483, 63, 484, 485, 486, 487, 488, 489, 490, 491, 492, 493, 494, 68, 69, 495, 496, 497, 426, 498, 224, 225, 19, 226, 188, 184, 185, 186, 187, 50, 189, 190, 191, 192, 49, 193, 194, 175, 195, 196, 197, 198, 199, 227, 228, 229, 230, 231, 232, 233, 234, 499, 181, 182, 183, 500, 382, 383, 384, 501, 502, 503, 504, 26, 505, 506, 507, 508, 509, 510, 511, 512, 513, 514, 11, 12, 515, 516, 517, 18, 518, 45, 46, 47, 48, 519, 520, 521, 522, 523, 524, 525, 25, 526, 56, 55, 682, 683, 684, 685, 686, 687, 688, 689, 690, 722, 723, 724, 725, 726, 727, 728, 729, 730, 731, 732, 718, 719, 733, 734, 735, 720, 721] (by decide +kernel) (by decide +kernel)) (goodIn_sub (fun _ h => List.mem_append_left _ (List.mem_append_right _ h)) (by decide +kernel))) (goodIn_sub (fun _ h => List.mem_append_right _ h) (by decide +kernel))
set_option maxRecDepth 20000 in
theorem gL_law_L_step : GoodIn wsL_law (va_wsS RL 96 yL_step wsL_step) := goodIn_app (goodIn_of _ (by decide +kernel)) ggL_law_L_step
set_option maxRecDepth 20000 in
theorem ggL_law_X9_step : GoodIn wsL_law wsX9_step := goodIn_r _ [530, 239, 104, 455, 453, 89, 452, 454, 90, 531, 532, 533, 5, 534, 535, 536, 537, 538, 456, 457, 458, 459, 75, 264, 265, 266, 267, 76, 460, 461, 462, 463, 84, 80, 251, 252, 253, 254, 255, 256, 257, 258, 259, 464, 465, 466, 467, 77, 78, 79, 82, 86, 81, 268, 269, 270, 271, 272, 273, 274, 275, 691, 692, 693, 694, 695, 696, 697, 698, 699, 700, 701, 702, 703, 704, 705, 706, 707, 708, 709, 710, 711, 712, 713, 714] (by decide +kernel) (by decide +kernel)
set_option maxRecDepth 20000 in
theorem gL_law_X9_step : GoodIn wsL_law (wsV RL 98 RX9 yX9_step wsX9_step) := goodIn_app (goodIn_of _ (by decide +kernel)) ggL_law_X9_step
set_option maxRecDepth 20000 in
theorem ggL_law_L_crash : GoodIn wsL_law wsL_crash := goodIn_ca (goodIn_r _ [541, 131, 542, 543, 544, 2, 545, 136, 137, 36, 682, 683, 684, 685, 686, 687, 688, 689, 690] (by decide +kernel) (by decide +kernel)) (goodIn_sub (fun _ h => List.mem_append_left _ (List.mem_append_right _ h)) (by decide +kernel))
set_option maxRecDepth 20000 in
theorem gL_law_L_crash : GoodIn wsL_law (va_wsS RL 99 yL_crash wsL_crash) := goodIn_app (goodIn_of _ (by decide +kernel)) ggL_law_L_crash
set_option maxRecDepth 20000 in
theorem ggL_law_X9_crash : GoodIn wsL_law wsX9_crash := goodIn_r _ [549, 239, 104, 691, 692, 693, 694, 695, 696, 697, 698, 699, 700, 701, 702, 703, 704, 705, 706, 707, 708, 709, 710, 711, 712, 713, 714] (by decide +kernel) (by decide +kernel)
set_option maxRecDepth 20000 in
theorem gL_law_X9_crash : GoodIn wsL_law (wsV RL 102 RX9 yX9_crash wsX9_crash) := goodIn_app (goodIn_of _ (by decide +kernel)) ggL_law_X9_crash
set_option maxRecDepth 20000 in
theorem ggL_law_L_regress : GoodIn wsL_law wsL_regress := goodIn_ca (goodIn_ca (goodIn_r _ [552, 131, 130, 553, 554, 555, 2, 556, 136, 137, 138, 139, 36, 30, 475, 476, 157, 158, 159, 21, 477, 478, 479, 557, 558, 559, 29, 560, 63, 61, 484, 485, 486, 487, 444, 445, 446, 33, 447, 70, 488, 489, 490, 561, 562, 563, 564, 69, 68, 495, 496, 497, 426, 498, 224, 225, 19, 226, 188, 184, 185, 186, 187, 50, 189, 190, 191, 192, 49, 193, 194, 175, 195, 196, 197, 198, 199, 227, 228, 229, 230, 231, 232, 233, 234, 499, 181, 182, 183, 500, 382, 383, 384, 682, 683, 684, 685, 686, 687, 688, 689, 690, 722, 723, 724, 725, 726, 727, 728, 729, 730, 731, 732, 718, 719] (by decide +kernel) (by decide +kernel)) (goodIn_sub (fun _ h => List.mem_append_left _ (List.mem_append_right _ h)) (by decide +kernel))) (goodIn_sub (fun _ h => List.mem_append_right _ h) (by decide +kernel))
set_option maxRecDepth 20000 in
theorem gL_law_L_regress : GoodIn wsL_law (va_wsS RL 103 yL_regress wsL_regress) := goodIn_app (goodIn_of _ (by decide +kernel)) ggL_law_L_regress
set_option maxRecDepth 20000 in
theorem ggL_law_X9_regress : GoodIn wsL_law wsX9_regress := goodIn_r _ [568, 239, 104, 453, 531, 532, 533, 5, 534, 535, 536, 537, 538, 455, 456, 457, 458, 459, 75, 264, 265, 266, 267, 76, 460, 461, 462, 463, 84, 80, 251, 252, 253, 254, 255, 256, 257, 258, 259, 464, 465, 466, 467, 77, 78, 79, 82, 86, 81, 268, 269, 270, 271, 691, 692, 693, 694, 695, 696, 697, 698, 699, 700, 701, 702, 703, 704, 705, 706, 707, 708, 709, 710, 711, 712, 713, 714] (by decide +kernel) (by decide +kernel)
set_option maxRecDepth 20000 in
theorem gL_law_X9_regress : GoodIn wsL_law (wsV RL 105 RX9 yX9_regress wsX9_regress) := goodIn_app (goodIn_of _ (by decide +kernel)) ggL_law_X9_regress
set_option maxRecDepth 20000 in
theorem ggL_law_L_restore : GoodIn wsL_law wsL_restore := goodIn_ca (goodIn_r _ [571, 131, 572, 573, 574, 2, 575, 136, 137, 26, 36, 22, 576, 577, 578, 579, 25, 580, 56, 55, 408, 581, 410, 411, 412, 582, 520, 521, 19, 522, 50, 49, 210, 211, 212, 213, 682, 683, 684, 685, 686, 687, 688, 689, 690, 733, 734, 735, 720, 721, 718, 719] (by decide +kernel) (by decide +kernel)) (goodIn_sub (fun _ h => List.mem_append_left _ (List.mem_append_right _ h)) (by decide +kernel))
set_option maxRecDepth 20000 in
theorem gL_law_L_restore : GoodIn wsL_law (va_wsS RL 106 yL_restore wsL_restore) := goodIn_app (goodIn_of _ (by decide +kernel)) ggL_law_L_restore
set_option maxRecDepth 20000 in
theorem ggL_law_X9_restore : GoodIn wsL_law wsX9_restore := goodIn_r _ [586, 239, 104, 75, 587, 588, 589, 5, 590, 452, 89, 272, 273, 274, 275, 264, 265, 266, 267, 76, 268, 269, 270, 271, 77, 78, 79, 80, 84, 82, 81, 86, 251, 252, 253, 691, 692, 693, 694, 695, 696, 697, 698, 699, 700, 701, 702, 703, 704, 705, 706, 707, 708, 709, 710, 711, 712, 713, 714] (by decide +kernel) (by decide +kernel)
set_option maxRecDepth 20000 in
theorem gL_law_X9_restore : GoodIn wsL_law (wsV RL 108 RX9 yX9_restore wsX9_restore) := goodIn_app (goodIn_of _ (by decide +kernel)) ggL_law_X9_restore
set_option maxRecDepth 20000 in
theorem ggL_law_L_prune : GoodIn wsL_law wsL_prune := goodIn_ca (goodIn_r _ [593, 131, 594, 595, 596, 2, 597, 136, 137, 36, 26, 577, 578, 579, 25, 580, 56, 55, 408, 598, 599, 600, 601, 682, 683, 684, 685, 686, 687, 688, 689, 690, 720, 721, 733, 734, 735] (by decide +kernel) (by decide +kernel)) (goodIn_sub (fun _ h => List.mem_append_left _ (List.mem_append_right _ h)) (by decide +kernel))
set_option maxRecDepth 20000 in
theorem gL_law_L_prune : GoodIn wsL_law (va_wsS RL 109 yL_prune wsL_prune) := goodIn_app (goodIn_of _ (by decide +kernel)) ggL_law_L_prune
set_option maxRecDepth 20000 in
theorem ggL_law_X9_prune : GoodIn wsL_law wsX9_prune := goodIn_r _ [605, 239, 104, 452, 89, 90, 587, 588, 589, 5, 590, 272, 273, 274, 275, 75, 264, 265, 266, 267, 76, 268, 269, 270, 271, 77, 78, 79, 80, 84, 82, 81, 86, 251, 252, 253, 691, 692, 693, 694, 695, 696, 697, 698, 699, 700, 701, 702, 703, 704, 705, 706, 707, 708, 709, 710, 711, 712, 713, 714] (by decide +kernel) (by decide +kernel)
set_option maxRecDepth 20000 in
theorem gL_law_X9_prune : GoodIn wsL_law (wsV RL 111 RX9 yX9_prune wsX9_prune) := goodIn_app (goodIn_of _ (by decide +kernel)) ggL_law_X9_prune
set_option maxRecDepth 20000 in
theorem ggL_law_X8_differ : GoodIn wsL_law wsX8_differ := goodIn_r _ [609, 34, 21, 20, 610, 418, 419, 33, 420, 70, 421, 211, 212, 19, 213, 50, 422, 190, 191, 192, 49, 423, 424, 425, 426, 427, 194, 175, 195, 428, 429, 430, 431, 68, 69, 432, 433, 434, 142, 435, 219, 220, 221, 222, 436, 437, 438, 439, 510, 445, 446, 447, 682, 683, 684, 685, 686, 687, 688, 689, 690, 725, 726, 727, 718, 719, 728, 729, 730, 731, 732] (by decide +kernel) (by decide +kernel)
set_option maxRecDepth 20000 in
theorem gL_law_X8_differ : GoodIn wsL_law (wsV RL 112 RX8 yX8_differ wsX8_differ) := goodIn_app (goodIn_of _ (by decide +kernel)) ggL_law_X8_differ
set_option maxRecDepth 20000 in
theorem ggL_law_X9_differ : GoodIn wsL_law wsX9_differ := goodIn_r _ [614, 104, 456, 457, 458, 5, 459, 75, 264, 265, 266, 267, 76, 460, 461, 462, 463, 84, 80, 251, 252, 253, 254, 255, 256, 257, 258, 259, 464, 465, 466, 467, 77, 78, 79, 82, 86, 81, 268, 269, 270, 271, 691, 692, 693, 694, 695, 696, 697, 698, 699, 700, 701, 702, 703, 704, 705, 706, 707, 708, 709, 710, 711, 712, 713, 714] (by decide +kernel) (by decide +kernel)
set_option maxRecDepth 20000 in
theorem gL_law_X9_differ : GoodIn wsL_law (wsV RL 115 RX9 yX9_differ wsX9_differ) := goodIn_app (goodIn_of _ (by decide +kernel)) ggL_law_X9_differ
set_option maxRecDepth 20000 in
theorem ggL_law_X8_entry : GoodIn wsL_law wsX8_entry := goodIn_r _ [618, 204, 619, 620, 301, 621, 622, 623, 624, 2, 625, 20, 21, 22, 209, 190, 191, 19, 192, 50, 49, 728, 729, 730, 731, 732, 682, 683, 684, 685, 686, 687, 688, 689, 690, 718, 719] (by decide +kernel) (by decide +kernel)
set_option maxRecDepth 20000 in
theorem gL_law_X8_entry : GoodIn wsL_law (wsV RL 116 RX8 yX8_entry wsX8_entry) := goodIn_app (goodIn_of _ (by decide +kernel)) ggL_law_X8_entry
set_option maxRecDepth 20000 in
theorem ggL_law_X9_entry : GoodIn wsL_law wsX9_entry := goodIn_r _ [629, 104, 77, 78, 79, 82, 80, 630, 631, 632, 5, 633, 75, 251, 252, 253, 691, 692, 693, 694, 695, 696, 697, 698, 699, 700, 701, 702, 703, 704, 705, 706, 707, 708, 709, 710, 711, 712, 713, 714] (by decide +kernel) (by decide +kernel)
set_option maxRecDepth 20000 in
theorem gL_law_X9_entry : GoodIn wsL_law (wsV RL 119 RX9 yX9_entry wsX9_entry) := goodIn_app (goodIn_of _ (by decide +kernel)) ggL_law_X9_entry
set_option maxRecDepth 20000 in
theorem ggL_law_X8_at : GoodIn wsL_law wsX8_at := goodIn_r _ [637, 621, 301, 622, 623, 624, 2, 625, 20, 21, 22, 209, 190, 191, 19, 192, 50, 49, 728, 729, 730, 731, 732, 682, 683, 684, 685, 686, 687, 688, 689, 690, 718, 719] (by decide +kernel) (by decide +kernel)
set_option maxRecDepth 20000 in
theorem gL_law_X8_at : GoodIn wsL_law (wsV RL 120 RX8 yX8_at wsX8_at) := goodIn_app (goodIn_of _ (by decide +kernel)) ggL_law_X8_at
set_option maxRecDepth 20000 in
theorem ggL_law_X9_at : GoodIn wsL_law wsX9_at := goodIn_r _ [641, 104, 80, 84, 82, 86, 81, 630, 631, 632, 5, 633, 75, 691, 692, 693, 694, 695, 696, 697, 698, 699, 700, 701, 702, 703, 704, 705, 706, 707, 708, 709, 710, 711, 712, 713, 714] (by decide +kernel) (by decide +kernel)
set_option maxRecDepth 20000 in
theorem gL_law_X9_at : GoodIn wsL_law (wsV RL 124 RX9 yX9_at wsX9_at) := goodIn_app (goodIn_of _ (by decide +kernel)) ggL_law_X9_at
set_option maxRecDepth 20000 in
theorem ggL_law_X8_about : GoodIn wsL_law wsX8_about := goodIn_r _ [645, 36, 26, 30, 475, 20, 21, 22, 16, 646, 647, 648, 25, 649, 56, 210, 211, 212, 19, 213, 50, 309, 310, 311, 312, 49, 313, 650, 651, 652, 653, 55, 654, 655, 656, 657, 29, 658, 61, 63, 659, 157, 158, 159, 444, 445, 446, 33, 447, 70, 660, 661, 662, 15, 663, 44, 682, 683, 684, 685, 686, 687, 688, 689, 690, 722, 723, 724, 720, 721, 718, 719, 728, 729, 730, 731, 732, 733, 734, 735, 725, 726, 727, 715, 716, 717] (by decide +kernel) (by decide +kernel)
set_option maxRecDepth 20000 in
theorem gL_law_X8_about : GoodIn wsL_law (wsV RL 125 RX8 yX8_about wsX8_about) := goodIn_app (goodIn_of _ (by decide +kernel)) ggL_law_X8_about
set_option maxRecDepth 20000 in
theorem ggL_law_X9_about : GoodIn wsL_law wsX9_about := goodIn_r _ [667, 104, 239, 452, 453, 75, 76, 90, 125, 668, 669, 670, 5, 671, 455, 691, 692, 693, 694, 695, 696, 697, 698, 699, 700, 701, 702, 703, 704, 705, 706, 707, 708, 709, 710, 711, 712, 713, 714] (by decide +kernel) (by decide +kernel)
set_option maxRecDepth 20000 in
theorem gL_law_X9_about : GoodIn wsL_law (wsV RL 128 RX9 yX9_about wsX9_about) := goodIn_app (goodIn_of _ (by decide +kernel)) ggL_law_X9_about
set_option maxRecDepth 20000 in
theorem ggL_law_X8_session : GoodIn wsL_law wsX8_session := goodIn_r _ [675, 26, 676, 677, 581, 410, 411, 25, 412, 56, 55, 682, 683, 684, 685, 686, 687, 688, 689, 690, 733, 734, 735, 720, 721] (by decide +kernel) (by decide +kernel)
set_option maxRecDepth 20000 in
theorem gL_law_X8_session : GoodIn wsL_law (wsV RL 129 RX8 yX8_session wsX8_session) := goodIn_app (goodIn_of _ (by decide +kernel)) ggL_law_X8_session
set_option maxRecDepth 20000 in
theorem ggL_law_X9_session : GoodIn wsL_law wsX9_session := goodIn_r _ [681, 104, 452, 89, 90, 691, 692, 693, 694, 695, 696, 697, 698, 699, 700, 701, 702, 703, 704, 705, 706, 707, 708, 709, 710, 711, 712, 713, 714] (by decide +kernel) (by decide +kernel)
set_option maxRecDepth 20000 in
theorem gL_law_X9_session : GoodIn wsL_law (wsV RL 133 RX9 yX9_session wsX9_session) := goodIn_app (goodIn_of _ (by decide +kernel)) ggL_law_X9_session
