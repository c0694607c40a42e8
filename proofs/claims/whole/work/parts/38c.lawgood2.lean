set_option maxRecDepth 20000 in
theorem ggL_law_X7_spanKept : GoodIn wsL_law wsX7_spanKept := goodIn_r _ [402, 19, 27, 403, 404, 405, 18, 406, 407, 287, 288, 289, 226, 298, 299, 300, 2, 301, 302, 258, 303, 304, 305, 26, 306, 72, 307, 308, 309, 310, 311, 312, 408, 409, 410, 411, 73, 412, 71, 413, 414, 415, 416, 417, 418, 419, 420, 394, 362, 363, 364, 365, 326, 327, 328, 366, 314, 315, 316, 317, 168, 169, 14, 170, 149, 45, 46, 47, 367, 368, 369, 370, 371, 372, 373, 421, 422, 423, 424, 425, 682, 683, 684, 685, 686, 687, 688, 721, 722, 723, 724, 725, 726, 727, 728, 733, 734, 735, 736, 737, 738, 739, 729, 730, 731, 732, 716, 717, 718, 719, 720] (by decide +kernel) (by decide +kernel)
set_option maxRecDepth 20000 in
theorem gL_law_X7_spanKept : GoodIn wsL_law (wsV RL 68 RX7 yX7_spanKept wsX7_spanKept) := goodIn_app (goodIn_of _ (by decide +kernel)) ggL_law_X7_spanKept
set_option maxRecDepth 20000 in
theorem ggL_law_X8_spanKept : GoodIn wsL_law wsX8_spanKept := goodIn_r _ [429, 104, 107, 430, 431, 432, 5, 433, 135, 106, 342, 343, 344, 345, 434, 435, 436, 437, 110, 382, 383, 384, 385, 275, 350, 109, 276, 108, 346, 347, 348, 349, 176, 177, 178, 179, 137, 99, 103, 136, 102, 100, 101, 180, 181, 182, 689, 690, 691, 692, 693, 694, 695, 696, 697, 698, 699, 700, 701, 702, 703, 704, 705, 706, 707, 708, 709, 710, 711, 712, 713, 714, 715] (by decide +kernel) (by decide +kernel)
set_option maxRecDepth 20000 in
theorem gL_law_X8_spanKept : GoodIn wsL_law (wsV RL 71 RX8 yX8_spanKept wsX8_spanKept) := goodIn_app (goodIn_of _ (by decide +kernel)) ggL_law_X8_spanKept
set_option maxRecDepth 20000 in
theorem ggL_law_X7_ways : GoodIn wsL_law wsX7_ways := goodIn_r _ [441, 19, 35, 214, 215, 216, 18, 217, 193, 128, 129, 2, 130, 442, 443, 444, 34, 445, 446, 89, 447, 448, 449, 450, 451, 452, 453, 454, 455, 304, 305, 26, 306, 72, 307, 308, 309, 310, 311, 312, 456, 409, 410, 411, 73, 412, 71, 413, 414, 415, 416, 417, 418, 419, 420, 394, 362, 363, 364, 365, 326, 327, 328, 366, 314, 315, 316, 317, 168, 169, 14, 170, 149, 45, 46, 47, 367, 368, 369, 370, 371, 372, 373, 421, 422, 423, 424, 425, 682, 683, 684, 685, 686, 687, 688, 721, 722, 723, 724, 725, 726, 727, 728, 745, 746, 747, 748, 749, 750, 733, 734, 735, 736, 737, 738, 739, 729, 730, 731, 732, 716, 717, 718, 719, 720] (by decide +kernel) (by decide +kernel)
set_option maxRecDepth 20000 in
theorem gL_law_X7_ways : GoodIn wsL_law (wsV RL 72 RX7 yX7_ways wsX7_ways) := goodIn_app (goodIn_of _ (by decide +kernel)) ggL_law_X7_ways
set_option maxRecDepth 20000 in
theorem ggL_law_X8_ways : GoodIn wsL_law wsX8_ways := goodIn_r _ [460, 104, 231, 232, 233, 5, 234, 135, 138, 139, 140, 434, 435, 436, 437, 110, 382, 383, 384, 385, 275, 350, 109, 276, 108, 346, 347, 348, 349, 176, 177, 178, 179, 137, 99, 103, 136, 102, 100, 101, 180, 181, 182, 689, 690, 691, 692, 693, 694, 695, 696, 697, 698, 699, 700, 701, 702, 703, 704, 705, 706, 707, 708, 709, 710, 711, 712, 713, 714, 715] (by decide +kernel) (by decide +kernel)
set_option maxRecDepth 20000 in
theorem gL_law_X8_ways : GoodIn wsL_law (wsV RL 75 RX8 yX8_ways wsX8_ways) := goodIn_app (goodIn_of _ (by decide +kernel)) ggL_law_X8_ways
set_option maxRecDepth 20000 in
theorem ggL_law_X7_carrier : GoodIn wsL_law wsX7_carrier := goodIn_r _ [464, 31, 465, 466, 467, 468, 469, 128, 129, 2, 130, 682, 683, 684, 685, 686, 687, 688, 740, 741, 742, 743, 744] (by decide +kernel) (by decide +kernel)
set_option maxRecDepth 20000 in
theorem gL_law_X7_carrier : GoodIn wsL_law (wsV RL 76 RX7 yX7_carrier wsX7_carrier) := goodIn_app (goodIn_of _ (by decide +kernel)) ggL_law_X7_carrier
set_option maxRecDepth 20000 in
theorem ggL_law_X8_carrier : GoodIn wsL_law wsX8_carrier := goodIn_r _ [473, 111, 112, 113, 114, 115, 138, 139, 5, 140, 689, 690, 691, 692, 693, 694, 695, 696, 697, 698, 699, 700, 701, 702, 703, 704, 705, 706, 707, 708, 709, 710, 711, 712, 713, 714, 715] (by decide +kernel) (by decide +kernel)
set_option maxRecDepth 20000 in
theorem gL_law_X8_carrier : GoodIn wsL_law (wsV RL 79 RX8 yX8_carrier wsX8_carrier) := goodIn_app (goodIn_of _ (by decide +kernel)) ggL_law_X8_carrier
set_option maxRecDepth 20000 in
theorem ggL_law_X7_sag : GoodIn wsL_law wsX7_sag := goodIn_r _ [477, 329, 31, 478, 479, 480, 2, 481, 467, 128, 129, 130, 482, 483, 484, 30, 485, 79, 486, 487, 327, 488, 489, 490, 491, 78, 492, 80, 493, 494, 495, 496, 497, 77, 322, 323, 324, 325, 326, 328, 330, 331, 332, 682, 683, 684, 685, 686, 687, 688, 740, 741, 742, 743, 744] (by decide +kernel) (by decide +kernel)
set_option maxRecDepth 20000 in
theorem gL_law_X7_sag : GoodIn wsL_law (wsV RL 80 RX7 yX7_sag wsX7_sag) := goodIn_app (goodIn_of _ (by decide +kernel)) ggL_law_X7_sag
set_option maxRecDepth 20000 in
theorem ggL_law_X8_sag : GoodIn wsL_law wsX8_sag := goodIn_r _ [501, 502, 503, 504, 5, 505, 113, 175, 337, 138, 139, 140, 506, 507, 508, 509, 510, 112, 114, 511, 512, 513, 514, 515, 111, 351, 352, 353, 354, 355, 356, 689, 690, 691, 692, 693, 694, 695, 696, 697, 698, 699, 700, 701, 702, 703, 704, 705, 706, 707, 708, 709, 710, 711, 712, 713, 714, 715] (by decide +kernel) (by decide +kernel)
set_option maxRecDepth 20000 in
theorem gL_law_X8_sag : GoodIn wsL_law (wsV RL 84 RX8 yX8_sag wsX8_sag) := goodIn_app (goodIn_of _ (by decide +kernel)) ggL_law_X8_sag
set_option maxRecDepth 20000 in
theorem ggL_law_X7_dropper : GoodIn wsL_law wsX7_dropper := goodIn_r _ [519, 329, 31, 478, 479, 480, 2, 481, 467, 128, 129, 130, 520, 521, 522, 30, 523, 81, 524, 494, 495, 496, 497, 79, 77, 525, 483, 484, 485, 486, 487, 327, 488, 489, 490, 491, 78, 492, 80, 493, 322, 323, 324, 325, 326, 328, 330, 331, 332, 682, 683, 684, 685, 686, 687, 688, 740, 741, 742, 743, 744] (by decide +kernel) (by decide +kernel)
set_option maxRecDepth 20000 in
theorem gL_law_X7_dropper : GoodIn wsL_law (wsV RL 85 RX7 yX7_dropper wsX7_dropper) := goodIn_app (goodIn_of _ (by decide +kernel)) ggL_law_X7_dropper
set_option maxRecDepth 20000 in
theorem ggL_law_X8_dropper : GoodIn wsL_law wsX8_dropper := goodIn_r _ [529, 502, 503, 504, 5, 505, 113, 175, 337, 138, 139, 140, 530, 531, 532, 533, 115, 511, 512, 513, 514, 515, 111, 506, 507, 508, 509, 510, 112, 114, 351, 352, 353, 354, 355, 356, 689, 690, 691, 692, 693, 694, 695, 696, 697, 698, 699, 700, 701, 702, 703, 704, 705, 706, 707, 708, 709, 710, 711, 712, 713, 714, 715] (by decide +kernel) (by decide +kernel)
set_option maxRecDepth 20000 in
theorem gL_law_X8_dropper : GoodIn wsL_law (wsV RL 88 RX8 yX8_dropper wsX8_dropper) := goodIn_app (goodIn_of _ (by decide +kernel)) ggL_law_X8_dropper
set_option maxRecDepth 20000 in
theorem ggL_law_X7_cut : GoodIn wsL_law wsX7_cut := goodIn_r _ [537, 538, 31, 478, 479, 480, 2, 481, 467, 128, 129, 130, 539, 540, 541, 30, 542, 524, 494, 495, 496, 497, 79, 77, 543, 521, 522, 523, 81, 525, 483, 484, 485, 486, 487, 327, 488, 489, 490, 491, 78, 492, 80, 544, 545, 546, 547, 682, 683, 684, 685, 686, 687, 688, 740, 741, 742, 743, 744] (by decide +kernel) (by decide +kernel)
set_option maxRecDepth 20000 in
theorem gL_law_X7_cut : GoodIn wsL_law (wsV RL 89 RX7 yX7_cut wsX7_cut) := goodIn_app (goodIn_of _ (by decide +kernel)) ggL_law_X7_cut
set_option maxRecDepth 20000 in
theorem ggL_law_X8_cut : GoodIn wsL_law wsX8_cut := goodIn_r _ [551, 113, 552, 553, 138, 139, 5, 140, 554, 555, 556, 557, 530, 531, 532, 533, 115, 511, 512, 513, 514, 515, 111, 506, 507, 508, 509, 510, 112, 114, 689, 690, 691, 692, 693, 694, 695, 696, 697, 698, 699, 700, 701, 702, 703, 704, 705, 706, 707, 708, 709, 710, 711, 712, 713, 714, 715] (by decide +kernel) (by decide +kernel)
set_option maxRecDepth 20000 in
theorem gL_law_X8_cut : GoodIn wsL_law (wsV RL 92 RX8 yX8_cut wsX8_cut) := goodIn_app (goodIn_of _ (by decide +kernel)) ggL_law_X8_cut
set_option maxRecDepth 20000 in
theorem ggL_law_X7_bears : GoodIn wsL_law wsX7_bears := goodIn_r _ [561, 281, 31, 562, 128, 129, 2, 130, 563, 564, 565, 30, 566, 78, 79, 80, 322, 323, 324, 325, 326, 327, 328, 329, 330, 331, 332, 682, 683, 684, 685, 686, 687, 688, 740, 741, 742, 743, 744] (by decide +kernel) (by decide +kernel)
set_option maxRecDepth 20000 in
theorem gL_law_X7_bears : GoodIn wsL_law (wsV RL 93 RX7 yX7_bears wsX7_bears) := goodIn_app (goodIn_of _ (by decide +kernel)) ggL_law_X7_bears
