set_option maxRecDepth 20000 in
theorem ggL_law_X8_bears : GoodIn wsL_law wsX8_bears := goodIn_r _ [570, 337, 112, 113, 114, 510, 138, 139, 5, 140, 351, 352, 353, 354, 355, 356, 689, 690, 691, 692, 693, 694, 695, 696, 697, 698, 699, 700, 701, 702, 703, 704, 705, 706, 707, 708, 709, 710, 711, 712, 713, 714, 715] (by decide +kernel) (by decide +kernel)
set_option maxRecDepth 20000 in
theorem gL_law_X8_bears : GoodIn wsL_law (wsV RL 96 RX8 yX8_bears wsX8_bears) := goodIn_app (goodIn_of _ (by decide +kernel)) ggL_law_X8_bears
set_option maxRecDepth 20000 in
theorem ggL_law_X7_shortOne : GoodIn wsL_law wsX7_shortOne := goodIn_r _ [574, 19, 31, 467, 575, 286, 287, 288, 18, 289, 226, 576, 577, 578, 579, 580, 295, 296, 297, 51, 58, 581, 291, 292, 293, 520, 521, 522, 30, 523, 81, 524, 494, 495, 496, 497, 79, 77, 525, 483, 484, 485, 486, 487, 327, 488, 489, 490, 491, 78, 492, 80, 493, 682, 683, 684, 685, 686, 687, 688, 740, 741, 742, 743, 744, 721, 722, 723, 724, 725, 726, 727, 728] (by decide +kernel) (by decide +kernel)
set_option maxRecDepth 20000 in
theorem gL_law_X7_shortOne : GoodIn wsL_law (wsV RL 97 RX7 yX7_shortOne wsX7_shortOne) := goodIn_app (goodIn_of _ (by decide +kernel)) ggL_law_X7_shortOne
set_option maxRecDepth 20000 in
theorem ggL_law_X8_shortOne : GoodIn wsL_law wsX8_shortOne := goodIn_r _ [585, 104, 113, 586, 206, 207, 208, 5, 209, 135, 106, 430, 431, 432, 433, 342, 343, 344, 345, 530, 531, 532, 533, 115, 511, 512, 513, 514, 515, 111, 506, 507, 508, 509, 510, 112, 114, 689, 690, 691, 692, 693, 694, 695, 696, 697, 698, 699, 700, 701, 702, 703, 704, 705, 706, 707, 708, 709, 710, 711, 712, 713, 714, 715] (by decide +kernel) (by decide +kernel)
set_option maxRecDepth 20000 in
theorem gL_law_X8_shortOne : GoodIn wsL_law (wsV RL 100 RX8 yX8_shortOne wsX8_shortOne) := goodIn_app (goodIn_of _ (by decide +kernel)) ggL_law_X8_shortOne
set_option maxRecDepth 20000 in
theorem ggL_law_X7_heat : GoodIn wsL_law wsX7_heat := goodIn_r _ [590, 281, 591, 592, 128, 129, 2, 130, 322, 323, 324, 325, 326, 327, 328, 329, 330, 331, 332] (by decide +kernel) (by decide +kernel)
set_option maxRecDepth 20000 in
theorem gL_law_X7_heat : GoodIn wsL_law (wsV RL 101 RX7 yX7_heat wsX7_heat) := goodIn_app (goodIn_of _ (by decide +kernel)) ggL_law_X7_heat
set_option maxRecDepth 20000 in
theorem ggL_law_X8_heat : GoodIn wsL_law wsX8_heat := goodIn_r _ [596, 337, 597, 598, 138, 139, 5, 140, 351, 352, 353, 354, 355, 356] (by decide +kernel) (by decide +kernel)
set_option maxRecDepth 20000 in
theorem gL_law_X8_heat : GoodIn wsL_law (wsV RL 104 RX8 yX8_heat wsX8_heat) := goodIn_app (goodIn_of _ (by decide +kernel)) ggL_law_X8_heat
set_option maxRecDepth 20000 in
theorem ggL_law_X7_choose : GoodIn wsL_law wsX7_choose := goodIn_r _ [602, 19, 125, 35, 128, 129, 2, 130, 603, 604, 605, 34, 606, 446, 88, 607, 608, 86, 609, 610, 611, 612, 613, 614, 87, 89, 447, 448, 449, 450, 451, 452, 453, 454, 455, 304, 305, 26, 306, 72, 307, 308, 309, 310, 311, 312, 456, 409, 410, 411, 73, 412, 71, 413, 414, 415, 416, 417, 418, 419, 420, 394, 362, 363, 364, 365, 326, 327, 328, 366, 314, 315, 316, 317, 168, 169, 14, 170, 149, 45, 46, 47, 367, 368, 369, 370, 371, 372, 373, 421, 422, 423, 424, 425, 615, 616, 617, 618, 619, 199, 200, 18, 201, 57, 55, 620, 219, 220, 221, 621, 223, 224, 225, 226, 193, 58, 622, 623, 624, 625, 52, 682, 683, 684, 685, 686, 687, 688, 721, 722, 723, 724, 725, 726, 727, 728, 745, 746, 747, 748, 749, 750, 733, 734, 735, 736, 737, 738, 739, 729, 730, 731, 732, 716, 717, 718, 719, 720] (by decide +kernel) (by decide +kernel)
set_option maxRecDepth 20000 in
theorem gL_law_X7_choose : GoodIn wsL_law (wsV RL 105 RX7 yX7_choose wsX7_choose) := goodIn_app (goodIn_of _ (by decide +kernel)) ggL_law_X7_choose
set_option maxRecDepth 20000 in
theorem ggL_law_X8_choose : GoodIn wsL_law wsX8_choose := goodIn_r _ [629, 135, 116, 105, 104, 117, 106, 107, 138, 139, 5, 140, 630, 631, 632, 633, 434, 435, 436, 437, 110, 382, 383, 384, 385, 275, 350, 109, 276, 108, 346, 347, 348, 349, 176, 177, 178, 179, 137, 99, 103, 136, 102, 100, 101, 180, 181, 182, 689, 690, 691, 692, 693, 694, 695, 696, 697, 698, 699, 700, 701, 702, 703, 704, 705, 706, 707, 708, 709, 710, 711, 712, 713, 714, 715] (by decide +kernel) (by decide +kernel)
set_option maxRecDepth 20000 in
theorem gL_law_X8_choose : GoodIn wsL_law (wsV RL 108 RX8 yX8_choose wsX8_choose) := goodIn_app (goodIn_of _ (by decide +kernel)) ggL_law_X8_choose
set_option maxRecDepth 20000 in
theorem ggL_law_X7_price : GoodIn wsL_law wsX7_price := goodIn_r _ [637, 19, 622, 623, 624, 18, 625, 226, 52, 58, 682, 683, 684, 685, 686, 687, 688, 721, 722, 723, 724, 725, 726, 727, 728] (by decide +kernel) (by decide +kernel)
set_option maxRecDepth 20000 in
theorem gL_law_X7_price : GoodIn wsL_law (wsV RL 109 RX7 yX7_price wsX7_price) := goodIn_app (goodIn_of _ (by decide +kernel)) ggL_law_X7_price
set_option maxRecDepth 20000 in
theorem ggL_law_X8_price : GoodIn wsL_law wsX8_price := goodIn_r _ [641, 135, 106, 105, 689, 690, 691, 692, 693, 694, 695, 696, 697, 698, 699, 700, 701, 702, 703, 704, 705, 706, 707, 708, 709, 710, 711, 712, 713, 714, 715] (by decide +kernel) (by decide +kernel)
set_option maxRecDepth 20000 in
theorem gL_law_X8_price : GoodIn wsL_law (wsV RL 112 RX8 yX8_price wsX8_price) := goodIn_app (goodIn_of _ (by decide +kernel)) ggL_law_X8_price
set_option maxRecDepth 20000 in
theorem ggL_law_X7_bars : GoodIn wsL_law wsX7_bars := goodIn_r _ [645, 19, 31, 467, 39, 646, 403, 404, 405, 18, 406, 407, 287, 288, 289, 226, 128, 129, 2, 130, 576, 577, 578, 579, 580, 295, 296, 297, 51, 58, 581, 291, 292, 293, 539, 540, 541, 30, 542, 524, 494, 495, 496, 497, 79, 77, 543, 521, 522, 523, 81, 525, 483, 484, 485, 486, 487, 327, 488, 489, 490, 491, 78, 492, 80, 544, 545, 546, 547, 647, 648, 649, 38, 650, 651, 93, 652, 653, 654, 655, 94, 44, 656, 657, 658, 659, 660, 661, 662, 663, 664, 665, 682, 683, 684, 685, 686, 687, 688, 740, 741, 742, 743, 744, 751, 752, 753, 721, 722, 723, 724, 725, 726, 727, 728] (by decide +kernel) (by decide +kernel)
set_option maxRecDepth 20000 in
theorem gL_law_X7_bars : GoodIn wsL_law (wsV RL 113 RX7 yX7_bars wsX7_bars) := goodIn_app (goodIn_of _ (by decide +kernel)) ggL_law_X7_bars
set_option maxRecDepth 20000 in
theorem ggL_law_X8_bars : GoodIn wsL_law wsX8_bars := goodIn_r _ [669, 113, 118, 104, 119, 120, 206, 207, 208, 5, 209, 135, 106, 138, 139, 140, 430, 431, 432, 433, 342, 343, 344, 345, 554, 555, 556, 557, 530, 531, 532, 533, 115, 511, 512, 513, 514, 515, 111, 506, 507, 508, 509, 510, 112, 114, 689, 690, 691, 692, 693, 694, 695, 696, 697, 698, 699, 700, 701, 702, 703, 704, 705, 706, 707, 708, 709, 710, 711, 712, 713, 714, 715] (by decide +kernel) (by decide +kernel)
set_option maxRecDepth 20000 in
theorem gL_law_X8_bars : GoodIn wsL_law (wsV RL 116 RX8 yX8_bars wsX8_bars) := goodIn_app (goodIn_of _ (by decide +kernel)) ggL_law_X8_bars
set_option maxRecDepth 20000 in
theorem ggL_law_X7_told : GoodIn wsL_law wsX7_told := goodIn_r _ [673, 15, 127, 19, 125, 187, 31, 467, 126, 286, 287, 288, 18, 289, 226, 674, 675, 676, 677, 407, 580, 295, 296, 297, 51, 58, 581, 291, 292, 293, 682, 683, 684, 685, 686, 687, 688, 716, 717, 718, 719, 720, 721, 722, 723, 724, 725, 726, 727, 728, 740, 741, 742, 743, 744] (by decide +kernel) (by decide +kernel)
set_option maxRecDepth 20000 in
theorem gL_law_X7_told : GoodIn wsL_law (wsV RL 117 RX7 yX7_told wsX7_told) := goodIn_app (goodIn_of _ (by decide +kernel)) ggL_law_X7_told
set_option maxRecDepth 20000 in
theorem ggL_law_X8_told : GoodIn wsL_law wsX8_told := goodIn_r _ [681, 136, 135, 113, 99, 104, 206, 207, 208, 5, 209, 106, 430, 431, 432, 433, 342, 343, 344, 345, 689, 690, 691, 692, 693, 694, 695, 696, 697, 698, 699, 700, 701, 702, 703, 704, 705, 706, 707, 708, 709, 710, 711, 712, 713, 714, 715] (by decide +kernel) (by decide +kernel)
set_option maxRecDepth 20000 in
theorem gL_law_X8_told : GoodIn wsL_law (wsV RL 120 RX8 yX8_told wsX8_told) := goodIn_app (goodIn_of _ (by decide +kernel)) ggL_law_X8_told
