set_option maxRecDepth 20000 in
theorem ggL_law_X7_init : GoodIn wsL_law wsX7_init := goodIn_r _ [8, 9, 10, 11, 12, 13, 14, 15, 16, 17, 18, 19, 20, 21, 22, 23, 24, 25, 26, 27, 28, 29, 30, 31, 32, 33, 34, 35, 36, 37, 38, 39, 40, 41, 42, 43, 44, 45, 46, 47, 48, 49, 50, 51, 52, 53, 54, 55, 56, 57, 58, 59, 60, 61, 62, 63, 64, 65, 66, 67, 68, 69, 70, 71, 72, 73, 74, 75, 76, 77, 78, 79, 80, 81, 82, 83, 84, 85, 86, 87, 88, 89, 90, 91, 92, 93, 94, 716, 717, 718, 719, 720, 682, 683, 684, 685, 686, 687, 688, 721, 722, 723, 724, 725, 726, 727, 728, 729, 730, 731, 732, 733, 734, 735, 736, 737, 738, 739, 740, 741, 742, 743, 744, 745, 746, 747, 748, 749, 750, 751, 752, 753] (by decide +kernel) (by decide +kernel)
set_option maxRecDepth 20000 in
theorem gL_law_X7_init : GoodIn wsL_law (wsX7_init) := ggL_law_X7_init
set_option maxRecDepth 20000 in
theorem ggL_law_X8_init : GoodIn wsL_law wsX8_init := goodIn_r _ [97, 98, 10, 11, 99, 44, 100, 101, 102, 53, 103, 104, 105, 56, 106, 107, 108, 109, 110, 111, 112, 113, 114, 115, 116, 117, 118, 119, 120, 689, 690, 691, 692, 693, 694, 695, 696, 697, 698, 699, 700, 701, 702, 703, 704, 705, 706, 707, 708, 709, 710, 711, 712, 713, 714, 715] (by decide +kernel) (by decide +kernel)
set_option maxRecDepth 20000 in
theorem gL_law_X8_init : GoodIn wsL_law (wsX8_init) := ggL_law_X8_init
set_option maxRecDepth 20000 in
theorem ggL_law_X7_length : GoodIn wsL_law wsX7_length := goodIn_r _ [124, 19, 125, 15, 126, 127, 128, 129, 2, 130, 682, 683, 684, 685, 686, 687, 688, 721, 722, 723, 724, 725, 726, 727, 728, 716, 717, 718, 719, 720] (by decide +kernel) (by decide +kernel)
set_option maxRecDepth 20000 in
theorem gL_law_X7_length : GoodIn wsL_law (wsV RL 13 RX7 yX7_length wsX7_length) := goodIn_app (goodIn_of _ (by decide +kernel)) ggL_law_X7_length
set_option maxRecDepth 20000 in
theorem ggL_law_X8_length : GoodIn wsL_law wsX8_length := goodIn_r _ [134, 135, 99, 136, 137, 138, 139, 5, 140, 689, 690, 691, 692, 693, 694, 695, 696, 697, 698, 699, 700, 701, 702, 703, 704, 705, 706, 707, 708, 709, 710, 711, 712, 713, 714, 715] (by decide +kernel) (by decide +kernel)
set_option maxRecDepth 20000 in
theorem gL_law_X8_length : GoodIn wsL_law (wsV RL 17 RX8 yX8_length wsX8_length) := goodIn_app (goodIn_of _ (by decide +kernel)) ggL_law_X8_length
set_option maxRecDepth 20000 in
theorem ggL_law_X7_bend : GoodIn wsL_law wsX7_bend := goodIn_r _ [144, 15, 126, 19, 125, 127, 128, 129, 2, 130, 145, 146, 147, 14, 148, 149, 46, 45, 150, 151, 152, 153, 47, 682, 683, 684, 685, 686, 687, 688, 716, 717, 718, 719, 720, 721, 722, 723, 724, 725, 726, 727, 728] (by decide +kernel) (by decide +kernel)
set_option maxRecDepth 20000 in
theorem gL_law_X7_bend : GoodIn wsL_law (wsV RL 18 RX7 yX7_bend wsX7_bend) := goodIn_app (goodIn_of _ (by decide +kernel)) ggL_law_X7_bend
set_option maxRecDepth 20000 in
theorem ggL_law_X8_bend : GoodIn wsL_law wsX8_bend := goodIn_r _ [157, 99, 135, 136, 101, 100, 102, 137, 138, 139, 5, 140, 689, 690, 691, 692, 693, 694, 695, 696, 697, 698, 699, 700, 701, 702, 703, 704, 705, 706, 707, 708, 709, 710, 711, 712, 713, 714, 715] (by decide +kernel) (by decide +kernel)
set_option maxRecDepth 20000 in
theorem gL_law_X8_bend : GoodIn wsL_law (wsV RL 22 RX8 yX8_bend wsX8_bend) := goodIn_app (goodIn_of _ (by decide +kernel)) ggL_law_X8_bend
set_option maxRecDepth 20000 in
theorem ggL_law_X7_aside : GoodIn wsL_law wsX7_aside := goodIn_r _ [161, 15, 162, 163, 164, 165, 14, 166, 43, 167, 168, 169, 170, 149, 45, 46, 47, 682, 683, 684, 685, 686, 687, 688, 716, 717, 718, 719, 720] (by decide +kernel) (by decide +kernel)
set_option maxRecDepth 20000 in
theorem gL_law_X7_aside : GoodIn wsL_law (wsV RL 23 RX7 yX7_aside wsX7_aside) := goodIn_app (goodIn_of _ (by decide +kernel)) ggL_law_X7_aside
set_option maxRecDepth 20000 in
theorem ggL_law_X8_aside : GoodIn wsL_law wsX8_aside := goodIn_r _ [174, 99, 175, 138, 139, 5, 140, 176, 177, 178, 179, 137, 103, 136, 102, 100, 101, 180, 181, 182, 689, 690, 691, 692, 693, 694, 695, 696, 697, 698, 699, 700, 701, 702, 703, 704, 705, 706, 707, 708, 709, 710, 711, 712, 713, 714, 715] (by decide +kernel) (by decide +kernel)
set_option maxRecDepth 20000 in
theorem gL_law_X8_aside : GoodIn wsL_law (wsV RL 27 RX8 yX8_aside wsX8_aside) := goodIn_app (goodIn_of _ (by decide +kernel)) ggL_law_X8_aside
set_option maxRecDepth 20000 in
theorem ggL_law_X7_peg : GoodIn wsL_law wsX7_peg := goodIn_r _ [186, 15, 19, 187, 125, 188, 163, 164, 165, 14, 166, 43, 128, 129, 2, 130, 189, 190, 191, 18, 192, 193, 51, 167, 168, 169, 170, 149, 45, 46, 47, 194, 195, 196, 197, 52, 54, 198, 199, 200, 201, 57, 55, 682, 683, 684, 685, 686, 687, 688, 721, 722, 723, 724, 725, 726, 727, 728, 716, 717, 718, 719, 720] (by decide +kernel) (by decide +kernel)
set_option maxRecDepth 20000 in
theorem gL_law_X7_peg : GoodIn wsL_law (wsV RL 28 RX7 yX7_peg wsX7_peg) := goodIn_app (goodIn_of _ (by decide +kernel)) ggL_law_X7_peg
set_option maxRecDepth 20000 in
theorem ggL_law_X8_peg : GoodIn wsL_law wsX8_peg := goodIn_r _ [205, 99, 135, 104, 105, 106, 107, 138, 139, 5, 140, 206, 207, 208, 209, 689, 690, 691, 692, 693, 694, 695, 696, 697, 698, 699, 700, 701, 702, 703, 704, 705, 706, 707, 708, 709, 710, 711, 712, 713, 714, 715] (by decide +kernel) (by decide +kernel)
set_option maxRecDepth 20000 in
theorem gL_law_X8_peg : GoodIn wsL_law (wsV RL 32 RX8 yX8_peg wsX8_peg) := goodIn_app (goodIn_of _ (by decide +kernel)) ggL_law_X8_peg
set_option maxRecDepth 20000 in
theorem ggL_law_X7_mast : GoodIn wsL_law wsX7_mast := goodIn_r _ [213, 19, 187, 214, 215, 216, 18, 217, 193, 128, 129, 2, 130, 218, 219, 220, 221, 57, 55, 222, 223, 224, 225, 226, 58, 682, 683, 684, 685, 686, 687, 688, 721, 722, 723, 724, 725, 726, 727, 728] (by decide +kernel) (by decide +kernel)
set_option maxRecDepth 20000 in
theorem gL_law_X7_mast : GoodIn wsL_law (wsV RL 33 RX7 yX7_mast wsX7_mast) := goodIn_app (goodIn_of _ (by decide +kernel)) ggL_law_X7_mast
set_option maxRecDepth 20000 in
theorem ggL_law_X8_mast : GoodIn wsL_law wsX8_mast := goodIn_r _ [230, 106, 107, 231, 232, 233, 5, 234, 135, 138, 139, 140, 206, 207, 208, 209, 689, 690, 691, 692, 693, 694, 695, 696, 697, 698, 699, 700, 701, 702, 703, 704, 705, 706, 707, 708, 709, 710, 711, 712, 713, 714, 715] (by decide +kernel) (by decide +kernel)
set_option maxRecDepth 20000 in
theorem gL_law_X8_mast : GoodIn wsL_law (wsV RL 36 RX8 yX8_mast wsX8_mast) := goodIn_app (goodIn_of _ (by decide +kernel)) ggL_law_X8_mast
set_option maxRecDepth 20000 in
theorem ggL_law_X7_fell : GoodIn wsL_law wsX7_fell := goodIn_r _ [238, 19, 239, 187, 214, 215, 216, 18, 217, 193, 240, 199, 200, 201, 57, 55, 222, 223, 224, 225, 226, 58, 682, 683, 684, 685, 686, 687, 688, 721, 722, 723, 724, 725, 726, 727, 728] (by decide +kernel) (by decide +kernel)
set_option maxRecDepth 20000 in
theorem gL_law_X7_fell : GoodIn wsL_law (wsV RL 37 RX7 yX7_fell wsX7_fell) := goodIn_app (goodIn_of _ (by decide +kernel)) ggL_law_X7_fell
