set_option maxRecDepth 20000 in
theorem ggL_law_X8_fell : GoodIn wsL_law wsX8_fell := goodIn_r _ [244, 106, 107, 231, 232, 233, 5, 234, 135, 138, 139, 140, 206, 207, 208, 209, 689, 690, 691, 692, 693, 694, 695, 696, 697, 698, 699, 700, 701, 702, 703, 704, 705, 706, 707, 708, 709, 710, 711, 712, 713, 714, 715] (by decide +kernel) (by decide +kernel)
set_option maxRecDepth 20000 in
theorem gL_law_X8_fell : GoodIn wsL_law (wsV RL 40 RX8 yX8_fell wsX8_fell) := goodIn_app (goodIn_of _ (by decide +kernel)) ggL_law_X8_fell
set_option maxRecDepth 20000 in
theorem ggL_law_X7_clear : GoodIn wsL_law wsX7_clear := goodIn_r _ [248, 19, 125, 187, 15, 127, 682, 683, 684, 685, 686, 687, 688, 721, 722, 723, 724, 725, 726, 727, 728, 716, 717, 718, 719, 720] (by decide +kernel) (by decide +kernel)
set_option maxRecDepth 20000 in
theorem gL_law_X7_clear : GoodIn wsL_law (wsV RL 41 RX7 yX7_clear wsX7_clear) := goodIn_app (goodIn_of _ (by decide +kernel)) ggL_law_X7_clear
set_option maxRecDepth 20000 in
theorem ggL_law_X8_clear : GoodIn wsL_law wsX8_clear := goodIn_r _ [252, 135, 106, 107, 136, 137, 689, 690, 691, 692, 693, 694, 695, 696, 697, 698, 699, 700, 701, 702, 703, 704, 705, 706, 707, 708, 709, 710, 711, 712, 713, 714, 715] (by decide +kernel) (by decide +kernel)
set_option maxRecDepth 20000 in
theorem gL_law_X8_clear : GoodIn wsL_law (wsV RL 45 RX8 yX8_clear wsX8_clear) := goodIn_app (goodIn_of _ (by decide +kernel)) ggL_law_X8_clear
set_option maxRecDepth 20000 in
theorem ggL_law_X7_about : GoodIn wsL_law wsX7_about := goodIn_r _ [256, 19, 188, 257, 239, 258, 214, 215, 216, 18, 217, 193, 682, 683, 684, 685, 686, 687, 688, 721, 722, 723, 724, 725, 726, 727, 728] (by decide +kernel) (by decide +kernel)
set_option maxRecDepth 20000 in
theorem gL_law_X7_about : GoodIn wsL_law (wsV RL 46 RX7 yX7_about wsX7_about) := goodIn_app (goodIn_of _ (by decide +kernel)) ggL_law_X7_about
set_option maxRecDepth 20000 in
theorem ggL_law_X8_about : GoodIn wsL_law wsX8_about := goodIn_r _ [262, 104, 105, 106, 107, 231, 232, 233, 5, 234, 135, 138, 139, 140, 689, 690, 691, 692, 693, 694, 695, 696, 697, 698, 699, 700, 701, 702, 703, 704, 705, 706, 707, 708, 709, 710, 711, 712, 713, 714, 715] (by decide +kernel) (by decide +kernel)
set_option maxRecDepth 20000 in
theorem gL_law_X8_about : GoodIn wsL_law (wsV RL 49 RX8 yX8_about wsX8_about) := goodIn_app (goodIn_of _ (by decide +kernel)) ggL_law_X8_about
set_option maxRecDepth 20000 in
theorem ggL_law_X7_bow : GoodIn wsL_law wsX7_bow := goodIn_r _ [266, 23, 267, 268, 269, 270, 128, 129, 2, 130, 682, 683, 684, 685, 686, 687, 688, 729, 730, 731, 732] (by decide +kernel) (by decide +kernel)
set_option maxRecDepth 20000 in
theorem gL_law_X7_bow : GoodIn wsL_law (wsV RL 50 RX7 yX7_bow wsX7_bow) := goodIn_app (goodIn_of _ (by decide +kernel)) ggL_law_X7_bow
set_option maxRecDepth 20000 in
theorem ggL_law_X8_bow : GoodIn wsL_law wsX8_bow := goodIn_r _ [274, 275, 108, 109, 276, 110, 138, 139, 5, 140, 689, 690, 691, 692, 693, 694, 695, 696, 697, 698, 699, 700, 701, 702, 703, 704, 705, 706, 707, 708, 709, 710, 711, 712, 713, 714, 715] (by decide +kernel) (by decide +kernel)
set_option maxRecDepth 20000 in
theorem gL_law_X8_bow : GoodIn wsL_law (wsV RL 54 RX8 yX8_bow wsX8_bow) := goodIn_app (goodIn_of _ (by decide +kernel)) ggL_law_X8_bow
set_option maxRecDepth 20000 in
theorem ggL_law_X7_off : GoodIn wsL_law wsX7_off := goodIn_r _ [280, 162, 281, 27, 282, 283, 284, 2, 285, 19, 286, 287, 288, 18, 289, 226, 290, 291, 292, 293, 51, 58, 294, 295, 296, 297, 298, 299, 300, 301, 302, 258, 303, 304, 305, 26, 306, 72, 307, 308, 309, 310, 311, 312, 128, 129, 130, 313, 314, 315, 316, 71, 317, 168, 169, 14, 170, 149, 45, 46, 47, 318, 319, 320, 321, 322, 323, 324, 325, 326, 327, 328, 329, 330, 331, 332, 682, 683, 684, 685, 686, 687, 688, 721, 722, 723, 724, 725, 726, 727, 728, 733, 734, 735, 736, 737, 738, 739, 716, 717, 718, 719, 720] (by decide +kernel) (by decide +kernel)
set_option maxRecDepth 20000 in
theorem gL_law_X7_off : GoodIn wsL_law (wsV RL 55 RX7 yX7_off wsX7_off) := goodIn_app (goodIn_of _ (by decide +kernel)) ggL_law_X7_off
set_option maxRecDepth 20000 in
theorem ggL_law_X8_off : GoodIn wsL_law wsX8_off := goodIn_r _ [336, 175, 337, 104, 107, 338, 339, 340, 5, 341, 135, 106, 138, 139, 140, 342, 343, 344, 345, 346, 347, 348, 349, 350, 176, 177, 178, 179, 137, 99, 103, 136, 102, 100, 101, 180, 181, 182, 351, 352, 353, 354, 355, 356, 689, 690, 691, 692, 693, 694, 695, 696, 697, 698, 699, 700, 701, 702, 703, 704, 705, 706, 707, 708, 709, 710, 711, 712, 713, 714, 715] (by decide +kernel) (by decide +kernel)
set_option maxRecDepth 20000 in
theorem gL_law_X8_off : GoodIn wsL_law (wsV RL 59 RX8 yX8_off wsX8_off) := goodIn_app (goodIn_of _ (by decide +kernel)) ggL_law_X8_off
set_option maxRecDepth 20000 in
theorem ggL_law_X7_kept : GoodIn wsL_law wsX7_kept := goodIn_r _ [360, 27, 282, 283, 284, 2, 285, 19, 286, 287, 288, 18, 289, 226, 290, 291, 292, 293, 51, 58, 294, 295, 296, 297, 298, 299, 300, 301, 302, 258, 303, 304, 305, 26, 306, 72, 307, 308, 309, 310, 311, 312, 361, 362, 363, 364, 365, 326, 327, 328, 366, 314, 315, 316, 71, 317, 168, 169, 14, 170, 149, 45, 46, 47, 367, 368, 369, 370, 73, 371, 372, 373, 682, 683, 684, 685, 686, 687, 688, 721, 722, 723, 724, 725, 726, 727, 728, 733, 734, 735, 736, 737, 738, 739, 716, 717, 718, 719, 720, 729, 730, 731, 732] (by decide +kernel) (by decide +kernel)
set_option maxRecDepth 20000 in
theorem gL_law_X7_kept : GoodIn wsL_law (wsV RL 60 RX7 yX7_kept wsX7_kept) := goodIn_app (goodIn_of _ (by decide +kernel)) ggL_law_X7_kept
set_option maxRecDepth 20000 in
theorem ggL_law_X8_kept : GoodIn wsL_law wsX8_kept := goodIn_r _ [377, 338, 339, 340, 5, 341, 135, 106, 104, 378, 379, 380, 381, 107, 342, 343, 344, 345, 382, 383, 384, 385, 275, 350, 109, 276, 108, 346, 347, 348, 349, 176, 177, 178, 179, 137, 99, 103, 136, 102, 100, 101, 180, 181, 182, 689, 690, 691, 692, 693, 694, 695, 696, 697, 698, 699, 700, 701, 702, 703, 704, 705, 706, 707, 708, 709, 710, 711, 712, 713, 714, 715] (by decide +kernel) (by decide +kernel)
set_option maxRecDepth 20000 in
theorem gL_law_X8_kept : GoodIn wsL_law (wsV RL 63 RX8 yX8_kept wsX8_kept) := goodIn_app (goodIn_of _ (by decide +kernel)) ggL_law_X8_kept
set_option maxRecDepth 20000 in
theorem ggL_law_X7_worst : GoodIn wsL_law wsX7_worst := goodIn_r _ [389, 19, 27, 286, 287, 288, 18, 289, 226, 298, 299, 300, 2, 301, 302, 258, 303, 304, 305, 26, 306, 72, 307, 308, 309, 310, 311, 312, 390, 391, 392, 393, 394, 362, 363, 364, 365, 326, 327, 328, 366, 314, 315, 316, 71, 317, 168, 169, 14, 170, 149, 45, 46, 47, 367, 368, 369, 370, 73, 371, 372, 373, 682, 683, 684, 685, 686, 687, 688, 721, 722, 723, 724, 725, 726, 727, 728, 733, 734, 735, 736, 737, 738, 739, 716, 717, 718, 719, 720, 729, 730, 731, 732] (by decide +kernel) (by decide +kernel)
set_option maxRecDepth 20000 in
theorem gL_law_X7_worst : GoodIn wsL_law (wsV RL 64 RX7 yX7_worst wsX7_worst) := goodIn_app (goodIn_of _ (by decide +kernel)) ggL_law_X7_worst
set_option maxRecDepth 20000 in
theorem ggL_law_X8_worst : GoodIn wsL_law wsX8_worst := goodIn_r _ [398, 99, 338, 339, 340, 5, 341, 135, 106, 104, 378, 379, 380, 381, 107, 342, 343, 344, 345, 382, 383, 384, 385, 275, 350, 109, 276, 108, 346, 347, 348, 349, 176, 177, 178, 179, 137, 103, 136, 102, 100, 101, 180, 181, 182, 689, 690, 691, 692, 693, 694, 695, 696, 697, 698, 699, 700, 701, 702, 703, 704, 705, 706, 707, 708, 709, 710, 711, 712, 713, 714, 715] (by decide +kernel) (by decide +kernel)
set_option maxRecDepth 20000 in
theorem gL_law_X8_worst : GoodIn wsL_law (wsV RL 67 RX8 yX8_worst wsX8_worst) := goodIn_app (goodIn_of _ (by decide +kernel)) ggL_law_X8_worst
