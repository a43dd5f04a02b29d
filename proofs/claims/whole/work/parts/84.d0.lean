set_option maxRecDepth 20000 in
theorem ggL_law_X6_init : GoodIn wsL_law wsX6_init := goodIn_r _ [9, 10, 11, 12, 13, 14, 15, 16, 17, 18, 19, 20, 21, 22, 23, 24, 25, 26, 27, 28, 29, 30, 31, 32, 33, 34, 35, 36, 37, 38, 39, 40, 41, 42, 43, 44, 45, 46, 47, 48, 49, 50, 51, 52, 53, 54, 55, 56, 57, 58, 59, 60, 61, 62, 63, 64, 65, 66, 67, 68, 69, 70, 71, 72, 73, 74, 75, 76, 734, 735, 736, 737, 738, 739, 740, 775, 776, 777, 778, 779, 780, 781, 782, 783, 784, 785, 786, 787, 788, 789, 790, 791, 792, 793, 794, 795, 796, 797, 798, 799] (by decide +kernel) (by decide +kernel)
set_option maxRecDepth 20000 in
theorem gL_law_X6_init : GoodIn wsL_law (wsX6_init) := ggL_law_X6_init
set_option maxRecDepth 20000 in
theorem ggL_law_X7_init : GoodIn wsL_law wsX7_init := goodIn_r _ [79, 80, 11, 12, 47, 81, 82, 83, 84, 85, 86, 87, 88, 89, 90, 91, 92, 93, 94, 95, 96, 97, 98, 99, 100, 101, 741, 742, 743, 744, 745, 746, 747, 748, 749, 750, 751, 752, 753, 754, 755, 756, 757, 758, 759, 760, 761, 762, 763, 764, 765, 766, 767, 768, 769, 770, 771, 772, 773, 774] (by decide +kernel) (by decide +kernel)
set_option maxRecDepth 20000 in
theorem gL_law_X7_init : GoodIn wsL_law (wsX7_init) := ggL_law_X7_init
set_option maxRecDepth 20000 in
theorem ggL_law_X6_roll : GoodIn wsL_law wsX6_roll := goodIn_r _ [105, 15, 14, 13, 106, 107, 108, 109, 110, 111, 11, 12, 47, 112, 113, 114, 115, 116, 117, 118, 119, 734, 735, 736, 737, 738, 739, 740, 800, 801, 802, 803, 804, 805, 806, 807] (by decide +kernel) (by decide +kernel)
set_option maxRecDepth 20000 in
theorem gL_law_X6_roll : GoodIn wsL_law (wsV RL 19 RX6 yX6_roll wsX6_roll) := goodIn_app (goodIn_of _ (by decide +kernel)) ggL_law_X6_roll
set_option maxRecDepth 20000 in
theorem ggL_law_X7_roll : GoodIn wsL_law wsX7_roll := goodIn_r _ [123, 124, 125, 741, 742, 743, 744, 745, 746, 747, 748, 749, 750, 751, 752, 753, 754, 755, 756, 757, 758, 759, 760, 761, 762, 763, 764, 765, 766, 767, 768, 769, 770, 771, 772, 773, 774] (by decide +kernel) (by decide +kernel)
set_option maxRecDepth 20000 in
theorem gL_law_X7_roll : GoodIn wsL_law (wsV RL 23 RX7 yX7_roll wsX7_roll) := goodIn_app (goodIn_of _ (by decide +kernel)) ggL_law_X7_roll
set_option maxRecDepth 20000 in
theorem ggL_law_X6_lay : GoodIn wsL_law wsX6_lay := goodIn_r _ [129, 130, 131, 132, 2, 133, 15, 14, 134, 135, 136, 137, 138, 139, 140, 141, 142, 143, 144, 145, 107, 146, 115, 147, 148, 149, 150, 151, 152, 153, 154, 155, 156, 157, 158, 159, 160, 161, 116, 162, 163, 164, 165, 117, 166, 167, 168, 169, 170, 171, 172, 173, 174, 175, 176, 177, 178, 179, 180, 181, 182, 112, 113, 114, 183, 184, 185, 186, 187, 188, 189, 190, 734, 735, 736, 737, 738, 739, 740, 800, 801, 802, 803, 804, 805, 806, 807] (by decide +kernel) (by decide +kernel)
set_option maxRecDepth 20000 in
theorem gL_law_X6_lay : GoodIn wsL_law (wsV RL 24 RX6 yX6_lay wsX6_lay) := goodIn_app (goodIn_of _ (by decide +kernel)) ggL_law_X6_lay
set_option maxRecDepth 20000 in
theorem ggL_law_X7_lay : GoodIn wsL_law wsX7_lay := goodIn_r _ [194, 124, 195, 196, 197, 5, 198, 125, 199, 200, 201, 202, 203, 204, 205, 83, 206, 207, 208, 209, 81, 82, 210, 211, 212, 213, 88, 214, 215, 216, 217, 218, 219, 220, 221, 222, 223, 224, 225, 741, 742, 743, 744, 745, 746, 747, 748, 749, 750, 751, 752, 753, 754, 755, 756, 757, 758, 759, 760, 761, 762, 763, 764, 765, 766, 767, 768, 769, 770, 771, 772, 773, 774] (by decide +kernel) (by decide +kernel)
set_option maxRecDepth 20000 in
theorem gL_law_X7_lay : GoodIn wsL_law (wsV RL 28 RX7 yX7_lay wsX7_lay) := goodIn_app (goodIn_of _ (by decide +kernel)) ggL_law_X7_lay
set_option maxRecDepth 20000 in
theorem ggL_law_X6_lift : GoodIn wsL_law wsX6_lift := goodIn_r _ [229, 130, 131, 132, 2, 133, 15, 14, 134, 135, 136, 137, 138, 139, 140, 141, 142, 230, 231, 232, 107, 233, 113, 114, 115, 112, 116, 117, 234, 235, 236, 237, 187, 188, 189, 190, 734, 735, 736, 737, 738, 739, 740, 800, 801, 802, 803, 804, 805, 806, 807] (by decide +kernel) (by decide +kernel)
set_option maxRecDepth 20000 in
theorem gL_law_X6_lift : GoodIn wsL_law (wsV RL 29 RX6 yX6_lift wsX6_lift) := goodIn_app (goodIn_of _ (by decide +kernel)) ggL_law_X6_lift
set_option maxRecDepth 20000 in
theorem ggL_law_X7_lift : GoodIn wsL_law wsX7_lift := goodIn_r _ [241, 124, 83, 195, 196, 197, 5, 198, 125, 199, 200, 201, 242, 243, 244, 245, 81, 222, 223, 224, 225, 82, 741, 742, 743, 744, 745, 746, 747, 748, 749, 750, 751, 752, 753, 754, 755, 756, 757, 758, 759, 760, 761, 762, 763, 764, 765, 766, 767, 768, 769, 770, 771, 772, 773, 774] (by decide +kernel) (by decide +kernel)
set_option maxRecDepth 20000 in
theorem gL_law_X7_lift : GoodIn wsL_law (wsV RL 32 RX7 yX7_lift wsX7_lift) := goodIn_app (goodIn_of _ (by decide +kernel)) ggL_law_X7_lift
set_option maxRecDepth 20000 in
theorem ggL_law_X6_hole : GoodIn wsL_law wsX6_hole := goodIn_r _ [249, 130, 131, 132, 2, 133, 15, 14, 134, 135, 136, 137, 138, 139, 140, 141, 142, 250, 251, 252, 107, 253, 117, 116, 734, 735, 736, 737, 738, 739, 740, 800, 801, 802, 803, 804, 805, 806, 807] (by decide +kernel) (by decide +kernel)
set_option maxRecDepth 20000 in
theorem gL_law_X6_hole : GoodIn wsL_law (wsV RL 33 RX6 yX6_hole wsX6_hole) := goodIn_app (goodIn_of _ (by decide +kernel)) ggL_law_X6_hole
set_option maxRecDepth 20000 in
theorem ggL_law_X7_hole : GoodIn wsL_law wsX7_hole := goodIn_r _ [257, 124, 195, 196, 197, 5, 198, 125, 199, 200, 201, 242, 243, 244, 245, 83, 81, 222, 223, 224, 225, 82, 218, 219, 220, 221, 741, 742, 743, 744, 745, 746, 747, 748, 749, 750, 751, 752, 753, 754, 755, 756, 757, 758, 759, 760, 761, 762, 763, 764, 765, 766, 767, 768, 769, 770, 771, 772, 773, 774] (by decide +kernel) (by decide +kernel)
set_option maxRecDepth 20000 in
theorem gL_law_X7_hole : GoodIn wsL_law (wsV RL 36 RX7 yX7_hole wsX7_hole) := goodIn_app (goodIn_of _ (by decide +kernel)) ggL_law_X7_hole
set_option maxRecDepth 20000 in
theorem ggL_law_X6_note : GoodIn wsL_law wsX6_note := goodIn_r _ [261, 130, 131, 132, 2, 133, 15, 14, 134, 135, 136, 143, 144, 145, 107, 146, 115, 262, 263, 264, 265, 112, 266, 267, 268, 269, 113, 270, 271, 272, 273, 114, 734, 735, 736, 737, 738, 739, 740, 800, 801, 802, 803, 804, 805, 806, 807] (by decide +kernel) (by decide +kernel)
set_option maxRecDepth 20000 in
theorem gL_law_X6_note : GoodIn wsL_law (wsV RL 37 RX6 yX6_note wsX6_note) := goodIn_app (goodIn_of _ (by decide +kernel)) ggL_law_X6_note
set_option maxRecDepth 20000 in
theorem ggL_law_X7_note : GoodIn wsL_law wsX7_note := goodIn_r _ [277, 124, 81, 89, 82, 83, 195, 196, 197, 5, 198, 125, 199, 200, 201, 202, 203, 204, 205, 278, 279, 280, 281, 282, 283, 284, 285, 286, 741, 742, 743, 744, 745, 746, 747, 748, 749, 750, 751, 752, 753, 754, 755, 756, 757, 758, 759, 760, 761, 762, 763, 764, 765, 766, 767, 768, 769, 770, 771, 772, 773, 774] (by decide +kernel) (by decide +kernel)
set_option maxRecDepth 20000 in
theorem gL_law_X7_note : GoodIn wsL_law (wsV RL 40 RX7 yX7_note wsX7_note) := goodIn_app (goodIn_of _ (by decide +kernel)) ggL_law_X7_note
