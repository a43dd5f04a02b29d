set_option maxRecDepth 20000 in
theorem ggL_law_X6_item : GoodIn wsL_law wsX6_item := goodIn_r _ [426, 23, 137, 138, 2, 139, 134, 135, 136, 140, 141, 142, 427, 428, 429, 22, 430, 50, 49, 48, 734, 735, 736, 737, 738, 739, 740, 778, 779, 780] (by decide +kernel) (by decide +kernel)
set_option maxRecDepth 20000 in
theorem gL_law_X6_item : GoodIn wsL_law (wsV RL 67 RX6 yX6_item wsX6_item) := goodIn_app (goodIn_of _ (by decide +kernel)) ggL_law_X6_item
set_option maxRecDepth 20000 in
theorem ggL_law_X7_item : GoodIn wsL_law wsX7_item := goodIn_r _ [434, 124, 435, 91, 90, 199, 200, 5, 201, 741, 742, 743, 744, 745, 746, 747, 748, 749, 750, 751, 752, 753, 754, 755, 756, 757, 758, 759, 760, 761, 762, 763, 764, 765, 766, 767, 768, 769, 770, 771, 772, 773, 774] (by decide +kernel) (by decide +kernel)
set_option maxRecDepth 20000 in
theorem gL_law_X7_item : GoodIn wsL_law (wsV RL 70 RX7 yX7_item wsX7_item) := goodIn_app (goodIn_of _ (by decide +kernel)) ggL_law_X7_item
set_option maxRecDepth 20000 in
theorem ggL_law_X6_clear : GoodIn wsL_law wsX6_clear := goodIn_r _ [439, 23, 440, 441, 442, 22, 443, 50, 734, 735, 736, 737, 738, 739, 740, 778, 779, 780] (by decide +kernel) (by decide +kernel)
set_option maxRecDepth 20000 in
theorem gL_law_X6_clear : GoodIn wsL_law (wsV RL 71 RX6 yX6_clear wsX6_clear) := goodIn_app (goodIn_of _ (by decide +kernel)) ggL_law_X6_clear
set_option maxRecDepth 20000 in
theorem ggL_law_X7_clear : GoodIn wsL_law wsX7_clear := goodIn_r _ [447, 124, 435, 741, 742, 743, 744, 745, 746, 747, 748, 749, 750, 751, 752, 753, 754, 755, 756, 757, 758, 759, 760, 761, 762, 763, 764, 765, 766, 767, 768, 769, 770, 771, 772, 773, 774] (by decide +kernel) (by decide +kernel)
set_option maxRecDepth 20000 in
theorem gL_law_X7_clear : GoodIn wsL_law (wsV RL 74 RX7 yX7_clear wsX7_clear) := goodIn_app (goodIn_of _ (by decide +kernel)) ggL_law_X7_clear
set_option maxRecDepth 20000 in
theorem ggL_law_X6_align : GoodIn wsL_law wsX6_align := goodIn_r _ [451, 27, 23, 130, 131, 132, 2, 133, 15, 14, 134, 135, 136, 452, 453, 454, 26, 455, 456, 55, 56, 457, 458, 144, 145, 107, 146, 115, 459, 263, 264, 265, 112, 460, 267, 268, 269, 113, 461, 462, 463, 22, 464, 50, 465, 466, 467, 468, 58, 469, 470, 471, 472, 473, 160, 157, 161, 474, 475, 476, 477, 478, 479, 480, 481, 482, 483, 484, 48, 485, 486, 487, 488, 49, 489, 490, 491, 492, 493, 494, 495, 57, 496, 497, 498, 499, 500, 501, 502, 503, 734, 735, 736, 737, 738, 739, 740, 781, 782, 783, 784, 785, 786, 787, 788, 789, 800, 801, 802, 803, 804, 805, 806, 807, 778, 779, 780] (by decide +kernel) (by decide +kernel)
set_option maxRecDepth 20000 in
theorem gL_law_X6_align : GoodIn wsL_law (wsV RL 75 RX6 yX6_align wsX6_align) := goodIn_app (goodIn_of _ (by decide +kernel)) ggL_law_X6_align
set_option maxRecDepth 20000 in
theorem ggL_law_X7_align : GoodIn wsL_law wsX7_align := goodIn_r _ [507, 124, 435, 93, 89, 81, 90, 82, 91, 508, 509, 195, 196, 197, 5, 198, 125, 199, 200, 201, 510, 511, 512, 513, 282, 92, 278, 279, 280, 281, 83, 283, 284, 285, 286, 514, 515, 516, 517, 518, 519, 520, 741, 742, 743, 744, 745, 746, 747, 748, 749, 750, 751, 752, 753, 754, 755, 756, 757, 758, 759, 760, 761, 762, 763, 764, 765, 766, 767, 768, 769, 770, 771, 772, 773, 774] (by decide +kernel) (by decide +kernel)
set_option maxRecDepth 20000 in
theorem gL_law_X7_align : GoodIn wsL_law (wsV RL 78 RX7 yX7_align wsX7_align) := goodIn_app (goodIn_of _ (by decide +kernel)) ggL_law_X7_align
set_option maxRecDepth 20000 in
theorem ggL_law_X6_paired : GoodIn wsL_law wsX6_paired := goodIn_r _ [524, 23, 27, 130, 131, 132, 2, 133, 15, 14, 134, 135, 136, 525, 462, 463, 22, 464, 50, 452, 453, 454, 26, 455, 456, 55, 56, 457, 458, 144, 145, 107, 146, 115, 459, 263, 264, 265, 112, 460, 267, 268, 269, 113, 461, 465, 466, 467, 468, 58, 469, 470, 471, 472, 473, 160, 157, 161, 474, 475, 476, 477, 478, 479, 480, 481, 482, 483, 484, 48, 485, 486, 487, 488, 49, 489, 490, 491, 492, 493, 494, 495, 57, 496, 497, 498, 499, 526, 527, 528, 529, 734, 735, 736, 737, 738, 739, 740, 778, 779, 780, 781, 782, 783, 784, 785, 786, 787, 788, 789, 800, 801, 802, 803, 804, 805, 806, 807] (by decide +kernel) (by decide +kernel)
set_option maxRecDepth 20000 in
theorem gL_law_X6_paired : GoodIn wsL_law (wsV RL 79 RX6 yX6_paired wsX6_paired) := goodIn_app (goodIn_of _ (by decide +kernel)) ggL_law_X6_paired
set_option maxRecDepth 20000 in
theorem ggL_law_X7_paired : GoodIn wsL_law wsX7_paired := goodIn_r _ [533, 124, 435, 93, 195, 196, 197, 5, 198, 125, 199, 200, 201, 510, 511, 512, 513, 282, 92, 508, 509, 278, 279, 280, 281, 83, 89, 283, 284, 285, 286, 82, 81, 514, 515, 516, 517, 91, 90, 518, 519, 520, 741, 742, 743, 744, 745, 746, 747, 748, 749, 750, 751, 752, 753, 754, 755, 756, 757, 758, 759, 760, 761, 762, 763, 764, 765, 766, 767, 768, 769, 770, 771, 772, 773, 774] (by decide +kernel) (by decide +kernel)
set_option maxRecDepth 20000 in
theorem gL_law_X7_paired : GoodIn wsL_law (wsV RL 82 RX7 yX7_paired wsX7_paired) := goodIn_app (goodIn_of _ (by decide +kernel)) ggL_law_X7_paired
set_option maxRecDepth 20000 in
theorem ggL_law_X6_mend : GoodIn wsL_law wsX6_mend := goodIn_r _ [537, 27, 23, 130, 131, 132, 2, 133, 15, 14, 134, 135, 136, 452, 453, 454, 26, 455, 456, 55, 56, 457, 458, 144, 145, 107, 146, 115, 459, 263, 264, 265, 112, 460, 267, 268, 269, 113, 461, 462, 463, 22, 464, 50, 465, 466, 467, 468, 58, 469, 470, 471, 472, 473, 160, 157, 161, 474, 475, 476, 477, 478, 479, 480, 481, 482, 483, 484, 48, 485, 486, 487, 488, 49, 489, 490, 491, 492, 493, 494, 495, 57, 496, 497, 498, 499, 538, 539, 540, 541, 542, 543, 544, 545, 546, 231, 232, 233, 114, 116, 117, 234, 235, 236, 237, 187, 188, 189, 190, 418, 148, 149, 150, 151, 152, 153, 154, 155, 156, 158, 159, 162, 163, 164, 165, 166, 167, 168, 169, 170, 171, 172, 173, 174, 175, 176, 177, 178, 179, 180, 181, 182, 183, 184, 185, 186, 734, 735, 736, 737, 738, 739, 740, 781, 782, 783, 784, 785, 786, 787, 788, 789, 800, 801, 802, 803, 804, 805, 806, 807, 778, 779, 780] (by decide +kernel) (by decide +kernel)
set_option maxRecDepth 20000 in
theorem gL_law_X6_mend : GoodIn wsL_law (wsV RL 83 RX6 yX6_mend wsX6_mend) := goodIn_app (goodIn_of _ (by decide +kernel)) ggL_law_X6_mend
set_option maxRecDepth 20000 in
theorem ggL_law_X7_mend : GoodIn wsL_law wsX7_mend := goodIn_r _ [550, 124, 435, 94, 93, 89, 81, 90, 195, 196, 197, 5, 198, 125, 199, 200, 201, 510, 511, 512, 513, 282, 92, 508, 509, 278, 279, 280, 281, 83, 283, 284, 285, 286, 82, 514, 515, 516, 517, 91, 518, 519, 520, 551, 552, 553, 554, 210, 211, 212, 213, 88, 214, 215, 216, 217, 218, 219, 220, 221, 222, 223, 224, 225, 741, 742, 743, 744, 745, 746, 747, 748, 749, 750, 751, 752, 753, 754, 755, 756, 757, 758, 759, 760, 761, 762, 763, 764, 765, 766, 767, 768, 769, 770, 771, 772, 773, 774] (by decide +kernel) (by decide +kernel)
set_option maxRecDepth 20000 in
theorem gL_law_X7_mend : GoodIn wsL_law (wsV RL 86 RX7 yX7_mend wsX7_mend) := goodIn_app (goodIn_of _ (by decide +kernel)) ggL_law_X7_mend
set_option maxRecDepth 20000 in
theorem ggL_law_X6_sight : GoodIn wsL_law wsX6_sight := goodIn_r _ [558, 31, 559, 560, 2, 561, 134, 135, 136, 137, 138, 139, 562, 563, 564, 30, 565, 65, 64, 566, 160, 157, 161, 63, 567, 156, 158, 734, 735, 736, 737, 738, 739, 740, 790, 791, 792] (by decide +kernel) (by decide +kernel)
set_option maxRecDepth 20000 in
theorem gL_law_X6_sight : GoodIn wsL_law (wsV RL 87 RX6 yX6_sight wsX6_sight) := goodIn_app (goodIn_of _ (by decide +kernel)) ggL_law_X6_sight
set_option maxRecDepth 20000 in
theorem ggL_law_X7_sight : GoodIn wsL_law wsX7_sight := goodIn_r _ [571, 124, 572, 95, 96, 97, 199, 200, 5, 201, 741, 742, 743, 744, 745, 746, 747, 748, 749, 750, 751, 752, 753, 754, 755, 756, 757, 758, 759, 760, 761, 762, 763, 764, 765, 766, 767, 768, 769, 770, 771, 772, 773, 774] (by decide +kernel) (by decide +kernel)
set_option maxRecDepth 20000 in
theorem gL_law_X7_sight : GoodIn wsL_law (wsV RL 91 RX7 yX7_sight wsX7_sight) := goodIn_app (goodIn_of _ (by decide +kernel)) ggL_law_X7_sight
