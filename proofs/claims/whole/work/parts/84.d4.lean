set_option maxRecDepth 20000 in
theorem ggL_law_X7_there : GoodIn wsL_law wsX7_there := goodIn_r _ [709, 124, 637, 98, 199, 200, 5, 201, 686, 687, 688, 689, 636, 638, 690, 691, 692, 693, 101, 99, 100, 741, 742, 743, 744, 745, 746, 747, 748, 749, 750, 751, 752, 753, 754, 755, 756, 757, 758, 759, 760, 761, 762, 763, 764, 765, 766, 767, 768, 769, 770, 771, 772, 773, 774] (by decide +kernel) (by decide +kernel)
set_option maxRecDepth 20000 in
theorem gL_law_X7_there : GoodIn wsL_law (wsV RL 120 RX7 yX7_there wsX7_there) := goodIn_app (goodIn_of _ (by decide +kernel)) ggL_law_X7_there
set_option maxRecDepth 20000 in
theorem ggL_law_X6_count : GoodIn wsL_law wsX6_count := goodIn_r _ [713, 15, 23, 31, 35, 525, 462, 463, 22, 464, 50, 714, 715, 716, 30, 717, 65, 718, 719, 720, 34, 721, 74, 666, 667, 668, 669, 75, 722, 723, 724, 2, 725, 134, 135, 136, 130, 131, 132, 133, 14, 726, 727, 728, 107, 729, 119, 143, 144, 145, 146, 115, 734, 735, 736, 737, 738, 739, 740, 778, 779, 780, 790, 791, 792, 793, 794, 795, 796, 797, 798, 799, 800, 801, 802, 803, 804, 805, 806, 807] (by decide +kernel) (by decide +kernel)
set_option maxRecDepth 20000 in
theorem gL_law_X6_count : GoodIn wsL_law (wsV RL 121 RX6 yX6_count wsX6_count) := goodIn_app (goodIn_of _ (by decide +kernel)) ggL_law_X6_count
set_option maxRecDepth 20000 in
theorem ggL_law_X7_count : GoodIn wsL_law wsX7_count := goodIn_r _ [733, 124, 125, 435, 572, 637, 638, 84, 195, 196, 197, 5, 198, 199, 200, 201, 202, 203, 204, 205, 83, 741, 742, 743, 744, 745, 746, 747, 748, 749, 750, 751, 752, 753, 754, 755, 756, 757, 758, 759, 760, 761, 762, 763, 764, 765, 766, 767, 768, 769, 770, 771, 772, 773, 774] (by decide +kernel) (by decide +kernel)
set_option maxRecDepth 20000 in
theorem gL_law_X7_count : GoodIn wsL_law (wsV RL 124 RX7 yX7_count wsX7_count) := goodIn_app (goodIn_of _ (by decide +kernel)) ggL_law_X7_count
