set_option maxRecDepth 20000 in
theorem ggL_law_X6_since : GoodIn wsL_law wsX6_since := goodIn_r _ [576, 31, 137, 138, 2, 139, 134, 135, 136, 577, 578, 579, 30, 580, 63, 64, 581, 582, 583, 584, 585, 586, 587, 588, 734, 735, 736, 737, 738, 739, 740, 790, 791, 792] (by decide +kernel) (by decide +kernel)
set_option maxRecDepth 20000 in
theorem gL_law_X6_since : GoodIn wsL_law (wsV RL 92 RX6 yX6_since wsX6_since) := goodIn_app (goodIn_of _ (by decide +kernel)) ggL_law_X6_since
set_option maxRecDepth 20000 in
theorem ggL_law_X7_since : GoodIn wsL_law wsX7_since := goodIn_r _ [592, 124, 593, 594, 199, 200, 5, 201, 595, 596, 597, 598, 572, 96, 97, 95, 741, 742, 743, 744, 745, 746, 747, 748, 749, 750, 751, 752, 753, 754, 755, 756, 757, 758, 759, 760, 761, 762, 763, 764, 765, 766, 767, 768, 769, 770, 771, 772, 773, 774] (by decide +kernel) (by decide +kernel)
set_option maxRecDepth 20000 in
theorem gL_law_X7_since : GoodIn wsL_law (wsV RL 95 RX7 yX7_since wsX7_since) := goodIn_app (goodIn_of _ (by decide +kernel)) ggL_law_X7_since
set_option maxRecDepth 20000 in
theorem ggL_law_X6_worn : GoodIn wsL_law wsX6_worn := goodIn_r _ [602, 31, 559, 560, 2, 561, 134, 135, 136, 603, 604, 605, 30, 606, 64, 607, 608, 609, 610, 611, 578, 579, 580, 63, 612, 613, 614, 615, 734, 735, 736, 737, 738, 739, 740, 790, 791, 792] (by decide +kernel) (by decide +kernel)
set_option maxRecDepth 20000 in
theorem gL_law_X6_worn : GoodIn wsL_law (wsV RL 96 RX6 yX6_worn wsX6_worn) := goodIn_app (goodIn_of _ (by decide +kernel)) ggL_law_X6_worn
set_option maxRecDepth 20000 in
theorem ggL_law_X7_worn : GoodIn wsL_law wsX7_worn := goodIn_r _ [619, 124, 594, 593, 199, 200, 5, 201, 595, 596, 597, 598, 572, 96, 97, 95, 741, 742, 743, 744, 745, 746, 747, 748, 749, 750, 751, 752, 753, 754, 755, 756, 757, 758, 759, 760, 761, 762, 763, 764, 765, 766, 767, 768, 769, 770, 771, 772, 773, 774] (by decide +kernel) (by decide +kernel)
set_option maxRecDepth 20000 in
theorem gL_law_X7_worn : GoodIn wsL_law (wsV RL 99 RX7 yX7_worn wsX7_worn) := goodIn_app (goodIn_of _ (by decide +kernel)) ggL_law_X7_worn
set_option maxRecDepth 20000 in
theorem ggL_law_X6_line : GoodIn wsL_law wsX6_line := goodIn_r _ [623, 35, 559, 560, 2, 561, 134, 135, 136, 624, 625, 626, 627, 628, 629, 630, 34, 631, 74, 70, 71, 72, 73, 75, 734, 735, 736, 737, 738, 739, 740, 793, 794, 795, 796, 797, 798, 799] (by decide +kernel) (by decide +kernel)
set_option maxRecDepth 20000 in
theorem gL_law_X6_line : GoodIn wsL_law (wsV RL 100 RX6 yX6_line wsX6_line) := goodIn_app (goodIn_of _ (by decide +kernel)) ggL_law_X6_line
set_option maxRecDepth 20000 in
theorem ggL_law_X7_line : GoodIn wsL_law wsX7_line := goodIn_r _ [635, 124, 636, 637, 98, 99, 100, 101, 638, 199, 200, 5, 201, 741, 742, 743, 744, 745, 746, 747, 748, 749, 750, 751, 752, 753, 754, 755, 756, 757, 758, 759, 760, 761, 762, 763, 764, 765, 766, 767, 768, 769, 770, 771, 772, 773, 774] (by decide +kernel) (by decide +kernel)
set_option maxRecDepth 20000 in
theorem gL_law_X7_line : GoodIn wsL_law (wsV RL 103 RX7 yX7_line wsX7_line) := goodIn_app (goodIn_of _ (by decide +kernel)) ggL_law_X7_line
set_option maxRecDepth 20000 in
theorem ggL_law_X6_day : GoodIn wsL_law wsX6_day := goodIn_r _ [642, 35, 134, 135, 2, 136, 643, 644, 645, 34, 646, 75, 734, 735, 736, 737, 738, 739, 740, 793, 794, 795, 796, 797, 798, 799] (by decide +kernel) (by decide +kernel)
set_option maxRecDepth 20000 in
theorem gL_law_X6_day : GoodIn wsL_law (wsV RL 104 RX6 yX6_day wsX6_day) := goodIn_app (goodIn_of _ (by decide +kernel)) ggL_law_X6_day
set_option maxRecDepth 20000 in
theorem ggL_law_X7_day : GoodIn wsL_law wsX7_day := goodIn_r _ [650, 124, 638, 199, 200, 5, 201, 741, 742, 743, 744, 745, 746, 747, 748, 749, 750, 751, 752, 753, 754, 755, 756, 757, 758, 759, 760, 761, 762, 763, 764, 765, 766, 767, 768, 769, 770, 771, 772, 773, 774] (by decide +kernel) (by decide +kernel)
set_option maxRecDepth 20000 in
theorem gL_law_X7_day : GoodIn wsL_law (wsV RL 107 RX7 yX7_day wsX7_day) := goodIn_app (goodIn_of _ (by decide +kernel)) ggL_law_X7_day
set_option maxRecDepth 20000 in
theorem ggL_law_L_where : GoodIn wsL_law wsL_where := goodIn_ca (goodIn_r _ [654, 655, 656, 657, 658, 2, 659, 660, 661, 35, 559, 560, 561, 134, 135, 136, 662, 663, 664, 665, 624, 625, 626, 627, 666, 667, 668, 34, 669, 75, 670, 671, 672, 673, 74, 70, 72, 674, 675, 676, 677, 73, 71, 678, 679, 680, 681, 734, 735, 736, 737, 738, 739, 740, 793, 794, 795, 796, 797, 798, 799] (by decide +kernel) (by decide +kernel)) (goodIn_sub (fun _ h => List.mem_append_right _ h) (by decide +kernel))
set_option maxRecDepth 20000 in
theorem gL_law_L_where : GoodIn wsL_law (va_wsS RL 108 yL_where wsL_where) := goodIn_app (goodIn_of _ (by decide +kernel)) ggL_law_L_where
set_option maxRecDepth 20000 in
theorem ggL_law_X7_where : GoodIn wsL_law wsX7_where := goodIn_r _ [685, 124, 199, 200, 5, 201, 686, 687, 688, 689, 636, 638, 690, 691, 692, 693, 637, 98, 101, 99, 100, 741, 742, 743, 744, 745, 746, 747, 748, 749, 750, 751, 752, 753, 754, 755, 756, 757, 758, 759, 760, 761, 762, 763, 764, 765, 766, 767, 768, 769, 770, 771, 772, 773, 774] (by decide +kernel) (by decide +kernel)
set_option maxRecDepth 20000 in
theorem gL_law_X7_where : GoodIn wsL_law (wsV RL 113 RX7 yX7_where wsX7_where) := goodIn_app (goodIn_of _ (by decide +kernel)) ggL_law_X7_where
set_option maxRecDepth 20000 in
theorem ggL_law_X7_thrown : GoodIn wsL_law wsX7_thrown := goodIn_r _ [697, 124, 741, 742, 743, 744, 745, 746, 747, 748, 749, 750, 751, 752, 753, 754, 755, 756, 757, 758, 759, 760, 761, 762, 763, 764, 765, 766, 767, 768, 769, 770, 771, 772, 773, 774] (by decide +kernel) (by decide +kernel)
set_option maxRecDepth 20000 in
theorem gL_law_X7_thrown : GoodIn wsL_law (wsV RL 114 RX7 yX7_thrown wsX7_thrown) := goodIn_app (goodIn_of _ (by decide +kernel)) ggL_law_X7_thrown
set_option maxRecDepth 20000 in
theorem ggL_law_X6_there : GoodIn wsL_law wsX6_there := goodIn_r _ [701, 35, 134, 135, 2, 136, 662, 663, 664, 665, 624, 625, 626, 627, 666, 667, 668, 34, 669, 75, 702, 703, 704, 705, 74, 76, 70, 72, 674, 675, 676, 677, 73, 71, 678, 679, 680, 681, 734, 735, 736, 737, 738, 739, 740, 793, 794, 795, 796, 797, 798, 799] (by decide +kernel) (by decide +kernel)
set_option maxRecDepth 20000 in
theorem gL_law_X6_there : GoodIn wsL_law (wsV RL 117 RX6 yX6_there wsX6_there) := goodIn_app (goodIn_of _ (by decide +kernel)) ggL_law_X6_there
