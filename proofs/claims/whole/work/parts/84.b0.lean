set_option maxRecDepth 20000 in
theorem in_wsL_law0_r1 : GoodIn lw_tbl wsL_law0_r1 := goodIn_r _ [56, 57, 41, 697, 698, 47, 999, 58, 59, 60, 61, 62, 63, 64, 177, 178, 66, 67, 42, 179, 82, 83, 43, 180] (by decide +kernel) (by decide +kernel)
set_option maxRecDepth 20000 in
theorem in_wsL_law0_r2 : GoodIn lw_tbl wsL_law0_r2 := goodIn_r _ [99, 100, 44, 181, 133, 134, 45, 182, 149, 150, 46, 183, 68, 69, 70, 71, 72, 73, 74, 84, 85, 86, 87, 98] (by decide +kernel) (by decide +kernel)
set_option maxRecDepth 20000 in
theorem in_wsL_law0_r3 : GoodIn lw_tbl wsL_law0_r3 := goodIn_r _ [88, 89, 90, 101, 102, 103, 104, 105, 106, 107, 108, 135, 136, 137, 138, 139, 140, 141, 151, 152, 153, 154, 155, 156] (by decide +kernel) (by decide +kernel)
set_option maxRecDepth 20000 in
theorem in_wsL_law0_r4 : GoodIn lw_tbl wsL_law0_r4 := goodIn_r _ [157, 158, 159, 160, 161, 699, 700, 701, 702, 705, 706, 707, 708, 709, 710, 806, 711, 712, 718, 719, 720, 721, 724, 726] (by decide +kernel) (by decide +kernel)
set_option maxRecDepth 20000 in
theorem in_wsL_law0_r5 : GoodIn lw_tbl wsL_law0_r5 := goodIn_r _ [727, 728, 732, 733, 734, 735, 199, 200, 201, 202, 203, 48, 204, 205, 206, 207, 208, 209, 210, 211, 212, 213, 214, 215] (by decide +kernel) (by decide +kernel)
set_option maxRecDepth 20000 in
theorem in_wsL_law0_r6 : GoodIn lw_tbl wsL_law0_r6 := goodIn_r _ [811, 812, 813, 814, 703, 704, 233, 234, 235, 236, 237, 239, 0, 240, 241, 242, 243, 244, 245, 246, 247, 248, 249, 250] (by decide +kernel) (by decide +kernel)
set_option maxRecDepth 20000 in
theorem in_wsL_law0_r7 : GoodIn lw_tbl wsL_law0_r7 := goodIn_r _ [251, 252, 253, 254, 255, 256, 257, 258, 260, 1, 261, 262, 263, 49, 264, 265, 266, 267, 268, 270, 2, 271, 272, 273] (by decide +kernel) (by decide +kernel)
set_option maxRecDepth 20000 in
theorem in_wsL_law0_r8 : GoodIn lw_tbl wsL_law0_r8 := goodIn_r _ [274, 275, 276, 277, 278, 279, 50, 280, 281, 282, 283, 284, 286, 3, 287, 288, 290, 4, 291, 292, 294, 5, 295, 815] (by decide +kernel) (by decide +kernel)
set_option maxRecDepth 20000 in
theorem in_wsL_law0_r9 : GoodIn lw_tbl wsL_law0_r9 := goodIn_r _ [816, 817, 818, 819, 821, 19, 822, 823, 824, 825, 826, 828, 20, 829, 830, 832, 21, 833, 834, 836, 22, 837, 838, 840] (by decide +kernel) (by decide +kernel)
set_option maxRecDepth 20000 in
theorem in_wsL_law0_r10 : GoodIn lw_tbl wsL_law0_r10 := goodIn_r _ [23, 841, 842, 844, 24, 845, 846, 848, 25, 849, 296, 297, 298, 299, 300, 301, 302, 303, 304, 306, 6, 307, 850, 851] (by decide +kernel) (by decide +kernel)
set_option maxRecDepth 20000 in
theorem in_wsL_law0_r11 : GoodIn lw_tbl wsL_law0_r11 := goodIn_r _ [852, 853, 854, 856, 26, 857, 309, 310, 311, 312, 313, 314, 315, 316, 858, 859, 860, 861, 317, 318, 319, 320, 321, 322] (by decide +kernel) (by decide +kernel)
