set_option maxRecDepth 20000 in
theorem ggL_law_X6_tempo : GoodIn wsL_law wsX6_tempo := goodIn_r _ [290, 130, 131, 132, 2, 133, 15, 14, 134, 135, 136, 140, 141, 142, 291, 292, 293, 107, 294, 118, 119, 734, 735, 736, 737, 738, 739, 740, 800, 801, 802, 803, 804, 805, 806, 807] (by decide +kernel) (by decide +kernel)
set_option maxRecDepth 20000 in
theorem gL_law_X6_tempo : GoodIn wsL_law (wsV RL 41 RX6 yX6_tempo wsX6_tempo) := goodIn_app (goodIn_of _ (by decide +kernel)) ggL_law_X6_tempo
set_option maxRecDepth 20000 in
theorem ggL_law_X7_tempo : GoodIn wsL_law wsX7_tempo := goodIn_r _ [298, 124, 84, 85, 86, 195, 196, 197, 5, 198, 125, 199, 200, 201, 741, 742, 743, 744, 745, 746, 747, 748, 749, 750, 751, 752, 753, 754, 755, 756, 757, 758, 759, 760, 761, 762, 763, 764, 765, 766, 767, 768, 769, 770, 771, 772, 773, 774] (by decide +kernel) (by decide +kernel)
set_option maxRecDepth 20000 in
theorem gL_law_X7_tempo : GoodIn wsL_law (wsV RL 44 RX7 yX7_tempo wsX7_tempo) := goodIn_app (goodIn_of _ (by decide +kernel)) ggL_law_X7_tempo
set_option maxRecDepth 20000 in
theorem ggL_law_X6_sounds : GoodIn wsL_law wsX6_sounds := goodIn_r _ [302, 19, 303, 304, 305, 2, 306, 130, 131, 132, 133, 15, 14, 134, 135, 136, 307, 308, 309, 310, 311, 312, 18, 313, 40, 42, 41, 314, 160, 157, 161, 315, 156, 158, 316, 317, 318, 107, 319, 118, 320, 321, 322, 323, 116, 324, 173, 174, 175, 176, 177, 178, 325, 326, 327, 328, 734, 735, 736, 737, 738, 739, 740, 775, 776, 777, 800, 801, 802, 803, 804, 805, 806, 807] (by decide +kernel) (by decide +kernel)
set_option maxRecDepth 20000 in
theorem gL_law_X6_sounds : GoodIn wsL_law (wsV RL 45 RX6 yX6_sounds wsX6_sounds) := goodIn_app (goodIn_of _ (by decide +kernel)) ggL_law_X6_sounds
set_option maxRecDepth 20000 in
theorem ggL_law_X7_sounds : GoodIn wsL_law wsX7_sounds := goodIn_r _ [332, 124, 333, 334, 335, 336, 5, 337, 195, 196, 197, 198, 125, 199, 200, 201, 338, 339, 340, 341, 342, 343, 344, 345, 84, 85, 86, 346, 347, 348, 349, 350, 351, 352, 353, 354, 355, 81, 222, 223, 224, 225, 83, 82, 356, 173, 174, 175, 176, 177, 178, 741, 742, 743, 744, 745, 746, 747, 748, 749, 750, 751, 752, 753, 754, 755, 756, 757, 758, 759, 760, 761, 762, 763, 764, 765, 766, 767, 768, 769, 770, 771, 772, 773, 774] (by decide +kernel) (by decide +kernel)
set_option maxRecDepth 20000 in
theorem gL_law_X7_sounds : GoodIn wsL_law (wsV RL 48 RX7 yX7_sounds wsX7_sounds) := goodIn_app (goodIn_of _ (by decide +kernel)) ggL_law_X7_sounds
set_option maxRecDepth 20000 in
theorem ggL_law_X6_pressure : GoodIn wsL_law wsX6_pressure := goodIn_r _ [360, 19, 303, 304, 305, 2, 306, 130, 131, 132, 133, 15, 14, 134, 135, 136, 307, 308, 309, 310, 311, 312, 18, 313, 40, 42, 41, 314, 160, 157, 161, 315, 156, 158, 316, 317, 318, 107, 319, 118, 320, 321, 322, 323, 116, 324, 173, 174, 175, 176, 177, 178, 361, 362, 363, 364, 734, 735, 736, 737, 738, 739, 740, 775, 776, 777, 800, 801, 802, 803, 804, 805, 806, 807] (by decide +kernel) (by decide +kernel)
set_option maxRecDepth 20000 in
theorem gL_law_X6_pressure : GoodIn wsL_law (wsV RL 49 RX6 yX6_pressure wsX6_pressure) := goodIn_app (goodIn_of _ (by decide +kernel)) ggL_law_X6_pressure
set_option maxRecDepth 20000 in
theorem ggL_law_X7_pressure : GoodIn wsL_law wsX7_pressure := goodIn_r _ [368, 124, 351, 334, 335, 336, 5, 337, 195, 196, 197, 198, 125, 199, 200, 201, 338, 339, 340, 341, 342, 343, 344, 345, 84, 85, 86, 346, 347, 348, 349, 350, 333, 352, 353, 354, 355, 81, 222, 223, 224, 225, 83, 82, 356, 173, 174, 175, 176, 177, 178, 741, 742, 743, 744, 745, 746, 747, 748, 749, 750, 751, 752, 753, 754, 755, 756, 757, 758, 759, 760, 761, 762, 763, 764, 765, 766, 767, 768, 769, 770, 771, 772, 773, 774] (by decide +kernel) (by decide +kernel)
set_option maxRecDepth 20000 in
theorem gL_law_X7_pressure : GoodIn wsL_law (wsV RL 52 RX7 yX7_pressure wsX7_pressure) := goodIn_app (goodIn_of _ (by decide +kernel)) ggL_law_X7_pressure
set_option maxRecDepth 20000 in
theorem ggL_law_X6_silent : GoodIn wsL_law wsX6_silent := goodIn_r _ [372, 19, 130, 131, 132, 2, 133, 15, 14, 134, 135, 136, 307, 308, 309, 373, 374, 375, 18, 376, 377, 311, 312, 313, 40, 42, 41, 314, 160, 157, 161, 315, 156, 158, 316, 317, 318, 107, 319, 118, 320, 321, 322, 323, 116, 324, 173, 174, 175, 176, 177, 178, 378, 379, 380, 381, 734, 735, 736, 737, 738, 739, 740, 775, 776, 777, 800, 801, 802, 803, 804, 805, 806, 807] (by decide +kernel) (by decide +kernel)
set_option maxRecDepth 20000 in
theorem gL_law_X6_silent : GoodIn wsL_law (wsV RL 53 RX6 yX6_silent wsX6_silent) := goodIn_app (goodIn_of _ (by decide +kernel)) ggL_law_X6_silent
set_option maxRecDepth 20000 in
theorem ggL_law_X7_silent : GoodIn wsL_law wsX7_silent := goodIn_r _ [385, 124, 350, 195, 196, 197, 5, 198, 125, 199, 200, 201, 346, 347, 348, 349, 351, 333, 352, 353, 354, 355, 81, 222, 223, 224, 225, 83, 82, 342, 343, 344, 345, 84, 85, 86, 356, 173, 174, 175, 176, 177, 178, 741, 742, 743, 744, 745, 746, 747, 748, 749, 750, 751, 752, 753, 754, 755, 756, 757, 758, 759, 760, 761, 762, 763, 764, 765, 766, 767, 768, 769, 770, 771, 772, 773, 774] (by decide +kernel) (by decide +kernel)
set_option maxRecDepth 20000 in
theorem gL_law_X7_silent : GoodIn wsL_law (wsV RL 57 RX7 yX7_silent wsX7_silent) := goodIn_app (goodIn_of _ (by decide +kernel)) ggL_law_X7_silent
set_option maxRecDepth 20000 in
theorem ggL_law_X6_ticks : GoodIn wsL_law wsX6_ticks := goodIn_r _ [389, 130, 131, 132, 2, 133, 15, 14, 134, 135, 136, 390, 391, 392, 107, 393, 394, 317, 318, 319, 118, 734, 735, 736, 737, 738, 739, 740, 800, 801, 802, 803, 804, 805, 806, 807] (by decide +kernel) (by decide +kernel)
set_option maxRecDepth 20000 in
theorem gL_law_X6_ticks : GoodIn wsL_law (wsV RL 58 RX6 yX6_ticks wsX6_ticks) := goodIn_app (goodIn_of _ (by decide +kernel)) ggL_law_X6_ticks
set_option maxRecDepth 20000 in
theorem ggL_law_X7_ticks : GoodIn wsL_law wsX7_ticks := goodIn_r _ [398, 124, 195, 196, 197, 5, 198, 125, 199, 200, 201, 338, 339, 340, 341, 342, 343, 344, 345, 84, 85, 86, 741, 742, 743, 744, 745, 746, 747, 748, 749, 750, 751, 752, 753, 754, 755, 756, 757, 758, 759, 760, 761, 762, 763, 764, 765, 766, 767, 768, 769, 770, 771, 772, 773, 774] (by decide +kernel) (by decide +kernel)
set_option maxRecDepth 20000 in
theorem gL_law_X7_ticks : GoodIn wsL_law (wsV RL 62 RX7 yX7_ticks wsX7_ticks) := goodIn_app (goodIn_of _ (by decide +kernel)) ggL_law_X7_ticks
set_option maxRecDepth 20000 in
theorem ggL_law_X6_move : GoodIn wsL_law wsX6_move := goodIn_r _ [402, 130, 131, 132, 2, 133, 15, 14, 134, 135, 136, 143, 144, 145, 107, 146, 115, 403, 404, 405, 406, 118, 407, 408, 409, 410, 119, 411, 412, 413, 414, 112, 113, 114, 415, 416, 417, 418, 148, 149, 150, 151, 152, 153, 154, 155, 156, 157, 158, 159, 160, 161, 116, 162, 163, 164, 165, 117, 166, 167, 168, 169, 170, 171, 172, 173, 174, 175, 176, 177, 178, 179, 180, 181, 182, 183, 184, 185, 186, 187, 188, 189, 190, 734, 735, 736, 737, 738, 739, 740, 800, 801, 802, 803, 804, 805, 806, 807] (by decide +kernel) (by decide +kernel)
set_option maxRecDepth 20000 in
theorem gL_law_X6_move : GoodIn wsL_law (wsV RL 63 RX6 yX6_move wsX6_move) := goodIn_app (goodIn_of _ (by decide +kernel)) ggL_law_X6_move
set_option maxRecDepth 20000 in
theorem ggL_law_X7_move : GoodIn wsL_law wsX7_move := goodIn_r _ [422, 124, 84, 85, 86, 282, 89, 81, 82, 83, 195, 196, 197, 5, 198, 125, 199, 200, 201, 202, 203, 204, 205, 278, 279, 280, 281, 283, 284, 285, 286, 206, 207, 208, 209, 210, 211, 212, 213, 88, 214, 215, 216, 217, 218, 219, 220, 221, 222, 223, 224, 225, 741, 742, 743, 744, 745, 746, 747, 748, 749, 750, 751, 752, 753, 754, 755, 756, 757, 758, 759, 760, 761, 762, 763, 764, 765, 766, 767, 768, 769, 770, 771, 772, 773, 774] (by decide +kernel) (by decide +kernel)
set_option maxRecDepth 20000 in
theorem gL_law_X7_move : GoodIn wsL_law (wsV RL 66 RX7 yX7_move wsX7_move) := goodIn_app (goodIn_of _ (by decide +kernel)) ggL_law_X7_move
