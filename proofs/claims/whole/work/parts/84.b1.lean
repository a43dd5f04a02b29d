set_option maxRecDepth 20000 in
theorem in_wsL_law0_r12 : GoodIn lw_tbl wsL_law0_r12 := goodIn_r _ [323, 324, 325, 326, 327, 328, 329, 330, 331, 332, 862, 863, 864, 865, 866, 868, 27, 869, 713, 870, 872, 28, 873, 333] (by decide +kernel) (by decide +kernel)
set_option maxRecDepth 20000 in
theorem in_wsL_law0_r13 : GoodIn lw_tbl wsL_law0_r13 := goodIn_r _ [334, 335, 336, 337, 338, 339, 340, 874, 875, 876, 877, 341, 342, 343, 344, 345, 347, 7, 348, 349, 350, 351, 352, 353] (by decide +kernel) (by decide +kernel)
set_option maxRecDepth 20000 in
theorem in_wsL_law0_r14 : GoodIn lw_tbl wsL_law0_r14 := goodIn_r _ [354, 355, 365, 366, 356, 357, 358, 359, 360, 361, 362, 363, 364, 367, 368, 369, 370, 890, 891, 892, 893, 714, 894, 896] (by decide +kernel) (by decide +kernel)
set_option maxRecDepth 20000 in
theorem in_wsL_law0_r15 : GoodIn lw_tbl wsL_law0_r15 := goodIn_r _ [31, 897, 882, 884, 29, 885, 886, 888, 30, 889, 898, 900, 32, 901, 716, 715, 902, 904, 33, 905, 906, 371, 372, 373] (by decide +kernel) (by decide +kernel)
set_option maxRecDepth 20000 in
theorem in_wsL_law0_r16 : GoodIn lw_tbl wsL_law0_r16 := goodIn_r _ [374, 375, 376, 377, 378, 907, 908, 909, 910, 379, 380, 381, 382, 383, 384, 385, 386, 387, 388, 389, 390, 391, 911, 912] (by decide +kernel) (by decide +kernel)
set_option maxRecDepth 20000 in
theorem in_wsL_law0_r17 : GoodIn lw_tbl wsL_law0_r17 := goodIn_r _ [913, 914, 392, 393, 394, 395, 396, 397, 398, 399, 400, 878, 879, 880, 881, 401, 402, 403, 404, 405, 406, 407, 408, 409] (by decide +kernel) (by decide +kernel)
set_option maxRecDepth 20000 in
theorem in_wsL_law0_r18 : GoodIn lw_tbl wsL_law0_r18 := goodIn_r _ [411, 410, 51, 412, 413, 414, 415, 416, 417, 418, 419, 915, 916, 917, 918, 420, 421, 422, 423, 424, 425, 426, 427, 919] (by decide +kernel) (by decide +kernel)
set_option maxRecDepth 20000 in
theorem in_wsL_law0_r19 : GoodIn lw_tbl wsL_law0_r19 := goodIn_r _ [920, 921, 922, 717, 428, 429, 430, 431, 432, 433, 434, 435, 923, 924, 925, 926, 436, 437, 438, 439, 440, 441, 442, 443] (by decide +kernel) (by decide +kernel)
set_option maxRecDepth 20000 in
theorem in_wsL_law0_r20 : GoodIn lw_tbl wsL_law0_r20 := goodIn_r _ [109, 110, 444, 445, 446, 447, 448, 449, 450, 451, 453, 8, 454, 455, 457, 9, 458, 459, 460, 462, 10, 463, 468, 469] (by decide +kernel) (by decide +kernel)
set_option maxRecDepth 20000 in
theorem in_wsL_law0_r21 : GoodIn lw_tbl wsL_law0_r21 := goodIn_r _ [470, 464, 465, 466, 467, 471, 472, 473, 474, 475, 477, 11, 478, 111, 112, 113, 479, 481, 12, 482, 483, 484, 485, 486] (by decide +kernel) (by decide +kernel)
set_option maxRecDepth 20000 in
theorem in_wsL_law0_r22 : GoodIn lw_tbl wsL_law0_r22 := goodIn_r _ [927, 928, 929, 930, 722, 723, 931, 933, 34, 934, 935, 937, 35, 938, 939, 940, 941, 487, 488, 489, 490, 491, 492, 493] (by decide +kernel) (by decide +kernel)
