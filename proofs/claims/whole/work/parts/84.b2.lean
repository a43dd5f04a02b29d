set_option maxRecDepth 20000 in
theorem in_wsL_law0_r23 : GoodIn lw_tbl wsL_law0_r23 := goodIn_r _ [494, 495, 942, 943, 944, 945, 496, 497, 498, 499, 500, 501, 502, 503, 504, 505, 506, 507, 508, 946, 947, 948, 949, 950] (by decide +kernel) (by decide +kernel)
set_option maxRecDepth 20000 in
theorem in_wsL_law0_r24 : GoodIn lw_tbl wsL_law0_r24 := goodIn_r _ [952, 36, 953, 509, 510, 511, 512, 513, 514, 515, 516, 517, 518, 519, 520, 521, 954, 955, 956, 957, 725, 522, 523, 524] (by decide +kernel) (by decide +kernel)
set_option maxRecDepth 20000 in
theorem in_wsL_law0_r25 : GoodIn lw_tbl wsL_law0_r25 := goodIn_r _ [525, 526, 527, 528, 529, 530, 531, 532, 533, 534, 535, 536, 537, 958, 959, 960, 961, 729, 730, 962, 964, 37, 965, 538] (by decide +kernel) (by decide +kernel)
set_option maxRecDepth 20000 in
theorem in_wsL_law0_r26 : GoodIn lw_tbl wsL_law0_r26 := goodIn_r _ [539, 540, 541, 542, 543, 544, 545, 546, 548, 13, 549, 550, 551, 552, 553, 554, 966, 967, 968, 969, 555, 556, 557, 558] (by decide +kernel) (by decide +kernel)
set_option maxRecDepth 20000 in
theorem in_wsL_law0_r27 : GoodIn lw_tbl wsL_law0_r27 := goodIn_r _ [559, 560, 561, 562, 563, 564, 565, 566, 970, 971, 972, 973, 974, 731, 736, 567, 568, 569, 570, 571, 572, 573, 574, 975] (by decide +kernel) (by decide +kernel)
set_option maxRecDepth 20000 in
theorem in_wsL_law0_r28 : GoodIn lw_tbl wsL_law0_r28 := goodIn_r _ [976, 977, 978, 619, 620, 40, 621, 622, 623, 624, 625, 626, 627, 55, 579, 581, 14, 582, 583, 584, 585, 586, 693, 694] (by decide +kernel) (by decide +kernel)
set_option maxRecDepth 20000 in
theorem in_wsL_law0_r29 : GoodIn lw_tbl wsL_law0_r29 := goodIn_r _ [695, 696, 591, 593, 15, 594, 595, 597, 16, 598, 979, 980, 981, 982, 983, 985, 38, 986, 987, 989, 39, 990, 807, 808] (by decide +kernel) (by decide +kernel)
set_option maxRecDepth 20000 in
theorem in_wsL_law0_r30 : GoodIn lw_tbl wsL_law0_r30 := goodIn_r _ [809, 810, 575, 576, 577, 578, 587, 588, 589, 590, 991, 992, 993, 994, 599, 600, 601, 602, 603, 604, 605, 606, 607, 608] (by decide +kernel) (by decide +kernel)
set_option maxRecDepth 20000 in
theorem in_wsL_law0_r31 : GoodIn lw_tbl wsL_law0_r31 := goodIn_r _ [609, 610, 611, 613, 17, 614, 615, 616, 617, 618, 995, 996, 997, 998] (by decide +kernel) (by decide +kernel)
