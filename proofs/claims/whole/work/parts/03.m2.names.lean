theorem dX7_paired_31 : decode cX7_paired 31 = .ok (.invokevirtual 167, 3) := by decide +kernel
theorem dX7_paired_34 : decode cX7_paired 34 = .ok (.aload_n 0, 1) := by decide +kernel
theorem dX7_paired_35 : decode cX7_paired 35 = .ok (.getfield 44, 3) := by decide +kernel
theorem dX7_paired_38 : decode cX7_paired 38 = .ok (.iload_n 2, 1) := by decide +kernel
theorem dX7_paired_39 : decode cX7_paired 39 = .ok (.iaload, 1) := by decide +kernel
theorem dX7_paired_40 : decode cX7_paired 40 = .ok (.ireturn, 1) := by decide +kernel
set_option maxRecDepth 20000 in
theorem ggX7_mend_X7_isRoll : GoodIn wsX7_mend wsX7_isRoll := goodIn_r _ [12, 13, 14, 15, 11, 16, 64, 65, 66, 67, 68, 69, 70, 71, 72, 73, 74, 75, 76, 77, 78, 79, 80, 81, 82, 83, 84, 85, 86, 87, 88, 89, 90, 91, 92, 93, 94, 95, 96, 97] (by decide +kernel) (by decide +kernel)
set_option maxRecDepth 20000 in
theorem gX7_mend_X7_isRoll : GoodIn wsX7_mend (wsV RX7 96 RX7 yX7_isRoll wsX7_isRoll) := goodIn_app (goodIn_of _ (by decide +kernel)) ggX7_mend_X7_isRoll
set_option maxRecDepth 20000 in
theorem ggX7_mend_X7_aligns : GoodIn wsX7_mend wsX7_aligns := goodIn_r _ [20, 21, 2, 22, 23, 24, 4, 25, 26, 27, 11, 28, 29, 5, 30, 31, 32, 33, 34, 6, 35, 36, 37, 38, 39, 7, 40, 41, 42, 64, 65, 66, 67, 68, 69, 70, 71, 72, 73, 74, 75, 76, 77, 78, 79, 80, 81, 82, 83, 84, 85, 86, 87, 88, 89, 90, 91, 92, 93, 94, 95, 96, 97] (by decide +kernel) (by decide +kernel)
set_option maxRecDepth 20000 in
theorem gX7_mend_X7_aligns : GoodIn wsX7_mend (wsV RX7 167 RX7 yX7_aligns wsX7_aligns) := goodIn_app (goodIn_of _ (by decide +kernel)) ggX7_mend_X7_aligns
set_option maxRecDepth 20000 in
theorem ggX7_mend_X7_mends : GoodIn wsX7_mend wsX7_mends := goodIn_r _ [46, 6, 29, 34, 47, 48, 49, 11, 50, 51, 52, 53, 54, 55, 56, 57, 58, 59, 60, 61, 62, 63, 14, 15, 16, 64, 65, 66, 67, 68, 69, 70, 71, 72, 73, 74, 75, 76, 77, 78, 79, 80, 81, 82, 83, 84, 85, 86, 87, 88, 89, 90, 91, 92, 93, 94, 95, 96, 97] (by decide +kernel) (by decide +kernel)
set_option maxRecDepth 20000 in
theorem gX7_mend_X7_mends : GoodIn wsX7_mend (wsV RX7 170 RX7 yX7_mends wsX7_mends) := goodIn_app (goodIn_of _ (by decide +kernel)) ggX7_mend_X7_mends
theorem dX7_mend_0 : decode cX7_mend 0 = .ok (.aload_n 0, 1) := by decide +kernel
theorem dX7_mend_1 : decode cX7_mend 1 = .ok (.iconst 0, 1) := by decide +kernel
theorem dX7_mend_2 : decode cX7_mend 2 = .ok (.putfield 71, 3) := by decide +kernel
theorem dX7_mend_5 : decode cX7_mend 5 = .ok (.aload_n 0, 1) := by decide +kernel
theorem dX7_mend_6 : decode cX7_mend 6 = .ok (.iload_n 1, 1) := by decide +kernel
theorem dX7_mend_7 : decode cX7_mend 7 = .ok (.invokevirtual 96, 3) := by decide +kernel
theorem dX7_mend_10 : decode cX7_mend 10 = .ok (.ifCond .ne 5, 3) := by decide +kernel
theorem dX7_mend_13 : decode cX7_mend 13 = .ok (.iconst (-1), 1) := by decide +kernel
theorem dX7_mend_14 : decode cX7_mend 14 = .ok (.ireturn, 1) := by decide +kernel
theorem dX7_mend_15 : decode cX7_mend 15 = .ok (.aload_n 0, 1) := by decide +kernel
theorem dX7_mend_16 : decode cX7_mend 16 = .ok (.iload_n 1, 1) := by decide +kernel
theorem dX7_mend_17 : decode cX7_mend 17 = .ok (.invokevirtual 167, 3) := by decide +kernel
theorem dX7_mend_20 : decode cX7_mend 20 = .ok (.iconst 0, 1) := by decide +kernel
theorem dX7_mend_21 : decode cX7_mend 21 = .ok (.istore_n 2, 1) := by decide +kernel
theorem dX7_mend_22 : decode cX7_mend 22 = .ok (.iload_n 2, 1) := by decide +kernel
theorem dX7_mend_23 : decode cX7_mend 23 = .ok (.aload_n 0, 1) := by decide +kernel
theorem dX7_mend_24 : decode cX7_mend 24 = .ok (.getfield 152, 3) := by decide +kernel
theorem dX7_mend_27 : decode cX7_mend 27 = .ok (.if_icmp .ge 40, 3) := by decide +kernel
theorem dX7_mend_30 : decode cX7_mend 30 = .ok (.aload_n 0, 1) := by decide +kernel
theorem dX7_mend_31 : decode cX7_mend 31 = .ok (.getfield 47, 3) := by decide +kernel
theorem dX7_mend_34 : decode cX7_mend 34 = .ok (.iload_n 2, 1) := by decide +kernel
theorem dX7_mend_35 : decode cX7_mend 35 = .ok (.aload_n 0, 1) := by decide +kernel
theorem dX7_mend_36 : decode cX7_mend 36 = .ok (.getfield 44, 3) := by decide +kernel
theorem dX7_mend_39 : decode cX7_mend 39 = .ok (.iload_n 2, 1) := by decide +kernel
theorem dX7_mend_40 : decode cX7_mend 40 = .ok (.iaload, 1) := by decide +kernel
theorem dX7_mend_41 : decode cX7_mend 41 = .ok (.iconst (-1), 1) := by decide +kernel
theorem dX7_mend_42 : decode cX7_mend 42 = .ok (.if_icmp .ne 7, 3) := by decide +kernel
theorem dX7_mend_45 : decode cX7_mend 45 = .ok (.iconst (-1), 1) := by decide +kernel
theorem dX7_mend_46 : decode cX7_mend 46 = .ok (.goto 14, 3) := by decide +kernel
theorem dX7_mend_49 : decode cX7_mend 49 = .ok (.aload_n 0, 1) := by decide +kernel
theorem dX7_mend_50 : decode cX7_mend 50 = .ok (.getfield 32, 3) := by decide +kernel
theorem dX7_mend_53 : decode cX7_mend 53 = .ok (.aload_n 0, 1) := by decide +kernel
theorem dX7_mend_54 : decode cX7_mend 54 = .ok (.getfield 44, 3) := by decide +kernel
theorem dX7_mend_57 : decode cX7_mend 57 = .ok (.iload_n 2, 1) := by decide +kernel
theorem dX7_mend_58 : decode cX7_mend 58 = .ok (.iaload, 1) := by decide +kernel
theorem dX7_mend_59 : decode cX7_mend 59 = .ok (.iaload, 1) := by decide +kernel
theorem dX7_mend_60 : decode cX7_mend 60 = .ok (.iastore, 1) := by decide +kernel
theorem dX7_mend_61 : decode cX7_mend 61 = .ok (.iinc 2 1, 3) := by decide +kernel
theorem dX7_mend_64 : decode cX7_mend 64 = .ok (.goto (-42), 3) := by decide +kernel
theorem dX7_mend_67 : decode cX7_mend 67 = .ok (.iconst 0, 1) := by decide +kernel
theorem dX7_mend_68 : decode cX7_mend 68 = .ok (.istore_n 2, 1) := by decide +kernel
theorem dX7_mend_69 : decode cX7_mend 69 = .ok (.iconst 0, 1) := by decide +kernel
theorem dX7_mend_70 : decode cX7_mend 70 = .ok (.istore_n 3, 1) := by decide +kernel
theorem dX7_mend_71 : decode cX7_mend 71 = .ok (.iload_n 3, 1) := by decide +kernel
theorem dX7_mend_72 : decode cX7_mend 72 = .ok (.aload_n 0, 1) := by decide +kernel
theorem dX7_mend_73 : decode cX7_mend 73 = .ok (.getfield 152, 3) := by decide +kernel
theorem dX7_mend_76 : decode cX7_mend 76 = .ok (.if_icmp .ge 66, 3) := by decide +kernel
theorem dX7_mend_79 : decode cX7_mend 79 = .ok (.aload_n 0, 1) := by decide +kernel
theorem dX7_mend_80 : decode cX7_mend 80 = .ok (.getfield 47, 3) := by decide +kernel
theorem dX7_mend_83 : decode cX7_mend 83 = .ok (.iload_n 3, 1) := by decide +kernel
theorem dX7_mend_84 : decode cX7_mend 84 = .ok (.iaload, 1) := by decide +kernel
theorem dX7_mend_85 : decode cX7_mend 85 = .ok (.istore 4, 2) := by decide +kernel
theorem dX7_mend_87 : decode cX7_mend 87 = .ok (.iload 4, 2) := by decide +kernel
theorem dX7_mend_89 : decode cX7_mend 89 = .ok (.iconst (-1), 1) := by decide +kernel
theorem dX7_mend_90 : decode cX7_mend 90 = .ok (.if_icmp .eq 46, 3) := by decide +kernel
theorem dX7_mend_93 : decode cX7_mend 93 = .ok (.aload_n 0, 1) := by decide +kernel
theorem dX7_mend_94 : decode cX7_mend 94 = .ok (.getfield 7, 3) := by decide +kernel
theorem dX7_mend_97 : decode cX7_mend 97 = .ok (.iload 4, 2) := by decide +kernel
theorem dX7_mend_99 : decode cX7_mend 99 = .ok (.iaload, 1) := by decide +kernel
theorem dX7_mend_100 : decode cX7_mend 100 = .ok (.aload_n 0, 1) := by decide +kernel
theorem dX7_mend_101 : decode cX7_mend 101 = .ok (.getfield 35, 3) := by decide +kernel
theorem dX7_mend_104 : decode cX7_mend 104 = .ok (.iload_n 3, 1) := by decide +kernel
theorem dX7_mend_105 : decode cX7_mend 105 = .ok (.iaload, 1) := by decide +kernel
theorem dX7_mend_106 : decode cX7_mend 106 = .ok (.if_icmp .ne 6, 3) := by decide +kernel
theorem dX7_mend_109 : decode cX7_mend 109 = .ok (.goto 27, 3) := by decide +kernel
theorem dX7_mend_112 : decode cX7_mend 112 = .ok (.iload_n 2, 1) := by decide +kernel
theorem dX7_mend_113 : decode cX7_mend 113 = .ok (.aload_n 0, 1) := by decide +kernel
theorem dX7_mend_114 : decode cX7_mend 114 = .ok (.iload_n 1, 1) := by decide +kernel
theorem dX7_mend_115 : decode cX7_mend 115 = .ok (.iload 4, 2) := by decide +kernel
theorem dX7_mend_117 : decode cX7_mend 117 = .ok (.aload_n 0, 1) := by decide +kernel
theorem dX7_mend_118 : decode cX7_mend 118 = .ok (.getfield 35, 3) := by decide +kernel
theorem dX7_mend_121 : decode cX7_mend 121 = .ok (.iload_n 3, 1) := by decide +kernel
theorem dX7_mend_122 : decode cX7_mend 122 = .ok (.iaload, 1) := by decide +kernel
theorem dX7_mend_123 : decode cX7_mend 123 = .ok (.invokevirtual 170, 3) := by decide +kernel
theorem dX7_mend_126 : decode cX7_mend 126 = .ok (.ifCond .eq 7, 3) := by decide +kernel
theorem dX7_mend_129 : decode cX7_mend 129 = .ok (.iconst 1, 1) := by decide +kernel
theorem dX7_mend_130 : decode cX7_mend 130 = .ok (.goto 4, 3) := by decide +kernel
theorem dX7_mend_133 : decode cX7_mend 133 = .ok (.iconst 0, 1) := by decide +kernel
theorem dX7_mend_134 : decode cX7_mend 134 = .ok (.iadd, 1) := by decide +kernel
theorem dX7_mend_135 : decode cX7_mend 135 = .ok (.istore_n 2, 1) := by decide +kernel
theorem dX7_mend_136 : decode cX7_mend 136 = .ok (.iinc 3 1, 3) := by decide +kernel
theorem dX7_mend_139 : decode cX7_mend 139 = .ok (.goto (-68), 3) := by decide +kernel
theorem dX7_mend_142 : decode cX7_mend 142 = .ok (.iload_n 2, 1) := by decide +kernel
theorem dX7_mend_143 : decode cX7_mend 143 = .ok (.ireturn, 1) := by decide +kernel
set_option maxRecDepth 20000 in
theorem ggX7_mends_X7_bears : GoodIn wsX7_mends wsX7_bears := goodIn_r _ [8, 9, 10, 11, 12, 7, 13, 3, 2, 1, 14, 15, 16, 17, 18, 19, 20, 21, 22, 23, 24, 25, 26, 27, 28, 29, 30, 31, 32, 33, 34, 35, 36, 37, 38, 39, 40, 41, 42, 43, 44, 45, 46, 47, 48, 49, 50, 51, 52, 53, 54, 55, 56, 57, 58] (by decide +kernel) (by decide +kernel)
set_option maxRecDepth 20000 in
theorem gX7_mends_X7_bears : GoodIn wsX7_mends (wsV RX7 93 RX7 yX7_bears wsX7_bears) := goodIn_app (goodIn_of _ (by decide +kernel)) ggX7_mends_X7_bears
theorem dX7_mends_0 : decode cX7_mends 0 = .ok (.aload_n 0, 1) := by decide +kernel
theorem dX7_mends_1 : decode cX7_mends 1 = .ok (.getfield 7, 3) := by decide +kernel
theorem dX7_mends_4 : decode cX7_mends 4 = .ok (.iload_n 2, 1) := by decide +kernel
theorem dX7_mends_5 : decode cX7_mends 5 = .ok (.iaload, 1) := by decide +kernel
theorem dX7_mends_6 : decode cX7_mends 6 = .ok (.istore 4, 2) := by decide +kernel
theorem dX7_mends_8 : decode cX7_mends 8 = .ok (.bipush 60, 2) := by decide +kernel
theorem dX7_mends_10 : decode cX7_mends 10 = .ok (.iload_n 1, 1) := by decide +kernel
theorem dX7_mends_11 : decode cX7_mends 11 = .ok (.imul, 1) := by decide +kernel
theorem dX7_mends_12 : decode cX7_mends 12 = .ok (.istore 5, 2) := by decide +kernel
theorem dX7_mends_14 : decode cX7_mends 14 = .ok (.iload 5, 2) := by decide +kernel
theorem dX7_mends_16 : decode cX7_mends 16 = .ok (.bipush 60, 2) := by decide +kernel
theorem dX7_mends_18 : decode cX7_mends 18 = .ok (.iload_n 1, 1) := by decide +kernel
theorem dX7_mends_19 : decode cX7_mends 19 = .ok (.imul, 1) := by decide +kernel
theorem dX7_mends_20 : decode cX7_mends 20 = .ok (.bipush 60, 2) := by decide +kernel
theorem dX7_mends_22 : decode cX7_mends 22 = .ok (.iadd, 1) := by decide +kernel
theorem dX7_mends_23 : decode cX7_mends 23 = .ok (.if_icmp .ge 89, 3) := by decide +kernel
theorem dX7_mends_26 : decode cX7_mends 26 = .ok (.iload 5, 2) := by decide +kernel
theorem dX7_mends_28 : decode cX7_mends 28 = .ok (.iload_n 2, 1) := by decide +kernel
theorem dX7_mends_29 : decode cX7_mends 29 = .ok (.if_icmp .eq 77, 3) := by decide +kernel
theorem dX7_mends_32 : decode cX7_mends 32 = .ok (.aload_n 0, 1) := by decide +kernel
theorem dX7_mends_33 : decode cX7_mends 33 = .ok (.getfield 16, 3) := by decide +kernel
theorem dX7_mends_36 : decode cX7_mends 36 = .ok (.iload 5, 2) := by decide +kernel
theorem dX7_mends_38 : decode cX7_mends 38 = .ok (.iaload, 1) := by decide +kernel
theorem dX7_mends_39 : decode cX7_mends 39 = .ok (.ifCond .le 67, 3) := by decide +kernel
theorem dX7_mends_42 : decode cX7_mends 42 = .ok (.aload_n 0, 1) := by decide +kernel
theorem dX7_mends_43 : decode cX7_mends 43 = .ok (.getfield 7, 3) := by decide +kernel
theorem dX7_mends_46 : decode cX7_mends 46 = .ok (.iload 5, 2) := by decide +kernel
theorem dX7_mends_48 : decode cX7_mends 48 = .ok (.iaload, 1) := by decide +kernel
theorem dX7_mends_49 : decode cX7_mends 49 = .ok (.iload_n 3, 1) := by decide +kernel
theorem dX7_mends_50 : decode cX7_mends 50 = .ok (.if_icmp .ne 56, 3) := by decide +kernel
theorem dX7_mends_53 : decode cX7_mends 53 = .ok (.aload_n 0, 1) := by decide +kernel
theorem dX7_mends_54 : decode cX7_mends 54 = .ok (.getfield 13, 3) := by decide +kernel
theorem dX7_mends_57 : decode cX7_mends 57 = .ok (.iload_n 2, 1) := by decide +kernel
theorem dX7_mends_58 : decode cX7_mends 58 = .ok (.iaload, 1) := by decide +kernel
theorem dX7_mends_59 : decode cX7_mends 59 = .ok (.aload_n 0, 1) := by decide +kernel
theorem dX7_mends_60 : decode cX7_mends 60 = .ok (.getfield 13, 3) := by decide +kernel
theorem dX7_mends_63 : decode cX7_mends 63 = .ok (.iload 5, 2) := by decide +kernel
theorem dX7_mends_65 : decode cX7_mends 65 = .ok (.iaload, 1) := by decide +kernel
theorem dX7_mends_66 : decode cX7_mends 66 = .ok (.aload_n 0, 1) := by decide +kernel
theorem dX7_mends_67 : decode cX7_mends 67 = .ok (.getfield 16, 3) := by decide +kernel
theorem dX7_mends_70 : decode cX7_mends 70 = .ok (.iload 5, 2) := by decide +kernel
theorem dX7_mends_72 : decode cX7_mends 72 = .ok (.iaload, 1) := by decide +kernel
theorem dX7_mends_73 : decode cX7_mends 73 = .ok (.iadd, 1) := by decide +kernel
theorem dX7_mends_74 : decode cX7_mends 74 = .ok (.iconst 1, 1) := by decide +kernel
theorem dX7_mends_75 : decode cX7_mends 75 = .ok (.iadd, 1) := by decide +kernel
theorem dX7_mends_76 : decode cX7_mends 76 = .ok (.if_icmp .ge 30, 3) := by decide +kernel
theorem dX7_mends_79 : decode cX7_mends 79 = .ok (.aload_n 0, 1) := by decide +kernel
theorem dX7_mends_80 : decode cX7_mends 80 = .ok (.getfield 13, 3) := by decide +kernel
theorem dX7_mends_83 : decode cX7_mends 83 = .ok (.iload 5, 2) := by decide +kernel
theorem dX7_mends_85 : decode cX7_mends 85 = .ok (.iaload, 1) := by decide +kernel
theorem dX7_mends_86 : decode cX7_mends 86 = .ok (.aload_n 0, 1) := by decide +kernel
theorem dX7_mends_87 : decode cX7_mends 87 = .ok (.getfield 13, 3) := by decide +kernel
theorem dX7_mends_90 : decode cX7_mends 90 = .ok (.iload_n 2, 1) := by decide +kernel
theorem dX7_mends_91 : decode cX7_mends 91 = .ok (.iaload, 1) := by decide +kernel
theorem dX7_mends_92 : decode cX7_mends 92 = .ok (.aload_n 0, 1) := by decide +kernel
theorem dX7_mends_93 : decode cX7_mends 93 = .ok (.getfield 16, 3) := by decide +kernel
theorem dX7_mends_96 : decode cX7_mends 96 = .ok (.iload_n 2, 1) := by decide +kernel
theorem dX7_mends_97 : decode cX7_mends 97 = .ok (.iaload, 1) := by decide +kernel
theorem dX7_mends_98 : decode cX7_mends 98 = .ok (.iadd, 1) := by decide +kernel
theorem dX7_mends_99 : decode cX7_mends 99 = .ok (.iconst 1, 1) := by decide +kernel
theorem dX7_mends_100 : decode cX7_mends 100 = .ok (.iadd, 1) := by decide +kernel
theorem dX7_mends_101 : decode cX7_mends 101 = .ok (.if_icmp .ge 5, 3) := by decide +kernel
theorem dX7_mends_104 : decode cX7_mends 104 = .ok (.iconst 0, 1) := by decide +kernel
theorem dX7_mends_105 : decode cX7_mends 105 = .ok (.ireturn, 1) := by decide +kernel
theorem dX7_mends_106 : decode cX7_mends 106 = .ok (.iinc 5 1, 3) := by decide +kernel
theorem dX7_mends_109 : decode cX7_mends 109 = .ok (.goto (-95), 3) := by decide +kernel
theorem dX7_mends_112 : decode cX7_mends 112 = .ok (.aload_n 0, 1) := by decide +kernel
theorem dX7_mends_113 : decode cX7_mends 113 = .ok (.getfield 7, 3) := by decide +kernel
theorem dX7_mends_116 : decode cX7_mends 116 = .ok (.iload_n 2, 1) := by decide +kernel
theorem dX7_mends_117 : decode cX7_mends 117 = .ok (.iload_n 3, 1) := by decide +kernel
theorem dX7_mends_118 : decode cX7_mends 118 = .ok (.iastore, 1) := by decide +kernel
theorem dX7_mends_119 : decode cX7_mends 119 = .ok (.aload_n 0, 1) := by decide +kernel
theorem dX7_mends_120 : decode cX7_mends 120 = .ok (.iload_n 1, 1) := by decide +kernel
theorem dX7_mends_121 : decode cX7_mends 121 = .ok (.aload_n 0, 1) := by decide +kernel
theorem dX7_mends_122 : decode cX7_mends 122 = .ok (.getfield 13, 3) := by decide +kernel
theorem dX7_mends_125 : decode cX7_mends 125 = .ok (.iload_n 2, 1) := by decide +kernel
theorem dX7_mends_126 : decode cX7_mends 126 = .ok (.iaload, 1) := by decide +kernel
theorem dX7_mends_127 : decode cX7_mends 127 = .ok (.aload_n 0, 1) := by decide +kernel
theorem dX7_mends_128 : decode cX7_mends 128 = .ok (.getfield 13, 3) := by decide +kernel
theorem dX7_mends_131 : decode cX7_mends 131 = .ok (.iload_n 2, 1) := by decide +kernel
theorem dX7_mends_132 : decode cX7_mends 132 = .ok (.iaload, 1) := by decide +kernel
theorem dX7_mends_133 : decode cX7_mends 133 = .ok (.aload_n 0, 1) := by decide +kernel
theorem dX7_mends_134 : decode cX7_mends 134 = .ok (.getfield 16, 3) := by decide +kernel
theorem dX7_mends_137 : decode cX7_mends 137 = .ok (.iload_n 2, 1) := by decide +kernel
theorem dX7_mends_138 : decode cX7_mends 138 = .ok (.iaload, 1) := by decide +kernel
theorem dX7_mends_139 : decode cX7_mends 139 = .ok (.iadd, 1) := by decide +kernel
theorem dX7_mends_140 : decode cX7_mends 140 = .ok (.iconst 1, 1) := by decide +kernel
theorem dX7_mends_141 : decode cX7_mends 141 = .ok (.isub, 1) := by decide +kernel
theorem dX7_mends_142 : decode cX7_mends 142 = .ok (.invokevirtual 93, 3) := by decide +kernel
theorem dX7_mends_145 : decode cX7_mends 145 = .ok (.ifCond .eq 5, 3) := by decide +kernel
theorem dX7_mends_148 : decode cX7_mends 148 = .ok (.iconst 1, 1) := by decide +kernel
theorem dX7_mends_149 : decode cX7_mends 149 = .ok (.ireturn, 1) := by decide +kernel
theorem dX7_mends_150 : decode cX7_mends 150 = .ok (.aload_n 0, 1) := by decide +kernel
theorem dX7_mends_151 : decode cX7_mends 151 = .ok (.getfield 7, 3) := by decide +kernel
theorem dX7_mends_154 : decode cX7_mends 154 = .ok (.iload_n 2, 1) := by decide +kernel
theorem dX7_mends_155 : decode cX7_mends 155 = .ok (.iload 4, 2) := by decide +kernel
theorem dX7_mends_157 : decode cX7_mends 157 = .ok (.iastore, 1) := by decide +kernel
theorem dX7_mends_158 : decode cX7_mends 158 = .ok (.iconst 0, 1) := by decide +kernel
theorem dX7_mends_159 : decode cX7_mends 159 = .ok (.ireturn, 1) := by decide +kernel
set_option maxRecDepth 20000 in
theorem ggX7_sight_X7_within : GoodIn wsX7_sight wsX7_within := goodIn_r _ [9] (by decide +kernel) (by decide +kernel)
set_option maxRecDepth 20000 in
theorem gX7_sight_X7_within : GoodIn wsX7_sight (va_wsS RX7 78 yX7_within wsX7_within) := goodIn_app (goodIn_of _ (by decide +kernel)) ggX7_sight_X7_within
theorem dX7_sight_0 : decode cX7_sight 0 = .ok (.aload_n 0, 1) := by decide +kernel
theorem dX7_sight_1 : decode cX7_sight 1 = .ok (.iconst 0, 1) := by decide +kernel
theorem dX7_sight_2 : decode cX7_sight 2 = .ok (.putfield 71, 3) := by decide +kernel
theorem dX7_sight_5 : decode cX7_sight 5 = .ok (.iload_n 1, 1) := by decide +kernel
theorem dX7_sight_6 : decode cX7_sight 6 = .ok (.iconst 1, 1) := by decide +kernel
theorem dX7_sight_7 : decode cX7_sight 7 = .ok (.sipush 1000, 3) := by decide +kernel
theorem dX7_sight_10 : decode cX7_sight 10 = .ok (.invokestatic 78, 3) := by decide +kernel
theorem dX7_sight_13 : decode cX7_sight 13 = .ok (.ifCond .eq 23, 3) := by decide +kernel
theorem dX7_sight_16 : decode cX7_sight 16 = .ok (.iload_n 2, 1) := by decide +kernel
theorem dX7_sight_17 : decode cX7_sight 17 = .ok (.iconst 0, 1) := by decide +kernel
theorem dX7_sight_18 : decode cX7_sight 18 = .ok (.bipush 23, 2) := by decide +kernel
theorem dX7_sight_20 : decode cX7_sight 20 = .ok (.invokestatic 78, 3) := by decide +kernel
theorem dX7_sight_23 : decode cX7_sight 23 = .ok (.ifCond .eq 13, 3) := by decide +kernel
theorem dX7_sight_26 : decode cX7_sight 26 = .ok (.aload_n 0, 1) := by decide +kernel
theorem dX7_sight_27 : decode cX7_sight 27 = .ok (.getfield 173, 3) := by decide +kernel
theorem dX7_sight_30 : decode cX7_sight 30 = .ok (.sipush 200, 3) := by decide +kernel
theorem dX7_sight_33 : decode cX7_sight 33 = .ok (.if_icmp .ne 5, 3) := by decide +kernel
theorem dX7_sight_36 : decode cX7_sight 36 = .ok (.iconst (-1), 1) := by decide +kernel
theorem dX7_sight_37 : decode cX7_sight 37 = .ok (.ireturn, 1) := by decide +kernel
theorem dX7_sight_38 : decode cX7_sight 38 = .ok (.aload_n 0, 1) := by decide +kernel
theorem dX7_sight_39 : decode cX7_sight 39 = .ok (.getfield 50, 3) := by decide +kernel
theorem dX7_sight_42 : decode cX7_sight 42 = .ok (.aload_n 0, 1) := by decide +kernel
theorem dX7_sight_43 : decode cX7_sight 43 = .ok (.getfield 173, 3) := by decide +kernel
theorem dX7_sight_46 : decode cX7_sight 46 = .ok (.iload_n 1, 1) := by decide +kernel
theorem dX7_sight_47 : decode cX7_sight 47 = .ok (.iastore, 1) := by decide +kernel
theorem dX7_sight_48 : decode cX7_sight 48 = .ok (.aload_n 0, 1) := by decide +kernel
theorem dX7_sight_49 : decode cX7_sight 49 = .ok (.getfield 53, 3) := by decide +kernel
theorem dX7_sight_52 : decode cX7_sight 52 = .ok (.aload_n 0, 1) := by decide +kernel
theorem dX7_sight_53 : decode cX7_sight 53 = .ok (.getfield 173, 3) := by decide +kernel
theorem dX7_sight_56 : decode cX7_sight 56 = .ok (.iload_n 2, 1) := by decide +kernel
theorem dX7_sight_57 : decode cX7_sight 57 = .ok (.iastore, 1) := by decide +kernel
theorem dX7_sight_58 : decode cX7_sight 58 = .ok (.aload_n 0, 1) := by decide +kernel
theorem dX7_sight_59 : decode cX7_sight 59 = .ok (.getfield 56, 3) := by decide +kernel
theorem dX7_sight_62 : decode cX7_sight 62 = .ok (.aload_n 0, 1) := by decide +kernel
theorem dX7_sight_63 : decode cX7_sight 63 = .ok (.getfield 173, 3) := by decide +kernel
theorem dX7_sight_66 : decode cX7_sight 66 = .ok (.iload_n 3, 1) := by decide +kernel
theorem dX7_sight_67 : decode cX7_sight 67 = .ok (.bastore, 1) := by decide +kernel
theorem dX7_sight_68 : decode cX7_sight 68 = .ok (.aload_n 0, 1) := by decide +kernel
theorem dX7_sight_69 : decode cX7_sight 69 = .ok (.dup, 1) := by decide +kernel
theorem dX7_sight_70 : decode cX7_sight 70 = .ok (.getfield 173, 3) := by decide +kernel
theorem dX7_sight_73 : decode cX7_sight 73 = .ok (.iconst 1, 1) := by decide +kernel
theorem dX7_sight_74 : decode cX7_sight 74 = .ok (.iadd, 1) := by decide +kernel
theorem dX7_sight_75 : decode cX7_sight 75 = .ok (.putfield 173, 3) := by decide +kernel
theorem dX7_sight_78 : decode cX7_sight 78 = .ok (.aload_n 0, 1) := by decide +kernel
theorem dX7_sight_79 : decode cX7_sight 79 = .ok (.getfield 173, 3) := by decide +kernel
theorem dX7_sight_82 : decode cX7_sight 82 = .ok (.ireturn, 1) := by decide +kernel
theorem dX7_spans_0 : decode cX7_spans 0 = .ok (.aload_n 0, 1) := by decide +kernel
theorem dX7_spans_1 : decode cX7_spans 1 = .ok (.iconst 1, 1) := by decide +kernel
theorem dX7_spans_2 : decode cX7_spans 2 = .ok (.putfield 176, 3) := by decide +kernel
theorem dX7_spans_5 : decode cX7_spans 5 = .ok (.aload_n 0, 1) := by decide +kernel
theorem dX7_spans_6 : decode cX7_spans 6 = .ok (.sipush 1001, 3) := by decide +kernel
theorem dX7_spans_9 : decode cX7_spans 9 = .ok (.putfield 179, 3) := by decide +kernel
theorem dX7_spans_12 : decode cX7_spans 12 = .ok (.iconst 0, 1) := by decide +kernel
theorem dX7_spans_13 : decode cX7_spans 13 = .ok (.istore_n 2, 1) := by decide +kernel
theorem dX7_spans_14 : decode cX7_spans 14 = .ok (.iload_n 2, 1) := by decide +kernel
theorem dX7_spans_15 : decode cX7_spans 15 = .ok (.aload_n 0, 1) := by decide +kernel
theorem dX7_spans_16 : decode cX7_spans 16 = .ok (.getfield 173, 3) := by decide +kernel
theorem dX7_spans_19 : decode cX7_spans 19 = .ok (.if_icmp .ge 90, 3) := by decide +kernel
theorem dX7_spans_22 : decode cX7_spans 22 = .ok (.aload_n 0, 1) := by decide +kernel
theorem dX7_spans_23 : decode cX7_spans 23 = .ok (.getfield 53, 3) := by decide +kernel
theorem dX7_spans_26 : decode cX7_spans 26 = .ok (.iload_n 2, 1) := by decide +kernel
theorem dX7_spans_27 : decode cX7_spans 27 = .ok (.iaload, 1) := by decide +kernel
theorem dX7_spans_28 : decode cX7_spans 28 = .ok (.iload_n 1, 1) := by decide +kernel
theorem dX7_spans_29 : decode cX7_spans 29 = .ok (.if_icmp .eq 6, 3) := by decide +kernel
theorem dX7_spans_32 : decode cX7_spans 32 = .ok (.goto 71, 3) := by decide +kernel
theorem dX7_spans_35 : decode cX7_spans 35 = .ok (.aload_n 0, 1) := by decide +kernel
theorem dX7_spans_36 : decode cX7_spans 36 = .ok (.getfield 56, 3) := by decide +kernel
theorem dX7_spans_39 : decode cX7_spans 39 = .ok (.iload_n 2, 1) := by decide +kernel
theorem dX7_spans_40 : decode cX7_spans 40 = .ok (.baload, 1) := by decide +kernel
theorem dX7_spans_41 : decode cX7_spans 41 = .ok (.ifCond .eq 26, 3) := by decide +kernel
theorem dX7_spans_44 : decode cX7_spans 44 = .ok (.aload_n 0, 1) := by decide +kernel
theorem dX7_spans_45 : decode cX7_spans 45 = .ok (.getfield 50, 3) := by decide +kernel
theorem dX7_spans_48 : decode cX7_spans 48 = .ok (.iload_n 2, 1) := by decide +kernel
theorem dX7_spans_49 : decode cX7_spans 49 = .ok (.iaload, 1) := by decide +kernel
theorem dX7_spans_50 : decode cX7_spans 50 = .ok (.aload_n 0, 1) := by decide +kernel
theorem dX7_spans_51 : decode cX7_spans 51 = .ok (.getfield 179, 3) := by decide +kernel
theorem dX7_spans_54 : decode cX7_spans 54 = .ok (.if_icmp .ge 13, 3) := by decide +kernel
theorem dX7_spans_57 : decode cX7_spans 57 = .ok (.aload_n 0, 1) := by decide +kernel
theorem dX7_spans_58 : decode cX7_spans 58 = .ok (.aload_n 0, 1) := by decide +kernel
theorem dX7_spans_59 : decode cX7_spans 59 = .ok (.getfield 50, 3) := by decide +kernel
theorem dX7_spans_62 : decode cX7_spans 62 = .ok (.iload_n 2, 1) := by decide +kernel
theorem dX7_spans_63 : decode cX7_spans 63 = .ok (.iaload, 1) := by decide +kernel
theorem dX7_spans_64 : decode cX7_spans 64 = .ok (.putfield 179, 3) := by decide +kernel
theorem dX7_spans_67 : decode cX7_spans 67 = .ok (.aload_n 0, 1) := by decide +kernel
theorem dX7_spans_68 : decode cX7_spans 68 = .ok (.getfield 56, 3) := by decide +kernel
theorem dX7_spans_71 : decode cX7_spans 71 = .ok (.iload_n 2, 1) := by decide +kernel
theorem dX7_spans_72 : decode cX7_spans 72 = .ok (.baload, 1) := by decide +kernel
theorem dX7_spans_73 : decode cX7_spans 73 = .ok (.ifCond .ne 30, 3) := by decide +kernel
theorem dX7_spans_76 : decode cX7_spans 76 = .ok (.aload_n 0, 1) := by decide +kernel
theorem dX7_spans_77 : decode cX7_spans 77 = .ok (.getfield 50, 3) := by decide +kernel
theorem dX7_spans_80 : decode cX7_spans 80 = .ok (.iload_n 2, 1) := by decide +kernel
theorem dX7_spans_81 : decode cX7_spans 81 = .ok (.iaload, 1) := by decide +kernel
theorem dX7_spans_82 : decode cX7_spans 82 = .ok (.iconst 1, 1) := by decide +kernel
theorem dX7_spans_83 : decode cX7_spans 83 = .ok (.iadd, 1) := by decide +kernel
theorem dX7_spans_84 : decode cX7_spans 84 = .ok (.aload_n 0, 1) := by decide +kernel
theorem dX7_spans_85 : decode cX7_spans 85 = .ok (.getfield 176, 3) := by decide +kernel
theorem dX7_spans_88 : decode cX7_spans 88 = .ok (.if_icmp .le 15, 3) := by decide +kernel
theorem dX7_spans_91 : decode cX7_spans 91 = .ok (.aload_n 0, 1) := by decide +kernel
theorem dX7_spans_92 : decode cX7_spans 92 = .ok (.aload_n 0, 1) := by decide +kernel
theorem dX7_spans_93 : decode cX7_spans 93 = .ok (.getfield 50, 3) := by decide +kernel
theorem dX7_spans_96 : decode cX7_spans 96 = .ok (.iload_n 2, 1) := by decide +kernel
theorem dX7_spans_97 : decode cX7_spans 97 = .ok (.iaload, 1) := by decide +kernel
theorem dX7_spans_98 : decode cX7_spans 98 = .ok (.iconst 1, 1) := by decide +kernel
theorem dX7_spans_99 : decode cX7_spans 99 = .ok (.iadd, 1) := by decide +kernel
theorem dX7_spans_100 : decode cX7_spans 100 = .ok (.putfield 176, 3) := by decide +kernel
theorem dX7_spans_103 : decode cX7_spans 103 = .ok (.iinc 2 1, 3) := by decide +kernel
theorem dX7_spans_106 : decode cX7_spans 106 = .ok (.goto (-92), 3) := by decide +kernel
theorem dX7_spans_109 : decode cX7_spans 109 = .ok (.aload_n 0, 1) := by decide +kernel
theorem dX7_spans_110 : decode cX7_spans 110 = .ok (.getfield 176, 3) := by decide +kernel
theorem dX7_spans_113 : decode cX7_spans 113 = .ok (.aload_n 0, 1) := by decide +kernel
theorem dX7_spans_114 : decode cX7_spans 114 = .ok (.getfield 179, 3) := by decide +kernel
theorem dX7_spans_117 : decode cX7_spans 117 = .ok (.if_icmp .gt 7, 3) := by decide +kernel
theorem dX7_spans_120 : decode cX7_spans 120 = .ok (.iconst 1, 1) := by decide +kernel
theorem dX7_spans_121 : decode cX7_spans 121 = .ok (.goto 4, 3) := by decide +kernel
theorem dX7_spans_124 : decode cX7_spans 124 = .ok (.iconst 0, 1) := by decide +kernel
theorem dX7_spans_125 : decode cX7_spans 125 = .ok (.ireturn, 1) := by decide +kernel
set_option maxRecDepth 20000 in
theorem ggX7_since_X7_within : GoodIn wsX7_since wsX7_within := goodIn_r _ [7] (by decide +kernel) (by decide +kernel)
set_option maxRecDepth 20000 in
theorem gX7_since_X7_within : GoodIn wsX7_since (va_wsS RX7 78 yX7_within wsX7_within) := goodIn_app (goodIn_of _ (by decide +kernel)) ggX7_since_X7_within
set_option maxRecDepth 20000 in
theorem ggX7_since_X7_spans : GoodIn wsX7_since wsX7_spans := goodIn_r _ [11, 2, 3, 12, 13, 14, 15, 16, 17, 18, 19, 20, 21, 22, 23, 24, 25, 26, 27, 28, 29, 30, 31, 32, 33, 34, 35, 36, 37, 38, 39, 40, 41, 42, 43, 44, 45, 46, 47, 48, 49] (by decide +kernel) (by decide +kernel)
set_option maxRecDepth 20000 in
theorem gX7_since_X7_spans : GoodIn wsX7_since (wsV RX7 182 RX7 yX7_spans wsX7_spans) := goodIn_app (goodIn_of _ (by decide +kernel)) ggX7_since_X7_spans
theorem dX7_since_0 : decode cX7_since 0 = .ok (.aload_n 0, 1) := by decide +kernel
theorem dX7_since_1 : decode cX7_since 1 = .ok (.iconst 0, 1) := by decide +kernel
theorem dX7_since_2 : decode cX7_since 2 = .ok (.putfield 71, 3) := by decide +kernel
theorem dX7_since_5 : decode cX7_since 5 = .ok (.iload_n 1, 1) := by decide +kernel
theorem dX7_since_6 : decode cX7_since 6 = .ok (.iconst 0, 1) := by decide +kernel
theorem dX7_since_7 : decode cX7_since 7 = .ok (.bipush 23, 2) := by decide +kernel
theorem dX7_since_9 : decode cX7_since 9 = .ok (.invokestatic 78, 3) := by decide +kernel
theorem dX7_since_12 : decode cX7_since 12 = .ok (.ifCond .eq 20, 3) := by decide +kernel
theorem dX7_since_15 : decode cX7_since 15 = .ok (.iload_n 2, 1) := by decide +kernel
theorem dX7_since_16 : decode cX7_since 16 = .ok (.iconst 0, 1) := by decide +kernel
theorem dX7_since_17 : decode cX7_since 17 = .ok (.iconst 1, 1) := by decide +kernel
theorem dX7_since_18 : decode cX7_since 18 = .ok (.invokestatic 78, 3) := by decide +kernel
theorem dX7_since_21 : decode cX7_since 21 = .ok (.ifCond .eq 11, 3) := by decide +kernel
theorem dX7_since_24 : decode cX7_since 24 = .ok (.aload_n 0, 1) := by decide +kernel
theorem dX7_since_25 : decode cX7_since 25 = .ok (.iload_n 1, 1) := by decide +kernel
theorem dX7_since_26 : decode cX7_since 26 = .ok (.invokevirtual 182, 3) := by decide +kernel
theorem dX7_since_29 : decode cX7_since 29 = .ok (.ifCond .ne 5, 3) := by decide +kernel
theorem dX7_since_32 : decode cX7_since 32 = .ok (.iconst (-1), 1) := by decide +kernel
theorem dX7_since_33 : decode cX7_since 33 = .ok (.ireturn, 1) := by decide +kernel
theorem dX7_since_34 : decode cX7_since 34 = .ok (.iload_n 2, 1) := by decide +kernel
theorem dX7_since_35 : decode cX7_since 35 = .ok (.ifCond .ne 10, 3) := by decide +kernel
theorem dX7_since_38 : decode cX7_since 38 = .ok (.aload_n 0, 1) := by decide +kernel
theorem dX7_since_39 : decode cX7_since 39 = .ok (.getfield 176, 3) := by decide +kernel
theorem dX7_since_42 : decode cX7_since 42 = .ok (.goto 7, 3) := by decide +kernel
theorem dX7_since_45 : decode cX7_since 45 = .ok (.aload_n 0, 1) := by decide +kernel
theorem dX7_since_46 : decode cX7_since 46 = .ok (.getfield 179, 3) := by decide +kernel
theorem dX7_since_49 : decode cX7_since 49 = .ok (.ireturn, 1) := by decide +kernel
set_option maxRecDepth 20000 in
theorem ggX7_worn_X7_within : GoodIn wsX7_worn wsX7_within := goodIn_r _ [7] (by decide +kernel) (by decide +kernel)
set_option maxRecDepth 20000 in
theorem gX7_worn_X7_within : GoodIn wsX7_worn (va_wsS RX7 78 yX7_within wsX7_within) := goodIn_app (goodIn_of _ (by decide +kernel)) ggX7_worn_X7_within
set_option maxRecDepth 20000 in
theorem ggX7_worn_X7_spans : GoodIn wsX7_worn wsX7_spans := goodIn_r _ [11, 3, 2, 12, 13, 14, 15, 16, 17, 18, 19, 20, 21, 22, 23, 24, 25, 26, 27, 28, 29, 30, 31, 32, 33, 34, 35, 36, 37, 38, 39, 40, 41, 42, 43, 44, 45, 46, 47, 48, 49] (by decide +kernel) (by decide +kernel)
set_option maxRecDepth 20000 in
theorem gX7_worn_X7_spans : GoodIn wsX7_worn (wsV RX7 182 RX7 yX7_spans wsX7_spans) := goodIn_app (goodIn_of _ (by decide +kernel)) ggX7_worn_X7_spans
theorem dX7_worn_0 : decode cX7_worn 0 = .ok (.aload_n 0, 1) := by decide +kernel
theorem dX7_worn_1 : decode cX7_worn 1 = .ok (.iconst 0, 1) := by decide +kernel
theorem dX7_worn_2 : decode cX7_worn 2 = .ok (.putfield 71, 3) := by decide +kernel
theorem dX7_worn_5 : decode cX7_worn 5 = .ok (.iload_n 1, 1) := by decide +kernel
theorem dX7_worn_6 : decode cX7_worn 6 = .ok (.iconst 1, 1) := by decide +kernel
theorem dX7_worn_7 : decode cX7_worn 7 = .ok (.sipush 1000, 3) := by decide +kernel
theorem dX7_worn_10 : decode cX7_worn 10 = .ok (.invokestatic 78, 3) := by decide +kernel
theorem dX7_worn_13 : decode cX7_worn 13 = .ok (.ifCond .eq 12, 3) := by decide +kernel
theorem dX7_worn_16 : decode cX7_worn 16 = .ok (.iload_n 2, 1) := by decide +kernel
theorem dX7_worn_17 : decode cX7_worn 17 = .ok (.iconst 0, 1) := by decide +kernel
theorem dX7_worn_18 : decode cX7_worn 18 = .ok (.iconst 1, 1) := by decide +kernel
theorem dX7_worn_19 : decode cX7_worn 19 = .ok (.invokestatic 78, 3) := by decide +kernel
theorem dX7_worn_22 : decode cX7_worn 22 = .ok (.ifCond .ne 5, 3) := by decide +kernel
theorem dX7_worn_25 : decode cX7_worn 25 = .ok (.iconst (-1), 1) := by decide +kernel
theorem dX7_worn_26 : decode cX7_worn 26 = .ok (.ireturn, 1) := by decide +kernel
theorem dX7_worn_27 : decode cX7_worn 27 = .ok (.iconst 0, 1) := by decide +kernel
theorem dX7_worn_28 : decode cX7_worn 28 = .ok (.istore_n 3, 1) := by decide +kernel
theorem dX7_worn_29 : decode cX7_worn 29 = .ok (.iconst 0, 1) := by decide +kernel
theorem dX7_worn_30 : decode cX7_worn 30 = .ok (.istore 4, 2) := by decide +kernel
theorem dX7_worn_32 : decode cX7_worn 32 = .ok (.iload 4, 2) := by decide +kernel
theorem dX7_worn_34 : decode cX7_worn 34 = .ok (.bipush 24, 2) := by decide +kernel
theorem dX7_worn_36 : decode cX7_worn 36 = .ok (.if_icmp .ge 44, 3) := by decide +kernel
theorem dX7_worn_39 : decode cX7_worn 39 = .ok (.aload_n 0, 1) := by decide +kernel
theorem dX7_worn_40 : decode cX7_worn 40 = .ok (.iload 4, 2) := by decide +kernel
theorem dX7_worn_42 : decode cX7_worn 42 = .ok (.invokevirtual 182, 3) := by decide +kernel
theorem dX7_worn_45 : decode cX7_worn 45 = .ok (.ifCond .eq 29, 3) := by decide +kernel
theorem dX7_worn_48 : decode cX7_worn 48 = .ok (.iload_n 2, 1) := by decide +kernel
theorem dX7_worn_49 : decode cX7_worn 49 = .ok (.ifCond .ne 10, 3) := by decide +kernel
theorem dX7_worn_52 : decode cX7_worn 52 = .ok (.aload_n 0, 1) := by decide +kernel
theorem dX7_worn_53 : decode cX7_worn 53 = .ok (.getfield 179, 3) := by decide +kernel
theorem dX7_worn_56 : decode cX7_worn 56 = .ok (.goto 7, 3) := by decide +kernel
theorem dX7_worn_59 : decode cX7_worn 59 = .ok (.aload_n 0, 1) := by decide +kernel
theorem dX7_worn_60 : decode cX7_worn 60 = .ok (.getfield 176, 3) := by decide +kernel
theorem dX7_worn_63 : decode cX7_worn 63 = .ok (.iload_n 1, 1) := by decide +kernel
theorem dX7_worn_64 : decode cX7_worn 64 = .ok (.if_icmp .gt 10, 3) := by decide +kernel
theorem dX7_worn_67 : decode cX7_worn 67 = .ok (.iload_n 3, 1) := by decide +kernel
theorem dX7_worn_68 : decode cX7_worn 68 = .ok (.iconst 1, 1) := by decide +kernel
theorem dX7_worn_69 : decode cX7_worn 69 = .ok (.iload 4, 2) := by decide +kernel
theorem dX7_worn_71 : decode cX7_worn 71 = .ok (.ishl, 1) := by decide +kernel
theorem dX7_worn_72 : decode cX7_worn 72 = .ok (.ior, 1) := by decide +kernel
theorem dX7_worn_73 : decode cX7_worn 73 = .ok (.istore_n 3, 1) := by decide +kernel
theorem dX7_worn_74 : decode cX7_worn 74 = .ok (.iinc 4 1, 3) := by decide +kernel
theorem dX7_worn_77 : decode cX7_worn 77 = .ok (.goto (-45), 3) := by decide +kernel
theorem dX7_worn_80 : decode cX7_worn 80 = .ok (.iload_n 3, 1) := by decide +kernel
theorem dX7_worn_81 : decode cX7_worn 81 = .ok (.ireturn, 1) := by decide +kernel
set_option maxRecDepth 20000 in
theorem ggX7_line_X7_within : GoodIn wsX7_line wsX7_within := goodIn_r _ [12] (by decide +kernel) (by decide +kernel)
set_option maxRecDepth 20000 in
theorem gX7_line_X7_within : GoodIn wsX7_line (va_wsS RX7 78 yX7_within wsX7_within) := goodIn_app (goodIn_of _ (by decide +kernel)) ggX7_line_X7_within
theorem dX7_line_0 : decode cX7_line 0 = .ok (.aload_n 0, 1) := by decide +kernel
theorem dX7_line_1 : decode cX7_line 1 = .ok (.iconst 0, 1) := by decide +kernel
theorem dX7_line_2 : decode cX7_line 2 = .ok (.putfield 71, 3) := by decide +kernel
theorem dX7_line_5 : decode cX7_line 5 = .ok (.iload_n 1, 1) := by decide +kernel
theorem dX7_line_6 : decode cX7_line 6 = .ok (.iconst 1, 1) := by decide +kernel
theorem dX7_line_7 : decode cX7_line 7 = .ok (.sipush 1000, 3) := by decide +kernel
theorem dX7_line_10 : decode cX7_line 10 = .ok (.invokestatic 78, 3) := by decide +kernel
theorem dX7_line_13 : decode cX7_line 13 = .ok (.ifCond .eq 33, 3) := by decide +kernel
theorem dX7_line_16 : decode cX7_line 16 = .ok (.iload_n 2, 1) := by decide +kernel
theorem dX7_line_17 : decode cX7_line 17 = .ok (.iconst 0, 1) := by decide +kernel
theorem dX7_line_18 : decode cX7_line 18 = .ok (.ldc 185, 2) := by decide +kernel
theorem dX7_line_20 : decode cX7_line 20 = .ok (.invokestatic 78, 3) := by decide +kernel
theorem dX7_line_23 : decode cX7_line 23 = .ok (.ifCond .eq 23, 3) := by decide +kernel
theorem dX7_line_26 : decode cX7_line 26 = .ok (.iload_n 3, 1) := by decide +kernel
theorem dX7_line_27 : decode cX7_line 27 = .ok (.iconst 0, 1) := by decide +kernel
theorem dX7_line_28 : decode cX7_line 28 = .ok (.bipush 99, 2) := by decide +kernel
theorem dX7_line_30 : decode cX7_line 30 = .ok (.invokestatic 78, 3) := by decide +kernel
theorem dX7_line_33 : decode cX7_line 33 = .ok (.ifCond .eq 13, 3) := by decide +kernel
theorem dX7_line_36 : decode cX7_line 36 = .ok (.aload_n 0, 1) := by decide +kernel
theorem dX7_line_37 : decode cX7_line 37 = .ok (.getfield 186, 3) := by decide +kernel
theorem dX7_line_40 : decode cX7_line 40 = .ok (.sipush 200, 3) := by decide +kernel
theorem dX7_line_43 : decode cX7_line 43 = .ok (.if_icmp .ne 5, 3) := by decide +kernel
theorem dX7_line_46 : decode cX7_line 46 = .ok (.iconst (-1), 1) := by decide +kernel
theorem dX7_line_47 : decode cX7_line 47 = .ok (.ireturn, 1) := by decide +kernel
theorem dX7_line_48 : decode cX7_line 48 = .ok (.aload_n 0, 1) := by decide +kernel
theorem dX7_line_49 : decode cX7_line 49 = .ok (.getfield 59, 3) := by decide +kernel
theorem dX7_line_52 : decode cX7_line 52 = .ok (.aload_n 0, 1) := by decide +kernel
theorem dX7_line_53 : decode cX7_line 53 = .ok (.getfield 186, 3) := by decide +kernel
theorem dX7_line_56 : decode cX7_line 56 = .ok (.iload_n 1, 1) := by decide +kernel
theorem dX7_line_57 : decode cX7_line 57 = .ok (.iastore, 1) := by decide +kernel
theorem dX7_line_58 : decode cX7_line 58 = .ok (.aload_n 0, 1) := by decide +kernel
theorem dX7_line_59 : decode cX7_line 59 = .ok (.getfield 62, 3) := by decide +kernel
theorem dX7_line_62 : decode cX7_line 62 = .ok (.aload_n 0, 1) := by decide +kernel
theorem dX7_line_63 : decode cX7_line 63 = .ok (.getfield 186, 3) := by decide +kernel
theorem dX7_line_66 : decode cX7_line 66 = .ok (.iload_n 2, 1) := by decide +kernel
theorem dX7_line_67 : decode cX7_line 67 = .ok (.iastore, 1) := by decide +kernel
theorem dX7_line_68 : decode cX7_line 68 = .ok (.aload_n 0, 1) := by decide +kernel
theorem dX7_line_69 : decode cX7_line 69 = .ok (.getfield 65, 3) := by decide +kernel
theorem dX7_line_72 : decode cX7_line 72 = .ok (.aload_n 0, 1) := by decide +kernel
theorem dX7_line_73 : decode cX7_line 73 = .ok (.getfield 186, 3) := by decide +kernel
theorem dX7_line_76 : decode cX7_line 76 = .ok (.iload_n 3, 1) := by decide +kernel
theorem dX7_line_77 : decode cX7_line 77 = .ok (.iastore, 1) := by decide +kernel
theorem dX7_line_78 : decode cX7_line 78 = .ok (.aload_n 0, 1) := by decide +kernel
theorem dX7_line_79 : decode cX7_line 79 = .ok (.getfield 68, 3) := by decide +kernel
theorem dX7_line_82 : decode cX7_line 82 = .ok (.aload_n 0, 1) := by decide +kernel
theorem dX7_line_83 : decode cX7_line 83 = .ok (.getfield 186, 3) := by decide +kernel
theorem dX7_line_86 : decode cX7_line 86 = .ok (.aload_n 0, 1) := by decide +kernel
theorem dX7_line_87 : decode cX7_line 87 = .ok (.getfield 189, 3) := by decide +kernel
theorem dX7_line_90 : decode cX7_line 90 = .ok (.iastore, 1) := by decide +kernel
theorem dX7_line_91 : decode cX7_line 91 = .ok (.aload_n 0, 1) := by decide +kernel
theorem dX7_line_92 : decode cX7_line 92 = .ok (.dup, 1) := by decide +kernel
theorem dX7_line_93 : decode cX7_line 93 = .ok (.getfield 186, 3) := by decide +kernel
theorem dX7_line_96 : decode cX7_line 96 = .ok (.iconst 1, 1) := by decide +kernel
theorem dX7_line_97 : decode cX7_line 97 = .ok (.iadd, 1) := by decide +kernel
theorem dX7_line_98 : decode cX7_line 98 = .ok (.putfield 186, 3) := by decide +kernel
theorem dX7_line_101 : decode cX7_line 101 = .ok (.aload_n 0, 1) := by decide +kernel
theorem dX7_line_102 : decode cX7_line 102 = .ok (.getfield 186, 3) := by decide +kernel
theorem dX7_line_105 : decode cX7_line 105 = .ok (.ireturn, 1) := by decide +kernel
set_option maxRecDepth 20000 in
theorem ggX7_day_X7_within : GoodIn wsX7_day wsX7_within := goodIn_r _ [6] (by decide +kernel) (by decide +kernel)
set_option maxRecDepth 20000 in
theorem gX7_day_X7_within : GoodIn wsX7_day (va_wsS RX7 78 yX7_within wsX7_within) := goodIn_app (goodIn_of _ (by decide +kernel)) ggX7_day_X7_within
theorem dX7_day_0 : decode cX7_day 0 = .ok (.aload_n 0, 1) := by decide +kernel
theorem dX7_day_1 : decode cX7_day 1 = .ok (.iconst 0, 1) := by decide +kernel
theorem dX7_day_2 : decode cX7_day 2 = .ok (.putfield 71, 3) := by decide +kernel
theorem dX7_day_5 : decode cX7_day 5 = .ok (.iload_n 1, 1) := by decide +kernel
theorem dX7_day_6 : decode cX7_day 6 = .ok (.iconst 0, 1) := by decide +kernel
theorem dX7_day_7 : decode cX7_day 7 = .ok (.sipush 1000, 3) := by decide +kernel
theorem dX7_day_10 : decode cX7_day 10 = .ok (.invokestatic 78, 3) := by decide +kernel
theorem dX7_day_13 : decode cX7_day 13 = .ok (.ifCond .ne 5, 3) := by decide +kernel
theorem dX7_day_16 : decode cX7_day 16 = .ok (.iconst (-1), 1) := by decide +kernel
theorem dX7_day_17 : decode cX7_day 17 = .ok (.ireturn, 1) := by decide +kernel
theorem dX7_day_18 : decode cX7_day 18 = .ok (.aload_n 0, 1) := by decide +kernel
theorem dX7_day_19 : decode cX7_day 19 = .ok (.dup, 1) := by decide +kernel
theorem dX7_day_20 : decode cX7_day 20 = .ok (.getfield 189, 3) := by decide +kernel
theorem dX7_day_23 : decode cX7_day 23 = .ok (.iload_n 1, 1) := by decide +kernel
theorem dX7_day_24 : decode cX7_day 24 = .ok (.iadd, 1) := by decide +kernel
theorem dX7_day_25 : decode cX7_day 25 = .ok (.putfield 189, 3) := by decide +kernel
theorem dX7_day_28 : decode cX7_day 28 = .ok (.aload_n 0, 1) := by decide +kernel
theorem dX7_day_29 : decode cX7_day 29 = .ok (.getfield 189, 3) := by decide +kernel
theorem dX7_day_32 : decode cX7_day 32 = .ok (.ireturn, 1) := by decide +kernel
set_option maxRecDepth 20000 in
theorem ggX7_areDays_X7_within : GoodIn wsX7_areDays wsX7_within := goodIn_r _ [6] (by decide +kernel) (by decide +kernel)
set_option maxRecDepth 20000 in
theorem gX7_areDays_X7_within : GoodIn wsX7_areDays (va_wsS RX7 78 yX7_within wsX7_within) := goodIn_app (goodIn_of _ (by decide +kernel)) ggX7_areDays_X7_within
theorem dX7_areDays_0 : decode cX7_areDays 0 = .ok (.iload_n 1, 1) := by decide +kernel
theorem dX7_areDays_1 : decode cX7_areDays 1 = .ok (.iconst 0, 1) := by decide +kernel
theorem dX7_areDays_2 : decode cX7_areDays 2 = .ok (.ldc 185, 2) := by decide +kernel
theorem dX7_areDays_4 : decode cX7_areDays 4 = .ok (.invokestatic 78, 3) := by decide +kernel
theorem dX7_areDays_7 : decode cX7_areDays 7 = .ok (.ifCond .eq 25, 3) := by decide +kernel
theorem dX7_areDays_10 : decode cX7_areDays 10 = .ok (.iload_n 2, 1) := by decide +kernel
theorem dX7_areDays_11 : decode cX7_areDays 11 = .ok (.iconst 0, 1) := by decide +kernel
theorem dX7_areDays_12 : decode cX7_areDays 12 = .ok (.ldc 185, 2) := by decide +kernel
theorem dX7_areDays_14 : decode cX7_areDays 14 = .ok (.invokestatic 78, 3) := by decide +kernel
theorem dX7_areDays_17 : decode cX7_areDays 17 = .ok (.ifCond .eq 15, 3) := by decide +kernel
theorem dX7_areDays_20 : decode cX7_areDays 20 = .ok (.iload_n 2, 1) := by decide +kernel
theorem dX7_areDays_21 : decode cX7_areDays 21 = .ok (.aload_n 0, 1) := by decide +kernel
theorem dX7_areDays_22 : decode cX7_areDays 22 = .ok (.getfield 189, 3) := by decide +kernel
theorem dX7_areDays_25 : decode cX7_areDays 25 = .ok (.if_icmp .gt 7, 3) := by decide +kernel
theorem dX7_areDays_28 : decode cX7_areDays 28 = .ok (.iconst 1, 1) := by decide +kernel
theorem dX7_areDays_29 : decode cX7_areDays 29 = .ok (.goto 4, 3) := by decide +kernel
theorem dX7_areDays_32 : decode cX7_areDays 32 = .ok (.iconst 0, 1) := by decide +kernel
theorem dX7_areDays_33 : decode cX7_areDays 33 = .ok (.ireturn, 1) := by decide +kernel
theorem dX7_whereOf_0 : decode cX7_whereOf 0 = .ok (.iconst (-1), 1) := by decide +kernel
theorem dX7_whereOf_1 : decode cX7_whereOf 1 = .ok (.istore 4, 2) := by decide +kernel
theorem dX7_whereOf_3 : decode cX7_whereOf 3 = .ok (.iconst 0, 1) := by decide +kernel
theorem dX7_whereOf_4 : decode cX7_whereOf 4 = .ok (.istore 5, 2) := by decide +kernel
theorem dX7_whereOf_6 : decode cX7_whereOf 6 = .ok (.iload 5, 2) := by decide +kernel
theorem dX7_whereOf_8 : decode cX7_whereOf 8 = .ok (.aload_n 0, 1) := by decide +kernel
theorem dX7_whereOf_9 : decode cX7_whereOf 9 = .ok (.getfield 186, 3) := by decide +kernel
theorem dX7_whereOf_12 : decode cX7_whereOf 12 = .ok (.if_icmp .ge 72, 3) := by decide +kernel
theorem dX7_whereOf_15 : decode cX7_whereOf 15 = .ok (.aload_n 0, 1) := by decide +kernel
theorem dX7_whereOf_16 : decode cX7_whereOf 16 = .ok (.getfield 59, 3) := by decide +kernel
theorem dX7_whereOf_19 : decode cX7_whereOf 19 = .ok (.iload 5, 2) := by decide +kernel
theorem dX7_whereOf_21 : decode cX7_whereOf 21 = .ok (.iaload, 1) := by decide +kernel
theorem dX7_whereOf_22 : decode cX7_whereOf 22 = .ok (.iload_n 1, 1) := by decide +kernel
theorem dX7_whereOf_23 : decode cX7_whereOf 23 = .ok (.if_icmp .ne 55, 3) := by decide +kernel
theorem dX7_whereOf_26 : decode cX7_whereOf 26 = .ok (.aload_n 0, 1) := by decide +kernel
theorem dX7_whereOf_27 : decode cX7_whereOf 27 = .ok (.getfield 68, 3) := by decide +kernel
theorem dX7_whereOf_30 : decode cX7_whereOf 30 = .ok (.iload 5, 2) := by decide +kernel
theorem dX7_whereOf_32 : decode cX7_whereOf 32 = .ok (.iaload, 1) := by decide +kernel
theorem dX7_whereOf_33 : decode cX7_whereOf 33 = .ok (.iload_n 3, 1) := by decide +kernel
theorem dX7_whereOf_34 : decode cX7_whereOf 34 = .ok (.if_icmp .gt 44, 3) := by decide +kernel
theorem dX7_whereOf_37 : decode cX7_whereOf 37 = .ok (.aload_n 0, 1) := by decide +kernel
theorem dX7_whereOf_38 : decode cX7_whereOf 38 = .ok (.getfield 62, 3) := by decide +kernel
theorem dX7_whereOf_41 : decode cX7_whereOf 41 = .ok (.iload 5, 2) := by decide +kernel
theorem dX7_whereOf_43 : decode cX7_whereOf 43 = .ok (.iaload, 1) := by decide +kernel
theorem dX7_whereOf_44 : decode cX7_whereOf 44 = .ok (.iload_n 2, 1) := by decide +kernel
theorem dX7_whereOf_45 : decode cX7_whereOf 45 = .ok (.if_icmp .le 6, 3) := by decide +kernel
theorem dX7_whereOf_48 : decode cX7_whereOf 48 = .ok (.goto 30, 3) := by decide +kernel
theorem dX7_whereOf_51 : decode cX7_whereOf 51 = .ok (.iload 4, 2) := by decide +kernel
theorem dX7_whereOf_53 : decode cX7_whereOf 53 = .ok (.iconst (-1), 1) := by decide +kernel
theorem dX7_whereOf_54 : decode cX7_whereOf 54 = .ok (.if_icmp .eq 20, 3) := by decide +kernel
theorem dX7_whereOf_57 : decode cX7_whereOf 57 = .ok (.aload_n 0, 1) := by decide +kernel
theorem dX7_whereOf_58 : decode cX7_whereOf 58 = .ok (.getfield 62, 3) := by decide +kernel
theorem dX7_whereOf_61 : decode cX7_whereOf 61 = .ok (.iload 5, 2) := by decide +kernel
theorem dX7_whereOf_63 : decode cX7_whereOf 63 = .ok (.iaload, 1) := by decide +kernel
theorem dX7_whereOf_64 : decode cX7_whereOf 64 = .ok (.aload_n 0, 1) := by decide +kernel
theorem dX7_whereOf_65 : decode cX7_whereOf 65 = .ok (.getfield 62, 3) := by decide +kernel
theorem dX7_whereOf_68 : decode cX7_whereOf 68 = .ok (.iload 4, 2) := by decide +kernel
theorem dX7_whereOf_70 : decode cX7_whereOf 70 = .ok (.iaload, 1) := by decide +kernel
theorem dX7_whereOf_71 : decode cX7_whereOf 71 = .ok (.if_icmp .lt 7, 3) := by decide +kernel
theorem dX7_whereOf_74 : decode cX7_whereOf 74 = .ok (.iload 5, 2) := by decide +kernel
theorem dX7_whereOf_76 : decode cX7_whereOf 76 = .ok (.istore 4, 2) := by decide +kernel
theorem dX7_whereOf_78 : decode cX7_whereOf 78 = .ok (.iinc 5 1, 3) := by decide +kernel
theorem dX7_whereOf_81 : decode cX7_whereOf 81 = .ok (.goto (-75), 3) := by decide +kernel
theorem dX7_whereOf_84 : decode cX7_whereOf 84 = .ok (.iload 4, 2) := by decide +kernel
theorem dX7_whereOf_86 : decode cX7_whereOf 86 = .ok (.iconst (-1), 1) := by decide +kernel
theorem dX7_whereOf_87 : decode cX7_whereOf 87 = .ok (.if_icmp .ne 7, 3) := by decide +kernel
theorem dX7_whereOf_90 : decode cX7_whereOf 90 = .ok (.iconst 0, 1) := by decide +kernel
theorem dX7_whereOf_91 : decode cX7_whereOf 91 = .ok (.goto 10, 3) := by decide +kernel
theorem dX7_whereOf_94 : decode cX7_whereOf 94 = .ok (.aload_n 0, 1) := by decide +kernel
theorem dX7_whereOf_95 : decode cX7_whereOf 95 = .ok (.getfield 65, 3) := by decide +kernel
theorem dX7_whereOf_98 : decode cX7_whereOf 98 = .ok (.iload 4, 2) := by decide +kernel
theorem dX7_whereOf_100 : decode cX7_whereOf 100 = .ok (.iaload, 1) := by decide +kernel
theorem dX7_whereOf_101 : decode cX7_whereOf 101 = .ok (.ireturn, 1) := by decide +kernel
set_option maxRecDepth 20000 in
theorem ggX7_where_X7_within : GoodIn wsX7_where wsX7_within := goodIn_r _ [5] (by decide +kernel) (by decide +kernel)
set_option maxRecDepth 20000 in
theorem gX7_where_X7_within : GoodIn wsX7_where (va_wsS RX7 78 yX7_within wsX7_within) := goodIn_app (goodIn_of _ (by decide +kernel)) ggX7_where_X7_within
set_option maxRecDepth 20000 in
theorem ggX7_where_X7_areDays : GoodIn wsX7_where wsX7_areDays := goodIn_r _ [9, 10, 11, 2, 3, 4, 5, 21, 22, 23, 24, 25, 26, 27, 28, 29, 30, 31, 32, 33, 34, 35, 36, 37, 38, 39, 40, 41, 42, 43, 44, 45, 46, 47, 48, 49, 50, 51, 52, 53, 54] (by decide +kernel) (by decide +kernel)
set_option maxRecDepth 20000 in
theorem gX7_where_X7_areDays : GoodIn wsX7_where (wsV RX7 192 RX7 yX7_areDays wsX7_areDays) := goodIn_app (goodIn_of _ (by decide +kernel)) ggX7_where_X7_areDays
set_option maxRecDepth 20000 in
theorem ggX7_where_X7_whereOf : GoodIn wsX7_where wsX7_whereOf := goodIn_r _ [15, 16, 17, 18, 19, 20, 21, 22, 23, 24, 25, 26, 27, 28, 29, 30, 31, 32, 33, 34, 35, 36, 37, 38, 39, 40, 41, 42, 43, 44, 45, 46, 47, 48, 49, 50, 51, 52, 53, 54] (by decide +kernel) (by decide +kernel)
set_option maxRecDepth 20000 in
theorem gX7_where_X7_whereOf : GoodIn wsX7_where (wsV RX7 195 RX7 yX7_whereOf wsX7_whereOf) := goodIn_app (goodIn_of _ (by decide +kernel)) ggX7_where_X7_whereOf
theorem dX7_where_0 : decode cX7_where 0 = .ok (.iload_n 1, 1) := by decide +kernel
theorem dX7_where_1 : decode cX7_where 1 = .ok (.iconst 1, 1) := by decide +kernel
theorem dX7_where_2 : decode cX7_where 2 = .ok (.sipush 1000, 3) := by decide +kernel
theorem dX7_where_5 : decode cX7_where 5 = .ok (.invokestatic 78, 3) := by decide +kernel
theorem dX7_where_8 : decode cX7_where 8 = .ok (.ifCond .eq 16, 3) := by decide +kernel
theorem dX7_where_11 : decode cX7_where 11 = .ok (.aload_n 0, 1) := by decide +kernel
theorem dX7_where_12 : decode cX7_where 12 = .ok (.iload_n 2, 1) := by decide +kernel
theorem dX7_where_13 : decode cX7_where 13 = .ok (.iload_n 3, 1) := by decide +kernel
theorem dX7_where_14 : decode cX7_where 14 = .ok (.invokevirtual 192, 3) := by decide +kernel
theorem dX7_where_17 : decode cX7_where 17 = .ok (.ifCond .eq 7, 3) := by decide +kernel
theorem dX7_where_20 : decode cX7_where 20 = .ok (.iconst 1, 1) := by decide +kernel
theorem dX7_where_21 : decode cX7_where 21 = .ok (.goto 4, 3) := by decide +kernel
theorem dX7_where_24 : decode cX7_where 24 = .ok (.iconst 0, 1) := by decide +kernel
theorem dX7_where_25 : decode cX7_where 25 = .ok (.istore 4, 2) := by decide +kernel
theorem dX7_where_27 : decode cX7_where 27 = .ok (.aload_n 0, 1) := by decide +kernel
theorem dX7_where_28 : decode cX7_where 28 = .ok (.iload 4, 2) := by decide +kernel
theorem dX7_where_30 : decode cX7_where 30 = .ok (.ifCond .eq 7, 3) := by decide +kernel
theorem dX7_where_33 : decode cX7_where 33 = .ok (.iconst 0, 1) := by decide +kernel
theorem dX7_where_34 : decode cX7_where 34 = .ok (.goto 4, 3) := by decide +kernel
theorem dX7_where_37 : decode cX7_where 37 = .ok (.iconst 1, 1) := by decide +kernel
theorem dX7_where_38 : decode cX7_where 38 = .ok (.putfield 71, 3) := by decide +kernel
theorem dX7_where_41 : decode cX7_where 41 = .ok (.iload 4, 2) := by decide +kernel
theorem dX7_where_43 : decode cX7_where 43 = .ok (.ifCond .eq 13, 3) := by decide +kernel
theorem dX7_where_46 : decode cX7_where 46 = .ok (.aload_n 0, 1) := by decide +kernel
theorem dX7_where_47 : decode cX7_where 47 = .ok (.iload_n 1, 1) := by decide +kernel
theorem dX7_where_48 : decode cX7_where 48 = .ok (.iload_n 2, 1) := by decide +kernel
theorem dX7_where_49 : decode cX7_where 49 = .ok (.iload_n 3, 1) := by decide +kernel
theorem dX7_where_50 : decode cX7_where 50 = .ok (.invokevirtual 195, 3) := by decide +kernel
theorem dX7_where_53 : decode cX7_where 53 = .ok (.goto 4, 3) := by decide +kernel
theorem dX7_where_56 : decode cX7_where 56 = .ok (.iconst 0, 1) := by decide +kernel
theorem dX7_where_57 : decode cX7_where 57 = .ok (.ireturn, 1) := by decide +kernel
set_option maxRecDepth 20000 in
theorem ggX7_there_X7_within : GoodIn wsX7_there wsX7_within := goodIn_r _ [7] (by decide +kernel) (by decide +kernel)
set_option maxRecDepth 20000 in
theorem gX7_there_X7_within : GoodIn wsX7_there (va_wsS RX7 78 yX7_within wsX7_within) := goodIn_app (goodIn_of _ (by decide +kernel)) ggX7_there_X7_within
set_option maxRecDepth 20000 in
theorem ggX7_there_X7_areDays : GoodIn wsX7_there wsX7_areDays := goodIn_r _ [11, 12, 13, 4, 5, 6, 7, 21, 22, 23, 24, 25, 26, 27, 28, 29, 30, 31, 32, 33, 34, 35, 36, 37, 38, 39, 40, 41, 42, 43, 44, 45, 46, 47, 48, 49, 50, 51, 52, 53, 54] (by decide +kernel) (by decide +kernel)
set_option maxRecDepth 20000 in
theorem gX7_there_X7_areDays : GoodIn wsX7_there (wsV RX7 192 RX7 yX7_areDays wsX7_areDays) := goodIn_app (goodIn_of _ (by decide +kernel)) ggX7_there_X7_areDays
set_option maxRecDepth 20000 in
theorem ggX7_there_X7_whereOf : GoodIn wsX7_there wsX7_whereOf := goodIn_r _ [17, 2, 3, 18, 19, 20, 21, 22, 23, 24, 25, 26, 27, 28, 29, 30, 31, 32, 33, 34, 35, 36, 37, 38, 39, 40, 41, 42, 43, 44, 45, 46, 47, 48, 49, 50, 51, 52, 53, 54] (by decide +kernel) (by decide +kernel)
set_option maxRecDepth 20000 in
theorem gX7_there_X7_whereOf : GoodIn wsX7_there (wsV RX7 195 RX7 yX7_whereOf wsX7_whereOf) := goodIn_app (goodIn_of _ (by decide +kernel)) ggX7_there_X7_whereOf
theorem dX7_there_0 : decode cX7_there 0 = .ok (.aload_n 0, 1) := by decide +kernel
theorem dX7_there_1 : decode cX7_there 1 = .ok (.iconst 0, 1) := by decide +kernel
theorem dX7_there_2 : decode cX7_there 2 = .ok (.putfield 71, 3) := by decide +kernel
theorem dX7_there_5 : decode cX7_there 5 = .ok (.iload_n 1, 1) := by decide +kernel
theorem dX7_there_6 : decode cX7_there 6 = .ok (.iconst 1, 1) := by decide +kernel
theorem dX7_there_7 : decode cX7_there 7 = .ok (.bipush 99, 2) := by decide +kernel
theorem dX7_there_9 : decode cX7_there 9 = .ok (.invokestatic 78, 3) := by decide +kernel
theorem dX7_there_12 : decode cX7_there 12 = .ok (.ifCond .eq 12, 3) := by decide +kernel
theorem dX7_there_15 : decode cX7_there 15 = .ok (.aload_n 0, 1) := by decide +kernel
theorem dX7_there_16 : decode cX7_there 16 = .ok (.iload_n 2, 1) := by decide +kernel
theorem dX7_there_17 : decode cX7_there 17 = .ok (.iload_n 3, 1) := by decide +kernel
theorem dX7_there_18 : decode cX7_there 18 = .ok (.invokevirtual 192, 3) := by decide +kernel
theorem dX7_there_21 : decode cX7_there 21 = .ok (.ifCond .ne 5, 3) := by decide +kernel
theorem dX7_there_24 : decode cX7_there 24 = .ok (.iconst (-1), 1) := by decide +kernel
theorem dX7_there_25 : decode cX7_there 25 = .ok (.ireturn, 1) := by decide +kernel
theorem dX7_there_26 : decode cX7_there 26 = .ok (.iconst 0, 1) := by decide +kernel
theorem dX7_there_27 : decode cX7_there 27 = .ok (.istore 4, 2) := by decide +kernel
theorem dX7_there_29 : decode cX7_there 29 = .ok (.iconst 0, 1) := by decide +kernel
theorem dX7_there_30 : decode cX7_there 30 = .ok (.istore 5, 2) := by decide +kernel
theorem dX7_there_32 : decode cX7_there 32 = .ok (.iload 5, 2) := by decide +kernel
theorem dX7_there_34 : decode cX7_there 34 = .ok (.aload_n 0, 1) := by decide +kernel
theorem dX7_there_35 : decode cX7_there 35 = .ok (.getfield 186, 3) := by decide +kernel
theorem dX7_there_38 : decode cX7_there 38 = .ok (.if_icmp .ge 89, 3) := by decide +kernel
theorem dX7_there_41 : decode cX7_there 41 = .ok (.iconst 0, 1) := by decide +kernel
theorem dX7_there_42 : decode cX7_there 42 = .ok (.istore 6, 2) := by decide +kernel
theorem dX7_there_44 : decode cX7_there 44 = .ok (.iconst 0, 1) := by decide +kernel
theorem dX7_there_45 : decode cX7_there 45 = .ok (.istore 7, 2) := by decide +kernel
theorem dX7_there_47 : decode cX7_there 47 = .ok (.iload 7, 2) := by decide +kernel
theorem dX7_there_49 : decode cX7_there 49 = .ok (.iload 5, 2) := by decide +kernel
theorem dX7_there_51 : decode cX7_there 51 = .ok (.if_icmp .ge 38, 3) := by decide +kernel
theorem dX7_there_54 : decode cX7_there 54 = .ok (.iload 6, 2) := by decide +kernel
theorem dX7_there_56 : decode cX7_there 56 = .ok (.ifCond .ne 20, 3) := by decide +kernel
theorem dX7_there_59 : decode cX7_there 59 = .ok (.aload_n 0, 1) := by decide +kernel
theorem dX7_there_60 : decode cX7_there 60 = .ok (.getfield 59, 3) := by decide +kernel
theorem dX7_there_63 : decode cX7_there 63 = .ok (.iload 7, 2) := by decide +kernel
theorem dX7_there_65 : decode cX7_there 65 = .ok (.iaload, 1) := by decide +kernel
theorem dX7_there_66 : decode cX7_there 66 = .ok (.aload_n 0, 1) := by decide +kernel
theorem dX7_there_67 : decode cX7_there 67 = .ok (.getfield 59, 3) := by decide +kernel
theorem dX7_there_70 : decode cX7_there 70 = .ok (.iload 5, 2) := by decide +kernel
theorem dX7_there_72 : decode cX7_there 72 = .ok (.iaload, 1) := by decide +kernel
theorem dX7_there_73 : decode cX7_there 73 = .ok (.if_icmp .ne 7, 3) := by decide +kernel
theorem dX7_there_76 : decode cX7_there 76 = .ok (.iconst 1, 1) := by decide +kernel
theorem dX7_there_77 : decode cX7_there 77 = .ok (.goto 4, 3) := by decide +kernel
theorem dX7_there_80 : decode cX7_there 80 = .ok (.iconst 0, 1) := by decide +kernel
theorem dX7_there_81 : decode cX7_there 81 = .ok (.istore 6, 2) := by decide +kernel
theorem dX7_there_83 : decode cX7_there 83 = .ok (.iinc 7 1, 3) := by decide +kernel
theorem dX7_there_86 : decode cX7_there 86 = .ok (.goto (-39), 3) := by decide +kernel
theorem dX7_there_89 : decode cX7_there 89 = .ok (.iload 4, 2) := by decide +kernel
theorem dX7_there_91 : decode cX7_there 91 = .ok (.iload 6, 2) := by decide +kernel
theorem dX7_there_93 : decode cX7_there 93 = .ok (.ifCond .ne 24, 3) := by decide +kernel
theorem dX7_there_96 : decode cX7_there 96 = .ok (.aload_n 0, 1) := by decide +kernel
theorem dX7_there_97 : decode cX7_there 97 = .ok (.aload_n 0, 1) := by decide +kernel
theorem dX7_there_98 : decode cX7_there 98 = .ok (.getfield 59, 3) := by decide +kernel
theorem dX7_there_101 : decode cX7_there 101 = .ok (.iload 5, 2) := by decide +kernel
theorem dX7_there_103 : decode cX7_there 103 = .ok (.iaload, 1) := by decide +kernel
theorem dX7_there_104 : decode cX7_there 104 = .ok (.iload_n 2, 1) := by decide +kernel
theorem dX7_there_105 : decode cX7_there 105 = .ok (.iload_n 3, 1) := by decide +kernel
theorem dX7_there_106 : decode cX7_there 106 = .ok (.invokevirtual 195, 3) := by decide +kernel
theorem dX7_there_109 : decode cX7_there 109 = .ok (.iload_n 1, 1) := by decide +kernel
theorem dX7_there_110 : decode cX7_there 110 = .ok (.if_icmp .ne 7, 3) := by decide +kernel
theorem dX7_there_113 : decode cX7_there 113 = .ok (.iconst 1, 1) := by decide +kernel
theorem dX7_there_114 : decode cX7_there 114 = .ok (.goto 4, 3) := by decide +kernel
theorem dX7_there_117 : decode cX7_there 117 = .ok (.iconst 0, 1) := by decide +kernel
theorem dX7_there_118 : decode cX7_there 118 = .ok (.iadd, 1) := by decide +kernel
theorem dX7_there_119 : decode cX7_there 119 = .ok (.istore 4, 2) := by decide +kernel
theorem dX7_there_121 : decode cX7_there 121 = .ok (.iinc 5 1, 3) := by decide +kernel
theorem dX7_there_124 : decode cX7_there 124 = .ok (.goto (-92), 3) := by decide +kernel
theorem dX7_there_127 : decode cX7_there 127 = .ok (.iload 4, 2) := by decide +kernel
theorem dX7_there_129 : decode cX7_there 129 = .ok (.ireturn, 1) := by decide +kernel
set_option maxRecDepth 20000 in
theorem ggX7_count_X7_isRoll : GoodIn wsX7_count wsX7_isRoll := goodIn_r _ [12, 2, 13, 14, 11, 15, 21, 22, 23, 24, 25, 26, 27, 28, 29, 30, 31, 32, 33, 34, 35, 36, 37, 38, 39, 40, 41, 42, 43, 44, 45, 46, 47, 48, 49, 50, 51, 52, 53, 54] (by decide +kernel) (by decide +kernel)
set_option maxRecDepth 20000 in
theorem gX7_count_X7_isRoll : GoodIn wsX7_count (wsV RX7 96 RX7 yX7_isRoll wsX7_isRoll) := goodIn_app (goodIn_of _ (by decide +kernel)) ggX7_count_X7_isRoll
set_option maxRecDepth 20000 in
theorem ggX7_count_X7_notes : GoodIn wsX7_count wsX7_notes := goodIn_r _ [19, 20, 21, 22, 23, 24, 25, 26, 27, 28, 29, 30, 31, 32, 33, 34, 35, 36, 37, 38, 39, 40, 41, 42, 43, 44, 45, 46, 47, 48, 49, 50, 51, 52, 53, 54] (by decide +kernel) (by decide +kernel)
set_option maxRecDepth 20000 in
theorem gX7_count_X7_notes : GoodIn wsX7_count (wsV RX7 100 RX7 yX7_notes wsX7_notes) := goodIn_app (goodIn_of _ (by decide +kernel)) ggX7_count_X7_notes
theorem dX7_count_0 : decode cX7_count 0 = .ok (.aload_n 0, 1) := by decide +kernel
theorem dX7_count_1 : decode cX7_count 1 = .ok (.iconst 0, 1) := by decide +kernel
theorem dX7_count_2 : decode cX7_count 2 = .ok (.putfield 71, 3) := by decide +kernel
theorem dX7_count_5 : decode cX7_count 5 = .ok (.iload_n 1, 1) := by decide +kernel
theorem dX7_count_6 : decode cX7_count 6 = .ok (.tableswitch 59 0 4 #[34, 39, 44, 49, 54], 34) := by decide +kernel
theorem dX7_count_40 : decode cX7_count 40 = .ok (.aload_n 0, 1) := by decide +kernel
theorem dX7_count_41 : decode cX7_count 41 = .ok (.getfield 75, 3) := by decide +kernel
theorem dX7_count_44 : decode cX7_count 44 = .ok (.ireturn, 1) := by decide +kernel
theorem dX7_count_45 : decode cX7_count 45 = .ok (.aload_n 0, 1) := by decide +kernel
theorem dX7_count_46 : decode cX7_count 46 = .ok (.getfield 152, 3) := by decide +kernel
theorem dX7_count_49 : decode cX7_count 49 = .ok (.ireturn, 1) := by decide +kernel
theorem dX7_count_50 : decode cX7_count 50 = .ok (.aload_n 0, 1) := by decide +kernel
theorem dX7_count_51 : decode cX7_count 51 = .ok (.getfield 173, 3) := by decide +kernel
theorem dX7_count_54 : decode cX7_count 54 = .ok (.ireturn, 1) := by decide +kernel
theorem dX7_count_55 : decode cX7_count 55 = .ok (.aload_n 0, 1) := by decide +kernel
theorem dX7_count_56 : decode cX7_count 56 = .ok (.getfield 186, 3) := by decide +kernel
theorem dX7_count_59 : decode cX7_count 59 = .ok (.ireturn, 1) := by decide +kernel
theorem dX7_count_60 : decode cX7_count 60 = .ok (.aload_n 0, 1) := by decide +kernel
theorem dX7_count_61 : decode cX7_count 61 = .ok (.getfield 189, 3) := by decide +kernel
theorem dX7_count_64 : decode cX7_count 64 = .ok (.ireturn, 1) := by decide +kernel
theorem dX7_count_65 : decode cX7_count 65 = .ok (.aload_n 0, 1) := by decide +kernel
theorem dX7_count_66 : decode cX7_count 66 = .ok (.iload_n 1, 1) := by decide +kernel
theorem dX7_count_67 : decode cX7_count 67 = .ok (.bipush 10, 2) := by decide +kernel
theorem dX7_count_69 : decode cX7_count 69 = .ok (.isub, 1) := by decide +kernel
theorem dX7_count_70 : decode cX7_count 70 = .ok (.invokevirtual 96, 3) := by decide +kernel
theorem dX7_count_73 : decode cX7_count 73 = .ok (.ifCond .eq 12, 3) := by decide +kernel
theorem dX7_count_76 : decode cX7_count 76 = .ok (.aload_n 0, 1) := by decide +kernel
theorem dX7_count_77 : decode cX7_count 77 = .ok (.iload_n 1, 1) := by decide +kernel
theorem dX7_count_78 : decode cX7_count 78 = .ok (.bipush 10, 2) := by decide +kernel
theorem dX7_count_80 : decode cX7_count 80 = .ok (.isub, 1) := by decide +kernel
theorem dX7_count_81 : decode cX7_count 81 = .ok (.invokevirtual 100, 3) := by decide +kernel
theorem dX7_count_84 : decode cX7_count 84 = .ok (.ireturn, 1) := by decide +kernel
theorem dX7_count_85 : decode cX7_count 85 = .ok (.aload_n 0, 1) := by decide +kernel
theorem dX7_count_86 : decode cX7_count 86 = .ok (.iload_n 1, 1) := by decide +kernel
theorem dX7_count_87 : decode cX7_count 87 = .ok (.bipush 20, 2) := by decide +kernel
theorem dX7_count_89 : decode cX7_count 89 = .ok (.isub, 1) := by decide +kernel
theorem dX7_count_90 : decode cX7_count 90 = .ok (.invokevirtual 96, 3) := by decide +kernel
theorem dX7_count_93 : decode cX7_count 93 = .ok (.ifCond .eq 15, 3) := by decide +kernel
theorem dX7_count_96 : decode cX7_count 96 = .ok (.aload_n 0, 1) := by decide +kernel
theorem dX7_count_97 : decode cX7_count 97 = .ok (.getfield 19, 3) := by decide +kernel
theorem dX7_count_100 : decode cX7_count 100 = .ok (.iload_n 1, 1) := by decide +kernel
theorem dX7_count_101 : decode cX7_count 101 = .ok (.bipush 20, 2) := by decide +kernel
theorem dX7_count_103 : decode cX7_count 103 = .ok (.isub, 1) := by decide +kernel
theorem dX7_count_104 : decode cX7_count 104 = .ok (.iaload, 1) := by decide +kernel
theorem dX7_count_105 : decode cX7_count 105 = .ok (.goto 4, 3) := by decide +kernel
theorem dX7_count_108 : decode cX7_count 108 = .ok (.iconst (-1), 1) := by decide +kernel
theorem dX7_count_109 : decode cX7_count 109 = .ok (.ireturn, 1) := by decide +kernel
theorem dJ6_bitCount_0f7a4_0 : decode cJ6_bitCount_0f7a4 0 = .ok (.iload_n 0, 1) := by decide +kernel
theorem dJ6_bitCount_0f7a4_1 : decode cJ6_bitCount_0f7a4 1 = .ok (.iload_n 0, 1) := by decide +kernel
theorem dJ6_bitCount_0f7a4_2 : decode cJ6_bitCount_0f7a4 2 = .ok (.iconst 1, 1) := by decide +kernel
theorem dJ6_bitCount_0f7a4_3 : decode cJ6_bitCount_0f7a4 3 = .ok (.iushr, 1) := by decide +kernel
theorem dJ6_bitCount_0f7a4_4 : decode cJ6_bitCount_0f7a4 4 = .ok (.ldc_w 265, 3) := by decide +kernel
theorem dJ6_bitCount_0f7a4_7 : decode cJ6_bitCount_0f7a4 7 = .ok (.iand, 1) := by decide +kernel
theorem dJ6_bitCount_0f7a4_8 : decode cJ6_bitCount_0f7a4 8 = .ok (.isub, 1) := by decide +kernel
theorem dJ6_bitCount_0f7a4_9 : decode cJ6_bitCount_0f7a4 9 = .ok (.istore_n 0, 1) := by decide +kernel
theorem dJ6_bitCount_0f7a4_10 : decode cJ6_bitCount_0f7a4 10 = .ok (.iload_n 0, 1) := by decide +kernel
theorem dJ6_bitCount_0f7a4_11 : decode cJ6_bitCount_0f7a4 11 = .ok (.ldc_w 266, 3) := by decide +kernel
theorem dJ6_bitCount_0f7a4_14 : decode cJ6_bitCount_0f7a4 14 = .ok (.iand, 1) := by decide +kernel
theorem dJ6_bitCount_0f7a4_15 : decode cJ6_bitCount_0f7a4 15 = .ok (.iload_n 0, 1) := by decide +kernel
theorem dJ6_bitCount_0f7a4_16 : decode cJ6_bitCount_0f7a4 16 = .ok (.iconst 2, 1) := by decide +kernel
theorem dJ6_bitCount_0f7a4_17 : decode cJ6_bitCount_0f7a4 17 = .ok (.iushr, 1) := by decide +kernel
theorem dJ6_bitCount_0f7a4_18 : decode cJ6_bitCount_0f7a4 18 = .ok (.ldc_w 266, 3) := by decide +kernel
theorem dJ6_bitCount_0f7a4_21 : decode cJ6_bitCount_0f7a4 21 = .ok (.iand, 1) := by decide +kernel
theorem dJ6_bitCount_0f7a4_22 : decode cJ6_bitCount_0f7a4 22 = .ok (.iadd, 1) := by decide +kernel
theorem dJ6_bitCount_0f7a4_23 : decode cJ6_bitCount_0f7a4 23 = .ok (.istore_n 0, 1) := by decide +kernel
theorem dJ6_bitCount_0f7a4_24 : decode cJ6_bitCount_0f7a4 24 = .ok (.iload_n 0, 1) := by decide +kernel
theorem dJ6_bitCount_0f7a4_25 : decode cJ6_bitCount_0f7a4 25 = .ok (.iload_n 0, 1) := by decide +kernel
theorem dJ6_bitCount_0f7a4_26 : decode cJ6_bitCount_0f7a4 26 = .ok (.iconst 4, 1) := by decide +kernel
theorem dJ6_bitCount_0f7a4_27 : decode cJ6_bitCount_0f7a4 27 = .ok (.iushr, 1) := by decide +kernel
theorem dJ6_bitCount_0f7a4_28 : decode cJ6_bitCount_0f7a4 28 = .ok (.iadd, 1) := by decide +kernel
theorem dJ6_bitCount_0f7a4_29 : decode cJ6_bitCount_0f7a4 29 = .ok (.ldc_w 267, 3) := by decide +kernel
theorem dJ6_bitCount_0f7a4_32 : decode cJ6_bitCount_0f7a4 32 = .ok (.iand, 1) := by decide +kernel
theorem dJ6_bitCount_0f7a4_33 : decode cJ6_bitCount_0f7a4 33 = .ok (.istore_n 0, 1) := by decide +kernel
theorem dJ6_bitCount_0f7a4_34 : decode cJ6_bitCount_0f7a4 34 = .ok (.iload_n 0, 1) := by decide +kernel
theorem dJ6_bitCount_0f7a4_35 : decode cJ6_bitCount_0f7a4 35 = .ok (.iload_n 0, 1) := by decide +kernel
theorem dJ6_bitCount_0f7a4_36 : decode cJ6_bitCount_0f7a4 36 = .ok (.bipush 8, 2) := by decide +kernel
theorem dJ6_bitCount_0f7a4_38 : decode cJ6_bitCount_0f7a4 38 = .ok (.iushr, 1) := by decide +kernel
theorem dJ6_bitCount_0f7a4_39 : decode cJ6_bitCount_0f7a4 39 = .ok (.iadd, 1) := by decide +kernel
theorem dJ6_bitCount_0f7a4_40 : decode cJ6_bitCount_0f7a4 40 = .ok (.istore_n 0, 1) := by decide +kernel
theorem dJ6_bitCount_0f7a4_41 : decode cJ6_bitCount_0f7a4 41 = .ok (.iload_n 0, 1) := by decide +kernel
theorem dJ6_bitCount_0f7a4_42 : decode cJ6_bitCount_0f7a4 42 = .ok (.iload_n 0, 1) := by decide +kernel
theorem dJ6_bitCount_0f7a4_43 : decode cJ6_bitCount_0f7a4 43 = .ok (.bipush 16, 2) := by decide +kernel
theorem dJ6_bitCount_0f7a4_45 : decode cJ6_bitCount_0f7a4 45 = .ok (.iushr, 1) := by decide +kernel
theorem dJ6_bitCount_0f7a4_46 : decode cJ6_bitCount_0f7a4 46 = .ok (.iadd, 1) := by decide +kernel
theorem dJ6_bitCount_0f7a4_47 : decode cJ6_bitCount_0f7a4 47 = .ok (.istore_n 0, 1) := by decide +kernel
theorem dJ6_bitCount_0f7a4_48 : decode cJ6_bitCount_0f7a4 48 = .ok (.iload_n 0, 1) := by decide +kernel
theorem dJ6_bitCount_0f7a4_49 : decode cJ6_bitCount_0f7a4 49 = .ok (.bipush 63, 2) := by decide +kernel
theorem dJ6_bitCount_0f7a4_51 : decode cJ6_bitCount_0f7a4 51 = .ok (.iand, 1) := by decide +kernel
theorem dJ6_bitCount_0f7a4_52 : decode cJ6_bitCount_0f7a4 52 = .ok (.ireturn, 1) := by decide +kernel
