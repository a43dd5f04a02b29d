theorem dX7_init_0 : decode cX7_init 0 = .ok (.aload_n 0, 1) := by decide +kernel
theorem dX7_init_1 : decode cX7_init 1 = .ok (.invokespecial 1, 3) := by decide +kernel
theorem dX7_init_4 : decode cX7_init 4 = .ok (.aload_n 0, 1) := by decide +kernel
theorem dX7_init_5 : decode cX7_init 5 = .ok (.sipush 360, 3) := by decide +kernel
theorem dX7_init_8 : decode cX7_init 8 = .ok (.newarray .int, 2) := by decide +kernel
theorem dX7_init_10 : decode cX7_init 10 = .ok (.putfield 7, 3) := by decide +kernel
theorem dX7_init_13 : decode cX7_init 13 = .ok (.aload_n 0, 1) := by decide +kernel
theorem dX7_init_14 : decode cX7_init 14 = .ok (.sipush 360, 3) := by decide +kernel
theorem dX7_init_17 : decode cX7_init 17 = .ok (.newarray .int, 2) := by decide +kernel
theorem dX7_init_19 : decode cX7_init 19 = .ok (.putfield 13, 3) := by decide +kernel
theorem dX7_init_22 : decode cX7_init 22 = .ok (.aload_n 0, 1) := by decide +kernel
theorem dX7_init_23 : decode cX7_init 23 = .ok (.sipush 360, 3) := by decide +kernel
theorem dX7_init_26 : decode cX7_init 26 = .ok (.newarray .int, 2) := by decide +kernel
theorem dX7_init_28 : decode cX7_init 28 = .ok (.putfield 16, 3) := by decide +kernel
theorem dX7_init_31 : decode cX7_init 31 = .ok (.aload_n 0, 1) := by decide +kernel
theorem dX7_init_32 : decode cX7_init 32 = .ok (.bipush 6, 2) := by decide +kernel
theorem dX7_init_34 : decode cX7_init 34 = .ok (.newarray .int, 2) := by decide +kernel
theorem dX7_init_36 : decode cX7_init 36 = .ok (.putfield 19, 3) := by decide +kernel
theorem dX7_init_39 : decode cX7_init 39 = .ok (.aload_n 0, 1) := by decide +kernel
theorem dX7_init_40 : decode cX7_init 40 = .ok (.bipush 60, 2) := by decide +kernel
theorem dX7_init_42 : decode cX7_init 42 = .ok (.newarray .int, 2) := by decide +kernel
theorem dX7_init_44 : decode cX7_init 44 = .ok (.putfield 22, 3) := by decide +kernel
theorem dX7_init_47 : decode cX7_init 47 = .ok (.aload_n 0, 1) := by decide +kernel
theorem dX7_init_48 : decode cX7_init 48 = .ok (.bipush 60, 2) := by decide +kernel
theorem dX7_init_50 : decode cX7_init 50 = .ok (.newarray .int, 2) := by decide +kernel
theorem dX7_init_52 : decode cX7_init 52 = .ok (.putfield 25, 3) := by decide +kernel
theorem dX7_init_55 : decode cX7_init 55 = .ok (.aload_n 0, 1) := by decide +kernel
theorem dX7_init_56 : decode cX7_init 56 = .ok (.sipush 7200, 3) := by decide +kernel
theorem dX7_init_59 : decode cX7_init 59 = .ok (.newarray .boolean, 2) := by decide +kernel
theorem dX7_init_61 : decode cX7_init 61 = .ok (.putfield 28, 3) := by decide +kernel
theorem dX7_init_64 : decode cX7_init 64 = .ok (.aload_n 0, 1) := by decide +kernel
theorem dX7_init_65 : decode cX7_init 65 = .ok (.bipush 60, 2) := by decide +kernel
theorem dX7_init_67 : decode cX7_init 67 = .ok (.newarray .int, 2) := by decide +kernel
theorem dX7_init_69 : decode cX7_init 69 = .ok (.putfield 32, 3) := by decide +kernel
theorem dX7_init_72 : decode cX7_init 72 = .ok (.aload_n 0, 1) := by decide +kernel
theorem dX7_init_73 : decode cX7_init 73 = .ok (.bipush 40, 2) := by decide +kernel
theorem dX7_init_75 : decode cX7_init 75 = .ok (.newarray .int, 2) := by decide +kernel
theorem dX7_init_77 : decode cX7_init 77 = .ok (.putfield 35, 3) := by decide +kernel
theorem dX7_init_80 : decode cX7_init 80 = .ok (.aload_n 0, 1) := by decide +kernel
theorem dX7_init_81 : decode cX7_init 81 = .ok (.bipush 40, 2) := by decide +kernel
theorem dX7_init_83 : decode cX7_init 83 = .ok (.newarray .int, 2) := by decide +kernel
theorem dX7_init_85 : decode cX7_init 85 = .ok (.putfield 38, 3) := by decide +kernel
theorem dX7_init_88 : decode cX7_init 88 = .ok (.aload_n 0, 1) := by decide +kernel
theorem dX7_init_89 : decode cX7_init 89 = .ok (.sipush 2501, 3) := by decide +kernel
theorem dX7_init_92 : decode cX7_init 92 = .ok (.newarray .int, 2) := by decide +kernel
theorem dX7_init_94 : decode cX7_init 94 = .ok (.putfield 41, 3) := by decide +kernel
theorem dX7_init_97 : decode cX7_init 97 = .ok (.aload_n 0, 1) := by decide +kernel
theorem dX7_init_98 : decode cX7_init 98 = .ok (.bipush 40, 2) := by decide +kernel
theorem dX7_init_100 : decode cX7_init 100 = .ok (.newarray .int, 2) := by decide +kernel
theorem dX7_init_102 : decode cX7_init 102 = .ok (.putfield 44, 3) := by decide +kernel
theorem dX7_init_105 : decode cX7_init 105 = .ok (.aload_n 0, 1) := by decide +kernel
theorem dX7_init_106 : decode cX7_init 106 = .ok (.bipush 40, 2) := by decide +kernel
theorem dX7_init_108 : decode cX7_init 108 = .ok (.newarray .int, 2) := by decide +kernel
theorem dX7_init_110 : decode cX7_init 110 = .ok (.putfield 47, 3) := by decide +kernel
theorem dX7_init_113 : decode cX7_init 113 = .ok (.aload_n 0, 1) := by decide +kernel
theorem dX7_init_114 : decode cX7_init 114 = .ok (.sipush 200, 3) := by decide +kernel
theorem dX7_init_117 : decode cX7_init 117 = .ok (.newarray .int, 2) := by decide +kernel
theorem dX7_init_119 : decode cX7_init 119 = .ok (.putfield 50, 3) := by decide +kernel
theorem dX7_init_122 : decode cX7_init 122 = .ok (.aload_n 0, 1) := by decide +kernel
theorem dX7_init_123 : decode cX7_init 123 = .ok (.sipush 200, 3) := by decide +kernel
theorem dX7_init_126 : decode cX7_init 126 = .ok (.newarray .int, 2) := by decide +kernel
theorem dX7_init_128 : decode cX7_init 128 = .ok (.putfield 53, 3) := by decide +kernel
theorem dX7_init_131 : decode cX7_init 131 = .ok (.aload_n 0, 1) := by decide +kernel
theorem dX7_init_132 : decode cX7_init 132 = .ok (.sipush 200, 3) := by decide +kernel
theorem dX7_init_135 : decode cX7_init 135 = .ok (.newarray .boolean, 2) := by decide +kernel
theorem dX7_init_137 : decode cX7_init 137 = .ok (.putfield 56, 3) := by decide +kernel
theorem dX7_init_140 : decode cX7_init 140 = .ok (.aload_n 0, 1) := by decide +kernel
theorem dX7_init_141 : decode cX7_init 141 = .ok (.sipush 200, 3) := by decide +kernel
theorem dX7_init_144 : decode cX7_init 144 = .ok (.newarray .int, 2) := by decide +kernel
theorem dX7_init_146 : decode cX7_init 146 = .ok (.putfield 59, 3) := by decide +kernel
theorem dX7_init_149 : decode cX7_init 149 = .ok (.aload_n 0, 1) := by decide +kernel
theorem dX7_init_150 : decode cX7_init 150 = .ok (.sipush 200, 3) := by decide +kernel
theorem dX7_init_153 : decode cX7_init 153 = .ok (.newarray .int, 2) := by decide +kernel
theorem dX7_init_155 : decode cX7_init 155 = .ok (.putfield 62, 3) := by decide +kernel
theorem dX7_init_158 : decode cX7_init 158 = .ok (.aload_n 0, 1) := by decide +kernel
theorem dX7_init_159 : decode cX7_init 159 = .ok (.sipush 200, 3) := by decide +kernel
theorem dX7_init_162 : decode cX7_init 162 = .ok (.newarray .int, 2) := by decide +kernel
theorem dX7_init_164 : decode cX7_init 164 = .ok (.putfield 65, 3) := by decide +kernel
theorem dX7_init_167 : decode cX7_init 167 = .ok (.aload_n 0, 1) := by decide +kernel
theorem dX7_init_168 : decode cX7_init 168 = .ok (.sipush 200, 3) := by decide +kernel
theorem dX7_init_171 : decode cX7_init 171 = .ok (.newarray .int, 2) := by decide +kernel
theorem dX7_init_173 : decode cX7_init 173 = .ok (.putfield 68, 3) := by decide +kernel
theorem dX7_init_176 : decode cX7_init 176 = .ok (.return_, 1) := by decide +kernel
theorem dX7_thrown_0 : decode cX7_thrown 0 = .ok (.aload_n 0, 1) := by decide +kernel
theorem dX7_thrown_1 : decode cX7_thrown 1 = .ok (.getfield 71, 3) := by decide +kernel
theorem dX7_thrown_4 : decode cX7_thrown 4 = .ok (.ireturn, 1) := by decide +kernel
theorem dX7_within_0 : decode cX7_within 0 = .ok (.iload_n 0, 1) := by decide +kernel
theorem dX7_within_1 : decode cX7_within 1 = .ok (.iload_n 1, 1) := by decide +kernel
theorem dX7_within_2 : decode cX7_within 2 = .ok (.if_icmp .lt 12, 3) := by decide +kernel
theorem dX7_within_5 : decode cX7_within 5 = .ok (.iload_n 0, 1) := by decide +kernel
theorem dX7_within_6 : decode cX7_within 6 = .ok (.iload_n 2, 1) := by decide +kernel
theorem dX7_within_7 : decode cX7_within 7 = .ok (.if_icmp .gt 7, 3) := by decide +kernel
theorem dX7_within_10 : decode cX7_within 10 = .ok (.iconst 1, 1) := by decide +kernel
theorem dX7_within_11 : decode cX7_within 11 = .ok (.goto 4, 3) := by decide +kernel
theorem dX7_within_14 : decode cX7_within 14 = .ok (.iconst 0, 1) := by decide +kernel
theorem dX7_within_15 : decode cX7_within 15 = .ok (.ireturn, 1) := by decide +kernel
set_option maxRecDepth 20000 in
theorem ggX7_isRoll_X7_within : GoodIn wsX7_isRoll wsX7_within := goodIn_r _ [5] (by decide +kernel) (by decide +kernel)
set_option maxRecDepth 20000 in
theorem gX7_isRoll_X7_within : GoodIn wsX7_isRoll (va_wsS RX7 78 yX7_within wsX7_within) := goodIn_app (goodIn_of _ (by decide +kernel)) ggX7_isRoll_X7_within
theorem dX7_isRoll_0 : decode cX7_isRoll 0 = .ok (.iload_n 1, 1) := by decide +kernel
theorem dX7_isRoll_1 : decode cX7_isRoll 1 = .ok (.iconst 0, 1) := by decide +kernel
theorem dX7_isRoll_2 : decode cX7_isRoll 2 = .ok (.aload_n 0, 1) := by decide +kernel
theorem dX7_isRoll_3 : decode cX7_isRoll 3 = .ok (.getfield 75, 3) := by decide +kernel
theorem dX7_isRoll_6 : decode cX7_isRoll 6 = .ok (.iconst 1, 1) := by decide +kernel
theorem dX7_isRoll_7 : decode cX7_isRoll 7 = .ok (.isub, 1) := by decide +kernel
theorem dX7_isRoll_8 : decode cX7_isRoll 8 = .ok (.invokestatic 78, 3) := by decide +kernel
theorem dX7_isRoll_11 : decode cX7_isRoll 11 = .ok (.ireturn, 1) := by decide +kernel
theorem dX7_roll_0 : decode cX7_roll 0 = .ok (.aload_n 0, 1) := by decide +kernel
theorem dX7_roll_1 : decode cX7_roll 1 = .ok (.iconst 0, 1) := by decide +kernel
theorem dX7_roll_2 : decode cX7_roll 2 = .ok (.putfield 71, 3) := by decide +kernel
theorem dX7_roll_5 : decode cX7_roll 5 = .ok (.aload_n 0, 1) := by decide +kernel
theorem dX7_roll_6 : decode cX7_roll 6 = .ok (.getfield 75, 3) := by decide +kernel
theorem dX7_roll_9 : decode cX7_roll 9 = .ok (.bipush 6, 2) := by decide +kernel
theorem dX7_roll_11 : decode cX7_roll 11 = .ok (.if_icmp .ne 5, 3) := by decide +kernel
theorem dX7_roll_14 : decode cX7_roll 14 = .ok (.iconst (-1), 1) := by decide +kernel
theorem dX7_roll_15 : decode cX7_roll 15 = .ok (.ireturn, 1) := by decide +kernel
theorem dX7_roll_16 : decode cX7_roll 16 = .ok (.aload_n 0, 1) := by decide +kernel
theorem dX7_roll_17 : decode cX7_roll 17 = .ok (.dup, 1) := by decide +kernel
theorem dX7_roll_18 : decode cX7_roll 18 = .ok (.getfield 75, 3) := by decide +kernel
theorem dX7_roll_21 : decode cX7_roll 21 = .ok (.iconst 1, 1) := by decide +kernel
theorem dX7_roll_22 : decode cX7_roll 22 = .ok (.iadd, 1) := by decide +kernel
theorem dX7_roll_23 : decode cX7_roll 23 = .ok (.putfield 75, 3) := by decide +kernel
theorem dX7_roll_26 : decode cX7_roll 26 = .ok (.aload_n 0, 1) := by decide +kernel
theorem dX7_roll_27 : decode cX7_roll 27 = .ok (.getfield 75, 3) := by decide +kernel
theorem dX7_roll_30 : decode cX7_roll 30 = .ok (.iconst 1, 1) := by decide +kernel
theorem dX7_roll_31 : decode cX7_roll 31 = .ok (.isub, 1) := by decide +kernel
theorem dX7_roll_32 : decode cX7_roll 32 = .ok (.ireturn, 1) := by decide +kernel
theorem dX7_notes_0 : decode cX7_notes 0 = .ok (.iconst 0, 1) := by decide +kernel
theorem dX7_notes_1 : decode cX7_notes 1 = .ok (.istore_n 2, 1) := by decide +kernel
theorem dX7_notes_2 : decode cX7_notes 2 = .ok (.bipush 60, 2) := by decide +kernel
theorem dX7_notes_4 : decode cX7_notes 4 = .ok (.iload_n 1, 1) := by decide +kernel
theorem dX7_notes_5 : decode cX7_notes 5 = .ok (.imul, 1) := by decide +kernel
theorem dX7_notes_6 : decode cX7_notes 6 = .ok (.istore_n 3, 1) := by decide +kernel
theorem dX7_notes_7 : decode cX7_notes 7 = .ok (.iload_n 3, 1) := by decide +kernel
theorem dX7_notes_8 : decode cX7_notes 8 = .ok (.bipush 60, 2) := by decide +kernel
theorem dX7_notes_10 : decode cX7_notes 10 = .ok (.iload_n 1, 1) := by decide +kernel
theorem dX7_notes_11 : decode cX7_notes 11 = .ok (.imul, 1) := by decide +kernel
theorem dX7_notes_12 : decode cX7_notes 12 = .ok (.bipush 60, 2) := by decide +kernel
theorem dX7_notes_14 : decode cX7_notes 14 = .ok (.iadd, 1) := by decide +kernel
theorem dX7_notes_15 : decode cX7_notes 15 = .ok (.if_icmp .ge 26, 3) := by decide +kernel
theorem dX7_notes_18 : decode cX7_notes 18 = .ok (.iload_n 2, 1) := by decide +kernel
theorem dX7_notes_19 : decode cX7_notes 19 = .ok (.aload_n 0, 1) := by decide +kernel
theorem dX7_notes_20 : decode cX7_notes 20 = .ok (.getfield 16, 3) := by decide +kernel
theorem dX7_notes_23 : decode cX7_notes 23 = .ok (.iload_n 3, 1) := by decide +kernel
theorem dX7_notes_24 : decode cX7_notes 24 = .ok (.iaload, 1) := by decide +kernel
theorem dX7_notes_25 : decode cX7_notes 25 = .ok (.ifCond .le 7, 3) := by decide +kernel
theorem dX7_notes_28 : decode cX7_notes 28 = .ok (.iconst 1, 1) := by decide +kernel
theorem dX7_notes_29 : decode cX7_notes 29 = .ok (.goto 4, 3) := by decide +kernel
theorem dX7_notes_32 : decode cX7_notes 32 = .ok (.iconst 0, 1) := by decide +kernel
theorem dX7_notes_33 : decode cX7_notes 33 = .ok (.iadd, 1) := by decide +kernel
theorem dX7_notes_34 : decode cX7_notes 34 = .ok (.istore_n 2, 1) := by decide +kernel
theorem dX7_notes_35 : decode cX7_notes 35 = .ok (.iinc 3 1, 3) := by decide +kernel
theorem dX7_notes_38 : decode cX7_notes 38 = .ok (.goto (-31), 3) := by decide +kernel
theorem dX7_notes_41 : decode cX7_notes 41 = .ok (.iload_n 2, 1) := by decide +kernel
theorem dX7_notes_42 : decode cX7_notes 42 = .ok (.ireturn, 1) := by decide +kernel
set_option maxRecDepth 20000 in
theorem ggX7_isIn_X7_within : GoodIn wsX7_isIn wsX7_within := goodIn_r _ [6] (by decide +kernel) (by decide +kernel)
set_option maxRecDepth 20000 in
theorem gX7_isIn_X7_within : GoodIn wsX7_isIn (va_wsS RX7 78 yX7_within wsX7_within) := goodIn_app (goodIn_of _ (by decide +kernel)) ggX7_isIn_X7_within
theorem dX7_isIn_0 : decode cX7_isIn 0 = .ok (.aload_n 0, 1) := by decide +kernel
theorem dX7_isIn_1 : decode cX7_isIn 1 = .ok (.getfield 16, 3) := by decide +kernel
theorem dX7_isIn_4 : decode cX7_isIn 4 = .ok (.iload_n 1, 1) := by decide +kernel
theorem dX7_isIn_5 : decode cX7_isIn 5 = .ok (.iaload, 1) := by decide +kernel
theorem dX7_isIn_6 : decode cX7_isIn 6 = .ok (.ifCond .le 35, 3) := by decide +kernel
theorem dX7_isIn_9 : decode cX7_isIn 9 = .ok (.iload_n 2, 1) := by decide +kernel
theorem dX7_isIn_10 : decode cX7_isIn 10 = .ok (.aload_n 0, 1) := by decide +kernel
theorem dX7_isIn_11 : decode cX7_isIn 11 = .ok (.getfield 13, 3) := by decide +kernel
theorem dX7_isIn_14 : decode cX7_isIn 14 = .ok (.iload_n 1, 1) := by decide +kernel
theorem dX7_isIn_15 : decode cX7_isIn 15 = .ok (.iaload, 1) := by decide +kernel
theorem dX7_isIn_16 : decode cX7_isIn 16 = .ok (.aload_n 0, 1) := by decide +kernel
theorem dX7_isIn_17 : decode cX7_isIn 17 = .ok (.getfield 13, 3) := by decide +kernel
theorem dX7_isIn_20 : decode cX7_isIn 20 = .ok (.iload_n 1, 1) := by decide +kernel
theorem dX7_isIn_21 : decode cX7_isIn 21 = .ok (.iaload, 1) := by decide +kernel
theorem dX7_isIn_22 : decode cX7_isIn 22 = .ok (.aload_n 0, 1) := by decide +kernel
theorem dX7_isIn_23 : decode cX7_isIn 23 = .ok (.getfield 16, 3) := by decide +kernel
theorem dX7_isIn_26 : decode cX7_isIn 26 = .ok (.iload_n 1, 1) := by decide +kernel
theorem dX7_isIn_27 : decode cX7_isIn 27 = .ok (.iaload, 1) := by decide +kernel
theorem dX7_isIn_28 : decode cX7_isIn 28 = .ok (.iadd, 1) := by decide +kernel
theorem dX7_isIn_29 : decode cX7_isIn 29 = .ok (.iconst 1, 1) := by decide +kernel
theorem dX7_isIn_30 : decode cX7_isIn 30 = .ok (.isub, 1) := by decide +kernel
theorem dX7_isIn_31 : decode cX7_isIn 31 = .ok (.invokestatic 78, 3) := by decide +kernel
theorem dX7_isIn_34 : decode cX7_isIn 34 = .ok (.ifCond .eq 7, 3) := by decide +kernel
theorem dX7_isIn_37 : decode cX7_isIn 37 = .ok (.iconst 1, 1) := by decide +kernel
theorem dX7_isIn_38 : decode cX7_isIn 38 = .ok (.goto 4, 3) := by decide +kernel
theorem dX7_isIn_41 : decode cX7_isIn 41 = .ok (.iconst 0, 1) := by decide +kernel
theorem dX7_isIn_42 : decode cX7_isIn 42 = .ok (.ireturn, 1) := by decide +kernel
set_option maxRecDepth 20000 in
theorem ggX7_isPunched_X7_isIn : GoodIn wsX7_isPunched wsX7_isIn := goodIn_r _ [7, 2, 1, 8, 9, 6, 10, 11, 12, 13, 14, 15, 16, 17, 18, 19, 20, 21, 22, 23, 24, 25, 26, 27, 28, 29, 30, 31, 32, 33, 34, 35, 36, 37, 38, 39, 40, 41, 42, 43, 44] (by decide +kernel) (by decide +kernel)
set_option maxRecDepth 20000 in
theorem gX7_isPunched_X7_isIn : GoodIn wsX7_isPunched (wsV RX7 82 RX7 yX7_isIn wsX7_isIn) := goodIn_app (goodIn_of _ (by decide +kernel)) ggX7_isPunched_X7_isIn
theorem dX7_isPunched_0 : decode cX7_isPunched 0 = .ok (.iload_n 2, 1) := by decide +kernel
theorem dX7_isPunched_1 : decode cX7_isPunched 1 = .ok (.aload_n 0, 1) := by decide +kernel
theorem dX7_isPunched_2 : decode cX7_isPunched 2 = .ok (.getfield 13, 3) := by decide +kernel
theorem dX7_isPunched_5 : decode cX7_isPunched 5 = .ok (.iload_n 1, 1) := by decide +kernel
theorem dX7_isPunched_6 : decode cX7_isPunched 6 = .ok (.iaload, 1) := by decide +kernel
theorem dX7_isPunched_7 : decode cX7_isPunched 7 = .ok (.isub, 1) := by decide +kernel
theorem dX7_isPunched_8 : decode cX7_isPunched 8 = .ok (.istore_n 3, 1) := by decide +kernel
theorem dX7_isPunched_9 : decode cX7_isPunched 9 = .ok (.aload_n 0, 1) := by decide +kernel
theorem dX7_isPunched_10 : decode cX7_isPunched 10 = .ok (.iload_n 1, 1) := by decide +kernel
theorem dX7_isPunched_11 : decode cX7_isPunched 11 = .ok (.iload_n 2, 1) := by decide +kernel
theorem dX7_isPunched_12 : decode cX7_isPunched 12 = .ok (.invokevirtual 82, 3) := by decide +kernel
theorem dX7_isPunched_15 : decode cX7_isPunched 15 = .ok (.ifCond .eq 28, 3) := by decide +kernel
theorem dX7_isPunched_18 : decode cX7_isPunched 18 = .ok (.iload_n 3, 1) := by decide +kernel
theorem dX7_isPunched_19 : decode cX7_isPunched 19 = .ok (.bipush 8, 2) := by decide +kernel
theorem dX7_isPunched_21 : decode cX7_isPunched 21 = .ok (.irem, 1) := by decide +kernel
theorem dX7_isPunched_22 : decode cX7_isPunched 22 = .ok (.bipush 7, 2) := by decide +kernel
theorem dX7_isPunched_24 : decode cX7_isPunched 24 = .ok (.if_icmp .ne 15, 3) := by decide +kernel
theorem dX7_isPunched_27 : decode cX7_isPunched 27 = .ok (.iload_n 3, 1) := by decide +kernel
theorem dX7_isPunched_28 : decode cX7_isPunched 28 = .ok (.aload_n 0, 1) := by decide +kernel
theorem dX7_isPunched_29 : decode cX7_isPunched 29 = .ok (.getfield 16, 3) := by decide +kernel
theorem dX7_isPunched_32 : decode cX7_isPunched 32 = .ok (.iload_n 1, 1) := by decide +kernel
theorem dX7_isPunched_33 : decode cX7_isPunched 33 = .ok (.iaload, 1) := by decide +kernel
theorem dX7_isPunched_34 : decode cX7_isPunched 34 = .ok (.iconst 1, 1) := by decide +kernel
theorem dX7_isPunched_35 : decode cX7_isPunched 35 = .ok (.isub, 1) := by decide +kernel
theorem dX7_isPunched_36 : decode cX7_isPunched 36 = .ok (.if_icmp .ne 7, 3) := by decide +kernel
theorem dX7_isPunched_39 : decode cX7_isPunched 39 = .ok (.iconst 1, 1) := by decide +kernel
theorem dX7_isPunched_40 : decode cX7_isPunched 40 = .ok (.goto 4, 3) := by decide +kernel
theorem dX7_isPunched_43 : decode cX7_isPunched 43 = .ok (.iconst 0, 1) := by decide +kernel
theorem dX7_isPunched_44 : decode cX7_isPunched 44 = .ok (.ireturn, 1) := by decide +kernel
set_option maxRecDepth 20000 in
theorem ggX7_at_X7_isIn : GoodIn wsX7_at wsX7_isIn := goodIn_r _ [7, 1, 8, 9, 10, 6, 11, 12, 13, 14, 15, 16, 17, 18, 19, 20, 21, 22, 23, 24, 25, 26, 27, 28, 29, 30, 31, 32, 33, 34, 35, 36, 37, 38, 39, 40, 41, 42, 43, 44, 45] (by decide +kernel) (by decide +kernel)
set_option maxRecDepth 20000 in
theorem gX7_at_X7_isIn : GoodIn wsX7_at (wsV RX7 82 RX7 yX7_isIn wsX7_isIn) := goodIn_app (goodIn_of _ (by decide +kernel)) ggX7_at_X7_isIn
theorem dX7_at_0 : decode cX7_at 0 = .ok (.bipush 60, 2) := by decide +kernel
theorem dX7_at_2 : decode cX7_at 2 = .ok (.iload_n 1, 1) := by decide +kernel
theorem dX7_at_3 : decode cX7_at 3 = .ok (.imul, 1) := by decide +kernel
theorem dX7_at_4 : decode cX7_at 4 = .ok (.istore 4, 2) := by decide +kernel
theorem dX7_at_6 : decode cX7_at 6 = .ok (.iload 4, 2) := by decide +kernel
theorem dX7_at_8 : decode cX7_at 8 = .ok (.bipush 60, 2) := by decide +kernel
theorem dX7_at_10 : decode cX7_at 10 = .ok (.iload_n 1, 1) := by decide +kernel
theorem dX7_at_11 : decode cX7_at 11 = .ok (.imul, 1) := by decide +kernel
theorem dX7_at_12 : decode cX7_at 12 = .ok (.bipush 60, 2) := by decide +kernel
theorem dX7_at_14 : decode cX7_at 14 = .ok (.iadd, 1) := by decide +kernel
theorem dX7_at_15 : decode cX7_at 15 = .ok (.if_icmp .ge 43, 3) := by decide +kernel
theorem dX7_at_18 : decode cX7_at 18 = .ok (.aload_n 0, 1) := by decide +kernel
theorem dX7_at_19 : decode cX7_at 19 = .ok (.getfield 16, 3) := by decide +kernel
theorem dX7_at_22 : decode cX7_at 22 = .ok (.iload 4, 2) := by decide +kernel
theorem dX7_at_24 : decode cX7_at 24 = .ok (.iaload, 1) := by decide +kernel
theorem dX7_at_25 : decode cX7_at 25 = .ok (.ifCond .le 27, 3) := by decide +kernel
theorem dX7_at_28 : decode cX7_at 28 = .ok (.aload_n 0, 1) := by decide +kernel
theorem dX7_at_29 : decode cX7_at 29 = .ok (.getfield 7, 3) := by decide +kernel
theorem dX7_at_32 : decode cX7_at 32 = .ok (.iload 4, 2) := by decide +kernel
theorem dX7_at_34 : decode cX7_at 34 = .ok (.iaload, 1) := by decide +kernel
theorem dX7_at_35 : decode cX7_at 35 = .ok (.iload_n 2, 1) := by decide +kernel
theorem dX7_at_36 : decode cX7_at 36 = .ok (.if_icmp .ne 16, 3) := by decide +kernel
theorem dX7_at_39 : decode cX7_at 39 = .ok (.aload_n 0, 1) := by decide +kernel
theorem dX7_at_40 : decode cX7_at 40 = .ok (.iload 4, 2) := by decide +kernel
theorem dX7_at_42 : decode cX7_at 42 = .ok (.iload_n 3, 1) := by decide +kernel
theorem dX7_at_43 : decode cX7_at 43 = .ok (.invokevirtual 82, 3) := by decide +kernel
theorem dX7_at_46 : decode cX7_at 46 = .ok (.ifCond .eq 6, 3) := by decide +kernel
theorem dX7_at_49 : decode cX7_at 49 = .ok (.iload 4, 2) := by decide +kernel
theorem dX7_at_51 : decode cX7_at 51 = .ok (.ireturn, 1) := by decide +kernel
theorem dX7_at_52 : decode cX7_at 52 = .ok (.iinc 4 1, 3) := by decide +kernel
theorem dX7_at_55 : decode cX7_at 55 = .ok (.goto (-49), 3) := by decide +kernel
theorem dX7_at_58 : decode cX7_at 58 = .ok (.iconst (-1), 1) := by decide +kernel
theorem dX7_at_59 : decode cX7_at 59 = .ok (.ireturn, 1) := by decide +kernel
set_option maxRecDepth 20000 in
theorem ggX7_fills_X7_isPunched : GoodIn wsX7_fills wsX7_isPunched := goodIn_r _ [9, 2, 3, 10, 11, 12, 8, 13, 14, 15, 16, 17, 18, 19, 20, 21, 22, 23, 24, 25, 26, 27, 28, 29, 30, 31, 32, 33, 34, 35, 36, 37, 38, 39, 40, 41, 42, 43, 44, 45, 46, 47, 48, 49, 50] (by decide +kernel) (by decide +kernel)
set_option maxRecDepth 20000 in
theorem gX7_fills_X7_isPunched : GoodIn wsX7_fills (wsV RX7 86 RX7 yX7_isPunched wsX7_isPunched) := goodIn_app (goodIn_of _ (by decide +kernel)) ggX7_fills_X7_isPunched
theorem dX7_fills_0 : decode cX7_fills 0 = .ok (.iconst 0, 1) := by decide +kernel
theorem dX7_fills_1 : decode cX7_fills 1 = .ok (.istore_n 2, 1) := by decide +kernel
theorem dX7_fills_2 : decode cX7_fills 2 = .ok (.iload_n 2, 1) := by decide +kernel
theorem dX7_fills_3 : decode cX7_fills 3 = .ok (.sipush 7200, 3) := by decide +kernel
theorem dX7_fills_6 : decode cX7_fills 6 = .ok (.if_icmp .ge 16, 3) := by decide +kernel
theorem dX7_fills_9 : decode cX7_fills 9 = .ok (.aload_n 0, 1) := by decide +kernel
theorem dX7_fills_10 : decode cX7_fills 10 = .ok (.getfield 28, 3) := by decide +kernel
theorem dX7_fills_13 : decode cX7_fills 13 = .ok (.iload_n 2, 1) := by decide +kernel
theorem dX7_fills_14 : decode cX7_fills 14 = .ok (.iconst 0, 1) := by decide +kernel
theorem dX7_fills_15 : decode cX7_fills 15 = .ok (.bastore, 1) := by decide +kernel
theorem dX7_fills_16 : decode cX7_fills 16 = .ok (.iinc 2 1, 3) := by decide +kernel
theorem dX7_fills_19 : decode cX7_fills 19 = .ok (.goto (-17), 3) := by decide +kernel
theorem dX7_fills_22 : decode cX7_fills 22 = .ok (.bipush 60, 2) := by decide +kernel
theorem dX7_fills_24 : decode cX7_fills 24 = .ok (.iload_n 1, 1) := by decide +kernel
theorem dX7_fills_25 : decode cX7_fills 25 = .ok (.imul, 1) := by decide +kernel
theorem dX7_fills_26 : decode cX7_fills 26 = .ok (.istore_n 2, 1) := by decide +kernel
theorem dX7_fills_27 : decode cX7_fills 27 = .ok (.iload_n 2, 1) := by decide +kernel
theorem dX7_fills_28 : decode cX7_fills 28 = .ok (.bipush 60, 2) := by decide +kernel
theorem dX7_fills_30 : decode cX7_fills 30 = .ok (.iload_n 1, 1) := by decide +kernel
theorem dX7_fills_31 : decode cX7_fills 31 = .ok (.imul, 1) := by decide +kernel
theorem dX7_fills_32 : decode cX7_fills 32 = .ok (.bipush 60, 2) := by decide +kernel
theorem dX7_fills_34 : decode cX7_fills 34 = .ok (.iadd, 1) := by decide +kernel
theorem dX7_fills_35 : decode cX7_fills 35 = .ok (.if_icmp .ge 65, 3) := by decide +kernel
theorem dX7_fills_38 : decode cX7_fills 38 = .ok (.aload_n 0, 1) := by decide +kernel
theorem dX7_fills_39 : decode cX7_fills 39 = .ok (.getfield 13, 3) := by decide +kernel
theorem dX7_fills_42 : decode cX7_fills 42 = .ok (.iload_n 2, 1) := by decide +kernel
theorem dX7_fills_43 : decode cX7_fills 43 = .ok (.iaload, 1) := by decide +kernel
theorem dX7_fills_44 : decode cX7_fills 44 = .ok (.istore_n 3, 1) := by decide +kernel
theorem dX7_fills_45 : decode cX7_fills 45 = .ok (.iload_n 3, 1) := by decide +kernel
theorem dX7_fills_46 : decode cX7_fills 46 = .ok (.aload_n 0, 1) := by decide +kernel
theorem dX7_fills_47 : decode cX7_fills 47 = .ok (.getfield 13, 3) := by decide +kernel
theorem dX7_fills_50 : decode cX7_fills 50 = .ok (.iload_n 2, 1) := by decide +kernel
theorem dX7_fills_51 : decode cX7_fills 51 = .ok (.iaload, 1) := by decide +kernel
theorem dX7_fills_52 : decode cX7_fills 52 = .ok (.aload_n 0, 1) := by decide +kernel
theorem dX7_fills_53 : decode cX7_fills 53 = .ok (.getfield 16, 3) := by decide +kernel
theorem dX7_fills_56 : decode cX7_fills 56 = .ok (.iload_n 2, 1) := by decide +kernel
theorem dX7_fills_57 : decode cX7_fills 57 = .ok (.iaload, 1) := by decide +kernel
theorem dX7_fills_58 : decode cX7_fills 58 = .ok (.iadd, 1) := by decide +kernel
theorem dX7_fills_59 : decode cX7_fills 59 = .ok (.if_icmp .ge 35, 3) := by decide +kernel
theorem dX7_fills_62 : decode cX7_fills 62 = .ok (.aload_n 0, 1) := by decide +kernel
theorem dX7_fills_63 : decode cX7_fills 63 = .ok (.iload_n 2, 1) := by decide +kernel
theorem dX7_fills_64 : decode cX7_fills 64 = .ok (.iload_n 3, 1) := by decide +kernel
theorem dX7_fills_65 : decode cX7_fills 65 = .ok (.invokevirtual 86, 3) := by decide +kernel
theorem dX7_fills_68 : decode cX7_fills 68 = .ok (.ifCond .eq 20, 3) := by decide +kernel
theorem dX7_fills_71 : decode cX7_fills 71 = .ok (.aload_n 0, 1) := by decide +kernel
theorem dX7_fills_72 : decode cX7_fills 72 = .ok (.getfield 28, 3) := by decide +kernel
theorem dX7_fills_75 : decode cX7_fills 75 = .ok (.bipush 24, 2) := by decide +kernel
theorem dX7_fills_77 : decode cX7_fills 77 = .ok (.iload_n 3, 1) := by decide +kernel
theorem dX7_fills_78 : decode cX7_fills 78 = .ok (.imul, 1) := by decide +kernel
theorem dX7_fills_79 : decode cX7_fills 79 = .ok (.aload_n 0, 1) := by decide +kernel
theorem dX7_fills_80 : decode cX7_fills 80 = .ok (.getfield 7, 3) := by decide +kernel
theorem dX7_fills_83 : decode cX7_fills 83 = .ok (.iload_n 2, 1) := by decide +kernel
theorem dX7_fills_84 : decode cX7_fills 84 = .ok (.iaload, 1) := by decide +kernel
theorem dX7_fills_85 : decode cX7_fills 85 = .ok (.iadd, 1) := by decide +kernel
theorem dX7_fills_86 : decode cX7_fills 86 = .ok (.iconst 1, 1) := by decide +kernel
theorem dX7_fills_87 : decode cX7_fills 87 = .ok (.bastore, 1) := by decide +kernel
theorem dX7_fills_88 : decode cX7_fills 88 = .ok (.iinc 3 1, 3) := by decide +kernel
theorem dX7_fills_91 : decode cX7_fills 91 = .ok (.goto (-46), 3) := by decide +kernel
theorem dX7_fills_94 : decode cX7_fills 94 = .ok (.iinc 2 1, 3) := by decide +kernel
theorem dX7_fills_97 : decode cX7_fills 97 = .ok (.goto (-70), 3) := by decide +kernel
theorem dX7_fills_100 : decode cX7_fills 100 = .ok (.return_, 1) := by decide +kernel
set_option maxRecDepth 20000 in
theorem ggX7_bears_X7_fills : GoodIn wsX7_bears wsX7_fills := goodIn_r _ [6, 1, 7, 8, 9, 10, 11, 12, 5, 13, 14, 15, 16, 17, 18, 19, 20, 21, 22, 23, 24, 25, 26, 27, 28, 29, 30, 31, 32, 33, 34, 35, 36, 37, 38, 39, 40, 41, 42, 43, 44, 45, 46, 47, 48, 49, 50, 51, 52, 53, 54] (by decide +kernel) (by decide +kernel)
set_option maxRecDepth 20000 in
theorem gX7_bears_X7_fills : GoodIn wsX7_bears (wsV RX7 89 RX7 yX7_fills wsX7_fills) := goodIn_app (goodIn_of _ (by decide +kernel)) ggX7_bears_X7_fills
theorem dX7_bears_0 : decode cX7_bears 0 = .ok (.aload_n 0, 1) := by decide +kernel
theorem dX7_bears_1 : decode cX7_bears 1 = .ok (.iload_n 1, 1) := by decide +kernel
theorem dX7_bears_2 : decode cX7_bears 2 = .ok (.invokevirtual 89, 3) := by decide +kernel
theorem dX7_bears_5 : decode cX7_bears 5 = .ok (.iload_n 2, 1) := by decide +kernel
theorem dX7_bears_6 : decode cX7_bears 6 = .ok (.istore 4, 2) := by decide +kernel
theorem dX7_bears_8 : decode cX7_bears 8 = .ok (.iload 4, 2) := by decide +kernel
theorem dX7_bears_10 : decode cX7_bears 10 = .ok (.iload_n 3, 1) := by decide +kernel
theorem dX7_bears_11 : decode cX7_bears 11 = .ok (.if_icmp .gt 93, 3) := by decide +kernel
theorem dX7_bears_14 : decode cX7_bears 14 = .ok (.iconst 0, 1) := by decide +kernel
theorem dX7_bears_15 : decode cX7_bears 15 = .ok (.istore 5, 2) := by decide +kernel
theorem dX7_bears_17 : decode cX7_bears 17 = .ok (.iconst 0, 1) := by decide +kernel
theorem dX7_bears_18 : decode cX7_bears 18 = .ok (.istore 6, 2) := by decide +kernel
theorem dX7_bears_20 : decode cX7_bears 20 = .ok (.iconst 0, 1) := by decide +kernel
theorem dX7_bears_21 : decode cX7_bears 21 = .ok (.istore 7, 2) := by decide +kernel
theorem dX7_bears_23 : decode cX7_bears 23 = .ok (.iload 7, 2) := by decide +kernel
theorem dX7_bears_25 : decode cX7_bears 25 = .ok (.bipush 24, 2) := by decide +kernel
theorem dX7_bears_27 : decode cX7_bears 27 = .ok (.if_icmp .ge 62, 3) := by decide +kernel
theorem dX7_bears_30 : decode cX7_bears 30 = .ok (.aload_n 0, 1) := by decide +kernel
theorem dX7_bears_31 : decode cX7_bears 31 = .ok (.getfield 28, 3) := by decide +kernel
theorem dX7_bears_34 : decode cX7_bears 34 = .ok (.bipush 24, 2) := by decide +kernel
theorem dX7_bears_36 : decode cX7_bears 36 = .ok (.iload 4, 2) := by decide +kernel
theorem dX7_bears_38 : decode cX7_bears 38 = .ok (.imul, 1) := by decide +kernel
theorem dX7_bears_39 : decode cX7_bears 39 = .ok (.iload 7, 2) := by decide +kernel
theorem dX7_bears_41 : decode cX7_bears 41 = .ok (.iadd, 1) := by decide +kernel
theorem dX7_bears_42 : decode cX7_bears 42 = .ok (.baload, 1) := by decide +kernel
theorem dX7_bears_43 : decode cX7_bears 43 = .ok (.istore 8, 2) := by decide +kernel
theorem dX7_bears_45 : decode cX7_bears 45 = .ok (.iload 5, 2) := by decide +kernel
theorem dX7_bears_47 : decode cX7_bears 47 = .ok (.iload 8, 2) := by decide +kernel
theorem dX7_bears_49 : decode cX7_bears 49 = .ok (.ifCond .eq 7, 3) := by decide +kernel
theorem dX7_bears_52 : decode cX7_bears 52 = .ok (.iconst 1, 1) := by decide +kernel
theorem dX7_bears_53 : decode cX7_bears 53 = .ok (.goto 4, 3) := by decide +kernel
theorem dX7_bears_56 : decode cX7_bears 56 = .ok (.iconst 0, 1) := by decide +kernel
theorem dX7_bears_57 : decode cX7_bears 57 = .ok (.iadd, 1) := by decide +kernel
theorem dX7_bears_58 : decode cX7_bears 58 = .ok (.istore 5, 2) := by decide +kernel
theorem dX7_bears_60 : decode cX7_bears 60 = .ok (.iload 8, 2) := by decide +kernel
theorem dX7_bears_62 : decode cX7_bears 62 = .ok (.ifCond .eq 10, 3) := by decide +kernel
theorem dX7_bears_65 : decode cX7_bears 65 = .ok (.iload 6, 2) := by decide +kernel
theorem dX7_bears_67 : decode cX7_bears 67 = .ok (.iconst 1, 1) := by decide +kernel
theorem dX7_bears_68 : decode cX7_bears 68 = .ok (.iadd, 1) := by decide +kernel
theorem dX7_bears_69 : decode cX7_bears 69 = .ok (.goto 4, 3) := by decide +kernel
theorem dX7_bears_72 : decode cX7_bears 72 = .ok (.iconst 0, 1) := by decide +kernel
theorem dX7_bears_73 : decode cX7_bears 73 = .ok (.istore 6, 2) := by decide +kernel
theorem dX7_bears_75 : decode cX7_bears 75 = .ok (.iload 6, 2) := by decide +kernel
theorem dX7_bears_77 : decode cX7_bears 77 = .ok (.iconst 4, 1) := by decide +kernel
theorem dX7_bears_78 : decode cX7_bears 78 = .ok (.if_icmp .ne 5, 3) := by decide +kernel
theorem dX7_bears_81 : decode cX7_bears 81 = .ok (.iconst 0, 1) := by decide +kernel
theorem dX7_bears_82 : decode cX7_bears 82 = .ok (.ireturn, 1) := by decide +kernel
theorem dX7_bears_83 : decode cX7_bears 83 = .ok (.iinc 7 1, 3) := by decide +kernel
theorem dX7_bears_86 : decode cX7_bears 86 = .ok (.goto (-63), 3) := by decide +kernel
theorem dX7_bears_89 : decode cX7_bears 89 = .ok (.iload 5, 2) := by decide +kernel
theorem dX7_bears_91 : decode cX7_bears 91 = .ok (.bipush 10, 2) := by decide +kernel
theorem dX7_bears_93 : decode cX7_bears 93 = .ok (.if_icmp .le 5, 3) := by decide +kernel
theorem dX7_bears_96 : decode cX7_bears 96 = .ok (.iconst 0, 1) := by decide +kernel
theorem dX7_bears_97 : decode cX7_bears 97 = .ok (.ireturn, 1) := by decide +kernel
theorem dX7_bears_98 : decode cX7_bears 98 = .ok (.iinc 4 1, 3) := by decide +kernel
theorem dX7_bears_101 : decode cX7_bears 101 = .ok (.goto (-93), 3) := by decide +kernel
theorem dX7_bears_104 : decode cX7_bears 104 = .ok (.iconst 1, 1) := by decide +kernel
theorem dX7_bears_105 : decode cX7_bears 105 = .ok (.ireturn, 1) := by decide +kernel
set_option maxRecDepth 20000 in
theorem ggX7_lays_X7_bears : GoodIn wsX7_lays wsX7_bears := goodIn_r _ [8, 9, 10, 11, 12, 7, 13, 3, 1, 2, 14, 15, 16, 17, 18, 19, 20, 21, 22, 23, 24, 25, 26, 27, 28, 29, 30, 31, 32, 33, 34, 35, 36, 37, 38, 39, 40, 41, 42, 43, 44, 45, 46, 47, 48, 49, 50, 51, 52, 53, 54, 55, 56, 57, 58] (by decide +kernel) (by decide +kernel)
set_option maxRecDepth 20000 in
theorem gX7_lays_X7_bears : GoodIn wsX7_lays (wsV RX7 93 RX7 yX7_bears wsX7_bears) := goodIn_app (goodIn_of _ (by decide +kernel)) ggX7_lays_X7_bears
theorem dX7_lays_0 : decode cX7_lays 0 = .ok (.iconst (-1), 1) := by decide +kernel
theorem dX7_lays_1 : decode cX7_lays 1 = .ok (.istore 5, 2) := by decide +kernel
theorem dX7_lays_3 : decode cX7_lays 3 = .ok (.bipush 60, 2) := by decide +kernel
theorem dX7_lays_5 : decode cX7_lays 5 = .ok (.iload_n 1, 1) := by decide +kernel
theorem dX7_lays_6 : decode cX7_lays 6 = .ok (.imul, 1) := by decide +kernel
theorem dX7_lays_7 : decode cX7_lays 7 = .ok (.istore 6, 2) := by decide +kernel
theorem dX7_lays_9 : decode cX7_lays 9 = .ok (.iload 6, 2) := by decide +kernel
theorem dX7_lays_11 : decode cX7_lays 11 = .ok (.bipush 60, 2) := by decide +kernel
theorem dX7_lays_13 : decode cX7_lays 13 = .ok (.iload_n 1, 1) := by decide +kernel
theorem dX7_lays_14 : decode cX7_lays 14 = .ok (.imul, 1) := by decide +kernel
theorem dX7_lays_15 : decode cX7_lays 15 = .ok (.bipush 60, 2) := by decide +kernel
theorem dX7_lays_17 : decode cX7_lays 17 = .ok (.iadd, 1) := by decide +kernel
theorem dX7_lays_18 : decode cX7_lays 18 = .ok (.if_icmp .ge 77, 3) := by decide +kernel
theorem dX7_lays_21 : decode cX7_lays 21 = .ok (.aload_n 0, 1) := by decide +kernel
theorem dX7_lays_22 : decode cX7_lays 22 = .ok (.getfield 16, 3) := by decide +kernel
theorem dX7_lays_25 : decode cX7_lays 25 = .ok (.iload 6, 2) := by decide +kernel
theorem dX7_lays_27 : decode cX7_lays 27 = .ok (.iaload, 1) := by decide +kernel
theorem dX7_lays_28 : decode cX7_lays 28 = .ok (.ifCond .ne 10, 3) := by decide +kernel
theorem dX7_lays_31 : decode cX7_lays 31 = .ok (.iload 6, 2) := by decide +kernel
theorem dX7_lays_33 : decode cX7_lays 33 = .ok (.istore 5, 2) := by decide +kernel
theorem dX7_lays_35 : decode cX7_lays 35 = .ok (.goto 54, 3) := by decide +kernel
theorem dX7_lays_38 : decode cX7_lays 38 = .ok (.aload_n 0, 1) := by decide +kernel
theorem dX7_lays_39 : decode cX7_lays 39 = .ok (.getfield 7, 3) := by decide +kernel
theorem dX7_lays_42 : decode cX7_lays 42 = .ok (.iload 6, 2) := by decide +kernel
theorem dX7_lays_44 : decode cX7_lays 44 = .ok (.iaload, 1) := by decide +kernel
theorem dX7_lays_45 : decode cX7_lays 45 = .ok (.iload_n 2, 1) := by decide +kernel
theorem dX7_lays_46 : decode cX7_lays 46 = .ok (.if_icmp .ne 43, 3) := by decide +kernel
theorem dX7_lays_49 : decode cX7_lays 49 = .ok (.iload_n 3, 1) := by decide +kernel
theorem dX7_lays_50 : decode cX7_lays 50 = .ok (.aload_n 0, 1) := by decide +kernel
theorem dX7_lays_51 : decode cX7_lays 51 = .ok (.getfield 13, 3) := by decide +kernel
theorem dX7_lays_54 : decode cX7_lays 54 = .ok (.iload 6, 2) := by decide +kernel
theorem dX7_lays_56 : decode cX7_lays 56 = .ok (.iaload, 1) := by decide +kernel
theorem dX7_lays_57 : decode cX7_lays 57 = .ok (.aload_n 0, 1) := by decide +kernel
theorem dX7_lays_58 : decode cX7_lays 58 = .ok (.getfield 16, 3) := by decide +kernel
theorem dX7_lays_61 : decode cX7_lays 61 = .ok (.iload 6, 2) := by decide +kernel
theorem dX7_lays_63 : decode cX7_lays 63 = .ok (.iaload, 1) := by decide +kernel
theorem dX7_lays_64 : decode cX7_lays 64 = .ok (.iadd, 1) := by decide +kernel
theorem dX7_lays_65 : decode cX7_lays 65 = .ok (.iconst 1, 1) := by decide +kernel
theorem dX7_lays_66 : decode cX7_lays 66 = .ok (.iadd, 1) := by decide +kernel
theorem dX7_lays_67 : decode cX7_lays 67 = .ok (.if_icmp .ge 22, 3) := by decide +kernel
theorem dX7_lays_70 : decode cX7_lays 70 = .ok (.aload_n 0, 1) := by decide +kernel
theorem dX7_lays_71 : decode cX7_lays 71 = .ok (.getfield 13, 3) := by decide +kernel
theorem dX7_lays_74 : decode cX7_lays 74 = .ok (.iload 6, 2) := by decide +kernel
theorem dX7_lays_76 : decode cX7_lays 76 = .ok (.iaload, 1) := by decide +kernel
theorem dX7_lays_77 : decode cX7_lays 77 = .ok (.iload_n 3, 1) := by decide +kernel
theorem dX7_lays_78 : decode cX7_lays 78 = .ok (.iload 4, 2) := by decide +kernel
theorem dX7_lays_80 : decode cX7_lays 80 = .ok (.iadd, 1) := by decide +kernel
theorem dX7_lays_81 : decode cX7_lays 81 = .ok (.iconst 1, 1) := by decide +kernel
theorem dX7_lays_82 : decode cX7_lays 82 = .ok (.iadd, 1) := by decide +kernel
theorem dX7_lays_83 : decode cX7_lays 83 = .ok (.if_icmp .ge 6, 3) := by decide +kernel
theorem dX7_lays_86 : decode cX7_lays 86 = .ok (.bipush (-2), 2) := by decide +kernel
theorem dX7_lays_88 : decode cX7_lays 88 = .ok (.ireturn, 1) := by decide +kernel
theorem dX7_lays_89 : decode cX7_lays 89 = .ok (.iinc 6 1, 3) := by decide +kernel
theorem dX7_lays_92 : decode cX7_lays 92 = .ok (.goto (-83), 3) := by decide +kernel
theorem dX7_lays_95 : decode cX7_lays 95 = .ok (.aload_n 0, 1) := by decide +kernel
theorem dX7_lays_96 : decode cX7_lays 96 = .ok (.getfield 7, 3) := by decide +kernel
theorem dX7_lays_99 : decode cX7_lays 99 = .ok (.iload 5, 2) := by decide +kernel
theorem dX7_lays_101 : decode cX7_lays 101 = .ok (.iload_n 2, 1) := by decide +kernel
theorem dX7_lays_102 : decode cX7_lays 102 = .ok (.iastore, 1) := by decide +kernel
theorem dX7_lays_103 : decode cX7_lays 103 = .ok (.aload_n 0, 1) := by decide +kernel
theorem dX7_lays_104 : decode cX7_lays 104 = .ok (.getfield 13, 3) := by decide +kernel
theorem dX7_lays_107 : decode cX7_lays 107 = .ok (.iload 5, 2) := by decide +kernel
theorem dX7_lays_109 : decode cX7_lays 109 = .ok (.iload_n 3, 1) := by decide +kernel
theorem dX7_lays_110 : decode cX7_lays 110 = .ok (.iastore, 1) := by decide +kernel
theorem dX7_lays_111 : decode cX7_lays 111 = .ok (.aload_n 0, 1) := by decide +kernel
theorem dX7_lays_112 : decode cX7_lays 112 = .ok (.getfield 16, 3) := by decide +kernel
theorem dX7_lays_115 : decode cX7_lays 115 = .ok (.iload 5, 2) := by decide +kernel
theorem dX7_lays_117 : decode cX7_lays 117 = .ok (.iload 4, 2) := by decide +kernel
theorem dX7_lays_119 : decode cX7_lays 119 = .ok (.iastore, 1) := by decide +kernel
theorem dX7_lays_120 : decode cX7_lays 120 = .ok (.aload_n 0, 1) := by decide +kernel
theorem dX7_lays_121 : decode cX7_lays 121 = .ok (.iload_n 1, 1) := by decide +kernel
theorem dX7_lays_122 : decode cX7_lays 122 = .ok (.iload_n 3, 1) := by decide +kernel
theorem dX7_lays_123 : decode cX7_lays 123 = .ok (.iload_n 3, 1) := by decide +kernel
theorem dX7_lays_124 : decode cX7_lays 124 = .ok (.iload 4, 2) := by decide +kernel
theorem dX7_lays_126 : decode cX7_lays 126 = .ok (.iadd, 1) := by decide +kernel
theorem dX7_lays_127 : decode cX7_lays 127 = .ok (.iconst 1, 1) := by decide +kernel
theorem dX7_lays_128 : decode cX7_lays 128 = .ok (.isub, 1) := by decide +kernel
theorem dX7_lays_129 : decode cX7_lays 129 = .ok (.invokevirtual 93, 3) := by decide +kernel
theorem dX7_lays_132 : decode cX7_lays 132 = .ok (.ifCond .eq 5, 3) := by decide +kernel
theorem dX7_lays_135 : decode cX7_lays 135 = .ok (.iconst 0, 1) := by decide +kernel
theorem dX7_lays_136 : decode cX7_lays 136 = .ok (.ireturn, 1) := by decide +kernel
theorem dX7_lays_137 : decode cX7_lays 137 = .ok (.aload_n 0, 1) := by decide +kernel
theorem dX7_lays_138 : decode cX7_lays 138 = .ok (.getfield 16, 3) := by decide +kernel
theorem dX7_lays_141 : decode cX7_lays 141 = .ok (.iload 5, 2) := by decide +kernel
theorem dX7_lays_143 : decode cX7_lays 143 = .ok (.iconst 0, 1) := by decide +kernel
theorem dX7_lays_144 : decode cX7_lays 144 = .ok (.iastore, 1) := by decide +kernel
theorem dX7_lays_145 : decode cX7_lays 145 = .ok (.bipush (-3), 2) := by decide +kernel
theorem dX7_lays_147 : decode cX7_lays 147 = .ok (.ireturn, 1) := by decide +kernel
set_option maxRecDepth 20000 in
theorem ggX7_lay_X7_isRoll : GoodIn wsX7_lay wsX7_isRoll := goodIn_r _ [6, 7, 8, 9, 5, 10, 39, 40, 41, 42, 43, 44, 45, 46, 47, 48, 49, 50, 51, 52, 53, 54, 55, 56, 57, 58, 59, 60, 61, 62, 63, 64, 65, 66, 67, 68, 69, 70, 71, 72] (by decide +kernel) (by decide +kernel)
set_option maxRecDepth 20000 in
theorem gX7_lay_X7_isRoll : GoodIn wsX7_lay (wsV RX7 96 RX7 yX7_isRoll wsX7_isRoll) := goodIn_app (goodIn_of _ (by decide +kernel)) ggX7_lay_X7_isRoll
set_option maxRecDepth 20000 in
theorem ggX7_lay_X7_within : GoodIn wsX7_lay wsX7_within := goodIn_r _ [10] (by decide +kernel) (by decide +kernel)
set_option maxRecDepth 20000 in
theorem gX7_lay_X7_within : GoodIn wsX7_lay (va_wsS RX7 78 yX7_within wsX7_within) := goodIn_app (goodIn_of _ (by decide +kernel)) ggX7_lay_X7_within
set_option maxRecDepth 20000 in
theorem ggX7_lay_X7_notes : GoodIn wsX7_lay wsX7_notes := goodIn_r _ [14, 15, 39, 40, 41, 42, 43, 44, 45, 46, 47, 48, 49, 50, 51, 52, 53, 54, 55, 56, 57, 58, 59, 60, 61, 62, 63, 64, 65, 66, 67, 68, 69, 70, 71, 72] (by decide +kernel) (by decide +kernel)
set_option maxRecDepth 20000 in
theorem gX7_lay_X7_notes : GoodIn wsX7_lay (wsV RX7 100 RX7 yX7_notes wsX7_notes) := goodIn_app (goodIn_of _ (by decide +kernel)) ggX7_lay_X7_notes
set_option maxRecDepth 20000 in
theorem ggX7_lay_X7_lays : GoodIn wsX7_lay wsX7_lays := goodIn_r _ [19, 15, 20, 21, 22, 23, 24, 5, 25, 26, 27, 28, 29, 30, 31, 32, 33, 34, 35, 36, 37, 38, 8, 9, 10, 39, 40, 41, 42, 43, 44, 45, 46, 47, 48, 49, 50, 51, 52, 53, 54, 55, 56, 57, 58, 59, 60, 61, 62, 63, 64, 65, 66, 67, 68, 69, 70, 71, 72] (by decide +kernel) (by decide +kernel)
set_option maxRecDepth 20000 in
theorem gX7_lay_X7_lays : GoodIn wsX7_lay (wsV RX7 104 RX7 yX7_lays wsX7_lays) := goodIn_app (goodIn_of _ (by decide +kernel)) ggX7_lay_X7_lays
theorem dX7_lay_0 : decode cX7_lay 0 = .ok (.aload_n 0, 1) := by decide +kernel
theorem dX7_lay_1 : decode cX7_lay 1 = .ok (.iconst 0, 1) := by decide +kernel
theorem dX7_lay_2 : decode cX7_lay 2 = .ok (.putfield 71, 3) := by decide +kernel
theorem dX7_lay_5 : decode cX7_lay 5 = .ok (.aload_n 0, 1) := by decide +kernel
theorem dX7_lay_6 : decode cX7_lay 6 = .ok (.iload_n 1, 1) := by decide +kernel
theorem dX7_lay_7 : decode cX7_lay 7 = .ok (.invokevirtual 96, 3) := by decide +kernel
theorem dX7_lay_10 : decode cX7_lay 10 = .ok (.ifCond .eq 55, 3) := by decide +kernel
theorem dX7_lay_13 : decode cX7_lay 13 = .ok (.iload_n 2, 1) := by decide +kernel
theorem dX7_lay_14 : decode cX7_lay 14 = .ok (.iconst 0, 1) := by decide +kernel
theorem dX7_lay_15 : decode cX7_lay 15 = .ok (.bipush 23, 2) := by decide +kernel
theorem dX7_lay_17 : decode cX7_lay 17 = .ok (.invokestatic 78, 3) := by decide +kernel
theorem dX7_lay_20 : decode cX7_lay 20 = .ok (.ifCond .eq 45, 3) := by decide +kernel
theorem dX7_lay_23 : decode cX7_lay 23 = .ok (.iload_n 3, 1) := by decide +kernel
theorem dX7_lay_24 : decode cX7_lay 24 = .ok (.iconst 0, 1) := by decide +kernel
theorem dX7_lay_25 : decode cX7_lay 25 = .ok (.sipush 299, 3) := by decide +kernel
theorem dX7_lay_28 : decode cX7_lay 28 = .ok (.invokestatic 78, 3) := by decide +kernel
theorem dX7_lay_31 : decode cX7_lay 31 = .ok (.ifCond .eq 34, 3) := by decide +kernel
theorem dX7_lay_34 : decode cX7_lay 34 = .ok (.iload 4, 2) := by decide +kernel
theorem dX7_lay_36 : decode cX7_lay 36 = .ok (.iconst 1, 1) := by decide +kernel
theorem dX7_lay_37 : decode cX7_lay 37 = .ok (.bipush 60, 2) := by decide +kernel
theorem dX7_lay_39 : decode cX7_lay 39 = .ok (.invokestatic 78, 3) := by decide +kernel
theorem dX7_lay_42 : decode cX7_lay 42 = .ok (.ifCond .eq 23, 3) := by decide +kernel
theorem dX7_lay_45 : decode cX7_lay 45 = .ok (.iload_n 3, 1) := by decide +kernel
theorem dX7_lay_46 : decode cX7_lay 46 = .ok (.iload 4, 2) := by decide +kernel
theorem dX7_lay_48 : decode cX7_lay 48 = .ok (.iadd, 1) := by decide +kernel
theorem dX7_lay_49 : decode cX7_lay 49 = .ok (.sipush 300, 3) := by decide +kernel
theorem dX7_lay_52 : decode cX7_lay 52 = .ok (.if_icmp .gt 13, 3) := by decide +kernel
theorem dX7_lay_55 : decode cX7_lay 55 = .ok (.aload_n 0, 1) := by decide +kernel
theorem dX7_lay_56 : decode cX7_lay 56 = .ok (.iload_n 1, 1) := by decide +kernel
theorem dX7_lay_57 : decode cX7_lay 57 = .ok (.invokevirtual 100, 3) := by decide +kernel
theorem dX7_lay_60 : decode cX7_lay 60 = .ok (.bipush 60, 2) := by decide +kernel
theorem dX7_lay_62 : decode cX7_lay 62 = .ok (.if_icmp .ne 5, 3) := by decide +kernel
theorem dX7_lay_65 : decode cX7_lay 65 = .ok (.iconst (-1), 1) := by decide +kernel
theorem dX7_lay_66 : decode cX7_lay 66 = .ok (.ireturn, 1) := by decide +kernel
theorem dX7_lay_67 : decode cX7_lay 67 = .ok (.aload_n 0, 1) := by decide +kernel
theorem dX7_lay_68 : decode cX7_lay 68 = .ok (.iload_n 1, 1) := by decide +kernel
theorem dX7_lay_69 : decode cX7_lay 69 = .ok (.iload_n 2, 1) := by decide +kernel
theorem dX7_lay_70 : decode cX7_lay 70 = .ok (.iload_n 3, 1) := by decide +kernel
theorem dX7_lay_71 : decode cX7_lay 71 = .ok (.iload 4, 2) := by decide +kernel
theorem dX7_lay_73 : decode cX7_lay 73 = .ok (.invokevirtual 104, 3) := by decide +kernel
theorem dX7_lay_76 : decode cX7_lay 76 = .ok (.istore 5, 2) := by decide +kernel
theorem dX7_lay_78 : decode cX7_lay 78 = .ok (.iload 5, 2) := by decide +kernel
theorem dX7_lay_80 : decode cX7_lay 80 = .ok (.ifCond .ne 7, 3) := by decide +kernel
theorem dX7_lay_83 : decode cX7_lay 83 = .ok (.iconst 1, 1) := by decide +kernel
theorem dX7_lay_84 : decode cX7_lay 84 = .ok (.goto 5, 3) := by decide +kernel
theorem dX7_lay_87 : decode cX7_lay 87 = .ok (.iload 5, 2) := by decide +kernel
theorem dX7_lay_89 : decode cX7_lay 89 = .ok (.ireturn, 1) := by decide +kernel
set_option maxRecDepth 20000 in
theorem ggX7_lift_X7_isRoll : GoodIn wsX7_lift wsX7_isRoll := goodIn_r _ [7, 8, 9, 10, 6, 11, 22, 23, 24, 25, 26, 27, 28, 29, 30, 31, 32, 33, 34, 35, 36, 37, 38, 39, 40, 41, 42, 43, 44, 45, 46, 47, 48, 49, 50, 51, 52, 53, 54, 55] (by decide +kernel) (by decide +kernel)
set_option maxRecDepth 20000 in
theorem gX7_lift_X7_isRoll : GoodIn wsX7_lift (wsV RX7 96 RX7 yX7_isRoll wsX7_isRoll) := goodIn_app (goodIn_of _ (by decide +kernel)) ggX7_lift_X7_isRoll
set_option maxRecDepth 20000 in
theorem ggX7_lift_X7_at : GoodIn wsX7_lift wsX7_at := goodIn_r _ [15, 2, 16, 17, 18, 19, 6, 20, 21, 9, 10, 11, 22, 23, 24, 25, 26, 27, 28, 29, 30, 31, 32, 33, 34, 35, 36, 37, 38, 39, 40, 41, 42, 43, 44, 45, 46, 47, 48, 49, 50, 51, 52, 53, 54, 55] (by decide +kernel) (by decide +kernel)
set_option maxRecDepth 20000 in
theorem gX7_lift_X7_at : GoodIn wsX7_lift (wsV RX7 108 RX7 yX7_at wsX7_at) := goodIn_app (goodIn_of _ (by decide +kernel)) ggX7_lift_X7_at
theorem dX7_lift_0 : decode cX7_lift 0 = .ok (.aload_n 0, 1) := by decide +kernel
theorem dX7_lift_1 : decode cX7_lift 1 = .ok (.iconst 0, 1) := by decide +kernel
theorem dX7_lift_2 : decode cX7_lift 2 = .ok (.putfield 71, 3) := by decide +kernel
theorem dX7_lift_5 : decode cX7_lift 5 = .ok (.aload_n 0, 1) := by decide +kernel
theorem dX7_lift_6 : decode cX7_lift 6 = .ok (.iload_n 1, 1) := by decide +kernel
theorem dX7_lift_7 : decode cX7_lift 7 = .ok (.invokevirtual 96, 3) := by decide +kernel
theorem dX7_lift_10 : decode cX7_lift 10 = .ok (.ifCond .eq 13, 3) := by decide +kernel
theorem dX7_lift_13 : decode cX7_lift 13 = .ok (.aload_n 0, 1) := by decide +kernel
theorem dX7_lift_14 : decode cX7_lift 14 = .ok (.iload_n 1, 1) := by decide +kernel
theorem dX7_lift_15 : decode cX7_lift 15 = .ok (.iload_n 2, 1) := by decide +kernel
theorem dX7_lift_16 : decode cX7_lift 16 = .ok (.iload_n 3, 1) := by decide +kernel
theorem dX7_lift_17 : decode cX7_lift 17 = .ok (.invokevirtual 108, 3) := by decide +kernel
theorem dX7_lift_20 : decode cX7_lift 20 = .ok (.goto 4, 3) := by decide +kernel
theorem dX7_lift_23 : decode cX7_lift 23 = .ok (.iconst (-1), 1) := by decide +kernel
theorem dX7_lift_24 : decode cX7_lift 24 = .ok (.istore 4, 2) := by decide +kernel
theorem dX7_lift_26 : decode cX7_lift 26 = .ok (.iload 4, 2) := by decide +kernel
theorem dX7_lift_28 : decode cX7_lift 28 = .ok (.iconst (-1), 1) := by decide +kernel
theorem dX7_lift_29 : decode cX7_lift 29 = .ok (.if_icmp .ne 5, 3) := by decide +kernel
theorem dX7_lift_32 : decode cX7_lift 32 = .ok (.iconst (-1), 1) := by decide +kernel
theorem dX7_lift_33 : decode cX7_lift 33 = .ok (.ireturn, 1) := by decide +kernel
theorem dX7_lift_34 : decode cX7_lift 34 = .ok (.aload_n 0, 1) := by decide +kernel
theorem dX7_lift_35 : decode cX7_lift 35 = .ok (.getfield 16, 3) := by decide +kernel
theorem dX7_lift_38 : decode cX7_lift 38 = .ok (.iload 4, 2) := by decide +kernel
theorem dX7_lift_40 : decode cX7_lift 40 = .ok (.iaload, 1) := by decide +kernel
theorem dX7_lift_41 : decode cX7_lift 41 = .ok (.istore 5, 2) := by decide +kernel
theorem dX7_lift_43 : decode cX7_lift 43 = .ok (.aload_n 0, 1) := by decide +kernel
theorem dX7_lift_44 : decode cX7_lift 44 = .ok (.getfield 16, 3) := by decide +kernel
theorem dX7_lift_47 : decode cX7_lift 47 = .ok (.iload 4, 2) := by decide +kernel
theorem dX7_lift_49 : decode cX7_lift 49 = .ok (.iconst 0, 1) := by decide +kernel
theorem dX7_lift_50 : decode cX7_lift 50 = .ok (.iastore, 1) := by decide +kernel
theorem dX7_lift_51 : decode cX7_lift 51 = .ok (.iload 5, 2) := by decide +kernel
theorem dX7_lift_53 : decode cX7_lift 53 = .ok (.ireturn, 1) := by decide +kernel
set_option maxRecDepth 20000 in
theorem ggX7_hole_X7_isRoll : GoodIn wsX7_hole wsX7_isRoll := goodIn_r _ [6, 7, 8, 9, 5, 10, 26, 27, 28, 29, 30, 31, 32, 33, 34, 35, 36, 37, 38, 39, 40, 41, 42, 43, 44, 45, 46, 47, 48, 49, 50, 51, 52, 53, 54, 55, 56, 57, 58, 59] (by decide +kernel) (by decide +kernel)
set_option maxRecDepth 20000 in
theorem gX7_hole_X7_isRoll : GoodIn wsX7_hole (wsV RX7 96 RX7 yX7_isRoll wsX7_isRoll) := goodIn_app (goodIn_of _ (by decide +kernel)) ggX7_hole_X7_isRoll
set_option maxRecDepth 20000 in
theorem ggX7_hole_X7_within : GoodIn wsX7_hole wsX7_within := goodIn_r _ [10] (by decide +kernel) (by decide +kernel)
set_option maxRecDepth 20000 in
theorem gX7_hole_X7_within : GoodIn wsX7_hole (va_wsS RX7 78 yX7_within wsX7_within) := goodIn_app (goodIn_of _ (by decide +kernel)) ggX7_hole_X7_within
set_option maxRecDepth 20000 in
theorem ggX7_hole_X7_at : GoodIn wsX7_hole wsX7_at := goodIn_r _ [14, 15, 16, 17, 18, 19, 5, 20, 21, 8, 9, 10, 26, 27, 28, 29, 30, 31, 32, 33, 34, 35, 36, 37, 38, 39, 40, 41, 42, 43, 44, 45, 46, 47, 48, 49, 50, 51, 52, 53, 54, 55, 56, 57, 58, 59] (by decide +kernel) (by decide +kernel)
set_option maxRecDepth 20000 in
theorem gX7_hole_X7_at : GoodIn wsX7_hole (wsV RX7 108 RX7 yX7_at wsX7_at) := goodIn_app (goodIn_of _ (by decide +kernel)) ggX7_hole_X7_at
set_option maxRecDepth 20000 in
theorem ggX7_hole_X7_isPunched : GoodIn wsX7_hole wsX7_isPunched := goodIn_r _ [25, 21, 15, 17, 18, 19, 5, 20, 8, 9, 10, 26, 27, 28, 29, 30, 31, 32, 33, 34, 35, 36, 37, 38, 39, 40, 41, 42, 43, 44, 45, 46, 47, 48, 49, 50, 51, 52, 53, 54, 55, 56, 57, 58, 59] (by decide +kernel) (by decide +kernel)
set_option maxRecDepth 20000 in
theorem gX7_hole_X7_isPunched : GoodIn wsX7_hole (wsV RX7 86 RX7 yX7_isPunched wsX7_isPunched) := goodIn_app (goodIn_of _ (by decide +kernel)) ggX7_hole_X7_isPunched
theorem dX7_hole_0 : decode cX7_hole 0 = .ok (.aload_n 0, 1) := by decide +kernel
theorem dX7_hole_1 : decode cX7_hole 1 = .ok (.iconst 0, 1) := by decide +kernel
theorem dX7_hole_2 : decode cX7_hole 2 = .ok (.putfield 71, 3) := by decide +kernel
theorem dX7_hole_5 : decode cX7_hole 5 = .ok (.aload_n 0, 1) := by decide +kernel
theorem dX7_hole_6 : decode cX7_hole 6 = .ok (.iload_n 1, 1) := by decide +kernel
theorem dX7_hole_7 : decode cX7_hole 7 = .ok (.invokevirtual 96, 3) := by decide +kernel
theorem dX7_hole_10 : decode cX7_hole 10 = .ok (.ifCond .eq 24, 3) := by decide +kernel
theorem dX7_hole_13 : decode cX7_hole 13 = .ok (.iload_n 2, 1) := by decide +kernel
theorem dX7_hole_14 : decode cX7_hole 14 = .ok (.iconst 0, 1) := by decide +kernel
theorem dX7_hole_15 : decode cX7_hole 15 = .ok (.bipush 23, 2) := by decide +kernel
theorem dX7_hole_17 : decode cX7_hole 17 = .ok (.invokestatic 78, 3) := by decide +kernel
theorem dX7_hole_20 : decode cX7_hole 20 = .ok (.ifCond .eq 14, 3) := by decide +kernel
theorem dX7_hole_23 : decode cX7_hole 23 = .ok (.iload_n 3, 1) := by decide +kernel
theorem dX7_hole_24 : decode cX7_hole 24 = .ok (.iconst 0, 1) := by decide +kernel
theorem dX7_hole_25 : decode cX7_hole 25 = .ok (.sipush 299, 3) := by decide +kernel
theorem dX7_hole_28 : decode cX7_hole 28 = .ok (.invokestatic 78, 3) := by decide +kernel
theorem dX7_hole_31 : decode cX7_hole 31 = .ok (.ifCond .ne 5, 3) := by decide +kernel
theorem dX7_hole_34 : decode cX7_hole 34 = .ok (.iconst (-1), 1) := by decide +kernel
theorem dX7_hole_35 : decode cX7_hole 35 = .ok (.ireturn, 1) := by decide +kernel
theorem dX7_hole_36 : decode cX7_hole 36 = .ok (.aload_n 0, 1) := by decide +kernel
theorem dX7_hole_37 : decode cX7_hole 37 = .ok (.iload_n 1, 1) := by decide +kernel
theorem dX7_hole_38 : decode cX7_hole 38 = .ok (.iload_n 2, 1) := by decide +kernel
theorem dX7_hole_39 : decode cX7_hole 39 = .ok (.iload_n 3, 1) := by decide +kernel
theorem dX7_hole_40 : decode cX7_hole 40 = .ok (.invokevirtual 108, 3) := by decide +kernel
theorem dX7_hole_43 : decode cX7_hole 43 = .ok (.istore 4, 2) := by decide +kernel
theorem dX7_hole_45 : decode cX7_hole 45 = .ok (.iload 4, 2) := by decide +kernel
theorem dX7_hole_47 : decode cX7_hole 47 = .ok (.iconst (-1), 1) := by decide +kernel
theorem dX7_hole_48 : decode cX7_hole 48 = .ok (.if_icmp .ne 7, 3) := by decide +kernel
theorem dX7_hole_51 : decode cX7_hole 51 = .ok (.iconst 0, 1) := by decide +kernel
theorem dX7_hole_52 : decode cX7_hole 52 = .ok (.goto 18, 3) := by decide +kernel
theorem dX7_hole_55 : decode cX7_hole 55 = .ok (.aload_n 0, 1) := by decide +kernel
theorem dX7_hole_56 : decode cX7_hole 56 = .ok (.iload 4, 2) := by decide +kernel
theorem dX7_hole_58 : decode cX7_hole 58 = .ok (.iload_n 3, 1) := by decide +kernel
theorem dX7_hole_59 : decode cX7_hole 59 = .ok (.invokevirtual 86, 3) := by decide +kernel
theorem dX7_hole_62 : decode cX7_hole 62 = .ok (.ifCond .eq 7, 3) := by decide +kernel
theorem dX7_hole_65 : decode cX7_hole 65 = .ok (.iconst 1, 1) := by decide +kernel
theorem dX7_hole_66 : decode cX7_hole 66 = .ok (.goto 4, 3) := by decide +kernel
theorem dX7_hole_69 : decode cX7_hole 69 = .ok (.iconst 2, 1) := by decide +kernel
theorem dX7_hole_70 : decode cX7_hole 70 = .ok (.ireturn, 1) := by decide +kernel
theorem dX7_isAhead_0 : decode cX7_isAhead 0 = .ok (.aload_n 0, 1) := by decide +kernel
theorem dX7_isAhead_1 : decode cX7_isAhead 1 = .ok (.getfield 13, 3) := by decide +kernel
theorem dX7_isAhead_4 : decode cX7_isAhead 4 = .ok (.iload_n 1, 1) := by decide +kernel
theorem dX7_isAhead_5 : decode cX7_isAhead 5 = .ok (.iaload, 1) := by decide +kernel
theorem dX7_isAhead_6 : decode cX7_isAhead 6 = .ok (.aload_n 0, 1) := by decide +kernel
theorem dX7_isAhead_7 : decode cX7_isAhead 7 = .ok (.getfield 13, 3) := by decide +kernel
theorem dX7_isAhead_10 : decode cX7_isAhead 10 = .ok (.iload_n 2, 1) := by decide +kernel
theorem dX7_isAhead_11 : decode cX7_isAhead 11 = .ok (.iaload, 1) := by decide +kernel
theorem dX7_isAhead_12 : decode cX7_isAhead 12 = .ok (.if_icmp .eq 26, 3) := by decide +kernel
theorem dX7_isAhead_15 : decode cX7_isAhead 15 = .ok (.aload_n 0, 1) := by decide +kernel
theorem dX7_isAhead_16 : decode cX7_isAhead 16 = .ok (.getfield 13, 3) := by decide +kernel
theorem dX7_isAhead_19 : decode cX7_isAhead 19 = .ok (.iload_n 1, 1) := by decide +kernel
theorem dX7_isAhead_20 : decode cX7_isAhead 20 = .ok (.iaload, 1) := by decide +kernel
theorem dX7_isAhead_21 : decode cX7_isAhead 21 = .ok (.aload_n 0, 1) := by decide +kernel
theorem dX7_isAhead_22 : decode cX7_isAhead 22 = .ok (.getfield 13, 3) := by decide +kernel
theorem dX7_isAhead_25 : decode cX7_isAhead 25 = .ok (.iload_n 2, 1) := by decide +kernel
theorem dX7_isAhead_26 : decode cX7_isAhead 26 = .ok (.iaload, 1) := by decide +kernel
theorem dX7_isAhead_27 : decode cX7_isAhead 27 = .ok (.if_icmp .ge 7, 3) := by decide +kernel
theorem dX7_isAhead_30 : decode cX7_isAhead 30 = .ok (.iconst 1, 1) := by decide +kernel
theorem dX7_isAhead_31 : decode cX7_isAhead 31 = .ok (.goto 27, 3) := by decide +kernel
theorem dX7_isAhead_34 : decode cX7_isAhead 34 = .ok (.iconst 0, 1) := by decide +kernel
theorem dX7_isAhead_35 : decode cX7_isAhead 35 = .ok (.goto 23, 3) := by decide +kernel
theorem dX7_isAhead_38 : decode cX7_isAhead 38 = .ok (.aload_n 0, 1) := by decide +kernel
theorem dX7_isAhead_39 : decode cX7_isAhead 39 = .ok (.getfield 7, 3) := by decide +kernel
theorem dX7_isAhead_42 : decode cX7_isAhead 42 = .ok (.iload_n 1, 1) := by decide +kernel
theorem dX7_isAhead_43 : decode cX7_isAhead 43 = .ok (.iaload, 1) := by decide +kernel
theorem dX7_isAhead_44 : decode cX7_isAhead 44 = .ok (.aload_n 0, 1) := by decide +kernel
theorem dX7_isAhead_45 : decode cX7_isAhead 45 = .ok (.getfield 7, 3) := by decide +kernel
theorem dX7_isAhead_48 : decode cX7_isAhead 48 = .ok (.iload_n 2, 1) := by decide +kernel
theorem dX7_isAhead_49 : decode cX7_isAhead 49 = .ok (.iaload, 1) := by decide +kernel
theorem dX7_isAhead_50 : decode cX7_isAhead 50 = .ok (.if_icmp .ge 7, 3) := by decide +kernel
theorem dX7_isAhead_53 : decode cX7_isAhead 53 = .ok (.iconst 1, 1) := by decide +kernel
theorem dX7_isAhead_54 : decode cX7_isAhead 54 = .ok (.goto 4, 3) := by decide +kernel
theorem dX7_isAhead_57 : decode cX7_isAhead 57 = .ok (.iconst 0, 1) := by decide +kernel
theorem dX7_isAhead_58 : decode cX7_isAhead 58 = .ok (.ireturn, 1) := by decide +kernel
set_option maxRecDepth 20000 in
theorem ggX7_orders_X7_isAhead : GoodIn wsX7_orders wsX7_isAhead := goodIn_r _ [8, 9, 10, 11, 12, 13, 14, 15, 16, 17, 18, 19, 20, 21, 22, 23, 24, 25, 26, 27, 28, 29, 30, 31, 32, 33, 34, 35, 36, 37, 38, 39, 40, 41, 42, 43, 44] (by decide +kernel) (by decide +kernel)
set_option maxRecDepth 20000 in
theorem gX7_orders_X7_isAhead : GoodIn wsX7_orders (wsV RX7 115 RX7 yX7_isAhead wsX7_isAhead) := goodIn_app (goodIn_of _ (by decide +kernel)) ggX7_orders_X7_isAhead
theorem dX7_orders_0 : decode cX7_orders 0 = .ok (.aload_n 0, 1) := by decide +kernel
theorem dX7_orders_1 : decode cX7_orders 1 = .ok (.iconst 0, 1) := by decide +kernel
theorem dX7_orders_2 : decode cX7_orders 2 = .ok (.putfield 112, 3) := by decide +kernel
theorem dX7_orders_5 : decode cX7_orders 5 = .ok (.bipush 60, 2) := by decide +kernel
theorem dX7_orders_7 : decode cX7_orders 7 = .ok (.iload_n 1, 1) := by decide +kernel
theorem dX7_orders_8 : decode cX7_orders 8 = .ok (.imul, 1) := by decide +kernel
theorem dX7_orders_9 : decode cX7_orders 9 = .ok (.istore_n 2, 1) := by decide +kernel
theorem dX7_orders_10 : decode cX7_orders 10 = .ok (.iload_n 2, 1) := by decide +kernel
theorem dX7_orders_11 : decode cX7_orders 11 = .ok (.bipush 60, 2) := by decide +kernel
theorem dX7_orders_13 : decode cX7_orders 13 = .ok (.iload_n 1, 1) := by decide +kernel
theorem dX7_orders_14 : decode cX7_orders 14 = .ok (.imul, 1) := by decide +kernel
theorem dX7_orders_15 : decode cX7_orders 15 = .ok (.bipush 60, 2) := by decide +kernel
theorem dX7_orders_17 : decode cX7_orders 17 = .ok (.iadd, 1) := by decide +kernel
theorem dX7_orders_18 : decode cX7_orders 18 = .ok (.if_icmp .ge 83, 3) := by decide +kernel
theorem dX7_orders_21 : decode cX7_orders 21 = .ok (.aload_n 0, 1) := by decide +kernel
theorem dX7_orders_22 : decode cX7_orders 22 = .ok (.getfield 16, 3) := by decide +kernel
theorem dX7_orders_25 : decode cX7_orders 25 = .ok (.iload_n 2, 1) := by decide +kernel
theorem dX7_orders_26 : decode cX7_orders 26 = .ok (.iaload, 1) := by decide +kernel
theorem dX7_orders_27 : decode cX7_orders 27 = .ok (.ifCond .ne 6, 3) := by decide +kernel
theorem dX7_orders_30 : decode cX7_orders 30 = .ok (.goto 65, 3) := by decide +kernel
theorem dX7_orders_33 : decode cX7_orders 33 = .ok (.aload_n 0, 1) := by decide +kernel
theorem dX7_orders_34 : decode cX7_orders 34 = .ok (.getfield 112, 3) := by decide +kernel
theorem dX7_orders_37 : decode cX7_orders 37 = .ok (.istore_n 3, 1) := by decide +kernel
theorem dX7_orders_38 : decode cX7_orders 38 = .ok (.iload_n 3, 1) := by decide +kernel
theorem dX7_orders_39 : decode cX7_orders 39 = .ok (.ifCond .le 39, 3) := by decide +kernel
theorem dX7_orders_42 : decode cX7_orders 42 = .ok (.aload_n 0, 1) := by decide +kernel
theorem dX7_orders_43 : decode cX7_orders 43 = .ok (.iload_n 2, 1) := by decide +kernel
theorem dX7_orders_44 : decode cX7_orders 44 = .ok (.aload_n 0, 1) := by decide +kernel
theorem dX7_orders_45 : decode cX7_orders 45 = .ok (.getfield 32, 3) := by decide +kernel
theorem dX7_orders_48 : decode cX7_orders 48 = .ok (.iload_n 3, 1) := by decide +kernel
theorem dX7_orders_49 : decode cX7_orders 49 = .ok (.iconst 1, 1) := by decide +kernel
theorem dX7_orders_50 : decode cX7_orders 50 = .ok (.isub, 1) := by decide +kernel
theorem dX7_orders_51 : decode cX7_orders 51 = .ok (.iaload, 1) := by decide +kernel
theorem dX7_orders_52 : decode cX7_orders 52 = .ok (.invokevirtual 115, 3) := by decide +kernel
theorem dX7_orders_55 : decode cX7_orders 55 = .ok (.ifCond .eq 23, 3) := by decide +kernel
theorem dX7_orders_58 : decode cX7_orders 58 = .ok (.aload_n 0, 1) := by decide +kernel
theorem dX7_orders_59 : decode cX7_orders 59 = .ok (.getfield 32, 3) := by decide +kernel
theorem dX7_orders_62 : decode cX7_orders 62 = .ok (.iload_n 3, 1) := by decide +kernel
theorem dX7_orders_63 : decode cX7_orders 63 = .ok (.aload_n 0, 1) := by decide +kernel
theorem dX7_orders_64 : decode cX7_orders 64 = .ok (.getfield 32, 3) := by decide +kernel
theorem dX7_orders_67 : decode cX7_orders 67 = .ok (.iload_n 3, 1) := by decide +kernel
theorem dX7_orders_68 : decode cX7_orders 68 = .ok (.iconst 1, 1) := by decide +kernel
theorem dX7_orders_69 : decode cX7_orders 69 = .ok (.isub, 1) := by decide +kernel
theorem dX7_orders_70 : decode cX7_orders 70 = .ok (.iaload, 1) := by decide +kernel
theorem dX7_orders_71 : decode cX7_orders 71 = .ok (.iastore, 1) := by decide +kernel
theorem dX7_orders_72 : decode cX7_orders 72 = .ok (.iinc 3 (-1), 3) := by decide +kernel
theorem dX7_orders_75 : decode cX7_orders 75 = .ok (.goto (-37), 3) := by decide +kernel
theorem dX7_orders_78 : decode cX7_orders 78 = .ok (.aload_n 0, 1) := by decide +kernel
theorem dX7_orders_79 : decode cX7_orders 79 = .ok (.getfield 32, 3) := by decide +kernel
theorem dX7_orders_82 : decode cX7_orders 82 = .ok (.iload_n 3, 1) := by decide +kernel
theorem dX7_orders_83 : decode cX7_orders 83 = .ok (.iload_n 2, 1) := by decide +kernel
theorem dX7_orders_84 : decode cX7_orders 84 = .ok (.iastore, 1) := by decide +kernel
theorem dX7_orders_85 : decode cX7_orders 85 = .ok (.aload_n 0, 1) := by decide +kernel
theorem dX7_orders_86 : decode cX7_orders 86 = .ok (.dup, 1) := by decide +kernel
theorem dX7_orders_87 : decode cX7_orders 87 = .ok (.getfield 112, 3) := by decide +kernel
theorem dX7_orders_90 : decode cX7_orders 90 = .ok (.iconst 1, 1) := by decide +kernel
theorem dX7_orders_91 : decode cX7_orders 91 = .ok (.iadd, 1) := by decide +kernel
theorem dX7_orders_92 : decode cX7_orders 92 = .ok (.putfield 112, 3) := by decide +kernel
theorem dX7_orders_95 : decode cX7_orders 95 = .ok (.iinc 2 1, 3) := by decide +kernel
theorem dX7_orders_98 : decode cX7_orders 98 = .ok (.goto (-88), 3) := by decide +kernel
theorem dX7_orders_101 : decode cX7_orders 101 = .ok (.return_, 1) := by decide +kernel
set_option maxRecDepth 20000 in
theorem ggX7_note_X7_isRoll : GoodIn wsX7_note wsX7_isRoll := goodIn_r _ [10, 11, 12, 13, 9, 14, 28, 29, 30, 31, 32, 33, 34, 35, 36, 37, 38, 39, 40, 41, 42, 43, 44, 45, 46, 47, 48, 49, 50, 51, 52, 53, 54, 55, 56, 57, 58, 59, 60, 61] (by decide +kernel) (by decide +kernel)
set_option maxRecDepth 20000 in
theorem gX7_note_X7_isRoll : GoodIn wsX7_note (wsV RX7 96 RX7 yX7_isRoll wsX7_isRoll) := goodIn_app (goodIn_of _ (by decide +kernel)) ggX7_note_X7_isRoll
set_option maxRecDepth 20000 in
theorem ggX7_note_X7_notes : GoodIn wsX7_note wsX7_notes := goodIn_r _ [18, 5, 28, 29, 30, 31, 32, 33, 34, 35, 36, 37, 38, 39, 40, 41, 42, 43, 44, 45, 46, 47, 48, 49, 50, 51, 52, 53, 54, 55, 56, 57, 58, 59, 60, 61] (by decide +kernel) (by decide +kernel)
set_option maxRecDepth 20000 in
theorem gX7_note_X7_notes : GoodIn wsX7_note (wsV RX7 100 RX7 yX7_notes wsX7_notes) := goodIn_app (goodIn_of _ (by decide +kernel)) ggX7_note_X7_notes
set_option maxRecDepth 20000 in
theorem ggX7_note_X7_within : GoodIn wsX7_note wsX7_within := goodIn_r _ [14] (by decide +kernel) (by decide +kernel)
set_option maxRecDepth 20000 in
theorem gX7_note_X7_within : GoodIn wsX7_note (va_wsS RX7 78 yX7_within wsX7_within) := goodIn_app (goodIn_of _ (by decide +kernel)) ggX7_note_X7_within
set_option maxRecDepth 20000 in
theorem ggX7_note_X7_orders : GoodIn wsX7_note wsX7_orders := goodIn_r _ [22, 23, 5, 3, 24, 25, 26, 9, 27, 4, 2, 28, 29, 30, 31, 32, 33, 34, 35, 36, 37, 38, 39, 40, 41, 42, 43, 44, 45, 46, 47, 48, 49, 50, 51, 52, 53, 54, 55, 56, 57, 58, 59, 60, 61] (by decide +kernel) (by decide +kernel)
set_option maxRecDepth 20000 in
theorem gX7_note_X7_orders : GoodIn wsX7_note (wsV RX7 118 RX7 yX7_orders wsX7_orders) := goodIn_app (goodIn_of _ (by decide +kernel)) ggX7_note_X7_orders
theorem dX7_note_0 : decode cX7_note 0 = .ok (.aload_n 0, 1) := by decide +kernel
theorem dX7_note_1 : decode cX7_note 1 = .ok (.iconst 0, 1) := by decide +kernel
theorem dX7_note_2 : decode cX7_note 2 = .ok (.putfield 71, 3) := by decide +kernel
theorem dX7_note_5 : decode cX7_note 5 = .ok (.aload_n 0, 1) := by decide +kernel
theorem dX7_note_6 : decode cX7_note 6 = .ok (.iload_n 1, 1) := by decide +kernel
theorem dX7_note_7 : decode cX7_note 7 = .ok (.invokevirtual 96, 3) := by decide +kernel
theorem dX7_note_10 : decode cX7_note 10 = .ok (.ifCond .eq 18, 3) := by decide +kernel
theorem dX7_note_13 : decode cX7_note 13 = .ok (.iload_n 2, 1) := by decide +kernel
theorem dX7_note_14 : decode cX7_note 14 = .ok (.iconst 0, 1) := by decide +kernel
theorem dX7_note_15 : decode cX7_note 15 = .ok (.aload_n 0, 1) := by decide +kernel
theorem dX7_note_16 : decode cX7_note 16 = .ok (.iload_n 1, 1) := by decide +kernel
theorem dX7_note_17 : decode cX7_note 17 = .ok (.invokevirtual 100, 3) := by decide +kernel
theorem dX7_note_20 : decode cX7_note 20 = .ok (.iconst 1, 1) := by decide +kernel
theorem dX7_note_21 : decode cX7_note 21 = .ok (.isub, 1) := by decide +kernel
theorem dX7_note_22 : decode cX7_note 22 = .ok (.invokestatic 78, 3) := by decide +kernel
theorem dX7_note_25 : decode cX7_note 25 = .ok (.ifCond .ne 5, 3) := by decide +kernel
theorem dX7_note_28 : decode cX7_note 28 = .ok (.iconst (-1), 1) := by decide +kernel
theorem dX7_note_29 : decode cX7_note 29 = .ok (.ireturn, 1) := by decide +kernel
theorem dX7_note_30 : decode cX7_note 30 = .ok (.aload_n 0, 1) := by decide +kernel
theorem dX7_note_31 : decode cX7_note 31 = .ok (.iload_n 1, 1) := by decide +kernel
theorem dX7_note_32 : decode cX7_note 32 = .ok (.invokevirtual 118, 3) := by decide +kernel
theorem dX7_note_35 : decode cX7_note 35 = .ok (.iload_n 3, 1) := by decide +kernel
theorem dX7_note_36 : decode cX7_note 36 = .ok (.ifCond .ne 17, 3) := by decide +kernel
theorem dX7_note_39 : decode cX7_note 39 = .ok (.aload_n 0, 1) := by decide +kernel
theorem dX7_note_40 : decode cX7_note 40 = .ok (.getfield 7, 3) := by decide +kernel
theorem dX7_note_43 : decode cX7_note 43 = .ok (.aload_n 0, 1) := by decide +kernel
theorem dX7_note_44 : decode cX7_note 44 = .ok (.getfield 32, 3) := by decide +kernel
theorem dX7_note_47 : decode cX7_note 47 = .ok (.iload_n 2, 1) := by decide +kernel
theorem dX7_note_48 : decode cX7_note 48 = .ok (.iaload, 1) := by decide +kernel
theorem dX7_note_49 : decode cX7_note 49 = .ok (.iaload, 1) := by decide +kernel
theorem dX7_note_50 : decode cX7_note 50 = .ok (.goto 42, 3) := by decide +kernel
theorem dX7_note_53 : decode cX7_note 53 = .ok (.iload_n 3, 1) := by decide +kernel
theorem dX7_note_54 : decode cX7_note 54 = .ok (.iconst 1, 1) := by decide +kernel
theorem dX7_note_55 : decode cX7_note 55 = .ok (.if_icmp .ne 17, 3) := by decide +kernel
theorem dX7_note_58 : decode cX7_note 58 = .ok (.aload_n 0, 1) := by decide +kernel
theorem dX7_note_59 : decode cX7_note 59 = .ok (.getfield 13, 3) := by decide +kernel
theorem dX7_note_62 : decode cX7_note 62 = .ok (.aload_n 0, 1) := by decide +kernel
theorem dX7_note_63 : decode cX7_note 63 = .ok (.getfield 32, 3) := by decide +kernel
theorem dX7_note_66 : decode cX7_note 66 = .ok (.iload_n 2, 1) := by decide +kernel
theorem dX7_note_67 : decode cX7_note 67 = .ok (.iaload, 1) := by decide +kernel
theorem dX7_note_68 : decode cX7_note 68 = .ok (.iaload, 1) := by decide +kernel
theorem dX7_note_69 : decode cX7_note 69 = .ok (.goto 23, 3) := by decide +kernel
theorem dX7_note_72 : decode cX7_note 72 = .ok (.iload_n 3, 1) := by decide +kernel
theorem dX7_note_73 : decode cX7_note 73 = .ok (.iconst 2, 1) := by decide +kernel
theorem dX7_note_74 : decode cX7_note 74 = .ok (.if_icmp .ne 17, 3) := by decide +kernel
theorem dX7_note_77 : decode cX7_note 77 = .ok (.aload_n 0, 1) := by decide +kernel
theorem dX7_note_78 : decode cX7_note 78 = .ok (.getfield 16, 3) := by decide +kernel
theorem dX7_note_81 : decode cX7_note 81 = .ok (.aload_n 0, 1) := by decide +kernel
theorem dX7_note_82 : decode cX7_note 82 = .ok (.getfield 32, 3) := by decide +kernel
theorem dX7_note_85 : decode cX7_note 85 = .ok (.iload_n 2, 1) := by decide +kernel
theorem dX7_note_86 : decode cX7_note 86 = .ok (.iaload, 1) := by decide +kernel
theorem dX7_note_87 : decode cX7_note 87 = .ok (.iaload, 1) := by decide +kernel
theorem dX7_note_88 : decode cX7_note 88 = .ok (.goto 4, 3) := by decide +kernel
theorem dX7_note_91 : decode cX7_note 91 = .ok (.iconst (-1), 1) := by decide +kernel
theorem dX7_note_92 : decode cX7_note 92 = .ok (.ireturn, 1) := by decide +kernel
set_option maxRecDepth 20000 in
theorem ggX7_tempo_X7_isRoll : GoodIn wsX7_tempo wsX7_isRoll := goodIn_r _ [9, 10, 11, 12, 8, 13, 14, 15, 16, 17, 18, 19, 20, 21, 22, 23, 24, 25, 26, 27, 28, 29, 30, 31, 32, 33, 34, 35, 36, 37, 38, 39, 40, 41, 42, 43, 44, 45, 46, 47] (by decide +kernel) (by decide +kernel)
set_option maxRecDepth 20000 in
theorem gX7_tempo_X7_isRoll : GoodIn wsX7_tempo (wsV RX7 96 RX7 yX7_isRoll wsX7_isRoll) := goodIn_app (goodIn_of _ (by decide +kernel)) ggX7_tempo_X7_isRoll
set_option maxRecDepth 20000 in
theorem ggX7_tempo_X7_within : GoodIn wsX7_tempo wsX7_within := goodIn_r _ [13] (by decide +kernel) (by decide +kernel)
set_option maxRecDepth 20000 in
theorem gX7_tempo_X7_within : GoodIn wsX7_tempo (va_wsS RX7 78 yX7_within wsX7_within) := goodIn_app (goodIn_of _ (by decide +kernel)) ggX7_tempo_X7_within
theorem dX7_tempo_0 : decode cX7_tempo 0 = .ok (.aload_n 0, 1) := by decide +kernel
theorem dX7_tempo_1 : decode cX7_tempo 1 = .ok (.iconst 0, 1) := by decide +kernel
theorem dX7_tempo_2 : decode cX7_tempo 2 = .ok (.putfield 71, 3) := by decide +kernel
theorem dX7_tempo_5 : decode cX7_tempo 5 = .ok (.aload_n 0, 1) := by decide +kernel
theorem dX7_tempo_6 : decode cX7_tempo 6 = .ok (.iload_n 1, 1) := by decide +kernel
theorem dX7_tempo_7 : decode cX7_tempo 7 = .ok (.invokevirtual 96, 3) := by decide +kernel
theorem dX7_tempo_10 : decode cX7_tempo 10 = .ok (.ifCond .eq 24, 3) := by decide +kernel
theorem dX7_tempo_13 : decode cX7_tempo 13 = .ok (.iload_n 2, 1) := by decide +kernel
theorem dX7_tempo_14 : decode cX7_tempo 14 = .ok (.iconst 0, 1) := by decide +kernel
theorem dX7_tempo_15 : decode cX7_tempo 15 = .ok (.sipush 299, 3) := by decide +kernel
theorem dX7_tempo_18 : decode cX7_tempo 18 = .ok (.invokestatic 78, 3) := by decide +kernel
theorem dX7_tempo_21 : decode cX7_tempo 21 = .ok (.ifCond .eq 13, 3) := by decide +kernel
theorem dX7_tempo_24 : decode cX7_tempo 24 = .ok (.iload_n 3, 1) := by decide +kernel
theorem dX7_tempo_25 : decode cX7_tempo 25 = .ok (.iconst 1, 1) := by decide +kernel
theorem dX7_tempo_26 : decode cX7_tempo 26 = .ok (.bipush 9, 2) := by decide +kernel
theorem dX7_tempo_28 : decode cX7_tempo 28 = .ok (.invokestatic 78, 3) := by decide +kernel
theorem dX7_tempo_31 : decode cX7_tempo 31 = .ok (.ifCond .ne 5, 3) := by decide +kernel
theorem dX7_tempo_34 : decode cX7_tempo 34 = .ok (.iconst (-1), 1) := by decide +kernel
theorem dX7_tempo_35 : decode cX7_tempo 35 = .ok (.ireturn, 1) := by decide +kernel
theorem dX7_tempo_36 : decode cX7_tempo 36 = .ok (.bipush 10, 2) := by decide +kernel
theorem dX7_tempo_38 : decode cX7_tempo 38 = .ok (.iload_n 1, 1) := by decide +kernel
theorem dX7_tempo_39 : decode cX7_tempo 39 = .ok (.imul, 1) := by decide +kernel
theorem dX7_tempo_40 : decode cX7_tempo 40 = .ok (.istore 4, 2) := by decide +kernel
theorem dX7_tempo_42 : decode cX7_tempo 42 = .ok (.iload 4, 2) := by decide +kernel
theorem dX7_tempo_44 : decode cX7_tempo 44 = .ok (.bipush 10, 2) := by decide +kernel
theorem dX7_tempo_46 : decode cX7_tempo 46 = .ok (.iload_n 1, 1) := by decide +kernel
theorem dX7_tempo_47 : decode cX7_tempo 47 = .ok (.imul, 1) := by decide +kernel
theorem dX7_tempo_48 : decode cX7_tempo 48 = .ok (.aload_n 0, 1) := by decide +kernel
theorem dX7_tempo_49 : decode cX7_tempo 49 = .ok (.getfield 19, 3) := by decide +kernel
theorem dX7_tempo_52 : decode cX7_tempo 52 = .ok (.iload_n 1, 1) := by decide +kernel
theorem dX7_tempo_53 : decode cX7_tempo 53 = .ok (.iaload, 1) := by decide +kernel
theorem dX7_tempo_54 : decode cX7_tempo 54 = .ok (.iadd, 1) := by decide +kernel
theorem dX7_tempo_55 : decode cX7_tempo 55 = .ok (.if_icmp .ge 20, 3) := by decide +kernel
theorem dX7_tempo_58 : decode cX7_tempo 58 = .ok (.aload_n 0, 1) := by decide +kernel
theorem dX7_tempo_59 : decode cX7_tempo 59 = .ok (.getfield 22, 3) := by decide +kernel
theorem dX7_tempo_62 : decode cX7_tempo 62 = .ok (.iload 4, 2) := by decide +kernel
theorem dX7_tempo_64 : decode cX7_tempo 64 = .ok (.iaload, 1) := by decide +kernel
theorem dX7_tempo_65 : decode cX7_tempo 65 = .ok (.iload_n 2, 1) := by decide +kernel
theorem dX7_tempo_66 : decode cX7_tempo 66 = .ok (.if_icmp .eq 9, 3) := by decide +kernel
theorem dX7_tempo_69 : decode cX7_tempo 69 = .ok (.iinc 4 1, 3) := by decide +kernel
theorem dX7_tempo_72 : decode cX7_tempo 72 = .ok (.goto (-30), 3) := by decide +kernel
theorem dX7_tempo_75 : decode cX7_tempo 75 = .ok (.iload 4, 2) := by decide +kernel
theorem dX7_tempo_77 : decode cX7_tempo 77 = .ok (.bipush 10, 2) := by decide +kernel
theorem dX7_tempo_79 : decode cX7_tempo 79 = .ok (.iload_n 1, 1) := by decide +kernel
theorem dX7_tempo_80 : decode cX7_tempo 80 = .ok (.imul, 1) := by decide +kernel
theorem dX7_tempo_81 : decode cX7_tempo 81 = .ok (.aload_n 0, 1) := by decide +kernel
theorem dX7_tempo_82 : decode cX7_tempo 82 = .ok (.getfield 19, 3) := by decide +kernel
theorem dX7_tempo_85 : decode cX7_tempo 85 = .ok (.iload_n 1, 1) := by decide +kernel
theorem dX7_tempo_86 : decode cX7_tempo 86 = .ok (.iaload, 1) := by decide +kernel
theorem dX7_tempo_87 : decode cX7_tempo 87 = .ok (.iadd, 1) := by decide +kernel
theorem dX7_tempo_88 : decode cX7_tempo 88 = .ok (.if_icmp .ne 26, 3) := by decide +kernel
theorem dX7_tempo_91 : decode cX7_tempo 91 = .ok (.aload_n 0, 1) := by decide +kernel
theorem dX7_tempo_92 : decode cX7_tempo 92 = .ok (.getfield 19, 3) := by decide +kernel
theorem dX7_tempo_95 : decode cX7_tempo 95 = .ok (.iload_n 1, 1) := by decide +kernel
theorem dX7_tempo_96 : decode cX7_tempo 96 = .ok (.iaload, 1) := by decide +kernel
theorem dX7_tempo_97 : decode cX7_tempo 97 = .ok (.bipush 10, 2) := by decide +kernel
theorem dX7_tempo_99 : decode cX7_tempo 99 = .ok (.if_icmp .ne 5, 3) := by decide +kernel
theorem dX7_tempo_102 : decode cX7_tempo 102 = .ok (.iconst (-1), 1) := by decide +kernel
theorem dX7_tempo_103 : decode cX7_tempo 103 = .ok (.ireturn, 1) := by decide +kernel
theorem dX7_tempo_104 : decode cX7_tempo 104 = .ok (.aload_n 0, 1) := by decide +kernel
theorem dX7_tempo_105 : decode cX7_tempo 105 = .ok (.getfield 19, 3) := by decide +kernel
theorem dX7_tempo_108 : decode cX7_tempo 108 = .ok (.iload_n 1, 1) := by decide +kernel
theorem dX7_tempo_109 : decode cX7_tempo 109 = .ok (.dup2, 1) := by decide +kernel
theorem dX7_tempo_110 : decode cX7_tempo 110 = .ok (.iaload, 1) := by decide +kernel
theorem dX7_tempo_111 : decode cX7_tempo 111 = .ok (.iconst 1, 1) := by decide +kernel
theorem dX7_tempo_112 : decode cX7_tempo 112 = .ok (.iadd, 1) := by decide +kernel
theorem dX7_tempo_113 : decode cX7_tempo 113 = .ok (.iastore, 1) := by decide +kernel
theorem dX7_tempo_114 : decode cX7_tempo 114 = .ok (.aload_n 0, 1) := by decide +kernel
theorem dX7_tempo_115 : decode cX7_tempo 115 = .ok (.getfield 22, 3) := by decide +kernel
theorem dX7_tempo_118 : decode cX7_tempo 118 = .ok (.iload 4, 2) := by decide +kernel
theorem dX7_tempo_120 : decode cX7_tempo 120 = .ok (.iload_n 2, 1) := by decide +kernel
theorem dX7_tempo_121 : decode cX7_tempo 121 = .ok (.iastore, 1) := by decide +kernel
theorem dX7_tempo_122 : decode cX7_tempo 122 = .ok (.aload_n 0, 1) := by decide +kernel
theorem dX7_tempo_123 : decode cX7_tempo 123 = .ok (.getfield 25, 3) := by decide +kernel
theorem dX7_tempo_126 : decode cX7_tempo 126 = .ok (.iload 4, 2) := by decide +kernel
theorem dX7_tempo_128 : decode cX7_tempo 128 = .ok (.iload_n 3, 1) := by decide +kernel
theorem dX7_tempo_129 : decode cX7_tempo 129 = .ok (.iastore, 1) := by decide +kernel
theorem dX7_tempo_130 : decode cX7_tempo 130 = .ok (.aload_n 0, 1) := by decide +kernel
theorem dX7_tempo_131 : decode cX7_tempo 131 = .ok (.getfield 19, 3) := by decide +kernel
theorem dX7_tempo_134 : decode cX7_tempo 134 = .ok (.iload_n 1, 1) := by decide +kernel
theorem dX7_tempo_135 : decode cX7_tempo 135 = .ok (.iaload, 1) := by decide +kernel
theorem dX7_tempo_136 : decode cX7_tempo 136 = .ok (.ireturn, 1) := by decide +kernel
theorem dX7_ticksOf_0 : decode cX7_ticksOf 0 = .ok (.iconst (-1), 1) := by decide +kernel
theorem dX7_ticksOf_1 : decode cX7_ticksOf 1 = .ok (.istore_n 3, 1) := by decide +kernel
theorem dX7_ticksOf_2 : decode cX7_ticksOf 2 = .ok (.bipush 10, 2) := by decide +kernel
theorem dX7_ticksOf_4 : decode cX7_ticksOf 4 = .ok (.iload_n 1, 1) := by decide +kernel
theorem dX7_ticksOf_5 : decode cX7_ticksOf 5 = .ok (.imul, 1) := by decide +kernel
theorem dX7_ticksOf_6 : decode cX7_ticksOf 6 = .ok (.istore 4, 2) := by decide +kernel
theorem dX7_ticksOf_8 : decode cX7_ticksOf 8 = .ok (.iload 4, 2) := by decide +kernel
theorem dX7_ticksOf_10 : decode cX7_ticksOf 10 = .ok (.bipush 10, 2) := by decide +kernel
theorem dX7_ticksOf_12 : decode cX7_ticksOf 12 = .ok (.iload_n 1, 1) := by decide +kernel
theorem dX7_ticksOf_13 : decode cX7_ticksOf 13 = .ok (.imul, 1) := by decide +kernel
theorem dX7_ticksOf_14 : decode cX7_ticksOf 14 = .ok (.aload_n 0, 1) := by decide +kernel
theorem dX7_ticksOf_15 : decode cX7_ticksOf 15 = .ok (.getfield 19, 3) := by decide +kernel
theorem dX7_ticksOf_18 : decode cX7_ticksOf 18 = .ok (.iload_n 1, 1) := by decide +kernel
theorem dX7_ticksOf_19 : decode cX7_ticksOf 19 = .ok (.iaload, 1) := by decide +kernel
theorem dX7_ticksOf_20 : decode cX7_ticksOf 20 = .ok (.iadd, 1) := by decide +kernel
theorem dX7_ticksOf_21 : decode cX7_ticksOf 21 = .ok (.if_icmp .ge 44, 3) := by decide +kernel
theorem dX7_ticksOf_24 : decode cX7_ticksOf 24 = .ok (.aload_n 0, 1) := by decide +kernel
theorem dX7_ticksOf_25 : decode cX7_ticksOf 25 = .ok (.getfield 22, 3) := by decide +kernel
theorem dX7_ticksOf_28 : decode cX7_ticksOf 28 = .ok (.iload 4, 2) := by decide +kernel
theorem dX7_ticksOf_30 : decode cX7_ticksOf 30 = .ok (.iaload, 1) := by decide +kernel
theorem dX7_ticksOf_31 : decode cX7_ticksOf 31 = .ok (.iload_n 2, 1) := by decide +kernel
theorem dX7_ticksOf_32 : decode cX7_ticksOf 32 = .ok (.if_icmp .gt 27, 3) := by decide +kernel
theorem dX7_ticksOf_35 : decode cX7_ticksOf 35 = .ok (.iload_n 3, 1) := by decide +kernel
theorem dX7_ticksOf_36 : decode cX7_ticksOf 36 = .ok (.iconst (-1), 1) := by decide +kernel
theorem dX7_ticksOf_37 : decode cX7_ticksOf 37 = .ok (.if_icmp .eq 19, 3) := by decide +kernel
theorem dX7_ticksOf_40 : decode cX7_ticksOf 40 = .ok (.aload_n 0, 1) := by decide +kernel
theorem dX7_ticksOf_41 : decode cX7_ticksOf 41 = .ok (.getfield 22, 3) := by decide +kernel
theorem dX7_ticksOf_44 : decode cX7_ticksOf 44 = .ok (.iload 4, 2) := by decide +kernel
theorem dX7_ticksOf_46 : decode cX7_ticksOf 46 = .ok (.iaload, 1) := by decide +kernel
theorem dX7_ticksOf_47 : decode cX7_ticksOf 47 = .ok (.aload_n 0, 1) := by decide +kernel
theorem dX7_ticksOf_48 : decode cX7_ticksOf 48 = .ok (.getfield 22, 3) := by decide +kernel
theorem dX7_ticksOf_51 : decode cX7_ticksOf 51 = .ok (.iload_n 3, 1) := by decide +kernel
theorem dX7_ticksOf_52 : decode cX7_ticksOf 52 = .ok (.iaload, 1) := by decide +kernel
theorem dX7_ticksOf_53 : decode cX7_ticksOf 53 = .ok (.if_icmp .le 6, 3) := by decide +kernel
theorem dX7_ticksOf_56 : decode cX7_ticksOf 56 = .ok (.iload 4, 2) := by decide +kernel
theorem dX7_ticksOf_58 : decode cX7_ticksOf 58 = .ok (.istore_n 3, 1) := by decide +kernel
theorem dX7_ticksOf_59 : decode cX7_ticksOf 59 = .ok (.iinc 4 1, 3) := by decide +kernel
theorem dX7_ticksOf_62 : decode cX7_ticksOf 62 = .ok (.goto (-54), 3) := by decide +kernel
theorem dX7_ticksOf_65 : decode cX7_ticksOf 65 = .ok (.iload_n 3, 1) := by decide +kernel
theorem dX7_ticksOf_66 : decode cX7_ticksOf 66 = .ok (.iconst (-1), 1) := by decide +kernel
theorem dX7_ticksOf_67 : decode cX7_ticksOf 67 = .ok (.if_icmp .ne 7, 3) := by decide +kernel
theorem dX7_ticksOf_70 : decode cX7_ticksOf 70 = .ok (.iconst 2, 1) := by decide +kernel
theorem dX7_ticksOf_71 : decode cX7_ticksOf 71 = .ok (.goto 9, 3) := by decide +kernel
theorem dX7_ticksOf_74 : decode cX7_ticksOf 74 = .ok (.aload_n 0, 1) := by decide +kernel
theorem dX7_ticksOf_75 : decode cX7_ticksOf 75 = .ok (.getfield 25, 3) := by decide +kernel
theorem dX7_ticksOf_78 : decode cX7_ticksOf 78 = .ok (.iload_n 3, 1) := by decide +kernel
theorem dX7_ticksOf_79 : decode cX7_ticksOf 79 = .ok (.iaload, 1) := by decide +kernel
theorem dX7_ticksOf_80 : decode cX7_ticksOf 80 = .ok (.ireturn, 1) := by decide +kernel
set_option maxRecDepth 20000 in
theorem ggX7_allTicks_X7_ticksOf : GoodIn wsX7_allTicks wsX7_ticksOf := goodIn_r _ [5, 6, 7, 8, 9, 10, 11, 12, 13, 14, 15, 16, 17, 18, 19, 20, 21, 22, 23, 24, 25, 26, 27, 28, 29, 30, 31, 32, 33, 34, 35, 36, 37, 38, 39, 40, 41, 42] (by decide +kernel) (by decide +kernel)
set_option maxRecDepth 20000 in
theorem gX7_allTicks_X7_ticksOf : GoodIn wsX7_allTicks (wsV RX7 121 RX7 yX7_ticksOf wsX7_ticksOf) := goodIn_app (goodIn_of _ (by decide +kernel)) ggX7_allTicks_X7_ticksOf
theorem dX7_allTicks_0 : decode cX7_allTicks 0 = .ok (.iconst 0, 1) := by decide +kernel
theorem dX7_allTicks_1 : decode cX7_allTicks 1 = .ok (.istore_n 2, 1) := by decide +kernel
theorem dX7_allTicks_2 : decode cX7_allTicks 2 = .ok (.iconst 0, 1) := by decide +kernel
