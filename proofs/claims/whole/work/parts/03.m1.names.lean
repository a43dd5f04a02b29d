theorem dX7_allTicks_3 : decode cX7_allTicks 3 = .ok (.istore_n 3, 1) := by decide +kernel
theorem dX7_allTicks_4 : decode cX7_allTicks 4 = .ok (.iload_n 3, 1) := by decide +kernel
theorem dX7_allTicks_5 : decode cX7_allTicks 5 = .ok (.sipush 300, 3) := by decide +kernel
theorem dX7_allTicks_8 : decode cX7_allTicks 8 = .ok (.if_icmp .ge 18, 3) := by decide +kernel
theorem dX7_allTicks_11 : decode cX7_allTicks 11 = .ok (.iload_n 2, 1) := by decide +kernel
theorem dX7_allTicks_12 : decode cX7_allTicks 12 = .ok (.aload_n 0, 1) := by decide +kernel
theorem dX7_allTicks_13 : decode cX7_allTicks 13 = .ok (.iload_n 1, 1) := by decide +kernel
theorem dX7_allTicks_14 : decode cX7_allTicks 14 = .ok (.iload_n 3, 1) := by decide +kernel
theorem dX7_allTicks_15 : decode cX7_allTicks 15 = .ok (.invokevirtual 121, 3) := by decide +kernel
theorem dX7_allTicks_18 : decode cX7_allTicks 18 = .ok (.iadd, 1) := by decide +kernel
theorem dX7_allTicks_19 : decode cX7_allTicks 19 = .ok (.istore_n 2, 1) := by decide +kernel
theorem dX7_allTicks_20 : decode cX7_allTicks 20 = .ok (.iinc 3 1, 3) := by decide +kernel
theorem dX7_allTicks_23 : decode cX7_allTicks 23 = .ok (.goto (-19), 3) := by decide +kernel
theorem dX7_allTicks_26 : decode cX7_allTicks 26 = .ok (.iload_n 2, 1) := by decide +kernel
theorem dX7_allTicks_27 : decode cX7_allTicks 27 = .ok (.ireturn, 1) := by decide +kernel
set_option maxRecDepth 20000 in
theorem ggX7_ticks_X7_isRoll : GoodIn wsX7_ticks wsX7_isRoll := goodIn_r _ [6, 7, 8, 9, 5, 10, 22, 23, 24, 25, 26, 27, 28, 29, 30, 31, 32, 33, 34, 35, 36, 37, 38, 39, 40, 41, 42, 43, 44, 45, 46, 47, 48, 49, 50, 51, 52, 53, 54, 55] (by decide +kernel) (by decide +kernel)
set_option maxRecDepth 20000 in
theorem gX7_ticks_X7_isRoll : GoodIn wsX7_ticks (wsV RX7 96 RX7 yX7_isRoll wsX7_isRoll) := goodIn_app (goodIn_of _ (by decide +kernel)) ggX7_ticks_X7_isRoll
set_option maxRecDepth 20000 in
theorem ggX7_ticks_X7_allTicks : GoodIn wsX7_ticks wsX7_allTicks := goodIn_r _ [14, 15, 16, 17, 5, 18, 19, 20, 21, 22, 23, 24, 25, 26, 27, 28, 29, 30, 31, 32, 33, 34, 35, 36, 37, 38, 39, 40, 41, 42, 43, 44, 45, 46, 47, 48, 49, 50, 51, 52, 53, 54, 55] (by decide +kernel) (by decide +kernel)
set_option maxRecDepth 20000 in
theorem gX7_ticks_X7_allTicks : GoodIn wsX7_ticks (wsV RX7 125 RX7 yX7_allTicks wsX7_allTicks) := goodIn_app (goodIn_of _ (by decide +kernel)) ggX7_ticks_X7_allTicks
theorem dX7_ticks_0 : decode cX7_ticks 0 = .ok (.aload_n 0, 1) := by decide +kernel
theorem dX7_ticks_1 : decode cX7_ticks 1 = .ok (.iconst 0, 1) := by decide +kernel
theorem dX7_ticks_2 : decode cX7_ticks 2 = .ok (.putfield 71, 3) := by decide +kernel
theorem dX7_ticks_5 : decode cX7_ticks 5 = .ok (.aload_n 0, 1) := by decide +kernel
theorem dX7_ticks_6 : decode cX7_ticks 6 = .ok (.iload_n 1, 1) := by decide +kernel
theorem dX7_ticks_7 : decode cX7_ticks 7 = .ok (.invokevirtual 96, 3) := by decide +kernel
theorem dX7_ticks_10 : decode cX7_ticks 10 = .ok (.ifCond .eq 11, 3) := by decide +kernel
theorem dX7_ticks_13 : decode cX7_ticks 13 = .ok (.aload_n 0, 1) := by decide +kernel
theorem dX7_ticks_14 : decode cX7_ticks 14 = .ok (.iload_n 1, 1) := by decide +kernel
theorem dX7_ticks_15 : decode cX7_ticks 15 = .ok (.invokevirtual 125, 3) := by decide +kernel
theorem dX7_ticks_18 : decode cX7_ticks 18 = .ok (.goto 4, 3) := by decide +kernel
theorem dX7_ticks_21 : decode cX7_ticks 21 = .ok (.iconst (-1), 1) := by decide +kernel
theorem dX7_ticks_22 : decode cX7_ticks 22 = .ok (.ireturn, 1) := by decide +kernel
set_option maxRecDepth 20000 in
theorem ggX7_notesIn_X7_isIn : GoodIn wsX7_notesIn wsX7_isIn := goodIn_r _ [6, 7, 8, 9, 10, 5, 11, 12, 13, 14, 15, 16, 17, 18, 19, 20, 21, 22, 23, 24, 25, 26, 27, 28, 29, 30, 31, 32, 33, 34, 35, 36, 37, 38, 39, 40, 41, 42, 43, 44, 45] (by decide +kernel) (by decide +kernel)
set_option maxRecDepth 20000 in
theorem gX7_notesIn_X7_isIn : GoodIn wsX7_notesIn (wsV RX7 82 RX7 yX7_isIn wsX7_isIn) := goodIn_app (goodIn_of _ (by decide +kernel)) ggX7_notesIn_X7_isIn
theorem dX7_notesIn_0 : decode cX7_notesIn 0 = .ok (.iconst 0, 1) := by decide +kernel
theorem dX7_notesIn_1 : decode cX7_notesIn 1 = .ok (.istore_n 3, 1) := by decide +kernel
theorem dX7_notesIn_2 : decode cX7_notesIn 2 = .ok (.bipush 60, 2) := by decide +kernel
theorem dX7_notesIn_4 : decode cX7_notesIn 4 = .ok (.iload_n 1, 1) := by decide +kernel
theorem dX7_notesIn_5 : decode cX7_notesIn 5 = .ok (.imul, 1) := by decide +kernel
theorem dX7_notesIn_6 : decode cX7_notesIn 6 = .ok (.istore 4, 2) := by decide +kernel
theorem dX7_notesIn_8 : decode cX7_notesIn 8 = .ok (.iload 4, 2) := by decide +kernel
theorem dX7_notesIn_10 : decode cX7_notesIn 10 = .ok (.bipush 60, 2) := by decide +kernel
theorem dX7_notesIn_12 : decode cX7_notesIn 12 = .ok (.iload_n 1, 1) := by decide +kernel
theorem dX7_notesIn_13 : decode cX7_notesIn 13 = .ok (.imul, 1) := by decide +kernel
theorem dX7_notesIn_14 : decode cX7_notesIn 14 = .ok (.bipush 60, 2) := by decide +kernel
theorem dX7_notesIn_16 : decode cX7_notesIn 16 = .ok (.iadd, 1) := by decide +kernel
theorem dX7_notesIn_17 : decode cX7_notesIn 17 = .ok (.if_icmp .ge 31, 3) := by decide +kernel
theorem dX7_notesIn_20 : decode cX7_notesIn 20 = .ok (.aload_n 0, 1) := by decide +kernel
theorem dX7_notesIn_21 : decode cX7_notesIn 21 = .ok (.iload 4, 2) := by decide +kernel
theorem dX7_notesIn_23 : decode cX7_notesIn 23 = .ok (.iload_n 2, 1) := by decide +kernel
theorem dX7_notesIn_24 : decode cX7_notesIn 24 = .ok (.invokevirtual 82, 3) := by decide +kernel
theorem dX7_notesIn_27 : decode cX7_notesIn 27 = .ok (.ifCond .eq 15, 3) := by decide +kernel
theorem dX7_notesIn_30 : decode cX7_notesIn 30 = .ok (.iload_n 3, 1) := by decide +kernel
theorem dX7_notesIn_31 : decode cX7_notesIn 31 = .ok (.iconst 1, 1) := by decide +kernel
theorem dX7_notesIn_32 : decode cX7_notesIn 32 = .ok (.aload_n 0, 1) := by decide +kernel
theorem dX7_notesIn_33 : decode cX7_notesIn 33 = .ok (.getfield 7, 3) := by decide +kernel
theorem dX7_notesIn_36 : decode cX7_notesIn 36 = .ok (.iload 4, 2) := by decide +kernel
theorem dX7_notesIn_38 : decode cX7_notesIn 38 = .ok (.iaload, 1) := by decide +kernel
theorem dX7_notesIn_39 : decode cX7_notesIn 39 = .ok (.ishl, 1) := by decide +kernel
theorem dX7_notesIn_40 : decode cX7_notesIn 40 = .ok (.ior, 1) := by decide +kernel
theorem dX7_notesIn_41 : decode cX7_notesIn 41 = .ok (.istore_n 3, 1) := by decide +kernel
theorem dX7_notesIn_42 : decode cX7_notesIn 42 = .ok (.iinc 4 1, 3) := by decide +kernel
theorem dX7_notesIn_45 : decode cX7_notesIn 45 = .ok (.goto (-37), 3) := by decide +kernel
theorem dX7_notesIn_48 : decode cX7_notesIn 48 = .ok (.iload_n 3, 1) := by decide +kernel
theorem dX7_notesIn_49 : decode cX7_notesIn 49 = .ok (.ireturn, 1) := by decide +kernel
set_option maxRecDepth 20000 in
theorem ggX7_plays_X7_notesIn : GoodIn wsX7_plays wsX7_notesIn := goodIn_r _ [8, 9, 10, 11, 12, 7, 13, 14, 15, 16, 17, 18, 33, 34, 35, 36, 37, 38, 39, 40, 41, 42, 43, 44, 45, 46, 47, 48, 49, 50, 51, 52, 53, 54, 55, 56, 57, 58, 59, 60, 61, 62, 63, 64, 65, 66] (by decide +kernel) (by decide +kernel)
set_option maxRecDepth 20000 in
theorem gX7_plays_X7_notesIn : GoodIn wsX7_plays (wsV RX7 131 RX7 yX7_notesIn wsX7_notesIn) := goodIn_app (goodIn_of _ (by decide +kernel)) ggX7_plays_X7_notesIn
set_option maxRecDepth 20000 in
theorem ggX7_plays_X7_ticksOf : GoodIn wsX7_plays wsX7_ticksOf := goodIn_r _ [22, 23, 24, 25, 33, 34, 35, 36, 37, 38, 39, 40, 41, 42, 43, 44, 45, 46, 47, 48, 49, 50, 51, 52, 53, 54, 55, 56, 57, 58, 59, 60, 61, 62, 63, 64, 65, 66] (by decide +kernel) (by decide +kernel)
set_option maxRecDepth 20000 in
theorem gX7_plays_X7_ticksOf : GoodIn wsX7_plays (wsV RX7 121 RX7 yX7_ticksOf wsX7_ticksOf) := goodIn_app (goodIn_of _ (by decide +kernel)) ggX7_plays_X7_ticksOf
set_option maxRecDepth 20000 in
theorem ggX7_plays_J6_bitCount_0f7a4 : GoodIn wsX7_plays wsJ6_bitCount_0f7a4 := goodIn_r _ [29, 30, 31, 32] (by decide +kernel) (by decide +kernel)
set_option maxRecDepth 20000 in
theorem gX7_plays_J6_bitCount_0f7a4 : GoodIn wsX7_plays (va_wsS RX7 140 yJ6_bitCount_0f7a4 wsJ6_bitCount_0f7a4) := goodIn_app (goodIn_of _ (by decide +kernel)) ggX7_plays_J6_bitCount_0f7a4
theorem dX7_plays_0 : decode cX7_plays 0 = .ok (.iconst 0, 1) := by decide +kernel
theorem dX7_plays_1 : decode cX7_plays 1 = .ok (.istore 4, 2) := by decide +kernel
theorem dX7_plays_3 : decode cX7_plays 3 = .ok (.bipush 50, 2) := by decide +kernel
theorem dX7_plays_5 : decode cX7_plays 5 = .ok (.istore 5, 2) := by decide +kernel
theorem dX7_plays_7 : decode cX7_plays 7 = .ok (.aload_n 0, 1) := by decide +kernel
theorem dX7_plays_8 : decode cX7_plays 8 = .ok (.iconst 0, 1) := by decide +kernel
theorem dX7_plays_9 : decode cX7_plays 9 = .ok (.putfield 128, 3) := by decide +kernel
theorem dX7_plays_12 : decode cX7_plays 12 = .ok (.iconst 0, 1) := by decide +kernel
theorem dX7_plays_13 : decode cX7_plays 13 = .ok (.istore 6, 2) := by decide +kernel
theorem dX7_plays_15 : decode cX7_plays 15 = .ok (.iload 6, 2) := by decide +kernel
theorem dX7_plays_17 : decode cX7_plays 17 = .ok (.sipush 300, 3) := by decide +kernel
theorem dX7_plays_20 : decode cX7_plays 20 = .ok (.if_icmp .ge 141, 3) := by decide +kernel
theorem dX7_plays_23 : decode cX7_plays 23 = .ok (.aload_n 0, 1) := by decide +kernel
theorem dX7_plays_24 : decode cX7_plays 24 = .ok (.iload_n 1, 1) := by decide +kernel
theorem dX7_plays_25 : decode cX7_plays 25 = .ok (.iload 6, 2) := by decide +kernel
theorem dX7_plays_27 : decode cX7_plays 27 = .ok (.invokevirtual 131, 3) := by decide +kernel
theorem dX7_plays_30 : decode cX7_plays 30 = .ok (.istore 7, 2) := by decide +kernel
theorem dX7_plays_32 : decode cX7_plays 32 = .ok (.aload_n 0, 1) := by decide +kernel
theorem dX7_plays_33 : decode cX7_plays 33 = .ok (.iload_n 1, 1) := by decide +kernel
theorem dX7_plays_34 : decode cX7_plays 34 = .ok (.iload 6, 2) := by decide +kernel
theorem dX7_plays_36 : decode cX7_plays 36 = .ok (.invokevirtual 121, 3) := by decide +kernel
theorem dX7_plays_39 : decode cX7_plays 39 = .ok (.istore 8, 2) := by decide +kernel
theorem dX7_plays_41 : decode cX7_plays 41 = .ok (.iconst 0, 1) := by decide +kernel
theorem dX7_plays_42 : decode cX7_plays 42 = .ok (.istore 9, 2) := by decide +kernel
theorem dX7_plays_44 : decode cX7_plays 44 = .ok (.iload 9, 2) := by decide +kernel
theorem dX7_plays_46 : decode cX7_plays 46 = .ok (.iload 8, 2) := by decide +kernel
theorem dX7_plays_48 : decode cX7_plays 48 = .ok (.if_icmp .ge 107, 3) := by decide +kernel
theorem dX7_plays_51 : decode cX7_plays 51 = .ok (.aload_n 0, 1) := by decide +kernel
theorem dX7_plays_52 : decode cX7_plays 52 = .ok (.iload 5, 2) := by decide +kernel
theorem dX7_plays_54 : decode cX7_plays 54 = .ok (.putfield 134, 3) := by decide +kernel
theorem dX7_plays_57 : decode cX7_plays 57 = .ok (.aload_n 0, 1) := by decide +kernel
theorem dX7_plays_58 : decode cX7_plays 58 = .ok (.iload 5, 2) := by decide +kernel
theorem dX7_plays_60 : decode cX7_plays 60 = .ok (.bipush 8, 2) := by decide +kernel
theorem dX7_plays_62 : decode cX7_plays 62 = .ok (.if_icmp .lt 8, 3) := by decide +kernel
theorem dX7_plays_65 : decode cX7_plays 65 = .ok (.iload 7, 2) := by decide +kernel
theorem dX7_plays_67 : decode cX7_plays 67 = .ok (.goto 4, 3) := by decide +kernel
theorem dX7_plays_70 : decode cX7_plays 70 = .ok (.iconst 0, 1) := by decide +kernel
theorem dX7_plays_71 : decode cX7_plays 71 = .ok (.putfield 137, 3) := by decide +kernel
theorem dX7_plays_74 : decode cX7_plays 74 = .ok (.aload_n 0, 1) := by decide +kernel
theorem dX7_plays_75 : decode cX7_plays 75 = .ok (.dup, 1) := by decide +kernel
theorem dX7_plays_76 : decode cX7_plays 76 = .ok (.getfield 128, 3) := by decide +kernel
theorem dX7_plays_79 : decode cX7_plays 79 = .ok (.iload 7, 2) := by decide +kernel
theorem dX7_plays_81 : decode cX7_plays 81 = .ok (.ifCond .eq 14, 3) := by decide +kernel
theorem dX7_plays_84 : decode cX7_plays 84 = .ok (.aload_n 0, 1) := by decide +kernel
theorem dX7_plays_85 : decode cX7_plays 85 = .ok (.getfield 137, 3) := by decide +kernel
theorem dX7_plays_88 : decode cX7_plays 88 = .ok (.ifCond .ne 7, 3) := by decide +kernel
theorem dX7_plays_91 : decode cX7_plays 91 = .ok (.iconst 1, 1) := by decide +kernel
theorem dX7_plays_92 : decode cX7_plays 92 = .ok (.goto 4, 3) := by decide +kernel
theorem dX7_plays_95 : decode cX7_plays 95 = .ok (.iconst 0, 1) := by decide +kernel
theorem dX7_plays_96 : decode cX7_plays 96 = .ok (.iadd, 1) := by decide +kernel
theorem dX7_plays_97 : decode cX7_plays 97 = .ok (.putfield 128, 3) := by decide +kernel
theorem dX7_plays_100 : decode cX7_plays 100 = .ok (.iload 4, 2) := by decide +kernel
theorem dX7_plays_102 : decode cX7_plays 102 = .ok (.iload_n 3, 1) := by decide +kernel
theorem dX7_plays_103 : decode cX7_plays 103 = .ok (.if_icmp .ne 4, 3) := by decide +kernel
theorem dX7_plays_106 : decode cX7_plays 106 = .ok (.return_, 1) := by decide +kernel
theorem dX7_plays_107 : decode cX7_plays 107 = .ok (.iinc 4 1, 3) := by decide +kernel
theorem dX7_plays_110 : decode cX7_plays 110 = .ok (.iload 5, 2) := by decide +kernel
theorem dX7_plays_112 : decode cX7_plays 112 = .ok (.iload_n 2, 1) := by decide +kernel
theorem dX7_plays_113 : decode cX7_plays 113 = .ok (.aload_n 0, 1) := by decide +kernel
theorem dX7_plays_114 : decode cX7_plays 114 = .ok (.getfield 137, 3) := by decide +kernel
theorem dX7_plays_117 : decode cX7_plays 117 = .ok (.invokestatic 140, 3) := by decide +kernel
theorem dX7_plays_120 : decode cX7_plays 120 = .ok (.isub, 1) := by decide +kernel
theorem dX7_plays_121 : decode cX7_plays 121 = .ok (.iadd, 1) := by decide +kernel
theorem dX7_plays_122 : decode cX7_plays 122 = .ok (.istore 5, 2) := by decide +kernel
theorem dX7_plays_124 : decode cX7_plays 124 = .ok (.iload 5, 2) := by decide +kernel
theorem dX7_plays_126 : decode cX7_plays 126 = .ok (.ifCond .ge 7, 3) := by decide +kernel
theorem dX7_plays_129 : decode cX7_plays 129 = .ok (.iconst 0, 1) := by decide +kernel
theorem dX7_plays_130 : decode cX7_plays 130 = .ok (.goto 17, 3) := by decide +kernel
theorem dX7_plays_133 : decode cX7_plays 133 = .ok (.iload 5, 2) := by decide +kernel
theorem dX7_plays_135 : decode cX7_plays 135 = .ok (.bipush 100, 2) := by decide +kernel
theorem dX7_plays_137 : decode cX7_plays 137 = .ok (.if_icmp .le 8, 3) := by decide +kernel
theorem dX7_plays_140 : decode cX7_plays 140 = .ok (.bipush 100, 2) := by decide +kernel
theorem dX7_plays_142 : decode cX7_plays 142 = .ok (.goto 5, 3) := by decide +kernel
theorem dX7_plays_145 : decode cX7_plays 145 = .ok (.iload 5, 2) := by decide +kernel
theorem dX7_plays_147 : decode cX7_plays 147 = .ok (.istore 5, 2) := by decide +kernel
theorem dX7_plays_149 : decode cX7_plays 149 = .ok (.iinc 9 1, 3) := by decide +kernel
theorem dX7_plays_152 : decode cX7_plays 152 = .ok (.goto (-108), 3) := by decide +kernel
theorem dX7_plays_155 : decode cX7_plays 155 = .ok (.iinc 6 1, 3) := by decide +kernel
theorem dX7_plays_158 : decode cX7_plays 158 = .ok (.goto (-143), 3) := by decide +kernel
theorem dX7_plays_161 : decode cX7_plays 161 = .ok (.return_, 1) := by decide +kernel
set_option maxRecDepth 20000 in
theorem ggX7_isTick_X7_isRoll : GoodIn wsX7_isTick wsX7_isRoll := goodIn_r _ [5, 6, 7, 8, 4, 9, 21, 22, 23, 24, 25, 26, 27, 28, 29, 30, 31, 32, 33, 34, 35, 36, 37, 38, 39, 40, 41, 42, 43, 44, 45, 46, 47, 48, 49, 50, 51, 52, 53, 54] (by decide +kernel) (by decide +kernel)
set_option maxRecDepth 20000 in
theorem gX7_isTick_X7_isRoll : GoodIn wsX7_isTick (wsV RX7 96 RX7 yX7_isRoll wsX7_isRoll) := goodIn_app (goodIn_of _ (by decide +kernel)) ggX7_isTick_X7_isRoll
set_option maxRecDepth 20000 in
theorem ggX7_isTick_X7_within : GoodIn wsX7_isTick wsX7_within := goodIn_r _ [9] (by decide +kernel) (by decide +kernel)
set_option maxRecDepth 20000 in
theorem gX7_isTick_X7_within : GoodIn wsX7_isTick (va_wsS RX7 78 yX7_within wsX7_within) := goodIn_app (goodIn_of _ (by decide +kernel)) ggX7_isTick_X7_within
set_option maxRecDepth 20000 in
theorem ggX7_isTick_X7_allTicks : GoodIn wsX7_isTick wsX7_allTicks := goodIn_r _ [13, 14, 15, 16, 4, 17, 18, 19, 20, 21, 22, 23, 24, 25, 26, 27, 28, 29, 30, 31, 32, 33, 34, 35, 36, 37, 38, 39, 40, 41, 42, 43, 44, 45, 46, 47, 48, 49, 50, 51, 52, 53, 54] (by decide +kernel) (by decide +kernel)
set_option maxRecDepth 20000 in
theorem gX7_isTick_X7_allTicks : GoodIn wsX7_isTick (wsV RX7 125 RX7 yX7_allTicks wsX7_allTicks) := goodIn_app (goodIn_of _ (by decide +kernel)) ggX7_isTick_X7_allTicks
theorem dX7_isTick_0 : decode cX7_isTick 0 = .ok (.aload_n 0, 1) := by decide +kernel
theorem dX7_isTick_1 : decode cX7_isTick 1 = .ok (.iload_n 1, 1) := by decide +kernel
theorem dX7_isTick_2 : decode cX7_isTick 2 = .ok (.invokevirtual 96, 3) := by decide +kernel
theorem dX7_isTick_5 : decode cX7_isTick 5 = .ok (.ifCond .eq 32, 3) := by decide +kernel
theorem dX7_isTick_8 : decode cX7_isTick 8 = .ok (.iload_n 2, 1) := by decide +kernel
theorem dX7_isTick_9 : decode cX7_isTick 9 = .ok (.iconst 0, 1) := by decide +kernel
theorem dX7_isTick_10 : decode cX7_isTick 10 = .ok (.bipush 20, 2) := by decide +kernel
theorem dX7_isTick_12 : decode cX7_isTick 12 = .ok (.invokestatic 78, 3) := by decide +kernel
theorem dX7_isTick_15 : decode cX7_isTick 15 = .ok (.ifCond .eq 22, 3) := by decide +kernel
theorem dX7_isTick_18 : decode cX7_isTick 18 = .ok (.iload_n 3, 1) := by decide +kernel
theorem dX7_isTick_19 : decode cX7_isTick 19 = .ok (.iconst 0, 1) := by decide +kernel
theorem dX7_isTick_20 : decode cX7_isTick 20 = .ok (.aload_n 0, 1) := by decide +kernel
theorem dX7_isTick_21 : decode cX7_isTick 21 = .ok (.iload_n 1, 1) := by decide +kernel
theorem dX7_isTick_22 : decode cX7_isTick 22 = .ok (.invokevirtual 125, 3) := by decide +kernel
theorem dX7_isTick_25 : decode cX7_isTick 25 = .ok (.iconst 1, 1) := by decide +kernel
theorem dX7_isTick_26 : decode cX7_isTick 26 = .ok (.isub, 1) := by decide +kernel
theorem dX7_isTick_27 : decode cX7_isTick 27 = .ok (.invokestatic 78, 3) := by decide +kernel
theorem dX7_isTick_30 : decode cX7_isTick 30 = .ok (.ifCond .eq 7, 3) := by decide +kernel
theorem dX7_isTick_33 : decode cX7_isTick 33 = .ok (.iconst 1, 1) := by decide +kernel
theorem dX7_isTick_34 : decode cX7_isTick 34 = .ok (.goto 4, 3) := by decide +kernel
theorem dX7_isTick_37 : decode cX7_isTick 37 = .ok (.iconst 0, 1) := by decide +kernel
theorem dX7_isTick_38 : decode cX7_isTick 38 = .ok (.ireturn, 1) := by decide +kernel
set_option maxRecDepth 20000 in
theorem ggX7_sounds_X7_isTick : GoodIn wsX7_sounds wsX7_isTick := goodIn_r _ [7, 8, 9, 10, 6, 11, 12, 13, 14, 15, 16, 17, 18, 19, 20, 21, 22, 23, 24, 25, 26, 51, 52, 53, 54, 55, 56, 57, 58, 59, 60, 61, 62, 63, 64, 65, 66, 67, 68, 69, 70, 71, 72, 73, 74, 75, 76, 77, 78, 79, 80, 81, 82, 83, 84] (by decide +kernel) (by decide +kernel)
set_option maxRecDepth 20000 in
theorem gX7_sounds_X7_isTick : GoodIn wsX7_sounds (wsV RX7 145 RX7 yX7_isTick wsX7_isTick) := goodIn_app (goodIn_of _ (by decide +kernel)) ggX7_sounds_X7_isTick
set_option maxRecDepth 20000 in
theorem ggX7_sounds_X7_plays : GoodIn wsX7_sounds wsX7_plays := goodIn_r _ [30, 31, 32, 2, 33, 34, 35, 6, 36, 37, 38, 39, 40, 41, 42, 43, 13, 14, 15, 20, 21, 22, 23, 24, 25, 26, 44, 45, 46, 47, 48, 49, 50, 51, 52, 53, 54, 55, 56, 57, 58, 59, 60, 61, 62, 63, 64, 65, 66, 67, 68, 69, 70, 71, 72, 73, 74, 75, 76, 77, 78, 79, 80, 81, 82, 83, 84] (by decide +kernel) (by decide +kernel)
set_option maxRecDepth 20000 in
theorem gX7_sounds_X7_plays : GoodIn wsX7_sounds (wsV RX7 148 RX7 yX7_plays wsX7_plays) := goodIn_app (goodIn_of _ (by decide +kernel)) ggX7_sounds_X7_plays
theorem dX7_sounds_0 : decode cX7_sounds 0 = .ok (.aload_n 0, 1) := by decide +kernel
theorem dX7_sounds_1 : decode cX7_sounds 1 = .ok (.iconst 0, 1) := by decide +kernel
theorem dX7_sounds_2 : decode cX7_sounds 2 = .ok (.putfield 71, 3) := by decide +kernel
theorem dX7_sounds_5 : decode cX7_sounds 5 = .ok (.aload_n 0, 1) := by decide +kernel
theorem dX7_sounds_6 : decode cX7_sounds 6 = .ok (.iload_n 1, 1) := by decide +kernel
theorem dX7_sounds_7 : decode cX7_sounds 7 = .ok (.iload_n 2, 1) := by decide +kernel
theorem dX7_sounds_8 : decode cX7_sounds 8 = .ok (.iload_n 3, 1) := by decide +kernel
theorem dX7_sounds_9 : decode cX7_sounds 9 = .ok (.invokevirtual 145, 3) := by decide +kernel
theorem dX7_sounds_12 : decode cX7_sounds 12 = .ok (.ifCond .ne 5, 3) := by decide +kernel
theorem dX7_sounds_15 : decode cX7_sounds 15 = .ok (.iconst (-1), 1) := by decide +kernel
theorem dX7_sounds_16 : decode cX7_sounds 16 = .ok (.ireturn, 1) := by decide +kernel
theorem dX7_sounds_17 : decode cX7_sounds 17 = .ok (.aload_n 0, 1) := by decide +kernel
theorem dX7_sounds_18 : decode cX7_sounds 18 = .ok (.iload_n 1, 1) := by decide +kernel
theorem dX7_sounds_19 : decode cX7_sounds 19 = .ok (.iload_n 2, 1) := by decide +kernel
theorem dX7_sounds_20 : decode cX7_sounds 20 = .ok (.iload_n 3, 1) := by decide +kernel
theorem dX7_sounds_21 : decode cX7_sounds 21 = .ok (.invokevirtual 148, 3) := by decide +kernel
theorem dX7_sounds_24 : decode cX7_sounds 24 = .ok (.aload_n 0, 1) := by decide +kernel
theorem dX7_sounds_25 : decode cX7_sounds 25 = .ok (.getfield 137, 3) := by decide +kernel
theorem dX7_sounds_28 : decode cX7_sounds 28 = .ok (.ireturn, 1) := by decide +kernel
set_option maxRecDepth 20000 in
theorem ggX7_pressure_X7_isTick : GoodIn wsX7_pressure wsX7_isTick := goodIn_r _ [7, 8, 9, 10, 6, 11, 12, 13, 14, 15, 16, 17, 18, 19, 20, 21, 22, 23, 24, 25, 26, 51, 52, 53, 54, 55, 56, 57, 58, 59, 60, 61, 62, 63, 64, 65, 66, 67, 68, 69, 70, 71, 72, 73, 74, 75, 76, 77, 78, 79, 80, 81, 82, 83, 84] (by decide +kernel) (by decide +kernel)
set_option maxRecDepth 20000 in
theorem gX7_pressure_X7_isTick : GoodIn wsX7_pressure (wsV RX7 145 RX7 yX7_isTick wsX7_isTick) := goodIn_app (goodIn_of _ (by decide +kernel)) ggX7_pressure_X7_isTick
set_option maxRecDepth 20000 in
theorem ggX7_pressure_X7_plays : GoodIn wsX7_pressure wsX7_plays := goodIn_r _ [30, 31, 2, 32, 33, 34, 35, 6, 36, 37, 38, 39, 40, 41, 42, 43, 13, 14, 15, 20, 21, 22, 23, 24, 25, 26, 44, 45, 46, 47, 48, 49, 50, 51, 52, 53, 54, 55, 56, 57, 58, 59, 60, 61, 62, 63, 64, 65, 66, 67, 68, 69, 70, 71, 72, 73, 74, 75, 76, 77, 78, 79, 80, 81, 82, 83, 84] (by decide +kernel) (by decide +kernel)
set_option maxRecDepth 20000 in
theorem gX7_pressure_X7_plays : GoodIn wsX7_pressure (wsV RX7 148 RX7 yX7_plays wsX7_plays) := goodIn_app (goodIn_of _ (by decide +kernel)) ggX7_pressure_X7_plays
theorem dX7_pressure_0 : decode cX7_pressure 0 = .ok (.aload_n 0, 1) := by decide +kernel
theorem dX7_pressure_1 : decode cX7_pressure 1 = .ok (.iconst 0, 1) := by decide +kernel
theorem dX7_pressure_2 : decode cX7_pressure 2 = .ok (.putfield 71, 3) := by decide +kernel
theorem dX7_pressure_5 : decode cX7_pressure 5 = .ok (.aload_n 0, 1) := by decide +kernel
theorem dX7_pressure_6 : decode cX7_pressure 6 = .ok (.iload_n 1, 1) := by decide +kernel
theorem dX7_pressure_7 : decode cX7_pressure 7 = .ok (.iload_n 2, 1) := by decide +kernel
theorem dX7_pressure_8 : decode cX7_pressure 8 = .ok (.iload_n 3, 1) := by decide +kernel
theorem dX7_pressure_9 : decode cX7_pressure 9 = .ok (.invokevirtual 145, 3) := by decide +kernel
theorem dX7_pressure_12 : decode cX7_pressure 12 = .ok (.ifCond .ne 5, 3) := by decide +kernel
theorem dX7_pressure_15 : decode cX7_pressure 15 = .ok (.iconst (-1), 1) := by decide +kernel
theorem dX7_pressure_16 : decode cX7_pressure 16 = .ok (.ireturn, 1) := by decide +kernel
theorem dX7_pressure_17 : decode cX7_pressure 17 = .ok (.aload_n 0, 1) := by decide +kernel
theorem dX7_pressure_18 : decode cX7_pressure 18 = .ok (.iload_n 1, 1) := by decide +kernel
theorem dX7_pressure_19 : decode cX7_pressure 19 = .ok (.iload_n 2, 1) := by decide +kernel
theorem dX7_pressure_20 : decode cX7_pressure 20 = .ok (.iload_n 3, 1) := by decide +kernel
theorem dX7_pressure_21 : decode cX7_pressure 21 = .ok (.invokevirtual 148, 3) := by decide +kernel
theorem dX7_pressure_24 : decode cX7_pressure 24 = .ok (.aload_n 0, 1) := by decide +kernel
theorem dX7_pressure_25 : decode cX7_pressure 25 = .ok (.getfield 134, 3) := by decide +kernel
theorem dX7_pressure_28 : decode cX7_pressure 28 = .ok (.ireturn, 1) := by decide +kernel
set_option maxRecDepth 20000 in
theorem ggX7_silent_X7_isRoll : GoodIn wsX7_silent wsX7_isRoll := goodIn_r _ [7, 8, 9, 10, 6, 11, 43, 44, 45, 46, 47, 48, 49, 50, 51, 52, 53, 54, 55, 56, 57, 58, 59, 60, 61, 62, 63, 64, 65, 66, 67, 68, 69, 70, 71, 72, 73, 74, 75, 76] (by decide +kernel) (by decide +kernel)
set_option maxRecDepth 20000 in
theorem gX7_silent_X7_isRoll : GoodIn wsX7_silent (wsV RX7 96 RX7 yX7_isRoll wsX7_isRoll) := goodIn_app (goodIn_of _ (by decide +kernel)) ggX7_silent_X7_isRoll
set_option maxRecDepth 20000 in
theorem ggX7_silent_X7_within : GoodIn wsX7_silent wsX7_within := goodIn_r _ [11] (by decide +kernel) (by decide +kernel)
set_option maxRecDepth 20000 in
theorem gX7_silent_X7_within : GoodIn wsX7_silent (va_wsS RX7 78 yX7_within wsX7_within) := goodIn_app (goodIn_of _ (by decide +kernel)) ggX7_silent_X7_within
set_option maxRecDepth 20000 in
theorem ggX7_silent_X7_plays : GoodIn wsX7_silent wsX7_plays := goodIn_r _ [15, 2, 16, 17, 18, 19, 20, 6, 21, 22, 23, 24, 25, 26, 27, 28, 9, 10, 11, 29, 30, 31, 32, 33, 34, 35, 36, 37, 38, 39, 40, 41, 42, 43, 44, 45, 46, 47, 48, 49, 50, 51, 52, 53, 54, 55, 56, 57, 58, 59, 60, 61, 62, 63, 64, 65, 66, 67, 68, 69, 70, 71, 72, 73, 74, 75, 76] (by decide +kernel) (by decide +kernel)
set_option maxRecDepth 20000 in
theorem gX7_silent_X7_plays : GoodIn wsX7_silent (wsV RX7 148 RX7 yX7_plays wsX7_plays) := goodIn_app (goodIn_of _ (by decide +kernel)) ggX7_silent_X7_plays
theorem dX7_silent_0 : decode cX7_silent 0 = .ok (.aload_n 0, 1) := by decide +kernel
theorem dX7_silent_1 : decode cX7_silent 1 = .ok (.iconst 0, 1) := by decide +kernel
theorem dX7_silent_2 : decode cX7_silent 2 = .ok (.putfield 71, 3) := by decide +kernel
theorem dX7_silent_5 : decode cX7_silent 5 = .ok (.aload_n 0, 1) := by decide +kernel
theorem dX7_silent_6 : decode cX7_silent 6 = .ok (.iload_n 1, 1) := by decide +kernel
theorem dX7_silent_7 : decode cX7_silent 7 = .ok (.invokevirtual 96, 3) := by decide +kernel
theorem dX7_silent_10 : decode cX7_silent 10 = .ok (.ifCond .eq 13, 3) := by decide +kernel
theorem dX7_silent_13 : decode cX7_silent 13 = .ok (.iload_n 2, 1) := by decide +kernel
theorem dX7_silent_14 : decode cX7_silent 14 = .ok (.iconst 0, 1) := by decide +kernel
theorem dX7_silent_15 : decode cX7_silent 15 = .ok (.bipush 20, 2) := by decide +kernel
theorem dX7_silent_17 : decode cX7_silent 17 = .ok (.invokestatic 78, 3) := by decide +kernel
theorem dX7_silent_20 : decode cX7_silent 20 = .ok (.ifCond .ne 5, 3) := by decide +kernel
theorem dX7_silent_23 : decode cX7_silent 23 = .ok (.iconst (-1), 1) := by decide +kernel
theorem dX7_silent_24 : decode cX7_silent 24 = .ok (.ireturn, 1) := by decide +kernel
theorem dX7_silent_25 : decode cX7_silent 25 = .ok (.aload_n 0, 1) := by decide +kernel
theorem dX7_silent_26 : decode cX7_silent 26 = .ok (.iload_n 1, 1) := by decide +kernel
theorem dX7_silent_27 : decode cX7_silent 27 = .ok (.iload_n 2, 1) := by decide +kernel
theorem dX7_silent_28 : decode cX7_silent 28 = .ok (.iconst (-1), 1) := by decide +kernel
theorem dX7_silent_29 : decode cX7_silent 29 = .ok (.invokevirtual 148, 3) := by decide +kernel
theorem dX7_silent_32 : decode cX7_silent 32 = .ok (.aload_n 0, 1) := by decide +kernel
theorem dX7_silent_33 : decode cX7_silent 33 = .ok (.getfield 128, 3) := by decide +kernel
theorem dX7_silent_36 : decode cX7_silent 36 = .ok (.ireturn, 1) := by decide +kernel
set_option maxRecDepth 20000 in
theorem ggX7_move_X7_isRoll : GoodIn wsX7_move wsX7_isRoll := goodIn_r _ [14, 15, 16, 17, 13, 18, 52, 53, 54, 55, 56, 57, 58, 59, 60, 61, 62, 63, 64, 65, 66, 67, 68, 69, 70, 71, 72, 73, 74, 75, 76, 77, 78, 79, 80, 81, 82, 83, 84, 85] (by decide +kernel) (by decide +kernel)
set_option maxRecDepth 20000 in
theorem gX7_move_X7_isRoll : GoodIn wsX7_move (wsV RX7 96 RX7 yX7_isRoll wsX7_isRoll) := goodIn_app (goodIn_of _ (by decide +kernel)) ggX7_move_X7_isRoll
set_option maxRecDepth 20000 in
theorem ggX7_move_X7_notes : GoodIn wsX7_move wsX7_notes := goodIn_r _ [22, 9, 52, 53, 54, 55, 56, 57, 58, 59, 60, 61, 62, 63, 64, 65, 66, 67, 68, 69, 70, 71, 72, 73, 74, 75, 76, 77, 78, 79, 80, 81, 82, 83, 84, 85] (by decide +kernel) (by decide +kernel)
set_option maxRecDepth 20000 in
theorem gX7_move_X7_notes : GoodIn wsX7_move (wsV RX7 100 RX7 yX7_notes wsX7_notes) := goodIn_app (goodIn_of _ (by decide +kernel)) ggX7_move_X7_notes
set_option maxRecDepth 20000 in
theorem ggX7_move_X7_orders : GoodIn wsX7_move wsX7_orders := goodIn_r _ [26, 5, 9, 6, 27, 28, 29, 13, 30, 8, 7, 52, 53, 54, 55, 56, 57, 58, 59, 60, 61, 62, 63, 64, 65, 66, 67, 68, 69, 70, 71, 72, 73, 74, 75, 76, 77, 78, 79, 80, 81, 82, 83, 84, 85] (by decide +kernel) (by decide +kernel)
set_option maxRecDepth 20000 in
theorem gX7_move_X7_orders : GoodIn wsX7_move (wsV RX7 118 RX7 yX7_orders wsX7_orders) := goodIn_app (goodIn_of _ (by decide +kernel)) ggX7_move_X7_orders
set_option maxRecDepth 20000 in
theorem ggX7_move_X7_lays : GoodIn wsX7_move wsX7_lays := goodIn_r _ [34, 9, 7, 8, 35, 36, 37, 13, 38, 39, 40, 41, 42, 43, 44, 45, 46, 47, 48, 49, 50, 51, 16, 17, 18, 52, 53, 54, 55, 56, 57, 58, 59, 60, 61, 62, 63, 64, 65, 66, 67, 68, 69, 70, 71, 72, 73, 74, 75, 76, 77, 78, 79, 80, 81, 82, 83, 84, 85] (by decide +kernel) (by decide +kernel)
set_option maxRecDepth 20000 in
theorem gX7_move_X7_lays : GoodIn wsX7_move (wsV RX7 104 RX7 yX7_lays wsX7_lays) := goodIn_app (goodIn_of _ (by decide +kernel)) ggX7_move_X7_lays
theorem dX7_move_0 : decode cX7_move 0 = .ok (.aload_n 0, 1) := by decide +kernel
theorem dX7_move_1 : decode cX7_move 1 = .ok (.iconst 0, 1) := by decide +kernel
theorem dX7_move_2 : decode cX7_move 2 = .ok (.putfield 71, 3) := by decide +kernel
theorem dX7_move_5 : decode cX7_move 5 = .ok (.aload_n 0, 1) := by decide +kernel
theorem dX7_move_6 : decode cX7_move 6 = .ok (.iload_n 1, 1) := by decide +kernel
theorem dX7_move_7 : decode cX7_move 7 = .ok (.invokevirtual 96, 3) := by decide +kernel
theorem dX7_move_10 : decode cX7_move 10 = .ok (.ifCond .eq 24, 3) := by decide +kernel
theorem dX7_move_13 : decode cX7_move 13 = .ok (.aload_n 0, 1) := by decide +kernel
theorem dX7_move_14 : decode cX7_move 14 = .ok (.iload_n 2, 1) := by decide +kernel
theorem dX7_move_15 : decode cX7_move 15 = .ok (.invokevirtual 96, 3) := by decide +kernel
theorem dX7_move_18 : decode cX7_move 18 = .ok (.ifCond .eq 16, 3) := by decide +kernel
theorem dX7_move_21 : decode cX7_move 21 = .ok (.iload_n 1, 1) := by decide +kernel
theorem dX7_move_22 : decode cX7_move 22 = .ok (.iload_n 2, 1) := by decide +kernel
theorem dX7_move_23 : decode cX7_move 23 = .ok (.if_icmp .eq 11, 3) := by decide +kernel
theorem dX7_move_26 : decode cX7_move 26 = .ok (.aload_n 0, 1) := by decide +kernel
theorem dX7_move_27 : decode cX7_move 27 = .ok (.iload_n 2, 1) := by decide +kernel
theorem dX7_move_28 : decode cX7_move 28 = .ok (.invokevirtual 100, 3) := by decide +kernel
theorem dX7_move_31 : decode cX7_move 31 = .ok (.ifCond .le 5, 3) := by decide +kernel
theorem dX7_move_34 : decode cX7_move 34 = .ok (.iconst (-1), 1) := by decide +kernel
theorem dX7_move_35 : decode cX7_move 35 = .ok (.ireturn, 1) := by decide +kernel
theorem dX7_move_36 : decode cX7_move 36 = .ok (.aload_n 0, 1) := by decide +kernel
theorem dX7_move_37 : decode cX7_move 37 = .ok (.getfield 19, 3) := by decide +kernel
theorem dX7_move_40 : decode cX7_move 40 = .ok (.iload_n 2, 1) := by decide +kernel
theorem dX7_move_41 : decode cX7_move 41 = .ok (.aload_n 0, 1) := by decide +kernel
theorem dX7_move_42 : decode cX7_move 42 = .ok (.getfield 19, 3) := by decide +kernel
theorem dX7_move_45 : decode cX7_move 45 = .ok (.iload_n 1, 1) := by decide +kernel
theorem dX7_move_46 : decode cX7_move 46 = .ok (.iaload, 1) := by decide +kernel
theorem dX7_move_47 : decode cX7_move 47 = .ok (.iastore, 1) := by decide +kernel
theorem dX7_move_48 : decode cX7_move 48 = .ok (.iconst 0, 1) := by decide +kernel
theorem dX7_move_49 : decode cX7_move 49 = .ok (.istore_n 3, 1) := by decide +kernel
theorem dX7_move_50 : decode cX7_move 50 = .ok (.iload_n 3, 1) := by decide +kernel
theorem dX7_move_51 : decode cX7_move 51 = .ok (.bipush 10, 2) := by decide +kernel
theorem dX7_move_53 : decode cX7_move 53 = .ok (.if_icmp .ge 53, 3) := by decide +kernel
theorem dX7_move_56 : decode cX7_move 56 = .ok (.aload_n 0, 1) := by decide +kernel
theorem dX7_move_57 : decode cX7_move 57 = .ok (.getfield 22, 3) := by decide +kernel
theorem dX7_move_60 : decode cX7_move 60 = .ok (.bipush 10, 2) := by decide +kernel
theorem dX7_move_62 : decode cX7_move 62 = .ok (.iload_n 2, 1) := by decide +kernel
theorem dX7_move_63 : decode cX7_move 63 = .ok (.imul, 1) := by decide +kernel
theorem dX7_move_64 : decode cX7_move 64 = .ok (.iload_n 3, 1) := by decide +kernel
theorem dX7_move_65 : decode cX7_move 65 = .ok (.iadd, 1) := by decide +kernel
theorem dX7_move_66 : decode cX7_move 66 = .ok (.aload_n 0, 1) := by decide +kernel
theorem dX7_move_67 : decode cX7_move 67 = .ok (.getfield 22, 3) := by decide +kernel
theorem dX7_move_70 : decode cX7_move 70 = .ok (.bipush 10, 2) := by decide +kernel
theorem dX7_move_72 : decode cX7_move 72 = .ok (.iload_n 1, 1) := by decide +kernel
theorem dX7_move_73 : decode cX7_move 73 = .ok (.imul, 1) := by decide +kernel
theorem dX7_move_74 : decode cX7_move 74 = .ok (.iload_n 3, 1) := by decide +kernel
theorem dX7_move_75 : decode cX7_move 75 = .ok (.iadd, 1) := by decide +kernel
theorem dX7_move_76 : decode cX7_move 76 = .ok (.iaload, 1) := by decide +kernel
theorem dX7_move_77 : decode cX7_move 77 = .ok (.iastore, 1) := by decide +kernel
theorem dX7_move_78 : decode cX7_move 78 = .ok (.aload_n 0, 1) := by decide +kernel
theorem dX7_move_79 : decode cX7_move 79 = .ok (.getfield 25, 3) := by decide +kernel
theorem dX7_move_82 : decode cX7_move 82 = .ok (.bipush 10, 2) := by decide +kernel
theorem dX7_move_84 : decode cX7_move 84 = .ok (.iload_n 2, 1) := by decide +kernel
theorem dX7_move_85 : decode cX7_move 85 = .ok (.imul, 1) := by decide +kernel
theorem dX7_move_86 : decode cX7_move 86 = .ok (.iload_n 3, 1) := by decide +kernel
theorem dX7_move_87 : decode cX7_move 87 = .ok (.iadd, 1) := by decide +kernel
theorem dX7_move_88 : decode cX7_move 88 = .ok (.aload_n 0, 1) := by decide +kernel
theorem dX7_move_89 : decode cX7_move 89 = .ok (.getfield 25, 3) := by decide +kernel
theorem dX7_move_92 : decode cX7_move 92 = .ok (.bipush 10, 2) := by decide +kernel
theorem dX7_move_94 : decode cX7_move 94 = .ok (.iload_n 1, 1) := by decide +kernel
theorem dX7_move_95 : decode cX7_move 95 = .ok (.imul, 1) := by decide +kernel
theorem dX7_move_96 : decode cX7_move 96 = .ok (.iload_n 3, 1) := by decide +kernel
theorem dX7_move_97 : decode cX7_move 97 = .ok (.iadd, 1) := by decide +kernel
theorem dX7_move_98 : decode cX7_move 98 = .ok (.iaload, 1) := by decide +kernel
theorem dX7_move_99 : decode cX7_move 99 = .ok (.iastore, 1) := by decide +kernel
theorem dX7_move_100 : decode cX7_move 100 = .ok (.iinc 3 1, 3) := by decide +kernel
theorem dX7_move_103 : decode cX7_move 103 = .ok (.goto (-53), 3) := by decide +kernel
theorem dX7_move_106 : decode cX7_move 106 = .ok (.aload_n 0, 1) := by decide +kernel
theorem dX7_move_107 : decode cX7_move 107 = .ok (.iload_n 1, 1) := by decide +kernel
theorem dX7_move_108 : decode cX7_move 108 = .ok (.invokevirtual 118, 3) := by decide +kernel
theorem dX7_move_111 : decode cX7_move 111 = .ok (.iconst 0, 1) := by decide +kernel
theorem dX7_move_112 : decode cX7_move 112 = .ok (.istore_n 3, 1) := by decide +kernel
theorem dX7_move_113 : decode cX7_move 113 = .ok (.iconst 0, 1) := by decide +kernel
theorem dX7_move_114 : decode cX7_move 114 = .ok (.istore 4, 2) := by decide +kernel
theorem dX7_move_116 : decode cX7_move 116 = .ok (.iload 4, 2) := by decide +kernel
theorem dX7_move_118 : decode cX7_move 118 = .ok (.aload_n 0, 1) := by decide +kernel
theorem dX7_move_119 : decode cX7_move 119 = .ok (.getfield 112, 3) := by decide +kernel
theorem dX7_move_122 : decode cX7_move 122 = .ok (.if_icmp .ge 108, 3) := by decide +kernel
theorem dX7_move_125 : decode cX7_move 125 = .ok (.aload_n 0, 1) := by decide +kernel
theorem dX7_move_126 : decode cX7_move 126 = .ok (.getfield 32, 3) := by decide +kernel
theorem dX7_move_129 : decode cX7_move 129 = .ok (.iload 4, 2) := by decide +kernel
theorem dX7_move_131 : decode cX7_move 131 = .ok (.iaload, 1) := by decide +kernel
theorem dX7_move_132 : decode cX7_move 132 = .ok (.istore 5, 2) := by decide +kernel
theorem dX7_move_134 : decode cX7_move 134 = .ok (.aload_n 0, 1) := by decide +kernel
theorem dX7_move_135 : decode cX7_move 135 = .ok (.getfield 7, 3) := by decide +kernel
theorem dX7_move_138 : decode cX7_move 138 = .ok (.iload 5, 2) := by decide +kernel
theorem dX7_move_140 : decode cX7_move 140 = .ok (.iaload, 1) := by decide +kernel
theorem dX7_move_141 : decode cX7_move 141 = .ok (.iconst 4, 1) := by decide +kernel
theorem dX7_move_142 : decode cX7_move 142 = .ok (.if_icmp .ge 16, 3) := by decide +kernel
theorem dX7_move_145 : decode cX7_move 145 = .ok (.aload_n 0, 1) := by decide +kernel
theorem dX7_move_146 : decode cX7_move 146 = .ok (.getfield 7, 3) := by decide +kernel
theorem dX7_move_149 : decode cX7_move 149 = .ok (.iload 5, 2) := by decide +kernel
theorem dX7_move_151 : decode cX7_move 151 = .ok (.iaload, 1) := by decide +kernel
theorem dX7_move_152 : decode cX7_move 152 = .ok (.bipush 12, 2) := by decide +kernel
theorem dX7_move_154 : decode cX7_move 154 = .ok (.iadd, 1) := by decide +kernel
theorem dX7_move_155 : decode cX7_move 155 = .ok (.goto 35, 3) := by decide +kernel
theorem dX7_move_158 : decode cX7_move 158 = .ok (.aload_n 0, 1) := by decide +kernel
theorem dX7_move_159 : decode cX7_move 159 = .ok (.getfield 7, 3) := by decide +kernel
theorem dX7_move_162 : decode cX7_move 162 = .ok (.iload 5, 2) := by decide +kernel
theorem dX7_move_164 : decode cX7_move 164 = .ok (.iaload, 1) := by decide +kernel
theorem dX7_move_165 : decode cX7_move 165 = .ok (.bipush 19, 2) := by decide +kernel
theorem dX7_move_167 : decode cX7_move 167 = .ok (.if_icmp .le 16, 3) := by decide +kernel
theorem dX7_move_170 : decode cX7_move 170 = .ok (.aload_n 0, 1) := by decide +kernel
theorem dX7_move_171 : decode cX7_move 171 = .ok (.getfield 7, 3) := by decide +kernel
theorem dX7_move_174 : decode cX7_move 174 = .ok (.iload 5, 2) := by decide +kernel
theorem dX7_move_176 : decode cX7_move 176 = .ok (.iaload, 1) := by decide +kernel
theorem dX7_move_177 : decode cX7_move 177 = .ok (.bipush 12, 2) := by decide +kernel
theorem dX7_move_179 : decode cX7_move 179 = .ok (.isub, 1) := by decide +kernel
theorem dX7_move_180 : decode cX7_move 180 = .ok (.goto 10, 3) := by decide +kernel
theorem dX7_move_183 : decode cX7_move 183 = .ok (.aload_n 0, 1) := by decide +kernel
theorem dX7_move_184 : decode cX7_move 184 = .ok (.getfield 7, 3) := by decide +kernel
theorem dX7_move_187 : decode cX7_move 187 = .ok (.iload 5, 2) := by decide +kernel
theorem dX7_move_189 : decode cX7_move 189 = .ok (.iaload, 1) := by decide +kernel
theorem dX7_move_190 : decode cX7_move 190 = .ok (.istore 6, 2) := by decide +kernel
theorem dX7_move_192 : decode cX7_move 192 = .ok (.iload_n 3, 1) := by decide +kernel
theorem dX7_move_193 : decode cX7_move 193 = .ok (.aload_n 0, 1) := by decide +kernel
theorem dX7_move_194 : decode cX7_move 194 = .ok (.iload_n 2, 1) := by decide +kernel
theorem dX7_move_195 : decode cX7_move 195 = .ok (.iload 6, 2) := by decide +kernel
theorem dX7_move_197 : decode cX7_move 197 = .ok (.aload_n 0, 1) := by decide +kernel
theorem dX7_move_198 : decode cX7_move 198 = .ok (.getfield 13, 3) := by decide +kernel
theorem dX7_move_201 : decode cX7_move 201 = .ok (.iload 5, 2) := by decide +kernel
theorem dX7_move_203 : decode cX7_move 203 = .ok (.iaload, 1) := by decide +kernel
theorem dX7_move_204 : decode cX7_move 204 = .ok (.aload_n 0, 1) := by decide +kernel
theorem dX7_move_205 : decode cX7_move 205 = .ok (.getfield 16, 3) := by decide +kernel
theorem dX7_move_208 : decode cX7_move 208 = .ok (.iload 5, 2) := by decide +kernel
theorem dX7_move_210 : decode cX7_move 210 = .ok (.iaload, 1) := by decide +kernel
theorem dX7_move_211 : decode cX7_move 211 = .ok (.invokevirtual 104, 3) := by decide +kernel
theorem dX7_move_214 : decode cX7_move 214 = .ok (.ifCond .ne 7, 3) := by decide +kernel
theorem dX7_move_217 : decode cX7_move 217 = .ok (.iconst 0, 1) := by decide +kernel
theorem dX7_move_218 : decode cX7_move 218 = .ok (.goto 4, 3) := by decide +kernel
theorem dX7_move_221 : decode cX7_move 221 = .ok (.iconst 1, 1) := by decide +kernel
theorem dX7_move_222 : decode cX7_move 222 = .ok (.iadd, 1) := by decide +kernel
theorem dX7_move_223 : decode cX7_move 223 = .ok (.istore_n 3, 1) := by decide +kernel
theorem dX7_move_224 : decode cX7_move 224 = .ok (.iinc 4 1, 3) := by decide +kernel
theorem dX7_move_227 : decode cX7_move 227 = .ok (.goto (-111), 3) := by decide +kernel
theorem dX7_move_230 : decode cX7_move 230 = .ok (.iload_n 3, 1) := by decide +kernel
theorem dX7_move_231 : decode cX7_move 231 = .ok (.ireturn, 1) := by decide +kernel
set_option maxRecDepth 20000 in
theorem ggX7_item_X7_within : GoodIn wsX7_item wsX7_within := goodIn_r _ [8] (by decide +kernel) (by decide +kernel)
set_option maxRecDepth 20000 in
theorem gX7_item_X7_within : GoodIn wsX7_item (va_wsS RX7 78 yX7_within wsX7_within) := goodIn_app (goodIn_of _ (by decide +kernel)) ggX7_item_X7_within
theorem dX7_item_0 : decode cX7_item 0 = .ok (.aload_n 0, 1) := by decide +kernel
theorem dX7_item_1 : decode cX7_item 1 = .ok (.iconst 0, 1) := by decide +kernel
theorem dX7_item_2 : decode cX7_item 2 = .ok (.putfield 71, 3) := by decide +kernel
theorem dX7_item_5 : decode cX7_item 5 = .ok (.iload_n 1, 1) := by decide +kernel
theorem dX7_item_6 : decode cX7_item 6 = .ok (.iconst 0, 1) := by decide +kernel
theorem dX7_item_7 : decode cX7_item 7 = .ok (.bipush 23, 2) := by decide +kernel
theorem dX7_item_9 : decode cX7_item 9 = .ok (.invokestatic 78, 3) := by decide +kernel
theorem dX7_item_12 : decode cX7_item 12 = .ok (.ifCond .eq 45, 3) := by decide +kernel
theorem dX7_item_15 : decode cX7_item 15 = .ok (.iload_n 2, 1) := by decide +kernel
theorem dX7_item_16 : decode cX7_item 16 = .ok (.iconst 0, 1) := by decide +kernel
theorem dX7_item_17 : decode cX7_item 17 = .ok (.sipush 299, 3) := by decide +kernel
theorem dX7_item_20 : decode cX7_item 20 = .ok (.invokestatic 78, 3) := by decide +kernel
theorem dX7_item_23 : decode cX7_item 23 = .ok (.ifCond .eq 34, 3) := by decide +kernel
theorem dX7_item_26 : decode cX7_item 26 = .ok (.aload_n 0, 1) := by decide +kernel
theorem dX7_item_27 : decode cX7_item 27 = .ok (.getfield 152, 3) := by decide +kernel
theorem dX7_item_30 : decode cX7_item 30 = .ok (.bipush 40, 2) := by decide +kernel
theorem dX7_item_32 : decode cX7_item 32 = .ok (.if_icmp .eq 25, 3) := by decide +kernel
theorem dX7_item_35 : decode cX7_item 35 = .ok (.aload_n 0, 1) := by decide +kernel
theorem dX7_item_36 : decode cX7_item 36 = .ok (.getfield 152, 3) := by decide +kernel
theorem dX7_item_39 : decode cX7_item 39 = .ok (.ifCond .le 20, 3) := by decide +kernel
theorem dX7_item_42 : decode cX7_item 42 = .ok (.aload_n 0, 1) := by decide +kernel
theorem dX7_item_43 : decode cX7_item 43 = .ok (.getfield 38, 3) := by decide +kernel
theorem dX7_item_46 : decode cX7_item 46 = .ok (.aload_n 0, 1) := by decide +kernel
theorem dX7_item_47 : decode cX7_item 47 = .ok (.getfield 152, 3) := by decide +kernel
theorem dX7_item_50 : decode cX7_item 50 = .ok (.iconst 1, 1) := by decide +kernel
theorem dX7_item_51 : decode cX7_item 51 = .ok (.isub, 1) := by decide +kernel
theorem dX7_item_52 : decode cX7_item 52 = .ok (.iaload, 1) := by decide +kernel
theorem dX7_item_53 : decode cX7_item 53 = .ok (.iload_n 2, 1) := by decide +kernel
theorem dX7_item_54 : decode cX7_item 54 = .ok (.if_icmp .le 5, 3) := by decide +kernel
theorem dX7_item_57 : decode cX7_item 57 = .ok (.iconst (-1), 1) := by decide +kernel
theorem dX7_item_58 : decode cX7_item 58 = .ok (.ireturn, 1) := by decide +kernel
theorem dX7_item_59 : decode cX7_item 59 = .ok (.aload_n 0, 1) := by decide +kernel
theorem dX7_item_60 : decode cX7_item 60 = .ok (.getfield 35, 3) := by decide +kernel
theorem dX7_item_63 : decode cX7_item 63 = .ok (.aload_n 0, 1) := by decide +kernel
theorem dX7_item_64 : decode cX7_item 64 = .ok (.getfield 152, 3) := by decide +kernel
theorem dX7_item_67 : decode cX7_item 67 = .ok (.iload_n 1, 1) := by decide +kernel
theorem dX7_item_68 : decode cX7_item 68 = .ok (.iastore, 1) := by decide +kernel
theorem dX7_item_69 : decode cX7_item 69 = .ok (.aload_n 0, 1) := by decide +kernel
theorem dX7_item_70 : decode cX7_item 70 = .ok (.getfield 38, 3) := by decide +kernel
theorem dX7_item_73 : decode cX7_item 73 = .ok (.aload_n 0, 1) := by decide +kernel
theorem dX7_item_74 : decode cX7_item 74 = .ok (.getfield 152, 3) := by decide +kernel
theorem dX7_item_77 : decode cX7_item 77 = .ok (.iload_n 2, 1) := by decide +kernel
theorem dX7_item_78 : decode cX7_item 78 = .ok (.iastore, 1) := by decide +kernel
theorem dX7_item_79 : decode cX7_item 79 = .ok (.aload_n 0, 1) := by decide +kernel
theorem dX7_item_80 : decode cX7_item 80 = .ok (.dup, 1) := by decide +kernel
theorem dX7_item_81 : decode cX7_item 81 = .ok (.getfield 152, 3) := by decide +kernel
theorem dX7_item_84 : decode cX7_item 84 = .ok (.iconst 1, 1) := by decide +kernel
theorem dX7_item_85 : decode cX7_item 85 = .ok (.iadd, 1) := by decide +kernel
theorem dX7_item_86 : decode cX7_item 86 = .ok (.putfield 152, 3) := by decide +kernel
theorem dX7_item_89 : decode cX7_item 89 = .ok (.aload_n 0, 1) := by decide +kernel
theorem dX7_item_90 : decode cX7_item 90 = .ok (.getfield 152, 3) := by decide +kernel
theorem dX7_item_93 : decode cX7_item 93 = .ok (.iconst 1, 1) := by decide +kernel
theorem dX7_item_94 : decode cX7_item 94 = .ok (.isub, 1) := by decide +kernel
theorem dX7_item_95 : decode cX7_item 95 = .ok (.ireturn, 1) := by decide +kernel
theorem dX7_clear_0 : decode cX7_clear 0 = .ok (.aload_n 0, 1) := by decide +kernel
theorem dX7_clear_1 : decode cX7_clear 1 = .ok (.iconst 0, 1) := by decide +kernel
theorem dX7_clear_2 : decode cX7_clear 2 = .ok (.putfield 71, 3) := by decide +kernel
theorem dX7_clear_5 : decode cX7_clear 5 = .ok (.aload_n 0, 1) := by decide +kernel
theorem dX7_clear_6 : decode cX7_clear 6 = .ok (.iconst 0, 1) := by decide +kernel
theorem dX7_clear_7 : decode cX7_clear 7 = .ok (.putfield 152, 3) := by decide +kernel
theorem dX7_clear_10 : decode cX7_clear 10 = .ok (.return_, 1) := by decide +kernel
theorem dX7_size_0 : decode cX7_size 0 = .ok (.iload_n 0, 1) := by decide +kernel
theorem dX7_size_1 : decode cX7_size 1 = .ok (.ifCond .ge 8, 3) := by decide +kernel
theorem dX7_size_4 : decode cX7_size 4 = .ok (.iload_n 0, 1) := by decide +kernel
theorem dX7_size_5 : decode cX7_size 5 = .ok (.ineg, 1) := by decide +kernel
theorem dX7_size_6 : decode cX7_size 6 = .ok (.goto 4, 3) := by decide +kernel
theorem dX7_size_9 : decode cX7_size 9 = .ok (.iload_n 0, 1) := by decide +kernel
theorem dX7_size_10 : decode cX7_size 10 = .ok (.ireturn, 1) := by decide +kernel
set_option maxRecDepth 20000 in
theorem ggX7_pairs_X7_size : GoodIn wsX7_pairs wsX7_size := goodIn_r _ [9] (by decide +kernel) (by decide +kernel)
set_option maxRecDepth 20000 in
theorem gX7_pairs_X7_size : GoodIn wsX7_pairs (va_wsS RX7 155 yX7_size wsX7_size) := goodIn_app (goodIn_of _ (by decide +kernel)) ggX7_pairs_X7_size
theorem dX7_pairs_0 : decode cX7_pairs 0 = .ok (.aload_n 0, 1) := by decide +kernel
theorem dX7_pairs_1 : decode cX7_pairs 1 = .ok (.getfield 13, 3) := by decide +kernel
theorem dX7_pairs_4 : decode cX7_pairs 4 = .ok (.aload_n 0, 1) := by decide +kernel
theorem dX7_pairs_5 : decode cX7_pairs 5 = .ok (.getfield 32, 3) := by decide +kernel
theorem dX7_pairs_8 : decode cX7_pairs 8 = .ok (.iload_n 1, 1) := by decide +kernel
theorem dX7_pairs_9 : decode cX7_pairs 9 = .ok (.iaload, 1) := by decide +kernel
theorem dX7_pairs_10 : decode cX7_pairs 10 = .ok (.iaload, 1) := by decide +kernel
theorem dX7_pairs_11 : decode cX7_pairs 11 = .ok (.aload_n 0, 1) := by decide +kernel
theorem dX7_pairs_12 : decode cX7_pairs 12 = .ok (.getfield 38, 3) := by decide +kernel
theorem dX7_pairs_15 : decode cX7_pairs 15 = .ok (.iload_n 2, 1) := by decide +kernel
theorem dX7_pairs_16 : decode cX7_pairs 16 = .ok (.iaload, 1) := by decide +kernel
theorem dX7_pairs_17 : decode cX7_pairs 17 = .ok (.isub, 1) := by decide +kernel
theorem dX7_pairs_18 : decode cX7_pairs 18 = .ok (.invokestatic 155, 3) := by decide +kernel
theorem dX7_pairs_21 : decode cX7_pairs 21 = .ok (.istore_n 3, 1) := by decide +kernel
theorem dX7_pairs_22 : decode cX7_pairs 22 = .ok (.iconst 2, 1) := by decide +kernel
theorem dX7_pairs_23 : decode cX7_pairs 23 = .ok (.aload_n 0, 1) := by decide +kernel
theorem dX7_pairs_24 : decode cX7_pairs 24 = .ok (.getfield 7, 3) := by decide +kernel
theorem dX7_pairs_27 : decode cX7_pairs 27 = .ok (.aload_n 0, 1) := by decide +kernel
theorem dX7_pairs_28 : decode cX7_pairs 28 = .ok (.getfield 32, 3) := by decide +kernel
theorem dX7_pairs_31 : decode cX7_pairs 31 = .ok (.iload_n 1, 1) := by decide +kernel
theorem dX7_pairs_32 : decode cX7_pairs 32 = .ok (.iaload, 1) := by decide +kernel
theorem dX7_pairs_33 : decode cX7_pairs 33 = .ok (.iaload, 1) := by decide +kernel
theorem dX7_pairs_34 : decode cX7_pairs 34 = .ok (.aload_n 0, 1) := by decide +kernel
theorem dX7_pairs_35 : decode cX7_pairs 35 = .ok (.getfield 35, 3) := by decide +kernel
theorem dX7_pairs_38 : decode cX7_pairs 38 = .ok (.iload_n 2, 1) := by decide +kernel
theorem dX7_pairs_39 : decode cX7_pairs 39 = .ok (.iaload, 1) := by decide +kernel
theorem dX7_pairs_40 : decode cX7_pairs 40 = .ok (.isub, 1) := by decide +kernel
theorem dX7_pairs_41 : decode cX7_pairs 41 = .ok (.invokestatic 155, 3) := by decide +kernel
theorem dX7_pairs_44 : decode cX7_pairs 44 = .ok (.imul, 1) := by decide +kernel
theorem dX7_pairs_45 : decode cX7_pairs 45 = .ok (.iload_n 3, 1) := by decide +kernel
theorem dX7_pairs_46 : decode cX7_pairs 46 = .ok (.iconst 4, 1) := by decide +kernel
theorem dX7_pairs_47 : decode cX7_pairs 47 = .ok (.if_icmp .le 7, 3) := by decide +kernel
theorem dX7_pairs_50 : decode cX7_pairs 50 = .ok (.iconst 4, 1) := by decide +kernel
theorem dX7_pairs_51 : decode cX7_pairs 51 = .ok (.goto 4, 3) := by decide +kernel
theorem dX7_pairs_54 : decode cX7_pairs 54 = .ok (.iload_n 3, 1) := by decide +kernel
theorem dX7_pairs_55 : decode cX7_pairs 55 = .ok (.iadd, 1) := by decide +kernel
theorem dX7_pairs_56 : decode cX7_pairs 56 = .ok (.ireturn, 1) := by decide +kernel
set_option maxRecDepth 20000 in
theorem ggX7_aligns_X7_orders : GoodIn wsX7_aligns wsX7_orders := goodIn_r _ [11, 1, 12, 13, 14, 15, 16, 10, 17, 18, 19, 29, 30, 31, 32, 33, 34, 35, 36, 37, 38, 39, 40, 41, 42, 43, 44, 45, 46, 47, 48, 49, 50, 51, 52, 53, 54, 55, 56, 57, 58, 59, 60, 61, 62] (by decide +kernel) (by decide +kernel)
set_option maxRecDepth 20000 in
theorem gX7_aligns_X7_orders : GoodIn wsX7_aligns (wsV RX7 118 RX7 yX7_orders wsX7_orders) := goodIn_app (goodIn_of _ (by decide +kernel)) ggX7_aligns_X7_orders
set_option maxRecDepth 20000 in
theorem ggX7_aligns_X7_pairs : GoodIn wsX7_aligns wsX7_pairs := goodIn_r _ [23, 18, 13, 24, 19, 25, 26, 27, 10, 28, 29, 30, 31, 32, 33, 34, 35, 36, 37, 38, 39, 40, 41, 42, 43, 44, 45, 46, 47, 48, 49, 50, 51, 52, 53, 54, 55, 56, 57, 58, 59, 60, 61, 62] (by decide +kernel) (by decide +kernel)
set_option maxRecDepth 20000 in
theorem gX7_aligns_X7_pairs : GoodIn wsX7_aligns (wsV RX7 158 RX7 yX7_pairs wsX7_pairs) := goodIn_app (goodIn_of _ (by decide +kernel)) ggX7_aligns_X7_pairs
theorem dX7_aligns_0 : decode cX7_aligns 0 = .ok (.aload_n 0, 1) := by decide +kernel
theorem dX7_aligns_1 : decode cX7_aligns 1 = .ok (.iload_n 1, 1) := by decide +kernel
theorem dX7_aligns_2 : decode cX7_aligns 2 = .ok (.invokevirtual 118, 3) := by decide +kernel
theorem dX7_aligns_5 : decode cX7_aligns 5 = .ok (.iconst 0, 1) := by decide +kernel
theorem dX7_aligns_6 : decode cX7_aligns 6 = .ok (.istore_n 2, 1) := by decide +kernel
theorem dX7_aligns_7 : decode cX7_aligns 7 = .ok (.iload_n 2, 1) := by decide +kernel
theorem dX7_aligns_8 : decode cX7_aligns 8 = .ok (.aload_n 0, 1) := by decide +kernel
theorem dX7_aligns_9 : decode cX7_aligns 9 = .ok (.getfield 112, 3) := by decide +kernel
theorem dX7_aligns_12 : decode cX7_aligns 12 = .ok (.if_icmp .gt 206, 3) := by decide +kernel
theorem dX7_aligns_15 : decode cX7_aligns 15 = .ok (.iconst 0, 1) := by decide +kernel
theorem dX7_aligns_16 : decode cX7_aligns 16 = .ok (.istore_n 3, 1) := by decide +kernel
theorem dX7_aligns_17 : decode cX7_aligns 17 = .ok (.iload_n 3, 1) := by decide +kernel
theorem dX7_aligns_18 : decode cX7_aligns 18 = .ok (.aload_n 0, 1) := by decide +kernel
theorem dX7_aligns_19 : decode cX7_aligns 19 = .ok (.getfield 152, 3) := by decide +kernel
theorem dX7_aligns_22 : decode cX7_aligns 22 = .ok (.if_icmp .gt 190, 3) := by decide +kernel
theorem dX7_aligns_25 : decode cX7_aligns 25 = .ok (.iconst 5, 1) := by decide +kernel
theorem dX7_aligns_26 : decode cX7_aligns 26 = .ok (.iload_n 2, 1) := by decide +kernel
theorem dX7_aligns_27 : decode cX7_aligns 27 = .ok (.iload_n 3, 1) := by decide +kernel
theorem dX7_aligns_28 : decode cX7_aligns 28 = .ok (.iadd, 1) := by decide +kernel
theorem dX7_aligns_29 : decode cX7_aligns 29 = .ok (.imul, 1) := by decide +kernel
theorem dX7_aligns_30 : decode cX7_aligns 30 = .ok (.istore 4, 2) := by decide +kernel
theorem dX7_aligns_32 : decode cX7_aligns 32 = .ok (.iload_n 2, 1) := by decide +kernel
theorem dX7_aligns_33 : decode cX7_aligns 33 = .ok (.ifCond .le 40, 3) := by decide +kernel
theorem dX7_aligns_36 : decode cX7_aligns 36 = .ok (.aload_n 0, 1) := by decide +kernel
theorem dX7_aligns_37 : decode cX7_aligns 37 = .ok (.getfield 41, 3) := by decide +kernel
theorem dX7_aligns_40 : decode cX7_aligns 40 = .ok (.bipush 41, 2) := by decide +kernel
theorem dX7_aligns_42 : decode cX7_aligns 42 = .ok (.iload_n 2, 1) := by decide +kernel
theorem dX7_aligns_43 : decode cX7_aligns 43 = .ok (.iconst 1, 1) := by decide +kernel
theorem dX7_aligns_44 : decode cX7_aligns 44 = .ok (.isub, 1) := by decide +kernel
theorem dX7_aligns_45 : decode cX7_aligns 45 = .ok (.imul, 1) := by decide +kernel
theorem dX7_aligns_46 : decode cX7_aligns 46 = .ok (.iload_n 3, 1) := by decide +kernel
theorem dX7_aligns_47 : decode cX7_aligns 47 = .ok (.iadd, 1) := by decide +kernel
theorem dX7_aligns_48 : decode cX7_aligns 48 = .ok (.iaload, 1) := by decide +kernel
theorem dX7_aligns_49 : decode cX7_aligns 49 = .ok (.iconst 5, 1) := by decide +kernel
theorem dX7_aligns_50 : decode cX7_aligns 50 = .ok (.iadd, 1) := by decide +kernel
theorem dX7_aligns_51 : decode cX7_aligns 51 = .ok (.iload 4, 2) := by decide +kernel
theorem dX7_aligns_53 : decode cX7_aligns 53 = .ok (.if_icmp .ge 20, 3) := by decide +kernel
theorem dX7_aligns_56 : decode cX7_aligns 56 = .ok (.aload_n 0, 1) := by decide +kernel
theorem dX7_aligns_57 : decode cX7_aligns 57 = .ok (.getfield 41, 3) := by decide +kernel
theorem dX7_aligns_60 : decode cX7_aligns 60 = .ok (.bipush 41, 2) := by decide +kernel
theorem dX7_aligns_62 : decode cX7_aligns 62 = .ok (.iload_n 2, 1) := by decide +kernel
theorem dX7_aligns_63 : decode cX7_aligns 63 = .ok (.iconst 1, 1) := by decide +kernel
theorem dX7_aligns_64 : decode cX7_aligns 64 = .ok (.isub, 1) := by decide +kernel
theorem dX7_aligns_65 : decode cX7_aligns 65 = .ok (.imul, 1) := by decide +kernel
theorem dX7_aligns_66 : decode cX7_aligns 66 = .ok (.iload_n 3, 1) := by decide +kernel
theorem dX7_aligns_67 : decode cX7_aligns 67 = .ok (.iadd, 1) := by decide +kernel
theorem dX7_aligns_68 : decode cX7_aligns 68 = .ok (.iaload, 1) := by decide +kernel
theorem dX7_aligns_69 : decode cX7_aligns 69 = .ok (.iconst 5, 1) := by decide +kernel
theorem dX7_aligns_70 : decode cX7_aligns 70 = .ok (.iadd, 1) := by decide +kernel
theorem dX7_aligns_71 : decode cX7_aligns 71 = .ok (.istore 4, 2) := by decide +kernel
theorem dX7_aligns_73 : decode cX7_aligns 73 = .ok (.iload_n 3, 1) := by decide +kernel
theorem dX7_aligns_74 : decode cX7_aligns 74 = .ok (.ifCond .le 40, 3) := by decide +kernel
theorem dX7_aligns_77 : decode cX7_aligns 77 = .ok (.aload_n 0, 1) := by decide +kernel
theorem dX7_aligns_78 : decode cX7_aligns 78 = .ok (.getfield 41, 3) := by decide +kernel
theorem dX7_aligns_81 : decode cX7_aligns 81 = .ok (.bipush 41, 2) := by decide +kernel
theorem dX7_aligns_83 : decode cX7_aligns 83 = .ok (.iload_n 2, 1) := by decide +kernel
theorem dX7_aligns_84 : decode cX7_aligns 84 = .ok (.imul, 1) := by decide +kernel
theorem dX7_aligns_85 : decode cX7_aligns 85 = .ok (.iload_n 3, 1) := by decide +kernel
theorem dX7_aligns_86 : decode cX7_aligns 86 = .ok (.iadd, 1) := by decide +kernel
theorem dX7_aligns_87 : decode cX7_aligns 87 = .ok (.iconst 1, 1) := by decide +kernel
theorem dX7_aligns_88 : decode cX7_aligns 88 = .ok (.isub, 1) := by decide +kernel
theorem dX7_aligns_89 : decode cX7_aligns 89 = .ok (.iaload, 1) := by decide +kernel
theorem dX7_aligns_90 : decode cX7_aligns 90 = .ok (.iconst 5, 1) := by decide +kernel
theorem dX7_aligns_91 : decode cX7_aligns 91 = .ok (.iadd, 1) := by decide +kernel
theorem dX7_aligns_92 : decode cX7_aligns 92 = .ok (.iload 4, 2) := by decide +kernel
theorem dX7_aligns_94 : decode cX7_aligns 94 = .ok (.if_icmp .ge 20, 3) := by decide +kernel
theorem dX7_aligns_97 : decode cX7_aligns 97 = .ok (.aload_n 0, 1) := by decide +kernel
theorem dX7_aligns_98 : decode cX7_aligns 98 = .ok (.getfield 41, 3) := by decide +kernel
theorem dX7_aligns_101 : decode cX7_aligns 101 = .ok (.bipush 41, 2) := by decide +kernel
theorem dX7_aligns_103 : decode cX7_aligns 103 = .ok (.iload_n 2, 1) := by decide +kernel
theorem dX7_aligns_104 : decode cX7_aligns 104 = .ok (.imul, 1) := by decide +kernel
theorem dX7_aligns_105 : decode cX7_aligns 105 = .ok (.iload_n 3, 1) := by decide +kernel
theorem dX7_aligns_106 : decode cX7_aligns 106 = .ok (.iadd, 1) := by decide +kernel
theorem dX7_aligns_107 : decode cX7_aligns 107 = .ok (.iconst 1, 1) := by decide +kernel
theorem dX7_aligns_108 : decode cX7_aligns 108 = .ok (.isub, 1) := by decide +kernel
theorem dX7_aligns_109 : decode cX7_aligns 109 = .ok (.iaload, 1) := by decide +kernel
theorem dX7_aligns_110 : decode cX7_aligns 110 = .ok (.iconst 5, 1) := by decide +kernel
theorem dX7_aligns_111 : decode cX7_aligns 111 = .ok (.iadd, 1) := by decide +kernel
theorem dX7_aligns_112 : decode cX7_aligns 112 = .ok (.istore 4, 2) := by decide +kernel
theorem dX7_aligns_114 : decode cX7_aligns 114 = .ok (.iload_n 2, 1) := by decide +kernel
theorem dX7_aligns_115 : decode cX7_aligns 115 = .ok (.ifCond .le 78, 3) := by decide +kernel
theorem dX7_aligns_118 : decode cX7_aligns 118 = .ok (.iload_n 3, 1) := by decide +kernel
theorem dX7_aligns_119 : decode cX7_aligns 119 = .ok (.ifCond .le 74, 3) := by decide +kernel
theorem dX7_aligns_122 : decode cX7_aligns 122 = .ok (.aload_n 0, 1) := by decide +kernel
theorem dX7_aligns_123 : decode cX7_aligns 123 = .ok (.getfield 41, 3) := by decide +kernel
theorem dX7_aligns_126 : decode cX7_aligns 126 = .ok (.bipush 41, 2) := by decide +kernel
theorem dX7_aligns_128 : decode cX7_aligns 128 = .ok (.iload_n 2, 1) := by decide +kernel
theorem dX7_aligns_129 : decode cX7_aligns 129 = .ok (.iconst 1, 1) := by decide +kernel
theorem dX7_aligns_130 : decode cX7_aligns 130 = .ok (.isub, 1) := by decide +kernel
theorem dX7_aligns_131 : decode cX7_aligns 131 = .ok (.imul, 1) := by decide +kernel
theorem dX7_aligns_132 : decode cX7_aligns 132 = .ok (.iload_n 3, 1) := by decide +kernel
theorem dX7_aligns_133 : decode cX7_aligns 133 = .ok (.iadd, 1) := by decide +kernel
theorem dX7_aligns_134 : decode cX7_aligns 134 = .ok (.iconst 1, 1) := by decide +kernel
theorem dX7_aligns_135 : decode cX7_aligns 135 = .ok (.isub, 1) := by decide +kernel
theorem dX7_aligns_136 : decode cX7_aligns 136 = .ok (.iaload, 1) := by decide +kernel
theorem dX7_aligns_137 : decode cX7_aligns 137 = .ok (.aload_n 0, 1) := by decide +kernel
theorem dX7_aligns_138 : decode cX7_aligns 138 = .ok (.aload_n 0, 1) := by decide +kernel
theorem dX7_aligns_139 : decode cX7_aligns 139 = .ok (.getfield 112, 3) := by decide +kernel
theorem dX7_aligns_142 : decode cX7_aligns 142 = .ok (.iload_n 2, 1) := by decide +kernel
theorem dX7_aligns_143 : decode cX7_aligns 143 = .ok (.isub, 1) := by decide +kernel
theorem dX7_aligns_144 : decode cX7_aligns 144 = .ok (.aload_n 0, 1) := by decide +kernel
theorem dX7_aligns_145 : decode cX7_aligns 145 = .ok (.getfield 152, 3) := by decide +kernel
theorem dX7_aligns_148 : decode cX7_aligns 148 = .ok (.iload_n 3, 1) := by decide +kernel
theorem dX7_aligns_149 : decode cX7_aligns 149 = .ok (.isub, 1) := by decide +kernel
theorem dX7_aligns_150 : decode cX7_aligns 150 = .ok (.invokevirtual 158, 3) := by decide +kernel
theorem dX7_aligns_153 : decode cX7_aligns 153 = .ok (.iadd, 1) := by decide +kernel
theorem dX7_aligns_154 : decode cX7_aligns 154 = .ok (.iload 4, 2) := by decide +kernel
theorem dX7_aligns_156 : decode cX7_aligns 156 = .ok (.if_icmp .ge 37, 3) := by decide +kernel
theorem dX7_aligns_159 : decode cX7_aligns 159 = .ok (.aload_n 0, 1) := by decide +kernel
theorem dX7_aligns_160 : decode cX7_aligns 160 = .ok (.getfield 41, 3) := by decide +kernel
theorem dX7_aligns_163 : decode cX7_aligns 163 = .ok (.bipush 41, 2) := by decide +kernel
theorem dX7_aligns_165 : decode cX7_aligns 165 = .ok (.iload_n 2, 1) := by decide +kernel
theorem dX7_aligns_166 : decode cX7_aligns 166 = .ok (.iconst 1, 1) := by decide +kernel
theorem dX7_aligns_167 : decode cX7_aligns 167 = .ok (.isub, 1) := by decide +kernel
theorem dX7_aligns_168 : decode cX7_aligns 168 = .ok (.imul, 1) := by decide +kernel
theorem dX7_aligns_169 : decode cX7_aligns 169 = .ok (.iload_n 3, 1) := by decide +kernel
theorem dX7_aligns_170 : decode cX7_aligns 170 = .ok (.iadd, 1) := by decide +kernel
theorem dX7_aligns_171 : decode cX7_aligns 171 = .ok (.iconst 1, 1) := by decide +kernel
theorem dX7_aligns_172 : decode cX7_aligns 172 = .ok (.isub, 1) := by decide +kernel
theorem dX7_aligns_173 : decode cX7_aligns 173 = .ok (.iaload, 1) := by decide +kernel
theorem dX7_aligns_174 : decode cX7_aligns 174 = .ok (.aload_n 0, 1) := by decide +kernel
theorem dX7_aligns_175 : decode cX7_aligns 175 = .ok (.aload_n 0, 1) := by decide +kernel
theorem dX7_aligns_176 : decode cX7_aligns 176 = .ok (.getfield 112, 3) := by decide +kernel
theorem dX7_aligns_179 : decode cX7_aligns 179 = .ok (.iload_n 2, 1) := by decide +kernel
theorem dX7_aligns_180 : decode cX7_aligns 180 = .ok (.isub, 1) := by decide +kernel
theorem dX7_aligns_181 : decode cX7_aligns 181 = .ok (.aload_n 0, 1) := by decide +kernel
theorem dX7_aligns_182 : decode cX7_aligns 182 = .ok (.getfield 152, 3) := by decide +kernel
theorem dX7_aligns_185 : decode cX7_aligns 185 = .ok (.iload_n 3, 1) := by decide +kernel
theorem dX7_aligns_186 : decode cX7_aligns 186 = .ok (.isub, 1) := by decide +kernel
theorem dX7_aligns_187 : decode cX7_aligns 187 = .ok (.invokevirtual 158, 3) := by decide +kernel
theorem dX7_aligns_190 : decode cX7_aligns 190 = .ok (.iadd, 1) := by decide +kernel
theorem dX7_aligns_191 : decode cX7_aligns 191 = .ok (.istore 4, 2) := by decide +kernel
theorem dX7_aligns_193 : decode cX7_aligns 193 = .ok (.aload_n 0, 1) := by decide +kernel
theorem dX7_aligns_194 : decode cX7_aligns 194 = .ok (.getfield 41, 3) := by decide +kernel
theorem dX7_aligns_197 : decode cX7_aligns 197 = .ok (.bipush 41, 2) := by decide +kernel
theorem dX7_aligns_199 : decode cX7_aligns 199 = .ok (.iload_n 2, 1) := by decide +kernel
theorem dX7_aligns_200 : decode cX7_aligns 200 = .ok (.imul, 1) := by decide +kernel
theorem dX7_aligns_201 : decode cX7_aligns 201 = .ok (.iload_n 3, 1) := by decide +kernel
theorem dX7_aligns_202 : decode cX7_aligns 202 = .ok (.iadd, 1) := by decide +kernel
theorem dX7_aligns_203 : decode cX7_aligns 203 = .ok (.iload 4, 2) := by decide +kernel
theorem dX7_aligns_205 : decode cX7_aligns 205 = .ok (.iastore, 1) := by decide +kernel
theorem dX7_aligns_206 : decode cX7_aligns 206 = .ok (.iinc 3 1, 3) := by decide +kernel
theorem dX7_aligns_209 : decode cX7_aligns 209 = .ok (.goto (-192), 3) := by decide +kernel
theorem dX7_aligns_212 : decode cX7_aligns 212 = .ok (.iinc 2 1, 3) := by decide +kernel
theorem dX7_aligns_215 : decode cX7_aligns 215 = .ok (.goto (-208), 3) := by decide +kernel
theorem dX7_aligns_218 : decode cX7_aligns 218 = .ok (.aload_n 0, 1) := by decide +kernel
theorem dX7_aligns_219 : decode cX7_aligns 219 = .ok (.aload_n 0, 1) := by decide +kernel
theorem dX7_aligns_220 : decode cX7_aligns 220 = .ok (.getfield 41, 3) := by decide +kernel
theorem dX7_aligns_223 : decode cX7_aligns 223 = .ok (.bipush 41, 2) := by decide +kernel
theorem dX7_aligns_225 : decode cX7_aligns 225 = .ok (.aload_n 0, 1) := by decide +kernel
theorem dX7_aligns_226 : decode cX7_aligns 226 = .ok (.getfield 112, 3) := by decide +kernel
theorem dX7_aligns_229 : decode cX7_aligns 229 = .ok (.imul, 1) := by decide +kernel
theorem dX7_aligns_230 : decode cX7_aligns 230 = .ok (.aload_n 0, 1) := by decide +kernel
theorem dX7_aligns_231 : decode cX7_aligns 231 = .ok (.getfield 152, 3) := by decide +kernel
theorem dX7_aligns_234 : decode cX7_aligns 234 = .ok (.iadd, 1) := by decide +kernel
theorem dX7_aligns_235 : decode cX7_aligns 235 = .ok (.iaload, 1) := by decide +kernel
theorem dX7_aligns_236 : decode cX7_aligns 236 = .ok (.putfield 161, 3) := by decide +kernel
theorem dX7_aligns_239 : decode cX7_aligns 239 = .ok (.aload_n 0, 1) := by decide +kernel
theorem dX7_aligns_240 : decode cX7_aligns 240 = .ok (.iconst 0, 1) := by decide +kernel
theorem dX7_aligns_241 : decode cX7_aligns 241 = .ok (.putfield 164, 3) := by decide +kernel
theorem dX7_aligns_244 : decode cX7_aligns 244 = .ok (.aload_n 0, 1) := by decide +kernel
theorem dX7_aligns_245 : decode cX7_aligns 245 = .ok (.getfield 112, 3) := by decide +kernel
theorem dX7_aligns_248 : decode cX7_aligns 248 = .ok (.istore_n 2, 1) := by decide +kernel
theorem dX7_aligns_249 : decode cX7_aligns 249 = .ok (.aload_n 0, 1) := by decide +kernel
theorem dX7_aligns_250 : decode cX7_aligns 250 = .ok (.getfield 152, 3) := by decide +kernel
theorem dX7_aligns_253 : decode cX7_aligns 253 = .ok (.istore_n 3, 1) := by decide +kernel
theorem dX7_aligns_254 : decode cX7_aligns 254 = .ok (.iconst 0, 1) := by decide +kernel
theorem dX7_aligns_255 : decode cX7_aligns 255 = .ok (.istore 4, 2) := by decide +kernel
theorem dX7_aligns_257 : decode cX7_aligns 257 = .ok (.iload 4, 2) := by decide +kernel
theorem dX7_aligns_259 : decode cX7_aligns 259 = .ok (.aload_n 0, 1) := by decide +kernel
theorem dX7_aligns_260 : decode cX7_aligns 260 = .ok (.getfield 152, 3) := by decide +kernel
theorem dX7_aligns_263 : decode cX7_aligns 263 = .ok (.if_icmp .ge 17, 3) := by decide +kernel
theorem dX7_aligns_266 : decode cX7_aligns 266 = .ok (.aload_n 0, 1) := by decide +kernel
theorem dX7_aligns_267 : decode cX7_aligns 267 = .ok (.getfield 44, 3) := by decide +kernel
theorem dX7_aligns_270 : decode cX7_aligns 270 = .ok (.iload 4, 2) := by decide +kernel
theorem dX7_aligns_272 : decode cX7_aligns 272 = .ok (.iconst (-1), 1) := by decide +kernel
theorem dX7_aligns_273 : decode cX7_aligns 273 = .ok (.iastore, 1) := by decide +kernel
theorem dX7_aligns_274 : decode cX7_aligns 274 = .ok (.iinc 4 1, 3) := by decide +kernel
theorem dX7_aligns_277 : decode cX7_aligns 277 = .ok (.goto (-20), 3) := by decide +kernel
theorem dX7_aligns_280 : decode cX7_aligns 280 = .ok (.iload_n 2, 1) := by decide +kernel
theorem dX7_aligns_281 : decode cX7_aligns 281 = .ok (.ifCond .gt 7, 3) := by decide +kernel
theorem dX7_aligns_284 : decode cX7_aligns 284 = .ok (.iload_n 3, 1) := by decide +kernel
theorem dX7_aligns_285 : decode cX7_aligns 285 = .ok (.ifCond .le 133, 3) := by decide +kernel
theorem dX7_aligns_288 : decode cX7_aligns 288 = .ok (.aload_n 0, 1) := by decide +kernel
theorem dX7_aligns_289 : decode cX7_aligns 289 = .ok (.getfield 41, 3) := by decide +kernel
theorem dX7_aligns_292 : decode cX7_aligns 292 = .ok (.bipush 41, 2) := by decide +kernel
theorem dX7_aligns_294 : decode cX7_aligns 294 = .ok (.iload_n 2, 1) := by decide +kernel
theorem dX7_aligns_295 : decode cX7_aligns 295 = .ok (.imul, 1) := by decide +kernel
theorem dX7_aligns_296 : decode cX7_aligns 296 = .ok (.iload_n 3, 1) := by decide +kernel
theorem dX7_aligns_297 : decode cX7_aligns 297 = .ok (.iadd, 1) := by decide +kernel
theorem dX7_aligns_298 : decode cX7_aligns 298 = .ok (.iaload, 1) := by decide +kernel
theorem dX7_aligns_299 : decode cX7_aligns 299 = .ok (.istore 4, 2) := by decide +kernel
theorem dX7_aligns_301 : decode cX7_aligns 301 = .ok (.iload_n 2, 1) := by decide +kernel
theorem dX7_aligns_302 : decode cX7_aligns 302 = .ok (.ifCond .le 70, 3) := by decide +kernel
theorem dX7_aligns_305 : decode cX7_aligns 305 = .ok (.iload_n 3, 1) := by decide +kernel
theorem dX7_aligns_306 : decode cX7_aligns 306 = .ok (.ifCond .le 66, 3) := by decide +kernel
theorem dX7_aligns_309 : decode cX7_aligns 309 = .ok (.aload_n 0, 1) := by decide +kernel
theorem dX7_aligns_310 : decode cX7_aligns 310 = .ok (.getfield 41, 3) := by decide +kernel
theorem dX7_aligns_313 : decode cX7_aligns 313 = .ok (.bipush 41, 2) := by decide +kernel
theorem dX7_aligns_315 : decode cX7_aligns 315 = .ok (.iload_n 2, 1) := by decide +kernel
theorem dX7_aligns_316 : decode cX7_aligns 316 = .ok (.iconst 1, 1) := by decide +kernel
theorem dX7_aligns_317 : decode cX7_aligns 317 = .ok (.isub, 1) := by decide +kernel
theorem dX7_aligns_318 : decode cX7_aligns 318 = .ok (.imul, 1) := by decide +kernel
theorem dX7_aligns_319 : decode cX7_aligns 319 = .ok (.iload_n 3, 1) := by decide +kernel
theorem dX7_aligns_320 : decode cX7_aligns 320 = .ok (.iadd, 1) := by decide +kernel
theorem dX7_aligns_321 : decode cX7_aligns 321 = .ok (.iconst 1, 1) := by decide +kernel
theorem dX7_aligns_322 : decode cX7_aligns 322 = .ok (.isub, 1) := by decide +kernel
theorem dX7_aligns_323 : decode cX7_aligns 323 = .ok (.iaload, 1) := by decide +kernel
theorem dX7_aligns_324 : decode cX7_aligns 324 = .ok (.aload_n 0, 1) := by decide +kernel
theorem dX7_aligns_325 : decode cX7_aligns 325 = .ok (.aload_n 0, 1) := by decide +kernel
theorem dX7_aligns_326 : decode cX7_aligns 326 = .ok (.getfield 112, 3) := by decide +kernel
theorem dX7_aligns_329 : decode cX7_aligns 329 = .ok (.iload_n 2, 1) := by decide +kernel
theorem dX7_aligns_330 : decode cX7_aligns 330 = .ok (.isub, 1) := by decide +kernel
theorem dX7_aligns_331 : decode cX7_aligns 331 = .ok (.aload_n 0, 1) := by decide +kernel
theorem dX7_aligns_332 : decode cX7_aligns 332 = .ok (.getfield 152, 3) := by decide +kernel
theorem dX7_aligns_335 : decode cX7_aligns 335 = .ok (.iload_n 3, 1) := by decide +kernel
theorem dX7_aligns_336 : decode cX7_aligns 336 = .ok (.isub, 1) := by decide +kernel
theorem dX7_aligns_337 : decode cX7_aligns 337 = .ok (.invokevirtual 158, 3) := by decide +kernel
theorem dX7_aligns_340 : decode cX7_aligns 340 = .ok (.iadd, 1) := by decide +kernel
theorem dX7_aligns_341 : decode cX7_aligns 341 = .ok (.iload 4, 2) := by decide +kernel
theorem dX7_aligns_343 : decode cX7_aligns 343 = .ok (.if_icmp .ne 29, 3) := by decide +kernel
theorem dX7_aligns_346 : decode cX7_aligns 346 = .ok (.aload_n 0, 1) := by decide +kernel
theorem dX7_aligns_347 : decode cX7_aligns 347 = .ok (.getfield 44, 3) := by decide +kernel
theorem dX7_aligns_350 : decode cX7_aligns 350 = .ok (.aload_n 0, 1) := by decide +kernel
theorem dX7_aligns_351 : decode cX7_aligns 351 = .ok (.getfield 152, 3) := by decide +kernel
theorem dX7_aligns_354 : decode cX7_aligns 354 = .ok (.iload_n 3, 1) := by decide +kernel
theorem dX7_aligns_355 : decode cX7_aligns 355 = .ok (.isub, 1) := by decide +kernel
theorem dX7_aligns_356 : decode cX7_aligns 356 = .ok (.aload_n 0, 1) := by decide +kernel
theorem dX7_aligns_357 : decode cX7_aligns 357 = .ok (.getfield 112, 3) := by decide +kernel
theorem dX7_aligns_360 : decode cX7_aligns 360 = .ok (.iload_n 2, 1) := by decide +kernel
theorem dX7_aligns_361 : decode cX7_aligns 361 = .ok (.isub, 1) := by decide +kernel
theorem dX7_aligns_362 : decode cX7_aligns 362 = .ok (.iastore, 1) := by decide +kernel
theorem dX7_aligns_363 : decode cX7_aligns 363 = .ok (.iinc 2 (-1), 3) := by decide +kernel
theorem dX7_aligns_366 : decode cX7_aligns 366 = .ok (.iinc 3 (-1), 3) := by decide +kernel
theorem dX7_aligns_369 : decode cX7_aligns 369 = .ok (.goto 46, 3) := by decide +kernel
theorem dX7_aligns_372 : decode cX7_aligns 372 = .ok (.iload_n 3, 1) := by decide +kernel
theorem dX7_aligns_373 : decode cX7_aligns 373 = .ok (.ifCond .le 29, 3) := by decide +kernel
theorem dX7_aligns_376 : decode cX7_aligns 376 = .ok (.aload_n 0, 1) := by decide +kernel
theorem dX7_aligns_377 : decode cX7_aligns 377 = .ok (.getfield 41, 3) := by decide +kernel
theorem dX7_aligns_380 : decode cX7_aligns 380 = .ok (.bipush 41, 2) := by decide +kernel
theorem dX7_aligns_382 : decode cX7_aligns 382 = .ok (.iload_n 2, 1) := by decide +kernel
theorem dX7_aligns_383 : decode cX7_aligns 383 = .ok (.imul, 1) := by decide +kernel
theorem dX7_aligns_384 : decode cX7_aligns 384 = .ok (.iload_n 3, 1) := by decide +kernel
theorem dX7_aligns_385 : decode cX7_aligns 385 = .ok (.iadd, 1) := by decide +kernel
theorem dX7_aligns_386 : decode cX7_aligns 386 = .ok (.iconst 1, 1) := by decide +kernel
theorem dX7_aligns_387 : decode cX7_aligns 387 = .ok (.isub, 1) := by decide +kernel
theorem dX7_aligns_388 : decode cX7_aligns 388 = .ok (.iaload, 1) := by decide +kernel
theorem dX7_aligns_389 : decode cX7_aligns 389 = .ok (.iconst 5, 1) := by decide +kernel
theorem dX7_aligns_390 : decode cX7_aligns 390 = .ok (.iadd, 1) := by decide +kernel
theorem dX7_aligns_391 : decode cX7_aligns 391 = .ok (.iload 4, 2) := by decide +kernel
theorem dX7_aligns_393 : decode cX7_aligns 393 = .ok (.if_icmp .ne 9, 3) := by decide +kernel
theorem dX7_aligns_396 : decode cX7_aligns 396 = .ok (.iinc 3 (-1), 3) := by decide +kernel
theorem dX7_aligns_399 : decode cX7_aligns 399 = .ok (.goto 16, 3) := by decide +kernel
theorem dX7_aligns_402 : decode cX7_aligns 402 = .ok (.aload_n 0, 1) := by decide +kernel
theorem dX7_aligns_403 : decode cX7_aligns 403 = .ok (.dup, 1) := by decide +kernel
theorem dX7_aligns_404 : decode cX7_aligns 404 = .ok (.getfield 164, 3) := by decide +kernel
theorem dX7_aligns_407 : decode cX7_aligns 407 = .ok (.iconst 1, 1) := by decide +kernel
theorem dX7_aligns_408 : decode cX7_aligns 408 = .ok (.iadd, 1) := by decide +kernel
theorem dX7_aligns_409 : decode cX7_aligns 409 = .ok (.putfield 164, 3) := by decide +kernel
theorem dX7_aligns_412 : decode cX7_aligns 412 = .ok (.iinc 2 (-1), 3) := by decide +kernel
theorem dX7_aligns_415 : decode cX7_aligns 415 = .ok (.goto (-135), 3) := by decide +kernel
theorem dX7_aligns_418 : decode cX7_aligns 418 = .ok (.return_, 1) := by decide +kernel
set_option maxRecDepth 20000 in
theorem ggX7_align_X7_isRoll : GoodIn wsX7_align wsX7_isRoll := goodIn_r _ [15, 16, 17, 18, 14, 19, 42, 43, 44, 45, 46, 47, 48, 49, 50, 51, 52, 53, 54, 55, 56, 57, 58, 59, 60, 61, 62, 63, 64, 65, 66, 67, 68, 69, 70, 71, 72, 73, 74, 75] (by decide +kernel) (by decide +kernel)
set_option maxRecDepth 20000 in
theorem gX7_align_X7_isRoll : GoodIn wsX7_align (wsV RX7 96 RX7 yX7_isRoll wsX7_isRoll) := goodIn_app (goodIn_of _ (by decide +kernel)) ggX7_align_X7_isRoll
set_option maxRecDepth 20000 in
theorem ggX7_align_X7_within : GoodIn wsX7_align wsX7_within := goodIn_r _ [19] (by decide +kernel) (by decide +kernel)
set_option maxRecDepth 20000 in
theorem gX7_align_X7_within : GoodIn wsX7_align (va_wsS RX7 78 yX7_within wsX7_within) := goodIn_app (goodIn_of _ (by decide +kernel)) ggX7_align_X7_within
set_option maxRecDepth 20000 in
theorem ggX7_align_X7_aligns : GoodIn wsX7_align wsX7_aligns := goodIn_r _ [23, 24, 2, 25, 9, 10, 3, 26, 27, 28, 14, 29, 30, 4, 31, 32, 33, 34, 7, 5, 35, 36, 37, 38, 8, 6, 39, 40, 41, 42, 43, 44, 45, 46, 47, 48, 49, 50, 51, 52, 53, 54, 55, 56, 57, 58, 59, 60, 61, 62, 63, 64, 65, 66, 67, 68, 69, 70, 71, 72, 73, 74, 75] (by decide +kernel) (by decide +kernel)
set_option maxRecDepth 20000 in
theorem gX7_align_X7_aligns : GoodIn wsX7_align (wsV RX7 167 RX7 yX7_aligns wsX7_aligns) := goodIn_app (goodIn_of _ (by decide +kernel)) ggX7_align_X7_aligns
theorem dX7_align_0 : decode cX7_align 0 = .ok (.aload_n 0, 1) := by decide +kernel
theorem dX7_align_1 : decode cX7_align 1 = .ok (.iconst 0, 1) := by decide +kernel
theorem dX7_align_2 : decode cX7_align 2 = .ok (.putfield 71, 3) := by decide +kernel
theorem dX7_align_5 : decode cX7_align 5 = .ok (.aload_n 0, 1) := by decide +kernel
theorem dX7_align_6 : decode cX7_align 6 = .ok (.iload_n 1, 1) := by decide +kernel
theorem dX7_align_7 : decode cX7_align 7 = .ok (.invokevirtual 96, 3) := by decide +kernel
theorem dX7_align_10 : decode cX7_align 10 = .ok (.ifCond .eq 12, 3) := by decide +kernel
theorem dX7_align_13 : decode cX7_align 13 = .ok (.iload_n 2, 1) := by decide +kernel
theorem dX7_align_14 : decode cX7_align 14 = .ok (.iconst 0, 1) := by decide +kernel
theorem dX7_align_15 : decode cX7_align 15 = .ok (.iconst 5, 1) := by decide +kernel
theorem dX7_align_16 : decode cX7_align 16 = .ok (.invokestatic 78, 3) := by decide +kernel
theorem dX7_align_19 : decode cX7_align 19 = .ok (.ifCond .ne 5, 3) := by decide +kernel
theorem dX7_align_22 : decode cX7_align 22 = .ok (.iconst (-1), 1) := by decide +kernel
theorem dX7_align_23 : decode cX7_align 23 = .ok (.ireturn, 1) := by decide +kernel
theorem dX7_align_24 : decode cX7_align 24 = .ok (.aload_n 0, 1) := by decide +kernel
theorem dX7_align_25 : decode cX7_align 25 = .ok (.iload_n 1, 1) := by decide +kernel
theorem dX7_align_26 : decode cX7_align 26 = .ok (.invokevirtual 167, 3) := by decide +kernel
theorem dX7_align_29 : decode cX7_align 29 = .ok (.iconst 0, 1) := by decide +kernel
theorem dX7_align_30 : decode cX7_align 30 = .ok (.istore_n 3, 1) := by decide +kernel
theorem dX7_align_31 : decode cX7_align 31 = .ok (.iconst 0, 1) := by decide +kernel
theorem dX7_align_32 : decode cX7_align 32 = .ok (.istore 4, 2) := by decide +kernel
theorem dX7_align_34 : decode cX7_align 34 = .ok (.iconst 0, 1) := by decide +kernel
theorem dX7_align_35 : decode cX7_align 35 = .ok (.istore 5, 2) := by decide +kernel
theorem dX7_align_37 : decode cX7_align 37 = .ok (.iconst 0, 1) := by decide +kernel
theorem dX7_align_38 : decode cX7_align 38 = .ok (.istore 6, 2) := by decide +kernel
theorem dX7_align_40 : decode cX7_align 40 = .ok (.iload 6, 2) := by decide +kernel
theorem dX7_align_42 : decode cX7_align 42 = .ok (.aload_n 0, 1) := by decide +kernel
theorem dX7_align_43 : decode cX7_align 43 = .ok (.getfield 152, 3) := by decide +kernel
theorem dX7_align_46 : decode cX7_align 46 = .ok (.if_icmp .ge 94, 3) := by decide +kernel
theorem dX7_align_49 : decode cX7_align 49 = .ok (.aload_n 0, 1) := by decide +kernel
theorem dX7_align_50 : decode cX7_align 50 = .ok (.getfield 44, 3) := by decide +kernel
theorem dX7_align_53 : decode cX7_align 53 = .ok (.iload 6, 2) := by decide +kernel
theorem dX7_align_55 : decode cX7_align 55 = .ok (.iaload, 1) := by decide +kernel
theorem dX7_align_56 : decode cX7_align 56 = .ok (.iconst (-1), 1) := by decide +kernel
theorem dX7_align_57 : decode cX7_align 57 = .ok (.if_icmp .ne 6, 3) := by decide +kernel
theorem dX7_align_60 : decode cX7_align 60 = .ok (.goto 74, 3) := by decide +kernel
theorem dX7_align_63 : decode cX7_align 63 = .ok (.aload_n 0, 1) := by decide +kernel
theorem dX7_align_64 : decode cX7_align 64 = .ok (.getfield 32, 3) := by decide +kernel
theorem dX7_align_67 : decode cX7_align 67 = .ok (.aload_n 0, 1) := by decide +kernel
theorem dX7_align_68 : decode cX7_align 68 = .ok (.getfield 44, 3) := by decide +kernel
theorem dX7_align_71 : decode cX7_align 71 = .ok (.iload 6, 2) := by decide +kernel
theorem dX7_align_73 : decode cX7_align 73 = .ok (.iaload, 1) := by decide +kernel
theorem dX7_align_74 : decode cX7_align 74 = .ok (.iaload, 1) := by decide +kernel
theorem dX7_align_75 : decode cX7_align 75 = .ok (.istore 7, 2) := by decide +kernel
theorem dX7_align_77 : decode cX7_align 77 = .ok (.iinc 3 1, 3) := by decide +kernel
theorem dX7_align_80 : decode cX7_align 80 = .ok (.iload 4, 2) := by decide +kernel
theorem dX7_align_82 : decode cX7_align 82 = .ok (.aload_n 0, 1) := by decide +kernel
theorem dX7_align_83 : decode cX7_align 83 = .ok (.getfield 7, 3) := by decide +kernel
theorem dX7_align_86 : decode cX7_align 86 = .ok (.iload 7, 2) := by decide +kernel
theorem dX7_align_88 : decode cX7_align 88 = .ok (.iaload, 1) := by decide +kernel
theorem dX7_align_89 : decode cX7_align 89 = .ok (.aload_n 0, 1) := by decide +kernel
theorem dX7_align_90 : decode cX7_align 90 = .ok (.getfield 35, 3) := by decide +kernel
theorem dX7_align_93 : decode cX7_align 93 = .ok (.iload 6, 2) := by decide +kernel
theorem dX7_align_95 : decode cX7_align 95 = .ok (.iaload, 1) := by decide +kernel
theorem dX7_align_96 : decode cX7_align 96 = .ok (.if_icmp .eq 7, 3) := by decide +kernel
theorem dX7_align_99 : decode cX7_align 99 = .ok (.iconst 1, 1) := by decide +kernel
theorem dX7_align_100 : decode cX7_align 100 = .ok (.goto 4, 3) := by decide +kernel
theorem dX7_align_103 : decode cX7_align 103 = .ok (.iconst 0, 1) := by decide +kernel
theorem dX7_align_104 : decode cX7_align 104 = .ok (.iadd, 1) := by decide +kernel
theorem dX7_align_105 : decode cX7_align 105 = .ok (.istore 4, 2) := by decide +kernel
theorem dX7_align_107 : decode cX7_align 107 = .ok (.iload 5, 2) := by decide +kernel
theorem dX7_align_109 : decode cX7_align 109 = .ok (.aload_n 0, 1) := by decide +kernel
theorem dX7_align_110 : decode cX7_align 110 = .ok (.getfield 13, 3) := by decide +kernel
theorem dX7_align_113 : decode cX7_align 113 = .ok (.iload 7, 2) := by decide +kernel
theorem dX7_align_115 : decode cX7_align 115 = .ok (.iaload, 1) := by decide +kernel
theorem dX7_align_116 : decode cX7_align 116 = .ok (.aload_n 0, 1) := by decide +kernel
theorem dX7_align_117 : decode cX7_align 117 = .ok (.getfield 38, 3) := by decide +kernel
theorem dX7_align_120 : decode cX7_align 120 = .ok (.iload 6, 2) := by decide +kernel
theorem dX7_align_122 : decode cX7_align 122 = .ok (.iaload, 1) := by decide +kernel
theorem dX7_align_123 : decode cX7_align 123 = .ok (.if_icmp .eq 7, 3) := by decide +kernel
theorem dX7_align_126 : decode cX7_align 126 = .ok (.iconst 1, 1) := by decide +kernel
theorem dX7_align_127 : decode cX7_align 127 = .ok (.goto 4, 3) := by decide +kernel
theorem dX7_align_130 : decode cX7_align 130 = .ok (.iconst 0, 1) := by decide +kernel
theorem dX7_align_131 : decode cX7_align 131 = .ok (.iadd, 1) := by decide +kernel
theorem dX7_align_132 : decode cX7_align 132 = .ok (.istore 5, 2) := by decide +kernel
theorem dX7_align_134 : decode cX7_align 134 = .ok (.iinc 6 1, 3) := by decide +kernel
theorem dX7_align_137 : decode cX7_align 137 = .ok (.goto (-97), 3) := by decide +kernel
theorem dX7_align_140 : decode cX7_align 140 = .ok (.iload_n 2, 1) := by decide +kernel
theorem dX7_align_141 : decode cX7_align 141 = .ok (.tableswitch 57 0 4 #[35, 40, 42, 49, 54], 35) := by decide +kernel
theorem dX7_align_176 : decode cX7_align 176 = .ok (.aload_n 0, 1) := by decide +kernel
theorem dX7_align_177 : decode cX7_align 177 = .ok (.getfield 161, 3) := by decide +kernel
theorem dX7_align_180 : decode cX7_align 180 = .ok (.ireturn, 1) := by decide +kernel
theorem dX7_align_181 : decode cX7_align 181 = .ok (.iload_n 3, 1) := by decide +kernel
theorem dX7_align_182 : decode cX7_align 182 = .ok (.ireturn, 1) := by decide +kernel
theorem dX7_align_183 : decode cX7_align 183 = .ok (.aload_n 0, 1) := by decide +kernel
theorem dX7_align_184 : decode cX7_align 184 = .ok (.getfield 152, 3) := by decide +kernel
theorem dX7_align_187 : decode cX7_align 187 = .ok (.iload_n 3, 1) := by decide +kernel
theorem dX7_align_188 : decode cX7_align 188 = .ok (.isub, 1) := by decide +kernel
theorem dX7_align_189 : decode cX7_align 189 = .ok (.ireturn, 1) := by decide +kernel
theorem dX7_align_190 : decode cX7_align 190 = .ok (.aload_n 0, 1) := by decide +kernel
theorem dX7_align_191 : decode cX7_align 191 = .ok (.getfield 164, 3) := by decide +kernel
theorem dX7_align_194 : decode cX7_align 194 = .ok (.ireturn, 1) := by decide +kernel
theorem dX7_align_195 : decode cX7_align 195 = .ok (.iload 4, 2) := by decide +kernel
theorem dX7_align_197 : decode cX7_align 197 = .ok (.ireturn, 1) := by decide +kernel
theorem dX7_align_198 : decode cX7_align 198 = .ok (.iload 5, 2) := by decide +kernel
theorem dX7_align_200 : decode cX7_align 200 = .ok (.ireturn, 1) := by decide +kernel
set_option maxRecDepth 20000 in
theorem ggX7_paired_X7_isRoll : GoodIn wsX7_paired wsX7_isRoll := goodIn_r _ [8, 9, 10, 11, 7, 12, 42, 43, 44, 45, 46, 47, 48, 49, 50, 51, 52, 53, 54, 55, 56, 57, 58, 59, 60, 61, 62, 63, 64, 65, 66, 67, 68, 69, 70, 71, 72, 73, 74, 75] (by decide +kernel) (by decide +kernel)
set_option maxRecDepth 20000 in
theorem gX7_paired_X7_isRoll : GoodIn wsX7_paired (wsV RX7 96 RX7 yX7_isRoll wsX7_isRoll) := goodIn_app (goodIn_of _ (by decide +kernel)) ggX7_paired_X7_isRoll
set_option maxRecDepth 20000 in
theorem ggX7_paired_X7_within : GoodIn wsX7_paired wsX7_within := goodIn_r _ [12] (by decide +kernel) (by decide +kernel)
set_option maxRecDepth 20000 in
theorem gX7_paired_X7_within : GoodIn wsX7_paired (va_wsS RX7 78 yX7_within wsX7_within) := goodIn_app (goodIn_of _ (by decide +kernel)) ggX7_paired_X7_within
set_option maxRecDepth 20000 in
theorem ggX7_paired_X7_aligns : GoodIn wsX7_paired wsX7_aligns := goodIn_r _ [16, 17, 2, 18, 19, 20, 3, 21, 22, 23, 7, 24, 25, 26, 27, 28, 29, 30, 31, 32, 33, 34, 35, 36, 37, 38, 39, 40, 41, 42, 43, 44, 45, 46, 47, 48, 49, 50, 51, 52, 53, 54, 55, 56, 57, 58, 59, 60, 61, 62, 63, 64, 65, 66, 67, 68, 69, 70, 71, 72, 73, 74, 75] (by decide +kernel) (by decide +kernel)
set_option maxRecDepth 20000 in
theorem gX7_paired_X7_aligns : GoodIn wsX7_paired (wsV RX7 167 RX7 yX7_aligns wsX7_aligns) := goodIn_app (goodIn_of _ (by decide +kernel)) ggX7_paired_X7_aligns
theorem dX7_paired_0 : decode cX7_paired 0 = .ok (.aload_n 0, 1) := by decide +kernel
theorem dX7_paired_1 : decode cX7_paired 1 = .ok (.iconst 0, 1) := by decide +kernel
theorem dX7_paired_2 : decode cX7_paired 2 = .ok (.putfield 71, 3) := by decide +kernel
theorem dX7_paired_5 : decode cX7_paired 5 = .ok (.aload_n 0, 1) := by decide +kernel
theorem dX7_paired_6 : decode cX7_paired 6 = .ok (.iload_n 1, 1) := by decide +kernel
theorem dX7_paired_7 : decode cX7_paired 7 = .ok (.invokevirtual 96, 3) := by decide +kernel
theorem dX7_paired_10 : decode cX7_paired 10 = .ok (.ifCond .eq 17, 3) := by decide +kernel
theorem dX7_paired_13 : decode cX7_paired 13 = .ok (.iload_n 2, 1) := by decide +kernel
theorem dX7_paired_14 : decode cX7_paired 14 = .ok (.iconst 0, 1) := by decide +kernel
theorem dX7_paired_15 : decode cX7_paired 15 = .ok (.aload_n 0, 1) := by decide +kernel
theorem dX7_paired_16 : decode cX7_paired 16 = .ok (.getfield 152, 3) := by decide +kernel
theorem dX7_paired_19 : decode cX7_paired 19 = .ok (.iconst 1, 1) := by decide +kernel
theorem dX7_paired_20 : decode cX7_paired 20 = .ok (.isub, 1) := by decide +kernel
theorem dX7_paired_21 : decode cX7_paired 21 = .ok (.invokestatic 78, 3) := by decide +kernel
theorem dX7_paired_24 : decode cX7_paired 24 = .ok (.ifCond .ne 5, 3) := by decide +kernel
theorem dX7_paired_27 : decode cX7_paired 27 = .ok (.iconst (-1), 1) := by decide +kernel
theorem dX7_paired_28 : decode cX7_paired 28 = .ok (.ireturn, 1) := by decide +kernel
theorem dX7_paired_29 : decode cX7_paired 29 = .ok (.aload_n 0, 1) := by decide +kernel
theorem dX7_paired_30 : decode cX7_paired 30 = .ok (.iload_n 1, 1) := by decide +kernel
