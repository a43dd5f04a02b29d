set_option maxRecDepth 20000 in
theorem gX6_note_X4_lengthOf : GoodIn wsX6_note (wsV RX6 92 RX4 yX4_lengthOf wsX4_lengthOf) := goodIn_app (goodIn_of _ (by decide +kernel)) ggX6_note_X4_lengthOf
theorem dX6_note_0 : decode cX6_note 0 = .ok (.aload_n 0, 1) := by decide +kernel
theorem dX6_note_1 : decode cX6_note 1 = .ok (.iload_n 1, 1) := by decide +kernel
theorem dX6_note_2 : decode cX6_note 2 = .ok (.invokevirtual 55, 3) := by decide +kernel
theorem dX6_note_5 : decode cX6_note 5 = .ok (.astore 4, 2) := by decide +kernel
theorem dX6_note_7 : decode cX6_note 7 = .ok (.aload 4, 2) := by decide +kernel
theorem dX6_note_9 : decode cX6_note 9 = .ok (.ifnull 18, 3) := by decide +kernel
theorem dX6_note_12 : decode cX6_note 12 = .ok (.iload_n 2, 1) := by decide +kernel
theorem dX6_note_13 : decode cX6_note 13 = .ok (.iconst 0, 1) := by decide +kernel
theorem dX6_note_14 : decode cX6_note 14 = .ok (.aload 4, 2) := by decide +kernel
theorem dX6_note_16 : decode cX6_note 16 = .ok (.invokevirtual 70, 3) := by decide +kernel
theorem dX6_note_19 : decode cX6_note 19 = .ok (.iconst 1, 1) := by decide +kernel
theorem dX6_note_20 : decode cX6_note 20 = .ok (.isub, 1) := by decide +kernel
theorem dX6_note_21 : decode cX6_note 21 = .ok (.invokestatic 66, 3) := by decide +kernel
theorem dX6_note_24 : decode cX6_note 24 = .ok (.ifCond .ne 5, 3) := by decide +kernel
theorem dX6_note_27 : decode cX6_note 27 = .ok (.iconst (-1), 1) := by decide +kernel
theorem dX6_note_28 : decode cX6_note 28 = .ok (.ireturn, 1) := by decide +kernel
theorem dX6_note_29 : decode cX6_note 29 = .ok (.iload_n 3, 1) := by decide +kernel
theorem dX6_note_30 : decode cX6_note 30 = .ok (.tableswitch 47 0 2 #[26, 33, 40], 26) := by decide +kernel
theorem dX6_note_56 : decode cX6_note 56 = .ok (.aload 4, 2) := by decide +kernel
theorem dX6_note_58 : decode cX6_note 58 = .ok (.iload_n 2, 1) := by decide +kernel
theorem dX6_note_59 : decode cX6_note 59 = .ok (.invokevirtual 85, 3) := by decide +kernel
theorem dX6_note_62 : decode cX6_note 62 = .ok (.ireturn, 1) := by decide +kernel
theorem dX6_note_63 : decode cX6_note 63 = .ok (.aload 4, 2) := by decide +kernel
theorem dX6_note_65 : decode cX6_note 65 = .ok (.iload_n 2, 1) := by decide +kernel
theorem dX6_note_66 : decode cX6_note 66 = .ok (.invokevirtual 89, 3) := by decide +kernel
theorem dX6_note_69 : decode cX6_note 69 = .ok (.ireturn, 1) := by decide +kernel
theorem dX6_note_70 : decode cX6_note 70 = .ok (.aload 4, 2) := by decide +kernel
theorem dX6_note_72 : decode cX6_note 72 = .ok (.iload_n 2, 1) := by decide +kernel
theorem dX6_note_73 : decode cX6_note 73 = .ok (.invokevirtual 92, 3) := by decide +kernel
theorem dX6_note_76 : decode cX6_note 76 = .ok (.ireturn, 1) := by decide +kernel
theorem dX6_note_77 : decode cX6_note 77 = .ok (.iconst (-1), 1) := by decide +kernel
theorem dX6_note_78 : decode cX6_note 78 = .ok (.ireturn, 1) := by decide +kernel
set_option maxRecDepth 20000 in
theorem ggX6_tempo_X6_rollOf : GoodIn wsX6_tempo wsX6_rollOf := goodIn_r _ [5, 6, 7, 8, 9, 4, 10, 21, 22, 23, 24, 25, 26, 27] (by decide +kernel) (by decide +kernel)
set_option maxRecDepth 20000 in
theorem gX6_tempo_X6_rollOf : GoodIn wsX6_tempo (wsV RX6 55 RX6 yX6_rollOf wsX6_rollOf) := goodIn_app (goodIn_of _ (by decide +kernel)) ggX6_tempo_X6_rollOf
set_option maxRecDepth 20000 in
theorem ggX6_tempo_X6_isStep : GoodIn wsX6_tempo wsX6_isStep := goodIn_r _ [13, 8, 9, 4, 10] (by decide +kernel) (by decide +kernel)
set_option maxRecDepth 20000 in
theorem gX6_tempo_X6_isStep : GoodIn wsX6_tempo (va_wsS RX6 63 yX6_isStep wsX6_isStep) := goodIn_app (goodIn_of _ (by decide +kernel)) ggX6_tempo_X6_isStep
set_option maxRecDepth 20000 in
theorem ggX6_tempo_X6_isWithin : GoodIn wsX6_tempo wsX6_isWithin := goodIn_r _ [10] (by decide +kernel) (by decide +kernel)
set_option maxRecDepth 20000 in
theorem gX6_tempo_X6_isWithin : GoodIn wsX6_tempo (va_wsS RX6 66 yX6_isWithin wsX6_isWithin) := goodIn_app (goodIn_of _ (by decide +kernel)) ggX6_tempo_X6_isWithin
set_option maxRecDepth 20000 in
theorem ggX6_tempo_X4_mark : GoodIn wsX6_tempo wsX4_mark := goodIn_r _ [18, 19, 20, 28, 29, 30, 31, 32, 33, 34, 35] (by decide +kernel) (by decide +kernel)
set_option maxRecDepth 20000 in
theorem gX6_tempo_X4_mark : GoodIn wsX6_tempo (wsV RX6 95 RX4 yX4_mark wsX4_mark) := goodIn_app (goodIn_of _ (by decide +kernel)) ggX6_tempo_X4_mark
theorem dX6_tempo_0 : decode cX6_tempo 0 = .ok (.aload_n 0, 1) := by decide +kernel
theorem dX6_tempo_1 : decode cX6_tempo 1 = .ok (.iload_n 1, 1) := by decide +kernel
theorem dX6_tempo_2 : decode cX6_tempo 2 = .ok (.invokevirtual 55, 3) := by decide +kernel
theorem dX6_tempo_5 : decode cX6_tempo 5 = .ok (.astore 4, 2) := by decide +kernel
theorem dX6_tempo_7 : decode cX6_tempo 7 = .ok (.aload 4, 2) := by decide +kernel
theorem dX6_tempo_9 : decode cX6_tempo 9 = .ok (.ifnull 20, 3) := by decide +kernel
theorem dX6_tempo_12 : decode cX6_tempo 12 = .ok (.iload_n 2, 1) := by decide +kernel
theorem dX6_tempo_13 : decode cX6_tempo 13 = .ok (.invokestatic 63, 3) := by decide +kernel
theorem dX6_tempo_16 : decode cX6_tempo 16 = .ok (.ifCond .eq 13, 3) := by decide +kernel
theorem dX6_tempo_19 : decode cX6_tempo 19 = .ok (.iload_n 3, 1) := by decide +kernel
theorem dX6_tempo_20 : decode cX6_tempo 20 = .ok (.iconst 1, 1) := by decide +kernel
theorem dX6_tempo_21 : decode cX6_tempo 21 = .ok (.bipush 9, 2) := by decide +kernel
theorem dX6_tempo_23 : decode cX6_tempo 23 = .ok (.invokestatic 66, 3) := by decide +kernel
theorem dX6_tempo_26 : decode cX6_tempo 26 = .ok (.ifCond .ne 5, 3) := by decide +kernel
theorem dX6_tempo_29 : decode cX6_tempo 29 = .ok (.iconst (-1), 1) := by decide +kernel
theorem dX6_tempo_30 : decode cX6_tempo 30 = .ok (.ireturn, 1) := by decide +kernel
theorem dX6_tempo_31 : decode cX6_tempo 31 = .ok (.aload 4, 2) := by decide +kernel
theorem dX6_tempo_33 : decode cX6_tempo 33 = .ok (.iload_n 2, 1) := by decide +kernel
theorem dX6_tempo_34 : decode cX6_tempo 34 = .ok (.iload_n 3, 1) := by decide +kernel
theorem dX6_tempo_35 : decode cX6_tempo 35 = .ok (.invokevirtual 95, 3) := by decide +kernel
theorem dX6_tempo_38 : decode cX6_tempo 38 = .ok (.ireturn, 1) := by decide +kernel
set_option maxRecDepth 20000 in
theorem ggX6_sounds_X6_playsTo : GoodIn wsX6_sounds wsX6_playsTo := goodIn_r _ [6, 1, 7, 8, 9, 5, 10, 11, 12, 13, 14, 15, 16, 17, 18, 19, 20, 21, 22, 23, 24, 25, 26, 27, 28, 29, 30, 31, 32, 33, 34, 35, 36, 37, 38, 39, 40, 41, 42, 43, 44, 45, 46, 47, 48, 49, 50, 51, 56, 57, 58, 59, 60, 61, 62, 63, 64, 65, 66, 67, 68, 69, 70, 71, 72, 73] (by decide +kernel) (by decide +kernel)
set_option maxRecDepth 20000 in
theorem gX6_sounds_X6_playsTo : GoodIn wsX6_sounds (wsV RX6 98 RX6 yX6_playsTo wsX6_playsTo) := goodIn_app (goodIn_of _ (by decide +kernel)) ggX6_sounds_X6_playsTo
set_option maxRecDepth 20000 in
theorem ggX6_sounds_X1_soundingPitches : GoodIn wsX6_sounds wsX1_soundingPitches := goodIn_r _ [55, 26, 63, 64, 65] (by decide +kernel) (by decide +kernel)
set_option maxRecDepth 20000 in
theorem gX6_sounds_X1_soundingPitches : GoodIn wsX6_sounds (wsV RX6 101 RX1 yX1_soundingPitches wsX1_soundingPitches) := goodIn_app (goodIn_of _ (by decide +kernel)) ggX6_sounds_X1_soundingPitches
theorem dX6_sounds_0 : decode cX6_sounds 0 = .ok (.aload_n 0, 1) := by decide +kernel
theorem dX6_sounds_1 : decode cX6_sounds 1 = .ok (.iload_n 1, 1) := by decide +kernel
theorem dX6_sounds_2 : decode cX6_sounds 2 = .ok (.iload_n 2, 1) := by decide +kernel
theorem dX6_sounds_3 : decode cX6_sounds 3 = .ok (.iload_n 3, 1) := by decide +kernel
theorem dX6_sounds_4 : decode cX6_sounds 4 = .ok (.invokevirtual 98, 3) := by decide +kernel
theorem dX6_sounds_7 : decode cX6_sounds 7 = .ok (.ifCond .eq 13, 3) := by decide +kernel
theorem dX6_sounds_10 : decode cX6_sounds 10 = .ok (.aload_n 0, 1) := by decide +kernel
theorem dX6_sounds_11 : decode cX6_sounds 11 = .ok (.getfield 22, 3) := by decide +kernel
theorem dX6_sounds_14 : decode cX6_sounds 14 = .ok (.invokevirtual 101, 3) := by decide +kernel
theorem dX6_sounds_17 : decode cX6_sounds 17 = .ok (.goto 4, 3) := by decide +kernel
theorem dX6_sounds_20 : decode cX6_sounds 20 = .ok (.iconst (-1), 1) := by decide +kernel
theorem dX6_sounds_21 : decode cX6_sounds 21 = .ok (.ireturn, 1) := by decide +kernel
set_option maxRecDepth 20000 in
theorem ggX6_pressure_X6_playsTo : GoodIn wsX6_pressure wsX6_playsTo := goodIn_r _ [6, 1, 7, 8, 9, 5, 10, 11, 12, 13, 14, 15, 16, 17, 18, 19, 20, 21, 22, 23, 24, 25, 26, 27, 28, 29, 30, 31, 32, 33, 34, 35, 36, 37, 38, 39, 40, 41, 42, 43, 44, 45, 46, 47, 48, 49, 50, 51, 56, 57, 58, 59, 60, 61, 62, 63, 64, 65, 66, 67, 68, 69, 70, 71, 72, 73] (by decide +kernel) (by decide +kernel)
set_option maxRecDepth 20000 in
theorem gX6_pressure_X6_playsTo : GoodIn wsX6_pressure (wsV RX6 98 RX6 yX6_playsTo wsX6_playsTo) := goodIn_app (goodIn_of _ (by decide +kernel)) ggX6_pressure_X6_playsTo
set_option maxRecDepth 20000 in
theorem ggX6_pressure_X1_pressureNow : GoodIn wsX6_pressure wsX1_pressureNow := goodIn_r _ [55, 24, 63, 64, 65] (by decide +kernel) (by decide +kernel)
set_option maxRecDepth 20000 in
theorem gX6_pressure_X1_pressureNow : GoodIn wsX6_pressure (wsV RX6 104 RX1 yX1_pressureNow wsX1_pressureNow) := goodIn_app (goodIn_of _ (by decide +kernel)) ggX6_pressure_X1_pressureNow
theorem dX6_pressure_0 : decode cX6_pressure 0 = .ok (.aload_n 0, 1) := by decide +kernel
theorem dX6_pressure_1 : decode cX6_pressure 1 = .ok (.iload_n 1, 1) := by decide +kernel
theorem dX6_pressure_2 : decode cX6_pressure 2 = .ok (.iload_n 2, 1) := by decide +kernel
theorem dX6_pressure_3 : decode cX6_pressure 3 = .ok (.iload_n 3, 1) := by decide +kernel
theorem dX6_pressure_4 : decode cX6_pressure 4 = .ok (.invokevirtual 98, 3) := by decide +kernel
theorem dX6_pressure_7 : decode cX6_pressure 7 = .ok (.ifCond .eq 13, 3) := by decide +kernel
theorem dX6_pressure_10 : decode cX6_pressure 10 = .ok (.aload_n 0, 1) := by decide +kernel
theorem dX6_pressure_11 : decode cX6_pressure 11 = .ok (.getfield 22, 3) := by decide +kernel
theorem dX6_pressure_14 : decode cX6_pressure 14 = .ok (.invokevirtual 104, 3) := by decide +kernel
theorem dX6_pressure_17 : decode cX6_pressure 17 = .ok (.goto 4, 3) := by decide +kernel
theorem dX6_pressure_20 : decode cX6_pressure 20 = .ok (.iconst (-1), 1) := by decide +kernel
theorem dX6_pressure_21 : decode cX6_pressure 21 = .ok (.ireturn, 1) := by decide +kernel
set_option maxRecDepth 20000 in
theorem ggX6_silent_X6_rollOf : GoodIn wsX6_silent wsX6_rollOf := goodIn_r _ [6, 7, 8, 9, 10, 5, 11, 56, 57, 58, 59, 60, 61, 62] (by decide +kernel) (by decide +kernel)
set_option maxRecDepth 20000 in
theorem gX6_silent_X6_rollOf : GoodIn wsX6_silent (wsV RX6 55 RX6 yX6_rollOf wsX6_rollOf) := goodIn_app (goodIn_of _ (by decide +kernel)) ggX6_silent_X6_rollOf
set_option maxRecDepth 20000 in
theorem ggX6_silent_X6_isPedal : GoodIn wsX6_silent wsX6_isPedal := goodIn_r _ [14, 9, 10, 5, 11] (by decide +kernel) (by decide +kernel)
set_option maxRecDepth 20000 in
theorem gX6_silent_X6_isPedal : GoodIn wsX6_silent (va_wsS RX6 107 yX6_isPedal wsX6_isPedal) := goodIn_app (goodIn_of _ (by decide +kernel)) ggX6_silent_X6_isPedal
set_option maxRecDepth 20000 in
theorem ggX6_silent_X1_playAll : GoodIn wsX6_silent wsX1_playAll := goodIn_r _ [19, 20, 21, 22, 18, 23, 24, 25, 26, 27, 28, 29, 30, 31, 32, 33, 34, 35, 36, 37, 38, 39, 40, 41, 42, 43, 44, 45, 46, 47, 48, 49, 50, 51, 63, 64, 65, 66, 67, 68, 69, 70, 71, 72, 73] (by decide +kernel) (by decide +kernel)
set_option maxRecDepth 20000 in
theorem gX6_silent_X1_playAll : GoodIn wsX6_silent (wsV RX6 110 RX1 yX1_playAll wsX1_playAll) := goodIn_app (goodIn_of _ (by decide +kernel)) ggX6_silent_X1_playAll
set_option maxRecDepth 20000 in
theorem ggX6_silent_X1_mutedTicks : GoodIn wsX6_silent wsX1_mutedTicks := goodIn_r _ [55, 25, 63, 64, 65] (by decide +kernel) (by decide +kernel)
set_option maxRecDepth 20000 in
theorem gX6_silent_X1_mutedTicks : GoodIn wsX6_silent (wsV RX6 114 RX1 yX1_mutedTicks wsX1_mutedTicks) := goodIn_app (goodIn_of _ (by decide +kernel)) ggX6_silent_X1_mutedTicks
theorem dX6_silent_0 : decode cX6_silent 0 = .ok (.aload_n 0, 1) := by decide +kernel
theorem dX6_silent_1 : decode cX6_silent 1 = .ok (.iload_n 1, 1) := by decide +kernel
theorem dX6_silent_2 : decode cX6_silent 2 = .ok (.invokevirtual 55, 3) := by decide +kernel
theorem dX6_silent_5 : decode cX6_silent 5 = .ok (.astore_n 3, 1) := by decide +kernel
theorem dX6_silent_6 : decode cX6_silent 6 = .ok (.aload_n 3, 1) := by decide +kernel
theorem dX6_silent_7 : decode cX6_silent 7 = .ok (.ifnull 10, 3) := by decide +kernel
theorem dX6_silent_10 : decode cX6_silent 10 = .ok (.iload_n 2, 1) := by decide +kernel
theorem dX6_silent_11 : decode cX6_silent 11 = .ok (.invokestatic 107, 3) := by decide +kernel
theorem dX6_silent_14 : decode cX6_silent 14 = .ok (.ifCond .ne 5, 3) := by decide +kernel
theorem dX6_silent_17 : decode cX6_silent 17 = .ok (.iconst (-1), 1) := by decide +kernel
theorem dX6_silent_18 : decode cX6_silent 18 = .ok (.ireturn, 1) := by decide +kernel
theorem dX6_silent_19 : decode cX6_silent 19 = .ok (.aload_n 0, 1) := by decide +kernel
theorem dX6_silent_20 : decode cX6_silent 20 = .ok (.getfield 22, 3) := by decide +kernel
theorem dX6_silent_23 : decode cX6_silent 23 = .ok (.aload_n 3, 1) := by decide +kernel
theorem dX6_silent_24 : decode cX6_silent 24 = .ok (.iload_n 2, 1) := by decide +kernel
theorem dX6_silent_25 : decode cX6_silent 25 = .ok (.invokevirtual 110, 3) := by decide +kernel
theorem dX6_silent_28 : decode cX6_silent 28 = .ok (.aload_n 0, 1) := by decide +kernel
theorem dX6_silent_29 : decode cX6_silent 29 = .ok (.getfield 22, 3) := by decide +kernel
theorem dX6_silent_32 : decode cX6_silent 32 = .ok (.invokevirtual 114, 3) := by decide +kernel
theorem dX6_silent_35 : decode cX6_silent 35 = .ok (.ireturn, 1) := by decide +kernel
set_option maxRecDepth 20000 in
theorem ggX6_ticks_X6_rollOf : GoodIn wsX6_ticks wsX6_rollOf := goodIn_r _ [5, 6, 7, 8, 9, 4, 10, 21, 22, 23, 24, 25, 26, 27] (by decide +kernel) (by decide +kernel)
set_option maxRecDepth 20000 in
theorem gX6_ticks_X6_rollOf : GoodIn wsX6_ticks (wsV RX6 55 RX6 yX6_rollOf wsX6_rollOf) := goodIn_app (goodIn_of _ (by decide +kernel)) ggX6_ticks_X6_rollOf
set_option maxRecDepth 20000 in
theorem ggX6_ticks_X4_ticksOfAllSteps : GoodIn wsX6_ticks wsX4_ticksOfAllSteps := goodIn_r _ [15, 16, 17, 18, 14, 19, 20, 28, 29, 30, 31, 32, 33, 34, 35] (by decide +kernel) (by decide +kernel)
set_option maxRecDepth 20000 in
theorem gX6_ticks_X4_ticksOfAllSteps : GoodIn wsX6_ticks (wsV RX6 117 RX4 yX4_ticksOfAllSteps wsX4_ticksOfAllSteps) := goodIn_app (goodIn_of _ (by decide +kernel)) ggX6_ticks_X4_ticksOfAllSteps
theorem dX6_ticks_0 : decode cX6_ticks 0 = .ok (.aload_n 0, 1) := by decide +kernel
theorem dX6_ticks_1 : decode cX6_ticks 1 = .ok (.iload_n 1, 1) := by decide +kernel
theorem dX6_ticks_2 : decode cX6_ticks 2 = .ok (.invokevirtual 55, 3) := by decide +kernel
theorem dX6_ticks_5 : decode cX6_ticks 5 = .ok (.astore_n 2, 1) := by decide +kernel
theorem dX6_ticks_6 : decode cX6_ticks 6 = .ok (.aload_n 2, 1) := by decide +kernel
theorem dX6_ticks_7 : decode cX6_ticks 7 = .ok (.ifnonnull 7, 3) := by decide +kernel
theorem dX6_ticks_10 : decode cX6_ticks 10 = .ok (.iconst (-1), 1) := by decide +kernel
theorem dX6_ticks_11 : decode cX6_ticks 11 = .ok (.goto 7, 3) := by decide +kernel
theorem dX6_ticks_14 : decode cX6_ticks 14 = .ok (.aload_n 2, 1) := by decide +kernel
theorem dX6_ticks_15 : decode cX6_ticks 15 = .ok (.invokevirtual 117, 3) := by decide +kernel
theorem dX6_ticks_18 : decode cX6_ticks 18 = .ok (.ireturn, 1) := by decide +kernel
set_option maxRecDepth 20000 in
theorem ggX6_move_X6_rollOf : GoodIn wsX6_move wsX6_rollOf := goodIn_r _ [5, 6, 7, 8, 9, 4, 10, 83, 84, 85, 86, 87, 88, 89] (by decide +kernel) (by decide +kernel)
set_option maxRecDepth 20000 in
theorem gX6_move_X6_rollOf : GoodIn wsX6_move (wsV RX6 55 RX6 yX6_rollOf wsX6_rollOf) := goodIn_app (goodIn_of _ (by decide +kernel)) ggX6_move_X6_rollOf
set_option maxRecDepth 20000 in
theorem ggX6_move_X4_noteCount : GoodIn wsX6_move wsX4_noteCount := goodIn_r _ [15, 16, 90, 91, 92, 93, 94, 95, 96, 97] (by decide +kernel) (by decide +kernel)
set_option maxRecDepth 20000 in
theorem gX6_move_X4_noteCount : GoodIn wsX6_move (wsV RX6 70 RX4 yX4_noteCount wsX4_noteCount) := goodIn_app (goodIn_of _ (by decide +kernel)) ggX6_move_X4_noteCount
set_option maxRecDepth 20000 in
theorem ggX6_move_X4_takeTempoOf : GoodIn wsX6_move wsX4_takeTempoOf := goodIn_r _ [20, 21, 22, 23, 24, 25, 26, 90, 91, 92, 93, 94, 95, 96, 97] (by decide +kernel) (by decide +kernel)
set_option maxRecDepth 20000 in
theorem gX6_move_X4_takeTempoOf : GoodIn wsX6_move (wsV RX6 120 RX4 yX4_takeTempoOf wsX4_takeTempoOf) := goodIn_app (goodIn_of _ (by decide +kernel)) ggX6_move_X4_takeTempoOf
set_option maxRecDepth 20000 in
theorem ggX6_move_X4_takeNotesOf : GoodIn wsX6_move wsX4_takeNotesOf := goodIn_r _ [30, 16, 31, 32, 33, 34, 35, 14, 36, 37, 38, 39, 40, 41, 42, 43, 44, 45, 46, 47, 48, 49, 50, 51, 52, 53, 54, 55, 56, 57, 58, 59, 60, 61, 62, 63, 64, 65, 66, 67, 68, 69, 70, 71, 72, 73, 74, 75, 76, 77, 78, 79, 80, 81, 82, 90, 91, 92, 93, 94, 95, 96, 97] (by decide +kernel) (by decide +kernel)
set_option maxRecDepth 20000 in
theorem gX6_move_X4_takeNotesOf : GoodIn wsX6_move (wsV RX6 124 RX4 yX4_takeNotesOf wsX4_takeNotesOf) := goodIn_app (goodIn_of _ (by decide +kernel)) ggX6_move_X4_takeNotesOf
theorem dX6_move_0 : decode cX6_move 0 = .ok (.aload_n 0, 1) := by decide +kernel
theorem dX6_move_1 : decode cX6_move 1 = .ok (.iload_n 1, 1) := by decide +kernel
theorem dX6_move_2 : decode cX6_move 2 = .ok (.invokevirtual 55, 3) := by decide +kernel
theorem dX6_move_5 : decode cX6_move 5 = .ok (.astore_n 3, 1) := by decide +kernel
theorem dX6_move_6 : decode cX6_move 6 = .ok (.aload_n 0, 1) := by decide +kernel
theorem dX6_move_7 : decode cX6_move 7 = .ok (.iload_n 2, 1) := by decide +kernel
theorem dX6_move_8 : decode cX6_move 8 = .ok (.invokevirtual 55, 3) := by decide +kernel
theorem dX6_move_11 : decode cX6_move 11 = .ok (.astore 4, 2) := by decide +kernel
theorem dX6_move_13 : decode cX6_move 13 = .ok (.aload_n 3, 1) := by decide +kernel
theorem dX6_move_14 : decode cX6_move 14 = .ok (.ifnull 21, 3) := by decide +kernel
theorem dX6_move_17 : decode cX6_move 17 = .ok (.aload 4, 2) := by decide +kernel
theorem dX6_move_19 : decode cX6_move 19 = .ok (.ifnull 16, 3) := by decide +kernel
theorem dX6_move_22 : decode cX6_move 22 = .ok (.iload_n 1, 1) := by decide +kernel
theorem dX6_move_23 : decode cX6_move 23 = .ok (.iload_n 2, 1) := by decide +kernel
theorem dX6_move_24 : decode cX6_move 24 = .ok (.if_icmp .eq 11, 3) := by decide +kernel
theorem dX6_move_27 : decode cX6_move 27 = .ok (.aload 4, 2) := by decide +kernel
theorem dX6_move_29 : decode cX6_move 29 = .ok (.invokevirtual 70, 3) := by decide +kernel
theorem dX6_move_32 : decode cX6_move 32 = .ok (.ifCond .le 5, 3) := by decide +kernel
theorem dX6_move_35 : decode cX6_move 35 = .ok (.iconst (-1), 1) := by decide +kernel
theorem dX6_move_36 : decode cX6_move 36 = .ok (.ireturn, 1) := by decide +kernel
theorem dX6_move_37 : decode cX6_move 37 = .ok (.aload 4, 2) := by decide +kernel
theorem dX6_move_39 : decode cX6_move 39 = .ok (.aload_n 3, 1) := by decide +kernel
theorem dX6_move_40 : decode cX6_move 40 = .ok (.invokevirtual 120, 3) := by decide +kernel
theorem dX6_move_43 : decode cX6_move 43 = .ok (.aload 4, 2) := by decide +kernel
theorem dX6_move_45 : decode cX6_move 45 = .ok (.aload_n 3, 1) := by decide +kernel
theorem dX6_move_46 : decode cX6_move 46 = .ok (.invokevirtual 124, 3) := by decide +kernel
theorem dX6_move_49 : decode cX6_move 49 = .ok (.ireturn, 1) := by decide +kernel
set_option maxRecDepth 20000 in
theorem ggX6_item_X6_isPitch : GoodIn wsX6_item wsX6_isPitch := goodIn_r _ [5, 6, 7, 4, 8] (by decide +kernel) (by decide +kernel)
set_option maxRecDepth 20000 in
theorem gX6_item_X6_isPitch : GoodIn wsX6_item (va_wsS RX6 59 yX6_isPitch wsX6_isPitch) := goodIn_app (goodIn_of _ (by decide +kernel)) ggX6_item_X6_isPitch
set_option maxRecDepth 20000 in
theorem ggX6_item_X6_isStep : GoodIn wsX6_item wsX6_isStep := goodIn_r _ [11, 6, 7, 4, 8] (by decide +kernel) (by decide +kernel)
set_option maxRecDepth 20000 in
theorem gX6_item_X6_isStep : GoodIn wsX6_item (va_wsS RX6 63 yX6_isStep wsX6_isStep) := goodIn_app (goodIn_of _ (by decide +kernel)) ggX6_item_X6_isStep
set_option maxRecDepth 20000 in
theorem ggX6_item_X5_append : GoodIn wsX6_item wsX5_append := goodIn_r _ [16, 17, 18, 19, 27, 28, 29] (by decide +kernel) (by decide +kernel)
set_option maxRecDepth 20000 in
theorem gX6_item_X5_append : GoodIn wsX6_item (wsV RX6 128 RX5 yX5_append wsX5_append) := goodIn_app (goodIn_of _ (by decide +kernel)) ggX6_item_X5_append
theorem dX6_item_0 : decode cX6_item 0 = .ok (.iload_n 1, 1) := by decide +kernel
theorem dX6_item_1 : decode cX6_item 1 = .ok (.invokestatic 59, 3) := by decide +kernel
theorem dX6_item_4 : decode cX6_item 4 = .ok (.ifCond .eq 10, 3) := by decide +kernel
theorem dX6_item_7 : decode cX6_item 7 = .ok (.iload_n 2, 1) := by decide +kernel
theorem dX6_item_8 : decode cX6_item 8 = .ok (.invokestatic 63, 3) := by decide +kernel
theorem dX6_item_11 : decode cX6_item 11 = .ok (.ifCond .ne 5, 3) := by decide +kernel
theorem dX6_item_14 : decode cX6_item 14 = .ok (.iconst (-1), 1) := by decide +kernel
theorem dX6_item_15 : decode cX6_item 15 = .ok (.ireturn, 1) := by decide +kernel
theorem dX6_item_16 : decode cX6_item 16 = .ok (.aload_n 0, 1) := by decide +kernel
theorem dX6_item_17 : decode cX6_item 17 = .ok (.getfield 29, 3) := by decide +kernel
theorem dX6_item_20 : decode cX6_item 20 = .ok (.iload_n 1, 1) := by decide +kernel
theorem dX6_item_21 : decode cX6_item 21 = .ok (.iload_n 2, 1) := by decide +kernel
theorem dX6_item_22 : decode cX6_item 22 = .ok (.invokevirtual 128, 3) := by decide +kernel
theorem dX6_item_25 : decode cX6_item 25 = .ok (.ireturn, 1) := by decide +kernel
set_option maxRecDepth 20000 in
theorem ggX6_clear_X5_forgetAll : GoodIn wsX6_clear wsX5_forgetAll := goodIn_r _ [6, 7, 15, 16, 17] (by decide +kernel) (by decide +kernel)
set_option maxRecDepth 20000 in
theorem gX6_clear_X5_forgetAll : GoodIn wsX6_clear (wsV RX6 131 RX5 yX5_forgetAll wsX5_forgetAll) := goodIn_app (goodIn_of _ (by decide +kernel)) ggX6_clear_X5_forgetAll
theorem dX6_clear_0 : decode cX6_clear 0 = .ok (.aload_n 0, 1) := by decide +kernel
theorem dX6_clear_1 : decode cX6_clear 1 = .ok (.getfield 29, 3) := by decide +kernel
theorem dX6_clear_4 : decode cX6_clear 4 = .ok (.invokevirtual 131, 3) := by decide +kernel
theorem dX6_clear_7 : decode cX6_clear 7 = .ok (.return_, 1) := by decide +kernel
set_option maxRecDepth 20000 in
theorem ggX6_align_X6_rollOf : GoodIn wsX6_align wsX6_rollOf := goodIn_r _ [7, 8, 9, 10, 11, 6, 12, 90, 91, 92, 93, 94, 95, 96] (by decide +kernel) (by decide +kernel)
set_option maxRecDepth 20000 in
theorem gX6_align_X6_rollOf : GoodIn wsX6_align (wsV RX6 55 RX6 yX6_rollOf wsX6_rollOf) := goodIn_app (goodIn_of _ (by decide +kernel)) ggX6_align_X6_rollOf
set_option maxRecDepth 20000 in
theorem ggX6_align_X6_isWithin : GoodIn wsX6_align wsX6_isWithin := goodIn_r _ [12] (by decide +kernel) (by decide +kernel)
set_option maxRecDepth 20000 in
theorem gX6_align_X6_isWithin : GoodIn wsX6_align (va_wsS RX6 66 yX6_isWithin wsX6_isWithin) := goodIn_app (goodIn_of _ (by decide +kernel)) ggX6_align_X6_isWithin
set_option maxRecDepth 20000 in
theorem ggX6_align_X0_reckon : GoodIn wsX6_align wsX0_reckon := goodIn_r _ [17, 18, 19, 20, 21, 22, 23, 24, 25, 26, 27, 28, 29, 30, 31, 32, 33, 34, 35, 36, 37, 38, 39, 40, 41, 42, 43, 44, 45, 46, 16, 47, 48, 49, 50, 51, 52, 53, 54, 55, 56, 57, 58, 59, 60, 61, 62, 63, 64, 65, 66, 67, 68, 69, 70, 71, 72, 73, 74, 75, 76, 77, 78, 79, 80, 81, 82, 83, 84, 85, 97, 98, 99, 100, 101, 102, 103, 104, 105, 106, 107, 108, 109, 110, 111, 112, 113, 114, 115, 116] (by decide +kernel) (by decide +kernel)
set_option maxRecDepth 20000 in
theorem gX6_align_X0_reckon : GoodIn wsX6_align (wsV RX6 134 RX0 yX0_reckon wsX0_reckon) := goodIn_app (goodIn_of _ (by decide +kernel)) ggX6_align_X0_reckon
set_option maxRecDepth 20000 in
theorem ggX6_align_X0_figure : GoodIn wsX6_align wsX0_figure := goodIn_r _ [89, 48, 78, 21, 18, 79, 80, 97, 98, 99, 100, 101, 102, 103, 104, 105] (by decide +kernel) (by decide +kernel)
set_option maxRecDepth 20000 in
theorem gX6_align_X0_figure : GoodIn wsX6_align (wsV RX6 138 RX0 yX0_figure wsX0_figure) := goodIn_app (goodIn_of _ (by decide +kernel)) ggX6_align_X0_figure
theorem dX6_align_0 : decode cX6_align 0 = .ok (.aload_n 0, 1) := by decide +kernel
theorem dX6_align_1 : decode cX6_align 1 = .ok (.iload_n 1, 1) := by decide +kernel
theorem dX6_align_2 : decode cX6_align 2 = .ok (.invokevirtual 55, 3) := by decide +kernel
theorem dX6_align_5 : decode cX6_align 5 = .ok (.astore_n 3, 1) := by decide +kernel
theorem dX6_align_6 : decode cX6_align 6 = .ok (.aload_n 3, 1) := by decide +kernel
theorem dX6_align_7 : decode cX6_align 7 = .ok (.ifnull 12, 3) := by decide +kernel
theorem dX6_align_10 : decode cX6_align 10 = .ok (.iload_n 2, 1) := by decide +kernel
theorem dX6_align_11 : decode cX6_align 11 = .ok (.iconst 0, 1) := by decide +kernel
theorem dX6_align_12 : decode cX6_align 12 = .ok (.iconst 5, 1) := by decide +kernel
theorem dX6_align_13 : decode cX6_align 13 = .ok (.invokestatic 66, 3) := by decide +kernel
theorem dX6_align_16 : decode cX6_align 16 = .ok (.ifCond .ne 5, 3) := by decide +kernel
theorem dX6_align_19 : decode cX6_align 19 = .ok (.iconst (-1), 1) := by decide +kernel
theorem dX6_align_20 : decode cX6_align 20 = .ok (.ireturn, 1) := by decide +kernel
theorem dX6_align_21 : decode cX6_align 21 = .ok (.aload_n 0, 1) := by decide +kernel
theorem dX6_align_22 : decode cX6_align 22 = .ok (.getfield 36, 3) := by decide +kernel
theorem dX6_align_25 : decode cX6_align 25 = .ok (.aload_n 3, 1) := by decide +kernel
theorem dX6_align_26 : decode cX6_align 26 = .ok (.aload_n 0, 1) := by decide +kernel
theorem dX6_align_27 : decode cX6_align 27 = .ok (.getfield 29, 3) := by decide +kernel
theorem dX6_align_30 : decode cX6_align 30 = .ok (.invokevirtual 134, 3) := by decide +kernel
theorem dX6_align_33 : decode cX6_align 33 = .ok (.aload_n 0, 1) := by decide +kernel
theorem dX6_align_34 : decode cX6_align 34 = .ok (.getfield 36, 3) := by decide +kernel
theorem dX6_align_37 : decode cX6_align 37 = .ok (.iload_n 2, 1) := by decide +kernel
theorem dX6_align_38 : decode cX6_align 38 = .ok (.invokevirtual 138, 3) := by decide +kernel
theorem dX6_align_41 : decode cX6_align 41 = .ok (.ireturn, 1) := by decide +kernel
set_option maxRecDepth 20000 in
theorem ggX6_paired_X6_rollOf : GoodIn wsX6_paired wsX6_rollOf := goodIn_r _ [7, 8, 9, 10, 11, 6, 12, 91, 92, 93, 94, 95, 96, 97] (by decide +kernel) (by decide +kernel)
set_option maxRecDepth 20000 in
theorem gX6_paired_X6_rollOf : GoodIn wsX6_paired (wsV RX6 55 RX6 yX6_rollOf wsX6_rollOf) := goodIn_app (goodIn_of _ (by decide +kernel)) ggX6_paired_X6_rollOf
set_option maxRecDepth 20000 in
theorem ggX6_paired_X5_size : GoodIn wsX6_paired wsX5_size := goodIn_r _ [17, 18, 98, 99, 100] (by decide +kernel) (by decide +kernel)
set_option maxRecDepth 20000 in
theorem gX6_paired_X5_size : GoodIn wsX6_paired (wsV RX6 141 RX5 yX5_size wsX5_size) := goodIn_app (goodIn_of _ (by decide +kernel)) ggX6_paired_X5_size
set_option maxRecDepth 20000 in
theorem ggX6_paired_X6_isWithin : GoodIn wsX6_paired wsX6_isWithin := goodIn_r _ [12] (by decide +kernel) (by decide +kernel)
set_option maxRecDepth 20000 in
theorem gX6_paired_X6_isWithin : GoodIn wsX6_paired (va_wsS RX6 66 yX6_isWithin wsX6_isWithin) := goodIn_app (goodIn_of _ (by decide +kernel)) ggX6_paired_X6_isWithin
set_option maxRecDepth 20000 in
theorem ggX6_paired_X0_reckon : GoodIn wsX6_paired wsX0_reckon := goodIn_r _ [23, 24, 25, 26, 27, 28, 29, 30, 31, 32, 33, 34, 35, 36, 37, 38, 39, 40, 41, 42, 43, 44, 14, 15, 16, 17, 18, 45, 46, 47, 22, 48, 49, 50, 51, 52, 53, 54, 55, 56, 57, 58, 59, 60, 61, 62, 63, 64, 65, 66, 67, 68, 69, 70, 71, 72, 73, 74, 75, 76, 77, 78, 79, 80, 81, 82, 83, 84, 85, 86, 101, 102, 103, 104, 105, 106, 107, 108, 109, 110, 111, 112, 113, 114, 115, 116, 117, 98, 99, 100] (by decide +kernel) (by decide +kernel)
set_option maxRecDepth 20000 in
theorem gX6_paired_X0_reckon : GoodIn wsX6_paired (wsV RX6 134 RX0 yX0_reckon wsX0_reckon) := goodIn_app (goodIn_of _ (by decide +kernel)) ggX6_paired_X0_reckon
set_option maxRecDepth 20000 in
theorem ggX6_paired_X0_noteOfItem : GoodIn wsX6_paired wsX0_noteOfItem := goodIn_r _ [90, 82, 101, 102, 103, 104, 105, 106, 107, 108, 109] (by decide +kernel) (by decide +kernel)
set_option maxRecDepth 20000 in
theorem gX6_paired_X0_noteOfItem : GoodIn wsX6_paired (wsV RX6 144 RX0 yX0_noteOfItem wsX0_noteOfItem) := goodIn_app (goodIn_of _ (by decide +kernel)) ggX6_paired_X0_noteOfItem
theorem dX6_paired_0 : decode cX6_paired 0 = .ok (.aload_n 0, 1) := by decide +kernel
theorem dX6_paired_1 : decode cX6_paired 1 = .ok (.iload_n 1, 1) := by decide +kernel
theorem dX6_paired_2 : decode cX6_paired 2 = .ok (.invokevirtual 55, 3) := by decide +kernel
theorem dX6_paired_5 : decode cX6_paired 5 = .ok (.astore_n 3, 1) := by decide +kernel
theorem dX6_paired_6 : decode cX6_paired 6 = .ok (.aload_n 3, 1) := by decide +kernel
theorem dX6_paired_7 : decode cX6_paired 7 = .ok (.ifnull 20, 3) := by decide +kernel
theorem dX6_paired_10 : decode cX6_paired 10 = .ok (.iload_n 2, 1) := by decide +kernel
theorem dX6_paired_11 : decode cX6_paired 11 = .ok (.iconst 0, 1) := by decide +kernel
theorem dX6_paired_12 : decode cX6_paired 12 = .ok (.aload_n 0, 1) := by decide +kernel
theorem dX6_paired_13 : decode cX6_paired 13 = .ok (.getfield 29, 3) := by decide +kernel
theorem dX6_paired_16 : decode cX6_paired 16 = .ok (.invokevirtual 141, 3) := by decide +kernel
theorem dX6_paired_19 : decode cX6_paired 19 = .ok (.iconst 1, 1) := by decide +kernel
theorem dX6_paired_20 : decode cX6_paired 20 = .ok (.isub, 1) := by decide +kernel
theorem dX6_paired_21 : decode cX6_paired 21 = .ok (.invokestatic 66, 3) := by decide +kernel
theorem dX6_paired_24 : decode cX6_paired 24 = .ok (.ifCond .ne 5, 3) := by decide +kernel
theorem dX6_paired_27 : decode cX6_paired 27 = .ok (.iconst (-1), 1) := by decide +kernel
theorem dX6_paired_28 : decode cX6_paired 28 = .ok (.ireturn, 1) := by decide +kernel
theorem dX6_paired_29 : decode cX6_paired 29 = .ok (.aload_n 0, 1) := by decide +kernel
theorem dX6_paired_30 : decode cX6_paired 30 = .ok (.getfield 36, 3) := by decide +kernel
theorem dX6_paired_33 : decode cX6_paired 33 = .ok (.aload_n 3, 1) := by decide +kernel
theorem dX6_paired_34 : decode cX6_paired 34 = .ok (.aload_n 0, 1) := by decide +kernel
theorem dX6_paired_35 : decode cX6_paired 35 = .ok (.getfield 29, 3) := by decide +kernel
theorem dX6_paired_38 : decode cX6_paired 38 = .ok (.invokevirtual 134, 3) := by decide +kernel
theorem dX6_paired_41 : decode cX6_paired 41 = .ok (.aload_n 0, 1) := by decide +kernel
theorem dX6_paired_42 : decode cX6_paired 42 = .ok (.getfield 36, 3) := by decide +kernel
theorem dX6_paired_45 : decode cX6_paired 45 = .ok (.iload_n 2, 1) := by decide +kernel
theorem dX6_paired_46 : decode cX6_paired 46 = .ok (.invokevirtual 144, 3) := by decide +kernel
theorem dX6_paired_49 : decode cX6_paired 49 = .ok (.ireturn, 1) := by decide +kernel
set_option maxRecDepth 20000 in
theorem ggX6_mend_X6_rollOf : GoodIn wsX6_mend wsX6_rollOf := goodIn_r _ [7, 8, 9, 10, 11, 6, 12, 146, 147, 148, 149, 150, 151, 152] (by decide +kernel) (by decide +kernel)
set_option maxRecDepth 20000 in
theorem gX6_mend_X6_rollOf : GoodIn wsX6_mend (wsV RX6 55 RX6 yX6_rollOf wsX6_rollOf) := goodIn_app (goodIn_of _ (by decide +kernel)) ggX6_mend_X6_rollOf
set_option maxRecDepth 20000 in
theorem ggX6_mend_X0_reckon : GoodIn wsX6_mend wsX0_reckon := goodIn_r _ [17, 18, 19, 20, 21, 22, 23, 24, 25, 26, 27, 28, 29, 30, 31, 32, 33, 34, 35, 36, 37, 38, 39, 40, 41, 42, 43, 44, 45, 46, 16, 47, 48, 49, 50, 51, 52, 53, 54, 55, 56, 57, 58, 59, 60, 61, 62, 63, 64, 65, 66, 67, 68, 69, 70, 71, 72, 73, 74, 75, 76, 77, 78, 79, 80, 81, 82, 83, 84, 85, 153, 154, 155, 156, 157, 158, 159, 160, 161, 162, 163, 164, 165, 166, 167, 168, 169, 170, 171, 172] (by decide +kernel) (by decide +kernel)
set_option maxRecDepth 20000 in
theorem gX6_mend_X0_reckon : GoodIn wsX6_mend (wsV RX6 134 RX0 yX0_reckon wsX0_reckon) := goodIn_app (goodIn_of _ (by decide +kernel)) ggX6_mend_X0_reckon
set_option maxRecDepth 20000 in
theorem ggX6_mend_X0_repitch : GoodIn wsX6_mend wsX0_repitch := goodIn_r _ [89, 21, 81, 19, 20, 64, 65, 66, 41, 67, 68, 90, 91, 92, 25, 93, 94, 95, 96, 97, 37, 98, 27, 32, 99, 100, 101, 102, 103, 104, 11, 6, 12, 105, 106, 107, 108, 109, 110, 111, 112, 113, 114, 115, 116, 117, 118, 55, 119, 120, 54, 56, 121, 122, 123, 124, 125, 126, 127, 128, 129, 130, 131, 132, 133, 134, 135, 136, 137, 138, 139, 140, 141, 142, 143, 144, 145, 153, 154, 155, 156, 157, 158, 159, 160, 161, 170, 171, 172, 162, 163, 164, 165, 166, 167, 168, 169] (by decide +kernel) (by decide +kernel)
set_option maxRecDepth 20000 in
theorem gX6_mend_X0_repitch : GoodIn wsX6_mend (wsV RX6 147 RX0 yX0_repitch wsX0_repitch) := goodIn_app (goodIn_of _ (by decide +kernel)) ggX6_mend_X0_repitch
theorem dX6_mend_0 : decode cX6_mend 0 = .ok (.aload_n 0, 1) := by decide +kernel
theorem dX6_mend_1 : decode cX6_mend 1 = .ok (.iload_n 1, 1) := by decide +kernel
theorem dX6_mend_2 : decode cX6_mend 2 = .ok (.invokevirtual 55, 3) := by decide +kernel
theorem dX6_mend_5 : decode cX6_mend 5 = .ok (.astore_n 2, 1) := by decide +kernel
theorem dX6_mend_6 : decode cX6_mend 6 = .ok (.aload_n 2, 1) := by decide +kernel
theorem dX6_mend_7 : decode cX6_mend 7 = .ok (.ifnonnull 5, 3) := by decide +kernel
theorem dX6_mend_10 : decode cX6_mend 10 = .ok (.iconst (-1), 1) := by decide +kernel
theorem dX6_mend_11 : decode cX6_mend 11 = .ok (.ireturn, 1) := by decide +kernel
theorem dX6_mend_12 : decode cX6_mend 12 = .ok (.aload_n 0, 1) := by decide +kernel
theorem dX6_mend_13 : decode cX6_mend 13 = .ok (.getfield 36, 3) := by decide +kernel
theorem dX6_mend_16 : decode cX6_mend 16 = .ok (.aload_n 2, 1) := by decide +kernel
theorem dX6_mend_17 : decode cX6_mend 17 = .ok (.aload_n 0, 1) := by decide +kernel
theorem dX6_mend_18 : decode cX6_mend 18 = .ok (.getfield 29, 3) := by decide +kernel
theorem dX6_mend_21 : decode cX6_mend 21 = .ok (.invokevirtual 134, 3) := by decide +kernel
theorem dX6_mend_24 : decode cX6_mend 24 = .ok (.aload_n 0, 1) := by decide +kernel
theorem dX6_mend_25 : decode cX6_mend 25 = .ok (.getfield 36, 3) := by decide +kernel
theorem dX6_mend_28 : decode cX6_mend 28 = .ok (.aload_n 2, 1) := by decide +kernel
theorem dX6_mend_29 : decode cX6_mend 29 = .ok (.aload_n 0, 1) := by decide +kernel
theorem dX6_mend_30 : decode cX6_mend 30 = .ok (.getfield 29, 3) := by decide +kernel
theorem dX6_mend_33 : decode cX6_mend 33 = .ok (.invokevirtual 147, 3) := by decide +kernel
theorem dX6_mend_36 : decode cX6_mend 36 = .ok (.ireturn, 1) := by decide +kernel
set_option maxRecDepth 20000 in
theorem ggX6_sight_X6_isCopy : GoodIn wsX6_sight wsX6_isCopy := goodIn_r _ [5, 6, 7, 4, 8] (by decide +kernel) (by decide +kernel)
set_option maxRecDepth 20000 in
theorem gX6_sight_X6_isCopy : GoodIn wsX6_sight (va_wsS RX6 151 yX6_isCopy wsX6_isCopy) := goodIn_app (goodIn_of _ (by decide +kernel)) ggX6_sight_X6_isCopy
set_option maxRecDepth 20000 in
theorem ggX6_sight_X6_isPitch : GoodIn wsX6_sight wsX6_isPitch := goodIn_r _ [11, 6, 7, 4, 8] (by decide +kernel) (by decide +kernel)
set_option maxRecDepth 20000 in
theorem gX6_sight_X6_isPitch : GoodIn wsX6_sight (va_wsS RX6 59 yX6_isPitch wsX6_isPitch) := goodIn_app (goodIn_of _ (by decide +kernel)) ggX6_sight_X6_isPitch
set_option maxRecDepth 20000 in
theorem ggX6_sight_X3_see : GoodIn wsX6_sight wsX3_see := goodIn_r _ [16, 17, 18, 19, 20, 21, 22, 23, 24, 25, 26, 34, 35, 36] (by decide +kernel) (by decide +kernel)
set_option maxRecDepth 20000 in
theorem gX6_sight_X3_see : GoodIn wsX6_sight (wsV RX6 154 RX3 yX3_see wsX3_see) := goodIn_app (goodIn_of _ (by decide +kernel)) ggX6_sight_X3_see
theorem dX6_sight_0 : decode cX6_sight 0 = .ok (.iload_n 1, 1) := by decide +kernel
theorem dX6_sight_1 : decode cX6_sight 1 = .ok (.invokestatic 151, 3) := by decide +kernel
theorem dX6_sight_4 : decode cX6_sight 4 = .ok (.ifCond .eq 10, 3) := by decide +kernel
theorem dX6_sight_7 : decode cX6_sight 7 = .ok (.iload_n 2, 1) := by decide +kernel
theorem dX6_sight_8 : decode cX6_sight 8 = .ok (.invokestatic 59, 3) := by decide +kernel
theorem dX6_sight_11 : decode cX6_sight 11 = .ok (.ifCond .ne 5, 3) := by decide +kernel
theorem dX6_sight_14 : decode cX6_sight 14 = .ok (.iconst (-1), 1) := by decide +kernel
theorem dX6_sight_15 : decode cX6_sight 15 = .ok (.ireturn, 1) := by decide +kernel
theorem dX6_sight_16 : decode cX6_sight 16 = .ok (.aload_n 0, 1) := by decide +kernel
theorem dX6_sight_17 : decode cX6_sight 17 = .ok (.getfield 43, 3) := by decide +kernel
theorem dX6_sight_20 : decode cX6_sight 20 = .ok (.iload_n 1, 1) := by decide +kernel
theorem dX6_sight_21 : decode cX6_sight 21 = .ok (.iload_n 2, 1) := by decide +kernel
theorem dX6_sight_22 : decode cX6_sight 22 = .ok (.iload_n 3, 1) := by decide +kernel
theorem dX6_sight_23 : decode cX6_sight 23 = .ok (.invokevirtual 154, 3) := by decide +kernel
theorem dX6_sight_26 : decode cX6_sight 26 = .ok (.ireturn, 1) := by decide +kernel
set_option maxRecDepth 20000 in
theorem ggX6_since_X6_isPitch : GoodIn wsX6_since wsX6_isPitch := goodIn_r _ [5, 6, 7, 4, 8] (by decide +kernel) (by decide +kernel)
set_option maxRecDepth 20000 in
theorem gX6_since_X6_isPitch : GoodIn wsX6_since (va_wsS RX6 59 yX6_isPitch wsX6_isPitch) := goodIn_app (goodIn_of _ (by decide +kernel)) ggX6_since_X6_isPitch
set_option maxRecDepth 20000 in
theorem ggX6_since_X6_isWithin : GoodIn wsX6_since wsX6_isWithin := goodIn_r _ [8] (by decide +kernel) (by decide +kernel)
set_option maxRecDepth 20000 in
theorem gX6_since_X6_isWithin : GoodIn wsX6_since (va_wsS RX6 66 yX6_isWithin wsX6_isWithin) := goodIn_app (goodIn_of _ (by decide +kernel)) ggX6_since_X6_isWithin
set_option maxRecDepth 20000 in
theorem ggX6_since_X3_canBe : GoodIn wsX6_since wsX3_canBe := goodIn_r _ [13, 14, 15, 31, 32, 33] (by decide +kernel) (by decide +kernel)
set_option maxRecDepth 20000 in
theorem gX6_since_X3_canBe : GoodIn wsX6_since (wsV RX6 158 RX3 yX3_canBe wsX3_canBe) := goodIn_app (goodIn_of _ (by decide +kernel)) ggX6_since_X3_canBe
set_option maxRecDepth 20000 in
theorem ggX6_since_X3_leastOf : GoodIn wsX6_since wsX3_leastOf := goodIn_r _ [19, 14, 31, 32, 33] (by decide +kernel) (by decide +kernel)
set_option maxRecDepth 20000 in
theorem gX6_since_X3_leastOf : GoodIn wsX6_since (wsV RX6 161 RX3 yX3_leastOf wsX3_leastOf) := goodIn_app (goodIn_of _ (by decide +kernel)) ggX6_since_X3_leastOf
set_option maxRecDepth 20000 in
theorem ggX6_since_X3_greatestOf : GoodIn wsX6_since wsX3_greatestOf := goodIn_r _ [23, 15, 31, 32, 33] (by decide +kernel) (by decide +kernel)
set_option maxRecDepth 20000 in
theorem gX6_since_X3_greatestOf : GoodIn wsX6_since (wsV RX6 164 RX3 yX3_greatestOf wsX3_greatestOf) := goodIn_app (goodIn_of _ (by decide +kernel)) ggX6_since_X3_greatestOf
theorem dX6_since_0 : decode cX6_since 0 = .ok (.iload_n 1, 1) := by decide +kernel
theorem dX6_since_1 : decode cX6_since 1 = .ok (.invokestatic 59, 3) := by decide +kernel
theorem dX6_since_4 : decode cX6_since 4 = .ok (.ifCond .eq 23, 3) := by decide +kernel
theorem dX6_since_7 : decode cX6_since 7 = .ok (.iload_n 2, 1) := by decide +kernel
theorem dX6_since_8 : decode cX6_since 8 = .ok (.iconst 0, 1) := by decide +kernel
theorem dX6_since_9 : decode cX6_since 9 = .ok (.iconst 1, 1) := by decide +kernel
theorem dX6_since_10 : decode cX6_since 10 = .ok (.invokestatic 66, 3) := by decide +kernel
theorem dX6_since_13 : decode cX6_since 13 = .ok (.ifCond .eq 14, 3) := by decide +kernel
theorem dX6_since_16 : decode cX6_since 16 = .ok (.aload_n 0, 1) := by decide +kernel
theorem dX6_since_17 : decode cX6_since 17 = .ok (.getfield 43, 3) := by decide +kernel
theorem dX6_since_20 : decode cX6_since 20 = .ok (.iload_n 1, 1) := by decide +kernel
theorem dX6_since_21 : decode cX6_since 21 = .ok (.invokevirtual 158, 3) := by decide +kernel
theorem dX6_since_24 : decode cX6_since 24 = .ok (.ifCond .ne 5, 3) := by decide +kernel
theorem dX6_since_27 : decode cX6_since 27 = .ok (.iconst (-1), 1) := by decide +kernel
theorem dX6_since_28 : decode cX6_since 28 = .ok (.ireturn, 1) := by decide +kernel
theorem dX6_since_29 : decode cX6_since 29 = .ok (.iload_n 2, 1) := by decide +kernel
theorem dX6_since_30 : decode cX6_since 30 = .ok (.ifCond .ne 14, 3) := by decide +kernel
theorem dX6_since_33 : decode cX6_since 33 = .ok (.aload_n 0, 1) := by decide +kernel
theorem dX6_since_34 : decode cX6_since 34 = .ok (.getfield 43, 3) := by decide +kernel
theorem dX6_since_37 : decode cX6_since 37 = .ok (.iload_n 1, 1) := by decide +kernel
theorem dX6_since_38 : decode cX6_since 38 = .ok (.invokevirtual 161, 3) := by decide +kernel
theorem dX6_since_41 : decode cX6_since 41 = .ok (.goto 11, 3) := by decide +kernel
theorem dX6_since_44 : decode cX6_since 44 = .ok (.aload_n 0, 1) := by decide +kernel
theorem dX6_since_45 : decode cX6_since 45 = .ok (.getfield 43, 3) := by decide +kernel
theorem dX6_since_48 : decode cX6_since 48 = .ok (.iload_n 1, 1) := by decide +kernel
theorem dX6_since_49 : decode cX6_since 49 = .ok (.invokevirtual 164, 3) := by decide +kernel
theorem dX6_since_52 : decode cX6_since 52 = .ok (.ireturn, 1) := by decide +kernel
set_option maxRecDepth 20000 in
theorem ggX6_worn_X6_isCopy : GoodIn wsX6_worn wsX6_isCopy := goodIn_r _ [5, 6, 7, 4, 8] (by decide +kernel) (by decide +kernel)
set_option maxRecDepth 20000 in
theorem gX6_worn_X6_isCopy : GoodIn wsX6_worn (va_wsS RX6 151 yX6_isCopy wsX6_isCopy) := goodIn_app (goodIn_of _ (by decide +kernel)) ggX6_worn_X6_isCopy
set_option maxRecDepth 20000 in
theorem ggX6_worn_X6_isWithin : GoodIn wsX6_worn wsX6_isWithin := goodIn_r _ [8] (by decide +kernel) (by decide +kernel)
set_option maxRecDepth 20000 in
theorem gX6_worn_X6_isWithin : GoodIn wsX6_worn (va_wsS RX6 66 yX6_isWithin wsX6_isWithin) := goodIn_app (goodIn_of _ (by decide +kernel)) ggX6_worn_X6_isWithin
set_option maxRecDepth 20000 in
theorem ggX6_worn_X3_surelyWornBy : GoodIn wsX6_worn wsX3_surelyWornBy := goodIn_r _ [13, 14, 15, 16, 17, 12, 18, 19, 20, 21, 22, 23, 35, 36, 37] (by decide +kernel) (by decide +kernel)
set_option maxRecDepth 20000 in
theorem gX6_worn_X3_surelyWornBy : GoodIn wsX6_worn (wsV RX6 167 RX3 yX3_surelyWornBy wsX3_surelyWornBy) := goodIn_app (goodIn_of _ (by decide +kernel)) ggX6_worn_X3_surelyWornBy
set_option maxRecDepth 20000 in
theorem ggX6_worn_X3_perhapsWornBy : GoodIn wsX6_worn wsX3_perhapsWornBy := goodIn_r _ [27, 23, 15, 16, 17, 12, 18, 19, 20, 21, 22, 14, 35, 36, 37] (by decide +kernel) (by decide +kernel)
set_option maxRecDepth 20000 in
theorem gX6_worn_X3_perhapsWornBy : GoodIn wsX6_worn (wsV RX6 170 RX3 yX3_perhapsWornBy wsX3_perhapsWornBy) := goodIn_app (goodIn_of _ (by decide +kernel)) ggX6_worn_X3_perhapsWornBy
theorem dX6_worn_0 : decode cX6_worn 0 = .ok (.iload_n 1, 1) := by decide +kernel
theorem dX6_worn_1 : decode cX6_worn 1 = .ok (.invokestatic 151, 3) := by decide +kernel
theorem dX6_worn_4 : decode cX6_worn 4 = .ok (.ifCond .eq 12, 3) := by decide +kernel
theorem dX6_worn_7 : decode cX6_worn 7 = .ok (.iload_n 2, 1) := by decide +kernel
theorem dX6_worn_8 : decode cX6_worn 8 = .ok (.iconst 0, 1) := by decide +kernel
theorem dX6_worn_9 : decode cX6_worn 9 = .ok (.iconst 1, 1) := by decide +kernel
theorem dX6_worn_10 : decode cX6_worn 10 = .ok (.invokestatic 66, 3) := by decide +kernel
theorem dX6_worn_13 : decode cX6_worn 13 = .ok (.ifCond .ne 5, 3) := by decide +kernel
theorem dX6_worn_16 : decode cX6_worn 16 = .ok (.iconst (-1), 1) := by decide +kernel
theorem dX6_worn_17 : decode cX6_worn 17 = .ok (.ireturn, 1) := by decide +kernel
theorem dX6_worn_18 : decode cX6_worn 18 = .ok (.iload_n 2, 1) := by decide +kernel
theorem dX6_worn_19 : decode cX6_worn 19 = .ok (.ifCond .ne 14, 3) := by decide +kernel
theorem dX6_worn_22 : decode cX6_worn 22 = .ok (.aload_n 0, 1) := by decide +kernel
theorem dX6_worn_23 : decode cX6_worn 23 = .ok (.getfield 43, 3) := by decide +kernel
theorem dX6_worn_26 : decode cX6_worn 26 = .ok (.iload_n 1, 1) := by decide +kernel
theorem dX6_worn_27 : decode cX6_worn 27 = .ok (.invokevirtual 167, 3) := by decide +kernel
theorem dX6_worn_30 : decode cX6_worn 30 = .ok (.goto 11, 3) := by decide +kernel
theorem dX6_worn_33 : decode cX6_worn 33 = .ok (.aload_n 0, 1) := by decide +kernel
theorem dX6_worn_34 : decode cX6_worn 34 = .ok (.getfield 43, 3) := by decide +kernel
theorem dX6_worn_37 : decode cX6_worn 37 = .ok (.iload_n 1, 1) := by decide +kernel
theorem dX6_worn_38 : decode cX6_worn 38 = .ok (.invokevirtual 170, 3) := by decide +kernel
theorem dX6_worn_41 : decode cX6_worn 41 = .ok (.ireturn, 1) := by decide +kernel
set_option maxRecDepth 20000 in
theorem ggX6_line_X6_isCopy : GoodIn wsX6_line wsX6_isCopy := goodIn_r _ [5, 6, 7, 4, 8] (by decide +kernel) (by decide +kernel)
set_option maxRecDepth 20000 in
theorem gX6_line_X6_isCopy : GoodIn wsX6_line (va_wsS RX6 151 yX6_isCopy wsX6_isCopy) := goodIn_app (goodIn_of _ (by decide +kernel)) ggX6_line_X6_isCopy
set_option maxRecDepth 20000 in
theorem ggX6_line_X6_isDay : GoodIn wsX6_line wsX6_isDay := goodIn_r _ [11, 12, 6, 7, 4, 8] (by decide +kernel) (by decide +kernel)
set_option maxRecDepth 20000 in
theorem gX6_line_X6_isDay : GoodIn wsX6_line (va_wsS RX6 173 yX6_isDay wsX6_isDay) := goodIn_app (goodIn_of _ (by decide +kernel)) ggX6_line_X6_isDay
set_option maxRecDepth 20000 in
theorem ggX6_line_X6_isWithin : GoodIn wsX6_line wsX6_isWithin := goodIn_r _ [8] (by decide +kernel) (by decide +kernel)
set_option maxRecDepth 20000 in
theorem gX6_line_X6_isWithin : GoodIn wsX6_line (va_wsS RX6 66 yX6_isWithin wsX6_isWithin) := goodIn_app (goodIn_of _ (by decide +kernel)) ggX6_line_X6_isWithin
set_option maxRecDepth 20000 in
theorem ggX6_line_X2_tell : GoodIn wsX6_line wsX2_tell := goodIn_r _ [17, 18, 19, 20, 21, 22, 23, 31, 32, 33, 34, 35, 36, 37] (by decide +kernel) (by decide +kernel)
set_option maxRecDepth 20000 in
theorem gX6_line_X2_tell : GoodIn wsX6_line (wsV RX6 176 RX2 yX2_tell wsX2_tell) := goodIn_app (goodIn_of _ (by decide +kernel)) ggX6_line_X2_tell
theorem dX6_line_0 : decode cX6_line 0 = .ok (.iload_n 1, 1) := by decide +kernel
theorem dX6_line_1 : decode cX6_line 1 = .ok (.invokestatic 151, 3) := by decide +kernel
theorem dX6_line_4 : decode cX6_line 4 = .ok (.ifCond .eq 20, 3) := by decide +kernel
theorem dX6_line_7 : decode cX6_line 7 = .ok (.iload_n 2, 1) := by decide +kernel
theorem dX6_line_8 : decode cX6_line 8 = .ok (.invokestatic 173, 3) := by decide +kernel
theorem dX6_line_11 : decode cX6_line 11 = .ok (.ifCond .eq 13, 3) := by decide +kernel
theorem dX6_line_14 : decode cX6_line 14 = .ok (.iload_n 3, 1) := by decide +kernel
theorem dX6_line_15 : decode cX6_line 15 = .ok (.iconst 0, 1) := by decide +kernel
theorem dX6_line_16 : decode cX6_line 16 = .ok (.bipush 99, 2) := by decide +kernel
theorem dX6_line_18 : decode cX6_line 18 = .ok (.invokestatic 66, 3) := by decide +kernel
theorem dX6_line_21 : decode cX6_line 21 = .ok (.ifCond .ne 5, 3) := by decide +kernel
theorem dX6_line_24 : decode cX6_line 24 = .ok (.iconst (-1), 1) := by decide +kernel
theorem dX6_line_25 : decode cX6_line 25 = .ok (.ireturn, 1) := by decide +kernel
theorem dX6_line_26 : decode cX6_line 26 = .ok (.aload_n 0, 1) := by decide +kernel
theorem dX6_line_27 : decode cX6_line 27 = .ok (.getfield 50, 3) := by decide +kernel
theorem dX6_line_30 : decode cX6_line 30 = .ok (.iload_n 1, 1) := by decide +kernel
theorem dX6_line_31 : decode cX6_line 31 = .ok (.iload_n 2, 1) := by decide +kernel
theorem dX6_line_32 : decode cX6_line 32 = .ok (.iload_n 3, 1) := by decide +kernel
theorem dX6_line_33 : decode cX6_line 33 = .ok (.invokevirtual 176, 3) := by decide +kernel
theorem dX6_line_36 : decode cX6_line 36 = .ok (.ireturn, 1) := by decide +kernel
set_option maxRecDepth 20000 in
theorem ggX6_day_X6_isWithin : GoodIn wsX6_day wsX6_isWithin := goodIn_r _ [5] (by decide +kernel) (by decide +kernel)
set_option maxRecDepth 20000 in
theorem gX6_day_X6_isWithin : GoodIn wsX6_day (va_wsS RX6 66 yX6_isWithin wsX6_isWithin) := goodIn_app (goodIn_of _ (by decide +kernel)) ggX6_day_X6_isWithin
set_option maxRecDepth 20000 in
theorem ggX6_day_X2_letPass : GoodIn wsX6_day wsX2_letPass := goodIn_r _ [10, 11, 19, 20, 21, 22, 23, 24, 25] (by decide +kernel) (by decide +kernel)
set_option maxRecDepth 20000 in
theorem gX6_day_X2_letPass : GoodIn wsX6_day (wsV RX6 179 RX2 yX2_letPass wsX2_letPass) := goodIn_app (goodIn_of _ (by decide +kernel)) ggX6_day_X2_letPass
theorem dX6_day_0 : decode cX6_day 0 = .ok (.iload_n 1, 1) := by decide +kernel
theorem dX6_day_1 : decode cX6_day 1 = .ok (.iconst 0, 1) := by decide +kernel
theorem dX6_day_2 : decode cX6_day 2 = .ok (.sipush 1000, 3) := by decide +kernel
theorem dX6_day_5 : decode cX6_day 5 = .ok (.invokestatic 66, 3) := by decide +kernel
theorem dX6_day_8 : decode cX6_day 8 = .ok (.ifCond .eq 14, 3) := by decide +kernel
theorem dX6_day_11 : decode cX6_day 11 = .ok (.aload_n 0, 1) := by decide +kernel
theorem dX6_day_12 : decode cX6_day 12 = .ok (.getfield 50, 3) := by decide +kernel
theorem dX6_day_15 : decode cX6_day 15 = .ok (.iload_n 1, 1) := by decide +kernel
theorem dX6_day_16 : decode cX6_day 16 = .ok (.invokevirtual 179, 3) := by decide +kernel
theorem dX6_day_19 : decode cX6_day 19 = .ok (.goto 4, 3) := by decide +kernel
theorem dX6_day_22 : decode cX6_day 22 = .ok (.iconst (-1), 1) := by decide +kernel
theorem dX6_day_23 : decode cX6_day 23 = .ok (.ireturn, 1) := by decide +kernel
set_option maxRecDepth 20000 in
theorem ggX6_there_X6_isWithin : GoodIn wsX6_there wsX6_isWithin := goodIn_r _ [5] (by decide +kernel) (by decide +kernel)
set_option maxRecDepth 20000 in
theorem gX6_there_X6_isWithin : GoodIn wsX6_there (va_wsS RX6 66 yX6_isWithin wsX6_isWithin) := goodIn_app (goodIn_of _ (by decide +kernel)) ggX6_there_X6_isWithin
set_option maxRecDepth 20000 in
theorem ggX6_there_X6_areDays : GoodIn wsX6_there wsX6_areDays := goodIn_r _ [9, 1, 10, 11, 4, 12, 13, 2, 3, 5, 14, 15, 16, 17, 18, 19, 38, 39, 40, 41, 42, 43, 44, 45, 46, 47, 48, 49, 50, 51] (by decide +kernel) (by decide +kernel)
set_option maxRecDepth 20000 in
theorem gX6_there_X6_areDays : GoodIn wsX6_there (wsV RX6 182 RX6 yX6_areDays wsX6_areDays) := goodIn_app (goodIn_of _ (by decide +kernel)) ggX6_there_X6_areDays
set_option maxRecDepth 20000 in
theorem ggX6_there_X2_copiesIn : GoodIn wsX6_there wsX2_copiesIn := goodIn_r _ [23, 24, 25, 26, 27, 28, 29, 30, 17, 31, 32, 33, 34, 35, 36, 37, 45, 46, 47, 48, 49, 50, 51] (by decide +kernel) (by decide +kernel)
set_option maxRecDepth 20000 in
theorem gX6_there_X2_copiesIn : GoodIn wsX6_there (wsV RX6 196 RX2 yX2_copiesIn wsX2_copiesIn) := goodIn_app (goodIn_of _ (by decide +kernel)) ggX6_there_X2_copiesIn
theorem dX6_there_0 : decode cX6_there 0 = .ok (.iload_n 1, 1) := by decide +kernel
theorem dX6_there_1 : decode cX6_there 1 = .ok (.iconst 1, 1) := by decide +kernel
theorem dX6_there_2 : decode cX6_there 2 = .ok (.bipush 99, 2) := by decide +kernel
theorem dX6_there_4 : decode cX6_there 4 = .ok (.invokestatic 66, 3) := by decide +kernel
theorem dX6_there_7 : decode cX6_there 7 = .ok (.ifCond .eq 12, 3) := by decide +kernel
theorem dX6_there_10 : decode cX6_there 10 = .ok (.aload_n 0, 1) := by decide +kernel
theorem dX6_there_11 : decode cX6_there 11 = .ok (.iload_n 2, 1) := by decide +kernel
theorem dX6_there_12 : decode cX6_there 12 = .ok (.iload_n 3, 1) := by decide +kernel
theorem dX6_there_13 : decode cX6_there 13 = .ok (.invokevirtual 182, 3) := by decide +kernel
theorem dX6_there_16 : decode cX6_there 16 = .ok (.ifCond .ne 5, 3) := by decide +kernel
theorem dX6_there_19 : decode cX6_there 19 = .ok (.iconst (-1), 1) := by decide +kernel
theorem dX6_there_20 : decode cX6_there 20 = .ok (.ireturn, 1) := by decide +kernel
theorem dX6_there_21 : decode cX6_there 21 = .ok (.aload_n 0, 1) := by decide +kernel
theorem dX6_there_22 : decode cX6_there 22 = .ok (.getfield 50, 3) := by decide +kernel
theorem dX6_there_25 : decode cX6_there 25 = .ok (.iload_n 1, 1) := by decide +kernel
theorem dX6_there_26 : decode cX6_there 26 = .ok (.iload_n 2, 1) := by decide +kernel
theorem dX6_there_27 : decode cX6_there 27 = .ok (.iload_n 3, 1) := by decide +kernel
theorem dX6_there_28 : decode cX6_there 28 = .ok (.invokevirtual 196, 3) := by decide +kernel
theorem dX6_there_31 : decode cX6_there 31 = .ok (.ireturn, 1) := by decide +kernel
set_option maxRecDepth 20000 in
theorem ggX6_count_X5_size : GoodIn wsX6_count wsX5_size := goodIn_r _ [9, 10, 59, 60, 61] (by decide +kernel) (by decide +kernel)
set_option maxRecDepth 20000 in
theorem gX6_count_X5_size : GoodIn wsX6_count (wsV RX6 141 RX5 yX5_size wsX5_size) := goodIn_app (goodIn_of _ (by decide +kernel)) ggX6_count_X5_size
set_option maxRecDepth 20000 in
theorem ggX6_count_X3_sightCount : GoodIn wsX6_count wsX3_sightCount := goodIn_r _ [15, 16, 62, 63, 64] (by decide +kernel) (by decide +kernel)
set_option maxRecDepth 20000 in
theorem gX6_count_X3_sightCount : GoodIn wsX6_count (wsV RX6 199 RX3 yX3_sightCount wsX3_sightCount) := goodIn_app (goodIn_of _ (by decide +kernel)) ggX6_count_X3_sightCount
set_option maxRecDepth 20000 in
theorem ggX6_count_X2_lineCount : GoodIn wsX6_count wsX2_lineCount := goodIn_r _ [21, 22, 65, 66, 67, 68, 69, 70, 71] (by decide +kernel) (by decide +kernel)
set_option maxRecDepth 20000 in
theorem gX6_count_X2_lineCount : GoodIn wsX6_count (wsV RX6 202 RX2 yX2_lineCount wsX2_lineCount) := goodIn_app (goodIn_of _ (by decide +kernel)) ggX6_count_X2_lineCount
set_option maxRecDepth 20000 in
theorem ggX6_count_X2_today : GoodIn wsX6_count wsX2_today := goodIn_r _ [26, 27, 65, 66, 67, 68, 69, 70, 71] (by decide +kernel) (by decide +kernel)
set_option maxRecDepth 20000 in
theorem gX6_count_X2_today : GoodIn wsX6_count (wsV RX6 205 RX2 yX2_today wsX2_today) := goodIn_app (goodIn_of _ (by decide +kernel)) ggX6_count_X2_today
set_option maxRecDepth 20000 in
theorem ggX6_count_X6_countOfRoll : GoodIn wsX6_count wsX6_countOfRoll := goodIn_r _ [32, 33, 34, 31, 35, 36, 37, 38, 39, 1, 40, 41, 42, 43, 44, 45, 46, 47, 48, 49, 50, 51, 52, 53, 54, 55, 56, 57, 58, 72, 73, 74, 75, 76, 77, 78, 79] (by decide +kernel) (by decide +kernel)
set_option maxRecDepth 20000 in
theorem gX6_count_X6_countOfRoll : GoodIn wsX6_count (wsV RX6 208 RX6 yX6_countOfRoll wsX6_countOfRoll) := goodIn_app (goodIn_of _ (by decide +kernel)) ggX6_count_X6_countOfRoll
theorem dX6_count_0 : decode cX6_count 0 = .ok (.iload_n 1, 1) := by decide +kernel
theorem dX6_count_1 : decode cX6_count 1 = .ok (.tableswitch 72 0 4 #[35, 40, 48, 56, 64], 35) := by decide +kernel
theorem dX6_count_36 : decode cX6_count 36 = .ok (.aload_n 0, 1) := by decide +kernel
theorem dX6_count_37 : decode cX6_count 37 = .ok (.getfield 15, 3) := by decide +kernel
theorem dX6_count_40 : decode cX6_count 40 = .ok (.ireturn, 1) := by decide +kernel
theorem dX6_count_41 : decode cX6_count 41 = .ok (.aload_n 0, 1) := by decide +kernel
theorem dX6_count_42 : decode cX6_count 42 = .ok (.getfield 29, 3) := by decide +kernel
theorem dX6_count_45 : decode cX6_count 45 = .ok (.invokevirtual 141, 3) := by decide +kernel
theorem dX6_count_48 : decode cX6_count 48 = .ok (.ireturn, 1) := by decide +kernel
theorem dX6_count_49 : decode cX6_count 49 = .ok (.aload_n 0, 1) := by decide +kernel
theorem dX6_count_50 : decode cX6_count 50 = .ok (.getfield 43, 3) := by decide +kernel
theorem dX6_count_53 : decode cX6_count 53 = .ok (.invokevirtual 199, 3) := by decide +kernel
theorem dX6_count_56 : decode cX6_count 56 = .ok (.ireturn, 1) := by decide +kernel
theorem dX6_count_57 : decode cX6_count 57 = .ok (.aload_n 0, 1) := by decide +kernel
theorem dX6_count_58 : decode cX6_count 58 = .ok (.getfield 50, 3) := by decide +kernel
theorem dX6_count_61 : decode cX6_count 61 = .ok (.invokevirtual 202, 3) := by decide +kernel
theorem dX6_count_64 : decode cX6_count 64 = .ok (.ireturn, 1) := by decide +kernel
theorem dX6_count_65 : decode cX6_count 65 = .ok (.aload_n 0, 1) := by decide +kernel
theorem dX6_count_66 : decode cX6_count 66 = .ok (.getfield 50, 3) := by decide +kernel
theorem dX6_count_69 : decode cX6_count 69 = .ok (.invokevirtual 205, 3) := by decide +kernel
theorem dX6_count_72 : decode cX6_count 72 = .ok (.ireturn, 1) := by decide +kernel
theorem dX6_count_73 : decode cX6_count 73 = .ok (.aload_n 0, 1) := by decide +kernel
theorem dX6_count_74 : decode cX6_count 74 = .ok (.iload_n 1, 1) := by decide +kernel
theorem dX6_count_75 : decode cX6_count 75 = .ok (.invokevirtual 208, 3) := by decide +kernel
theorem dX6_count_78 : decode cX6_count 78 = .ok (.ireturn, 1) := by decide +kernel
set_option maxRecDepth 20000 in
theorem ggX6_countOfRoll_X6_isWithin : GoodIn wsX6_countOfRoll wsX6_isWithin := goodIn_r _ [4] (by decide +kernel) (by decide +kernel)
set_option maxRecDepth 20000 in
theorem gX6_countOfRoll_X6_isWithin : GoodIn wsX6_countOfRoll (va_wsS RX6 66 yX6_isWithin wsX6_isWithin) := goodIn_app (goodIn_of _ (by decide +kernel)) ggX6_countOfRoll_X6_isWithin
set_option maxRecDepth 20000 in
theorem ggX6_countOfRoll_X6_rollOf : GoodIn wsX6_countOfRoll wsX6_rollOf := goodIn_r _ [8, 9, 10, 1, 2, 3, 4, 22, 23, 24, 25, 26, 27, 28] (by decide +kernel) (by decide +kernel)
set_option maxRecDepth 20000 in
theorem gX6_countOfRoll_X6_rollOf : GoodIn wsX6_countOfRoll (wsV RX6 55 RX6 yX6_rollOf wsX6_rollOf) := goodIn_app (goodIn_of _ (by decide +kernel)) ggX6_countOfRoll_X6_rollOf
set_option maxRecDepth 20000 in
theorem ggX6_countOfRoll_X4_markCount : GoodIn wsX6_countOfRoll wsX4_markCount := goodIn_r _ [15, 16, 29, 30, 31, 32, 33, 34, 35, 36] (by decide +kernel) (by decide +kernel)
set_option maxRecDepth 20000 in
theorem gX6_countOfRoll_X4_markCount : GoodIn wsX6_countOfRoll (wsV RX6 211 RX4 yX4_markCount wsX4_markCount) := goodIn_app (goodIn_of _ (by decide +kernel)) ggX6_countOfRoll_X4_markCount
set_option maxRecDepth 20000 in
theorem ggX6_countOfRoll_X4_noteCount : GoodIn wsX6_countOfRoll wsX4_noteCount := goodIn_r _ [20, 21, 29, 30, 31, 32, 33, 34, 35, 36] (by decide +kernel) (by decide +kernel)
set_option maxRecDepth 20000 in
theorem gX6_countOfRoll_X4_noteCount : GoodIn wsX6_countOfRoll (wsV RX6 70 RX4 yX4_noteCount wsX4_noteCount) := goodIn_app (goodIn_of _ (by decide +kernel)) ggX6_countOfRoll_X4_noteCount
theorem dX6_countOfRoll_0 : decode cX6_countOfRoll 0 = .ok (.iload_n 1, 1) := by decide +kernel
theorem dX6_countOfRoll_1 : decode cX6_countOfRoll 1 = .ok (.bipush 20, 2) := by decide +kernel
theorem dX6_countOfRoll_3 : decode cX6_countOfRoll 3 = .ok (.bipush 25, 2) := by decide +kernel
theorem dX6_countOfRoll_5 : decode cX6_countOfRoll 5 = .ok (.invokestatic 66, 3) := by decide +kernel
theorem dX6_countOfRoll_8 : decode cX6_countOfRoll 8 = .ok (.ifCond .eq 25, 3) := by decide +kernel
theorem dX6_countOfRoll_11 : decode cX6_countOfRoll 11 = .ok (.aload_n 0, 1) := by decide +kernel
theorem dX6_countOfRoll_12 : decode cX6_countOfRoll 12 = .ok (.iload_n 1, 1) := by decide +kernel
theorem dX6_countOfRoll_13 : decode cX6_countOfRoll 13 = .ok (.bipush 20, 2) := by decide +kernel
theorem dX6_countOfRoll_15 : decode cX6_countOfRoll 15 = .ok (.isub, 1) := by decide +kernel
theorem dX6_countOfRoll_16 : decode cX6_countOfRoll 16 = .ok (.invokevirtual 55, 3) := by decide +kernel
theorem dX6_countOfRoll_19 : decode cX6_countOfRoll 19 = .ok (.astore_n 2, 1) := by decide +kernel
theorem dX6_countOfRoll_20 : decode cX6_countOfRoll 20 = .ok (.aload_n 2, 1) := by decide +kernel
theorem dX6_countOfRoll_21 : decode cX6_countOfRoll 21 = .ok (.ifnonnull 7, 3) := by decide +kernel
theorem dX6_countOfRoll_24 : decode cX6_countOfRoll 24 = .ok (.iconst (-1), 1) := by decide +kernel
theorem dX6_countOfRoll_25 : decode cX6_countOfRoll 25 = .ok (.goto 7, 3) := by decide +kernel
theorem dX6_countOfRoll_28 : decode cX6_countOfRoll 28 = .ok (.aload_n 2, 1) := by decide +kernel
theorem dX6_countOfRoll_29 : decode cX6_countOfRoll 29 = .ok (.invokevirtual 211, 3) := by decide +kernel
theorem dX6_countOfRoll_32 : decode cX6_countOfRoll 32 = .ok (.ireturn, 1) := by decide +kernel
theorem dX6_countOfRoll_33 : decode cX6_countOfRoll 33 = .ok (.iload_n 1, 1) := by decide +kernel
theorem dX6_countOfRoll_34 : decode cX6_countOfRoll 34 = .ok (.bipush 10, 2) := by decide +kernel
theorem dX6_countOfRoll_36 : decode cX6_countOfRoll 36 = .ok (.bipush 15, 2) := by decide +kernel
theorem dX6_countOfRoll_38 : decode cX6_countOfRoll 38 = .ok (.invokestatic 66, 3) := by decide +kernel
theorem dX6_countOfRoll_41 : decode cX6_countOfRoll 41 = .ok (.ifCond .eq 25, 3) := by decide +kernel
theorem dX6_countOfRoll_44 : decode cX6_countOfRoll 44 = .ok (.aload_n 0, 1) := by decide +kernel
theorem dX6_countOfRoll_45 : decode cX6_countOfRoll 45 = .ok (.iload_n 1, 1) := by decide +kernel
theorem dX6_countOfRoll_46 : decode cX6_countOfRoll 46 = .ok (.bipush 10, 2) := by decide +kernel
theorem dX6_countOfRoll_48 : decode cX6_countOfRoll 48 = .ok (.isub, 1) := by decide +kernel
theorem dX6_countOfRoll_49 : decode cX6_countOfRoll 49 = .ok (.invokevirtual 55, 3) := by decide +kernel
theorem dX6_countOfRoll_52 : decode cX6_countOfRoll 52 = .ok (.astore_n 2, 1) := by decide +kernel
theorem dX6_countOfRoll_53 : decode cX6_countOfRoll 53 = .ok (.aload_n 2, 1) := by decide +kernel
theorem dX6_countOfRoll_54 : decode cX6_countOfRoll 54 = .ok (.ifnonnull 7, 3) := by decide +kernel
theorem dX6_countOfRoll_57 : decode cX6_countOfRoll 57 = .ok (.iconst (-1), 1) := by decide +kernel
theorem dX6_countOfRoll_58 : decode cX6_countOfRoll 58 = .ok (.goto 7, 3) := by decide +kernel
theorem dX6_countOfRoll_61 : decode cX6_countOfRoll 61 = .ok (.aload_n 2, 1) := by decide +kernel
theorem dX6_countOfRoll_62 : decode cX6_countOfRoll 62 = .ok (.invokevirtual 70, 3) := by decide +kernel
theorem dX6_countOfRoll_65 : decode cX6_countOfRoll 65 = .ok (.ireturn, 1) := by decide +kernel
theorem dX6_countOfRoll_66 : decode cX6_countOfRoll 66 = .ok (.iconst (-1), 1) := by decide +kernel
theorem dX6_countOfRoll_67 : decode cX6_countOfRoll 67 = .ok (.ireturn, 1) := by decide +kernel
set_option maxRecDepth 20000 in
theorem ggX6_playsTo_X6_rollOf : GoodIn wsX6_playsTo wsX6_rollOf := goodIn_r _ [6, 7, 8, 9, 10, 5, 11, 48, 49, 50, 51, 52, 53, 54] (by decide +kernel) (by decide +kernel)
set_option maxRecDepth 20000 in
theorem gX6_playsTo_X6_rollOf : GoodIn wsX6_playsTo (wsV RX6 55 RX6 yX6_rollOf wsX6_rollOf) := goodIn_app (goodIn_of _ (by decide +kernel)) ggX6_playsTo_X6_rollOf
set_option maxRecDepth 20000 in
theorem ggX6_playsTo_X6_isPedal : GoodIn wsX6_playsTo wsX6_isPedal := goodIn_r _ [14, 9, 10, 5, 11] (by decide +kernel) (by decide +kernel)
set_option maxRecDepth 20000 in
theorem gX6_playsTo_X6_isPedal : GoodIn wsX6_playsTo (va_wsS RX6 107 yX6_isPedal wsX6_isPedal) := goodIn_app (goodIn_of _ (by decide +kernel)) ggX6_playsTo_X6_isPedal
set_option maxRecDepth 20000 in
theorem ggX6_playsTo_X1_playTo : GoodIn wsX6_playsTo wsX1_playTo := goodIn_r _ [19, 20, 21, 22, 23, 24, 25, 26, 27, 28, 29, 30, 31, 32, 33, 34, 35, 36, 37, 38, 39, 40, 41, 42, 43, 44, 45, 46, 47, 55, 56, 57, 58, 59, 60, 61, 62, 63, 64, 65] (by decide +kernel) (by decide +kernel)
set_option maxRecDepth 20000 in
theorem gX6_playsTo_X1_playTo : GoodIn wsX6_playsTo (wsV RX6 214 RX1 yX1_playTo wsX1_playTo) := goodIn_app (goodIn_of _ (by decide +kernel)) ggX6_playsTo_X1_playTo
theorem dX6_playsTo_0 : decode cX6_playsTo 0 = .ok (.aload_n 0, 1) := by decide +kernel
theorem dX6_playsTo_1 : decode cX6_playsTo 1 = .ok (.iload_n 1, 1) := by decide +kernel
theorem dX6_playsTo_2 : decode cX6_playsTo 2 = .ok (.invokevirtual 55, 3) := by decide +kernel
theorem dX6_playsTo_5 : decode cX6_playsTo 5 = .ok (.astore 4, 2) := by decide +kernel
theorem dX6_playsTo_7 : decode cX6_playsTo 7 = .ok (.aload 4, 2) := by decide +kernel
theorem dX6_playsTo_9 : decode cX6_playsTo 9 = .ok (.ifnull 32, 3) := by decide +kernel
theorem dX6_playsTo_12 : decode cX6_playsTo 12 = .ok (.iload_n 2, 1) := by decide +kernel
theorem dX6_playsTo_13 : decode cX6_playsTo 13 = .ok (.invokestatic 107, 3) := by decide +kernel
theorem dX6_playsTo_16 : decode cX6_playsTo 16 = .ok (.ifCond .eq 25, 3) := by decide +kernel
theorem dX6_playsTo_19 : decode cX6_playsTo 19 = .ok (.iload_n 3, 1) := by decide +kernel
theorem dX6_playsTo_20 : decode cX6_playsTo 20 = .ok (.ifCond .lt 21, 3) := by decide +kernel
theorem dX6_playsTo_23 : decode cX6_playsTo 23 = .ok (.aload_n 0, 1) := by decide +kernel
theorem dX6_playsTo_24 : decode cX6_playsTo 24 = .ok (.getfield 22, 3) := by decide +kernel
theorem dX6_playsTo_27 : decode cX6_playsTo 27 = .ok (.aload 4, 2) := by decide +kernel
theorem dX6_playsTo_29 : decode cX6_playsTo 29 = .ok (.iload_n 2, 1) := by decide +kernel
theorem dX6_playsTo_30 : decode cX6_playsTo 30 = .ok (.iload_n 3, 1) := by decide +kernel
theorem dX6_playsTo_31 : decode cX6_playsTo 31 = .ok (.invokevirtual 214, 3) := by decide +kernel
theorem dX6_playsTo_34 : decode cX6_playsTo 34 = .ok (.ifCond .eq 7, 3) := by decide +kernel
theorem dX6_playsTo_37 : decode cX6_playsTo 37 = .ok (.iconst 1, 1) := by decide +kernel
theorem dX6_playsTo_38 : decode cX6_playsTo 38 = .ok (.goto 4, 3) := by decide +kernel
theorem dX6_playsTo_41 : decode cX6_playsTo 41 = .ok (.iconst 0, 1) := by decide +kernel
theorem dX6_playsTo_42 : decode cX6_playsTo 42 = .ok (.ireturn, 1) := by decide +kernel
set_option maxRecDepth 20000 in
theorem ggX6_rollOf_X6_isWithin : GoodIn wsX6_rollOf wsX6_isWithin := goodIn_r _ [6] (by decide +kernel) (by decide +kernel)
set_option maxRecDepth 20000 in
theorem gX6_rollOf_X6_isWithin : GoodIn wsX6_rollOf (va_wsS RX6 66 yX6_isWithin wsX6_isWithin) := goodIn_app (goodIn_of _ (by decide +kernel)) ggX6_rollOf_X6_isWithin
theorem dX6_rollOf_0 : decode cX6_rollOf 0 = .ok (.iload_n 1, 1) := by decide +kernel
theorem dX6_rollOf_1 : decode cX6_rollOf 1 = .ok (.iconst 0, 1) := by decide +kernel
theorem dX6_rollOf_2 : decode cX6_rollOf 2 = .ok (.aload_n 0, 1) := by decide +kernel
theorem dX6_rollOf_3 : decode cX6_rollOf 3 = .ok (.getfield 15, 3) := by decide +kernel
theorem dX6_rollOf_6 : decode cX6_rollOf 6 = .ok (.iconst 1, 1) := by decide +kernel
theorem dX6_rollOf_7 : decode cX6_rollOf 7 = .ok (.isub, 1) := by decide +kernel
theorem dX6_rollOf_8 : decode cX6_rollOf 8 = .ok (.invokestatic 66, 3) := by decide +kernel
theorem dX6_rollOf_11 : decode cX6_rollOf 11 = .ok (.ifCond .eq 12, 3) := by decide +kernel
theorem dX6_rollOf_14 : decode cX6_rollOf 14 = .ok (.aload_n 0, 1) := by decide +kernel
theorem dX6_rollOf_15 : decode cX6_rollOf 15 = .ok (.getfield 11, 3) := by decide +kernel
theorem dX6_rollOf_18 : decode cX6_rollOf 18 = .ok (.iload_n 1, 1) := by decide +kernel
theorem dX6_rollOf_19 : decode cX6_rollOf 19 = .ok (.aaload, 1) := by decide +kernel
theorem dX6_rollOf_20 : decode cX6_rollOf 20 = .ok (.goto 4, 3) := by decide +kernel
theorem dX6_rollOf_23 : decode cX6_rollOf 23 = .ok (.aconst_null, 1) := by decide +kernel
theorem dX6_rollOf_24 : decode cX6_rollOf 24 = .ok (.areturn, 1) := by decide +kernel
set_option maxRecDepth 20000 in
theorem ggX6_areDays_X6_isDay : GoodIn wsX6_areDays wsX6_isDay := goodIn_r _ [5, 6, 7, 8, 4, 9] (by decide +kernel) (by decide +kernel)
set_option maxRecDepth 20000 in
theorem gX6_areDays_X6_isDay : GoodIn wsX6_areDays (va_wsS RX6 173 yX6_isDay wsX6_isDay) := goodIn_app (goodIn_of _ (by decide +kernel)) ggX6_areDays_X6_isDay
set_option maxRecDepth 20000 in
theorem ggX6_areDays_X2_today : GoodIn wsX6_areDays wsX2_today := goodIn_r _ [14, 15, 23, 24, 25, 26, 27, 28, 29] (by decide +kernel) (by decide +kernel)
set_option maxRecDepth 20000 in
theorem gX6_areDays_X2_today : GoodIn wsX6_areDays (wsV RX6 205 RX2 yX2_today wsX2_today) := goodIn_app (goodIn_of _ (by decide +kernel)) ggX6_areDays_X2_today
theorem dX6_areDays_0 : decode cX6_areDays 0 = .ok (.iload_n 1, 1) := by decide +kernel
theorem dX6_areDays_1 : decode cX6_areDays 1 = .ok (.invokestatic 173, 3) := by decide +kernel
theorem dX6_areDays_4 : decode cX6_areDays 4 = .ok (.ifCond .eq 25, 3) := by decide +kernel
theorem dX6_areDays_7 : decode cX6_areDays 7 = .ok (.iload_n 2, 1) := by decide +kernel
theorem dX6_areDays_8 : decode cX6_areDays 8 = .ok (.invokestatic 173, 3) := by decide +kernel
theorem dX6_areDays_11 : decode cX6_areDays 11 = .ok (.ifCond .eq 18, 3) := by decide +kernel
theorem dX6_areDays_14 : decode cX6_areDays 14 = .ok (.iload_n 2, 1) := by decide +kernel
theorem dX6_areDays_15 : decode cX6_areDays 15 = .ok (.aload_n 0, 1) := by decide +kernel
theorem dX6_areDays_16 : decode cX6_areDays 16 = .ok (.getfield 50, 3) := by decide +kernel
theorem dX6_areDays_19 : decode cX6_areDays 19 = .ok (.invokevirtual 205, 3) := by decide +kernel
theorem dX6_areDays_22 : decode cX6_areDays 22 = .ok (.if_icmp .gt 7, 3) := by decide +kernel
theorem dX6_areDays_25 : decode cX6_areDays 25 = .ok (.iconst 1, 1) := by decide +kernel
theorem dX6_areDays_26 : decode cX6_areDays 26 = .ok (.goto 4, 3) := by decide +kernel
theorem dX6_areDays_29 : decode cX6_areDays 29 = .ok (.iconst 0, 1) := by decide +kernel
theorem dX6_areDays_30 : decode cX6_areDays 30 = .ok (.ireturn, 1) := by decide +kernel
set_option maxRecDepth 20000 in
theorem ggX6_isPitch_X6_isWithin : GoodIn wsX6_isPitch wsX6_isWithin := goodIn_r _ [4] (by decide +kernel) (by decide +kernel)
set_option maxRecDepth 20000 in
theorem gX6_isPitch_X6_isWithin : GoodIn wsX6_isPitch (va_wsS RX6 66 yX6_isWithin wsX6_isWithin) := goodIn_app (goodIn_of _ (by decide +kernel)) ggX6_isPitch_X6_isWithin
theorem dX6_isPitch_0 : decode cX6_isPitch 0 = .ok (.iload_n 0, 1) := by decide +kernel
theorem dX6_isPitch_1 : decode cX6_isPitch 1 = .ok (.iconst 0, 1) := by decide +kernel
theorem dX6_isPitch_2 : decode cX6_isPitch 2 = .ok (.bipush 23, 2) := by decide +kernel
theorem dX6_isPitch_4 : decode cX6_isPitch 4 = .ok (.invokestatic 66, 3) := by decide +kernel
theorem dX6_isPitch_7 : decode cX6_isPitch 7 = .ok (.ireturn, 1) := by decide +kernel
set_option maxRecDepth 20000 in
theorem ggX6_isStep_X6_isWithin : GoodIn wsX6_isStep wsX6_isWithin := goodIn_r _ [4] (by decide +kernel) (by decide +kernel)
set_option maxRecDepth 20000 in
theorem gX6_isStep_X6_isWithin : GoodIn wsX6_isStep (va_wsS RX6 66 yX6_isWithin wsX6_isWithin) := goodIn_app (goodIn_of _ (by decide +kernel)) ggX6_isStep_X6_isWithin
theorem dX6_isStep_0 : decode cX6_isStep 0 = .ok (.iload_n 0, 1) := by decide +kernel
theorem dX6_isStep_1 : decode cX6_isStep 1 = .ok (.iconst 0, 1) := by decide +kernel
theorem dX6_isStep_2 : decode cX6_isStep 2 = .ok (.sipush 299, 3) := by decide +kernel
theorem dX6_isStep_5 : decode cX6_isStep 5 = .ok (.invokestatic 66, 3) := by decide +kernel
theorem dX6_isStep_8 : decode cX6_isStep 8 = .ok (.ireturn, 1) := by decide +kernel
set_option maxRecDepth 20000 in
theorem ggX6_isPedal_X6_isWithin : GoodIn wsX6_isPedal wsX6_isWithin := goodIn_r _ [4] (by decide +kernel) (by decide +kernel)
set_option maxRecDepth 20000 in
theorem gX6_isPedal_X6_isWithin : GoodIn wsX6_isPedal (va_wsS RX6 66 yX6_isWithin wsX6_isWithin) := goodIn_app (goodIn_of _ (by decide +kernel)) ggX6_isPedal_X6_isWithin
theorem dX6_isPedal_0 : decode cX6_isPedal 0 = .ok (.iload_n 0, 1) := by decide +kernel
theorem dX6_isPedal_1 : decode cX6_isPedal 1 = .ok (.iconst 0, 1) := by decide +kernel
theorem dX6_isPedal_2 : decode cX6_isPedal 2 = .ok (.bipush 20, 2) := by decide +kernel
theorem dX6_isPedal_4 : decode cX6_isPedal 4 = .ok (.invokestatic 66, 3) := by decide +kernel
theorem dX6_isPedal_7 : decode cX6_isPedal 7 = .ok (.ireturn, 1) := by decide +kernel
set_option maxRecDepth 20000 in
theorem ggX6_isCopy_X6_isWithin : GoodIn wsX6_isCopy wsX6_isWithin := goodIn_r _ [4] (by decide +kernel) (by decide +kernel)
set_option maxRecDepth 20000 in
theorem gX6_isCopy_X6_isWithin : GoodIn wsX6_isCopy (va_wsS RX6 66 yX6_isWithin wsX6_isWithin) := goodIn_app (goodIn_of _ (by decide +kernel)) ggX6_isCopy_X6_isWithin
theorem dX6_isCopy_0 : decode cX6_isCopy 0 = .ok (.iload_n 0, 1) := by decide +kernel
theorem dX6_isCopy_1 : decode cX6_isCopy 1 = .ok (.iconst 1, 1) := by decide +kernel
theorem dX6_isCopy_2 : decode cX6_isCopy 2 = .ok (.sipush 1000, 3) := by decide +kernel
theorem dX6_isCopy_5 : decode cX6_isCopy 5 = .ok (.invokestatic 66, 3) := by decide +kernel
theorem dX6_isCopy_8 : decode cX6_isCopy 8 = .ok (.ireturn, 1) := by decide +kernel
set_option maxRecDepth 20000 in
theorem ggX6_isDay_X6_isWithin : GoodIn wsX6_isDay wsX6_isWithin := goodIn_r _ [5] (by decide +kernel) (by decide +kernel)
set_option maxRecDepth 20000 in
theorem gX6_isDay_X6_isWithin : GoodIn wsX6_isDay (va_wsS RX6 66 yX6_isWithin wsX6_isWithin) := goodIn_app (goodIn_of _ (by decide +kernel)) ggX6_isDay_X6_isWithin
theorem dX6_isDay_0 : decode cX6_isDay 0 = .ok (.iload_n 0, 1) := by decide +kernel
theorem dX6_isDay_1 : decode cX6_isDay 1 = .ok (.iconst 0, 1) := by decide +kernel
theorem dX6_isDay_2 : decode cX6_isDay 2 = .ok (.ldc 218, 2) := by decide +kernel
theorem dX6_isDay_4 : decode cX6_isDay 4 = .ok (.invokestatic 66, 3) := by decide +kernel
theorem dX6_isDay_7 : decode cX6_isDay 7 = .ok (.ireturn, 1) := by decide +kernel
theorem dX6_isWithin_0 : decode cX6_isWithin 0 = .ok (.iload_n 0, 1) := by decide +kernel
theorem dX6_isWithin_1 : decode cX6_isWithin 1 = .ok (.iload_n 1, 1) := by decide +kernel
theorem dX6_isWithin_2 : decode cX6_isWithin 2 = .ok (.if_icmp .lt 12, 3) := by decide +kernel
theorem dX6_isWithin_5 : decode cX6_isWithin 5 = .ok (.iload_n 0, 1) := by decide +kernel
theorem dX6_isWithin_6 : decode cX6_isWithin 6 = .ok (.iload_n 2, 1) := by decide +kernel
theorem dX6_isWithin_7 : decode cX6_isWithin 7 = .ok (.if_icmp .gt 7, 3) := by decide +kernel
theorem dX6_isWithin_10 : decode cX6_isWithin 10 = .ok (.iconst 1, 1) := by decide +kernel
theorem dX6_isWithin_11 : decode cX6_isWithin 11 = .ok (.goto 4, 3) := by decide +kernel
theorem dX6_isWithin_14 : decode cX6_isWithin 14 = .ok (.iconst 0, 1) := by decide +kernel
theorem dX6_isWithin_15 : decode cX6_isWithin 15 = .ok (.ireturn, 1) := by decide +kernel
