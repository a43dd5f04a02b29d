theorem dX3_notBehind_36 : decode cX3_notBehind 36 = .ok (.iinc 4 1, 3) := by decide +kernel
theorem dX3_notBehind_39 : decode cX3_notBehind 39 = .ok (.goto (-34), 3) := by decide +kernel
theorem dX3_notBehind_42 : decode cX3_notBehind 42 = .ok (.iload_n 3, 1) := by decide +kernel
theorem dX3_notBehind_43 : decode cX3_notBehind 43 = .ok (.ireturn, 1) := by decide +kernel
theorem dX4_init_0 : decode cX4_init 0 = .ok (.aload_n 0, 1) := by decide +kernel
theorem dX4_init_1 : decode cX4_init 1 = .ok (.invokespecial 3, 3) := by decide +kernel
theorem dX4_init_4 : decode cX4_init 4 = .ok (.aload_n 0, 1) := by decide +kernel
theorem dX4_init_5 : decode cX4_init 5 = .ok (.bipush 60, 2) := by decide +kernel
theorem dX4_init_7 : decode cX4_init 7 = .ok (.newarray .int, 2) := by decide +kernel
theorem dX4_init_9 : decode cX4_init 9 = .ok (.putfield 9, 3) := by decide +kernel
theorem dX4_init_12 : decode cX4_init 12 = .ok (.aload_n 0, 1) := by decide +kernel
theorem dX4_init_13 : decode cX4_init 13 = .ok (.bipush 60, 2) := by decide +kernel
theorem dX4_init_15 : decode cX4_init 15 = .ok (.newarray .int, 2) := by decide +kernel
theorem dX4_init_17 : decode cX4_init 17 = .ok (.putfield 15, 3) := by decide +kernel
theorem dX4_init_20 : decode cX4_init 20 = .ok (.aload_n 0, 1) := by decide +kernel
theorem dX4_init_21 : decode cX4_init 21 = .ok (.bipush 60, 2) := by decide +kernel
theorem dX4_init_23 : decode cX4_init 23 = .ok (.newarray .int, 2) := by decide +kernel
theorem dX4_init_25 : decode cX4_init 25 = .ok (.putfield 18, 3) := by decide +kernel
theorem dX4_init_28 : decode cX4_init 28 = .ok (.aload_n 0, 1) := by decide +kernel
theorem dX4_init_29 : decode cX4_init 29 = .ok (.iconst 0, 1) := by decide +kernel
theorem dX4_init_30 : decode cX4_init 30 = .ok (.putfield 21, 3) := by decide +kernel
theorem dX4_init_33 : decode cX4_init 33 = .ok (.aload_n 0, 1) := by decide +kernel
theorem dX4_init_34 : decode cX4_init 34 = .ok (.sipush 300, 3) := by decide +kernel
theorem dX4_init_37 : decode cX4_init 37 = .ok (.newarray .int, 2) := by decide +kernel
theorem dX4_init_39 : decode cX4_init 39 = .ok (.putfield 25, 3) := by decide +kernel
theorem dX4_init_42 : decode cX4_init 42 = .ok (.aload_n 0, 1) := by decide +kernel
theorem dX4_init_43 : decode cX4_init 43 = .ok (.sipush 300, 3) := by decide +kernel
theorem dX4_init_46 : decode cX4_init 46 = .ok (.newarray .int, 2) := by decide +kernel
theorem dX4_init_48 : decode cX4_init 48 = .ok (.putfield 28, 3) := by decide +kernel
theorem dX4_init_51 : decode cX4_init 51 = .ok (.aload_n 0, 1) := by decide +kernel
theorem dX4_init_52 : decode cX4_init 52 = .ok (.sipush 300, 3) := by decide +kernel
theorem dX4_init_55 : decode cX4_init 55 = .ok (.newarray .int, 2) := by decide +kernel
theorem dX4_init_57 : decode cX4_init 57 = .ok (.putfield 31, 3) := by decide +kernel
theorem dX4_init_60 : decode cX4_init 60 = .ok (.aload_n 0, 1) := by decide +kernel
theorem dX4_init_61 : decode cX4_init 61 = .ok (.iconst 0, 1) := by decide +kernel
theorem dX4_init_62 : decode cX4_init 62 = .ok (.putfield 34, 3) := by decide +kernel
theorem dX4_init_65 : decode cX4_init 65 = .ok (.return_, 1) := by decide +kernel
theorem dX4_noteCount_0 : decode cX4_noteCount 0 = .ok (.aload_n 0, 1) := by decide +kernel
theorem dX4_noteCount_1 : decode cX4_noteCount 1 = .ok (.getfield 21, 3) := by decide +kernel
theorem dX4_noteCount_4 : decode cX4_noteCount 4 = .ok (.ireturn, 1) := by decide +kernel
theorem dX4_pitchOf_0 : decode cX4_pitchOf 0 = .ok (.aload_n 0, 1) := by decide +kernel
theorem dX4_pitchOf_1 : decode cX4_pitchOf 1 = .ok (.getfield 9, 3) := by decide +kernel
theorem dX4_pitchOf_4 : decode cX4_pitchOf 4 = .ok (.iload_n 1, 1) := by decide +kernel
theorem dX4_pitchOf_5 : decode cX4_pitchOf 5 = .ok (.iaload, 1) := by decide +kernel
theorem dX4_pitchOf_6 : decode cX4_pitchOf 6 = .ok (.ireturn, 1) := by decide +kernel
theorem dX4_firstStepOf_0 : decode cX4_firstStepOf 0 = .ok (.aload_n 0, 1) := by decide +kernel
theorem dX4_firstStepOf_1 : decode cX4_firstStepOf 1 = .ok (.getfield 15, 3) := by decide +kernel
theorem dX4_firstStepOf_4 : decode cX4_firstStepOf 4 = .ok (.iload_n 1, 1) := by decide +kernel
theorem dX4_firstStepOf_5 : decode cX4_firstStepOf 5 = .ok (.iaload, 1) := by decide +kernel
theorem dX4_firstStepOf_6 : decode cX4_firstStepOf 6 = .ok (.ireturn, 1) := by decide +kernel
theorem dX4_lengthOf_0 : decode cX4_lengthOf 0 = .ok (.aload_n 0, 1) := by decide +kernel
theorem dX4_lengthOf_1 : decode cX4_lengthOf 1 = .ok (.getfield 18, 3) := by decide +kernel
theorem dX4_lengthOf_4 : decode cX4_lengthOf 4 = .ok (.iload_n 1, 1) := by decide +kernel
theorem dX4_lengthOf_5 : decode cX4_lengthOf 5 = .ok (.iaload, 1) := by decide +kernel
theorem dX4_lengthOf_6 : decode cX4_lengthOf 6 = .ok (.ireturn, 1) := by decide +kernel
theorem dX4_pitchesIn_0 : decode cX4_pitchesIn 0 = .ok (.aload_n 0, 1) := by decide +kernel
theorem dX4_pitchesIn_1 : decode cX4_pitchesIn 1 = .ok (.getfield 25, 3) := by decide +kernel
theorem dX4_pitchesIn_4 : decode cX4_pitchesIn 4 = .ok (.iload_n 1, 1) := by decide +kernel
theorem dX4_pitchesIn_5 : decode cX4_pitchesIn 5 = .ok (.iaload, 1) := by decide +kernel
theorem dX4_pitchesIn_6 : decode cX4_pitchesIn 6 = .ok (.ireturn, 1) := by decide +kernel
theorem dX4_markCount_0 : decode cX4_markCount 0 = .ok (.aload_n 0, 1) := by decide +kernel
theorem dX4_markCount_1 : decode cX4_markCount 1 = .ok (.getfield 34, 3) := by decide +kernel
theorem dX4_markCount_4 : decode cX4_markCount 4 = .ok (.ireturn, 1) := by decide +kernel
theorem dX4_kindOfHole_0 : decode cX4_kindOfHole 0 = .ok (.iconst 1, 1) := by decide +kernel
theorem dX4_kindOfHole_1 : decode cX4_kindOfHole 1 = .ok (.iload_n 1, 1) := by decide +kernel
theorem dX4_kindOfHole_2 : decode cX4_kindOfHole 2 = .ok (.ishl, 1) := by decide +kernel
theorem dX4_kindOfHole_3 : decode cX4_kindOfHole 3 = .ok (.istore_n 3, 1) := by decide +kernel
theorem dX4_kindOfHole_4 : decode cX4_kindOfHole 4 = .ok (.aload_n 0, 1) := by decide +kernel
theorem dX4_kindOfHole_5 : decode cX4_kindOfHole 5 = .ok (.getfield 28, 3) := by decide +kernel
theorem dX4_kindOfHole_8 : decode cX4_kindOfHole 8 = .ok (.iload_n 2, 1) := by decide +kernel
theorem dX4_kindOfHole_9 : decode cX4_kindOfHole 9 = .ok (.iaload, 1) := by decide +kernel
theorem dX4_kindOfHole_10 : decode cX4_kindOfHole 10 = .ok (.iload_n 3, 1) := by decide +kernel
theorem dX4_kindOfHole_11 : decode cX4_kindOfHole 11 = .ok (.iand, 1) := by decide +kernel
theorem dX4_kindOfHole_12 : decode cX4_kindOfHole 12 = .ok (.ifCond .eq 5, 3) := by decide +kernel
theorem dX4_kindOfHole_15 : decode cX4_kindOfHole 15 = .ok (.iconst 1, 1) := by decide +kernel
theorem dX4_kindOfHole_16 : decode cX4_kindOfHole 16 = .ok (.ireturn, 1) := by decide +kernel
theorem dX4_kindOfHole_17 : decode cX4_kindOfHole 17 = .ok (.aload_n 0, 1) := by decide +kernel
theorem dX4_kindOfHole_18 : decode cX4_kindOfHole 18 = .ok (.getfield 25, 3) := by decide +kernel
theorem dX4_kindOfHole_21 : decode cX4_kindOfHole 21 = .ok (.iload_n 2, 1) := by decide +kernel
theorem dX4_kindOfHole_22 : decode cX4_kindOfHole 22 = .ok (.iaload, 1) := by decide +kernel
theorem dX4_kindOfHole_23 : decode cX4_kindOfHole 23 = .ok (.iload_n 3, 1) := by decide +kernel
theorem dX4_kindOfHole_24 : decode cX4_kindOfHole 24 = .ok (.iand, 1) := by decide +kernel
theorem dX4_kindOfHole_25 : decode cX4_kindOfHole 25 = .ok (.ifCond .eq 7, 3) := by decide +kernel
theorem dX4_kindOfHole_28 : decode cX4_kindOfHole 28 = .ok (.iconst 2, 1) := by decide +kernel
theorem dX4_kindOfHole_29 : decode cX4_kindOfHole 29 = .ok (.goto 4, 3) := by decide +kernel
theorem dX4_kindOfHole_32 : decode cX4_kindOfHole 32 = .ok (.iconst 0, 1) := by decide +kernel
theorem dX4_kindOfHole_33 : decode cX4_kindOfHole 33 = .ok (.ireturn, 1) := by decide +kernel
set_option maxRecDepth 20000 in
theorem ggX4_putIfAllowed_X4_isTooNear : GoodIn wsX4_putIfAllowed wsX4_isTooNear := goodIn_r _ [5, 6, 7, 8, 9, 10, 11, 12, 13, 48, 49, 50, 51, 52, 53, 54, 55] (by decide +kernel) (by decide +kernel)
set_option maxRecDepth 20000 in
theorem gX4_putIfAllowed_X4_isTooNear : GoodIn wsX4_putIfAllowed (wsV RX4 37 RX4 yX4_isTooNear wsX4_isTooNear) := goodIn_app (goodIn_of _ (by decide +kernel)) ggX4_putIfAllowed_X4_isTooNear
set_option maxRecDepth 20000 in
theorem ggX4_putIfAllowed_X4_isBorne : GoodIn wsX4_putIfAllowed wsX4_isBorne := goodIn_r _ [17, 18, 19, 20, 4, 21, 22, 23, 24, 25, 26, 27, 28, 29, 30, 31, 48, 49, 50, 51, 52, 53, 54, 55] (by decide +kernel) (by decide +kernel)
set_option maxRecDepth 20000 in
theorem gX4_putIfAllowed_X4_isBorne : GoodIn wsX4_putIfAllowed (wsV RX4 41 RX4 yX4_isBorne wsX4_isBorne) := goodIn_app (goodIn_of _ (by decide +kernel)) ggX4_putIfAllowed_X4_isBorne
set_option maxRecDepth 20000 in
theorem ggX4_putIfAllowed_X4_put : GoodIn wsX4_putIfAllowed wsX4_put := goodIn_r _ [35, 36, 37, 38, 39, 13, 18, 40, 41, 42, 4, 43, 44, 45, 46, 47, 19, 20, 21, 48, 49, 50, 51, 52, 53, 54, 55] (by decide +kernel) (by decide +kernel)
set_option maxRecDepth 20000 in
theorem gX4_putIfAllowed_X4_put : GoodIn wsX4_putIfAllowed (wsV RX4 44 RX4 yX4_put wsX4_put) := goodIn_app (goodIn_of _ (by decide +kernel)) ggX4_putIfAllowed_X4_put
theorem dX4_putIfAllowed_0 : decode cX4_putIfAllowed 0 = .ok (.aload_n 0, 1) := by decide +kernel
theorem dX4_putIfAllowed_1 : decode cX4_putIfAllowed 1 = .ok (.iload_n 1, 1) := by decide +kernel
theorem dX4_putIfAllowed_2 : decode cX4_putIfAllowed 2 = .ok (.iload_n 2, 1) := by decide +kernel
theorem dX4_putIfAllowed_3 : decode cX4_putIfAllowed 3 = .ok (.iload_n 3, 1) := by decide +kernel
theorem dX4_putIfAllowed_4 : decode cX4_putIfAllowed 4 = .ok (.invokevirtual 37, 3) := by decide +kernel
theorem dX4_putIfAllowed_7 : decode cX4_putIfAllowed 7 = .ok (.ifCond .eq 6, 3) := by decide +kernel
theorem dX4_putIfAllowed_10 : decode cX4_putIfAllowed 10 = .ok (.bipush (-2), 2) := by decide +kernel
theorem dX4_putIfAllowed_12 : decode cX4_putIfAllowed 12 = .ok (.ireturn, 1) := by decide +kernel
theorem dX4_putIfAllowed_13 : decode cX4_putIfAllowed 13 = .ok (.aload_n 0, 1) := by decide +kernel
theorem dX4_putIfAllowed_14 : decode cX4_putIfAllowed 14 = .ok (.iload_n 1, 1) := by decide +kernel
theorem dX4_putIfAllowed_15 : decode cX4_putIfAllowed 15 = .ok (.iload_n 2, 1) := by decide +kernel
theorem dX4_putIfAllowed_16 : decode cX4_putIfAllowed 16 = .ok (.iload_n 3, 1) := by decide +kernel
theorem dX4_putIfAllowed_17 : decode cX4_putIfAllowed 17 = .ok (.invokevirtual 41, 3) := by decide +kernel
theorem dX4_putIfAllowed_20 : decode cX4_putIfAllowed 20 = .ok (.ifCond .ne 6, 3) := by decide +kernel
theorem dX4_putIfAllowed_23 : decode cX4_putIfAllowed 23 = .ok (.bipush (-3), 2) := by decide +kernel
theorem dX4_putIfAllowed_25 : decode cX4_putIfAllowed 25 = .ok (.ireturn, 1) := by decide +kernel
theorem dX4_putIfAllowed_26 : decode cX4_putIfAllowed 26 = .ok (.aload_n 0, 1) := by decide +kernel
theorem dX4_putIfAllowed_27 : decode cX4_putIfAllowed 27 = .ok (.iload_n 1, 1) := by decide +kernel
theorem dX4_putIfAllowed_28 : decode cX4_putIfAllowed 28 = .ok (.iload_n 2, 1) := by decide +kernel
theorem dX4_putIfAllowed_29 : decode cX4_putIfAllowed 29 = .ok (.iload_n 3, 1) := by decide +kernel
theorem dX4_putIfAllowed_30 : decode cX4_putIfAllowed 30 = .ok (.invokevirtual 44, 3) := by decide +kernel
theorem dX4_putIfAllowed_33 : decode cX4_putIfAllowed 33 = .ok (.iconst 1, 1) := by decide +kernel
theorem dX4_putIfAllowed_34 : decode cX4_putIfAllowed 34 = .ok (.ireturn, 1) := by decide +kernel
theorem dX4_isTooNear_0 : decode cX4_isTooNear 0 = .ok (.iload_n 2, 1) := by decide +kernel
theorem dX4_isTooNear_1 : decode cX4_isTooNear 1 = .ok (.iconst 1, 1) := by decide +kernel
theorem dX4_isTooNear_2 : decode cX4_isTooNear 2 = .ok (.isub, 1) := by decide +kernel
theorem dX4_isTooNear_3 : decode cX4_isTooNear 3 = .ok (.iconst 0, 1) := by decide +kernel
theorem dX4_isTooNear_4 : decode cX4_isTooNear 4 = .ok (.invokestatic 48, 3) := by decide +kernel
theorem dX4_isTooNear_7 : decode cX4_isTooNear 7 = .ok (.istore 4, 2) := by decide +kernel
theorem dX4_isTooNear_9 : decode cX4_isTooNear 9 = .ok (.iload_n 2, 1) := by decide +kernel
theorem dX4_isTooNear_10 : decode cX4_isTooNear 10 = .ok (.iload_n 3, 1) := by decide +kernel
theorem dX4_isTooNear_11 : decode cX4_isTooNear 11 = .ok (.iadd, 1) := by decide +kernel
theorem dX4_isTooNear_12 : decode cX4_isTooNear 12 = .ok (.sipush 299, 3) := by decide +kernel
theorem dX4_isTooNear_15 : decode cX4_isTooNear 15 = .ok (.invokestatic 54, 3) := by decide +kernel
theorem dX4_isTooNear_18 : decode cX4_isTooNear 18 = .ok (.istore 5, 2) := by decide +kernel
theorem dX4_isTooNear_20 : decode cX4_isTooNear 20 = .ok (.iload 4, 2) := by decide +kernel
theorem dX4_isTooNear_22 : decode cX4_isTooNear 22 = .ok (.istore 6, 2) := by decide +kernel
theorem dX4_isTooNear_24 : decode cX4_isTooNear 24 = .ok (.iload 6, 2) := by decide +kernel
theorem dX4_isTooNear_26 : decode cX4_isTooNear 26 = .ok (.iload 5, 2) := by decide +kernel
theorem dX4_isTooNear_28 : decode cX4_isTooNear 28 = .ok (.if_icmp .gt 25, 3) := by decide +kernel
theorem dX4_isTooNear_31 : decode cX4_isTooNear 31 = .ok (.aload_n 0, 1) := by decide +kernel
theorem dX4_isTooNear_32 : decode cX4_isTooNear 32 = .ok (.getfield 25, 3) := by decide +kernel
theorem dX4_isTooNear_35 : decode cX4_isTooNear 35 = .ok (.iload 6, 2) := by decide +kernel
theorem dX4_isTooNear_37 : decode cX4_isTooNear 37 = .ok (.iaload, 1) := by decide +kernel
theorem dX4_isTooNear_38 : decode cX4_isTooNear 38 = .ok (.iload_n 1, 1) := by decide +kernel
theorem dX4_isTooNear_39 : decode cX4_isTooNear 39 = .ok (.ishr, 1) := by decide +kernel
theorem dX4_isTooNear_40 : decode cX4_isTooNear 40 = .ok (.iconst 1, 1) := by decide +kernel
theorem dX4_isTooNear_41 : decode cX4_isTooNear 41 = .ok (.iand, 1) := by decide +kernel
theorem dX4_isTooNear_42 : decode cX4_isTooNear 42 = .ok (.ifCond .eq 5, 3) := by decide +kernel
theorem dX4_isTooNear_45 : decode cX4_isTooNear 45 = .ok (.iconst 1, 1) := by decide +kernel
theorem dX4_isTooNear_46 : decode cX4_isTooNear 46 = .ok (.ireturn, 1) := by decide +kernel
theorem dX4_isTooNear_47 : decode cX4_isTooNear 47 = .ok (.iinc 6 1, 3) := by decide +kernel
theorem dX4_isTooNear_50 : decode cX4_isTooNear 50 = .ok (.goto (-26), 3) := by decide +kernel
theorem dX4_isTooNear_53 : decode cX4_isTooNear 53 = .ok (.iconst 0, 1) := by decide +kernel
theorem dX4_isTooNear_54 : decode cX4_isTooNear 54 = .ok (.ireturn, 1) := by decide +kernel
set_option maxRecDepth 20000 in
theorem ggX4_isBorne_X4_isBridge : GoodIn wsX4_isBorne wsX4_isBridge := goodIn_r _ [5] (by decide +kernel) (by decide +kernel)
set_option maxRecDepth 20000 in
theorem gX4_isBorne_X4_isBridge : GoodIn wsX4_isBorne (va_wsS RX4 57 yX4_isBridge wsX4_isBridge) := goodIn_app (goodIn_of _ (by decide +kernel)) ggX4_isBorne_X4_isBridge
set_option maxRecDepth 20000 in
theorem ggX4_isBorne_X4_bears : GoodIn wsX4_isBorne wsX4_bears := goodIn_r _ [8, 9, 10, 11, 12, 13, 14, 15] (by decide +kernel) (by decide +kernel)
set_option maxRecDepth 20000 in
theorem gX4_isBorne_X4_bears : GoodIn wsX4_isBorne (va_wsS RX4 61 yX4_bears wsX4_bears) := goodIn_app (goodIn_of _ (by decide +kernel)) ggX4_isBorne_X4_bears
theorem dX4_isBorne_0 : decode cX4_isBorne 0 = .ok (.iconst 0, 1) := by decide +kernel
theorem dX4_isBorne_1 : decode cX4_isBorne 1 = .ok (.istore 4, 2) := by decide +kernel
theorem dX4_isBorne_3 : decode cX4_isBorne 3 = .ok (.iload 4, 2) := by decide +kernel
theorem dX4_isBorne_5 : decode cX4_isBorne 5 = .ok (.iload_n 3, 1) := by decide +kernel
theorem dX4_isBorne_6 : decode cX4_isBorne 6 = .ok (.if_icmp .ge 39, 3) := by decide +kernel
theorem dX4_isBorne_9 : decode cX4_isBorne 9 = .ok (.iload 4, 2) := by decide +kernel
theorem dX4_isBorne_11 : decode cX4_isBorne 11 = .ok (.iload_n 3, 1) := by decide +kernel
theorem dX4_isBorne_12 : decode cX4_isBorne 12 = .ok (.invokestatic 57, 3) := by decide +kernel
theorem dX4_isBorne_15 : decode cX4_isBorne 15 = .ok (.ifCond .ne 24, 3) := by decide +kernel
theorem dX4_isBorne_18 : decode cX4_isBorne 18 = .ok (.aload_n 0, 1) := by decide +kernel
theorem dX4_isBorne_19 : decode cX4_isBorne 19 = .ok (.getfield 28, 3) := by decide +kernel
theorem dX4_isBorne_22 : decode cX4_isBorne 22 = .ok (.iload_n 2, 1) := by decide +kernel
theorem dX4_isBorne_23 : decode cX4_isBorne 23 = .ok (.iload 4, 2) := by decide +kernel
theorem dX4_isBorne_25 : decode cX4_isBorne 25 = .ok (.iadd, 1) := by decide +kernel
theorem dX4_isBorne_26 : decode cX4_isBorne 26 = .ok (.iaload, 1) := by decide +kernel
theorem dX4_isBorne_27 : decode cX4_isBorne 27 = .ok (.iconst 1, 1) := by decide +kernel
theorem dX4_isBorne_28 : decode cX4_isBorne 28 = .ok (.iload_n 1, 1) := by decide +kernel
theorem dX4_isBorne_29 : decode cX4_isBorne 29 = .ok (.ishl, 1) := by decide +kernel
theorem dX4_isBorne_30 : decode cX4_isBorne 30 = .ok (.ior, 1) := by decide +kernel
theorem dX4_isBorne_31 : decode cX4_isBorne 31 = .ok (.invokestatic 61, 3) := by decide +kernel
theorem dX4_isBorne_34 : decode cX4_isBorne 34 = .ok (.ifCond .ne 5, 3) := by decide +kernel
theorem dX4_isBorne_37 : decode cX4_isBorne 37 = .ok (.iconst 0, 1) := by decide +kernel
theorem dX4_isBorne_38 : decode cX4_isBorne 38 = .ok (.ireturn, 1) := by decide +kernel
theorem dX4_isBorne_39 : decode cX4_isBorne 39 = .ok (.iinc 4 1, 3) := by decide +kernel
theorem dX4_isBorne_42 : decode cX4_isBorne 42 = .ok (.goto (-39), 3) := by decide +kernel
theorem dX4_isBorne_45 : decode cX4_isBorne 45 = .ok (.iconst 1, 1) := by decide +kernel
theorem dX4_isBorne_46 : decode cX4_isBorne 46 = .ok (.ireturn, 1) := by decide +kernel
set_option maxRecDepth 20000 in
theorem ggX4_bears_J6_bitCount_0f7a4 : GoodIn wsX4_bears wsJ6_bitCount_0f7a4 := goodIn_r _ [4, 5, 6, 7] (by decide +kernel) (by decide +kernel)
set_option maxRecDepth 20000 in
theorem gX4_bears_J6_bitCount_0f7a4 : GoodIn wsX4_bears (va_wsS RX4 65 yJ6_bitCount_0f7a4 wsJ6_bitCount_0f7a4) := goodIn_app (goodIn_of _ (by decide +kernel)) ggX4_bears_J6_bitCount_0f7a4
theorem dX4_bears_0 : decode cX4_bears 0 = .ok (.iload_n 0, 1) := by decide +kernel
theorem dX4_bears_1 : decode cX4_bears 1 = .ok (.iload_n 0, 1) := by decide +kernel
theorem dX4_bears_2 : decode cX4_bears 2 = .ok (.iconst 1, 1) := by decide +kernel
theorem dX4_bears_3 : decode cX4_bears 3 = .ok (.ishr, 1) := by decide +kernel
theorem dX4_bears_4 : decode cX4_bears 4 = .ok (.iand, 1) := by decide +kernel
theorem dX4_bears_5 : decode cX4_bears 5 = .ok (.iload_n 0, 1) := by decide +kernel
theorem dX4_bears_6 : decode cX4_bears 6 = .ok (.iconst 2, 1) := by decide +kernel
theorem dX4_bears_7 : decode cX4_bears 7 = .ok (.ishr, 1) := by decide +kernel
theorem dX4_bears_8 : decode cX4_bears 8 = .ok (.iand, 1) := by decide +kernel
theorem dX4_bears_9 : decode cX4_bears 9 = .ok (.iload_n 0, 1) := by decide +kernel
theorem dX4_bears_10 : decode cX4_bears 10 = .ok (.iconst 3, 1) := by decide +kernel
theorem dX4_bears_11 : decode cX4_bears 11 = .ok (.ishr, 1) := by decide +kernel
theorem dX4_bears_12 : decode cX4_bears 12 = .ok (.iand, 1) := by decide +kernel
theorem dX4_bears_13 : decode cX4_bears 13 = .ok (.istore_n 1, 1) := by decide +kernel
theorem dX4_bears_14 : decode cX4_bears 14 = .ok (.iload_n 1, 1) := by decide +kernel
theorem dX4_bears_15 : decode cX4_bears 15 = .ok (.ifCond .ne 16, 3) := by decide +kernel
theorem dX4_bears_18 : decode cX4_bears 18 = .ok (.iload_n 0, 1) := by decide +kernel
theorem dX4_bears_19 : decode cX4_bears 19 = .ok (.invokestatic 65, 3) := by decide +kernel
theorem dX4_bears_22 : decode cX4_bears 22 = .ok (.bipush 10, 2) := by decide +kernel
theorem dX4_bears_24 : decode cX4_bears 24 = .ok (.if_icmp .gt 7, 3) := by decide +kernel
theorem dX4_bears_27 : decode cX4_bears 27 = .ok (.iconst 1, 1) := by decide +kernel
theorem dX4_bears_28 : decode cX4_bears 28 = .ok (.goto 4, 3) := by decide +kernel
theorem dX4_bears_31 : decode cX4_bears 31 = .ok (.iconst 0, 1) := by decide +kernel
theorem dX4_bears_32 : decode cX4_bears 32 = .ok (.ireturn, 1) := by decide +kernel
theorem dX4_isBridge_0 : decode cX4_isBridge 0 = .ok (.iload_n 0, 1) := by decide +kernel
theorem dX4_isBridge_1 : decode cX4_isBridge 1 = .ok (.bipush 8, 2) := by decide +kernel
theorem dX4_isBridge_3 : decode cX4_isBridge 3 = .ok (.irem, 1) := by decide +kernel
theorem dX4_isBridge_4 : decode cX4_isBridge 4 = .ok (.bipush 7, 2) := by decide +kernel
theorem dX4_isBridge_6 : decode cX4_isBridge 6 = .ok (.if_icmp .ne 14, 3) := by decide +kernel
theorem dX4_isBridge_9 : decode cX4_isBridge 9 = .ok (.iload_n 0, 1) := by decide +kernel
theorem dX4_isBridge_10 : decode cX4_isBridge 10 = .ok (.iload_n 1, 1) := by decide +kernel
theorem dX4_isBridge_11 : decode cX4_isBridge 11 = .ok (.iconst 1, 1) := by decide +kernel
theorem dX4_isBridge_12 : decode cX4_isBridge 12 = .ok (.isub, 1) := by decide +kernel
theorem dX4_isBridge_13 : decode cX4_isBridge 13 = .ok (.if_icmp .eq 7, 3) := by decide +kernel
theorem dX4_isBridge_16 : decode cX4_isBridge 16 = .ok (.iconst 1, 1) := by decide +kernel
theorem dX4_isBridge_17 : decode cX4_isBridge 17 = .ok (.goto 4, 3) := by decide +kernel
theorem dX4_isBridge_20 : decode cX4_isBridge 20 = .ok (.iconst 0, 1) := by decide +kernel
theorem dX4_isBridge_21 : decode cX4_isBridge 21 = .ok (.ireturn, 1) := by decide +kernel
set_option maxRecDepth 20000 in
theorem ggX4_put_X4_comesAhead : GoodIn wsX4_put wsX4_comesAhead := goodIn_r _ [11, 3, 2, 19, 20, 21, 22, 23, 24, 25, 26] (by decide +kernel) (by decide +kernel)
set_option maxRecDepth 20000 in
theorem gX4_put_X4_comesAhead : GoodIn wsX4_put (wsV RX4 71 RX4 yX4_comesAhead wsX4_comesAhead) := goodIn_app (goodIn_of _ (by decide +kernel)) ggX4_put_X4_comesAhead
set_option maxRecDepth 20000 in
theorem ggX4_put_X4_setNote : GoodIn wsX4_put wsX4_setNote := goodIn_r _ [15, 2, 3, 4, 19, 20, 21, 22, 23, 24, 25, 26] (by decide +kernel) (by decide +kernel)
set_option maxRecDepth 20000 in
theorem gX4_put_X4_setNote : GoodIn wsX4_put (wsV RX4 74 RX4 yX4_setNote wsX4_setNote) := goodIn_app (goodIn_of _ (by decide +kernel)) ggX4_put_X4_setNote
set_option maxRecDepth 20000 in
theorem ggX4_put_X4_isBridge : GoodIn wsX4_put wsX4_isBridge := goodIn_r _ [18] (by decide +kernel) (by decide +kernel)
set_option maxRecDepth 20000 in
theorem gX4_put_X4_isBridge : GoodIn wsX4_put (va_wsS RX4 57 yX4_isBridge wsX4_isBridge) := goodIn_app (goodIn_of _ (by decide +kernel)) ggX4_put_X4_isBridge
theorem dX4_put_0 : decode cX4_put 0 = .ok (.aload_n 0, 1) := by decide +kernel
theorem dX4_put_1 : decode cX4_put 1 = .ok (.getfield 21, 3) := by decide +kernel
theorem dX4_put_4 : decode cX4_put 4 = .ok (.bipush 60, 2) := by decide +kernel
theorem dX4_put_6 : decode cX4_put 6 = .ok (.if_icmp .lt 4, 3) := by decide +kernel
theorem dX4_put_9 : decode cX4_put 9 = .ok (.return_, 1) := by decide +kernel
theorem dX4_put_10 : decode cX4_put 10 = .ok (.aload_n 0, 1) := by decide +kernel
theorem dX4_put_11 : decode cX4_put 11 = .ok (.getfield 21, 3) := by decide +kernel
theorem dX4_put_14 : decode cX4_put 14 = .ok (.istore 4, 2) := by decide +kernel
theorem dX4_put_16 : decode cX4_put 16 = .ok (.iload 4, 2) := by decide +kernel
theorem dX4_put_18 : decode cX4_put 18 = .ok (.ifCond .le 55, 3) := by decide +kernel
theorem dX4_put_21 : decode cX4_put 21 = .ok (.aload_n 0, 1) := by decide +kernel
theorem dX4_put_22 : decode cX4_put 22 = .ok (.iload_n 1, 1) := by decide +kernel
theorem dX4_put_23 : decode cX4_put 23 = .ok (.iload_n 2, 1) := by decide +kernel
theorem dX4_put_24 : decode cX4_put 24 = .ok (.iload 4, 2) := by decide +kernel
theorem dX4_put_26 : decode cX4_put 26 = .ok (.iconst 1, 1) := by decide +kernel
theorem dX4_put_27 : decode cX4_put 27 = .ok (.isub, 1) := by decide +kernel
theorem dX4_put_28 : decode cX4_put 28 = .ok (.invokevirtual 71, 3) := by decide +kernel
theorem dX4_put_31 : decode cX4_put 31 = .ok (.ifCond .eq 42, 3) := by decide +kernel
theorem dX4_put_34 : decode cX4_put 34 = .ok (.aload_n 0, 1) := by decide +kernel
theorem dX4_put_35 : decode cX4_put 35 = .ok (.iload 4, 2) := by decide +kernel
theorem dX4_put_37 : decode cX4_put 37 = .ok (.aload_n 0, 1) := by decide +kernel
theorem dX4_put_38 : decode cX4_put 38 = .ok (.getfield 9, 3) := by decide +kernel
theorem dX4_put_41 : decode cX4_put 41 = .ok (.iload 4, 2) := by decide +kernel
theorem dX4_put_43 : decode cX4_put 43 = .ok (.iconst 1, 1) := by decide +kernel
theorem dX4_put_44 : decode cX4_put 44 = .ok (.isub, 1) := by decide +kernel
theorem dX4_put_45 : decode cX4_put 45 = .ok (.iaload, 1) := by decide +kernel
theorem dX4_put_46 : decode cX4_put 46 = .ok (.aload_n 0, 1) := by decide +kernel
theorem dX4_put_47 : decode cX4_put 47 = .ok (.getfield 15, 3) := by decide +kernel
theorem dX4_put_50 : decode cX4_put 50 = .ok (.iload 4, 2) := by decide +kernel
theorem dX4_put_52 : decode cX4_put 52 = .ok (.iconst 1, 1) := by decide +kernel
theorem dX4_put_53 : decode cX4_put 53 = .ok (.isub, 1) := by decide +kernel
theorem dX4_put_54 : decode cX4_put 54 = .ok (.iaload, 1) := by decide +kernel
theorem dX4_put_55 : decode cX4_put 55 = .ok (.aload_n 0, 1) := by decide +kernel
theorem dX4_put_56 : decode cX4_put 56 = .ok (.getfield 18, 3) := by decide +kernel
theorem dX4_put_59 : decode cX4_put 59 = .ok (.iload 4, 2) := by decide +kernel
theorem dX4_put_61 : decode cX4_put 61 = .ok (.iconst 1, 1) := by decide +kernel
theorem dX4_put_62 : decode cX4_put 62 = .ok (.isub, 1) := by decide +kernel
theorem dX4_put_63 : decode cX4_put 63 = .ok (.iaload, 1) := by decide +kernel
theorem dX4_put_64 : decode cX4_put 64 = .ok (.invokevirtual 74, 3) := by decide +kernel
theorem dX4_put_67 : decode cX4_put 67 = .ok (.iinc 4 (-1), 3) := by decide +kernel
theorem dX4_put_70 : decode cX4_put 70 = .ok (.goto (-54), 3) := by decide +kernel
theorem dX4_put_73 : decode cX4_put 73 = .ok (.aload_n 0, 1) := by decide +kernel
theorem dX4_put_74 : decode cX4_put 74 = .ok (.iload 4, 2) := by decide +kernel
theorem dX4_put_76 : decode cX4_put 76 = .ok (.iload_n 1, 1) := by decide +kernel
theorem dX4_put_77 : decode cX4_put 77 = .ok (.iload_n 2, 1) := by decide +kernel
theorem dX4_put_78 : decode cX4_put 78 = .ok (.iload_n 3, 1) := by decide +kernel
theorem dX4_put_79 : decode cX4_put 79 = .ok (.invokevirtual 74, 3) := by decide +kernel
theorem dX4_put_82 : decode cX4_put 82 = .ok (.aload_n 0, 1) := by decide +kernel
theorem dX4_put_83 : decode cX4_put 83 = .ok (.dup, 1) := by decide +kernel
theorem dX4_put_84 : decode cX4_put 84 = .ok (.getfield 21, 3) := by decide +kernel
theorem dX4_put_87 : decode cX4_put 87 = .ok (.iconst 1, 1) := by decide +kernel
theorem dX4_put_88 : decode cX4_put 88 = .ok (.iadd, 1) := by decide +kernel
theorem dX4_put_89 : decode cX4_put 89 = .ok (.putfield 21, 3) := by decide +kernel
theorem dX4_put_92 : decode cX4_put 92 = .ok (.iconst 0, 1) := by decide +kernel
theorem dX4_put_93 : decode cX4_put 93 = .ok (.istore 5, 2) := by decide +kernel
theorem dX4_put_95 : decode cX4_put 95 = .ok (.iload 5, 2) := by decide +kernel
theorem dX4_put_97 : decode cX4_put 97 = .ok (.iload_n 3, 1) := by decide +kernel
theorem dX4_put_98 : decode cX4_put 98 = .ok (.if_icmp .ge 48, 3) := by decide +kernel
theorem dX4_put_101 : decode cX4_put 101 = .ok (.aload_n 0, 1) := by decide +kernel
theorem dX4_put_102 : decode cX4_put 102 = .ok (.getfield 25, 3) := by decide +kernel
theorem dX4_put_105 : decode cX4_put 105 = .ok (.iload_n 2, 1) := by decide +kernel
theorem dX4_put_106 : decode cX4_put 106 = .ok (.iload 5, 2) := by decide +kernel
theorem dX4_put_108 : decode cX4_put 108 = .ok (.iadd, 1) := by decide +kernel
theorem dX4_put_109 : decode cX4_put 109 = .ok (.dup2, 1) := by decide +kernel
theorem dX4_put_110 : decode cX4_put 110 = .ok (.iaload, 1) := by decide +kernel
theorem dX4_put_111 : decode cX4_put 111 = .ok (.iconst 1, 1) := by decide +kernel
theorem dX4_put_112 : decode cX4_put 112 = .ok (.iload_n 1, 1) := by decide +kernel
theorem dX4_put_113 : decode cX4_put 113 = .ok (.ishl, 1) := by decide +kernel
theorem dX4_put_114 : decode cX4_put 114 = .ok (.ior, 1) := by decide +kernel
theorem dX4_put_115 : decode cX4_put 115 = .ok (.iastore, 1) := by decide +kernel
theorem dX4_put_116 : decode cX4_put 116 = .ok (.iload 5, 2) := by decide +kernel
theorem dX4_put_118 : decode cX4_put 118 = .ok (.iload_n 3, 1) := by decide +kernel
theorem dX4_put_119 : decode cX4_put 119 = .ok (.invokestatic 57, 3) := by decide +kernel
theorem dX4_put_122 : decode cX4_put 122 = .ok (.ifCond .ne 18, 3) := by decide +kernel
theorem dX4_put_125 : decode cX4_put 125 = .ok (.aload_n 0, 1) := by decide +kernel
theorem dX4_put_126 : decode cX4_put 126 = .ok (.getfield 28, 3) := by decide +kernel
theorem dX4_put_129 : decode cX4_put 129 = .ok (.iload_n 2, 1) := by decide +kernel
theorem dX4_put_130 : decode cX4_put 130 = .ok (.iload 5, 2) := by decide +kernel
theorem dX4_put_132 : decode cX4_put 132 = .ok (.iadd, 1) := by decide +kernel
theorem dX4_put_133 : decode cX4_put 133 = .ok (.dup2, 1) := by decide +kernel
theorem dX4_put_134 : decode cX4_put 134 = .ok (.iaload, 1) := by decide +kernel
theorem dX4_put_135 : decode cX4_put 135 = .ok (.iconst 1, 1) := by decide +kernel
theorem dX4_put_136 : decode cX4_put 136 = .ok (.iload_n 1, 1) := by decide +kernel
theorem dX4_put_137 : decode cX4_put 137 = .ok (.ishl, 1) := by decide +kernel
theorem dX4_put_138 : decode cX4_put 138 = .ok (.ior, 1) := by decide +kernel
theorem dX4_put_139 : decode cX4_put 139 = .ok (.iastore, 1) := by decide +kernel
theorem dX4_put_140 : decode cX4_put 140 = .ok (.iinc 5 1, 3) := by decide +kernel
theorem dX4_put_143 : decode cX4_put 143 = .ok (.goto (-48), 3) := by decide +kernel
theorem dX4_put_146 : decode cX4_put 146 = .ok (.return_, 1) := by decide +kernel
theorem dX4_comesAhead_0 : decode cX4_comesAhead 0 = .ok (.iload_n 2, 1) := by decide +kernel
theorem dX4_comesAhead_1 : decode cX4_comesAhead 1 = .ok (.aload_n 0, 1) := by decide +kernel
theorem dX4_comesAhead_2 : decode cX4_comesAhead 2 = .ok (.getfield 15, 3) := by decide +kernel
theorem dX4_comesAhead_5 : decode cX4_comesAhead 5 = .ok (.iload_n 3, 1) := by decide +kernel
theorem dX4_comesAhead_6 : decode cX4_comesAhead 6 = .ok (.iaload, 1) := by decide +kernel
theorem dX4_comesAhead_7 : decode cX4_comesAhead 7 = .ok (.if_icmp .lt 23, 3) := by decide +kernel
theorem dX4_comesAhead_10 : decode cX4_comesAhead 10 = .ok (.iload_n 2, 1) := by decide +kernel
theorem dX4_comesAhead_11 : decode cX4_comesAhead 11 = .ok (.aload_n 0, 1) := by decide +kernel
theorem dX4_comesAhead_12 : decode cX4_comesAhead 12 = .ok (.getfield 15, 3) := by decide +kernel
theorem dX4_comesAhead_15 : decode cX4_comesAhead 15 = .ok (.iload_n 3, 1) := by decide +kernel
theorem dX4_comesAhead_16 : decode cX4_comesAhead 16 = .ok (.iaload, 1) := by decide +kernel
theorem dX4_comesAhead_17 : decode cX4_comesAhead 17 = .ok (.if_icmp .ne 17, 3) := by decide +kernel
theorem dX4_comesAhead_20 : decode cX4_comesAhead 20 = .ok (.iload_n 1, 1) := by decide +kernel
theorem dX4_comesAhead_21 : decode cX4_comesAhead 21 = .ok (.aload_n 0, 1) := by decide +kernel
theorem dX4_comesAhead_22 : decode cX4_comesAhead 22 = .ok (.getfield 9, 3) := by decide +kernel
theorem dX4_comesAhead_25 : decode cX4_comesAhead 25 = .ok (.iload_n 3, 1) := by decide +kernel
theorem dX4_comesAhead_26 : decode cX4_comesAhead 26 = .ok (.iaload, 1) := by decide +kernel
theorem dX4_comesAhead_27 : decode cX4_comesAhead 27 = .ok (.if_icmp .ge 7, 3) := by decide +kernel
theorem dX4_comesAhead_30 : decode cX4_comesAhead 30 = .ok (.iconst 1, 1) := by decide +kernel
theorem dX4_comesAhead_31 : decode cX4_comesAhead 31 = .ok (.goto 4, 3) := by decide +kernel
theorem dX4_comesAhead_34 : decode cX4_comesAhead 34 = .ok (.iconst 0, 1) := by decide +kernel
theorem dX4_comesAhead_35 : decode cX4_comesAhead 35 = .ok (.ireturn, 1) := by decide +kernel
theorem dX4_setNote_0 : decode cX4_setNote 0 = .ok (.aload_n 0, 1) := by decide +kernel
theorem dX4_setNote_1 : decode cX4_setNote 1 = .ok (.getfield 9, 3) := by decide +kernel
theorem dX4_setNote_4 : decode cX4_setNote 4 = .ok (.iload_n 1, 1) := by decide +kernel
theorem dX4_setNote_5 : decode cX4_setNote 5 = .ok (.iload_n 2, 1) := by decide +kernel
theorem dX4_setNote_6 : decode cX4_setNote 6 = .ok (.iastore, 1) := by decide +kernel
theorem dX4_setNote_7 : decode cX4_setNote 7 = .ok (.aload_n 0, 1) := by decide +kernel
theorem dX4_setNote_8 : decode cX4_setNote 8 = .ok (.getfield 15, 3) := by decide +kernel
theorem dX4_setNote_11 : decode cX4_setNote 11 = .ok (.iload_n 1, 1) := by decide +kernel
theorem dX4_setNote_12 : decode cX4_setNote 12 = .ok (.iload_n 3, 1) := by decide +kernel
theorem dX4_setNote_13 : decode cX4_setNote 13 = .ok (.iastore, 1) := by decide +kernel
theorem dX4_setNote_14 : decode cX4_setNote 14 = .ok (.aload_n 0, 1) := by decide +kernel
theorem dX4_setNote_15 : decode cX4_setNote 15 = .ok (.getfield 18, 3) := by decide +kernel
theorem dX4_setNote_18 : decode cX4_setNote 18 = .ok (.iload_n 1, 1) := by decide +kernel
theorem dX4_setNote_19 : decode cX4_setNote 19 = .ok (.iload 4, 2) := by decide +kernel
theorem dX4_setNote_21 : decode cX4_setNote 21 = .ok (.iastore, 1) := by decide +kernel
theorem dX4_setNote_22 : decode cX4_setNote 22 = .ok (.return_, 1) := by decide +kernel
set_option maxRecDepth 20000 in
theorem ggX4_take_X4_noteWith : GoodIn wsX4_take wsX4_noteWith := goodIn_r _ [11, 3, 4, 1, 2, 12, 13, 14, 19, 20, 21, 22, 23, 24, 25, 26] (by decide +kernel) (by decide +kernel)
set_option maxRecDepth 20000 in
theorem gX4_take_X4_noteWith : GoodIn wsX4_take (wsV RX4 78 RX4 yX4_noteWith wsX4_noteWith) := goodIn_app (goodIn_of _ (by decide +kernel)) ggX4_take_X4_noteWith
set_option maxRecDepth 20000 in
theorem ggX4_take_X4_setNote : GoodIn wsX4_take wsX4_setNote := goodIn_r _ [18, 4, 1, 2, 19, 20, 21, 22, 23, 24, 25, 26] (by decide +kernel) (by decide +kernel)
set_option maxRecDepth 20000 in
theorem gX4_take_X4_setNote : GoodIn wsX4_take (wsV RX4 74 RX4 yX4_setNote wsX4_setNote) := goodIn_app (goodIn_of _ (by decide +kernel)) ggX4_take_X4_setNote
theorem dX4_take_0 : decode cX4_take 0 = .ok (.aload_n 0, 1) := by decide +kernel
theorem dX4_take_1 : decode cX4_take 1 = .ok (.iload_n 1, 1) := by decide +kernel
theorem dX4_take_2 : decode cX4_take 2 = .ok (.iload_n 2, 1) := by decide +kernel
theorem dX4_take_3 : decode cX4_take 3 = .ok (.invokevirtual 78, 3) := by decide +kernel
theorem dX4_take_6 : decode cX4_take 6 = .ok (.istore_n 3, 1) := by decide +kernel
theorem dX4_take_7 : decode cX4_take 7 = .ok (.iload_n 3, 1) := by decide +kernel
theorem dX4_take_8 : decode cX4_take 8 = .ok (.iconst (-1), 1) := by decide +kernel
theorem dX4_take_9 : decode cX4_take 9 = .ok (.if_icmp .ne 5, 3) := by decide +kernel
theorem dX4_take_12 : decode cX4_take 12 = .ok (.iconst (-1), 1) := by decide +kernel
theorem dX4_take_13 : decode cX4_take 13 = .ok (.ireturn, 1) := by decide +kernel
theorem dX4_take_14 : decode cX4_take 14 = .ok (.aload_n 0, 1) := by decide +kernel
theorem dX4_take_15 : decode cX4_take 15 = .ok (.getfield 15, 3) := by decide +kernel
theorem dX4_take_18 : decode cX4_take 18 = .ok (.iload_n 3, 1) := by decide +kernel
theorem dX4_take_19 : decode cX4_take 19 = .ok (.iaload, 1) := by decide +kernel
theorem dX4_take_20 : decode cX4_take 20 = .ok (.istore 4, 2) := by decide +kernel
theorem dX4_take_22 : decode cX4_take 22 = .ok (.aload_n 0, 1) := by decide +kernel
theorem dX4_take_23 : decode cX4_take 23 = .ok (.getfield 18, 3) := by decide +kernel
theorem dX4_take_26 : decode cX4_take 26 = .ok (.iload_n 3, 1) := by decide +kernel
theorem dX4_take_27 : decode cX4_take 27 = .ok (.iaload, 1) := by decide +kernel
theorem dX4_take_28 : decode cX4_take 28 = .ok (.istore 5, 2) := by decide +kernel
theorem dX4_take_30 : decode cX4_take 30 = .ok (.aload_n 0, 1) := by decide +kernel
theorem dX4_take_31 : decode cX4_take 31 = .ok (.dup, 1) := by decide +kernel
theorem dX4_take_32 : decode cX4_take 32 = .ok (.getfield 21, 3) := by decide +kernel
theorem dX4_take_35 : decode cX4_take 35 = .ok (.iconst 1, 1) := by decide +kernel
theorem dX4_take_36 : decode cX4_take 36 = .ok (.isub, 1) := by decide +kernel
theorem dX4_take_37 : decode cX4_take 37 = .ok (.putfield 21, 3) := by decide +kernel
theorem dX4_take_40 : decode cX4_take 40 = .ok (.iload_n 3, 1) := by decide +kernel
theorem dX4_take_41 : decode cX4_take 41 = .ok (.istore 6, 2) := by decide +kernel
theorem dX4_take_43 : decode cX4_take 43 = .ok (.iload 6, 2) := by decide +kernel
theorem dX4_take_45 : decode cX4_take 45 = .ok (.aload_n 0, 1) := by decide +kernel
theorem dX4_take_46 : decode cX4_take 46 = .ok (.getfield 21, 3) := by decide +kernel
theorem dX4_take_49 : decode cX4_take 49 = .ok (.if_icmp .ge 42, 3) := by decide +kernel
theorem dX4_take_52 : decode cX4_take 52 = .ok (.aload_n 0, 1) := by decide +kernel
theorem dX4_take_53 : decode cX4_take 53 = .ok (.iload 6, 2) := by decide +kernel
theorem dX4_take_55 : decode cX4_take 55 = .ok (.aload_n 0, 1) := by decide +kernel
theorem dX4_take_56 : decode cX4_take 56 = .ok (.getfield 9, 3) := by decide +kernel
theorem dX4_take_59 : decode cX4_take 59 = .ok (.iload 6, 2) := by decide +kernel
theorem dX4_take_61 : decode cX4_take 61 = .ok (.iconst 1, 1) := by decide +kernel
theorem dX4_take_62 : decode cX4_take 62 = .ok (.iadd, 1) := by decide +kernel
theorem dX4_take_63 : decode cX4_take 63 = .ok (.iaload, 1) := by decide +kernel
theorem dX4_take_64 : decode cX4_take 64 = .ok (.aload_n 0, 1) := by decide +kernel
theorem dX4_take_65 : decode cX4_take 65 = .ok (.getfield 15, 3) := by decide +kernel
theorem dX4_take_68 : decode cX4_take 68 = .ok (.iload 6, 2) := by decide +kernel
theorem dX4_take_70 : decode cX4_take 70 = .ok (.iconst 1, 1) := by decide +kernel
theorem dX4_take_71 : decode cX4_take 71 = .ok (.iadd, 1) := by decide +kernel
theorem dX4_take_72 : decode cX4_take 72 = .ok (.iaload, 1) := by decide +kernel
theorem dX4_take_73 : decode cX4_take 73 = .ok (.aload_n 0, 1) := by decide +kernel
theorem dX4_take_74 : decode cX4_take 74 = .ok (.getfield 18, 3) := by decide +kernel
theorem dX4_take_77 : decode cX4_take 77 = .ok (.iload 6, 2) := by decide +kernel
theorem dX4_take_79 : decode cX4_take 79 = .ok (.iconst 1, 1) := by decide +kernel
theorem dX4_take_80 : decode cX4_take 80 = .ok (.iadd, 1) := by decide +kernel
theorem dX4_take_81 : decode cX4_take 81 = .ok (.iaload, 1) := by decide +kernel
theorem dX4_take_82 : decode cX4_take 82 = .ok (.invokevirtual 74, 3) := by decide +kernel
theorem dX4_take_85 : decode cX4_take 85 = .ok (.iinc 6 1, 3) := by decide +kernel
theorem dX4_take_88 : decode cX4_take 88 = .ok (.goto (-45), 3) := by decide +kernel
theorem dX4_take_91 : decode cX4_take 91 = .ok (.iconst 1, 1) := by decide +kernel
theorem dX4_take_92 : decode cX4_take 92 = .ok (.iload_n 1, 1) := by decide +kernel
theorem dX4_take_93 : decode cX4_take 93 = .ok (.ishl, 1) := by decide +kernel
theorem dX4_take_94 : decode cX4_take 94 = .ok (.iconst (-1), 1) := by decide +kernel
theorem dX4_take_95 : decode cX4_take 95 = .ok (.ixor, 1) := by decide +kernel
theorem dX4_take_96 : decode cX4_take 96 = .ok (.istore 6, 2) := by decide +kernel
theorem dX4_take_98 : decode cX4_take 98 = .ok (.iconst 0, 1) := by decide +kernel
theorem dX4_take_99 : decode cX4_take 99 = .ok (.istore 7, 2) := by decide +kernel
theorem dX4_take_101 : decode cX4_take 101 = .ok (.iload 7, 2) := by decide +kernel
theorem dX4_take_103 : decode cX4_take 103 = .ok (.iload 5, 2) := by decide +kernel
theorem dX4_take_105 : decode cX4_take 105 = .ok (.if_icmp .ge 39, 3) := by decide +kernel
theorem dX4_take_108 : decode cX4_take 108 = .ok (.aload_n 0, 1) := by decide +kernel
theorem dX4_take_109 : decode cX4_take 109 = .ok (.getfield 25, 3) := by decide +kernel
theorem dX4_take_112 : decode cX4_take 112 = .ok (.iload 4, 2) := by decide +kernel
theorem dX4_take_114 : decode cX4_take 114 = .ok (.iload 7, 2) := by decide +kernel
theorem dX4_take_116 : decode cX4_take 116 = .ok (.iadd, 1) := by decide +kernel
theorem dX4_take_117 : decode cX4_take 117 = .ok (.dup2, 1) := by decide +kernel
theorem dX4_take_118 : decode cX4_take 118 = .ok (.iaload, 1) := by decide +kernel
theorem dX4_take_119 : decode cX4_take 119 = .ok (.iload 6, 2) := by decide +kernel
theorem dX4_take_121 : decode cX4_take 121 = .ok (.iand, 1) := by decide +kernel
theorem dX4_take_122 : decode cX4_take 122 = .ok (.iastore, 1) := by decide +kernel
theorem dX4_take_123 : decode cX4_take 123 = .ok (.aload_n 0, 1) := by decide +kernel
theorem dX4_take_124 : decode cX4_take 124 = .ok (.getfield 28, 3) := by decide +kernel
theorem dX4_take_127 : decode cX4_take 127 = .ok (.iload 4, 2) := by decide +kernel
theorem dX4_take_129 : decode cX4_take 129 = .ok (.iload 7, 2) := by decide +kernel
theorem dX4_take_131 : decode cX4_take 131 = .ok (.iadd, 1) := by decide +kernel
theorem dX4_take_132 : decode cX4_take 132 = .ok (.dup2, 1) := by decide +kernel
theorem dX4_take_133 : decode cX4_take 133 = .ok (.iaload, 1) := by decide +kernel
theorem dX4_take_134 : decode cX4_take 134 = .ok (.iload 6, 2) := by decide +kernel
theorem dX4_take_136 : decode cX4_take 136 = .ok (.iand, 1) := by decide +kernel
theorem dX4_take_137 : decode cX4_take 137 = .ok (.iastore, 1) := by decide +kernel
theorem dX4_take_138 : decode cX4_take 138 = .ok (.iinc 7 1, 3) := by decide +kernel
theorem dX4_take_141 : decode cX4_take 141 = .ok (.goto (-40), 3) := by decide +kernel
theorem dX4_take_144 : decode cX4_take 144 = .ok (.iload 5, 2) := by decide +kernel
theorem dX4_take_146 : decode cX4_take 146 = .ok (.ireturn, 1) := by decide +kernel
set_option maxRecDepth 20000 in
theorem ggX4_noteWith_X6_isWithin : GoodIn wsX4_noteWith wsX6_isWithin := goodIn_r _ [7] (by decide +kernel) (by decide +kernel)
set_option maxRecDepth 20000 in
theorem gX4_noteWith_X6_isWithin_n81 : GoodIn wsX4_noteWith (wsX6_isWithin) := ggX4_noteWith_X6_isWithin
theorem dX4_noteWith_0 : decode cX4_noteWith 0 = .ok (.iconst 0, 1) := by decide +kernel
theorem dX4_noteWith_1 : decode cX4_noteWith 1 = .ok (.istore_n 3, 1) := by decide +kernel
theorem dX4_noteWith_2 : decode cX4_noteWith 2 = .ok (.iload_n 3, 1) := by decide +kernel
theorem dX4_noteWith_3 : decode cX4_noteWith 3 = .ok (.aload_n 0, 1) := by decide +kernel
theorem dX4_noteWith_4 : decode cX4_noteWith 4 = .ok (.getfield 21, 3) := by decide +kernel
theorem dX4_noteWith_7 : decode cX4_noteWith 7 = .ok (.if_icmp .ge 44, 3) := by decide +kernel
theorem dX4_noteWith_10 : decode cX4_noteWith 10 = .ok (.aload_n 0, 1) := by decide +kernel
theorem dX4_noteWith_11 : decode cX4_noteWith 11 = .ok (.getfield 9, 3) := by decide +kernel
theorem dX4_noteWith_14 : decode cX4_noteWith 14 = .ok (.iload_n 3, 1) := by decide +kernel
theorem dX4_noteWith_15 : decode cX4_noteWith 15 = .ok (.iaload, 1) := by decide +kernel
theorem dX4_noteWith_16 : decode cX4_noteWith 16 = .ok (.iload_n 1, 1) := by decide +kernel
theorem dX4_noteWith_17 : decode cX4_noteWith 17 = .ok (.if_icmp .ne 28, 3) := by decide +kernel
theorem dX4_noteWith_20 : decode cX4_noteWith 20 = .ok (.iload_n 2, 1) := by decide +kernel
theorem dX4_noteWith_21 : decode cX4_noteWith 21 = .ok (.aload_n 0, 1) := by decide +kernel
theorem dX4_noteWith_22 : decode cX4_noteWith 22 = .ok (.getfield 15, 3) := by decide +kernel
theorem dX4_noteWith_25 : decode cX4_noteWith 25 = .ok (.iload_n 3, 1) := by decide +kernel
theorem dX4_noteWith_26 : decode cX4_noteWith 26 = .ok (.iaload, 1) := by decide +kernel
theorem dX4_noteWith_27 : decode cX4_noteWith 27 = .ok (.isub, 1) := by decide +kernel
theorem dX4_noteWith_28 : decode cX4_noteWith 28 = .ok (.iconst 0, 1) := by decide +kernel
theorem dX4_noteWith_29 : decode cX4_noteWith 29 = .ok (.aload_n 0, 1) := by decide +kernel
theorem dX4_noteWith_30 : decode cX4_noteWith 30 = .ok (.getfield 18, 3) := by decide +kernel
theorem dX4_noteWith_33 : decode cX4_noteWith 33 = .ok (.iload_n 3, 1) := by decide +kernel
theorem dX4_noteWith_34 : decode cX4_noteWith 34 = .ok (.iaload, 1) := by decide +kernel
theorem dX4_noteWith_35 : decode cX4_noteWith 35 = .ok (.iconst 1, 1) := by decide +kernel
theorem dX4_noteWith_36 : decode cX4_noteWith 36 = .ok (.isub, 1) := by decide +kernel
theorem dX4_noteWith_37 : decode cX4_noteWith 37 = .ok (.invokestatic 81, 3) := by decide +kernel
theorem dX4_noteWith_40 : decode cX4_noteWith 40 = .ok (.ifCond .eq 5, 3) := by decide +kernel
theorem dX4_noteWith_43 : decode cX4_noteWith 43 = .ok (.iload_n 3, 1) := by decide +kernel
theorem dX4_noteWith_44 : decode cX4_noteWith 44 = .ok (.ireturn, 1) := by decide +kernel
theorem dX4_noteWith_45 : decode cX4_noteWith 45 = .ok (.iinc 3 1, 3) := by decide +kernel
theorem dX4_noteWith_48 : decode cX4_noteWith 48 = .ok (.goto (-46), 3) := by decide +kernel
theorem dX4_noteWith_51 : decode cX4_noteWith 51 = .ok (.iconst (-1), 1) := by decide +kernel
theorem dX4_noteWith_52 : decode cX4_noteWith 52 = .ok (.ireturn, 1) := by decide +kernel
set_option maxRecDepth 20000 in
theorem ggX4_moveToPitch_X4_take : GoodIn wsX4_moveToPitch wsX4_take := goodIn_r _ [5, 6, 7, 8, 9, 10, 11, 12, 13, 14, 4, 15, 16, 17, 18, 19, 20, 21, 22, 63, 64, 65, 66, 67, 68, 69, 70] (by decide +kernel) (by decide +kernel)
set_option maxRecDepth 20000 in
theorem gX4_moveToPitch_X4_take : GoodIn wsX4_moveToPitch (wsV RX4 84 RX4 yX4_take wsX4_take) := goodIn_app (goodIn_of _ (by decide +kernel)) ggX4_moveToPitch_X4_take
set_option maxRecDepth 20000 in
theorem ggX4_moveToPitch_X4_putIfAllowed : GoodIn wsX4_moveToPitch wsX4_putIfAllowed := goodIn_r _ [26, 27, 28, 29, 4, 30, 31, 32, 33, 34, 35, 36, 37, 10, 38, 39, 40, 41, 11, 42, 43, 44, 45, 46, 47, 48, 49, 50, 51, 52, 53, 54, 55, 56, 57, 58, 8, 9, 6, 7, 59, 60, 61, 62, 19, 20, 21, 22, 63, 64, 65, 66, 67, 68, 69, 70] (by decide +kernel) (by decide +kernel)
set_option maxRecDepth 20000 in
theorem gX4_moveToPitch_X4_putIfAllowed : GoodIn wsX4_moveToPitch (wsV RX4 87 RX4 yX4_putIfAllowed wsX4_putIfAllowed) := goodIn_app (goodIn_of _ (by decide +kernel)) ggX4_moveToPitch_X4_putIfAllowed
set_option maxRecDepth 20000 in
theorem ggX4_moveToPitch_X4_put : GoodIn wsX4_moveToPitch wsX4_put := goodIn_r _ [58, 8, 9, 6, 7, 10, 11, 59, 60, 61, 4, 62, 19, 20, 21, 22, 42, 43, 44, 63, 64, 65, 66, 67, 68, 69, 70] (by decide +kernel) (by decide +kernel)
set_option maxRecDepth 20000 in
theorem gX4_moveToPitch_X4_put : GoodIn wsX4_moveToPitch (wsV RX4 44 RX4 yX4_put wsX4_put) := goodIn_app (goodIn_of _ (by decide +kernel)) ggX4_moveToPitch_X4_put
theorem dX4_moveToPitch_0 : decode cX4_moveToPitch 0 = .ok (.aload_n 0, 1) := by decide +kernel
theorem dX4_moveToPitch_1 : decode cX4_moveToPitch 1 = .ok (.iload_n 1, 1) := by decide +kernel
theorem dX4_moveToPitch_2 : decode cX4_moveToPitch 2 = .ok (.iload_n 2, 1) := by decide +kernel
theorem dX4_moveToPitch_3 : decode cX4_moveToPitch 3 = .ok (.invokevirtual 84, 3) := by decide +kernel
theorem dX4_moveToPitch_6 : decode cX4_moveToPitch 6 = .ok (.istore 4, 2) := by decide +kernel
theorem dX4_moveToPitch_8 : decode cX4_moveToPitch 8 = .ok (.iload 4, 2) := by decide +kernel
theorem dX4_moveToPitch_10 : decode cX4_moveToPitch 10 = .ok (.iconst (-1), 1) := by decide +kernel
theorem dX4_moveToPitch_11 : decode cX4_moveToPitch 11 = .ok (.if_icmp .ne 5, 3) := by decide +kernel
theorem dX4_moveToPitch_14 : decode cX4_moveToPitch 14 = .ok (.iconst 0, 1) := by decide +kernel
theorem dX4_moveToPitch_15 : decode cX4_moveToPitch 15 = .ok (.ireturn, 1) := by decide +kernel
theorem dX4_moveToPitch_16 : decode cX4_moveToPitch 16 = .ok (.aload_n 0, 1) := by decide +kernel
theorem dX4_moveToPitch_17 : decode cX4_moveToPitch 17 = .ok (.iload_n 3, 1) := by decide +kernel
theorem dX4_moveToPitch_18 : decode cX4_moveToPitch 18 = .ok (.iload_n 2, 1) := by decide +kernel
theorem dX4_moveToPitch_19 : decode cX4_moveToPitch 19 = .ok (.iload 4, 2) := by decide +kernel
theorem dX4_moveToPitch_21 : decode cX4_moveToPitch 21 = .ok (.invokevirtual 87, 3) := by decide +kernel
theorem dX4_moveToPitch_24 : decode cX4_moveToPitch 24 = .ok (.iconst 1, 1) := by decide +kernel
theorem dX4_moveToPitch_25 : decode cX4_moveToPitch 25 = .ok (.if_icmp .ne 5, 3) := by decide +kernel
theorem dX4_moveToPitch_28 : decode cX4_moveToPitch 28 = .ok (.iconst 1, 1) := by decide +kernel
theorem dX4_moveToPitch_29 : decode cX4_moveToPitch 29 = .ok (.ireturn, 1) := by decide +kernel
theorem dX4_moveToPitch_30 : decode cX4_moveToPitch 30 = .ok (.aload_n 0, 1) := by decide +kernel
theorem dX4_moveToPitch_31 : decode cX4_moveToPitch 31 = .ok (.iload_n 1, 1) := by decide +kernel
theorem dX4_moveToPitch_32 : decode cX4_moveToPitch 32 = .ok (.iload_n 2, 1) := by decide +kernel
theorem dX4_moveToPitch_33 : decode cX4_moveToPitch 33 = .ok (.iload 4, 2) := by decide +kernel
theorem dX4_moveToPitch_35 : decode cX4_moveToPitch 35 = .ok (.invokevirtual 44, 3) := by decide +kernel
theorem dX4_moveToPitch_38 : decode cX4_moveToPitch 38 = .ok (.iconst 0, 1) := by decide +kernel
theorem dX4_moveToPitch_39 : decode cX4_moveToPitch 39 = .ok (.ireturn, 1) := by decide +kernel
theorem dX4_mark_0 : decode cX4_mark 0 = .ok (.aload_n 0, 1) := by decide +kernel
theorem dX4_mark_1 : decode cX4_mark 1 = .ok (.getfield 31, 3) := by decide +kernel
theorem dX4_mark_4 : decode cX4_mark 4 = .ok (.iload_n 1, 1) := by decide +kernel
theorem dX4_mark_5 : decode cX4_mark 5 = .ok (.iaload, 1) := by decide +kernel
theorem dX4_mark_6 : decode cX4_mark 6 = .ok (.ifCond .ne 24, 3) := by decide +kernel
theorem dX4_mark_9 : decode cX4_mark 9 = .ok (.aload_n 0, 1) := by decide +kernel
theorem dX4_mark_10 : decode cX4_mark 10 = .ok (.getfield 34, 3) := by decide +kernel
theorem dX4_mark_13 : decode cX4_mark 13 = .ok (.bipush 10, 2) := by decide +kernel
theorem dX4_mark_15 : decode cX4_mark 15 = .ok (.if_icmp .lt 5, 3) := by decide +kernel
theorem dX4_mark_18 : decode cX4_mark 18 = .ok (.iconst (-1), 1) := by decide +kernel
theorem dX4_mark_19 : decode cX4_mark 19 = .ok (.ireturn, 1) := by decide +kernel
theorem dX4_mark_20 : decode cX4_mark 20 = .ok (.aload_n 0, 1) := by decide +kernel
theorem dX4_mark_21 : decode cX4_mark 21 = .ok (.dup, 1) := by decide +kernel
theorem dX4_mark_22 : decode cX4_mark 22 = .ok (.getfield 34, 3) := by decide +kernel
theorem dX4_mark_25 : decode cX4_mark 25 = .ok (.iconst 1, 1) := by decide +kernel
theorem dX4_mark_26 : decode cX4_mark 26 = .ok (.iadd, 1) := by decide +kernel
theorem dX4_mark_27 : decode cX4_mark 27 = .ok (.putfield 34, 3) := by decide +kernel
theorem dX4_mark_30 : decode cX4_mark 30 = .ok (.aload_n 0, 1) := by decide +kernel
theorem dX4_mark_31 : decode cX4_mark 31 = .ok (.getfield 31, 3) := by decide +kernel
theorem dX4_mark_34 : decode cX4_mark 34 = .ok (.iload_n 1, 1) := by decide +kernel
theorem dX4_mark_35 : decode cX4_mark 35 = .ok (.iload_n 2, 1) := by decide +kernel
theorem dX4_mark_36 : decode cX4_mark 36 = .ok (.iastore, 1) := by decide +kernel
theorem dX4_mark_37 : decode cX4_mark 37 = .ok (.aload_n 0, 1) := by decide +kernel
theorem dX4_mark_38 : decode cX4_mark 38 = .ok (.getfield 34, 3) := by decide +kernel
theorem dX4_mark_41 : decode cX4_mark 41 = .ok (.ireturn, 1) := by decide +kernel
theorem dX4_ticksOf_0 : decode cX4_ticksOf 0 = .ok (.aload_n 0, 1) := by decide +kernel
theorem dX4_ticksOf_1 : decode cX4_ticksOf 1 = .ok (.getfield 31, 3) := by decide +kernel
theorem dX4_ticksOf_4 : decode cX4_ticksOf 4 = .ok (.iload_n 1, 1) := by decide +kernel
theorem dX4_ticksOf_5 : decode cX4_ticksOf 5 = .ok (.iaload, 1) := by decide +kernel
theorem dX4_ticksOf_6 : decode cX4_ticksOf 6 = .ok (.ifCond .eq 10, 3) := by decide +kernel
theorem dX4_ticksOf_9 : decode cX4_ticksOf 9 = .ok (.aload_n 0, 1) := by decide +kernel
theorem dX4_ticksOf_10 : decode cX4_ticksOf 10 = .ok (.getfield 31, 3) := by decide +kernel
theorem dX4_ticksOf_13 : decode cX4_ticksOf 13 = .ok (.iload_n 1, 1) := by decide +kernel
theorem dX4_ticksOf_14 : decode cX4_ticksOf 14 = .ok (.iaload, 1) := by decide +kernel
theorem dX4_ticksOf_15 : decode cX4_ticksOf 15 = .ok (.ireturn, 1) := by decide +kernel
theorem dX4_ticksOf_16 : decode cX4_ticksOf 16 = .ok (.iload_n 1, 1) := by decide +kernel
theorem dX4_ticksOf_17 : decode cX4_ticksOf 17 = .ok (.ifCond .ne 7, 3) := by decide +kernel
theorem dX4_ticksOf_20 : decode cX4_ticksOf 20 = .ok (.iconst 2, 1) := by decide +kernel
theorem dX4_ticksOf_21 : decode cX4_ticksOf 21 = .ok (.goto 4, 3) := by decide +kernel
theorem dX4_ticksOf_24 : decode cX4_ticksOf 24 = .ok (.iload_n 2, 1) := by decide +kernel
theorem dX4_ticksOf_25 : decode cX4_ticksOf 25 = .ok (.ireturn, 1) := by decide +kernel
set_option maxRecDepth 20000 in
theorem ggX4_ticksOfAllSteps_X4_ticksOf : GoodIn wsX4_ticksOfAllSteps wsX4_ticksOf := goodIn_r _ [5, 6, 7, 8, 9, 10, 11, 12, 13, 14] (by decide +kernel) (by decide +kernel)
set_option maxRecDepth 20000 in
theorem gX4_ticksOfAllSteps_X4_ticksOf : GoodIn wsX4_ticksOfAllSteps (wsV RX4 91 RX4 yX4_ticksOf wsX4_ticksOf) := goodIn_app (goodIn_of _ (by decide +kernel)) ggX4_ticksOfAllSteps_X4_ticksOf
theorem dX4_ticksOfAllSteps_0 : decode cX4_ticksOfAllSteps 0 = .ok (.iconst 0, 1) := by decide +kernel
theorem dX4_ticksOfAllSteps_1 : decode cX4_ticksOfAllSteps 1 = .ok (.istore_n 1, 1) := by decide +kernel
theorem dX4_ticksOfAllSteps_2 : decode cX4_ticksOfAllSteps 2 = .ok (.iconst 0, 1) := by decide +kernel
theorem dX4_ticksOfAllSteps_3 : decode cX4_ticksOfAllSteps 3 = .ok (.istore_n 2, 1) := by decide +kernel
theorem dX4_ticksOfAllSteps_4 : decode cX4_ticksOfAllSteps 4 = .ok (.iconst 0, 1) := by decide +kernel
theorem dX4_ticksOfAllSteps_5 : decode cX4_ticksOfAllSteps 5 = .ok (.istore_n 3, 1) := by decide +kernel
theorem dX4_ticksOfAllSteps_6 : decode cX4_ticksOfAllSteps 6 = .ok (.iload_n 3, 1) := by decide +kernel
theorem dX4_ticksOfAllSteps_7 : decode cX4_ticksOfAllSteps 7 = .ok (.sipush 300, 3) := by decide +kernel
theorem dX4_ticksOfAllSteps_10 : decode cX4_ticksOfAllSteps 10 = .ok (.if_icmp .ge 20, 3) := by decide +kernel
theorem dX4_ticksOfAllSteps_13 : decode cX4_ticksOfAllSteps 13 = .ok (.aload_n 0, 1) := by decide +kernel
theorem dX4_ticksOfAllSteps_14 : decode cX4_ticksOfAllSteps 14 = .ok (.iload_n 3, 1) := by decide +kernel
theorem dX4_ticksOfAllSteps_15 : decode cX4_ticksOfAllSteps 15 = .ok (.iload_n 2, 1) := by decide +kernel
theorem dX4_ticksOfAllSteps_16 : decode cX4_ticksOfAllSteps 16 = .ok (.invokevirtual 91, 3) := by decide +kernel
theorem dX4_ticksOfAllSteps_19 : decode cX4_ticksOfAllSteps 19 = .ok (.istore_n 2, 1) := by decide +kernel
theorem dX4_ticksOfAllSteps_20 : decode cX4_ticksOfAllSteps 20 = .ok (.iload_n 1, 1) := by decide +kernel
theorem dX4_ticksOfAllSteps_21 : decode cX4_ticksOfAllSteps 21 = .ok (.iload_n 2, 1) := by decide +kernel
theorem dX4_ticksOfAllSteps_22 : decode cX4_ticksOfAllSteps 22 = .ok (.iadd, 1) := by decide +kernel
theorem dX4_ticksOfAllSteps_23 : decode cX4_ticksOfAllSteps 23 = .ok (.istore_n 1, 1) := by decide +kernel
theorem dX4_ticksOfAllSteps_24 : decode cX4_ticksOfAllSteps 24 = .ok (.iinc 3 1, 3) := by decide +kernel
theorem dX4_ticksOfAllSteps_27 : decode cX4_ticksOfAllSteps 27 = .ok (.goto (-21), 3) := by decide +kernel
theorem dX4_ticksOfAllSteps_30 : decode cX4_ticksOfAllSteps 30 = .ok (.iload_n 1, 1) := by decide +kernel
theorem dX4_ticksOfAllSteps_31 : decode cX4_ticksOfAllSteps 31 = .ok (.ireturn, 1) := by decide +kernel
theorem dX4_takeTempoOf_0 : decode cX4_takeTempoOf 0 = .ok (.aload_n 1, 1) := by decide +kernel
theorem dX4_takeTempoOf_1 : decode cX4_takeTempoOf 1 = .ok (.getfield 31, 3) := by decide +kernel
theorem dX4_takeTempoOf_4 : decode cX4_takeTempoOf 4 = .ok (.iconst 0, 1) := by decide +kernel
theorem dX4_takeTempoOf_5 : decode cX4_takeTempoOf 5 = .ok (.aload_n 0, 1) := by decide +kernel
theorem dX4_takeTempoOf_6 : decode cX4_takeTempoOf 6 = .ok (.getfield 31, 3) := by decide +kernel
theorem dX4_takeTempoOf_9 : decode cX4_takeTempoOf 9 = .ok (.iconst 0, 1) := by decide +kernel
theorem dX4_takeTempoOf_10 : decode cX4_takeTempoOf 10 = .ok (.sipush 300, 3) := by decide +kernel
theorem dX4_takeTempoOf_13 : decode cX4_takeTempoOf 13 = .ok (.invokestatic 94, 3) := by decide +kernel
theorem dX4_takeTempoOf_16 : decode cX4_takeTempoOf 16 = .ok (.aload_n 0, 1) := by decide +kernel
theorem dX4_takeTempoOf_17 : decode cX4_takeTempoOf 17 = .ok (.aload_n 1, 1) := by decide +kernel
theorem dX4_takeTempoOf_18 : decode cX4_takeTempoOf 18 = .ok (.getfield 34, 3) := by decide +kernel
theorem dX4_takeTempoOf_21 : decode cX4_takeTempoOf 21 = .ok (.putfield 34, 3) := by decide +kernel
theorem dX4_takeTempoOf_24 : decode cX4_takeTempoOf 24 = .ok (.return_, 1) := by decide +kernel
set_option maxRecDepth 20000 in
theorem ggX4_takeNotesOf_X4_onSmallBar : GoodIn wsX4_takeNotesOf wsX4_onSmallBar := goodIn_r _ [8] (by decide +kernel) (by decide +kernel)
set_option maxRecDepth 20000 in
theorem gX4_takeNotesOf_X4_onSmallBar : GoodIn wsX4_takeNotesOf (va_wsS RX4 100 yX4_onSmallBar wsX4_onSmallBar) := goodIn_app (goodIn_of _ (by decide +kernel)) ggX4_takeNotesOf_X4_onSmallBar
set_option maxRecDepth 20000 in
theorem ggX4_takeNotesOf_X4_putIfAllowed : GoodIn wsX4_takeNotesOf wsX4_putIfAllowed := goodIn_r _ [12, 13, 14, 15, 7, 16, 17, 18, 19, 20, 21, 22, 23, 24, 25, 26, 27, 28, 29, 30, 31, 32, 33, 34, 35, 36, 37, 38, 39, 40, 41, 42, 43, 44, 45, 46, 1, 2, 3, 4, 47, 48, 49, 50, 51, 52, 53, 54, 55, 56, 57, 58, 59, 60, 61, 62] (by decide +kernel) (by decide +kernel)
set_option maxRecDepth 20000 in
theorem gX4_takeNotesOf_X4_putIfAllowed : GoodIn wsX4_takeNotesOf (wsV RX4 87 RX4 yX4_putIfAllowed wsX4_putIfAllowed) := goodIn_app (goodIn_of _ (by decide +kernel)) ggX4_takeNotesOf_X4_putIfAllowed
theorem dX4_takeNotesOf_0 : decode cX4_takeNotesOf 0 = .ok (.iconst 0, 1) := by decide +kernel
theorem dX4_takeNotesOf_1 : decode cX4_takeNotesOf 1 = .ok (.istore_n 2, 1) := by decide +kernel
theorem dX4_takeNotesOf_2 : decode cX4_takeNotesOf 2 = .ok (.iconst 0, 1) := by decide +kernel
theorem dX4_takeNotesOf_3 : decode cX4_takeNotesOf 3 = .ok (.istore_n 3, 1) := by decide +kernel
theorem dX4_takeNotesOf_4 : decode cX4_takeNotesOf 4 = .ok (.iload_n 3, 1) := by decide +kernel
theorem dX4_takeNotesOf_5 : decode cX4_takeNotesOf 5 = .ok (.aload_n 1, 1) := by decide +kernel
theorem dX4_takeNotesOf_6 : decode cX4_takeNotesOf 6 = .ok (.getfield 21, 3) := by decide +kernel
theorem dX4_takeNotesOf_9 : decode cX4_takeNotesOf 9 = .ok (.if_icmp .ge 45, 3) := by decide +kernel
theorem dX4_takeNotesOf_12 : decode cX4_takeNotesOf 12 = .ok (.aload_n 1, 1) := by decide +kernel
theorem dX4_takeNotesOf_13 : decode cX4_takeNotesOf 13 = .ok (.getfield 9, 3) := by decide +kernel
theorem dX4_takeNotesOf_16 : decode cX4_takeNotesOf 16 = .ok (.iload_n 3, 1) := by decide +kernel
theorem dX4_takeNotesOf_17 : decode cX4_takeNotesOf 17 = .ok (.iaload, 1) := by decide +kernel
theorem dX4_takeNotesOf_18 : decode cX4_takeNotesOf 18 = .ok (.invokestatic 100, 3) := by decide +kernel
theorem dX4_takeNotesOf_21 : decode cX4_takeNotesOf 21 = .ok (.istore 4, 2) := by decide +kernel
theorem dX4_takeNotesOf_23 : decode cX4_takeNotesOf 23 = .ok (.aload_n 0, 1) := by decide +kernel
theorem dX4_takeNotesOf_24 : decode cX4_takeNotesOf 24 = .ok (.iload 4, 2) := by decide +kernel
theorem dX4_takeNotesOf_26 : decode cX4_takeNotesOf 26 = .ok (.aload_n 1, 1) := by decide +kernel
theorem dX4_takeNotesOf_27 : decode cX4_takeNotesOf 27 = .ok (.getfield 15, 3) := by decide +kernel
theorem dX4_takeNotesOf_30 : decode cX4_takeNotesOf 30 = .ok (.iload_n 3, 1) := by decide +kernel
theorem dX4_takeNotesOf_31 : decode cX4_takeNotesOf 31 = .ok (.iaload, 1) := by decide +kernel
theorem dX4_takeNotesOf_32 : decode cX4_takeNotesOf 32 = .ok (.aload_n 1, 1) := by decide +kernel
theorem dX4_takeNotesOf_33 : decode cX4_takeNotesOf 33 = .ok (.getfield 18, 3) := by decide +kernel
theorem dX4_takeNotesOf_36 : decode cX4_takeNotesOf 36 = .ok (.iload_n 3, 1) := by decide +kernel
theorem dX4_takeNotesOf_37 : decode cX4_takeNotesOf 37 = .ok (.iaload, 1) := by decide +kernel
theorem dX4_takeNotesOf_38 : decode cX4_takeNotesOf 38 = .ok (.invokevirtual 87, 3) := by decide +kernel
theorem dX4_takeNotesOf_41 : decode cX4_takeNotesOf 41 = .ok (.iconst 1, 1) := by decide +kernel
theorem dX4_takeNotesOf_42 : decode cX4_takeNotesOf 42 = .ok (.if_icmp .eq 6, 3) := by decide +kernel
theorem dX4_takeNotesOf_45 : decode cX4_takeNotesOf 45 = .ok (.iinc 2 1, 3) := by decide +kernel
theorem dX4_takeNotesOf_48 : decode cX4_takeNotesOf 48 = .ok (.iinc 3 1, 3) := by decide +kernel
theorem dX4_takeNotesOf_51 : decode cX4_takeNotesOf 51 = .ok (.goto (-47), 3) := by decide +kernel
theorem dX4_takeNotesOf_54 : decode cX4_takeNotesOf 54 = .ok (.iload_n 2, 1) := by decide +kernel
theorem dX4_takeNotesOf_55 : decode cX4_takeNotesOf 55 = .ok (.ireturn, 1) := by decide +kernel
theorem dX4_onSmallBar_0 : decode cX4_onSmallBar 0 = .ok (.iload_n 0, 1) := by decide +kernel
theorem dX4_onSmallBar_1 : decode cX4_onSmallBar 1 = .ok (.iconst 4, 1) := by decide +kernel
theorem dX4_onSmallBar_2 : decode cX4_onSmallBar 2 = .ok (.if_icmp .ge 8, 3) := by decide +kernel
theorem dX4_onSmallBar_5 : decode cX4_onSmallBar 5 = .ok (.iload_n 0, 1) := by decide +kernel
theorem dX4_onSmallBar_6 : decode cX4_onSmallBar 6 = .ok (.bipush 12, 2) := by decide +kernel
theorem dX4_onSmallBar_8 : decode cX4_onSmallBar 8 = .ok (.iadd, 1) := by decide +kernel
theorem dX4_onSmallBar_9 : decode cX4_onSmallBar 9 = .ok (.ireturn, 1) := by decide +kernel
theorem dX4_onSmallBar_10 : decode cX4_onSmallBar 10 = .ok (.iload_n 0, 1) := by decide +kernel
theorem dX4_onSmallBar_11 : decode cX4_onSmallBar 11 = .ok (.bipush 19, 2) := by decide +kernel
theorem dX4_onSmallBar_13 : decode cX4_onSmallBar 13 = .ok (.if_icmp .le 10, 3) := by decide +kernel
theorem dX4_onSmallBar_16 : decode cX4_onSmallBar 16 = .ok (.iload_n 0, 1) := by decide +kernel
theorem dX4_onSmallBar_17 : decode cX4_onSmallBar 17 = .ok (.bipush 12, 2) := by decide +kernel
theorem dX4_onSmallBar_19 : decode cX4_onSmallBar 19 = .ok (.isub, 1) := by decide +kernel
theorem dX4_onSmallBar_20 : decode cX4_onSmallBar 20 = .ok (.goto 4, 3) := by decide +kernel
theorem dX4_onSmallBar_23 : decode cX4_onSmallBar 23 = .ok (.iload_n 0, 1) := by decide +kernel
theorem dX4_onSmallBar_24 : decode cX4_onSmallBar 24 = .ok (.ireturn, 1) := by decide +kernel
theorem dX5_init_0 : decode cX5_init 0 = .ok (.aload_n 0, 1) := by decide +kernel
theorem dX5_init_1 : decode cX5_init 1 = .ok (.invokespecial 3, 3) := by decide +kernel
theorem dX5_init_4 : decode cX5_init 4 = .ok (.aload_n 0, 1) := by decide +kernel
theorem dX5_init_5 : decode cX5_init 5 = .ok (.bipush 40, 2) := by decide +kernel
theorem dX5_init_7 : decode cX5_init 7 = .ok (.newarray .int, 2) := by decide +kernel
theorem dX5_init_9 : decode cX5_init 9 = .ok (.putfield 9, 3) := by decide +kernel
theorem dX5_init_12 : decode cX5_init 12 = .ok (.aload_n 0, 1) := by decide +kernel
theorem dX5_init_13 : decode cX5_init 13 = .ok (.bipush 40, 2) := by decide +kernel
theorem dX5_init_15 : decode cX5_init 15 = .ok (.newarray .int, 2) := by decide +kernel
theorem dX5_init_17 : decode cX5_init 17 = .ok (.putfield 15, 3) := by decide +kernel
theorem dX5_init_20 : decode cX5_init 20 = .ok (.aload_n 0, 1) := by decide +kernel
theorem dX5_init_21 : decode cX5_init 21 = .ok (.iconst 0, 1) := by decide +kernel
theorem dX5_init_22 : decode cX5_init 22 = .ok (.putfield 18, 3) := by decide +kernel
theorem dX5_init_25 : decode cX5_init 25 = .ok (.return_, 1) := by decide +kernel
theorem dX5_size_0 : decode cX5_size 0 = .ok (.aload_n 0, 1) := by decide +kernel
theorem dX5_size_1 : decode cX5_size 1 = .ok (.getfield 18, 3) := by decide +kernel
theorem dX5_size_4 : decode cX5_size 4 = .ok (.ireturn, 1) := by decide +kernel
theorem dX5_pitchOf_0 : decode cX5_pitchOf 0 = .ok (.aload_n 0, 1) := by decide +kernel
theorem dX5_pitchOf_1 : decode cX5_pitchOf 1 = .ok (.getfield 9, 3) := by decide +kernel
theorem dX5_pitchOf_4 : decode cX5_pitchOf 4 = .ok (.iload_n 1, 1) := by decide +kernel
theorem dX5_pitchOf_5 : decode cX5_pitchOf 5 = .ok (.iaload, 1) := by decide +kernel
theorem dX5_pitchOf_6 : decode cX5_pitchOf 6 = .ok (.ireturn, 1) := by decide +kernel
theorem dX5_stepOf_0 : decode cX5_stepOf 0 = .ok (.aload_n 0, 1) := by decide +kernel
theorem dX5_stepOf_1 : decode cX5_stepOf 1 = .ok (.getfield 15, 3) := by decide +kernel
theorem dX5_stepOf_4 : decode cX5_stepOf 4 = .ok (.iload_n 1, 1) := by decide +kernel
theorem dX5_stepOf_5 : decode cX5_stepOf 5 = .ok (.iaload, 1) := by decide +kernel
theorem dX5_stepOf_6 : decode cX5_stepOf 6 = .ok (.ireturn, 1) := by decide +kernel
theorem dX5_append_0 : decode cX5_append 0 = .ok (.aload_n 0, 1) := by decide +kernel
theorem dX5_append_1 : decode cX5_append 1 = .ok (.getfield 18, 3) := by decide +kernel
theorem dX5_append_4 : decode cX5_append 4 = .ok (.bipush 40, 2) := by decide +kernel
theorem dX5_append_6 : decode cX5_append 6 = .ok (.if_icmp .ge 25, 3) := by decide +kernel
theorem dX5_append_9 : decode cX5_append 9 = .ok (.aload_n 0, 1) := by decide +kernel
theorem dX5_append_10 : decode cX5_append 10 = .ok (.getfield 18, 3) := by decide +kernel
theorem dX5_append_13 : decode cX5_append 13 = .ok (.ifCond .le 20, 3) := by decide +kernel
theorem dX5_append_16 : decode cX5_append 16 = .ok (.iload_n 2, 1) := by decide +kernel
theorem dX5_append_17 : decode cX5_append 17 = .ok (.aload_n 0, 1) := by decide +kernel
theorem dX5_append_18 : decode cX5_append 18 = .ok (.getfield 15, 3) := by decide +kernel
theorem dX5_append_21 : decode cX5_append 21 = .ok (.aload_n 0, 1) := by decide +kernel
theorem dX5_append_22 : decode cX5_append 22 = .ok (.getfield 18, 3) := by decide +kernel
theorem dX5_append_25 : decode cX5_append 25 = .ok (.iconst 1, 1) := by decide +kernel
theorem dX5_append_26 : decode cX5_append 26 = .ok (.isub, 1) := by decide +kernel
theorem dX5_append_27 : decode cX5_append 27 = .ok (.iaload, 1) := by decide +kernel
theorem dX5_append_28 : decode cX5_append 28 = .ok (.if_icmp .ge 5, 3) := by decide +kernel
theorem dX5_append_31 : decode cX5_append 31 = .ok (.iconst (-1), 1) := by decide +kernel
theorem dX5_append_32 : decode cX5_append 32 = .ok (.ireturn, 1) := by decide +kernel
theorem dX5_append_33 : decode cX5_append 33 = .ok (.aload_n 0, 1) := by decide +kernel
theorem dX5_append_34 : decode cX5_append 34 = .ok (.getfield 9, 3) := by decide +kernel
theorem dX5_append_37 : decode cX5_append 37 = .ok (.aload_n 0, 1) := by decide +kernel
theorem dX5_append_38 : decode cX5_append 38 = .ok (.getfield 18, 3) := by decide +kernel
theorem dX5_append_41 : decode cX5_append 41 = .ok (.iload_n 1, 1) := by decide +kernel
theorem dX5_append_42 : decode cX5_append 42 = .ok (.iastore, 1) := by decide +kernel
theorem dX5_append_43 : decode cX5_append 43 = .ok (.aload_n 0, 1) := by decide +kernel
theorem dX5_append_44 : decode cX5_append 44 = .ok (.getfield 15, 3) := by decide +kernel
theorem dX5_append_47 : decode cX5_append 47 = .ok (.aload_n 0, 1) := by decide +kernel
theorem dX5_append_48 : decode cX5_append 48 = .ok (.getfield 18, 3) := by decide +kernel
theorem dX5_append_51 : decode cX5_append 51 = .ok (.iload_n 2, 1) := by decide +kernel
theorem dX5_append_52 : decode cX5_append 52 = .ok (.iastore, 1) := by decide +kernel
theorem dX5_append_53 : decode cX5_append 53 = .ok (.aload_n 0, 1) := by decide +kernel
theorem dX5_append_54 : decode cX5_append 54 = .ok (.dup, 1) := by decide +kernel
theorem dX5_append_55 : decode cX5_append 55 = .ok (.getfield 18, 3) := by decide +kernel
theorem dX5_append_58 : decode cX5_append 58 = .ok (.iconst 1, 1) := by decide +kernel
theorem dX5_append_59 : decode cX5_append 59 = .ok (.iadd, 1) := by decide +kernel
theorem dX5_append_60 : decode cX5_append 60 = .ok (.putfield 18, 3) := by decide +kernel
theorem dX5_append_63 : decode cX5_append 63 = .ok (.aload_n 0, 1) := by decide +kernel
theorem dX5_append_64 : decode cX5_append 64 = .ok (.getfield 18, 3) := by decide +kernel
theorem dX5_append_67 : decode cX5_append 67 = .ok (.iconst 1, 1) := by decide +kernel
theorem dX5_append_68 : decode cX5_append 68 = .ok (.isub, 1) := by decide +kernel
theorem dX5_append_69 : decode cX5_append 69 = .ok (.ireturn, 1) := by decide +kernel
theorem dX5_forgetAll_0 : decode cX5_forgetAll 0 = .ok (.aload_n 0, 1) := by decide +kernel
theorem dX5_forgetAll_1 : decode cX5_forgetAll 1 = .ok (.iconst 0, 1) := by decide +kernel
theorem dX5_forgetAll_2 : decode cX5_forgetAll 2 = .ok (.putfield 18, 3) := by decide +kernel
theorem dX5_forgetAll_5 : decode cX5_forgetAll 5 = .ok (.return_, 1) := by decide +kernel
set_option maxRecDepth 20000 in
theorem ggX6_init_X1_init : GoodIn wsX6_init wsX1_init := goodIn_r _ [29, 30, 2, 3, 31, 32, 33, 75, 76, 77] (by decide +kernel) (by decide +kernel)
set_option maxRecDepth 20000 in
theorem gX6_init_X1_init : GoodIn wsX6_init (wsX1_init) := ggX6_init_X1_init
set_option maxRecDepth 20000 in
theorem ggX6_init_X5_init : GoodIn wsX6_init wsX5_init := goodIn_r _ [36, 37, 2, 3, 38, 39, 40, 41, 78, 79, 80] (by decide +kernel) (by decide +kernel)
set_option maxRecDepth 20000 in
theorem gX6_init_X5_init : GoodIn wsX6_init (wsX5_init) := ggX6_init_X5_init
set_option maxRecDepth 20000 in
theorem ggX6_init_X0_init : GoodIn wsX6_init wsX0_init := goodIn_r _ [44, 45, 2, 3, 38, 46, 47, 48, 49, 81, 82, 83, 84, 85, 86, 87, 88, 89] (by decide +kernel) (by decide +kernel)
set_option maxRecDepth 20000 in
theorem gX6_init_X0_init : GoodIn wsX6_init (wsX0_init) := ggX6_init_X0_init
set_option maxRecDepth 20000 in
theorem ggX6_init_X3_init : GoodIn wsX6_init wsX3_init := goodIn_r _ [52, 53, 2, 3, 38, 54, 55, 56, 90, 91, 92] (by decide +kernel) (by decide +kernel)
set_option maxRecDepth 20000 in
theorem gX6_init_X3_init : GoodIn wsX6_init (wsX3_init) := ggX6_init_X3_init
set_option maxRecDepth 20000 in
theorem ggX6_init_X2_init : GoodIn wsX6_init wsX2_init := goodIn_r _ [59, 60, 2, 3, 38, 61, 62, 63, 64, 65, 66, 67, 93, 94, 95, 96, 97, 98, 99] (by decide +kernel) (by decide +kernel)
set_option maxRecDepth 20000 in
theorem gX6_init_X2_init : GoodIn wsX6_init (wsX2_init) := ggX6_init_X2_init
theorem dX6_init_0 : decode cX6_init 0 = .ok (.aload_n 0, 1) := by decide +kernel
theorem dX6_init_1 : decode cX6_init 1 = .ok (.invokespecial 1, 3) := by decide +kernel
theorem dX6_init_4 : decode cX6_init 4 = .ok (.aload_n 0, 1) := by decide +kernel
theorem dX6_init_5 : decode cX6_init 5 = .ok (.bipush 6, 2) := by decide +kernel
theorem dX6_init_7 : decode cX6_init 7 = .ok (.anewarray 9, 3) := by decide +kernel
theorem dX6_init_10 : decode cX6_init 10 = .ok (.putfield 11, 3) := by decide +kernel
theorem dX6_init_13 : decode cX6_init 13 = .ok (.aload_n 0, 1) := by decide +kernel
theorem dX6_init_14 : decode cX6_init 14 = .ok (.iconst 0, 1) := by decide +kernel
theorem dX6_init_15 : decode cX6_init 15 = .ok (.putfield 15, 3) := by decide +kernel
theorem dX6_init_18 : decode cX6_init 18 = .ok (.aload_n 0, 1) := by decide +kernel
theorem dX6_init_19 : decode cX6_init 19 = .ok (.new 19, 3) := by decide +kernel
theorem dX6_init_22 : decode cX6_init 22 = .ok (.dup, 1) := by decide +kernel
theorem dX6_init_23 : decode cX6_init 23 = .ok (.invokespecial 21, 3) := by decide +kernel
theorem dX6_init_26 : decode cX6_init 26 = .ok (.putfield 22, 3) := by decide +kernel
theorem dX6_init_29 : decode cX6_init 29 = .ok (.aload_n 0, 1) := by decide +kernel
theorem dX6_init_30 : decode cX6_init 30 = .ok (.new 26, 3) := by decide +kernel
theorem dX6_init_33 : decode cX6_init 33 = .ok (.dup, 1) := by decide +kernel
theorem dX6_init_34 : decode cX6_init 34 = .ok (.invokespecial 28, 3) := by decide +kernel
theorem dX6_init_37 : decode cX6_init 37 = .ok (.putfield 29, 3) := by decide +kernel
theorem dX6_init_40 : decode cX6_init 40 = .ok (.aload_n 0, 1) := by decide +kernel
theorem dX6_init_41 : decode cX6_init 41 = .ok (.new 33, 3) := by decide +kernel
theorem dX6_init_44 : decode cX6_init 44 = .ok (.dup, 1) := by decide +kernel
theorem dX6_init_45 : decode cX6_init 45 = .ok (.invokespecial 35, 3) := by decide +kernel
theorem dX6_init_48 : decode cX6_init 48 = .ok (.putfield 36, 3) := by decide +kernel
theorem dX6_init_51 : decode cX6_init 51 = .ok (.aload_n 0, 1) := by decide +kernel
theorem dX6_init_52 : decode cX6_init 52 = .ok (.new 40, 3) := by decide +kernel
theorem dX6_init_55 : decode cX6_init 55 = .ok (.dup, 1) := by decide +kernel
theorem dX6_init_56 : decode cX6_init 56 = .ok (.invokespecial 42, 3) := by decide +kernel
theorem dX6_init_59 : decode cX6_init 59 = .ok (.putfield 43, 3) := by decide +kernel
theorem dX6_init_62 : decode cX6_init 62 = .ok (.aload_n 0, 1) := by decide +kernel
theorem dX6_init_63 : decode cX6_init 63 = .ok (.new 47, 3) := by decide +kernel
theorem dX6_init_66 : decode cX6_init 66 = .ok (.dup, 1) := by decide +kernel
theorem dX6_init_67 : decode cX6_init 67 = .ok (.invokespecial 49, 3) := by decide +kernel
theorem dX6_init_70 : decode cX6_init 70 = .ok (.putfield 50, 3) := by decide +kernel
theorem dX6_init_73 : decode cX6_init 73 = .ok (.return_, 1) := by decide +kernel
set_option maxRecDepth 20000 in
theorem ggX6_roll_X4_init : GoodIn wsX6_roll wsX4_init := goodIn_r _ [8, 9, 10, 11, 12, 13, 14, 15, 16, 17, 18, 19, 20, 28, 29, 30, 31, 32, 33, 34, 35] (by decide +kernel) (by decide +kernel)
set_option maxRecDepth 20000 in
theorem gX6_roll_X4_init : GoodIn wsX6_roll (wsX4_init) := ggX6_roll_X4_init
theorem dX6_roll_0 : decode cX6_roll 0 = .ok (.aload_n 0, 1) := by decide +kernel
theorem dX6_roll_1 : decode cX6_roll 1 = .ok (.getfield 15, 3) := by decide +kernel
theorem dX6_roll_4 : decode cX6_roll 4 = .ok (.bipush 6, 2) := by decide +kernel
theorem dX6_roll_6 : decode cX6_roll 6 = .ok (.if_icmp .lt 5, 3) := by decide +kernel
theorem dX6_roll_9 : decode cX6_roll 9 = .ok (.iconst (-1), 1) := by decide +kernel
theorem dX6_roll_10 : decode cX6_roll 10 = .ok (.ireturn, 1) := by decide +kernel
theorem dX6_roll_11 : decode cX6_roll 11 = .ok (.aload_n 0, 1) := by decide +kernel
theorem dX6_roll_12 : decode cX6_roll 12 = .ok (.getfield 11, 3) := by decide +kernel
theorem dX6_roll_15 : decode cX6_roll 15 = .ok (.aload_n 0, 1) := by decide +kernel
theorem dX6_roll_16 : decode cX6_roll 16 = .ok (.getfield 15, 3) := by decide +kernel
theorem dX6_roll_19 : decode cX6_roll 19 = .ok (.new 9, 3) := by decide +kernel
theorem dX6_roll_22 : decode cX6_roll 22 = .ok (.dup, 1) := by decide +kernel
theorem dX6_roll_23 : decode cX6_roll 23 = .ok (.invokespecial 54, 3) := by decide +kernel
theorem dX6_roll_26 : decode cX6_roll 26 = .ok (.aastore, 1) := by decide +kernel
theorem dX6_roll_27 : decode cX6_roll 27 = .ok (.aload_n 0, 1) := by decide +kernel
theorem dX6_roll_28 : decode cX6_roll 28 = .ok (.dup, 1) := by decide +kernel
theorem dX6_roll_29 : decode cX6_roll 29 = .ok (.getfield 15, 3) := by decide +kernel
theorem dX6_roll_32 : decode cX6_roll 32 = .ok (.iconst 1, 1) := by decide +kernel
theorem dX6_roll_33 : decode cX6_roll 33 = .ok (.iadd, 1) := by decide +kernel
theorem dX6_roll_34 : decode cX6_roll 34 = .ok (.putfield 15, 3) := by decide +kernel
theorem dX6_roll_37 : decode cX6_roll 37 = .ok (.aload_n 0, 1) := by decide +kernel
theorem dX6_roll_38 : decode cX6_roll 38 = .ok (.getfield 15, 3) := by decide +kernel
theorem dX6_roll_41 : decode cX6_roll 41 = .ok (.iconst 1, 1) := by decide +kernel
theorem dX6_roll_42 : decode cX6_roll 42 = .ok (.isub, 1) := by decide +kernel
theorem dX6_roll_43 : decode cX6_roll 43 = .ok (.ireturn, 1) := by decide +kernel
set_option maxRecDepth 20000 in
theorem ggX6_lay_X6_rollOf : GoodIn wsX6_lay wsX6_rollOf := goodIn_r _ [5, 6, 7, 8, 9, 4, 10, 72, 73, 74, 75, 76, 77, 78] (by decide +kernel) (by decide +kernel)
set_option maxRecDepth 20000 in
theorem gX6_lay_X6_rollOf : GoodIn wsX6_lay (wsV RX6 55 RX6 yX6_rollOf wsX6_rollOf) := goodIn_app (goodIn_of _ (by decide +kernel)) ggX6_lay_X6_rollOf
set_option maxRecDepth 20000 in
theorem ggX6_lay_X6_isPitch : GoodIn wsX6_lay wsX6_isPitch := goodIn_r _ [13, 8, 9, 4, 10] (by decide +kernel) (by decide +kernel)
set_option maxRecDepth 20000 in
theorem gX6_lay_X6_isPitch : GoodIn wsX6_lay (va_wsS RX6 59 yX6_isPitch wsX6_isPitch) := goodIn_app (goodIn_of _ (by decide +kernel)) ggX6_lay_X6_isPitch
set_option maxRecDepth 20000 in
theorem ggX6_lay_X6_isStep : GoodIn wsX6_lay wsX6_isStep := goodIn_r _ [16, 8, 9, 4, 10] (by decide +kernel) (by decide +kernel)
set_option maxRecDepth 20000 in
theorem gX6_lay_X6_isStep : GoodIn wsX6_lay (va_wsS RX6 63 yX6_isStep wsX6_isStep) := goodIn_app (goodIn_of _ (by decide +kernel)) ggX6_lay_X6_isStep
set_option maxRecDepth 20000 in
theorem ggX6_lay_X6_isWithin : GoodIn wsX6_lay wsX6_isWithin := goodIn_r _ [10] (by decide +kernel) (by decide +kernel)
set_option maxRecDepth 20000 in
theorem gX6_lay_X6_isWithin : GoodIn wsX6_lay (va_wsS RX6 66 yX6_isWithin wsX6_isWithin) := goodIn_app (goodIn_of _ (by decide +kernel)) ggX6_lay_X6_isWithin
set_option maxRecDepth 20000 in
theorem ggX6_lay_X4_noteCount : GoodIn wsX6_lay wsX4_noteCount := goodIn_r _ [21, 22, 79, 80, 81, 82, 83, 84, 85, 86] (by decide +kernel) (by decide +kernel)
set_option maxRecDepth 20000 in
theorem gX6_lay_X4_noteCount : GoodIn wsX6_lay (wsV RX6 70 RX4 yX4_noteCount wsX4_noteCount) := goodIn_app (goodIn_of _ (by decide +kernel)) ggX6_lay_X4_noteCount
set_option maxRecDepth 20000 in
theorem ggX6_lay_X4_putIfAllowed : GoodIn wsX6_lay wsX4_putIfAllowed := goodIn_r _ [26, 27, 28, 29, 20, 30, 31, 32, 33, 34, 35, 36, 37, 38, 39, 40, 41, 42, 43, 44, 45, 46, 47, 48, 49, 50, 51, 52, 53, 54, 55, 56, 57, 58, 59, 60, 22, 61, 62, 63, 64, 65, 66, 67, 68, 69, 70, 71, 79, 80, 81, 82, 83, 84, 85, 86] (by decide +kernel) (by decide +kernel)
set_option maxRecDepth 20000 in
theorem gX6_lay_X4_putIfAllowed : GoodIn wsX6_lay (wsV RX6 74 RX4 yX4_putIfAllowed wsX4_putIfAllowed) := goodIn_app (goodIn_of _ (by decide +kernel)) ggX6_lay_X4_putIfAllowed
theorem dX6_lay_0 : decode cX6_lay 0 = .ok (.aload_n 0, 1) := by decide +kernel
theorem dX6_lay_1 : decode cX6_lay 1 = .ok (.iload_n 1, 1) := by decide +kernel
theorem dX6_lay_2 : decode cX6_lay 2 = .ok (.invokevirtual 55, 3) := by decide +kernel
theorem dX6_lay_5 : decode cX6_lay 5 = .ok (.astore 5, 2) := by decide +kernel
theorem dX6_lay_7 : decode cX6_lay 7 = .ok (.aload 5, 2) := by decide +kernel
theorem dX6_lay_9 : decode cX6_lay 9 = .ok (.ifnull 28, 3) := by decide +kernel
theorem dX6_lay_12 : decode cX6_lay 12 = .ok (.iload_n 2, 1) := by decide +kernel
theorem dX6_lay_13 : decode cX6_lay 13 = .ok (.invokestatic 59, 3) := by decide +kernel
theorem dX6_lay_16 : decode cX6_lay 16 = .ok (.ifCond .eq 21, 3) := by decide +kernel
theorem dX6_lay_19 : decode cX6_lay 19 = .ok (.iload_n 3, 1) := by decide +kernel
theorem dX6_lay_20 : decode cX6_lay 20 = .ok (.invokestatic 63, 3) := by decide +kernel
theorem dX6_lay_23 : decode cX6_lay 23 = .ok (.ifCond .eq 14, 3) := by decide +kernel
theorem dX6_lay_26 : decode cX6_lay 26 = .ok (.iload 4, 2) := by decide +kernel
theorem dX6_lay_28 : decode cX6_lay 28 = .ok (.iconst 1, 1) := by decide +kernel
theorem dX6_lay_29 : decode cX6_lay 29 = .ok (.bipush 60, 2) := by decide +kernel
theorem dX6_lay_31 : decode cX6_lay 31 = .ok (.invokestatic 66, 3) := by decide +kernel
theorem dX6_lay_34 : decode cX6_lay 34 = .ok (.ifCond .ne 5, 3) := by decide +kernel
theorem dX6_lay_37 : decode cX6_lay 37 = .ok (.iconst (-1), 1) := by decide +kernel
theorem dX6_lay_38 : decode cX6_lay 38 = .ok (.ireturn, 1) := by decide +kernel
theorem dX6_lay_39 : decode cX6_lay 39 = .ok (.iload_n 3, 1) := by decide +kernel
theorem dX6_lay_40 : decode cX6_lay 40 = .ok (.iload 4, 2) := by decide +kernel
theorem dX6_lay_42 : decode cX6_lay 42 = .ok (.iadd, 1) := by decide +kernel
theorem dX6_lay_43 : decode cX6_lay 43 = .ok (.sipush 300, 3) := by decide +kernel
theorem dX6_lay_46 : decode cX6_lay 46 = .ok (.if_icmp .gt 13, 3) := by decide +kernel
theorem dX6_lay_49 : decode cX6_lay 49 = .ok (.aload 5, 2) := by decide +kernel
theorem dX6_lay_51 : decode cX6_lay 51 = .ok (.invokevirtual 70, 3) := by decide +kernel
theorem dX6_lay_54 : decode cX6_lay 54 = .ok (.bipush 60, 2) := by decide +kernel
theorem dX6_lay_56 : decode cX6_lay 56 = .ok (.if_icmp .lt 5, 3) := by decide +kernel
theorem dX6_lay_59 : decode cX6_lay 59 = .ok (.iconst (-1), 1) := by decide +kernel
theorem dX6_lay_60 : decode cX6_lay 60 = .ok (.ireturn, 1) := by decide +kernel
theorem dX6_lay_61 : decode cX6_lay 61 = .ok (.aload 5, 2) := by decide +kernel
theorem dX6_lay_63 : decode cX6_lay 63 = .ok (.iload_n 2, 1) := by decide +kernel
theorem dX6_lay_64 : decode cX6_lay 64 = .ok (.iload_n 3, 1) := by decide +kernel
theorem dX6_lay_65 : decode cX6_lay 65 = .ok (.iload 4, 2) := by decide +kernel
theorem dX6_lay_67 : decode cX6_lay 67 = .ok (.invokevirtual 74, 3) := by decide +kernel
theorem dX6_lay_70 : decode cX6_lay 70 = .ok (.ireturn, 1) := by decide +kernel
set_option maxRecDepth 20000 in
theorem ggX6_lift_X6_rollOf : GoodIn wsX6_lift wsX6_rollOf := goodIn_r _ [5, 6, 7, 8, 9, 4, 10, 36, 37, 38, 39, 40, 41, 42] (by decide +kernel) (by decide +kernel)
set_option maxRecDepth 20000 in
theorem gX6_lift_X6_rollOf : GoodIn wsX6_lift (wsV RX6 55 RX6 yX6_rollOf wsX6_rollOf) := goodIn_app (goodIn_of _ (by decide +kernel)) ggX6_lift_X6_rollOf
set_option maxRecDepth 20000 in
theorem ggX6_lift_X6_isPitch : GoodIn wsX6_lift wsX6_isPitch := goodIn_r _ [13, 8, 9, 4, 10] (by decide +kernel) (by decide +kernel)
set_option maxRecDepth 20000 in
theorem gX6_lift_X6_isPitch : GoodIn wsX6_lift (va_wsS RX6 59 yX6_isPitch wsX6_isPitch) := goodIn_app (goodIn_of _ (by decide +kernel)) ggX6_lift_X6_isPitch
set_option maxRecDepth 20000 in
theorem ggX6_lift_X6_isStep : GoodIn wsX6_lift wsX6_isStep := goodIn_r _ [16, 8, 9, 4, 10] (by decide +kernel) (by decide +kernel)
set_option maxRecDepth 20000 in
theorem gX6_lift_X6_isStep : GoodIn wsX6_lift (va_wsS RX6 63 yX6_isStep wsX6_isStep) := goodIn_app (goodIn_of _ (by decide +kernel)) ggX6_lift_X6_isStep
set_option maxRecDepth 20000 in
theorem ggX6_lift_X4_take : GoodIn wsX6_lift wsX4_take := goodIn_r _ [21, 22, 23, 24, 25, 26, 27, 28, 29, 30, 20, 31, 9, 4, 10, 32, 33, 34, 35, 43, 44, 45, 46, 47, 48, 49, 50] (by decide +kernel) (by decide +kernel)
set_option maxRecDepth 20000 in
theorem gX6_lift_X4_take : GoodIn wsX6_lift (wsV RX6 78 RX4 yX4_take wsX4_take) := goodIn_app (goodIn_of _ (by decide +kernel)) ggX6_lift_X4_take
theorem dX6_lift_0 : decode cX6_lift 0 = .ok (.aload_n 0, 1) := by decide +kernel
theorem dX6_lift_1 : decode cX6_lift 1 = .ok (.iload_n 1, 1) := by decide +kernel
theorem dX6_lift_2 : decode cX6_lift 2 = .ok (.invokevirtual 55, 3) := by decide +kernel
theorem dX6_lift_5 : decode cX6_lift 5 = .ok (.astore 4, 2) := by decide +kernel
theorem dX6_lift_7 : decode cX6_lift 7 = .ok (.aload 4, 2) := by decide +kernel
theorem dX6_lift_9 : decode cX6_lift 9 = .ok (.ifnull 17, 3) := by decide +kernel
theorem dX6_lift_12 : decode cX6_lift 12 = .ok (.iload_n 2, 1) := by decide +kernel
theorem dX6_lift_13 : decode cX6_lift 13 = .ok (.invokestatic 59, 3) := by decide +kernel
theorem dX6_lift_16 : decode cX6_lift 16 = .ok (.ifCond .eq 10, 3) := by decide +kernel
theorem dX6_lift_19 : decode cX6_lift 19 = .ok (.iload_n 3, 1) := by decide +kernel
theorem dX6_lift_20 : decode cX6_lift 20 = .ok (.invokestatic 63, 3) := by decide +kernel
theorem dX6_lift_23 : decode cX6_lift 23 = .ok (.ifCond .ne 5, 3) := by decide +kernel
theorem dX6_lift_26 : decode cX6_lift 26 = .ok (.iconst (-1), 1) := by decide +kernel
theorem dX6_lift_27 : decode cX6_lift 27 = .ok (.ireturn, 1) := by decide +kernel
theorem dX6_lift_28 : decode cX6_lift 28 = .ok (.aload 4, 2) := by decide +kernel
theorem dX6_lift_30 : decode cX6_lift 30 = .ok (.iload_n 2, 1) := by decide +kernel
theorem dX6_lift_31 : decode cX6_lift 31 = .ok (.iload_n 3, 1) := by decide +kernel
theorem dX6_lift_32 : decode cX6_lift 32 = .ok (.invokevirtual 78, 3) := by decide +kernel
theorem dX6_lift_35 : decode cX6_lift 35 = .ok (.ireturn, 1) := by decide +kernel
set_option maxRecDepth 20000 in
theorem ggX6_hole_X6_rollOf : GoodIn wsX6_hole wsX6_rollOf := goodIn_r _ [5, 6, 7, 8, 9, 4, 10, 24, 25, 26, 27, 28, 29, 30] (by decide +kernel) (by decide +kernel)
set_option maxRecDepth 20000 in
theorem gX6_hole_X6_rollOf : GoodIn wsX6_hole (wsV RX6 55 RX6 yX6_rollOf wsX6_rollOf) := goodIn_app (goodIn_of _ (by decide +kernel)) ggX6_hole_X6_rollOf
set_option maxRecDepth 20000 in
theorem ggX6_hole_X6_isPitch : GoodIn wsX6_hole wsX6_isPitch := goodIn_r _ [13, 8, 9, 4, 10] (by decide +kernel) (by decide +kernel)
set_option maxRecDepth 20000 in
theorem gX6_hole_X6_isPitch : GoodIn wsX6_hole (va_wsS RX6 59 yX6_isPitch wsX6_isPitch) := goodIn_app (goodIn_of _ (by decide +kernel)) ggX6_hole_X6_isPitch
set_option maxRecDepth 20000 in
theorem ggX6_hole_X6_isStep : GoodIn wsX6_hole wsX6_isStep := goodIn_r _ [16, 8, 9, 4, 10] (by decide +kernel) (by decide +kernel)
set_option maxRecDepth 20000 in
theorem gX6_hole_X6_isStep : GoodIn wsX6_hole (va_wsS RX6 63 yX6_isStep wsX6_isStep) := goodIn_app (goodIn_of _ (by decide +kernel)) ggX6_hole_X6_isStep
set_option maxRecDepth 20000 in
theorem ggX6_hole_X4_kindOfHole : GoodIn wsX6_hole wsX4_kindOfHole := goodIn_r _ [21, 22, 23, 31, 32, 33, 34, 35, 36, 37, 38] (by decide +kernel) (by decide +kernel)
set_option maxRecDepth 20000 in
theorem gX6_hole_X4_kindOfHole : GoodIn wsX6_hole (wsV RX6 82 RX4 yX4_kindOfHole wsX4_kindOfHole) := goodIn_app (goodIn_of _ (by decide +kernel)) ggX6_hole_X4_kindOfHole
theorem dX6_hole_0 : decode cX6_hole 0 = .ok (.aload_n 0, 1) := by decide +kernel
theorem dX6_hole_1 : decode cX6_hole 1 = .ok (.iload_n 1, 1) := by decide +kernel
theorem dX6_hole_2 : decode cX6_hole 2 = .ok (.invokevirtual 55, 3) := by decide +kernel
theorem dX6_hole_5 : decode cX6_hole 5 = .ok (.astore 4, 2) := by decide +kernel
theorem dX6_hole_7 : decode cX6_hole 7 = .ok (.aload 4, 2) := by decide +kernel
theorem dX6_hole_9 : decode cX6_hole 9 = .ok (.ifnull 17, 3) := by decide +kernel
theorem dX6_hole_12 : decode cX6_hole 12 = .ok (.iload_n 2, 1) := by decide +kernel
theorem dX6_hole_13 : decode cX6_hole 13 = .ok (.invokestatic 59, 3) := by decide +kernel
theorem dX6_hole_16 : decode cX6_hole 16 = .ok (.ifCond .eq 10, 3) := by decide +kernel
theorem dX6_hole_19 : decode cX6_hole 19 = .ok (.iload_n 3, 1) := by decide +kernel
theorem dX6_hole_20 : decode cX6_hole 20 = .ok (.invokestatic 63, 3) := by decide +kernel
theorem dX6_hole_23 : decode cX6_hole 23 = .ok (.ifCond .ne 5, 3) := by decide +kernel
theorem dX6_hole_26 : decode cX6_hole 26 = .ok (.iconst (-1), 1) := by decide +kernel
theorem dX6_hole_27 : decode cX6_hole 27 = .ok (.ireturn, 1) := by decide +kernel
theorem dX6_hole_28 : decode cX6_hole 28 = .ok (.aload 4, 2) := by decide +kernel
theorem dX6_hole_30 : decode cX6_hole 30 = .ok (.iload_n 2, 1) := by decide +kernel
theorem dX6_hole_31 : decode cX6_hole 31 = .ok (.iload_n 3, 1) := by decide +kernel
theorem dX6_hole_32 : decode cX6_hole 32 = .ok (.invokevirtual 82, 3) := by decide +kernel
theorem dX6_hole_35 : decode cX6_hole 35 = .ok (.ireturn, 1) := by decide +kernel
set_option maxRecDepth 20000 in
theorem ggX6_note_X6_rollOf : GoodIn wsX6_note wsX6_rollOf := goodIn_r _ [5, 6, 7, 8, 9, 4, 10, 32, 33, 34, 35, 36, 37, 38] (by decide +kernel) (by decide +kernel)
set_option maxRecDepth 20000 in
theorem gX6_note_X6_rollOf : GoodIn wsX6_note (wsV RX6 55 RX6 yX6_rollOf wsX6_rollOf) := goodIn_app (goodIn_of _ (by decide +kernel)) ggX6_note_X6_rollOf
set_option maxRecDepth 20000 in
theorem ggX6_note_X4_noteCount : GoodIn wsX6_note wsX4_noteCount := goodIn_r _ [15, 16, 39, 40, 41, 42, 43, 44, 45, 46] (by decide +kernel) (by decide +kernel)
set_option maxRecDepth 20000 in
theorem gX6_note_X4_noteCount : GoodIn wsX6_note (wsV RX6 70 RX4 yX4_noteCount wsX4_noteCount) := goodIn_app (goodIn_of _ (by decide +kernel)) ggX6_note_X4_noteCount
set_option maxRecDepth 20000 in
theorem ggX6_note_X6_isWithin : GoodIn wsX6_note wsX6_isWithin := goodIn_r _ [10] (by decide +kernel) (by decide +kernel)
set_option maxRecDepth 20000 in
theorem gX6_note_X6_isWithin : GoodIn wsX6_note (va_wsS RX6 66 yX6_isWithin wsX6_isWithin) := goodIn_app (goodIn_of _ (by decide +kernel)) ggX6_note_X6_isWithin
set_option maxRecDepth 20000 in
theorem ggX6_note_X4_pitchOf : GoodIn wsX6_note wsX4_pitchOf := goodIn_r _ [20, 21, 39, 40, 41, 42, 43, 44, 45, 46] (by decide +kernel) (by decide +kernel)
set_option maxRecDepth 20000 in
theorem gX6_note_X4_pitchOf : GoodIn wsX6_note (wsV RX6 85 RX4 yX4_pitchOf wsX4_pitchOf) := goodIn_app (goodIn_of _ (by decide +kernel)) ggX6_note_X4_pitchOf
set_option maxRecDepth 20000 in
theorem ggX6_note_X4_firstStepOf : GoodIn wsX6_note wsX4_firstStepOf := goodIn_r _ [25, 26, 39, 40, 41, 42, 43, 44, 45, 46] (by decide +kernel) (by decide +kernel)
set_option maxRecDepth 20000 in
theorem gX6_note_X4_firstStepOf : GoodIn wsX6_note (wsV RX6 89 RX4 yX4_firstStepOf wsX4_firstStepOf) := goodIn_app (goodIn_of _ (by decide +kernel)) ggX6_note_X4_firstStepOf
set_option maxRecDepth 20000 in
theorem ggX6_note_X4_lengthOf : GoodIn wsX6_note wsX4_lengthOf := goodIn_r _ [30, 31, 39, 40, 41, 42, 43, 44, 45, 46] (by decide +kernel) (by decide +kernel)
