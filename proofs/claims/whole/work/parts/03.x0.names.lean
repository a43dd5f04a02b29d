theorem dX0_init_0 : decode cX0_init 0 = .ok (.aload_n 0, 1) := by decide +kernel
theorem dX0_init_1 : decode cX0_init 1 = .ok (.invokespecial 3, 3) := by decide +kernel
theorem dX0_init_4 : decode cX0_init 4 = .ok (.aload_n 0, 1) := by decide +kernel
theorem dX0_init_5 : decode cX0_init 5 = .ok (.bipush 60, 2) := by decide +kernel
theorem dX0_init_7 : decode cX0_init 7 = .ok (.newarray .int, 2) := by decide +kernel
theorem dX0_init_9 : decode cX0_init 9 = .ok (.putfield 9, 3) := by decide +kernel
theorem dX0_init_12 : decode cX0_init 12 = .ok (.aload_n 0, 1) := by decide +kernel
theorem dX0_init_13 : decode cX0_init 13 = .ok (.bipush 60, 2) := by decide +kernel
theorem dX0_init_15 : decode cX0_init 15 = .ok (.newarray .int, 2) := by decide +kernel
theorem dX0_init_17 : decode cX0_init 17 = .ok (.putfield 15, 3) := by decide +kernel
theorem dX0_init_20 : decode cX0_init 20 = .ok (.aload_n 0, 1) := by decide +kernel
theorem dX0_init_21 : decode cX0_init 21 = .ok (.bipush 40, 2) := by decide +kernel
theorem dX0_init_23 : decode cX0_init 23 = .ok (.newarray .int, 2) := by decide +kernel
theorem dX0_init_25 : decode cX0_init 25 = .ok (.putfield 18, 3) := by decide +kernel
theorem dX0_init_28 : decode cX0_init 28 = .ok (.aload_n 0, 1) := by decide +kernel
theorem dX0_init_29 : decode cX0_init 29 = .ok (.sipush 2501, 3) := by decide +kernel
theorem dX0_init_32 : decode cX0_init 32 = .ok (.newarray .int, 2) := by decide +kernel
theorem dX0_init_34 : decode cX0_init 34 = .ok (.putfield 21, 3) := by decide +kernel
theorem dX0_init_37 : decode cX0_init 37 = .ok (.return_, 1) := by decide +kernel
set_option maxRecDepth 20000 in
theorem ggX0_reckon_X4_noteCount : GoodIn wsX0_reckon wsX4_noteCount := goodIn_r _ [9, 10, 79, 80, 81, 82, 83, 84, 85, 86] (by decide +kernel) (by decide +kernel)
set_option maxRecDepth 20000 in
theorem gX0_reckon_X4_noteCount : GoodIn wsX0_reckon (wsV RX0 24 RX4 yX4_noteCount wsX4_noteCount) := goodIn_app (goodIn_of _ (by decide +kernel)) ggX0_reckon_X4_noteCount
set_option maxRecDepth 20000 in
theorem ggX0_reckon_X4_pitchOf : GoodIn wsX0_reckon wsX4_pitchOf := goodIn_r _ [14, 15, 79, 80, 81, 82, 83, 84, 85, 86] (by decide +kernel) (by decide +kernel)
set_option maxRecDepth 20000 in
theorem gX0_reckon_X4_pitchOf : GoodIn wsX0_reckon (wsV RX0 34 RX4 yX4_pitchOf wsX4_pitchOf) := goodIn_app (goodIn_of _ (by decide +kernel)) ggX0_reckon_X4_pitchOf
set_option maxRecDepth 20000 in
theorem ggX0_reckon_X4_firstStepOf : GoodIn wsX0_reckon wsX4_firstStepOf := goodIn_r _ [19, 20, 79, 80, 81, 82, 83, 84, 85, 86] (by decide +kernel) (by decide +kernel)
set_option maxRecDepth 20000 in
theorem gX0_reckon_X4_firstStepOf : GoodIn wsX0_reckon (wsV RX0 38 RX4 yX4_firstStepOf wsX4_firstStepOf) := goodIn_app (goodIn_of _ (by decide +kernel)) ggX0_reckon_X4_firstStepOf
set_option maxRecDepth 20000 in
theorem ggX0_reckon_X5_size : GoodIn wsX0_reckon wsX5_size := goodIn_r _ [25, 26, 87, 88, 89] (by decide +kernel) (by decide +kernel)
set_option maxRecDepth 20000 in
theorem gX0_reckon_X5_size : GoodIn wsX0_reckon (wsV RX0 41 RX5 yX5_size wsX5_size) := goodIn_app (goodIn_of _ (by decide +kernel)) ggX0_reckon_X5_size
set_option maxRecDepth 20000 in
theorem ggX0_reckon_X0_reckonCosts : GoodIn wsX0_reckon wsX0_reckonCosts := goodIn_r _ [31, 1, 4, 32, 33, 34, 35, 30, 36, 37, 38, 39, 40, 41, 42, 43, 44, 2, 45, 46, 47, 3, 48, 49, 50, 24, 51, 52, 53, 54, 55, 56, 57, 70, 71, 72, 73, 74, 75, 76, 77, 78, 87, 88, 89] (by decide +kernel) (by decide +kernel)
set_option maxRecDepth 20000 in
theorem gX0_reckon_X0_reckonCosts : GoodIn wsX0_reckon (wsV RX0 49 RX0 yX0_reckonCosts wsX0_reckonCosts) := goodIn_app (goodIn_of _ (by decide +kernel)) ggX0_reckon_X0_reckonCosts
set_option maxRecDepth 20000 in
theorem ggX0_reckon_X0_choose : GoodIn wsX0_reckon wsX0_choose := goodIn_r _ [61, 62, 63, 64, 1, 4, 32, 65, 41, 42, 43, 30, 44, 2, 45, 46, 39, 47, 3, 37, 38, 40, 48, 49, 50, 24, 51, 52, 53, 54, 55, 56, 57, 66, 67, 68, 69, 70, 71, 72, 73, 74, 75, 76, 77, 78, 87, 88, 89] (by decide +kernel) (by decide +kernel)
set_option maxRecDepth 20000 in
theorem gX0_reckon_X0_choose : GoodIn wsX0_reckon (wsV RX0 53 RX0 yX0_choose wsX0_choose) := goodIn_app (goodIn_of _ (by decide +kernel)) ggX0_reckon_X0_choose
theorem dX0_reckon_0 : decode cX0_reckon 0 = .ok (.aload_n 0, 1) := by decide +kernel
theorem dX0_reckon_1 : decode cX0_reckon 1 = .ok (.aload_n 1, 1) := by decide +kernel
theorem dX0_reckon_2 : decode cX0_reckon 2 = .ok (.invokevirtual 24, 3) := by decide +kernel
theorem dX0_reckon_5 : decode cX0_reckon 5 = .ok (.putfield 30, 3) := by decide +kernel
theorem dX0_reckon_8 : decode cX0_reckon 8 = .ok (.iconst 0, 1) := by decide +kernel
theorem dX0_reckon_9 : decode cX0_reckon 9 = .ok (.istore_n 3, 1) := by decide +kernel
theorem dX0_reckon_10 : decode cX0_reckon 10 = .ok (.iload_n 3, 1) := by decide +kernel
theorem dX0_reckon_11 : decode cX0_reckon 11 = .ok (.aload_n 0, 1) := by decide +kernel
theorem dX0_reckon_12 : decode cX0_reckon 12 = .ok (.getfield 30, 3) := by decide +kernel
theorem dX0_reckon_15 : decode cX0_reckon 15 = .ok (.if_icmp .ge 31, 3) := by decide +kernel
theorem dX0_reckon_18 : decode cX0_reckon 18 = .ok (.aload_n 0, 1) := by decide +kernel
theorem dX0_reckon_19 : decode cX0_reckon 19 = .ok (.getfield 9, 3) := by decide +kernel
theorem dX0_reckon_22 : decode cX0_reckon 22 = .ok (.iload_n 3, 1) := by decide +kernel
theorem dX0_reckon_23 : decode cX0_reckon 23 = .ok (.aload_n 1, 1) := by decide +kernel
theorem dX0_reckon_24 : decode cX0_reckon 24 = .ok (.iload_n 3, 1) := by decide +kernel
theorem dX0_reckon_25 : decode cX0_reckon 25 = .ok (.invokevirtual 34, 3) := by decide +kernel
theorem dX0_reckon_28 : decode cX0_reckon 28 = .ok (.iastore, 1) := by decide +kernel
theorem dX0_reckon_29 : decode cX0_reckon 29 = .ok (.aload_n 0, 1) := by decide +kernel
theorem dX0_reckon_30 : decode cX0_reckon 30 = .ok (.getfield 15, 3) := by decide +kernel
theorem dX0_reckon_33 : decode cX0_reckon 33 = .ok (.iload_n 3, 1) := by decide +kernel
theorem dX0_reckon_34 : decode cX0_reckon 34 = .ok (.aload_n 1, 1) := by decide +kernel
theorem dX0_reckon_35 : decode cX0_reckon 35 = .ok (.iload_n 3, 1) := by decide +kernel
theorem dX0_reckon_36 : decode cX0_reckon 36 = .ok (.invokevirtual 38, 3) := by decide +kernel
theorem dX0_reckon_39 : decode cX0_reckon 39 = .ok (.iastore, 1) := by decide +kernel
theorem dX0_reckon_40 : decode cX0_reckon 40 = .ok (.iinc 3 1, 3) := by decide +kernel
theorem dX0_reckon_43 : decode cX0_reckon 43 = .ok (.goto (-33), 3) := by decide +kernel
theorem dX0_reckon_46 : decode cX0_reckon 46 = .ok (.aload_n 0, 1) := by decide +kernel
theorem dX0_reckon_47 : decode cX0_reckon 47 = .ok (.aload_n 2, 1) := by decide +kernel
theorem dX0_reckon_48 : decode cX0_reckon 48 = .ok (.invokevirtual 41, 3) := by decide +kernel
theorem dX0_reckon_51 : decode cX0_reckon 51 = .ok (.putfield 46, 3) := by decide +kernel
theorem dX0_reckon_54 : decode cX0_reckon 54 = .ok (.aload_n 0, 1) := by decide +kernel
theorem dX0_reckon_55 : decode cX0_reckon 55 = .ok (.aload_n 2, 1) := by decide +kernel
theorem dX0_reckon_56 : decode cX0_reckon 56 = .ok (.invokevirtual 49, 3) := by decide +kernel
theorem dX0_reckon_59 : decode cX0_reckon 59 = .ok (.aload_n 0, 1) := by decide +kernel
theorem dX0_reckon_60 : decode cX0_reckon 60 = .ok (.aload_n 2, 1) := by decide +kernel
theorem dX0_reckon_61 : decode cX0_reckon 61 = .ok (.invokevirtual 53, 3) := by decide +kernel
theorem dX0_reckon_64 : decode cX0_reckon 64 = .ok (.return_, 1) := by decide +kernel
theorem dX0_noteOfItem_0 : decode cX0_noteOfItem 0 = .ok (.aload_n 0, 1) := by decide +kernel
theorem dX0_noteOfItem_1 : decode cX0_noteOfItem 1 = .ok (.getfield 18, 3) := by decide +kernel
theorem dX0_noteOfItem_4 : decode cX0_noteOfItem 4 = .ok (.iload_n 1, 1) := by decide +kernel
theorem dX0_noteOfItem_5 : decode cX0_noteOfItem 5 = .ok (.iaload, 1) := by decide +kernel
theorem dX0_noteOfItem_6 : decode cX0_noteOfItem 6 = .ok (.ireturn, 1) := by decide +kernel
theorem dX0_figure_0 : decode cX0_figure 0 = .ok (.iload_n 1, 1) := by decide +kernel
theorem dX0_figure_1 : decode cX0_figure 1 = .ok (.tableswitch 81 0 5 #[39, 46, 51, 61, 71, 76], 39) := by decide +kernel
theorem dX0_figure_40 : decode cX0_figure 40 = .ok (.aload_n 0, 1) := by decide +kernel
theorem dX0_figure_41 : decode cX0_figure 41 = .ok (.getfield 21, 3) := by decide +kernel
theorem dX0_figure_44 : decode cX0_figure 44 = .ok (.iconst 0, 1) := by decide +kernel
theorem dX0_figure_45 : decode cX0_figure 45 = .ok (.iaload, 1) := by decide +kernel
theorem dX0_figure_46 : decode cX0_figure 46 = .ok (.ireturn, 1) := by decide +kernel
theorem dX0_figure_47 : decode cX0_figure 47 = .ok (.aload_n 0, 1) := by decide +kernel
theorem dX0_figure_48 : decode cX0_figure 48 = .ok (.getfield 56, 3) := by decide +kernel
theorem dX0_figure_51 : decode cX0_figure 51 = .ok (.ireturn, 1) := by decide +kernel
theorem dX0_figure_52 : decode cX0_figure 52 = .ok (.aload_n 0, 1) := by decide +kernel
theorem dX0_figure_53 : decode cX0_figure 53 = .ok (.getfield 46, 3) := by decide +kernel
theorem dX0_figure_56 : decode cX0_figure 56 = .ok (.aload_n 0, 1) := by decide +kernel
theorem dX0_figure_57 : decode cX0_figure 57 = .ok (.getfield 56, 3) := by decide +kernel
theorem dX0_figure_60 : decode cX0_figure 60 = .ok (.isub, 1) := by decide +kernel
theorem dX0_figure_61 : decode cX0_figure 61 = .ok (.ireturn, 1) := by decide +kernel
theorem dX0_figure_62 : decode cX0_figure 62 = .ok (.aload_n 0, 1) := by decide +kernel
theorem dX0_figure_63 : decode cX0_figure 63 = .ok (.getfield 30, 3) := by decide +kernel
theorem dX0_figure_66 : decode cX0_figure 66 = .ok (.aload_n 0, 1) := by decide +kernel
theorem dX0_figure_67 : decode cX0_figure 67 = .ok (.getfield 56, 3) := by decide +kernel
theorem dX0_figure_70 : decode cX0_figure 70 = .ok (.isub, 1) := by decide +kernel
theorem dX0_figure_71 : decode cX0_figure 71 = .ok (.ireturn, 1) := by decide +kernel
theorem dX0_figure_72 : decode cX0_figure 72 = .ok (.aload_n 0, 1) := by decide +kernel
theorem dX0_figure_73 : decode cX0_figure 73 = .ok (.getfield 59, 3) := by decide +kernel
theorem dX0_figure_76 : decode cX0_figure 76 = .ok (.ireturn, 1) := by decide +kernel
theorem dX0_figure_77 : decode cX0_figure 77 = .ok (.aload_n 0, 1) := by decide +kernel
theorem dX0_figure_78 : decode cX0_figure 78 = .ok (.getfield 62, 3) := by decide +kernel
theorem dX0_figure_81 : decode cX0_figure 81 = .ok (.ireturn, 1) := by decide +kernel
theorem dX0_figure_82 : decode cX0_figure 82 = .ok (.iconst (-1), 1) := by decide +kernel
theorem dX0_figure_83 : decode cX0_figure 83 = .ok (.ireturn, 1) := by decide +kernel
set_option maxRecDepth 20000 in
theorem ggX0_repitch_X5_pitchOf : GoodIn wsX0_repitch wsX5_pitchOf := goodIn_r _ [9, 10, 86, 87, 88] (by decide +kernel) (by decide +kernel)
set_option maxRecDepth 20000 in
theorem gX0_repitch_X5_pitchOf : GoodIn wsX0_repitch (wsV RX0 65 RX5 yX5_pitchOf wsX5_pitchOf) := goodIn_app (goodIn_of _ (by decide +kernel)) ggX0_repitch_X5_pitchOf
set_option maxRecDepth 20000 in
theorem ggX0_repitch_X4_moveToPitch : GoodIn wsX0_repitch wsX4_moveToPitch := goodIn_r _ [15, 16, 17, 18, 14, 19, 20, 21, 22, 23, 24, 25, 26, 27, 28, 29, 30, 31, 32, 33, 34, 35, 36, 37, 38, 39, 40, 41, 42, 43, 44, 45, 46, 47, 48, 49, 50, 51, 52, 53, 54, 55, 56, 57, 58, 59, 60, 61, 62, 63, 64, 65, 66, 67, 68, 69, 70, 71, 72, 73, 74, 75, 76, 89, 90, 91, 92, 93, 94, 95, 96] (by decide +kernel) (by decide +kernel)
set_option maxRecDepth 20000 in
theorem gX0_repitch_X4_moveToPitch : GoodIn wsX0_repitch (wsV RX0 66 RX4 yX4_moveToPitch wsX4_moveToPitch) := goodIn_app (goodIn_of _ (by decide +kernel)) ggX0_repitch_X4_moveToPitch
theorem dX0_repitch_0 : decode cX0_repitch 0 = .ok (.iconst 0, 1) := by decide +kernel
theorem dX0_repitch_1 : decode cX0_repitch 1 = .ok (.istore_n 3, 1) := by decide +kernel
theorem dX0_repitch_2 : decode cX0_repitch 2 = .ok (.iconst 0, 1) := by decide +kernel
theorem dX0_repitch_3 : decode cX0_repitch 3 = .ok (.istore 4, 2) := by decide +kernel
theorem dX0_repitch_5 : decode cX0_repitch 5 = .ok (.iload 4, 2) := by decide +kernel
theorem dX0_repitch_7 : decode cX0_repitch 7 = .ok (.aload_n 0, 1) := by decide +kernel
theorem dX0_repitch_8 : decode cX0_repitch 8 = .ok (.getfield 46, 3) := by decide +kernel
theorem dX0_repitch_11 : decode cX0_repitch 11 = .ok (.if_icmp .ge 70, 3) := by decide +kernel
theorem dX0_repitch_14 : decode cX0_repitch 14 = .ok (.aload_n 0, 1) := by decide +kernel
theorem dX0_repitch_15 : decode cX0_repitch 15 = .ok (.getfield 18, 3) := by decide +kernel
theorem dX0_repitch_18 : decode cX0_repitch 18 = .ok (.iload 4, 2) := by decide +kernel
theorem dX0_repitch_20 : decode cX0_repitch 20 = .ok (.iaload, 1) := by decide +kernel
theorem dX0_repitch_21 : decode cX0_repitch 21 = .ok (.istore 5, 2) := by decide +kernel
theorem dX0_repitch_23 : decode cX0_repitch 23 = .ok (.iload 5, 2) := by decide +kernel
theorem dX0_repitch_25 : decode cX0_repitch 25 = .ok (.iconst (-1), 1) := by decide +kernel
theorem dX0_repitch_26 : decode cX0_repitch 26 = .ok (.if_icmp .eq 49, 3) := by decide +kernel
theorem dX0_repitch_29 : decode cX0_repitch 29 = .ok (.aload_n 0, 1) := by decide +kernel
theorem dX0_repitch_30 : decode cX0_repitch 30 = .ok (.getfield 9, 3) := by decide +kernel
theorem dX0_repitch_33 : decode cX0_repitch 33 = .ok (.iload 5, 2) := by decide +kernel
theorem dX0_repitch_35 : decode cX0_repitch 35 = .ok (.iaload, 1) := by decide +kernel
theorem dX0_repitch_36 : decode cX0_repitch 36 = .ok (.aload_n 2, 1) := by decide +kernel
theorem dX0_repitch_37 : decode cX0_repitch 37 = .ok (.iload 4, 2) := by decide +kernel
theorem dX0_repitch_39 : decode cX0_repitch 39 = .ok (.invokevirtual 65, 3) := by decide +kernel
theorem dX0_repitch_42 : decode cX0_repitch 42 = .ok (.if_icmp .eq 33, 3) := by decide +kernel
theorem dX0_repitch_45 : decode cX0_repitch 45 = .ok (.aload_n 1, 1) := by decide +kernel
theorem dX0_repitch_46 : decode cX0_repitch 46 = .ok (.aload_n 0, 1) := by decide +kernel
theorem dX0_repitch_47 : decode cX0_repitch 47 = .ok (.getfield 9, 3) := by decide +kernel
theorem dX0_repitch_50 : decode cX0_repitch 50 = .ok (.iload 5, 2) := by decide +kernel
theorem dX0_repitch_52 : decode cX0_repitch 52 = .ok (.iaload, 1) := by decide +kernel
theorem dX0_repitch_53 : decode cX0_repitch 53 = .ok (.aload_n 0, 1) := by decide +kernel
theorem dX0_repitch_54 : decode cX0_repitch 54 = .ok (.getfield 15, 3) := by decide +kernel
theorem dX0_repitch_57 : decode cX0_repitch 57 = .ok (.iload 5, 2) := by decide +kernel
theorem dX0_repitch_59 : decode cX0_repitch 59 = .ok (.iaload, 1) := by decide +kernel
theorem dX0_repitch_60 : decode cX0_repitch 60 = .ok (.aload_n 2, 1) := by decide +kernel
theorem dX0_repitch_61 : decode cX0_repitch 61 = .ok (.iload 4, 2) := by decide +kernel
theorem dX0_repitch_63 : decode cX0_repitch 63 = .ok (.invokevirtual 65, 3) := by decide +kernel
theorem dX0_repitch_66 : decode cX0_repitch 66 = .ok (.invokevirtual 66, 3) := by decide +kernel
theorem dX0_repitch_69 : decode cX0_repitch 69 = .ok (.ifCond .eq 6, 3) := by decide +kernel
theorem dX0_repitch_72 : decode cX0_repitch 72 = .ok (.iinc 3 1, 3) := by decide +kernel
theorem dX0_repitch_75 : decode cX0_repitch 75 = .ok (.iinc 4 1, 3) := by decide +kernel
theorem dX0_repitch_78 : decode cX0_repitch 78 = .ok (.goto (-73), 3) := by decide +kernel
theorem dX0_repitch_81 : decode cX0_repitch 81 = .ok (.iload_n 3, 1) := by decide +kernel
theorem dX0_repitch_82 : decode cX0_repitch 82 = .ok (.ireturn, 1) := by decide +kernel
set_option maxRecDepth 20000 in
theorem ggX0_reckonCosts_X0_leastFrom : GoodIn wsX0_reckonCosts wsX0_leastFrom := goodIn_r _ [8, 1, 2, 3, 9, 10, 11, 12, 13, 14, 15, 7, 16, 17, 18, 19, 20, 21, 22, 23, 24, 25, 26, 27, 28, 29, 30, 31, 32, 33, 34, 35, 36, 37, 38, 39, 40, 41, 42, 43, 44] (by decide +kernel) (by decide +kernel)
set_option maxRecDepth 20000 in
theorem gX0_reckonCosts_X0_leastFrom : GoodIn wsX0_reckonCosts (wsV RX0 70 RX0 yX0_leastFrom wsX0_leastFrom) := goodIn_app (goodIn_of _ (by decide +kernel)) ggX0_reckonCosts_X0_leastFrom
theorem dX0_reckonCosts_0 : decode cX0_reckonCosts 0 = .ok (.aload_n 0, 1) := by decide +kernel
theorem dX0_reckonCosts_1 : decode cX0_reckonCosts 1 = .ok (.getfield 30, 3) := by decide +kernel
theorem dX0_reckonCosts_4 : decode cX0_reckonCosts 4 = .ok (.istore_n 2, 1) := by decide +kernel
theorem dX0_reckonCosts_5 : decode cX0_reckonCosts 5 = .ok (.iload_n 2, 1) := by decide +kernel
theorem dX0_reckonCosts_6 : decode cX0_reckonCosts 6 = .ok (.ifCond .lt 42, 3) := by decide +kernel
theorem dX0_reckonCosts_9 : decode cX0_reckonCosts 9 = .ok (.aload_n 0, 1) := by decide +kernel
theorem dX0_reckonCosts_10 : decode cX0_reckonCosts 10 = .ok (.getfield 46, 3) := by decide +kernel
theorem dX0_reckonCosts_13 : decode cX0_reckonCosts 13 = .ok (.istore_n 3, 1) := by decide +kernel
theorem dX0_reckonCosts_14 : decode cX0_reckonCosts 14 = .ok (.iload_n 3, 1) := by decide +kernel
theorem dX0_reckonCosts_15 : decode cX0_reckonCosts 15 = .ok (.ifCond .lt 27, 3) := by decide +kernel
theorem dX0_reckonCosts_18 : decode cX0_reckonCosts 18 = .ok (.aload_n 0, 1) := by decide +kernel
theorem dX0_reckonCosts_19 : decode cX0_reckonCosts 19 = .ok (.getfield 21, 3) := by decide +kernel
theorem dX0_reckonCosts_22 : decode cX0_reckonCosts 22 = .ok (.iload_n 2, 1) := by decide +kernel
theorem dX0_reckonCosts_23 : decode cX0_reckonCosts 23 = .ok (.bipush 41, 2) := by decide +kernel
theorem dX0_reckonCosts_25 : decode cX0_reckonCosts 25 = .ok (.imul, 1) := by decide +kernel
theorem dX0_reckonCosts_26 : decode cX0_reckonCosts 26 = .ok (.iload_n 3, 1) := by decide +kernel
theorem dX0_reckonCosts_27 : decode cX0_reckonCosts 27 = .ok (.iadd, 1) := by decide +kernel
theorem dX0_reckonCosts_28 : decode cX0_reckonCosts 28 = .ok (.aload_n 0, 1) := by decide +kernel
theorem dX0_reckonCosts_29 : decode cX0_reckonCosts 29 = .ok (.iload_n 2, 1) := by decide +kernel
theorem dX0_reckonCosts_30 : decode cX0_reckonCosts 30 = .ok (.iload_n 3, 1) := by decide +kernel
theorem dX0_reckonCosts_31 : decode cX0_reckonCosts 31 = .ok (.aload_n 1, 1) := by decide +kernel
theorem dX0_reckonCosts_32 : decode cX0_reckonCosts 32 = .ok (.invokevirtual 70, 3) := by decide +kernel
theorem dX0_reckonCosts_35 : decode cX0_reckonCosts 35 = .ok (.iastore, 1) := by decide +kernel
theorem dX0_reckonCosts_36 : decode cX0_reckonCosts 36 = .ok (.iinc 3 (-1), 3) := by decide +kernel
theorem dX0_reckonCosts_39 : decode cX0_reckonCosts 39 = .ok (.goto (-25), 3) := by decide +kernel
theorem dX0_reckonCosts_42 : decode cX0_reckonCosts 42 = .ok (.iinc 2 (-1), 3) := by decide +kernel
theorem dX0_reckonCosts_45 : decode cX0_reckonCosts 45 = .ok (.goto (-40), 3) := by decide +kernel
theorem dX0_reckonCosts_48 : decode cX0_reckonCosts 48 = .ok (.return_, 1) := by decide +kernel
set_option maxRecDepth 20000 in
theorem ggX0_leastFrom_X0_costFromPair : GoodIn wsX0_leastFrom wsX0_costFromPair := goodIn_r _ [12, 13, 14, 15, 6, 16, 17, 4, 5, 7, 3, 18, 19, 20, 21, 22, 23, 24, 25, 26, 27, 28, 29, 30, 31, 32, 33, 34, 35, 36, 37, 38, 39, 40] (by decide +kernel) (by decide +kernel)
set_option maxRecDepth 20000 in
theorem gX0_leastFrom_X0_costFromPair : GoodIn wsX0_leastFrom (wsV RX0 80 RX0 yX0_costFromPair wsX0_costFromPair) := goodIn_app (goodIn_of _ (by decide +kernel)) ggX0_leastFrom_X0_costFromPair
theorem dX0_leastFrom_0 : decode cX0_leastFrom 0 = .ok (.iload_n 1, 1) := by decide +kernel
theorem dX0_leastFrom_1 : decode cX0_leastFrom 1 = .ok (.aload_n 0, 1) := by decide +kernel
theorem dX0_leastFrom_2 : decode cX0_leastFrom 2 = .ok (.getfield 30, 3) := by decide +kernel
theorem dX0_leastFrom_5 : decode cX0_leastFrom 5 = .ok (.if_icmp .ne 12, 3) := by decide +kernel
theorem dX0_leastFrom_8 : decode cX0_leastFrom 8 = .ok (.aload_n 0, 1) := by decide +kernel
theorem dX0_leastFrom_9 : decode cX0_leastFrom 9 = .ok (.getfield 46, 3) := by decide +kernel
theorem dX0_leastFrom_12 : decode cX0_leastFrom 12 = .ok (.iload_n 2, 1) := by decide +kernel
theorem dX0_leastFrom_13 : decode cX0_leastFrom 13 = .ok (.isub, 1) := by decide +kernel
theorem dX0_leastFrom_14 : decode cX0_leastFrom 14 = .ok (.iconst 5, 1) := by decide +kernel
theorem dX0_leastFrom_15 : decode cX0_leastFrom 15 = .ok (.imul, 1) := by decide +kernel
theorem dX0_leastFrom_16 : decode cX0_leastFrom 16 = .ok (.ireturn, 1) := by decide +kernel
theorem dX0_leastFrom_17 : decode cX0_leastFrom 17 = .ok (.iload_n 2, 1) := by decide +kernel
theorem dX0_leastFrom_18 : decode cX0_leastFrom 18 = .ok (.aload_n 0, 1) := by decide +kernel
theorem dX0_leastFrom_19 : decode cX0_leastFrom 19 = .ok (.getfield 46, 3) := by decide +kernel
theorem dX0_leastFrom_22 : decode cX0_leastFrom 22 = .ok (.if_icmp .ne 12, 3) := by decide +kernel
theorem dX0_leastFrom_25 : decode cX0_leastFrom 25 = .ok (.aload_n 0, 1) := by decide +kernel
theorem dX0_leastFrom_26 : decode cX0_leastFrom 26 = .ok (.getfield 30, 3) := by decide +kernel
theorem dX0_leastFrom_29 : decode cX0_leastFrom 29 = .ok (.iload_n 1, 1) := by decide +kernel
theorem dX0_leastFrom_30 : decode cX0_leastFrom 30 = .ok (.isub, 1) := by decide +kernel
theorem dX0_leastFrom_31 : decode cX0_leastFrom 31 = .ok (.iconst 5, 1) := by decide +kernel
theorem dX0_leastFrom_32 : decode cX0_leastFrom 32 = .ok (.imul, 1) := by decide +kernel
theorem dX0_leastFrom_33 : decode cX0_leastFrom 33 = .ok (.ireturn, 1) := by decide +kernel
theorem dX0_leastFrom_34 : decode cX0_leastFrom 34 = .ok (.iconst 5, 1) := by decide +kernel
theorem dX0_leastFrom_35 : decode cX0_leastFrom 35 = .ok (.aload_n 0, 1) := by decide +kernel
theorem dX0_leastFrom_36 : decode cX0_leastFrom 36 = .ok (.getfield 21, 3) := by decide +kernel
theorem dX0_leastFrom_39 : decode cX0_leastFrom 39 = .ok (.iload_n 1, 1) := by decide +kernel
theorem dX0_leastFrom_40 : decode cX0_leastFrom 40 = .ok (.bipush 41, 2) := by decide +kernel
theorem dX0_leastFrom_42 : decode cX0_leastFrom 42 = .ok (.imul, 1) := by decide +kernel
theorem dX0_leastFrom_43 : decode cX0_leastFrom 43 = .ok (.iload_n 2, 1) := by decide +kernel
theorem dX0_leastFrom_44 : decode cX0_leastFrom 44 = .ok (.iadd, 1) := by decide +kernel
theorem dX0_leastFrom_45 : decode cX0_leastFrom 45 = .ok (.iconst 1, 1) := by decide +kernel
theorem dX0_leastFrom_46 : decode cX0_leastFrom 46 = .ok (.iadd, 1) := by decide +kernel
theorem dX0_leastFrom_47 : decode cX0_leastFrom 47 = .ok (.iaload, 1) := by decide +kernel
theorem dX0_leastFrom_48 : decode cX0_leastFrom 48 = .ok (.aload_n 0, 1) := by decide +kernel
theorem dX0_leastFrom_49 : decode cX0_leastFrom 49 = .ok (.getfield 21, 3) := by decide +kernel
theorem dX0_leastFrom_52 : decode cX0_leastFrom 52 = .ok (.iload_n 1, 1) := by decide +kernel
theorem dX0_leastFrom_53 : decode cX0_leastFrom 53 = .ok (.iconst 1, 1) := by decide +kernel
theorem dX0_leastFrom_54 : decode cX0_leastFrom 54 = .ok (.iadd, 1) := by decide +kernel
theorem dX0_leastFrom_55 : decode cX0_leastFrom 55 = .ok (.bipush 41, 2) := by decide +kernel
theorem dX0_leastFrom_57 : decode cX0_leastFrom 57 = .ok (.imul, 1) := by decide +kernel
theorem dX0_leastFrom_58 : decode cX0_leastFrom 58 = .ok (.iload_n 2, 1) := by decide +kernel
theorem dX0_leastFrom_59 : decode cX0_leastFrom 59 = .ok (.iadd, 1) := by decide +kernel
theorem dX0_leastFrom_60 : decode cX0_leastFrom 60 = .ok (.iaload, 1) := by decide +kernel
theorem dX0_leastFrom_61 : decode cX0_leastFrom 61 = .ok (.invokestatic 74, 3) := by decide +kernel
theorem dX0_leastFrom_64 : decode cX0_leastFrom 64 = .ok (.iadd, 1) := by decide +kernel
theorem dX0_leastFrom_65 : decode cX0_leastFrom 65 = .ok (.istore 4, 2) := by decide +kernel
theorem dX0_leastFrom_67 : decode cX0_leastFrom 67 = .ok (.iload 4, 2) := by decide +kernel
theorem dX0_leastFrom_69 : decode cX0_leastFrom 69 = .ok (.aload_n 0, 1) := by decide +kernel
theorem dX0_leastFrom_70 : decode cX0_leastFrom 70 = .ok (.iload_n 1, 1) := by decide +kernel
theorem dX0_leastFrom_71 : decode cX0_leastFrom 71 = .ok (.iload_n 2, 1) := by decide +kernel
theorem dX0_leastFrom_72 : decode cX0_leastFrom 72 = .ok (.aload_n 3, 1) := by decide +kernel
theorem dX0_leastFrom_73 : decode cX0_leastFrom 73 = .ok (.invokevirtual 80, 3) := by decide +kernel
theorem dX0_leastFrom_76 : decode cX0_leastFrom 76 = .ok (.invokestatic 74, 3) := by decide +kernel
theorem dX0_leastFrom_79 : decode cX0_leastFrom 79 = .ok (.ireturn, 1) := by decide +kernel
set_option maxRecDepth 20000 in
theorem ggX0_costFromPair_X5_pitchOf : GoodIn wsX0_costFromPair wsX5_pitchOf := goodIn_r _ [15, 16, 31, 32, 33] (by decide +kernel) (by decide +kernel)
set_option maxRecDepth 20000 in
theorem gX0_costFromPair_X5_pitchOf : GoodIn wsX0_costFromPair (wsV RX0 65 RX5 yX5_pitchOf wsX5_pitchOf) := goodIn_app (goodIn_of _ (by decide +kernel)) ggX0_costFromPair_X5_pitchOf
set_option maxRecDepth 20000 in
theorem ggX0_costFromPair_X5_stepOf : GoodIn wsX0_costFromPair wsX5_stepOf := goodIn_r _ [20, 21, 31, 32, 33] (by decide +kernel) (by decide +kernel)
set_option maxRecDepth 20000 in
theorem gX0_costFromPair_X5_stepOf : GoodIn wsX0_costFromPair (wsV RX0 86 RX5 yX5_stepOf wsX5_stepOf) := goodIn_app (goodIn_of _ (by decide +kernel)) ggX0_costFromPair_X5_stepOf
theorem dX0_costFromPair_0 : decode cX0_costFromPair 0 = .ok (.iconst 2, 1) := by decide +kernel
theorem dX0_costFromPair_1 : decode cX0_costFromPair 1 = .ok (.aload_n 0, 1) := by decide +kernel
theorem dX0_costFromPair_2 : decode cX0_costFromPair 2 = .ok (.getfield 9, 3) := by decide +kernel
theorem dX0_costFromPair_5 : decode cX0_costFromPair 5 = .ok (.iload_n 1, 1) := by decide +kernel
theorem dX0_costFromPair_6 : decode cX0_costFromPair 6 = .ok (.iaload, 1) := by decide +kernel
theorem dX0_costFromPair_7 : decode cX0_costFromPair 7 = .ok (.aload_n 3, 1) := by decide +kernel
theorem dX0_costFromPair_8 : decode cX0_costFromPair 8 = .ok (.iload_n 2, 1) := by decide +kernel
theorem dX0_costFromPair_9 : decode cX0_costFromPair 9 = .ok (.invokevirtual 65, 3) := by decide +kernel
theorem dX0_costFromPair_12 : decode cX0_costFromPair 12 = .ok (.isub, 1) := by decide +kernel
theorem dX0_costFromPair_13 : decode cX0_costFromPair 13 = .ok (.invokestatic 83, 3) := by decide +kernel
theorem dX0_costFromPair_16 : decode cX0_costFromPair 16 = .ok (.imul, 1) := by decide +kernel
theorem dX0_costFromPair_17 : decode cX0_costFromPair 17 = .ok (.istore 4, 2) := by decide +kernel
theorem dX0_costFromPair_19 : decode cX0_costFromPair 19 = .ok (.iconst 4, 1) := by decide +kernel
theorem dX0_costFromPair_20 : decode cX0_costFromPair 20 = .ok (.aload_n 0, 1) := by decide +kernel
theorem dX0_costFromPair_21 : decode cX0_costFromPair 21 = .ok (.getfield 15, 3) := by decide +kernel
theorem dX0_costFromPair_24 : decode cX0_costFromPair 24 = .ok (.iload_n 1, 1) := by decide +kernel
theorem dX0_costFromPair_25 : decode cX0_costFromPair 25 = .ok (.iaload, 1) := by decide +kernel
theorem dX0_costFromPair_26 : decode cX0_costFromPair 26 = .ok (.aload_n 3, 1) := by decide +kernel
theorem dX0_costFromPair_27 : decode cX0_costFromPair 27 = .ok (.iload_n 2, 1) := by decide +kernel
theorem dX0_costFromPair_28 : decode cX0_costFromPair 28 = .ok (.invokevirtual 86, 3) := by decide +kernel
theorem dX0_costFromPair_31 : decode cX0_costFromPair 31 = .ok (.isub, 1) := by decide +kernel
theorem dX0_costFromPair_32 : decode cX0_costFromPair 32 = .ok (.invokestatic 83, 3) := by decide +kernel
theorem dX0_costFromPair_35 : decode cX0_costFromPair 35 = .ok (.invokestatic 74, 3) := by decide +kernel
theorem dX0_costFromPair_38 : decode cX0_costFromPair 38 = .ok (.istore 5, 2) := by decide +kernel
theorem dX0_costFromPair_40 : decode cX0_costFromPair 40 = .ok (.iload 4, 2) := by decide +kernel
theorem dX0_costFromPair_42 : decode cX0_costFromPair 42 = .ok (.iload 5, 2) := by decide +kernel
theorem dX0_costFromPair_44 : decode cX0_costFromPair 44 = .ok (.iadd, 1) := by decide +kernel
theorem dX0_costFromPair_45 : decode cX0_costFromPair 45 = .ok (.aload_n 0, 1) := by decide +kernel
theorem dX0_costFromPair_46 : decode cX0_costFromPair 46 = .ok (.getfield 21, 3) := by decide +kernel
theorem dX0_costFromPair_49 : decode cX0_costFromPair 49 = .ok (.iload_n 1, 1) := by decide +kernel
theorem dX0_costFromPair_50 : decode cX0_costFromPair 50 = .ok (.iconst 1, 1) := by decide +kernel
theorem dX0_costFromPair_51 : decode cX0_costFromPair 51 = .ok (.iadd, 1) := by decide +kernel
theorem dX0_costFromPair_52 : decode cX0_costFromPair 52 = .ok (.bipush 41, 2) := by decide +kernel
theorem dX0_costFromPair_54 : decode cX0_costFromPair 54 = .ok (.imul, 1) := by decide +kernel
theorem dX0_costFromPair_55 : decode cX0_costFromPair 55 = .ok (.iload_n 2, 1) := by decide +kernel
theorem dX0_costFromPair_56 : decode cX0_costFromPair 56 = .ok (.iadd, 1) := by decide +kernel
theorem dX0_costFromPair_57 : decode cX0_costFromPair 57 = .ok (.iconst 1, 1) := by decide +kernel
theorem dX0_costFromPair_58 : decode cX0_costFromPair 58 = .ok (.iadd, 1) := by decide +kernel
theorem dX0_costFromPair_59 : decode cX0_costFromPair 59 = .ok (.iaload, 1) := by decide +kernel
theorem dX0_costFromPair_60 : decode cX0_costFromPair 60 = .ok (.iadd, 1) := by decide +kernel
theorem dX0_costFromPair_61 : decode cX0_costFromPair 61 = .ok (.ireturn, 1) := by decide +kernel
set_option maxRecDepth 20000 in
theorem ggX0_choose_X0_costFromPair : GoodIn wsX0_choose wsX0_costFromPair := goodIn_r _ [12, 13, 14, 15, 16, 17, 18, 19, 20, 21, 6, 22, 23, 24, 25, 26, 27, 28, 29, 30, 31, 32, 37, 38, 39, 40, 41, 42, 43, 44, 45, 46, 47, 48] (by decide +kernel) (by decide +kernel)
set_option maxRecDepth 20000 in
theorem gX0_choose_X0_costFromPair : GoodIn wsX0_choose (wsV RX0 80 RX0 yX0_costFromPair wsX0_costFromPair) := goodIn_app (goodIn_of _ (by decide +kernel)) ggX0_choose_X0_costFromPair
set_option maxRecDepth 20000 in
theorem ggX0_choose_X0_pair : GoodIn wsX0_choose wsX0_pair := goodIn_r _ [36, 7, 1, 13, 2, 18, 3, 22, 23, 24, 25, 26, 27, 28, 29, 30, 31, 32, 37, 38, 39, 40, 41, 42, 43, 44, 45, 46, 47, 48] (by decide +kernel) (by decide +kernel)
set_option maxRecDepth 20000 in
theorem gX0_choose_X0_pair : GoodIn wsX0_choose (wsV RX0 89 RX0 yX0_pair wsX0_pair) := goodIn_app (goodIn_of _ (by decide +kernel)) ggX0_choose_X0_pair
theorem dX0_choose_0 : decode cX0_choose 0 = .ok (.aload_n 0, 1) := by decide +kernel
theorem dX0_choose_1 : decode cX0_choose 1 = .ok (.iconst 0, 1) := by decide +kernel
theorem dX0_choose_2 : decode cX0_choose 2 = .ok (.putfield 56, 3) := by decide +kernel
theorem dX0_choose_5 : decode cX0_choose 5 = .ok (.aload_n 0, 1) := by decide +kernel
theorem dX0_choose_6 : decode cX0_choose 6 = .ok (.iconst 0, 1) := by decide +kernel
theorem dX0_choose_7 : decode cX0_choose 7 = .ok (.putfield 59, 3) := by decide +kernel
theorem dX0_choose_10 : decode cX0_choose 10 = .ok (.aload_n 0, 1) := by decide +kernel
theorem dX0_choose_11 : decode cX0_choose 11 = .ok (.iconst 0, 1) := by decide +kernel
theorem dX0_choose_12 : decode cX0_choose 12 = .ok (.putfield 62, 3) := by decide +kernel
theorem dX0_choose_15 : decode cX0_choose 15 = .ok (.iconst 0, 1) := by decide +kernel
theorem dX0_choose_16 : decode cX0_choose 16 = .ok (.istore_n 2, 1) := by decide +kernel
theorem dX0_choose_17 : decode cX0_choose 17 = .ok (.iconst 0, 1) := by decide +kernel
theorem dX0_choose_18 : decode cX0_choose 18 = .ok (.istore_n 3, 1) := by decide +kernel
theorem dX0_choose_19 : decode cX0_choose 19 = .ok (.aload_n 0, 1) := by decide +kernel
theorem dX0_choose_20 : decode cX0_choose 20 = .ok (.getfield 30, 3) := by decide +kernel
theorem dX0_choose_23 : decode cX0_choose 23 = .ok (.aload_n 0, 1) := by decide +kernel
theorem dX0_choose_24 : decode cX0_choose 24 = .ok (.getfield 46, 3) := by decide +kernel
theorem dX0_choose_27 : decode cX0_choose 27 = .ok (.iadd, 1) := by decide +kernel
theorem dX0_choose_28 : decode cX0_choose 28 = .ok (.istore 4, 2) := by decide +kernel
theorem dX0_choose_30 : decode cX0_choose 30 = .ok (.iload 4, 2) := by decide +kernel
theorem dX0_choose_32 : decode cX0_choose 32 = .ok (.ifCond .le 110, 3) := by decide +kernel
theorem dX0_choose_35 : decode cX0_choose 35 = .ok (.iload_n 3, 1) := by decide +kernel
theorem dX0_choose_36 : decode cX0_choose 36 = .ok (.aload_n 0, 1) := by decide +kernel
theorem dX0_choose_37 : decode cX0_choose 37 = .ok (.getfield 46, 3) := by decide +kernel
theorem dX0_choose_40 : decode cX0_choose 40 = .ok (.if_icmp .ge 102, 3) := by decide +kernel
theorem dX0_choose_43 : decode cX0_choose 43 = .ok (.aload_n 0, 1) := by decide +kernel
theorem dX0_choose_44 : decode cX0_choose 44 = .ok (.getfield 21, 3) := by decide +kernel
theorem dX0_choose_47 : decode cX0_choose 47 = .ok (.iload_n 2, 1) := by decide +kernel
theorem dX0_choose_48 : decode cX0_choose 48 = .ok (.bipush 41, 2) := by decide +kernel
theorem dX0_choose_50 : decode cX0_choose 50 = .ok (.imul, 1) := by decide +kernel
theorem dX0_choose_51 : decode cX0_choose 51 = .ok (.iload_n 3, 1) := by decide +kernel
theorem dX0_choose_52 : decode cX0_choose 52 = .ok (.iadd, 1) := by decide +kernel
theorem dX0_choose_53 : decode cX0_choose 53 = .ok (.iaload, 1) := by decide +kernel
theorem dX0_choose_54 : decode cX0_choose 54 = .ok (.istore 5, 2) := by decide +kernel
theorem dX0_choose_56 : decode cX0_choose 56 = .ok (.iload_n 2, 1) := by decide +kernel
theorem dX0_choose_57 : decode cX0_choose 57 = .ok (.aload_n 0, 1) := by decide +kernel
theorem dX0_choose_58 : decode cX0_choose 58 = .ok (.getfield 30, 3) := by decide +kernel
theorem dX0_choose_61 : decode cX0_choose 61 = .ok (.if_icmp .ge 31, 3) := by decide +kernel
theorem dX0_choose_64 : decode cX0_choose 64 = .ok (.aload_n 0, 1) := by decide +kernel
theorem dX0_choose_65 : decode cX0_choose 65 = .ok (.iload_n 2, 1) := by decide +kernel
theorem dX0_choose_66 : decode cX0_choose 66 = .ok (.iload_n 3, 1) := by decide +kernel
theorem dX0_choose_67 : decode cX0_choose 67 = .ok (.aload_n 1, 1) := by decide +kernel
theorem dX0_choose_68 : decode cX0_choose 68 = .ok (.invokevirtual 80, 3) := by decide +kernel
theorem dX0_choose_71 : decode cX0_choose 71 = .ok (.iload 5, 2) := by decide +kernel
theorem dX0_choose_73 : decode cX0_choose 73 = .ok (.if_icmp .ne 19, 3) := by decide +kernel
theorem dX0_choose_76 : decode cX0_choose 76 = .ok (.aload_n 0, 1) := by decide +kernel
theorem dX0_choose_77 : decode cX0_choose 77 = .ok (.iload_n 2, 1) := by decide +kernel
theorem dX0_choose_78 : decode cX0_choose 78 = .ok (.iload_n 3, 1) := by decide +kernel
theorem dX0_choose_79 : decode cX0_choose 79 = .ok (.aload_n 1, 1) := by decide +kernel
theorem dX0_choose_80 : decode cX0_choose 80 = .ok (.invokevirtual 89, 3) := by decide +kernel
theorem dX0_choose_83 : decode cX0_choose 83 = .ok (.iinc 2 1, 3) := by decide +kernel
theorem dX0_choose_86 : decode cX0_choose 86 = .ok (.iinc 3 1, 3) := by decide +kernel
theorem dX0_choose_89 : decode cX0_choose 89 = .ok (.goto 47, 3) := by decide +kernel
theorem dX0_choose_92 : decode cX0_choose 92 = .ok (.iload_n 2, 1) := by decide +kernel
theorem dX0_choose_93 : decode cX0_choose 93 = .ok (.aload_n 0, 1) := by decide +kernel
theorem dX0_choose_94 : decode cX0_choose 94 = .ok (.getfield 30, 3) := by decide +kernel
theorem dX0_choose_97 : decode cX0_choose 97 = .ok (.if_icmp .eq 23, 3) := by decide +kernel
theorem dX0_choose_100 : decode cX0_choose 100 = .ok (.iconst 5, 1) := by decide +kernel
theorem dX0_choose_101 : decode cX0_choose 101 = .ok (.aload_n 0, 1) := by decide +kernel
theorem dX0_choose_102 : decode cX0_choose 102 = .ok (.getfield 21, 3) := by decide +kernel
theorem dX0_choose_105 : decode cX0_choose 105 = .ok (.iload_n 2, 1) := by decide +kernel
theorem dX0_choose_106 : decode cX0_choose 106 = .ok (.bipush 41, 2) := by decide +kernel
theorem dX0_choose_108 : decode cX0_choose 108 = .ok (.imul, 1) := by decide +kernel
theorem dX0_choose_109 : decode cX0_choose 109 = .ok (.iload_n 3, 1) := by decide +kernel
theorem dX0_choose_110 : decode cX0_choose 110 = .ok (.iadd, 1) := by decide +kernel
theorem dX0_choose_111 : decode cX0_choose 111 = .ok (.iconst 1, 1) := by decide +kernel
theorem dX0_choose_112 : decode cX0_choose 112 = .ok (.iadd, 1) := by decide +kernel
theorem dX0_choose_113 : decode cX0_choose 113 = .ok (.iaload, 1) := by decide +kernel
theorem dX0_choose_114 : decode cX0_choose 114 = .ok (.iadd, 1) := by decide +kernel
theorem dX0_choose_115 : decode cX0_choose 115 = .ok (.iload 5, 2) := by decide +kernel
theorem dX0_choose_117 : decode cX0_choose 117 = .ok (.if_icmp .ne 16, 3) := by decide +kernel
theorem dX0_choose_120 : decode cX0_choose 120 = .ok (.aload_n 0, 1) := by decide +kernel
theorem dX0_choose_121 : decode cX0_choose 121 = .ok (.getfield 18, 3) := by decide +kernel
theorem dX0_choose_124 : decode cX0_choose 124 = .ok (.iload_n 3, 1) := by decide +kernel
theorem dX0_choose_125 : decode cX0_choose 125 = .ok (.iconst (-1), 1) := by decide +kernel
theorem dX0_choose_126 : decode cX0_choose 126 = .ok (.iastore, 1) := by decide +kernel
theorem dX0_choose_127 : decode cX0_choose 127 = .ok (.iinc 3 1, 3) := by decide +kernel
theorem dX0_choose_130 : decode cX0_choose 130 = .ok (.goto 6, 3) := by decide +kernel
theorem dX0_choose_133 : decode cX0_choose 133 = .ok (.iinc 2 1, 3) := by decide +kernel
theorem dX0_choose_136 : decode cX0_choose 136 = .ok (.iinc 4 (-1), 3) := by decide +kernel
theorem dX0_choose_139 : decode cX0_choose 139 = .ok (.goto (-109), 3) := by decide +kernel
theorem dX0_choose_142 : decode cX0_choose 142 = .ok (.return_, 1) := by decide +kernel
set_option maxRecDepth 20000 in
theorem ggX0_pair_X5_pitchOf : GoodIn wsX0_pair wsX5_pitchOf := goodIn_r _ [11, 12, 27, 28, 29] (by decide +kernel) (by decide +kernel)
set_option maxRecDepth 20000 in
theorem gX0_pair_X5_pitchOf : GoodIn wsX0_pair (wsV RX0 65 RX5 yX5_pitchOf wsX5_pitchOf) := goodIn_app (goodIn_of _ (by decide +kernel)) ggX0_pair_X5_pitchOf
set_option maxRecDepth 20000 in
theorem ggX0_pair_X5_stepOf : GoodIn wsX0_pair wsX5_stepOf := goodIn_r _ [16, 17, 27, 28, 29] (by decide +kernel) (by decide +kernel)
set_option maxRecDepth 20000 in
theorem gX0_pair_X5_stepOf : GoodIn wsX0_pair (wsV RX0 86 RX5 yX5_stepOf wsX5_stepOf) := goodIn_app (goodIn_of _ (by decide +kernel)) ggX0_pair_X5_stepOf
theorem dX0_pair_0 : decode cX0_pair 0 = .ok (.aload_n 0, 1) := by decide +kernel
theorem dX0_pair_1 : decode cX0_pair 1 = .ok (.getfield 18, 3) := by decide +kernel
theorem dX0_pair_4 : decode cX0_pair 4 = .ok (.iload_n 2, 1) := by decide +kernel
theorem dX0_pair_5 : decode cX0_pair 5 = .ok (.iload_n 1, 1) := by decide +kernel
theorem dX0_pair_6 : decode cX0_pair 6 = .ok (.iastore, 1) := by decide +kernel
theorem dX0_pair_7 : decode cX0_pair 7 = .ok (.aload_n 0, 1) := by decide +kernel
theorem dX0_pair_8 : decode cX0_pair 8 = .ok (.dup, 1) := by decide +kernel
theorem dX0_pair_9 : decode cX0_pair 9 = .ok (.getfield 56, 3) := by decide +kernel
theorem dX0_pair_12 : decode cX0_pair 12 = .ok (.iconst 1, 1) := by decide +kernel
theorem dX0_pair_13 : decode cX0_pair 13 = .ok (.iadd, 1) := by decide +kernel
theorem dX0_pair_14 : decode cX0_pair 14 = .ok (.putfield 56, 3) := by decide +kernel
theorem dX0_pair_17 : decode cX0_pair 17 = .ok (.aload_n 0, 1) := by decide +kernel
theorem dX0_pair_18 : decode cX0_pair 18 = .ok (.getfield 9, 3) := by decide +kernel
theorem dX0_pair_21 : decode cX0_pair 21 = .ok (.iload_n 1, 1) := by decide +kernel
theorem dX0_pair_22 : decode cX0_pair 22 = .ok (.iaload, 1) := by decide +kernel
theorem dX0_pair_23 : decode cX0_pair 23 = .ok (.aload_n 3, 1) := by decide +kernel
theorem dX0_pair_24 : decode cX0_pair 24 = .ok (.iload_n 2, 1) := by decide +kernel
theorem dX0_pair_25 : decode cX0_pair 25 = .ok (.invokevirtual 65, 3) := by decide +kernel
theorem dX0_pair_28 : decode cX0_pair 28 = .ok (.if_icmp .eq 13, 3) := by decide +kernel
theorem dX0_pair_31 : decode cX0_pair 31 = .ok (.aload_n 0, 1) := by decide +kernel
theorem dX0_pair_32 : decode cX0_pair 32 = .ok (.dup, 1) := by decide +kernel
theorem dX0_pair_33 : decode cX0_pair 33 = .ok (.getfield 59, 3) := by decide +kernel
theorem dX0_pair_36 : decode cX0_pair 36 = .ok (.iconst 1, 1) := by decide +kernel
theorem dX0_pair_37 : decode cX0_pair 37 = .ok (.iadd, 1) := by decide +kernel
theorem dX0_pair_38 : decode cX0_pair 38 = .ok (.putfield 59, 3) := by decide +kernel
theorem dX0_pair_41 : decode cX0_pair 41 = .ok (.aload_n 0, 1) := by decide +kernel
theorem dX0_pair_42 : decode cX0_pair 42 = .ok (.getfield 15, 3) := by decide +kernel
theorem dX0_pair_45 : decode cX0_pair 45 = .ok (.iload_n 1, 1) := by decide +kernel
theorem dX0_pair_46 : decode cX0_pair 46 = .ok (.iaload, 1) := by decide +kernel
theorem dX0_pair_47 : decode cX0_pair 47 = .ok (.aload_n 3, 1) := by decide +kernel
theorem dX0_pair_48 : decode cX0_pair 48 = .ok (.iload_n 2, 1) := by decide +kernel
theorem dX0_pair_49 : decode cX0_pair 49 = .ok (.invokevirtual 86, 3) := by decide +kernel
theorem dX0_pair_52 : decode cX0_pair 52 = .ok (.if_icmp .eq 13, 3) := by decide +kernel
theorem dX0_pair_55 : decode cX0_pair 55 = .ok (.aload_n 0, 1) := by decide +kernel
theorem dX0_pair_56 : decode cX0_pair 56 = .ok (.dup, 1) := by decide +kernel
theorem dX0_pair_57 : decode cX0_pair 57 = .ok (.getfield 62, 3) := by decide +kernel
theorem dX0_pair_60 : decode cX0_pair 60 = .ok (.iconst 1, 1) := by decide +kernel
theorem dX0_pair_61 : decode cX0_pair 61 = .ok (.iadd, 1) := by decide +kernel
theorem dX0_pair_62 : decode cX0_pair 62 = .ok (.putfield 62, 3) := by decide +kernel
theorem dX0_pair_65 : decode cX0_pair 65 = .ok (.return_, 1) := by decide +kernel
theorem dX1_init_0 : decode cX1_init 0 = .ok (.aload_n 0, 1) := by decide +kernel
theorem dX1_init_1 : decode cX1_init 1 = .ok (.invokespecial 3, 3) := by decide +kernel
theorem dX1_init_4 : decode cX1_init 4 = .ok (.aload_n 0, 1) := by decide +kernel
theorem dX1_init_5 : decode cX1_init 5 = .ok (.bipush 50, 2) := by decide +kernel
theorem dX1_init_7 : decode cX1_init 7 = .ok (.putfield 11, 3) := by decide +kernel
theorem dX1_init_10 : decode cX1_init 10 = .ok (.aload_n 0, 1) := by decide +kernel
theorem dX1_init_11 : decode cX1_init 11 = .ok (.iconst 0, 1) := by decide +kernel
theorem dX1_init_12 : decode cX1_init 12 = .ok (.putfield 15, 3) := by decide +kernel
theorem dX1_init_15 : decode cX1_init 15 = .ok (.aload_n 0, 1) := by decide +kernel
theorem dX1_init_16 : decode cX1_init 16 = .ok (.iconst 0, 1) := by decide +kernel
theorem dX1_init_17 : decode cX1_init 17 = .ok (.putfield 18, 3) := by decide +kernel
theorem dX1_init_20 : decode cX1_init 20 = .ok (.return_, 1) := by decide +kernel
theorem dX1_pressureNow_0 : decode cX1_pressureNow 0 = .ok (.aload_n 0, 1) := by decide +kernel
theorem dX1_pressureNow_1 : decode cX1_pressureNow 1 = .ok (.getfield 11, 3) := by decide +kernel
theorem dX1_pressureNow_4 : decode cX1_pressureNow 4 = .ok (.ireturn, 1) := by decide +kernel
theorem dX1_soundingPitches_0 : decode cX1_soundingPitches 0 = .ok (.aload_n 0, 1) := by decide +kernel
theorem dX1_soundingPitches_1 : decode cX1_soundingPitches 1 = .ok (.getfield 15, 3) := by decide +kernel
theorem dX1_soundingPitches_4 : decode cX1_soundingPitches 4 = .ok (.ireturn, 1) := by decide +kernel
theorem dX1_mutedTicks_0 : decode cX1_mutedTicks 0 = .ok (.aload_n 0, 1) := by decide +kernel
theorem dX1_mutedTicks_1 : decode cX1_mutedTicks 1 = .ok (.getfield 18, 3) := by decide +kernel
theorem dX1_mutedTicks_4 : decode cX1_mutedTicks 4 = .ok (.ireturn, 1) := by decide +kernel
set_option maxRecDepth 20000 in
theorem ggX1_playAll_X1_playTo : GoodIn wsX1_playAll wsX1_playTo := goodIn_r _ [5, 6, 7, 8, 9, 10, 11, 12, 13, 14, 15, 16, 17, 18, 19, 20, 21, 22, 23, 24, 25, 26, 27, 28, 29, 30, 31, 32, 33, 34, 35, 36, 37, 38, 39, 40, 41, 42, 43, 44] (by decide +kernel) (by decide +kernel)
set_option maxRecDepth 20000 in
theorem gX1_playAll_X1_playTo : GoodIn wsX1_playAll (wsV RX1 21 RX1 yX1_playTo wsX1_playTo) := goodIn_app (goodIn_of _ (by decide +kernel)) ggX1_playAll_X1_playTo
theorem dX1_playAll_0 : decode cX1_playAll 0 = .ok (.aload_n 0, 1) := by decide +kernel
theorem dX1_playAll_1 : decode cX1_playAll 1 = .ok (.aload_n 1, 1) := by decide +kernel
theorem dX1_playAll_2 : decode cX1_playAll 2 = .ok (.iload_n 2, 1) := by decide +kernel
theorem dX1_playAll_3 : decode cX1_playAll 3 = .ok (.iconst (-1), 1) := by decide +kernel
theorem dX1_playAll_4 : decode cX1_playAll 4 = .ok (.invokevirtual 21, 3) := by decide +kernel
theorem dX1_playAll_7 : decode cX1_playAll 7 = .ok (.pop, 1) := by decide +kernel
theorem dX1_playAll_8 : decode cX1_playAll 8 = .ok (.return_, 1) := by decide +kernel
set_option maxRecDepth 20000 in
theorem ggX1_playTo_X4_ticksOf : GoodIn wsX1_playTo wsX4_ticksOf := goodIn_r _ [15, 16, 32, 33, 34, 35, 36, 37, 38, 39] (by decide +kernel) (by decide +kernel)
set_option maxRecDepth 20000 in
theorem gX1_playTo_X4_ticksOf : GoodIn wsX1_playTo (wsV RX1 25 RX4 yX4_ticksOf wsX4_ticksOf) := goodIn_app (goodIn_of _ (by decide +kernel)) ggX1_playTo_X4_ticksOf
set_option maxRecDepth 20000 in
theorem ggX1_playTo_X4_pitchesIn : GoodIn wsX1_playTo wsX4_pitchesIn := goodIn_r _ [20, 21, 32, 33, 34, 35, 36, 37, 38, 39] (by decide +kernel) (by decide +kernel)
set_option maxRecDepth 20000 in
theorem gX1_playTo_X4_pitchesIn : GoodIn wsX1_playTo (wsV RX1 31 RX4 yX4_pitchesIn wsX4_pitchesIn) := goodIn_app (goodIn_of _ (by decide +kernel)) ggX1_playTo_X4_pitchesIn
set_option maxRecDepth 20000 in
theorem ggX1_playTo_J6_bitCount_0f7a4 : GoodIn wsX1_playTo wsJ6_bitCount_0f7a4 := goodIn_r _ [25, 26, 27, 28] (by decide +kernel) (by decide +kernel)
set_option maxRecDepth 20000 in
theorem gX1_playTo_J6_bitCount_0f7a4 : GoodIn wsX1_playTo (va_wsS RX1 35 yJ6_bitCount_0f7a4 wsJ6_bitCount_0f7a4) := goodIn_app (goodIn_of _ (by decide +kernel)) ggX1_playTo_J6_bitCount_0f7a4
theorem dX1_playTo_0 : decode cX1_playTo 0 = .ok (.aload_n 0, 1) := by decide +kernel
theorem dX1_playTo_1 : decode cX1_playTo 1 = .ok (.bipush 50, 2) := by decide +kernel
theorem dX1_playTo_3 : decode cX1_playTo 3 = .ok (.putfield 11, 3) := by decide +kernel
theorem dX1_playTo_6 : decode cX1_playTo 6 = .ok (.aload_n 0, 1) := by decide +kernel
theorem dX1_playTo_7 : decode cX1_playTo 7 = .ok (.iconst 0, 1) := by decide +kernel
theorem dX1_playTo_8 : decode cX1_playTo 8 = .ok (.putfield 18, 3) := by decide +kernel
theorem dX1_playTo_11 : decode cX1_playTo 11 = .ok (.iconst 0, 1) := by decide +kernel
theorem dX1_playTo_12 : decode cX1_playTo 12 = .ok (.istore 4, 2) := by decide +kernel
theorem dX1_playTo_14 : decode cX1_playTo 14 = .ok (.iconst 0, 1) := by decide +kernel
theorem dX1_playTo_15 : decode cX1_playTo 15 = .ok (.istore 5, 2) := by decide +kernel
theorem dX1_playTo_17 : decode cX1_playTo 17 = .ok (.iconst 0, 1) := by decide +kernel
theorem dX1_playTo_18 : decode cX1_playTo 18 = .ok (.istore 6, 2) := by decide +kernel
theorem dX1_playTo_20 : decode cX1_playTo 20 = .ok (.iload 6, 2) := by decide +kernel
theorem dX1_playTo_22 : decode cX1_playTo 22 = .ok (.sipush 300, 3) := by decide +kernel
theorem dX1_playTo_25 : decode cX1_playTo 25 = .ok (.if_icmp .ge 123, 3) := by decide +kernel
theorem dX1_playTo_28 : decode cX1_playTo 28 = .ok (.aload_n 1, 1) := by decide +kernel
theorem dX1_playTo_29 : decode cX1_playTo 29 = .ok (.iload 6, 2) := by decide +kernel
theorem dX1_playTo_31 : decode cX1_playTo 31 = .ok (.iload 5, 2) := by decide +kernel
theorem dX1_playTo_33 : decode cX1_playTo 33 = .ok (.invokevirtual 25, 3) := by decide +kernel
theorem dX1_playTo_36 : decode cX1_playTo 36 = .ok (.istore 5, 2) := by decide +kernel
theorem dX1_playTo_38 : decode cX1_playTo 38 = .ok (.aload_n 1, 1) := by decide +kernel
theorem dX1_playTo_39 : decode cX1_playTo 39 = .ok (.iload 6, 2) := by decide +kernel
theorem dX1_playTo_41 : decode cX1_playTo 41 = .ok (.invokevirtual 31, 3) := by decide +kernel
theorem dX1_playTo_44 : decode cX1_playTo 44 = .ok (.istore 7, 2) := by decide +kernel
theorem dX1_playTo_46 : decode cX1_playTo 46 = .ok (.iconst 0, 1) := by decide +kernel
theorem dX1_playTo_47 : decode cX1_playTo 47 = .ok (.istore 8, 2) := by decide +kernel
theorem dX1_playTo_49 : decode cX1_playTo 49 = .ok (.iload 8, 2) := by decide +kernel
theorem dX1_playTo_51 : decode cX1_playTo 51 = .ok (.iload 5, 2) := by decide +kernel
theorem dX1_playTo_53 : decode cX1_playTo 53 = .ok (.if_icmp .ge 89, 3) := by decide +kernel
theorem dX1_playTo_56 : decode cX1_playTo 56 = .ok (.aload_n 0, 1) := by decide +kernel
theorem dX1_playTo_57 : decode cX1_playTo 57 = .ok (.aload_n 0, 1) := by decide +kernel
theorem dX1_playTo_58 : decode cX1_playTo 58 = .ok (.getfield 11, 3) := by decide +kernel
theorem dX1_playTo_61 : decode cX1_playTo 61 = .ok (.bipush 8, 2) := by decide +kernel
theorem dX1_playTo_63 : decode cX1_playTo 63 = .ok (.if_icmp .lt 8, 3) := by decide +kernel
theorem dX1_playTo_66 : decode cX1_playTo 66 = .ok (.iload 7, 2) := by decide +kernel
theorem dX1_playTo_68 : decode cX1_playTo 68 = .ok (.goto 4, 3) := by decide +kernel
theorem dX1_playTo_71 : decode cX1_playTo 71 = .ok (.iconst 0, 1) := by decide +kernel
theorem dX1_playTo_72 : decode cX1_playTo 72 = .ok (.putfield 15, 3) := by decide +kernel
theorem dX1_playTo_75 : decode cX1_playTo 75 = .ok (.iload 4, 2) := by decide +kernel
theorem dX1_playTo_77 : decode cX1_playTo 77 = .ok (.iload_n 3, 1) := by decide +kernel
theorem dX1_playTo_78 : decode cX1_playTo 78 = .ok (.if_icmp .ne 5, 3) := by decide +kernel
theorem dX1_playTo_81 : decode cX1_playTo 81 = .ok (.iconst 1, 1) := by decide +kernel
theorem dX1_playTo_82 : decode cX1_playTo 82 = .ok (.ireturn, 1) := by decide +kernel
theorem dX1_playTo_83 : decode cX1_playTo 83 = .ok (.aload_n 0, 1) := by decide +kernel
theorem dX1_playTo_84 : decode cX1_playTo 84 = .ok (.getfield 15, 3) := by decide +kernel
theorem dX1_playTo_87 : decode cX1_playTo 87 = .ok (.iload 7, 2) := by decide +kernel
theorem dX1_playTo_89 : decode cX1_playTo 89 = .ok (.if_icmp .eq 13, 3) := by decide +kernel
theorem dX1_playTo_92 : decode cX1_playTo 92 = .ok (.aload_n 0, 1) := by decide +kernel
theorem dX1_playTo_93 : decode cX1_playTo 93 = .ok (.dup, 1) := by decide +kernel
theorem dX1_playTo_94 : decode cX1_playTo 94 = .ok (.getfield 18, 3) := by decide +kernel
theorem dX1_playTo_97 : decode cX1_playTo 97 = .ok (.iconst 1, 1) := by decide +kernel
theorem dX1_playTo_98 : decode cX1_playTo 98 = .ok (.iadd, 1) := by decide +kernel
theorem dX1_playTo_99 : decode cX1_playTo 99 = .ok (.putfield 18, 3) := by decide +kernel
theorem dX1_playTo_102 : decode cX1_playTo 102 = .ok (.aload_n 0, 1) := by decide +kernel
theorem dX1_playTo_103 : decode cX1_playTo 103 = .ok (.getfield 11, 3) := by decide +kernel
theorem dX1_playTo_106 : decode cX1_playTo 106 = .ok (.iload_n 2, 1) := by decide +kernel
theorem dX1_playTo_107 : decode cX1_playTo 107 = .ok (.iadd, 1) := by decide +kernel
theorem dX1_playTo_108 : decode cX1_playTo 108 = .ok (.aload_n 0, 1) := by decide +kernel
theorem dX1_playTo_109 : decode cX1_playTo 109 = .ok (.getfield 15, 3) := by decide +kernel
theorem dX1_playTo_112 : decode cX1_playTo 112 = .ok (.invokestatic 35, 3) := by decide +kernel
theorem dX1_playTo_115 : decode cX1_playTo 115 = .ok (.isub, 1) := by decide +kernel
theorem dX1_playTo_116 : decode cX1_playTo 116 = .ok (.istore 9, 2) := by decide +kernel
theorem dX1_playTo_118 : decode cX1_playTo 118 = .ok (.aload_n 0, 1) := by decide +kernel
theorem dX1_playTo_119 : decode cX1_playTo 119 = .ok (.iconst 0, 1) := by decide +kernel
theorem dX1_playTo_120 : decode cX1_playTo 120 = .ok (.bipush 100, 2) := by decide +kernel
theorem dX1_playTo_122 : decode cX1_playTo 122 = .ok (.iload 9, 2) := by decide +kernel
theorem dX1_playTo_124 : decode cX1_playTo 124 = .ok (.invokestatic 40, 3) := by decide +kernel
theorem dX1_playTo_127 : decode cX1_playTo 127 = .ok (.invokestatic 45, 3) := by decide +kernel
theorem dX1_playTo_130 : decode cX1_playTo 130 = .ok (.putfield 11, 3) := by decide +kernel
theorem dX1_playTo_133 : decode cX1_playTo 133 = .ok (.iinc 4 1, 3) := by decide +kernel
theorem dX1_playTo_136 : decode cX1_playTo 136 = .ok (.iinc 8 1, 3) := by decide +kernel
theorem dX1_playTo_139 : decode cX1_playTo 139 = .ok (.goto (-90), 3) := by decide +kernel
theorem dX1_playTo_142 : decode cX1_playTo 142 = .ok (.iinc 6 1, 3) := by decide +kernel
theorem dX1_playTo_145 : decode cX1_playTo 145 = .ok (.goto (-125), 3) := by decide +kernel
theorem dX1_playTo_148 : decode cX1_playTo 148 = .ok (.iconst 0, 1) := by decide +kernel
theorem dX1_playTo_149 : decode cX1_playTo 149 = .ok (.ireturn, 1) := by decide +kernel
theorem dX2_init_0 : decode cX2_init 0 = .ok (.aload_n 0, 1) := by decide +kernel
theorem dX2_init_1 : decode cX2_init 1 = .ok (.invokespecial 3, 3) := by decide +kernel
theorem dX2_init_4 : decode cX2_init 4 = .ok (.aload_n 0, 1) := by decide +kernel
theorem dX2_init_5 : decode cX2_init 5 = .ok (.sipush 200, 3) := by decide +kernel
theorem dX2_init_8 : decode cX2_init 8 = .ok (.newarray .int, 2) := by decide +kernel
theorem dX2_init_10 : decode cX2_init 10 = .ok (.putfield 11, 3) := by decide +kernel
theorem dX2_init_13 : decode cX2_init 13 = .ok (.aload_n 0, 1) := by decide +kernel
theorem dX2_init_14 : decode cX2_init 14 = .ok (.sipush 200, 3) := by decide +kernel
theorem dX2_init_17 : decode cX2_init 17 = .ok (.newarray .int, 2) := by decide +kernel
theorem dX2_init_19 : decode cX2_init 19 = .ok (.putfield 15, 3) := by decide +kernel
theorem dX2_init_22 : decode cX2_init 22 = .ok (.aload_n 0, 1) := by decide +kernel
theorem dX2_init_23 : decode cX2_init 23 = .ok (.sipush 200, 3) := by decide +kernel
theorem dX2_init_26 : decode cX2_init 26 = .ok (.newarray .int, 2) := by decide +kernel
theorem dX2_init_28 : decode cX2_init 28 = .ok (.putfield 18, 3) := by decide +kernel
theorem dX2_init_31 : decode cX2_init 31 = .ok (.aload_n 0, 1) := by decide +kernel
theorem dX2_init_32 : decode cX2_init 32 = .ok (.sipush 200, 3) := by decide +kernel
theorem dX2_init_35 : decode cX2_init 35 = .ok (.newarray .int, 2) := by decide +kernel
theorem dX2_init_37 : decode cX2_init 37 = .ok (.putfield 21, 3) := by decide +kernel
theorem dX2_init_40 : decode cX2_init 40 = .ok (.aload_n 0, 1) := by decide +kernel
theorem dX2_init_41 : decode cX2_init 41 = .ok (.iconst 0, 1) := by decide +kernel
theorem dX2_init_42 : decode cX2_init 42 = .ok (.putfield 24, 3) := by decide +kernel
theorem dX2_init_45 : decode cX2_init 45 = .ok (.aload_n 0, 1) := by decide +kernel
theorem dX2_init_46 : decode cX2_init 46 = .ok (.iconst 0, 1) := by decide +kernel
theorem dX2_init_47 : decode cX2_init 47 = .ok (.putfield 28, 3) := by decide +kernel
theorem dX2_init_50 : decode cX2_init 50 = .ok (.aload_n 0, 1) := by decide +kernel
theorem dX2_init_51 : decode cX2_init 51 = .ok (.sipush 1001, 3) := by decide +kernel
theorem dX2_init_54 : decode cX2_init 54 = .ok (.newarray .int, 2) := by decide +kernel
theorem dX2_init_56 : decode cX2_init 56 = .ok (.putfield 31, 3) := by decide +kernel
theorem dX2_init_59 : decode cX2_init 59 = .ok (.return_, 1) := by decide +kernel
theorem dX2_lineCount_0 : decode cX2_lineCount 0 = .ok (.aload_n 0, 1) := by decide +kernel
theorem dX2_lineCount_1 : decode cX2_lineCount 1 = .ok (.getfield 24, 3) := by decide +kernel
theorem dX2_lineCount_4 : decode cX2_lineCount 4 = .ok (.ireturn, 1) := by decide +kernel
theorem dX2_today_0 : decode cX2_today 0 = .ok (.aload_n 0, 1) := by decide +kernel
theorem dX2_today_1 : decode cX2_today 1 = .ok (.getfield 28, 3) := by decide +kernel
theorem dX2_today_4 : decode cX2_today 4 = .ok (.ireturn, 1) := by decide +kernel
theorem dX2_letPass_0 : decode cX2_letPass 0 = .ok (.aload_n 0, 1) := by decide +kernel
theorem dX2_letPass_1 : decode cX2_letPass 1 = .ok (.dup, 1) := by decide +kernel
theorem dX2_letPass_2 : decode cX2_letPass 2 = .ok (.getfield 28, 3) := by decide +kernel
theorem dX2_letPass_5 : decode cX2_letPass 5 = .ok (.iload_n 1, 1) := by decide +kernel
theorem dX2_letPass_6 : decode cX2_letPass 6 = .ok (.iadd, 1) := by decide +kernel
theorem dX2_letPass_7 : decode cX2_letPass 7 = .ok (.putfield 28, 3) := by decide +kernel
theorem dX2_letPass_10 : decode cX2_letPass 10 = .ok (.aload_n 0, 1) := by decide +kernel
theorem dX2_letPass_11 : decode cX2_letPass 11 = .ok (.getfield 28, 3) := by decide +kernel
theorem dX2_letPass_14 : decode cX2_letPass 14 = .ok (.ireturn, 1) := by decide +kernel
theorem dX2_tell_0 : decode cX2_tell 0 = .ok (.aload_n 0, 1) := by decide +kernel
theorem dX2_tell_1 : decode cX2_tell 1 = .ok (.getfield 24, 3) := by decide +kernel
theorem dX2_tell_4 : decode cX2_tell 4 = .ok (.sipush 200, 3) := by decide +kernel
theorem dX2_tell_7 : decode cX2_tell 7 = .ok (.if_icmp .lt 5, 3) := by decide +kernel
theorem dX2_tell_10 : decode cX2_tell 10 = .ok (.iconst (-1), 1) := by decide +kernel
theorem dX2_tell_11 : decode cX2_tell 11 = .ok (.ireturn, 1) := by decide +kernel
theorem dX2_tell_12 : decode cX2_tell 12 = .ok (.aload_n 0, 1) := by decide +kernel
theorem dX2_tell_13 : decode cX2_tell 13 = .ok (.getfield 11, 3) := by decide +kernel
theorem dX2_tell_16 : decode cX2_tell 16 = .ok (.aload_n 0, 1) := by decide +kernel
theorem dX2_tell_17 : decode cX2_tell 17 = .ok (.getfield 24, 3) := by decide +kernel
theorem dX2_tell_20 : decode cX2_tell 20 = .ok (.iload_n 1, 1) := by decide +kernel
theorem dX2_tell_21 : decode cX2_tell 21 = .ok (.iastore, 1) := by decide +kernel
theorem dX2_tell_22 : decode cX2_tell 22 = .ok (.aload_n 0, 1) := by decide +kernel
theorem dX2_tell_23 : decode cX2_tell 23 = .ok (.getfield 15, 3) := by decide +kernel
theorem dX2_tell_26 : decode cX2_tell 26 = .ok (.aload_n 0, 1) := by decide +kernel
theorem dX2_tell_27 : decode cX2_tell 27 = .ok (.getfield 24, 3) := by decide +kernel
theorem dX2_tell_30 : decode cX2_tell 30 = .ok (.iload_n 2, 1) := by decide +kernel
theorem dX2_tell_31 : decode cX2_tell 31 = .ok (.iastore, 1) := by decide +kernel
theorem dX2_tell_32 : decode cX2_tell 32 = .ok (.aload_n 0, 1) := by decide +kernel
theorem dX2_tell_33 : decode cX2_tell 33 = .ok (.getfield 18, 3) := by decide +kernel
theorem dX2_tell_36 : decode cX2_tell 36 = .ok (.aload_n 0, 1) := by decide +kernel
theorem dX2_tell_37 : decode cX2_tell 37 = .ok (.getfield 24, 3) := by decide +kernel
theorem dX2_tell_40 : decode cX2_tell 40 = .ok (.iload_n 3, 1) := by decide +kernel
theorem dX2_tell_41 : decode cX2_tell 41 = .ok (.iastore, 1) := by decide +kernel
theorem dX2_tell_42 : decode cX2_tell 42 = .ok (.aload_n 0, 1) := by decide +kernel
theorem dX2_tell_43 : decode cX2_tell 43 = .ok (.getfield 21, 3) := by decide +kernel
theorem dX2_tell_46 : decode cX2_tell 46 = .ok (.aload_n 0, 1) := by decide +kernel
theorem dX2_tell_47 : decode cX2_tell 47 = .ok (.getfield 24, 3) := by decide +kernel
theorem dX2_tell_50 : decode cX2_tell 50 = .ok (.aload_n 0, 1) := by decide +kernel
theorem dX2_tell_51 : decode cX2_tell 51 = .ok (.getfield 28, 3) := by decide +kernel
theorem dX2_tell_54 : decode cX2_tell 54 = .ok (.iastore, 1) := by decide +kernel
theorem dX2_tell_55 : decode cX2_tell 55 = .ok (.aload_n 0, 1) := by decide +kernel
theorem dX2_tell_56 : decode cX2_tell 56 = .ok (.dup, 1) := by decide +kernel
theorem dX2_tell_57 : decode cX2_tell 57 = .ok (.getfield 24, 3) := by decide +kernel
theorem dX2_tell_60 : decode cX2_tell 60 = .ok (.iconst 1, 1) := by decide +kernel
theorem dX2_tell_61 : decode cX2_tell 61 = .ok (.iadd, 1) := by decide +kernel
theorem dX2_tell_62 : decode cX2_tell 62 = .ok (.putfield 24, 3) := by decide +kernel
theorem dX2_tell_65 : decode cX2_tell 65 = .ok (.aload_n 0, 1) := by decide +kernel
theorem dX2_tell_66 : decode cX2_tell 66 = .ok (.getfield 24, 3) := by decide +kernel
theorem dX2_tell_69 : decode cX2_tell 69 = .ok (.ireturn, 1) := by decide +kernel
set_option maxRecDepth 20000 in
theorem ggX2_placeOf_X2_counts : GoodIn wsX2_placeOf wsX2_counts := goodIn_r _ [8, 9, 10, 15, 16, 17, 18, 19, 20, 21] (by decide +kernel) (by decide +kernel)
set_option maxRecDepth 20000 in
theorem gX2_placeOf_X2_counts : GoodIn wsX2_placeOf (wsV RX2 34 RX2 yX2_counts wsX2_counts) := goodIn_app (goodIn_of _ (by decide +kernel)) ggX2_placeOf_X2_counts
set_option maxRecDepth 20000 in
theorem ggX2_placeOf_X2_standsInPlaceOf : GoodIn wsX2_placeOf wsX2_standsInPlaceOf := goodIn_r _ [14, 10, 15, 16, 17, 18, 19, 20, 21] (by decide +kernel) (by decide +kernel)
set_option maxRecDepth 20000 in
theorem gX2_placeOf_X2_standsInPlaceOf : GoodIn wsX2_placeOf (wsV RX2 38 RX2 yX2_standsInPlaceOf wsX2_standsInPlaceOf) := goodIn_app (goodIn_of _ (by decide +kernel)) ggX2_placeOf_X2_standsInPlaceOf
theorem dX2_placeOf_0 : decode cX2_placeOf 0 = .ok (.iconst (-1), 1) := by decide +kernel
theorem dX2_placeOf_1 : decode cX2_placeOf 1 = .ok (.istore 4, 2) := by decide +kernel
theorem dX2_placeOf_3 : decode cX2_placeOf 3 = .ok (.iconst 0, 1) := by decide +kernel
theorem dX2_placeOf_4 : decode cX2_placeOf 4 = .ok (.istore 5, 2) := by decide +kernel
theorem dX2_placeOf_6 : decode cX2_placeOf 6 = .ok (.iload 5, 2) := by decide +kernel
theorem dX2_placeOf_8 : decode cX2_placeOf 8 = .ok (.aload_n 0, 1) := by decide +kernel
theorem dX2_placeOf_9 : decode cX2_placeOf 9 = .ok (.getfield 24, 3) := by decide +kernel
theorem dX2_placeOf_12 : decode cX2_placeOf 12 = .ok (.if_icmp .ge 46, 3) := by decide +kernel
theorem dX2_placeOf_15 : decode cX2_placeOf 15 = .ok (.aload_n 0, 1) := by decide +kernel
theorem dX2_placeOf_16 : decode cX2_placeOf 16 = .ok (.getfield 11, 3) := by decide +kernel
theorem dX2_placeOf_19 : decode cX2_placeOf 19 = .ok (.iload 5, 2) := by decide +kernel
theorem dX2_placeOf_21 : decode cX2_placeOf 21 = .ok (.iaload, 1) := by decide +kernel
theorem dX2_placeOf_22 : decode cX2_placeOf 22 = .ok (.iload_n 1, 1) := by decide +kernel
theorem dX2_placeOf_23 : decode cX2_placeOf 23 = .ok (.if_icmp .ne 29, 3) := by decide +kernel
theorem dX2_placeOf_26 : decode cX2_placeOf 26 = .ok (.aload_n 0, 1) := by decide +kernel
theorem dX2_placeOf_27 : decode cX2_placeOf 27 = .ok (.iload 5, 2) := by decide +kernel
theorem dX2_placeOf_29 : decode cX2_placeOf 29 = .ok (.iload_n 2, 1) := by decide +kernel
theorem dX2_placeOf_30 : decode cX2_placeOf 30 = .ok (.iload_n 3, 1) := by decide +kernel
theorem dX2_placeOf_31 : decode cX2_placeOf 31 = .ok (.invokevirtual 34, 3) := by decide +kernel
theorem dX2_placeOf_34 : decode cX2_placeOf 34 = .ok (.ifCond .eq 18, 3) := by decide +kernel
theorem dX2_placeOf_37 : decode cX2_placeOf 37 = .ok (.aload_n 0, 1) := by decide +kernel
theorem dX2_placeOf_38 : decode cX2_placeOf 38 = .ok (.iload 5, 2) := by decide +kernel
theorem dX2_placeOf_40 : decode cX2_placeOf 40 = .ok (.iload 4, 2) := by decide +kernel
theorem dX2_placeOf_42 : decode cX2_placeOf 42 = .ok (.invokevirtual 38, 3) := by decide +kernel
theorem dX2_placeOf_45 : decode cX2_placeOf 45 = .ok (.ifCond .eq 7, 3) := by decide +kernel
theorem dX2_placeOf_48 : decode cX2_placeOf 48 = .ok (.iload 5, 2) := by decide +kernel
theorem dX2_placeOf_50 : decode cX2_placeOf 50 = .ok (.istore 4, 2) := by decide +kernel
theorem dX2_placeOf_52 : decode cX2_placeOf 52 = .ok (.iinc 5 1, 3) := by decide +kernel
theorem dX2_placeOf_55 : decode cX2_placeOf 55 = .ok (.goto (-49), 3) := by decide +kernel
theorem dX2_placeOf_58 : decode cX2_placeOf 58 = .ok (.iload 4, 2) := by decide +kernel
theorem dX2_placeOf_60 : decode cX2_placeOf 60 = .ok (.iconst (-1), 1) := by decide +kernel
theorem dX2_placeOf_61 : decode cX2_placeOf 61 = .ok (.if_icmp .ne 7, 3) := by decide +kernel
theorem dX2_placeOf_64 : decode cX2_placeOf 64 = .ok (.iconst 0, 1) := by decide +kernel
theorem dX2_placeOf_65 : decode cX2_placeOf 65 = .ok (.goto 10, 3) := by decide +kernel
theorem dX2_placeOf_68 : decode cX2_placeOf 68 = .ok (.aload_n 0, 1) := by decide +kernel
theorem dX2_placeOf_69 : decode cX2_placeOf 69 = .ok (.getfield 18, 3) := by decide +kernel
theorem dX2_placeOf_72 : decode cX2_placeOf 72 = .ok (.iload 4, 2) := by decide +kernel
theorem dX2_placeOf_74 : decode cX2_placeOf 74 = .ok (.iaload, 1) := by decide +kernel
theorem dX2_placeOf_75 : decode cX2_placeOf 75 = .ok (.ireturn, 1) := by decide +kernel
set_option maxRecDepth 20000 in
theorem ggX2_copiesIn_X2_counts : GoodIn wsX2_copiesIn wsX2_counts := goodIn_r _ [9, 10, 11, 16, 17, 18, 19, 20, 21, 22] (by decide +kernel) (by decide +kernel)
set_option maxRecDepth 20000 in
theorem gX2_copiesIn_X2_counts : GoodIn wsX2_copiesIn (wsV RX2 34 RX2 yX2_counts wsX2_counts) := goodIn_app (goodIn_of _ (by decide +kernel)) ggX2_copiesIn_X2_counts
set_option maxRecDepth 20000 in
theorem ggX2_copiesIn_X2_standsInPlaceOf : GoodIn wsX2_copiesIn wsX2_standsInPlaceOf := goodIn_r _ [15, 11, 16, 17, 18, 19, 20, 21, 22] (by decide +kernel) (by decide +kernel)
set_option maxRecDepth 20000 in
theorem gX2_copiesIn_X2_standsInPlaceOf : GoodIn wsX2_copiesIn (wsV RX2 38 RX2 yX2_standsInPlaceOf wsX2_standsInPlaceOf) := goodIn_app (goodIn_of _ (by decide +kernel)) ggX2_copiesIn_X2_standsInPlaceOf
theorem dX2_copiesIn_0 : decode cX2_copiesIn 0 = .ok (.iconst 0, 1) := by decide +kernel
theorem dX2_copiesIn_1 : decode cX2_copiesIn 1 = .ok (.istore 4, 2) := by decide +kernel
theorem dX2_copiesIn_3 : decode cX2_copiesIn 3 = .ok (.iload 4, 2) := by decide +kernel
theorem dX2_copiesIn_5 : decode cX2_copiesIn 5 = .ok (.aload_n 0, 1) := by decide +kernel
theorem dX2_copiesIn_6 : decode cX2_copiesIn 6 = .ok (.getfield 24, 3) := by decide +kernel
theorem dX2_copiesIn_9 : decode cX2_copiesIn 9 = .ok (.if_icmp .ge 22, 3) := by decide +kernel
theorem dX2_copiesIn_12 : decode cX2_copiesIn 12 = .ok (.aload_n 0, 1) := by decide +kernel
theorem dX2_copiesIn_13 : decode cX2_copiesIn 13 = .ok (.getfield 31, 3) := by decide +kernel
theorem dX2_copiesIn_16 : decode cX2_copiesIn 16 = .ok (.aload_n 0, 1) := by decide +kernel
theorem dX2_copiesIn_17 : decode cX2_copiesIn 17 = .ok (.getfield 11, 3) := by decide +kernel
theorem dX2_copiesIn_20 : decode cX2_copiesIn 20 = .ok (.iload 4, 2) := by decide +kernel
theorem dX2_copiesIn_22 : decode cX2_copiesIn 22 = .ok (.iaload, 1) := by decide +kernel
theorem dX2_copiesIn_23 : decode cX2_copiesIn 23 = .ok (.iconst (-1), 1) := by decide +kernel
theorem dX2_copiesIn_24 : decode cX2_copiesIn 24 = .ok (.iastore, 1) := by decide +kernel
theorem dX2_copiesIn_25 : decode cX2_copiesIn 25 = .ok (.iinc 4 1, 3) := by decide +kernel
theorem dX2_copiesIn_28 : decode cX2_copiesIn 28 = .ok (.goto (-25), 3) := by decide +kernel
theorem dX2_copiesIn_31 : decode cX2_copiesIn 31 = .ok (.iconst 0, 1) := by decide +kernel
theorem dX2_copiesIn_32 : decode cX2_copiesIn 32 = .ok (.istore 4, 2) := by decide +kernel
theorem dX2_copiesIn_34 : decode cX2_copiesIn 34 = .ok (.iload 4, 2) := by decide +kernel
theorem dX2_copiesIn_36 : decode cX2_copiesIn 36 = .ok (.aload_n 0, 1) := by decide +kernel
theorem dX2_copiesIn_37 : decode cX2_copiesIn 37 = .ok (.getfield 24, 3) := by decide +kernel
theorem dX2_copiesIn_40 : decode cX2_copiesIn 40 = .ok (.if_icmp .ge 55, 3) := by decide +kernel
theorem dX2_copiesIn_43 : decode cX2_copiesIn 43 = .ok (.aload_n 0, 1) := by decide +kernel
theorem dX2_copiesIn_44 : decode cX2_copiesIn 44 = .ok (.iload 4, 2) := by decide +kernel
theorem dX2_copiesIn_46 : decode cX2_copiesIn 46 = .ok (.iload_n 2, 1) := by decide +kernel
theorem dX2_copiesIn_47 : decode cX2_copiesIn 47 = .ok (.iload_n 3, 1) := by decide +kernel
theorem dX2_copiesIn_48 : decode cX2_copiesIn 48 = .ok (.invokevirtual 34, 3) := by decide +kernel
theorem dX2_copiesIn_51 : decode cX2_copiesIn 51 = .ok (.ifCond .eq 38, 3) := by decide +kernel
theorem dX2_copiesIn_54 : decode cX2_copiesIn 54 = .ok (.aload_n 0, 1) := by decide +kernel
theorem dX2_copiesIn_55 : decode cX2_copiesIn 55 = .ok (.iload 4, 2) := by decide +kernel
theorem dX2_copiesIn_57 : decode cX2_copiesIn 57 = .ok (.aload_n 0, 1) := by decide +kernel
theorem dX2_copiesIn_58 : decode cX2_copiesIn 58 = .ok (.getfield 31, 3) := by decide +kernel
theorem dX2_copiesIn_61 : decode cX2_copiesIn 61 = .ok (.aload_n 0, 1) := by decide +kernel
theorem dX2_copiesIn_62 : decode cX2_copiesIn 62 = .ok (.getfield 11, 3) := by decide +kernel
theorem dX2_copiesIn_65 : decode cX2_copiesIn 65 = .ok (.iload 4, 2) := by decide +kernel
theorem dX2_copiesIn_67 : decode cX2_copiesIn 67 = .ok (.iaload, 1) := by decide +kernel
theorem dX2_copiesIn_68 : decode cX2_copiesIn 68 = .ok (.iaload, 1) := by decide +kernel
theorem dX2_copiesIn_69 : decode cX2_copiesIn 69 = .ok (.invokevirtual 38, 3) := by decide +kernel
theorem dX2_copiesIn_72 : decode cX2_copiesIn 72 = .ok (.ifCond .eq 17, 3) := by decide +kernel
theorem dX2_copiesIn_75 : decode cX2_copiesIn 75 = .ok (.aload_n 0, 1) := by decide +kernel
theorem dX2_copiesIn_76 : decode cX2_copiesIn 76 = .ok (.getfield 31, 3) := by decide +kernel
theorem dX2_copiesIn_79 : decode cX2_copiesIn 79 = .ok (.aload_n 0, 1) := by decide +kernel
theorem dX2_copiesIn_80 : decode cX2_copiesIn 80 = .ok (.getfield 11, 3) := by decide +kernel
theorem dX2_copiesIn_83 : decode cX2_copiesIn 83 = .ok (.iload 4, 2) := by decide +kernel
theorem dX2_copiesIn_85 : decode cX2_copiesIn 85 = .ok (.iaload, 1) := by decide +kernel
theorem dX2_copiesIn_86 : decode cX2_copiesIn 86 = .ok (.iload 4, 2) := by decide +kernel
theorem dX2_copiesIn_88 : decode cX2_copiesIn 88 = .ok (.iastore, 1) := by decide +kernel
theorem dX2_copiesIn_89 : decode cX2_copiesIn 89 = .ok (.iinc 4 1, 3) := by decide +kernel
theorem dX2_copiesIn_92 : decode cX2_copiesIn 92 = .ok (.goto (-58), 3) := by decide +kernel
theorem dX2_copiesIn_95 : decode cX2_copiesIn 95 = .ok (.iconst 0, 1) := by decide +kernel
theorem dX2_copiesIn_96 : decode cX2_copiesIn 96 = .ok (.istore 4, 2) := by decide +kernel
theorem dX2_copiesIn_98 : decode cX2_copiesIn 98 = .ok (.iconst 0, 1) := by decide +kernel
theorem dX2_copiesIn_99 : decode cX2_copiesIn 99 = .ok (.istore 5, 2) := by decide +kernel
theorem dX2_copiesIn_101 : decode cX2_copiesIn 101 = .ok (.iload 5, 2) := by decide +kernel
theorem dX2_copiesIn_103 : decode cX2_copiesIn 103 = .ok (.aload_n 0, 1) := by decide +kernel
theorem dX2_copiesIn_104 : decode cX2_copiesIn 104 = .ok (.getfield 24, 3) := by decide +kernel
theorem dX2_copiesIn_107 : decode cX2_copiesIn 107 = .ok (.if_icmp .ge 40, 3) := by decide +kernel
theorem dX2_copiesIn_110 : decode cX2_copiesIn 110 = .ok (.aload_n 0, 1) := by decide +kernel
theorem dX2_copiesIn_111 : decode cX2_copiesIn 111 = .ok (.getfield 31, 3) := by decide +kernel
theorem dX2_copiesIn_114 : decode cX2_copiesIn 114 = .ok (.aload_n 0, 1) := by decide +kernel
theorem dX2_copiesIn_115 : decode cX2_copiesIn 115 = .ok (.getfield 11, 3) := by decide +kernel
theorem dX2_copiesIn_118 : decode cX2_copiesIn 118 = .ok (.iload 5, 2) := by decide +kernel
theorem dX2_copiesIn_120 : decode cX2_copiesIn 120 = .ok (.iaload, 1) := by decide +kernel
theorem dX2_copiesIn_121 : decode cX2_copiesIn 121 = .ok (.iaload, 1) := by decide +kernel
theorem dX2_copiesIn_122 : decode cX2_copiesIn 122 = .ok (.iload 5, 2) := by decide +kernel
theorem dX2_copiesIn_124 : decode cX2_copiesIn 124 = .ok (.if_icmp .ne 17, 3) := by decide +kernel
theorem dX2_copiesIn_127 : decode cX2_copiesIn 127 = .ok (.aload_n 0, 1) := by decide +kernel
theorem dX2_copiesIn_128 : decode cX2_copiesIn 128 = .ok (.getfield 18, 3) := by decide +kernel
theorem dX2_copiesIn_131 : decode cX2_copiesIn 131 = .ok (.iload 5, 2) := by decide +kernel
theorem dX2_copiesIn_133 : decode cX2_copiesIn 133 = .ok (.iaload, 1) := by decide +kernel
theorem dX2_copiesIn_134 : decode cX2_copiesIn 134 = .ok (.iload_n 1, 1) := by decide +kernel
theorem dX2_copiesIn_135 : decode cX2_copiesIn 135 = .ok (.if_icmp .ne 6, 3) := by decide +kernel
theorem dX2_copiesIn_138 : decode cX2_copiesIn 138 = .ok (.iinc 4 1, 3) := by decide +kernel
theorem dX2_copiesIn_141 : decode cX2_copiesIn 141 = .ok (.iinc 5 1, 3) := by decide +kernel
theorem dX2_copiesIn_144 : decode cX2_copiesIn 144 = .ok (.goto (-43), 3) := by decide +kernel
theorem dX2_copiesIn_147 : decode cX2_copiesIn 147 = .ok (.iload 4, 2) := by decide +kernel
theorem dX2_copiesIn_149 : decode cX2_copiesIn 149 = .ok (.ireturn, 1) := by decide +kernel
theorem dX2_counts_0 : decode cX2_counts 0 = .ok (.aload_n 0, 1) := by decide +kernel
theorem dX2_counts_1 : decode cX2_counts 1 = .ok (.getfield 21, 3) := by decide +kernel
theorem dX2_counts_4 : decode cX2_counts 4 = .ok (.iload_n 1, 1) := by decide +kernel
theorem dX2_counts_5 : decode cX2_counts 5 = .ok (.iaload, 1) := by decide +kernel
theorem dX2_counts_6 : decode cX2_counts 6 = .ok (.iload_n 3, 1) := by decide +kernel
theorem dX2_counts_7 : decode cX2_counts 7 = .ok (.if_icmp .gt 17, 3) := by decide +kernel
theorem dX2_counts_10 : decode cX2_counts 10 = .ok (.aload_n 0, 1) := by decide +kernel
theorem dX2_counts_11 : decode cX2_counts 11 = .ok (.getfield 15, 3) := by decide +kernel
theorem dX2_counts_14 : decode cX2_counts 14 = .ok (.iload_n 1, 1) := by decide +kernel
theorem dX2_counts_15 : decode cX2_counts 15 = .ok (.iaload, 1) := by decide +kernel
theorem dX2_counts_16 : decode cX2_counts 16 = .ok (.iload_n 2, 1) := by decide +kernel
theorem dX2_counts_17 : decode cX2_counts 17 = .ok (.if_icmp .gt 7, 3) := by decide +kernel
theorem dX2_counts_20 : decode cX2_counts 20 = .ok (.iconst 1, 1) := by decide +kernel
theorem dX2_counts_21 : decode cX2_counts 21 = .ok (.goto 4, 3) := by decide +kernel
theorem dX2_counts_24 : decode cX2_counts 24 = .ok (.iconst 0, 1) := by decide +kernel
theorem dX2_counts_25 : decode cX2_counts 25 = .ok (.ireturn, 1) := by decide +kernel
theorem dX2_standsInPlaceOf_0 : decode cX2_standsInPlaceOf 0 = .ok (.iload_n 2, 1) := by decide +kernel
theorem dX2_standsInPlaceOf_1 : decode cX2_standsInPlaceOf 1 = .ok (.iconst (-1), 1) := by decide +kernel
theorem dX2_standsInPlaceOf_2 : decode cX2_standsInPlaceOf 2 = .ok (.if_icmp .eq 18, 3) := by decide +kernel
theorem dX2_standsInPlaceOf_5 : decode cX2_standsInPlaceOf 5 = .ok (.aload_n 0, 1) := by decide +kernel
theorem dX2_standsInPlaceOf_6 : decode cX2_standsInPlaceOf 6 = .ok (.getfield 15, 3) := by decide +kernel
theorem dX2_standsInPlaceOf_9 : decode cX2_standsInPlaceOf 9 = .ok (.iload_n 1, 1) := by decide +kernel
theorem dX2_standsInPlaceOf_10 : decode cX2_standsInPlaceOf 10 = .ok (.iaload, 1) := by decide +kernel
theorem dX2_standsInPlaceOf_11 : decode cX2_standsInPlaceOf 11 = .ok (.aload_n 0, 1) := by decide +kernel
theorem dX2_standsInPlaceOf_12 : decode cX2_standsInPlaceOf 12 = .ok (.getfield 15, 3) := by decide +kernel
theorem dX2_standsInPlaceOf_15 : decode cX2_standsInPlaceOf 15 = .ok (.iload_n 2, 1) := by decide +kernel
theorem dX2_standsInPlaceOf_16 : decode cX2_standsInPlaceOf 16 = .ok (.iaload, 1) := by decide +kernel
theorem dX2_standsInPlaceOf_17 : decode cX2_standsInPlaceOf 17 = .ok (.if_icmp .lt 7, 3) := by decide +kernel
theorem dX2_standsInPlaceOf_20 : decode cX2_standsInPlaceOf 20 = .ok (.iconst 1, 1) := by decide +kernel
theorem dX2_standsInPlaceOf_21 : decode cX2_standsInPlaceOf 21 = .ok (.goto 4, 3) := by decide +kernel
theorem dX2_standsInPlaceOf_24 : decode cX2_standsInPlaceOf 24 = .ok (.iconst 0, 1) := by decide +kernel
theorem dX2_standsInPlaceOf_25 : decode cX2_standsInPlaceOf 25 = .ok (.ireturn, 1) := by decide +kernel
theorem dX3_init_0 : decode cX3_init 0 = .ok (.aload_n 0, 1) := by decide +kernel
theorem dX3_init_1 : decode cX3_init 1 = .ok (.invokespecial 3, 3) := by decide +kernel
theorem dX3_init_4 : decode cX3_init 4 = .ok (.aload_n 0, 1) := by decide +kernel
theorem dX3_init_5 : decode cX3_init 5 = .ok (.bipush 24, 2) := by decide +kernel
theorem dX3_init_7 : decode cX3_init 7 = .ok (.newarray .int, 2) := by decide +kernel
theorem dX3_init_9 : decode cX3_init 9 = .ok (.putfield 9, 3) := by decide +kernel
theorem dX3_init_12 : decode cX3_init 12 = .ok (.aload_n 0, 1) := by decide +kernel
theorem dX3_init_13 : decode cX3_init 13 = .ok (.bipush 24, 2) := by decide +kernel
theorem dX3_init_15 : decode cX3_init 15 = .ok (.newarray .int, 2) := by decide +kernel
theorem dX3_init_17 : decode cX3_init 17 = .ok (.putfield 15, 3) := by decide +kernel
theorem dX3_init_20 : decode cX3_init 20 = .ok (.iconst 0, 1) := by decide +kernel
theorem dX3_init_21 : decode cX3_init 21 = .ok (.istore_n 1, 1) := by decide +kernel
theorem dX3_init_22 : decode cX3_init 22 = .ok (.iload_n 1, 1) := by decide +kernel
theorem dX3_init_23 : decode cX3_init 23 = .ok (.bipush 24, 2) := by decide +kernel
theorem dX3_init_25 : decode cX3_init 25 = .ok (.if_icmp .ge 25, 3) := by decide +kernel
theorem dX3_init_28 : decode cX3_init 28 = .ok (.aload_n 0, 1) := by decide +kernel
theorem dX3_init_29 : decode cX3_init 29 = .ok (.getfield 9, 3) := by decide +kernel
theorem dX3_init_32 : decode cX3_init 32 = .ok (.iload_n 1, 1) := by decide +kernel
theorem dX3_init_33 : decode cX3_init 33 = .ok (.iconst 1, 1) := by decide +kernel
theorem dX3_init_34 : decode cX3_init 34 = .ok (.iastore, 1) := by decide +kernel
theorem dX3_init_35 : decode cX3_init 35 = .ok (.aload_n 0, 1) := by decide +kernel
theorem dX3_init_36 : decode cX3_init 36 = .ok (.getfield 15, 3) := by decide +kernel
theorem dX3_init_39 : decode cX3_init 39 = .ok (.iload_n 1, 1) := by decide +kernel
theorem dX3_init_40 : decode cX3_init 40 = .ok (.sipush 1001, 3) := by decide +kernel
theorem dX3_init_43 : decode cX3_init 43 = .ok (.iastore, 1) := by decide +kernel
theorem dX3_init_44 : decode cX3_init 44 = .ok (.iinc 1 1, 3) := by decide +kernel
theorem dX3_init_47 : decode cX3_init 47 = .ok (.goto (-25), 3) := by decide +kernel
theorem dX3_init_50 : decode cX3_init 50 = .ok (.aload_n 0, 1) := by decide +kernel
theorem dX3_init_51 : decode cX3_init 51 = .ok (.iconst 0, 1) := by decide +kernel
theorem dX3_init_52 : decode cX3_init 52 = .ok (.putfield 18, 3) := by decide +kernel
theorem dX3_init_55 : decode cX3_init 55 = .ok (.return_, 1) := by decide +kernel
theorem dX3_sightCount_0 : decode cX3_sightCount 0 = .ok (.aload_n 0, 1) := by decide +kernel
theorem dX3_sightCount_1 : decode cX3_sightCount 1 = .ok (.getfield 18, 3) := by decide +kernel
theorem dX3_sightCount_4 : decode cX3_sightCount 4 = .ok (.ireturn, 1) := by decide +kernel
theorem dX3_see_0 : decode cX3_see 0 = .ok (.aload_n 0, 1) := by decide +kernel
theorem dX3_see_1 : decode cX3_see 1 = .ok (.getfield 18, 3) := by decide +kernel
theorem dX3_see_4 : decode cX3_see 4 = .ok (.sipush 200, 3) := by decide +kernel
theorem dX3_see_7 : decode cX3_see 7 = .ok (.if_icmp .lt 5, 3) := by decide +kernel
theorem dX3_see_10 : decode cX3_see 10 = .ok (.iconst (-1), 1) := by decide +kernel
theorem dX3_see_11 : decode cX3_see 11 = .ok (.ireturn, 1) := by decide +kernel
theorem dX3_see_12 : decode cX3_see 12 = .ok (.iload_n 3, 1) := by decide +kernel
theorem dX3_see_13 : decode cX3_see 13 = .ok (.ifCond .eq 22, 3) := by decide +kernel
theorem dX3_see_16 : decode cX3_see 16 = .ok (.aload_n 0, 1) := by decide +kernel
theorem dX3_see_17 : decode cX3_see 17 = .ok (.getfield 15, 3) := by decide +kernel
theorem dX3_see_20 : decode cX3_see 20 = .ok (.iload_n 2, 1) := by decide +kernel
theorem dX3_see_21 : decode cX3_see 21 = .ok (.aload_n 0, 1) := by decide +kernel
theorem dX3_see_22 : decode cX3_see 22 = .ok (.getfield 15, 3) := by decide +kernel
theorem dX3_see_25 : decode cX3_see 25 = .ok (.iload_n 2, 1) := by decide +kernel
theorem dX3_see_26 : decode cX3_see 26 = .ok (.iaload, 1) := by decide +kernel
theorem dX3_see_27 : decode cX3_see 27 = .ok (.iload_n 1, 1) := by decide +kernel
theorem dX3_see_28 : decode cX3_see 28 = .ok (.invokestatic 22, 3) := by decide +kernel
theorem dX3_see_31 : decode cX3_see 31 = .ok (.iastore, 1) := by decide +kernel
theorem dX3_see_32 : decode cX3_see 32 = .ok (.goto 21, 3) := by decide +kernel
theorem dX3_see_35 : decode cX3_see 35 = .ok (.aload_n 0, 1) := by decide +kernel
theorem dX3_see_36 : decode cX3_see 36 = .ok (.getfield 9, 3) := by decide +kernel
theorem dX3_see_39 : decode cX3_see 39 = .ok (.iload_n 2, 1) := by decide +kernel
theorem dX3_see_40 : decode cX3_see 40 = .ok (.aload_n 0, 1) := by decide +kernel
theorem dX3_see_41 : decode cX3_see 41 = .ok (.getfield 9, 3) := by decide +kernel
theorem dX3_see_44 : decode cX3_see 44 = .ok (.iload_n 2, 1) := by decide +kernel
theorem dX3_see_45 : decode cX3_see 45 = .ok (.iaload, 1) := by decide +kernel
theorem dX3_see_46 : decode cX3_see 46 = .ok (.iload_n 1, 1) := by decide +kernel
theorem dX3_see_47 : decode cX3_see 47 = .ok (.iconst 1, 1) := by decide +kernel
theorem dX3_see_48 : decode cX3_see 48 = .ok (.iadd, 1) := by decide +kernel
theorem dX3_see_49 : decode cX3_see 49 = .ok (.invokestatic 28, 3) := by decide +kernel
theorem dX3_see_52 : decode cX3_see 52 = .ok (.iastore, 1) := by decide +kernel
theorem dX3_see_53 : decode cX3_see 53 = .ok (.aload_n 0, 1) := by decide +kernel
theorem dX3_see_54 : decode cX3_see 54 = .ok (.dup, 1) := by decide +kernel
theorem dX3_see_55 : decode cX3_see 55 = .ok (.getfield 18, 3) := by decide +kernel
theorem dX3_see_58 : decode cX3_see 58 = .ok (.iconst 1, 1) := by decide +kernel
theorem dX3_see_59 : decode cX3_see 59 = .ok (.iadd, 1) := by decide +kernel
theorem dX3_see_60 : decode cX3_see 60 = .ok (.putfield 18, 3) := by decide +kernel
theorem dX3_see_63 : decode cX3_see 63 = .ok (.aload_n 0, 1) := by decide +kernel
theorem dX3_see_64 : decode cX3_see 64 = .ok (.getfield 18, 3) := by decide +kernel
theorem dX3_see_67 : decode cX3_see 67 = .ok (.ireturn, 1) := by decide +kernel
theorem dX3_canBe_0 : decode cX3_canBe 0 = .ok (.aload_n 0, 1) := by decide +kernel
theorem dX3_canBe_1 : decode cX3_canBe 1 = .ok (.getfield 9, 3) := by decide +kernel
theorem dX3_canBe_4 : decode cX3_canBe 4 = .ok (.iload_n 1, 1) := by decide +kernel
theorem dX3_canBe_5 : decode cX3_canBe 5 = .ok (.iaload, 1) := by decide +kernel
theorem dX3_canBe_6 : decode cX3_canBe 6 = .ok (.aload_n 0, 1) := by decide +kernel
theorem dX3_canBe_7 : decode cX3_canBe 7 = .ok (.getfield 15, 3) := by decide +kernel
theorem dX3_canBe_10 : decode cX3_canBe 10 = .ok (.iload_n 1, 1) := by decide +kernel
theorem dX3_canBe_11 : decode cX3_canBe 11 = .ok (.iaload, 1) := by decide +kernel
theorem dX3_canBe_12 : decode cX3_canBe 12 = .ok (.if_icmp .gt 7, 3) := by decide +kernel
theorem dX3_canBe_15 : decode cX3_canBe 15 = .ok (.iconst 1, 1) := by decide +kernel
theorem dX3_canBe_16 : decode cX3_canBe 16 = .ok (.goto 4, 3) := by decide +kernel
theorem dX3_canBe_19 : decode cX3_canBe 19 = .ok (.iconst 0, 1) := by decide +kernel
theorem dX3_canBe_20 : decode cX3_canBe 20 = .ok (.ireturn, 1) := by decide +kernel
theorem dX3_leastOf_0 : decode cX3_leastOf 0 = .ok (.aload_n 0, 1) := by decide +kernel
theorem dX3_leastOf_1 : decode cX3_leastOf 1 = .ok (.getfield 9, 3) := by decide +kernel
theorem dX3_leastOf_4 : decode cX3_leastOf 4 = .ok (.iload_n 1, 1) := by decide +kernel
theorem dX3_leastOf_5 : decode cX3_leastOf 5 = .ok (.iaload, 1) := by decide +kernel
theorem dX3_leastOf_6 : decode cX3_leastOf 6 = .ok (.ireturn, 1) := by decide +kernel
theorem dX3_greatestOf_0 : decode cX3_greatestOf 0 = .ok (.aload_n 0, 1) := by decide +kernel
theorem dX3_greatestOf_1 : decode cX3_greatestOf 1 = .ok (.getfield 15, 3) := by decide +kernel
theorem dX3_greatestOf_4 : decode cX3_greatestOf 4 = .ok (.iload_n 1, 1) := by decide +kernel
theorem dX3_greatestOf_5 : decode cX3_greatestOf 5 = .ok (.iaload, 1) := by decide +kernel
theorem dX3_greatestOf_6 : decode cX3_greatestOf 6 = .ok (.ireturn, 1) := by decide +kernel
set_option maxRecDepth 20000 in
theorem ggX3_surelyWornBy_X3_notBehind : GoodIn wsX3_surelyWornBy wsX3_notBehind := goodIn_r _ [6, 7, 8, 9, 5, 10, 11, 1, 12, 13, 14] (by decide +kernel) (by decide +kernel)
set_option maxRecDepth 20000 in
theorem gX3_surelyWornBy_X3_notBehind : GoodIn wsX3_surelyWornBy (wsV RX3 31 RX3 yX3_notBehind wsX3_notBehind) := goodIn_app (goodIn_of _ (by decide +kernel)) ggX3_surelyWornBy_X3_notBehind
theorem dX3_surelyWornBy_0 : decode cX3_surelyWornBy 0 = .ok (.aload_n 0, 1) := by decide +kernel
theorem dX3_surelyWornBy_1 : decode cX3_surelyWornBy 1 = .ok (.aload_n 0, 1) := by decide +kernel
theorem dX3_surelyWornBy_2 : decode cX3_surelyWornBy 2 = .ok (.getfield 15, 3) := by decide +kernel
theorem dX3_surelyWornBy_5 : decode cX3_surelyWornBy 5 = .ok (.iload_n 1, 1) := by decide +kernel
theorem dX3_surelyWornBy_6 : decode cX3_surelyWornBy 6 = .ok (.invokevirtual 31, 3) := by decide +kernel
theorem dX3_surelyWornBy_9 : decode cX3_surelyWornBy 9 = .ok (.ireturn, 1) := by decide +kernel
set_option maxRecDepth 20000 in
theorem ggX3_perhapsWornBy_X3_notBehind : GoodIn wsX3_perhapsWornBy wsX3_notBehind := goodIn_r _ [6, 7, 8, 9, 5, 10, 1, 11, 12, 13, 14] (by decide +kernel) (by decide +kernel)
set_option maxRecDepth 20000 in
theorem gX3_perhapsWornBy_X3_notBehind : GoodIn wsX3_perhapsWornBy (wsV RX3 31 RX3 yX3_notBehind wsX3_notBehind) := goodIn_app (goodIn_of _ (by decide +kernel)) ggX3_perhapsWornBy_X3_notBehind
theorem dX3_perhapsWornBy_0 : decode cX3_perhapsWornBy 0 = .ok (.aload_n 0, 1) := by decide +kernel
theorem dX3_perhapsWornBy_1 : decode cX3_perhapsWornBy 1 = .ok (.aload_n 0, 1) := by decide +kernel
theorem dX3_perhapsWornBy_2 : decode cX3_perhapsWornBy 2 = .ok (.getfield 9, 3) := by decide +kernel
theorem dX3_perhapsWornBy_5 : decode cX3_perhapsWornBy 5 = .ok (.iload_n 1, 1) := by decide +kernel
theorem dX3_perhapsWornBy_6 : decode cX3_perhapsWornBy 6 = .ok (.invokevirtual 31, 3) := by decide +kernel
theorem dX3_perhapsWornBy_9 : decode cX3_perhapsWornBy 9 = .ok (.ireturn, 1) := by decide +kernel
set_option maxRecDepth 20000 in
theorem ggX3_notBehind_X3_canBe : GoodIn wsX3_notBehind wsX3_canBe := goodIn_r _ [5, 6, 7, 8, 9, 10] (by decide +kernel) (by decide +kernel)
set_option maxRecDepth 20000 in
theorem gX3_notBehind_X3_canBe : GoodIn wsX3_notBehind (wsV RX3 35 RX3 yX3_canBe wsX3_canBe) := goodIn_app (goodIn_of _ (by decide +kernel)) ggX3_notBehind_X3_canBe
theorem dX3_notBehind_0 : decode cX3_notBehind 0 = .ok (.iconst 0, 1) := by decide +kernel
theorem dX3_notBehind_1 : decode cX3_notBehind 1 = .ok (.istore_n 3, 1) := by decide +kernel
theorem dX3_notBehind_2 : decode cX3_notBehind 2 = .ok (.iconst 0, 1) := by decide +kernel
theorem dX3_notBehind_3 : decode cX3_notBehind 3 = .ok (.istore 4, 2) := by decide +kernel
theorem dX3_notBehind_5 : decode cX3_notBehind 5 = .ok (.iload 4, 2) := by decide +kernel
theorem dX3_notBehind_7 : decode cX3_notBehind 7 = .ok (.bipush 24, 2) := by decide +kernel
theorem dX3_notBehind_9 : decode cX3_notBehind 9 = .ok (.if_icmp .ge 33, 3) := by decide +kernel
theorem dX3_notBehind_12 : decode cX3_notBehind 12 = .ok (.aload_n 0, 1) := by decide +kernel
theorem dX3_notBehind_13 : decode cX3_notBehind 13 = .ok (.iload 4, 2) := by decide +kernel
theorem dX3_notBehind_15 : decode cX3_notBehind 15 = .ok (.invokevirtual 35, 3) := by decide +kernel
theorem dX3_notBehind_18 : decode cX3_notBehind 18 = .ok (.ifCond .eq 18, 3) := by decide +kernel
theorem dX3_notBehind_21 : decode cX3_notBehind 21 = .ok (.aload_n 1, 1) := by decide +kernel
theorem dX3_notBehind_22 : decode cX3_notBehind 22 = .ok (.iload 4, 2) := by decide +kernel
theorem dX3_notBehind_24 : decode cX3_notBehind 24 = .ok (.iaload, 1) := by decide +kernel
theorem dX3_notBehind_25 : decode cX3_notBehind 25 = .ok (.iload_n 2, 1) := by decide +kernel
theorem dX3_notBehind_26 : decode cX3_notBehind 26 = .ok (.if_icmp .gt 10, 3) := by decide +kernel
theorem dX3_notBehind_29 : decode cX3_notBehind 29 = .ok (.iload_n 3, 1) := by decide +kernel
theorem dX3_notBehind_30 : decode cX3_notBehind 30 = .ok (.iconst 1, 1) := by decide +kernel
theorem dX3_notBehind_31 : decode cX3_notBehind 31 = .ok (.iload 4, 2) := by decide +kernel
theorem dX3_notBehind_33 : decode cX3_notBehind 33 = .ok (.ishl, 1) := by decide +kernel
theorem dX3_notBehind_34 : decode cX3_notBehind 34 = .ok (.ior, 1) := by decide +kernel
theorem dX3_notBehind_35 : decode cX3_notBehind 35 = .ok (.istore_n 3, 1) := by decide +kernel
