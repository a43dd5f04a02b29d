set_option maxRecDepth 20000 in
theorem ggX6_where_X6_isCopy : GoodIn wsX6_where wsX6_isCopy := goodIn_r _ [7, 8, 9, 6, 10] (by decide +kernel) (by decide +kernel)
set_option maxRecDepth 20000 in
theorem gX6_where_X6_isCopy : GoodIn wsX6_where (va_wsS RX6 151 yX6_isCopy wsX6_isCopy) := goodIn_app (goodIn_of _ (by decide +kernel)) ggX6_where_X6_isCopy
set_option maxRecDepth 20000 in
theorem ggX6_where_X6_areDays : GoodIn wsX6_where wsX6_areDays := goodIn_r _ [14, 3, 15, 16, 6, 17, 18, 8, 9, 10, 19, 20, 21, 22, 23, 24, 42, 43, 44, 45, 46, 47, 48, 49, 50, 51, 52, 53, 54, 55] (by decide +kernel) (by decide +kernel)
set_option maxRecDepth 20000 in
theorem gX6_where_X6_areDays : GoodIn wsX6_where (wsV RX6 182 RX6 yX6_areDays wsX6_areDays) := goodIn_app (goodIn_of _ (by decide +kernel)) ggX6_where_X6_areDays
set_option maxRecDepth 20000 in
theorem ggX6_where_X2_placeOf : GoodIn wsX6_where wsX2_placeOf := goodIn_r _ [28, 29, 30, 31, 32, 33, 34, 22, 35, 36, 37, 38, 39, 40, 41, 49, 50, 51, 52, 53, 54, 55] (by decide +kernel) (by decide +kernel)
set_option maxRecDepth 20000 in
theorem gX6_where_X2_placeOf : GoodIn wsX6_where (wsV RX6 193 RX2 yX2_placeOf wsX2_placeOf) := goodIn_app (goodIn_of _ (by decide +kernel)) ggX6_where_X2_placeOf
theorem dX6_where_0 : decode cX6_where 0 = .ok (.iload_n 1, 1) := by decide +kernel
theorem dX6_where_1 : decode cX6_where 1 = .ok (.invokestatic 151, 3) := by decide +kernel
theorem dX6_where_4 : decode cX6_where 4 = .ok (.ifCond .eq 12, 3) := by decide +kernel
theorem dX6_where_7 : decode cX6_where 7 = .ok (.aload_n 0, 1) := by decide +kernel
theorem dX6_where_8 : decode cX6_where 8 = .ok (.iload_n 2, 1) := by decide +kernel
theorem dX6_where_9 : decode cX6_where 9 = .ok (.iload_n 3, 1) := by decide +kernel
theorem dX6_where_10 : decode cX6_where 10 = .ok (.invokevirtual 182, 3) := by decide +kernel
theorem dX6_where_13 : decode cX6_where 13 = .ok (.ifCond .ne 13, 3) := by decide +kernel
theorem dX6_where_16 : decode cX6_where 16 = .ok (.new 186, 3) := by decide +kernel
theorem dX6_where_19 : decode cX6_where 19 = .ok (.dup, 1) := by decide +kernel
theorem dX6_where_20 : decode cX6_where 20 = .ok (.ldc 188, 2) := by decide +kernel
theorem dX6_where_22 : decode cX6_where 22 = .ok (.invokespecial 190, 3) := by decide +kernel
theorem dX6_where_25 : decode cX6_where 25 = .ok (.athrow, 1) := by decide +kernel
theorem dX6_where_26 : decode cX6_where 26 = .ok (.aload_n 0, 1) := by decide +kernel
theorem dX6_where_27 : decode cX6_where 27 = .ok (.getfield 50, 3) := by decide +kernel
theorem dX6_where_30 : decode cX6_where 30 = .ok (.iload_n 1, 1) := by decide +kernel
theorem dX6_where_31 : decode cX6_where 31 = .ok (.iload_n 2, 1) := by decide +kernel
theorem dX6_where_32 : decode cX6_where 32 = .ok (.iload_n 3, 1) := by decide +kernel
theorem dX6_where_33 : decode cX6_where 33 = .ok (.invokevirtual 193, 3) := by decide +kernel
theorem dX6_where_36 : decode cX6_where 36 = .ok (.ireturn, 1) := by decide +kernel
set_option maxRecDepth 20000 in
theorem ggL_where_X6_where : GoodIn wsL_where wsX6_where := goodIn_ca (goodIn_r _ [6, 7, 8, 9, 10, 11, 5, 12, 13, 14, 15, 16, 17, 18, 19, 20, 21, 22, 23, 24, 25, 26, 27, 28, 29, 30, 31, 32, 33, 34, 35, 36, 37, 38, 39, 40, 41, 42, 43, 44, 45, 46, 47, 48, 49, 50, 51, 52, 53, 54, 55, 56, 57, 58, 59, 60] (by decide +kernel) (by decide +kernel)) (goodIn_sub (fun _ h => List.mem_cons_of_mem _ (List.mem_append_right _ h)) (by decide +kernel))
set_option maxRecDepth 20000 in
theorem gL_where_X6_where : GoodIn wsL_where (wsV RL 7 RX6 yX6_where wsX6_where) := goodIn_app (goodIn_of _ (by decide +kernel)) ggL_where_X6_where
theorem dL_where_0 : decode cL_where 0 = .ok (.aload 4, 2) := by decide +kernel
theorem dL_where_2 : decode cL_where 2 = .ok (.iconst 0, 1) := by decide +kernel
theorem dL_where_3 : decode cL_where 3 = .ok (.aload_n 0, 1) := by decide +kernel
theorem dL_where_4 : decode cL_where 4 = .ok (.iload_n 1, 1) := by decide +kernel
theorem dL_where_5 : decode cL_where 5 = .ok (.iload_n 2, 1) := by decide +kernel
theorem dL_where_6 : decode cL_where 6 = .ok (.iload_n 3, 1) := by decide +kernel
theorem dL_where_7 : decode cL_where 7 = .ok (.invokevirtual 7, 3) := by decide +kernel
theorem dL_where_10 : decode cL_where 10 = .ok (.i2l, 1) := by decide +kernel
theorem dL_where_11 : decode cL_where 11 = .ok (.lastore, 1) := by decide +kernel
theorem dL_where_12 : decode cL_where 12 = .ok (.goto 7, 3) := by decide +kernel
theorem dL_where_15 : decode cL_where 15 = .ok (.astore 5, 2) := by decide +kernel
theorem dL_where_17 : decode cL_where 17 = .ok (.iconst 1, 1) := by decide +kernel
theorem dL_where_18 : decode cL_where 18 = .ok (.ireturn, 1) := by decide +kernel
theorem dL_where_19 : decode cL_where 19 = .ok (.iconst 0, 1) := by decide +kernel
theorem dL_where_20 : decode cL_where 20 = .ok (.ireturn, 1) := by decide +kernel
