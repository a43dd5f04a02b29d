set_option maxRecDepth 20000 in
theorem st_i0 : Cond.instantiable RX0 9 ∈ lw_tbl := by decide +kernel
set_option maxRecDepth 20000 in
theorem st_i1 : Cond.instantiable RX1 3 ∈ lw_tbl := by decide +kernel
set_option maxRecDepth 20000 in
theorem st_i2 : Cond.instantiable RX2 7 ∈ lw_tbl := by decide +kernel
set_option maxRecDepth 20000 in
theorem st_i3 : Cond.instantiable RX3 3 ∈ lw_tbl := by decide +kernel
set_option maxRecDepth 20000 in
theorem st_i4 : Cond.instantiable RX4 8 ∈ lw_tbl := by decide +kernel
set_option maxRecDepth 20000 in
theorem st_i5 : Cond.instantiable RX5 3 ∈ lw_tbl := by decide +kernel
set_option maxRecDepth 20000 in
theorem st_i6 : Cond.instantiable RX6 7 ∈ lw_tbl := by decide +kernel
set_option maxRecDepth 20000 in
theorem st_i7 : Cond.instantiable RX7 34 ∈ lw_tbl := by decide +kernel
set_option maxRecDepth 20000 in
theorem st_aI : Cond.arrayClass .int ∈ lw_tbl := by decide +kernel
set_option maxRecDepth 20000 in
theorem st_aZ : Cond.arrayClass .boolean ∈ lw_tbl := by decide +kernel
set_option maxRecDepth 20000 in
theorem st_aJ : Cond.arrayClass .long ∈ lw_tbl := by decide +kernel
set_option maxRecDepth 20000 in
theorem st_aR : Cond.arrayOver (.object RX4) ∈ lw_tbl := by decide +kernel
set_option maxRecDepth 20000 in
theorem st_N : gN ∈ lw_tbl := by decide +kernel
set_option maxRecDepth 20000 in
theorem st_l1 : Cond.laysStatic Bundle.tN "UNASSIGNED_STACK" Bundle.steD ∈ lw_tbl := by decide +kernel
set_option maxRecDepth 20000 in
theorem st_l2 : Cond.laysStatic Bundle.tN "SUPPRESSED_SENTINEL" Bundle.listD ∈ lw_tbl := by decide +kernel
set_option maxRecDepth 20000 in
theorem st_t : Cond.initialized Bundle.tN ∈ lw_tbl := by decide +kernel
set_option maxRecDepth 20000 in
theorem st_s : Cond.stringRef RX6 188 "no such copy or days" ∈ lw_tbl := by decide +kernel
set_option maxRecDepth 20000 in
theorem st_d1 : xd1 ∈ lw_tbl := by decide +kernel
set_option maxRecDepth 20000 in
theorem st_d2 : xd2 ∈ lw_tbl := by decide +kernel
set_option maxRecDepth 20000 in
theorem st_d3 : xd3 ∈ lw_tbl := by decide +kernel
set_option maxRecDepth 20000 in
theorem st_d4 : xd4 ∈ lw_tbl := by decide +kernel
set_option maxRecDepth 20000 in
theorem st_c6 : Cond.classLink RL 8 RX6 ∈ lw_tbl := by decide +kernel
set_option maxRecDepth 20000 in
theorem st_n6 : Cond.initialized RX6 ∈ lw_tbl := by decide +kernel
set_option maxRecDepth 20000 in
theorem st_m6 : Cond.methodLink RL 15 yX6_init ∈ lw_tbl := by decide +kernel
set_option maxRecDepth 20000 in
theorem st_x6 : Cond.instanceMethod yX6_init ∈ lw_tbl := by decide +kernel
set_option maxRecDepth 20000 in
theorem st_c7 : Cond.classLink RL 16 RX7 ∈ lw_tbl := by decide +kernel
set_option maxRecDepth 20000 in
theorem st_n7 : Cond.initialized RX7 ∈ lw_tbl := by decide +kernel
set_option maxRecDepth 20000 in
theorem st_m7 : Cond.methodLink RL 18 yX7_init ∈ lw_tbl := by decide +kernel
set_option maxRecDepth 20000 in
theorem st_x7 : Cond.instanceMethod yX7_init ∈ lw_tbl := by decide +kernel
set_option maxRecDepth 20000 in
theorem st_r1 : Cond.isRef (.static Bundle.tN "UNASSIGNED_STACK" Bundle.steD) ∈ flatC (Jvm.Cond.and given_1 narrow_1) := by decide +kernel
set_option maxRecDepth 20000 in
theorem st_r2 : Cond.isRef (.static Bundle.tN "SUPPRESSED_SENTINEL" Bundle.listD) ∈ flatC (Jvm.Cond.and given_1 narrow_1) := by decide +kernel
