theorem lk_X6_init_0 : (Cond.methodLink RX6 1 objectInit) ∈ wsX6_init := by decide +kernel
theorem lk_X6_init_1 : (Cond.instanceMethod objectInit) ∈ wsX6_init := by decide +kernel
theorem lk_X6_init_2 : (Cond.code objectInit ⟨#[0xb1]⟩ 1 none) ∈ wsX6_init := by decide +kernel
theorem lk_X6_init_3 : (Cond.classLink RX6 9 RX4) ∈ wsX6_init := by decide +kernel
theorem lk_X6_init_4 : (Cond.fieldLink RX6 11 "RollHouse" "rolls" "[LRollHouse$Roll;") ∈ wsX6_init := by decide +kernel
theorem lk_X6_init_5 : (Cond.fieldLink RX6 15 "RollHouse" "rollCount" "I") ∈ wsX6_init := by decide +kernel
theorem lk_X6_init_6 : (Cond.classLink RX6 19 RX1) ∈ wsX6_init := by decide +kernel
theorem lk_X6_init_7 : (Cond.instantiable RX1 3) ∈ wsX6_init := by decide +kernel
theorem lk_X6_init_8 : (Cond.initialized RX1) ∈ wsX6_init := by decide +kernel
theorem lk_X6_init_9 : (Cond.methodLink RX6 21 yX1_init) ∈ wsX6_init := by decide +kernel
theorem lk_X6_init_10 : (Cond.instanceMethod yX1_init) ∈ wsX6_init := by decide +kernel
theorem lk_X6_init_11 : (Cond.fieldLink RX6 22 "RollHouse" "player" "LRollHouse$Player;") ∈ wsX6_init := by decide +kernel
theorem lk_X6_init_12 : (Cond.classLink RX6 26 RX5) ∈ wsX6_init := by decide +kernel
theorem lk_X6_init_13 : (Cond.instantiable RX5 3) ∈ wsX6_init := by decide +kernel
theorem lk_X6_init_14 : (Cond.initialized RX5) ∈ wsX6_init := by decide +kernel
theorem lk_X6_init_15 : (Cond.methodLink RX6 28 yX5_init) ∈ wsX6_init := by decide +kernel
theorem lk_X6_init_16 : (Cond.instanceMethod yX5_init) ∈ wsX6_init := by decide +kernel
theorem lk_X6_init_17 : (Cond.fieldLink RX6 29 "RollHouse" "score" "LRollHouse$Score;") ∈ wsX6_init := by decide +kernel
theorem lk_X6_init_18 : (Cond.classLink RX6 33 RX0) ∈ wsX6_init := by decide +kernel
theorem lk_X6_init_19 : (Cond.instantiable RX0 9) ∈ wsX6_init := by decide +kernel
theorem lk_X6_init_20 : (Cond.initialized RX0) ∈ wsX6_init := by decide +kernel
theorem lk_X6_init_21 : (Cond.methodLink RX6 35 yX0_init) ∈ wsX6_init := by decide +kernel
theorem lk_X6_init_22 : (Cond.instanceMethod yX0_init) ∈ wsX6_init := by decide +kernel
theorem lk_X6_init_23 : (Cond.fieldLink RX6 36 "RollHouse" "alignment" "LRollHouse$Alignment;") ∈ wsX6_init := by decide +kernel
theorem lk_X6_init_24 : (Cond.classLink RX6 40 RX3) ∈ wsX6_init := by decide +kernel
theorem lk_X6_init_25 : (Cond.instantiable RX3 3) ∈ wsX6_init := by decide +kernel
theorem lk_X6_init_26 : (Cond.initialized RX3) ∈ wsX6_init := by decide +kernel
theorem lk_X6_init_27 : (Cond.methodLink RX6 42 yX3_init) ∈ wsX6_init := by decide +kernel
theorem lk_X6_init_28 : (Cond.instanceMethod yX3_init) ∈ wsX6_init := by decide +kernel
theorem lk_X6_init_29 : (Cond.fieldLink RX6 43 "RollHouse" "punches" "LRollHouse$Punches;") ∈ wsX6_init := by decide +kernel
theorem lk_X6_init_30 : (Cond.classLink RX6 47 RX2) ∈ wsX6_init := by decide +kernel
theorem lk_X6_init_31 : (Cond.instantiable RX2 7) ∈ wsX6_init := by decide +kernel
theorem lk_X6_init_32 : (Cond.initialized RX2) ∈ wsX6_init := by decide +kernel
theorem lk_X6_init_33 : (Cond.methodLink RX6 49 yX2_init) ∈ wsX6_init := by decide +kernel
theorem lk_X6_init_34 : (Cond.instanceMethod yX2_init) ∈ wsX6_init := by decide +kernel
theorem lk_X6_init_35 : (Cond.fieldLink RX6 50 "RollHouse" "post" "LRollHouse$Post;") ∈ wsX6_init := by decide +kernel
theorem us_X6_init_X0 : ∀ w ∈ u_ws RX0 TX0 9, w ∈ wsX6_init := by decide +kernel
theorem us_X6_init_X1 : ∀ w ∈ u_ws RX1 TX1 3, w ∈ wsX6_init := by decide +kernel
theorem us_X6_init_X2 : ∀ w ∈ u_ws RX2 TX2 7, w ∈ wsX6_init := by decide +kernel
theorem us_X6_init_X3 : ∀ w ∈ u_ws RX3 TX3 3, w ∈ wsX6_init := by decide +kernel
theorem us_X6_init_X5 : ∀ w ∈ u_ws RX5 TX5 3, w ∈ wsX6_init := by decide +kernel
theorem us_X6_init_X6 : ∀ w ∈ u_ws RX6 TX6 7, w ∈ wsX6_init := by decide +kernel
set_option maxRecDepth 100000 in
set_option maxHeartbeats 8000000 in
theorem mt_X6_init (l : Launch) (D : va_G) (cI cZ cR : ClassId) (h0 sz : Nat) : Met l yX6_init wsX6_init ({ frames := 2, cells := 19, slots := 4621, locals := 33 }) (gPcO D (gT cI cZ cR) [(h0, .inr (6, [.null, .int 0, .null, .null, .null, .null, .null]))] sz [.ref h0]) (va_Qv (fun (u : (Nat → Nat) × (Nat → Nat) × (Nat → Nat) × (Nat → Nat) × (Nat → Nat) × (Nat → Nat) × (Nat → Int32) × (Nat → Int32)) => u.1 0 = h0 ∧ (∀ k, k < 24 → u.2.2.2.2.2.2.1 k = 1) ∧ (∀ k, k < 24 → u.2.2.2.2.2.2.2 k = 1001)) (fun u t => gB D (gT cI cZ cR) (va_A [(h0, .inr (6, [.null, .int 0, .null, .null, .null, .null, .null]))] sz) (w_H cI cZ cR u.1 (u.2.1 0) (u.2.2.1 0) (u.2.2.2.1 0) (u.2.2.2.2.1 0) (u.2.2.2.2.2.1 0) (fun _ => none) 0 ++ w_P cI cZ cR u.2.1 50 0 0 ++ w_S cI cZ cR u.2.2.1 (fun _ => 0) (fun _ => 0) 0 ++ w_A cI cZ cR u.2.2.2.1 (fun _ => 0) (fun _ => 0) (fun _ => 0) (fun _ => 0) 0 0 0 0 0 ++ w_U cI cZ cR u.2.2.2.2.1 u.2.2.2.2.2.2.1 u.2.2.2.2.2.2.2 0 ++ w_O cI cZ cR u.2.2.2.2.2.1 (fun _ => 0) (fun _ => 0) (fun _ => 0) (fun _ => 0) 0 0 (fun _ => 0)) t) (va_A [(h0, .inr (6, [.null, .int 0, .null, .null, .null, .null, .null]))] sz)) 19 4621 (va_A [(h0, .inr (6, [.null, .int 0, .null, .null, .null, .null, .null]))] sz) := by
  refine gl_entryO (cc := cX6_init) (maxL := 1) (ret := none) (by decide) rfl (Nat.le_of_ble_eq_true rfl) ?_
  intro p e s m below meth c ls G hin hsz hK hN hover hP hD hl
  subst hsz
  obtain ⟨hx, hb, hr, hml, hown, hts, hlocks⟩ := id G
  generalize hAe : va_A [(h0, .inr (6, [.null, .int 0, .null, .null, .null, .null, .null]))] s.heap.size = A at hD ⊢
  have hA : ∀ q : Nat, s.heap.size ≤ q → A q := fun q h => by rw [← hAe]; exact Or.inr h
  have hS : va_S A s.heap s.heap [] := va_S.rf
  have hl : lv_has ls 1 [(0, .ref h0)] := hl
  refine lv_aload_n hx hb dX6_init_0 rfl (lv_at hl 0 rfl) ?_
  refine W.objInit hx hb hown (hts (.methodLink RX6 1 objectInit) lk_X6_init_0) (hts (.instanceMethod objectInit) lk_X6_init_1) (hts (.code objectInit ⟨#[0xb1]⟩ 1 none) lk_X6_init_2) rfl (by rw [hml]; exact hl.1) rfl dX6_init_1 (Nat.le_of_ble_eq_true rfl) (Nat.le_of_ble_eq_true rfl) ?_
  refine W.eq (g2 := F0 m 4 ls []) rfl ?_
  refine lv_aload_n hx hb dX6_init_4 rfl (lv_at hl 0 rfl) ?_
  refine lv_bipush (v := 6) hx hb dX6_init_5 (by decide) ?_
  refine gl_newQ hx hb hown (hts (.classLink RX6 9 RX4) lk_X6_init_3) hover hK hP hD hS hA 6 (by decide) (by decide) (by decide) (Nat.le_of_ble_eq_true rfl) (Nat.le_of_ble_eq_true rfl) dX6_init_7 (fun q7 H hP hD hS => ?_)
  have hP : va_P D vwCl ([(h0, .inr (6, [.null, .int 0, .null, .null, .null, .null, .null])), (q7, .inl (cR, 6, .inr (.inr (.inr (.inr (fun _ => none))))))]) H := hP
  have hD : va_D A ([(h0, .inr (6, [.null, .int 0, .null, .null, .null, .null, .null])), (q7, .inl (cR, 6, .inr (.inr (.inr (.inr (fun _ => none))))))]) := hD
  refine va_putF (D := D) (ci := 6) (v := .ref (q7)) (ty := .array (.object "RollHouse$Roll")) (C := RX6) (T := TX6) (N := 7) hx hb hts us_X6_init_X6 tyX6 tyX6_ok nmX6 hown hK hP hD hS 0 rfl rfl 0 (by decide) (hts (.fieldLink RX6 11 "RollHouse" "rolls" "[LRollHouse$Roll;") lk_X6_init_4) (fun _ h9 => h9) rfl hin rfl (by decide +kernel) rfl rfl (Nat.le_of_ble_eq_true rfl) dX6_init_10 (fun H locs hP hD hS => ?_)
  have hP : va_P D vwCl ([(h0, .inr (6, [.ref (q7), .int 0, .null, .null, .null, .null, .null])), (q7, .inl (cR, 6, .inr (.inr (.inr (.inr (fun _ => none))))))]) H := hP
  have hD : va_D A ([(h0, .inr (6, [.ref (q7), .int 0, .null, .null, .null, .null, .null])), (q7, .inl (cR, 6, .inr (.inr (.inr (.inr (fun _ => none))))))]) := hD
  refine lv_aload_n hx hb dX6_init_13 rfl (lv_at hl 0 rfl) ?_
  refine lv_iconst (v := 0) hx hb dX6_init_14 (by decide) ?_
  refine va_put (D := D) (ci := 6) (v := .int 0) (ty := .int) (C := RX6) (T := TX6) (N := 7) hx hb hts us_X6_init_X6 tyX6 tyX6_ok nmX6 hown hK hP hD hS 0 rfl rfl 1 (by decide) (hts (.fieldLink RX6 15 "RollHouse" "rollCount" "I") lk_X6_init_5) (fun _ h9 => h9) rfl (by decide +kernel) rfl rfl (Nat.le_of_ble_eq_true rfl) dX6_init_15 (fun H locs hP hD hS => ?_)
  have hP : va_P D vwCl ([(h0, .inr (6, [.ref (q7), .int 0, .null, .null, .null, .null, .null])), (q7, .inl (cR, 6, .inr (.inr (.inr (.inr (fun _ => none))))))]) H := hP
  have hD : va_D A ([(h0, .inr (6, [.ref (q7), .int 0, .null, .null, .null, .null, .null])), (q7, .inl (cR, 6, .inr (.inr (.inr (.inr (fun _ => none))))))]) := hD
  refine lv_aload_n hx hb dX6_init_18 rfl (lv_at hl 0 rfl) ?_
  refine va_new (ci := 1) (fs := [.int 0, .int 0, .int 0]) (C := RX1) (T := TX1) (N := 3) hx hb hts us_X6_init_X1 tyX1 tyX1_ok hown (hts (.classLink RX6 19 RX1) lk_X6_init_6) (hts (.instantiable RX1 3) lk_X6_init_7) (hts (.initialized RX1) lk_X6_init_8) hK hP hD hS hA rfl (fun j hj => by rcases (show j = 0 ∨ j = 1 ∨ j = 2 by omega) with rfl | rfl | rfl <;> rfl) (Nat.le_of_ble_eq_true rfl) (Nat.le_of_ble_eq_true rfl) dX6_init_19 (fun q19 H hP hD hS => ?_)
  have hP : va_P D vwCl ([(h0, .inr (6, [.ref (q7), .int 0, .null, .null, .null, .null, .null])), (q7, .inl (cR, 6, .inr (.inr (.inr (.inr (fun _ => none))))))] ++ [(q19, .inr (1, [.int 0, .int 0, .int 0]))]) H := hP
  have hD : va_D A ([(h0, .inr (6, [.ref (q7), .int 0, .null, .null, .null, .null, .null])), (q7, .inl (cR, 6, .inr (.inr (.inr (.inr (fun _ => none))))))] ++ [(q19, .inr (1, [.int 0, .int 0, .int 0]))]) := hD
  refine lv_dup hx hb dX6_init_22 rfl ?_
  have hPc := hP.sub (ws' := [(q19, .inr (1, [.int 0, .int 0, .int 0]))]) [2] rfl
  have hDc := hD.sub (ws' := [(q19, .inr (1, [.int 0, .int 0, .int 0]))]) [2] (by decide) rfl
  refine gl_callv (wr := [(h0, .inr (6, [.ref (q7), .int 0, .null, .null, .null, .null, .null])), (q7, .inl (cR, 6, .inr (.inr (.inr (.inr (fun _ => none))))))]) (va_runI (As := []) (rest := [.ref (q19), .ref (h0)]) ⟨hx, hb, hml, hown, hts⟩ (mt_X1_init l D cI cZ cR q19 H.size) (cwI 0 hts gX6_init_X1_init rfl rfl rfl (hts (.initialized RX1) lk_X6_init_8) (hts (.methodLink RX6 21 yX1_init) lk_X6_init_9) (hts (.instanceMethod yX1_init) lk_X6_init_10) rfl (by decide +kernel) ⟨Nat.le_of_ble_eq_true rfl, Nat.le_of_ble_eq_true rfl⟩) ⟨gl_blind, gl_pre hPc hK hN hDc⟩ rfl rfl hl.1 rfl (lv_room (Nat.le_of_ble_eq_true rfl)) dX6_init_23 ⟨Nat.le_of_ble_eq_true rfl, Nat.le_of_ble_eq_true rfl⟩) hP hD hS hA [2] [0, 1] rfl rfl (by decide) (by decide) (fun u H9 locs9 h hP9 hD9 hS9 => ?_)
  obtain ⟨ad_p, rfl⟩ : ∃ z, z = u := ⟨_, rfl⟩
  clear hPc hDc hP hD hS
  subst h
  obtain ⟨H, rfl⟩ : ∃ z, z = H9 := ⟨_, rfl⟩
  obtain ⟨locs, rfl⟩ : ∃ z, z = locs9 := ⟨_, rfl⟩
  have hP := hP9
  have hD := hD9
  have hS := hS9
  clear hP9 hD9 hS9
  have hP : va_P D vwCl ([(h0, .inr (6, [.ref (q7), .int 0, .null, .null, .null, .null, .null])), (q7, .inl (cR, 6, .inr (.inr (.inr (.inr (fun _ => none))))))] ++ w_P cI cZ cR ad_p 50 0 0) H := hP
  have hD : va_D A ([(h0, .inr (6, [.ref (q7), .int 0, .null, .null, .null, .null, .null])), (q7, .inl (cR, 6, .inr (.inr (.inr (.inr (fun _ => none))))))] ++ w_P cI cZ cR ad_p 50 0 0) := hD
  refine va_putF (D := D) (ci := 6) (v := .ref (ad_p 0)) (ty := .object "RollHouse$Player") (C := RX6) (T := TX6) (N := 7) hx hb hts us_X6_init_X6 tyX6 tyX6_ok nmX6 hown hK hP hD hS 0 rfl rfl 2 (by decide) (hts (.fieldLink RX6 22 "RollHouse" "player" "LRollHouse$Player;") lk_X6_init_11) (fun _ h9 => h9) rfl hin rfl (by decide +kernel) rfl rfl (Nat.le_of_ble_eq_true rfl) dX6_init_26 (fun H locs hP hD hS => ?_)
  have hP : va_P D vwCl ([(h0, .inr (6, [.ref (q7), .int 0, .ref (ad_p 0), .null, .null, .null, .null])), (q7, .inl (cR, 6, .inr (.inr (.inr (.inr (fun _ => none))))))] ++ w_P cI cZ cR ad_p 50 0 0) H := hP
  have hD : va_D A ([(h0, .inr (6, [.ref (q7), .int 0, .ref (ad_p 0), .null, .null, .null, .null])), (q7, .inl (cR, 6, .inr (.inr (.inr (.inr (fun _ => none))))))] ++ w_P cI cZ cR ad_p 50 0 0) := hD
  refine lv_aload_n hx hb dX6_init_29 rfl (lv_at hl 0 rfl) ?_
  refine va_new (ci := 5) (fs := [.null, .null, .int 0]) (C := RX5) (T := TX5) (N := 3) hx hb hts us_X6_init_X5 tyX5 tyX5_ok hown (hts (.classLink RX6 26 RX5) lk_X6_init_12) (hts (.instantiable RX5 3) lk_X6_init_13) (hts (.initialized RX5) lk_X6_init_14) hK hP hD hS hA rfl (fun j hj => by rcases (show j = 0 ∨ j = 1 ∨ j = 2 by omega) with rfl | rfl | rfl <;> rfl) (Nat.le_of_ble_eq_true rfl) (Nat.le_of_ble_eq_true rfl) dX6_init_30 (fun q30 H hP hD hS => ?_)
  have hP : va_P D vwCl ([(h0, .inr (6, [.ref (q7), .int 0, .ref (ad_p 0), .null, .null, .null, .null])), (q7, .inl (cR, 6, .inr (.inr (.inr (.inr (fun _ => none))))))] ++ w_P cI cZ cR ad_p 50 0 0 ++ [(q30, .inr (5, [.null, .null, .int 0]))]) H := hP
  have hD : va_D A ([(h0, .inr (6, [.ref (q7), .int 0, .ref (ad_p 0), .null, .null, .null, .null])), (q7, .inl (cR, 6, .inr (.inr (.inr (.inr (fun _ => none))))))] ++ w_P cI cZ cR ad_p 50 0 0 ++ [(q30, .inr (5, [.null, .null, .int 0]))]) := hD
  refine lv_dup hx hb dX6_init_33 rfl ?_
  have hPc := hP.sub (ws' := [(q30, .inr (5, [.null, .null, .int 0]))]) [3] rfl
  have hDc := hD.sub (ws' := [(q30, .inr (5, [.null, .null, .int 0]))]) [3] (by decide) rfl
  refine gl_callv (wr := [(h0, .inr (6, [.ref (q7), .int 0, .ref (ad_p 0), .null, .null, .null, .null])), (q7, .inl (cR, 6, .inr (.inr (.inr (.inr (fun _ => none))))))] ++ w_P cI cZ cR ad_p 50 0 0) (va_runI (As := []) (rest := [.ref (q30), .ref (h0)]) ⟨hx, hb, hml, hown, hts⟩ (mt_X5_init l D cI cZ cR q30 H.size) (cwI 0 hts gX6_init_X5_init rfl rfl rfl (hts (.initialized RX5) lk_X6_init_14) (hts (.methodLink RX6 28 yX5_init) lk_X6_init_15) (hts (.instanceMethod yX5_init) lk_X6_init_16) rfl (by decide +kernel) ⟨Nat.le_of_ble_eq_true rfl, Nat.le_of_ble_eq_true rfl⟩) ⟨gl_blind, gl_pre hPc hK hN hDc⟩ rfl rfl hl.1 rfl (lv_room (Nat.le_of_ble_eq_true rfl)) dX6_init_34 ⟨Nat.le_of_ble_eq_true rfl, Nat.le_of_ble_eq_true rfl⟩) hP hD hS hA [3] [0, 1, 2] rfl rfl (by decide) (by decide) (fun u H9 locs9 h hP9 hD9 hS9 => ?_)
  obtain ⟨ad_c, rfl⟩ : ∃ z, z = u := ⟨_, rfl⟩
  clear hPc hDc hP hD hS
  subst h
  obtain ⟨H, rfl⟩ : ∃ z, z = H9 := ⟨_, rfl⟩
  obtain ⟨locs, rfl⟩ : ∃ z, z = locs9 := ⟨_, rfl⟩
  have hP := hP9
  have hD := hD9
  have hS := hS9
  clear hP9 hD9 hS9
  have hP : va_P D vwCl ([(h0, .inr (6, [.ref (q7), .int 0, .ref (ad_p 0), .null, .null, .null, .null])), (q7, .inl (cR, 6, .inr (.inr (.inr (.inr (fun _ => none))))))] ++ w_P cI cZ cR ad_p 50 0 0 ++ w_S cI cZ cR ad_c (fun _ => 0) (fun _ => 0) 0) H := hP
  have hD : va_D A ([(h0, .inr (6, [.ref (q7), .int 0, .ref (ad_p 0), .null, .null, .null, .null])), (q7, .inl (cR, 6, .inr (.inr (.inr (.inr (fun _ => none))))))] ++ w_P cI cZ cR ad_p 50 0 0 ++ w_S cI cZ cR ad_c (fun _ => 0) (fun _ => 0) 0) := hD
  refine va_putF (D := D) (ci := 6) (v := .ref (ad_c 0)) (ty := .object "RollHouse$Score") (C := RX6) (T := TX6) (N := 7) hx hb hts us_X6_init_X6 tyX6 tyX6_ok nmX6 hown hK hP hD hS 0 rfl rfl 3 (by decide) (hts (.fieldLink RX6 29 "RollHouse" "score" "LRollHouse$Score;") lk_X6_init_17) (fun _ h9 => h9) rfl hin rfl (by decide +kernel) rfl rfl (Nat.le_of_ble_eq_true rfl) dX6_init_37 (fun H locs hP hD hS => ?_)
  have hP : va_P D vwCl ([(h0, .inr (6, [.ref (q7), .int 0, .ref (ad_p 0), .ref (ad_c 0), .null, .null, .null])), (q7, .inl (cR, 6, .inr (.inr (.inr (.inr (fun _ => none))))))] ++ w_P cI cZ cR ad_p 50 0 0 ++ w_S cI cZ cR ad_c (fun _ => 0) (fun _ => 0) 0) H := hP
  have hD : va_D A ([(h0, .inr (6, [.ref (q7), .int 0, .ref (ad_p 0), .ref (ad_c 0), .null, .null, .null])), (q7, .inl (cR, 6, .inr (.inr (.inr (.inr (fun _ => none))))))] ++ w_P cI cZ cR ad_p 50 0 0 ++ w_S cI cZ cR ad_c (fun _ => 0) (fun _ => 0) 0) := hD
  refine lv_aload_n hx hb dX6_init_40 rfl (lv_at hl 0 rfl) ?_
  refine va_new (ci := 0) (fs := [.null, .null, .null, .null, .int 0, .int 0, .int 0, .int 0, .int 0]) (C := RX0) (T := TX0) (N := 9) hx hb hts us_X6_init_X0 tyX0 tyX0_ok hown (hts (.classLink RX6 33 RX0) lk_X6_init_18) (hts (.instantiable RX0 9) lk_X6_init_19) (hts (.initialized RX0) lk_X6_init_20) hK hP hD hS hA rfl (fun j hj => by rcases (show j = 0 ∨ j = 1 ∨ j = 2 ∨ j = 3 ∨ j = 4 ∨ j = 5 ∨ j = 6 ∨ j = 7 ∨ j = 8 by omega) with rfl | rfl | rfl | rfl | rfl | rfl | rfl | rfl | rfl <;> rfl) (Nat.le_of_ble_eq_true rfl) (Nat.le_of_ble_eq_true rfl) dX6_init_41 (fun q41 H hP hD hS => ?_)
  have hP : va_P D vwCl ([(h0, .inr (6, [.ref (q7), .int 0, .ref (ad_p 0), .ref (ad_c 0), .null, .null, .null])), (q7, .inl (cR, 6, .inr (.inr (.inr (.inr (fun _ => none))))))] ++ w_P cI cZ cR ad_p 50 0 0 ++ w_S cI cZ cR ad_c (fun _ => 0) (fun _ => 0) 0 ++ [(q41, .inr (0, [.null, .null, .null, .null, .int 0, .int 0, .int 0, .int 0, .int 0]))]) H := hP
  have hD : va_D A ([(h0, .inr (6, [.ref (q7), .int 0, .ref (ad_p 0), .ref (ad_c 0), .null, .null, .null])), (q7, .inl (cR, 6, .inr (.inr (.inr (.inr (fun _ => none))))))] ++ w_P cI cZ cR ad_p 50 0 0 ++ w_S cI cZ cR ad_c (fun _ => 0) (fun _ => 0) 0 ++ [(q41, .inr (0, [.null, .null, .null, .null, .int 0, .int 0, .int 0, .int 0, .int 0]))]) := hD
  refine lv_dup hx hb dX6_init_44 rfl ?_
  have hPc := hP.sub (ws' := [(q41, .inr (0, [.null, .null, .null, .null, .int 0, .int 0, .int 0, .int 0, .int 0]))]) [6] rfl
  have hDc := hD.sub (ws' := [(q41, .inr (0, [.null, .null, .null, .null, .int 0, .int 0, .int 0, .int 0, .int 0]))]) [6] (by decide) rfl
  refine gl_callv (wr := [(h0, .inr (6, [.ref (q7), .int 0, .ref (ad_p 0), .ref (ad_c 0), .null, .null, .null])), (q7, .inl (cR, 6, .inr (.inr (.inr (.inr (fun _ => none))))))] ++ w_P cI cZ cR ad_p 50 0 0 ++ w_S cI cZ cR ad_c (fun _ => 0) (fun _ => 0) 0) (va_runI (As := []) (rest := [.ref (q41), .ref (h0)]) ⟨hx, hb, hml, hown, hts⟩ (mt_X0_init l D cI cZ cR q41 H.size) (cwI 0 hts gX6_init_X0_init rfl rfl rfl (hts (.initialized RX0) lk_X6_init_20) (hts (.methodLink RX6 35 yX0_init) lk_X6_init_21) (hts (.instanceMethod yX0_init) lk_X6_init_22) rfl (by decide +kernel) ⟨Nat.le_of_ble_eq_true rfl, Nat.le_of_ble_eq_true rfl⟩) ⟨gl_blind, gl_pre hPc hK hN hDc⟩ rfl rfl hl.1 rfl (lv_room (Nat.le_of_ble_eq_true rfl)) dX6_init_45 ⟨Nat.le_of_ble_eq_true rfl, Nat.le_of_ble_eq_true rfl⟩) hP hD hS hA [6] [0, 1, 2, 3, 4, 5] rfl rfl (by decide) (by decide) (fun u H9 locs9 h hP9 hD9 hS9 => ?_)
  obtain ⟨ad_a, rfl⟩ : ∃ z, z = u := ⟨_, rfl⟩
  clear hPc hDc hP hD hS
  subst h
  obtain ⟨H, rfl⟩ : ∃ z, z = H9 := ⟨_, rfl⟩
  obtain ⟨locs, rfl⟩ : ∃ z, z = locs9 := ⟨_, rfl⟩
  have hP := hP9
  have hD := hD9
  have hS := hS9
  clear hP9 hD9 hS9
  have hP : va_P D vwCl ([(h0, .inr (6, [.ref (q7), .int 0, .ref (ad_p 0), .ref (ad_c 0), .null, .null, .null])), (q7, .inl (cR, 6, .inr (.inr (.inr (.inr (fun _ => none))))))] ++ w_P cI cZ cR ad_p 50 0 0 ++ w_S cI cZ cR ad_c (fun _ => 0) (fun _ => 0) 0 ++ w_A cI cZ cR ad_a (fun _ => 0) (fun _ => 0) (fun _ => 0) (fun _ => 0) 0 0 0 0 0) H := hP
  have hD : va_D A ([(h0, .inr (6, [.ref (q7), .int 0, .ref (ad_p 0), .ref (ad_c 0), .null, .null, .null])), (q7, .inl (cR, 6, .inr (.inr (.inr (.inr (fun _ => none))))))] ++ w_P cI cZ cR ad_p 50 0 0 ++ w_S cI cZ cR ad_c (fun _ => 0) (fun _ => 0) 0 ++ w_A cI cZ cR ad_a (fun _ => 0) (fun _ => 0) (fun _ => 0) (fun _ => 0) 0 0 0 0 0) := hD
  refine va_putF (D := D) (ci := 6) (v := .ref (ad_a 0)) (ty := .object "RollHouse$Alignment") (C := RX6) (T := TX6) (N := 7) hx hb hts us_X6_init_X6 tyX6 tyX6_ok nmX6 hown hK hP hD hS 0 rfl rfl 4 (by decide) (hts (.fieldLink RX6 36 "RollHouse" "alignment" "LRollHouse$Alignment;") lk_X6_init_23) (fun _ h9 => h9) rfl hin rfl (by decide +kernel) rfl rfl (Nat.le_of_ble_eq_true rfl) dX6_init_48 (fun H locs hP hD hS => ?_)
  have hP : va_P D vwCl ([(h0, .inr (6, [.ref (q7), .int 0, .ref (ad_p 0), .ref (ad_c 0), .ref (ad_a 0), .null, .null])), (q7, .inl (cR, 6, .inr (.inr (.inr (.inr (fun _ => none))))))] ++ w_P cI cZ cR ad_p 50 0 0 ++ w_S cI cZ cR ad_c (fun _ => 0) (fun _ => 0) 0 ++ w_A cI cZ cR ad_a (fun _ => 0) (fun _ => 0) (fun _ => 0) (fun _ => 0) 0 0 0 0 0) H := hP
  have hD : va_D A ([(h0, .inr (6, [.ref (q7), .int 0, .ref (ad_p 0), .ref (ad_c 0), .ref (ad_a 0), .null, .null])), (q7, .inl (cR, 6, .inr (.inr (.inr (.inr (fun _ => none))))))] ++ w_P cI cZ cR ad_p 50 0 0 ++ w_S cI cZ cR ad_c (fun _ => 0) (fun _ => 0) 0 ++ w_A cI cZ cR ad_a (fun _ => 0) (fun _ => 0) (fun _ => 0) (fun _ => 0) 0 0 0 0 0) := hD
  refine lv_aload_n hx hb dX6_init_51 rfl (lv_at hl 0 rfl) ?_
  refine va_new (ci := 3) (fs := [.null, .null, .int 0]) (C := RX3) (T := TX3) (N := 3) hx hb hts us_X6_init_X3 tyX3 tyX3_ok hown (hts (.classLink RX6 40 RX3) lk_X6_init_24) (hts (.instantiable RX3 3) lk_X6_init_25) (hts (.initialized RX3) lk_X6_init_26) hK hP hD hS hA rfl (fun j hj => by rcases (show j = 0 ∨ j = 1 ∨ j = 2 by omega) with rfl | rfl | rfl <;> rfl) (Nat.le_of_ble_eq_true rfl) (Nat.le_of_ble_eq_true rfl) dX6_init_52 (fun q52 H hP hD hS => ?_)
  have hP : va_P D vwCl ([(h0, .inr (6, [.ref (q7), .int 0, .ref (ad_p 0), .ref (ad_c 0), .ref (ad_a 0), .null, .null])), (q7, .inl (cR, 6, .inr (.inr (.inr (.inr (fun _ => none))))))] ++ w_P cI cZ cR ad_p 50 0 0 ++ w_S cI cZ cR ad_c (fun _ => 0) (fun _ => 0) 0 ++ w_A cI cZ cR ad_a (fun _ => 0) (fun _ => 0) (fun _ => 0) (fun _ => 0) 0 0 0 0 0 ++ [(q52, .inr (3, [.null, .null, .int 0]))]) H := hP
  have hD : va_D A ([(h0, .inr (6, [.ref (q7), .int 0, .ref (ad_p 0), .ref (ad_c 0), .ref (ad_a 0), .null, .null])), (q7, .inl (cR, 6, .inr (.inr (.inr (.inr (fun _ => none))))))] ++ w_P cI cZ cR ad_p 50 0 0 ++ w_S cI cZ cR ad_c (fun _ => 0) (fun _ => 0) 0 ++ w_A cI cZ cR ad_a (fun _ => 0) (fun _ => 0) (fun _ => 0) (fun _ => 0) 0 0 0 0 0 ++ [(q52, .inr (3, [.null, .null, .int 0]))]) := hD
  refine lv_dup hx hb dX6_init_55 rfl ?_
  have hPc := hP.sub (ws' := [(q52, .inr (3, [.null, .null, .int 0]))]) [11] rfl
  have hDc := hD.sub (ws' := [(q52, .inr (3, [.null, .null, .int 0]))]) [11] (by decide) rfl
  refine gl_callv (wr := [(h0, .inr (6, [.ref (q7), .int 0, .ref (ad_p 0), .ref (ad_c 0), .ref (ad_a 0), .null, .null])), (q7, .inl (cR, 6, .inr (.inr (.inr (.inr (fun _ => none))))))] ++ w_P cI cZ cR ad_p 50 0 0 ++ w_S cI cZ cR ad_c (fun _ => 0) (fun _ => 0) 0 ++ w_A cI cZ cR ad_a (fun _ => 0) (fun _ => 0) (fun _ => 0) (fun _ => 0) 0 0 0 0 0) (va_runI (As := []) (rest := [.ref (q52), .ref (h0)]) ⟨hx, hb, hml, hown, hts⟩ (mt_X3_init l D cI cZ cR q52 H.size) (cwI 0 hts gX6_init_X3_init rfl rfl rfl (hts (.initialized RX3) lk_X6_init_26) (hts (.methodLink RX6 42 yX3_init) lk_X6_init_27) (hts (.instanceMethod yX3_init) lk_X6_init_28) rfl (by decide +kernel) ⟨Nat.le_of_ble_eq_true rfl, Nat.le_of_ble_eq_true rfl⟩) ⟨gl_blind, gl_pre hPc hK hN hDc⟩ rfl rfl hl.1 rfl (lv_room (Nat.le_of_ble_eq_true rfl)) dX6_init_56 ⟨Nat.le_of_ble_eq_true rfl, Nat.le_of_ble_eq_true rfl⟩) hP hD hS hA [11] [0, 1, 2, 3, 4, 5, 6, 7, 8, 9, 10] rfl rfl (by decide) (by decide) (fun u H9 locs9 h hP9 hD9 hS9 => ?_)
  obtain ⟨ad_u, u_least, u_greatest, u_sights⟩ := u
  obtain ⟨h, hl9, hg9, hs9⟩ := h
  dsimp only at h hl9 hg9 hs9 hP9 hD9
  subst hs9
  clear hPc hDc hP hD hS
  subst h
  obtain ⟨H, rfl⟩ : ∃ z, z = H9 := ⟨_, rfl⟩
  obtain ⟨locs, rfl⟩ : ∃ z, z = locs9 := ⟨_, rfl⟩
  have hP := hP9
  have hD := hD9
  have hS := hS9
  clear hP9 hD9 hS9
  have hP : va_P D vwCl ([(h0, .inr (6, [.ref (q7), .int 0, .ref (ad_p 0), .ref (ad_c 0), .ref (ad_a 0), .null, .null])), (q7, .inl (cR, 6, .inr (.inr (.inr (.inr (fun _ => none))))))] ++ w_P cI cZ cR ad_p 50 0 0 ++ w_S cI cZ cR ad_c (fun _ => 0) (fun _ => 0) 0 ++ w_A cI cZ cR ad_a (fun _ => 0) (fun _ => 0) (fun _ => 0) (fun _ => 0) 0 0 0 0 0 ++ w_U cI cZ cR ad_u u_least u_greatest 0) H := hP
  have hD : va_D A ([(h0, .inr (6, [.ref (q7), .int 0, .ref (ad_p 0), .ref (ad_c 0), .ref (ad_a 0), .null, .null])), (q7, .inl (cR, 6, .inr (.inr (.inr (.inr (fun _ => none))))))] ++ w_P cI cZ cR ad_p 50 0 0 ++ w_S cI cZ cR ad_c (fun _ => 0) (fun _ => 0) 0 ++ w_A cI cZ cR ad_a (fun _ => 0) (fun _ => 0) (fun _ => 0) (fun _ => 0) 0 0 0 0 0 ++ w_U cI cZ cR ad_u u_least u_greatest 0) := hD
  refine va_putF (D := D) (ci := 6) (v := .ref (ad_u 0)) (ty := .object "RollHouse$Punches") (C := RX6) (T := TX6) (N := 7) hx hb hts us_X6_init_X6 tyX6 tyX6_ok nmX6 hown hK hP hD hS 0 rfl rfl 5 (by decide) (hts (.fieldLink RX6 43 "RollHouse" "punches" "LRollHouse$Punches;") lk_X6_init_29) (fun _ h9 => h9) rfl hin rfl (by decide +kernel) rfl rfl (Nat.le_of_ble_eq_true rfl) dX6_init_59 (fun H locs hP hD hS => ?_)
  have hP : va_P D vwCl ([(h0, .inr (6, [.ref (q7), .int 0, .ref (ad_p 0), .ref (ad_c 0), .ref (ad_a 0), .ref (ad_u 0), .null])), (q7, .inl (cR, 6, .inr (.inr (.inr (.inr (fun _ => none))))))] ++ w_P cI cZ cR ad_p 50 0 0 ++ w_S cI cZ cR ad_c (fun _ => 0) (fun _ => 0) 0 ++ w_A cI cZ cR ad_a (fun _ => 0) (fun _ => 0) (fun _ => 0) (fun _ => 0) 0 0 0 0 0 ++ w_U cI cZ cR ad_u u_least u_greatest 0) H := hP
  have hD : va_D A ([(h0, .inr (6, [.ref (q7), .int 0, .ref (ad_p 0), .ref (ad_c 0), .ref (ad_a 0), .ref (ad_u 0), .null])), (q7, .inl (cR, 6, .inr (.inr (.inr (.inr (fun _ => none))))))] ++ w_P cI cZ cR ad_p 50 0 0 ++ w_S cI cZ cR ad_c (fun _ => 0) (fun _ => 0) 0 ++ w_A cI cZ cR ad_a (fun _ => 0) (fun _ => 0) (fun _ => 0) (fun _ => 0) 0 0 0 0 0 ++ w_U cI cZ cR ad_u u_least u_greatest 0) := hD
  refine lv_aload_n hx hb dX6_init_62 rfl (lv_at hl 0 rfl) ?_
  refine va_new (ci := 2) (fs := [.null, .null, .null, .null, .int 0, .int 0, .null]) (C := RX2) (T := TX2) (N := 7) hx hb hts us_X6_init_X2 tyX2 tyX2_ok hown (hts (.classLink RX6 47 RX2) lk_X6_init_30) (hts (.instantiable RX2 7) lk_X6_init_31) (hts (.initialized RX2) lk_X6_init_32) hK hP hD hS hA rfl (fun j hj => by rcases (show j = 0 ∨ j = 1 ∨ j = 2 ∨ j = 3 ∨ j = 4 ∨ j = 5 ∨ j = 6 by omega) with rfl | rfl | rfl | rfl | rfl | rfl | rfl <;> rfl) (Nat.le_of_ble_eq_true rfl) (Nat.le_of_ble_eq_true rfl) dX6_init_63 (fun q63 H hP hD hS => ?_)
  have hP : va_P D vwCl ([(h0, .inr (6, [.ref (q7), .int 0, .ref (ad_p 0), .ref (ad_c 0), .ref (ad_a 0), .ref (ad_u 0), .null])), (q7, .inl (cR, 6, .inr (.inr (.inr (.inr (fun _ => none))))))] ++ w_P cI cZ cR ad_p 50 0 0 ++ w_S cI cZ cR ad_c (fun _ => 0) (fun _ => 0) 0 ++ w_A cI cZ cR ad_a (fun _ => 0) (fun _ => 0) (fun _ => 0) (fun _ => 0) 0 0 0 0 0 ++ w_U cI cZ cR ad_u u_least u_greatest 0 ++ [(q63, .inr (2, [.null, .null, .null, .null, .int 0, .int 0, .null]))]) H := hP
  have hD : va_D A ([(h0, .inr (6, [.ref (q7), .int 0, .ref (ad_p 0), .ref (ad_c 0), .ref (ad_a 0), .ref (ad_u 0), .null])), (q7, .inl (cR, 6, .inr (.inr (.inr (.inr (fun _ => none))))))] ++ w_P cI cZ cR ad_p 50 0 0 ++ w_S cI cZ cR ad_c (fun _ => 0) (fun _ => 0) 0 ++ w_A cI cZ cR ad_a (fun _ => 0) (fun _ => 0) (fun _ => 0) (fun _ => 0) 0 0 0 0 0 ++ w_U cI cZ cR ad_u u_least u_greatest 0 ++ [(q63, .inr (2, [.null, .null, .null, .null, .int 0, .int 0, .null]))]) := hD
  refine lv_dup hx hb dX6_init_66 rfl ?_
  have hPc := hP.sub (ws' := [(q63, .inr (2, [.null, .null, .null, .null, .int 0, .int 0, .null]))]) [14] rfl
  have hDc := hD.sub (ws' := [(q63, .inr (2, [.null, .null, .null, .null, .int 0, .int 0, .null]))]) [14] (by decide) rfl
  refine gl_callv (wr := [(h0, .inr (6, [.ref (q7), .int 0, .ref (ad_p 0), .ref (ad_c 0), .ref (ad_a 0), .ref (ad_u 0), .null])), (q7, .inl (cR, 6, .inr (.inr (.inr (.inr (fun _ => none))))))] ++ w_P cI cZ cR ad_p 50 0 0 ++ w_S cI cZ cR ad_c (fun _ => 0) (fun _ => 0) 0 ++ w_A cI cZ cR ad_a (fun _ => 0) (fun _ => 0) (fun _ => 0) (fun _ => 0) 0 0 0 0 0 ++ w_U cI cZ cR ad_u u_least u_greatest 0) (va_runI (As := []) (rest := [.ref (q63), .ref (h0)]) ⟨hx, hb, hml, hown, hts⟩ (mt_X2_init l D cI cZ cR q63 H.size) (cwI 0 hts gX6_init_X2_init rfl rfl rfl (hts (.initialized RX2) lk_X6_init_32) (hts (.methodLink RX6 49 yX2_init) lk_X6_init_33) (hts (.instanceMethod yX2_init) lk_X6_init_34) rfl (by decide +kernel) ⟨Nat.le_of_ble_eq_true rfl, Nat.le_of_ble_eq_true rfl⟩) ⟨gl_blind, gl_pre hPc hK hN hDc⟩ rfl rfl hl.1 rfl (lv_room (Nat.le_of_ble_eq_true rfl)) dX6_init_67 ⟨Nat.le_of_ble_eq_true rfl, Nat.le_of_ble_eq_true rfl⟩) hP hD hS hA [14] [0, 1, 2, 3, 4, 5, 6, 7, 8, 9, 10, 11, 12, 13] rfl rfl (by decide) (by decide) (fun u H9 locs9 h hP9 hD9 hS9 => ?_)
  obtain ⟨ad_o, rfl⟩ : ∃ z, z = u := ⟨_, rfl⟩
  clear hPc hDc hP hD hS
  subst h
  obtain ⟨H, rfl⟩ : ∃ z, z = H9 := ⟨_, rfl⟩
  obtain ⟨locs, rfl⟩ : ∃ z, z = locs9 := ⟨_, rfl⟩
  have hP := hP9
  have hD := hD9
  have hS := hS9
  clear hP9 hD9 hS9
  have hP : va_P D vwCl ([(h0, .inr (6, [.ref (q7), .int 0, .ref (ad_p 0), .ref (ad_c 0), .ref (ad_a 0), .ref (ad_u 0), .null])), (q7, .inl (cR, 6, .inr (.inr (.inr (.inr (fun _ => none))))))] ++ w_P cI cZ cR ad_p 50 0 0 ++ w_S cI cZ cR ad_c (fun _ => 0) (fun _ => 0) 0 ++ w_A cI cZ cR ad_a (fun _ => 0) (fun _ => 0) (fun _ => 0) (fun _ => 0) 0 0 0 0 0 ++ w_U cI cZ cR ad_u u_least u_greatest 0 ++ w_O cI cZ cR ad_o (fun _ => 0) (fun _ => 0) (fun _ => 0) (fun _ => 0) 0 0 (fun _ => 0)) H := hP
  have hD : va_D A ([(h0, .inr (6, [.ref (q7), .int 0, .ref (ad_p 0), .ref (ad_c 0), .ref (ad_a 0), .ref (ad_u 0), .null])), (q7, .inl (cR, 6, .inr (.inr (.inr (.inr (fun _ => none))))))] ++ w_P cI cZ cR ad_p 50 0 0 ++ w_S cI cZ cR ad_c (fun _ => 0) (fun _ => 0) 0 ++ w_A cI cZ cR ad_a (fun _ => 0) (fun _ => 0) (fun _ => 0) (fun _ => 0) 0 0 0 0 0 ++ w_U cI cZ cR ad_u u_least u_greatest 0 ++ w_O cI cZ cR ad_o (fun _ => 0) (fun _ => 0) (fun _ => 0) (fun _ => 0) 0 0 (fun _ => 0)) := hD
  refine va_putF (D := D) (ci := 6) (v := .ref (ad_o 0)) (ty := .object "RollHouse$Post") (C := RX6) (T := TX6) (N := 7) hx hb hts us_X6_init_X6 tyX6 tyX6_ok nmX6 hown hK hP hD hS 0 rfl rfl 6 (by decide) (hts (.fieldLink RX6 50 "RollHouse" "post" "LRollHouse$Post;") lk_X6_init_35) (fun _ h9 => h9) rfl hin rfl (by decide +kernel) rfl rfl (Nat.le_of_ble_eq_true rfl) dX6_init_70 (fun H locs hP hD hS => ?_)
  have hP : va_P D vwCl ([(h0, .inr (6, [.ref (q7), .int 0, .ref (ad_p 0), .ref (ad_c 0), .ref (ad_a 0), .ref (ad_u 0), .ref (ad_o 0)])), (q7, .inl (cR, 6, .inr (.inr (.inr (.inr (fun _ => none))))))] ++ w_P cI cZ cR ad_p 50 0 0 ++ w_S cI cZ cR ad_c (fun _ => 0) (fun _ => 0) 0 ++ w_A cI cZ cR ad_a (fun _ => 0) (fun _ => 0) (fun _ => 0) (fun _ => 0) 0 0 0 0 0 ++ w_U cI cZ cR ad_u u_least u_greatest 0 ++ w_O cI cZ cR ad_o (fun _ => 0) (fun _ => 0) (fun _ => 0) (fun _ => 0) 0 0 (fun _ => 0)) H := hP
  have hD : va_D A ([(h0, .inr (6, [.ref (q7), .int 0, .ref (ad_p 0), .ref (ad_c 0), .ref (ad_a 0), .ref (ad_u 0), .ref (ad_o 0)])), (q7, .inl (cR, 6, .inr (.inr (.inr (.inr (fun _ => none))))))] ++ w_P cI cZ cR ad_p 50 0 0 ++ w_S cI cZ cR ad_c (fun _ => 0) (fun _ => 0) 0 ++ w_A cI cZ cR ad_a (fun _ => 0) (fun _ => 0) (fun _ => 0) (fun _ => 0) 0 0 0 0 0 ++ w_U cI cZ cR ad_u u_least u_greatest 0 ++ w_O cI cZ cR ad_o (fun _ => 0) (fun _ => 0) (fun _ => 0) (fun _ => 0) 0 0 (fun _ => 0)) := hD
  exact gl_retv G hK (u := ((fun k => match k with | 0 => h0 | _ => q7), ad_p, ad_c, ad_a, ad_u, ad_o, u_least, u_greatest)) hP hD hS ⟨rfl, hl9, hg9⟩ dX6_init_73
