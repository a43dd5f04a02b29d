theorem lk_X6_roll_0 : (Cond.fieldLink RX6 15 "RollHouse" "rollCount" "I") ∈ wsX6_roll := by decide +kernel
theorem lk_X6_roll_1 : (Cond.fieldLink RX6 11 "RollHouse" "rolls" "[LRollHouse$Roll;") ∈ wsX6_roll := by decide +kernel
theorem lk_X6_roll_2 : (Cond.classLink RX6 9 RX4) ∈ wsX6_roll := by decide +kernel
theorem lk_X6_roll_3 : (Cond.instantiable RX4 8) ∈ wsX6_roll := by decide +kernel
theorem lk_X6_roll_4 : (Cond.initialized RX4) ∈ wsX6_roll := by decide +kernel
theorem lk_X6_roll_5 : (Cond.methodLink RX6 54 yX4_init) ∈ wsX6_roll := by decide +kernel
theorem lk_X6_roll_6 : (Cond.instanceMethod yX4_init) ∈ wsX6_roll := by decide +kernel
theorem us_X6_roll_X4 : ∀ w ∈ u_ws RX4 TX4 8, w ∈ wsX6_roll := by decide +kernel
theorem us_X6_roll_X6 : ∀ w ∈ u_ws RX6 TX6 7, w ∈ wsX6_roll := by decide +kernel
set_option maxRecDepth 100000 in
set_option maxHeartbeats 8000000 in
theorem mt_X6_roll_f (l : Launch) (D : va_G) (cI cZ cR : ClassId) (ad_h : Nat → Nat) (qh_player qh_score qh_alignment qh_punches qh_post : Nat) (sz : Nat) (h_rolls : Nat → Option Nat) (h_rollCount : Int32) (h : ¬ h_rollCount < 6) : Met l yX6_roll wsX6_roll ({ frames := 2, cells := 0, slots := 0, locals := 32 }) (gPc D (gT cI cZ cR) (w_H cI cZ cR ad_h qh_player qh_score qh_alignment qh_punches qh_post h_rolls h_rollCount) sz [.ref (ad_h 0)]) (va_Qi (fun (r : Int32) (u : Unit) => r = (-1)) (fun u t => gB D (gT cI cZ cR) (va_A (w_H cI cZ cR ad_h qh_player qh_score qh_alignment qh_punches qh_post h_rolls h_rollCount) sz) (w_H cI cZ cR ad_h qh_player qh_score qh_alignment qh_punches qh_post h_rolls h_rollCount) t) (va_A (w_H cI cZ cR ad_h qh_player qh_score qh_alignment qh_punches qh_post h_rolls h_rollCount) sz)) 0 0 (va_A (w_H cI cZ cR ad_h qh_player qh_score qh_alignment qh_punches qh_post h_rolls h_rollCount) sz) := by
  refine gl_entry (cc := cX6_roll) (maxL := 1) (ret := (some .int)) (by decide) rfl (Nat.le_of_ble_eq_true rfl) ?_
  intro p e s m below meth c ls G hin hsz hK hN hP hD hl
  subst hsz
  obtain ⟨hx, hb, hr, hml, hown, hts, hlocks⟩ := id G
  generalize hAe : va_A (w_H cI cZ cR ad_h qh_player qh_score qh_alignment qh_punches qh_post h_rolls h_rollCount) s.heap.size = A at hD ⊢
  have hA : ∀ q : Nat, s.heap.size ≤ q → A q := fun q h => by rw [← hAe]; exact Or.inr h
  have hS : va_S A s.heap s.heap [] := va_S.rf
  have hl : lv_has ls 1 [(0, .ref (ad_h 0))] := hl
  refine lv_aload_n hx hb dX6_roll_0 rfl (lv_at hl 0 rfl) ?_
  refine va_get (D := D) (ci := 6) (v := .int h_rollCount) (C := RX6) (T := TX6) (N := 7) hx hb hts us_X6_roll_X6 hown hK hP 0 rfl rfl 1 (by decide) (hts (.fieldLink RX6 15 "RollHouse" "rollCount" "I") lk_X6_roll_0) (fun _ h9 => h9) rfl dX6_roll_1 ?_
  refine lv_bipush (v := 6) hx hb dX6_roll_4 (by decide) ?_
  refine lv_icmp_lt (tgt := 11) hx hb dX6_roll_6 (by decide) (fun hc => absurd hc h) (fun hc => ?_)
  refine lv_iconst (v := (-1)) hx hb dX6_roll_9 (by decide) ?_
  exact gl_ireti G hK (u := ()) hP hD hS rfl dX6_roll_10
set_option maxRecDepth 100000 in
set_option maxHeartbeats 8000000 in
theorem mt_X6_roll_n (l : Launch) (D : va_G) (cI cZ cR : ClassId) (ad_h : Nat → Nat) (qh_player qh_score qh_alignment qh_punches qh_post : Nat) (sz : Nat) (h_rolls : Nat → Option Nat) (h_rollCount : Int32) (h : h_rollCount < 6) (hi : vp_in h_rollCount 6) : Met l yX6_roll wsX6_roll ({ frames := 2, cells := 7, slots := 1088, locals := 32 }) (gPc D (gT cI cZ cR) (w_H cI cZ cR ad_h qh_player qh_score qh_alignment qh_punches qh_post h_rolls h_rollCount) sz [.ref (ad_h 0)]) (va_Qi (fun (r : Int32) (u : Nat → Nat) => r = h_rollCount + 1 - 1) (fun u t => gB D (gT cI cZ cR) (va_A (w_H cI cZ cR ad_h qh_player qh_score qh_alignment qh_punches qh_post h_rolls h_rollCount) sz) (w_H cI cZ cR ad_h qh_player qh_score qh_alignment qh_punches qh_post (va_up h_rolls h_rollCount.toNatClampNeg (some (u 0))) (h_rollCount + 1) ++ w_R cI cZ cR u (fun _ => 0) (fun _ => 0) (fun _ => 0) 0 (fun _ => 0) (fun _ => 0) (fun _ => 0) 0) t) (va_A (w_H cI cZ cR ad_h qh_player qh_score qh_alignment qh_punches qh_post h_rolls h_rollCount) sz)) 7 1088 (va_A (w_H cI cZ cR ad_h qh_player qh_score qh_alignment qh_punches qh_post h_rolls h_rollCount) sz) := by
  refine gl_entry (cc := cX6_roll) (maxL := 1) (ret := (some .int)) (by decide) rfl (Nat.le_of_ble_eq_true rfl) ?_
  intro p e s m below meth c ls G hin hsz hK hN hP hD hl
  subst hsz
  obtain ⟨hx, hb, hr, hml, hown, hts, hlocks⟩ := id G
  generalize hAe : va_A (w_H cI cZ cR ad_h qh_player qh_score qh_alignment qh_punches qh_post h_rolls h_rollCount) s.heap.size = A at hD ⊢
  have hA : ∀ q : Nat, s.heap.size ≤ q → A q := fun q h => by rw [← hAe]; exact Or.inr h
  have hS : va_S A s.heap s.heap [] := va_S.rf
  have hl : lv_has ls 1 [(0, .ref (ad_h 0))] := hl
  refine lv_aload_n hx hb dX6_roll_0 rfl (lv_at hl 0 rfl) ?_
  refine va_get (D := D) (ci := 6) (v := .int h_rollCount) (C := RX6) (T := TX6) (N := 7) hx hb hts us_X6_roll_X6 hown hK hP 0 rfl rfl 1 (by decide) (hts (.fieldLink RX6 15 "RollHouse" "rollCount" "I") lk_X6_roll_0) (fun _ h9 => h9) rfl dX6_roll_1 ?_
  refine lv_bipush (v := 6) hx hb dX6_roll_4 (by decide) ?_
  refine lv_icmp_lt (tgt := 11) hx hb dX6_roll_6 (by decide) (fun hc => ?_) (fun hc => absurd h hc)
  refine lv_aload_n hx hb dX6_roll_11 rfl (lv_at hl 0 rfl) ?_
  refine va_get (D := D) (ci := 6) (v := .ref (ad_h 1)) (C := RX6) (T := TX6) (N := 7) hx hb hts us_X6_roll_X6 hown hK hP 0 rfl rfl 0 (by decide) (hts (.fieldLink RX6 11 "RollHouse" "rolls" "[LRollHouse$Roll;") lk_X6_roll_1) (fun _ h9 => h9) rfl dX6_roll_12 ?_
  refine lv_aload_n hx hb dX6_roll_15 rfl (lv_at hl 0 rfl) ?_
  refine va_get (D := D) (ci := 6) (v := .int h_rollCount) (C := RX6) (T := TX6) (N := 7) hx hb hts us_X6_roll_X6 hown hK hP 0 rfl rfl 1 (by decide) (hts (.fieldLink RX6 15 "RollHouse" "rollCount" "I") lk_X6_roll_0) (fun _ h9 => h9) rfl dX6_roll_16 ?_
  refine va_new (ci := 4) (fs := [.null, .null, .null, .int 0, .null, .null, .null, .int 0]) (C := RX4) (T := TX4) (N := 8) hx hb hts us_X6_roll_X4 tyX4 tyX4_ok hown (hts (.classLink RX6 9 RX4) lk_X6_roll_2) (hts (.instantiable RX4 8) lk_X6_roll_3) (hts (.initialized RX4) lk_X6_roll_4) hK hP hD hS hA rfl (fun j hj => by rcases (show j = 0 ∨ j = 1 ∨ j = 2 ∨ j = 3 ∨ j = 4 ∨ j = 5 ∨ j = 6 ∨ j = 7 by omega) with rfl | rfl | rfl | rfl | rfl | rfl | rfl | rfl <;> rfl) (Nat.le_of_ble_eq_true rfl) (Nat.le_of_ble_eq_true rfl) dX6_roll_19 (fun q19 H hP hD hS => ?_)
  have hP : va_P D vwCl (w_H cI cZ cR ad_h qh_player qh_score qh_alignment qh_punches qh_post h_rolls h_rollCount ++ [(q19, .inr (4, [.null, .null, .null, .int 0, .null, .null, .null, .int 0]))]) H := hP
  have hD : va_D A (w_H cI cZ cR ad_h qh_player qh_score qh_alignment qh_punches qh_post h_rolls h_rollCount ++ [(q19, .inr (4, [.null, .null, .null, .int 0, .null, .null, .null, .int 0]))]) := hD
  refine lv_dup hx hb dX6_roll_22 rfl ?_
  have hPc := hP.sub (ws' := [(q19, .inr (4, [.null, .null, .null, .int 0, .null, .null, .null, .int 0]))]) [2] rfl
  have hDc := hD.sub (ws' := [(q19, .inr (4, [.null, .null, .null, .int 0, .null, .null, .null, .int 0]))]) [2] (by decide) rfl
  refine gl_callv (wr := w_H cI cZ cR ad_h qh_player qh_score qh_alignment qh_punches qh_post h_rolls h_rollCount) (va_runI (As := []) (rest := [.ref q19, .int h_rollCount, .ref (ad_h 1)]) ⟨hx, hb, hml, hown, hts⟩ (mt_X4_init l D cI cZ cR q19 H.size) (cwI 0 hts gX6_roll_X4_init rfl rfl rfl (hts (.initialized RX4) lk_X6_roll_4) (hts (.methodLink RX6 54 yX4_init) lk_X6_roll_5) (hts (.instanceMethod yX4_init) lk_X6_roll_6) rfl (by decide +kernel) ⟨Nat.le_of_ble_eq_true rfl, Nat.le_of_ble_eq_true rfl⟩) ⟨gl_blind, gl_pre hPc hK hN hDc⟩ rfl rfl hl.1 rfl (lv_room (Nat.le_of_ble_eq_true rfl)) dX6_roll_23 ⟨Nat.le_of_ble_eq_true rfl, Nat.le_of_ble_eq_true rfl⟩) hP hD hS hA [2] [0, 1] rfl rfl (by decide) (by decide) (fun u H9 locs9 h9 hP9 hD9 hS9 => ?_)
  obtain ⟨ad_r, rfl⟩ : ∃ z, z = u := ⟨_, rfl⟩
  clear hPc hDc hP hD hS
  subst h9
  obtain ⟨H, rfl⟩ : ∃ z, z = H9 := ⟨_, rfl⟩
  obtain ⟨locs, rfl⟩ : ∃ z, z = locs9 := ⟨_, rfl⟩
  have hP := hP9
  have hD := hD9
  have hS := hS9
  clear hP9 hD9 hS9
  have hP : va_P D vwCl (w_H cI cZ cR ad_h qh_player qh_score qh_alignment qh_punches qh_post h_rolls h_rollCount ++ w_R cI cZ cR ad_r (fun _ => 0) (fun _ => 0) (fun _ => 0) 0 (fun _ => 0) (fun _ => 0) (fun _ => 0) 0) H := hP
  have hD : va_D A (w_H cI cZ cR ad_h qh_player qh_score qh_alignment qh_punches qh_post h_rolls h_rollCount ++ w_R cI cZ cR ad_r (fun _ => 0) (fun _ => 0) (fun _ => 0) 0 (fun _ => 0) (fun _ => 0) (fun _ => 0) 0) := hD
  refine va_astq hx hb hK hP hD hS 1 2 2 4 rfl rfl rfl rfl hi dX6_roll_26 (fun H locs hP hD hS => ?_)
  have hP : va_P D vwCl (w_H cI cZ cR ad_h qh_player qh_score qh_alignment qh_punches qh_post (va_up h_rolls h_rollCount.toNatClampNeg (some (ad_r 0))) h_rollCount ++ w_R cI cZ cR ad_r (fun _ => 0) (fun _ => 0) (fun _ => 0) 0 (fun _ => 0) (fun _ => 0) (fun _ => 0) 0) H := hP
  have hD : va_D A (w_H cI cZ cR ad_h qh_player qh_score qh_alignment qh_punches qh_post (va_up h_rolls h_rollCount.toNatClampNeg (some (ad_r 0))) h_rollCount ++ w_R cI cZ cR ad_r (fun _ => 0) (fun _ => 0) (fun _ => 0) 0 (fun _ => 0) (fun _ => 0) (fun _ => 0) 0) := hD
  refine lv_aload_n hx hb dX6_roll_27 rfl (lv_at hl 0 rfl) ?_
  refine lv_dup hx hb dX6_roll_28 rfl ?_
  refine va_get (D := D) (ci := 6) (v := .int h_rollCount) (C := RX6) (T := TX6) (N := 7) hx hb hts us_X6_roll_X6 hown hK hP 0 rfl rfl 1 (by decide) (hts (.fieldLink RX6 15 "RollHouse" "rollCount" "I") lk_X6_roll_0) (fun _ h9 => h9) rfl dX6_roll_29 ?_
  refine lv_iconst (v := 1) hx hb dX6_roll_32 (by decide) ?_
  refine lv_iadd hx hb dX6_roll_33 ?_
  refine va_put (D := D) (ci := 6) (v := .int (h_rollCount + 1)) (ty := .int) (C := RX6) (T := TX6) (N := 7) hx hb hts us_X6_roll_X6 tyX6 tyX6_ok nmX6 hown hK hP hD hS 0 rfl rfl 1 (by decide) (hts (.fieldLink RX6 15 "RollHouse" "rollCount" "I") lk_X6_roll_0) (fun _ h9 => h9) rfl (by decide +kernel) rfl rfl (Nat.le_of_ble_eq_true rfl) dX6_roll_34 (fun H locs hP hD hS => ?_)
  have hP : va_P D vwCl (w_H cI cZ cR ad_h qh_player qh_score qh_alignment qh_punches qh_post (va_up h_rolls h_rollCount.toNatClampNeg (some (ad_r 0))) (h_rollCount + 1) ++ w_R cI cZ cR ad_r (fun _ => 0) (fun _ => 0) (fun _ => 0) 0 (fun _ => 0) (fun _ => 0) (fun _ => 0) 0) H := hP
  have hD : va_D A (w_H cI cZ cR ad_h qh_player qh_score qh_alignment qh_punches qh_post (va_up h_rolls h_rollCount.toNatClampNeg (some (ad_r 0))) (h_rollCount + 1) ++ w_R cI cZ cR ad_r (fun _ => 0) (fun _ => 0) (fun _ => 0) 0 (fun _ => 0) (fun _ => 0) (fun _ => 0) 0) := hD
  refine lv_aload_n hx hb dX6_roll_37 rfl (lv_at hl 0 rfl) ?_
  refine va_get (D := D) (ci := 6) (v := .int (h_rollCount + 1)) (C := RX6) (T := TX6) (N := 7) hx hb hts us_X6_roll_X6 hown hK hP 0 rfl rfl 1 (by decide) (hts (.fieldLink RX6 15 "RollHouse" "rollCount" "I") lk_X6_roll_0) (fun _ h9 => h9) rfl dX6_roll_38 ?_
  refine lv_iconst (v := 1) hx hb dX6_roll_41 (by decide) ?_
  refine lv_isub hx hb dX6_roll_42 ?_
  exact gl_ireti G hK (u := ad_r) hP hD hS rfl dX6_roll_43
