theorem lk_X7_sight_0 : (Cond.fieldLink RX7 71 "RollHouseModel" "thrown" "I") ∈ wsX7_sight := by decide +kernel
theorem lk_X7_sight_1 : (Cond.fieldLink RX7 173 "RollHouseModel" "sights" "I") ∈ wsX7_sight := by decide +kernel
theorem lk_X7_sight_2 : (Cond.fieldLink RX7 50 "RollHouseModel" "sightCopy" "[I") ∈ wsX7_sight := by decide +kernel
theorem lk_X7_sight_3 : (Cond.fieldLink RX7 53 "RollHouseModel" "sightPitch" "[I") ∈ wsX7_sight := by decide +kernel
theorem lk_X7_sight_4 : (Cond.fieldLink RX7 56 "RollHouseModel" "isFaulty" "[Z") ∈ wsX7_sight := by decide +kernel
theorem us_X7_sight_X7 : ∀ w ∈ u_ws RX7 TX7 34, w ∈ wsX7_sight := by decide +kernel
def wp_X7_sight (v1 : Int32) (v2 : Int32) (v3 : Int32) (m_thrown : Int32) (m_sights : Int32) (m_sightCopy : Nat → Int32) (m_sightPitch : Nat → Int32) (m_isFaulty : Nat → Int32) (post : Int32 → Int32 → Int32 → (Nat → Int32) → (Nat → Int32) → (Nat → Int32) → Prop) : Prop := (wp_X7_within v1 1 1000 (fun (r1 : Int32) => ((r1 = 0 → post (-1) 0 m_sights m_sightCopy m_sightPitch m_isFaulty) ∧ (¬ r1 = 0 → (wp_X7_within v2 0 23 (fun (r2 : Int32) => ((r2 = 0 → post (-1) 0 m_sights m_sightCopy m_sightPitch m_isFaulty) ∧ (¬ r2 = 0 → ((¬ m_sights = 200 → (vp_in m_sights 200 ∧ (∀ a3 : Nat → Int32, a3 = upd m_sightCopy m_sights.toNatClampNeg v1 → (vp_in m_sights 200 ∧ (∀ a4 : Nat → Int32, a4 = upd m_sightPitch m_sights.toNatClampNeg v2 → (vp_in m_sights 200 ∧ (∀ a5 : Nat → Int32, a5 = upd m_isFaulty m_sights.toNatClampNeg (vp_nar .boolean v3) → post (m_sights + 1) 0 (m_sights + 1) a3 a4 a5))))))) ∧ (m_sights = 200 → post (-1) 0 m_sights m_sightCopy m_sightPitch m_isFaulty))))))))))
set_option maxRecDepth 100000 in
set_option maxHeartbeats 4000000 in
theorem ml_X7_sight_0 {p : Program} {l : Launch} {e : Env} {s : State} {m : MethodId} {args : Array Value} {below : List Frame} {meth : Method} {c : Code} {D : va_G} {cI cZ cR : ClassId} {A : Nat → Prop} {ad_m : Nat → Nat} {m_rolls : Int32} {m_pitch : Nat → Int32} {m_first : Nat → Int32} {m_length : Nat → Int32} {m_marks : Nat → Int32} {m_markStep : Nat → Int32} {m_markTicks : Nat → Int32} {m_table : Nat → Int32} {m_order : Nat → Int32} {m_many : Int32} {m_heard : Int32} {m_pressed : Int32} {m_silents : Int32} {m_items : Int32} {m_itemPitch : Nat → Int32} {m_itemStep : Nat → Int32} {m_ends : Nat → Int32} {m_noteOf : Nat → Int32} {m_cost : Int32} {m_extra : Int32} {m_slotOf : Nat → Int32} {m_least : Int32} {m_greatest : Int32} {m_lines : Int32} {m_lineCopy : Nat → Int32} {m_lineDay : Nat → Int32} {m_linePlace : Nat → Int32} {m_lineTold : Nat → Int32} {m_now : Int32} (G : gG p s m args meth c cX7_sight (some .int) 4 RX7 wsX7_sight) (hK : va_K D vwCl (gT cI cZ cR) s) (hN : va_Nw gN s) (hA : ∀ q, s.heap.size ≤ q → A q) (v1 : Int32) (v2 : Int32) (v3 : Int32) (post : Int32 → Int32 → Int32 → (Nat → Int32) → (Nat → Int32) → (Nat → Int32) → Prop) (m_thrown : Int32) (m_sights : Int32) (m_sightCopy : Nat → Int32) (m_sightPitch : Nat → Int32) (m_isFaulty : Nat → Int32) (h : wp_X7_sight v1 v2 v3 m_thrown m_sights m_sightCopy m_sightPitch m_isFaulty post) : ∀ (H : Heap) (locs : List Loc), va_P D vwCl (w_M cI cZ cR ad_m m_thrown m_rolls m_pitch m_first m_length m_marks m_markStep m_markTicks m_table m_order m_many m_heard m_pressed m_silents m_items m_itemPitch m_itemStep m_ends m_noteOf m_cost m_extra m_slotOf m_sights m_sightCopy m_sightPitch m_isFaulty m_least m_greatest m_lines m_lineCopy m_lineDay m_linePlace m_lineTold m_now) H → va_D A (w_M cI cZ cR ad_m m_thrown m_rolls m_pitch m_first m_length m_marks m_markStep m_markTicks m_table m_order m_many m_heard m_pressed m_silents m_items m_itemPitch m_itemStep m_ends m_noteOf m_cost m_extra m_slotOf m_sights m_sightCopy m_sightPitch m_isFaulty m_least m_greatest m_lines m_lineCopy m_lineDay m_linePlace m_lineTold m_now) → va_S A s.heap H locs → ∀ (ls : Array Slot), lv_has ls 4 [(0, .ref (ad_m 0)), (1, .int v1), (2, .int v2), (3, .int v3)] → W p l e { frames := 1, cells := 0, slots := 0, locals := 22 } s m args below meth c H locs 0 0 (MQ below (va_Qi (fun (r : Int32) (u : (Int32) × (Int32) × (Nat → Int32) × (Nat → Int32) × (Nat → Int32)) => post r u.1 u.2.1 u.2.2.1 u.2.2.2.1 u.2.2.2.2) (fun u t => gB D (gT cI cZ cR) A (w_M cI cZ cR ad_m u.1 m_rolls m_pitch m_first m_length m_marks m_markStep m_markTicks m_table m_order m_many m_heard m_pressed m_silents m_items m_itemPitch m_itemStep m_ends m_noteOf m_cost m_extra m_slotOf u.2.1 u.2.2.1 u.2.2.2.1 u.2.2.2.2 m_least m_greatest m_lines m_lineCopy m_lineDay m_linePlace m_lineTold m_now) t) A) args s 0 0 A) (F0 m 0 ls []) := by
  obtain ⟨hx, hb, hr, hml, hown, hts, hlocks⟩ := id G
  intro H locs hP hD hS ls hl
  unfold wp_X7_sight at h
  refine lv_aload_n hx hb dX7_sight_0 rfl (lv_at hl 0 rfl) ?_
  refine lv_iconst (v := 0) hx hb dX7_sight_1 (by decide) ?_
  refine va_put (D := D) (ci := 7) (v := .int 0) (ty := .int) (C := RX7) (T := TX7) (N := 34) hx hb hts us_X7_sight_X7 tyX7 tyX7_ok nmX7 hown hK hP hD hS 0 rfl rfl 0 (by decide) (hts (.fieldLink RX7 71 "RollHouseModel" "thrown" "I") lk_X7_sight_0) (fun _ h9 => h9) rfl (by decide +kernel) rfl rfl (Nat.le_of_ble_eq_true rfl) dX7_sight_2 (fun H locs hP hD hS => ?_)
  have hP : va_P D vwCl (w_M cI cZ cR ad_m 0 m_rolls m_pitch m_first m_length m_marks m_markStep m_markTicks m_table m_order m_many m_heard m_pressed m_silents m_items m_itemPitch m_itemStep m_ends m_noteOf m_cost m_extra m_slotOf m_sights m_sightCopy m_sightPitch m_isFaulty m_least m_greatest m_lines m_lineCopy m_lineDay m_linePlace m_lineTold m_now) H := hP
  have hD : va_D A (w_M cI cZ cR ad_m 0 m_rolls m_pitch m_first m_length m_marks m_markStep m_markTicks m_table m_order m_many m_heard m_pressed m_silents m_items m_itemPitch m_itemStep m_ends m_noteOf m_cost m_extra m_slotOf m_sights m_sightCopy m_sightPitch m_isFaulty m_least m_greatest m_lines m_lineCopy m_lineDay m_linePlace m_lineTold m_now) := hD
  refine lv_iload_n hx hb dX7_sight_5 rfl (lv_at hl 1 rfl) ?_
  refine lv_iconst (v := 1) hx hb dX7_sight_6 (by decide) ?_
  refine lv_sipush (v := 1000) hx hb dX7_sight_7 (by decide) ?_
  refine gl_calliS (va_runS (As := [.int v1, .int 1, .int 1000]) (rest := []) ⟨hx, hb, hml, hown, hts⟩ (mt_X7_within l D cI cZ cR  H.size v1 1 1000 _ h) (va_cwS 3 hts gX7_sight_X7_within rfl rfl rfl (by decide +kernel) ⟨Nat.le_of_ble_eq_true rfl, Nat.le_of_ble_eq_true rfl⟩) ⟨gl_blind, gl_pre gl_nilP hK hN (gl_nilD (A := A))⟩ rfl rfl hl.1 rfl (lv_room (Nat.le_of_ble_eq_true rfl)) dX7_sight_10 ⟨Nat.le_of_ble_eq_true rfl, Nat.le_of_ble_eq_true rfl⟩) hP hS hA (fun r1 u H locs h hP hS => ?_)
  try dsimp only at h
  refine lv_if_eq (tgt := 36) hx hb dX7_sight_13 (by decide) (fun hc => ?_) (fun hc => ?_)
  · have h := h.1 hc
    refine lv_iconst (v := (-1)) hx hb dX7_sight_36 (by decide) ?_
    exact gl_ireti G hK (u := (0, m_sights, m_sightCopy, m_sightPitch, m_isFaulty)) hP hD hS h dX7_sight_37
  · have h := h.2 hc
    refine lv_iload_n hx hb dX7_sight_16 rfl (lv_at hl 2 rfl) ?_
    refine lv_iconst (v := 0) hx hb dX7_sight_17 (by decide) ?_
    refine lv_bipush (v := 23) hx hb dX7_sight_18 (by decide) ?_
    refine gl_calliS (va_runS (As := [.int v2, .int 0, .int 23]) (rest := []) ⟨hx, hb, hml, hown, hts⟩ (mt_X7_within l D cI cZ cR  H.size v2 0 23 _ h) (va_cwS 3 hts gX7_sight_X7_within rfl rfl rfl (by decide +kernel) ⟨Nat.le_of_ble_eq_true rfl, Nat.le_of_ble_eq_true rfl⟩) ⟨gl_blind, gl_pre gl_nilP hK hN (gl_nilD (A := A))⟩ rfl rfl hl.1 rfl (lv_room (Nat.le_of_ble_eq_true rfl)) dX7_sight_20 ⟨Nat.le_of_ble_eq_true rfl, Nat.le_of_ble_eq_true rfl⟩) hP hS hA (fun r2 u H locs h hP hS => ?_)
    try dsimp only at h
    refine lv_if_eq (tgt := 36) hx hb dX7_sight_23 (by decide) (fun hc => ?_) (fun hc => ?_)
    · have h := h.1 hc
      refine lv_iconst (v := (-1)) hx hb dX7_sight_36 (by decide) ?_
      exact gl_ireti G hK (u := (0, m_sights, m_sightCopy, m_sightPitch, m_isFaulty)) hP hD hS h dX7_sight_37
    · have h := h.2 hc
      refine lv_aload_n hx hb dX7_sight_26 rfl (lv_at hl 0 rfl) ?_
      refine va_get (D := D) (ci := 7) (v := .int m_sights) (C := RX7) (T := TX7) (N := 34) hx hb hts us_X7_sight_X7 hown hK hP 0 rfl rfl 22 (by decide) (hts (.fieldLink RX7 173 "RollHouseModel" "sights" "I") lk_X7_sight_1) (fun _ h9 => h9) rfl dX7_sight_27 ?_
      refine lv_sipush (v := 200) hx hb dX7_sight_30 (by decide) ?_
      refine lv_icmp_ne (tgt := 38) hx hb dX7_sight_33 (by decide) (fun hc => ?_) (fun hc => ?_)
      · have h := h.1 hc
        refine lv_aload_n hx hb dX7_sight_38 rfl (lv_at hl 0 rfl) ?_
        refine va_get (D := D) (ci := 7) (v := .ref (ad_m 14)) (C := RX7) (T := TX7) (N := 34) hx hb hts us_X7_sight_X7 hown hK hP 0 rfl rfl 23 (by decide) (hts (.fieldLink RX7 50 "RollHouseModel" "sightCopy" "[I") lk_X7_sight_2) (fun _ h9 => h9) rfl dX7_sight_39 ?_
        refine lv_aload_n hx hb dX7_sight_42 rfl (lv_at hl 0 rfl) ?_
        refine va_get (D := D) (ci := 7) (v := .int m_sights) (C := RX7) (T := TX7) (N := 34) hx hb hts us_X7_sight_X7 hown hK hP 0 rfl rfl 22 (by decide) (hts (.fieldLink RX7 173 "RollHouseModel" "sights" "I") lk_X7_sight_1) (fun _ h9 => h9) rfl dX7_sight_43 ?_
        refine lv_iload_n hx hb dX7_sight_46 rfl (lv_at hl 1 rfl) ?_
        obtain ⟨hin, h⟩ := h
        refine va_iast hx hb hK hP hD hS 14 0 rfl rfl hin dX7_sight_47 (fun H locs hP hD hS => ?_)
        obtain ⟨a3, ea3⟩ : ∃ f, f = upd m_sightCopy m_sights.toNatClampNeg v1 := ⟨_, rfl⟩
        have h := h a3 ea3
        rw [← ea3] at hP hD
        have hP : va_P D vwCl (w_M cI cZ cR ad_m 0 m_rolls m_pitch m_first m_length m_marks m_markStep m_markTicks m_table m_order m_many m_heard m_pressed m_silents m_items m_itemPitch m_itemStep m_ends m_noteOf m_cost m_extra m_slotOf m_sights a3 m_sightPitch m_isFaulty m_least m_greatest m_lines m_lineCopy m_lineDay m_linePlace m_lineTold m_now) H := hP
        have hD : va_D A (w_M cI cZ cR ad_m 0 m_rolls m_pitch m_first m_length m_marks m_markStep m_markTicks m_table m_order m_many m_heard m_pressed m_silents m_items m_itemPitch m_itemStep m_ends m_noteOf m_cost m_extra m_slotOf m_sights a3 m_sightPitch m_isFaulty m_least m_greatest m_lines m_lineCopy m_lineDay m_linePlace m_lineTold m_now) := hD
        refine lv_aload_n hx hb dX7_sight_48 rfl (lv_at hl 0 rfl) ?_
        refine va_get (D := D) (ci := 7) (v := .ref (ad_m 15)) (C := RX7) (T := TX7) (N := 34) hx hb hts us_X7_sight_X7 hown hK hP 0 rfl rfl 24 (by decide) (hts (.fieldLink RX7 53 "RollHouseModel" "sightPitch" "[I") lk_X7_sight_3) (fun _ h9 => h9) rfl dX7_sight_49 ?_
        refine lv_aload_n hx hb dX7_sight_52 rfl (lv_at hl 0 rfl) ?_
        refine va_get (D := D) (ci := 7) (v := .int m_sights) (C := RX7) (T := TX7) (N := 34) hx hb hts us_X7_sight_X7 hown hK hP 0 rfl rfl 22 (by decide) (hts (.fieldLink RX7 173 "RollHouseModel" "sights" "I") lk_X7_sight_1) (fun _ h9 => h9) rfl dX7_sight_53 ?_
        refine lv_iload_n hx hb dX7_sight_56 rfl (lv_at hl 2 rfl) ?_
        obtain ⟨hin, h⟩ := h
        refine va_iast hx hb hK hP hD hS 15 0 rfl rfl hin dX7_sight_57 (fun H locs hP hD hS => ?_)
        obtain ⟨a4, ea4⟩ : ∃ f, f = upd m_sightPitch m_sights.toNatClampNeg v2 := ⟨_, rfl⟩
        have h := h a4 ea4
        rw [← ea4] at hP hD
        have hP : va_P D vwCl (w_M cI cZ cR ad_m 0 m_rolls m_pitch m_first m_length m_marks m_markStep m_markTicks m_table m_order m_many m_heard m_pressed m_silents m_items m_itemPitch m_itemStep m_ends m_noteOf m_cost m_extra m_slotOf m_sights a3 a4 m_isFaulty m_least m_greatest m_lines m_lineCopy m_lineDay m_linePlace m_lineTold m_now) H := hP
        have hD : va_D A (w_M cI cZ cR ad_m 0 m_rolls m_pitch m_first m_length m_marks m_markStep m_markTicks m_table m_order m_many m_heard m_pressed m_silents m_items m_itemPitch m_itemStep m_ends m_noteOf m_cost m_extra m_slotOf m_sights a3 a4 m_isFaulty m_least m_greatest m_lines m_lineCopy m_lineDay m_linePlace m_lineTold m_now) := hD
        refine lv_aload_n hx hb dX7_sight_58 rfl (lv_at hl 0 rfl) ?_
        refine va_get (D := D) (ci := 7) (v := .ref (ad_m 16)) (C := RX7) (T := TX7) (N := 34) hx hb hts us_X7_sight_X7 hown hK hP 0 rfl rfl 25 (by decide) (hts (.fieldLink RX7 56 "RollHouseModel" "isFaulty" "[Z") lk_X7_sight_4) (fun _ h9 => h9) rfl dX7_sight_59 ?_
        refine lv_aload_n hx hb dX7_sight_62 rfl (lv_at hl 0 rfl) ?_
        refine va_get (D := D) (ci := 7) (v := .int m_sights) (C := RX7) (T := TX7) (N := 34) hx hb hts us_X7_sight_X7 hown hK hP 0 rfl rfl 22 (by decide) (hts (.fieldLink RX7 173 "RollHouseModel" "sights" "I") lk_X7_sight_1) (fun _ h9 => h9) rfl dX7_sight_63 ?_
        refine lv_iload_n hx hb dX7_sight_66 rfl (lv_at hl 3 rfl) ?_
        obtain ⟨hin, h⟩ := h
        refine va_zast hx hb hK hP hD hS 16 1 rfl rfl hin dX7_sight_67 (fun H locs hP hD hS => ?_)
        obtain ⟨a5, ea5⟩ : ∃ f, f = upd m_isFaulty m_sights.toNatClampNeg (vp_nar .boolean v3) := ⟨_, rfl⟩
        have h := h a5 ea5
        rw [← ea5] at hP hD
        have hP : va_P D vwCl (w_M cI cZ cR ad_m 0 m_rolls m_pitch m_first m_length m_marks m_markStep m_markTicks m_table m_order m_many m_heard m_pressed m_silents m_items m_itemPitch m_itemStep m_ends m_noteOf m_cost m_extra m_slotOf m_sights a3 a4 a5 m_least m_greatest m_lines m_lineCopy m_lineDay m_linePlace m_lineTold m_now) H := hP
        have hD : va_D A (w_M cI cZ cR ad_m 0 m_rolls m_pitch m_first m_length m_marks m_markStep m_markTicks m_table m_order m_many m_heard m_pressed m_silents m_items m_itemPitch m_itemStep m_ends m_noteOf m_cost m_extra m_slotOf m_sights a3 a4 a5 m_least m_greatest m_lines m_lineCopy m_lineDay m_linePlace m_lineTold m_now) := hD
        refine lv_aload_n hx hb dX7_sight_68 rfl (lv_at hl 0 rfl) ?_
        refine lv_dup hx hb dX7_sight_69 rfl ?_
        refine va_get (D := D) (ci := 7) (v := .int m_sights) (C := RX7) (T := TX7) (N := 34) hx hb hts us_X7_sight_X7 hown hK hP 0 rfl rfl 22 (by decide) (hts (.fieldLink RX7 173 "RollHouseModel" "sights" "I") lk_X7_sight_1) (fun _ h9 => h9) rfl dX7_sight_70 ?_
        refine lv_iconst (v := 1) hx hb dX7_sight_73 (by decide) ?_
        refine lv_iadd hx hb dX7_sight_74 ?_
        refine va_put (D := D) (ci := 7) (v := .int (m_sights + 1)) (ty := .int) (C := RX7) (T := TX7) (N := 34) hx hb hts us_X7_sight_X7 tyX7 tyX7_ok nmX7 hown hK hP hD hS 0 rfl rfl 22 (by decide) (hts (.fieldLink RX7 173 "RollHouseModel" "sights" "I") lk_X7_sight_1) (fun _ h9 => h9) rfl (by decide +kernel) rfl rfl (Nat.le_of_ble_eq_true rfl) dX7_sight_75 (fun H locs hP hD hS => ?_)
        have hP : va_P D vwCl (w_M cI cZ cR ad_m 0 m_rolls m_pitch m_first m_length m_marks m_markStep m_markTicks m_table m_order m_many m_heard m_pressed m_silents m_items m_itemPitch m_itemStep m_ends m_noteOf m_cost m_extra m_slotOf (m_sights + 1) a3 a4 a5 m_least m_greatest m_lines m_lineCopy m_lineDay m_linePlace m_lineTold m_now) H := hP
        have hD : va_D A (w_M cI cZ cR ad_m 0 m_rolls m_pitch m_first m_length m_marks m_markStep m_markTicks m_table m_order m_many m_heard m_pressed m_silents m_items m_itemPitch m_itemStep m_ends m_noteOf m_cost m_extra m_slotOf (m_sights + 1) a3 a4 a5 m_least m_greatest m_lines m_lineCopy m_lineDay m_linePlace m_lineTold m_now) := hD
        refine lv_aload_n hx hb dX7_sight_78 rfl (lv_at hl 0 rfl) ?_
        refine va_get (D := D) (ci := 7) (v := .int (m_sights + 1)) (C := RX7) (T := TX7) (N := 34) hx hb hts us_X7_sight_X7 hown hK hP 0 rfl rfl 22 (by decide) (hts (.fieldLink RX7 173 "RollHouseModel" "sights" "I") lk_X7_sight_1) (fun _ h9 => h9) rfl dX7_sight_79 ?_
        exact gl_ireti G hK (u := (0, (m_sights + 1), a3, a4, a5)) hP hD hS h dX7_sight_82
      · have h := h.2 hc
        refine lv_iconst (v := (-1)) hx hb dX7_sight_36 (by decide) ?_
        exact gl_ireti G hK (u := (0, m_sights, m_sightCopy, m_sightPitch, m_isFaulty)) hP hD hS h dX7_sight_37
set_option maxRecDepth 100000 in
theorem mt_X7_sight (l : Launch) (D : va_G) (cI cZ cR : ClassId) (ad_m : Nat → Nat) (sz : Nat) (m_thrown : Int32) (m_rolls : Int32) (m_pitch : Nat → Int32) (m_first : Nat → Int32) (m_length : Nat → Int32) (m_marks : Nat → Int32) (m_markStep : Nat → Int32) (m_markTicks : Nat → Int32) (m_table : Nat → Int32) (m_order : Nat → Int32) (m_many : Int32) (m_heard : Int32) (m_pressed : Int32) (m_silents : Int32) (m_items : Int32) (m_itemPitch : Nat → Int32) (m_itemStep : Nat → Int32) (m_ends : Nat → Int32) (m_noteOf : Nat → Int32) (m_cost : Int32) (m_extra : Int32) (m_slotOf : Nat → Int32) (m_sights : Int32) (m_sightCopy : Nat → Int32) (m_sightPitch : Nat → Int32) (m_isFaulty : Nat → Int32) (m_least : Int32) (m_greatest : Int32) (m_lines : Int32) (m_lineCopy : Nat → Int32) (m_lineDay : Nat → Int32) (m_linePlace : Nat → Int32) (m_lineTold : Nat → Int32) (m_now : Int32) (v1 : Int32) (v2 : Int32) (v3 : Int32) (post : Int32 → Int32 → Int32 → (Nat → Int32) → (Nat → Int32) → (Nat → Int32) → Prop) (h : wp_X7_sight v1 v2 v3 m_thrown m_sights m_sightCopy m_sightPitch m_isFaulty post) : Met l yX7_sight wsX7_sight ({ frames := 1, cells := 0, slots := 0, locals := 22 }) (gPc D (gT cI cZ cR) (w_M cI cZ cR ad_m m_thrown m_rolls m_pitch m_first m_length m_marks m_markStep m_markTicks m_table m_order m_many m_heard m_pressed m_silents m_items m_itemPitch m_itemStep m_ends m_noteOf m_cost m_extra m_slotOf m_sights m_sightCopy m_sightPitch m_isFaulty m_least m_greatest m_lines m_lineCopy m_lineDay m_linePlace m_lineTold m_now) sz [.ref (ad_m 0), .int v1, .int v2, .int v3]) (va_Qi (fun (r : Int32) (u : (Int32) × (Int32) × (Nat → Int32) × (Nat → Int32) × (Nat → Int32)) => post r u.1 u.2.1 u.2.2.1 u.2.2.2.1 u.2.2.2.2) (fun u t => gB D (gT cI cZ cR) (va_A (w_M cI cZ cR ad_m m_thrown m_rolls m_pitch m_first m_length m_marks m_markStep m_markTicks m_table m_order m_many m_heard m_pressed m_silents m_items m_itemPitch m_itemStep m_ends m_noteOf m_cost m_extra m_slotOf m_sights m_sightCopy m_sightPitch m_isFaulty m_least m_greatest m_lines m_lineCopy m_lineDay m_linePlace m_lineTold m_now) sz) (w_M cI cZ cR ad_m u.1 m_rolls m_pitch m_first m_length m_marks m_markStep m_markTicks m_table m_order m_many m_heard m_pressed m_silents m_items m_itemPitch m_itemStep m_ends m_noteOf m_cost m_extra m_slotOf u.2.1 u.2.2.1 u.2.2.2.1 u.2.2.2.2 m_least m_greatest m_lines m_lineCopy m_lineDay m_linePlace m_lineTold m_now) t) (va_A (w_M cI cZ cR ad_m m_thrown m_rolls m_pitch m_first m_length m_marks m_markStep m_markTicks m_table m_order m_many m_heard m_pressed m_silents m_items m_itemPitch m_itemStep m_ends m_noteOf m_cost m_extra m_slotOf m_sights m_sightCopy m_sightPitch m_isFaulty m_least m_greatest m_lines m_lineCopy m_lineDay m_linePlace m_lineTold m_now) sz)) 0 0 (va_A (w_M cI cZ cR ad_m m_thrown m_rolls m_pitch m_first m_length m_marks m_markStep m_markTicks m_table m_order m_many m_heard m_pressed m_silents m_items m_itemPitch m_itemStep m_ends m_noteOf m_cost m_extra m_slotOf m_sights m_sightCopy m_sightPitch m_isFaulty m_least m_greatest m_lines m_lineCopy m_lineDay m_linePlace m_lineTold m_now) sz) := by
  refine gl_entry (cc := cX7_sight) (maxL := 4) (ret := (some .int)) (by decide) rfl (Nat.le_of_ble_eq_true rfl) ?_
  intro p e s m below meth c ls G hin hsz hK hN hP hD hl
  subst hsz
  exact ml_X7_sight_0 G hK hN (fun q h => Or.inr h) v1 v2 v3 post m_thrown m_sights m_sightCopy m_sightPitch m_isFaulty h s.heap [] hP hD va_S.rf ls hl
theorem lk_X7_spans_0 : (Cond.fieldLink RX7 176 "RollHouseModel" "least" "I") ∈ wsX7_spans := by decide +kernel
theorem lk_X7_spans_1 : (Cond.fieldLink RX7 179 "RollHouseModel" "greatest" "I") ∈ wsX7_spans := by decide +kernel
theorem lk_X7_spans_2 : (Cond.fieldLink RX7 173 "RollHouseModel" "sights" "I") ∈ wsX7_spans := by decide +kernel
theorem lk_X7_spans_3 : (Cond.fieldLink RX7 53 "RollHouseModel" "sightPitch" "[I") ∈ wsX7_spans := by decide +kernel
theorem lk_X7_spans_4 : (Cond.fieldLink RX7 56 "RollHouseModel" "isFaulty" "[Z") ∈ wsX7_spans := by decide +kernel
theorem lk_X7_spans_5 : (Cond.fieldLink RX7 50 "RollHouseModel" "sightCopy" "[I") ∈ wsX7_spans := by decide +kernel
theorem us_X7_spans_X7 : ∀ w ∈ u_ws RX7 TX7 34, w ∈ wsX7_spans := by decide +kernel
def wl_X7_spans_67 (m_sights : Int32) (m_sightCopy : Nat → Int32) (m_sightPitch : Nat → Int32) (m_isFaulty : Nat → Int32) (v1 : Int32) (post : Int32 → Int32 → Int32 → Prop) (K14 : (Int32) → (Int32) → (Int32) → Prop) (v2 : Int32) (m_least : Int32) (m_greatest : Int32) : Prop := (vp_in v2 200 ∧ ((¬ (m_isFaulty v2.toNatClampNeg) = 0 → K14 (v2 + 1) m_least m_greatest) ∧ ((m_isFaulty v2.toNatClampNeg) = 0 → (vp_in v2 200 ∧ ((((m_sightCopy v2.toNatClampNeg) + 1) ≤ m_least → K14 (v2 + 1) m_least m_greatest) ∧ (¬ ((m_sightCopy v2.toNatClampNeg) + 1) ≤ m_least → (vp_in v2 200 ∧ (∀ z2 : Int32, z2 = (m_sightCopy v2.toNatClampNeg) + 1 → K14 (v2 + 1) z2 m_greatest))))))))
def wl_X7_spans_14 (m_sights : Int32) (m_sightCopy : Nat → Int32) (m_sightPitch : Nat → Int32) (m_isFaulty : Nat → Int32) (v1 : Int32) (post : Int32 → Int32 → Int32 → Prop) : Nat → (Int32) → (Int32) → (Int32) → Prop
  | 0, _, _, _ => False
  | fu + 1, v2, m_least, m_greatest => ((m_sights ≤ v2 → ((m_greatest < m_least → post 0 m_least m_greatest) ∧ (¬ m_greatest < m_least → post 1 m_least m_greatest))) ∧ (¬ m_sights ≤ v2 → (vp_in v2 200 ∧ (((m_sightPitch v2.toNatClampNeg) = v1 → (vp_in v2 200 ∧ (((m_isFaulty v2.toNatClampNeg) = 0 → wl_X7_spans_67 m_sights m_sightCopy m_sightPitch m_isFaulty v1 post (wl_X7_spans_14 m_sights m_sightCopy m_sightPitch m_isFaulty v1 post fu) v2 m_least m_greatest) ∧ (¬ (m_isFaulty v2.toNatClampNeg) = 0 → (vp_in v2 200 ∧ ((m_greatest ≤ (m_sightCopy v2.toNatClampNeg) → wl_X7_spans_67 m_sights m_sightCopy m_sightPitch m_isFaulty v1 post (wl_X7_spans_14 m_sights m_sightCopy m_sightPitch m_isFaulty v1 post fu) v2 m_least m_greatest) ∧ (¬ m_greatest ≤ (m_sightCopy v2.toNatClampNeg) → (vp_in v2 200 ∧ (∀ z1 : Int32, z1 = m_sightCopy v2.toNatClampNeg → wl_X7_spans_67 m_sights m_sightCopy m_sightPitch m_isFaulty v1 post (wl_X7_spans_14 m_sights m_sightCopy m_sightPitch m_isFaulty v1 post fu) v2 m_least z1))))))))) ∧ (¬ (m_sightPitch v2.toNatClampNeg) = v1 → wl_X7_spans_14 m_sights m_sightCopy m_sightPitch m_isFaulty v1 post fu (v2 + 1) m_least m_greatest)))))
def wp_X7_spans (m_sights : Int32) (m_sightCopy : Nat → Int32) (m_sightPitch : Nat → Int32) (m_isFaulty : Nat → Int32) (v1 : Int32) (m_least : Int32) (m_greatest : Int32) (post : Int32 → Int32 → Int32 → Prop) : Prop := (∃ n, wl_X7_spans_14 m_sights m_sightCopy m_sightPitch m_isFaulty v1 post n 0 1 1001)
set_option maxRecDepth 100000 in
set_option maxHeartbeats 4000000 in
theorem ml_X7_spans_67 {p : Program} {l : Launch} {e : Env} {s : State} {m : MethodId} {args : Array Value} {below : List Frame} {meth : Method} {c : Code} {D : va_G} {cI cZ cR : ClassId} {A : Nat → Prop} {ad_m : Nat → Nat} {m_thrown : Int32} {m_rolls : Int32} {m_pitch : Nat → Int32} {m_first : Nat → Int32} {m_length : Nat → Int32} {m_marks : Nat → Int32} {m_markStep : Nat → Int32} {m_markTicks : Nat → Int32} {m_table : Nat → Int32} {m_order : Nat → Int32} {m_many : Int32} {m_heard : Int32} {m_pressed : Int32} {m_silents : Int32} {m_items : Int32} {m_itemPitch : Nat → Int32} {m_itemStep : Nat → Int32} {m_ends : Nat → Int32} {m_noteOf : Nat → Int32} {m_cost : Int32} {m_extra : Int32} {m_slotOf : Nat → Int32} {m_lines : Int32} {m_lineCopy : Nat → Int32} {m_lineDay : Nat → Int32} {m_linePlace : Nat → Int32} {m_lineTold : Nat → Int32} {m_now : Int32} (G : gG p s m args meth c cX7_spans (some .boolean) 3 RX7 wsX7_spans) (hK : va_K D vwCl (gT cI cZ cR) s) (hN : va_Nw gN s) (hA : ∀ q, s.heap.size ≤ q → A q) (m_sights : Int32) (m_sightCopy : Nat → Int32) (m_sightPitch : Nat → Int32) (m_isFaulty : Nat → Int32) (v1 : Int32) (post : Int32 → Int32 → Int32 → Prop) (K14 : (Int32) → (Int32) → (Int32) → Prop) (hK14 : ∀ (v2 : Int32) (m_least : Int32) (m_greatest : Int32), K14 v2 m_least m_greatest → ∀ (H : Heap) (locs : List Loc), va_P D vwCl (w_M cI cZ cR ad_m m_thrown m_rolls m_pitch m_first m_length m_marks m_markStep m_markTicks m_table m_order m_many m_heard m_pressed m_silents m_items m_itemPitch m_itemStep m_ends m_noteOf m_cost m_extra m_slotOf m_sights m_sightCopy m_sightPitch m_isFaulty m_least m_greatest m_lines m_lineCopy m_lineDay m_linePlace m_lineTold m_now) H → va_D A (w_M cI cZ cR ad_m m_thrown m_rolls m_pitch m_first m_length m_marks m_markStep m_markTicks m_table m_order m_many m_heard m_pressed m_silents m_items m_itemPitch m_itemStep m_ends m_noteOf m_cost m_extra m_slotOf m_sights m_sightCopy m_sightPitch m_isFaulty m_least m_greatest m_lines m_lineCopy m_lineDay m_linePlace m_lineTold m_now) → va_S A s.heap H locs → ∀ (ls : Array Slot), lv_has ls 3 [(0, .ref (ad_m 0)), (1, .int v1), (2, .int v2)] → W p l e { frames := 0, cells := 0, slots := 0, locals := 0 } s m args below meth c H locs 0 0 (MQ below (va_Qi (fun (r : Int32) (u : (Int32) × (Int32)) => post r u.1 u.2) (fun u t => gB D (gT cI cZ cR) A (w_M cI cZ cR ad_m m_thrown m_rolls m_pitch m_first m_length m_marks m_markStep m_markTicks m_table m_order m_many m_heard m_pressed m_silents m_items m_itemPitch m_itemStep m_ends m_noteOf m_cost m_extra m_slotOf m_sights m_sightCopy m_sightPitch m_isFaulty u.1 u.2 m_lines m_lineCopy m_lineDay m_linePlace m_lineTold m_now) t) A) args s 0 0 A) (F0 m 14 ls [])) (v2 : Int32) (m_least : Int32) (m_greatest : Int32) (h : wl_X7_spans_67 m_sights m_sightCopy m_sightPitch m_isFaulty v1 post K14 v2 m_least m_greatest) : ∀ (H : Heap) (locs : List Loc), va_P D vwCl (w_M cI cZ cR ad_m m_thrown m_rolls m_pitch m_first m_length m_marks m_markStep m_markTicks m_table m_order m_many m_heard m_pressed m_silents m_items m_itemPitch m_itemStep m_ends m_noteOf m_cost m_extra m_slotOf m_sights m_sightCopy m_sightPitch m_isFaulty m_least m_greatest m_lines m_lineCopy m_lineDay m_linePlace m_lineTold m_now) H → va_D A (w_M cI cZ cR ad_m m_thrown m_rolls m_pitch m_first m_length m_marks m_markStep m_markTicks m_table m_order m_many m_heard m_pressed m_silents m_items m_itemPitch m_itemStep m_ends m_noteOf m_cost m_extra m_slotOf m_sights m_sightCopy m_sightPitch m_isFaulty m_least m_greatest m_lines m_lineCopy m_lineDay m_linePlace m_lineTold m_now) → va_S A s.heap H locs → ∀ (ls : Array Slot), lv_has ls 3 [(0, .ref (ad_m 0)), (1, .int v1), (2, .int v2)] → W p l e { frames := 0, cells := 0, slots := 0, locals := 0 } s m args below meth c H locs 0 0 (MQ below (va_Qi (fun (r : Int32) (u : (Int32) × (Int32)) => post r u.1 u.2) (fun u t => gB D (gT cI cZ cR) A (w_M cI cZ cR ad_m m_thrown m_rolls m_pitch m_first m_length m_marks m_markStep m_markTicks m_table m_order m_many m_heard m_pressed m_silents m_items m_itemPitch m_itemStep m_ends m_noteOf m_cost m_extra m_slotOf m_sights m_sightCopy m_sightPitch m_isFaulty u.1 u.2 m_lines m_lineCopy m_lineDay m_linePlace m_lineTold m_now) t) A) args s 0 0 A) (F0 m 67 ls []) := by
  obtain ⟨hx, hb, hr, hml, hown, hts, hlocks⟩ := id G
  intro H locs hP hD hS ls hl
  unfold wl_X7_spans_67 at h
  refine lv_aload_n hx hb dX7_spans_67 rfl (lv_at hl 0 rfl) ?_
  refine va_get (D := D) (ci := 7) (v := .ref (ad_m 16)) (C := RX7) (T := TX7) (N := 34) hx hb hts us_X7_spans_X7 hown hK hP 0 rfl rfl 25 (by decide) (hts (.fieldLink RX7 56 "RollHouseModel" "isFaulty" "[Z") lk_X7_spans_4) (fun _ h9 => h9) rfl dX7_spans_68 ?_
  refine lv_iload_n hx hb dX7_spans_71 rfl (lv_at hl 2 rfl) ?_
  obtain ⟨hin, h⟩ := h
  refine va_zald hx hb hK hP 16 1 rfl rfl hin dX7_spans_72 ?_
  refine lv_if_ne (tgt := 103) hx hb dX7_spans_73 (by decide) (fun hc => ?_) (fun hc => ?_)
  · have h := h.1 hc
    refine lv_iinc (v := v2 + 1) (lv' := [(2, .int (v2 + 1)), (0, .ref (ad_m 0)), (1, .int v1)]) hx hb dX7_spans_103 hl (k := 2) rfl rfl (by decide) rfl (fun ls hl => ?_)
    refine lv_goto (tgt := 14) hx hb dX7_spans_106 (by decide) ?_
    exact hK14 (v2 + 1) m_least m_greatest h H locs hP hD hS ls (lv_sub hl [1, 2, 0] rfl)
  · have h := h.2 hc
    refine lv_aload_n hx hb dX7_spans_76 rfl (lv_at hl 0 rfl) ?_
    refine va_get (D := D) (ci := 7) (v := .ref (ad_m 14)) (C := RX7) (T := TX7) (N := 34) hx hb hts us_X7_spans_X7 hown hK hP 0 rfl rfl 23 (by decide) (hts (.fieldLink RX7 50 "RollHouseModel" "sightCopy" "[I") lk_X7_spans_5) (fun _ h9 => h9) rfl dX7_spans_77 ?_
    refine lv_iload_n hx hb dX7_spans_80 rfl (lv_at hl 2 rfl) ?_
    obtain ⟨hin, h⟩ := h
    refine va_iald hx hb hK hP 14 0 rfl rfl hin dX7_spans_81 ?_
    refine lv_iconst (v := 1) hx hb dX7_spans_82 (by decide) ?_
    refine lv_iadd hx hb dX7_spans_83 ?_
    refine lv_aload_n hx hb dX7_spans_84 rfl (lv_at hl 0 rfl) ?_
    refine va_get (D := D) (ci := 7) (v := .int m_least) (C := RX7) (T := TX7) (N := 34) hx hb hts us_X7_spans_X7 hown hK hP 0 rfl rfl 26 (by decide) (hts (.fieldLink RX7 176 "RollHouseModel" "least" "I") lk_X7_spans_0) (fun _ h9 => h9) rfl dX7_spans_85 ?_
    refine lv_icmp_le (tgt := 103) hx hb dX7_spans_88 (by decide) (fun hc => ?_) (fun hc => ?_)
    · have h := h.1 hc
      refine lv_iinc (v := v2 + 1) (lv' := [(2, .int (v2 + 1)), (0, .ref (ad_m 0)), (1, .int v1)]) hx hb dX7_spans_103 hl (k := 2) rfl rfl (by decide) rfl (fun ls hl => ?_)
      refine lv_goto (tgt := 14) hx hb dX7_spans_106 (by decide) ?_
      exact hK14 (v2 + 1) m_least m_greatest h H locs hP hD hS ls (lv_sub hl [1, 2, 0] rfl)
    · have h := h.2 hc
      refine lv_aload_n hx hb dX7_spans_91 rfl (lv_at hl 0 rfl) ?_
      refine lv_aload_n hx hb dX7_spans_92 rfl (lv_at hl 0 rfl) ?_
      refine va_get (D := D) (ci := 7) (v := .ref (ad_m 14)) (C := RX7) (T := TX7) (N := 34) hx hb hts us_X7_spans_X7 hown hK hP 0 rfl rfl 23 (by decide) (hts (.fieldLink RX7 50 "RollHouseModel" "sightCopy" "[I") lk_X7_spans_5) (fun _ h9 => h9) rfl dX7_spans_93 ?_
      refine lv_iload_n hx hb dX7_spans_96 rfl (lv_at hl 2 rfl) ?_
      obtain ⟨hin, h⟩ := h
      refine va_iald hx hb hK hP 14 0 rfl rfl hin dX7_spans_97 ?_
      refine lv_iconst (v := 1) hx hb dX7_spans_98 (by decide) ?_
      refine lv_iadd hx hb dX7_spans_99 ?_
      refine lv_topi (fun z2 ez2 => ?_)
      have h := h z2 ez2
      refine va_put (D := D) (ci := 7) (v := .int z2) (ty := .int) (C := RX7) (T := TX7) (N := 34) hx hb hts us_X7_spans_X7 tyX7 tyX7_ok nmX7 hown hK hP hD hS 0 rfl rfl 26 (by decide) (hts (.fieldLink RX7 176 "RollHouseModel" "least" "I") lk_X7_spans_0) (fun _ h9 => h9) rfl (by decide +kernel) rfl rfl (Nat.le_of_ble_eq_true rfl) dX7_spans_100 (fun H locs hP hD hS => ?_)
      have hP : va_P D vwCl (w_M cI cZ cR ad_m m_thrown m_rolls m_pitch m_first m_length m_marks m_markStep m_markTicks m_table m_order m_many m_heard m_pressed m_silents m_items m_itemPitch m_itemStep m_ends m_noteOf m_cost m_extra m_slotOf m_sights m_sightCopy m_sightPitch m_isFaulty z2 m_greatest m_lines m_lineCopy m_lineDay m_linePlace m_lineTold m_now) H := hP
      have hD : va_D A (w_M cI cZ cR ad_m m_thrown m_rolls m_pitch m_first m_length m_marks m_markStep m_markTicks m_table m_order m_many m_heard m_pressed m_silents m_items m_itemPitch m_itemStep m_ends m_noteOf m_cost m_extra m_slotOf m_sights m_sightCopy m_sightPitch m_isFaulty z2 m_greatest m_lines m_lineCopy m_lineDay m_linePlace m_lineTold m_now) := hD
      refine lv_iinc (v := v2 + 1) (lv' := [(2, .int (v2 + 1)), (0, .ref (ad_m 0)), (1, .int v1)]) hx hb dX7_spans_103 hl (k := 2) rfl rfl (by decide) rfl (fun ls hl => ?_)
      refine lv_goto (tgt := 14) hx hb dX7_spans_106 (by decide) ?_
      exact hK14 (v2 + 1) z2 m_greatest h H locs hP hD hS ls (lv_sub hl [1, 2, 0] rfl)
set_option maxRecDepth 100000 in
set_option maxHeartbeats 4000000 in
theorem ml_X7_spans_14 {p : Program} {l : Launch} {e : Env} {s : State} {m : MethodId} {args : Array Value} {below : List Frame} {meth : Method} {c : Code} {D : va_G} {cI cZ cR : ClassId} {A : Nat → Prop} {ad_m : Nat → Nat} {m_thrown : Int32} {m_rolls : Int32} {m_pitch : Nat → Int32} {m_first : Nat → Int32} {m_length : Nat → Int32} {m_marks : Nat → Int32} {m_markStep : Nat → Int32} {m_markTicks : Nat → Int32} {m_table : Nat → Int32} {m_order : Nat → Int32} {m_many : Int32} {m_heard : Int32} {m_pressed : Int32} {m_silents : Int32} {m_items : Int32} {m_itemPitch : Nat → Int32} {m_itemStep : Nat → Int32} {m_ends : Nat → Int32} {m_noteOf : Nat → Int32} {m_cost : Int32} {m_extra : Int32} {m_slotOf : Nat → Int32} {m_lines : Int32} {m_lineCopy : Nat → Int32} {m_lineDay : Nat → Int32} {m_linePlace : Nat → Int32} {m_lineTold : Nat → Int32} {m_now : Int32} (G : gG p s m args meth c cX7_spans (some .boolean) 3 RX7 wsX7_spans) (hK : va_K D vwCl (gT cI cZ cR) s) (hN : va_Nw gN s) (hA : ∀ q, s.heap.size ≤ q → A q) (m_sights : Int32) (m_sightCopy : Nat → Int32) (m_sightPitch : Nat → Int32) (m_isFaulty : Nat → Int32) (v1 : Int32) (post : Int32 → Int32 → Int32 → Prop) : ∀ (fu : Nat) (v2 : Int32) (m_least : Int32) (m_greatest : Int32), wl_X7_spans_14 m_sights m_sightCopy m_sightPitch m_isFaulty v1 post fu v2 m_least m_greatest → ∀ (H : Heap) (locs : List Loc), va_P D vwCl (w_M cI cZ cR ad_m m_thrown m_rolls m_pitch m_first m_length m_marks m_markStep m_markTicks m_table m_order m_many m_heard m_pressed m_silents m_items m_itemPitch m_itemStep m_ends m_noteOf m_cost m_extra m_slotOf m_sights m_sightCopy m_sightPitch m_isFaulty m_least m_greatest m_lines m_lineCopy m_lineDay m_linePlace m_lineTold m_now) H → va_D A (w_M cI cZ cR ad_m m_thrown m_rolls m_pitch m_first m_length m_marks m_markStep m_markTicks m_table m_order m_many m_heard m_pressed m_silents m_items m_itemPitch m_itemStep m_ends m_noteOf m_cost m_extra m_slotOf m_sights m_sightCopy m_sightPitch m_isFaulty m_least m_greatest m_lines m_lineCopy m_lineDay m_linePlace m_lineTold m_now) → va_S A s.heap H locs → ∀ (ls : Array Slot), lv_has ls 3 [(0, .ref (ad_m 0)), (1, .int v1), (2, .int v2)] → W p l e { frames := 0, cells := 0, slots := 0, locals := 0 } s m args below meth c H locs 0 0 (MQ below (va_Qi (fun (r : Int32) (u : (Int32) × (Int32)) => post r u.1 u.2) (fun u t => gB D (gT cI cZ cR) A (w_M cI cZ cR ad_m m_thrown m_rolls m_pitch m_first m_length m_marks m_markStep m_markTicks m_table m_order m_many m_heard m_pressed m_silents m_items m_itemPitch m_itemStep m_ends m_noteOf m_cost m_extra m_slotOf m_sights m_sightCopy m_sightPitch m_isFaulty u.1 u.2 m_lines m_lineCopy m_lineDay m_linePlace m_lineTold m_now) t) A) args s 0 0 A) (F0 m 14 ls []) := by
  obtain ⟨hx, hb, hr, hml, hown, hts, hlocks⟩ := id G
  intro fu
  induction fu with
  | zero =>
    intro v2 m_least m_greatest h
    exact h.elim
  | succ fu ih =>
    intro v2 m_least m_greatest h H locs hP hD hS ls hl
    rw [wl_X7_spans_14] at h
    refine lv_iload_n hx hb dX7_spans_14 rfl (lv_at hl 2 rfl) ?_
    refine lv_aload_n hx hb dX7_spans_15 rfl (lv_at hl 0 rfl) ?_
    refine va_get (D := D) (ci := 7) (v := .int m_sights) (C := RX7) (T := TX7) (N := 34) hx hb hts us_X7_spans_X7 hown hK hP 0 rfl rfl 22 (by decide) (hts (.fieldLink RX7 173 "RollHouseModel" "sights" "I") lk_X7_spans_2) (fun _ h9 => h9) rfl dX7_spans_16 ?_
    refine lv_icmp_ge (tgt := 109) hx hb dX7_spans_19 (by decide) (fun hc => ?_) (fun hc => ?_)
    · have h := h.1 hc
      refine lv_aload_n hx hb dX7_spans_109 rfl (lv_at hl 0 rfl) ?_
      refine va_get (D := D) (ci := 7) (v := .int m_least) (C := RX7) (T := TX7) (N := 34) hx hb hts us_X7_spans_X7 hown hK hP 0 rfl rfl 26 (by decide) (hts (.fieldLink RX7 176 "RollHouseModel" "least" "I") lk_X7_spans_0) (fun _ h9 => h9) rfl dX7_spans_110 ?_
      refine lv_aload_n hx hb dX7_spans_113 rfl (lv_at hl 0 rfl) ?_
      refine va_get (D := D) (ci := 7) (v := .int m_greatest) (C := RX7) (T := TX7) (N := 34) hx hb hts us_X7_spans_X7 hown hK hP 0 rfl rfl 27 (by decide) (hts (.fieldLink RX7 179 "RollHouseModel" "greatest" "I") lk_X7_spans_1) (fun _ h9 => h9) rfl dX7_spans_114 ?_
      refine lv_icmp_gt (tgt := 124) hx hb dX7_spans_117 (by decide) (fun hc => ?_) (fun hc => ?_)
      · have h := h.1 hc
        refine lv_iconst (v := 0) hx hb dX7_spans_124 (by decide) ?_
        exact gl_iretz G hK (u := (m_least, m_greatest)) hP hD hS (by decide) h dX7_spans_125
      · have h := h.2 hc
        refine lv_iconst (v := 1) hx hb dX7_spans_120 (by decide) ?_
        refine lv_goto (tgt := 125) hx hb dX7_spans_121 (by decide) ?_
        exact gl_iretz G hK (u := (m_least, m_greatest)) hP hD hS (by decide) h dX7_spans_125
    · have h := h.2 hc
      refine lv_aload_n hx hb dX7_spans_22 rfl (lv_at hl 0 rfl) ?_
      refine va_get (D := D) (ci := 7) (v := .ref (ad_m 15)) (C := RX7) (T := TX7) (N := 34) hx hb hts us_X7_spans_X7 hown hK hP 0 rfl rfl 24 (by decide) (hts (.fieldLink RX7 53 "RollHouseModel" "sightPitch" "[I") lk_X7_spans_3) (fun _ h9 => h9) rfl dX7_spans_23 ?_
      refine lv_iload_n hx hb dX7_spans_26 rfl (lv_at hl 2 rfl) ?_
      obtain ⟨hin, h⟩ := h
      refine va_iald hx hb hK hP 15 0 rfl rfl hin dX7_spans_27 ?_
      refine lv_iload_n hx hb dX7_spans_28 rfl (lv_at hl 1 rfl) ?_
      refine lv_icmp_eq (tgt := 35) hx hb dX7_spans_29 (by decide) (fun hc => ?_) (fun hc => ?_)
      · have h := h.1 hc
        refine lv_aload_n hx hb dX7_spans_35 rfl (lv_at hl 0 rfl) ?_
        refine va_get (D := D) (ci := 7) (v := .ref (ad_m 16)) (C := RX7) (T := TX7) (N := 34) hx hb hts us_X7_spans_X7 hown hK hP 0 rfl rfl 25 (by decide) (hts (.fieldLink RX7 56 "RollHouseModel" "isFaulty" "[Z") lk_X7_spans_4) (fun _ h9 => h9) rfl dX7_spans_36 ?_
        refine lv_iload_n hx hb dX7_spans_39 rfl (lv_at hl 2 rfl) ?_
        obtain ⟨hin, h⟩ := h
        refine va_zald hx hb hK hP 16 1 rfl rfl hin dX7_spans_40 ?_
        refine lv_if_eq (tgt := 67) hx hb dX7_spans_41 (by decide) (fun hc => ?_) (fun hc => ?_)
        · have h := h.1 hc
          exact ml_X7_spans_67 G hK hN hA m_sights m_sightCopy m_sightPitch m_isFaulty v1 post (wl_X7_spans_14 m_sights m_sightCopy m_sightPitch m_isFaulty v1 post fu) ih v2 m_least m_greatest h H locs hP hD hS ls (lv_sub hl [0, 1, 2] rfl)
        · have h := h.2 hc
          refine lv_aload_n hx hb dX7_spans_44 rfl (lv_at hl 0 rfl) ?_
          refine va_get (D := D) (ci := 7) (v := .ref (ad_m 14)) (C := RX7) (T := TX7) (N := 34) hx hb hts us_X7_spans_X7 hown hK hP 0 rfl rfl 23 (by decide) (hts (.fieldLink RX7 50 "RollHouseModel" "sightCopy" "[I") lk_X7_spans_5) (fun _ h9 => h9) rfl dX7_spans_45 ?_
          refine lv_iload_n hx hb dX7_spans_48 rfl (lv_at hl 2 rfl) ?_
          obtain ⟨hin, h⟩ := h
          refine va_iald hx hb hK hP 14 0 rfl rfl hin dX7_spans_49 ?_
          refine lv_aload_n hx hb dX7_spans_50 rfl (lv_at hl 0 rfl) ?_
          refine va_get (D := D) (ci := 7) (v := .int m_greatest) (C := RX7) (T := TX7) (N := 34) hx hb hts us_X7_spans_X7 hown hK hP 0 rfl rfl 27 (by decide) (hts (.fieldLink RX7 179 "RollHouseModel" "greatest" "I") lk_X7_spans_1) (fun _ h9 => h9) rfl dX7_spans_51 ?_
          refine lv_icmp_ge (tgt := 67) hx hb dX7_spans_54 (by decide) (fun hc => ?_) (fun hc => ?_)
          · have h := h.1 hc
            exact ml_X7_spans_67 G hK hN hA m_sights m_sightCopy m_sightPitch m_isFaulty v1 post (wl_X7_spans_14 m_sights m_sightCopy m_sightPitch m_isFaulty v1 post fu) ih v2 m_least m_greatest h H locs hP hD hS ls (lv_sub hl [0, 1, 2] rfl)
          · have h := h.2 hc
            refine lv_aload_n hx hb dX7_spans_57 rfl (lv_at hl 0 rfl) ?_
            refine lv_aload_n hx hb dX7_spans_58 rfl (lv_at hl 0 rfl) ?_
            refine va_get (D := D) (ci := 7) (v := .ref (ad_m 14)) (C := RX7) (T := TX7) (N := 34) hx hb hts us_X7_spans_X7 hown hK hP 0 rfl rfl 23 (by decide) (hts (.fieldLink RX7 50 "RollHouseModel" "sightCopy" "[I") lk_X7_spans_5) (fun _ h9 => h9) rfl dX7_spans_59 ?_
            refine lv_iload_n hx hb dX7_spans_62 rfl (lv_at hl 2 rfl) ?_
            obtain ⟨hin, h⟩ := h
            refine va_iald hx hb hK hP 14 0 rfl rfl hin dX7_spans_63 ?_
            refine lv_topi (fun z1 ez1 => ?_)
            have h := h z1 ez1
            refine va_put (D := D) (ci := 7) (v := .int z1) (ty := .int) (C := RX7) (T := TX7) (N := 34) hx hb hts us_X7_spans_X7 tyX7 tyX7_ok nmX7 hown hK hP hD hS 0 rfl rfl 27 (by decide) (hts (.fieldLink RX7 179 "RollHouseModel" "greatest" "I") lk_X7_spans_1) (fun _ h9 => h9) rfl (by decide +kernel) rfl rfl (Nat.le_of_ble_eq_true rfl) dX7_spans_64 (fun H locs hP hD hS => ?_)
            have hP : va_P D vwCl (w_M cI cZ cR ad_m m_thrown m_rolls m_pitch m_first m_length m_marks m_markStep m_markTicks m_table m_order m_many m_heard m_pressed m_silents m_items m_itemPitch m_itemStep m_ends m_noteOf m_cost m_extra m_slotOf m_sights m_sightCopy m_sightPitch m_isFaulty m_least z1 m_lines m_lineCopy m_lineDay m_linePlace m_lineTold m_now) H := hP
            have hD : va_D A (w_M cI cZ cR ad_m m_thrown m_rolls m_pitch m_first m_length m_marks m_markStep m_markTicks m_table m_order m_many m_heard m_pressed m_silents m_items m_itemPitch m_itemStep m_ends m_noteOf m_cost m_extra m_slotOf m_sights m_sightCopy m_sightPitch m_isFaulty m_least z1 m_lines m_lineCopy m_lineDay m_linePlace m_lineTold m_now) := hD
            exact ml_X7_spans_67 G hK hN hA m_sights m_sightCopy m_sightPitch m_isFaulty v1 post (wl_X7_spans_14 m_sights m_sightCopy m_sightPitch m_isFaulty v1 post fu) ih v2 m_least z1 h H locs hP hD hS ls (lv_sub hl [0, 1, 2] rfl)
      · have h := h.2 hc
        refine lv_goto (tgt := 103) hx hb dX7_spans_32 (by decide) ?_
        refine lv_iinc (v := v2 + 1) (lv' := [(2, .int (v2 + 1)), (0, .ref (ad_m 0)), (1, .int v1)]) hx hb dX7_spans_103 hl (k := 2) rfl rfl (by decide) rfl (fun ls hl => ?_)
        refine lv_goto (tgt := 14) hx hb dX7_spans_106 (by decide) ?_
        exact ih (v2 + 1) m_least m_greatest h H locs hP hD hS ls (lv_sub hl [1, 2, 0] rfl)
set_option maxRecDepth 100000 in
set_option maxHeartbeats 4000000 in
theorem ml_X7_spans_0 {p : Program} {l : Launch} {e : Env} {s : State} {m : MethodId} {args : Array Value} {below : List Frame} {meth : Method} {c : Code} {D : va_G} {cI cZ cR : ClassId} {A : Nat → Prop} {ad_m : Nat → Nat} {m_thrown : Int32} {m_rolls : Int32} {m_pitch : Nat → Int32} {m_first : Nat → Int32} {m_length : Nat → Int32} {m_marks : Nat → Int32} {m_markStep : Nat → Int32} {m_markTicks : Nat → Int32} {m_table : Nat → Int32} {m_order : Nat → Int32} {m_many : Int32} {m_heard : Int32} {m_pressed : Int32} {m_silents : Int32} {m_items : Int32} {m_itemPitch : Nat → Int32} {m_itemStep : Nat → Int32} {m_ends : Nat → Int32} {m_noteOf : Nat → Int32} {m_cost : Int32} {m_extra : Int32} {m_slotOf : Nat → Int32} {m_lines : Int32} {m_lineCopy : Nat → Int32} {m_lineDay : Nat → Int32} {m_linePlace : Nat → Int32} {m_lineTold : Nat → Int32} {m_now : Int32} (G : gG p s m args meth c cX7_spans (some .boolean) 3 RX7 wsX7_spans) (hK : va_K D vwCl (gT cI cZ cR) s) (hN : va_Nw gN s) (hA : ∀ q, s.heap.size ≤ q → A q) (m_sights : Int32) (m_sightCopy : Nat → Int32) (m_sightPitch : Nat → Int32) (m_isFaulty : Nat → Int32) (v1 : Int32) (post : Int32 → Int32 → Int32 → Prop) (m_least : Int32) (m_greatest : Int32) (h : wp_X7_spans m_sights m_sightCopy m_sightPitch m_isFaulty v1 m_least m_greatest post) : ∀ (H : Heap) (locs : List Loc), va_P D vwCl (w_M cI cZ cR ad_m m_thrown m_rolls m_pitch m_first m_length m_marks m_markStep m_markTicks m_table m_order m_many m_heard m_pressed m_silents m_items m_itemPitch m_itemStep m_ends m_noteOf m_cost m_extra m_slotOf m_sights m_sightCopy m_sightPitch m_isFaulty m_least m_greatest m_lines m_lineCopy m_lineDay m_linePlace m_lineTold m_now) H → va_D A (w_M cI cZ cR ad_m m_thrown m_rolls m_pitch m_first m_length m_marks m_markStep m_markTicks m_table m_order m_many m_heard m_pressed m_silents m_items m_itemPitch m_itemStep m_ends m_noteOf m_cost m_extra m_slotOf m_sights m_sightCopy m_sightPitch m_isFaulty m_least m_greatest m_lines m_lineCopy m_lineDay m_linePlace m_lineTold m_now) → va_S A s.heap H locs → ∀ (ls : Array Slot), lv_has ls 3 [(0, .ref (ad_m 0)), (1, .int v1)] → W p l e { frames := 0, cells := 0, slots := 0, locals := 0 } s m args below meth c H locs 0 0 (MQ below (va_Qi (fun (r : Int32) (u : (Int32) × (Int32)) => post r u.1 u.2) (fun u t => gB D (gT cI cZ cR) A (w_M cI cZ cR ad_m m_thrown m_rolls m_pitch m_first m_length m_marks m_markStep m_markTicks m_table m_order m_many m_heard m_pressed m_silents m_items m_itemPitch m_itemStep m_ends m_noteOf m_cost m_extra m_slotOf m_sights m_sightCopy m_sightPitch m_isFaulty u.1 u.2 m_lines m_lineCopy m_lineDay m_linePlace m_lineTold m_now) t) A) args s 0 0 A) (F0 m 0 ls []) := by
  obtain ⟨hx, hb, hr, hml, hown, hts, hlocks⟩ := id G
  intro H locs hP hD hS ls hl
  unfold wp_X7_spans at h
  refine lv_aload_n hx hb dX7_spans_0 rfl (lv_at hl 0 rfl) ?_
  refine lv_iconst (v := 1) hx hb dX7_spans_1 (by decide) ?_
  refine va_put (D := D) (ci := 7) (v := .int 1) (ty := .int) (C := RX7) (T := TX7) (N := 34) hx hb hts us_X7_spans_X7 tyX7 tyX7_ok nmX7 hown hK hP hD hS 0 rfl rfl 26 (by decide) (hts (.fieldLink RX7 176 "RollHouseModel" "least" "I") lk_X7_spans_0) (fun _ h9 => h9) rfl (by decide +kernel) rfl rfl (Nat.le_of_ble_eq_true rfl) dX7_spans_2 (fun H locs hP hD hS => ?_)
  have hP : va_P D vwCl (w_M cI cZ cR ad_m m_thrown m_rolls m_pitch m_first m_length m_marks m_markStep m_markTicks m_table m_order m_many m_heard m_pressed m_silents m_items m_itemPitch m_itemStep m_ends m_noteOf m_cost m_extra m_slotOf m_sights m_sightCopy m_sightPitch m_isFaulty 1 m_greatest m_lines m_lineCopy m_lineDay m_linePlace m_lineTold m_now) H := hP
  have hD : va_D A (w_M cI cZ cR ad_m m_thrown m_rolls m_pitch m_first m_length m_marks m_markStep m_markTicks m_table m_order m_many m_heard m_pressed m_silents m_items m_itemPitch m_itemStep m_ends m_noteOf m_cost m_extra m_slotOf m_sights m_sightCopy m_sightPitch m_isFaulty 1 m_greatest m_lines m_lineCopy m_lineDay m_linePlace m_lineTold m_now) := hD
  refine lv_aload_n hx hb dX7_spans_5 rfl (lv_at hl 0 rfl) ?_
  refine lv_sipush (v := 1001) hx hb dX7_spans_6 (by decide) ?_
  refine va_put (D := D) (ci := 7) (v := .int 1001) (ty := .int) (C := RX7) (T := TX7) (N := 34) hx hb hts us_X7_spans_X7 tyX7 tyX7_ok nmX7 hown hK hP hD hS 0 rfl rfl 27 (by decide) (hts (.fieldLink RX7 179 "RollHouseModel" "greatest" "I") lk_X7_spans_1) (fun _ h9 => h9) rfl (by decide +kernel) rfl rfl (Nat.le_of_ble_eq_true rfl) dX7_spans_9 (fun H locs hP hD hS => ?_)
  have hP : va_P D vwCl (w_M cI cZ cR ad_m m_thrown m_rolls m_pitch m_first m_length m_marks m_markStep m_markTicks m_table m_order m_many m_heard m_pressed m_silents m_items m_itemPitch m_itemStep m_ends m_noteOf m_cost m_extra m_slotOf m_sights m_sightCopy m_sightPitch m_isFaulty 1 1001 m_lines m_lineCopy m_lineDay m_linePlace m_lineTold m_now) H := hP
  have hD : va_D A (w_M cI cZ cR ad_m m_thrown m_rolls m_pitch m_first m_length m_marks m_markStep m_markTicks m_table m_order m_many m_heard m_pressed m_silents m_items m_itemPitch m_itemStep m_ends m_noteOf m_cost m_extra m_slotOf m_sights m_sightCopy m_sightPitch m_isFaulty 1 1001 m_lines m_lineCopy m_lineDay m_linePlace m_lineTold m_now) := hD
  refine lv_iconst (v := 0) hx hb dX7_spans_12 (by decide) ?_
  refine lv_istore_n (lv' := [(2, .int 0), (0, .ref (ad_m 0)), (1, .int v1)]) hx hb dX7_spans_13 rfl hl (by decide) rfl (fun ls hl => ?_)
  obtain ⟨nf, h⟩ := h
  exact ml_X7_spans_14 G hK hN hA m_sights m_sightCopy m_sightPitch m_isFaulty v1 post nf 0 1 1001 h H locs hP hD hS ls (lv_sub hl [1, 2, 0] rfl)
set_option maxRecDepth 100000 in
theorem mt_X7_spans (l : Launch) (D : va_G) (cI cZ cR : ClassId) (ad_m : Nat → Nat) (sz : Nat) (m_thrown : Int32) (m_rolls : Int32) (m_pitch : Nat → Int32) (m_first : Nat → Int32) (m_length : Nat → Int32) (m_marks : Nat → Int32) (m_markStep : Nat → Int32) (m_markTicks : Nat → Int32) (m_table : Nat → Int32) (m_order : Nat → Int32) (m_many : Int32) (m_heard : Int32) (m_pressed : Int32) (m_silents : Int32) (m_items : Int32) (m_itemPitch : Nat → Int32) (m_itemStep : Nat → Int32) (m_ends : Nat → Int32) (m_noteOf : Nat → Int32) (m_cost : Int32) (m_extra : Int32) (m_slotOf : Nat → Int32) (m_sights : Int32) (m_sightCopy : Nat → Int32) (m_sightPitch : Nat → Int32) (m_isFaulty : Nat → Int32) (m_least : Int32) (m_greatest : Int32) (m_lines : Int32) (m_lineCopy : Nat → Int32) (m_lineDay : Nat → Int32) (m_linePlace : Nat → Int32) (m_lineTold : Nat → Int32) (m_now : Int32) (v1 : Int32) (post : Int32 → Int32 → Int32 → Prop) (h : wp_X7_spans m_sights m_sightCopy m_sightPitch m_isFaulty v1 m_least m_greatest post) : Met l yX7_spans wsX7_spans ({ frames := 0, cells := 0, slots := 0, locals := 0 }) (gPc D (gT cI cZ cR) (w_M cI cZ cR ad_m m_thrown m_rolls m_pitch m_first m_length m_marks m_markStep m_markTicks m_table m_order m_many m_heard m_pressed m_silents m_items m_itemPitch m_itemStep m_ends m_noteOf m_cost m_extra m_slotOf m_sights m_sightCopy m_sightPitch m_isFaulty m_least m_greatest m_lines m_lineCopy m_lineDay m_linePlace m_lineTold m_now) sz [.ref (ad_m 0), .int v1]) (va_Qi (fun (r : Int32) (u : (Int32) × (Int32)) => post r u.1 u.2) (fun u t => gB D (gT cI cZ cR) (va_A (w_M cI cZ cR ad_m m_thrown m_rolls m_pitch m_first m_length m_marks m_markStep m_markTicks m_table m_order m_many m_heard m_pressed m_silents m_items m_itemPitch m_itemStep m_ends m_noteOf m_cost m_extra m_slotOf m_sights m_sightCopy m_sightPitch m_isFaulty m_least m_greatest m_lines m_lineCopy m_lineDay m_linePlace m_lineTold m_now) sz) (w_M cI cZ cR ad_m m_thrown m_rolls m_pitch m_first m_length m_marks m_markStep m_markTicks m_table m_order m_many m_heard m_pressed m_silents m_items m_itemPitch m_itemStep m_ends m_noteOf m_cost m_extra m_slotOf m_sights m_sightCopy m_sightPitch m_isFaulty u.1 u.2 m_lines m_lineCopy m_lineDay m_linePlace m_lineTold m_now) t) (va_A (w_M cI cZ cR ad_m m_thrown m_rolls m_pitch m_first m_length m_marks m_markStep m_markTicks m_table m_order m_many m_heard m_pressed m_silents m_items m_itemPitch m_itemStep m_ends m_noteOf m_cost m_extra m_slotOf m_sights m_sightCopy m_sightPitch m_isFaulty m_least m_greatest m_lines m_lineCopy m_lineDay m_linePlace m_lineTold m_now) sz)) 0 0 (va_A (w_M cI cZ cR ad_m m_thrown m_rolls m_pitch m_first m_length m_marks m_markStep m_markTicks m_table m_order m_many m_heard m_pressed m_silents m_items m_itemPitch m_itemStep m_ends m_noteOf m_cost m_extra m_slotOf m_sights m_sightCopy m_sightPitch m_isFaulty m_least m_greatest m_lines m_lineCopy m_lineDay m_linePlace m_lineTold m_now) sz) := by
  refine gl_entry (cc := cX7_spans) (maxL := 3) (ret := (some .boolean)) (by decide) rfl (Nat.le_of_ble_eq_true rfl) ?_
  intro p e s m below meth c ls G hin hsz hK hN hP hD hl
  subst hsz
  exact ml_X7_spans_0 G hK hN (fun q h => Or.inr h) m_sights m_sightCopy m_sightPitch m_isFaulty v1 post m_least m_greatest h s.heap [] hP hD va_S.rf ls hl
theorem lk_X7_since_0 : (Cond.fieldLink RX7 71 "RollHouseModel" "thrown" "I") ∈ wsX7_since := by decide +kernel
theorem lk_X7_since_1 : (Cond.fieldLink RX7 179 "RollHouseModel" "greatest" "I") ∈ wsX7_since := by decide +kernel
theorem lk_X7_since_2 : (Cond.fieldLink RX7 176 "RollHouseModel" "least" "I") ∈ wsX7_since := by decide +kernel
theorem us_X7_since_X7 : ∀ w ∈ u_ws RX7 TX7 34, w ∈ wsX7_since := by decide +kernel
def wp_X7_since (m_sights : Int32) (m_sightCopy : Nat → Int32) (m_sightPitch : Nat → Int32) (m_isFaulty : Nat → Int32) (v1 : Int32) (v2 : Int32) (m_thrown : Int32) (m_least : Int32) (m_greatest : Int32) (post : Int32 → Int32 → Int32 → Int32 → Prop) : Prop := (wp_X7_within v1 0 23 (fun (r1 : Int32) => ((r1 = 0 → post (-1) 0 m_least m_greatest) ∧ (¬ r1 = 0 → (wp_X7_within v2 0 1 (fun (r2 : Int32) => ((r2 = 0 → post (-1) 0 m_least m_greatest) ∧ (¬ r2 = 0 → (wp_X7_spans m_sights m_sightCopy m_sightPitch m_isFaulty v1 m_least m_greatest (fun (r3 : Int32) (z4 : Int32) (z5 : Int32) => ((¬ r3 = 0 → ((¬ v2 = 0 → post z5 0 z4 z5) ∧ (v2 = 0 → post z4 0 z4 z5))) ∧ (r3 = 0 → post (-1) 0 z4 z5))))))))))))
set_option maxRecDepth 100000 in
set_option maxHeartbeats 4000000 in
theorem ml_X7_since_0 {p : Program} {l : Launch} {e : Env} {s : State} {m : MethodId} {args : Array Value} {below : List Frame} {meth : Method} {c : Code} {D : va_G} {cI cZ cR : ClassId} {A : Nat → Prop} {ad_m : Nat → Nat} {m_rolls : Int32} {m_pitch : Nat → Int32} {m_first : Nat → Int32} {m_length : Nat → Int32} {m_marks : Nat → Int32} {m_markStep : Nat → Int32} {m_markTicks : Nat → Int32} {m_table : Nat → Int32} {m_order : Nat → Int32} {m_many : Int32} {m_heard : Int32} {m_pressed : Int32} {m_silents : Int32} {m_items : Int32} {m_itemPitch : Nat → Int32} {m_itemStep : Nat → Int32} {m_ends : Nat → Int32} {m_noteOf : Nat → Int32} {m_cost : Int32} {m_extra : Int32} {m_slotOf : Nat → Int32} {m_lines : Int32} {m_lineCopy : Nat → Int32} {m_lineDay : Nat → Int32} {m_linePlace : Nat → Int32} {m_lineTold : Nat → Int32} {m_now : Int32} (G : gG p s m args meth c cX7_since (some .int) 3 RX7 wsX7_since) (hK : va_K D vwCl (gT cI cZ cR) s) (hN : va_Nw gN s) (hA : ∀ q, s.heap.size ≤ q → A q) (m_sights : Int32) (m_sightCopy : Nat → Int32) (m_sightPitch : Nat → Int32) (m_isFaulty : Nat → Int32) (v1 : Int32) (v2 : Int32) (post : Int32 → Int32 → Int32 → Int32 → Prop) (m_thrown : Int32) (m_least : Int32) (m_greatest : Int32) (h : wp_X7_since m_sights m_sightCopy m_sightPitch m_isFaulty v1 v2 m_thrown m_least m_greatest post) : ∀ (H : Heap) (locs : List Loc), va_P D vwCl (w_M cI cZ cR ad_m m_thrown m_rolls m_pitch m_first m_length m_marks m_markStep m_markTicks m_table m_order m_many m_heard m_pressed m_silents m_items m_itemPitch m_itemStep m_ends m_noteOf m_cost m_extra m_slotOf m_sights m_sightCopy m_sightPitch m_isFaulty m_least m_greatest m_lines m_lineCopy m_lineDay m_linePlace m_lineTold m_now) H → va_D A (w_M cI cZ cR ad_m m_thrown m_rolls m_pitch m_first m_length m_marks m_markStep m_markTicks m_table m_order m_many m_heard m_pressed m_silents m_items m_itemPitch m_itemStep m_ends m_noteOf m_cost m_extra m_slotOf m_sights m_sightCopy m_sightPitch m_isFaulty m_least m_greatest m_lines m_lineCopy m_lineDay m_linePlace m_lineTold m_now) → va_S A s.heap H locs → ∀ (ls : Array Slot), lv_has ls 3 [(0, .ref (ad_m 0)), (1, .int v1), (2, .int v2)] → W p l e { frames := 1, cells := 0, slots := 0, locals := 22 } s m args below meth c H locs 0 0 (MQ below (va_Qi (fun (r : Int32) (u : (Int32) × (Int32) × (Int32)) => post r u.1 u.2.1 u.2.2) (fun u t => gB D (gT cI cZ cR) A (w_M cI cZ cR ad_m u.1 m_rolls m_pitch m_first m_length m_marks m_markStep m_markTicks m_table m_order m_many m_heard m_pressed m_silents m_items m_itemPitch m_itemStep m_ends m_noteOf m_cost m_extra m_slotOf m_sights m_sightCopy m_sightPitch m_isFaulty u.2.1 u.2.2 m_lines m_lineCopy m_lineDay m_linePlace m_lineTold m_now) t) A) args s 0 0 A) (F0 m 0 ls []) := by
  obtain ⟨hx, hb, hr, hml, hown, hts, hlocks⟩ := id G
  intro H locs hP hD hS ls hl
  unfold wp_X7_since at h
  refine lv_aload_n hx hb dX7_since_0 rfl (lv_at hl 0 rfl) ?_
  refine lv_iconst (v := 0) hx hb dX7_since_1 (by decide) ?_
  refine va_put (D := D) (ci := 7) (v := .int 0) (ty := .int) (C := RX7) (T := TX7) (N := 34) hx hb hts us_X7_since_X7 tyX7 tyX7_ok nmX7 hown hK hP hD hS 0 rfl rfl 0 (by decide) (hts (.fieldLink RX7 71 "RollHouseModel" "thrown" "I") lk_X7_since_0) (fun _ h9 => h9) rfl (by decide +kernel) rfl rfl (Nat.le_of_ble_eq_true rfl) dX7_since_2 (fun H locs hP hD hS => ?_)
  have hP : va_P D vwCl (w_M cI cZ cR ad_m 0 m_rolls m_pitch m_first m_length m_marks m_markStep m_markTicks m_table m_order m_many m_heard m_pressed m_silents m_items m_itemPitch m_itemStep m_ends m_noteOf m_cost m_extra m_slotOf m_sights m_sightCopy m_sightPitch m_isFaulty m_least m_greatest m_lines m_lineCopy m_lineDay m_linePlace m_lineTold m_now) H := hP
  have hD : va_D A (w_M cI cZ cR ad_m 0 m_rolls m_pitch m_first m_length m_marks m_markStep m_markTicks m_table m_order m_many m_heard m_pressed m_silents m_items m_itemPitch m_itemStep m_ends m_noteOf m_cost m_extra m_slotOf m_sights m_sightCopy m_sightPitch m_isFaulty m_least m_greatest m_lines m_lineCopy m_lineDay m_linePlace m_lineTold m_now) := hD
  refine lv_iload_n hx hb dX7_since_5 rfl (lv_at hl 1 rfl) ?_
  refine lv_iconst (v := 0) hx hb dX7_since_6 (by decide) ?_
  refine lv_bipush (v := 23) hx hb dX7_since_7 (by decide) ?_
  refine gl_calliS (va_runS (As := [.int v1, .int 0, .int 23]) (rest := []) ⟨hx, hb, hml, hown, hts⟩ (mt_X7_within l D cI cZ cR  H.size v1 0 23 _ h) (va_cwS 3 hts gX7_since_X7_within rfl rfl rfl (by decide +kernel) ⟨Nat.le_of_ble_eq_true rfl, Nat.le_of_ble_eq_true rfl⟩) ⟨gl_blind, gl_pre gl_nilP hK hN (gl_nilD (A := A))⟩ rfl rfl hl.1 rfl (lv_room (Nat.le_of_ble_eq_true rfl)) dX7_since_9 ⟨Nat.le_of_ble_eq_true rfl, Nat.le_of_ble_eq_true rfl⟩) hP hS hA (fun r1 u H locs h hP hS => ?_)
  try dsimp only at h
  refine lv_if_eq (tgt := 32) hx hb dX7_since_12 (by decide) (fun hc => ?_) (fun hc => ?_)
  · have h := h.1 hc
    refine lv_iconst (v := (-1)) hx hb dX7_since_32 (by decide) ?_
    exact gl_ireti G hK (u := (0, m_least, m_greatest)) hP hD hS h dX7_since_33
  · have h := h.2 hc
    refine lv_iload_n hx hb dX7_since_15 rfl (lv_at hl 2 rfl) ?_
    refine lv_iconst (v := 0) hx hb dX7_since_16 (by decide) ?_
    refine lv_iconst (v := 1) hx hb dX7_since_17 (by decide) ?_
    refine gl_calliS (va_runS (As := [.int v2, .int 0, .int 1]) (rest := []) ⟨hx, hb, hml, hown, hts⟩ (mt_X7_within l D cI cZ cR  H.size v2 0 1 _ h) (va_cwS 3 hts gX7_since_X7_within rfl rfl rfl (by decide +kernel) ⟨Nat.le_of_ble_eq_true rfl, Nat.le_of_ble_eq_true rfl⟩) ⟨gl_blind, gl_pre gl_nilP hK hN (gl_nilD (A := A))⟩ rfl rfl hl.1 rfl (lv_room (Nat.le_of_ble_eq_true rfl)) dX7_since_18 ⟨Nat.le_of_ble_eq_true rfl, Nat.le_of_ble_eq_true rfl⟩) hP hS hA (fun r2 u H locs h hP hS => ?_)
    try dsimp only at h
    refine lv_if_eq (tgt := 32) hx hb dX7_since_21 (by decide) (fun hc => ?_) (fun hc => ?_)
    · have h := h.1 hc
      refine lv_iconst (v := (-1)) hx hb dX7_since_32 (by decide) ?_
      exact gl_ireti G hK (u := (0, m_least, m_greatest)) hP hD hS h dX7_since_33
    · have h := h.2 hc
      refine lv_aload_n hx hb dX7_since_24 rfl (lv_at hl 0 rfl) ?_
      refine lv_iload_n hx hb dX7_since_25 rfl (lv_at hl 1 rfl) ?_
      refine gl_calliF (va_runV (As := [.int v1]) (rest := []) ⟨hx, hb, hml, hown, hts⟩ (mt_X7_spans l D cI cZ cR ad_m H.size 0 m_rolls m_pitch m_first m_length m_marks m_markStep m_markTicks m_table m_order m_many m_heard m_pressed m_silents m_items m_itemPitch m_itemStep m_ends m_noteOf m_cost m_extra m_slotOf m_sights m_sightCopy m_sightPitch m_isFaulty m_least m_greatest m_lines m_lineCopy m_lineDay m_linePlace m_lineTold m_now v1 _ h) (cwV 1 hts gX7_since_X7_spans rfl rfl rfl (by decide +kernel) ⟨Nat.le_of_ble_eq_true rfl, Nat.le_of_ble_eq_true rfl⟩) ⟨gl_blind, va_recv hK hP (ci := 7) (q0 := 0) rfl rfl, gl_pre hP hK hN hD⟩ rfl rfl hl.1 rfl (lv_room (Nat.le_of_ble_eq_true rfl)) dX7_since_26 ⟨Nat.le_of_ble_eq_true rfl, Nat.le_of_ble_eq_true rfl⟩) hD hS hA (fun r3 u H locs h hP hD hS => ?_)
      obtain ⟨z4, z5⟩ := u
      try dsimp only at h
      have hP : va_P D vwCl (w_M cI cZ cR ad_m 0 m_rolls m_pitch m_first m_length m_marks m_markStep m_markTicks m_table m_order m_many m_heard m_pressed m_silents m_items m_itemPitch m_itemStep m_ends m_noteOf m_cost m_extra m_slotOf m_sights m_sightCopy m_sightPitch m_isFaulty z4 z5 m_lines m_lineCopy m_lineDay m_linePlace m_lineTold m_now) H := hP
      have hD : va_D A (w_M cI cZ cR ad_m 0 m_rolls m_pitch m_first m_length m_marks m_markStep m_markTicks m_table m_order m_many m_heard m_pressed m_silents m_items m_itemPitch m_itemStep m_ends m_noteOf m_cost m_extra m_slotOf m_sights m_sightCopy m_sightPitch m_isFaulty z4 z5 m_lines m_lineCopy m_lineDay m_linePlace m_lineTold m_now) := hD
      refine lv_if_ne (tgt := 34) hx hb dX7_since_29 (by decide) (fun hc => ?_) (fun hc => ?_)
      · have h := h.1 hc
        refine lv_iload_n hx hb dX7_since_34 rfl (lv_at hl 2 rfl) ?_
        refine lv_if_ne (tgt := 45) hx hb dX7_since_35 (by decide) (fun hc => ?_) (fun hc => ?_)
        · have h := h.1 hc
          refine lv_aload_n hx hb dX7_since_45 rfl (lv_at hl 0 rfl) ?_
          refine va_get (D := D) (ci := 7) (v := .int z5) (C := RX7) (T := TX7) (N := 34) hx hb hts us_X7_since_X7 hown hK hP 0 rfl rfl 27 (by decide) (hts (.fieldLink RX7 179 "RollHouseModel" "greatest" "I") lk_X7_since_1) (fun _ h9 => h9) rfl dX7_since_46 ?_
          exact gl_ireti G hK (u := (0, z4, z5)) hP hD hS h dX7_since_49
        · have h := h.2 hc
          refine lv_aload_n hx hb dX7_since_38 rfl (lv_at hl 0 rfl) ?_
          refine va_get (D := D) (ci := 7) (v := .int z4) (C := RX7) (T := TX7) (N := 34) hx hb hts us_X7_since_X7 hown hK hP 0 rfl rfl 26 (by decide) (hts (.fieldLink RX7 176 "RollHouseModel" "least" "I") lk_X7_since_2) (fun _ h9 => h9) rfl dX7_since_39 ?_
          refine lv_goto (tgt := 49) hx hb dX7_since_42 (by decide) ?_
          exact gl_ireti G hK (u := (0, z4, z5)) hP hD hS h dX7_since_49
      · have h := h.2 hc
        refine lv_iconst (v := (-1)) hx hb dX7_since_32 (by decide) ?_
        exact gl_ireti G hK (u := (0, z4, z5)) hP hD hS h dX7_since_33
set_option maxRecDepth 100000 in
theorem mt_X7_since (l : Launch) (D : va_G) (cI cZ cR : ClassId) (ad_m : Nat → Nat) (sz : Nat) (m_thrown : Int32) (m_rolls : Int32) (m_pitch : Nat → Int32) (m_first : Nat → Int32) (m_length : Nat → Int32) (m_marks : Nat → Int32) (m_markStep : Nat → Int32) (m_markTicks : Nat → Int32) (m_table : Nat → Int32) (m_order : Nat → Int32) (m_many : Int32) (m_heard : Int32) (m_pressed : Int32) (m_silents : Int32) (m_items : Int32) (m_itemPitch : Nat → Int32) (m_itemStep : Nat → Int32) (m_ends : Nat → Int32) (m_noteOf : Nat → Int32) (m_cost : Int32) (m_extra : Int32) (m_slotOf : Nat → Int32) (m_sights : Int32) (m_sightCopy : Nat → Int32) (m_sightPitch : Nat → Int32) (m_isFaulty : Nat → Int32) (m_least : Int32) (m_greatest : Int32) (m_lines : Int32) (m_lineCopy : Nat → Int32) (m_lineDay : Nat → Int32) (m_linePlace : Nat → Int32) (m_lineTold : Nat → Int32) (m_now : Int32) (v1 : Int32) (v2 : Int32) (post : Int32 → Int32 → Int32 → Int32 → Prop) (h : wp_X7_since m_sights m_sightCopy m_sightPitch m_isFaulty v1 v2 m_thrown m_least m_greatest post) : Met l yX7_since wsX7_since ({ frames := 1, cells := 0, slots := 0, locals := 22 }) (gPc D (gT cI cZ cR) (w_M cI cZ cR ad_m m_thrown m_rolls m_pitch m_first m_length m_marks m_markStep m_markTicks m_table m_order m_many m_heard m_pressed m_silents m_items m_itemPitch m_itemStep m_ends m_noteOf m_cost m_extra m_slotOf m_sights m_sightCopy m_sightPitch m_isFaulty m_least m_greatest m_lines m_lineCopy m_lineDay m_linePlace m_lineTold m_now) sz [.ref (ad_m 0), .int v1, .int v2]) (va_Qi (fun (r : Int32) (u : (Int32) × (Int32) × (Int32)) => post r u.1 u.2.1 u.2.2) (fun u t => gB D (gT cI cZ cR) (va_A (w_M cI cZ cR ad_m m_thrown m_rolls m_pitch m_first m_length m_marks m_markStep m_markTicks m_table m_order m_many m_heard m_pressed m_silents m_items m_itemPitch m_itemStep m_ends m_noteOf m_cost m_extra m_slotOf m_sights m_sightCopy m_sightPitch m_isFaulty m_least m_greatest m_lines m_lineCopy m_lineDay m_linePlace m_lineTold m_now) sz) (w_M cI cZ cR ad_m u.1 m_rolls m_pitch m_first m_length m_marks m_markStep m_markTicks m_table m_order m_many m_heard m_pressed m_silents m_items m_itemPitch m_itemStep m_ends m_noteOf m_cost m_extra m_slotOf m_sights m_sightCopy m_sightPitch m_isFaulty u.2.1 u.2.2 m_lines m_lineCopy m_lineDay m_linePlace m_lineTold m_now) t) (va_A (w_M cI cZ cR ad_m m_thrown m_rolls m_pitch m_first m_length m_marks m_markStep m_markTicks m_table m_order m_many m_heard m_pressed m_silents m_items m_itemPitch m_itemStep m_ends m_noteOf m_cost m_extra m_slotOf m_sights m_sightCopy m_sightPitch m_isFaulty m_least m_greatest m_lines m_lineCopy m_lineDay m_linePlace m_lineTold m_now) sz)) 0 0 (va_A (w_M cI cZ cR ad_m m_thrown m_rolls m_pitch m_first m_length m_marks m_markStep m_markTicks m_table m_order m_many m_heard m_pressed m_silents m_items m_itemPitch m_itemStep m_ends m_noteOf m_cost m_extra m_slotOf m_sights m_sightCopy m_sightPitch m_isFaulty m_least m_greatest m_lines m_lineCopy m_lineDay m_linePlace m_lineTold m_now) sz) := by
  refine gl_entry (cc := cX7_since) (maxL := 3) (ret := (some .int)) (by decide) rfl (Nat.le_of_ble_eq_true rfl) ?_
  intro p e s m below meth c ls G hin hsz hK hN hP hD hl
  subst hsz
  exact ml_X7_since_0 G hK hN (fun q h => Or.inr h) m_sights m_sightCopy m_sightPitch m_isFaulty v1 v2 post m_thrown m_least m_greatest h s.heap [] hP hD va_S.rf ls hl
theorem lk_X7_worn_0 : (Cond.fieldLink RX7 71 "RollHouseModel" "thrown" "I") ∈ wsX7_worn := by decide +kernel
theorem lk_X7_worn_1 : (Cond.fieldLink RX7 176 "RollHouseModel" "least" "I") ∈ wsX7_worn := by decide +kernel
theorem lk_X7_worn_2 : (Cond.fieldLink RX7 179 "RollHouseModel" "greatest" "I") ∈ wsX7_worn := by decide +kernel
theorem us_X7_worn_X7 : ∀ w ∈ u_ws RX7 TX7 34, w ∈ wsX7_worn := by decide +kernel
def wl_X7_worn_63 (m_sights : Int32) (m_sightCopy : Nat → Int32) (m_sightPitch : Nat → Int32) (m_isFaulty : Nat → Int32) (v1 : Int32) (v2 : Int32) (post : Int32 → Int32 → Int32 → Int32 → Prop) (K32 : (Int32) → (Int32) → (Int32) → (Int32) → (Int32) → Prop) (v3 : Int32) (v4 : Int32) (w0 : Int32) (m_thrown : Int32) (m_least : Int32) (m_greatest : Int32) : Prop := ((v1 < w0 → K32 v3 (v4 + 1) m_thrown m_least m_greatest) ∧ (¬ v1 < w0 → (∀ z6 : Int32, z6 = v3 ||| (1 <<< (v4 &&& 31)) → K32 z6 (v4 + 1) m_thrown m_least m_greatest)))
def wl_X7_worn_32 (m_sights : Int32) (m_sightCopy : Nat → Int32) (m_sightPitch : Nat → Int32) (m_isFaulty : Nat → Int32) (v1 : Int32) (v2 : Int32) (post : Int32 → Int32 → Int32 → Int32 → Prop) : Nat → (Int32) → (Int32) → (Int32) → (Int32) → (Int32) → Prop
  | 0, _, _, _, _, _ => False
  | fu + 1, v3, v4, m_thrown, m_least, m_greatest => ((24 ≤ v4 → post v3 m_thrown m_least m_greatest) ∧ (¬ 24 ≤ v4 → (wp_X7_spans m_sights m_sightCopy m_sightPitch m_isFaulty v4 m_least m_greatest (fun (r3 : Int32) (z4 : Int32) (z5 : Int32) => ((r3 = 0 → wl_X7_worn_32 m_sights m_sightCopy m_sightPitch m_isFaulty v1 v2 post fu v3 (v4 + 1) m_thrown z4 z5) ∧ (¬ r3 = 0 → ((¬ v2 = 0 → wl_X7_worn_63 m_sights m_sightCopy m_sightPitch m_isFaulty v1 v2 post (wl_X7_worn_32 m_sights m_sightCopy m_sightPitch m_isFaulty v1 v2 post fu) v3 v4 z4 m_thrown z4 z5) ∧ (v2 = 0 → wl_X7_worn_63 m_sights m_sightCopy m_sightPitch m_isFaulty v1 v2 post (wl_X7_worn_32 m_sights m_sightCopy m_sightPitch m_isFaulty v1 v2 post fu) v3 v4 z5 m_thrown z4 z5))))))))
def wp_X7_worn (m_sights : Int32) (m_sightCopy : Nat → Int32) (m_sightPitch : Nat → Int32) (m_isFaulty : Nat → Int32) (v1 : Int32) (v2 : Int32) (m_thrown : Int32) (m_least : Int32) (m_greatest : Int32) (post : Int32 → Int32 → Int32 → Int32 → Prop) : Prop := (wp_X7_within v1 1 1000 (fun (r1 : Int32) => ((r1 = 0 → post (-1) 0 m_least m_greatest) ∧ (¬ r1 = 0 → (wp_X7_within v2 0 1 (fun (r2 : Int32) => ((¬ r2 = 0 → (∃ n, wl_X7_worn_32 m_sights m_sightCopy m_sightPitch m_isFaulty v1 v2 post n 0 0 0 m_least m_greatest)) ∧ (r2 = 0 → post (-1) 0 m_least m_greatest))))))))
set_option maxRecDepth 100000 in
set_option maxHeartbeats 4000000 in
theorem ml_X7_worn_63 {p : Program} {l : Launch} {e : Env} {s : State} {m : MethodId} {args : Array Value} {below : List Frame} {meth : Method} {c : Code} {D : va_G} {cI cZ cR : ClassId} {A : Nat → Prop} {ad_m : Nat → Nat} {m_rolls : Int32} {m_pitch : Nat → Int32} {m_first : Nat → Int32} {m_length : Nat → Int32} {m_marks : Nat → Int32} {m_markStep : Nat → Int32} {m_markTicks : Nat → Int32} {m_table : Nat → Int32} {m_order : Nat → Int32} {m_many : Int32} {m_heard : Int32} {m_pressed : Int32} {m_silents : Int32} {m_items : Int32} {m_itemPitch : Nat → Int32} {m_itemStep : Nat → Int32} {m_ends : Nat → Int32} {m_noteOf : Nat → Int32} {m_cost : Int32} {m_extra : Int32} {m_slotOf : Nat → Int32} {m_lines : Int32} {m_lineCopy : Nat → Int32} {m_lineDay : Nat → Int32} {m_linePlace : Nat → Int32} {m_lineTold : Nat → Int32} {m_now : Int32} (G : gG p s m args meth c cX7_worn (some .int) 5 RX7 wsX7_worn) (hK : va_K D vwCl (gT cI cZ cR) s) (hN : va_Nw gN s) (hA : ∀ q, s.heap.size ≤ q → A q) (m_sights : Int32) (m_sightCopy : Nat → Int32) (m_sightPitch : Nat → Int32) (m_isFaulty : Nat → Int32) (v1 : Int32) (v2 : Int32) (post : Int32 → Int32 → Int32 → Int32 → Prop) (K32 : (Int32) → (Int32) → (Int32) → (Int32) → (Int32) → Prop) (hK32 : ∀ (v3 : Int32) (v4 : Int32) (m_thrown : Int32) (m_least : Int32) (m_greatest : Int32), K32 v3 v4 m_thrown m_least m_greatest → ∀ (H : Heap) (locs : List Loc), va_P D vwCl (w_M cI cZ cR ad_m m_thrown m_rolls m_pitch m_first m_length m_marks m_markStep m_markTicks m_table m_order m_many m_heard m_pressed m_silents m_items m_itemPitch m_itemStep m_ends m_noteOf m_cost m_extra m_slotOf m_sights m_sightCopy m_sightPitch m_isFaulty m_least m_greatest m_lines m_lineCopy m_lineDay m_linePlace m_lineTold m_now) H → va_D A (w_M cI cZ cR ad_m m_thrown m_rolls m_pitch m_first m_length m_marks m_markStep m_markTicks m_table m_order m_many m_heard m_pressed m_silents m_items m_itemPitch m_itemStep m_ends m_noteOf m_cost m_extra m_slotOf m_sights m_sightCopy m_sightPitch m_isFaulty m_least m_greatest m_lines m_lineCopy m_lineDay m_linePlace m_lineTold m_now) → va_S A s.heap H locs → ∀ (ls : Array Slot), lv_has ls 5 [(0, .ref (ad_m 0)), (1, .int v1), (2, .int v2), (3, .int v3), (4, .int v4)] → W p l e { frames := 1, cells := 0, slots := 0, locals := 22 } s m args below meth c H locs 0 0 (MQ below (va_Qi (fun (r : Int32) (u : (Int32) × (Int32) × (Int32)) => post r u.1 u.2.1 u.2.2) (fun u t => gB D (gT cI cZ cR) A (w_M cI cZ cR ad_m u.1 m_rolls m_pitch m_first m_length m_marks m_markStep m_markTicks m_table m_order m_many m_heard m_pressed m_silents m_items m_itemPitch m_itemStep m_ends m_noteOf m_cost m_extra m_slotOf m_sights m_sightCopy m_sightPitch m_isFaulty u.2.1 u.2.2 m_lines m_lineCopy m_lineDay m_linePlace m_lineTold m_now) t) A) args s 0 0 A) (F0 m 32 ls [])) (v3 : Int32) (v4 : Int32) (w0 : Int32) (m_thrown : Int32) (m_least : Int32) (m_greatest : Int32) (h : wl_X7_worn_63 m_sights m_sightCopy m_sightPitch m_isFaulty v1 v2 post K32 v3 v4 w0 m_thrown m_least m_greatest) : ∀ (H : Heap) (locs : List Loc), va_P D vwCl (w_M cI cZ cR ad_m m_thrown m_rolls m_pitch m_first m_length m_marks m_markStep m_markTicks m_table m_order m_many m_heard m_pressed m_silents m_items m_itemPitch m_itemStep m_ends m_noteOf m_cost m_extra m_slotOf m_sights m_sightCopy m_sightPitch m_isFaulty m_least m_greatest m_lines m_lineCopy m_lineDay m_linePlace m_lineTold m_now) H → va_D A (w_M cI cZ cR ad_m m_thrown m_rolls m_pitch m_first m_length m_marks m_markStep m_markTicks m_table m_order m_many m_heard m_pressed m_silents m_items m_itemPitch m_itemStep m_ends m_noteOf m_cost m_extra m_slotOf m_sights m_sightCopy m_sightPitch m_isFaulty m_least m_greatest m_lines m_lineCopy m_lineDay m_linePlace m_lineTold m_now) → va_S A s.heap H locs → ∀ (ls : Array Slot), lv_has ls 5 [(0, .ref (ad_m 0)), (1, .int v1), (2, .int v2), (3, .int v3), (4, .int v4)] → W p l e { frames := 1, cells := 0, slots := 0, locals := 22 } s m args below meth c H locs 0 0 (MQ below (va_Qi (fun (r : Int32) (u : (Int32) × (Int32) × (Int32)) => post r u.1 u.2.1 u.2.2) (fun u t => gB D (gT cI cZ cR) A (w_M cI cZ cR ad_m u.1 m_rolls m_pitch m_first m_length m_marks m_markStep m_markTicks m_table m_order m_many m_heard m_pressed m_silents m_items m_itemPitch m_itemStep m_ends m_noteOf m_cost m_extra m_slotOf m_sights m_sightCopy m_sightPitch m_isFaulty u.2.1 u.2.2 m_lines m_lineCopy m_lineDay m_linePlace m_lineTold m_now) t) A) args s 0 0 A) (F0 m 63 ls [.int w0]) := by
  obtain ⟨hx, hb, hr, hml, hown, hts, hlocks⟩ := id G
  intro H locs hP hD hS ls hl
  unfold wl_X7_worn_63 at h
  refine lv_iload_n hx hb dX7_worn_63 rfl (lv_at hl 1 rfl) ?_
  refine lv_icmp_gt (tgt := 74) hx hb dX7_worn_64 (by decide) (fun hc => ?_) (fun hc => ?_)
  · have h := h.1 hc
    refine lv_iinc (v := v4 + 1) (lv' := [(4, .int (v4 + 1)), (0, .ref (ad_m 0)), (1, .int v1), (2, .int v2), (3, .int v3)]) hx hb dX7_worn_74 hl (k := 4) rfl rfl (by decide) rfl (fun ls hl => ?_)
    refine lv_goto (tgt := 32) hx hb dX7_worn_77 (by decide) ?_
    exact hK32 v3 (v4 + 1) m_thrown m_least m_greatest h H locs hP hD hS ls (lv_sub hl [1, 2, 3, 4, 0] rfl)
  · have h := h.2 hc
    refine lv_iload_n hx hb dX7_worn_67 rfl (lv_at hl 3 rfl) ?_
    refine lv_iconst (v := 1) hx hb dX7_worn_68 (by decide) ?_
    refine lv_iload hx hb dX7_worn_69 (lv_at hl 4 rfl) ?_
    refine lv_ishl hx hb dX7_worn_71 ?_
    refine lv_ior hx hb dX7_worn_72 ?_
    refine lv_topi (fun z6 ez6 => ?_)
    have h := h z6 ez6
    refine lv_istore_n (lv' := [(3, .int z6), (0, .ref (ad_m 0)), (1, .int v1), (2, .int v2), (4, .int v4)]) hx hb dX7_worn_73 rfl hl (by decide) rfl (fun ls hl => ?_)
    refine lv_iinc (v := v4 + 1) (lv' := [(4, .int (v4 + 1)), (3, .int z6), (0, .ref (ad_m 0)), (1, .int v1), (2, .int v2)]) hx hb dX7_worn_74 hl (k := 4) rfl rfl (by decide) rfl (fun ls hl => ?_)
    refine lv_goto (tgt := 32) hx hb dX7_worn_77 (by decide) ?_
    exact hK32 z6 (v4 + 1) m_thrown m_least m_greatest h H locs hP hD hS ls (lv_sub hl [2, 3, 4, 1, 0] rfl)
set_option maxRecDepth 100000 in
set_option maxHeartbeats 4000000 in
theorem ml_X7_worn_32 {p : Program} {l : Launch} {e : Env} {s : State} {m : MethodId} {args : Array Value} {below : List Frame} {meth : Method} {c : Code} {D : va_G} {cI cZ cR : ClassId} {A : Nat → Prop} {ad_m : Nat → Nat} {m_rolls : Int32} {m_pitch : Nat → Int32} {m_first : Nat → Int32} {m_length : Nat → Int32} {m_marks : Nat → Int32} {m_markStep : Nat → Int32} {m_markTicks : Nat → Int32} {m_table : Nat → Int32} {m_order : Nat → Int32} {m_many : Int32} {m_heard : Int32} {m_pressed : Int32} {m_silents : Int32} {m_items : Int32} {m_itemPitch : Nat → Int32} {m_itemStep : Nat → Int32} {m_ends : Nat → Int32} {m_noteOf : Nat → Int32} {m_cost : Int32} {m_extra : Int32} {m_slotOf : Nat → Int32} {m_lines : Int32} {m_lineCopy : Nat → Int32} {m_lineDay : Nat → Int32} {m_linePlace : Nat → Int32} {m_lineTold : Nat → Int32} {m_now : Int32} (G : gG p s m args meth c cX7_worn (some .int) 5 RX7 wsX7_worn) (hK : va_K D vwCl (gT cI cZ cR) s) (hN : va_Nw gN s) (hA : ∀ q, s.heap.size ≤ q → A q) (m_sights : Int32) (m_sightCopy : Nat → Int32) (m_sightPitch : Nat → Int32) (m_isFaulty : Nat → Int32) (v1 : Int32) (v2 : Int32) (post : Int32 → Int32 → Int32 → Int32 → Prop) : ∀ (fu : Nat) (v3 : Int32) (v4 : Int32) (m_thrown : Int32) (m_least : Int32) (m_greatest : Int32), wl_X7_worn_32 m_sights m_sightCopy m_sightPitch m_isFaulty v1 v2 post fu v3 v4 m_thrown m_least m_greatest → ∀ (H : Heap) (locs : List Loc), va_P D vwCl (w_M cI cZ cR ad_m m_thrown m_rolls m_pitch m_first m_length m_marks m_markStep m_markTicks m_table m_order m_many m_heard m_pressed m_silents m_items m_itemPitch m_itemStep m_ends m_noteOf m_cost m_extra m_slotOf m_sights m_sightCopy m_sightPitch m_isFaulty m_least m_greatest m_lines m_lineCopy m_lineDay m_linePlace m_lineTold m_now) H → va_D A (w_M cI cZ cR ad_m m_thrown m_rolls m_pitch m_first m_length m_marks m_markStep m_markTicks m_table m_order m_many m_heard m_pressed m_silents m_items m_itemPitch m_itemStep m_ends m_noteOf m_cost m_extra m_slotOf m_sights m_sightCopy m_sightPitch m_isFaulty m_least m_greatest m_lines m_lineCopy m_lineDay m_linePlace m_lineTold m_now) → va_S A s.heap H locs → ∀ (ls : Array Slot), lv_has ls 5 [(0, .ref (ad_m 0)), (1, .int v1), (2, .int v2), (3, .int v3), (4, .int v4)] → W p l e { frames := 1, cells := 0, slots := 0, locals := 22 } s m args below meth c H locs 0 0 (MQ below (va_Qi (fun (r : Int32) (u : (Int32) × (Int32) × (Int32)) => post r u.1 u.2.1 u.2.2) (fun u t => gB D (gT cI cZ cR) A (w_M cI cZ cR ad_m u.1 m_rolls m_pitch m_first m_length m_marks m_markStep m_markTicks m_table m_order m_many m_heard m_pressed m_silents m_items m_itemPitch m_itemStep m_ends m_noteOf m_cost m_extra m_slotOf m_sights m_sightCopy m_sightPitch m_isFaulty u.2.1 u.2.2 m_lines m_lineCopy m_lineDay m_linePlace m_lineTold m_now) t) A) args s 0 0 A) (F0 m 32 ls []) := by
  obtain ⟨hx, hb, hr, hml, hown, hts, hlocks⟩ := id G
  intro fu
  induction fu with
  | zero =>
    intro v3 v4 m_thrown m_least m_greatest h
    exact h.elim
  | succ fu ih =>
    intro v3 v4 m_thrown m_least m_greatest h H locs hP hD hS ls hl
    rw [wl_X7_worn_32] at h
    refine lv_iload hx hb dX7_worn_32 (lv_at hl 4 rfl) ?_
    refine lv_bipush (v := 24) hx hb dX7_worn_34 (by decide) ?_
    refine lv_icmp_ge (tgt := 80) hx hb dX7_worn_36 (by decide) (fun hc => ?_) (fun hc => ?_)
    · have h := h.1 hc
      refine lv_iload_n hx hb dX7_worn_80 rfl (lv_at hl 3 rfl) ?_
      exact gl_ireti G hK (u := (m_thrown, m_least, m_greatest)) hP hD hS h dX7_worn_81
    · have h := h.2 hc
      refine lv_aload_n hx hb dX7_worn_39 rfl (lv_at hl 0 rfl) ?_
      refine lv_iload hx hb dX7_worn_40 (lv_at hl 4 rfl) ?_
      refine gl_calliF (va_runV (As := [.int v4]) (rest := []) ⟨hx, hb, hml, hown, hts⟩ (mt_X7_spans l D cI cZ cR ad_m H.size m_thrown m_rolls m_pitch m_first m_length m_marks m_markStep m_markTicks m_table m_order m_many m_heard m_pressed m_silents m_items m_itemPitch m_itemStep m_ends m_noteOf m_cost m_extra m_slotOf m_sights m_sightCopy m_sightPitch m_isFaulty m_least m_greatest m_lines m_lineCopy m_lineDay m_linePlace m_lineTold m_now v4 _ h) (cwV 1 hts gX7_worn_X7_spans rfl rfl rfl (by decide +kernel) ⟨Nat.le_of_ble_eq_true rfl, Nat.le_of_ble_eq_true rfl⟩) ⟨gl_blind, va_recv hK hP (ci := 7) (q0 := 0) rfl rfl, gl_pre hP hK hN hD⟩ rfl rfl hl.1 rfl (lv_room (Nat.le_of_ble_eq_true rfl)) dX7_worn_42 ⟨Nat.le_of_ble_eq_true rfl, Nat.le_of_ble_eq_true rfl⟩) hD hS hA (fun r3 u H locs h hP hD hS => ?_)
      obtain ⟨z4, z5⟩ := u
      try dsimp only at h
      have hP : va_P D vwCl (w_M cI cZ cR ad_m m_thrown m_rolls m_pitch m_first m_length m_marks m_markStep m_markTicks m_table m_order m_many m_heard m_pressed m_silents m_items m_itemPitch m_itemStep m_ends m_noteOf m_cost m_extra m_slotOf m_sights m_sightCopy m_sightPitch m_isFaulty z4 z5 m_lines m_lineCopy m_lineDay m_linePlace m_lineTold m_now) H := hP
      have hD : va_D A (w_M cI cZ cR ad_m m_thrown m_rolls m_pitch m_first m_length m_marks m_markStep m_markTicks m_table m_order m_many m_heard m_pressed m_silents m_items m_itemPitch m_itemStep m_ends m_noteOf m_cost m_extra m_slotOf m_sights m_sightCopy m_sightPitch m_isFaulty z4 z5 m_lines m_lineCopy m_lineDay m_linePlace m_lineTold m_now) := hD
      refine lv_if_eq (tgt := 74) hx hb dX7_worn_45 (by decide) (fun hc => ?_) (fun hc => ?_)
      · have h := h.1 hc
        refine lv_iinc (v := v4 + 1) (lv' := [(4, .int (v4 + 1)), (0, .ref (ad_m 0)), (1, .int v1), (2, .int v2), (3, .int v3)]) hx hb dX7_worn_74 hl (k := 4) rfl rfl (by decide) rfl (fun ls hl => ?_)
        refine lv_goto (tgt := 32) hx hb dX7_worn_77 (by decide) ?_
        exact ih v3 (v4 + 1) m_thrown z4 z5 h H locs hP hD hS ls (lv_sub hl [1, 2, 3, 4, 0] rfl)
      · have h := h.2 hc
        refine lv_iload_n hx hb dX7_worn_48 rfl (lv_at hl 2 rfl) ?_
        refine lv_if_ne (tgt := 59) hx hb dX7_worn_49 (by decide) (fun hc => ?_) (fun hc => ?_)
        · have h := h.1 hc
          refine lv_aload_n hx hb dX7_worn_59 rfl (lv_at hl 0 rfl) ?_
          refine va_get (D := D) (ci := 7) (v := .int z4) (C := RX7) (T := TX7) (N := 34) hx hb hts us_X7_worn_X7 hown hK hP 0 rfl rfl 26 (by decide) (hts (.fieldLink RX7 176 "RollHouseModel" "least" "I") lk_X7_worn_1) (fun _ h9 => h9) rfl dX7_worn_60 ?_
          exact ml_X7_worn_63 G hK hN hA m_sights m_sightCopy m_sightPitch m_isFaulty v1 v2 post (wl_X7_worn_32 m_sights m_sightCopy m_sightPitch m_isFaulty v1 v2 post fu) ih v3 v4 z4 m_thrown z4 z5 h H locs hP hD hS ls (lv_sub hl [0, 1, 2, 3, 4] rfl)
        · have h := h.2 hc
          refine lv_aload_n hx hb dX7_worn_52 rfl (lv_at hl 0 rfl) ?_
          refine va_get (D := D) (ci := 7) (v := .int z5) (C := RX7) (T := TX7) (N := 34) hx hb hts us_X7_worn_X7 hown hK hP 0 rfl rfl 27 (by decide) (hts (.fieldLink RX7 179 "RollHouseModel" "greatest" "I") lk_X7_worn_2) (fun _ h9 => h9) rfl dX7_worn_53 ?_
          refine lv_goto (tgt := 63) hx hb dX7_worn_56 (by decide) ?_
          exact ml_X7_worn_63 G hK hN hA m_sights m_sightCopy m_sightPitch m_isFaulty v1 v2 post (wl_X7_worn_32 m_sights m_sightCopy m_sightPitch m_isFaulty v1 v2 post fu) ih v3 v4 z5 m_thrown z4 z5 h H locs hP hD hS ls (lv_sub hl [0, 1, 2, 3, 4] rfl)
set_option maxRecDepth 100000 in
set_option maxHeartbeats 4000000 in
theorem ml_X7_worn_0 {p : Program} {l : Launch} {e : Env} {s : State} {m : MethodId} {args : Array Value} {below : List Frame} {meth : Method} {c : Code} {D : va_G} {cI cZ cR : ClassId} {A : Nat → Prop} {ad_m : Nat → Nat} {m_rolls : Int32} {m_pitch : Nat → Int32} {m_first : Nat → Int32} {m_length : Nat → Int32} {m_marks : Nat → Int32} {m_markStep : Nat → Int32} {m_markTicks : Nat → Int32} {m_table : Nat → Int32} {m_order : Nat → Int32} {m_many : Int32} {m_heard : Int32} {m_pressed : Int32} {m_silents : Int32} {m_items : Int32} {m_itemPitch : Nat → Int32} {m_itemStep : Nat → Int32} {m_ends : Nat → Int32} {m_noteOf : Nat → Int32} {m_cost : Int32} {m_extra : Int32} {m_slotOf : Nat → Int32} {m_lines : Int32} {m_lineCopy : Nat → Int32} {m_lineDay : Nat → Int32} {m_linePlace : Nat → Int32} {m_lineTold : Nat → Int32} {m_now : Int32} (G : gG p s m args meth c cX7_worn (some .int) 5 RX7 wsX7_worn) (hK : va_K D vwCl (gT cI cZ cR) s) (hN : va_Nw gN s) (hA : ∀ q, s.heap.size ≤ q → A q) (m_sights : Int32) (m_sightCopy : Nat → Int32) (m_sightPitch : Nat → Int32) (m_isFaulty : Nat → Int32) (v1 : Int32) (v2 : Int32) (post : Int32 → Int32 → Int32 → Int32 → Prop) (m_thrown : Int32) (m_least : Int32) (m_greatest : Int32) (h : wp_X7_worn m_sights m_sightCopy m_sightPitch m_isFaulty v1 v2 m_thrown m_least m_greatest post) : ∀ (H : Heap) (locs : List Loc), va_P D vwCl (w_M cI cZ cR ad_m m_thrown m_rolls m_pitch m_first m_length m_marks m_markStep m_markTicks m_table m_order m_many m_heard m_pressed m_silents m_items m_itemPitch m_itemStep m_ends m_noteOf m_cost m_extra m_slotOf m_sights m_sightCopy m_sightPitch m_isFaulty m_least m_greatest m_lines m_lineCopy m_lineDay m_linePlace m_lineTold m_now) H → va_D A (w_M cI cZ cR ad_m m_thrown m_rolls m_pitch m_first m_length m_marks m_markStep m_markTicks m_table m_order m_many m_heard m_pressed m_silents m_items m_itemPitch m_itemStep m_ends m_noteOf m_cost m_extra m_slotOf m_sights m_sightCopy m_sightPitch m_isFaulty m_least m_greatest m_lines m_lineCopy m_lineDay m_linePlace m_lineTold m_now) → va_S A s.heap H locs → ∀ (ls : Array Slot), lv_has ls 5 [(0, .ref (ad_m 0)), (1, .int v1), (2, .int v2)] → W p l e { frames := 1, cells := 0, slots := 0, locals := 22 } s m args below meth c H locs 0 0 (MQ below (va_Qi (fun (r : Int32) (u : (Int32) × (Int32) × (Int32)) => post r u.1 u.2.1 u.2.2) (fun u t => gB D (gT cI cZ cR) A (w_M cI cZ cR ad_m u.1 m_rolls m_pitch m_first m_length m_marks m_markStep m_markTicks m_table m_order m_many m_heard m_pressed m_silents m_items m_itemPitch m_itemStep m_ends m_noteOf m_cost m_extra m_slotOf m_sights m_sightCopy m_sightPitch m_isFaulty u.2.1 u.2.2 m_lines m_lineCopy m_lineDay m_linePlace m_lineTold m_now) t) A) args s 0 0 A) (F0 m 0 ls []) := by
  obtain ⟨hx, hb, hr, hml, hown, hts, hlocks⟩ := id G
  intro H locs hP hD hS ls hl
  unfold wp_X7_worn at h
  refine lv_aload_n hx hb dX7_worn_0 rfl (lv_at hl 0 rfl) ?_
  refine lv_iconst (v := 0) hx hb dX7_worn_1 (by decide) ?_
  refine va_put (D := D) (ci := 7) (v := .int 0) (ty := .int) (C := RX7) (T := TX7) (N := 34) hx hb hts us_X7_worn_X7 tyX7 tyX7_ok nmX7 hown hK hP hD hS 0 rfl rfl 0 (by decide) (hts (.fieldLink RX7 71 "RollHouseModel" "thrown" "I") lk_X7_worn_0) (fun _ h9 => h9) rfl (by decide +kernel) rfl rfl (Nat.le_of_ble_eq_true rfl) dX7_worn_2 (fun H locs hP hD hS => ?_)
  have hP : va_P D vwCl (w_M cI cZ cR ad_m 0 m_rolls m_pitch m_first m_length m_marks m_markStep m_markTicks m_table m_order m_many m_heard m_pressed m_silents m_items m_itemPitch m_itemStep m_ends m_noteOf m_cost m_extra m_slotOf m_sights m_sightCopy m_sightPitch m_isFaulty m_least m_greatest m_lines m_lineCopy m_lineDay m_linePlace m_lineTold m_now) H := hP
  have hD : va_D A (w_M cI cZ cR ad_m 0 m_rolls m_pitch m_first m_length m_marks m_markStep m_markTicks m_table m_order m_many m_heard m_pressed m_silents m_items m_itemPitch m_itemStep m_ends m_noteOf m_cost m_extra m_slotOf m_sights m_sightCopy m_sightPitch m_isFaulty m_least m_greatest m_lines m_lineCopy m_lineDay m_linePlace m_lineTold m_now) := hD
  refine lv_iload_n hx hb dX7_worn_5 rfl (lv_at hl 1 rfl) ?_
  refine lv_iconst (v := 1) hx hb dX7_worn_6 (by decide) ?_
  refine lv_sipush (v := 1000) hx hb dX7_worn_7 (by decide) ?_
  refine gl_calliS (va_runS (As := [.int v1, .int 1, .int 1000]) (rest := []) ⟨hx, hb, hml, hown, hts⟩ (mt_X7_within l D cI cZ cR  H.size v1 1 1000 _ h) (va_cwS 3 hts gX7_worn_X7_within rfl rfl rfl (by decide +kernel) ⟨Nat.le_of_ble_eq_true rfl, Nat.le_of_ble_eq_true rfl⟩) ⟨gl_blind, gl_pre gl_nilP hK hN (gl_nilD (A := A))⟩ rfl rfl hl.1 rfl (lv_room (Nat.le_of_ble_eq_true rfl)) dX7_worn_10 ⟨Nat.le_of_ble_eq_true rfl, Nat.le_of_ble_eq_true rfl⟩) hP hS hA (fun r1 u H locs h hP hS => ?_)
  try dsimp only at h
  refine lv_if_eq (tgt := 25) hx hb dX7_worn_13 (by decide) (fun hc => ?_) (fun hc => ?_)
  · have h := h.1 hc
    refine lv_iconst (v := (-1)) hx hb dX7_worn_25 (by decide) ?_
    exact gl_ireti G hK (u := (0, m_least, m_greatest)) hP hD hS h dX7_worn_26
  · have h := h.2 hc
    refine lv_iload_n hx hb dX7_worn_16 rfl (lv_at hl 2 rfl) ?_
    refine lv_iconst (v := 0) hx hb dX7_worn_17 (by decide) ?_
    refine lv_iconst (v := 1) hx hb dX7_worn_18 (by decide) ?_
    refine gl_calliS (va_runS (As := [.int v2, .int 0, .int 1]) (rest := []) ⟨hx, hb, hml, hown, hts⟩ (mt_X7_within l D cI cZ cR  H.size v2 0 1 _ h) (va_cwS 3 hts gX7_worn_X7_within rfl rfl rfl (by decide +kernel) ⟨Nat.le_of_ble_eq_true rfl, Nat.le_of_ble_eq_true rfl⟩) ⟨gl_blind, gl_pre gl_nilP hK hN (gl_nilD (A := A))⟩ rfl rfl hl.1 rfl (lv_room (Nat.le_of_ble_eq_true rfl)) dX7_worn_19 ⟨Nat.le_of_ble_eq_true rfl, Nat.le_of_ble_eq_true rfl⟩) hP hS hA (fun r2 u H locs h hP hS => ?_)
    try dsimp only at h
    refine lv_if_ne (tgt := 27) hx hb dX7_worn_22 (by decide) (fun hc => ?_) (fun hc => ?_)
    · have h := h.1 hc
      refine lv_iconst (v := 0) hx hb dX7_worn_27 (by decide) ?_
      refine lv_istore_n (lv' := [(3, .int 0), (0, .ref (ad_m 0)), (1, .int v1), (2, .int v2)]) hx hb dX7_worn_28 rfl hl (by decide) rfl (fun ls hl => ?_)
      refine lv_iconst (v := 0) hx hb dX7_worn_29 (by decide) ?_
      refine lv_istore (lv' := [(4, .int 0), (3, .int 0), (0, .ref (ad_m 0)), (1, .int v1), (2, .int v2)]) hx hb dX7_worn_30 hl (by decide) rfl (fun ls hl => ?_)
      obtain ⟨nf, h⟩ := h
      exact ml_X7_worn_32 G hK hN hA m_sights m_sightCopy m_sightPitch m_isFaulty v1 v2 post nf 0 0 0 m_least m_greatest h H locs hP hD hS ls (lv_sub hl [2, 3, 4, 1, 0] rfl)
    · have h := h.2 hc
      refine lv_iconst (v := (-1)) hx hb dX7_worn_25 (by decide) ?_
      exact gl_ireti G hK (u := (0, m_least, m_greatest)) hP hD hS h dX7_worn_26
set_option maxRecDepth 100000 in
theorem mt_X7_worn (l : Launch) (D : va_G) (cI cZ cR : ClassId) (ad_m : Nat → Nat) (sz : Nat) (m_thrown : Int32) (m_rolls : Int32) (m_pitch : Nat → Int32) (m_first : Nat → Int32) (m_length : Nat → Int32) (m_marks : Nat → Int32) (m_markStep : Nat → Int32) (m_markTicks : Nat → Int32) (m_table : Nat → Int32) (m_order : Nat → Int32) (m_many : Int32) (m_heard : Int32) (m_pressed : Int32) (m_silents : Int32) (m_items : Int32) (m_itemPitch : Nat → Int32) (m_itemStep : Nat → Int32) (m_ends : Nat → Int32) (m_noteOf : Nat → Int32) (m_cost : Int32) (m_extra : Int32) (m_slotOf : Nat → Int32) (m_sights : Int32) (m_sightCopy : Nat → Int32) (m_sightPitch : Nat → Int32) (m_isFaulty : Nat → Int32) (m_least : Int32) (m_greatest : Int32) (m_lines : Int32) (m_lineCopy : Nat → Int32) (m_lineDay : Nat → Int32) (m_linePlace : Nat → Int32) (m_lineTold : Nat → Int32) (m_now : Int32) (v1 : Int32) (v2 : Int32) (post : Int32 → Int32 → Int32 → Int32 → Prop) (h : wp_X7_worn m_sights m_sightCopy m_sightPitch m_isFaulty v1 v2 m_thrown m_least m_greatest post) : Met l yX7_worn wsX7_worn ({ frames := 1, cells := 0, slots := 0, locals := 22 }) (gPc D (gT cI cZ cR) (w_M cI cZ cR ad_m m_thrown m_rolls m_pitch m_first m_length m_marks m_markStep m_markTicks m_table m_order m_many m_heard m_pressed m_silents m_items m_itemPitch m_itemStep m_ends m_noteOf m_cost m_extra m_slotOf m_sights m_sightCopy m_sightPitch m_isFaulty m_least m_greatest m_lines m_lineCopy m_lineDay m_linePlace m_lineTold m_now) sz [.ref (ad_m 0), .int v1, .int v2]) (va_Qi (fun (r : Int32) (u : (Int32) × (Int32) × (Int32)) => post r u.1 u.2.1 u.2.2) (fun u t => gB D (gT cI cZ cR) (va_A (w_M cI cZ cR ad_m m_thrown m_rolls m_pitch m_first m_length m_marks m_markStep m_markTicks m_table m_order m_many m_heard m_pressed m_silents m_items m_itemPitch m_itemStep m_ends m_noteOf m_cost m_extra m_slotOf m_sights m_sightCopy m_sightPitch m_isFaulty m_least m_greatest m_lines m_lineCopy m_lineDay m_linePlace m_lineTold m_now) sz) (w_M cI cZ cR ad_m u.1 m_rolls m_pitch m_first m_length m_marks m_markStep m_markTicks m_table m_order m_many m_heard m_pressed m_silents m_items m_itemPitch m_itemStep m_ends m_noteOf m_cost m_extra m_slotOf m_sights m_sightCopy m_sightPitch m_isFaulty u.2.1 u.2.2 m_lines m_lineCopy m_lineDay m_linePlace m_lineTold m_now) t) (va_A (w_M cI cZ cR ad_m m_thrown m_rolls m_pitch m_first m_length m_marks m_markStep m_markTicks m_table m_order m_many m_heard m_pressed m_silents m_items m_itemPitch m_itemStep m_ends m_noteOf m_cost m_extra m_slotOf m_sights m_sightCopy m_sightPitch m_isFaulty m_least m_greatest m_lines m_lineCopy m_lineDay m_linePlace m_lineTold m_now) sz)) 0 0 (va_A (w_M cI cZ cR ad_m m_thrown m_rolls m_pitch m_first m_length m_marks m_markStep m_markTicks m_table m_order m_many m_heard m_pressed m_silents m_items m_itemPitch m_itemStep m_ends m_noteOf m_cost m_extra m_slotOf m_sights m_sightCopy m_sightPitch m_isFaulty m_least m_greatest m_lines m_lineCopy m_lineDay m_linePlace m_lineTold m_now) sz) := by
  refine gl_entry (cc := cX7_worn) (maxL := 5) (ret := (some .int)) (by decide) rfl (Nat.le_of_ble_eq_true rfl) ?_
  intro p e s m below meth c ls G hin hsz hK hN hP hD hl
  subst hsz
  exact ml_X7_worn_0 G hK hN (fun q h => Or.inr h) m_sights m_sightCopy m_sightPitch m_isFaulty v1 v2 post m_thrown m_least m_greatest h s.heap [] hP hD va_S.rf ls hl
theorem lk_X7_line_0 : (Cond.fieldLink RX7 71 "RollHouseModel" "thrown" "I") ∈ wsX7_line := by decide +kernel
theorem lk_X7_line_1 : (Cond.constant RX7 185 (100000)) ∈ wsX7_line := by decide +kernel
theorem lk_X7_line_2 : (Cond.fieldLink RX7 186 "RollHouseModel" "lines" "I") ∈ wsX7_line := by decide +kernel
theorem lk_X7_line_3 : (Cond.fieldLink RX7 59 "RollHouseModel" "lineCopy" "[I") ∈ wsX7_line := by decide +kernel
theorem lk_X7_line_4 : (Cond.fieldLink RX7 62 "RollHouseModel" "lineDay" "[I") ∈ wsX7_line := by decide +kernel
theorem lk_X7_line_5 : (Cond.fieldLink RX7 65 "RollHouseModel" "linePlace" "[I") ∈ wsX7_line := by decide +kernel
theorem lk_X7_line_6 : (Cond.fieldLink RX7 68 "RollHouseModel" "lineTold" "[I") ∈ wsX7_line := by decide +kernel
theorem lk_X7_line_7 : (Cond.fieldLink RX7 189 "RollHouseModel" "now" "I") ∈ wsX7_line := by decide +kernel
theorem us_X7_line_X7 : ∀ w ∈ u_ws RX7 TX7 34, w ∈ wsX7_line := by decide +kernel
def wp_X7_line (m_now : Int32) (v1 : Int32) (v2 : Int32) (v3 : Int32) (m_thrown : Int32) (m_lines : Int32) (m_lineCopy : Nat → Int32) (m_lineDay : Nat → Int32) (m_linePlace : Nat → Int32) (m_lineTold : Nat → Int32) (post : Int32 → Int32 → Int32 → (Nat → Int32) → (Nat → Int32) → (Nat → Int32) → (Nat → Int32) → Prop) : Prop := (wp_X7_within v1 1 1000 (fun (r1 : Int32) => ((r1 = 0 → post (-1) 0 m_lines m_lineCopy m_lineDay m_linePlace m_lineTold) ∧ (¬ r1 = 0 → (wp_X7_within v2 0 100000 (fun (r2 : Int32) => ((r2 = 0 → post (-1) 0 m_lines m_lineCopy m_lineDay m_linePlace m_lineTold) ∧ (¬ r2 = 0 → (wp_X7_within v3 0 99 (fun (r3 : Int32) => ((r3 = 0 → post (-1) 0 m_lines m_lineCopy m_lineDay m_linePlace m_lineTold) ∧ (¬ r3 = 0 → ((¬ m_lines = 200 → (vp_in m_lines 200 ∧ (∀ a4 : Nat → Int32, a4 = upd m_lineCopy m_lines.toNatClampNeg v1 → (vp_in m_lines 200 ∧ (∀ a5 : Nat → Int32, a5 = upd m_lineDay m_lines.toNatClampNeg v2 → (vp_in m_lines 200 ∧ (∀ a6 : Nat → Int32, a6 = upd m_linePlace m_lines.toNatClampNeg v3 → (vp_in m_lines 200 ∧ (∀ a7 : Nat → Int32, a7 = upd m_lineTold m_lines.toNatClampNeg m_now → post (m_lines + 1) 0 (m_lines + 1) a4 a5 a6 a7))))))))) ∧ (m_lines = 200 → post (-1) 0 m_lines m_lineCopy m_lineDay m_linePlace m_lineTold))))))))))))))
set_option maxRecDepth 100000 in
set_option maxHeartbeats 4000000 in
theorem ml_X7_line_0 {p : Program} {l : Launch} {e : Env} {s : State} {m : MethodId} {args : Array Value} {below : List Frame} {meth : Method} {c : Code} {D : va_G} {cI cZ cR : ClassId} {A : Nat → Prop} {ad_m : Nat → Nat} {m_rolls : Int32} {m_pitch : Nat → Int32} {m_first : Nat → Int32} {m_length : Nat → Int32} {m_marks : Nat → Int32} {m_markStep : Nat → Int32} {m_markTicks : Nat → Int32} {m_table : Nat → Int32} {m_order : Nat → Int32} {m_many : Int32} {m_heard : Int32} {m_pressed : Int32} {m_silents : Int32} {m_items : Int32} {m_itemPitch : Nat → Int32} {m_itemStep : Nat → Int32} {m_ends : Nat → Int32} {m_noteOf : Nat → Int32} {m_cost : Int32} {m_extra : Int32} {m_slotOf : Nat → Int32} {m_sights : Int32} {m_sightCopy : Nat → Int32} {m_sightPitch : Nat → Int32} {m_isFaulty : Nat → Int32} {m_least : Int32} {m_greatest : Int32} (G : gG p s m args meth c cX7_line (some .int) 4 RX7 wsX7_line) (hK : va_K D vwCl (gT cI cZ cR) s) (hN : va_Nw gN s) (hA : ∀ q, s.heap.size ≤ q → A q) (m_now : Int32) (v1 : Int32) (v2 : Int32) (v3 : Int32) (post : Int32 → Int32 → Int32 → (Nat → Int32) → (Nat → Int32) → (Nat → Int32) → (Nat → Int32) → Prop) (m_thrown : Int32) (m_lines : Int32) (m_lineCopy : Nat → Int32) (m_lineDay : Nat → Int32) (m_linePlace : Nat → Int32) (m_lineTold : Nat → Int32) (h : wp_X7_line m_now v1 v2 v3 m_thrown m_lines m_lineCopy m_lineDay m_linePlace m_lineTold post) : ∀ (H : Heap) (locs : List Loc), va_P D vwCl (w_M cI cZ cR ad_m m_thrown m_rolls m_pitch m_first m_length m_marks m_markStep m_markTicks m_table m_order m_many m_heard m_pressed m_silents m_items m_itemPitch m_itemStep m_ends m_noteOf m_cost m_extra m_slotOf m_sights m_sightCopy m_sightPitch m_isFaulty m_least m_greatest m_lines m_lineCopy m_lineDay m_linePlace m_lineTold m_now) H → va_D A (w_M cI cZ cR ad_m m_thrown m_rolls m_pitch m_first m_length m_marks m_markStep m_markTicks m_table m_order m_many m_heard m_pressed m_silents m_items m_itemPitch m_itemStep m_ends m_noteOf m_cost m_extra m_slotOf m_sights m_sightCopy m_sightPitch m_isFaulty m_least m_greatest m_lines m_lineCopy m_lineDay m_linePlace m_lineTold m_now) → va_S A s.heap H locs → ∀ (ls : Array Slot), lv_has ls 4 [(0, .ref (ad_m 0)), (1, .int v1), (2, .int v2), (3, .int v3)] → W p l e { frames := 1, cells := 0, slots := 0, locals := 22 } s m args below meth c H locs 0 0 (MQ below (va_Qi (fun (r : Int32) (u : (Int32) × (Int32) × (Nat → Int32) × (Nat → Int32) × (Nat → Int32) × (Nat → Int32)) => post r u.1 u.2.1 u.2.2.1 u.2.2.2.1 u.2.2.2.2.1 u.2.2.2.2.2) (fun u t => gB D (gT cI cZ cR) A (w_M cI cZ cR ad_m u.1 m_rolls m_pitch m_first m_length m_marks m_markStep m_markTicks m_table m_order m_many m_heard m_pressed m_silents m_items m_itemPitch m_itemStep m_ends m_noteOf m_cost m_extra m_slotOf m_sights m_sightCopy m_sightPitch m_isFaulty m_least m_greatest u.2.1 u.2.2.1 u.2.2.2.1 u.2.2.2.2.1 u.2.2.2.2.2 m_now) t) A) args s 0 0 A) (F0 m 0 ls []) := by
  obtain ⟨hx, hb, hr, hml, hown, hts, hlocks⟩ := id G
  intro H locs hP hD hS ls hl
  unfold wp_X7_line at h
  refine lv_aload_n hx hb dX7_line_0 rfl (lv_at hl 0 rfl) ?_
  refine lv_iconst (v := 0) hx hb dX7_line_1 (by decide) ?_
  refine va_put (D := D) (ci := 7) (v := .int 0) (ty := .int) (C := RX7) (T := TX7) (N := 34) hx hb hts us_X7_line_X7 tyX7 tyX7_ok nmX7 hown hK hP hD hS 0 rfl rfl 0 (by decide) (hts (.fieldLink RX7 71 "RollHouseModel" "thrown" "I") lk_X7_line_0) (fun _ h9 => h9) rfl (by decide +kernel) rfl rfl (Nat.le_of_ble_eq_true rfl) dX7_line_2 (fun H locs hP hD hS => ?_)
  have hP : va_P D vwCl (w_M cI cZ cR ad_m 0 m_rolls m_pitch m_first m_length m_marks m_markStep m_markTicks m_table m_order m_many m_heard m_pressed m_silents m_items m_itemPitch m_itemStep m_ends m_noteOf m_cost m_extra m_slotOf m_sights m_sightCopy m_sightPitch m_isFaulty m_least m_greatest m_lines m_lineCopy m_lineDay m_linePlace m_lineTold m_now) H := hP
  have hD : va_D A (w_M cI cZ cR ad_m 0 m_rolls m_pitch m_first m_length m_marks m_markStep m_markTicks m_table m_order m_many m_heard m_pressed m_silents m_items m_itemPitch m_itemStep m_ends m_noteOf m_cost m_extra m_slotOf m_sights m_sightCopy m_sightPitch m_isFaulty m_least m_greatest m_lines m_lineCopy m_lineDay m_linePlace m_lineTold m_now) := hD
  refine lv_iload_n hx hb dX7_line_5 rfl (lv_at hl 1 rfl) ?_
  refine lv_iconst (v := 1) hx hb dX7_line_6 (by decide) ?_
  refine lv_sipush (v := 1000) hx hb dX7_line_7 (by decide) ?_
  refine gl_calliS (va_runS (As := [.int v1, .int 1, .int 1000]) (rest := []) ⟨hx, hb, hml, hown, hts⟩ (mt_X7_within l D cI cZ cR  H.size v1 1 1000 _ h) (va_cwS 3 hts gX7_line_X7_within rfl rfl rfl (by decide +kernel) ⟨Nat.le_of_ble_eq_true rfl, Nat.le_of_ble_eq_true rfl⟩) ⟨gl_blind, gl_pre gl_nilP hK hN (gl_nilD (A := A))⟩ rfl rfl hl.1 rfl (lv_room (Nat.le_of_ble_eq_true rfl)) dX7_line_10 ⟨Nat.le_of_ble_eq_true rfl, Nat.le_of_ble_eq_true rfl⟩) hP hS hA (fun r1 u H locs h hP hS => ?_)
  try dsimp only at h
  refine lv_if_eq (tgt := 46) hx hb dX7_line_13 (by decide) (fun hc => ?_) (fun hc => ?_)
  · have h := h.1 hc
    refine lv_iconst (v := (-1)) hx hb dX7_line_46 (by decide) ?_
    exact gl_ireti G hK (u := (0, m_lines, m_lineCopy, m_lineDay, m_linePlace, m_lineTold)) hP hD hS h dX7_line_47
  · have h := h.2 hc
    refine lv_iload_n hx hb dX7_line_16 rfl (lv_at hl 2 rfl) ?_
    refine lv_iconst (v := 0) hx hb dX7_line_17 (by decide) ?_
    refine lv_ldc (v := 100000) hx hb hown (hts (.constant RX7 185 (100000)) lk_X7_line_1) dX7_line_18 ?_
    refine gl_calliS (va_runS (As := [.int v2, .int 0, .int 100000]) (rest := []) ⟨hx, hb, hml, hown, hts⟩ (mt_X7_within l D cI cZ cR  H.size v2 0 100000 _ h) (va_cwS 3 hts gX7_line_X7_within rfl rfl rfl (by decide +kernel) ⟨Nat.le_of_ble_eq_true rfl, Nat.le_of_ble_eq_true rfl⟩) ⟨gl_blind, gl_pre gl_nilP hK hN (gl_nilD (A := A))⟩ rfl rfl hl.1 rfl (lv_room (Nat.le_of_ble_eq_true rfl)) dX7_line_20 ⟨Nat.le_of_ble_eq_true rfl, Nat.le_of_ble_eq_true rfl⟩) hP hS hA (fun r2 u H locs h hP hS => ?_)
    try dsimp only at h
    refine lv_if_eq (tgt := 46) hx hb dX7_line_23 (by decide) (fun hc => ?_) (fun hc => ?_)
    · have h := h.1 hc
      refine lv_iconst (v := (-1)) hx hb dX7_line_46 (by decide) ?_
      exact gl_ireti G hK (u := (0, m_lines, m_lineCopy, m_lineDay, m_linePlace, m_lineTold)) hP hD hS h dX7_line_47
    · have h := h.2 hc
      refine lv_iload_n hx hb dX7_line_26 rfl (lv_at hl 3 rfl) ?_
      refine lv_iconst (v := 0) hx hb dX7_line_27 (by decide) ?_
      refine lv_bipush (v := 99) hx hb dX7_line_28 (by decide) ?_
      refine gl_calliS (va_runS (As := [.int v3, .int 0, .int 99]) (rest := []) ⟨hx, hb, hml, hown, hts⟩ (mt_X7_within l D cI cZ cR  H.size v3 0 99 _ h) (va_cwS 3 hts gX7_line_X7_within rfl rfl rfl (by decide +kernel) ⟨Nat.le_of_ble_eq_true rfl, Nat.le_of_ble_eq_true rfl⟩) ⟨gl_blind, gl_pre gl_nilP hK hN (gl_nilD (A := A))⟩ rfl rfl hl.1 rfl (lv_room (Nat.le_of_ble_eq_true rfl)) dX7_line_30 ⟨Nat.le_of_ble_eq_true rfl, Nat.le_of_ble_eq_true rfl⟩) hP hS hA (fun r3 u H locs h hP hS => ?_)
      try dsimp only at h
      refine lv_if_eq (tgt := 46) hx hb dX7_line_33 (by decide) (fun hc => ?_) (fun hc => ?_)
      · have h := h.1 hc
        refine lv_iconst (v := (-1)) hx hb dX7_line_46 (by decide) ?_
        exact gl_ireti G hK (u := (0, m_lines, m_lineCopy, m_lineDay, m_linePlace, m_lineTold)) hP hD hS h dX7_line_47
      · have h := h.2 hc
        refine lv_aload_n hx hb dX7_line_36 rfl (lv_at hl 0 rfl) ?_
        refine va_get (D := D) (ci := 7) (v := .int m_lines) (C := RX7) (T := TX7) (N := 34) hx hb hts us_X7_line_X7 hown hK hP 0 rfl rfl 28 (by decide) (hts (.fieldLink RX7 186 "RollHouseModel" "lines" "I") lk_X7_line_2) (fun _ h9 => h9) rfl dX7_line_37 ?_
        refine lv_sipush (v := 200) hx hb dX7_line_40 (by decide) ?_
        refine lv_icmp_ne (tgt := 48) hx hb dX7_line_43 (by decide) (fun hc => ?_) (fun hc => ?_)
        · have h := h.1 hc
          refine lv_aload_n hx hb dX7_line_48 rfl (lv_at hl 0 rfl) ?_
          refine va_get (D := D) (ci := 7) (v := .ref (ad_m 17)) (C := RX7) (T := TX7) (N := 34) hx hb hts us_X7_line_X7 hown hK hP 0 rfl rfl 29 (by decide) (hts (.fieldLink RX7 59 "RollHouseModel" "lineCopy" "[I") lk_X7_line_3) (fun _ h9 => h9) rfl dX7_line_49 ?_
          refine lv_aload_n hx hb dX7_line_52 rfl (lv_at hl 0 rfl) ?_
          refine va_get (D := D) (ci := 7) (v := .int m_lines) (C := RX7) (T := TX7) (N := 34) hx hb hts us_X7_line_X7 hown hK hP 0 rfl rfl 28 (by decide) (hts (.fieldLink RX7 186 "RollHouseModel" "lines" "I") lk_X7_line_2) (fun _ h9 => h9) rfl dX7_line_53 ?_
          refine lv_iload_n hx hb dX7_line_56 rfl (lv_at hl 1 rfl) ?_
          obtain ⟨hin, h⟩ := h
          refine va_iast hx hb hK hP hD hS 17 0 rfl rfl hin dX7_line_57 (fun H locs hP hD hS => ?_)
          obtain ⟨a4, ea4⟩ : ∃ f, f = upd m_lineCopy m_lines.toNatClampNeg v1 := ⟨_, rfl⟩
          have h := h a4 ea4
          rw [← ea4] at hP hD
          have hP : va_P D vwCl (w_M cI cZ cR ad_m 0 m_rolls m_pitch m_first m_length m_marks m_markStep m_markTicks m_table m_order m_many m_heard m_pressed m_silents m_items m_itemPitch m_itemStep m_ends m_noteOf m_cost m_extra m_slotOf m_sights m_sightCopy m_sightPitch m_isFaulty m_least m_greatest m_lines a4 m_lineDay m_linePlace m_lineTold m_now) H := hP
          have hD : va_D A (w_M cI cZ cR ad_m 0 m_rolls m_pitch m_first m_length m_marks m_markStep m_markTicks m_table m_order m_many m_heard m_pressed m_silents m_items m_itemPitch m_itemStep m_ends m_noteOf m_cost m_extra m_slotOf m_sights m_sightCopy m_sightPitch m_isFaulty m_least m_greatest m_lines a4 m_lineDay m_linePlace m_lineTold m_now) := hD
          refine lv_aload_n hx hb dX7_line_58 rfl (lv_at hl 0 rfl) ?_
          refine va_get (D := D) (ci := 7) (v := .ref (ad_m 18)) (C := RX7) (T := TX7) (N := 34) hx hb hts us_X7_line_X7 hown hK hP 0 rfl rfl 30 (by decide) (hts (.fieldLink RX7 62 "RollHouseModel" "lineDay" "[I") lk_X7_line_4) (fun _ h9 => h9) rfl dX7_line_59 ?_
          refine lv_aload_n hx hb dX7_line_62 rfl (lv_at hl 0 rfl) ?_
          refine va_get (D := D) (ci := 7) (v := .int m_lines) (C := RX7) (T := TX7) (N := 34) hx hb hts us_X7_line_X7 hown hK hP 0 rfl rfl 28 (by decide) (hts (.fieldLink RX7 186 "RollHouseModel" "lines" "I") lk_X7_line_2) (fun _ h9 => h9) rfl dX7_line_63 ?_
          refine lv_iload_n hx hb dX7_line_66 rfl (lv_at hl 2 rfl) ?_
          obtain ⟨hin, h⟩ := h
          refine va_iast hx hb hK hP hD hS 18 0 rfl rfl hin dX7_line_67 (fun H locs hP hD hS => ?_)
          obtain ⟨a5, ea5⟩ : ∃ f, f = upd m_lineDay m_lines.toNatClampNeg v2 := ⟨_, rfl⟩
          have h := h a5 ea5
          rw [← ea5] at hP hD
          have hP : va_P D vwCl (w_M cI cZ cR ad_m 0 m_rolls m_pitch m_first m_length m_marks m_markStep m_markTicks m_table m_order m_many m_heard m_pressed m_silents m_items m_itemPitch m_itemStep m_ends m_noteOf m_cost m_extra m_slotOf m_sights m_sightCopy m_sightPitch m_isFaulty m_least m_greatest m_lines a4 a5 m_linePlace m_lineTold m_now) H := hP
          have hD : va_D A (w_M cI cZ cR ad_m 0 m_rolls m_pitch m_first m_length m_marks m_markStep m_markTicks m_table m_order m_many m_heard m_pressed m_silents m_items m_itemPitch m_itemStep m_ends m_noteOf m_cost m_extra m_slotOf m_sights m_sightCopy m_sightPitch m_isFaulty m_least m_greatest m_lines a4 a5 m_linePlace m_lineTold m_now) := hD
          refine lv_aload_n hx hb dX7_line_68 rfl (lv_at hl 0 rfl) ?_
          refine va_get (D := D) (ci := 7) (v := .ref (ad_m 19)) (C := RX7) (T := TX7) (N := 34) hx hb hts us_X7_line_X7 hown hK hP 0 rfl rfl 31 (by decide) (hts (.fieldLink RX7 65 "RollHouseModel" "linePlace" "[I") lk_X7_line_5) (fun _ h9 => h9) rfl dX7_line_69 ?_
          refine lv_aload_n hx hb dX7_line_72 rfl (lv_at hl 0 rfl) ?_
          refine va_get (D := D) (ci := 7) (v := .int m_lines) (C := RX7) (T := TX7) (N := 34) hx hb hts us_X7_line_X7 hown hK hP 0 rfl rfl 28 (by decide) (hts (.fieldLink RX7 186 "RollHouseModel" "lines" "I") lk_X7_line_2) (fun _ h9 => h9) rfl dX7_line_73 ?_
          refine lv_iload_n hx hb dX7_line_76 rfl (lv_at hl 3 rfl) ?_
          obtain ⟨hin, h⟩ := h
          refine va_iast hx hb hK hP hD hS 19 0 rfl rfl hin dX7_line_77 (fun H locs hP hD hS => ?_)
          obtain ⟨a6, ea6⟩ : ∃ f, f = upd m_linePlace m_lines.toNatClampNeg v3 := ⟨_, rfl⟩
          have h := h a6 ea6
          rw [← ea6] at hP hD
          have hP : va_P D vwCl (w_M cI cZ cR ad_m 0 m_rolls m_pitch m_first m_length m_marks m_markStep m_markTicks m_table m_order m_many m_heard m_pressed m_silents m_items m_itemPitch m_itemStep m_ends m_noteOf m_cost m_extra m_slotOf m_sights m_sightCopy m_sightPitch m_isFaulty m_least m_greatest m_lines a4 a5 a6 m_lineTold m_now) H := hP
          have hD : va_D A (w_M cI cZ cR ad_m 0 m_rolls m_pitch m_first m_length m_marks m_markStep m_markTicks m_table m_order m_many m_heard m_pressed m_silents m_items m_itemPitch m_itemStep m_ends m_noteOf m_cost m_extra m_slotOf m_sights m_sightCopy m_sightPitch m_isFaulty m_least m_greatest m_lines a4 a5 a6 m_lineTold m_now) := hD
          refine lv_aload_n hx hb dX7_line_78 rfl (lv_at hl 0 rfl) ?_
          refine va_get (D := D) (ci := 7) (v := .ref (ad_m 20)) (C := RX7) (T := TX7) (N := 34) hx hb hts us_X7_line_X7 hown hK hP 0 rfl rfl 32 (by decide) (hts (.fieldLink RX7 68 "RollHouseModel" "lineTold" "[I") lk_X7_line_6) (fun _ h9 => h9) rfl dX7_line_79 ?_
          refine lv_aload_n hx hb dX7_line_82 rfl (lv_at hl 0 rfl) ?_
          refine va_get (D := D) (ci := 7) (v := .int m_lines) (C := RX7) (T := TX7) (N := 34) hx hb hts us_X7_line_X7 hown hK hP 0 rfl rfl 28 (by decide) (hts (.fieldLink RX7 186 "RollHouseModel" "lines" "I") lk_X7_line_2) (fun _ h9 => h9) rfl dX7_line_83 ?_
          refine lv_aload_n hx hb dX7_line_86 rfl (lv_at hl 0 rfl) ?_
          refine va_get (D := D) (ci := 7) (v := .int m_now) (C := RX7) (T := TX7) (N := 34) hx hb hts us_X7_line_X7 hown hK hP 0 rfl rfl 33 (by decide) (hts (.fieldLink RX7 189 "RollHouseModel" "now" "I") lk_X7_line_7) (fun _ h9 => h9) rfl dX7_line_87 ?_
          obtain ⟨hin, h⟩ := h
          refine va_iast hx hb hK hP hD hS 20 0 rfl rfl hin dX7_line_90 (fun H locs hP hD hS => ?_)
          obtain ⟨a7, ea7⟩ : ∃ f, f = upd m_lineTold m_lines.toNatClampNeg m_now := ⟨_, rfl⟩
          have h := h a7 ea7
          rw [← ea7] at hP hD
          have hP : va_P D vwCl (w_M cI cZ cR ad_m 0 m_rolls m_pitch m_first m_length m_marks m_markStep m_markTicks m_table m_order m_many m_heard m_pressed m_silents m_items m_itemPitch m_itemStep m_ends m_noteOf m_cost m_extra m_slotOf m_sights m_sightCopy m_sightPitch m_isFaulty m_least m_greatest m_lines a4 a5 a6 a7 m_now) H := hP
          have hD : va_D A (w_M cI cZ cR ad_m 0 m_rolls m_pitch m_first m_length m_marks m_markStep m_markTicks m_table m_order m_many m_heard m_pressed m_silents m_items m_itemPitch m_itemStep m_ends m_noteOf m_cost m_extra m_slotOf m_sights m_sightCopy m_sightPitch m_isFaulty m_least m_greatest m_lines a4 a5 a6 a7 m_now) := hD
          refine lv_aload_n hx hb dX7_line_91 rfl (lv_at hl 0 rfl) ?_
          refine lv_dup hx hb dX7_line_92 rfl ?_
          refine va_get (D := D) (ci := 7) (v := .int m_lines) (C := RX7) (T := TX7) (N := 34) hx hb hts us_X7_line_X7 hown hK hP 0 rfl rfl 28 (by decide) (hts (.fieldLink RX7 186 "RollHouseModel" "lines" "I") lk_X7_line_2) (fun _ h9 => h9) rfl dX7_line_93 ?_
          refine lv_iconst (v := 1) hx hb dX7_line_96 (by decide) ?_
          refine lv_iadd hx hb dX7_line_97 ?_
          refine va_put (D := D) (ci := 7) (v := .int (m_lines + 1)) (ty := .int) (C := RX7) (T := TX7) (N := 34) hx hb hts us_X7_line_X7 tyX7 tyX7_ok nmX7 hown hK hP hD hS 0 rfl rfl 28 (by decide) (hts (.fieldLink RX7 186 "RollHouseModel" "lines" "I") lk_X7_line_2) (fun _ h9 => h9) rfl (by decide +kernel) rfl rfl (Nat.le_of_ble_eq_true rfl) dX7_line_98 (fun H locs hP hD hS => ?_)
          have hP : va_P D vwCl (w_M cI cZ cR ad_m 0 m_rolls m_pitch m_first m_length m_marks m_markStep m_markTicks m_table m_order m_many m_heard m_pressed m_silents m_items m_itemPitch m_itemStep m_ends m_noteOf m_cost m_extra m_slotOf m_sights m_sightCopy m_sightPitch m_isFaulty m_least m_greatest (m_lines + 1) a4 a5 a6 a7 m_now) H := hP
          have hD : va_D A (w_M cI cZ cR ad_m 0 m_rolls m_pitch m_first m_length m_marks m_markStep m_markTicks m_table m_order m_many m_heard m_pressed m_silents m_items m_itemPitch m_itemStep m_ends m_noteOf m_cost m_extra m_slotOf m_sights m_sightCopy m_sightPitch m_isFaulty m_least m_greatest (m_lines + 1) a4 a5 a6 a7 m_now) := hD
          refine lv_aload_n hx hb dX7_line_101 rfl (lv_at hl 0 rfl) ?_
          refine va_get (D := D) (ci := 7) (v := .int (m_lines + 1)) (C := RX7) (T := TX7) (N := 34) hx hb hts us_X7_line_X7 hown hK hP 0 rfl rfl 28 (by decide) (hts (.fieldLink RX7 186 "RollHouseModel" "lines" "I") lk_X7_line_2) (fun _ h9 => h9) rfl dX7_line_102 ?_
          exact gl_ireti G hK (u := (0, (m_lines + 1), a4, a5, a6, a7)) hP hD hS h dX7_line_105
        · have h := h.2 hc
          refine lv_iconst (v := (-1)) hx hb dX7_line_46 (by decide) ?_
          exact gl_ireti G hK (u := (0, m_lines, m_lineCopy, m_lineDay, m_linePlace, m_lineTold)) hP hD hS h dX7_line_47
set_option maxRecDepth 100000 in
theorem mt_X7_line (l : Launch) (D : va_G) (cI cZ cR : ClassId) (ad_m : Nat → Nat) (sz : Nat) (m_thrown : Int32) (m_rolls : Int32) (m_pitch : Nat → Int32) (m_first : Nat → Int32) (m_length : Nat → Int32) (m_marks : Nat → Int32) (m_markStep : Nat → Int32) (m_markTicks : Nat → Int32) (m_table : Nat → Int32) (m_order : Nat → Int32) (m_many : Int32) (m_heard : Int32) (m_pressed : Int32) (m_silents : Int32) (m_items : Int32) (m_itemPitch : Nat → Int32) (m_itemStep : Nat → Int32) (m_ends : Nat → Int32) (m_noteOf : Nat → Int32) (m_cost : Int32) (m_extra : Int32) (m_slotOf : Nat → Int32) (m_sights : Int32) (m_sightCopy : Nat → Int32) (m_sightPitch : Nat → Int32) (m_isFaulty : Nat → Int32) (m_least : Int32) (m_greatest : Int32) (m_lines : Int32) (m_lineCopy : Nat → Int32) (m_lineDay : Nat → Int32) (m_linePlace : Nat → Int32) (m_lineTold : Nat → Int32) (m_now : Int32) (v1 : Int32) (v2 : Int32) (v3 : Int32) (post : Int32 → Int32 → Int32 → (Nat → Int32) → (Nat → Int32) → (Nat → Int32) → (Nat → Int32) → Prop) (h : wp_X7_line m_now v1 v2 v3 m_thrown m_lines m_lineCopy m_lineDay m_linePlace m_lineTold post) : Met l yX7_line wsX7_line ({ frames := 1, cells := 0, slots := 0, locals := 22 }) (gPc D (gT cI cZ cR) (w_M cI cZ cR ad_m m_thrown m_rolls m_pitch m_first m_length m_marks m_markStep m_markTicks m_table m_order m_many m_heard m_pressed m_silents m_items m_itemPitch m_itemStep m_ends m_noteOf m_cost m_extra m_slotOf m_sights m_sightCopy m_sightPitch m_isFaulty m_least m_greatest m_lines m_lineCopy m_lineDay m_linePlace m_lineTold m_now) sz [.ref (ad_m 0), .int v1, .int v2, .int v3]) (va_Qi (fun (r : Int32) (u : (Int32) × (Int32) × (Nat → Int32) × (Nat → Int32) × (Nat → Int32) × (Nat → Int32)) => post r u.1 u.2.1 u.2.2.1 u.2.2.2.1 u.2.2.2.2.1 u.2.2.2.2.2) (fun u t => gB D (gT cI cZ cR) (va_A (w_M cI cZ cR ad_m m_thrown m_rolls m_pitch m_first m_length m_marks m_markStep m_markTicks m_table m_order m_many m_heard m_pressed m_silents m_items m_itemPitch m_itemStep m_ends m_noteOf m_cost m_extra m_slotOf m_sights m_sightCopy m_sightPitch m_isFaulty m_least m_greatest m_lines m_lineCopy m_lineDay m_linePlace m_lineTold m_now) sz) (w_M cI cZ cR ad_m u.1 m_rolls m_pitch m_first m_length m_marks m_markStep m_markTicks m_table m_order m_many m_heard m_pressed m_silents m_items m_itemPitch m_itemStep m_ends m_noteOf m_cost m_extra m_slotOf m_sights m_sightCopy m_sightPitch m_isFaulty m_least m_greatest u.2.1 u.2.2.1 u.2.2.2.1 u.2.2.2.2.1 u.2.2.2.2.2 m_now) t) (va_A (w_M cI cZ cR ad_m m_thrown m_rolls m_pitch m_first m_length m_marks m_markStep m_markTicks m_table m_order m_many m_heard m_pressed m_silents m_items m_itemPitch m_itemStep m_ends m_noteOf m_cost m_extra m_slotOf m_sights m_sightCopy m_sightPitch m_isFaulty m_least m_greatest m_lines m_lineCopy m_lineDay m_linePlace m_lineTold m_now) sz)) 0 0 (va_A (w_M cI cZ cR ad_m m_thrown m_rolls m_pitch m_first m_length m_marks m_markStep m_markTicks m_table m_order m_many m_heard m_pressed m_silents m_items m_itemPitch m_itemStep m_ends m_noteOf m_cost m_extra m_slotOf m_sights m_sightCopy m_sightPitch m_isFaulty m_least m_greatest m_lines m_lineCopy m_lineDay m_linePlace m_lineTold m_now) sz) := by
  refine gl_entry (cc := cX7_line) (maxL := 4) (ret := (some .int)) (by decide) rfl (Nat.le_of_ble_eq_true rfl) ?_
  intro p e s m below meth c ls G hin hsz hK hN hP hD hl
  subst hsz
  exact ml_X7_line_0 G hK hN (fun q h => Or.inr h) m_now v1 v2 v3 post m_thrown m_lines m_lineCopy m_lineDay m_linePlace m_lineTold h s.heap [] hP hD va_S.rf ls hl
theorem lk_X7_day_0 : (Cond.fieldLink RX7 71 "RollHouseModel" "thrown" "I") ∈ wsX7_day := by decide +kernel
theorem lk_X7_day_1 : (Cond.fieldLink RX7 189 "RollHouseModel" "now" "I") ∈ wsX7_day := by decide +kernel
theorem us_X7_day_X7 : ∀ w ∈ u_ws RX7 TX7 34, w ∈ wsX7_day := by decide +kernel
def wp_X7_day (v1 : Int32) (m_thrown : Int32) (m_now : Int32) (post : Int32 → Int32 → Int32 → Prop) : Prop := (wp_X7_within v1 0 1000 (fun (r1 : Int32) => ((¬ r1 = 0 → post (m_now + v1) 0 (m_now + v1)) ∧ (r1 = 0 → post (-1) 0 m_now))))
set_option maxRecDepth 100000 in
set_option maxHeartbeats 4000000 in
theorem ml_X7_day_0 {p : Program} {l : Launch} {e : Env} {s : State} {m : MethodId} {args : Array Value} {below : List Frame} {meth : Method} {c : Code} {D : va_G} {cI cZ cR : ClassId} {A : Nat → Prop} {ad_m : Nat → Nat} {m_rolls : Int32} {m_pitch : Nat → Int32} {m_first : Nat → Int32} {m_length : Nat → Int32} {m_marks : Nat → Int32} {m_markStep : Nat → Int32} {m_markTicks : Nat → Int32} {m_table : Nat → Int32} {m_order : Nat → Int32} {m_many : Int32} {m_heard : Int32} {m_pressed : Int32} {m_silents : Int32} {m_items : Int32} {m_itemPitch : Nat → Int32} {m_itemStep : Nat → Int32} {m_ends : Nat → Int32} {m_noteOf : Nat → Int32} {m_cost : Int32} {m_extra : Int32} {m_slotOf : Nat → Int32} {m_sights : Int32} {m_sightCopy : Nat → Int32} {m_sightPitch : Nat → Int32} {m_isFaulty : Nat → Int32} {m_least : Int32} {m_greatest : Int32} {m_lines : Int32} {m_lineCopy : Nat → Int32} {m_lineDay : Nat → Int32} {m_linePlace : Nat → Int32} {m_lineTold : Nat → Int32} (G : gG p s m args meth c cX7_day (some .int) 2 RX7 wsX7_day) (hK : va_K D vwCl (gT cI cZ cR) s) (hN : va_Nw gN s) (hA : ∀ q, s.heap.size ≤ q → A q) (v1 : Int32) (post : Int32 → Int32 → Int32 → Prop) (m_thrown : Int32) (m_now : Int32) (h : wp_X7_day v1 m_thrown m_now post) : ∀ (H : Heap) (locs : List Loc), va_P D vwCl (w_M cI cZ cR ad_m m_thrown m_rolls m_pitch m_first m_length m_marks m_markStep m_markTicks m_table m_order m_many m_heard m_pressed m_silents m_items m_itemPitch m_itemStep m_ends m_noteOf m_cost m_extra m_slotOf m_sights m_sightCopy m_sightPitch m_isFaulty m_least m_greatest m_lines m_lineCopy m_lineDay m_linePlace m_lineTold m_now) H → va_D A (w_M cI cZ cR ad_m m_thrown m_rolls m_pitch m_first m_length m_marks m_markStep m_markTicks m_table m_order m_many m_heard m_pressed m_silents m_items m_itemPitch m_itemStep m_ends m_noteOf m_cost m_extra m_slotOf m_sights m_sightCopy m_sightPitch m_isFaulty m_least m_greatest m_lines m_lineCopy m_lineDay m_linePlace m_lineTold m_now) → va_S A s.heap H locs → ∀ (ls : Array Slot), lv_has ls 2 [(0, .ref (ad_m 0)), (1, .int v1)] → W p l e { frames := 1, cells := 0, slots := 0, locals := 22 } s m args below meth c H locs 0 0 (MQ below (va_Qi (fun (r : Int32) (u : (Int32) × (Int32)) => post r u.1 u.2) (fun u t => gB D (gT cI cZ cR) A (w_M cI cZ cR ad_m u.1 m_rolls m_pitch m_first m_length m_marks m_markStep m_markTicks m_table m_order m_many m_heard m_pressed m_silents m_items m_itemPitch m_itemStep m_ends m_noteOf m_cost m_extra m_slotOf m_sights m_sightCopy m_sightPitch m_isFaulty m_least m_greatest m_lines m_lineCopy m_lineDay m_linePlace m_lineTold u.2) t) A) args s 0 0 A) (F0 m 0 ls []) := by
  obtain ⟨hx, hb, hr, hml, hown, hts, hlocks⟩ := id G
  intro H locs hP hD hS ls hl
  unfold wp_X7_day at h
  refine lv_aload_n hx hb dX7_day_0 rfl (lv_at hl 0 rfl) ?_
  refine lv_iconst (v := 0) hx hb dX7_day_1 (by decide) ?_
  refine va_put (D := D) (ci := 7) (v := .int 0) (ty := .int) (C := RX7) (T := TX7) (N := 34) hx hb hts us_X7_day_X7 tyX7 tyX7_ok nmX7 hown hK hP hD hS 0 rfl rfl 0 (by decide) (hts (.fieldLink RX7 71 "RollHouseModel" "thrown" "I") lk_X7_day_0) (fun _ h9 => h9) rfl (by decide +kernel) rfl rfl (Nat.le_of_ble_eq_true rfl) dX7_day_2 (fun H locs hP hD hS => ?_)
  have hP : va_P D vwCl (w_M cI cZ cR ad_m 0 m_rolls m_pitch m_first m_length m_marks m_markStep m_markTicks m_table m_order m_many m_heard m_pressed m_silents m_items m_itemPitch m_itemStep m_ends m_noteOf m_cost m_extra m_slotOf m_sights m_sightCopy m_sightPitch m_isFaulty m_least m_greatest m_lines m_lineCopy m_lineDay m_linePlace m_lineTold m_now) H := hP
  have hD : va_D A (w_M cI cZ cR ad_m 0 m_rolls m_pitch m_first m_length m_marks m_markStep m_markTicks m_table m_order m_many m_heard m_pressed m_silents m_items m_itemPitch m_itemStep m_ends m_noteOf m_cost m_extra m_slotOf m_sights m_sightCopy m_sightPitch m_isFaulty m_least m_greatest m_lines m_lineCopy m_lineDay m_linePlace m_lineTold m_now) := hD
  refine lv_iload_n hx hb dX7_day_5 rfl (lv_at hl 1 rfl) ?_
  refine lv_iconst (v := 0) hx hb dX7_day_6 (by decide) ?_
  refine lv_sipush (v := 1000) hx hb dX7_day_7 (by decide) ?_
  refine gl_calliS (va_runS (As := [.int v1, .int 0, .int 1000]) (rest := []) ⟨hx, hb, hml, hown, hts⟩ (mt_X7_within l D cI cZ cR  H.size v1 0 1000 _ h) (va_cwS 3 hts gX7_day_X7_within rfl rfl rfl (by decide +kernel) ⟨Nat.le_of_ble_eq_true rfl, Nat.le_of_ble_eq_true rfl⟩) ⟨gl_blind, gl_pre gl_nilP hK hN (gl_nilD (A := A))⟩ rfl rfl hl.1 rfl (lv_room (Nat.le_of_ble_eq_true rfl)) dX7_day_10 ⟨Nat.le_of_ble_eq_true rfl, Nat.le_of_ble_eq_true rfl⟩) hP hS hA (fun r1 u H locs h hP hS => ?_)
  try dsimp only at h
  refine lv_if_ne (tgt := 18) hx hb dX7_day_13 (by decide) (fun hc => ?_) (fun hc => ?_)
  · have h := h.1 hc
    refine lv_aload_n hx hb dX7_day_18 rfl (lv_at hl 0 rfl) ?_
    refine lv_dup hx hb dX7_day_19 rfl ?_
    refine va_get (D := D) (ci := 7) (v := .int m_now) (C := RX7) (T := TX7) (N := 34) hx hb hts us_X7_day_X7 hown hK hP 0 rfl rfl 33 (by decide) (hts (.fieldLink RX7 189 "RollHouseModel" "now" "I") lk_X7_day_1) (fun _ h9 => h9) rfl dX7_day_20 ?_
    refine lv_iload_n hx hb dX7_day_23 rfl (lv_at hl 1 rfl) ?_
    refine lv_iadd hx hb dX7_day_24 ?_
    refine va_put (D := D) (ci := 7) (v := .int (m_now + v1)) (ty := .int) (C := RX7) (T := TX7) (N := 34) hx hb hts us_X7_day_X7 tyX7 tyX7_ok nmX7 hown hK hP hD hS 0 rfl rfl 33 (by decide) (hts (.fieldLink RX7 189 "RollHouseModel" "now" "I") lk_X7_day_1) (fun _ h9 => h9) rfl (by decide +kernel) rfl rfl (Nat.le_of_ble_eq_true rfl) dX7_day_25 (fun H locs hP hD hS => ?_)
    have hP : va_P D vwCl (w_M cI cZ cR ad_m 0 m_rolls m_pitch m_first m_length m_marks m_markStep m_markTicks m_table m_order m_many m_heard m_pressed m_silents m_items m_itemPitch m_itemStep m_ends m_noteOf m_cost m_extra m_slotOf m_sights m_sightCopy m_sightPitch m_isFaulty m_least m_greatest m_lines m_lineCopy m_lineDay m_linePlace m_lineTold (m_now + v1)) H := hP
    have hD : va_D A (w_M cI cZ cR ad_m 0 m_rolls m_pitch m_first m_length m_marks m_markStep m_markTicks m_table m_order m_many m_heard m_pressed m_silents m_items m_itemPitch m_itemStep m_ends m_noteOf m_cost m_extra m_slotOf m_sights m_sightCopy m_sightPitch m_isFaulty m_least m_greatest m_lines m_lineCopy m_lineDay m_linePlace m_lineTold (m_now + v1)) := hD
    refine lv_aload_n hx hb dX7_day_28 rfl (lv_at hl 0 rfl) ?_
    refine va_get (D := D) (ci := 7) (v := .int (m_now + v1)) (C := RX7) (T := TX7) (N := 34) hx hb hts us_X7_day_X7 hown hK hP 0 rfl rfl 33 (by decide) (hts (.fieldLink RX7 189 "RollHouseModel" "now" "I") lk_X7_day_1) (fun _ h9 => h9) rfl dX7_day_29 ?_
    exact gl_ireti G hK (u := (0, (m_now + v1))) hP hD hS h dX7_day_32
  · have h := h.2 hc
    refine lv_iconst (v := (-1)) hx hb dX7_day_16 (by decide) ?_
    exact gl_ireti G hK (u := (0, m_now)) hP hD hS h dX7_day_17
set_option maxRecDepth 100000 in
theorem mt_X7_day (l : Launch) (D : va_G) (cI cZ cR : ClassId) (ad_m : Nat → Nat) (sz : Nat) (m_thrown : Int32) (m_rolls : Int32) (m_pitch : Nat → Int32) (m_first : Nat → Int32) (m_length : Nat → Int32) (m_marks : Nat → Int32) (m_markStep : Nat → Int32) (m_markTicks : Nat → Int32) (m_table : Nat → Int32) (m_order : Nat → Int32) (m_many : Int32) (m_heard : Int32) (m_pressed : Int32) (m_silents : Int32) (m_items : Int32) (m_itemPitch : Nat → Int32) (m_itemStep : Nat → Int32) (m_ends : Nat → Int32) (m_noteOf : Nat → Int32) (m_cost : Int32) (m_extra : Int32) (m_slotOf : Nat → Int32) (m_sights : Int32) (m_sightCopy : Nat → Int32) (m_sightPitch : Nat → Int32) (m_isFaulty : Nat → Int32) (m_least : Int32) (m_greatest : Int32) (m_lines : Int32) (m_lineCopy : Nat → Int32) (m_lineDay : Nat → Int32) (m_linePlace : Nat → Int32) (m_lineTold : Nat → Int32) (m_now : Int32) (v1 : Int32) (post : Int32 → Int32 → Int32 → Prop) (h : wp_X7_day v1 m_thrown m_now post) : Met l yX7_day wsX7_day ({ frames := 1, cells := 0, slots := 0, locals := 22 }) (gPc D (gT cI cZ cR) (w_M cI cZ cR ad_m m_thrown m_rolls m_pitch m_first m_length m_marks m_markStep m_markTicks m_table m_order m_many m_heard m_pressed m_silents m_items m_itemPitch m_itemStep m_ends m_noteOf m_cost m_extra m_slotOf m_sights m_sightCopy m_sightPitch m_isFaulty m_least m_greatest m_lines m_lineCopy m_lineDay m_linePlace m_lineTold m_now) sz [.ref (ad_m 0), .int v1]) (va_Qi (fun (r : Int32) (u : (Int32) × (Int32)) => post r u.1 u.2) (fun u t => gB D (gT cI cZ cR) (va_A (w_M cI cZ cR ad_m m_thrown m_rolls m_pitch m_first m_length m_marks m_markStep m_markTicks m_table m_order m_many m_heard m_pressed m_silents m_items m_itemPitch m_itemStep m_ends m_noteOf m_cost m_extra m_slotOf m_sights m_sightCopy m_sightPitch m_isFaulty m_least m_greatest m_lines m_lineCopy m_lineDay m_linePlace m_lineTold m_now) sz) (w_M cI cZ cR ad_m u.1 m_rolls m_pitch m_first m_length m_marks m_markStep m_markTicks m_table m_order m_many m_heard m_pressed m_silents m_items m_itemPitch m_itemStep m_ends m_noteOf m_cost m_extra m_slotOf m_sights m_sightCopy m_sightPitch m_isFaulty m_least m_greatest m_lines m_lineCopy m_lineDay m_linePlace m_lineTold u.2) t) (va_A (w_M cI cZ cR ad_m m_thrown m_rolls m_pitch m_first m_length m_marks m_markStep m_markTicks m_table m_order m_many m_heard m_pressed m_silents m_items m_itemPitch m_itemStep m_ends m_noteOf m_cost m_extra m_slotOf m_sights m_sightCopy m_sightPitch m_isFaulty m_least m_greatest m_lines m_lineCopy m_lineDay m_linePlace m_lineTold m_now) sz)) 0 0 (va_A (w_M cI cZ cR ad_m m_thrown m_rolls m_pitch m_first m_length m_marks m_markStep m_markTicks m_table m_order m_many m_heard m_pressed m_silents m_items m_itemPitch m_itemStep m_ends m_noteOf m_cost m_extra m_slotOf m_sights m_sightCopy m_sightPitch m_isFaulty m_least m_greatest m_lines m_lineCopy m_lineDay m_linePlace m_lineTold m_now) sz) := by
  refine gl_entry (cc := cX7_day) (maxL := 2) (ret := (some .int)) (by decide) rfl (Nat.le_of_ble_eq_true rfl) ?_
  intro p e s m below meth c ls G hin hsz hK hN hP hD hl
  subst hsz
  exact ml_X7_day_0 G hK hN (fun q h => Or.inr h) v1 post m_thrown m_now h s.heap [] hP hD va_S.rf ls hl
theorem lk_X7_areDays_0 : (Cond.constant RX7 185 (100000)) ∈ wsX7_areDays := by decide +kernel
theorem lk_X7_areDays_1 : (Cond.fieldLink RX7 189 "RollHouseModel" "now" "I") ∈ wsX7_areDays := by decide +kernel
theorem us_X7_areDays_X7 : ∀ w ∈ u_ws RX7 TX7 34, w ∈ wsX7_areDays := by decide +kernel
def wp_X7_areDays (m_now : Int32) (v1 : Int32) (v2 : Int32) (post : Int32 → Prop) : Prop := (wp_X7_within v1 0 100000 (fun (r1 : Int32) => ((r1 = 0 → post 0 ) ∧ (¬ r1 = 0 → (wp_X7_within v2 0 100000 (fun (r2 : Int32) => ((r2 = 0 → post 0 ) ∧ (¬ r2 = 0 → ((m_now < v2 → post 0 ) ∧ (¬ m_now < v2 → post 1 ))))))))))
set_option maxRecDepth 100000 in
set_option maxHeartbeats 4000000 in
theorem ml_X7_areDays_0 {p : Program} {l : Launch} {e : Env} {s : State} {m : MethodId} {args : Array Value} {below : List Frame} {meth : Method} {c : Code} {D : va_G} {cI cZ cR : ClassId} {A : Nat → Prop} {ad_m : Nat → Nat} {m_thrown : Int32} {m_rolls : Int32} {m_pitch : Nat → Int32} {m_first : Nat → Int32} {m_length : Nat → Int32} {m_marks : Nat → Int32} {m_markStep : Nat → Int32} {m_markTicks : Nat → Int32} {m_table : Nat → Int32} {m_order : Nat → Int32} {m_many : Int32} {m_heard : Int32} {m_pressed : Int32} {m_silents : Int32} {m_items : Int32} {m_itemPitch : Nat → Int32} {m_itemStep : Nat → Int32} {m_ends : Nat → Int32} {m_noteOf : Nat → Int32} {m_cost : Int32} {m_extra : Int32} {m_slotOf : Nat → Int32} {m_sights : Int32} {m_sightCopy : Nat → Int32} {m_sightPitch : Nat → Int32} {m_isFaulty : Nat → Int32} {m_least : Int32} {m_greatest : Int32} {m_lines : Int32} {m_lineCopy : Nat → Int32} {m_lineDay : Nat → Int32} {m_linePlace : Nat → Int32} {m_lineTold : Nat → Int32} (G : gG p s m args meth c cX7_areDays (some .boolean) 3 RX7 wsX7_areDays) (hK : va_K D vwCl (gT cI cZ cR) s) (hN : va_Nw gN s) (hA : ∀ q, s.heap.size ≤ q → A q) (m_now : Int32) (v1 : Int32) (v2 : Int32) (post : Int32 → Prop)  (h : wp_X7_areDays m_now v1 v2 post) : ∀ (H : Heap) (locs : List Loc), va_P D vwCl (w_M cI cZ cR ad_m m_thrown m_rolls m_pitch m_first m_length m_marks m_markStep m_markTicks m_table m_order m_many m_heard m_pressed m_silents m_items m_itemPitch m_itemStep m_ends m_noteOf m_cost m_extra m_slotOf m_sights m_sightCopy m_sightPitch m_isFaulty m_least m_greatest m_lines m_lineCopy m_lineDay m_linePlace m_lineTold m_now) H → va_D A (w_M cI cZ cR ad_m m_thrown m_rolls m_pitch m_first m_length m_marks m_markStep m_markTicks m_table m_order m_many m_heard m_pressed m_silents m_items m_itemPitch m_itemStep m_ends m_noteOf m_cost m_extra m_slotOf m_sights m_sightCopy m_sightPitch m_isFaulty m_least m_greatest m_lines m_lineCopy m_lineDay m_linePlace m_lineTold m_now) → va_S A s.heap H locs → ∀ (ls : Array Slot), lv_has ls 3 [(0, .ref (ad_m 0)), (1, .int v1), (2, .int v2)] → W p l e { frames := 1, cells := 0, slots := 0, locals := 22 } s m args below meth c H locs 0 0 (MQ below (va_Qi (fun (r : Int32) (u : Unit) => post r ) (fun u t => gB D (gT cI cZ cR) A (w_M cI cZ cR ad_m m_thrown m_rolls m_pitch m_first m_length m_marks m_markStep m_markTicks m_table m_order m_many m_heard m_pressed m_silents m_items m_itemPitch m_itemStep m_ends m_noteOf m_cost m_extra m_slotOf m_sights m_sightCopy m_sightPitch m_isFaulty m_least m_greatest m_lines m_lineCopy m_lineDay m_linePlace m_lineTold m_now) t) A) args s 0 0 A) (F0 m 0 ls []) := by
  obtain ⟨hx, hb, hr, hml, hown, hts, hlocks⟩ := id G
  intro H locs hP hD hS ls hl
  unfold wp_X7_areDays at h
  refine lv_iload_n hx hb dX7_areDays_0 rfl (lv_at hl 1 rfl) ?_
  refine lv_iconst (v := 0) hx hb dX7_areDays_1 (by decide) ?_
  refine lv_ldc (v := 100000) hx hb hown (hts (.constant RX7 185 (100000)) lk_X7_areDays_0) dX7_areDays_2 ?_
  refine gl_calliS (va_runS (As := [.int v1, .int 0, .int 100000]) (rest := []) ⟨hx, hb, hml, hown, hts⟩ (mt_X7_within l D cI cZ cR  H.size v1 0 100000 _ h) (va_cwS 3 hts gX7_areDays_X7_within rfl rfl rfl (by decide +kernel) ⟨Nat.le_of_ble_eq_true rfl, Nat.le_of_ble_eq_true rfl⟩) ⟨gl_blind, gl_pre gl_nilP hK hN (gl_nilD (A := A))⟩ rfl rfl hl.1 rfl (lv_room (Nat.le_of_ble_eq_true rfl)) dX7_areDays_4 ⟨Nat.le_of_ble_eq_true rfl, Nat.le_of_ble_eq_true rfl⟩) hP hS hA (fun r1 u H locs h hP hS => ?_)
  try dsimp only at h
  refine lv_if_eq (tgt := 32) hx hb dX7_areDays_7 (by decide) (fun hc => ?_) (fun hc => ?_)
  · have h := h.1 hc
    refine lv_iconst (v := 0) hx hb dX7_areDays_32 (by decide) ?_
    exact gl_iretz G hK (u := ()) hP hD hS (by decide) h dX7_areDays_33
  · have h := h.2 hc
    refine lv_iload_n hx hb dX7_areDays_10 rfl (lv_at hl 2 rfl) ?_
    refine lv_iconst (v := 0) hx hb dX7_areDays_11 (by decide) ?_
    refine lv_ldc (v := 100000) hx hb hown (hts (.constant RX7 185 (100000)) lk_X7_areDays_0) dX7_areDays_12 ?_
    refine gl_calliS (va_runS (As := [.int v2, .int 0, .int 100000]) (rest := []) ⟨hx, hb, hml, hown, hts⟩ (mt_X7_within l D cI cZ cR  H.size v2 0 100000 _ h) (va_cwS 3 hts gX7_areDays_X7_within rfl rfl rfl (by decide +kernel) ⟨Nat.le_of_ble_eq_true rfl, Nat.le_of_ble_eq_true rfl⟩) ⟨gl_blind, gl_pre gl_nilP hK hN (gl_nilD (A := A))⟩ rfl rfl hl.1 rfl (lv_room (Nat.le_of_ble_eq_true rfl)) dX7_areDays_14 ⟨Nat.le_of_ble_eq_true rfl, Nat.le_of_ble_eq_true rfl⟩) hP hS hA (fun r2 u H locs h hP hS => ?_)
    try dsimp only at h
    refine lv_if_eq (tgt := 32) hx hb dX7_areDays_17 (by decide) (fun hc => ?_) (fun hc => ?_)
    · have h := h.1 hc
      refine lv_iconst (v := 0) hx hb dX7_areDays_32 (by decide) ?_
      exact gl_iretz G hK (u := ()) hP hD hS (by decide) h dX7_areDays_33
    · have h := h.2 hc
      refine lv_iload_n hx hb dX7_areDays_20 rfl (lv_at hl 2 rfl) ?_
      refine lv_aload_n hx hb dX7_areDays_21 rfl (lv_at hl 0 rfl) ?_
      refine va_get (D := D) (ci := 7) (v := .int m_now) (C := RX7) (T := TX7) (N := 34) hx hb hts us_X7_areDays_X7 hown hK hP 0 rfl rfl 33 (by decide) (hts (.fieldLink RX7 189 "RollHouseModel" "now" "I") lk_X7_areDays_1) (fun _ h9 => h9) rfl dX7_areDays_22 ?_
      refine lv_icmp_gt (tgt := 32) hx hb dX7_areDays_25 (by decide) (fun hc => ?_) (fun hc => ?_)
      · have h := h.1 hc
        refine lv_iconst (v := 0) hx hb dX7_areDays_32 (by decide) ?_
        exact gl_iretz G hK (u := ()) hP hD hS (by decide) h dX7_areDays_33
      · have h := h.2 hc
        refine lv_iconst (v := 1) hx hb dX7_areDays_28 (by decide) ?_
        refine lv_goto (tgt := 33) hx hb dX7_areDays_29 (by decide) ?_
        exact gl_iretz G hK (u := ()) hP hD hS (by decide) h dX7_areDays_33
set_option maxRecDepth 100000 in
theorem mt_X7_areDays (l : Launch) (D : va_G) (cI cZ cR : ClassId) (ad_m : Nat → Nat) (sz : Nat) (m_thrown : Int32) (m_rolls : Int32) (m_pitch : Nat → Int32) (m_first : Nat → Int32) (m_length : Nat → Int32) (m_marks : Nat → Int32) (m_markStep : Nat → Int32) (m_markTicks : Nat → Int32) (m_table : Nat → Int32) (m_order : Nat → Int32) (m_many : Int32) (m_heard : Int32) (m_pressed : Int32) (m_silents : Int32) (m_items : Int32) (m_itemPitch : Nat → Int32) (m_itemStep : Nat → Int32) (m_ends : Nat → Int32) (m_noteOf : Nat → Int32) (m_cost : Int32) (m_extra : Int32) (m_slotOf : Nat → Int32) (m_sights : Int32) (m_sightCopy : Nat → Int32) (m_sightPitch : Nat → Int32) (m_isFaulty : Nat → Int32) (m_least : Int32) (m_greatest : Int32) (m_lines : Int32) (m_lineCopy : Nat → Int32) (m_lineDay : Nat → Int32) (m_linePlace : Nat → Int32) (m_lineTold : Nat → Int32) (m_now : Int32) (v1 : Int32) (v2 : Int32) (post : Int32 → Prop) (h : wp_X7_areDays m_now v1 v2 post) : Met l yX7_areDays wsX7_areDays ({ frames := 1, cells := 0, slots := 0, locals := 22 }) (gPc D (gT cI cZ cR) (w_M cI cZ cR ad_m m_thrown m_rolls m_pitch m_first m_length m_marks m_markStep m_markTicks m_table m_order m_many m_heard m_pressed m_silents m_items m_itemPitch m_itemStep m_ends m_noteOf m_cost m_extra m_slotOf m_sights m_sightCopy m_sightPitch m_isFaulty m_least m_greatest m_lines m_lineCopy m_lineDay m_linePlace m_lineTold m_now) sz [.ref (ad_m 0), .int v1, .int v2]) (va_Qi (fun (r : Int32) (u : Unit) => post r ) (fun u t => gB D (gT cI cZ cR) (va_A (w_M cI cZ cR ad_m m_thrown m_rolls m_pitch m_first m_length m_marks m_markStep m_markTicks m_table m_order m_many m_heard m_pressed m_silents m_items m_itemPitch m_itemStep m_ends m_noteOf m_cost m_extra m_slotOf m_sights m_sightCopy m_sightPitch m_isFaulty m_least m_greatest m_lines m_lineCopy m_lineDay m_linePlace m_lineTold m_now) sz) (w_M cI cZ cR ad_m m_thrown m_rolls m_pitch m_first m_length m_marks m_markStep m_markTicks m_table m_order m_many m_heard m_pressed m_silents m_items m_itemPitch m_itemStep m_ends m_noteOf m_cost m_extra m_slotOf m_sights m_sightCopy m_sightPitch m_isFaulty m_least m_greatest m_lines m_lineCopy m_lineDay m_linePlace m_lineTold m_now) t) (va_A (w_M cI cZ cR ad_m m_thrown m_rolls m_pitch m_first m_length m_marks m_markStep m_markTicks m_table m_order m_many m_heard m_pressed m_silents m_items m_itemPitch m_itemStep m_ends m_noteOf m_cost m_extra m_slotOf m_sights m_sightCopy m_sightPitch m_isFaulty m_least m_greatest m_lines m_lineCopy m_lineDay m_linePlace m_lineTold m_now) sz)) 0 0 (va_A (w_M cI cZ cR ad_m m_thrown m_rolls m_pitch m_first m_length m_marks m_markStep m_markTicks m_table m_order m_many m_heard m_pressed m_silents m_items m_itemPitch m_itemStep m_ends m_noteOf m_cost m_extra m_slotOf m_sights m_sightCopy m_sightPitch m_isFaulty m_least m_greatest m_lines m_lineCopy m_lineDay m_linePlace m_lineTold m_now) sz) := by
  refine gl_entry (cc := cX7_areDays) (maxL := 3) (ret := (some .boolean)) (by decide) rfl (Nat.le_of_ble_eq_true rfl) ?_
  intro p e s m below meth c ls G hin hsz hK hN hP hD hl
  subst hsz
  exact ml_X7_areDays_0 G hK hN (fun q h => Or.inr h) m_now v1 v2 post h s.heap [] hP hD va_S.rf ls hl
theorem lk_X7_whereOf_0 : (Cond.fieldLink RX7 186 "RollHouseModel" "lines" "I") ∈ wsX7_whereOf := by decide +kernel
theorem lk_X7_whereOf_1 : (Cond.fieldLink RX7 65 "RollHouseModel" "linePlace" "[I") ∈ wsX7_whereOf := by decide +kernel
theorem lk_X7_whereOf_2 : (Cond.fieldLink RX7 59 "RollHouseModel" "lineCopy" "[I") ∈ wsX7_whereOf := by decide +kernel
theorem lk_X7_whereOf_3 : (Cond.fieldLink RX7 68 "RollHouseModel" "lineTold" "[I") ∈ wsX7_whereOf := by decide +kernel
theorem lk_X7_whereOf_4 : (Cond.fieldLink RX7 62 "RollHouseModel" "lineDay" "[I") ∈ wsX7_whereOf := by decide +kernel
theorem us_X7_whereOf_X7 : ∀ w ∈ u_ws RX7 TX7 34, w ∈ wsX7_whereOf := by decide +kernel
def wl_X7_whereOf_6 (m_lines : Int32) (m_lineCopy : Nat → Int32) (m_lineDay : Nat → Int32) (m_linePlace : Nat → Int32) (m_lineTold : Nat → Int32) (v1 : Int32) (v2 : Int32) (v3 : Int32) (post : Int32 → Prop) : Nat → (Int32) → (Int32) → Prop
  | 0, _, _ => False
  | fu + 1, v4, v5 => ((m_lines ≤ v5 → ((¬ v4 = (-1) → (vp_in v4 200 ∧ post (m_linePlace v4.toNatClampNeg) )) ∧ (v4 = (-1) → post 0 ))) ∧ (¬ m_lines ≤ v5 → (vp_in v5 200 ∧ ((¬ (m_lineCopy v5.toNatClampNeg) = v1 → wl_X7_whereOf_6 m_lines m_lineCopy m_lineDay m_linePlace m_lineTold v1 v2 v3 post fu v4 (v5 + 1)) ∧ ((m_lineCopy v5.toNatClampNeg) = v1 → (vp_in v5 200 ∧ ((v3 < (m_lineTold v5.toNatClampNeg) → wl_X7_whereOf_6 m_lines m_lineCopy m_lineDay m_linePlace m_lineTold v1 v2 v3 post fu v4 (v5 + 1)) ∧ (¬ v3 < (m_lineTold v5.toNatClampNeg) → (vp_in v5 200 ∧ (((m_lineDay v5.toNatClampNeg) ≤ v2 → ((v4 = (-1) → wl_X7_whereOf_6 m_lines m_lineCopy m_lineDay m_linePlace m_lineTold v1 v2 v3 post fu v5 (v5 + 1)) ∧ (¬ v4 = (-1) → (vp_in v5 200 ∧ (vp_in v4 200 ∧ (((m_lineDay v5.toNatClampNeg) < (m_lineDay v4.toNatClampNeg) → wl_X7_whereOf_6 m_lines m_lineCopy m_lineDay m_linePlace m_lineTold v1 v2 v3 post fu v4 (v5 + 1)) ∧ (¬ (m_lineDay v5.toNatClampNeg) < (m_lineDay v4.toNatClampNeg) → wl_X7_whereOf_6 m_lines m_lineCopy m_lineDay m_linePlace m_lineTold v1 v2 v3 post fu v5 (v5 + 1)))))))) ∧ (¬ (m_lineDay v5.toNatClampNeg) ≤ v2 → wl_X7_whereOf_6 m_lines m_lineCopy m_lineDay m_linePlace m_lineTold v1 v2 v3 post fu v4 (v5 + 1))))))))))))
def wp_X7_whereOf (m_lines : Int32) (m_lineCopy : Nat → Int32) (m_lineDay : Nat → Int32) (m_linePlace : Nat → Int32) (m_lineTold : Nat → Int32) (v1 : Int32) (v2 : Int32) (v3 : Int32) (post : Int32 → Prop) : Prop := (∃ n, wl_X7_whereOf_6 m_lines m_lineCopy m_lineDay m_linePlace m_lineTold v1 v2 v3 post n (-1) 0)
set_option maxRecDepth 100000 in
set_option maxHeartbeats 4000000 in
theorem ml_X7_whereOf_6 {p : Program} {l : Launch} {e : Env} {s : State} {m : MethodId} {args : Array Value} {below : List Frame} {meth : Method} {c : Code} {D : va_G} {cI cZ cR : ClassId} {A : Nat → Prop} {ad_m : Nat → Nat} {m_thrown : Int32} {m_rolls : Int32} {m_pitch : Nat → Int32} {m_first : Nat → Int32} {m_length : Nat → Int32} {m_marks : Nat → Int32} {m_markStep : Nat → Int32} {m_markTicks : Nat → Int32} {m_table : Nat → Int32} {m_order : Nat → Int32} {m_many : Int32} {m_heard : Int32} {m_pressed : Int32} {m_silents : Int32} {m_items : Int32} {m_itemPitch : Nat → Int32} {m_itemStep : Nat → Int32} {m_ends : Nat → Int32} {m_noteOf : Nat → Int32} {m_cost : Int32} {m_extra : Int32} {m_slotOf : Nat → Int32} {m_sights : Int32} {m_sightCopy : Nat → Int32} {m_sightPitch : Nat → Int32} {m_isFaulty : Nat → Int32} {m_least : Int32} {m_greatest : Int32} {m_now : Int32} (G : gG p s m args meth c cX7_whereOf (some .int) 6 RX7 wsX7_whereOf) (hK : va_K D vwCl (gT cI cZ cR) s) (hN : va_Nw gN s) (hA : ∀ q, s.heap.size ≤ q → A q) (m_lines : Int32) (m_lineCopy : Nat → Int32) (m_lineDay : Nat → Int32) (m_linePlace : Nat → Int32) (m_lineTold : Nat → Int32) (v1 : Int32) (v2 : Int32) (v3 : Int32) (post : Int32 → Prop) : ∀ (fu : Nat) (v4 : Int32) (v5 : Int32), wl_X7_whereOf_6 m_lines m_lineCopy m_lineDay m_linePlace m_lineTold v1 v2 v3 post fu v4 v5 → ∀ (H : Heap) (locs : List Loc), va_P D vwCl (w_M cI cZ cR ad_m m_thrown m_rolls m_pitch m_first m_length m_marks m_markStep m_markTicks m_table m_order m_many m_heard m_pressed m_silents m_items m_itemPitch m_itemStep m_ends m_noteOf m_cost m_extra m_slotOf m_sights m_sightCopy m_sightPitch m_isFaulty m_least m_greatest m_lines m_lineCopy m_lineDay m_linePlace m_lineTold m_now) H → va_D A (w_M cI cZ cR ad_m m_thrown m_rolls m_pitch m_first m_length m_marks m_markStep m_markTicks m_table m_order m_many m_heard m_pressed m_silents m_items m_itemPitch m_itemStep m_ends m_noteOf m_cost m_extra m_slotOf m_sights m_sightCopy m_sightPitch m_isFaulty m_least m_greatest m_lines m_lineCopy m_lineDay m_linePlace m_lineTold m_now) → va_S A s.heap H locs → ∀ (ls : Array Slot), lv_has ls 6 [(0, .ref (ad_m 0)), (1, .int v1), (2, .int v2), (3, .int v3), (4, .int v4), (5, .int v5)] → W p l e { frames := 0, cells := 0, slots := 0, locals := 0 } s m args below meth c H locs 0 0 (MQ below (va_Qi (fun (r : Int32) (u : Unit) => post r ) (fun u t => gB D (gT cI cZ cR) A (w_M cI cZ cR ad_m m_thrown m_rolls m_pitch m_first m_length m_marks m_markStep m_markTicks m_table m_order m_many m_heard m_pressed m_silents m_items m_itemPitch m_itemStep m_ends m_noteOf m_cost m_extra m_slotOf m_sights m_sightCopy m_sightPitch m_isFaulty m_least m_greatest m_lines m_lineCopy m_lineDay m_linePlace m_lineTold m_now) t) A) args s 0 0 A) (F0 m 6 ls []) := by
  obtain ⟨hx, hb, hr, hml, hown, hts, hlocks⟩ := id G
  intro fu
  induction fu with
  | zero =>
    intro v4 v5 h
    exact h.elim
  | succ fu ih =>
    intro v4 v5 h H locs hP hD hS ls hl
    rw [wl_X7_whereOf_6] at h
    refine lv_iload hx hb dX7_whereOf_6 (lv_at hl 5 rfl) ?_
    refine lv_aload_n hx hb dX7_whereOf_8 rfl (lv_at hl 0 rfl) ?_
    refine va_get (D := D) (ci := 7) (v := .int m_lines) (C := RX7) (T := TX7) (N := 34) hx hb hts us_X7_whereOf_X7 hown hK hP 0 rfl rfl 28 (by decide) (hts (.fieldLink RX7 186 "RollHouseModel" "lines" "I") lk_X7_whereOf_0) (fun _ h9 => h9) rfl dX7_whereOf_9 ?_
    refine lv_icmp_ge (tgt := 84) hx hb dX7_whereOf_12 (by decide) (fun hc => ?_) (fun hc => ?_)
    · have h := h.1 hc
      refine lv_iload hx hb dX7_whereOf_84 (lv_at hl 4 rfl) ?_
      refine lv_iconst (v := (-1)) hx hb dX7_whereOf_86 (by decide) ?_
      refine lv_icmp_ne (tgt := 94) hx hb dX7_whereOf_87 (by decide) (fun hc => ?_) (fun hc => ?_)
      · have h := h.1 hc
        refine lv_aload_n hx hb dX7_whereOf_94 rfl (lv_at hl 0 rfl) ?_
        refine va_get (D := D) (ci := 7) (v := .ref (ad_m 19)) (C := RX7) (T := TX7) (N := 34) hx hb hts us_X7_whereOf_X7 hown hK hP 0 rfl rfl 31 (by decide) (hts (.fieldLink RX7 65 "RollHouseModel" "linePlace" "[I") lk_X7_whereOf_1) (fun _ h9 => h9) rfl dX7_whereOf_95 ?_
        refine lv_iload hx hb dX7_whereOf_98 (lv_at hl 4 rfl) ?_
        obtain ⟨hin, h⟩ := h
        refine va_iald hx hb hK hP 19 0 rfl rfl hin dX7_whereOf_100 ?_
        exact gl_ireti G hK (u := ()) hP hD hS h dX7_whereOf_101
      · have h := h.2 hc
        refine lv_iconst (v := 0) hx hb dX7_whereOf_90 (by decide) ?_
        refine lv_goto (tgt := 101) hx hb dX7_whereOf_91 (by decide) ?_
        exact gl_ireti G hK (u := ()) hP hD hS h dX7_whereOf_101
    · have h := h.2 hc
      refine lv_aload_n hx hb dX7_whereOf_15 rfl (lv_at hl 0 rfl) ?_
      refine va_get (D := D) (ci := 7) (v := .ref (ad_m 17)) (C := RX7) (T := TX7) (N := 34) hx hb hts us_X7_whereOf_X7 hown hK hP 0 rfl rfl 29 (by decide) (hts (.fieldLink RX7 59 "RollHouseModel" "lineCopy" "[I") lk_X7_whereOf_2) (fun _ h9 => h9) rfl dX7_whereOf_16 ?_
      refine lv_iload hx hb dX7_whereOf_19 (lv_at hl 5 rfl) ?_
      obtain ⟨hin, h⟩ := h
      refine va_iald hx hb hK hP 17 0 rfl rfl hin dX7_whereOf_21 ?_
      refine lv_iload_n hx hb dX7_whereOf_22 rfl (lv_at hl 1 rfl) ?_
      refine lv_icmp_ne (tgt := 78) hx hb dX7_whereOf_23 (by decide) (fun hc => ?_) (fun hc => ?_)
      · have h := h.1 hc
        refine lv_iinc (v := v5 + 1) (lv' := [(5, .int (v5 + 1)), (0, .ref (ad_m 0)), (1, .int v1), (2, .int v2), (3, .int v3), (4, .int v4)]) hx hb dX7_whereOf_78 hl (k := 5) rfl rfl (by decide) rfl (fun ls hl => ?_)
        refine lv_goto (tgt := 6) hx hb dX7_whereOf_81 (by decide) ?_
        exact ih v4 (v5 + 1) h H locs hP hD hS ls (lv_sub hl [1, 2, 3, 4, 5, 0] rfl)
      · have h := h.2 hc
        refine lv_aload_n hx hb dX7_whereOf_26 rfl (lv_at hl 0 rfl) ?_
        refine va_get (D := D) (ci := 7) (v := .ref (ad_m 20)) (C := RX7) (T := TX7) (N := 34) hx hb hts us_X7_whereOf_X7 hown hK hP 0 rfl rfl 32 (by decide) (hts (.fieldLink RX7 68 "RollHouseModel" "lineTold" "[I") lk_X7_whereOf_3) (fun _ h9 => h9) rfl dX7_whereOf_27 ?_
        refine lv_iload hx hb dX7_whereOf_30 (lv_at hl 5 rfl) ?_
        obtain ⟨hin, h⟩ := h
        refine va_iald hx hb hK hP 20 0 rfl rfl hin dX7_whereOf_32 ?_
        refine lv_iload_n hx hb dX7_whereOf_33 rfl (lv_at hl 3 rfl) ?_
        refine lv_icmp_gt (tgt := 78) hx hb dX7_whereOf_34 (by decide) (fun hc => ?_) (fun hc => ?_)
        · have h := h.1 hc
          refine lv_iinc (v := v5 + 1) (lv' := [(5, .int (v5 + 1)), (0, .ref (ad_m 0)), (1, .int v1), (2, .int v2), (3, .int v3), (4, .int v4)]) hx hb dX7_whereOf_78 hl (k := 5) rfl rfl (by decide) rfl (fun ls hl => ?_)
          refine lv_goto (tgt := 6) hx hb dX7_whereOf_81 (by decide) ?_
          exact ih v4 (v5 + 1) h H locs hP hD hS ls (lv_sub hl [1, 2, 3, 4, 5, 0] rfl)
        · have h := h.2 hc
          refine lv_aload_n hx hb dX7_whereOf_37 rfl (lv_at hl 0 rfl) ?_
          refine va_get (D := D) (ci := 7) (v := .ref (ad_m 18)) (C := RX7) (T := TX7) (N := 34) hx hb hts us_X7_whereOf_X7 hown hK hP 0 rfl rfl 30 (by decide) (hts (.fieldLink RX7 62 "RollHouseModel" "lineDay" "[I") lk_X7_whereOf_4) (fun _ h9 => h9) rfl dX7_whereOf_38 ?_
          refine lv_iload hx hb dX7_whereOf_41 (lv_at hl 5 rfl) ?_
          obtain ⟨hin, h⟩ := h
          refine va_iald hx hb hK hP 18 0 rfl rfl hin dX7_whereOf_43 ?_
          refine lv_iload_n hx hb dX7_whereOf_44 rfl (lv_at hl 2 rfl) ?_
          refine lv_icmp_le (tgt := 51) hx hb dX7_whereOf_45 (by decide) (fun hc => ?_) (fun hc => ?_)
          · have h := h.1 hc
            refine lv_iload hx hb dX7_whereOf_51 (lv_at hl 4 rfl) ?_
            refine lv_iconst (v := (-1)) hx hb dX7_whereOf_53 (by decide) ?_
            refine lv_icmp_eq (tgt := 74) hx hb dX7_whereOf_54 (by decide) (fun hc => ?_) (fun hc => ?_)
            · have h := h.1 hc
              refine lv_iload hx hb dX7_whereOf_74 (lv_at hl 5 rfl) ?_
              refine lv_istore (lv' := [(4, .int v5), (0, .ref (ad_m 0)), (1, .int v1), (2, .int v2), (3, .int v3), (5, .int v5)]) hx hb dX7_whereOf_76 hl (by decide) rfl (fun ls hl => ?_)
              refine lv_iinc (v := v5 + 1) (lv' := [(5, .int (v5 + 1)), (4, .int v5), (0, .ref (ad_m 0)), (1, .int v1), (2, .int v2), (3, .int v3)]) hx hb dX7_whereOf_78 hl (k := 5) rfl rfl (by decide) rfl (fun ls hl => ?_)
              refine lv_goto (tgt := 6) hx hb dX7_whereOf_81 (by decide) ?_
              exact ih v5 (v5 + 1) h H locs hP hD hS ls (lv_sub hl [2, 3, 4, 5, 1, 0] rfl)
            · have h := h.2 hc
              refine lv_aload_n hx hb dX7_whereOf_57 rfl (lv_at hl 0 rfl) ?_
              refine va_get (D := D) (ci := 7) (v := .ref (ad_m 18)) (C := RX7) (T := TX7) (N := 34) hx hb hts us_X7_whereOf_X7 hown hK hP 0 rfl rfl 30 (by decide) (hts (.fieldLink RX7 62 "RollHouseModel" "lineDay" "[I") lk_X7_whereOf_4) (fun _ h9 => h9) rfl dX7_whereOf_58 ?_
              refine lv_iload hx hb dX7_whereOf_61 (lv_at hl 5 rfl) ?_
              obtain ⟨hin, h⟩ := h
              refine va_iald hx hb hK hP 18 0 rfl rfl hin dX7_whereOf_63 ?_
              refine lv_aload_n hx hb dX7_whereOf_64 rfl (lv_at hl 0 rfl) ?_
              refine va_get (D := D) (ci := 7) (v := .ref (ad_m 18)) (C := RX7) (T := TX7) (N := 34) hx hb hts us_X7_whereOf_X7 hown hK hP 0 rfl rfl 30 (by decide) (hts (.fieldLink RX7 62 "RollHouseModel" "lineDay" "[I") lk_X7_whereOf_4) (fun _ h9 => h9) rfl dX7_whereOf_65 ?_
              refine lv_iload hx hb dX7_whereOf_68 (lv_at hl 4 rfl) ?_
              obtain ⟨hin, h⟩ := h
              refine va_iald hx hb hK hP 18 0 rfl rfl hin dX7_whereOf_70 ?_
              refine lv_icmp_lt (tgt := 78) hx hb dX7_whereOf_71 (by decide) (fun hc => ?_) (fun hc => ?_)
              · have h := h.1 hc
                refine lv_iinc (v := v5 + 1) (lv' := [(5, .int (v5 + 1)), (0, .ref (ad_m 0)), (1, .int v1), (2, .int v2), (3, .int v3), (4, .int v4)]) hx hb dX7_whereOf_78 hl (k := 5) rfl rfl (by decide) rfl (fun ls hl => ?_)
                refine lv_goto (tgt := 6) hx hb dX7_whereOf_81 (by decide) ?_
                exact ih v4 (v5 + 1) h H locs hP hD hS ls (lv_sub hl [1, 2, 3, 4, 5, 0] rfl)
              · have h := h.2 hc
                refine lv_iload hx hb dX7_whereOf_74 (lv_at hl 5 rfl) ?_
                refine lv_istore (lv' := [(4, .int v5), (0, .ref (ad_m 0)), (1, .int v1), (2, .int v2), (3, .int v3), (5, .int v5)]) hx hb dX7_whereOf_76 hl (by decide) rfl (fun ls hl => ?_)
                refine lv_iinc (v := v5 + 1) (lv' := [(5, .int (v5 + 1)), (4, .int v5), (0, .ref (ad_m 0)), (1, .int v1), (2, .int v2), (3, .int v3)]) hx hb dX7_whereOf_78 hl (k := 5) rfl rfl (by decide) rfl (fun ls hl => ?_)
                refine lv_goto (tgt := 6) hx hb dX7_whereOf_81 (by decide) ?_
                exact ih v5 (v5 + 1) h H locs hP hD hS ls (lv_sub hl [2, 3, 4, 5, 1, 0] rfl)
          · have h := h.2 hc
            refine lv_goto (tgt := 78) hx hb dX7_whereOf_48 (by decide) ?_
            refine lv_iinc (v := v5 + 1) (lv' := [(5, .int (v5 + 1)), (0, .ref (ad_m 0)), (1, .int v1), (2, .int v2), (3, .int v3), (4, .int v4)]) hx hb dX7_whereOf_78 hl (k := 5) rfl rfl (by decide) rfl (fun ls hl => ?_)
            refine lv_goto (tgt := 6) hx hb dX7_whereOf_81 (by decide) ?_
            exact ih v4 (v5 + 1) h H locs hP hD hS ls (lv_sub hl [1, 2, 3, 4, 5, 0] rfl)
set_option maxRecDepth 100000 in
set_option maxHeartbeats 4000000 in
theorem ml_X7_whereOf_0 {p : Program} {l : Launch} {e : Env} {s : State} {m : MethodId} {args : Array Value} {below : List Frame} {meth : Method} {c : Code} {D : va_G} {cI cZ cR : ClassId} {A : Nat → Prop} {ad_m : Nat → Nat} {m_thrown : Int32} {m_rolls : Int32} {m_pitch : Nat → Int32} {m_first : Nat → Int32} {m_length : Nat → Int32} {m_marks : Nat → Int32} {m_markStep : Nat → Int32} {m_markTicks : Nat → Int32} {m_table : Nat → Int32} {m_order : Nat → Int32} {m_many : Int32} {m_heard : Int32} {m_pressed : Int32} {m_silents : Int32} {m_items : Int32} {m_itemPitch : Nat → Int32} {m_itemStep : Nat → Int32} {m_ends : Nat → Int32} {m_noteOf : Nat → Int32} {m_cost : Int32} {m_extra : Int32} {m_slotOf : Nat → Int32} {m_sights : Int32} {m_sightCopy : Nat → Int32} {m_sightPitch : Nat → Int32} {m_isFaulty : Nat → Int32} {m_least : Int32} {m_greatest : Int32} {m_now : Int32} (G : gG p s m args meth c cX7_whereOf (some .int) 6 RX7 wsX7_whereOf) (hK : va_K D vwCl (gT cI cZ cR) s) (hN : va_Nw gN s) (hA : ∀ q, s.heap.size ≤ q → A q) (m_lines : Int32) (m_lineCopy : Nat → Int32) (m_lineDay : Nat → Int32) (m_linePlace : Nat → Int32) (m_lineTold : Nat → Int32) (v1 : Int32) (v2 : Int32) (v3 : Int32) (post : Int32 → Prop)  (h : wp_X7_whereOf m_lines m_lineCopy m_lineDay m_linePlace m_lineTold v1 v2 v3 post) : ∀ (H : Heap) (locs : List Loc), va_P D vwCl (w_M cI cZ cR ad_m m_thrown m_rolls m_pitch m_first m_length m_marks m_markStep m_markTicks m_table m_order m_many m_heard m_pressed m_silents m_items m_itemPitch m_itemStep m_ends m_noteOf m_cost m_extra m_slotOf m_sights m_sightCopy m_sightPitch m_isFaulty m_least m_greatest m_lines m_lineCopy m_lineDay m_linePlace m_lineTold m_now) H → va_D A (w_M cI cZ cR ad_m m_thrown m_rolls m_pitch m_first m_length m_marks m_markStep m_markTicks m_table m_order m_many m_heard m_pressed m_silents m_items m_itemPitch m_itemStep m_ends m_noteOf m_cost m_extra m_slotOf m_sights m_sightCopy m_sightPitch m_isFaulty m_least m_greatest m_lines m_lineCopy m_lineDay m_linePlace m_lineTold m_now) → va_S A s.heap H locs → ∀ (ls : Array Slot), lv_has ls 6 [(0, .ref (ad_m 0)), (1, .int v1), (2, .int v2), (3, .int v3)] → W p l e { frames := 0, cells := 0, slots := 0, locals := 0 } s m args below meth c H locs 0 0 (MQ below (va_Qi (fun (r : Int32) (u : Unit) => post r ) (fun u t => gB D (gT cI cZ cR) A (w_M cI cZ cR ad_m m_thrown m_rolls m_pitch m_first m_length m_marks m_markStep m_markTicks m_table m_order m_many m_heard m_pressed m_silents m_items m_itemPitch m_itemStep m_ends m_noteOf m_cost m_extra m_slotOf m_sights m_sightCopy m_sightPitch m_isFaulty m_least m_greatest m_lines m_lineCopy m_lineDay m_linePlace m_lineTold m_now) t) A) args s 0 0 A) (F0 m 0 ls []) := by
  obtain ⟨hx, hb, hr, hml, hown, hts, hlocks⟩ := id G
  intro H locs hP hD hS ls hl
  unfold wp_X7_whereOf at h
  refine lv_iconst (v := (-1)) hx hb dX7_whereOf_0 (by decide) ?_
  refine lv_istore (lv' := [(4, .int (-1)), (0, .ref (ad_m 0)), (1, .int v1), (2, .int v2), (3, .int v3)]) hx hb dX7_whereOf_1 hl (by decide) rfl (fun ls hl => ?_)
  refine lv_iconst (v := 0) hx hb dX7_whereOf_3 (by decide) ?_
  refine lv_istore (lv' := [(5, .int 0), (4, .int (-1)), (0, .ref (ad_m 0)), (1, .int v1), (2, .int v2), (3, .int v3)]) hx hb dX7_whereOf_4 hl (by decide) rfl (fun ls hl => ?_)
  obtain ⟨nf, h⟩ := h
  exact ml_X7_whereOf_6 G hK hN hA m_lines m_lineCopy m_lineDay m_linePlace m_lineTold v1 v2 v3 post nf (-1) 0 h H locs hP hD hS ls (lv_sub hl [2, 3, 4, 5, 1, 0] rfl)
set_option maxRecDepth 100000 in
theorem mt_X7_whereOf (l : Launch) (D : va_G) (cI cZ cR : ClassId) (ad_m : Nat → Nat) (sz : Nat) (m_thrown : Int32) (m_rolls : Int32) (m_pitch : Nat → Int32) (m_first : Nat → Int32) (m_length : Nat → Int32) (m_marks : Nat → Int32) (m_markStep : Nat → Int32) (m_markTicks : Nat → Int32) (m_table : Nat → Int32) (m_order : Nat → Int32) (m_many : Int32) (m_heard : Int32) (m_pressed : Int32) (m_silents : Int32) (m_items : Int32) (m_itemPitch : Nat → Int32) (m_itemStep : Nat → Int32) (m_ends : Nat → Int32) (m_noteOf : Nat → Int32) (m_cost : Int32) (m_extra : Int32) (m_slotOf : Nat → Int32) (m_sights : Int32) (m_sightCopy : Nat → Int32) (m_sightPitch : Nat → Int32) (m_isFaulty : Nat → Int32) (m_least : Int32) (m_greatest : Int32) (m_lines : Int32) (m_lineCopy : Nat → Int32) (m_lineDay : Nat → Int32) (m_linePlace : Nat → Int32) (m_lineTold : Nat → Int32) (m_now : Int32) (v1 : Int32) (v2 : Int32) (v3 : Int32) (post : Int32 → Prop) (h : wp_X7_whereOf m_lines m_lineCopy m_lineDay m_linePlace m_lineTold v1 v2 v3 post) : Met l yX7_whereOf wsX7_whereOf ({ frames := 0, cells := 0, slots := 0, locals := 0 }) (gPc D (gT cI cZ cR) (w_M cI cZ cR ad_m m_thrown m_rolls m_pitch m_first m_length m_marks m_markStep m_markTicks m_table m_order m_many m_heard m_pressed m_silents m_items m_itemPitch m_itemStep m_ends m_noteOf m_cost m_extra m_slotOf m_sights m_sightCopy m_sightPitch m_isFaulty m_least m_greatest m_lines m_lineCopy m_lineDay m_linePlace m_lineTold m_now) sz [.ref (ad_m 0), .int v1, .int v2, .int v3]) (va_Qi (fun (r : Int32) (u : Unit) => post r ) (fun u t => gB D (gT cI cZ cR) (va_A (w_M cI cZ cR ad_m m_thrown m_rolls m_pitch m_first m_length m_marks m_markStep m_markTicks m_table m_order m_many m_heard m_pressed m_silents m_items m_itemPitch m_itemStep m_ends m_noteOf m_cost m_extra m_slotOf m_sights m_sightCopy m_sightPitch m_isFaulty m_least m_greatest m_lines m_lineCopy m_lineDay m_linePlace m_lineTold m_now) sz) (w_M cI cZ cR ad_m m_thrown m_rolls m_pitch m_first m_length m_marks m_markStep m_markTicks m_table m_order m_many m_heard m_pressed m_silents m_items m_itemPitch m_itemStep m_ends m_noteOf m_cost m_extra m_slotOf m_sights m_sightCopy m_sightPitch m_isFaulty m_least m_greatest m_lines m_lineCopy m_lineDay m_linePlace m_lineTold m_now) t) (va_A (w_M cI cZ cR ad_m m_thrown m_rolls m_pitch m_first m_length m_marks m_markStep m_markTicks m_table m_order m_many m_heard m_pressed m_silents m_items m_itemPitch m_itemStep m_ends m_noteOf m_cost m_extra m_slotOf m_sights m_sightCopy m_sightPitch m_isFaulty m_least m_greatest m_lines m_lineCopy m_lineDay m_linePlace m_lineTold m_now) sz)) 0 0 (va_A (w_M cI cZ cR ad_m m_thrown m_rolls m_pitch m_first m_length m_marks m_markStep m_markTicks m_table m_order m_many m_heard m_pressed m_silents m_items m_itemPitch m_itemStep m_ends m_noteOf m_cost m_extra m_slotOf m_sights m_sightCopy m_sightPitch m_isFaulty m_least m_greatest m_lines m_lineCopy m_lineDay m_linePlace m_lineTold m_now) sz) := by
  refine gl_entry (cc := cX7_whereOf) (maxL := 6) (ret := (some .int)) (by decide) rfl (Nat.le_of_ble_eq_true rfl) ?_
  intro p e s m below meth c ls G hin hsz hK hN hP hD hl
  subst hsz
  exact ml_X7_whereOf_0 G hK hN (fun q h => Or.inr h) m_lines m_lineCopy m_lineDay m_linePlace m_lineTold v1 v2 v3 post h s.heap [] hP hD va_S.rf ls hl
theorem lk_X7_where_0 : (Cond.fieldLink RX7 71 "RollHouseModel" "thrown" "I") ∈ wsX7_where := by decide +kernel
theorem us_X7_where_X7 : ∀ w ∈ u_ws RX7 TX7 34, w ∈ wsX7_where := by decide +kernel
def wl_X7_where_38 (m_lines : Int32) (m_lineCopy : Nat → Int32) (m_lineDay : Nat → Int32) (m_linePlace : Nat → Int32) (m_lineTold : Nat → Int32) (m_now : Int32) (v1 : Int32) (v2 : Int32) (v3 : Int32) (post : Int32 → Int32 → Prop) (v4 : Int32) (w1 : Int32) (m_thrown : Int32) : Prop := ((v4 = 0 → post 0 w1) ∧ (¬ v4 = 0 → (wp_X7_whereOf m_lines m_lineCopy m_lineDay m_linePlace m_lineTold v1 v2 v3 (fun (r3 : Int32) => post r3 w1))))
def wl_X7_where_25 (m_lines : Int32) (m_lineCopy : Nat → Int32) (m_lineDay : Nat → Int32) (m_linePlace : Nat → Int32) (m_lineTold : Nat → Int32) (m_now : Int32) (v1 : Int32) (v2 : Int32) (v3 : Int32) (post : Int32 → Int32 → Prop) (w0 : Int32) (m_thrown : Int32) : Prop := ((w0 = 0 → wl_X7_where_38 m_lines m_lineCopy m_lineDay m_linePlace m_lineTold m_now v1 v2 v3 post w0 1 m_thrown) ∧ (¬ w0 = 0 → wl_X7_where_38 m_lines m_lineCopy m_lineDay m_linePlace m_lineTold m_now v1 v2 v3 post w0 0 m_thrown))
def wl_X7_where_24 (m_lines : Int32) (m_lineCopy : Nat → Int32) (m_lineDay : Nat → Int32) (m_linePlace : Nat → Int32) (m_lineTold : Nat → Int32) (m_now : Int32) (v1 : Int32) (v2 : Int32) (v3 : Int32) (post : Int32 → Int32 → Prop) (m_thrown : Int32) : Prop := wl_X7_where_25 m_lines m_lineCopy m_lineDay m_linePlace m_lineTold m_now v1 v2 v3 post 0 m_thrown
def wp_X7_where (m_lines : Int32) (m_lineCopy : Nat → Int32) (m_lineDay : Nat → Int32) (m_linePlace : Nat → Int32) (m_lineTold : Nat → Int32) (m_now : Int32) (v1 : Int32) (v2 : Int32) (v3 : Int32) (m_thrown : Int32) (post : Int32 → Int32 → Prop) : Prop := (wp_X7_within v1 1 1000 (fun (r1 : Int32) => ((r1 = 0 → wl_X7_where_24 m_lines m_lineCopy m_lineDay m_linePlace m_lineTold m_now v1 v2 v3 post m_thrown) ∧ (¬ r1 = 0 → (wp_X7_areDays m_now v2 v3 (fun (r2 : Int32) => ((r2 = 0 → wl_X7_where_24 m_lines m_lineCopy m_lineDay m_linePlace m_lineTold m_now v1 v2 v3 post m_thrown) ∧ (¬ r2 = 0 → wl_X7_where_25 m_lines m_lineCopy m_lineDay m_linePlace m_lineTold m_now v1 v2 v3 post 1 m_thrown))))))))
set_option maxRecDepth 100000 in
set_option maxHeartbeats 4000000 in
theorem ml_X7_where_38 {p : Program} {l : Launch} {e : Env} {s : State} {m : MethodId} {args : Array Value} {below : List Frame} {meth : Method} {c : Code} {D : va_G} {cI cZ cR : ClassId} {A : Nat → Prop} {ad_m : Nat → Nat} {m_rolls : Int32} {m_pitch : Nat → Int32} {m_first : Nat → Int32} {m_length : Nat → Int32} {m_marks : Nat → Int32} {m_markStep : Nat → Int32} {m_markTicks : Nat → Int32} {m_table : Nat → Int32} {m_order : Nat → Int32} {m_many : Int32} {m_heard : Int32} {m_pressed : Int32} {m_silents : Int32} {m_items : Int32} {m_itemPitch : Nat → Int32} {m_itemStep : Nat → Int32} {m_ends : Nat → Int32} {m_noteOf : Nat → Int32} {m_cost : Int32} {m_extra : Int32} {m_slotOf : Nat → Int32} {m_sights : Int32} {m_sightCopy : Nat → Int32} {m_sightPitch : Nat → Int32} {m_isFaulty : Nat → Int32} {m_least : Int32} {m_greatest : Int32} (G : gG p s m args meth c cX7_where (some .int) 5 RX7 wsX7_where) (hK : va_K D vwCl (gT cI cZ cR) s) (hN : va_Nw gN s) (hA : ∀ q, s.heap.size ≤ q → A q) (m_lines : Int32) (m_lineCopy : Nat → Int32) (m_lineDay : Nat → Int32) (m_linePlace : Nat → Int32) (m_lineTold : Nat → Int32) (m_now : Int32) (v1 : Int32) (v2 : Int32) (v3 : Int32) (post : Int32 → Int32 → Prop) (v4 : Int32) (w1 : Int32) (m_thrown : Int32) (h : wl_X7_where_38 m_lines m_lineCopy m_lineDay m_linePlace m_lineTold m_now v1 v2 v3 post v4 w1 m_thrown) : ∀ (H : Heap) (locs : List Loc), va_P D vwCl (w_M cI cZ cR ad_m m_thrown m_rolls m_pitch m_first m_length m_marks m_markStep m_markTicks m_table m_order m_many m_heard m_pressed m_silents m_items m_itemPitch m_itemStep m_ends m_noteOf m_cost m_extra m_slotOf m_sights m_sightCopy m_sightPitch m_isFaulty m_least m_greatest m_lines m_lineCopy m_lineDay m_linePlace m_lineTold m_now) H → va_D A (w_M cI cZ cR ad_m m_thrown m_rolls m_pitch m_first m_length m_marks m_markStep m_markTicks m_table m_order m_many m_heard m_pressed m_silents m_items m_itemPitch m_itemStep m_ends m_noteOf m_cost m_extra m_slotOf m_sights m_sightCopy m_sightPitch m_isFaulty m_least m_greatest m_lines m_lineCopy m_lineDay m_linePlace m_lineTold m_now) → va_S A s.heap H locs → ∀ (ls : Array Slot), lv_has ls 5 [(0, .ref (ad_m 0)), (1, .int v1), (2, .int v2), (3, .int v3), (4, .int v4)] → W p l e { frames := 2, cells := 0, slots := 0, locals := 44 } s m args below meth c H locs 0 0 (MQ below (va_Qi (fun (r : Int32) (u : (Int32)) => post r u) (fun u t => gB D (gT cI cZ cR) A (w_M cI cZ cR ad_m u m_rolls m_pitch m_first m_length m_marks m_markStep m_markTicks m_table m_order m_many m_heard m_pressed m_silents m_items m_itemPitch m_itemStep m_ends m_noteOf m_cost m_extra m_slotOf m_sights m_sightCopy m_sightPitch m_isFaulty m_least m_greatest m_lines m_lineCopy m_lineDay m_linePlace m_lineTold m_now) t) A) args s 0 0 A) (F0 m 38 ls [.int w1, .ref (ad_m 0)]) := by
  obtain ⟨hx, hb, hr, hml, hown, hts, hlocks⟩ := id G
  intro H locs hP hD hS ls hl
  unfold wl_X7_where_38 at h
  refine va_put (D := D) (ci := 7) (v := .int w1) (ty := .int) (C := RX7) (T := TX7) (N := 34) hx hb hts us_X7_where_X7 tyX7 tyX7_ok nmX7 hown hK hP hD hS 0 rfl rfl 0 (by decide) (hts (.fieldLink RX7 71 "RollHouseModel" "thrown" "I") lk_X7_where_0) (fun _ h9 => h9) rfl (by decide +kernel) rfl rfl (Nat.le_of_ble_eq_true rfl) dX7_where_38 (fun H locs hP hD hS => ?_)
  have hP : va_P D vwCl (w_M cI cZ cR ad_m w1 m_rolls m_pitch m_first m_length m_marks m_markStep m_markTicks m_table m_order m_many m_heard m_pressed m_silents m_items m_itemPitch m_itemStep m_ends m_noteOf m_cost m_extra m_slotOf m_sights m_sightCopy m_sightPitch m_isFaulty m_least m_greatest m_lines m_lineCopy m_lineDay m_linePlace m_lineTold m_now) H := hP
  have hD : va_D A (w_M cI cZ cR ad_m w1 m_rolls m_pitch m_first m_length m_marks m_markStep m_markTicks m_table m_order m_many m_heard m_pressed m_silents m_items m_itemPitch m_itemStep m_ends m_noteOf m_cost m_extra m_slotOf m_sights m_sightCopy m_sightPitch m_isFaulty m_least m_greatest m_lines m_lineCopy m_lineDay m_linePlace m_lineTold m_now) := hD
  refine lv_iload hx hb dX7_where_41 (lv_at hl 4 rfl) ?_
  refine lv_if_eq (tgt := 56) hx hb dX7_where_43 (by decide) (fun hc => ?_) (fun hc => ?_)
  · have h := h.1 hc
    refine lv_iconst (v := 0) hx hb dX7_where_56 (by decide) ?_
    exact gl_ireti G hK (u := w1) hP hD hS h dX7_where_57
  · have h := h.2 hc
    refine lv_aload_n hx hb dX7_where_46 rfl (lv_at hl 0 rfl) ?_
    refine lv_iload_n hx hb dX7_where_47 rfl (lv_at hl 1 rfl) ?_
    refine lv_iload_n hx hb dX7_where_48 rfl (lv_at hl 2 rfl) ?_
    refine lv_iload_n hx hb dX7_where_49 rfl (lv_at hl 3 rfl) ?_
    refine gl_calliF (va_runV (As := [.int v1, .int v2, .int v3]) (rest := []) ⟨hx, hb, hml, hown, hts⟩ (mt_X7_whereOf l D cI cZ cR ad_m H.size w1 m_rolls m_pitch m_first m_length m_marks m_markStep m_markTicks m_table m_order m_many m_heard m_pressed m_silents m_items m_itemPitch m_itemStep m_ends m_noteOf m_cost m_extra m_slotOf m_sights m_sightCopy m_sightPitch m_isFaulty m_least m_greatest m_lines m_lineCopy m_lineDay m_linePlace m_lineTold m_now v1 v2 v3 _ h) (cwV 3 hts gX7_where_X7_whereOf rfl rfl rfl (by decide +kernel) ⟨Nat.le_of_ble_eq_true rfl, Nat.le_of_ble_eq_true rfl⟩) ⟨gl_blind, va_recv hK hP (ci := 7) (q0 := 0) rfl rfl, gl_pre hP hK hN hD⟩ rfl rfl hl.1 rfl (lv_room (Nat.le_of_ble_eq_true rfl)) dX7_where_50 ⟨Nat.le_of_ble_eq_true rfl, Nat.le_of_ble_eq_true rfl⟩) hD hS hA (fun r3 u H locs h hP hD hS => ?_)
    try dsimp only at h
    refine lv_goto (tgt := 57) hx hb dX7_where_53 (by decide) ?_
    exact gl_ireti G hK (u := w1) hP hD hS h dX7_where_57
set_option maxRecDepth 100000 in
set_option maxHeartbeats 4000000 in
theorem ml_X7_where_25 {p : Program} {l : Launch} {e : Env} {s : State} {m : MethodId} {args : Array Value} {below : List Frame} {meth : Method} {c : Code} {D : va_G} {cI cZ cR : ClassId} {A : Nat → Prop} {ad_m : Nat → Nat} {m_rolls : Int32} {m_pitch : Nat → Int32} {m_first : Nat → Int32} {m_length : Nat → Int32} {m_marks : Nat → Int32} {m_markStep : Nat → Int32} {m_markTicks : Nat → Int32} {m_table : Nat → Int32} {m_order : Nat → Int32} {m_many : Int32} {m_heard : Int32} {m_pressed : Int32} {m_silents : Int32} {m_items : Int32} {m_itemPitch : Nat → Int32} {m_itemStep : Nat → Int32} {m_ends : Nat → Int32} {m_noteOf : Nat → Int32} {m_cost : Int32} {m_extra : Int32} {m_slotOf : Nat → Int32} {m_sights : Int32} {m_sightCopy : Nat → Int32} {m_sightPitch : Nat → Int32} {m_isFaulty : Nat → Int32} {m_least : Int32} {m_greatest : Int32} (G : gG p s m args meth c cX7_where (some .int) 5 RX7 wsX7_where) (hK : va_K D vwCl (gT cI cZ cR) s) (hN : va_Nw gN s) (hA : ∀ q, s.heap.size ≤ q → A q) (m_lines : Int32) (m_lineCopy : Nat → Int32) (m_lineDay : Nat → Int32) (m_linePlace : Nat → Int32) (m_lineTold : Nat → Int32) (m_now : Int32) (v1 : Int32) (v2 : Int32) (v3 : Int32) (post : Int32 → Int32 → Prop) (w0 : Int32) (m_thrown : Int32) (h : wl_X7_where_25 m_lines m_lineCopy m_lineDay m_linePlace m_lineTold m_now v1 v2 v3 post w0 m_thrown) : ∀ (H : Heap) (locs : List Loc), va_P D vwCl (w_M cI cZ cR ad_m m_thrown m_rolls m_pitch m_first m_length m_marks m_markStep m_markTicks m_table m_order m_many m_heard m_pressed m_silents m_items m_itemPitch m_itemStep m_ends m_noteOf m_cost m_extra m_slotOf m_sights m_sightCopy m_sightPitch m_isFaulty m_least m_greatest m_lines m_lineCopy m_lineDay m_linePlace m_lineTold m_now) H → va_D A (w_M cI cZ cR ad_m m_thrown m_rolls m_pitch m_first m_length m_marks m_markStep m_markTicks m_table m_order m_many m_heard m_pressed m_silents m_items m_itemPitch m_itemStep m_ends m_noteOf m_cost m_extra m_slotOf m_sights m_sightCopy m_sightPitch m_isFaulty m_least m_greatest m_lines m_lineCopy m_lineDay m_linePlace m_lineTold m_now) → va_S A s.heap H locs → ∀ (ls : Array Slot), lv_has ls 5 [(0, .ref (ad_m 0)), (1, .int v1), (2, .int v2), (3, .int v3)] → W p l e { frames := 2, cells := 0, slots := 0, locals := 44 } s m args below meth c H locs 0 0 (MQ below (va_Qi (fun (r : Int32) (u : (Int32)) => post r u) (fun u t => gB D (gT cI cZ cR) A (w_M cI cZ cR ad_m u m_rolls m_pitch m_first m_length m_marks m_markStep m_markTicks m_table m_order m_many m_heard m_pressed m_silents m_items m_itemPitch m_itemStep m_ends m_noteOf m_cost m_extra m_slotOf m_sights m_sightCopy m_sightPitch m_isFaulty m_least m_greatest m_lines m_lineCopy m_lineDay m_linePlace m_lineTold m_now) t) A) args s 0 0 A) (F0 m 25 ls [.int w0]) := by
  obtain ⟨hx, hb, hr, hml, hown, hts, hlocks⟩ := id G
  intro H locs hP hD hS ls hl
  unfold wl_X7_where_25 at h
  refine lv_istore (lv' := [(4, .int w0), (0, .ref (ad_m 0)), (1, .int v1), (2, .int v2), (3, .int v3)]) hx hb dX7_where_25 hl (by decide) rfl (fun ls hl => ?_)
  refine lv_aload_n hx hb dX7_where_27 rfl (lv_at hl 1 rfl) ?_
  refine lv_iload hx hb dX7_where_28 (lv_at hl 0 rfl) ?_
  refine lv_if_eq (tgt := 37) hx hb dX7_where_30 (by decide) (fun hc => ?_) (fun hc => ?_)
  · have h := h.1 hc
    refine lv_iconst (v := 1) hx hb dX7_where_37 (by decide) ?_
    exact ml_X7_where_38 G hK hN hA m_lines m_lineCopy m_lineDay m_linePlace m_lineTold m_now v1 v2 v3 post w0 1 m_thrown h H locs hP hD hS ls (lv_sub hl [1, 2, 3, 4, 0] rfl)
  · have h := h.2 hc
    refine lv_iconst (v := 0) hx hb dX7_where_33 (by decide) ?_
    refine lv_goto (tgt := 38) hx hb dX7_where_34 (by decide) ?_
    exact ml_X7_where_38 G hK hN hA m_lines m_lineCopy m_lineDay m_linePlace m_lineTold m_now v1 v2 v3 post w0 0 m_thrown h H locs hP hD hS ls (lv_sub hl [1, 2, 3, 4, 0] rfl)
set_option maxRecDepth 100000 in
set_option maxHeartbeats 4000000 in
theorem ml_X7_where_24 {p : Program} {l : Launch} {e : Env} {s : State} {m : MethodId} {args : Array Value} {below : List Frame} {meth : Method} {c : Code} {D : va_G} {cI cZ cR : ClassId} {A : Nat → Prop} {ad_m : Nat → Nat} {m_rolls : Int32} {m_pitch : Nat → Int32} {m_first : Nat → Int32} {m_length : Nat → Int32} {m_marks : Nat → Int32} {m_markStep : Nat → Int32} {m_markTicks : Nat → Int32} {m_table : Nat → Int32} {m_order : Nat → Int32} {m_many : Int32} {m_heard : Int32} {m_pressed : Int32} {m_silents : Int32} {m_items : Int32} {m_itemPitch : Nat → Int32} {m_itemStep : Nat → Int32} {m_ends : Nat → Int32} {m_noteOf : Nat → Int32} {m_cost : Int32} {m_extra : Int32} {m_slotOf : Nat → Int32} {m_sights : Int32} {m_sightCopy : Nat → Int32} {m_sightPitch : Nat → Int32} {m_isFaulty : Nat → Int32} {m_least : Int32} {m_greatest : Int32} (G : gG p s m args meth c cX7_where (some .int) 5 RX7 wsX7_where) (hK : va_K D vwCl (gT cI cZ cR) s) (hN : va_Nw gN s) (hA : ∀ q, s.heap.size ≤ q → A q) (m_lines : Int32) (m_lineCopy : Nat → Int32) (m_lineDay : Nat → Int32) (m_linePlace : Nat → Int32) (m_lineTold : Nat → Int32) (m_now : Int32) (v1 : Int32) (v2 : Int32) (v3 : Int32) (post : Int32 → Int32 → Prop) (m_thrown : Int32) (h : wl_X7_where_24 m_lines m_lineCopy m_lineDay m_linePlace m_lineTold m_now v1 v2 v3 post m_thrown) : ∀ (H : Heap) (locs : List Loc), va_P D vwCl (w_M cI cZ cR ad_m m_thrown m_rolls m_pitch m_first m_length m_marks m_markStep m_markTicks m_table m_order m_many m_heard m_pressed m_silents m_items m_itemPitch m_itemStep m_ends m_noteOf m_cost m_extra m_slotOf m_sights m_sightCopy m_sightPitch m_isFaulty m_least m_greatest m_lines m_lineCopy m_lineDay m_linePlace m_lineTold m_now) H → va_D A (w_M cI cZ cR ad_m m_thrown m_rolls m_pitch m_first m_length m_marks m_markStep m_markTicks m_table m_order m_many m_heard m_pressed m_silents m_items m_itemPitch m_itemStep m_ends m_noteOf m_cost m_extra m_slotOf m_sights m_sightCopy m_sightPitch m_isFaulty m_least m_greatest m_lines m_lineCopy m_lineDay m_linePlace m_lineTold m_now) → va_S A s.heap H locs → ∀ (ls : Array Slot), lv_has ls 5 [(0, .ref (ad_m 0)), (1, .int v1), (2, .int v2), (3, .int v3)] → W p l e { frames := 2, cells := 0, slots := 0, locals := 44 } s m args below meth c H locs 0 0 (MQ below (va_Qi (fun (r : Int32) (u : (Int32)) => post r u) (fun u t => gB D (gT cI cZ cR) A (w_M cI cZ cR ad_m u m_rolls m_pitch m_first m_length m_marks m_markStep m_markTicks m_table m_order m_many m_heard m_pressed m_silents m_items m_itemPitch m_itemStep m_ends m_noteOf m_cost m_extra m_slotOf m_sights m_sightCopy m_sightPitch m_isFaulty m_least m_greatest m_lines m_lineCopy m_lineDay m_linePlace m_lineTold m_now) t) A) args s 0 0 A) (F0 m 24 ls []) := by
  obtain ⟨hx, hb, hr, hml, hown, hts, hlocks⟩ := id G
  intro H locs hP hD hS ls hl
  unfold wl_X7_where_24 at h
  refine lv_iconst (v := 0) hx hb dX7_where_24 (by decide) ?_
  exact ml_X7_where_25 G hK hN hA m_lines m_lineCopy m_lineDay m_linePlace m_lineTold m_now v1 v2 v3 post 0 m_thrown h H locs hP hD hS ls (lv_sub hl [0, 1, 2, 3] rfl)
set_option maxRecDepth 100000 in
set_option maxHeartbeats 4000000 in
theorem ml_X7_where_0 {p : Program} {l : Launch} {e : Env} {s : State} {m : MethodId} {args : Array Value} {below : List Frame} {meth : Method} {c : Code} {D : va_G} {cI cZ cR : ClassId} {A : Nat → Prop} {ad_m : Nat → Nat} {m_rolls : Int32} {m_pitch : Nat → Int32} {m_first : Nat → Int32} {m_length : Nat → Int32} {m_marks : Nat → Int32} {m_markStep : Nat → Int32} {m_markTicks : Nat → Int32} {m_table : Nat → Int32} {m_order : Nat → Int32} {m_many : Int32} {m_heard : Int32} {m_pressed : Int32} {m_silents : Int32} {m_items : Int32} {m_itemPitch : Nat → Int32} {m_itemStep : Nat → Int32} {m_ends : Nat → Int32} {m_noteOf : Nat → Int32} {m_cost : Int32} {m_extra : Int32} {m_slotOf : Nat → Int32} {m_sights : Int32} {m_sightCopy : Nat → Int32} {m_sightPitch : Nat → Int32} {m_isFaulty : Nat → Int32} {m_least : Int32} {m_greatest : Int32} (G : gG p s m args meth c cX7_where (some .int) 5 RX7 wsX7_where) (hK : va_K D vwCl (gT cI cZ cR) s) (hN : va_Nw gN s) (hA : ∀ q, s.heap.size ≤ q → A q) (m_lines : Int32) (m_lineCopy : Nat → Int32) (m_lineDay : Nat → Int32) (m_linePlace : Nat → Int32) (m_lineTold : Nat → Int32) (m_now : Int32) (v1 : Int32) (v2 : Int32) (v3 : Int32) (post : Int32 → Int32 → Prop) (m_thrown : Int32) (h : wp_X7_where m_lines m_lineCopy m_lineDay m_linePlace m_lineTold m_now v1 v2 v3 m_thrown post) : ∀ (H : Heap) (locs : List Loc), va_P D vwCl (w_M cI cZ cR ad_m m_thrown m_rolls m_pitch m_first m_length m_marks m_markStep m_markTicks m_table m_order m_many m_heard m_pressed m_silents m_items m_itemPitch m_itemStep m_ends m_noteOf m_cost m_extra m_slotOf m_sights m_sightCopy m_sightPitch m_isFaulty m_least m_greatest m_lines m_lineCopy m_lineDay m_linePlace m_lineTold m_now) H → va_D A (w_M cI cZ cR ad_m m_thrown m_rolls m_pitch m_first m_length m_marks m_markStep m_markTicks m_table m_order m_many m_heard m_pressed m_silents m_items m_itemPitch m_itemStep m_ends m_noteOf m_cost m_extra m_slotOf m_sights m_sightCopy m_sightPitch m_isFaulty m_least m_greatest m_lines m_lineCopy m_lineDay m_linePlace m_lineTold m_now) → va_S A s.heap H locs → ∀ (ls : Array Slot), lv_has ls 5 [(0, .ref (ad_m 0)), (1, .int v1), (2, .int v2), (3, .int v3)] → W p l e { frames := 2, cells := 0, slots := 0, locals := 44 } s m args below meth c H locs 0 0 (MQ below (va_Qi (fun (r : Int32) (u : (Int32)) => post r u) (fun u t => gB D (gT cI cZ cR) A (w_M cI cZ cR ad_m u m_rolls m_pitch m_first m_length m_marks m_markStep m_markTicks m_table m_order m_many m_heard m_pressed m_silents m_items m_itemPitch m_itemStep m_ends m_noteOf m_cost m_extra m_slotOf m_sights m_sightCopy m_sightPitch m_isFaulty m_least m_greatest m_lines m_lineCopy m_lineDay m_linePlace m_lineTold m_now) t) A) args s 0 0 A) (F0 m 0 ls []) := by
  obtain ⟨hx, hb, hr, hml, hown, hts, hlocks⟩ := id G
  intro H locs hP hD hS ls hl
  unfold wp_X7_where at h
  refine lv_iload_n hx hb dX7_where_0 rfl (lv_at hl 1 rfl) ?_
  refine lv_iconst (v := 1) hx hb dX7_where_1 (by decide) ?_
  refine lv_sipush (v := 1000) hx hb dX7_where_2 (by decide) ?_
  refine gl_calliS (va_runS (As := [.int v1, .int 1, .int 1000]) (rest := []) ⟨hx, hb, hml, hown, hts⟩ (mt_X7_within l D cI cZ cR  H.size v1 1 1000 _ h) (va_cwS 3 hts gX7_where_X7_within rfl rfl rfl (by decide +kernel) ⟨Nat.le_of_ble_eq_true rfl, Nat.le_of_ble_eq_true rfl⟩) ⟨gl_blind, gl_pre gl_nilP hK hN (gl_nilD (A := A))⟩ rfl rfl hl.1 rfl (lv_room (Nat.le_of_ble_eq_true rfl)) dX7_where_5 ⟨Nat.le_of_ble_eq_true rfl, Nat.le_of_ble_eq_true rfl⟩) hP hS hA (fun r1 u H locs h hP hS => ?_)
  try dsimp only at h
  refine lv_if_eq (tgt := 24) hx hb dX7_where_8 (by decide) (fun hc => ?_) (fun hc => ?_)
  · have h := h.1 hc
    exact ml_X7_where_24 G hK hN hA m_lines m_lineCopy m_lineDay m_linePlace m_lineTold m_now v1 v2 v3 post m_thrown h H locs hP hD hS ls (lv_sub hl [0, 1, 2, 3] rfl)
  · have h := h.2 hc
    refine lv_aload_n hx hb dX7_where_11 rfl (lv_at hl 0 rfl) ?_
    refine lv_iload_n hx hb dX7_where_12 rfl (lv_at hl 2 rfl) ?_
    refine lv_iload_n hx hb dX7_where_13 rfl (lv_at hl 3 rfl) ?_
    refine gl_calliF (va_runV (As := [.int v2, .int v3]) (rest := []) ⟨hx, hb, hml, hown, hts⟩ (mt_X7_areDays l D cI cZ cR ad_m H.size m_thrown m_rolls m_pitch m_first m_length m_marks m_markStep m_markTicks m_table m_order m_many m_heard m_pressed m_silents m_items m_itemPitch m_itemStep m_ends m_noteOf m_cost m_extra m_slotOf m_sights m_sightCopy m_sightPitch m_isFaulty m_least m_greatest m_lines m_lineCopy m_lineDay m_linePlace m_lineTold m_now v2 v3 _ h) (cwV 2 hts gX7_where_X7_areDays rfl rfl rfl (by decide +kernel) ⟨Nat.le_of_ble_eq_true rfl, Nat.le_of_ble_eq_true rfl⟩) ⟨gl_blind, va_recv hK hP (ci := 7) (q0 := 0) rfl rfl, gl_pre hP hK hN hD⟩ rfl rfl hl.1 rfl (lv_room (Nat.le_of_ble_eq_true rfl)) dX7_where_14 ⟨Nat.le_of_ble_eq_true rfl, Nat.le_of_ble_eq_true rfl⟩) hD hS hA (fun r2 u H locs h hP hD hS => ?_)
    try dsimp only at h
    refine lv_if_eq (tgt := 24) hx hb dX7_where_17 (by decide) (fun hc => ?_) (fun hc => ?_)
    · have h := h.1 hc
      exact ml_X7_where_24 G hK hN hA m_lines m_lineCopy m_lineDay m_linePlace m_lineTold m_now v1 v2 v3 post m_thrown h H locs hP hD hS ls (lv_sub hl [0, 1, 2, 3] rfl)
    · have h := h.2 hc
      refine lv_iconst (v := 1) hx hb dX7_where_20 (by decide) ?_
      refine lv_goto (tgt := 25) hx hb dX7_where_21 (by decide) ?_
      exact ml_X7_where_25 G hK hN hA m_lines m_lineCopy m_lineDay m_linePlace m_lineTold m_now v1 v2 v3 post 1 m_thrown h H locs hP hD hS ls (lv_sub hl [0, 1, 2, 3] rfl)
set_option maxRecDepth 100000 in
theorem mt_X7_where (l : Launch) (D : va_G) (cI cZ cR : ClassId) (ad_m : Nat → Nat) (sz : Nat) (m_thrown : Int32) (m_rolls : Int32) (m_pitch : Nat → Int32) (m_first : Nat → Int32) (m_length : Nat → Int32) (m_marks : Nat → Int32) (m_markStep : Nat → Int32) (m_markTicks : Nat → Int32) (m_table : Nat → Int32) (m_order : Nat → Int32) (m_many : Int32) (m_heard : Int32) (m_pressed : Int32) (m_silents : Int32) (m_items : Int32) (m_itemPitch : Nat → Int32) (m_itemStep : Nat → Int32) (m_ends : Nat → Int32) (m_noteOf : Nat → Int32) (m_cost : Int32) (m_extra : Int32) (m_slotOf : Nat → Int32) (m_sights : Int32) (m_sightCopy : Nat → Int32) (m_sightPitch : Nat → Int32) (m_isFaulty : Nat → Int32) (m_least : Int32) (m_greatest : Int32) (m_lines : Int32) (m_lineCopy : Nat → Int32) (m_lineDay : Nat → Int32) (m_linePlace : Nat → Int32) (m_lineTold : Nat → Int32) (m_now : Int32) (v1 : Int32) (v2 : Int32) (v3 : Int32) (post : Int32 → Int32 → Prop) (h : wp_X7_where m_lines m_lineCopy m_lineDay m_linePlace m_lineTold m_now v1 v2 v3 m_thrown post) : Met l yX7_where wsX7_where ({ frames := 2, cells := 0, slots := 0, locals := 44 }) (gPc D (gT cI cZ cR) (w_M cI cZ cR ad_m m_thrown m_rolls m_pitch m_first m_length m_marks m_markStep m_markTicks m_table m_order m_many m_heard m_pressed m_silents m_items m_itemPitch m_itemStep m_ends m_noteOf m_cost m_extra m_slotOf m_sights m_sightCopy m_sightPitch m_isFaulty m_least m_greatest m_lines m_lineCopy m_lineDay m_linePlace m_lineTold m_now) sz [.ref (ad_m 0), .int v1, .int v2, .int v3]) (va_Qi (fun (r : Int32) (u : (Int32)) => post r u) (fun u t => gB D (gT cI cZ cR) (va_A (w_M cI cZ cR ad_m m_thrown m_rolls m_pitch m_first m_length m_marks m_markStep m_markTicks m_table m_order m_many m_heard m_pressed m_silents m_items m_itemPitch m_itemStep m_ends m_noteOf m_cost m_extra m_slotOf m_sights m_sightCopy m_sightPitch m_isFaulty m_least m_greatest m_lines m_lineCopy m_lineDay m_linePlace m_lineTold m_now) sz) (w_M cI cZ cR ad_m u m_rolls m_pitch m_first m_length m_marks m_markStep m_markTicks m_table m_order m_many m_heard m_pressed m_silents m_items m_itemPitch m_itemStep m_ends m_noteOf m_cost m_extra m_slotOf m_sights m_sightCopy m_sightPitch m_isFaulty m_least m_greatest m_lines m_lineCopy m_lineDay m_linePlace m_lineTold m_now) t) (va_A (w_M cI cZ cR ad_m m_thrown m_rolls m_pitch m_first m_length m_marks m_markStep m_markTicks m_table m_order m_many m_heard m_pressed m_silents m_items m_itemPitch m_itemStep m_ends m_noteOf m_cost m_extra m_slotOf m_sights m_sightCopy m_sightPitch m_isFaulty m_least m_greatest m_lines m_lineCopy m_lineDay m_linePlace m_lineTold m_now) sz)) 0 0 (va_A (w_M cI cZ cR ad_m m_thrown m_rolls m_pitch m_first m_length m_marks m_markStep m_markTicks m_table m_order m_many m_heard m_pressed m_silents m_items m_itemPitch m_itemStep m_ends m_noteOf m_cost m_extra m_slotOf m_sights m_sightCopy m_sightPitch m_isFaulty m_least m_greatest m_lines m_lineCopy m_lineDay m_linePlace m_lineTold m_now) sz) := by
  refine gl_entry (cc := cX7_where) (maxL := 5) (ret := (some .int)) (by decide) rfl (Nat.le_of_ble_eq_true rfl) ?_
  intro p e s m below meth c ls G hin hsz hK hN hP hD hl
  subst hsz
  exact ml_X7_where_0 G hK hN (fun q h => Or.inr h) m_lines m_lineCopy m_lineDay m_linePlace m_lineTold m_now v1 v2 v3 post m_thrown h s.heap [] hP hD va_S.rf ls hl
theorem lk_X7_there_0 : (Cond.fieldLink RX7 71 "RollHouseModel" "thrown" "I") ∈ wsX7_there := by decide +kernel
theorem lk_X7_there_1 : (Cond.fieldLink RX7 186 "RollHouseModel" "lines" "I") ∈ wsX7_there := by decide +kernel
theorem lk_X7_there_2 : (Cond.fieldLink RX7 59 "RollHouseModel" "lineCopy" "[I") ∈ wsX7_there := by decide +kernel
theorem us_X7_there_X7 : ∀ w ∈ u_ws RX7 TX7 34, w ∈ wsX7_there := by decide +kernel
def wl_X7_there_47 (m_lines : Int32) (m_lineCopy : Nat → Int32) (m_lineDay : Nat → Int32) (m_linePlace : Nat → Int32) (m_lineTold : Nat → Int32) (m_now : Int32) (v1 : Int32) (v2 : Int32) (v3 : Int32) (post : Int32 → Int32 → Prop) (K32 : (Int32) → (Int32) → (Int32) → Prop) : Nat → (Int32) → (Int32) → (Int32) → (Int32) → (Int32) → Prop
  | 0, _, _, _, _, _ => False
  | fu + 1, v4, v5, v6, v7, m_thrown => ((v5 ≤ v7 → ((¬ v6 = 0 → K32 (v4 + 0) (v5 + 1) m_thrown) ∧ (v6 = 0 → (vp_in v5 200 ∧ (wp_X7_whereOf m_lines m_lineCopy m_lineDay m_linePlace m_lineTold (m_lineCopy v5.toNatClampNeg) v2 v3 (fun (r3 : Int32) => ((¬ r3 = v1 → K32 (v4 + 0) (v5 + 1) m_thrown) ∧ (r3 = v1 → K32 (v4 + 1) (v5 + 1) m_thrown)))))))) ∧ (¬ v5 ≤ v7 → ((¬ v6 = 0 → wl_X7_there_47 m_lines m_lineCopy m_lineDay m_linePlace m_lineTold m_now v1 v2 v3 post K32 fu v4 v5 1 (v7 + 1) m_thrown) ∧ (v6 = 0 → (vp_in v7 200 ∧ (vp_in v5 200 ∧ ((¬ (m_lineCopy v7.toNatClampNeg) = (m_lineCopy v5.toNatClampNeg) → wl_X7_there_47 m_lines m_lineCopy m_lineDay m_linePlace m_lineTold m_now v1 v2 v3 post K32 fu v4 v5 0 (v7 + 1) m_thrown) ∧ ((m_lineCopy v7.toNatClampNeg) = (m_lineCopy v5.toNatClampNeg) → wl_X7_there_47 m_lines m_lineCopy m_lineDay m_linePlace m_lineTold m_now v1 v2 v3 post K32 fu v4 v5 1 (v7 + 1) m_thrown))))))))
def wl_X7_there_32 (m_lines : Int32) (m_lineCopy : Nat → Int32) (m_lineDay : Nat → Int32) (m_linePlace : Nat → Int32) (m_lineTold : Nat → Int32) (m_now : Int32) (v1 : Int32) (v2 : Int32) (v3 : Int32) (post : Int32 → Int32 → Prop) : Nat → (Int32) → (Int32) → (Int32) → Prop
  | 0, _, _, _ => False
  | fu + 1, v4, v5, m_thrown => ((m_lines ≤ v5 → post v4 m_thrown) ∧ (¬ m_lines ≤ v5 → (∃ n, wl_X7_there_47 m_lines m_lineCopy m_lineDay m_linePlace m_lineTold m_now v1 v2 v3 post (wl_X7_there_32 m_lines m_lineCopy m_lineDay m_linePlace m_lineTold m_now v1 v2 v3 post fu) n v4 v5 0 0 m_thrown)))
def wp_X7_there (m_lines : Int32) (m_lineCopy : Nat → Int32) (m_lineDay : Nat → Int32) (m_linePlace : Nat → Int32) (m_lineTold : Nat → Int32) (m_now : Int32) (v1 : Int32) (v2 : Int32) (v3 : Int32) (m_thrown : Int32) (post : Int32 → Int32 → Prop) : Prop := (wp_X7_within v1 1 99 (fun (r1 : Int32) => ((r1 = 0 → post (-1) 0) ∧ (¬ r1 = 0 → (wp_X7_areDays m_now v2 v3 (fun (r2 : Int32) => ((¬ r2 = 0 → (∃ n, wl_X7_there_32 m_lines m_lineCopy m_lineDay m_linePlace m_lineTold m_now v1 v2 v3 post n 0 0 0)) ∧ (r2 = 0 → post (-1) 0))))))))
set_option maxRecDepth 100000 in
set_option maxHeartbeats 4000000 in
theorem ml_X7_there_47 {p : Program} {l : Launch} {e : Env} {s : State} {m : MethodId} {args : Array Value} {below : List Frame} {meth : Method} {c : Code} {D : va_G} {cI cZ cR : ClassId} {A : Nat → Prop} {ad_m : Nat → Nat} {m_rolls : Int32} {m_pitch : Nat → Int32} {m_first : Nat → Int32} {m_length : Nat → Int32} {m_marks : Nat → Int32} {m_markStep : Nat → Int32} {m_markTicks : Nat → Int32} {m_table : Nat → Int32} {m_order : Nat → Int32} {m_many : Int32} {m_heard : Int32} {m_pressed : Int32} {m_silents : Int32} {m_items : Int32} {m_itemPitch : Nat → Int32} {m_itemStep : Nat → Int32} {m_ends : Nat → Int32} {m_noteOf : Nat → Int32} {m_cost : Int32} {m_extra : Int32} {m_slotOf : Nat → Int32} {m_sights : Int32} {m_sightCopy : Nat → Int32} {m_sightPitch : Nat → Int32} {m_isFaulty : Nat → Int32} {m_least : Int32} {m_greatest : Int32} (G : gG p s m args meth c cX7_there (some .int) 8 RX7 wsX7_there) (hK : va_K D vwCl (gT cI cZ cR) s) (hN : va_Nw gN s) (hA : ∀ q, s.heap.size ≤ q → A q) (m_lines : Int32) (m_lineCopy : Nat → Int32) (m_lineDay : Nat → Int32) (m_linePlace : Nat → Int32) (m_lineTold : Nat → Int32) (m_now : Int32) (v1 : Int32) (v2 : Int32) (v3 : Int32) (post : Int32 → Int32 → Prop) (K32 : (Int32) → (Int32) → (Int32) → Prop) (hK32 : ∀ (v4 : Int32) (v5 : Int32) (m_thrown : Int32), K32 v4 v5 m_thrown → ∀ (H : Heap) (locs : List Loc), va_P D vwCl (w_M cI cZ cR ad_m m_thrown m_rolls m_pitch m_first m_length m_marks m_markStep m_markTicks m_table m_order m_many m_heard m_pressed m_silents m_items m_itemPitch m_itemStep m_ends m_noteOf m_cost m_extra m_slotOf m_sights m_sightCopy m_sightPitch m_isFaulty m_least m_greatest m_lines m_lineCopy m_lineDay m_linePlace m_lineTold m_now) H → va_D A (w_M cI cZ cR ad_m m_thrown m_rolls m_pitch m_first m_length m_marks m_markStep m_markTicks m_table m_order m_many m_heard m_pressed m_silents m_items m_itemPitch m_itemStep m_ends m_noteOf m_cost m_extra m_slotOf m_sights m_sightCopy m_sightPitch m_isFaulty m_least m_greatest m_lines m_lineCopy m_lineDay m_linePlace m_lineTold m_now) → va_S A s.heap H locs → ∀ (ls : Array Slot), lv_has ls 8 [(0, .ref (ad_m 0)), (1, .int v1), (2, .int v2), (3, .int v3), (4, .int v4), (5, .int v5)] → W p l e { frames := 2, cells := 0, slots := 0, locals := 44 } s m args below meth c H locs 0 0 (MQ below (va_Qi (fun (r : Int32) (u : (Int32)) => post r u) (fun u t => gB D (gT cI cZ cR) A (w_M cI cZ cR ad_m u m_rolls m_pitch m_first m_length m_marks m_markStep m_markTicks m_table m_order m_many m_heard m_pressed m_silents m_items m_itemPitch m_itemStep m_ends m_noteOf m_cost m_extra m_slotOf m_sights m_sightCopy m_sightPitch m_isFaulty m_least m_greatest m_lines m_lineCopy m_lineDay m_linePlace m_lineTold m_now) t) A) args s 0 0 A) (F0 m 32 ls [])) : ∀ (fu : Nat) (v4 : Int32) (v5 : Int32) (v6 : Int32) (v7 : Int32) (m_thrown : Int32), wl_X7_there_47 m_lines m_lineCopy m_lineDay m_linePlace m_lineTold m_now v1 v2 v3 post K32 fu v4 v5 v6 v7 m_thrown → ∀ (H : Heap) (locs : List Loc), va_P D vwCl (w_M cI cZ cR ad_m m_thrown m_rolls m_pitch m_first m_length m_marks m_markStep m_markTicks m_table m_order m_many m_heard m_pressed m_silents m_items m_itemPitch m_itemStep m_ends m_noteOf m_cost m_extra m_slotOf m_sights m_sightCopy m_sightPitch m_isFaulty m_least m_greatest m_lines m_lineCopy m_lineDay m_linePlace m_lineTold m_now) H → va_D A (w_M cI cZ cR ad_m m_thrown m_rolls m_pitch m_first m_length m_marks m_markStep m_markTicks m_table m_order m_many m_heard m_pressed m_silents m_items m_itemPitch m_itemStep m_ends m_noteOf m_cost m_extra m_slotOf m_sights m_sightCopy m_sightPitch m_isFaulty m_least m_greatest m_lines m_lineCopy m_lineDay m_linePlace m_lineTold m_now) → va_S A s.heap H locs → ∀ (ls : Array Slot), lv_has ls 8 [(0, .ref (ad_m 0)), (1, .int v1), (2, .int v2), (3, .int v3), (4, .int v4), (5, .int v5), (6, .int v6), (7, .int v7)] → W p l e { frames := 2, cells := 0, slots := 0, locals := 44 } s m args below meth c H locs 0 0 (MQ below (va_Qi (fun (r : Int32) (u : (Int32)) => post r u) (fun u t => gB D (gT cI cZ cR) A (w_M cI cZ cR ad_m u m_rolls m_pitch m_first m_length m_marks m_markStep m_markTicks m_table m_order m_many m_heard m_pressed m_silents m_items m_itemPitch m_itemStep m_ends m_noteOf m_cost m_extra m_slotOf m_sights m_sightCopy m_sightPitch m_isFaulty m_least m_greatest m_lines m_lineCopy m_lineDay m_linePlace m_lineTold m_now) t) A) args s 0 0 A) (F0 m 47 ls []) := by
  obtain ⟨hx, hb, hr, hml, hown, hts, hlocks⟩ := id G
  intro fu
  induction fu with
  | zero =>
    intro v4 v5 v6 v7 m_thrown h
    exact h.elim
  | succ fu ih =>
    intro v4 v5 v6 v7 m_thrown h H locs hP hD hS ls hl
    rw [wl_X7_there_47] at h
    refine lv_iload hx hb dX7_there_47 (lv_at hl 7 rfl) ?_
    refine lv_iload hx hb dX7_there_49 (lv_at hl 5 rfl) ?_
    refine lv_icmp_ge (tgt := 89) hx hb dX7_there_51 (by decide) (fun hc => ?_) (fun hc => ?_)
    · have h := h.1 hc
      refine lv_iload hx hb dX7_there_89 (lv_at hl 4 rfl) ?_
      refine lv_iload hx hb dX7_there_91 (lv_at hl 6 rfl) ?_
      refine lv_if_ne (tgt := 117) hx hb dX7_there_93 (by decide) (fun hc => ?_) (fun hc => ?_)
      · have h := h.1 hc
        refine lv_iconst (v := 0) hx hb dX7_there_117 (by decide) ?_
        refine lv_iadd hx hb dX7_there_118 ?_
        refine lv_istore (lv' := [(4, .int (v4 + 0)), (0, .ref (ad_m 0)), (1, .int v1), (2, .int v2), (3, .int v3), (5, .int v5), (6, .int v6), (7, .int v7)]) hx hb dX7_there_119 hl (by decide) rfl (fun ls hl => ?_)
        refine lv_iinc (v := v5 + 1) (lv' := [(5, .int (v5 + 1)), (4, .int (v4 + 0)), (0, .ref (ad_m 0)), (1, .int v1), (2, .int v2), (3, .int v3), (6, .int v6), (7, .int v7)]) hx hb dX7_there_121 hl (k := 5) rfl rfl (by decide) rfl (fun ls hl => ?_)
        refine lv_goto (tgt := 32) hx hb dX7_there_124 (by decide) ?_
        exact hK32 (v4 + 0) (v5 + 1) m_thrown h H locs hP hD hS ls (lv_sub hl [2, 3, 4, 5, 1, 0] rfl)
      · have h := h.2 hc
        refine lv_aload_n hx hb dX7_there_96 rfl (lv_at hl 0 rfl) ?_
        refine lv_aload_n hx hb dX7_there_97 rfl (lv_at hl 0 rfl) ?_
        refine va_get (D := D) (ci := 7) (v := .ref (ad_m 17)) (C := RX7) (T := TX7) (N := 34) hx hb hts us_X7_there_X7 hown hK hP 0 rfl rfl 29 (by decide) (hts (.fieldLink RX7 59 "RollHouseModel" "lineCopy" "[I") lk_X7_there_2) (fun _ h9 => h9) rfl dX7_there_98 ?_
        refine lv_iload hx hb dX7_there_101 (lv_at hl 5 rfl) ?_
        obtain ⟨hin, h⟩ := h
        refine va_iald hx hb hK hP 17 0 rfl rfl hin dX7_there_103 ?_
        refine lv_iload_n hx hb dX7_there_104 rfl (lv_at hl 2 rfl) ?_
        refine lv_iload_n hx hb dX7_there_105 rfl (lv_at hl 3 rfl) ?_
        refine gl_calliF (va_runV (As := [.int (m_lineCopy v5.toNatClampNeg), .int v2, .int v3]) (rest := [.int v4]) ⟨hx, hb, hml, hown, hts⟩ (mt_X7_whereOf l D cI cZ cR ad_m H.size m_thrown m_rolls m_pitch m_first m_length m_marks m_markStep m_markTicks m_table m_order m_many m_heard m_pressed m_silents m_items m_itemPitch m_itemStep m_ends m_noteOf m_cost m_extra m_slotOf m_sights m_sightCopy m_sightPitch m_isFaulty m_least m_greatest m_lines m_lineCopy m_lineDay m_linePlace m_lineTold m_now (m_lineCopy v5.toNatClampNeg) v2 v3 _ h) (cwV 3 hts gX7_there_X7_whereOf rfl rfl rfl (by decide +kernel) ⟨Nat.le_of_ble_eq_true rfl, Nat.le_of_ble_eq_true rfl⟩) ⟨gl_blind, va_recv hK hP (ci := 7) (q0 := 0) rfl rfl, gl_pre hP hK hN hD⟩ rfl rfl hl.1 rfl (lv_room (Nat.le_of_ble_eq_true rfl)) dX7_there_106 ⟨Nat.le_of_ble_eq_true rfl, Nat.le_of_ble_eq_true rfl⟩) hD hS hA (fun r3 u H locs h hP hD hS => ?_)
        try dsimp only at h
        refine lv_iload_n hx hb dX7_there_109 rfl (lv_at hl 1 rfl) ?_
        refine lv_icmp_ne (tgt := 117) hx hb dX7_there_110 (by decide) (fun hc => ?_) (fun hc => ?_)
        · have h := h.1 hc
          refine lv_iconst (v := 0) hx hb dX7_there_117 (by decide) ?_
          refine lv_iadd hx hb dX7_there_118 ?_
          refine lv_istore (lv' := [(4, .int (v4 + 0)), (0, .ref (ad_m 0)), (1, .int v1), (2, .int v2), (3, .int v3), (5, .int v5), (6, .int v6), (7, .int v7)]) hx hb dX7_there_119 hl (by decide) rfl (fun ls hl => ?_)
          refine lv_iinc (v := v5 + 1) (lv' := [(5, .int (v5 + 1)), (4, .int (v4 + 0)), (0, .ref (ad_m 0)), (1, .int v1), (2, .int v2), (3, .int v3), (6, .int v6), (7, .int v7)]) hx hb dX7_there_121 hl (k := 5) rfl rfl (by decide) rfl (fun ls hl => ?_)
          refine lv_goto (tgt := 32) hx hb dX7_there_124 (by decide) ?_
          exact hK32 (v4 + 0) (v5 + 1) m_thrown h H locs hP hD hS ls (lv_sub hl [2, 3, 4, 5, 1, 0] rfl)
        · have h := h.2 hc
          refine lv_iconst (v := 1) hx hb dX7_there_113 (by decide) ?_
          refine lv_goto (tgt := 118) hx hb dX7_there_114 (by decide) ?_
          refine lv_iadd hx hb dX7_there_118 ?_
          refine lv_istore (lv' := [(4, .int (v4 + 1)), (0, .ref (ad_m 0)), (1, .int v1), (2, .int v2), (3, .int v3), (5, .int v5), (6, .int v6), (7, .int v7)]) hx hb dX7_there_119 hl (by decide) rfl (fun ls hl => ?_)
          refine lv_iinc (v := v5 + 1) (lv' := [(5, .int (v5 + 1)), (4, .int (v4 + 1)), (0, .ref (ad_m 0)), (1, .int v1), (2, .int v2), (3, .int v3), (6, .int v6), (7, .int v7)]) hx hb dX7_there_121 hl (k := 5) rfl rfl (by decide) rfl (fun ls hl => ?_)
          refine lv_goto (tgt := 32) hx hb dX7_there_124 (by decide) ?_
          exact hK32 (v4 + 1) (v5 + 1) m_thrown h H locs hP hD hS ls (lv_sub hl [2, 3, 4, 5, 1, 0] rfl)
    · have h := h.2 hc
      refine lv_iload hx hb dX7_there_54 (lv_at hl 6 rfl) ?_
      refine lv_if_ne (tgt := 76) hx hb dX7_there_56 (by decide) (fun hc => ?_) (fun hc => ?_)
      · have h := h.1 hc
        refine lv_iconst (v := 1) hx hb dX7_there_76 (by decide) ?_
        refine lv_goto (tgt := 81) hx hb dX7_there_77 (by decide) ?_
        refine lv_istore (lv' := [(6, .int 1), (0, .ref (ad_m 0)), (1, .int v1), (2, .int v2), (3, .int v3), (4, .int v4), (5, .int v5), (7, .int v7)]) hx hb dX7_there_81 hl (by decide) rfl (fun ls hl => ?_)
        refine lv_iinc (v := v7 + 1) (lv' := [(7, .int (v7 + 1)), (6, .int 1), (0, .ref (ad_m 0)), (1, .int v1), (2, .int v2), (3, .int v3), (4, .int v4), (5, .int v5)]) hx hb dX7_there_83 hl (k := 7) rfl rfl (by decide) rfl (fun ls hl => ?_)
        refine lv_goto (tgt := 47) hx hb dX7_there_86 (by decide) ?_
        exact ih v4 v5 1 (v7 + 1) m_thrown h H locs hP hD hS ls (lv_sub hl [2, 3, 4, 5, 6, 7, 1, 0] rfl)
      · have h := h.2 hc
        refine lv_aload_n hx hb dX7_there_59 rfl (lv_at hl 0 rfl) ?_
        refine va_get (D := D) (ci := 7) (v := .ref (ad_m 17)) (C := RX7) (T := TX7) (N := 34) hx hb hts us_X7_there_X7 hown hK hP 0 rfl rfl 29 (by decide) (hts (.fieldLink RX7 59 "RollHouseModel" "lineCopy" "[I") lk_X7_there_2) (fun _ h9 => h9) rfl dX7_there_60 ?_
        refine lv_iload hx hb dX7_there_63 (lv_at hl 7 rfl) ?_
        obtain ⟨hin, h⟩ := h
        refine va_iald hx hb hK hP 17 0 rfl rfl hin dX7_there_65 ?_
        refine lv_aload_n hx hb dX7_there_66 rfl (lv_at hl 0 rfl) ?_
        refine va_get (D := D) (ci := 7) (v := .ref (ad_m 17)) (C := RX7) (T := TX7) (N := 34) hx hb hts us_X7_there_X7 hown hK hP 0 rfl rfl 29 (by decide) (hts (.fieldLink RX7 59 "RollHouseModel" "lineCopy" "[I") lk_X7_there_2) (fun _ h9 => h9) rfl dX7_there_67 ?_
        refine lv_iload hx hb dX7_there_70 (lv_at hl 5 rfl) ?_
        obtain ⟨hin, h⟩ := h
        refine va_iald hx hb hK hP 17 0 rfl rfl hin dX7_there_72 ?_
        refine lv_icmp_ne (tgt := 80) hx hb dX7_there_73 (by decide) (fun hc => ?_) (fun hc => ?_)
        · have h := h.1 hc
          refine lv_iconst (v := 0) hx hb dX7_there_80 (by decide) ?_
          refine lv_istore (lv' := [(6, .int 0), (0, .ref (ad_m 0)), (1, .int v1), (2, .int v2), (3, .int v3), (4, .int v4), (5, .int v5), (7, .int v7)]) hx hb dX7_there_81 hl (by decide) rfl (fun ls hl => ?_)
          refine lv_iinc (v := v7 + 1) (lv' := [(7, .int (v7 + 1)), (6, .int 0), (0, .ref (ad_m 0)), (1, .int v1), (2, .int v2), (3, .int v3), (4, .int v4), (5, .int v5)]) hx hb dX7_there_83 hl (k := 7) rfl rfl (by decide) rfl (fun ls hl => ?_)
          refine lv_goto (tgt := 47) hx hb dX7_there_86 (by decide) ?_
          exact ih v4 v5 0 (v7 + 1) m_thrown h H locs hP hD hS ls (lv_sub hl [2, 3, 4, 5, 6, 7, 1, 0] rfl)
        · have h := h.2 hc
          refine lv_iconst (v := 1) hx hb dX7_there_76 (by decide) ?_
          refine lv_goto (tgt := 81) hx hb dX7_there_77 (by decide) ?_
          refine lv_istore (lv' := [(6, .int 1), (0, .ref (ad_m 0)), (1, .int v1), (2, .int v2), (3, .int v3), (4, .int v4), (5, .int v5), (7, .int v7)]) hx hb dX7_there_81 hl (by decide) rfl (fun ls hl => ?_)
          refine lv_iinc (v := v7 + 1) (lv' := [(7, .int (v7 + 1)), (6, .int 1), (0, .ref (ad_m 0)), (1, .int v1), (2, .int v2), (3, .int v3), (4, .int v4), (5, .int v5)]) hx hb dX7_there_83 hl (k := 7) rfl rfl (by decide) rfl (fun ls hl => ?_)
          refine lv_goto (tgt := 47) hx hb dX7_there_86 (by decide) ?_
          exact ih v4 v5 1 (v7 + 1) m_thrown h H locs hP hD hS ls (lv_sub hl [2, 3, 4, 5, 6, 7, 1, 0] rfl)
set_option maxRecDepth 100000 in
set_option maxHeartbeats 4000000 in
theorem ml_X7_there_32 {p : Program} {l : Launch} {e : Env} {s : State} {m : MethodId} {args : Array Value} {below : List Frame} {meth : Method} {c : Code} {D : va_G} {cI cZ cR : ClassId} {A : Nat → Prop} {ad_m : Nat → Nat} {m_rolls : Int32} {m_pitch : Nat → Int32} {m_first : Nat → Int32} {m_length : Nat → Int32} {m_marks : Nat → Int32} {m_markStep : Nat → Int32} {m_markTicks : Nat → Int32} {m_table : Nat → Int32} {m_order : Nat → Int32} {m_many : Int32} {m_heard : Int32} {m_pressed : Int32} {m_silents : Int32} {m_items : Int32} {m_itemPitch : Nat → Int32} {m_itemStep : Nat → Int32} {m_ends : Nat → Int32} {m_noteOf : Nat → Int32} {m_cost : Int32} {m_extra : Int32} {m_slotOf : Nat → Int32} {m_sights : Int32} {m_sightCopy : Nat → Int32} {m_sightPitch : Nat → Int32} {m_isFaulty : Nat → Int32} {m_least : Int32} {m_greatest : Int32} (G : gG p s m args meth c cX7_there (some .int) 8 RX7 wsX7_there) (hK : va_K D vwCl (gT cI cZ cR) s) (hN : va_Nw gN s) (hA : ∀ q, s.heap.size ≤ q → A q) (m_lines : Int32) (m_lineCopy : Nat → Int32) (m_lineDay : Nat → Int32) (m_linePlace : Nat → Int32) (m_lineTold : Nat → Int32) (m_now : Int32) (v1 : Int32) (v2 : Int32) (v3 : Int32) (post : Int32 → Int32 → Prop) : ∀ (fu : Nat) (v4 : Int32) (v5 : Int32) (m_thrown : Int32), wl_X7_there_32 m_lines m_lineCopy m_lineDay m_linePlace m_lineTold m_now v1 v2 v3 post fu v4 v5 m_thrown → ∀ (H : Heap) (locs : List Loc), va_P D vwCl (w_M cI cZ cR ad_m m_thrown m_rolls m_pitch m_first m_length m_marks m_markStep m_markTicks m_table m_order m_many m_heard m_pressed m_silents m_items m_itemPitch m_itemStep m_ends m_noteOf m_cost m_extra m_slotOf m_sights m_sightCopy m_sightPitch m_isFaulty m_least m_greatest m_lines m_lineCopy m_lineDay m_linePlace m_lineTold m_now) H → va_D A (w_M cI cZ cR ad_m m_thrown m_rolls m_pitch m_first m_length m_marks m_markStep m_markTicks m_table m_order m_many m_heard m_pressed m_silents m_items m_itemPitch m_itemStep m_ends m_noteOf m_cost m_extra m_slotOf m_sights m_sightCopy m_sightPitch m_isFaulty m_least m_greatest m_lines m_lineCopy m_lineDay m_linePlace m_lineTold m_now) → va_S A s.heap H locs → ∀ (ls : Array Slot), lv_has ls 8 [(0, .ref (ad_m 0)), (1, .int v1), (2, .int v2), (3, .int v3), (4, .int v4), (5, .int v5)] → W p l e { frames := 2, cells := 0, slots := 0, locals := 44 } s m args below meth c H locs 0 0 (MQ below (va_Qi (fun (r : Int32) (u : (Int32)) => post r u) (fun u t => gB D (gT cI cZ cR) A (w_M cI cZ cR ad_m u m_rolls m_pitch m_first m_length m_marks m_markStep m_markTicks m_table m_order m_many m_heard m_pressed m_silents m_items m_itemPitch m_itemStep m_ends m_noteOf m_cost m_extra m_slotOf m_sights m_sightCopy m_sightPitch m_isFaulty m_least m_greatest m_lines m_lineCopy m_lineDay m_linePlace m_lineTold m_now) t) A) args s 0 0 A) (F0 m 32 ls []) := by
  obtain ⟨hx, hb, hr, hml, hown, hts, hlocks⟩ := id G
  intro fu
  induction fu with
  | zero =>
    intro v4 v5 m_thrown h
    exact h.elim
  | succ fu ih =>
    intro v4 v5 m_thrown h H locs hP hD hS ls hl
    rw [wl_X7_there_32] at h
    refine lv_iload hx hb dX7_there_32 (lv_at hl 5 rfl) ?_
    refine lv_aload_n hx hb dX7_there_34 rfl (lv_at hl 0 rfl) ?_
    refine va_get (D := D) (ci := 7) (v := .int m_lines) (C := RX7) (T := TX7) (N := 34) hx hb hts us_X7_there_X7 hown hK hP 0 rfl rfl 28 (by decide) (hts (.fieldLink RX7 186 "RollHouseModel" "lines" "I") lk_X7_there_1) (fun _ h9 => h9) rfl dX7_there_35 ?_
    refine lv_icmp_ge (tgt := 127) hx hb dX7_there_38 (by decide) (fun hc => ?_) (fun hc => ?_)
    · have h := h.1 hc
      refine lv_iload hx hb dX7_there_127 (lv_at hl 4 rfl) ?_
      exact gl_ireti G hK (u := m_thrown) hP hD hS h dX7_there_129
    · have h := h.2 hc
      refine lv_iconst (v := 0) hx hb dX7_there_41 (by decide) ?_
      refine lv_istore (lv' := [(6, .int 0), (0, .ref (ad_m 0)), (1, .int v1), (2, .int v2), (3, .int v3), (4, .int v4), (5, .int v5)]) hx hb dX7_there_42 hl (by decide) rfl (fun ls hl => ?_)
      refine lv_iconst (v := 0) hx hb dX7_there_44 (by decide) ?_
      refine lv_istore (lv' := [(7, .int 0), (6, .int 0), (0, .ref (ad_m 0)), (1, .int v1), (2, .int v2), (3, .int v3), (4, .int v4), (5, .int v5)]) hx hb dX7_there_45 hl (by decide) rfl (fun ls hl => ?_)
      obtain ⟨nf, h⟩ := h
      exact ml_X7_there_47 G hK hN hA m_lines m_lineCopy m_lineDay m_linePlace m_lineTold m_now v1 v2 v3 post (wl_X7_there_32 m_lines m_lineCopy m_lineDay m_linePlace m_lineTold m_now v1 v2 v3 post fu) ih nf v4 v5 0 0 m_thrown h H locs hP hD hS ls (lv_sub hl [2, 3, 4, 5, 6, 7, 1, 0] rfl)
set_option maxRecDepth 100000 in
set_option maxHeartbeats 4000000 in
theorem ml_X7_there_0 {p : Program} {l : Launch} {e : Env} {s : State} {m : MethodId} {args : Array Value} {below : List Frame} {meth : Method} {c : Code} {D : va_G} {cI cZ cR : ClassId} {A : Nat → Prop} {ad_m : Nat → Nat} {m_rolls : Int32} {m_pitch : Nat → Int32} {m_first : Nat → Int32} {m_length : Nat → Int32} {m_marks : Nat → Int32} {m_markStep : Nat → Int32} {m_markTicks : Nat → Int32} {m_table : Nat → Int32} {m_order : Nat → Int32} {m_many : Int32} {m_heard : Int32} {m_pressed : Int32} {m_silents : Int32} {m_items : Int32} {m_itemPitch : Nat → Int32} {m_itemStep : Nat → Int32} {m_ends : Nat → Int32} {m_noteOf : Nat → Int32} {m_cost : Int32} {m_extra : Int32} {m_slotOf : Nat → Int32} {m_sights : Int32} {m_sightCopy : Nat → Int32} {m_sightPitch : Nat → Int32} {m_isFaulty : Nat → Int32} {m_least : Int32} {m_greatest : Int32} (G : gG p s m args meth c cX7_there (some .int) 8 RX7 wsX7_there) (hK : va_K D vwCl (gT cI cZ cR) s) (hN : va_Nw gN s) (hA : ∀ q, s.heap.size ≤ q → A q) (m_lines : Int32) (m_lineCopy : Nat → Int32) (m_lineDay : Nat → Int32) (m_linePlace : Nat → Int32) (m_lineTold : Nat → Int32) (m_now : Int32) (v1 : Int32) (v2 : Int32) (v3 : Int32) (post : Int32 → Int32 → Prop) (m_thrown : Int32) (h : wp_X7_there m_lines m_lineCopy m_lineDay m_linePlace m_lineTold m_now v1 v2 v3 m_thrown post) : ∀ (H : Heap) (locs : List Loc), va_P D vwCl (w_M cI cZ cR ad_m m_thrown m_rolls m_pitch m_first m_length m_marks m_markStep m_markTicks m_table m_order m_many m_heard m_pressed m_silents m_items m_itemPitch m_itemStep m_ends m_noteOf m_cost m_extra m_slotOf m_sights m_sightCopy m_sightPitch m_isFaulty m_least m_greatest m_lines m_lineCopy m_lineDay m_linePlace m_lineTold m_now) H → va_D A (w_M cI cZ cR ad_m m_thrown m_rolls m_pitch m_first m_length m_marks m_markStep m_markTicks m_table m_order m_many m_heard m_pressed m_silents m_items m_itemPitch m_itemStep m_ends m_noteOf m_cost m_extra m_slotOf m_sights m_sightCopy m_sightPitch m_isFaulty m_least m_greatest m_lines m_lineCopy m_lineDay m_linePlace m_lineTold m_now) → va_S A s.heap H locs → ∀ (ls : Array Slot), lv_has ls 8 [(0, .ref (ad_m 0)), (1, .int v1), (2, .int v2), (3, .int v3)] → W p l e { frames := 2, cells := 0, slots := 0, locals := 44 } s m args below meth c H locs 0 0 (MQ below (va_Qi (fun (r : Int32) (u : (Int32)) => post r u) (fun u t => gB D (gT cI cZ cR) A (w_M cI cZ cR ad_m u m_rolls m_pitch m_first m_length m_marks m_markStep m_markTicks m_table m_order m_many m_heard m_pressed m_silents m_items m_itemPitch m_itemStep m_ends m_noteOf m_cost m_extra m_slotOf m_sights m_sightCopy m_sightPitch m_isFaulty m_least m_greatest m_lines m_lineCopy m_lineDay m_linePlace m_lineTold m_now) t) A) args s 0 0 A) (F0 m 0 ls []) := by
  obtain ⟨hx, hb, hr, hml, hown, hts, hlocks⟩ := id G
  intro H locs hP hD hS ls hl
  unfold wp_X7_there at h
  refine lv_aload_n hx hb dX7_there_0 rfl (lv_at hl 0 rfl) ?_
  refine lv_iconst (v := 0) hx hb dX7_there_1 (by decide) ?_
  refine va_put (D := D) (ci := 7) (v := .int 0) (ty := .int) (C := RX7) (T := TX7) (N := 34) hx hb hts us_X7_there_X7 tyX7 tyX7_ok nmX7 hown hK hP hD hS 0 rfl rfl 0 (by decide) (hts (.fieldLink RX7 71 "RollHouseModel" "thrown" "I") lk_X7_there_0) (fun _ h9 => h9) rfl (by decide +kernel) rfl rfl (Nat.le_of_ble_eq_true rfl) dX7_there_2 (fun H locs hP hD hS => ?_)
  have hP : va_P D vwCl (w_M cI cZ cR ad_m 0 m_rolls m_pitch m_first m_length m_marks m_markStep m_markTicks m_table m_order m_many m_heard m_pressed m_silents m_items m_itemPitch m_itemStep m_ends m_noteOf m_cost m_extra m_slotOf m_sights m_sightCopy m_sightPitch m_isFaulty m_least m_greatest m_lines m_lineCopy m_lineDay m_linePlace m_lineTold m_now) H := hP
  have hD : va_D A (w_M cI cZ cR ad_m 0 m_rolls m_pitch m_first m_length m_marks m_markStep m_markTicks m_table m_order m_many m_heard m_pressed m_silents m_items m_itemPitch m_itemStep m_ends m_noteOf m_cost m_extra m_slotOf m_sights m_sightCopy m_sightPitch m_isFaulty m_least m_greatest m_lines m_lineCopy m_lineDay m_linePlace m_lineTold m_now) := hD
  refine lv_iload_n hx hb dX7_there_5 rfl (lv_at hl 1 rfl) ?_
  refine lv_iconst (v := 1) hx hb dX7_there_6 (by decide) ?_
  refine lv_bipush (v := 99) hx hb dX7_there_7 (by decide) ?_
  refine gl_calliS (va_runS (As := [.int v1, .int 1, .int 99]) (rest := []) ⟨hx, hb, hml, hown, hts⟩ (mt_X7_within l D cI cZ cR  H.size v1 1 99 _ h) (va_cwS 3 hts gX7_there_X7_within rfl rfl rfl (by decide +kernel) ⟨Nat.le_of_ble_eq_true rfl, Nat.le_of_ble_eq_true rfl⟩) ⟨gl_blind, gl_pre gl_nilP hK hN (gl_nilD (A := A))⟩ rfl rfl hl.1 rfl (lv_room (Nat.le_of_ble_eq_true rfl)) dX7_there_9 ⟨Nat.le_of_ble_eq_true rfl, Nat.le_of_ble_eq_true rfl⟩) hP hS hA (fun r1 u H locs h hP hS => ?_)
  try dsimp only at h
  refine lv_if_eq (tgt := 24) hx hb dX7_there_12 (by decide) (fun hc => ?_) (fun hc => ?_)
  · have h := h.1 hc
    refine lv_iconst (v := (-1)) hx hb dX7_there_24 (by decide) ?_
    exact gl_ireti G hK (u := 0) hP hD hS h dX7_there_25
  · have h := h.2 hc
    refine lv_aload_n hx hb dX7_there_15 rfl (lv_at hl 0 rfl) ?_
    refine lv_iload_n hx hb dX7_there_16 rfl (lv_at hl 2 rfl) ?_
    refine lv_iload_n hx hb dX7_there_17 rfl (lv_at hl 3 rfl) ?_
    refine gl_calliF (va_runV (As := [.int v2, .int v3]) (rest := []) ⟨hx, hb, hml, hown, hts⟩ (mt_X7_areDays l D cI cZ cR ad_m H.size 0 m_rolls m_pitch m_first m_length m_marks m_markStep m_markTicks m_table m_order m_many m_heard m_pressed m_silents m_items m_itemPitch m_itemStep m_ends m_noteOf m_cost m_extra m_slotOf m_sights m_sightCopy m_sightPitch m_isFaulty m_least m_greatest m_lines m_lineCopy m_lineDay m_linePlace m_lineTold m_now v2 v3 _ h) (cwV 2 hts gX7_there_X7_areDays rfl rfl rfl (by decide +kernel) ⟨Nat.le_of_ble_eq_true rfl, Nat.le_of_ble_eq_true rfl⟩) ⟨gl_blind, va_recv hK hP (ci := 7) (q0 := 0) rfl rfl, gl_pre hP hK hN hD⟩ rfl rfl hl.1 rfl (lv_room (Nat.le_of_ble_eq_true rfl)) dX7_there_18 ⟨Nat.le_of_ble_eq_true rfl, Nat.le_of_ble_eq_true rfl⟩) hD hS hA (fun r2 u H locs h hP hD hS => ?_)
    try dsimp only at h
    refine lv_if_ne (tgt := 26) hx hb dX7_there_21 (by decide) (fun hc => ?_) (fun hc => ?_)
    · have h := h.1 hc
      refine lv_iconst (v := 0) hx hb dX7_there_26 (by decide) ?_
      refine lv_istore (lv' := [(4, .int 0), (0, .ref (ad_m 0)), (1, .int v1), (2, .int v2), (3, .int v3)]) hx hb dX7_there_27 hl (by decide) rfl (fun ls hl => ?_)
      refine lv_iconst (v := 0) hx hb dX7_there_29 (by decide) ?_
      refine lv_istore (lv' := [(5, .int 0), (4, .int 0), (0, .ref (ad_m 0)), (1, .int v1), (2, .int v2), (3, .int v3)]) hx hb dX7_there_30 hl (by decide) rfl (fun ls hl => ?_)
      obtain ⟨nf, h⟩ := h
      exact ml_X7_there_32 G hK hN hA m_lines m_lineCopy m_lineDay m_linePlace m_lineTold m_now v1 v2 v3 post nf 0 0 0 h H locs hP hD hS ls (lv_sub hl [2, 3, 4, 5, 1, 0] rfl)
    · have h := h.2 hc
      refine lv_iconst (v := (-1)) hx hb dX7_there_24 (by decide) ?_
      exact gl_ireti G hK (u := 0) hP hD hS h dX7_there_25
set_option maxRecDepth 100000 in
theorem mt_X7_there (l : Launch) (D : va_G) (cI cZ cR : ClassId) (ad_m : Nat → Nat) (sz : Nat) (m_thrown : Int32) (m_rolls : Int32) (m_pitch : Nat → Int32) (m_first : Nat → Int32) (m_length : Nat → Int32) (m_marks : Nat → Int32) (m_markStep : Nat → Int32) (m_markTicks : Nat → Int32) (m_table : Nat → Int32) (m_order : Nat → Int32) (m_many : Int32) (m_heard : Int32) (m_pressed : Int32) (m_silents : Int32) (m_items : Int32) (m_itemPitch : Nat → Int32) (m_itemStep : Nat → Int32) (m_ends : Nat → Int32) (m_noteOf : Nat → Int32) (m_cost : Int32) (m_extra : Int32) (m_slotOf : Nat → Int32) (m_sights : Int32) (m_sightCopy : Nat → Int32) (m_sightPitch : Nat → Int32) (m_isFaulty : Nat → Int32) (m_least : Int32) (m_greatest : Int32) (m_lines : Int32) (m_lineCopy : Nat → Int32) (m_lineDay : Nat → Int32) (m_linePlace : Nat → Int32) (m_lineTold : Nat → Int32) (m_now : Int32) (v1 : Int32) (v2 : Int32) (v3 : Int32) (post : Int32 → Int32 → Prop) (h : wp_X7_there m_lines m_lineCopy m_lineDay m_linePlace m_lineTold m_now v1 v2 v3 m_thrown post) : Met l yX7_there wsX7_there ({ frames := 2, cells := 0, slots := 0, locals := 44 }) (gPc D (gT cI cZ cR) (w_M cI cZ cR ad_m m_thrown m_rolls m_pitch m_first m_length m_marks m_markStep m_markTicks m_table m_order m_many m_heard m_pressed m_silents m_items m_itemPitch m_itemStep m_ends m_noteOf m_cost m_extra m_slotOf m_sights m_sightCopy m_sightPitch m_isFaulty m_least m_greatest m_lines m_lineCopy m_lineDay m_linePlace m_lineTold m_now) sz [.ref (ad_m 0), .int v1, .int v2, .int v3]) (va_Qi (fun (r : Int32) (u : (Int32)) => post r u) (fun u t => gB D (gT cI cZ cR) (va_A (w_M cI cZ cR ad_m m_thrown m_rolls m_pitch m_first m_length m_marks m_markStep m_markTicks m_table m_order m_many m_heard m_pressed m_silents m_items m_itemPitch m_itemStep m_ends m_noteOf m_cost m_extra m_slotOf m_sights m_sightCopy m_sightPitch m_isFaulty m_least m_greatest m_lines m_lineCopy m_lineDay m_linePlace m_lineTold m_now) sz) (w_M cI cZ cR ad_m u m_rolls m_pitch m_first m_length m_marks m_markStep m_markTicks m_table m_order m_many m_heard m_pressed m_silents m_items m_itemPitch m_itemStep m_ends m_noteOf m_cost m_extra m_slotOf m_sights m_sightCopy m_sightPitch m_isFaulty m_least m_greatest m_lines m_lineCopy m_lineDay m_linePlace m_lineTold m_now) t) (va_A (w_M cI cZ cR ad_m m_thrown m_rolls m_pitch m_first m_length m_marks m_markStep m_markTicks m_table m_order m_many m_heard m_pressed m_silents m_items m_itemPitch m_itemStep m_ends m_noteOf m_cost m_extra m_slotOf m_sights m_sightCopy m_sightPitch m_isFaulty m_least m_greatest m_lines m_lineCopy m_lineDay m_linePlace m_lineTold m_now) sz)) 0 0 (va_A (w_M cI cZ cR ad_m m_thrown m_rolls m_pitch m_first m_length m_marks m_markStep m_markTicks m_table m_order m_many m_heard m_pressed m_silents m_items m_itemPitch m_itemStep m_ends m_noteOf m_cost m_extra m_slotOf m_sights m_sightCopy m_sightPitch m_isFaulty m_least m_greatest m_lines m_lineCopy m_lineDay m_linePlace m_lineTold m_now) sz) := by
  refine gl_entry (cc := cX7_there) (maxL := 8) (ret := (some .int)) (by decide) rfl (Nat.le_of_ble_eq_true rfl) ?_
  intro p e s m below meth c ls G hin hsz hK hN hP hD hl
  subst hsz
  exact ml_X7_there_0 G hK hN (fun q h => Or.inr h) m_lines m_lineCopy m_lineDay m_linePlace m_lineTold m_now v1 v2 v3 post m_thrown h s.heap [] hP hD va_S.rf ls hl
theorem lk_X7_count_0 : (Cond.fieldLink RX7 71 "RollHouseModel" "thrown" "I") ∈ wsX7_count := by decide +kernel
theorem lk_X7_count_1 : (Cond.fieldLink RX7 75 "RollHouseModel" "rolls" "I") ∈ wsX7_count := by decide +kernel
theorem lk_X7_count_2 : (Cond.fieldLink RX7 152 "RollHouseModel" "items" "I") ∈ wsX7_count := by decide +kernel
theorem lk_X7_count_3 : (Cond.fieldLink RX7 173 "RollHouseModel" "sights" "I") ∈ wsX7_count := by decide +kernel
theorem lk_X7_count_4 : (Cond.fieldLink RX7 186 "RollHouseModel" "lines" "I") ∈ wsX7_count := by decide +kernel
theorem lk_X7_count_5 : (Cond.fieldLink RX7 189 "RollHouseModel" "now" "I") ∈ wsX7_count := by decide +kernel
theorem lk_X7_count_6 : (Cond.fieldLink RX7 19 "RollHouseModel" "marks" "[I") ∈ wsX7_count := by decide +kernel
theorem us_X7_count_X7 : ∀ w ∈ u_ws RX7 TX7 34, w ∈ wsX7_count := by decide +kernel
def wp_X7_count (m_rolls : Int32) (m_length : Nat → Int32) (m_marks : Nat → Int32) (m_items : Int32) (m_sights : Int32) (m_lines : Int32) (m_now : Int32) (v1 : Int32) (m_thrown : Int32) (post : Int32 → Int32 → Prop) : Prop := ((v1 = 0 → post m_rolls 0) ∧ (¬ v1 = 0 → ((v1 = 1 → post m_items 0) ∧ (¬ v1 = 1 → ((v1 = 2 → post m_sights 0) ∧ (¬ v1 = 2 → ((v1 = 3 → post m_lines 0) ∧ (¬ v1 = 3 → ((v1 = 4 → post m_now 0) ∧ (¬ v1 = 4 → (wp_X7_isRoll m_rolls (v1 - 10) (fun (r1 : Int32) => ((r1 = 0 → (wp_X7_isRoll m_rolls (v1 - 20) (fun (r2 : Int32) => ((r2 = 0 → post (-1) 0) ∧ (¬ r2 = 0 → (vp_in (v1 - 20) 6 ∧ post (m_marks (v1 - 20).toNatClampNeg) 0)))))) ∧ (¬ r1 = 0 → (wp_X7_notes m_length (v1 - 10) (fun (r3 : Int32) => post r3 0))))))))))))))))
set_option maxRecDepth 100000 in
set_option maxHeartbeats 4000000 in
theorem ml_X7_count_0 {p : Program} {l : Launch} {e : Env} {s : State} {m : MethodId} {args : Array Value} {below : List Frame} {meth : Method} {c : Code} {D : va_G} {cI cZ cR : ClassId} {A : Nat → Prop} {ad_m : Nat → Nat} {m_pitch : Nat → Int32} {m_first : Nat → Int32} {m_markStep : Nat → Int32} {m_markTicks : Nat → Int32} {m_table : Nat → Int32} {m_order : Nat → Int32} {m_many : Int32} {m_heard : Int32} {m_pressed : Int32} {m_silents : Int32} {m_itemPitch : Nat → Int32} {m_itemStep : Nat → Int32} {m_ends : Nat → Int32} {m_noteOf : Nat → Int32} {m_cost : Int32} {m_extra : Int32} {m_slotOf : Nat → Int32} {m_sightCopy : Nat → Int32} {m_sightPitch : Nat → Int32} {m_isFaulty : Nat → Int32} {m_least : Int32} {m_greatest : Int32} {m_lineCopy : Nat → Int32} {m_lineDay : Nat → Int32} {m_linePlace : Nat → Int32} {m_lineTold : Nat → Int32} (G : gG p s m args meth c cX7_count (some .int) 2 RX7 wsX7_count) (hK : va_K D vwCl (gT cI cZ cR) s) (hN : va_Nw gN s) (hA : ∀ q, s.heap.size ≤ q → A q) (m_rolls : Int32) (m_length : Nat → Int32) (m_marks : Nat → Int32) (m_items : Int32) (m_sights : Int32) (m_lines : Int32) (m_now : Int32) (v1 : Int32) (post : Int32 → Int32 → Prop) (m_thrown : Int32) (h : wp_X7_count m_rolls m_length m_marks m_items m_sights m_lines m_now v1 m_thrown post) : ∀ (H : Heap) (locs : List Loc), va_P D vwCl (w_M cI cZ cR ad_m m_thrown m_rolls m_pitch m_first m_length m_marks m_markStep m_markTicks m_table m_order m_many m_heard m_pressed m_silents m_items m_itemPitch m_itemStep m_ends m_noteOf m_cost m_extra m_slotOf m_sights m_sightCopy m_sightPitch m_isFaulty m_least m_greatest m_lines m_lineCopy m_lineDay m_linePlace m_lineTold m_now) H → va_D A (w_M cI cZ cR ad_m m_thrown m_rolls m_pitch m_first m_length m_marks m_markStep m_markTicks m_table m_order m_many m_heard m_pressed m_silents m_items m_itemPitch m_itemStep m_ends m_noteOf m_cost m_extra m_slotOf m_sights m_sightCopy m_sightPitch m_isFaulty m_least m_greatest m_lines m_lineCopy m_lineDay m_linePlace m_lineTold m_now) → va_S A s.heap H locs → ∀ (ls : Array Slot), lv_has ls 2 [(0, .ref (ad_m 0)), (1, .int v1)] → W p l e { frames := 2, cells := 0, slots := 0, locals := 43 } s m args below meth c H locs 0 0 (MQ below (va_Qi (fun (r : Int32) (u : (Int32)) => post r u) (fun u t => gB D (gT cI cZ cR) A (w_M cI cZ cR ad_m u m_rolls m_pitch m_first m_length m_marks m_markStep m_markTicks m_table m_order m_many m_heard m_pressed m_silents m_items m_itemPitch m_itemStep m_ends m_noteOf m_cost m_extra m_slotOf m_sights m_sightCopy m_sightPitch m_isFaulty m_least m_greatest m_lines m_lineCopy m_lineDay m_linePlace m_lineTold m_now) t) A) args s 0 0 A) (F0 m 0 ls []) := by
  obtain ⟨hx, hb, hr, hml, hown, hts, hlocks⟩ := id G
  intro H locs hP hD hS ls hl
  unfold wp_X7_count at h
  refine lv_aload_n hx hb dX7_count_0 rfl (lv_at hl 0 rfl) ?_
  refine lv_iconst (v := 0) hx hb dX7_count_1 (by decide) ?_
  refine va_put (D := D) (ci := 7) (v := .int 0) (ty := .int) (C := RX7) (T := TX7) (N := 34) hx hb hts us_X7_count_X7 tyX7 tyX7_ok nmX7 hown hK hP hD hS 0 rfl rfl 0 (by decide) (hts (.fieldLink RX7 71 "RollHouseModel" "thrown" "I") lk_X7_count_0) (fun _ h9 => h9) rfl (by decide +kernel) rfl rfl (Nat.le_of_ble_eq_true rfl) dX7_count_2 (fun H locs hP hD hS => ?_)
  have hP : va_P D vwCl (w_M cI cZ cR ad_m 0 m_rolls m_pitch m_first m_length m_marks m_markStep m_markTicks m_table m_order m_many m_heard m_pressed m_silents m_items m_itemPitch m_itemStep m_ends m_noteOf m_cost m_extra m_slotOf m_sights m_sightCopy m_sightPitch m_isFaulty m_least m_greatest m_lines m_lineCopy m_lineDay m_linePlace m_lineTold m_now) H := hP
  have hD : va_D A (w_M cI cZ cR ad_m 0 m_rolls m_pitch m_first m_length m_marks m_markStep m_markTicks m_table m_order m_many m_heard m_pressed m_silents m_items m_itemPitch m_itemStep m_ends m_noteOf m_cost m_extra m_slotOf m_sights m_sightCopy m_sightPitch m_isFaulty m_least m_greatest m_lines m_lineCopy m_lineDay m_linePlace m_lineTold m_now) := hD
  refine lv_iload_n hx hb dX7_count_5 rfl (lv_at hl 1 rfl) ?_
  by_cases hc0 : v1 = 0
  · have h := h.1 hc0
    refine lv_tableIn (tgt := 40) hx hb dX7_count_6 (by rw [hc0]; decide) (by rw [hc0]; decide) (by rw [hc0]; rfl) (by decide) ?_
    refine lv_aload_n hx hb dX7_count_40 rfl (lv_at hl 0 rfl) ?_
    refine va_get (D := D) (ci := 7) (v := .int m_rolls) (C := RX7) (T := TX7) (N := 34) hx hb hts us_X7_count_X7 hown hK hP 0 rfl rfl 1 (by decide) (hts (.fieldLink RX7 75 "RollHouseModel" "rolls" "I") lk_X7_count_1) (fun _ h9 => h9) rfl dX7_count_41 ?_
    exact gl_ireti G hK (u := 0) hP hD hS h dX7_count_44
  · have h := h.2 hc0
    by_cases hc1 : v1 = 1
    · have h := h.1 hc1
      refine lv_tableIn (tgt := 45) hx hb dX7_count_6 (by rw [hc1]; decide) (by rw [hc1]; decide) (by rw [hc1]; rfl) (by decide) ?_
      refine lv_aload_n hx hb dX7_count_45 rfl (lv_at hl 0 rfl) ?_
      refine va_get (D := D) (ci := 7) (v := .int m_items) (C := RX7) (T := TX7) (N := 34) hx hb hts us_X7_count_X7 hown hK hP 0 rfl rfl 14 (by decide) (hts (.fieldLink RX7 152 "RollHouseModel" "items" "I") lk_X7_count_2) (fun _ h9 => h9) rfl dX7_count_46 ?_
      exact gl_ireti G hK (u := 0) hP hD hS h dX7_count_49
    · have h := h.2 hc1
      by_cases hc2 : v1 = 2
      · have h := h.1 hc2
        refine lv_tableIn (tgt := 50) hx hb dX7_count_6 (by rw [hc2]; decide) (by rw [hc2]; decide) (by rw [hc2]; rfl) (by decide) ?_
        refine lv_aload_n hx hb dX7_count_50 rfl (lv_at hl 0 rfl) ?_
        refine va_get (D := D) (ci := 7) (v := .int m_sights) (C := RX7) (T := TX7) (N := 34) hx hb hts us_X7_count_X7 hown hK hP 0 rfl rfl 22 (by decide) (hts (.fieldLink RX7 173 "RollHouseModel" "sights" "I") lk_X7_count_3) (fun _ h9 => h9) rfl dX7_count_51 ?_
        exact gl_ireti G hK (u := 0) hP hD hS h dX7_count_54
      · have h := h.2 hc2
        by_cases hc3 : v1 = 3
        · have h := h.1 hc3
          refine lv_tableIn (tgt := 55) hx hb dX7_count_6 (by rw [hc3]; decide) (by rw [hc3]; decide) (by rw [hc3]; rfl) (by decide) ?_
          refine lv_aload_n hx hb dX7_count_55 rfl (lv_at hl 0 rfl) ?_
          refine va_get (D := D) (ci := 7) (v := .int m_lines) (C := RX7) (T := TX7) (N := 34) hx hb hts us_X7_count_X7 hown hK hP 0 rfl rfl 28 (by decide) (hts (.fieldLink RX7 186 "RollHouseModel" "lines" "I") lk_X7_count_4) (fun _ h9 => h9) rfl dX7_count_56 ?_
          exact gl_ireti G hK (u := 0) hP hD hS h dX7_count_59
        · have h := h.2 hc3
          by_cases hc4 : v1 = 4
          · have h := h.1 hc4
            refine lv_tableIn (tgt := 60) hx hb dX7_count_6 (by rw [hc4]; decide) (by rw [hc4]; decide) (by rw [hc4]; rfl) (by decide) ?_
            refine lv_aload_n hx hb dX7_count_60 rfl (lv_at hl 0 rfl) ?_
            refine va_get (D := D) (ci := 7) (v := .int m_now) (C := RX7) (T := TX7) (N := 34) hx hb hts us_X7_count_X7 hown hK hP 0 rfl rfl 33 (by decide) (hts (.fieldLink RX7 189 "RollHouseModel" "now" "I") lk_X7_count_5) (fun _ h9 => h9) rfl dX7_count_61 ?_
            exact gl_ireti G hK (u := 0) hP hD hS h dX7_count_64
          · have h := h.2 hc4
            refine lv_tableOut (tgt := 65) hx hb dX7_count_6 (gl_sw (n := 4) (by decide) (fun k hk => by match k, hk with | 0, _ => exact hc0 | 1, _ => exact hc1 | 2, _ => exact hc2 | 3, _ => exact hc3 | 4, _ => exact hc4)) (by decide) ?_
            refine lv_aload_n hx hb dX7_count_65 rfl (lv_at hl 0 rfl) ?_
            refine lv_iload_n hx hb dX7_count_66 rfl (lv_at hl 1 rfl) ?_
            refine lv_bipush (v := 10) hx hb dX7_count_67 (by decide) ?_
            refine lv_isub hx hb dX7_count_69 ?_
            refine gl_calliF (va_runV (As := [.int (v1 - 10)]) (rest := []) ⟨hx, hb, hml, hown, hts⟩ (mt_X7_isRoll l D cI cZ cR ad_m H.size 0 m_rolls m_pitch m_first m_length m_marks m_markStep m_markTicks m_table m_order m_many m_heard m_pressed m_silents m_items m_itemPitch m_itemStep m_ends m_noteOf m_cost m_extra m_slotOf m_sights m_sightCopy m_sightPitch m_isFaulty m_least m_greatest m_lines m_lineCopy m_lineDay m_linePlace m_lineTold m_now (v1 - 10) _ h) (cwV 1 hts gX7_count_X7_isRoll rfl rfl rfl (by decide +kernel) ⟨Nat.le_of_ble_eq_true rfl, Nat.le_of_ble_eq_true rfl⟩) ⟨gl_blind, va_recv hK hP (ci := 7) (q0 := 0) rfl rfl, gl_pre hP hK hN hD⟩ rfl rfl hl.1 rfl (lv_room (Nat.le_of_ble_eq_true rfl)) dX7_count_70 ⟨Nat.le_of_ble_eq_true rfl, Nat.le_of_ble_eq_true rfl⟩) hD hS hA (fun r1 u H locs h hP hD hS => ?_)
            try dsimp only at h
            refine lv_if_eq (tgt := 85) hx hb dX7_count_73 (by decide) (fun hc => ?_) (fun hc => ?_)
            · have h := h.1 hc
              refine lv_aload_n hx hb dX7_count_85 rfl (lv_at hl 0 rfl) ?_
              refine lv_iload_n hx hb dX7_count_86 rfl (lv_at hl 1 rfl) ?_
              refine lv_bipush (v := 20) hx hb dX7_count_87 (by decide) ?_
              refine lv_isub hx hb dX7_count_89 ?_
              refine gl_calliF (va_runV (As := [.int (v1 - 20)]) (rest := []) ⟨hx, hb, hml, hown, hts⟩ (mt_X7_isRoll l D cI cZ cR ad_m H.size 0 m_rolls m_pitch m_first m_length m_marks m_markStep m_markTicks m_table m_order m_many m_heard m_pressed m_silents m_items m_itemPitch m_itemStep m_ends m_noteOf m_cost m_extra m_slotOf m_sights m_sightCopy m_sightPitch m_isFaulty m_least m_greatest m_lines m_lineCopy m_lineDay m_linePlace m_lineTold m_now (v1 - 20) _ h) (cwV 1 hts gX7_count_X7_isRoll rfl rfl rfl (by decide +kernel) ⟨Nat.le_of_ble_eq_true rfl, Nat.le_of_ble_eq_true rfl⟩) ⟨gl_blind, va_recv hK hP (ci := 7) (q0 := 0) rfl rfl, gl_pre hP hK hN hD⟩ rfl rfl hl.1 rfl (lv_room (Nat.le_of_ble_eq_true rfl)) dX7_count_90 ⟨Nat.le_of_ble_eq_true rfl, Nat.le_of_ble_eq_true rfl⟩) hD hS hA (fun r2 u H locs h hP hD hS => ?_)
              try dsimp only at h
              refine lv_if_eq (tgt := 108) hx hb dX7_count_93 (by decide) (fun hc => ?_) (fun hc => ?_)
              · have h := h.1 hc
                refine lv_iconst (v := (-1)) hx hb dX7_count_108 (by decide) ?_
                exact gl_ireti G hK (u := 0) hP hD hS h dX7_count_109
              · have h := h.2 hc
                refine lv_aload_n hx hb dX7_count_96 rfl (lv_at hl 0 rfl) ?_
                refine va_get (D := D) (ci := 7) (v := .ref (ad_m 4)) (C := RX7) (T := TX7) (N := 34) hx hb hts us_X7_count_X7 hown hK hP 0 rfl rfl 5 (by decide) (hts (.fieldLink RX7 19 "RollHouseModel" "marks" "[I") lk_X7_count_6) (fun _ h9 => h9) rfl dX7_count_97 ?_
                refine lv_iload_n hx hb dX7_count_100 rfl (lv_at hl 1 rfl) ?_
                refine lv_bipush (v := 20) hx hb dX7_count_101 (by decide) ?_
                refine lv_isub hx hb dX7_count_103 ?_
                obtain ⟨hin, h⟩ := h
                refine va_iald hx hb hK hP 4 0 rfl rfl hin dX7_count_104 ?_
                refine lv_goto (tgt := 109) hx hb dX7_count_105 (by decide) ?_
                exact gl_ireti G hK (u := 0) hP hD hS h dX7_count_109
            · have h := h.2 hc
              refine lv_aload_n hx hb dX7_count_76 rfl (lv_at hl 0 rfl) ?_
              refine lv_iload_n hx hb dX7_count_77 rfl (lv_at hl 1 rfl) ?_
              refine lv_bipush (v := 10) hx hb dX7_count_78 (by decide) ?_
              refine lv_isub hx hb dX7_count_80 ?_
              refine gl_calliF (va_runV (As := [.int (v1 - 10)]) (rest := []) ⟨hx, hb, hml, hown, hts⟩ (mt_X7_notes l D cI cZ cR ad_m H.size 0 m_rolls m_pitch m_first m_length m_marks m_markStep m_markTicks m_table m_order m_many m_heard m_pressed m_silents m_items m_itemPitch m_itemStep m_ends m_noteOf m_cost m_extra m_slotOf m_sights m_sightCopy m_sightPitch m_isFaulty m_least m_greatest m_lines m_lineCopy m_lineDay m_linePlace m_lineTold m_now (v1 - 10) _ h) (cwV 1 hts gX7_count_X7_notes rfl rfl rfl (by decide +kernel) ⟨Nat.le_of_ble_eq_true rfl, Nat.le_of_ble_eq_true rfl⟩) ⟨gl_blind, va_recv hK hP (ci := 7) (q0 := 0) rfl rfl, gl_pre hP hK hN hD⟩ rfl rfl hl.1 rfl (lv_room (Nat.le_of_ble_eq_true rfl)) dX7_count_81 ⟨Nat.le_of_ble_eq_true rfl, Nat.le_of_ble_eq_true rfl⟩) hD hS hA (fun r3 u H locs h hP hD hS => ?_)
              try dsimp only at h
              exact gl_ireti G hK (u := 0) hP hD hS h dX7_count_84
set_option maxRecDepth 100000 in
theorem mt_X7_count (l : Launch) (D : va_G) (cI cZ cR : ClassId) (ad_m : Nat → Nat) (sz : Nat) (m_thrown : Int32) (m_rolls : Int32) (m_pitch : Nat → Int32) (m_first : Nat → Int32) (m_length : Nat → Int32) (m_marks : Nat → Int32) (m_markStep : Nat → Int32) (m_markTicks : Nat → Int32) (m_table : Nat → Int32) (m_order : Nat → Int32) (m_many : Int32) (m_heard : Int32) (m_pressed : Int32) (m_silents : Int32) (m_items : Int32) (m_itemPitch : Nat → Int32) (m_itemStep : Nat → Int32) (m_ends : Nat → Int32) (m_noteOf : Nat → Int32) (m_cost : Int32) (m_extra : Int32) (m_slotOf : Nat → Int32) (m_sights : Int32) (m_sightCopy : Nat → Int32) (m_sightPitch : Nat → Int32) (m_isFaulty : Nat → Int32) (m_least : Int32) (m_greatest : Int32) (m_lines : Int32) (m_lineCopy : Nat → Int32) (m_lineDay : Nat → Int32) (m_linePlace : Nat → Int32) (m_lineTold : Nat → Int32) (m_now : Int32) (v1 : Int32) (post : Int32 → Int32 → Prop) (h : wp_X7_count m_rolls m_length m_marks m_items m_sights m_lines m_now v1 m_thrown post) : Met l yX7_count wsX7_count ({ frames := 2, cells := 0, slots := 0, locals := 43 }) (gPc D (gT cI cZ cR) (w_M cI cZ cR ad_m m_thrown m_rolls m_pitch m_first m_length m_marks m_markStep m_markTicks m_table m_order m_many m_heard m_pressed m_silents m_items m_itemPitch m_itemStep m_ends m_noteOf m_cost m_extra m_slotOf m_sights m_sightCopy m_sightPitch m_isFaulty m_least m_greatest m_lines m_lineCopy m_lineDay m_linePlace m_lineTold m_now) sz [.ref (ad_m 0), .int v1]) (va_Qi (fun (r : Int32) (u : (Int32)) => post r u) (fun u t => gB D (gT cI cZ cR) (va_A (w_M cI cZ cR ad_m m_thrown m_rolls m_pitch m_first m_length m_marks m_markStep m_markTicks m_table m_order m_many m_heard m_pressed m_silents m_items m_itemPitch m_itemStep m_ends m_noteOf m_cost m_extra m_slotOf m_sights m_sightCopy m_sightPitch m_isFaulty m_least m_greatest m_lines m_lineCopy m_lineDay m_linePlace m_lineTold m_now) sz) (w_M cI cZ cR ad_m u m_rolls m_pitch m_first m_length m_marks m_markStep m_markTicks m_table m_order m_many m_heard m_pressed m_silents m_items m_itemPitch m_itemStep m_ends m_noteOf m_cost m_extra m_slotOf m_sights m_sightCopy m_sightPitch m_isFaulty m_least m_greatest m_lines m_lineCopy m_lineDay m_linePlace m_lineTold m_now) t) (va_A (w_M cI cZ cR ad_m m_thrown m_rolls m_pitch m_first m_length m_marks m_markStep m_markTicks m_table m_order m_many m_heard m_pressed m_silents m_items m_itemPitch m_itemStep m_ends m_noteOf m_cost m_extra m_slotOf m_sights m_sightCopy m_sightPitch m_isFaulty m_least m_greatest m_lines m_lineCopy m_lineDay m_linePlace m_lineTold m_now) sz)) 0 0 (va_A (w_M cI cZ cR ad_m m_thrown m_rolls m_pitch m_first m_length m_marks m_markStep m_markTicks m_table m_order m_many m_heard m_pressed m_silents m_items m_itemPitch m_itemStep m_ends m_noteOf m_cost m_extra m_slotOf m_sights m_sightCopy m_sightPitch m_isFaulty m_least m_greatest m_lines m_lineCopy m_lineDay m_linePlace m_lineTold m_now) sz) := by
  refine gl_entry (cc := cX7_count) (maxL := 2) (ret := (some .int)) (by decide) rfl (Nat.le_of_ble_eq_true rfl) ?_
  intro p e s m below meth c ls G hin hsz hK hN hP hD hl
  subst hsz
  exact ml_X7_count_0 G hK hN (fun q h => Or.inr h) m_rolls m_length m_marks m_items m_sights m_lines m_now v1 post m_thrown h s.heap [] hP hD va_S.rf ls hl
