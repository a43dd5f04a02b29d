theorem lk_X7_fills_0 : (Cond.fieldLink RX7 28 "RollHouseModel" "table" "[Z") ∈ wsX7_fills := by decide +kernel
theorem lk_X7_fills_1 : (Cond.fieldLink RX7 13 "RollHouseModel" "first" "[I") ∈ wsX7_fills := by decide +kernel
theorem lk_X7_fills_2 : (Cond.fieldLink RX7 16 "RollHouseModel" "length" "[I") ∈ wsX7_fills := by decide +kernel
theorem lk_X7_fills_3 : (Cond.fieldLink RX7 7 "RollHouseModel" "pitch" "[I") ∈ wsX7_fills := by decide +kernel
theorem us_X7_fills_X7 : ∀ w ∈ u_ws RX7 TX7 34, w ∈ wsX7_fills := by decide +kernel
def wl_X7_fills_45 (m_pitch : Nat → Int32) (m_first : Nat → Int32) (m_length : Nat → Int32) (v1 : Int32) (post : (Nat → Int32) → Prop) (K27 : (Int32) → (Nat → Int32) → Prop) : Nat → (Int32) → (Int32) → (Nat → Int32) → Prop
  | 0, _, _, _ => False
  | fu + 1, v2, v3, m_table => (vp_in v2 360 ∧ (vp_in v2 360 ∧ ((((m_first v2.toNatClampNeg) + (m_length v2.toNatClampNeg)) ≤ v3 → K27 (v2 + 1) m_table) ∧ (¬ ((m_first v2.toNatClampNeg) + (m_length v2.toNatClampNeg)) ≤ v3 → (wp_X7_isPunched m_first m_length v2 v3 (fun (r4 : Int32) => ((r4 = 0 → wl_X7_fills_45 m_pitch m_first m_length v1 post K27 fu v2 (v3 + 1) m_table) ∧ (¬ r4 = 0 → (vp_in v2 360 ∧ (vp_in ((24 * v3) + (m_pitch v2.toNatClampNeg)) 7200 ∧ (∀ a5 : Nat → Int32, a5 = upd m_table ((24 * v3) + (m_pitch v2.toNatClampNeg)).toNatClampNeg (vp_nar .boolean 1) → wl_X7_fills_45 m_pitch m_first m_length v1 post K27 fu v2 (v3 + 1) a5)))))))))))
def wl_X7_fills_27 (m_pitch : Nat → Int32) (m_first : Nat → Int32) (m_length : Nat → Int32) (v1 : Int32) (post : (Nat → Int32) → Prop) : Nat → (Int32) → (Nat → Int32) → Prop
  | 0, _, _ => False
  | fu + 1, v2, m_table => ((((60 * v1) + 60) ≤ v2 → post m_table) ∧ (¬ ((60 * v1) + 60) ≤ v2 → (vp_in v2 360 ∧ (∀ z3 : Int32, z3 = m_first v2.toNatClampNeg → (∃ n, wl_X7_fills_45 m_pitch m_first m_length v1 post (wl_X7_fills_27 m_pitch m_first m_length v1 post fu) n v2 z3 m_table)))))
def wl_X7_fills_2 (m_pitch : Nat → Int32) (m_first : Nat → Int32) (m_length : Nat → Int32) (v1 : Int32) (post : (Nat → Int32) → Prop) : Nat → (Int32) → (Nat → Int32) → Prop
  | 0, _, _ => False
  | fu + 1, v2, m_table => ((7200 ≤ v2 → (∀ z1 : Int32, z1 = 60 * v1 → (∃ n, wl_X7_fills_27 m_pitch m_first m_length v1 post n z1 m_table))) ∧ (¬ 7200 ≤ v2 → (vp_in v2 7200 ∧ (∀ a2 : Nat → Int32, a2 = upd m_table v2.toNatClampNeg (vp_nar .boolean 0) → wl_X7_fills_2 m_pitch m_first m_length v1 post fu (v2 + 1) a2))))
def wp_X7_fills (m_pitch : Nat → Int32) (m_first : Nat → Int32) (m_length : Nat → Int32) (v1 : Int32) (m_table : Nat → Int32) (post : (Nat → Int32) → Prop) : Prop := (∃ n, wl_X7_fills_2 m_pitch m_first m_length v1 post n 0 m_table)
set_option maxRecDepth 100000 in
set_option maxHeartbeats 4000000 in
theorem ml_X7_fills_45 {p : Program} {l : Launch} {e : Env} {s : State} {m : MethodId} {args : Array Value} {below : List Frame} {meth : Method} {c : Code} {D : va_G} {cI cZ cR : ClassId} {A : Nat → Prop} {ad_m : Nat → Nat} {m_thrown : Int32} {m_rolls : Int32} {m_marks : Nat → Int32} {m_markStep : Nat → Int32} {m_markTicks : Nat → Int32} {m_order : Nat → Int32} {m_many : Int32} {m_heard : Int32} {m_pressed : Int32} {m_silents : Int32} {m_items : Int32} {m_itemPitch : Nat → Int32} {m_itemStep : Nat → Int32} {m_ends : Nat → Int32} {m_noteOf : Nat → Int32} {m_cost : Int32} {m_extra : Int32} {m_slotOf : Nat → Int32} {m_sights : Int32} {m_sightCopy : Nat → Int32} {m_sightPitch : Nat → Int32} {m_isFaulty : Nat → Int32} {m_least : Int32} {m_greatest : Int32} {m_lines : Int32} {m_lineCopy : Nat → Int32} {m_lineDay : Nat → Int32} {m_linePlace : Nat → Int32} {m_lineTold : Nat → Int32} {m_now : Int32} (G : gG p s m args meth c cX7_fills none 4 RX7 wsX7_fills) (hK : va_K D vwCl (gT cI cZ cR) s) (hN : va_Nw gN s) (hA : ∀ q, s.heap.size ≤ q → A q) (m_pitch : Nat → Int32) (m_first : Nat → Int32) (m_length : Nat → Int32) (v1 : Int32) (post : (Nat → Int32) → Prop) (K27 : (Int32) → (Nat → Int32) → Prop) (hK27 : ∀ (v2 : Int32) (m_table : Nat → Int32), K27 v2 m_table → ∀ (H : Heap) (locs : List Loc), va_P D vwCl (w_M cI cZ cR ad_m m_thrown m_rolls m_pitch m_first m_length m_marks m_markStep m_markTicks m_table m_order m_many m_heard m_pressed m_silents m_items m_itemPitch m_itemStep m_ends m_noteOf m_cost m_extra m_slotOf m_sights m_sightCopy m_sightPitch m_isFaulty m_least m_greatest m_lines m_lineCopy m_lineDay m_linePlace m_lineTold m_now) H → va_D A (w_M cI cZ cR ad_m m_thrown m_rolls m_pitch m_first m_length m_marks m_markStep m_markTicks m_table m_order m_many m_heard m_pressed m_silents m_items m_itemPitch m_itemStep m_ends m_noteOf m_cost m_extra m_slotOf m_sights m_sightCopy m_sightPitch m_isFaulty m_least m_greatest m_lines m_lineCopy m_lineDay m_linePlace m_lineTold m_now) → va_S A s.heap H locs → ∀ (ls : Array Slot), lv_has ls 4 [(0, .ref (ad_m 0)), (1, .int v1), (2, .int v2)] → W p l e { frames := 3, cells := 0, slots := 0, locals := 67 } s m args below meth c H locs 0 0 (MQ below (va_Qv (fun (u : (Nat → Int32)) => post u) (fun u t => gB D (gT cI cZ cR) A (w_M cI cZ cR ad_m m_thrown m_rolls m_pitch m_first m_length m_marks m_markStep m_markTicks u m_order m_many m_heard m_pressed m_silents m_items m_itemPitch m_itemStep m_ends m_noteOf m_cost m_extra m_slotOf m_sights m_sightCopy m_sightPitch m_isFaulty m_least m_greatest m_lines m_lineCopy m_lineDay m_linePlace m_lineTold m_now) t) A) args s 0 0 A) (F0 m 27 ls [])) : ∀ (fu : Nat) (v2 : Int32) (v3 : Int32) (m_table : Nat → Int32), wl_X7_fills_45 m_pitch m_first m_length v1 post K27 fu v2 v3 m_table → ∀ (H : Heap) (locs : List Loc), va_P D vwCl (w_M cI cZ cR ad_m m_thrown m_rolls m_pitch m_first m_length m_marks m_markStep m_markTicks m_table m_order m_many m_heard m_pressed m_silents m_items m_itemPitch m_itemStep m_ends m_noteOf m_cost m_extra m_slotOf m_sights m_sightCopy m_sightPitch m_isFaulty m_least m_greatest m_lines m_lineCopy m_lineDay m_linePlace m_lineTold m_now) H → va_D A (w_M cI cZ cR ad_m m_thrown m_rolls m_pitch m_first m_length m_marks m_markStep m_markTicks m_table m_order m_many m_heard m_pressed m_silents m_items m_itemPitch m_itemStep m_ends m_noteOf m_cost m_extra m_slotOf m_sights m_sightCopy m_sightPitch m_isFaulty m_least m_greatest m_lines m_lineCopy m_lineDay m_linePlace m_lineTold m_now) → va_S A s.heap H locs → ∀ (ls : Array Slot), lv_has ls 4 [(0, .ref (ad_m 0)), (1, .int v1), (2, .int v2), (3, .int v3)] → W p l e { frames := 3, cells := 0, slots := 0, locals := 67 } s m args below meth c H locs 0 0 (MQ below (va_Qv (fun (u : (Nat → Int32)) => post u) (fun u t => gB D (gT cI cZ cR) A (w_M cI cZ cR ad_m m_thrown m_rolls m_pitch m_first m_length m_marks m_markStep m_markTicks u m_order m_many m_heard m_pressed m_silents m_items m_itemPitch m_itemStep m_ends m_noteOf m_cost m_extra m_slotOf m_sights m_sightCopy m_sightPitch m_isFaulty m_least m_greatest m_lines m_lineCopy m_lineDay m_linePlace m_lineTold m_now) t) A) args s 0 0 A) (F0 m 45 ls []) := by
  obtain ⟨hx, hb, hr, hml, hown, hts, hlocks⟩ := id G
  intro fu
  induction fu with
  | zero =>
    intro v2 v3 m_table h
    exact h.elim
  | succ fu ih =>
    intro v2 v3 m_table h H locs hP hD hS ls hl
    rw [wl_X7_fills_45] at h
    refine lv_iload_n hx hb dX7_fills_45 rfl (lv_at hl 3 rfl) ?_
    refine lv_aload_n hx hb dX7_fills_46 rfl (lv_at hl 0 rfl) ?_
    refine va_get (D := D) (ci := 7) (v := .ref (ad_m 2)) (C := RX7) (T := TX7) (N := 34) hx hb hts us_X7_fills_X7 hown hK hP 0 rfl rfl 3 (by decide) (hts (.fieldLink RX7 13 "RollHouseModel" "first" "[I") lk_X7_fills_1) (fun _ h9 => h9) rfl dX7_fills_47 ?_
    refine lv_iload_n hx hb dX7_fills_50 rfl (lv_at hl 2 rfl) ?_
    obtain ⟨hin, h⟩ := h
    refine va_iald hx hb hK hP 2 0 rfl rfl hin dX7_fills_51 ?_
    refine lv_aload_n hx hb dX7_fills_52 rfl (lv_at hl 0 rfl) ?_
    refine va_get (D := D) (ci := 7) (v := .ref (ad_m 3)) (C := RX7) (T := TX7) (N := 34) hx hb hts us_X7_fills_X7 hown hK hP 0 rfl rfl 4 (by decide) (hts (.fieldLink RX7 16 "RollHouseModel" "length" "[I") lk_X7_fills_2) (fun _ h9 => h9) rfl dX7_fills_53 ?_
    refine lv_iload_n hx hb dX7_fills_56 rfl (lv_at hl 2 rfl) ?_
    obtain ⟨hin, h⟩ := h
    refine va_iald hx hb hK hP 3 0 rfl rfl hin dX7_fills_57 ?_
    refine lv_iadd hx hb dX7_fills_58 ?_
    refine lv_icmp_ge (tgt := 94) hx hb dX7_fills_59 (by decide) (fun hc => ?_) (fun hc => ?_)
    · have h := h.1 hc
      refine lv_iinc (v := v2 + 1) (lv' := [(2, .int (v2 + 1)), (0, .ref (ad_m 0)), (1, .int v1), (3, .int v3)]) hx hb dX7_fills_94 hl (k := 2) rfl rfl (by decide) rfl (fun ls hl => ?_)
      refine lv_goto (tgt := 27) hx hb dX7_fills_97 (by decide) ?_
      exact hK27 (v2 + 1) m_table h H locs hP hD hS ls (lv_sub hl [1, 2, 0] rfl)
    · have h := h.2 hc
      refine lv_aload_n hx hb dX7_fills_62 rfl (lv_at hl 0 rfl) ?_
      refine lv_iload_n hx hb dX7_fills_63 rfl (lv_at hl 2 rfl) ?_
      refine lv_iload_n hx hb dX7_fills_64 rfl (lv_at hl 3 rfl) ?_
      refine gl_calliF (va_runV (As := [.int v2, .int v3]) (rest := []) ⟨hx, hb, hml, hown, hts⟩ (mt_X7_isPunched l D cI cZ cR ad_m H.size m_thrown m_rolls m_pitch m_first m_length m_marks m_markStep m_markTicks m_table m_order m_many m_heard m_pressed m_silents m_items m_itemPitch m_itemStep m_ends m_noteOf m_cost m_extra m_slotOf m_sights m_sightCopy m_sightPitch m_isFaulty m_least m_greatest m_lines m_lineCopy m_lineDay m_linePlace m_lineTold m_now v2 v3 _ h) (cwV 2 hts gX7_fills_X7_isPunched rfl rfl rfl (by decide +kernel) ⟨Nat.le_of_ble_eq_true rfl, Nat.le_of_ble_eq_true rfl⟩) ⟨gl_blind, va_recv hK hP (ci := 7) (q0 := 0) rfl rfl, gl_pre hP hK hN hD⟩ rfl rfl hl.1 rfl (lv_room (Nat.le_of_ble_eq_true rfl)) dX7_fills_65 ⟨Nat.le_of_ble_eq_true rfl, Nat.le_of_ble_eq_true rfl⟩) hD hS hA (fun r4 u H locs h hP hD hS => ?_)
      try dsimp only at h
      refine lv_if_eq (tgt := 88) hx hb dX7_fills_68 (by decide) (fun hc => ?_) (fun hc => ?_)
      · have h := h.1 hc
        refine lv_iinc (v := v3 + 1) (lv' := [(3, .int (v3 + 1)), (0, .ref (ad_m 0)), (1, .int v1), (2, .int v2)]) hx hb dX7_fills_88 hl (k := 3) rfl rfl (by decide) rfl (fun ls hl => ?_)
        refine lv_goto (tgt := 45) hx hb dX7_fills_91 (by decide) ?_
        exact ih v2 (v3 + 1) m_table h H locs hP hD hS ls (lv_sub hl [1, 2, 3, 0] rfl)
      · have h := h.2 hc
        refine lv_aload_n hx hb dX7_fills_71 rfl (lv_at hl 0 rfl) ?_
        refine va_get (D := D) (ci := 7) (v := .ref (ad_m 7)) (C := RX7) (T := TX7) (N := 34) hx hb hts us_X7_fills_X7 hown hK hP 0 rfl rfl 8 (by decide) (hts (.fieldLink RX7 28 "RollHouseModel" "table" "[Z") lk_X7_fills_0) (fun _ h9 => h9) rfl dX7_fills_72 ?_
        refine lv_bipush (v := 24) hx hb dX7_fills_75 (by decide) ?_
        refine lv_iload_n hx hb dX7_fills_77 rfl (lv_at hl 3 rfl) ?_
        refine lv_imul hx hb dX7_fills_78 ?_
        refine lv_aload_n hx hb dX7_fills_79 rfl (lv_at hl 0 rfl) ?_
        refine va_get (D := D) (ci := 7) (v := .ref (ad_m 1)) (C := RX7) (T := TX7) (N := 34) hx hb hts us_X7_fills_X7 hown hK hP 0 rfl rfl 2 (by decide) (hts (.fieldLink RX7 7 "RollHouseModel" "pitch" "[I") lk_X7_fills_3) (fun _ h9 => h9) rfl dX7_fills_80 ?_
        refine lv_iload_n hx hb dX7_fills_83 rfl (lv_at hl 2 rfl) ?_
        obtain ⟨hin, h⟩ := h
        refine va_iald hx hb hK hP 1 0 rfl rfl hin dX7_fills_84 ?_
        refine lv_iadd hx hb dX7_fills_85 ?_
        refine lv_iconst (v := 1) hx hb dX7_fills_86 (by decide) ?_
        obtain ⟨hin, h⟩ := h
        refine va_zast hx hb hK hP hD hS 7 1 rfl rfl hin dX7_fills_87 (fun H locs hP hD hS => ?_)
        obtain ⟨a5, ea5⟩ : ∃ f, f = upd m_table ((24 * v3) + (m_pitch v2.toNatClampNeg)).toNatClampNeg (vp_nar .boolean 1) := ⟨_, rfl⟩
        have h := h a5 ea5
        rw [← ea5] at hP hD
        have hP : va_P D vwCl (w_M cI cZ cR ad_m m_thrown m_rolls m_pitch m_first m_length m_marks m_markStep m_markTicks a5 m_order m_many m_heard m_pressed m_silents m_items m_itemPitch m_itemStep m_ends m_noteOf m_cost m_extra m_slotOf m_sights m_sightCopy m_sightPitch m_isFaulty m_least m_greatest m_lines m_lineCopy m_lineDay m_linePlace m_lineTold m_now) H := hP
        have hD : va_D A (w_M cI cZ cR ad_m m_thrown m_rolls m_pitch m_first m_length m_marks m_markStep m_markTicks a5 m_order m_many m_heard m_pressed m_silents m_items m_itemPitch m_itemStep m_ends m_noteOf m_cost m_extra m_slotOf m_sights m_sightCopy m_sightPitch m_isFaulty m_least m_greatest m_lines m_lineCopy m_lineDay m_linePlace m_lineTold m_now) := hD
        refine lv_iinc (v := v3 + 1) (lv' := [(3, .int (v3 + 1)), (0, .ref (ad_m 0)), (1, .int v1), (2, .int v2)]) hx hb dX7_fills_88 hl (k := 3) rfl rfl (by decide) rfl (fun ls hl => ?_)
        refine lv_goto (tgt := 45) hx hb dX7_fills_91 (by decide) ?_
        exact ih v2 (v3 + 1) a5 h H locs hP hD hS ls (lv_sub hl [1, 2, 3, 0] rfl)
set_option maxRecDepth 100000 in
set_option maxHeartbeats 4000000 in
theorem ml_X7_fills_27 {p : Program} {l : Launch} {e : Env} {s : State} {m : MethodId} {args : Array Value} {below : List Frame} {meth : Method} {c : Code} {D : va_G} {cI cZ cR : ClassId} {A : Nat → Prop} {ad_m : Nat → Nat} {m_thrown : Int32} {m_rolls : Int32} {m_marks : Nat → Int32} {m_markStep : Nat → Int32} {m_markTicks : Nat → Int32} {m_order : Nat → Int32} {m_many : Int32} {m_heard : Int32} {m_pressed : Int32} {m_silents : Int32} {m_items : Int32} {m_itemPitch : Nat → Int32} {m_itemStep : Nat → Int32} {m_ends : Nat → Int32} {m_noteOf : Nat → Int32} {m_cost : Int32} {m_extra : Int32} {m_slotOf : Nat → Int32} {m_sights : Int32} {m_sightCopy : Nat → Int32} {m_sightPitch : Nat → Int32} {m_isFaulty : Nat → Int32} {m_least : Int32} {m_greatest : Int32} {m_lines : Int32} {m_lineCopy : Nat → Int32} {m_lineDay : Nat → Int32} {m_linePlace : Nat → Int32} {m_lineTold : Nat → Int32} {m_now : Int32} (G : gG p s m args meth c cX7_fills none 4 RX7 wsX7_fills) (hK : va_K D vwCl (gT cI cZ cR) s) (hN : va_Nw gN s) (hA : ∀ q, s.heap.size ≤ q → A q) (m_pitch : Nat → Int32) (m_first : Nat → Int32) (m_length : Nat → Int32) (v1 : Int32) (post : (Nat → Int32) → Prop) : ∀ (fu : Nat) (v2 : Int32) (m_table : Nat → Int32), wl_X7_fills_27 m_pitch m_first m_length v1 post fu v2 m_table → ∀ (H : Heap) (locs : List Loc), va_P D vwCl (w_M cI cZ cR ad_m m_thrown m_rolls m_pitch m_first m_length m_marks m_markStep m_markTicks m_table m_order m_many m_heard m_pressed m_silents m_items m_itemPitch m_itemStep m_ends m_noteOf m_cost m_extra m_slotOf m_sights m_sightCopy m_sightPitch m_isFaulty m_least m_greatest m_lines m_lineCopy m_lineDay m_linePlace m_lineTold m_now) H → va_D A (w_M cI cZ cR ad_m m_thrown m_rolls m_pitch m_first m_length m_marks m_markStep m_markTicks m_table m_order m_many m_heard m_pressed m_silents m_items m_itemPitch m_itemStep m_ends m_noteOf m_cost m_extra m_slotOf m_sights m_sightCopy m_sightPitch m_isFaulty m_least m_greatest m_lines m_lineCopy m_lineDay m_linePlace m_lineTold m_now) → va_S A s.heap H locs → ∀ (ls : Array Slot), lv_has ls 4 [(0, .ref (ad_m 0)), (1, .int v1), (2, .int v2)] → W p l e { frames := 3, cells := 0, slots := 0, locals := 67 } s m args below meth c H locs 0 0 (MQ below (va_Qv (fun (u : (Nat → Int32)) => post u) (fun u t => gB D (gT cI cZ cR) A (w_M cI cZ cR ad_m m_thrown m_rolls m_pitch m_first m_length m_marks m_markStep m_markTicks u m_order m_many m_heard m_pressed m_silents m_items m_itemPitch m_itemStep m_ends m_noteOf m_cost m_extra m_slotOf m_sights m_sightCopy m_sightPitch m_isFaulty m_least m_greatest m_lines m_lineCopy m_lineDay m_linePlace m_lineTold m_now) t) A) args s 0 0 A) (F0 m 27 ls []) := by
  obtain ⟨hx, hb, hr, hml, hown, hts, hlocks⟩ := id G
  intro fu
  induction fu with
  | zero =>
    intro v2 m_table h
    exact h.elim
  | succ fu ih =>
    intro v2 m_table h H locs hP hD hS ls hl
    rw [wl_X7_fills_27] at h
    refine lv_iload_n hx hb dX7_fills_27 rfl (lv_at hl 2 rfl) ?_
    refine lv_bipush (v := 60) hx hb dX7_fills_28 (by decide) ?_
    refine lv_iload_n hx hb dX7_fills_30 rfl (lv_at hl 1 rfl) ?_
    refine lv_imul hx hb dX7_fills_31 ?_
    refine lv_bipush (v := 60) hx hb dX7_fills_32 (by decide) ?_
    refine lv_iadd hx hb dX7_fills_34 ?_
    refine lv_icmp_ge (tgt := 100) hx hb dX7_fills_35 (by decide) (fun hc => ?_) (fun hc => ?_)
    · have h := h.1 hc
      exact gl_retv G hK (u := m_table) hP hD hS h dX7_fills_100
    · have h := h.2 hc
      refine lv_aload_n hx hb dX7_fills_38 rfl (lv_at hl 0 rfl) ?_
      refine va_get (D := D) (ci := 7) (v := .ref (ad_m 2)) (C := RX7) (T := TX7) (N := 34) hx hb hts us_X7_fills_X7 hown hK hP 0 rfl rfl 3 (by decide) (hts (.fieldLink RX7 13 "RollHouseModel" "first" "[I") lk_X7_fills_1) (fun _ h9 => h9) rfl dX7_fills_39 ?_
      refine lv_iload_n hx hb dX7_fills_42 rfl (lv_at hl 2 rfl) ?_
      obtain ⟨hin, h⟩ := h
      refine va_iald hx hb hK hP 2 0 rfl rfl hin dX7_fills_43 ?_
      refine lv_topi (fun z3 ez3 => ?_)
      have h := h z3 ez3
      refine lv_istore_n (lv' := [(3, .int z3), (0, .ref (ad_m 0)), (1, .int v1), (2, .int v2)]) hx hb dX7_fills_44 rfl hl (by decide) rfl (fun ls hl => ?_)
      obtain ⟨nf, h⟩ := h
      exact ml_X7_fills_45 G hK hN hA m_pitch m_first m_length v1 post (wl_X7_fills_27 m_pitch m_first m_length v1 post fu) ih nf v2 z3 m_table h H locs hP hD hS ls (lv_sub hl [1, 2, 3, 0] rfl)
set_option maxRecDepth 100000 in
set_option maxHeartbeats 4000000 in
theorem ml_X7_fills_2 {p : Program} {l : Launch} {e : Env} {s : State} {m : MethodId} {args : Array Value} {below : List Frame} {meth : Method} {c : Code} {D : va_G} {cI cZ cR : ClassId} {A : Nat → Prop} {ad_m : Nat → Nat} {m_thrown : Int32} {m_rolls : Int32} {m_marks : Nat → Int32} {m_markStep : Nat → Int32} {m_markTicks : Nat → Int32} {m_order : Nat → Int32} {m_many : Int32} {m_heard : Int32} {m_pressed : Int32} {m_silents : Int32} {m_items : Int32} {m_itemPitch : Nat → Int32} {m_itemStep : Nat → Int32} {m_ends : Nat → Int32} {m_noteOf : Nat → Int32} {m_cost : Int32} {m_extra : Int32} {m_slotOf : Nat → Int32} {m_sights : Int32} {m_sightCopy : Nat → Int32} {m_sightPitch : Nat → Int32} {m_isFaulty : Nat → Int32} {m_least : Int32} {m_greatest : Int32} {m_lines : Int32} {m_lineCopy : Nat → Int32} {m_lineDay : Nat → Int32} {m_linePlace : Nat → Int32} {m_lineTold : Nat → Int32} {m_now : Int32} (G : gG p s m args meth c cX7_fills none 4 RX7 wsX7_fills) (hK : va_K D vwCl (gT cI cZ cR) s) (hN : va_Nw gN s) (hA : ∀ q, s.heap.size ≤ q → A q) (m_pitch : Nat → Int32) (m_first : Nat → Int32) (m_length : Nat → Int32) (v1 : Int32) (post : (Nat → Int32) → Prop) : ∀ (fu : Nat) (v2 : Int32) (m_table : Nat → Int32), wl_X7_fills_2 m_pitch m_first m_length v1 post fu v2 m_table → ∀ (H : Heap) (locs : List Loc), va_P D vwCl (w_M cI cZ cR ad_m m_thrown m_rolls m_pitch m_first m_length m_marks m_markStep m_markTicks m_table m_order m_many m_heard m_pressed m_silents m_items m_itemPitch m_itemStep m_ends m_noteOf m_cost m_extra m_slotOf m_sights m_sightCopy m_sightPitch m_isFaulty m_least m_greatest m_lines m_lineCopy m_lineDay m_linePlace m_lineTold m_now) H → va_D A (w_M cI cZ cR ad_m m_thrown m_rolls m_pitch m_first m_length m_marks m_markStep m_markTicks m_table m_order m_many m_heard m_pressed m_silents m_items m_itemPitch m_itemStep m_ends m_noteOf m_cost m_extra m_slotOf m_sights m_sightCopy m_sightPitch m_isFaulty m_least m_greatest m_lines m_lineCopy m_lineDay m_linePlace m_lineTold m_now) → va_S A s.heap H locs → ∀ (ls : Array Slot), lv_has ls 4 [(0, .ref (ad_m 0)), (1, .int v1), (2, .int v2)] → W p l e { frames := 3, cells := 0, slots := 0, locals := 67 } s m args below meth c H locs 0 0 (MQ below (va_Qv (fun (u : (Nat → Int32)) => post u) (fun u t => gB D (gT cI cZ cR) A (w_M cI cZ cR ad_m m_thrown m_rolls m_pitch m_first m_length m_marks m_markStep m_markTicks u m_order m_many m_heard m_pressed m_silents m_items m_itemPitch m_itemStep m_ends m_noteOf m_cost m_extra m_slotOf m_sights m_sightCopy m_sightPitch m_isFaulty m_least m_greatest m_lines m_lineCopy m_lineDay m_linePlace m_lineTold m_now) t) A) args s 0 0 A) (F0 m 2 ls []) := by
  obtain ⟨hx, hb, hr, hml, hown, hts, hlocks⟩ := id G
  intro fu
  induction fu with
  | zero =>
    intro v2 m_table h
    exact h.elim
  | succ fu ih =>
    intro v2 m_table h H locs hP hD hS ls hl
    rw [wl_X7_fills_2] at h
    refine lv_iload_n hx hb dX7_fills_2 rfl (lv_at hl 2 rfl) ?_
    refine lv_sipush (v := 7200) hx hb dX7_fills_3 (by decide) ?_
    refine lv_icmp_ge (tgt := 22) hx hb dX7_fills_6 (by decide) (fun hc => ?_) (fun hc => ?_)
    · have h := h.1 hc
      refine lv_bipush (v := 60) hx hb dX7_fills_22 (by decide) ?_
      refine lv_iload_n hx hb dX7_fills_24 rfl (lv_at hl 1 rfl) ?_
      refine lv_imul hx hb dX7_fills_25 ?_
      refine lv_topi (fun z1 ez1 => ?_)
      have h := h z1 ez1
      refine lv_istore_n (lv' := [(2, .int z1), (0, .ref (ad_m 0)), (1, .int v1)]) hx hb dX7_fills_26 rfl hl (by decide) rfl (fun ls hl => ?_)
      obtain ⟨nf, h⟩ := h
      exact ml_X7_fills_27 G hK hN hA m_pitch m_first m_length v1 post nf z1 m_table h H locs hP hD hS ls (lv_sub hl [1, 2, 0] rfl)
    · have h := h.2 hc
      refine lv_aload_n hx hb dX7_fills_9 rfl (lv_at hl 0 rfl) ?_
      refine va_get (D := D) (ci := 7) (v := .ref (ad_m 7)) (C := RX7) (T := TX7) (N := 34) hx hb hts us_X7_fills_X7 hown hK hP 0 rfl rfl 8 (by decide) (hts (.fieldLink RX7 28 "RollHouseModel" "table" "[Z") lk_X7_fills_0) (fun _ h9 => h9) rfl dX7_fills_10 ?_
      refine lv_iload_n hx hb dX7_fills_13 rfl (lv_at hl 2 rfl) ?_
      refine lv_iconst (v := 0) hx hb dX7_fills_14 (by decide) ?_
      obtain ⟨hin, h⟩ := h
      refine va_zast hx hb hK hP hD hS 7 1 rfl rfl hin dX7_fills_15 (fun H locs hP hD hS => ?_)
      obtain ⟨a2, ea2⟩ : ∃ f, f = upd m_table v2.toNatClampNeg (vp_nar .boolean 0) := ⟨_, rfl⟩
      have h := h a2 ea2
      rw [← ea2] at hP hD
      have hP : va_P D vwCl (w_M cI cZ cR ad_m m_thrown m_rolls m_pitch m_first m_length m_marks m_markStep m_markTicks a2 m_order m_many m_heard m_pressed m_silents m_items m_itemPitch m_itemStep m_ends m_noteOf m_cost m_extra m_slotOf m_sights m_sightCopy m_sightPitch m_isFaulty m_least m_greatest m_lines m_lineCopy m_lineDay m_linePlace m_lineTold m_now) H := hP
      have hD : va_D A (w_M cI cZ cR ad_m m_thrown m_rolls m_pitch m_first m_length m_marks m_markStep m_markTicks a2 m_order m_many m_heard m_pressed m_silents m_items m_itemPitch m_itemStep m_ends m_noteOf m_cost m_extra m_slotOf m_sights m_sightCopy m_sightPitch m_isFaulty m_least m_greatest m_lines m_lineCopy m_lineDay m_linePlace m_lineTold m_now) := hD
      refine lv_iinc (v := v2 + 1) (lv' := [(2, .int (v2 + 1)), (0, .ref (ad_m 0)), (1, .int v1)]) hx hb dX7_fills_16 hl (k := 2) rfl rfl (by decide) rfl (fun ls hl => ?_)
      refine lv_goto (tgt := 2) hx hb dX7_fills_19 (by decide) ?_
      exact ih (v2 + 1) a2 h H locs hP hD hS ls (lv_sub hl [1, 2, 0] rfl)
set_option maxRecDepth 100000 in
set_option maxHeartbeats 4000000 in
theorem ml_X7_fills_0 {p : Program} {l : Launch} {e : Env} {s : State} {m : MethodId} {args : Array Value} {below : List Frame} {meth : Method} {c : Code} {D : va_G} {cI cZ cR : ClassId} {A : Nat → Prop} {ad_m : Nat → Nat} {m_thrown : Int32} {m_rolls : Int32} {m_marks : Nat → Int32} {m_markStep : Nat → Int32} {m_markTicks : Nat → Int32} {m_order : Nat → Int32} {m_many : Int32} {m_heard : Int32} {m_pressed : Int32} {m_silents : Int32} {m_items : Int32} {m_itemPitch : Nat → Int32} {m_itemStep : Nat → Int32} {m_ends : Nat → Int32} {m_noteOf : Nat → Int32} {m_cost : Int32} {m_extra : Int32} {m_slotOf : Nat → Int32} {m_sights : Int32} {m_sightCopy : Nat → Int32} {m_sightPitch : Nat → Int32} {m_isFaulty : Nat → Int32} {m_least : Int32} {m_greatest : Int32} {m_lines : Int32} {m_lineCopy : Nat → Int32} {m_lineDay : Nat → Int32} {m_linePlace : Nat → Int32} {m_lineTold : Nat → Int32} {m_now : Int32} (G : gG p s m args meth c cX7_fills none 4 RX7 wsX7_fills) (hK : va_K D vwCl (gT cI cZ cR) s) (hN : va_Nw gN s) (hA : ∀ q, s.heap.size ≤ q → A q) (m_pitch : Nat → Int32) (m_first : Nat → Int32) (m_length : Nat → Int32) (v1 : Int32) (post : (Nat → Int32) → Prop) (m_table : Nat → Int32) (h : wp_X7_fills m_pitch m_first m_length v1 m_table post) : ∀ (H : Heap) (locs : List Loc), va_P D vwCl (w_M cI cZ cR ad_m m_thrown m_rolls m_pitch m_first m_length m_marks m_markStep m_markTicks m_table m_order m_many m_heard m_pressed m_silents m_items m_itemPitch m_itemStep m_ends m_noteOf m_cost m_extra m_slotOf m_sights m_sightCopy m_sightPitch m_isFaulty m_least m_greatest m_lines m_lineCopy m_lineDay m_linePlace m_lineTold m_now) H → va_D A (w_M cI cZ cR ad_m m_thrown m_rolls m_pitch m_first m_length m_marks m_markStep m_markTicks m_table m_order m_many m_heard m_pressed m_silents m_items m_itemPitch m_itemStep m_ends m_noteOf m_cost m_extra m_slotOf m_sights m_sightCopy m_sightPitch m_isFaulty m_least m_greatest m_lines m_lineCopy m_lineDay m_linePlace m_lineTold m_now) → va_S A s.heap H locs → ∀ (ls : Array Slot), lv_has ls 4 [(0, .ref (ad_m 0)), (1, .int v1)] → W p l e { frames := 3, cells := 0, slots := 0, locals := 67 } s m args below meth c H locs 0 0 (MQ below (va_Qv (fun (u : (Nat → Int32)) => post u) (fun u t => gB D (gT cI cZ cR) A (w_M cI cZ cR ad_m m_thrown m_rolls m_pitch m_first m_length m_marks m_markStep m_markTicks u m_order m_many m_heard m_pressed m_silents m_items m_itemPitch m_itemStep m_ends m_noteOf m_cost m_extra m_slotOf m_sights m_sightCopy m_sightPitch m_isFaulty m_least m_greatest m_lines m_lineCopy m_lineDay m_linePlace m_lineTold m_now) t) A) args s 0 0 A) (F0 m 0 ls []) := by
  obtain ⟨hx, hb, hr, hml, hown, hts, hlocks⟩ := id G
  intro H locs hP hD hS ls hl
  unfold wp_X7_fills at h
  refine lv_iconst (v := 0) hx hb dX7_fills_0 (by decide) ?_
  refine lv_istore_n (lv' := [(2, .int 0), (0, .ref (ad_m 0)), (1, .int v1)]) hx hb dX7_fills_1 rfl hl (by decide) rfl (fun ls hl => ?_)
  obtain ⟨nf, h⟩ := h
  exact ml_X7_fills_2 G hK hN hA m_pitch m_first m_length v1 post nf 0 m_table h H locs hP hD hS ls (lv_sub hl [1, 2, 0] rfl)
set_option maxRecDepth 100000 in
theorem mt_X7_fills (l : Launch) (D : va_G) (cI cZ cR : ClassId) (ad_m : Nat → Nat) (sz : Nat) (m_thrown : Int32) (m_rolls : Int32) (m_pitch : Nat → Int32) (m_first : Nat → Int32) (m_length : Nat → Int32) (m_marks : Nat → Int32) (m_markStep : Nat → Int32) (m_markTicks : Nat → Int32) (m_table : Nat → Int32) (m_order : Nat → Int32) (m_many : Int32) (m_heard : Int32) (m_pressed : Int32) (m_silents : Int32) (m_items : Int32) (m_itemPitch : Nat → Int32) (m_itemStep : Nat → Int32) (m_ends : Nat → Int32) (m_noteOf : Nat → Int32) (m_cost : Int32) (m_extra : Int32) (m_slotOf : Nat → Int32) (m_sights : Int32) (m_sightCopy : Nat → Int32) (m_sightPitch : Nat → Int32) (m_isFaulty : Nat → Int32) (m_least : Int32) (m_greatest : Int32) (m_lines : Int32) (m_lineCopy : Nat → Int32) (m_lineDay : Nat → Int32) (m_linePlace : Nat → Int32) (m_lineTold : Nat → Int32) (m_now : Int32) (v1 : Int32) (post : (Nat → Int32) → Prop) (h : wp_X7_fills m_pitch m_first m_length v1 m_table post) : Met l yX7_fills wsX7_fills ({ frames := 3, cells := 0, slots := 0, locals := 67 }) (gPc D (gT cI cZ cR) (w_M cI cZ cR ad_m m_thrown m_rolls m_pitch m_first m_length m_marks m_markStep m_markTicks m_table m_order m_many m_heard m_pressed m_silents m_items m_itemPitch m_itemStep m_ends m_noteOf m_cost m_extra m_slotOf m_sights m_sightCopy m_sightPitch m_isFaulty m_least m_greatest m_lines m_lineCopy m_lineDay m_linePlace m_lineTold m_now) sz [.ref (ad_m 0), .int v1]) (va_Qv (fun (u : (Nat → Int32)) => post u) (fun u t => gB D (gT cI cZ cR) (va_A (w_M cI cZ cR ad_m m_thrown m_rolls m_pitch m_first m_length m_marks m_markStep m_markTicks m_table m_order m_many m_heard m_pressed m_silents m_items m_itemPitch m_itemStep m_ends m_noteOf m_cost m_extra m_slotOf m_sights m_sightCopy m_sightPitch m_isFaulty m_least m_greatest m_lines m_lineCopy m_lineDay m_linePlace m_lineTold m_now) sz) (w_M cI cZ cR ad_m m_thrown m_rolls m_pitch m_first m_length m_marks m_markStep m_markTicks u m_order m_many m_heard m_pressed m_silents m_items m_itemPitch m_itemStep m_ends m_noteOf m_cost m_extra m_slotOf m_sights m_sightCopy m_sightPitch m_isFaulty m_least m_greatest m_lines m_lineCopy m_lineDay m_linePlace m_lineTold m_now) t) (va_A (w_M cI cZ cR ad_m m_thrown m_rolls m_pitch m_first m_length m_marks m_markStep m_markTicks m_table m_order m_many m_heard m_pressed m_silents m_items m_itemPitch m_itemStep m_ends m_noteOf m_cost m_extra m_slotOf m_sights m_sightCopy m_sightPitch m_isFaulty m_least m_greatest m_lines m_lineCopy m_lineDay m_linePlace m_lineTold m_now) sz)) 0 0 (va_A (w_M cI cZ cR ad_m m_thrown m_rolls m_pitch m_first m_length m_marks m_markStep m_markTicks m_table m_order m_many m_heard m_pressed m_silents m_items m_itemPitch m_itemStep m_ends m_noteOf m_cost m_extra m_slotOf m_sights m_sightCopy m_sightPitch m_isFaulty m_least m_greatest m_lines m_lineCopy m_lineDay m_linePlace m_lineTold m_now) sz) := by
  refine gl_entry (cc := cX7_fills) (maxL := 4) (ret := none) (by decide) rfl (Nat.le_of_ble_eq_true rfl) ?_
  intro p e s m below meth c ls G hin hsz hK hN hP hD hl
  subst hsz
  exact ml_X7_fills_0 G hK hN (fun q h => Or.inr h) m_pitch m_first m_length v1 post m_table h s.heap [] hP hD va_S.rf ls hl
theorem lk_X7_bears_0 : (Cond.fieldLink RX7 28 "RollHouseModel" "table" "[Z") ∈ wsX7_bears := by decide +kernel
theorem us_X7_bears_X7 : ∀ w ∈ u_ws RX7 TX7 34, w ∈ wsX7_bears := by decide +kernel
def wl_X7_bears_73 (m_pitch : Nat → Int32) (m_first : Nat → Int32) (m_length : Nat → Int32) (v1 : Int32) (v2 : Int32) (v3 : Int32) (post : Int32 → (Nat → Int32) → Prop) (K8 : (Int32) → (Nat → Int32) → Prop) (K23 : (Int32) → (Int32) → (Int32) → (Int32) → (Nat → Int32) → Prop) (v4 : Int32) (v5 : Int32) (v7 : Int32) (w0 : Int32) (m_table : Nat → Int32) : Prop := ((¬ w0 = 4 → K23 v4 v5 w0 (v7 + 1) m_table) ∧ (w0 = 4 → post 0 m_table))
def wl_X7_bears_57 (m_pitch : Nat → Int32) (m_first : Nat → Int32) (m_length : Nat → Int32) (v1 : Int32) (v2 : Int32) (v3 : Int32) (post : Int32 → (Nat → Int32) → Prop) (K8 : (Int32) → (Nat → Int32) → Prop) (K23 : (Int32) → (Int32) → (Int32) → (Int32) → (Nat → Int32) → Prop) (v4 : Int32) (v6 : Int32) (v7 : Int32) (v8 : Int32) (w0 : Int32) (w1 : Int32) (m_table : Nat → Int32) : Prop := ((v8 = 0 → wl_X7_bears_73 m_pitch m_first m_length v1 v2 v3 post K8 K23 v4 (w0 + w1) v7 0 m_table) ∧ (¬ v8 = 0 → wl_X7_bears_73 m_pitch m_first m_length v1 v2 v3 post K8 K23 v4 (w0 + w1) v7 (v6 + 1) m_table))
def wl_X7_bears_23 (m_pitch : Nat → Int32) (m_first : Nat → Int32) (m_length : Nat → Int32) (v1 : Int32) (v2 : Int32) (v3 : Int32) (post : Int32 → (Nat → Int32) → Prop) (K8 : (Int32) → (Nat → Int32) → Prop) : Nat → (Int32) → (Int32) → (Int32) → (Int32) → (Nat → Int32) → Prop
  | 0, _, _, _, _, _ => False
  | fu + 1, v4, v5, v6, v7, m_table => ((24 ≤ v7 → ((v5 ≤ 10 → K8 (v4 + 1) m_table) ∧ (¬ v5 ≤ 10 → post 0 m_table))) ∧ (¬ 24 ≤ v7 → (vp_in ((24 * v4) + v7) 7200 ∧ (∀ z2 : Int32, z2 = m_table ((24 * v4) + v7).toNatClampNeg → ((z2 = 0 → wl_X7_bears_57 m_pitch m_first m_length v1 v2 v3 post K8 (wl_X7_bears_23 m_pitch m_first m_length v1 v2 v3 post K8 fu) v4 v6 v7 z2 v5 0 m_table) ∧ (¬ z2 = 0 → wl_X7_bears_57 m_pitch m_first m_length v1 v2 v3 post K8 (wl_X7_bears_23 m_pitch m_first m_length v1 v2 v3 post K8 fu) v4 v6 v7 z2 v5 1 m_table))))))
def wl_X7_bears_8 (m_pitch : Nat → Int32) (m_first : Nat → Int32) (m_length : Nat → Int32) (v1 : Int32) (v2 : Int32) (v3 : Int32) (post : Int32 → (Nat → Int32) → Prop) : Nat → (Int32) → (Nat → Int32) → Prop
  | 0, _, _ => False
  | fu + 1, v4, m_table => ((v3 < v4 → post 1 m_table) ∧ (¬ v3 < v4 → (∃ n, wl_X7_bears_23 m_pitch m_first m_length v1 v2 v3 post (wl_X7_bears_8 m_pitch m_first m_length v1 v2 v3 post fu) n v4 0 0 0 m_table)))
def wp_X7_bears (m_pitch : Nat → Int32) (m_first : Nat → Int32) (m_length : Nat → Int32) (v1 : Int32) (v2 : Int32) (v3 : Int32) (m_table : Nat → Int32) (post : Int32 → (Nat → Int32) → Prop) : Prop := (wp_X7_fills m_pitch m_first m_length v1 m_table (fun (a1 : Nat → Int32) => (∃ n, wl_X7_bears_8 m_pitch m_first m_length v1 v2 v3 post n v2 a1)))
set_option maxRecDepth 100000 in
set_option maxHeartbeats 4000000 in
theorem ml_X7_bears_73 {p : Program} {l : Launch} {e : Env} {s : State} {m : MethodId} {args : Array Value} {below : List Frame} {meth : Method} {c : Code} {D : va_G} {cI cZ cR : ClassId} {A : Nat → Prop} {ad_m : Nat → Nat} {m_thrown : Int32} {m_rolls : Int32} {m_marks : Nat → Int32} {m_markStep : Nat → Int32} {m_markTicks : Nat → Int32} {m_order : Nat → Int32} {m_many : Int32} {m_heard : Int32} {m_pressed : Int32} {m_silents : Int32} {m_items : Int32} {m_itemPitch : Nat → Int32} {m_itemStep : Nat → Int32} {m_ends : Nat → Int32} {m_noteOf : Nat → Int32} {m_cost : Int32} {m_extra : Int32} {m_slotOf : Nat → Int32} {m_sights : Int32} {m_sightCopy : Nat → Int32} {m_sightPitch : Nat → Int32} {m_isFaulty : Nat → Int32} {m_least : Int32} {m_greatest : Int32} {m_lines : Int32} {m_lineCopy : Nat → Int32} {m_lineDay : Nat → Int32} {m_linePlace : Nat → Int32} {m_lineTold : Nat → Int32} {m_now : Int32} (G : gG p s m args meth c cX7_bears (some .boolean) 9 RX7 wsX7_bears) (hK : va_K D vwCl (gT cI cZ cR) s) (hN : va_Nw gN s) (hA : ∀ q, s.heap.size ≤ q → A q) (m_pitch : Nat → Int32) (m_first : Nat → Int32) (m_length : Nat → Int32) (v1 : Int32) (v2 : Int32) (v3 : Int32) (post : Int32 → (Nat → Int32) → Prop) (K8 : (Int32) → (Nat → Int32) → Prop) (K23 : (Int32) → (Int32) → (Int32) → (Int32) → (Nat → Int32) → Prop) (hK8 : ∀ (v4 : Int32) (m_table : Nat → Int32), K8 v4 m_table → ∀ (H : Heap) (locs : List Loc), va_P D vwCl (w_M cI cZ cR ad_m m_thrown m_rolls m_pitch m_first m_length m_marks m_markStep m_markTicks m_table m_order m_many m_heard m_pressed m_silents m_items m_itemPitch m_itemStep m_ends m_noteOf m_cost m_extra m_slotOf m_sights m_sightCopy m_sightPitch m_isFaulty m_least m_greatest m_lines m_lineCopy m_lineDay m_linePlace m_lineTold m_now) H → va_D A (w_M cI cZ cR ad_m m_thrown m_rolls m_pitch m_first m_length m_marks m_markStep m_markTicks m_table m_order m_many m_heard m_pressed m_silents m_items m_itemPitch m_itemStep m_ends m_noteOf m_cost m_extra m_slotOf m_sights m_sightCopy m_sightPitch m_isFaulty m_least m_greatest m_lines m_lineCopy m_lineDay m_linePlace m_lineTold m_now) → va_S A s.heap H locs → ∀ (ls : Array Slot), lv_has ls 9 [(0, .ref (ad_m 0)), (3, .int v3), (4, .int v4)] → W p l e { frames := 4, cells := 0, slots := 0, locals := 90 } s m args below meth c H locs 0 0 (MQ below (va_Qi (fun (r : Int32) (u : (Nat → Int32)) => post r u) (fun u t => gB D (gT cI cZ cR) A (w_M cI cZ cR ad_m m_thrown m_rolls m_pitch m_first m_length m_marks m_markStep m_markTicks u m_order m_many m_heard m_pressed m_silents m_items m_itemPitch m_itemStep m_ends m_noteOf m_cost m_extra m_slotOf m_sights m_sightCopy m_sightPitch m_isFaulty m_least m_greatest m_lines m_lineCopy m_lineDay m_linePlace m_lineTold m_now) t) A) args s 0 0 A) (F0 m 8 ls [])) (hK23 : ∀ (v4 : Int32) (v5 : Int32) (v6 : Int32) (v7 : Int32) (m_table : Nat → Int32), K23 v4 v5 v6 v7 m_table → ∀ (H : Heap) (locs : List Loc), va_P D vwCl (w_M cI cZ cR ad_m m_thrown m_rolls m_pitch m_first m_length m_marks m_markStep m_markTicks m_table m_order m_many m_heard m_pressed m_silents m_items m_itemPitch m_itemStep m_ends m_noteOf m_cost m_extra m_slotOf m_sights m_sightCopy m_sightPitch m_isFaulty m_least m_greatest m_lines m_lineCopy m_lineDay m_linePlace m_lineTold m_now) H → va_D A (w_M cI cZ cR ad_m m_thrown m_rolls m_pitch m_first m_length m_marks m_markStep m_markTicks m_table m_order m_many m_heard m_pressed m_silents m_items m_itemPitch m_itemStep m_ends m_noteOf m_cost m_extra m_slotOf m_sights m_sightCopy m_sightPitch m_isFaulty m_least m_greatest m_lines m_lineCopy m_lineDay m_linePlace m_lineTold m_now) → va_S A s.heap H locs → ∀ (ls : Array Slot), lv_has ls 9 [(0, .ref (ad_m 0)), (3, .int v3), (4, .int v4), (5, .int v5), (6, .int v6), (7, .int v7)] → W p l e { frames := 4, cells := 0, slots := 0, locals := 90 } s m args below meth c H locs 0 0 (MQ below (va_Qi (fun (r : Int32) (u : (Nat → Int32)) => post r u) (fun u t => gB D (gT cI cZ cR) A (w_M cI cZ cR ad_m m_thrown m_rolls m_pitch m_first m_length m_marks m_markStep m_markTicks u m_order m_many m_heard m_pressed m_silents m_items m_itemPitch m_itemStep m_ends m_noteOf m_cost m_extra m_slotOf m_sights m_sightCopy m_sightPitch m_isFaulty m_least m_greatest m_lines m_lineCopy m_lineDay m_linePlace m_lineTold m_now) t) A) args s 0 0 A) (F0 m 23 ls [])) (v4 : Int32) (v5 : Int32) (v7 : Int32) (w0 : Int32) (m_table : Nat → Int32) (h : wl_X7_bears_73 m_pitch m_first m_length v1 v2 v3 post K8 K23 v4 v5 v7 w0 m_table) : ∀ (H : Heap) (locs : List Loc), va_P D vwCl (w_M cI cZ cR ad_m m_thrown m_rolls m_pitch m_first m_length m_marks m_markStep m_markTicks m_table m_order m_many m_heard m_pressed m_silents m_items m_itemPitch m_itemStep m_ends m_noteOf m_cost m_extra m_slotOf m_sights m_sightCopy m_sightPitch m_isFaulty m_least m_greatest m_lines m_lineCopy m_lineDay m_linePlace m_lineTold m_now) H → va_D A (w_M cI cZ cR ad_m m_thrown m_rolls m_pitch m_first m_length m_marks m_markStep m_markTicks m_table m_order m_many m_heard m_pressed m_silents m_items m_itemPitch m_itemStep m_ends m_noteOf m_cost m_extra m_slotOf m_sights m_sightCopy m_sightPitch m_isFaulty m_least m_greatest m_lines m_lineCopy m_lineDay m_linePlace m_lineTold m_now) → va_S A s.heap H locs → ∀ (ls : Array Slot), lv_has ls 9 [(0, .ref (ad_m 0)), (3, .int v3), (4, .int v4), (5, .int v5), (7, .int v7)] → W p l e { frames := 4, cells := 0, slots := 0, locals := 90 } s m args below meth c H locs 0 0 (MQ below (va_Qi (fun (r : Int32) (u : (Nat → Int32)) => post r u) (fun u t => gB D (gT cI cZ cR) A (w_M cI cZ cR ad_m m_thrown m_rolls m_pitch m_first m_length m_marks m_markStep m_markTicks u m_order m_many m_heard m_pressed m_silents m_items m_itemPitch m_itemStep m_ends m_noteOf m_cost m_extra m_slotOf m_sights m_sightCopy m_sightPitch m_isFaulty m_least m_greatest m_lines m_lineCopy m_lineDay m_linePlace m_lineTold m_now) t) A) args s 0 0 A) (F0 m 73 ls [.int w0]) := by
  obtain ⟨hx, hb, hr, hml, hown, hts, hlocks⟩ := id G
  intro H locs hP hD hS ls hl
  unfold wl_X7_bears_73 at h
  refine lv_istore (lv' := [(6, .int w0), (0, .ref (ad_m 0)), (3, .int v3), (4, .int v4), (5, .int v5), (7, .int v7)]) hx hb dX7_bears_73 hl (by decide) rfl (fun ls hl => ?_)
  refine lv_iload hx hb dX7_bears_75 (lv_at hl 0 rfl) ?_
  refine lv_iconst (v := 4) hx hb dX7_bears_77 (by decide) ?_
  refine lv_icmp_ne (tgt := 83) hx hb dX7_bears_78 (by decide) (fun hc => ?_) (fun hc => ?_)
  · have h := h.1 hc
    refine lv_iinc (v := v7 + 1) (lv' := [(7, .int (v7 + 1)), (6, .int w0), (0, .ref (ad_m 0)), (3, .int v3), (4, .int v4), (5, .int v5)]) hx hb dX7_bears_83 hl (k := 5) rfl rfl (by decide) rfl (fun ls hl => ?_)
    refine lv_goto (tgt := 23) hx hb dX7_bears_86 (by decide) ?_
    exact hK23 v4 v5 w0 (v7 + 1) m_table h H locs hP hD hS ls (lv_sub hl [2, 3, 4, 5, 1, 0] rfl)
  · have h := h.2 hc
    refine lv_iconst (v := 0) hx hb dX7_bears_81 (by decide) ?_
    exact gl_iretz G hK (u := m_table) hP hD hS (by decide) h dX7_bears_82
set_option maxRecDepth 100000 in
set_option maxHeartbeats 4000000 in
theorem ml_X7_bears_57 {p : Program} {l : Launch} {e : Env} {s : State} {m : MethodId} {args : Array Value} {below : List Frame} {meth : Method} {c : Code} {D : va_G} {cI cZ cR : ClassId} {A : Nat → Prop} {ad_m : Nat → Nat} {m_thrown : Int32} {m_rolls : Int32} {m_marks : Nat → Int32} {m_markStep : Nat → Int32} {m_markTicks : Nat → Int32} {m_order : Nat → Int32} {m_many : Int32} {m_heard : Int32} {m_pressed : Int32} {m_silents : Int32} {m_items : Int32} {m_itemPitch : Nat → Int32} {m_itemStep : Nat → Int32} {m_ends : Nat → Int32} {m_noteOf : Nat → Int32} {m_cost : Int32} {m_extra : Int32} {m_slotOf : Nat → Int32} {m_sights : Int32} {m_sightCopy : Nat → Int32} {m_sightPitch : Nat → Int32} {m_isFaulty : Nat → Int32} {m_least : Int32} {m_greatest : Int32} {m_lines : Int32} {m_lineCopy : Nat → Int32} {m_lineDay : Nat → Int32} {m_linePlace : Nat → Int32} {m_lineTold : Nat → Int32} {m_now : Int32} (G : gG p s m args meth c cX7_bears (some .boolean) 9 RX7 wsX7_bears) (hK : va_K D vwCl (gT cI cZ cR) s) (hN : va_Nw gN s) (hA : ∀ q, s.heap.size ≤ q → A q) (m_pitch : Nat → Int32) (m_first : Nat → Int32) (m_length : Nat → Int32) (v1 : Int32) (v2 : Int32) (v3 : Int32) (post : Int32 → (Nat → Int32) → Prop) (K8 : (Int32) → (Nat → Int32) → Prop) (K23 : (Int32) → (Int32) → (Int32) → (Int32) → (Nat → Int32) → Prop) (hK8 : ∀ (v4 : Int32) (m_table : Nat → Int32), K8 v4 m_table → ∀ (H : Heap) (locs : List Loc), va_P D vwCl (w_M cI cZ cR ad_m m_thrown m_rolls m_pitch m_first m_length m_marks m_markStep m_markTicks m_table m_order m_many m_heard m_pressed m_silents m_items m_itemPitch m_itemStep m_ends m_noteOf m_cost m_extra m_slotOf m_sights m_sightCopy m_sightPitch m_isFaulty m_least m_greatest m_lines m_lineCopy m_lineDay m_linePlace m_lineTold m_now) H → va_D A (w_M cI cZ cR ad_m m_thrown m_rolls m_pitch m_first m_length m_marks m_markStep m_markTicks m_table m_order m_many m_heard m_pressed m_silents m_items m_itemPitch m_itemStep m_ends m_noteOf m_cost m_extra m_slotOf m_sights m_sightCopy m_sightPitch m_isFaulty m_least m_greatest m_lines m_lineCopy m_lineDay m_linePlace m_lineTold m_now) → va_S A s.heap H locs → ∀ (ls : Array Slot), lv_has ls 9 [(0, .ref (ad_m 0)), (3, .int v3), (4, .int v4)] → W p l e { frames := 4, cells := 0, slots := 0, locals := 90 } s m args below meth c H locs 0 0 (MQ below (va_Qi (fun (r : Int32) (u : (Nat → Int32)) => post r u) (fun u t => gB D (gT cI cZ cR) A (w_M cI cZ cR ad_m m_thrown m_rolls m_pitch m_first m_length m_marks m_markStep m_markTicks u m_order m_many m_heard m_pressed m_silents m_items m_itemPitch m_itemStep m_ends m_noteOf m_cost m_extra m_slotOf m_sights m_sightCopy m_sightPitch m_isFaulty m_least m_greatest m_lines m_lineCopy m_lineDay m_linePlace m_lineTold m_now) t) A) args s 0 0 A) (F0 m 8 ls [])) (hK23 : ∀ (v4 : Int32) (v5 : Int32) (v6 : Int32) (v7 : Int32) (m_table : Nat → Int32), K23 v4 v5 v6 v7 m_table → ∀ (H : Heap) (locs : List Loc), va_P D vwCl (w_M cI cZ cR ad_m m_thrown m_rolls m_pitch m_first m_length m_marks m_markStep m_markTicks m_table m_order m_many m_heard m_pressed m_silents m_items m_itemPitch m_itemStep m_ends m_noteOf m_cost m_extra m_slotOf m_sights m_sightCopy m_sightPitch m_isFaulty m_least m_greatest m_lines m_lineCopy m_lineDay m_linePlace m_lineTold m_now) H → va_D A (w_M cI cZ cR ad_m m_thrown m_rolls m_pitch m_first m_length m_marks m_markStep m_markTicks m_table m_order m_many m_heard m_pressed m_silents m_items m_itemPitch m_itemStep m_ends m_noteOf m_cost m_extra m_slotOf m_sights m_sightCopy m_sightPitch m_isFaulty m_least m_greatest m_lines m_lineCopy m_lineDay m_linePlace m_lineTold m_now) → va_S A s.heap H locs → ∀ (ls : Array Slot), lv_has ls 9 [(0, .ref (ad_m 0)), (3, .int v3), (4, .int v4), (5, .int v5), (6, .int v6), (7, .int v7)] → W p l e { frames := 4, cells := 0, slots := 0, locals := 90 } s m args below meth c H locs 0 0 (MQ below (va_Qi (fun (r : Int32) (u : (Nat → Int32)) => post r u) (fun u t => gB D (gT cI cZ cR) A (w_M cI cZ cR ad_m m_thrown m_rolls m_pitch m_first m_length m_marks m_markStep m_markTicks u m_order m_many m_heard m_pressed m_silents m_items m_itemPitch m_itemStep m_ends m_noteOf m_cost m_extra m_slotOf m_sights m_sightCopy m_sightPitch m_isFaulty m_least m_greatest m_lines m_lineCopy m_lineDay m_linePlace m_lineTold m_now) t) A) args s 0 0 A) (F0 m 23 ls [])) (v4 : Int32) (v6 : Int32) (v7 : Int32) (v8 : Int32) (w0 : Int32) (w1 : Int32) (m_table : Nat → Int32) (h : wl_X7_bears_57 m_pitch m_first m_length v1 v2 v3 post K8 K23 v4 v6 v7 v8 w0 w1 m_table) : ∀ (H : Heap) (locs : List Loc), va_P D vwCl (w_M cI cZ cR ad_m m_thrown m_rolls m_pitch m_first m_length m_marks m_markStep m_markTicks m_table m_order m_many m_heard m_pressed m_silents m_items m_itemPitch m_itemStep m_ends m_noteOf m_cost m_extra m_slotOf m_sights m_sightCopy m_sightPitch m_isFaulty m_least m_greatest m_lines m_lineCopy m_lineDay m_linePlace m_lineTold m_now) H → va_D A (w_M cI cZ cR ad_m m_thrown m_rolls m_pitch m_first m_length m_marks m_markStep m_markTicks m_table m_order m_many m_heard m_pressed m_silents m_items m_itemPitch m_itemStep m_ends m_noteOf m_cost m_extra m_slotOf m_sights m_sightCopy m_sightPitch m_isFaulty m_least m_greatest m_lines m_lineCopy m_lineDay m_linePlace m_lineTold m_now) → va_S A s.heap H locs → ∀ (ls : Array Slot), lv_has ls 9 [(0, .ref (ad_m 0)), (3, .int v3), (4, .int v4), (6, .int v6), (7, .int v7), (8, .int v8)] → W p l e { frames := 4, cells := 0, slots := 0, locals := 90 } s m args below meth c H locs 0 0 (MQ below (va_Qi (fun (r : Int32) (u : (Nat → Int32)) => post r u) (fun u t => gB D (gT cI cZ cR) A (w_M cI cZ cR ad_m m_thrown m_rolls m_pitch m_first m_length m_marks m_markStep m_markTicks u m_order m_many m_heard m_pressed m_silents m_items m_itemPitch m_itemStep m_ends m_noteOf m_cost m_extra m_slotOf m_sights m_sightCopy m_sightPitch m_isFaulty m_least m_greatest m_lines m_lineCopy m_lineDay m_linePlace m_lineTold m_now) t) A) args s 0 0 A) (F0 m 57 ls [.int w1, .int w0]) := by
  obtain ⟨hx, hb, hr, hml, hown, hts, hlocks⟩ := id G
  intro H locs hP hD hS ls hl
  unfold wl_X7_bears_57 at h
  refine lv_iadd hx hb dX7_bears_57 ?_
  refine lv_istore (lv' := [(5, .int (w0 + w1)), (0, .ref (ad_m 0)), (3, .int v3), (4, .int v4), (6, .int v6), (7, .int v7), (8, .int v8)]) hx hb dX7_bears_58 hl (by decide) rfl (fun ls hl => ?_)
  refine lv_iload hx hb dX7_bears_60 (lv_at hl 6 rfl) ?_
  refine lv_if_eq (tgt := 72) hx hb dX7_bears_62 (by decide) (fun hc => ?_) (fun hc => ?_)
  · have h := h.1 hc
    refine lv_iconst (v := 0) hx hb dX7_bears_72 (by decide) ?_
    exact ml_X7_bears_73 G hK hN hA m_pitch m_first m_length v1 v2 v3 post K8 K23 hK8 hK23 v4 (w0 + w1) v7 0 m_table h H locs hP hD hS ls (lv_sub hl [1, 2, 3, 0, 5] rfl)
  · have h := h.2 hc
    refine lv_iload hx hb dX7_bears_65 (lv_at hl 4 rfl) ?_
    refine lv_iconst (v := 1) hx hb dX7_bears_67 (by decide) ?_
    refine lv_iadd hx hb dX7_bears_68 ?_
    refine lv_goto (tgt := 73) hx hb dX7_bears_69 (by decide) ?_
    exact ml_X7_bears_73 G hK hN hA m_pitch m_first m_length v1 v2 v3 post K8 K23 hK8 hK23 v4 (w0 + w1) v7 (v6 + 1) m_table h H locs hP hD hS ls (lv_sub hl [1, 2, 3, 0, 5] rfl)
set_option maxRecDepth 100000 in
set_option maxHeartbeats 4000000 in
theorem ml_X7_bears_23 {p : Program} {l : Launch} {e : Env} {s : State} {m : MethodId} {args : Array Value} {below : List Frame} {meth : Method} {c : Code} {D : va_G} {cI cZ cR : ClassId} {A : Nat → Prop} {ad_m : Nat → Nat} {m_thrown : Int32} {m_rolls : Int32} {m_marks : Nat → Int32} {m_markStep : Nat → Int32} {m_markTicks : Nat → Int32} {m_order : Nat → Int32} {m_many : Int32} {m_heard : Int32} {m_pressed : Int32} {m_silents : Int32} {m_items : Int32} {m_itemPitch : Nat → Int32} {m_itemStep : Nat → Int32} {m_ends : Nat → Int32} {m_noteOf : Nat → Int32} {m_cost : Int32} {m_extra : Int32} {m_slotOf : Nat → Int32} {m_sights : Int32} {m_sightCopy : Nat → Int32} {m_sightPitch : Nat → Int32} {m_isFaulty : Nat → Int32} {m_least : Int32} {m_greatest : Int32} {m_lines : Int32} {m_lineCopy : Nat → Int32} {m_lineDay : Nat → Int32} {m_linePlace : Nat → Int32} {m_lineTold : Nat → Int32} {m_now : Int32} (G : gG p s m args meth c cX7_bears (some .boolean) 9 RX7 wsX7_bears) (hK : va_K D vwCl (gT cI cZ cR) s) (hN : va_Nw gN s) (hA : ∀ q, s.heap.size ≤ q → A q) (m_pitch : Nat → Int32) (m_first : Nat → Int32) (m_length : Nat → Int32) (v1 : Int32) (v2 : Int32) (v3 : Int32) (post : Int32 → (Nat → Int32) → Prop) (K8 : (Int32) → (Nat → Int32) → Prop) (hK8 : ∀ (v4 : Int32) (m_table : Nat → Int32), K8 v4 m_table → ∀ (H : Heap) (locs : List Loc), va_P D vwCl (w_M cI cZ cR ad_m m_thrown m_rolls m_pitch m_first m_length m_marks m_markStep m_markTicks m_table m_order m_many m_heard m_pressed m_silents m_items m_itemPitch m_itemStep m_ends m_noteOf m_cost m_extra m_slotOf m_sights m_sightCopy m_sightPitch m_isFaulty m_least m_greatest m_lines m_lineCopy m_lineDay m_linePlace m_lineTold m_now) H → va_D A (w_M cI cZ cR ad_m m_thrown m_rolls m_pitch m_first m_length m_marks m_markStep m_markTicks m_table m_order m_many m_heard m_pressed m_silents m_items m_itemPitch m_itemStep m_ends m_noteOf m_cost m_extra m_slotOf m_sights m_sightCopy m_sightPitch m_isFaulty m_least m_greatest m_lines m_lineCopy m_lineDay m_linePlace m_lineTold m_now) → va_S A s.heap H locs → ∀ (ls : Array Slot), lv_has ls 9 [(0, .ref (ad_m 0)), (3, .int v3), (4, .int v4)] → W p l e { frames := 4, cells := 0, slots := 0, locals := 90 } s m args below meth c H locs 0 0 (MQ below (va_Qi (fun (r : Int32) (u : (Nat → Int32)) => post r u) (fun u t => gB D (gT cI cZ cR) A (w_M cI cZ cR ad_m m_thrown m_rolls m_pitch m_first m_length m_marks m_markStep m_markTicks u m_order m_many m_heard m_pressed m_silents m_items m_itemPitch m_itemStep m_ends m_noteOf m_cost m_extra m_slotOf m_sights m_sightCopy m_sightPitch m_isFaulty m_least m_greatest m_lines m_lineCopy m_lineDay m_linePlace m_lineTold m_now) t) A) args s 0 0 A) (F0 m 8 ls [])) : ∀ (fu : Nat) (v4 : Int32) (v5 : Int32) (v6 : Int32) (v7 : Int32) (m_table : Nat → Int32), wl_X7_bears_23 m_pitch m_first m_length v1 v2 v3 post K8 fu v4 v5 v6 v7 m_table → ∀ (H : Heap) (locs : List Loc), va_P D vwCl (w_M cI cZ cR ad_m m_thrown m_rolls m_pitch m_first m_length m_marks m_markStep m_markTicks m_table m_order m_many m_heard m_pressed m_silents m_items m_itemPitch m_itemStep m_ends m_noteOf m_cost m_extra m_slotOf m_sights m_sightCopy m_sightPitch m_isFaulty m_least m_greatest m_lines m_lineCopy m_lineDay m_linePlace m_lineTold m_now) H → va_D A (w_M cI cZ cR ad_m m_thrown m_rolls m_pitch m_first m_length m_marks m_markStep m_markTicks m_table m_order m_many m_heard m_pressed m_silents m_items m_itemPitch m_itemStep m_ends m_noteOf m_cost m_extra m_slotOf m_sights m_sightCopy m_sightPitch m_isFaulty m_least m_greatest m_lines m_lineCopy m_lineDay m_linePlace m_lineTold m_now) → va_S A s.heap H locs → ∀ (ls : Array Slot), lv_has ls 9 [(0, .ref (ad_m 0)), (3, .int v3), (4, .int v4), (5, .int v5), (6, .int v6), (7, .int v7)] → W p l e { frames := 4, cells := 0, slots := 0, locals := 90 } s m args below meth c H locs 0 0 (MQ below (va_Qi (fun (r : Int32) (u : (Nat → Int32)) => post r u) (fun u t => gB D (gT cI cZ cR) A (w_M cI cZ cR ad_m m_thrown m_rolls m_pitch m_first m_length m_marks m_markStep m_markTicks u m_order m_many m_heard m_pressed m_silents m_items m_itemPitch m_itemStep m_ends m_noteOf m_cost m_extra m_slotOf m_sights m_sightCopy m_sightPitch m_isFaulty m_least m_greatest m_lines m_lineCopy m_lineDay m_linePlace m_lineTold m_now) t) A) args s 0 0 A) (F0 m 23 ls []) := by
  obtain ⟨hx, hb, hr, hml, hown, hts, hlocks⟩ := id G
  intro fu
  induction fu with
  | zero =>
    intro v4 v5 v6 v7 m_table h
    exact h.elim
  | succ fu ih =>
    intro v4 v5 v6 v7 m_table h H locs hP hD hS ls hl
    rw [wl_X7_bears_23] at h
    refine lv_iload hx hb dX7_bears_23 (lv_at hl 5 rfl) ?_
    refine lv_bipush (v := 24) hx hb dX7_bears_25 (by decide) ?_
    refine lv_icmp_ge (tgt := 89) hx hb dX7_bears_27 (by decide) (fun hc => ?_) (fun hc => ?_)
    · have h := h.1 hc
      refine lv_iload hx hb dX7_bears_89 (lv_at hl 3 rfl) ?_
      refine lv_bipush (v := 10) hx hb dX7_bears_91 (by decide) ?_
      refine lv_icmp_le (tgt := 98) hx hb dX7_bears_93 (by decide) (fun hc => ?_) (fun hc => ?_)
      · have h := h.1 hc
        refine lv_iinc (v := v4 + 1) (lv' := [(4, .int (v4 + 1)), (0, .ref (ad_m 0)), (3, .int v3), (5, .int v5), (6, .int v6), (7, .int v7)]) hx hb dX7_bears_98 hl (k := 2) rfl rfl (by decide) rfl (fun ls hl => ?_)
        refine lv_goto (tgt := 8) hx hb dX7_bears_101 (by decide) ?_
        exact hK8 (v4 + 1) m_table h H locs hP hD hS ls (lv_sub hl [1, 2, 0] rfl)
      · have h := h.2 hc
        refine lv_iconst (v := 0) hx hb dX7_bears_96 (by decide) ?_
        exact gl_iretz G hK (u := m_table) hP hD hS (by decide) h dX7_bears_97
    · have h := h.2 hc
      refine lv_aload_n hx hb dX7_bears_30 rfl (lv_at hl 0 rfl) ?_
      refine va_get (D := D) (ci := 7) (v := .ref (ad_m 7)) (C := RX7) (T := TX7) (N := 34) hx hb hts us_X7_bears_X7 hown hK hP 0 rfl rfl 8 (by decide) (hts (.fieldLink RX7 28 "RollHouseModel" "table" "[Z") lk_X7_bears_0) (fun _ h9 => h9) rfl dX7_bears_31 ?_
      refine lv_bipush (v := 24) hx hb dX7_bears_34 (by decide) ?_
      refine lv_iload hx hb dX7_bears_36 (lv_at hl 2 rfl) ?_
      refine lv_imul hx hb dX7_bears_38 ?_
      refine lv_iload hx hb dX7_bears_39 (lv_at hl 5 rfl) ?_
      refine lv_iadd hx hb dX7_bears_41 ?_
      obtain ⟨hin, h⟩ := h
      refine va_zald hx hb hK hP 7 1 rfl rfl hin dX7_bears_42 ?_
      refine lv_topi (fun z2 ez2 => ?_)
      have h := h z2 ez2
      refine lv_istore (lv' := [(8, .int z2), (0, .ref (ad_m 0)), (3, .int v3), (4, .int v4), (5, .int v5), (6, .int v6), (7, .int v7)]) hx hb dX7_bears_43 hl (by decide) rfl (fun ls hl => ?_)
      refine lv_iload hx hb dX7_bears_45 (lv_at hl 4 rfl) ?_
      refine lv_iload hx hb dX7_bears_47 (lv_at hl 0 rfl) ?_
      refine lv_if_eq (tgt := 56) hx hb dX7_bears_49 (by decide) (fun hc => ?_) (fun hc => ?_)
      · have h := h.1 hc
        refine lv_iconst (v := 0) hx hb dX7_bears_56 (by decide) ?_
        exact ml_X7_bears_57 G hK hN hA m_pitch m_first m_length v1 v2 v3 post K8 (wl_X7_bears_23 m_pitch m_first m_length v1 v2 v3 post K8 fu) hK8 ih v4 v6 v7 z2 v5 0 m_table h H locs hP hD hS ls (lv_sub hl [1, 2, 3, 5, 6, 0] rfl)
      · have h := h.2 hc
        refine lv_iconst (v := 1) hx hb dX7_bears_52 (by decide) ?_
        refine lv_goto (tgt := 57) hx hb dX7_bears_53 (by decide) ?_
        exact ml_X7_bears_57 G hK hN hA m_pitch m_first m_length v1 v2 v3 post K8 (wl_X7_bears_23 m_pitch m_first m_length v1 v2 v3 post K8 fu) hK8 ih v4 v6 v7 z2 v5 1 m_table h H locs hP hD hS ls (lv_sub hl [1, 2, 3, 5, 6, 0] rfl)
set_option maxRecDepth 100000 in
set_option maxHeartbeats 4000000 in
theorem ml_X7_bears_8 {p : Program} {l : Launch} {e : Env} {s : State} {m : MethodId} {args : Array Value} {below : List Frame} {meth : Method} {c : Code} {D : va_G} {cI cZ cR : ClassId} {A : Nat → Prop} {ad_m : Nat → Nat} {m_thrown : Int32} {m_rolls : Int32} {m_marks : Nat → Int32} {m_markStep : Nat → Int32} {m_markTicks : Nat → Int32} {m_order : Nat → Int32} {m_many : Int32} {m_heard : Int32} {m_pressed : Int32} {m_silents : Int32} {m_items : Int32} {m_itemPitch : Nat → Int32} {m_itemStep : Nat → Int32} {m_ends : Nat → Int32} {m_noteOf : Nat → Int32} {m_cost : Int32} {m_extra : Int32} {m_slotOf : Nat → Int32} {m_sights : Int32} {m_sightCopy : Nat → Int32} {m_sightPitch : Nat → Int32} {m_isFaulty : Nat → Int32} {m_least : Int32} {m_greatest : Int32} {m_lines : Int32} {m_lineCopy : Nat → Int32} {m_lineDay : Nat → Int32} {m_linePlace : Nat → Int32} {m_lineTold : Nat → Int32} {m_now : Int32} (G : gG p s m args meth c cX7_bears (some .boolean) 9 RX7 wsX7_bears) (hK : va_K D vwCl (gT cI cZ cR) s) (hN : va_Nw gN s) (hA : ∀ q, s.heap.size ≤ q → A q) (m_pitch : Nat → Int32) (m_first : Nat → Int32) (m_length : Nat → Int32) (v1 : Int32) (v2 : Int32) (v3 : Int32) (post : Int32 → (Nat → Int32) → Prop) : ∀ (fu : Nat) (v4 : Int32) (m_table : Nat → Int32), wl_X7_bears_8 m_pitch m_first m_length v1 v2 v3 post fu v4 m_table → ∀ (H : Heap) (locs : List Loc), va_P D vwCl (w_M cI cZ cR ad_m m_thrown m_rolls m_pitch m_first m_length m_marks m_markStep m_markTicks m_table m_order m_many m_heard m_pressed m_silents m_items m_itemPitch m_itemStep m_ends m_noteOf m_cost m_extra m_slotOf m_sights m_sightCopy m_sightPitch m_isFaulty m_least m_greatest m_lines m_lineCopy m_lineDay m_linePlace m_lineTold m_now) H → va_D A (w_M cI cZ cR ad_m m_thrown m_rolls m_pitch m_first m_length m_marks m_markStep m_markTicks m_table m_order m_many m_heard m_pressed m_silents m_items m_itemPitch m_itemStep m_ends m_noteOf m_cost m_extra m_slotOf m_sights m_sightCopy m_sightPitch m_isFaulty m_least m_greatest m_lines m_lineCopy m_lineDay m_linePlace m_lineTold m_now) → va_S A s.heap H locs → ∀ (ls : Array Slot), lv_has ls 9 [(0, .ref (ad_m 0)), (3, .int v3), (4, .int v4)] → W p l e { frames := 4, cells := 0, slots := 0, locals := 90 } s m args below meth c H locs 0 0 (MQ below (va_Qi (fun (r : Int32) (u : (Nat → Int32)) => post r u) (fun u t => gB D (gT cI cZ cR) A (w_M cI cZ cR ad_m m_thrown m_rolls m_pitch m_first m_length m_marks m_markStep m_markTicks u m_order m_many m_heard m_pressed m_silents m_items m_itemPitch m_itemStep m_ends m_noteOf m_cost m_extra m_slotOf m_sights m_sightCopy m_sightPitch m_isFaulty m_least m_greatest m_lines m_lineCopy m_lineDay m_linePlace m_lineTold m_now) t) A) args s 0 0 A) (F0 m 8 ls []) := by
  obtain ⟨hx, hb, hr, hml, hown, hts, hlocks⟩ := id G
  intro fu
  induction fu with
  | zero =>
    intro v4 m_table h
    exact h.elim
  | succ fu ih =>
    intro v4 m_table h H locs hP hD hS ls hl
    rw [wl_X7_bears_8] at h
    refine lv_iload hx hb dX7_bears_8 (lv_at hl 2 rfl) ?_
    refine lv_iload_n hx hb dX7_bears_10 rfl (lv_at hl 1 rfl) ?_
    refine lv_icmp_gt (tgt := 104) hx hb dX7_bears_11 (by decide) (fun hc => ?_) (fun hc => ?_)
    · have h := h.1 hc
      refine lv_iconst (v := 1) hx hb dX7_bears_104 (by decide) ?_
      exact gl_iretz G hK (u := m_table) hP hD hS (by decide) h dX7_bears_105
    · have h := h.2 hc
      refine lv_iconst (v := 0) hx hb dX7_bears_14 (by decide) ?_
      refine lv_istore (lv' := [(5, .int 0), (0, .ref (ad_m 0)), (3, .int v3), (4, .int v4)]) hx hb dX7_bears_15 hl (by decide) rfl (fun ls hl => ?_)
      refine lv_iconst (v := 0) hx hb dX7_bears_17 (by decide) ?_
      refine lv_istore (lv' := [(6, .int 0), (5, .int 0), (0, .ref (ad_m 0)), (3, .int v3), (4, .int v4)]) hx hb dX7_bears_18 hl (by decide) rfl (fun ls hl => ?_)
      refine lv_iconst (v := 0) hx hb dX7_bears_20 (by decide) ?_
      refine lv_istore (lv' := [(7, .int 0), (6, .int 0), (5, .int 0), (0, .ref (ad_m 0)), (3, .int v3), (4, .int v4)]) hx hb dX7_bears_21 hl (by decide) rfl (fun ls hl => ?_)
      obtain ⟨nf, h⟩ := h
      exact ml_X7_bears_23 G hK hN hA m_pitch m_first m_length v1 v2 v3 post (wl_X7_bears_8 m_pitch m_first m_length v1 v2 v3 post fu) ih nf v4 0 0 0 m_table h H locs hP hD hS ls (lv_sub hl [3, 4, 5, 2, 1, 0] rfl)
set_option maxRecDepth 100000 in
set_option maxHeartbeats 4000000 in
theorem ml_X7_bears_0 {p : Program} {l : Launch} {e : Env} {s : State} {m : MethodId} {args : Array Value} {below : List Frame} {meth : Method} {c : Code} {D : va_G} {cI cZ cR : ClassId} {A : Nat → Prop} {ad_m : Nat → Nat} {m_thrown : Int32} {m_rolls : Int32} {m_marks : Nat → Int32} {m_markStep : Nat → Int32} {m_markTicks : Nat → Int32} {m_order : Nat → Int32} {m_many : Int32} {m_heard : Int32} {m_pressed : Int32} {m_silents : Int32} {m_items : Int32} {m_itemPitch : Nat → Int32} {m_itemStep : Nat → Int32} {m_ends : Nat → Int32} {m_noteOf : Nat → Int32} {m_cost : Int32} {m_extra : Int32} {m_slotOf : Nat → Int32} {m_sights : Int32} {m_sightCopy : Nat → Int32} {m_sightPitch : Nat → Int32} {m_isFaulty : Nat → Int32} {m_least : Int32} {m_greatest : Int32} {m_lines : Int32} {m_lineCopy : Nat → Int32} {m_lineDay : Nat → Int32} {m_linePlace : Nat → Int32} {m_lineTold : Nat → Int32} {m_now : Int32} (G : gG p s m args meth c cX7_bears (some .boolean) 9 RX7 wsX7_bears) (hK : va_K D vwCl (gT cI cZ cR) s) (hN : va_Nw gN s) (hA : ∀ q, s.heap.size ≤ q → A q) (m_pitch : Nat → Int32) (m_first : Nat → Int32) (m_length : Nat → Int32) (v1 : Int32) (v2 : Int32) (v3 : Int32) (post : Int32 → (Nat → Int32) → Prop) (m_table : Nat → Int32) (h : wp_X7_bears m_pitch m_first m_length v1 v2 v3 m_table post) : ∀ (H : Heap) (locs : List Loc), va_P D vwCl (w_M cI cZ cR ad_m m_thrown m_rolls m_pitch m_first m_length m_marks m_markStep m_markTicks m_table m_order m_many m_heard m_pressed m_silents m_items m_itemPitch m_itemStep m_ends m_noteOf m_cost m_extra m_slotOf m_sights m_sightCopy m_sightPitch m_isFaulty m_least m_greatest m_lines m_lineCopy m_lineDay m_linePlace m_lineTold m_now) H → va_D A (w_M cI cZ cR ad_m m_thrown m_rolls m_pitch m_first m_length m_marks m_markStep m_markTicks m_table m_order m_many m_heard m_pressed m_silents m_items m_itemPitch m_itemStep m_ends m_noteOf m_cost m_extra m_slotOf m_sights m_sightCopy m_sightPitch m_isFaulty m_least m_greatest m_lines m_lineCopy m_lineDay m_linePlace m_lineTold m_now) → va_S A s.heap H locs → ∀ (ls : Array Slot), lv_has ls 9 [(0, .ref (ad_m 0)), (1, .int v1), (2, .int v2), (3, .int v3)] → W p l e { frames := 4, cells := 0, slots := 0, locals := 90 } s m args below meth c H locs 0 0 (MQ below (va_Qi (fun (r : Int32) (u : (Nat → Int32)) => post r u) (fun u t => gB D (gT cI cZ cR) A (w_M cI cZ cR ad_m m_thrown m_rolls m_pitch m_first m_length m_marks m_markStep m_markTicks u m_order m_many m_heard m_pressed m_silents m_items m_itemPitch m_itemStep m_ends m_noteOf m_cost m_extra m_slotOf m_sights m_sightCopy m_sightPitch m_isFaulty m_least m_greatest m_lines m_lineCopy m_lineDay m_linePlace m_lineTold m_now) t) A) args s 0 0 A) (F0 m 0 ls []) := by
  obtain ⟨hx, hb, hr, hml, hown, hts, hlocks⟩ := id G
  intro H locs hP hD hS ls hl
  unfold wp_X7_bears at h
  refine lv_aload_n hx hb dX7_bears_0 rfl (lv_at hl 0 rfl) ?_
  refine lv_iload_n hx hb dX7_bears_1 rfl (lv_at hl 1 rfl) ?_
  refine gl_callvF (va_runV (As := [.int v1]) (rest := []) ⟨hx, hb, hml, hown, hts⟩ (mt_X7_fills l D cI cZ cR ad_m H.size m_thrown m_rolls m_pitch m_first m_length m_marks m_markStep m_markTicks m_table m_order m_many m_heard m_pressed m_silents m_items m_itemPitch m_itemStep m_ends m_noteOf m_cost m_extra m_slotOf m_sights m_sightCopy m_sightPitch m_isFaulty m_least m_greatest m_lines m_lineCopy m_lineDay m_linePlace m_lineTold m_now v1 _ h) (cwV 1 hts gX7_bears_X7_fills rfl rfl rfl (by decide +kernel) ⟨Nat.le_of_ble_eq_true rfl, Nat.le_of_ble_eq_true rfl⟩) ⟨gl_blind, va_recv hK hP (ci := 7) (q0 := 0) rfl rfl, gl_pre hP hK hN hD⟩ rfl rfl hl.1 rfl (lv_room (Nat.le_of_ble_eq_true rfl)) dX7_bears_2 ⟨Nat.le_of_ble_eq_true rfl, Nat.le_of_ble_eq_true rfl⟩) hD hS hA (fun u H locs h hP hD hS => ?_)
  obtain ⟨a1, rfl⟩ : ∃ z, z = u := ⟨_, rfl⟩
  have hP : va_P D vwCl (w_M cI cZ cR ad_m m_thrown m_rolls m_pitch m_first m_length m_marks m_markStep m_markTicks a1 m_order m_many m_heard m_pressed m_silents m_items m_itemPitch m_itemStep m_ends m_noteOf m_cost m_extra m_slotOf m_sights m_sightCopy m_sightPitch m_isFaulty m_least m_greatest m_lines m_lineCopy m_lineDay m_linePlace m_lineTold m_now) H := hP
  have hD : va_D A (w_M cI cZ cR ad_m m_thrown m_rolls m_pitch m_first m_length m_marks m_markStep m_markTicks a1 m_order m_many m_heard m_pressed m_silents m_items m_itemPitch m_itemStep m_ends m_noteOf m_cost m_extra m_slotOf m_sights m_sightCopy m_sightPitch m_isFaulty m_least m_greatest m_lines m_lineCopy m_lineDay m_linePlace m_lineTold m_now) := hD
  refine lv_iload_n hx hb dX7_bears_5 rfl (lv_at hl 2 rfl) ?_
  refine lv_istore (lv' := [(4, .int v2), (0, .ref (ad_m 0)), (1, .int v1), (2, .int v2), (3, .int v3)]) hx hb dX7_bears_6 hl (by decide) rfl (fun ls hl => ?_)
  obtain ⟨nf, h⟩ := h
  exact ml_X7_bears_8 G hK hN hA m_pitch m_first m_length v1 v2 v3 post nf v2 a1 h H locs hP hD hS ls (lv_sub hl [1, 4, 0] rfl)
set_option maxRecDepth 100000 in
theorem mt_X7_bears (l : Launch) (D : va_G) (cI cZ cR : ClassId) (ad_m : Nat → Nat) (sz : Nat) (m_thrown : Int32) (m_rolls : Int32) (m_pitch : Nat → Int32) (m_first : Nat → Int32) (m_length : Nat → Int32) (m_marks : Nat → Int32) (m_markStep : Nat → Int32) (m_markTicks : Nat → Int32) (m_table : Nat → Int32) (m_order : Nat → Int32) (m_many : Int32) (m_heard : Int32) (m_pressed : Int32) (m_silents : Int32) (m_items : Int32) (m_itemPitch : Nat → Int32) (m_itemStep : Nat → Int32) (m_ends : Nat → Int32) (m_noteOf : Nat → Int32) (m_cost : Int32) (m_extra : Int32) (m_slotOf : Nat → Int32) (m_sights : Int32) (m_sightCopy : Nat → Int32) (m_sightPitch : Nat → Int32) (m_isFaulty : Nat → Int32) (m_least : Int32) (m_greatest : Int32) (m_lines : Int32) (m_lineCopy : Nat → Int32) (m_lineDay : Nat → Int32) (m_linePlace : Nat → Int32) (m_lineTold : Nat → Int32) (m_now : Int32) (v1 : Int32) (v2 : Int32) (v3 : Int32) (post : Int32 → (Nat → Int32) → Prop) (h : wp_X7_bears m_pitch m_first m_length v1 v2 v3 m_table post) : Met l yX7_bears wsX7_bears ({ frames := 4, cells := 0, slots := 0, locals := 90 }) (gPc D (gT cI cZ cR) (w_M cI cZ cR ad_m m_thrown m_rolls m_pitch m_first m_length m_marks m_markStep m_markTicks m_table m_order m_many m_heard m_pressed m_silents m_items m_itemPitch m_itemStep m_ends m_noteOf m_cost m_extra m_slotOf m_sights m_sightCopy m_sightPitch m_isFaulty m_least m_greatest m_lines m_lineCopy m_lineDay m_linePlace m_lineTold m_now) sz [.ref (ad_m 0), .int v1, .int v2, .int v3]) (va_Qi (fun (r : Int32) (u : (Nat → Int32)) => post r u) (fun u t => gB D (gT cI cZ cR) (va_A (w_M cI cZ cR ad_m m_thrown m_rolls m_pitch m_first m_length m_marks m_markStep m_markTicks m_table m_order m_many m_heard m_pressed m_silents m_items m_itemPitch m_itemStep m_ends m_noteOf m_cost m_extra m_slotOf m_sights m_sightCopy m_sightPitch m_isFaulty m_least m_greatest m_lines m_lineCopy m_lineDay m_linePlace m_lineTold m_now) sz) (w_M cI cZ cR ad_m m_thrown m_rolls m_pitch m_first m_length m_marks m_markStep m_markTicks u m_order m_many m_heard m_pressed m_silents m_items m_itemPitch m_itemStep m_ends m_noteOf m_cost m_extra m_slotOf m_sights m_sightCopy m_sightPitch m_isFaulty m_least m_greatest m_lines m_lineCopy m_lineDay m_linePlace m_lineTold m_now) t) (va_A (w_M cI cZ cR ad_m m_thrown m_rolls m_pitch m_first m_length m_marks m_markStep m_markTicks m_table m_order m_many m_heard m_pressed m_silents m_items m_itemPitch m_itemStep m_ends m_noteOf m_cost m_extra m_slotOf m_sights m_sightCopy m_sightPitch m_isFaulty m_least m_greatest m_lines m_lineCopy m_lineDay m_linePlace m_lineTold m_now) sz)) 0 0 (va_A (w_M cI cZ cR ad_m m_thrown m_rolls m_pitch m_first m_length m_marks m_markStep m_markTicks m_table m_order m_many m_heard m_pressed m_silents m_items m_itemPitch m_itemStep m_ends m_noteOf m_cost m_extra m_slotOf m_sights m_sightCopy m_sightPitch m_isFaulty m_least m_greatest m_lines m_lineCopy m_lineDay m_linePlace m_lineTold m_now) sz) := by
  refine gl_entry (cc := cX7_bears) (maxL := 9) (ret := (some .boolean)) (by decide) rfl (Nat.le_of_ble_eq_true rfl) ?_
  intro p e s m below meth c ls G hin hsz hK hN hP hD hl
  subst hsz
  exact ml_X7_bears_0 G hK hN (fun q h => Or.inr h) m_pitch m_first m_length v1 v2 v3 post m_table h s.heap [] hP hD va_S.rf ls hl
theorem lk_X7_lays_0 : (Cond.fieldLink RX7 7 "RollHouseModel" "pitch" "[I") ∈ wsX7_lays := by decide +kernel
theorem lk_X7_lays_1 : (Cond.fieldLink RX7 13 "RollHouseModel" "first" "[I") ∈ wsX7_lays := by decide +kernel
theorem lk_X7_lays_2 : (Cond.fieldLink RX7 16 "RollHouseModel" "length" "[I") ∈ wsX7_lays := by decide +kernel
theorem us_X7_lays_X7 : ∀ w ∈ u_ws RX7 TX7 34, w ∈ wsX7_lays := by decide +kernel
def wl_X7_lays_9 (v1 : Int32) (v2 : Int32) (v3 : Int32) (v4 : Int32) (post : Int32 → (Nat → Int32) → (Nat → Int32) → (Nat → Int32) → (Nat → Int32) → Prop) : Nat → (Int32) → (Int32) → (Nat → Int32) → (Nat → Int32) → (Nat → Int32) → (Nat → Int32) → Prop
  | 0, _, _, _, _, _, _ => False
  | fu + 1, v5, v6, m_pitch, m_first, m_length, m_table => ((((60 * v1) + 60) ≤ v6 → (vp_in v5 360 ∧ (∀ a2 : Nat → Int32, a2 = upd m_pitch v5.toNatClampNeg v2 → (vp_in v5 360 ∧ (∀ a3 : Nat → Int32, a3 = upd m_first v5.toNatClampNeg v3 → (vp_in v5 360 ∧ (∀ a4 : Nat → Int32, a4 = upd m_length v5.toNatClampNeg v4 → (wp_X7_bears a2 a3 a4 v1 v3 ((v3 + v4) - 1) m_table (fun (r5 : Int32) (a6 : Nat → Int32) => ((r5 = 0 → (vp_in v5 360 ∧ (∀ a7 : Nat → Int32, a7 = upd a4 v5.toNatClampNeg 0 → post (-3) a2 a3 a7 a6))) ∧ (¬ r5 = 0 → post 0 a2 a3 a4 a6))))))))))) ∧ (¬ ((60 * v1) + 60) ≤ v6 → (vp_in v6 360 ∧ ((¬ (m_length v6.toNatClampNeg) = 0 → (vp_in v6 360 ∧ ((¬ (m_pitch v6.toNatClampNeg) = v2 → wl_X7_lays_9 v1 v2 v3 v4 post fu v5 (v6 + 1) m_pitch m_first m_length m_table) ∧ ((m_pitch v6.toNatClampNeg) = v2 → (vp_in v6 360 ∧ (vp_in v6 360 ∧ (∀ z8 : Int32, z8 = ((m_first v6.toNatClampNeg) + (m_length v6.toNatClampNeg)) + 1 → ((z8 ≤ v3 → wl_X7_lays_9 v1 v2 v3 v4 post fu v5 (v6 + 1) m_pitch m_first m_length m_table) ∧ (¬ z8 ≤ v3 → (vp_in v6 360 ∧ ((((v3 + v4) + 1) ≤ (m_first v6.toNatClampNeg) → wl_X7_lays_9 v1 v2 v3 v4 post fu v5 (v6 + 1) m_pitch m_first m_length m_table) ∧ (¬ ((v3 + v4) + 1) ≤ (m_first v6.toNatClampNeg) → post (-2) m_pitch m_first m_length m_table)))))))))))) ∧ ((m_length v6.toNatClampNeg) = 0 → wl_X7_lays_9 v1 v2 v3 v4 post fu v6 (v6 + 1) m_pitch m_first m_length m_table)))))
def wp_X7_lays (v1 : Int32) (v2 : Int32) (v3 : Int32) (v4 : Int32) (m_pitch : Nat → Int32) (m_first : Nat → Int32) (m_length : Nat → Int32) (m_table : Nat → Int32) (post : Int32 → (Nat → Int32) → (Nat → Int32) → (Nat → Int32) → (Nat → Int32) → Prop) : Prop := (∀ z1 : Int32, z1 = 60 * v1 → (∃ n, wl_X7_lays_9 v1 v2 v3 v4 post n (-1) z1 m_pitch m_first m_length m_table))
set_option maxRecDepth 100000 in
set_option maxHeartbeats 4000000 in
theorem ml_X7_lays_9 {p : Program} {l : Launch} {e : Env} {s : State} {m : MethodId} {args : Array Value} {below : List Frame} {meth : Method} {c : Code} {D : va_G} {cI cZ cR : ClassId} {A : Nat → Prop} {ad_m : Nat → Nat} {m_thrown : Int32} {m_rolls : Int32} {m_marks : Nat → Int32} {m_markStep : Nat → Int32} {m_markTicks : Nat → Int32} {m_order : Nat → Int32} {m_many : Int32} {m_heard : Int32} {m_pressed : Int32} {m_silents : Int32} {m_items : Int32} {m_itemPitch : Nat → Int32} {m_itemStep : Nat → Int32} {m_ends : Nat → Int32} {m_noteOf : Nat → Int32} {m_cost : Int32} {m_extra : Int32} {m_slotOf : Nat → Int32} {m_sights : Int32} {m_sightCopy : Nat → Int32} {m_sightPitch : Nat → Int32} {m_isFaulty : Nat → Int32} {m_least : Int32} {m_greatest : Int32} {m_lines : Int32} {m_lineCopy : Nat → Int32} {m_lineDay : Nat → Int32} {m_linePlace : Nat → Int32} {m_lineTold : Nat → Int32} {m_now : Int32} (G : gG p s m args meth c cX7_lays (some .int) 7 RX7 wsX7_lays) (hK : va_K D vwCl (gT cI cZ cR) s) (hN : va_Nw gN s) (hA : ∀ q, s.heap.size ≤ q → A q) (v1 : Int32) (v2 : Int32) (v3 : Int32) (v4 : Int32) (post : Int32 → (Nat → Int32) → (Nat → Int32) → (Nat → Int32) → (Nat → Int32) → Prop) : ∀ (fu : Nat) (v5 : Int32) (v6 : Int32) (m_pitch : Nat → Int32) (m_first : Nat → Int32) (m_length : Nat → Int32) (m_table : Nat → Int32), wl_X7_lays_9 v1 v2 v3 v4 post fu v5 v6 m_pitch m_first m_length m_table → ∀ (H : Heap) (locs : List Loc), va_P D vwCl (w_M cI cZ cR ad_m m_thrown m_rolls m_pitch m_first m_length m_marks m_markStep m_markTicks m_table m_order m_many m_heard m_pressed m_silents m_items m_itemPitch m_itemStep m_ends m_noteOf m_cost m_extra m_slotOf m_sights m_sightCopy m_sightPitch m_isFaulty m_least m_greatest m_lines m_lineCopy m_lineDay m_linePlace m_lineTold m_now) H → va_D A (w_M cI cZ cR ad_m m_thrown m_rolls m_pitch m_first m_length m_marks m_markStep m_markTicks m_table m_order m_many m_heard m_pressed m_silents m_items m_itemPitch m_itemStep m_ends m_noteOf m_cost m_extra m_slotOf m_sights m_sightCopy m_sightPitch m_isFaulty m_least m_greatest m_lines m_lineCopy m_lineDay m_linePlace m_lineTold m_now) → va_S A s.heap H locs → ∀ (ls : Array Slot), lv_has ls 7 [(0, .ref (ad_m 0)), (1, .int v1), (2, .int v2), (3, .int v3), (4, .int v4), (5, .int v5), (6, .int v6)] → W p l e { frames := 5, cells := 0, slots := 0, locals := 118 } s m args below meth c H locs 0 0 (MQ below (va_Qi (fun (r : Int32) (u : (Nat → Int32) × (Nat → Int32) × (Nat → Int32) × (Nat → Int32)) => post r u.1 u.2.1 u.2.2.1 u.2.2.2) (fun u t => gB D (gT cI cZ cR) A (w_M cI cZ cR ad_m m_thrown m_rolls u.1 u.2.1 u.2.2.1 m_marks m_markStep m_markTicks u.2.2.2 m_order m_many m_heard m_pressed m_silents m_items m_itemPitch m_itemStep m_ends m_noteOf m_cost m_extra m_slotOf m_sights m_sightCopy m_sightPitch m_isFaulty m_least m_greatest m_lines m_lineCopy m_lineDay m_linePlace m_lineTold m_now) t) A) args s 0 0 A) (F0 m 9 ls []) := by
  obtain ⟨hx, hb, hr, hml, hown, hts, hlocks⟩ := id G
  intro fu
  induction fu with
  | zero =>
    intro v5 v6 m_pitch m_first m_length m_table h
    exact h.elim
  | succ fu ih =>
    intro v5 v6 m_pitch m_first m_length m_table h H locs hP hD hS ls hl
    rw [wl_X7_lays_9] at h
    refine lv_iload hx hb dX7_lays_9 (lv_at hl 6 rfl) ?_
    refine lv_bipush (v := 60) hx hb dX7_lays_11 (by decide) ?_
    refine lv_iload_n hx hb dX7_lays_13 rfl (lv_at hl 1 rfl) ?_
    refine lv_imul hx hb dX7_lays_14 ?_
    refine lv_bipush (v := 60) hx hb dX7_lays_15 (by decide) ?_
    refine lv_iadd hx hb dX7_lays_17 ?_
    refine lv_icmp_ge (tgt := 95) hx hb dX7_lays_18 (by decide) (fun hc => ?_) (fun hc => ?_)
    · have h := h.1 hc
      refine lv_aload_n hx hb dX7_lays_95 rfl (lv_at hl 0 rfl) ?_
      refine va_get (D := D) (ci := 7) (v := .ref (ad_m 1)) (C := RX7) (T := TX7) (N := 34) hx hb hts us_X7_lays_X7 hown hK hP 0 rfl rfl 2 (by decide) (hts (.fieldLink RX7 7 "RollHouseModel" "pitch" "[I") lk_X7_lays_0) (fun _ h9 => h9) rfl dX7_lays_96 ?_
      refine lv_iload hx hb dX7_lays_99 (lv_at hl 5 rfl) ?_
      refine lv_iload_n hx hb dX7_lays_101 rfl (lv_at hl 2 rfl) ?_
      obtain ⟨hin, h⟩ := h
      refine va_iast hx hb hK hP hD hS 1 0 rfl rfl hin dX7_lays_102 (fun H locs hP hD hS => ?_)
      obtain ⟨a2, ea2⟩ : ∃ f, f = upd m_pitch v5.toNatClampNeg v2 := ⟨_, rfl⟩
      have h := h a2 ea2
      rw [← ea2] at hP hD
      have hP : va_P D vwCl (w_M cI cZ cR ad_m m_thrown m_rolls a2 m_first m_length m_marks m_markStep m_markTicks m_table m_order m_many m_heard m_pressed m_silents m_items m_itemPitch m_itemStep m_ends m_noteOf m_cost m_extra m_slotOf m_sights m_sightCopy m_sightPitch m_isFaulty m_least m_greatest m_lines m_lineCopy m_lineDay m_linePlace m_lineTold m_now) H := hP
      have hD : va_D A (w_M cI cZ cR ad_m m_thrown m_rolls a2 m_first m_length m_marks m_markStep m_markTicks m_table m_order m_many m_heard m_pressed m_silents m_items m_itemPitch m_itemStep m_ends m_noteOf m_cost m_extra m_slotOf m_sights m_sightCopy m_sightPitch m_isFaulty m_least m_greatest m_lines m_lineCopy m_lineDay m_linePlace m_lineTold m_now) := hD
      refine lv_aload_n hx hb dX7_lays_103 rfl (lv_at hl 0 rfl) ?_
      refine va_get (D := D) (ci := 7) (v := .ref (ad_m 2)) (C := RX7) (T := TX7) (N := 34) hx hb hts us_X7_lays_X7 hown hK hP 0 rfl rfl 3 (by decide) (hts (.fieldLink RX7 13 "RollHouseModel" "first" "[I") lk_X7_lays_1) (fun _ h9 => h9) rfl dX7_lays_104 ?_
      refine lv_iload hx hb dX7_lays_107 (lv_at hl 5 rfl) ?_
      refine lv_iload_n hx hb dX7_lays_109 rfl (lv_at hl 3 rfl) ?_
      obtain ⟨hin, h⟩ := h
      refine va_iast hx hb hK hP hD hS 2 0 rfl rfl hin dX7_lays_110 (fun H locs hP hD hS => ?_)
      obtain ⟨a3, ea3⟩ : ∃ f, f = upd m_first v5.toNatClampNeg v3 := ⟨_, rfl⟩
      have h := h a3 ea3
      rw [← ea3] at hP hD
      have hP : va_P D vwCl (w_M cI cZ cR ad_m m_thrown m_rolls a2 a3 m_length m_marks m_markStep m_markTicks m_table m_order m_many m_heard m_pressed m_silents m_items m_itemPitch m_itemStep m_ends m_noteOf m_cost m_extra m_slotOf m_sights m_sightCopy m_sightPitch m_isFaulty m_least m_greatest m_lines m_lineCopy m_lineDay m_linePlace m_lineTold m_now) H := hP
      have hD : va_D A (w_M cI cZ cR ad_m m_thrown m_rolls a2 a3 m_length m_marks m_markStep m_markTicks m_table m_order m_many m_heard m_pressed m_silents m_items m_itemPitch m_itemStep m_ends m_noteOf m_cost m_extra m_slotOf m_sights m_sightCopy m_sightPitch m_isFaulty m_least m_greatest m_lines m_lineCopy m_lineDay m_linePlace m_lineTold m_now) := hD
      refine lv_aload_n hx hb dX7_lays_111 rfl (lv_at hl 0 rfl) ?_
      refine va_get (D := D) (ci := 7) (v := .ref (ad_m 3)) (C := RX7) (T := TX7) (N := 34) hx hb hts us_X7_lays_X7 hown hK hP 0 rfl rfl 4 (by decide) (hts (.fieldLink RX7 16 "RollHouseModel" "length" "[I") lk_X7_lays_2) (fun _ h9 => h9) rfl dX7_lays_112 ?_
      refine lv_iload hx hb dX7_lays_115 (lv_at hl 5 rfl) ?_
      refine lv_iload hx hb dX7_lays_117 (lv_at hl 4 rfl) ?_
      obtain ⟨hin, h⟩ := h
      refine va_iast hx hb hK hP hD hS 3 0 rfl rfl hin dX7_lays_119 (fun H locs hP hD hS => ?_)
      obtain ⟨a4, ea4⟩ : ∃ f, f = upd m_length v5.toNatClampNeg v4 := ⟨_, rfl⟩
      have h := h a4 ea4
      rw [← ea4] at hP hD
      have hP : va_P D vwCl (w_M cI cZ cR ad_m m_thrown m_rolls a2 a3 a4 m_marks m_markStep m_markTicks m_table m_order m_many m_heard m_pressed m_silents m_items m_itemPitch m_itemStep m_ends m_noteOf m_cost m_extra m_slotOf m_sights m_sightCopy m_sightPitch m_isFaulty m_least m_greatest m_lines m_lineCopy m_lineDay m_linePlace m_lineTold m_now) H := hP
      have hD : va_D A (w_M cI cZ cR ad_m m_thrown m_rolls a2 a3 a4 m_marks m_markStep m_markTicks m_table m_order m_many m_heard m_pressed m_silents m_items m_itemPitch m_itemStep m_ends m_noteOf m_cost m_extra m_slotOf m_sights m_sightCopy m_sightPitch m_isFaulty m_least m_greatest m_lines m_lineCopy m_lineDay m_linePlace m_lineTold m_now) := hD
      refine lv_aload_n hx hb dX7_lays_120 rfl (lv_at hl 0 rfl) ?_
      refine lv_iload_n hx hb dX7_lays_121 rfl (lv_at hl 1 rfl) ?_
      refine lv_iload_n hx hb dX7_lays_122 rfl (lv_at hl 3 rfl) ?_
      refine lv_iload_n hx hb dX7_lays_123 rfl (lv_at hl 3 rfl) ?_
      refine lv_iload hx hb dX7_lays_124 (lv_at hl 4 rfl) ?_
      refine lv_iadd hx hb dX7_lays_126 ?_
      refine lv_iconst (v := 1) hx hb dX7_lays_127 (by decide) ?_
      refine lv_isub hx hb dX7_lays_128 ?_
      refine gl_calliF (va_runV (As := [.int v1, .int v3, .int ((v3 + v4) - 1)]) (rest := []) ⟨hx, hb, hml, hown, hts⟩ (mt_X7_bears l D cI cZ cR ad_m H.size m_thrown m_rolls a2 a3 a4 m_marks m_markStep m_markTicks m_table m_order m_many m_heard m_pressed m_silents m_items m_itemPitch m_itemStep m_ends m_noteOf m_cost m_extra m_slotOf m_sights m_sightCopy m_sightPitch m_isFaulty m_least m_greatest m_lines m_lineCopy m_lineDay m_linePlace m_lineTold m_now v1 v3 ((v3 + v4) - 1) _ h) (cwV 3 hts gX7_lays_X7_bears rfl rfl rfl (by decide +kernel) ⟨Nat.le_of_ble_eq_true rfl, Nat.le_of_ble_eq_true rfl⟩) ⟨gl_blind, va_recv hK hP (ci := 7) (q0 := 0) rfl rfl, gl_pre hP hK hN hD⟩ rfl rfl hl.1 rfl (lv_room (Nat.le_of_ble_eq_true rfl)) dX7_lays_129 ⟨Nat.le_of_ble_eq_true rfl, Nat.le_of_ble_eq_true rfl⟩) hD hS hA (fun r5 u H locs h hP hD hS => ?_)
      obtain ⟨a6, rfl⟩ : ∃ z, z = u := ⟨_, rfl⟩
      have hP : va_P D vwCl (w_M cI cZ cR ad_m m_thrown m_rolls a2 a3 a4 m_marks m_markStep m_markTicks a6 m_order m_many m_heard m_pressed m_silents m_items m_itemPitch m_itemStep m_ends m_noteOf m_cost m_extra m_slotOf m_sights m_sightCopy m_sightPitch m_isFaulty m_least m_greatest m_lines m_lineCopy m_lineDay m_linePlace m_lineTold m_now) H := hP
      have hD : va_D A (w_M cI cZ cR ad_m m_thrown m_rolls a2 a3 a4 m_marks m_markStep m_markTicks a6 m_order m_many m_heard m_pressed m_silents m_items m_itemPitch m_itemStep m_ends m_noteOf m_cost m_extra m_slotOf m_sights m_sightCopy m_sightPitch m_isFaulty m_least m_greatest m_lines m_lineCopy m_lineDay m_linePlace m_lineTold m_now) := hD
      refine lv_if_eq (tgt := 137) hx hb dX7_lays_132 (by decide) (fun hc => ?_) (fun hc => ?_)
      · have h := h.1 hc
        refine lv_aload_n hx hb dX7_lays_137 rfl (lv_at hl 0 rfl) ?_
        refine va_get (D := D) (ci := 7) (v := .ref (ad_m 3)) (C := RX7) (T := TX7) (N := 34) hx hb hts us_X7_lays_X7 hown hK hP 0 rfl rfl 4 (by decide) (hts (.fieldLink RX7 16 "RollHouseModel" "length" "[I") lk_X7_lays_2) (fun _ h9 => h9) rfl dX7_lays_138 ?_
        refine lv_iload hx hb dX7_lays_141 (lv_at hl 5 rfl) ?_
        refine lv_iconst (v := 0) hx hb dX7_lays_143 (by decide) ?_
        obtain ⟨hin, h⟩ := h
        refine va_iast hx hb hK hP hD hS 3 0 rfl rfl hin dX7_lays_144 (fun H locs hP hD hS => ?_)
        obtain ⟨a7, ea7⟩ : ∃ f, f = upd a4 v5.toNatClampNeg 0 := ⟨_, rfl⟩
        have h := h a7 ea7
        rw [← ea7] at hP hD
        have hP : va_P D vwCl (w_M cI cZ cR ad_m m_thrown m_rolls a2 a3 a7 m_marks m_markStep m_markTicks a6 m_order m_many m_heard m_pressed m_silents m_items m_itemPitch m_itemStep m_ends m_noteOf m_cost m_extra m_slotOf m_sights m_sightCopy m_sightPitch m_isFaulty m_least m_greatest m_lines m_lineCopy m_lineDay m_linePlace m_lineTold m_now) H := hP
        have hD : va_D A (w_M cI cZ cR ad_m m_thrown m_rolls a2 a3 a7 m_marks m_markStep m_markTicks a6 m_order m_many m_heard m_pressed m_silents m_items m_itemPitch m_itemStep m_ends m_noteOf m_cost m_extra m_slotOf m_sights m_sightCopy m_sightPitch m_isFaulty m_least m_greatest m_lines m_lineCopy m_lineDay m_linePlace m_lineTold m_now) := hD
        refine lv_bipush (v := (-3)) hx hb dX7_lays_145 (by decide) ?_
        exact gl_ireti G hK (u := (a2, a3, a7, a6)) hP hD hS h dX7_lays_147
      · have h := h.2 hc
        refine lv_iconst (v := 0) hx hb dX7_lays_135 (by decide) ?_
        exact gl_ireti G hK (u := (a2, a3, a4, a6)) hP hD hS h dX7_lays_136
    · have h := h.2 hc
      refine lv_aload_n hx hb dX7_lays_21 rfl (lv_at hl 0 rfl) ?_
      refine va_get (D := D) (ci := 7) (v := .ref (ad_m 3)) (C := RX7) (T := TX7) (N := 34) hx hb hts us_X7_lays_X7 hown hK hP 0 rfl rfl 4 (by decide) (hts (.fieldLink RX7 16 "RollHouseModel" "length" "[I") lk_X7_lays_2) (fun _ h9 => h9) rfl dX7_lays_22 ?_
      refine lv_iload hx hb dX7_lays_25 (lv_at hl 6 rfl) ?_
      obtain ⟨hin, h⟩ := h
      refine va_iald hx hb hK hP 3 0 rfl rfl hin dX7_lays_27 ?_
      refine lv_if_ne (tgt := 38) hx hb dX7_lays_28 (by decide) (fun hc => ?_) (fun hc => ?_)
      · have h := h.1 hc
        refine lv_aload_n hx hb dX7_lays_38 rfl (lv_at hl 0 rfl) ?_
        refine va_get (D := D) (ci := 7) (v := .ref (ad_m 1)) (C := RX7) (T := TX7) (N := 34) hx hb hts us_X7_lays_X7 hown hK hP 0 rfl rfl 2 (by decide) (hts (.fieldLink RX7 7 "RollHouseModel" "pitch" "[I") lk_X7_lays_0) (fun _ h9 => h9) rfl dX7_lays_39 ?_
        refine lv_iload hx hb dX7_lays_42 (lv_at hl 6 rfl) ?_
        obtain ⟨hin, h⟩ := h
        refine va_iald hx hb hK hP 1 0 rfl rfl hin dX7_lays_44 ?_
        refine lv_iload_n hx hb dX7_lays_45 rfl (lv_at hl 2 rfl) ?_
        refine lv_icmp_ne (tgt := 89) hx hb dX7_lays_46 (by decide) (fun hc => ?_) (fun hc => ?_)
        · have h := h.1 hc
          refine lv_iinc (v := v6 + 1) (lv' := [(6, .int (v6 + 1)), (0, .ref (ad_m 0)), (1, .int v1), (2, .int v2), (3, .int v3), (4, .int v4), (5, .int v5)]) hx hb dX7_lays_89 hl (k := 6) rfl rfl (by decide) rfl (fun ls hl => ?_)
          refine lv_goto (tgt := 9) hx hb dX7_lays_92 (by decide) ?_
          exact ih v5 (v6 + 1) m_pitch m_first m_length m_table h H locs hP hD hS ls (lv_sub hl [1, 2, 3, 4, 5, 6, 0] rfl)
        · have h := h.2 hc
          refine lv_iload_n hx hb dX7_lays_49 rfl (lv_at hl 3 rfl) ?_
          refine lv_aload_n hx hb dX7_lays_50 rfl (lv_at hl 0 rfl) ?_
          refine va_get (D := D) (ci := 7) (v := .ref (ad_m 2)) (C := RX7) (T := TX7) (N := 34) hx hb hts us_X7_lays_X7 hown hK hP 0 rfl rfl 3 (by decide) (hts (.fieldLink RX7 13 "RollHouseModel" "first" "[I") lk_X7_lays_1) (fun _ h9 => h9) rfl dX7_lays_51 ?_
          refine lv_iload hx hb dX7_lays_54 (lv_at hl 6 rfl) ?_
          obtain ⟨hin, h⟩ := h
          refine va_iald hx hb hK hP 2 0 rfl rfl hin dX7_lays_56 ?_
          refine lv_aload_n hx hb dX7_lays_57 rfl (lv_at hl 0 rfl) ?_
          refine va_get (D := D) (ci := 7) (v := .ref (ad_m 3)) (C := RX7) (T := TX7) (N := 34) hx hb hts us_X7_lays_X7 hown hK hP 0 rfl rfl 4 (by decide) (hts (.fieldLink RX7 16 "RollHouseModel" "length" "[I") lk_X7_lays_2) (fun _ h9 => h9) rfl dX7_lays_58 ?_
          refine lv_iload hx hb dX7_lays_61 (lv_at hl 6 rfl) ?_
          obtain ⟨hin, h⟩ := h
          refine va_iald hx hb hK hP 3 0 rfl rfl hin dX7_lays_63 ?_
          refine lv_iadd hx hb dX7_lays_64 ?_
          refine lv_iconst (v := 1) hx hb dX7_lays_65 (by decide) ?_
          refine lv_iadd hx hb dX7_lays_66 ?_
          refine lv_topi (fun z8 ez8 => ?_)
          have h := h z8 ez8
          refine lv_icmp_ge (tgt := 89) hx hb dX7_lays_67 (by decide) (fun hc => ?_) (fun hc => ?_)
          · have h := h.1 hc
            refine lv_iinc (v := v6 + 1) (lv' := [(6, .int (v6 + 1)), (0, .ref (ad_m 0)), (1, .int v1), (2, .int v2), (3, .int v3), (4, .int v4), (5, .int v5)]) hx hb dX7_lays_89 hl (k := 6) rfl rfl (by decide) rfl (fun ls hl => ?_)
            refine lv_goto (tgt := 9) hx hb dX7_lays_92 (by decide) ?_
            exact ih v5 (v6 + 1) m_pitch m_first m_length m_table h H locs hP hD hS ls (lv_sub hl [1, 2, 3, 4, 5, 6, 0] rfl)
          · have h := h.2 hc
            refine lv_aload_n hx hb dX7_lays_70 rfl (lv_at hl 0 rfl) ?_
            refine va_get (D := D) (ci := 7) (v := .ref (ad_m 2)) (C := RX7) (T := TX7) (N := 34) hx hb hts us_X7_lays_X7 hown hK hP 0 rfl rfl 3 (by decide) (hts (.fieldLink RX7 13 "RollHouseModel" "first" "[I") lk_X7_lays_1) (fun _ h9 => h9) rfl dX7_lays_71 ?_
            refine lv_iload hx hb dX7_lays_74 (lv_at hl 6 rfl) ?_
            obtain ⟨hin, h⟩ := h
            refine va_iald hx hb hK hP 2 0 rfl rfl hin dX7_lays_76 ?_
            refine lv_iload_n hx hb dX7_lays_77 rfl (lv_at hl 3 rfl) ?_
            refine lv_iload hx hb dX7_lays_78 (lv_at hl 4 rfl) ?_
            refine lv_iadd hx hb dX7_lays_80 ?_
            refine lv_iconst (v := 1) hx hb dX7_lays_81 (by decide) ?_
            refine lv_iadd hx hb dX7_lays_82 ?_
            refine lv_icmp_ge (tgt := 89) hx hb dX7_lays_83 (by decide) (fun hc => ?_) (fun hc => ?_)
            · have h := h.1 hc
              refine lv_iinc (v := v6 + 1) (lv' := [(6, .int (v6 + 1)), (0, .ref (ad_m 0)), (1, .int v1), (2, .int v2), (3, .int v3), (4, .int v4), (5, .int v5)]) hx hb dX7_lays_89 hl (k := 6) rfl rfl (by decide) rfl (fun ls hl => ?_)
              refine lv_goto (tgt := 9) hx hb dX7_lays_92 (by decide) ?_
              exact ih v5 (v6 + 1) m_pitch m_first m_length m_table h H locs hP hD hS ls (lv_sub hl [1, 2, 3, 4, 5, 6, 0] rfl)
            · have h := h.2 hc
              refine lv_bipush (v := (-2)) hx hb dX7_lays_86 (by decide) ?_
              exact gl_ireti G hK (u := (m_pitch, m_first, m_length, m_table)) hP hD hS h dX7_lays_88
      · have h := h.2 hc
        refine lv_iload hx hb dX7_lays_31 (lv_at hl 6 rfl) ?_
        refine lv_istore (lv' := [(5, .int v6), (0, .ref (ad_m 0)), (1, .int v1), (2, .int v2), (3, .int v3), (4, .int v4), (6, .int v6)]) hx hb dX7_lays_33 hl (by decide) rfl (fun ls hl => ?_)
        refine lv_goto (tgt := 89) hx hb dX7_lays_35 (by decide) ?_
        refine lv_iinc (v := v6 + 1) (lv' := [(6, .int (v6 + 1)), (5, .int v6), (0, .ref (ad_m 0)), (1, .int v1), (2, .int v2), (3, .int v3), (4, .int v4)]) hx hb dX7_lays_89 hl (k := 6) rfl rfl (by decide) rfl (fun ls hl => ?_)
        refine lv_goto (tgt := 9) hx hb dX7_lays_92 (by decide) ?_
        exact ih v6 (v6 + 1) m_pitch m_first m_length m_table h H locs hP hD hS ls (lv_sub hl [2, 3, 4, 5, 6, 1, 0] rfl)
set_option maxRecDepth 100000 in
set_option maxHeartbeats 4000000 in
theorem ml_X7_lays_0 {p : Program} {l : Launch} {e : Env} {s : State} {m : MethodId} {args : Array Value} {below : List Frame} {meth : Method} {c : Code} {D : va_G} {cI cZ cR : ClassId} {A : Nat → Prop} {ad_m : Nat → Nat} {m_thrown : Int32} {m_rolls : Int32} {m_marks : Nat → Int32} {m_markStep : Nat → Int32} {m_markTicks : Nat → Int32} {m_order : Nat → Int32} {m_many : Int32} {m_heard : Int32} {m_pressed : Int32} {m_silents : Int32} {m_items : Int32} {m_itemPitch : Nat → Int32} {m_itemStep : Nat → Int32} {m_ends : Nat → Int32} {m_noteOf : Nat → Int32} {m_cost : Int32} {m_extra : Int32} {m_slotOf : Nat → Int32} {m_sights : Int32} {m_sightCopy : Nat → Int32} {m_sightPitch : Nat → Int32} {m_isFaulty : Nat → Int32} {m_least : Int32} {m_greatest : Int32} {m_lines : Int32} {m_lineCopy : Nat → Int32} {m_lineDay : Nat → Int32} {m_linePlace : Nat → Int32} {m_lineTold : Nat → Int32} {m_now : Int32} (G : gG p s m args meth c cX7_lays (some .int) 7 RX7 wsX7_lays) (hK : va_K D vwCl (gT cI cZ cR) s) (hN : va_Nw gN s) (hA : ∀ q, s.heap.size ≤ q → A q) (v1 : Int32) (v2 : Int32) (v3 : Int32) (v4 : Int32) (post : Int32 → (Nat → Int32) → (Nat → Int32) → (Nat → Int32) → (Nat → Int32) → Prop) (m_pitch : Nat → Int32) (m_first : Nat → Int32) (m_length : Nat → Int32) (m_table : Nat → Int32) (h : wp_X7_lays v1 v2 v3 v4 m_pitch m_first m_length m_table post) : ∀ (H : Heap) (locs : List Loc), va_P D vwCl (w_M cI cZ cR ad_m m_thrown m_rolls m_pitch m_first m_length m_marks m_markStep m_markTicks m_table m_order m_many m_heard m_pressed m_silents m_items m_itemPitch m_itemStep m_ends m_noteOf m_cost m_extra m_slotOf m_sights m_sightCopy m_sightPitch m_isFaulty m_least m_greatest m_lines m_lineCopy m_lineDay m_linePlace m_lineTold m_now) H → va_D A (w_M cI cZ cR ad_m m_thrown m_rolls m_pitch m_first m_length m_marks m_markStep m_markTicks m_table m_order m_many m_heard m_pressed m_silents m_items m_itemPitch m_itemStep m_ends m_noteOf m_cost m_extra m_slotOf m_sights m_sightCopy m_sightPitch m_isFaulty m_least m_greatest m_lines m_lineCopy m_lineDay m_linePlace m_lineTold m_now) → va_S A s.heap H locs → ∀ (ls : Array Slot), lv_has ls 7 [(0, .ref (ad_m 0)), (1, .int v1), (2, .int v2), (3, .int v3), (4, .int v4)] → W p l e { frames := 5, cells := 0, slots := 0, locals := 118 } s m args below meth c H locs 0 0 (MQ below (va_Qi (fun (r : Int32) (u : (Nat → Int32) × (Nat → Int32) × (Nat → Int32) × (Nat → Int32)) => post r u.1 u.2.1 u.2.2.1 u.2.2.2) (fun u t => gB D (gT cI cZ cR) A (w_M cI cZ cR ad_m m_thrown m_rolls u.1 u.2.1 u.2.2.1 m_marks m_markStep m_markTicks u.2.2.2 m_order m_many m_heard m_pressed m_silents m_items m_itemPitch m_itemStep m_ends m_noteOf m_cost m_extra m_slotOf m_sights m_sightCopy m_sightPitch m_isFaulty m_least m_greatest m_lines m_lineCopy m_lineDay m_linePlace m_lineTold m_now) t) A) args s 0 0 A) (F0 m 0 ls []) := by
  obtain ⟨hx, hb, hr, hml, hown, hts, hlocks⟩ := id G
  intro H locs hP hD hS ls hl
  unfold wp_X7_lays at h
  refine lv_iconst (v := (-1)) hx hb dX7_lays_0 (by decide) ?_
  refine lv_istore (lv' := [(5, .int (-1)), (0, .ref (ad_m 0)), (1, .int v1), (2, .int v2), (3, .int v3), (4, .int v4)]) hx hb dX7_lays_1 hl (by decide) rfl (fun ls hl => ?_)
  refine lv_bipush (v := 60) hx hb dX7_lays_3 (by decide) ?_
  refine lv_iload_n hx hb dX7_lays_5 rfl (lv_at hl 2 rfl) ?_
  refine lv_imul hx hb dX7_lays_6 ?_
  refine lv_topi (fun z1 ez1 => ?_)
  have h := h z1 ez1
  refine lv_istore (lv' := [(6, .int z1), (5, .int (-1)), (0, .ref (ad_m 0)), (1, .int v1), (2, .int v2), (3, .int v3), (4, .int v4)]) hx hb dX7_lays_7 hl (by decide) rfl (fun ls hl => ?_)
  obtain ⟨nf, h⟩ := h
  exact ml_X7_lays_9 G hK hN hA v1 v2 v3 v4 post nf (-1) z1 m_pitch m_first m_length m_table h H locs hP hD hS ls (lv_sub hl [2, 3, 4, 5, 6, 1, 0] rfl)
set_option maxRecDepth 100000 in
theorem mt_X7_lays (l : Launch) (D : va_G) (cI cZ cR : ClassId) (ad_m : Nat → Nat) (sz : Nat) (m_thrown : Int32) (m_rolls : Int32) (m_pitch : Nat → Int32) (m_first : Nat → Int32) (m_length : Nat → Int32) (m_marks : Nat → Int32) (m_markStep : Nat → Int32) (m_markTicks : Nat → Int32) (m_table : Nat → Int32) (m_order : Nat → Int32) (m_many : Int32) (m_heard : Int32) (m_pressed : Int32) (m_silents : Int32) (m_items : Int32) (m_itemPitch : Nat → Int32) (m_itemStep : Nat → Int32) (m_ends : Nat → Int32) (m_noteOf : Nat → Int32) (m_cost : Int32) (m_extra : Int32) (m_slotOf : Nat → Int32) (m_sights : Int32) (m_sightCopy : Nat → Int32) (m_sightPitch : Nat → Int32) (m_isFaulty : Nat → Int32) (m_least : Int32) (m_greatest : Int32) (m_lines : Int32) (m_lineCopy : Nat → Int32) (m_lineDay : Nat → Int32) (m_linePlace : Nat → Int32) (m_lineTold : Nat → Int32) (m_now : Int32) (v1 : Int32) (v2 : Int32) (v3 : Int32) (v4 : Int32) (post : Int32 → (Nat → Int32) → (Nat → Int32) → (Nat → Int32) → (Nat → Int32) → Prop) (h : wp_X7_lays v1 v2 v3 v4 m_pitch m_first m_length m_table post) : Met l yX7_lays wsX7_lays ({ frames := 5, cells := 0, slots := 0, locals := 118 }) (gPc D (gT cI cZ cR) (w_M cI cZ cR ad_m m_thrown m_rolls m_pitch m_first m_length m_marks m_markStep m_markTicks m_table m_order m_many m_heard m_pressed m_silents m_items m_itemPitch m_itemStep m_ends m_noteOf m_cost m_extra m_slotOf m_sights m_sightCopy m_sightPitch m_isFaulty m_least m_greatest m_lines m_lineCopy m_lineDay m_linePlace m_lineTold m_now) sz [.ref (ad_m 0), .int v1, .int v2, .int v3, .int v4]) (va_Qi (fun (r : Int32) (u : (Nat → Int32) × (Nat → Int32) × (Nat → Int32) × (Nat → Int32)) => post r u.1 u.2.1 u.2.2.1 u.2.2.2) (fun u t => gB D (gT cI cZ cR) (va_A (w_M cI cZ cR ad_m m_thrown m_rolls m_pitch m_first m_length m_marks m_markStep m_markTicks m_table m_order m_many m_heard m_pressed m_silents m_items m_itemPitch m_itemStep m_ends m_noteOf m_cost m_extra m_slotOf m_sights m_sightCopy m_sightPitch m_isFaulty m_least m_greatest m_lines m_lineCopy m_lineDay m_linePlace m_lineTold m_now) sz) (w_M cI cZ cR ad_m m_thrown m_rolls u.1 u.2.1 u.2.2.1 m_marks m_markStep m_markTicks u.2.2.2 m_order m_many m_heard m_pressed m_silents m_items m_itemPitch m_itemStep m_ends m_noteOf m_cost m_extra m_slotOf m_sights m_sightCopy m_sightPitch m_isFaulty m_least m_greatest m_lines m_lineCopy m_lineDay m_linePlace m_lineTold m_now) t) (va_A (w_M cI cZ cR ad_m m_thrown m_rolls m_pitch m_first m_length m_marks m_markStep m_markTicks m_table m_order m_many m_heard m_pressed m_silents m_items m_itemPitch m_itemStep m_ends m_noteOf m_cost m_extra m_slotOf m_sights m_sightCopy m_sightPitch m_isFaulty m_least m_greatest m_lines m_lineCopy m_lineDay m_linePlace m_lineTold m_now) sz)) 0 0 (va_A (w_M cI cZ cR ad_m m_thrown m_rolls m_pitch m_first m_length m_marks m_markStep m_markTicks m_table m_order m_many m_heard m_pressed m_silents m_items m_itemPitch m_itemStep m_ends m_noteOf m_cost m_extra m_slotOf m_sights m_sightCopy m_sightPitch m_isFaulty m_least m_greatest m_lines m_lineCopy m_lineDay m_linePlace m_lineTold m_now) sz) := by
  refine gl_entry (cc := cX7_lays) (maxL := 7) (ret := (some .int)) (by decide) rfl (Nat.le_of_ble_eq_true rfl) ?_
  intro p e s m below meth c ls G hin hsz hK hN hP hD hl
  subst hsz
  exact ml_X7_lays_0 G hK hN (fun q h => Or.inr h) v1 v2 v3 v4 post m_pitch m_first m_length m_table h s.heap [] hP hD va_S.rf ls hl
theorem lk_X7_lay_0 : (Cond.fieldLink RX7 71 "RollHouseModel" "thrown" "I") ∈ wsX7_lay := by decide +kernel
theorem us_X7_lay_X7 : ∀ w ∈ u_ws RX7 TX7 34, w ∈ wsX7_lay := by decide +kernel
def wp_X7_lay (m_rolls : Int32) (v1 : Int32) (v2 : Int32) (v3 : Int32) (v4 : Int32) (m_thrown : Int32) (m_pitch : Nat → Int32) (m_first : Nat → Int32) (m_length : Nat → Int32) (m_table : Nat → Int32) (post : Int32 → Int32 → (Nat → Int32) → (Nat → Int32) → (Nat → Int32) → (Nat → Int32) → Prop) : Prop := (wp_X7_isRoll m_rolls v1 (fun (r1 : Int32) => ((r1 = 0 → post (-1) 0 m_pitch m_first m_length m_table) ∧ (¬ r1 = 0 → (wp_X7_within v2 0 23 (fun (r2 : Int32) => ((r2 = 0 → post (-1) 0 m_pitch m_first m_length m_table) ∧ (¬ r2 = 0 → (wp_X7_within v3 0 299 (fun (r3 : Int32) => ((r3 = 0 → post (-1) 0 m_pitch m_first m_length m_table) ∧ (¬ r3 = 0 → (wp_X7_within v4 1 60 (fun (r4 : Int32) => ((r4 = 0 → post (-1) 0 m_pitch m_first m_length m_table) ∧ (¬ r4 = 0 → ((300 < (v3 + v4) → post (-1) 0 m_pitch m_first m_length m_table) ∧ (¬ 300 < (v3 + v4) → (wp_X7_notes m_length v1 (fun (r5 : Int32) => ((¬ r5 = 60 → (wp_X7_lays v1 v2 v3 v4 m_pitch m_first m_length m_table (fun (r6 : Int32) (a7 : Nat → Int32) (a8 : Nat → Int32) (a9 : Nat → Int32) (a10 : Nat → Int32) => ((¬ r6 = 0 → post r6 0 a7 a8 a9 a10) ∧ (r6 = 0 → post 1 0 a7 a8 a9 a10))))) ∧ (r5 = 60 → post (-1) 0 m_pitch m_first m_length m_table))))))))))))))))))))))
set_option maxRecDepth 100000 in
set_option maxHeartbeats 4000000 in
theorem ml_X7_lay_0 {p : Program} {l : Launch} {e : Env} {s : State} {m : MethodId} {args : Array Value} {below : List Frame} {meth : Method} {c : Code} {D : va_G} {cI cZ cR : ClassId} {A : Nat → Prop} {ad_m : Nat → Nat} {m_marks : Nat → Int32} {m_markStep : Nat → Int32} {m_markTicks : Nat → Int32} {m_order : Nat → Int32} {m_many : Int32} {m_heard : Int32} {m_pressed : Int32} {m_silents : Int32} {m_items : Int32} {m_itemPitch : Nat → Int32} {m_itemStep : Nat → Int32} {m_ends : Nat → Int32} {m_noteOf : Nat → Int32} {m_cost : Int32} {m_extra : Int32} {m_slotOf : Nat → Int32} {m_sights : Int32} {m_sightCopy : Nat → Int32} {m_sightPitch : Nat → Int32} {m_isFaulty : Nat → Int32} {m_least : Int32} {m_greatest : Int32} {m_lines : Int32} {m_lineCopy : Nat → Int32} {m_lineDay : Nat → Int32} {m_linePlace : Nat → Int32} {m_lineTold : Nat → Int32} {m_now : Int32} (G : gG p s m args meth c cX7_lay (some .int) 6 RX7 wsX7_lay) (hK : va_K D vwCl (gT cI cZ cR) s) (hN : va_Nw gN s) (hA : ∀ q, s.heap.size ≤ q → A q) (m_rolls : Int32) (v1 : Int32) (v2 : Int32) (v3 : Int32) (v4 : Int32) (post : Int32 → Int32 → (Nat → Int32) → (Nat → Int32) → (Nat → Int32) → (Nat → Int32) → Prop) (m_thrown : Int32) (m_pitch : Nat → Int32) (m_first : Nat → Int32) (m_length : Nat → Int32) (m_table : Nat → Int32) (h : wp_X7_lay m_rolls v1 v2 v3 v4 m_thrown m_pitch m_first m_length m_table post) : ∀ (H : Heap) (locs : List Loc), va_P D vwCl (w_M cI cZ cR ad_m m_thrown m_rolls m_pitch m_first m_length m_marks m_markStep m_markTicks m_table m_order m_many m_heard m_pressed m_silents m_items m_itemPitch m_itemStep m_ends m_noteOf m_cost m_extra m_slotOf m_sights m_sightCopy m_sightPitch m_isFaulty m_least m_greatest m_lines m_lineCopy m_lineDay m_linePlace m_lineTold m_now) H → va_D A (w_M cI cZ cR ad_m m_thrown m_rolls m_pitch m_first m_length m_marks m_markStep m_markTicks m_table m_order m_many m_heard m_pressed m_silents m_items m_itemPitch m_itemStep m_ends m_noteOf m_cost m_extra m_slotOf m_sights m_sightCopy m_sightPitch m_isFaulty m_least m_greatest m_lines m_lineCopy m_lineDay m_linePlace m_lineTold m_now) → va_S A s.heap H locs → ∀ (ls : Array Slot), lv_has ls 6 [(0, .ref (ad_m 0)), (1, .int v1), (2, .int v2), (3, .int v3), (4, .int v4)] → W p l e { frames := 6, cells := 0, slots := 0, locals := 144 } s m args below meth c H locs 0 0 (MQ below (va_Qi (fun (r : Int32) (u : (Int32) × (Nat → Int32) × (Nat → Int32) × (Nat → Int32) × (Nat → Int32)) => post r u.1 u.2.1 u.2.2.1 u.2.2.2.1 u.2.2.2.2) (fun u t => gB D (gT cI cZ cR) A (w_M cI cZ cR ad_m u.1 m_rolls u.2.1 u.2.2.1 u.2.2.2.1 m_marks m_markStep m_markTicks u.2.2.2.2 m_order m_many m_heard m_pressed m_silents m_items m_itemPitch m_itemStep m_ends m_noteOf m_cost m_extra m_slotOf m_sights m_sightCopy m_sightPitch m_isFaulty m_least m_greatest m_lines m_lineCopy m_lineDay m_linePlace m_lineTold m_now) t) A) args s 0 0 A) (F0 m 0 ls []) := by
  obtain ⟨hx, hb, hr, hml, hown, hts, hlocks⟩ := id G
  intro H locs hP hD hS ls hl
  unfold wp_X7_lay at h
  refine lv_aload_n hx hb dX7_lay_0 rfl (lv_at hl 0 rfl) ?_
  refine lv_iconst (v := 0) hx hb dX7_lay_1 (by decide) ?_
  refine va_put (D := D) (ci := 7) (v := .int 0) (ty := .int) (C := RX7) (T := TX7) (N := 34) hx hb hts us_X7_lay_X7 tyX7 tyX7_ok nmX7 hown hK hP hD hS 0 rfl rfl 0 (by decide) (hts (.fieldLink RX7 71 "RollHouseModel" "thrown" "I") lk_X7_lay_0) (fun _ h9 => h9) rfl (by decide +kernel) rfl rfl (Nat.le_of_ble_eq_true rfl) dX7_lay_2 (fun H locs hP hD hS => ?_)
  have hP : va_P D vwCl (w_M cI cZ cR ad_m 0 m_rolls m_pitch m_first m_length m_marks m_markStep m_markTicks m_table m_order m_many m_heard m_pressed m_silents m_items m_itemPitch m_itemStep m_ends m_noteOf m_cost m_extra m_slotOf m_sights m_sightCopy m_sightPitch m_isFaulty m_least m_greatest m_lines m_lineCopy m_lineDay m_linePlace m_lineTold m_now) H := hP
  have hD : va_D A (w_M cI cZ cR ad_m 0 m_rolls m_pitch m_first m_length m_marks m_markStep m_markTicks m_table m_order m_many m_heard m_pressed m_silents m_items m_itemPitch m_itemStep m_ends m_noteOf m_cost m_extra m_slotOf m_sights m_sightCopy m_sightPitch m_isFaulty m_least m_greatest m_lines m_lineCopy m_lineDay m_linePlace m_lineTold m_now) := hD
  refine lv_aload_n hx hb dX7_lay_5 rfl (lv_at hl 0 rfl) ?_
  refine lv_iload_n hx hb dX7_lay_6 rfl (lv_at hl 1 rfl) ?_
  refine gl_calliF (va_runV (As := [.int v1]) (rest := []) ⟨hx, hb, hml, hown, hts⟩ (mt_X7_isRoll l D cI cZ cR ad_m H.size 0 m_rolls m_pitch m_first m_length m_marks m_markStep m_markTicks m_table m_order m_many m_heard m_pressed m_silents m_items m_itemPitch m_itemStep m_ends m_noteOf m_cost m_extra m_slotOf m_sights m_sightCopy m_sightPitch m_isFaulty m_least m_greatest m_lines m_lineCopy m_lineDay m_linePlace m_lineTold m_now v1 _ h) (cwV 1 hts gX7_lay_X7_isRoll rfl rfl rfl (by decide +kernel) ⟨Nat.le_of_ble_eq_true rfl, Nat.le_of_ble_eq_true rfl⟩) ⟨gl_blind, va_recv hK hP (ci := 7) (q0 := 0) rfl rfl, gl_pre hP hK hN hD⟩ rfl rfl hl.1 rfl (lv_room (Nat.le_of_ble_eq_true rfl)) dX7_lay_7 ⟨Nat.le_of_ble_eq_true rfl, Nat.le_of_ble_eq_true rfl⟩) hD hS hA (fun r1 u H locs h hP hD hS => ?_)
  try dsimp only at h
  refine lv_if_eq (tgt := 65) hx hb dX7_lay_10 (by decide) (fun hc => ?_) (fun hc => ?_)
  · have h := h.1 hc
    refine lv_iconst (v := (-1)) hx hb dX7_lay_65 (by decide) ?_
    exact gl_ireti G hK (u := (0, m_pitch, m_first, m_length, m_table)) hP hD hS h dX7_lay_66
  · have h := h.2 hc
    refine lv_iload_n hx hb dX7_lay_13 rfl (lv_at hl 2 rfl) ?_
    refine lv_iconst (v := 0) hx hb dX7_lay_14 (by decide) ?_
    refine lv_bipush (v := 23) hx hb dX7_lay_15 (by decide) ?_
    refine gl_calliS (va_runS (As := [.int v2, .int 0, .int 23]) (rest := []) ⟨hx, hb, hml, hown, hts⟩ (mt_X7_within l D cI cZ cR  H.size v2 0 23 _ h) (va_cwS 3 hts gX7_lay_X7_within rfl rfl rfl (by decide +kernel) ⟨Nat.le_of_ble_eq_true rfl, Nat.le_of_ble_eq_true rfl⟩) ⟨gl_blind, gl_pre gl_nilP hK hN (gl_nilD (A := A))⟩ rfl rfl hl.1 rfl (lv_room (Nat.le_of_ble_eq_true rfl)) dX7_lay_17 ⟨Nat.le_of_ble_eq_true rfl, Nat.le_of_ble_eq_true rfl⟩) hP hS hA (fun r2 u H locs h hP hS => ?_)
    try dsimp only at h
    refine lv_if_eq (tgt := 65) hx hb dX7_lay_20 (by decide) (fun hc => ?_) (fun hc => ?_)
    · have h := h.1 hc
      refine lv_iconst (v := (-1)) hx hb dX7_lay_65 (by decide) ?_
      exact gl_ireti G hK (u := (0, m_pitch, m_first, m_length, m_table)) hP hD hS h dX7_lay_66
    · have h := h.2 hc
      refine lv_iload_n hx hb dX7_lay_23 rfl (lv_at hl 3 rfl) ?_
      refine lv_iconst (v := 0) hx hb dX7_lay_24 (by decide) ?_
      refine lv_sipush (v := 299) hx hb dX7_lay_25 (by decide) ?_
      refine gl_calliS (va_runS (As := [.int v3, .int 0, .int 299]) (rest := []) ⟨hx, hb, hml, hown, hts⟩ (mt_X7_within l D cI cZ cR  H.size v3 0 299 _ h) (va_cwS 3 hts gX7_lay_X7_within rfl rfl rfl (by decide +kernel) ⟨Nat.le_of_ble_eq_true rfl, Nat.le_of_ble_eq_true rfl⟩) ⟨gl_blind, gl_pre gl_nilP hK hN (gl_nilD (A := A))⟩ rfl rfl hl.1 rfl (lv_room (Nat.le_of_ble_eq_true rfl)) dX7_lay_28 ⟨Nat.le_of_ble_eq_true rfl, Nat.le_of_ble_eq_true rfl⟩) hP hS hA (fun r3 u H locs h hP hS => ?_)
      try dsimp only at h
      refine lv_if_eq (tgt := 65) hx hb dX7_lay_31 (by decide) (fun hc => ?_) (fun hc => ?_)
      · have h := h.1 hc
        refine lv_iconst (v := (-1)) hx hb dX7_lay_65 (by decide) ?_
        exact gl_ireti G hK (u := (0, m_pitch, m_first, m_length, m_table)) hP hD hS h dX7_lay_66
      · have h := h.2 hc
        refine lv_iload hx hb dX7_lay_34 (lv_at hl 4 rfl) ?_
        refine lv_iconst (v := 1) hx hb dX7_lay_36 (by decide) ?_
        refine lv_bipush (v := 60) hx hb dX7_lay_37 (by decide) ?_
        refine gl_calliS (va_runS (As := [.int v4, .int 1, .int 60]) (rest := []) ⟨hx, hb, hml, hown, hts⟩ (mt_X7_within l D cI cZ cR  H.size v4 1 60 _ h) (va_cwS 3 hts gX7_lay_X7_within rfl rfl rfl (by decide +kernel) ⟨Nat.le_of_ble_eq_true rfl, Nat.le_of_ble_eq_true rfl⟩) ⟨gl_blind, gl_pre gl_nilP hK hN (gl_nilD (A := A))⟩ rfl rfl hl.1 rfl (lv_room (Nat.le_of_ble_eq_true rfl)) dX7_lay_39 ⟨Nat.le_of_ble_eq_true rfl, Nat.le_of_ble_eq_true rfl⟩) hP hS hA (fun r4 u H locs h hP hS => ?_)
        try dsimp only at h
        refine lv_if_eq (tgt := 65) hx hb dX7_lay_42 (by decide) (fun hc => ?_) (fun hc => ?_)
        · have h := h.1 hc
          refine lv_iconst (v := (-1)) hx hb dX7_lay_65 (by decide) ?_
          exact gl_ireti G hK (u := (0, m_pitch, m_first, m_length, m_table)) hP hD hS h dX7_lay_66
        · have h := h.2 hc
          refine lv_iload_n hx hb dX7_lay_45 rfl (lv_at hl 3 rfl) ?_
          refine lv_iload hx hb dX7_lay_46 (lv_at hl 4 rfl) ?_
          refine lv_iadd hx hb dX7_lay_48 ?_
          refine lv_sipush (v := 300) hx hb dX7_lay_49 (by decide) ?_
          refine lv_icmp_gt (tgt := 65) hx hb dX7_lay_52 (by decide) (fun hc => ?_) (fun hc => ?_)
          · have h := h.1 hc
            refine lv_iconst (v := (-1)) hx hb dX7_lay_65 (by decide) ?_
            exact gl_ireti G hK (u := (0, m_pitch, m_first, m_length, m_table)) hP hD hS h dX7_lay_66
          · have h := h.2 hc
            refine lv_aload_n hx hb dX7_lay_55 rfl (lv_at hl 0 rfl) ?_
            refine lv_iload_n hx hb dX7_lay_56 rfl (lv_at hl 1 rfl) ?_
            refine gl_calliF (va_runV (As := [.int v1]) (rest := []) ⟨hx, hb, hml, hown, hts⟩ (mt_X7_notes l D cI cZ cR ad_m H.size 0 m_rolls m_pitch m_first m_length m_marks m_markStep m_markTicks m_table m_order m_many m_heard m_pressed m_silents m_items m_itemPitch m_itemStep m_ends m_noteOf m_cost m_extra m_slotOf m_sights m_sightCopy m_sightPitch m_isFaulty m_least m_greatest m_lines m_lineCopy m_lineDay m_linePlace m_lineTold m_now v1 _ h) (cwV 1 hts gX7_lay_X7_notes rfl rfl rfl (by decide +kernel) ⟨Nat.le_of_ble_eq_true rfl, Nat.le_of_ble_eq_true rfl⟩) ⟨gl_blind, va_recv hK hP (ci := 7) (q0 := 0) rfl rfl, gl_pre hP hK hN hD⟩ rfl rfl hl.1 rfl (lv_room (Nat.le_of_ble_eq_true rfl)) dX7_lay_57 ⟨Nat.le_of_ble_eq_true rfl, Nat.le_of_ble_eq_true rfl⟩) hD hS hA (fun r5 u H locs h hP hD hS => ?_)
            try dsimp only at h
            refine lv_bipush (v := 60) hx hb dX7_lay_60 (by decide) ?_
            refine lv_icmp_ne (tgt := 67) hx hb dX7_lay_62 (by decide) (fun hc => ?_) (fun hc => ?_)
            · have h := h.1 hc
              refine lv_aload_n hx hb dX7_lay_67 rfl (lv_at hl 0 rfl) ?_
              refine lv_iload_n hx hb dX7_lay_68 rfl (lv_at hl 1 rfl) ?_
              refine lv_iload_n hx hb dX7_lay_69 rfl (lv_at hl 2 rfl) ?_
              refine lv_iload_n hx hb dX7_lay_70 rfl (lv_at hl 3 rfl) ?_
              refine lv_iload hx hb dX7_lay_71 (lv_at hl 4 rfl) ?_
              refine gl_calliF (va_runV (As := [.int v1, .int v2, .int v3, .int v4]) (rest := []) ⟨hx, hb, hml, hown, hts⟩ (mt_X7_lays l D cI cZ cR ad_m H.size 0 m_rolls m_pitch m_first m_length m_marks m_markStep m_markTicks m_table m_order m_many m_heard m_pressed m_silents m_items m_itemPitch m_itemStep m_ends m_noteOf m_cost m_extra m_slotOf m_sights m_sightCopy m_sightPitch m_isFaulty m_least m_greatest m_lines m_lineCopy m_lineDay m_linePlace m_lineTold m_now v1 v2 v3 v4 _ h) (cwV 4 hts gX7_lay_X7_lays rfl rfl rfl (by decide +kernel) ⟨Nat.le_of_ble_eq_true rfl, Nat.le_of_ble_eq_true rfl⟩) ⟨gl_blind, va_recv hK hP (ci := 7) (q0 := 0) rfl rfl, gl_pre hP hK hN hD⟩ rfl rfl hl.1 rfl (lv_room (Nat.le_of_ble_eq_true rfl)) dX7_lay_73 ⟨Nat.le_of_ble_eq_true rfl, Nat.le_of_ble_eq_true rfl⟩) hD hS hA (fun r6 u H locs h hP hD hS => ?_)
              obtain ⟨a7, a8, a9, a10⟩ := u
              try dsimp only at h
              have hP : va_P D vwCl (w_M cI cZ cR ad_m 0 m_rolls a7 a8 a9 m_marks m_markStep m_markTicks a10 m_order m_many m_heard m_pressed m_silents m_items m_itemPitch m_itemStep m_ends m_noteOf m_cost m_extra m_slotOf m_sights m_sightCopy m_sightPitch m_isFaulty m_least m_greatest m_lines m_lineCopy m_lineDay m_linePlace m_lineTold m_now) H := hP
              have hD : va_D A (w_M cI cZ cR ad_m 0 m_rolls a7 a8 a9 m_marks m_markStep m_markTicks a10 m_order m_many m_heard m_pressed m_silents m_items m_itemPitch m_itemStep m_ends m_noteOf m_cost m_extra m_slotOf m_sights m_sightCopy m_sightPitch m_isFaulty m_least m_greatest m_lines m_lineCopy m_lineDay m_linePlace m_lineTold m_now) := hD
              refine lv_istore (lv' := [(5, .int r6), (0, .ref (ad_m 0)), (1, .int v1), (2, .int v2), (3, .int v3), (4, .int v4)]) hx hb dX7_lay_76 hl (by decide) rfl (fun ls hl => ?_)
              refine lv_iload hx hb dX7_lay_78 (lv_at hl 0 rfl) ?_
              refine lv_if_ne (tgt := 87) hx hb dX7_lay_80 (by decide) (fun hc => ?_) (fun hc => ?_)
              · have h := h.1 hc
                refine lv_iload hx hb dX7_lay_87 (lv_at hl 0 rfl) ?_
                exact gl_ireti G hK (u := (0, a7, a8, a9, a10)) hP hD hS h dX7_lay_89
              · have h := h.2 hc
                refine lv_iconst (v := 1) hx hb dX7_lay_83 (by decide) ?_
                refine lv_goto (tgt := 89) hx hb dX7_lay_84 (by decide) ?_
                exact gl_ireti G hK (u := (0, a7, a8, a9, a10)) hP hD hS h dX7_lay_89
            · have h := h.2 hc
              refine lv_iconst (v := (-1)) hx hb dX7_lay_65 (by decide) ?_
              exact gl_ireti G hK (u := (0, m_pitch, m_first, m_length, m_table)) hP hD hS h dX7_lay_66
set_option maxRecDepth 100000 in
theorem mt_X7_lay (l : Launch) (D : va_G) (cI cZ cR : ClassId) (ad_m : Nat → Nat) (sz : Nat) (m_thrown : Int32) (m_rolls : Int32) (m_pitch : Nat → Int32) (m_first : Nat → Int32) (m_length : Nat → Int32) (m_marks : Nat → Int32) (m_markStep : Nat → Int32) (m_markTicks : Nat → Int32) (m_table : Nat → Int32) (m_order : Nat → Int32) (m_many : Int32) (m_heard : Int32) (m_pressed : Int32) (m_silents : Int32) (m_items : Int32) (m_itemPitch : Nat → Int32) (m_itemStep : Nat → Int32) (m_ends : Nat → Int32) (m_noteOf : Nat → Int32) (m_cost : Int32) (m_extra : Int32) (m_slotOf : Nat → Int32) (m_sights : Int32) (m_sightCopy : Nat → Int32) (m_sightPitch : Nat → Int32) (m_isFaulty : Nat → Int32) (m_least : Int32) (m_greatest : Int32) (m_lines : Int32) (m_lineCopy : Nat → Int32) (m_lineDay : Nat → Int32) (m_linePlace : Nat → Int32) (m_lineTold : Nat → Int32) (m_now : Int32) (v1 : Int32) (v2 : Int32) (v3 : Int32) (v4 : Int32) (post : Int32 → Int32 → (Nat → Int32) → (Nat → Int32) → (Nat → Int32) → (Nat → Int32) → Prop) (h : wp_X7_lay m_rolls v1 v2 v3 v4 m_thrown m_pitch m_first m_length m_table post) : Met l yX7_lay wsX7_lay ({ frames := 6, cells := 0, slots := 0, locals := 144 }) (gPc D (gT cI cZ cR) (w_M cI cZ cR ad_m m_thrown m_rolls m_pitch m_first m_length m_marks m_markStep m_markTicks m_table m_order m_many m_heard m_pressed m_silents m_items m_itemPitch m_itemStep m_ends m_noteOf m_cost m_extra m_slotOf m_sights m_sightCopy m_sightPitch m_isFaulty m_least m_greatest m_lines m_lineCopy m_lineDay m_linePlace m_lineTold m_now) sz [.ref (ad_m 0), .int v1, .int v2, .int v3, .int v4]) (va_Qi (fun (r : Int32) (u : (Int32) × (Nat → Int32) × (Nat → Int32) × (Nat → Int32) × (Nat → Int32)) => post r u.1 u.2.1 u.2.2.1 u.2.2.2.1 u.2.2.2.2) (fun u t => gB D (gT cI cZ cR) (va_A (w_M cI cZ cR ad_m m_thrown m_rolls m_pitch m_first m_length m_marks m_markStep m_markTicks m_table m_order m_many m_heard m_pressed m_silents m_items m_itemPitch m_itemStep m_ends m_noteOf m_cost m_extra m_slotOf m_sights m_sightCopy m_sightPitch m_isFaulty m_least m_greatest m_lines m_lineCopy m_lineDay m_linePlace m_lineTold m_now) sz) (w_M cI cZ cR ad_m u.1 m_rolls u.2.1 u.2.2.1 u.2.2.2.1 m_marks m_markStep m_markTicks u.2.2.2.2 m_order m_many m_heard m_pressed m_silents m_items m_itemPitch m_itemStep m_ends m_noteOf m_cost m_extra m_slotOf m_sights m_sightCopy m_sightPitch m_isFaulty m_least m_greatest m_lines m_lineCopy m_lineDay m_linePlace m_lineTold m_now) t) (va_A (w_M cI cZ cR ad_m m_thrown m_rolls m_pitch m_first m_length m_marks m_markStep m_markTicks m_table m_order m_many m_heard m_pressed m_silents m_items m_itemPitch m_itemStep m_ends m_noteOf m_cost m_extra m_slotOf m_sights m_sightCopy m_sightPitch m_isFaulty m_least m_greatest m_lines m_lineCopy m_lineDay m_linePlace m_lineTold m_now) sz)) 0 0 (va_A (w_M cI cZ cR ad_m m_thrown m_rolls m_pitch m_first m_length m_marks m_markStep m_markTicks m_table m_order m_many m_heard m_pressed m_silents m_items m_itemPitch m_itemStep m_ends m_noteOf m_cost m_extra m_slotOf m_sights m_sightCopy m_sightPitch m_isFaulty m_least m_greatest m_lines m_lineCopy m_lineDay m_linePlace m_lineTold m_now) sz) := by
  refine gl_entry (cc := cX7_lay) (maxL := 6) (ret := (some .int)) (by decide) rfl (Nat.le_of_ble_eq_true rfl) ?_
  intro p e s m below meth c ls G hin hsz hK hN hP hD hl
  subst hsz
  exact ml_X7_lay_0 G hK hN (fun q h => Or.inr h) m_rolls v1 v2 v3 v4 post m_thrown m_pitch m_first m_length m_table h s.heap [] hP hD va_S.rf ls hl
theorem lk_X7_lift_0 : (Cond.fieldLink RX7 71 "RollHouseModel" "thrown" "I") ∈ wsX7_lift := by decide +kernel
theorem lk_X7_lift_1 : (Cond.fieldLink RX7 16 "RollHouseModel" "length" "[I") ∈ wsX7_lift := by decide +kernel
theorem us_X7_lift_X7 : ∀ w ∈ u_ws RX7 TX7 34, w ∈ wsX7_lift := by decide +kernel
def wl_X7_lift_24 (m_rolls : Int32) (m_pitch : Nat → Int32) (m_first : Nat → Int32) (v1 : Int32) (v2 : Int32) (v3 : Int32) (post : Int32 → Int32 → (Nat → Int32) → Prop) (w0 : Int32) (m_thrown : Int32) (m_length : Nat → Int32) : Prop := ((¬ w0 = (-1) → (vp_in w0 360 ∧ (∀ z3 : Int32, z3 = m_length w0.toNatClampNeg → (vp_in w0 360 ∧ (∀ a4 : Nat → Int32, a4 = upd m_length w0.toNatClampNeg 0 → post z3 m_thrown a4))))) ∧ (w0 = (-1) → post (-1) m_thrown m_length))
def wp_X7_lift (m_rolls : Int32) (m_pitch : Nat → Int32) (m_first : Nat → Int32) (v1 : Int32) (v2 : Int32) (v3 : Int32) (m_thrown : Int32) (m_length : Nat → Int32) (post : Int32 → Int32 → (Nat → Int32) → Prop) : Prop := (wp_X7_isRoll m_rolls v1 (fun (r1 : Int32) => ((r1 = 0 → wl_X7_lift_24 m_rolls m_pitch m_first v1 v2 v3 post (-1) 0 m_length) ∧ (¬ r1 = 0 → (wp_X7_at m_pitch m_first m_length v1 v2 v3 (fun (r2 : Int32) => wl_X7_lift_24 m_rolls m_pitch m_first v1 v2 v3 post r2 0 m_length))))))
set_option maxRecDepth 100000 in
set_option maxHeartbeats 4000000 in
theorem ml_X7_lift_24 {p : Program} {l : Launch} {e : Env} {s : State} {m : MethodId} {args : Array Value} {below : List Frame} {meth : Method} {c : Code} {D : va_G} {cI cZ cR : ClassId} {A : Nat → Prop} {ad_m : Nat → Nat} {m_marks : Nat → Int32} {m_markStep : Nat → Int32} {m_markTicks : Nat → Int32} {m_table : Nat → Int32} {m_order : Nat → Int32} {m_many : Int32} {m_heard : Int32} {m_pressed : Int32} {m_silents : Int32} {m_items : Int32} {m_itemPitch : Nat → Int32} {m_itemStep : Nat → Int32} {m_ends : Nat → Int32} {m_noteOf : Nat → Int32} {m_cost : Int32} {m_extra : Int32} {m_slotOf : Nat → Int32} {m_sights : Int32} {m_sightCopy : Nat → Int32} {m_sightPitch : Nat → Int32} {m_isFaulty : Nat → Int32} {m_least : Int32} {m_greatest : Int32} {m_lines : Int32} {m_lineCopy : Nat → Int32} {m_lineDay : Nat → Int32} {m_linePlace : Nat → Int32} {m_lineTold : Nat → Int32} {m_now : Int32} (G : gG p s m args meth c cX7_lift (some .int) 6 RX7 wsX7_lift) (hK : va_K D vwCl (gT cI cZ cR) s) (hN : va_Nw gN s) (hA : ∀ q, s.heap.size ≤ q → A q) (m_rolls : Int32) (m_pitch : Nat → Int32) (m_first : Nat → Int32) (v1 : Int32) (v2 : Int32) (v3 : Int32) (post : Int32 → Int32 → (Nat → Int32) → Prop) (w0 : Int32) (m_thrown : Int32) (m_length : Nat → Int32) (h : wl_X7_lift_24 m_rolls m_pitch m_first v1 v2 v3 post w0 m_thrown m_length) : ∀ (H : Heap) (locs : List Loc), va_P D vwCl (w_M cI cZ cR ad_m m_thrown m_rolls m_pitch m_first m_length m_marks m_markStep m_markTicks m_table m_order m_many m_heard m_pressed m_silents m_items m_itemPitch m_itemStep m_ends m_noteOf m_cost m_extra m_slotOf m_sights m_sightCopy m_sightPitch m_isFaulty m_least m_greatest m_lines m_lineCopy m_lineDay m_linePlace m_lineTold m_now) H → va_D A (w_M cI cZ cR ad_m m_thrown m_rolls m_pitch m_first m_length m_marks m_markStep m_markTicks m_table m_order m_many m_heard m_pressed m_silents m_items m_itemPitch m_itemStep m_ends m_noteOf m_cost m_extra m_slotOf m_sights m_sightCopy m_sightPitch m_isFaulty m_least m_greatest m_lines m_lineCopy m_lineDay m_linePlace m_lineTold m_now) → va_S A s.heap H locs → ∀ (ls : Array Slot), lv_has ls 6 [(0, .ref (ad_m 0))] → W p l e { frames := 3, cells := 0, slots := 0, locals := 68 } s m args below meth c H locs 0 0 (MQ below (va_Qi (fun (r : Int32) (u : (Int32) × (Nat → Int32)) => post r u.1 u.2) (fun u t => gB D (gT cI cZ cR) A (w_M cI cZ cR ad_m u.1 m_rolls m_pitch m_first u.2 m_marks m_markStep m_markTicks m_table m_order m_many m_heard m_pressed m_silents m_items m_itemPitch m_itemStep m_ends m_noteOf m_cost m_extra m_slotOf m_sights m_sightCopy m_sightPitch m_isFaulty m_least m_greatest m_lines m_lineCopy m_lineDay m_linePlace m_lineTold m_now) t) A) args s 0 0 A) (F0 m 24 ls [.int w0]) := by
  obtain ⟨hx, hb, hr, hml, hown, hts, hlocks⟩ := id G
  intro H locs hP hD hS ls hl
  unfold wl_X7_lift_24 at h
  refine lv_istore (lv' := [(4, .int w0), (0, .ref (ad_m 0))]) hx hb dX7_lift_24 hl (by decide) rfl (fun ls hl => ?_)
  refine lv_iload hx hb dX7_lift_26 (lv_at hl 0 rfl) ?_
  refine lv_iconst (v := (-1)) hx hb dX7_lift_28 (by decide) ?_
  refine lv_icmp_ne (tgt := 34) hx hb dX7_lift_29 (by decide) (fun hc => ?_) (fun hc => ?_)
  · have h := h.1 hc
    refine lv_aload_n hx hb dX7_lift_34 rfl (lv_at hl 1 rfl) ?_
    refine va_get (D := D) (ci := 7) (v := .ref (ad_m 3)) (C := RX7) (T := TX7) (N := 34) hx hb hts us_X7_lift_X7 hown hK hP 0 rfl rfl 4 (by decide) (hts (.fieldLink RX7 16 "RollHouseModel" "length" "[I") lk_X7_lift_1) (fun _ h9 => h9) rfl dX7_lift_35 ?_
    refine lv_iload hx hb dX7_lift_38 (lv_at hl 0 rfl) ?_
    obtain ⟨hin, h⟩ := h
    refine va_iald hx hb hK hP 3 0 rfl rfl hin dX7_lift_40 ?_
    refine lv_topi (fun z3 ez3 => ?_)
    have h := h z3 ez3
    refine lv_istore (lv' := [(5, .int z3), (4, .int w0), (0, .ref (ad_m 0))]) hx hb dX7_lift_41 hl (by decide) rfl (fun ls hl => ?_)
    refine lv_aload_n hx hb dX7_lift_43 rfl (lv_at hl 2 rfl) ?_
    refine va_get (D := D) (ci := 7) (v := .ref (ad_m 3)) (C := RX7) (T := TX7) (N := 34) hx hb hts us_X7_lift_X7 hown hK hP 0 rfl rfl 4 (by decide) (hts (.fieldLink RX7 16 "RollHouseModel" "length" "[I") lk_X7_lift_1) (fun _ h9 => h9) rfl dX7_lift_44 ?_
    refine lv_iload hx hb dX7_lift_47 (lv_at hl 1 rfl) ?_
    refine lv_iconst (v := 0) hx hb dX7_lift_49 (by decide) ?_
    obtain ⟨hin, h⟩ := h
    refine va_iast hx hb hK hP hD hS 3 0 rfl rfl hin dX7_lift_50 (fun H locs hP hD hS => ?_)
    obtain ⟨a4, ea4⟩ : ∃ f, f = upd m_length w0.toNatClampNeg 0 := ⟨_, rfl⟩
    have h := h a4 ea4
    rw [← ea4] at hP hD
    have hP : va_P D vwCl (w_M cI cZ cR ad_m m_thrown m_rolls m_pitch m_first a4 m_marks m_markStep m_markTicks m_table m_order m_many m_heard m_pressed m_silents m_items m_itemPitch m_itemStep m_ends m_noteOf m_cost m_extra m_slotOf m_sights m_sightCopy m_sightPitch m_isFaulty m_least m_greatest m_lines m_lineCopy m_lineDay m_linePlace m_lineTold m_now) H := hP
    have hD : va_D A (w_M cI cZ cR ad_m m_thrown m_rolls m_pitch m_first a4 m_marks m_markStep m_markTicks m_table m_order m_many m_heard m_pressed m_silents m_items m_itemPitch m_itemStep m_ends m_noteOf m_cost m_extra m_slotOf m_sights m_sightCopy m_sightPitch m_isFaulty m_least m_greatest m_lines m_lineCopy m_lineDay m_linePlace m_lineTold m_now) := hD
    refine lv_iload hx hb dX7_lift_51 (lv_at hl 0 rfl) ?_
    exact gl_ireti G hK (u := (m_thrown, a4)) hP hD hS h dX7_lift_53
  · have h := h.2 hc
    refine lv_iconst (v := (-1)) hx hb dX7_lift_32 (by decide) ?_
    exact gl_ireti G hK (u := (m_thrown, m_length)) hP hD hS h dX7_lift_33
set_option maxRecDepth 100000 in
set_option maxHeartbeats 4000000 in
theorem ml_X7_lift_0 {p : Program} {l : Launch} {e : Env} {s : State} {m : MethodId} {args : Array Value} {below : List Frame} {meth : Method} {c : Code} {D : va_G} {cI cZ cR : ClassId} {A : Nat → Prop} {ad_m : Nat → Nat} {m_marks : Nat → Int32} {m_markStep : Nat → Int32} {m_markTicks : Nat → Int32} {m_table : Nat → Int32} {m_order : Nat → Int32} {m_many : Int32} {m_heard : Int32} {m_pressed : Int32} {m_silents : Int32} {m_items : Int32} {m_itemPitch : Nat → Int32} {m_itemStep : Nat → Int32} {m_ends : Nat → Int32} {m_noteOf : Nat → Int32} {m_cost : Int32} {m_extra : Int32} {m_slotOf : Nat → Int32} {m_sights : Int32} {m_sightCopy : Nat → Int32} {m_sightPitch : Nat → Int32} {m_isFaulty : Nat → Int32} {m_least : Int32} {m_greatest : Int32} {m_lines : Int32} {m_lineCopy : Nat → Int32} {m_lineDay : Nat → Int32} {m_linePlace : Nat → Int32} {m_lineTold : Nat → Int32} {m_now : Int32} (G : gG p s m args meth c cX7_lift (some .int) 6 RX7 wsX7_lift) (hK : va_K D vwCl (gT cI cZ cR) s) (hN : va_Nw gN s) (hA : ∀ q, s.heap.size ≤ q → A q) (m_rolls : Int32) (m_pitch : Nat → Int32) (m_first : Nat → Int32) (v1 : Int32) (v2 : Int32) (v3 : Int32) (post : Int32 → Int32 → (Nat → Int32) → Prop) (m_thrown : Int32) (m_length : Nat → Int32) (h : wp_X7_lift m_rolls m_pitch m_first v1 v2 v3 m_thrown m_length post) : ∀ (H : Heap) (locs : List Loc), va_P D vwCl (w_M cI cZ cR ad_m m_thrown m_rolls m_pitch m_first m_length m_marks m_markStep m_markTicks m_table m_order m_many m_heard m_pressed m_silents m_items m_itemPitch m_itemStep m_ends m_noteOf m_cost m_extra m_slotOf m_sights m_sightCopy m_sightPitch m_isFaulty m_least m_greatest m_lines m_lineCopy m_lineDay m_linePlace m_lineTold m_now) H → va_D A (w_M cI cZ cR ad_m m_thrown m_rolls m_pitch m_first m_length m_marks m_markStep m_markTicks m_table m_order m_many m_heard m_pressed m_silents m_items m_itemPitch m_itemStep m_ends m_noteOf m_cost m_extra m_slotOf m_sights m_sightCopy m_sightPitch m_isFaulty m_least m_greatest m_lines m_lineCopy m_lineDay m_linePlace m_lineTold m_now) → va_S A s.heap H locs → ∀ (ls : Array Slot), lv_has ls 6 [(0, .ref (ad_m 0)), (1, .int v1), (2, .int v2), (3, .int v3)] → W p l e { frames := 3, cells := 0, slots := 0, locals := 68 } s m args below meth c H locs 0 0 (MQ below (va_Qi (fun (r : Int32) (u : (Int32) × (Nat → Int32)) => post r u.1 u.2) (fun u t => gB D (gT cI cZ cR) A (w_M cI cZ cR ad_m u.1 m_rolls m_pitch m_first u.2 m_marks m_markStep m_markTicks m_table m_order m_many m_heard m_pressed m_silents m_items m_itemPitch m_itemStep m_ends m_noteOf m_cost m_extra m_slotOf m_sights m_sightCopy m_sightPitch m_isFaulty m_least m_greatest m_lines m_lineCopy m_lineDay m_linePlace m_lineTold m_now) t) A) args s 0 0 A) (F0 m 0 ls []) := by
  obtain ⟨hx, hb, hr, hml, hown, hts, hlocks⟩ := id G
  intro H locs hP hD hS ls hl
  unfold wp_X7_lift at h
  refine lv_aload_n hx hb dX7_lift_0 rfl (lv_at hl 0 rfl) ?_
  refine lv_iconst (v := 0) hx hb dX7_lift_1 (by decide) ?_
  refine va_put (D := D) (ci := 7) (v := .int 0) (ty := .int) (C := RX7) (T := TX7) (N := 34) hx hb hts us_X7_lift_X7 tyX7 tyX7_ok nmX7 hown hK hP hD hS 0 rfl rfl 0 (by decide) (hts (.fieldLink RX7 71 "RollHouseModel" "thrown" "I") lk_X7_lift_0) (fun _ h9 => h9) rfl (by decide +kernel) rfl rfl (Nat.le_of_ble_eq_true rfl) dX7_lift_2 (fun H locs hP hD hS => ?_)
  have hP : va_P D vwCl (w_M cI cZ cR ad_m 0 m_rolls m_pitch m_first m_length m_marks m_markStep m_markTicks m_table m_order m_many m_heard m_pressed m_silents m_items m_itemPitch m_itemStep m_ends m_noteOf m_cost m_extra m_slotOf m_sights m_sightCopy m_sightPitch m_isFaulty m_least m_greatest m_lines m_lineCopy m_lineDay m_linePlace m_lineTold m_now) H := hP
  have hD : va_D A (w_M cI cZ cR ad_m 0 m_rolls m_pitch m_first m_length m_marks m_markStep m_markTicks m_table m_order m_many m_heard m_pressed m_silents m_items m_itemPitch m_itemStep m_ends m_noteOf m_cost m_extra m_slotOf m_sights m_sightCopy m_sightPitch m_isFaulty m_least m_greatest m_lines m_lineCopy m_lineDay m_linePlace m_lineTold m_now) := hD
  refine lv_aload_n hx hb dX7_lift_5 rfl (lv_at hl 0 rfl) ?_
  refine lv_iload_n hx hb dX7_lift_6 rfl (lv_at hl 1 rfl) ?_
  refine gl_calliF (va_runV (As := [.int v1]) (rest := []) ⟨hx, hb, hml, hown, hts⟩ (mt_X7_isRoll l D cI cZ cR ad_m H.size 0 m_rolls m_pitch m_first m_length m_marks m_markStep m_markTicks m_table m_order m_many m_heard m_pressed m_silents m_items m_itemPitch m_itemStep m_ends m_noteOf m_cost m_extra m_slotOf m_sights m_sightCopy m_sightPitch m_isFaulty m_least m_greatest m_lines m_lineCopy m_lineDay m_linePlace m_lineTold m_now v1 _ h) (cwV 1 hts gX7_lift_X7_isRoll rfl rfl rfl (by decide +kernel) ⟨Nat.le_of_ble_eq_true rfl, Nat.le_of_ble_eq_true rfl⟩) ⟨gl_blind, va_recv hK hP (ci := 7) (q0 := 0) rfl rfl, gl_pre hP hK hN hD⟩ rfl rfl hl.1 rfl (lv_room (Nat.le_of_ble_eq_true rfl)) dX7_lift_7 ⟨Nat.le_of_ble_eq_true rfl, Nat.le_of_ble_eq_true rfl⟩) hD hS hA (fun r1 u H locs h hP hD hS => ?_)
  try dsimp only at h
  refine lv_if_eq (tgt := 23) hx hb dX7_lift_10 (by decide) (fun hc => ?_) (fun hc => ?_)
  · have h := h.1 hc
    refine lv_iconst (v := (-1)) hx hb dX7_lift_23 (by decide) ?_
    exact ml_X7_lift_24 G hK hN hA m_rolls m_pitch m_first v1 v2 v3 post (-1) 0 m_length h H locs hP hD hS ls (lv_sub hl [0] rfl)
  · have h := h.2 hc
    refine lv_aload_n hx hb dX7_lift_13 rfl (lv_at hl 0 rfl) ?_
    refine lv_iload_n hx hb dX7_lift_14 rfl (lv_at hl 1 rfl) ?_
    refine lv_iload_n hx hb dX7_lift_15 rfl (lv_at hl 2 rfl) ?_
    refine lv_iload_n hx hb dX7_lift_16 rfl (lv_at hl 3 rfl) ?_
    refine gl_calliF (va_runV (As := [.int v1, .int v2, .int v3]) (rest := []) ⟨hx, hb, hml, hown, hts⟩ (mt_X7_at l D cI cZ cR ad_m H.size 0 m_rolls m_pitch m_first m_length m_marks m_markStep m_markTicks m_table m_order m_many m_heard m_pressed m_silents m_items m_itemPitch m_itemStep m_ends m_noteOf m_cost m_extra m_slotOf m_sights m_sightCopy m_sightPitch m_isFaulty m_least m_greatest m_lines m_lineCopy m_lineDay m_linePlace m_lineTold m_now v1 v2 v3 _ h) (cwV 3 hts gX7_lift_X7_at rfl rfl rfl (by decide +kernel) ⟨Nat.le_of_ble_eq_true rfl, Nat.le_of_ble_eq_true rfl⟩) ⟨gl_blind, va_recv hK hP (ci := 7) (q0 := 0) rfl rfl, gl_pre hP hK hN hD⟩ rfl rfl hl.1 rfl (lv_room (Nat.le_of_ble_eq_true rfl)) dX7_lift_17 ⟨Nat.le_of_ble_eq_true rfl, Nat.le_of_ble_eq_true rfl⟩) hD hS hA (fun r2 u H locs h hP hD hS => ?_)
    try dsimp only at h
    refine lv_goto (tgt := 24) hx hb dX7_lift_20 (by decide) ?_
    exact ml_X7_lift_24 G hK hN hA m_rolls m_pitch m_first v1 v2 v3 post r2 0 m_length h H locs hP hD hS ls (lv_sub hl [0] rfl)
set_option maxRecDepth 100000 in
theorem mt_X7_lift (l : Launch) (D : va_G) (cI cZ cR : ClassId) (ad_m : Nat → Nat) (sz : Nat) (m_thrown : Int32) (m_rolls : Int32) (m_pitch : Nat → Int32) (m_first : Nat → Int32) (m_length : Nat → Int32) (m_marks : Nat → Int32) (m_markStep : Nat → Int32) (m_markTicks : Nat → Int32) (m_table : Nat → Int32) (m_order : Nat → Int32) (m_many : Int32) (m_heard : Int32) (m_pressed : Int32) (m_silents : Int32) (m_items : Int32) (m_itemPitch : Nat → Int32) (m_itemStep : Nat → Int32) (m_ends : Nat → Int32) (m_noteOf : Nat → Int32) (m_cost : Int32) (m_extra : Int32) (m_slotOf : Nat → Int32) (m_sights : Int32) (m_sightCopy : Nat → Int32) (m_sightPitch : Nat → Int32) (m_isFaulty : Nat → Int32) (m_least : Int32) (m_greatest : Int32) (m_lines : Int32) (m_lineCopy : Nat → Int32) (m_lineDay : Nat → Int32) (m_linePlace : Nat → Int32) (m_lineTold : Nat → Int32) (m_now : Int32) (v1 : Int32) (v2 : Int32) (v3 : Int32) (post : Int32 → Int32 → (Nat → Int32) → Prop) (h : wp_X7_lift m_rolls m_pitch m_first v1 v2 v3 m_thrown m_length post) : Met l yX7_lift wsX7_lift ({ frames := 3, cells := 0, slots := 0, locals := 68 }) (gPc D (gT cI cZ cR) (w_M cI cZ cR ad_m m_thrown m_rolls m_pitch m_first m_length m_marks m_markStep m_markTicks m_table m_order m_many m_heard m_pressed m_silents m_items m_itemPitch m_itemStep m_ends m_noteOf m_cost m_extra m_slotOf m_sights m_sightCopy m_sightPitch m_isFaulty m_least m_greatest m_lines m_lineCopy m_lineDay m_linePlace m_lineTold m_now) sz [.ref (ad_m 0), .int v1, .int v2, .int v3]) (va_Qi (fun (r : Int32) (u : (Int32) × (Nat → Int32)) => post r u.1 u.2) (fun u t => gB D (gT cI cZ cR) (va_A (w_M cI cZ cR ad_m m_thrown m_rolls m_pitch m_first m_length m_marks m_markStep m_markTicks m_table m_order m_many m_heard m_pressed m_silents m_items m_itemPitch m_itemStep m_ends m_noteOf m_cost m_extra m_slotOf m_sights m_sightCopy m_sightPitch m_isFaulty m_least m_greatest m_lines m_lineCopy m_lineDay m_linePlace m_lineTold m_now) sz) (w_M cI cZ cR ad_m u.1 m_rolls m_pitch m_first u.2 m_marks m_markStep m_markTicks m_table m_order m_many m_heard m_pressed m_silents m_items m_itemPitch m_itemStep m_ends m_noteOf m_cost m_extra m_slotOf m_sights m_sightCopy m_sightPitch m_isFaulty m_least m_greatest m_lines m_lineCopy m_lineDay m_linePlace m_lineTold m_now) t) (va_A (w_M cI cZ cR ad_m m_thrown m_rolls m_pitch m_first m_length m_marks m_markStep m_markTicks m_table m_order m_many m_heard m_pressed m_silents m_items m_itemPitch m_itemStep m_ends m_noteOf m_cost m_extra m_slotOf m_sights m_sightCopy m_sightPitch m_isFaulty m_least m_greatest m_lines m_lineCopy m_lineDay m_linePlace m_lineTold m_now) sz)) 0 0 (va_A (w_M cI cZ cR ad_m m_thrown m_rolls m_pitch m_first m_length m_marks m_markStep m_markTicks m_table m_order m_many m_heard m_pressed m_silents m_items m_itemPitch m_itemStep m_ends m_noteOf m_cost m_extra m_slotOf m_sights m_sightCopy m_sightPitch m_isFaulty m_least m_greatest m_lines m_lineCopy m_lineDay m_linePlace m_lineTold m_now) sz) := by
  refine gl_entry (cc := cX7_lift) (maxL := 6) (ret := (some .int)) (by decide) rfl (Nat.le_of_ble_eq_true rfl) ?_
  intro p e s m below meth c ls G hin hsz hK hN hP hD hl
  subst hsz
  exact ml_X7_lift_0 G hK hN (fun q h => Or.inr h) m_rolls m_pitch m_first v1 v2 v3 post m_thrown m_length h s.heap [] hP hD va_S.rf ls hl
theorem lk_X7_hole_0 : (Cond.fieldLink RX7 71 "RollHouseModel" "thrown" "I") ∈ wsX7_hole := by decide +kernel
theorem us_X7_hole_X7 : ∀ w ∈ u_ws RX7 TX7 34, w ∈ wsX7_hole := by decide +kernel
def wp_X7_hole (m_rolls : Int32) (m_pitch : Nat → Int32) (m_first : Nat → Int32) (m_length : Nat → Int32) (v1 : Int32) (v2 : Int32) (v3 : Int32) (m_thrown : Int32) (post : Int32 → Int32 → Prop) : Prop := (wp_X7_isRoll m_rolls v1 (fun (r1 : Int32) => ((r1 = 0 → post (-1) 0) ∧ (¬ r1 = 0 → (wp_X7_within v2 0 23 (fun (r2 : Int32) => ((r2 = 0 → post (-1) 0) ∧ (¬ r2 = 0 → (wp_X7_within v3 0 299 (fun (r3 : Int32) => ((¬ r3 = 0 → (wp_X7_at m_pitch m_first m_length v1 v2 v3 (fun (r4 : Int32) => ((¬ r4 = (-1) → (wp_X7_isPunched m_first m_length r4 v3 (fun (r5 : Int32) => ((r5 = 0 → post 2 0) ∧ (¬ r5 = 0 → post 1 0))))) ∧ (r4 = (-1) → post 0 0))))) ∧ (r3 = 0 → post (-1) 0))))))))))))
set_option maxRecDepth 100000 in
set_option maxHeartbeats 4000000 in
theorem ml_X7_hole_0 {p : Program} {l : Launch} {e : Env} {s : State} {m : MethodId} {args : Array Value} {below : List Frame} {meth : Method} {c : Code} {D : va_G} {cI cZ cR : ClassId} {A : Nat → Prop} {ad_m : Nat → Nat} {m_marks : Nat → Int32} {m_markStep : Nat → Int32} {m_markTicks : Nat → Int32} {m_table : Nat → Int32} {m_order : Nat → Int32} {m_many : Int32} {m_heard : Int32} {m_pressed : Int32} {m_silents : Int32} {m_items : Int32} {m_itemPitch : Nat → Int32} {m_itemStep : Nat → Int32} {m_ends : Nat → Int32} {m_noteOf : Nat → Int32} {m_cost : Int32} {m_extra : Int32} {m_slotOf : Nat → Int32} {m_sights : Int32} {m_sightCopy : Nat → Int32} {m_sightPitch : Nat → Int32} {m_isFaulty : Nat → Int32} {m_least : Int32} {m_greatest : Int32} {m_lines : Int32} {m_lineCopy : Nat → Int32} {m_lineDay : Nat → Int32} {m_linePlace : Nat → Int32} {m_lineTold : Nat → Int32} {m_now : Int32} (G : gG p s m args meth c cX7_hole (some .int) 5 RX7 wsX7_hole) (hK : va_K D vwCl (gT cI cZ cR) s) (hN : va_Nw gN s) (hA : ∀ q, s.heap.size ≤ q → A q) (m_rolls : Int32) (m_pitch : Nat → Int32) (m_first : Nat → Int32) (m_length : Nat → Int32) (v1 : Int32) (v2 : Int32) (v3 : Int32) (post : Int32 → Int32 → Prop) (m_thrown : Int32) (h : wp_X7_hole m_rolls m_pitch m_first m_length v1 v2 v3 m_thrown post) : ∀ (H : Heap) (locs : List Loc), va_P D vwCl (w_M cI cZ cR ad_m m_thrown m_rolls m_pitch m_first m_length m_marks m_markStep m_markTicks m_table m_order m_many m_heard m_pressed m_silents m_items m_itemPitch m_itemStep m_ends m_noteOf m_cost m_extra m_slotOf m_sights m_sightCopy m_sightPitch m_isFaulty m_least m_greatest m_lines m_lineCopy m_lineDay m_linePlace m_lineTold m_now) H → va_D A (w_M cI cZ cR ad_m m_thrown m_rolls m_pitch m_first m_length m_marks m_markStep m_markTicks m_table m_order m_many m_heard m_pressed m_silents m_items m_itemPitch m_itemStep m_ends m_noteOf m_cost m_extra m_slotOf m_sights m_sightCopy m_sightPitch m_isFaulty m_least m_greatest m_lines m_lineCopy m_lineDay m_linePlace m_lineTold m_now) → va_S A s.heap H locs → ∀ (ls : Array Slot), lv_has ls 5 [(0, .ref (ad_m 0)), (1, .int v1), (2, .int v2), (3, .int v3)] → W p l e { frames := 3, cells := 0, slots := 0, locals := 68 } s m args below meth c H locs 0 0 (MQ below (va_Qi (fun (r : Int32) (u : (Int32)) => post r u) (fun u t => gB D (gT cI cZ cR) A (w_M cI cZ cR ad_m u m_rolls m_pitch m_first m_length m_marks m_markStep m_markTicks m_table m_order m_many m_heard m_pressed m_silents m_items m_itemPitch m_itemStep m_ends m_noteOf m_cost m_extra m_slotOf m_sights m_sightCopy m_sightPitch m_isFaulty m_least m_greatest m_lines m_lineCopy m_lineDay m_linePlace m_lineTold m_now) t) A) args s 0 0 A) (F0 m 0 ls []) := by
  obtain ⟨hx, hb, hr, hml, hown, hts, hlocks⟩ := id G
  intro H locs hP hD hS ls hl
  unfold wp_X7_hole at h
  refine lv_aload_n hx hb dX7_hole_0 rfl (lv_at hl 0 rfl) ?_
  refine lv_iconst (v := 0) hx hb dX7_hole_1 (by decide) ?_
  refine va_put (D := D) (ci := 7) (v := .int 0) (ty := .int) (C := RX7) (T := TX7) (N := 34) hx hb hts us_X7_hole_X7 tyX7 tyX7_ok nmX7 hown hK hP hD hS 0 rfl rfl 0 (by decide) (hts (.fieldLink RX7 71 "RollHouseModel" "thrown" "I") lk_X7_hole_0) (fun _ h9 => h9) rfl (by decide +kernel) rfl rfl (Nat.le_of_ble_eq_true rfl) dX7_hole_2 (fun H locs hP hD hS => ?_)
  have hP : va_P D vwCl (w_M cI cZ cR ad_m 0 m_rolls m_pitch m_first m_length m_marks m_markStep m_markTicks m_table m_order m_many m_heard m_pressed m_silents m_items m_itemPitch m_itemStep m_ends m_noteOf m_cost m_extra m_slotOf m_sights m_sightCopy m_sightPitch m_isFaulty m_least m_greatest m_lines m_lineCopy m_lineDay m_linePlace m_lineTold m_now) H := hP
  have hD : va_D A (w_M cI cZ cR ad_m 0 m_rolls m_pitch m_first m_length m_marks m_markStep m_markTicks m_table m_order m_many m_heard m_pressed m_silents m_items m_itemPitch m_itemStep m_ends m_noteOf m_cost m_extra m_slotOf m_sights m_sightCopy m_sightPitch m_isFaulty m_least m_greatest m_lines m_lineCopy m_lineDay m_linePlace m_lineTold m_now) := hD
  refine lv_aload_n hx hb dX7_hole_5 rfl (lv_at hl 0 rfl) ?_
  refine lv_iload_n hx hb dX7_hole_6 rfl (lv_at hl 1 rfl) ?_
  refine gl_calliF (va_runV (As := [.int v1]) (rest := []) ⟨hx, hb, hml, hown, hts⟩ (mt_X7_isRoll l D cI cZ cR ad_m H.size 0 m_rolls m_pitch m_first m_length m_marks m_markStep m_markTicks m_table m_order m_many m_heard m_pressed m_silents m_items m_itemPitch m_itemStep m_ends m_noteOf m_cost m_extra m_slotOf m_sights m_sightCopy m_sightPitch m_isFaulty m_least m_greatest m_lines m_lineCopy m_lineDay m_linePlace m_lineTold m_now v1 _ h) (cwV 1 hts gX7_hole_X7_isRoll rfl rfl rfl (by decide +kernel) ⟨Nat.le_of_ble_eq_true rfl, Nat.le_of_ble_eq_true rfl⟩) ⟨gl_blind, va_recv hK hP (ci := 7) (q0 := 0) rfl rfl, gl_pre hP hK hN hD⟩ rfl rfl hl.1 rfl (lv_room (Nat.le_of_ble_eq_true rfl)) dX7_hole_7 ⟨Nat.le_of_ble_eq_true rfl, Nat.le_of_ble_eq_true rfl⟩) hD hS hA (fun r1 u H locs h hP hD hS => ?_)
  try dsimp only at h
  refine lv_if_eq (tgt := 34) hx hb dX7_hole_10 (by decide) (fun hc => ?_) (fun hc => ?_)
  · have h := h.1 hc
    refine lv_iconst (v := (-1)) hx hb dX7_hole_34 (by decide) ?_
    exact gl_ireti G hK (u := 0) hP hD hS h dX7_hole_35
  · have h := h.2 hc
    refine lv_iload_n hx hb dX7_hole_13 rfl (lv_at hl 2 rfl) ?_
    refine lv_iconst (v := 0) hx hb dX7_hole_14 (by decide) ?_
    refine lv_bipush (v := 23) hx hb dX7_hole_15 (by decide) ?_
    refine gl_calliS (va_runS (As := [.int v2, .int 0, .int 23]) (rest := []) ⟨hx, hb, hml, hown, hts⟩ (mt_X7_within l D cI cZ cR  H.size v2 0 23 _ h) (va_cwS 3 hts gX7_hole_X7_within rfl rfl rfl (by decide +kernel) ⟨Nat.le_of_ble_eq_true rfl, Nat.le_of_ble_eq_true rfl⟩) ⟨gl_blind, gl_pre gl_nilP hK hN (gl_nilD (A := A))⟩ rfl rfl hl.1 rfl (lv_room (Nat.le_of_ble_eq_true rfl)) dX7_hole_17 ⟨Nat.le_of_ble_eq_true rfl, Nat.le_of_ble_eq_true rfl⟩) hP hS hA (fun r2 u H locs h hP hS => ?_)
    try dsimp only at h
    refine lv_if_eq (tgt := 34) hx hb dX7_hole_20 (by decide) (fun hc => ?_) (fun hc => ?_)
    · have h := h.1 hc
      refine lv_iconst (v := (-1)) hx hb dX7_hole_34 (by decide) ?_
      exact gl_ireti G hK (u := 0) hP hD hS h dX7_hole_35
    · have h := h.2 hc
      refine lv_iload_n hx hb dX7_hole_23 rfl (lv_at hl 3 rfl) ?_
      refine lv_iconst (v := 0) hx hb dX7_hole_24 (by decide) ?_
      refine lv_sipush (v := 299) hx hb dX7_hole_25 (by decide) ?_
      refine gl_calliS (va_runS (As := [.int v3, .int 0, .int 299]) (rest := []) ⟨hx, hb, hml, hown, hts⟩ (mt_X7_within l D cI cZ cR  H.size v3 0 299 _ h) (va_cwS 3 hts gX7_hole_X7_within rfl rfl rfl (by decide +kernel) ⟨Nat.le_of_ble_eq_true rfl, Nat.le_of_ble_eq_true rfl⟩) ⟨gl_blind, gl_pre gl_nilP hK hN (gl_nilD (A := A))⟩ rfl rfl hl.1 rfl (lv_room (Nat.le_of_ble_eq_true rfl)) dX7_hole_28 ⟨Nat.le_of_ble_eq_true rfl, Nat.le_of_ble_eq_true rfl⟩) hP hS hA (fun r3 u H locs h hP hS => ?_)
      try dsimp only at h
      refine lv_if_ne (tgt := 36) hx hb dX7_hole_31 (by decide) (fun hc => ?_) (fun hc => ?_)
      · have h := h.1 hc
        refine lv_aload_n hx hb dX7_hole_36 rfl (lv_at hl 0 rfl) ?_
        refine lv_iload_n hx hb dX7_hole_37 rfl (lv_at hl 1 rfl) ?_
        refine lv_iload_n hx hb dX7_hole_38 rfl (lv_at hl 2 rfl) ?_
        refine lv_iload_n hx hb dX7_hole_39 rfl (lv_at hl 3 rfl) ?_
        refine gl_calliF (va_runV (As := [.int v1, .int v2, .int v3]) (rest := []) ⟨hx, hb, hml, hown, hts⟩ (mt_X7_at l D cI cZ cR ad_m H.size 0 m_rolls m_pitch m_first m_length m_marks m_markStep m_markTicks m_table m_order m_many m_heard m_pressed m_silents m_items m_itemPitch m_itemStep m_ends m_noteOf m_cost m_extra m_slotOf m_sights m_sightCopy m_sightPitch m_isFaulty m_least m_greatest m_lines m_lineCopy m_lineDay m_linePlace m_lineTold m_now v1 v2 v3 _ h) (cwV 3 hts gX7_hole_X7_at rfl rfl rfl (by decide +kernel) ⟨Nat.le_of_ble_eq_true rfl, Nat.le_of_ble_eq_true rfl⟩) ⟨gl_blind, va_recv hK hP (ci := 7) (q0 := 0) rfl rfl, gl_pre hP hK hN hD⟩ rfl rfl hl.1 rfl (lv_room (Nat.le_of_ble_eq_true rfl)) dX7_hole_40 ⟨Nat.le_of_ble_eq_true rfl, Nat.le_of_ble_eq_true rfl⟩) hD hS hA (fun r4 u H locs h hP hD hS => ?_)
        try dsimp only at h
        refine lv_istore (lv' := [(4, .int r4), (0, .ref (ad_m 0)), (1, .int v1), (2, .int v2), (3, .int v3)]) hx hb dX7_hole_43 hl (by decide) rfl (fun ls hl => ?_)
        refine lv_iload hx hb dX7_hole_45 (lv_at hl 0 rfl) ?_
        refine lv_iconst (v := (-1)) hx hb dX7_hole_47 (by decide) ?_
        refine lv_icmp_ne (tgt := 55) hx hb dX7_hole_48 (by decide) (fun hc => ?_) (fun hc => ?_)
        · have h := h.1 hc
          refine lv_aload_n hx hb dX7_hole_55 rfl (lv_at hl 1 rfl) ?_
          refine lv_iload hx hb dX7_hole_56 (lv_at hl 0 rfl) ?_
          refine lv_iload_n hx hb dX7_hole_58 rfl (lv_at hl 4 rfl) ?_
          refine gl_calliF (va_runV (As := [.int r4, .int v3]) (rest := []) ⟨hx, hb, hml, hown, hts⟩ (mt_X7_isPunched l D cI cZ cR ad_m H.size 0 m_rolls m_pitch m_first m_length m_marks m_markStep m_markTicks m_table m_order m_many m_heard m_pressed m_silents m_items m_itemPitch m_itemStep m_ends m_noteOf m_cost m_extra m_slotOf m_sights m_sightCopy m_sightPitch m_isFaulty m_least m_greatest m_lines m_lineCopy m_lineDay m_linePlace m_lineTold m_now r4 v3 _ h) (cwV 2 hts gX7_hole_X7_isPunched rfl rfl rfl (by decide +kernel) ⟨Nat.le_of_ble_eq_true rfl, Nat.le_of_ble_eq_true rfl⟩) ⟨gl_blind, va_recv hK hP (ci := 7) (q0 := 0) rfl rfl, gl_pre hP hK hN hD⟩ rfl rfl hl.1 rfl (lv_room (Nat.le_of_ble_eq_true rfl)) dX7_hole_59 ⟨Nat.le_of_ble_eq_true rfl, Nat.le_of_ble_eq_true rfl⟩) hD hS hA (fun r5 u H locs h hP hD hS => ?_)
          try dsimp only at h
          refine lv_if_eq (tgt := 69) hx hb dX7_hole_62 (by decide) (fun hc => ?_) (fun hc => ?_)
          · have h := h.1 hc
            refine lv_iconst (v := 2) hx hb dX7_hole_69 (by decide) ?_
            exact gl_ireti G hK (u := 0) hP hD hS h dX7_hole_70
          · have h := h.2 hc
            refine lv_iconst (v := 1) hx hb dX7_hole_65 (by decide) ?_
            refine lv_goto (tgt := 70) hx hb dX7_hole_66 (by decide) ?_
            exact gl_ireti G hK (u := 0) hP hD hS h dX7_hole_70
        · have h := h.2 hc
          refine lv_iconst (v := 0) hx hb dX7_hole_51 (by decide) ?_
          refine lv_goto (tgt := 70) hx hb dX7_hole_52 (by decide) ?_
          exact gl_ireti G hK (u := 0) hP hD hS h dX7_hole_70
      · have h := h.2 hc
        refine lv_iconst (v := (-1)) hx hb dX7_hole_34 (by decide) ?_
        exact gl_ireti G hK (u := 0) hP hD hS h dX7_hole_35
set_option maxRecDepth 100000 in
theorem mt_X7_hole (l : Launch) (D : va_G) (cI cZ cR : ClassId) (ad_m : Nat → Nat) (sz : Nat) (m_thrown : Int32) (m_rolls : Int32) (m_pitch : Nat → Int32) (m_first : Nat → Int32) (m_length : Nat → Int32) (m_marks : Nat → Int32) (m_markStep : Nat → Int32) (m_markTicks : Nat → Int32) (m_table : Nat → Int32) (m_order : Nat → Int32) (m_many : Int32) (m_heard : Int32) (m_pressed : Int32) (m_silents : Int32) (m_items : Int32) (m_itemPitch : Nat → Int32) (m_itemStep : Nat → Int32) (m_ends : Nat → Int32) (m_noteOf : Nat → Int32) (m_cost : Int32) (m_extra : Int32) (m_slotOf : Nat → Int32) (m_sights : Int32) (m_sightCopy : Nat → Int32) (m_sightPitch : Nat → Int32) (m_isFaulty : Nat → Int32) (m_least : Int32) (m_greatest : Int32) (m_lines : Int32) (m_lineCopy : Nat → Int32) (m_lineDay : Nat → Int32) (m_linePlace : Nat → Int32) (m_lineTold : Nat → Int32) (m_now : Int32) (v1 : Int32) (v2 : Int32) (v3 : Int32) (post : Int32 → Int32 → Prop) (h : wp_X7_hole m_rolls m_pitch m_first m_length v1 v2 v3 m_thrown post) : Met l yX7_hole wsX7_hole ({ frames := 3, cells := 0, slots := 0, locals := 68 }) (gPc D (gT cI cZ cR) (w_M cI cZ cR ad_m m_thrown m_rolls m_pitch m_first m_length m_marks m_markStep m_markTicks m_table m_order m_many m_heard m_pressed m_silents m_items m_itemPitch m_itemStep m_ends m_noteOf m_cost m_extra m_slotOf m_sights m_sightCopy m_sightPitch m_isFaulty m_least m_greatest m_lines m_lineCopy m_lineDay m_linePlace m_lineTold m_now) sz [.ref (ad_m 0), .int v1, .int v2, .int v3]) (va_Qi (fun (r : Int32) (u : (Int32)) => post r u) (fun u t => gB D (gT cI cZ cR) (va_A (w_M cI cZ cR ad_m m_thrown m_rolls m_pitch m_first m_length m_marks m_markStep m_markTicks m_table m_order m_many m_heard m_pressed m_silents m_items m_itemPitch m_itemStep m_ends m_noteOf m_cost m_extra m_slotOf m_sights m_sightCopy m_sightPitch m_isFaulty m_least m_greatest m_lines m_lineCopy m_lineDay m_linePlace m_lineTold m_now) sz) (w_M cI cZ cR ad_m u m_rolls m_pitch m_first m_length m_marks m_markStep m_markTicks m_table m_order m_many m_heard m_pressed m_silents m_items m_itemPitch m_itemStep m_ends m_noteOf m_cost m_extra m_slotOf m_sights m_sightCopy m_sightPitch m_isFaulty m_least m_greatest m_lines m_lineCopy m_lineDay m_linePlace m_lineTold m_now) t) (va_A (w_M cI cZ cR ad_m m_thrown m_rolls m_pitch m_first m_length m_marks m_markStep m_markTicks m_table m_order m_many m_heard m_pressed m_silents m_items m_itemPitch m_itemStep m_ends m_noteOf m_cost m_extra m_slotOf m_sights m_sightCopy m_sightPitch m_isFaulty m_least m_greatest m_lines m_lineCopy m_lineDay m_linePlace m_lineTold m_now) sz)) 0 0 (va_A (w_M cI cZ cR ad_m m_thrown m_rolls m_pitch m_first m_length m_marks m_markStep m_markTicks m_table m_order m_many m_heard m_pressed m_silents m_items m_itemPitch m_itemStep m_ends m_noteOf m_cost m_extra m_slotOf m_sights m_sightCopy m_sightPitch m_isFaulty m_least m_greatest m_lines m_lineCopy m_lineDay m_linePlace m_lineTold m_now) sz) := by
  refine gl_entry (cc := cX7_hole) (maxL := 5) (ret := (some .int)) (by decide) rfl (Nat.le_of_ble_eq_true rfl) ?_
  intro p e s m below meth c ls G hin hsz hK hN hP hD hl
  subst hsz
  exact ml_X7_hole_0 G hK hN (fun q h => Or.inr h) m_rolls m_pitch m_first m_length v1 v2 v3 post m_thrown h s.heap [] hP hD va_S.rf ls hl
