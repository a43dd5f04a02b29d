theorem lk_X7_isAhead_0 : (Cond.fieldLink RX7 13 "RollHouseModel" "first" "[I") ∈ wsX7_isAhead := by decide +kernel
theorem lk_X7_isAhead_1 : (Cond.fieldLink RX7 7 "RollHouseModel" "pitch" "[I") ∈ wsX7_isAhead := by decide +kernel
theorem us_X7_isAhead_X7 : ∀ w ∈ u_ws RX7 TX7 34, w ∈ wsX7_isAhead := by decide +kernel
def wp_X7_isAhead (m_pitch : Nat → Int32) (m_first : Nat → Int32) (v1 : Int32) (v2 : Int32) (post : Int32 → Prop) : Prop := (vp_in v1 360 ∧ (vp_in v2 360 ∧ (((m_first v1.toNatClampNeg) = (m_first v2.toNatClampNeg) → (vp_in v1 360 ∧ (vp_in v2 360 ∧ (((m_pitch v2.toNatClampNeg) ≤ (m_pitch v1.toNatClampNeg) → post 0 ) ∧ (¬ (m_pitch v2.toNatClampNeg) ≤ (m_pitch v1.toNatClampNeg) → post 1 ))))) ∧ (¬ (m_first v1.toNatClampNeg) = (m_first v2.toNatClampNeg) → (vp_in v1 360 ∧ (vp_in v2 360 ∧ (((m_first v2.toNatClampNeg) ≤ (m_first v1.toNatClampNeg) → post 0 ) ∧ (¬ (m_first v2.toNatClampNeg) ≤ (m_first v1.toNatClampNeg) → post 1 ))))))))
set_option maxRecDepth 100000 in
set_option maxHeartbeats 4000000 in
theorem ml_X7_isAhead_0 {p : Program} {l : Launch} {e : Env} {s : State} {m : MethodId} {args : Array Value} {below : List Frame} {meth : Method} {c : Code} {D : va_G} {cI cZ cR : ClassId} {A : Nat → Prop} {ad_m : Nat → Nat} {m_thrown : Int32} {m_rolls : Int32} {m_length : Nat → Int32} {m_marks : Nat → Int32} {m_markStep : Nat → Int32} {m_markTicks : Nat → Int32} {m_table : Nat → Int32} {m_order : Nat → Int32} {m_many : Int32} {m_heard : Int32} {m_pressed : Int32} {m_silents : Int32} {m_items : Int32} {m_itemPitch : Nat → Int32} {m_itemStep : Nat → Int32} {m_ends : Nat → Int32} {m_noteOf : Nat → Int32} {m_cost : Int32} {m_extra : Int32} {m_slotOf : Nat → Int32} {m_sights : Int32} {m_sightCopy : Nat → Int32} {m_sightPitch : Nat → Int32} {m_isFaulty : Nat → Int32} {m_least : Int32} {m_greatest : Int32} {m_lines : Int32} {m_lineCopy : Nat → Int32} {m_lineDay : Nat → Int32} {m_linePlace : Nat → Int32} {m_lineTold : Nat → Int32} {m_now : Int32} (G : gG p s m args meth c cX7_isAhead (some .boolean) 3 RX7 wsX7_isAhead) (hK : va_K D vwCl (gT cI cZ cR) s) (hN : va_Nw gN s) (hA : ∀ q, s.heap.size ≤ q → A q) (m_pitch : Nat → Int32) (m_first : Nat → Int32) (v1 : Int32) (v2 : Int32) (post : Int32 → Prop)  (h : wp_X7_isAhead m_pitch m_first v1 v2 post) : ∀ (H : Heap) (locs : List Loc), va_P D vwCl (w_M cI cZ cR ad_m m_thrown m_rolls m_pitch m_first m_length m_marks m_markStep m_markTicks m_table m_order m_many m_heard m_pressed m_silents m_items m_itemPitch m_itemStep m_ends m_noteOf m_cost m_extra m_slotOf m_sights m_sightCopy m_sightPitch m_isFaulty m_least m_greatest m_lines m_lineCopy m_lineDay m_linePlace m_lineTold m_now) H → va_D A (w_M cI cZ cR ad_m m_thrown m_rolls m_pitch m_first m_length m_marks m_markStep m_markTicks m_table m_order m_many m_heard m_pressed m_silents m_items m_itemPitch m_itemStep m_ends m_noteOf m_cost m_extra m_slotOf m_sights m_sightCopy m_sightPitch m_isFaulty m_least m_greatest m_lines m_lineCopy m_lineDay m_linePlace m_lineTold m_now) → va_S A s.heap H locs → ∀ (ls : Array Slot), lv_has ls 3 [(0, .ref (ad_m 0)), (1, .int v1), (2, .int v2)] → W p l e { frames := 0, cells := 0, slots := 0, locals := 0 } s m args below meth c H locs 0 0 (MQ below (va_Qi (fun (r : Int32) (u : Unit) => post r ) (fun u t => gB D (gT cI cZ cR) A (w_M cI cZ cR ad_m m_thrown m_rolls m_pitch m_first m_length m_marks m_markStep m_markTicks m_table m_order m_many m_heard m_pressed m_silents m_items m_itemPitch m_itemStep m_ends m_noteOf m_cost m_extra m_slotOf m_sights m_sightCopy m_sightPitch m_isFaulty m_least m_greatest m_lines m_lineCopy m_lineDay m_linePlace m_lineTold m_now) t) A) args s 0 0 A) (F0 m 0 ls []) := by
  obtain ⟨hx, hb, hr, hml, hown, hts, hlocks⟩ := id G
  intro H locs hP hD hS ls hl
  unfold wp_X7_isAhead at h
  refine lv_aload_n hx hb dX7_isAhead_0 rfl (lv_at hl 0 rfl) ?_
  refine va_get (D := D) (ci := 7) (v := .ref (ad_m 2)) (C := RX7) (T := TX7) (N := 34) hx hb hts us_X7_isAhead_X7 hown hK hP 0 rfl rfl 3 (by decide) (hts (.fieldLink RX7 13 "RollHouseModel" "first" "[I") lk_X7_isAhead_0) (fun _ h9 => h9) rfl dX7_isAhead_1 ?_
  refine lv_iload_n hx hb dX7_isAhead_4 rfl (lv_at hl 1 rfl) ?_
  obtain ⟨hin, h⟩ := h
  refine va_iald hx hb hK hP 2 0 rfl rfl hin dX7_isAhead_5 ?_
  refine lv_aload_n hx hb dX7_isAhead_6 rfl (lv_at hl 0 rfl) ?_
  refine va_get (D := D) (ci := 7) (v := .ref (ad_m 2)) (C := RX7) (T := TX7) (N := 34) hx hb hts us_X7_isAhead_X7 hown hK hP 0 rfl rfl 3 (by decide) (hts (.fieldLink RX7 13 "RollHouseModel" "first" "[I") lk_X7_isAhead_0) (fun _ h9 => h9) rfl dX7_isAhead_7 ?_
  refine lv_iload_n hx hb dX7_isAhead_10 rfl (lv_at hl 2 rfl) ?_
  obtain ⟨hin, h⟩ := h
  refine va_iald hx hb hK hP 2 0 rfl rfl hin dX7_isAhead_11 ?_
  refine lv_icmp_eq (tgt := 38) hx hb dX7_isAhead_12 (by decide) (fun hc => ?_) (fun hc => ?_)
  · have h := h.1 hc
    refine lv_aload_n hx hb dX7_isAhead_38 rfl (lv_at hl 0 rfl) ?_
    refine va_get (D := D) (ci := 7) (v := .ref (ad_m 1)) (C := RX7) (T := TX7) (N := 34) hx hb hts us_X7_isAhead_X7 hown hK hP 0 rfl rfl 2 (by decide) (hts (.fieldLink RX7 7 "RollHouseModel" "pitch" "[I") lk_X7_isAhead_1) (fun _ h9 => h9) rfl dX7_isAhead_39 ?_
    refine lv_iload_n hx hb dX7_isAhead_42 rfl (lv_at hl 1 rfl) ?_
    obtain ⟨hin, h⟩ := h
    refine va_iald hx hb hK hP 1 0 rfl rfl hin dX7_isAhead_43 ?_
    refine lv_aload_n hx hb dX7_isAhead_44 rfl (lv_at hl 0 rfl) ?_
    refine va_get (D := D) (ci := 7) (v := .ref (ad_m 1)) (C := RX7) (T := TX7) (N := 34) hx hb hts us_X7_isAhead_X7 hown hK hP 0 rfl rfl 2 (by decide) (hts (.fieldLink RX7 7 "RollHouseModel" "pitch" "[I") lk_X7_isAhead_1) (fun _ h9 => h9) rfl dX7_isAhead_45 ?_
    refine lv_iload_n hx hb dX7_isAhead_48 rfl (lv_at hl 2 rfl) ?_
    obtain ⟨hin, h⟩ := h
    refine va_iald hx hb hK hP 1 0 rfl rfl hin dX7_isAhead_49 ?_
    refine lv_icmp_ge (tgt := 57) hx hb dX7_isAhead_50 (by decide) (fun hc => ?_) (fun hc => ?_)
    · have h := h.1 hc
      refine lv_iconst (v := 0) hx hb dX7_isAhead_57 (by decide) ?_
      exact gl_iretz G hK (u := ()) hP hD hS (by decide) h dX7_isAhead_58
    · have h := h.2 hc
      refine lv_iconst (v := 1) hx hb dX7_isAhead_53 (by decide) ?_
      refine lv_goto (tgt := 58) hx hb dX7_isAhead_54 (by decide) ?_
      exact gl_iretz G hK (u := ()) hP hD hS (by decide) h dX7_isAhead_58
  · have h := h.2 hc
    refine lv_aload_n hx hb dX7_isAhead_15 rfl (lv_at hl 0 rfl) ?_
    refine va_get (D := D) (ci := 7) (v := .ref (ad_m 2)) (C := RX7) (T := TX7) (N := 34) hx hb hts us_X7_isAhead_X7 hown hK hP 0 rfl rfl 3 (by decide) (hts (.fieldLink RX7 13 "RollHouseModel" "first" "[I") lk_X7_isAhead_0) (fun _ h9 => h9) rfl dX7_isAhead_16 ?_
    refine lv_iload_n hx hb dX7_isAhead_19 rfl (lv_at hl 1 rfl) ?_
    obtain ⟨hin, h⟩ := h
    refine va_iald hx hb hK hP 2 0 rfl rfl hin dX7_isAhead_20 ?_
    refine lv_aload_n hx hb dX7_isAhead_21 rfl (lv_at hl 0 rfl) ?_
    refine va_get (D := D) (ci := 7) (v := .ref (ad_m 2)) (C := RX7) (T := TX7) (N := 34) hx hb hts us_X7_isAhead_X7 hown hK hP 0 rfl rfl 3 (by decide) (hts (.fieldLink RX7 13 "RollHouseModel" "first" "[I") lk_X7_isAhead_0) (fun _ h9 => h9) rfl dX7_isAhead_22 ?_
    refine lv_iload_n hx hb dX7_isAhead_25 rfl (lv_at hl 2 rfl) ?_
    obtain ⟨hin, h⟩ := h
    refine va_iald hx hb hK hP 2 0 rfl rfl hin dX7_isAhead_26 ?_
    refine lv_icmp_ge (tgt := 34) hx hb dX7_isAhead_27 (by decide) (fun hc => ?_) (fun hc => ?_)
    · have h := h.1 hc
      refine lv_iconst (v := 0) hx hb dX7_isAhead_34 (by decide) ?_
      refine lv_goto (tgt := 58) hx hb dX7_isAhead_35 (by decide) ?_
      exact gl_iretz G hK (u := ()) hP hD hS (by decide) h dX7_isAhead_58
    · have h := h.2 hc
      refine lv_iconst (v := 1) hx hb dX7_isAhead_30 (by decide) ?_
      refine lv_goto (tgt := 58) hx hb dX7_isAhead_31 (by decide) ?_
      exact gl_iretz G hK (u := ()) hP hD hS (by decide) h dX7_isAhead_58
set_option maxRecDepth 100000 in
theorem mt_X7_isAhead (l : Launch) (D : va_G) (cI cZ cR : ClassId) (ad_m : Nat → Nat) (sz : Nat) (m_thrown : Int32) (m_rolls : Int32) (m_pitch : Nat → Int32) (m_first : Nat → Int32) (m_length : Nat → Int32) (m_marks : Nat → Int32) (m_markStep : Nat → Int32) (m_markTicks : Nat → Int32) (m_table : Nat → Int32) (m_order : Nat → Int32) (m_many : Int32) (m_heard : Int32) (m_pressed : Int32) (m_silents : Int32) (m_items : Int32) (m_itemPitch : Nat → Int32) (m_itemStep : Nat → Int32) (m_ends : Nat → Int32) (m_noteOf : Nat → Int32) (m_cost : Int32) (m_extra : Int32) (m_slotOf : Nat → Int32) (m_sights : Int32) (m_sightCopy : Nat → Int32) (m_sightPitch : Nat → Int32) (m_isFaulty : Nat → Int32) (m_least : Int32) (m_greatest : Int32) (m_lines : Int32) (m_lineCopy : Nat → Int32) (m_lineDay : Nat → Int32) (m_linePlace : Nat → Int32) (m_lineTold : Nat → Int32) (m_now : Int32) (v1 : Int32) (v2 : Int32) (post : Int32 → Prop) (h : wp_X7_isAhead m_pitch m_first v1 v2 post) : Met l yX7_isAhead wsX7_isAhead ({ frames := 0, cells := 0, slots := 0, locals := 0 }) (gPc D (gT cI cZ cR) (w_M cI cZ cR ad_m m_thrown m_rolls m_pitch m_first m_length m_marks m_markStep m_markTicks m_table m_order m_many m_heard m_pressed m_silents m_items m_itemPitch m_itemStep m_ends m_noteOf m_cost m_extra m_slotOf m_sights m_sightCopy m_sightPitch m_isFaulty m_least m_greatest m_lines m_lineCopy m_lineDay m_linePlace m_lineTold m_now) sz [.ref (ad_m 0), .int v1, .int v2]) (va_Qi (fun (r : Int32) (u : Unit) => post r ) (fun u t => gB D (gT cI cZ cR) (va_A (w_M cI cZ cR ad_m m_thrown m_rolls m_pitch m_first m_length m_marks m_markStep m_markTicks m_table m_order m_many m_heard m_pressed m_silents m_items m_itemPitch m_itemStep m_ends m_noteOf m_cost m_extra m_slotOf m_sights m_sightCopy m_sightPitch m_isFaulty m_least m_greatest m_lines m_lineCopy m_lineDay m_linePlace m_lineTold m_now) sz) (w_M cI cZ cR ad_m m_thrown m_rolls m_pitch m_first m_length m_marks m_markStep m_markTicks m_table m_order m_many m_heard m_pressed m_silents m_items m_itemPitch m_itemStep m_ends m_noteOf m_cost m_extra m_slotOf m_sights m_sightCopy m_sightPitch m_isFaulty m_least m_greatest m_lines m_lineCopy m_lineDay m_linePlace m_lineTold m_now) t) (va_A (w_M cI cZ cR ad_m m_thrown m_rolls m_pitch m_first m_length m_marks m_markStep m_markTicks m_table m_order m_many m_heard m_pressed m_silents m_items m_itemPitch m_itemStep m_ends m_noteOf m_cost m_extra m_slotOf m_sights m_sightCopy m_sightPitch m_isFaulty m_least m_greatest m_lines m_lineCopy m_lineDay m_linePlace m_lineTold m_now) sz)) 0 0 (va_A (w_M cI cZ cR ad_m m_thrown m_rolls m_pitch m_first m_length m_marks m_markStep m_markTicks m_table m_order m_many m_heard m_pressed m_silents m_items m_itemPitch m_itemStep m_ends m_noteOf m_cost m_extra m_slotOf m_sights m_sightCopy m_sightPitch m_isFaulty m_least m_greatest m_lines m_lineCopy m_lineDay m_linePlace m_lineTold m_now) sz) := by
  refine gl_entry (cc := cX7_isAhead) (maxL := 3) (ret := (some .boolean)) (by decide) rfl (Nat.le_of_ble_eq_true rfl) ?_
  intro p e s m below meth c ls G hin hsz hK hN hP hD hl
  subst hsz
  exact ml_X7_isAhead_0 G hK hN (fun q h => Or.inr h) m_pitch m_first v1 v2 post h s.heap [] hP hD va_S.rf ls hl
theorem lk_X7_orders_0 : (Cond.fieldLink RX7 112 "RollHouseModel" "many" "I") ∈ wsX7_orders := by decide +kernel
theorem lk_X7_orders_1 : (Cond.fieldLink RX7 16 "RollHouseModel" "length" "[I") ∈ wsX7_orders := by decide +kernel
theorem lk_X7_orders_2 : (Cond.fieldLink RX7 32 "RollHouseModel" "order" "[I") ∈ wsX7_orders := by decide +kernel
theorem us_X7_orders_X7 : ∀ w ∈ u_ws RX7 TX7 34, w ∈ wsX7_orders := by decide +kernel
def wl_X7_orders_78 (m_pitch : Nat → Int32) (m_first : Nat → Int32) (m_length : Nat → Int32) (v1 : Int32) (post : (Nat → Int32) → Int32 → Prop) (K10 : (Int32) → (Nat → Int32) → (Int32) → Prop) (v2 : Int32) (v3 : Int32) (m_order : Nat → Int32) (m_many : Int32) : Prop := (vp_in v3 60 ∧ (∀ a5 : Nat → Int32, a5 = upd m_order v3.toNatClampNeg v2 → K10 (v2 + 1) a5 (m_many + 1)))
def wl_X7_orders_38 (m_pitch : Nat → Int32) (m_first : Nat → Int32) (m_length : Nat → Int32) (v1 : Int32) (post : (Nat → Int32) → Int32 → Prop) (K10 : (Int32) → (Nat → Int32) → (Int32) → Prop) : Nat → (Int32) → (Int32) → (Nat → Int32) → (Int32) → Prop
  | 0, _, _, _, _ => False
  | fu + 1, v2, v3, m_order, m_many => ((v3 ≤ 0 → wl_X7_orders_78 m_pitch m_first m_length v1 post K10 v2 v3 m_order m_many) ∧ (¬ v3 ≤ 0 → (vp_in (v3 - 1) 60 ∧ (wp_X7_isAhead m_pitch m_first v2 (m_order (v3 - 1).toNatClampNeg) (fun (r2 : Int32) => ((r2 = 0 → wl_X7_orders_78 m_pitch m_first m_length v1 post K10 v2 v3 m_order m_many) ∧ (¬ r2 = 0 → (vp_in (v3 - 1) 60 ∧ (∀ z3 : Int32, z3 = m_order (v3 - 1).toNatClampNeg → (vp_in v3 60 ∧ (∀ a4 : Nat → Int32, a4 = upd m_order v3.toNatClampNeg z3 → wl_X7_orders_38 m_pitch m_first m_length v1 post K10 fu v2 (v3 + (-1)) a4 m_many)))))))))))
def wl_X7_orders_10 (m_pitch : Nat → Int32) (m_first : Nat → Int32) (m_length : Nat → Int32) (v1 : Int32) (post : (Nat → Int32) → Int32 → Prop) : Nat → (Int32) → (Nat → Int32) → (Int32) → Prop
  | 0, _, _, _ => False
  | fu + 1, v2, m_order, m_many => ((((60 * v1) + 60) ≤ v2 → post m_order m_many) ∧ (¬ ((60 * v1) + 60) ≤ v2 → (vp_in v2 360 ∧ ((¬ (m_length v2.toNatClampNeg) = 0 → (∃ n, wl_X7_orders_38 m_pitch m_first m_length v1 post (wl_X7_orders_10 m_pitch m_first m_length v1 post fu) n v2 m_many m_order m_many)) ∧ ((m_length v2.toNatClampNeg) = 0 → wl_X7_orders_10 m_pitch m_first m_length v1 post fu (v2 + 1) m_order m_many)))))
def wp_X7_orders (m_pitch : Nat → Int32) (m_first : Nat → Int32) (m_length : Nat → Int32) (v1 : Int32) (m_order : Nat → Int32) (m_many : Int32) (post : (Nat → Int32) → Int32 → Prop) : Prop := (∀ z1 : Int32, z1 = 60 * v1 → (∃ n, wl_X7_orders_10 m_pitch m_first m_length v1 post n z1 m_order 0))
set_option maxRecDepth 100000 in
set_option maxHeartbeats 4000000 in
theorem ml_X7_orders_78 {p : Program} {l : Launch} {e : Env} {s : State} {m : MethodId} {args : Array Value} {below : List Frame} {meth : Method} {c : Code} {D : va_G} {cI cZ cR : ClassId} {A : Nat → Prop} {ad_m : Nat → Nat} {m_thrown : Int32} {m_rolls : Int32} {m_marks : Nat → Int32} {m_markStep : Nat → Int32} {m_markTicks : Nat → Int32} {m_table : Nat → Int32} {m_heard : Int32} {m_pressed : Int32} {m_silents : Int32} {m_items : Int32} {m_itemPitch : Nat → Int32} {m_itemStep : Nat → Int32} {m_ends : Nat → Int32} {m_noteOf : Nat → Int32} {m_cost : Int32} {m_extra : Int32} {m_slotOf : Nat → Int32} {m_sights : Int32} {m_sightCopy : Nat → Int32} {m_sightPitch : Nat → Int32} {m_isFaulty : Nat → Int32} {m_least : Int32} {m_greatest : Int32} {m_lines : Int32} {m_lineCopy : Nat → Int32} {m_lineDay : Nat → Int32} {m_linePlace : Nat → Int32} {m_lineTold : Nat → Int32} {m_now : Int32} (G : gG p s m args meth c cX7_orders none 4 RX7 wsX7_orders) (hK : va_K D vwCl (gT cI cZ cR) s) (hN : va_Nw gN s) (hA : ∀ q, s.heap.size ≤ q → A q) (m_pitch : Nat → Int32) (m_first : Nat → Int32) (m_length : Nat → Int32) (v1 : Int32) (post : (Nat → Int32) → Int32 → Prop) (K10 : (Int32) → (Nat → Int32) → (Int32) → Prop) (hK10 : ∀ (v2 : Int32) (m_order : Nat → Int32) (m_many : Int32), K10 v2 m_order m_many → ∀ (H : Heap) (locs : List Loc), va_P D vwCl (w_M cI cZ cR ad_m m_thrown m_rolls m_pitch m_first m_length m_marks m_markStep m_markTicks m_table m_order m_many m_heard m_pressed m_silents m_items m_itemPitch m_itemStep m_ends m_noteOf m_cost m_extra m_slotOf m_sights m_sightCopy m_sightPitch m_isFaulty m_least m_greatest m_lines m_lineCopy m_lineDay m_linePlace m_lineTold m_now) H → va_D A (w_M cI cZ cR ad_m m_thrown m_rolls m_pitch m_first m_length m_marks m_markStep m_markTicks m_table m_order m_many m_heard m_pressed m_silents m_items m_itemPitch m_itemStep m_ends m_noteOf m_cost m_extra m_slotOf m_sights m_sightCopy m_sightPitch m_isFaulty m_least m_greatest m_lines m_lineCopy m_lineDay m_linePlace m_lineTold m_now) → va_S A s.heap H locs → ∀ (ls : Array Slot), lv_has ls 4 [(0, .ref (ad_m 0)), (1, .int v1), (2, .int v2)] → W p l e { frames := 1, cells := 0, slots := 0, locals := 22 } s m args below meth c H locs 0 0 (MQ below (va_Qv (fun (u : (Nat → Int32) × (Int32)) => post u.1 u.2) (fun u t => gB D (gT cI cZ cR) A (w_M cI cZ cR ad_m m_thrown m_rolls m_pitch m_first m_length m_marks m_markStep m_markTicks m_table u.1 u.2 m_heard m_pressed m_silents m_items m_itemPitch m_itemStep m_ends m_noteOf m_cost m_extra m_slotOf m_sights m_sightCopy m_sightPitch m_isFaulty m_least m_greatest m_lines m_lineCopy m_lineDay m_linePlace m_lineTold m_now) t) A) args s 0 0 A) (F0 m 10 ls [])) (v2 : Int32) (v3 : Int32) (m_order : Nat → Int32) (m_many : Int32) (h : wl_X7_orders_78 m_pitch m_first m_length v1 post K10 v2 v3 m_order m_many) : ∀ (H : Heap) (locs : List Loc), va_P D vwCl (w_M cI cZ cR ad_m m_thrown m_rolls m_pitch m_first m_length m_marks m_markStep m_markTicks m_table m_order m_many m_heard m_pressed m_silents m_items m_itemPitch m_itemStep m_ends m_noteOf m_cost m_extra m_slotOf m_sights m_sightCopy m_sightPitch m_isFaulty m_least m_greatest m_lines m_lineCopy m_lineDay m_linePlace m_lineTold m_now) H → va_D A (w_M cI cZ cR ad_m m_thrown m_rolls m_pitch m_first m_length m_marks m_markStep m_markTicks m_table m_order m_many m_heard m_pressed m_silents m_items m_itemPitch m_itemStep m_ends m_noteOf m_cost m_extra m_slotOf m_sights m_sightCopy m_sightPitch m_isFaulty m_least m_greatest m_lines m_lineCopy m_lineDay m_linePlace m_lineTold m_now) → va_S A s.heap H locs → ∀ (ls : Array Slot), lv_has ls 4 [(0, .ref (ad_m 0)), (1, .int v1), (2, .int v2), (3, .int v3)] → W p l e { frames := 1, cells := 0, slots := 0, locals := 22 } s m args below meth c H locs 0 0 (MQ below (va_Qv (fun (u : (Nat → Int32) × (Int32)) => post u.1 u.2) (fun u t => gB D (gT cI cZ cR) A (w_M cI cZ cR ad_m m_thrown m_rolls m_pitch m_first m_length m_marks m_markStep m_markTicks m_table u.1 u.2 m_heard m_pressed m_silents m_items m_itemPitch m_itemStep m_ends m_noteOf m_cost m_extra m_slotOf m_sights m_sightCopy m_sightPitch m_isFaulty m_least m_greatest m_lines m_lineCopy m_lineDay m_linePlace m_lineTold m_now) t) A) args s 0 0 A) (F0 m 78 ls []) := by
  obtain ⟨hx, hb, hr, hml, hown, hts, hlocks⟩ := id G
  intro H locs hP hD hS ls hl
  unfold wl_X7_orders_78 at h
  refine lv_aload_n hx hb dX7_orders_78 rfl (lv_at hl 0 rfl) ?_
  refine va_get (D := D) (ci := 7) (v := .ref (ad_m 8)) (C := RX7) (T := TX7) (N := 34) hx hb hts us_X7_orders_X7 hown hK hP 0 rfl rfl 9 (by decide) (hts (.fieldLink RX7 32 "RollHouseModel" "order" "[I") lk_X7_orders_2) (fun _ h9 => h9) rfl dX7_orders_79 ?_
  refine lv_iload_n hx hb dX7_orders_82 rfl (lv_at hl 3 rfl) ?_
  refine lv_iload_n hx hb dX7_orders_83 rfl (lv_at hl 2 rfl) ?_
  obtain ⟨hin, h⟩ := h
  refine va_iast hx hb hK hP hD hS 8 0 rfl rfl hin dX7_orders_84 (fun H locs hP hD hS => ?_)
  obtain ⟨a5, ea5⟩ : ∃ f, f = upd m_order v3.toNatClampNeg v2 := ⟨_, rfl⟩
  have h := h a5 ea5
  rw [← ea5] at hP hD
  have hP : va_P D vwCl (w_M cI cZ cR ad_m m_thrown m_rolls m_pitch m_first m_length m_marks m_markStep m_markTicks m_table a5 m_many m_heard m_pressed m_silents m_items m_itemPitch m_itemStep m_ends m_noteOf m_cost m_extra m_slotOf m_sights m_sightCopy m_sightPitch m_isFaulty m_least m_greatest m_lines m_lineCopy m_lineDay m_linePlace m_lineTold m_now) H := hP
  have hD : va_D A (w_M cI cZ cR ad_m m_thrown m_rolls m_pitch m_first m_length m_marks m_markStep m_markTicks m_table a5 m_many m_heard m_pressed m_silents m_items m_itemPitch m_itemStep m_ends m_noteOf m_cost m_extra m_slotOf m_sights m_sightCopy m_sightPitch m_isFaulty m_least m_greatest m_lines m_lineCopy m_lineDay m_linePlace m_lineTold m_now) := hD
  refine lv_aload_n hx hb dX7_orders_85 rfl (lv_at hl 0 rfl) ?_
  refine lv_dup hx hb dX7_orders_86 rfl ?_
  refine va_get (D := D) (ci := 7) (v := .int m_many) (C := RX7) (T := TX7) (N := 34) hx hb hts us_X7_orders_X7 hown hK hP 0 rfl rfl 10 (by decide) (hts (.fieldLink RX7 112 "RollHouseModel" "many" "I") lk_X7_orders_0) (fun _ h9 => h9) rfl dX7_orders_87 ?_
  refine lv_iconst (v := 1) hx hb dX7_orders_90 (by decide) ?_
  refine lv_iadd hx hb dX7_orders_91 ?_
  refine va_put (D := D) (ci := 7) (v := .int (m_many + 1)) (ty := .int) (C := RX7) (T := TX7) (N := 34) hx hb hts us_X7_orders_X7 tyX7 tyX7_ok nmX7 hown hK hP hD hS 0 rfl rfl 10 (by decide) (hts (.fieldLink RX7 112 "RollHouseModel" "many" "I") lk_X7_orders_0) (fun _ h9 => h9) rfl (by decide +kernel) rfl rfl (Nat.le_of_ble_eq_true rfl) dX7_orders_92 (fun H locs hP hD hS => ?_)
  have hP : va_P D vwCl (w_M cI cZ cR ad_m m_thrown m_rolls m_pitch m_first m_length m_marks m_markStep m_markTicks m_table a5 (m_many + 1) m_heard m_pressed m_silents m_items m_itemPitch m_itemStep m_ends m_noteOf m_cost m_extra m_slotOf m_sights m_sightCopy m_sightPitch m_isFaulty m_least m_greatest m_lines m_lineCopy m_lineDay m_linePlace m_lineTold m_now) H := hP
  have hD : va_D A (w_M cI cZ cR ad_m m_thrown m_rolls m_pitch m_first m_length m_marks m_markStep m_markTicks m_table a5 (m_many + 1) m_heard m_pressed m_silents m_items m_itemPitch m_itemStep m_ends m_noteOf m_cost m_extra m_slotOf m_sights m_sightCopy m_sightPitch m_isFaulty m_least m_greatest m_lines m_lineCopy m_lineDay m_linePlace m_lineTold m_now) := hD
  refine lv_iinc (v := v2 + 1) (lv' := [(2, .int (v2 + 1)), (0, .ref (ad_m 0)), (1, .int v1), (3, .int v3)]) hx hb dX7_orders_95 hl (k := 2) rfl rfl (by decide) rfl (fun ls hl => ?_)
  refine lv_goto (tgt := 10) hx hb dX7_orders_98 (by decide) ?_
  exact hK10 (v2 + 1) a5 (m_many + 1) h H locs hP hD hS ls (lv_sub hl [1, 2, 0] rfl)
set_option maxRecDepth 100000 in
set_option maxHeartbeats 4000000 in
theorem ml_X7_orders_38 {p : Program} {l : Launch} {e : Env} {s : State} {m : MethodId} {args : Array Value} {below : List Frame} {meth : Method} {c : Code} {D : va_G} {cI cZ cR : ClassId} {A : Nat → Prop} {ad_m : Nat → Nat} {m_thrown : Int32} {m_rolls : Int32} {m_marks : Nat → Int32} {m_markStep : Nat → Int32} {m_markTicks : Nat → Int32} {m_table : Nat → Int32} {m_heard : Int32} {m_pressed : Int32} {m_silents : Int32} {m_items : Int32} {m_itemPitch : Nat → Int32} {m_itemStep : Nat → Int32} {m_ends : Nat → Int32} {m_noteOf : Nat → Int32} {m_cost : Int32} {m_extra : Int32} {m_slotOf : Nat → Int32} {m_sights : Int32} {m_sightCopy : Nat → Int32} {m_sightPitch : Nat → Int32} {m_isFaulty : Nat → Int32} {m_least : Int32} {m_greatest : Int32} {m_lines : Int32} {m_lineCopy : Nat → Int32} {m_lineDay : Nat → Int32} {m_linePlace : Nat → Int32} {m_lineTold : Nat → Int32} {m_now : Int32} (G : gG p s m args meth c cX7_orders none 4 RX7 wsX7_orders) (hK : va_K D vwCl (gT cI cZ cR) s) (hN : va_Nw gN s) (hA : ∀ q, s.heap.size ≤ q → A q) (m_pitch : Nat → Int32) (m_first : Nat → Int32) (m_length : Nat → Int32) (v1 : Int32) (post : (Nat → Int32) → Int32 → Prop) (K10 : (Int32) → (Nat → Int32) → (Int32) → Prop) (hK10 : ∀ (v2 : Int32) (m_order : Nat → Int32) (m_many : Int32), K10 v2 m_order m_many → ∀ (H : Heap) (locs : List Loc), va_P D vwCl (w_M cI cZ cR ad_m m_thrown m_rolls m_pitch m_first m_length m_marks m_markStep m_markTicks m_table m_order m_many m_heard m_pressed m_silents m_items m_itemPitch m_itemStep m_ends m_noteOf m_cost m_extra m_slotOf m_sights m_sightCopy m_sightPitch m_isFaulty m_least m_greatest m_lines m_lineCopy m_lineDay m_linePlace m_lineTold m_now) H → va_D A (w_M cI cZ cR ad_m m_thrown m_rolls m_pitch m_first m_length m_marks m_markStep m_markTicks m_table m_order m_many m_heard m_pressed m_silents m_items m_itemPitch m_itemStep m_ends m_noteOf m_cost m_extra m_slotOf m_sights m_sightCopy m_sightPitch m_isFaulty m_least m_greatest m_lines m_lineCopy m_lineDay m_linePlace m_lineTold m_now) → va_S A s.heap H locs → ∀ (ls : Array Slot), lv_has ls 4 [(0, .ref (ad_m 0)), (1, .int v1), (2, .int v2)] → W p l e { frames := 1, cells := 0, slots := 0, locals := 22 } s m args below meth c H locs 0 0 (MQ below (va_Qv (fun (u : (Nat → Int32) × (Int32)) => post u.1 u.2) (fun u t => gB D (gT cI cZ cR) A (w_M cI cZ cR ad_m m_thrown m_rolls m_pitch m_first m_length m_marks m_markStep m_markTicks m_table u.1 u.2 m_heard m_pressed m_silents m_items m_itemPitch m_itemStep m_ends m_noteOf m_cost m_extra m_slotOf m_sights m_sightCopy m_sightPitch m_isFaulty m_least m_greatest m_lines m_lineCopy m_lineDay m_linePlace m_lineTold m_now) t) A) args s 0 0 A) (F0 m 10 ls [])) : ∀ (fu : Nat) (v2 : Int32) (v3 : Int32) (m_order : Nat → Int32) (m_many : Int32), wl_X7_orders_38 m_pitch m_first m_length v1 post K10 fu v2 v3 m_order m_many → ∀ (H : Heap) (locs : List Loc), va_P D vwCl (w_M cI cZ cR ad_m m_thrown m_rolls m_pitch m_first m_length m_marks m_markStep m_markTicks m_table m_order m_many m_heard m_pressed m_silents m_items m_itemPitch m_itemStep m_ends m_noteOf m_cost m_extra m_slotOf m_sights m_sightCopy m_sightPitch m_isFaulty m_least m_greatest m_lines m_lineCopy m_lineDay m_linePlace m_lineTold m_now) H → va_D A (w_M cI cZ cR ad_m m_thrown m_rolls m_pitch m_first m_length m_marks m_markStep m_markTicks m_table m_order m_many m_heard m_pressed m_silents m_items m_itemPitch m_itemStep m_ends m_noteOf m_cost m_extra m_slotOf m_sights m_sightCopy m_sightPitch m_isFaulty m_least m_greatest m_lines m_lineCopy m_lineDay m_linePlace m_lineTold m_now) → va_S A s.heap H locs → ∀ (ls : Array Slot), lv_has ls 4 [(0, .ref (ad_m 0)), (1, .int v1), (2, .int v2), (3, .int v3)] → W p l e { frames := 1, cells := 0, slots := 0, locals := 22 } s m args below meth c H locs 0 0 (MQ below (va_Qv (fun (u : (Nat → Int32) × (Int32)) => post u.1 u.2) (fun u t => gB D (gT cI cZ cR) A (w_M cI cZ cR ad_m m_thrown m_rolls m_pitch m_first m_length m_marks m_markStep m_markTicks m_table u.1 u.2 m_heard m_pressed m_silents m_items m_itemPitch m_itemStep m_ends m_noteOf m_cost m_extra m_slotOf m_sights m_sightCopy m_sightPitch m_isFaulty m_least m_greatest m_lines m_lineCopy m_lineDay m_linePlace m_lineTold m_now) t) A) args s 0 0 A) (F0 m 38 ls []) := by
  obtain ⟨hx, hb, hr, hml, hown, hts, hlocks⟩ := id G
  intro fu
  induction fu with
  | zero =>
    intro v2 v3 m_order m_many h
    exact h.elim
  | succ fu ih =>
    intro v2 v3 m_order m_many h H locs hP hD hS ls hl
    rw [wl_X7_orders_38] at h
    refine lv_iload_n hx hb dX7_orders_38 rfl (lv_at hl 3 rfl) ?_
    refine lv_if_le (tgt := 78) hx hb dX7_orders_39 (by decide) (fun hc => ?_) (fun hc => ?_)
    · have h := h.1 hc
      exact ml_X7_orders_78 G hK hN hA m_pitch m_first m_length v1 post K10 hK10 v2 v3 m_order m_many h H locs hP hD hS ls (lv_sub hl [0, 1, 2, 3] rfl)
    · have h := h.2 hc
      refine lv_aload_n hx hb dX7_orders_42 rfl (lv_at hl 0 rfl) ?_
      refine lv_iload_n hx hb dX7_orders_43 rfl (lv_at hl 2 rfl) ?_
      refine lv_aload_n hx hb dX7_orders_44 rfl (lv_at hl 0 rfl) ?_
      refine va_get (D := D) (ci := 7) (v := .ref (ad_m 8)) (C := RX7) (T := TX7) (N := 34) hx hb hts us_X7_orders_X7 hown hK hP 0 rfl rfl 9 (by decide) (hts (.fieldLink RX7 32 "RollHouseModel" "order" "[I") lk_X7_orders_2) (fun _ h9 => h9) rfl dX7_orders_45 ?_
      refine lv_iload_n hx hb dX7_orders_48 rfl (lv_at hl 3 rfl) ?_
      refine lv_iconst (v := 1) hx hb dX7_orders_49 (by decide) ?_
      refine lv_isub hx hb dX7_orders_50 ?_
      obtain ⟨hin, h⟩ := h
      refine va_iald hx hb hK hP 8 0 rfl rfl hin dX7_orders_51 ?_
      refine gl_calliF (va_runV (As := [.int v2, .int (m_order (v3 - 1).toNatClampNeg)]) (rest := []) ⟨hx, hb, hml, hown, hts⟩ (mt_X7_isAhead l D cI cZ cR ad_m H.size m_thrown m_rolls m_pitch m_first m_length m_marks m_markStep m_markTicks m_table m_order m_many m_heard m_pressed m_silents m_items m_itemPitch m_itemStep m_ends m_noteOf m_cost m_extra m_slotOf m_sights m_sightCopy m_sightPitch m_isFaulty m_least m_greatest m_lines m_lineCopy m_lineDay m_linePlace m_lineTold m_now v2 (m_order (v3 - 1).toNatClampNeg) _ h) (cwV 2 hts gX7_orders_X7_isAhead rfl rfl rfl (by decide +kernel) ⟨Nat.le_of_ble_eq_true rfl, Nat.le_of_ble_eq_true rfl⟩) ⟨gl_blind, va_recv hK hP (ci := 7) (q0 := 0) rfl rfl, gl_pre hP hK hN hD⟩ rfl rfl hl.1 rfl (lv_room (Nat.le_of_ble_eq_true rfl)) dX7_orders_52 ⟨Nat.le_of_ble_eq_true rfl, Nat.le_of_ble_eq_true rfl⟩) hD hS hA (fun r2 u H locs h hP hD hS => ?_)
      try dsimp only at h
      refine lv_if_eq (tgt := 78) hx hb dX7_orders_55 (by decide) (fun hc => ?_) (fun hc => ?_)
      · have h := h.1 hc
        exact ml_X7_orders_78 G hK hN hA m_pitch m_first m_length v1 post K10 hK10 v2 v3 m_order m_many h H locs hP hD hS ls (lv_sub hl [0, 1, 2, 3] rfl)
      · have h := h.2 hc
        refine lv_aload_n hx hb dX7_orders_58 rfl (lv_at hl 0 rfl) ?_
        refine va_get (D := D) (ci := 7) (v := .ref (ad_m 8)) (C := RX7) (T := TX7) (N := 34) hx hb hts us_X7_orders_X7 hown hK hP 0 rfl rfl 9 (by decide) (hts (.fieldLink RX7 32 "RollHouseModel" "order" "[I") lk_X7_orders_2) (fun _ h9 => h9) rfl dX7_orders_59 ?_
        refine lv_iload_n hx hb dX7_orders_62 rfl (lv_at hl 3 rfl) ?_
        refine lv_aload_n hx hb dX7_orders_63 rfl (lv_at hl 0 rfl) ?_
        refine va_get (D := D) (ci := 7) (v := .ref (ad_m 8)) (C := RX7) (T := TX7) (N := 34) hx hb hts us_X7_orders_X7 hown hK hP 0 rfl rfl 9 (by decide) (hts (.fieldLink RX7 32 "RollHouseModel" "order" "[I") lk_X7_orders_2) (fun _ h9 => h9) rfl dX7_orders_64 ?_
        refine lv_iload_n hx hb dX7_orders_67 rfl (lv_at hl 3 rfl) ?_
        refine lv_iconst (v := 1) hx hb dX7_orders_68 (by decide) ?_
        refine lv_isub hx hb dX7_orders_69 ?_
        obtain ⟨hin, h⟩ := h
        refine va_iald hx hb hK hP 8 0 rfl rfl hin dX7_orders_70 ?_
        refine lv_topi (fun z3 ez3 => ?_)
        have h := h z3 ez3
        obtain ⟨hin, h⟩ := h
        refine va_iast hx hb hK hP hD hS 8 0 rfl rfl hin dX7_orders_71 (fun H locs hP hD hS => ?_)
        obtain ⟨a4, ea4⟩ : ∃ f, f = upd m_order v3.toNatClampNeg z3 := ⟨_, rfl⟩
        have h := h a4 ea4
        rw [← ea4] at hP hD
        have hP : va_P D vwCl (w_M cI cZ cR ad_m m_thrown m_rolls m_pitch m_first m_length m_marks m_markStep m_markTicks m_table a4 m_many m_heard m_pressed m_silents m_items m_itemPitch m_itemStep m_ends m_noteOf m_cost m_extra m_slotOf m_sights m_sightCopy m_sightPitch m_isFaulty m_least m_greatest m_lines m_lineCopy m_lineDay m_linePlace m_lineTold m_now) H := hP
        have hD : va_D A (w_M cI cZ cR ad_m m_thrown m_rolls m_pitch m_first m_length m_marks m_markStep m_markTicks m_table a4 m_many m_heard m_pressed m_silents m_items m_itemPitch m_itemStep m_ends m_noteOf m_cost m_extra m_slotOf m_sights m_sightCopy m_sightPitch m_isFaulty m_least m_greatest m_lines m_lineCopy m_lineDay m_linePlace m_lineTold m_now) := hD
        refine lv_iinc (v := v3 + (-1)) (lv' := [(3, .int (v3 + (-1))), (0, .ref (ad_m 0)), (1, .int v1), (2, .int v2)]) hx hb dX7_orders_72 hl (k := 3) rfl rfl (by decide) rfl (fun ls hl => ?_)
        refine lv_goto (tgt := 38) hx hb dX7_orders_75 (by decide) ?_
        exact ih v2 (v3 + (-1)) a4 m_many h H locs hP hD hS ls (lv_sub hl [1, 2, 3, 0] rfl)
set_option maxRecDepth 100000 in
set_option maxHeartbeats 4000000 in
theorem ml_X7_orders_10 {p : Program} {l : Launch} {e : Env} {s : State} {m : MethodId} {args : Array Value} {below : List Frame} {meth : Method} {c : Code} {D : va_G} {cI cZ cR : ClassId} {A : Nat → Prop} {ad_m : Nat → Nat} {m_thrown : Int32} {m_rolls : Int32} {m_marks : Nat → Int32} {m_markStep : Nat → Int32} {m_markTicks : Nat → Int32} {m_table : Nat → Int32} {m_heard : Int32} {m_pressed : Int32} {m_silents : Int32} {m_items : Int32} {m_itemPitch : Nat → Int32} {m_itemStep : Nat → Int32} {m_ends : Nat → Int32} {m_noteOf : Nat → Int32} {m_cost : Int32} {m_extra : Int32} {m_slotOf : Nat → Int32} {m_sights : Int32} {m_sightCopy : Nat → Int32} {m_sightPitch : Nat → Int32} {m_isFaulty : Nat → Int32} {m_least : Int32} {m_greatest : Int32} {m_lines : Int32} {m_lineCopy : Nat → Int32} {m_lineDay : Nat → Int32} {m_linePlace : Nat → Int32} {m_lineTold : Nat → Int32} {m_now : Int32} (G : gG p s m args meth c cX7_orders none 4 RX7 wsX7_orders) (hK : va_K D vwCl (gT cI cZ cR) s) (hN : va_Nw gN s) (hA : ∀ q, s.heap.size ≤ q → A q) (m_pitch : Nat → Int32) (m_first : Nat → Int32) (m_length : Nat → Int32) (v1 : Int32) (post : (Nat → Int32) → Int32 → Prop) : ∀ (fu : Nat) (v2 : Int32) (m_order : Nat → Int32) (m_many : Int32), wl_X7_orders_10 m_pitch m_first m_length v1 post fu v2 m_order m_many → ∀ (H : Heap) (locs : List Loc), va_P D vwCl (w_M cI cZ cR ad_m m_thrown m_rolls m_pitch m_first m_length m_marks m_markStep m_markTicks m_table m_order m_many m_heard m_pressed m_silents m_items m_itemPitch m_itemStep m_ends m_noteOf m_cost m_extra m_slotOf m_sights m_sightCopy m_sightPitch m_isFaulty m_least m_greatest m_lines m_lineCopy m_lineDay m_linePlace m_lineTold m_now) H → va_D A (w_M cI cZ cR ad_m m_thrown m_rolls m_pitch m_first m_length m_marks m_markStep m_markTicks m_table m_order m_many m_heard m_pressed m_silents m_items m_itemPitch m_itemStep m_ends m_noteOf m_cost m_extra m_slotOf m_sights m_sightCopy m_sightPitch m_isFaulty m_least m_greatest m_lines m_lineCopy m_lineDay m_linePlace m_lineTold m_now) → va_S A s.heap H locs → ∀ (ls : Array Slot), lv_has ls 4 [(0, .ref (ad_m 0)), (1, .int v1), (2, .int v2)] → W p l e { frames := 1, cells := 0, slots := 0, locals := 22 } s m args below meth c H locs 0 0 (MQ below (va_Qv (fun (u : (Nat → Int32) × (Int32)) => post u.1 u.2) (fun u t => gB D (gT cI cZ cR) A (w_M cI cZ cR ad_m m_thrown m_rolls m_pitch m_first m_length m_marks m_markStep m_markTicks m_table u.1 u.2 m_heard m_pressed m_silents m_items m_itemPitch m_itemStep m_ends m_noteOf m_cost m_extra m_slotOf m_sights m_sightCopy m_sightPitch m_isFaulty m_least m_greatest m_lines m_lineCopy m_lineDay m_linePlace m_lineTold m_now) t) A) args s 0 0 A) (F0 m 10 ls []) := by
  obtain ⟨hx, hb, hr, hml, hown, hts, hlocks⟩ := id G
  intro fu
  induction fu with
  | zero =>
    intro v2 m_order m_many h
    exact h.elim
  | succ fu ih =>
    intro v2 m_order m_many h H locs hP hD hS ls hl
    rw [wl_X7_orders_10] at h
    refine lv_iload_n hx hb dX7_orders_10 rfl (lv_at hl 2 rfl) ?_
    refine lv_bipush (v := 60) hx hb dX7_orders_11 (by decide) ?_
    refine lv_iload_n hx hb dX7_orders_13 rfl (lv_at hl 1 rfl) ?_
    refine lv_imul hx hb dX7_orders_14 ?_
    refine lv_bipush (v := 60) hx hb dX7_orders_15 (by decide) ?_
    refine lv_iadd hx hb dX7_orders_17 ?_
    refine lv_icmp_ge (tgt := 101) hx hb dX7_orders_18 (by decide) (fun hc => ?_) (fun hc => ?_)
    · have h := h.1 hc
      exact gl_retv G hK (u := (m_order, m_many)) hP hD hS h dX7_orders_101
    · have h := h.2 hc
      refine lv_aload_n hx hb dX7_orders_21 rfl (lv_at hl 0 rfl) ?_
      refine va_get (D := D) (ci := 7) (v := .ref (ad_m 3)) (C := RX7) (T := TX7) (N := 34) hx hb hts us_X7_orders_X7 hown hK hP 0 rfl rfl 4 (by decide) (hts (.fieldLink RX7 16 "RollHouseModel" "length" "[I") lk_X7_orders_1) (fun _ h9 => h9) rfl dX7_orders_22 ?_
      refine lv_iload_n hx hb dX7_orders_25 rfl (lv_at hl 2 rfl) ?_
      obtain ⟨hin, h⟩ := h
      refine va_iald hx hb hK hP 3 0 rfl rfl hin dX7_orders_26 ?_
      refine lv_if_ne (tgt := 33) hx hb dX7_orders_27 (by decide) (fun hc => ?_) (fun hc => ?_)
      · have h := h.1 hc
        refine lv_aload_n hx hb dX7_orders_33 rfl (lv_at hl 0 rfl) ?_
        refine va_get (D := D) (ci := 7) (v := .int m_many) (C := RX7) (T := TX7) (N := 34) hx hb hts us_X7_orders_X7 hown hK hP 0 rfl rfl 10 (by decide) (hts (.fieldLink RX7 112 "RollHouseModel" "many" "I") lk_X7_orders_0) (fun _ h9 => h9) rfl dX7_orders_34 ?_
        refine lv_istore_n (lv' := [(3, .int m_many), (0, .ref (ad_m 0)), (1, .int v1), (2, .int v2)]) hx hb dX7_orders_37 rfl hl (by decide) rfl (fun ls hl => ?_)
        obtain ⟨nf, h⟩ := h
        exact ml_X7_orders_38 G hK hN hA m_pitch m_first m_length v1 post (wl_X7_orders_10 m_pitch m_first m_length v1 post fu) ih nf v2 m_many m_order m_many h H locs hP hD hS ls (lv_sub hl [1, 2, 3, 0] rfl)
      · have h := h.2 hc
        refine lv_goto (tgt := 95) hx hb dX7_orders_30 (by decide) ?_
        refine lv_iinc (v := v2 + 1) (lv' := [(2, .int (v2 + 1)), (0, .ref (ad_m 0)), (1, .int v1)]) hx hb dX7_orders_95 hl (k := 2) rfl rfl (by decide) rfl (fun ls hl => ?_)
        refine lv_goto (tgt := 10) hx hb dX7_orders_98 (by decide) ?_
        exact ih (v2 + 1) m_order m_many h H locs hP hD hS ls (lv_sub hl [1, 2, 0] rfl)
set_option maxRecDepth 100000 in
set_option maxHeartbeats 4000000 in
theorem ml_X7_orders_0 {p : Program} {l : Launch} {e : Env} {s : State} {m : MethodId} {args : Array Value} {below : List Frame} {meth : Method} {c : Code} {D : va_G} {cI cZ cR : ClassId} {A : Nat → Prop} {ad_m : Nat → Nat} {m_thrown : Int32} {m_rolls : Int32} {m_marks : Nat → Int32} {m_markStep : Nat → Int32} {m_markTicks : Nat → Int32} {m_table : Nat → Int32} {m_heard : Int32} {m_pressed : Int32} {m_silents : Int32} {m_items : Int32} {m_itemPitch : Nat → Int32} {m_itemStep : Nat → Int32} {m_ends : Nat → Int32} {m_noteOf : Nat → Int32} {m_cost : Int32} {m_extra : Int32} {m_slotOf : Nat → Int32} {m_sights : Int32} {m_sightCopy : Nat → Int32} {m_sightPitch : Nat → Int32} {m_isFaulty : Nat → Int32} {m_least : Int32} {m_greatest : Int32} {m_lines : Int32} {m_lineCopy : Nat → Int32} {m_lineDay : Nat → Int32} {m_linePlace : Nat → Int32} {m_lineTold : Nat → Int32} {m_now : Int32} (G : gG p s m args meth c cX7_orders none 4 RX7 wsX7_orders) (hK : va_K D vwCl (gT cI cZ cR) s) (hN : va_Nw gN s) (hA : ∀ q, s.heap.size ≤ q → A q) (m_pitch : Nat → Int32) (m_first : Nat → Int32) (m_length : Nat → Int32) (v1 : Int32) (post : (Nat → Int32) → Int32 → Prop) (m_order : Nat → Int32) (m_many : Int32) (h : wp_X7_orders m_pitch m_first m_length v1 m_order m_many post) : ∀ (H : Heap) (locs : List Loc), va_P D vwCl (w_M cI cZ cR ad_m m_thrown m_rolls m_pitch m_first m_length m_marks m_markStep m_markTicks m_table m_order m_many m_heard m_pressed m_silents m_items m_itemPitch m_itemStep m_ends m_noteOf m_cost m_extra m_slotOf m_sights m_sightCopy m_sightPitch m_isFaulty m_least m_greatest m_lines m_lineCopy m_lineDay m_linePlace m_lineTold m_now) H → va_D A (w_M cI cZ cR ad_m m_thrown m_rolls m_pitch m_first m_length m_marks m_markStep m_markTicks m_table m_order m_many m_heard m_pressed m_silents m_items m_itemPitch m_itemStep m_ends m_noteOf m_cost m_extra m_slotOf m_sights m_sightCopy m_sightPitch m_isFaulty m_least m_greatest m_lines m_lineCopy m_lineDay m_linePlace m_lineTold m_now) → va_S A s.heap H locs → ∀ (ls : Array Slot), lv_has ls 4 [(0, .ref (ad_m 0)), (1, .int v1)] → W p l e { frames := 1, cells := 0, slots := 0, locals := 22 } s m args below meth c H locs 0 0 (MQ below (va_Qv (fun (u : (Nat → Int32) × (Int32)) => post u.1 u.2) (fun u t => gB D (gT cI cZ cR) A (w_M cI cZ cR ad_m m_thrown m_rolls m_pitch m_first m_length m_marks m_markStep m_markTicks m_table u.1 u.2 m_heard m_pressed m_silents m_items m_itemPitch m_itemStep m_ends m_noteOf m_cost m_extra m_slotOf m_sights m_sightCopy m_sightPitch m_isFaulty m_least m_greatest m_lines m_lineCopy m_lineDay m_linePlace m_lineTold m_now) t) A) args s 0 0 A) (F0 m 0 ls []) := by
  obtain ⟨hx, hb, hr, hml, hown, hts, hlocks⟩ := id G
  intro H locs hP hD hS ls hl
  unfold wp_X7_orders at h
  refine lv_aload_n hx hb dX7_orders_0 rfl (lv_at hl 0 rfl) ?_
  refine lv_iconst (v := 0) hx hb dX7_orders_1 (by decide) ?_
  refine va_put (D := D) (ci := 7) (v := .int 0) (ty := .int) (C := RX7) (T := TX7) (N := 34) hx hb hts us_X7_orders_X7 tyX7 tyX7_ok nmX7 hown hK hP hD hS 0 rfl rfl 10 (by decide) (hts (.fieldLink RX7 112 "RollHouseModel" "many" "I") lk_X7_orders_0) (fun _ h9 => h9) rfl (by decide +kernel) rfl rfl (Nat.le_of_ble_eq_true rfl) dX7_orders_2 (fun H locs hP hD hS => ?_)
  have hP : va_P D vwCl (w_M cI cZ cR ad_m m_thrown m_rolls m_pitch m_first m_length m_marks m_markStep m_markTicks m_table m_order 0 m_heard m_pressed m_silents m_items m_itemPitch m_itemStep m_ends m_noteOf m_cost m_extra m_slotOf m_sights m_sightCopy m_sightPitch m_isFaulty m_least m_greatest m_lines m_lineCopy m_lineDay m_linePlace m_lineTold m_now) H := hP
  have hD : va_D A (w_M cI cZ cR ad_m m_thrown m_rolls m_pitch m_first m_length m_marks m_markStep m_markTicks m_table m_order 0 m_heard m_pressed m_silents m_items m_itemPitch m_itemStep m_ends m_noteOf m_cost m_extra m_slotOf m_sights m_sightCopy m_sightPitch m_isFaulty m_least m_greatest m_lines m_lineCopy m_lineDay m_linePlace m_lineTold m_now) := hD
  refine lv_bipush (v := 60) hx hb dX7_orders_5 (by decide) ?_
  refine lv_iload_n hx hb dX7_orders_7 rfl (lv_at hl 1 rfl) ?_
  refine lv_imul hx hb dX7_orders_8 ?_
  refine lv_topi (fun z1 ez1 => ?_)
  have h := h z1 ez1
  refine lv_istore_n (lv' := [(2, .int z1), (0, .ref (ad_m 0)), (1, .int v1)]) hx hb dX7_orders_9 rfl hl (by decide) rfl (fun ls hl => ?_)
  obtain ⟨nf, h⟩ := h
  exact ml_X7_orders_10 G hK hN hA m_pitch m_first m_length v1 post nf z1 m_order 0 h H locs hP hD hS ls (lv_sub hl [1, 2, 0] rfl)
set_option maxRecDepth 100000 in
theorem mt_X7_orders (l : Launch) (D : va_G) (cI cZ cR : ClassId) (ad_m : Nat → Nat) (sz : Nat) (m_thrown : Int32) (m_rolls : Int32) (m_pitch : Nat → Int32) (m_first : Nat → Int32) (m_length : Nat → Int32) (m_marks : Nat → Int32) (m_markStep : Nat → Int32) (m_markTicks : Nat → Int32) (m_table : Nat → Int32) (m_order : Nat → Int32) (m_many : Int32) (m_heard : Int32) (m_pressed : Int32) (m_silents : Int32) (m_items : Int32) (m_itemPitch : Nat → Int32) (m_itemStep : Nat → Int32) (m_ends : Nat → Int32) (m_noteOf : Nat → Int32) (m_cost : Int32) (m_extra : Int32) (m_slotOf : Nat → Int32) (m_sights : Int32) (m_sightCopy : Nat → Int32) (m_sightPitch : Nat → Int32) (m_isFaulty : Nat → Int32) (m_least : Int32) (m_greatest : Int32) (m_lines : Int32) (m_lineCopy : Nat → Int32) (m_lineDay : Nat → Int32) (m_linePlace : Nat → Int32) (m_lineTold : Nat → Int32) (m_now : Int32) (v1 : Int32) (post : (Nat → Int32) → Int32 → Prop) (h : wp_X7_orders m_pitch m_first m_length v1 m_order m_many post) : Met l yX7_orders wsX7_orders ({ frames := 1, cells := 0, slots := 0, locals := 22 }) (gPc D (gT cI cZ cR) (w_M cI cZ cR ad_m m_thrown m_rolls m_pitch m_first m_length m_marks m_markStep m_markTicks m_table m_order m_many m_heard m_pressed m_silents m_items m_itemPitch m_itemStep m_ends m_noteOf m_cost m_extra m_slotOf m_sights m_sightCopy m_sightPitch m_isFaulty m_least m_greatest m_lines m_lineCopy m_lineDay m_linePlace m_lineTold m_now) sz [.ref (ad_m 0), .int v1]) (va_Qv (fun (u : (Nat → Int32) × (Int32)) => post u.1 u.2) (fun u t => gB D (gT cI cZ cR) (va_A (w_M cI cZ cR ad_m m_thrown m_rolls m_pitch m_first m_length m_marks m_markStep m_markTicks m_table m_order m_many m_heard m_pressed m_silents m_items m_itemPitch m_itemStep m_ends m_noteOf m_cost m_extra m_slotOf m_sights m_sightCopy m_sightPitch m_isFaulty m_least m_greatest m_lines m_lineCopy m_lineDay m_linePlace m_lineTold m_now) sz) (w_M cI cZ cR ad_m m_thrown m_rolls m_pitch m_first m_length m_marks m_markStep m_markTicks m_table u.1 u.2 m_heard m_pressed m_silents m_items m_itemPitch m_itemStep m_ends m_noteOf m_cost m_extra m_slotOf m_sights m_sightCopy m_sightPitch m_isFaulty m_least m_greatest m_lines m_lineCopy m_lineDay m_linePlace m_lineTold m_now) t) (va_A (w_M cI cZ cR ad_m m_thrown m_rolls m_pitch m_first m_length m_marks m_markStep m_markTicks m_table m_order m_many m_heard m_pressed m_silents m_items m_itemPitch m_itemStep m_ends m_noteOf m_cost m_extra m_slotOf m_sights m_sightCopy m_sightPitch m_isFaulty m_least m_greatest m_lines m_lineCopy m_lineDay m_linePlace m_lineTold m_now) sz)) 0 0 (va_A (w_M cI cZ cR ad_m m_thrown m_rolls m_pitch m_first m_length m_marks m_markStep m_markTicks m_table m_order m_many m_heard m_pressed m_silents m_items m_itemPitch m_itemStep m_ends m_noteOf m_cost m_extra m_slotOf m_sights m_sightCopy m_sightPitch m_isFaulty m_least m_greatest m_lines m_lineCopy m_lineDay m_linePlace m_lineTold m_now) sz) := by
  refine gl_entry (cc := cX7_orders) (maxL := 4) (ret := none) (by decide) rfl (Nat.le_of_ble_eq_true rfl) ?_
  intro p e s m below meth c ls G hin hsz hK hN hP hD hl
  subst hsz
  exact ml_X7_orders_0 G hK hN (fun q h => Or.inr h) m_pitch m_first m_length v1 post m_order m_many h s.heap [] hP hD va_S.rf ls hl
theorem lk_X7_note_0 : (Cond.fieldLink RX7 71 "RollHouseModel" "thrown" "I") ∈ wsX7_note := by decide +kernel
theorem lk_X7_note_1 : (Cond.fieldLink RX7 16 "RollHouseModel" "length" "[I") ∈ wsX7_note := by decide +kernel
theorem lk_X7_note_2 : (Cond.fieldLink RX7 32 "RollHouseModel" "order" "[I") ∈ wsX7_note := by decide +kernel
theorem lk_X7_note_3 : (Cond.fieldLink RX7 13 "RollHouseModel" "first" "[I") ∈ wsX7_note := by decide +kernel
theorem lk_X7_note_4 : (Cond.fieldLink RX7 7 "RollHouseModel" "pitch" "[I") ∈ wsX7_note := by decide +kernel
theorem us_X7_note_X7 : ∀ w ∈ u_ws RX7 TX7 34, w ∈ wsX7_note := by decide +kernel
def wp_X7_note (m_rolls : Int32) (m_pitch : Nat → Int32) (m_first : Nat → Int32) (m_length : Nat → Int32) (v1 : Int32) (v2 : Int32) (v3 : Int32) (m_thrown : Int32) (m_order : Nat → Int32) (m_many : Int32) (post : Int32 → Int32 → (Nat → Int32) → Int32 → Prop) : Prop := (wp_X7_isRoll m_rolls v1 (fun (r1 : Int32) => ((r1 = 0 → post (-1) 0 m_order m_many) ∧ (¬ r1 = 0 → (wp_X7_notes m_length v1 (fun (r2 : Int32) => (wp_X7_within v2 0 (r2 - 1) (fun (r3 : Int32) => ((¬ r3 = 0 → (wp_X7_orders m_pitch m_first m_length v1 m_order m_many (fun (a4 : Nat → Int32) (z5 : Int32) => ((¬ v3 = 0 → ((¬ v3 = 1 → ((¬ v3 = 2 → post (-1) 0 a4 z5) ∧ (v3 = 2 → (vp_in v2 60 ∧ (vp_in (a4 v2.toNatClampNeg) 360 ∧ post (m_length (a4 v2.toNatClampNeg).toNatClampNeg) 0 a4 z5))))) ∧ (v3 = 1 → (vp_in v2 60 ∧ (vp_in (a4 v2.toNatClampNeg) 360 ∧ post (m_first (a4 v2.toNatClampNeg).toNatClampNeg) 0 a4 z5))))) ∧ (v3 = 0 → (vp_in v2 60 ∧ (vp_in (a4 v2.toNatClampNeg) 360 ∧ post (m_pitch (a4 v2.toNatClampNeg).toNatClampNeg) 0 a4 z5))))))) ∧ (r3 = 0 → post (-1) 0 m_order m_many))))))))))
set_option maxRecDepth 100000 in
set_option maxHeartbeats 4000000 in
theorem ml_X7_note_0 {p : Program} {l : Launch} {e : Env} {s : State} {m : MethodId} {args : Array Value} {below : List Frame} {meth : Method} {c : Code} {D : va_G} {cI cZ cR : ClassId} {A : Nat → Prop} {ad_m : Nat → Nat} {m_marks : Nat → Int32} {m_markStep : Nat → Int32} {m_markTicks : Nat → Int32} {m_table : Nat → Int32} {m_heard : Int32} {m_pressed : Int32} {m_silents : Int32} {m_items : Int32} {m_itemPitch : Nat → Int32} {m_itemStep : Nat → Int32} {m_ends : Nat → Int32} {m_noteOf : Nat → Int32} {m_cost : Int32} {m_extra : Int32} {m_slotOf : Nat → Int32} {m_sights : Int32} {m_sightCopy : Nat → Int32} {m_sightPitch : Nat → Int32} {m_isFaulty : Nat → Int32} {m_least : Int32} {m_greatest : Int32} {m_lines : Int32} {m_lineCopy : Nat → Int32} {m_lineDay : Nat → Int32} {m_linePlace : Nat → Int32} {m_lineTold : Nat → Int32} {m_now : Int32} (G : gG p s m args meth c cX7_note (some .int) 4 RX7 wsX7_note) (hK : va_K D vwCl (gT cI cZ cR) s) (hN : va_Nw gN s) (hA : ∀ q, s.heap.size ≤ q → A q) (m_rolls : Int32) (m_pitch : Nat → Int32) (m_first : Nat → Int32) (m_length : Nat → Int32) (v1 : Int32) (v2 : Int32) (v3 : Int32) (post : Int32 → Int32 → (Nat → Int32) → Int32 → Prop) (m_thrown : Int32) (m_order : Nat → Int32) (m_many : Int32) (h : wp_X7_note m_rolls m_pitch m_first m_length v1 v2 v3 m_thrown m_order m_many post) : ∀ (H : Heap) (locs : List Loc), va_P D vwCl (w_M cI cZ cR ad_m m_thrown m_rolls m_pitch m_first m_length m_marks m_markStep m_markTicks m_table m_order m_many m_heard m_pressed m_silents m_items m_itemPitch m_itemStep m_ends m_noteOf m_cost m_extra m_slotOf m_sights m_sightCopy m_sightPitch m_isFaulty m_least m_greatest m_lines m_lineCopy m_lineDay m_linePlace m_lineTold m_now) H → va_D A (w_M cI cZ cR ad_m m_thrown m_rolls m_pitch m_first m_length m_marks m_markStep m_markTicks m_table m_order m_many m_heard m_pressed m_silents m_items m_itemPitch m_itemStep m_ends m_noteOf m_cost m_extra m_slotOf m_sights m_sightCopy m_sightPitch m_isFaulty m_least m_greatest m_lines m_lineCopy m_lineDay m_linePlace m_lineTold m_now) → va_S A s.heap H locs → ∀ (ls : Array Slot), lv_has ls 4 [(0, .ref (ad_m 0)), (1, .int v1), (2, .int v2), (3, .int v3)] → W p l e { frames := 2, cells := 0, slots := 0, locals := 45 } s m args below meth c H locs 0 0 (MQ below (va_Qi (fun (r : Int32) (u : (Int32) × (Nat → Int32) × (Int32)) => post r u.1 u.2.1 u.2.2) (fun u t => gB D (gT cI cZ cR) A (w_M cI cZ cR ad_m u.1 m_rolls m_pitch m_first m_length m_marks m_markStep m_markTicks m_table u.2.1 u.2.2 m_heard m_pressed m_silents m_items m_itemPitch m_itemStep m_ends m_noteOf m_cost m_extra m_slotOf m_sights m_sightCopy m_sightPitch m_isFaulty m_least m_greatest m_lines m_lineCopy m_lineDay m_linePlace m_lineTold m_now) t) A) args s 0 0 A) (F0 m 0 ls []) := by
  obtain ⟨hx, hb, hr, hml, hown, hts, hlocks⟩ := id G
  intro H locs hP hD hS ls hl
  unfold wp_X7_note at h
  refine lv_aload_n hx hb dX7_note_0 rfl (lv_at hl 0 rfl) ?_
  refine lv_iconst (v := 0) hx hb dX7_note_1 (by decide) ?_
  refine va_put (D := D) (ci := 7) (v := .int 0) (ty := .int) (C := RX7) (T := TX7) (N := 34) hx hb hts us_X7_note_X7 tyX7 tyX7_ok nmX7 hown hK hP hD hS 0 rfl rfl 0 (by decide) (hts (.fieldLink RX7 71 "RollHouseModel" "thrown" "I") lk_X7_note_0) (fun _ h9 => h9) rfl (by decide +kernel) rfl rfl (Nat.le_of_ble_eq_true rfl) dX7_note_2 (fun H locs hP hD hS => ?_)
  have hP : va_P D vwCl (w_M cI cZ cR ad_m 0 m_rolls m_pitch m_first m_length m_marks m_markStep m_markTicks m_table m_order m_many m_heard m_pressed m_silents m_items m_itemPitch m_itemStep m_ends m_noteOf m_cost m_extra m_slotOf m_sights m_sightCopy m_sightPitch m_isFaulty m_least m_greatest m_lines m_lineCopy m_lineDay m_linePlace m_lineTold m_now) H := hP
  have hD : va_D A (w_M cI cZ cR ad_m 0 m_rolls m_pitch m_first m_length m_marks m_markStep m_markTicks m_table m_order m_many m_heard m_pressed m_silents m_items m_itemPitch m_itemStep m_ends m_noteOf m_cost m_extra m_slotOf m_sights m_sightCopy m_sightPitch m_isFaulty m_least m_greatest m_lines m_lineCopy m_lineDay m_linePlace m_lineTold m_now) := hD
  refine lv_aload_n hx hb dX7_note_5 rfl (lv_at hl 0 rfl) ?_
  refine lv_iload_n hx hb dX7_note_6 rfl (lv_at hl 1 rfl) ?_
  refine gl_calliF (va_runV (As := [.int v1]) (rest := []) ⟨hx, hb, hml, hown, hts⟩ (mt_X7_isRoll l D cI cZ cR ad_m H.size 0 m_rolls m_pitch m_first m_length m_marks m_markStep m_markTicks m_table m_order m_many m_heard m_pressed m_silents m_items m_itemPitch m_itemStep m_ends m_noteOf m_cost m_extra m_slotOf m_sights m_sightCopy m_sightPitch m_isFaulty m_least m_greatest m_lines m_lineCopy m_lineDay m_linePlace m_lineTold m_now v1 _ h) (cwV 1 hts gX7_note_X7_isRoll rfl rfl rfl (by decide +kernel) ⟨Nat.le_of_ble_eq_true rfl, Nat.le_of_ble_eq_true rfl⟩) ⟨gl_blind, va_recv hK hP (ci := 7) (q0 := 0) rfl rfl, gl_pre hP hK hN hD⟩ rfl rfl hl.1 rfl (lv_room (Nat.le_of_ble_eq_true rfl)) dX7_note_7 ⟨Nat.le_of_ble_eq_true rfl, Nat.le_of_ble_eq_true rfl⟩) hD hS hA (fun r1 u H locs h hP hD hS => ?_)
  try dsimp only at h
  refine lv_if_eq (tgt := 28) hx hb dX7_note_10 (by decide) (fun hc => ?_) (fun hc => ?_)
  · have h := h.1 hc
    refine lv_iconst (v := (-1)) hx hb dX7_note_28 (by decide) ?_
    exact gl_ireti G hK (u := (0, m_order, m_many)) hP hD hS h dX7_note_29
  · have h := h.2 hc
    refine lv_iload_n hx hb dX7_note_13 rfl (lv_at hl 2 rfl) ?_
    refine lv_iconst (v := 0) hx hb dX7_note_14 (by decide) ?_
    refine lv_aload_n hx hb dX7_note_15 rfl (lv_at hl 0 rfl) ?_
    refine lv_iload_n hx hb dX7_note_16 rfl (lv_at hl 1 rfl) ?_
    refine gl_calliF (va_runV (As := [.int v1]) (rest := [.int 0, .int v2]) ⟨hx, hb, hml, hown, hts⟩ (mt_X7_notes l D cI cZ cR ad_m H.size 0 m_rolls m_pitch m_first m_length m_marks m_markStep m_markTicks m_table m_order m_many m_heard m_pressed m_silents m_items m_itemPitch m_itemStep m_ends m_noteOf m_cost m_extra m_slotOf m_sights m_sightCopy m_sightPitch m_isFaulty m_least m_greatest m_lines m_lineCopy m_lineDay m_linePlace m_lineTold m_now v1 _ h) (cwV 1 hts gX7_note_X7_notes rfl rfl rfl (by decide +kernel) ⟨Nat.le_of_ble_eq_true rfl, Nat.le_of_ble_eq_true rfl⟩) ⟨gl_blind, va_recv hK hP (ci := 7) (q0 := 0) rfl rfl, gl_pre hP hK hN hD⟩ rfl rfl hl.1 rfl (lv_room (Nat.le_of_ble_eq_true rfl)) dX7_note_17 ⟨Nat.le_of_ble_eq_true rfl, Nat.le_of_ble_eq_true rfl⟩) hD hS hA (fun r2 u H locs h hP hD hS => ?_)
    try dsimp only at h
    refine lv_iconst (v := 1) hx hb dX7_note_20 (by decide) ?_
    refine lv_isub hx hb dX7_note_21 ?_
    refine gl_calliS (va_runS (As := [.int v2, .int 0, .int (r2 - 1)]) (rest := []) ⟨hx, hb, hml, hown, hts⟩ (mt_X7_within l D cI cZ cR  H.size v2 0 (r2 - 1) _ h) (va_cwS 3 hts gX7_note_X7_within rfl rfl rfl (by decide +kernel) ⟨Nat.le_of_ble_eq_true rfl, Nat.le_of_ble_eq_true rfl⟩) ⟨gl_blind, gl_pre gl_nilP hK hN (gl_nilD (A := A))⟩ rfl rfl hl.1 rfl (lv_room (Nat.le_of_ble_eq_true rfl)) dX7_note_22 ⟨Nat.le_of_ble_eq_true rfl, Nat.le_of_ble_eq_true rfl⟩) hP hS hA (fun r3 u H locs h hP hS => ?_)
    try dsimp only at h
    refine lv_if_ne (tgt := 30) hx hb dX7_note_25 (by decide) (fun hc => ?_) (fun hc => ?_)
    · have h := h.1 hc
      refine lv_aload_n hx hb dX7_note_30 rfl (lv_at hl 0 rfl) ?_
      refine lv_iload_n hx hb dX7_note_31 rfl (lv_at hl 1 rfl) ?_
      refine gl_callvF (va_runV (As := [.int v1]) (rest := []) ⟨hx, hb, hml, hown, hts⟩ (mt_X7_orders l D cI cZ cR ad_m H.size 0 m_rolls m_pitch m_first m_length m_marks m_markStep m_markTicks m_table m_order m_many m_heard m_pressed m_silents m_items m_itemPitch m_itemStep m_ends m_noteOf m_cost m_extra m_slotOf m_sights m_sightCopy m_sightPitch m_isFaulty m_least m_greatest m_lines m_lineCopy m_lineDay m_linePlace m_lineTold m_now v1 _ h) (cwV 1 hts gX7_note_X7_orders rfl rfl rfl (by decide +kernel) ⟨Nat.le_of_ble_eq_true rfl, Nat.le_of_ble_eq_true rfl⟩) ⟨gl_blind, va_recv hK hP (ci := 7) (q0 := 0) rfl rfl, gl_pre hP hK hN hD⟩ rfl rfl hl.1 rfl (lv_room (Nat.le_of_ble_eq_true rfl)) dX7_note_32 ⟨Nat.le_of_ble_eq_true rfl, Nat.le_of_ble_eq_true rfl⟩) hD hS hA (fun u H locs h hP hD hS => ?_)
      obtain ⟨a4, z5⟩ := u
      try dsimp only at h
      have hP : va_P D vwCl (w_M cI cZ cR ad_m 0 m_rolls m_pitch m_first m_length m_marks m_markStep m_markTicks m_table a4 z5 m_heard m_pressed m_silents m_items m_itemPitch m_itemStep m_ends m_noteOf m_cost m_extra m_slotOf m_sights m_sightCopy m_sightPitch m_isFaulty m_least m_greatest m_lines m_lineCopy m_lineDay m_linePlace m_lineTold m_now) H := hP
      have hD : va_D A (w_M cI cZ cR ad_m 0 m_rolls m_pitch m_first m_length m_marks m_markStep m_markTicks m_table a4 z5 m_heard m_pressed m_silents m_items m_itemPitch m_itemStep m_ends m_noteOf m_cost m_extra m_slotOf m_sights m_sightCopy m_sightPitch m_isFaulty m_least m_greatest m_lines m_lineCopy m_lineDay m_linePlace m_lineTold m_now) := hD
      refine lv_iload_n hx hb dX7_note_35 rfl (lv_at hl 3 rfl) ?_
      refine lv_if_ne (tgt := 53) hx hb dX7_note_36 (by decide) (fun hc => ?_) (fun hc => ?_)
      · have h := h.1 hc
        refine lv_iload_n hx hb dX7_note_53 rfl (lv_at hl 3 rfl) ?_
        refine lv_iconst (v := 1) hx hb dX7_note_54 (by decide) ?_
        refine lv_icmp_ne (tgt := 72) hx hb dX7_note_55 (by decide) (fun hc => ?_) (fun hc => ?_)
        · have h := h.1 hc
          refine lv_iload_n hx hb dX7_note_72 rfl (lv_at hl 3 rfl) ?_
          refine lv_iconst (v := 2) hx hb dX7_note_73 (by decide) ?_
          refine lv_icmp_ne (tgt := 91) hx hb dX7_note_74 (by decide) (fun hc => ?_) (fun hc => ?_)
          · have h := h.1 hc
            refine lv_iconst (v := (-1)) hx hb dX7_note_91 (by decide) ?_
            exact gl_ireti G hK (u := (0, a4, z5)) hP hD hS h dX7_note_92
          · have h := h.2 hc
            refine lv_aload_n hx hb dX7_note_77 rfl (lv_at hl 0 rfl) ?_
            refine va_get (D := D) (ci := 7) (v := .ref (ad_m 3)) (C := RX7) (T := TX7) (N := 34) hx hb hts us_X7_note_X7 hown hK hP 0 rfl rfl 4 (by decide) (hts (.fieldLink RX7 16 "RollHouseModel" "length" "[I") lk_X7_note_1) (fun _ h9 => h9) rfl dX7_note_78 ?_
            refine lv_aload_n hx hb dX7_note_81 rfl (lv_at hl 0 rfl) ?_
            refine va_get (D := D) (ci := 7) (v := .ref (ad_m 8)) (C := RX7) (T := TX7) (N := 34) hx hb hts us_X7_note_X7 hown hK hP 0 rfl rfl 9 (by decide) (hts (.fieldLink RX7 32 "RollHouseModel" "order" "[I") lk_X7_note_2) (fun _ h9 => h9) rfl dX7_note_82 ?_
            refine lv_iload_n hx hb dX7_note_85 rfl (lv_at hl 2 rfl) ?_
            obtain ⟨hin, h⟩ := h
            refine va_iald hx hb hK hP 8 0 rfl rfl hin dX7_note_86 ?_
            obtain ⟨hin, h⟩ := h
            refine va_iald hx hb hK hP 3 0 rfl rfl hin dX7_note_87 ?_
            refine lv_goto (tgt := 92) hx hb dX7_note_88 (by decide) ?_
            exact gl_ireti G hK (u := (0, a4, z5)) hP hD hS h dX7_note_92
        · have h := h.2 hc
          refine lv_aload_n hx hb dX7_note_58 rfl (lv_at hl 0 rfl) ?_
          refine va_get (D := D) (ci := 7) (v := .ref (ad_m 2)) (C := RX7) (T := TX7) (N := 34) hx hb hts us_X7_note_X7 hown hK hP 0 rfl rfl 3 (by decide) (hts (.fieldLink RX7 13 "RollHouseModel" "first" "[I") lk_X7_note_3) (fun _ h9 => h9) rfl dX7_note_59 ?_
          refine lv_aload_n hx hb dX7_note_62 rfl (lv_at hl 0 rfl) ?_
          refine va_get (D := D) (ci := 7) (v := .ref (ad_m 8)) (C := RX7) (T := TX7) (N := 34) hx hb hts us_X7_note_X7 hown hK hP 0 rfl rfl 9 (by decide) (hts (.fieldLink RX7 32 "RollHouseModel" "order" "[I") lk_X7_note_2) (fun _ h9 => h9) rfl dX7_note_63 ?_
          refine lv_iload_n hx hb dX7_note_66 rfl (lv_at hl 2 rfl) ?_
          obtain ⟨hin, h⟩ := h
          refine va_iald hx hb hK hP 8 0 rfl rfl hin dX7_note_67 ?_
          obtain ⟨hin, h⟩ := h
          refine va_iald hx hb hK hP 2 0 rfl rfl hin dX7_note_68 ?_
          refine lv_goto (tgt := 92) hx hb dX7_note_69 (by decide) ?_
          exact gl_ireti G hK (u := (0, a4, z5)) hP hD hS h dX7_note_92
      · have h := h.2 hc
        refine lv_aload_n hx hb dX7_note_39 rfl (lv_at hl 0 rfl) ?_
        refine va_get (D := D) (ci := 7) (v := .ref (ad_m 1)) (C := RX7) (T := TX7) (N := 34) hx hb hts us_X7_note_X7 hown hK hP 0 rfl rfl 2 (by decide) (hts (.fieldLink RX7 7 "RollHouseModel" "pitch" "[I") lk_X7_note_4) (fun _ h9 => h9) rfl dX7_note_40 ?_
        refine lv_aload_n hx hb dX7_note_43 rfl (lv_at hl 0 rfl) ?_
        refine va_get (D := D) (ci := 7) (v := .ref (ad_m 8)) (C := RX7) (T := TX7) (N := 34) hx hb hts us_X7_note_X7 hown hK hP 0 rfl rfl 9 (by decide) (hts (.fieldLink RX7 32 "RollHouseModel" "order" "[I") lk_X7_note_2) (fun _ h9 => h9) rfl dX7_note_44 ?_
        refine lv_iload_n hx hb dX7_note_47 rfl (lv_at hl 2 rfl) ?_
        obtain ⟨hin, h⟩ := h
        refine va_iald hx hb hK hP 8 0 rfl rfl hin dX7_note_48 ?_
        obtain ⟨hin, h⟩ := h
        refine va_iald hx hb hK hP 1 0 rfl rfl hin dX7_note_49 ?_
        refine lv_goto (tgt := 92) hx hb dX7_note_50 (by decide) ?_
        exact gl_ireti G hK (u := (0, a4, z5)) hP hD hS h dX7_note_92
    · have h := h.2 hc
      refine lv_iconst (v := (-1)) hx hb dX7_note_28 (by decide) ?_
      exact gl_ireti G hK (u := (0, m_order, m_many)) hP hD hS h dX7_note_29
set_option maxRecDepth 100000 in
theorem mt_X7_note (l : Launch) (D : va_G) (cI cZ cR : ClassId) (ad_m : Nat → Nat) (sz : Nat) (m_thrown : Int32) (m_rolls : Int32) (m_pitch : Nat → Int32) (m_first : Nat → Int32) (m_length : Nat → Int32) (m_marks : Nat → Int32) (m_markStep : Nat → Int32) (m_markTicks : Nat → Int32) (m_table : Nat → Int32) (m_order : Nat → Int32) (m_many : Int32) (m_heard : Int32) (m_pressed : Int32) (m_silents : Int32) (m_items : Int32) (m_itemPitch : Nat → Int32) (m_itemStep : Nat → Int32) (m_ends : Nat → Int32) (m_noteOf : Nat → Int32) (m_cost : Int32) (m_extra : Int32) (m_slotOf : Nat → Int32) (m_sights : Int32) (m_sightCopy : Nat → Int32) (m_sightPitch : Nat → Int32) (m_isFaulty : Nat → Int32) (m_least : Int32) (m_greatest : Int32) (m_lines : Int32) (m_lineCopy : Nat → Int32) (m_lineDay : Nat → Int32) (m_linePlace : Nat → Int32) (m_lineTold : Nat → Int32) (m_now : Int32) (v1 : Int32) (v2 : Int32) (v3 : Int32) (post : Int32 → Int32 → (Nat → Int32) → Int32 → Prop) (h : wp_X7_note m_rolls m_pitch m_first m_length v1 v2 v3 m_thrown m_order m_many post) : Met l yX7_note wsX7_note ({ frames := 2, cells := 0, slots := 0, locals := 45 }) (gPc D (gT cI cZ cR) (w_M cI cZ cR ad_m m_thrown m_rolls m_pitch m_first m_length m_marks m_markStep m_markTicks m_table m_order m_many m_heard m_pressed m_silents m_items m_itemPitch m_itemStep m_ends m_noteOf m_cost m_extra m_slotOf m_sights m_sightCopy m_sightPitch m_isFaulty m_least m_greatest m_lines m_lineCopy m_lineDay m_linePlace m_lineTold m_now) sz [.ref (ad_m 0), .int v1, .int v2, .int v3]) (va_Qi (fun (r : Int32) (u : (Int32) × (Nat → Int32) × (Int32)) => post r u.1 u.2.1 u.2.2) (fun u t => gB D (gT cI cZ cR) (va_A (w_M cI cZ cR ad_m m_thrown m_rolls m_pitch m_first m_length m_marks m_markStep m_markTicks m_table m_order m_many m_heard m_pressed m_silents m_items m_itemPitch m_itemStep m_ends m_noteOf m_cost m_extra m_slotOf m_sights m_sightCopy m_sightPitch m_isFaulty m_least m_greatest m_lines m_lineCopy m_lineDay m_linePlace m_lineTold m_now) sz) (w_M cI cZ cR ad_m u.1 m_rolls m_pitch m_first m_length m_marks m_markStep m_markTicks m_table u.2.1 u.2.2 m_heard m_pressed m_silents m_items m_itemPitch m_itemStep m_ends m_noteOf m_cost m_extra m_slotOf m_sights m_sightCopy m_sightPitch m_isFaulty m_least m_greatest m_lines m_lineCopy m_lineDay m_linePlace m_lineTold m_now) t) (va_A (w_M cI cZ cR ad_m m_thrown m_rolls m_pitch m_first m_length m_marks m_markStep m_markTicks m_table m_order m_many m_heard m_pressed m_silents m_items m_itemPitch m_itemStep m_ends m_noteOf m_cost m_extra m_slotOf m_sights m_sightCopy m_sightPitch m_isFaulty m_least m_greatest m_lines m_lineCopy m_lineDay m_linePlace m_lineTold m_now) sz)) 0 0 (va_A (w_M cI cZ cR ad_m m_thrown m_rolls m_pitch m_first m_length m_marks m_markStep m_markTicks m_table m_order m_many m_heard m_pressed m_silents m_items m_itemPitch m_itemStep m_ends m_noteOf m_cost m_extra m_slotOf m_sights m_sightCopy m_sightPitch m_isFaulty m_least m_greatest m_lines m_lineCopy m_lineDay m_linePlace m_lineTold m_now) sz) := by
  refine gl_entry (cc := cX7_note) (maxL := 4) (ret := (some .int)) (by decide) rfl (Nat.le_of_ble_eq_true rfl) ?_
  intro p e s m below meth c ls G hin hsz hK hN hP hD hl
  subst hsz
  exact ml_X7_note_0 G hK hN (fun q h => Or.inr h) m_rolls m_pitch m_first m_length v1 v2 v3 post m_thrown m_order m_many h s.heap [] hP hD va_S.rf ls hl
theorem lk_X7_tempo_0 : (Cond.fieldLink RX7 71 "RollHouseModel" "thrown" "I") ∈ wsX7_tempo := by decide +kernel
theorem lk_X7_tempo_1 : (Cond.fieldLink RX7 19 "RollHouseModel" "marks" "[I") ∈ wsX7_tempo := by decide +kernel
theorem lk_X7_tempo_2 : (Cond.fieldLink RX7 22 "RollHouseModel" "markStep" "[I") ∈ wsX7_tempo := by decide +kernel
theorem lk_X7_tempo_3 : (Cond.fieldLink RX7 25 "RollHouseModel" "markTicks" "[I") ∈ wsX7_tempo := by decide +kernel
theorem us_X7_tempo_X7 : ∀ w ∈ u_ws RX7 TX7 34, w ∈ wsX7_tempo := by decide +kernel
def wl_X7_tempo_114 (m_rolls : Int32) (v1 : Int32) (v2 : Int32) (v3 : Int32) (post : Int32 → Int32 → (Nat → Int32) → (Nat → Int32) → (Nat → Int32) → Prop) (v4 : Int32) (m_thrown : Int32) (m_marks : Nat → Int32) (m_markStep : Nat → Int32) (m_markTicks : Nat → Int32) : Prop := (vp_in v4 60 ∧ (∀ a7 : Nat → Int32, a7 = upd m_markStep v4.toNatClampNeg v2 → (vp_in v4 60 ∧ (∀ a8 : Nat → Int32, a8 = upd m_markTicks v4.toNatClampNeg v3 → (vp_in v1 6 ∧ post (m_marks v1.toNatClampNeg) m_thrown m_marks a7 a8)))))
def wl_X7_tempo_75 (m_rolls : Int32) (v1 : Int32) (v2 : Int32) (v3 : Int32) (post : Int32 → Int32 → (Nat → Int32) → (Nat → Int32) → (Nat → Int32) → Prop) (v4 : Int32) (m_thrown : Int32) (m_marks : Nat → Int32) (m_markStep : Nat → Int32) (m_markTicks : Nat → Int32) : Prop := (vp_in v1 6 ∧ ((¬ v4 = ((10 * v1) + (m_marks v1.toNatClampNeg)) → wl_X7_tempo_114 m_rolls v1 v2 v3 post v4 m_thrown m_marks m_markStep m_markTicks) ∧ (v4 = ((10 * v1) + (m_marks v1.toNatClampNeg)) → (vp_in v1 6 ∧ ((¬ (m_marks v1.toNatClampNeg) = 10 → (vp_in v1 6 ∧ (∀ z5 : Int32, z5 = (m_marks v1.toNatClampNeg) + 1 → (vp_in v1 6 ∧ (∀ a6 : Nat → Int32, a6 = upd m_marks v1.toNatClampNeg z5 → wl_X7_tempo_114 m_rolls v1 v2 v3 post v4 m_thrown a6 m_markStep m_markTicks))))) ∧ ((m_marks v1.toNatClampNeg) = 10 → post (-1) m_thrown m_marks m_markStep m_markTicks))))))
def wl_X7_tempo_42 (m_rolls : Int32) (v1 : Int32) (v2 : Int32) (v3 : Int32) (post : Int32 → Int32 → (Nat → Int32) → (Nat → Int32) → (Nat → Int32) → Prop) : Nat → (Int32) → (Int32) → (Nat → Int32) → (Nat → Int32) → (Nat → Int32) → Prop
  | 0, _, _, _, _, _ => False
  | fu + 1, v4, m_thrown, m_marks, m_markStep, m_markTicks => (vp_in v1 6 ∧ ((((10 * v1) + (m_marks v1.toNatClampNeg)) ≤ v4 → wl_X7_tempo_75 m_rolls v1 v2 v3 post v4 m_thrown m_marks m_markStep m_markTicks) ∧ (¬ ((10 * v1) + (m_marks v1.toNatClampNeg)) ≤ v4 → (vp_in v4 60 ∧ (((m_markStep v4.toNatClampNeg) = v2 → wl_X7_tempo_75 m_rolls v1 v2 v3 post v4 m_thrown m_marks m_markStep m_markTicks) ∧ (¬ (m_markStep v4.toNatClampNeg) = v2 → wl_X7_tempo_42 m_rolls v1 v2 v3 post fu (v4 + 1) m_thrown m_marks m_markStep m_markTicks))))))
def wp_X7_tempo (m_rolls : Int32) (v1 : Int32) (v2 : Int32) (v3 : Int32) (m_thrown : Int32) (m_marks : Nat → Int32) (m_markStep : Nat → Int32) (m_markTicks : Nat → Int32) (post : Int32 → Int32 → (Nat → Int32) → (Nat → Int32) → (Nat → Int32) → Prop) : Prop := (wp_X7_isRoll m_rolls v1 (fun (r1 : Int32) => ((r1 = 0 → post (-1) 0 m_marks m_markStep m_markTicks) ∧ (¬ r1 = 0 → (wp_X7_within v2 0 299 (fun (r2 : Int32) => ((r2 = 0 → post (-1) 0 m_marks m_markStep m_markTicks) ∧ (¬ r2 = 0 → (wp_X7_within v3 1 9 (fun (r3 : Int32) => ((¬ r3 = 0 → (∀ z4 : Int32, z4 = 10 * v1 → (∃ n, wl_X7_tempo_42 m_rolls v1 v2 v3 post n z4 0 m_marks m_markStep m_markTicks))) ∧ (r3 = 0 → post (-1) 0 m_marks m_markStep m_markTicks))))))))))))
set_option maxRecDepth 100000 in
set_option maxHeartbeats 4000000 in
theorem ml_X7_tempo_114 {p : Program} {l : Launch} {e : Env} {s : State} {m : MethodId} {args : Array Value} {below : List Frame} {meth : Method} {c : Code} {D : va_G} {cI cZ cR : ClassId} {A : Nat → Prop} {ad_m : Nat → Nat} {m_pitch : Nat → Int32} {m_first : Nat → Int32} {m_length : Nat → Int32} {m_table : Nat → Int32} {m_order : Nat → Int32} {m_many : Int32} {m_heard : Int32} {m_pressed : Int32} {m_silents : Int32} {m_items : Int32} {m_itemPitch : Nat → Int32} {m_itemStep : Nat → Int32} {m_ends : Nat → Int32} {m_noteOf : Nat → Int32} {m_cost : Int32} {m_extra : Int32} {m_slotOf : Nat → Int32} {m_sights : Int32} {m_sightCopy : Nat → Int32} {m_sightPitch : Nat → Int32} {m_isFaulty : Nat → Int32} {m_least : Int32} {m_greatest : Int32} {m_lines : Int32} {m_lineCopy : Nat → Int32} {m_lineDay : Nat → Int32} {m_linePlace : Nat → Int32} {m_lineTold : Nat → Int32} {m_now : Int32} (G : gG p s m args meth c cX7_tempo (some .int) 5 RX7 wsX7_tempo) (hK : va_K D vwCl (gT cI cZ cR) s) (hN : va_Nw gN s) (hA : ∀ q, s.heap.size ≤ q → A q) (m_rolls : Int32) (v1 : Int32) (v2 : Int32) (v3 : Int32) (post : Int32 → Int32 → (Nat → Int32) → (Nat → Int32) → (Nat → Int32) → Prop) (v4 : Int32) (m_thrown : Int32) (m_marks : Nat → Int32) (m_markStep : Nat → Int32) (m_markTicks : Nat → Int32) (h : wl_X7_tempo_114 m_rolls v1 v2 v3 post v4 m_thrown m_marks m_markStep m_markTicks) : ∀ (H : Heap) (locs : List Loc), va_P D vwCl (w_M cI cZ cR ad_m m_thrown m_rolls m_pitch m_first m_length m_marks m_markStep m_markTicks m_table m_order m_many m_heard m_pressed m_silents m_items m_itemPitch m_itemStep m_ends m_noteOf m_cost m_extra m_slotOf m_sights m_sightCopy m_sightPitch m_isFaulty m_least m_greatest m_lines m_lineCopy m_lineDay m_linePlace m_lineTold m_now) H → va_D A (w_M cI cZ cR ad_m m_thrown m_rolls m_pitch m_first m_length m_marks m_markStep m_markTicks m_table m_order m_many m_heard m_pressed m_silents m_items m_itemPitch m_itemStep m_ends m_noteOf m_cost m_extra m_slotOf m_sights m_sightCopy m_sightPitch m_isFaulty m_least m_greatest m_lines m_lineCopy m_lineDay m_linePlace m_lineTold m_now) → va_S A s.heap H locs → ∀ (ls : Array Slot), lv_has ls 5 [(0, .ref (ad_m 0)), (1, .int v1), (2, .int v2), (3, .int v3), (4, .int v4)] → W p l e { frames := 2, cells := 0, slots := 0, locals := 43 } s m args below meth c H locs 0 0 (MQ below (va_Qi (fun (r : Int32) (u : (Int32) × (Nat → Int32) × (Nat → Int32) × (Nat → Int32)) => post r u.1 u.2.1 u.2.2.1 u.2.2.2) (fun u t => gB D (gT cI cZ cR) A (w_M cI cZ cR ad_m u.1 m_rolls m_pitch m_first m_length u.2.1 u.2.2.1 u.2.2.2 m_table m_order m_many m_heard m_pressed m_silents m_items m_itemPitch m_itemStep m_ends m_noteOf m_cost m_extra m_slotOf m_sights m_sightCopy m_sightPitch m_isFaulty m_least m_greatest m_lines m_lineCopy m_lineDay m_linePlace m_lineTold m_now) t) A) args s 0 0 A) (F0 m 114 ls []) := by
  obtain ⟨hx, hb, hr, hml, hown, hts, hlocks⟩ := id G
  intro H locs hP hD hS ls hl
  unfold wl_X7_tempo_114 at h
  refine lv_aload_n hx hb dX7_tempo_114 rfl (lv_at hl 0 rfl) ?_
  refine va_get (D := D) (ci := 7) (v := .ref (ad_m 5)) (C := RX7) (T := TX7) (N := 34) hx hb hts us_X7_tempo_X7 hown hK hP 0 rfl rfl 6 (by decide) (hts (.fieldLink RX7 22 "RollHouseModel" "markStep" "[I") lk_X7_tempo_2) (fun _ h9 => h9) rfl dX7_tempo_115 ?_
  refine lv_iload hx hb dX7_tempo_118 (lv_at hl 4 rfl) ?_
  refine lv_iload_n hx hb dX7_tempo_120 rfl (lv_at hl 2 rfl) ?_
  obtain ⟨hin, h⟩ := h
  refine va_iast hx hb hK hP hD hS 5 0 rfl rfl hin dX7_tempo_121 (fun H locs hP hD hS => ?_)
  obtain ⟨a7, ea7⟩ : ∃ f, f = upd m_markStep v4.toNatClampNeg v2 := ⟨_, rfl⟩
  have h := h a7 ea7
  rw [← ea7] at hP hD
  have hP : va_P D vwCl (w_M cI cZ cR ad_m m_thrown m_rolls m_pitch m_first m_length m_marks a7 m_markTicks m_table m_order m_many m_heard m_pressed m_silents m_items m_itemPitch m_itemStep m_ends m_noteOf m_cost m_extra m_slotOf m_sights m_sightCopy m_sightPitch m_isFaulty m_least m_greatest m_lines m_lineCopy m_lineDay m_linePlace m_lineTold m_now) H := hP
  have hD : va_D A (w_M cI cZ cR ad_m m_thrown m_rolls m_pitch m_first m_length m_marks a7 m_markTicks m_table m_order m_many m_heard m_pressed m_silents m_items m_itemPitch m_itemStep m_ends m_noteOf m_cost m_extra m_slotOf m_sights m_sightCopy m_sightPitch m_isFaulty m_least m_greatest m_lines m_lineCopy m_lineDay m_linePlace m_lineTold m_now) := hD
  refine lv_aload_n hx hb dX7_tempo_122 rfl (lv_at hl 0 rfl) ?_
  refine va_get (D := D) (ci := 7) (v := .ref (ad_m 6)) (C := RX7) (T := TX7) (N := 34) hx hb hts us_X7_tempo_X7 hown hK hP 0 rfl rfl 7 (by decide) (hts (.fieldLink RX7 25 "RollHouseModel" "markTicks" "[I") lk_X7_tempo_3) (fun _ h9 => h9) rfl dX7_tempo_123 ?_
  refine lv_iload hx hb dX7_tempo_126 (lv_at hl 4 rfl) ?_
  refine lv_iload_n hx hb dX7_tempo_128 rfl (lv_at hl 3 rfl) ?_
  obtain ⟨hin, h⟩ := h
  refine va_iast hx hb hK hP hD hS 6 0 rfl rfl hin dX7_tempo_129 (fun H locs hP hD hS => ?_)
  obtain ⟨a8, ea8⟩ : ∃ f, f = upd m_markTicks v4.toNatClampNeg v3 := ⟨_, rfl⟩
  have h := h a8 ea8
  rw [← ea8] at hP hD
  have hP : va_P D vwCl (w_M cI cZ cR ad_m m_thrown m_rolls m_pitch m_first m_length m_marks a7 a8 m_table m_order m_many m_heard m_pressed m_silents m_items m_itemPitch m_itemStep m_ends m_noteOf m_cost m_extra m_slotOf m_sights m_sightCopy m_sightPitch m_isFaulty m_least m_greatest m_lines m_lineCopy m_lineDay m_linePlace m_lineTold m_now) H := hP
  have hD : va_D A (w_M cI cZ cR ad_m m_thrown m_rolls m_pitch m_first m_length m_marks a7 a8 m_table m_order m_many m_heard m_pressed m_silents m_items m_itemPitch m_itemStep m_ends m_noteOf m_cost m_extra m_slotOf m_sights m_sightCopy m_sightPitch m_isFaulty m_least m_greatest m_lines m_lineCopy m_lineDay m_linePlace m_lineTold m_now) := hD
  refine lv_aload_n hx hb dX7_tempo_130 rfl (lv_at hl 0 rfl) ?_
  refine va_get (D := D) (ci := 7) (v := .ref (ad_m 4)) (C := RX7) (T := TX7) (N := 34) hx hb hts us_X7_tempo_X7 hown hK hP 0 rfl rfl 5 (by decide) (hts (.fieldLink RX7 19 "RollHouseModel" "marks" "[I") lk_X7_tempo_1) (fun _ h9 => h9) rfl dX7_tempo_131 ?_
  refine lv_iload_n hx hb dX7_tempo_134 rfl (lv_at hl 1 rfl) ?_
  obtain ⟨hin, h⟩ := h
  refine va_iald hx hb hK hP 4 0 rfl rfl hin dX7_tempo_135 ?_
  exact gl_ireti G hK (u := (m_thrown, m_marks, a7, a8)) hP hD hS h dX7_tempo_136
set_option maxRecDepth 100000 in
set_option maxHeartbeats 4000000 in
theorem ml_X7_tempo_75 {p : Program} {l : Launch} {e : Env} {s : State} {m : MethodId} {args : Array Value} {below : List Frame} {meth : Method} {c : Code} {D : va_G} {cI cZ cR : ClassId} {A : Nat → Prop} {ad_m : Nat → Nat} {m_pitch : Nat → Int32} {m_first : Nat → Int32} {m_length : Nat → Int32} {m_table : Nat → Int32} {m_order : Nat → Int32} {m_many : Int32} {m_heard : Int32} {m_pressed : Int32} {m_silents : Int32} {m_items : Int32} {m_itemPitch : Nat → Int32} {m_itemStep : Nat → Int32} {m_ends : Nat → Int32} {m_noteOf : Nat → Int32} {m_cost : Int32} {m_extra : Int32} {m_slotOf : Nat → Int32} {m_sights : Int32} {m_sightCopy : Nat → Int32} {m_sightPitch : Nat → Int32} {m_isFaulty : Nat → Int32} {m_least : Int32} {m_greatest : Int32} {m_lines : Int32} {m_lineCopy : Nat → Int32} {m_lineDay : Nat → Int32} {m_linePlace : Nat → Int32} {m_lineTold : Nat → Int32} {m_now : Int32} (G : gG p s m args meth c cX7_tempo (some .int) 5 RX7 wsX7_tempo) (hK : va_K D vwCl (gT cI cZ cR) s) (hN : va_Nw gN s) (hA : ∀ q, s.heap.size ≤ q → A q) (m_rolls : Int32) (v1 : Int32) (v2 : Int32) (v3 : Int32) (post : Int32 → Int32 → (Nat → Int32) → (Nat → Int32) → (Nat → Int32) → Prop) (v4 : Int32) (m_thrown : Int32) (m_marks : Nat → Int32) (m_markStep : Nat → Int32) (m_markTicks : Nat → Int32) (h : wl_X7_tempo_75 m_rolls v1 v2 v3 post v4 m_thrown m_marks m_markStep m_markTicks) : ∀ (H : Heap) (locs : List Loc), va_P D vwCl (w_M cI cZ cR ad_m m_thrown m_rolls m_pitch m_first m_length m_marks m_markStep m_markTicks m_table m_order m_many m_heard m_pressed m_silents m_items m_itemPitch m_itemStep m_ends m_noteOf m_cost m_extra m_slotOf m_sights m_sightCopy m_sightPitch m_isFaulty m_least m_greatest m_lines m_lineCopy m_lineDay m_linePlace m_lineTold m_now) H → va_D A (w_M cI cZ cR ad_m m_thrown m_rolls m_pitch m_first m_length m_marks m_markStep m_markTicks m_table m_order m_many m_heard m_pressed m_silents m_items m_itemPitch m_itemStep m_ends m_noteOf m_cost m_extra m_slotOf m_sights m_sightCopy m_sightPitch m_isFaulty m_least m_greatest m_lines m_lineCopy m_lineDay m_linePlace m_lineTold m_now) → va_S A s.heap H locs → ∀ (ls : Array Slot), lv_has ls 5 [(0, .ref (ad_m 0)), (1, .int v1), (2, .int v2), (3, .int v3), (4, .int v4)] → W p l e { frames := 2, cells := 0, slots := 0, locals := 43 } s m args below meth c H locs 0 0 (MQ below (va_Qi (fun (r : Int32) (u : (Int32) × (Nat → Int32) × (Nat → Int32) × (Nat → Int32)) => post r u.1 u.2.1 u.2.2.1 u.2.2.2) (fun u t => gB D (gT cI cZ cR) A (w_M cI cZ cR ad_m u.1 m_rolls m_pitch m_first m_length u.2.1 u.2.2.1 u.2.2.2 m_table m_order m_many m_heard m_pressed m_silents m_items m_itemPitch m_itemStep m_ends m_noteOf m_cost m_extra m_slotOf m_sights m_sightCopy m_sightPitch m_isFaulty m_least m_greatest m_lines m_lineCopy m_lineDay m_linePlace m_lineTold m_now) t) A) args s 0 0 A) (F0 m 75 ls []) := by
  obtain ⟨hx, hb, hr, hml, hown, hts, hlocks⟩ := id G
  intro H locs hP hD hS ls hl
  unfold wl_X7_tempo_75 at h
  refine lv_iload hx hb dX7_tempo_75 (lv_at hl 4 rfl) ?_
  refine lv_bipush (v := 10) hx hb dX7_tempo_77 (by decide) ?_
  refine lv_iload_n hx hb dX7_tempo_79 rfl (lv_at hl 1 rfl) ?_
  refine lv_imul hx hb dX7_tempo_80 ?_
  refine lv_aload_n hx hb dX7_tempo_81 rfl (lv_at hl 0 rfl) ?_
  refine va_get (D := D) (ci := 7) (v := .ref (ad_m 4)) (C := RX7) (T := TX7) (N := 34) hx hb hts us_X7_tempo_X7 hown hK hP 0 rfl rfl 5 (by decide) (hts (.fieldLink RX7 19 "RollHouseModel" "marks" "[I") lk_X7_tempo_1) (fun _ h9 => h9) rfl dX7_tempo_82 ?_
  refine lv_iload_n hx hb dX7_tempo_85 rfl (lv_at hl 1 rfl) ?_
  obtain ⟨hin, h⟩ := h
  refine va_iald hx hb hK hP 4 0 rfl rfl hin dX7_tempo_86 ?_
  refine lv_iadd hx hb dX7_tempo_87 ?_
  refine lv_icmp_ne (tgt := 114) hx hb dX7_tempo_88 (by decide) (fun hc => ?_) (fun hc => ?_)
  · have h := h.1 hc
    exact ml_X7_tempo_114 G hK hN hA m_rolls v1 v2 v3 post v4 m_thrown m_marks m_markStep m_markTicks h H locs hP hD hS ls (lv_sub hl [0, 1, 2, 3, 4] rfl)
  · have h := h.2 hc
    refine lv_aload_n hx hb dX7_tempo_91 rfl (lv_at hl 0 rfl) ?_
    refine va_get (D := D) (ci := 7) (v := .ref (ad_m 4)) (C := RX7) (T := TX7) (N := 34) hx hb hts us_X7_tempo_X7 hown hK hP 0 rfl rfl 5 (by decide) (hts (.fieldLink RX7 19 "RollHouseModel" "marks" "[I") lk_X7_tempo_1) (fun _ h9 => h9) rfl dX7_tempo_92 ?_
    refine lv_iload_n hx hb dX7_tempo_95 rfl (lv_at hl 1 rfl) ?_
    obtain ⟨hin, h⟩ := h
    refine va_iald hx hb hK hP 4 0 rfl rfl hin dX7_tempo_96 ?_
    refine lv_bipush (v := 10) hx hb dX7_tempo_97 (by decide) ?_
    refine lv_icmp_ne (tgt := 104) hx hb dX7_tempo_99 (by decide) (fun hc => ?_) (fun hc => ?_)
    · have h := h.1 hc
      refine lv_aload_n hx hb dX7_tempo_104 rfl (lv_at hl 0 rfl) ?_
      refine va_get (D := D) (ci := 7) (v := .ref (ad_m 4)) (C := RX7) (T := TX7) (N := 34) hx hb hts us_X7_tempo_X7 hown hK hP 0 rfl rfl 5 (by decide) (hts (.fieldLink RX7 19 "RollHouseModel" "marks" "[I") lk_X7_tempo_1) (fun _ h9 => h9) rfl dX7_tempo_105 ?_
      refine lv_iload_n hx hb dX7_tempo_108 rfl (lv_at hl 1 rfl) ?_
      refine lv_dup2_11 hx hb dX7_tempo_109 rfl rfl ?_
      obtain ⟨hin, h⟩ := h
      refine va_iald hx hb hK hP 4 0 rfl rfl hin dX7_tempo_110 ?_
      refine lv_iconst (v := 1) hx hb dX7_tempo_111 (by decide) ?_
      refine lv_iadd hx hb dX7_tempo_112 ?_
      refine lv_topi (fun z5 ez5 => ?_)
      have h := h z5 ez5
      obtain ⟨hin, h⟩ := h
      refine va_iast hx hb hK hP hD hS 4 0 rfl rfl hin dX7_tempo_113 (fun H locs hP hD hS => ?_)
      obtain ⟨a6, ea6⟩ : ∃ f, f = upd m_marks v1.toNatClampNeg z5 := ⟨_, rfl⟩
      have h := h a6 ea6
      rw [← ea6] at hP hD
      have hP : va_P D vwCl (w_M cI cZ cR ad_m m_thrown m_rolls m_pitch m_first m_length a6 m_markStep m_markTicks m_table m_order m_many m_heard m_pressed m_silents m_items m_itemPitch m_itemStep m_ends m_noteOf m_cost m_extra m_slotOf m_sights m_sightCopy m_sightPitch m_isFaulty m_least m_greatest m_lines m_lineCopy m_lineDay m_linePlace m_lineTold m_now) H := hP
      have hD : va_D A (w_M cI cZ cR ad_m m_thrown m_rolls m_pitch m_first m_length a6 m_markStep m_markTicks m_table m_order m_many m_heard m_pressed m_silents m_items m_itemPitch m_itemStep m_ends m_noteOf m_cost m_extra m_slotOf m_sights m_sightCopy m_sightPitch m_isFaulty m_least m_greatest m_lines m_lineCopy m_lineDay m_linePlace m_lineTold m_now) := hD
      exact ml_X7_tempo_114 G hK hN hA m_rolls v1 v2 v3 post v4 m_thrown a6 m_markStep m_markTicks h H locs hP hD hS ls (lv_sub hl [0, 1, 2, 3, 4] rfl)
    · have h := h.2 hc
      refine lv_iconst (v := (-1)) hx hb dX7_tempo_102 (by decide) ?_
      exact gl_ireti G hK (u := (m_thrown, m_marks, m_markStep, m_markTicks)) hP hD hS h dX7_tempo_103
set_option maxRecDepth 100000 in
set_option maxHeartbeats 4000000 in
theorem ml_X7_tempo_42 {p : Program} {l : Launch} {e : Env} {s : State} {m : MethodId} {args : Array Value} {below : List Frame} {meth : Method} {c : Code} {D : va_G} {cI cZ cR : ClassId} {A : Nat → Prop} {ad_m : Nat → Nat} {m_pitch : Nat → Int32} {m_first : Nat → Int32} {m_length : Nat → Int32} {m_table : Nat → Int32} {m_order : Nat → Int32} {m_many : Int32} {m_heard : Int32} {m_pressed : Int32} {m_silents : Int32} {m_items : Int32} {m_itemPitch : Nat → Int32} {m_itemStep : Nat → Int32} {m_ends : Nat → Int32} {m_noteOf : Nat → Int32} {m_cost : Int32} {m_extra : Int32} {m_slotOf : Nat → Int32} {m_sights : Int32} {m_sightCopy : Nat → Int32} {m_sightPitch : Nat → Int32} {m_isFaulty : Nat → Int32} {m_least : Int32} {m_greatest : Int32} {m_lines : Int32} {m_lineCopy : Nat → Int32} {m_lineDay : Nat → Int32} {m_linePlace : Nat → Int32} {m_lineTold : Nat → Int32} {m_now : Int32} (G : gG p s m args meth c cX7_tempo (some .int) 5 RX7 wsX7_tempo) (hK : va_K D vwCl (gT cI cZ cR) s) (hN : va_Nw gN s) (hA : ∀ q, s.heap.size ≤ q → A q) (m_rolls : Int32) (v1 : Int32) (v2 : Int32) (v3 : Int32) (post : Int32 → Int32 → (Nat → Int32) → (Nat → Int32) → (Nat → Int32) → Prop) : ∀ (fu : Nat) (v4 : Int32) (m_thrown : Int32) (m_marks : Nat → Int32) (m_markStep : Nat → Int32) (m_markTicks : Nat → Int32), wl_X7_tempo_42 m_rolls v1 v2 v3 post fu v4 m_thrown m_marks m_markStep m_markTicks → ∀ (H : Heap) (locs : List Loc), va_P D vwCl (w_M cI cZ cR ad_m m_thrown m_rolls m_pitch m_first m_length m_marks m_markStep m_markTicks m_table m_order m_many m_heard m_pressed m_silents m_items m_itemPitch m_itemStep m_ends m_noteOf m_cost m_extra m_slotOf m_sights m_sightCopy m_sightPitch m_isFaulty m_least m_greatest m_lines m_lineCopy m_lineDay m_linePlace m_lineTold m_now) H → va_D A (w_M cI cZ cR ad_m m_thrown m_rolls m_pitch m_first m_length m_marks m_markStep m_markTicks m_table m_order m_many m_heard m_pressed m_silents m_items m_itemPitch m_itemStep m_ends m_noteOf m_cost m_extra m_slotOf m_sights m_sightCopy m_sightPitch m_isFaulty m_least m_greatest m_lines m_lineCopy m_lineDay m_linePlace m_lineTold m_now) → va_S A s.heap H locs → ∀ (ls : Array Slot), lv_has ls 5 [(0, .ref (ad_m 0)), (1, .int v1), (2, .int v2), (3, .int v3), (4, .int v4)] → W p l e { frames := 2, cells := 0, slots := 0, locals := 43 } s m args below meth c H locs 0 0 (MQ below (va_Qi (fun (r : Int32) (u : (Int32) × (Nat → Int32) × (Nat → Int32) × (Nat → Int32)) => post r u.1 u.2.1 u.2.2.1 u.2.2.2) (fun u t => gB D (gT cI cZ cR) A (w_M cI cZ cR ad_m u.1 m_rolls m_pitch m_first m_length u.2.1 u.2.2.1 u.2.2.2 m_table m_order m_many m_heard m_pressed m_silents m_items m_itemPitch m_itemStep m_ends m_noteOf m_cost m_extra m_slotOf m_sights m_sightCopy m_sightPitch m_isFaulty m_least m_greatest m_lines m_lineCopy m_lineDay m_linePlace m_lineTold m_now) t) A) args s 0 0 A) (F0 m 42 ls []) := by
  obtain ⟨hx, hb, hr, hml, hown, hts, hlocks⟩ := id G
  intro fu
  induction fu with
  | zero =>
    intro v4 m_thrown m_marks m_markStep m_markTicks h
    exact h.elim
  | succ fu ih =>
    intro v4 m_thrown m_marks m_markStep m_markTicks h H locs hP hD hS ls hl
    rw [wl_X7_tempo_42] at h
    refine lv_iload hx hb dX7_tempo_42 (lv_at hl 4 rfl) ?_
    refine lv_bipush (v := 10) hx hb dX7_tempo_44 (by decide) ?_
    refine lv_iload_n hx hb dX7_tempo_46 rfl (lv_at hl 1 rfl) ?_
    refine lv_imul hx hb dX7_tempo_47 ?_
    refine lv_aload_n hx hb dX7_tempo_48 rfl (lv_at hl 0 rfl) ?_
    refine va_get (D := D) (ci := 7) (v := .ref (ad_m 4)) (C := RX7) (T := TX7) (N := 34) hx hb hts us_X7_tempo_X7 hown hK hP 0 rfl rfl 5 (by decide) (hts (.fieldLink RX7 19 "RollHouseModel" "marks" "[I") lk_X7_tempo_1) (fun _ h9 => h9) rfl dX7_tempo_49 ?_
    refine lv_iload_n hx hb dX7_tempo_52 rfl (lv_at hl 1 rfl) ?_
    obtain ⟨hin, h⟩ := h
    refine va_iald hx hb hK hP 4 0 rfl rfl hin dX7_tempo_53 ?_
    refine lv_iadd hx hb dX7_tempo_54 ?_
    refine lv_icmp_ge (tgt := 75) hx hb dX7_tempo_55 (by decide) (fun hc => ?_) (fun hc => ?_)
    · have h := h.1 hc
      exact ml_X7_tempo_75 G hK hN hA m_rolls v1 v2 v3 post v4 m_thrown m_marks m_markStep m_markTicks h H locs hP hD hS ls (lv_sub hl [0, 1, 2, 3, 4] rfl)
    · have h := h.2 hc
      refine lv_aload_n hx hb dX7_tempo_58 rfl (lv_at hl 0 rfl) ?_
      refine va_get (D := D) (ci := 7) (v := .ref (ad_m 5)) (C := RX7) (T := TX7) (N := 34) hx hb hts us_X7_tempo_X7 hown hK hP 0 rfl rfl 6 (by decide) (hts (.fieldLink RX7 22 "RollHouseModel" "markStep" "[I") lk_X7_tempo_2) (fun _ h9 => h9) rfl dX7_tempo_59 ?_
      refine lv_iload hx hb dX7_tempo_62 (lv_at hl 4 rfl) ?_
      obtain ⟨hin, h⟩ := h
      refine va_iald hx hb hK hP 5 0 rfl rfl hin dX7_tempo_64 ?_
      refine lv_iload_n hx hb dX7_tempo_65 rfl (lv_at hl 2 rfl) ?_
      refine lv_icmp_eq (tgt := 75) hx hb dX7_tempo_66 (by decide) (fun hc => ?_) (fun hc => ?_)
      · have h := h.1 hc
        exact ml_X7_tempo_75 G hK hN hA m_rolls v1 v2 v3 post v4 m_thrown m_marks m_markStep m_markTicks h H locs hP hD hS ls (lv_sub hl [0, 1, 2, 3, 4] rfl)
      · have h := h.2 hc
        refine lv_iinc (v := v4 + 1) (lv' := [(4, .int (v4 + 1)), (0, .ref (ad_m 0)), (1, .int v1), (2, .int v2), (3, .int v3)]) hx hb dX7_tempo_69 hl (k := 4) rfl rfl (by decide) rfl (fun ls hl => ?_)
        refine lv_goto (tgt := 42) hx hb dX7_tempo_72 (by decide) ?_
        exact ih (v4 + 1) m_thrown m_marks m_markStep m_markTicks h H locs hP hD hS ls (lv_sub hl [1, 2, 3, 4, 0] rfl)
set_option maxRecDepth 100000 in
set_option maxHeartbeats 4000000 in
theorem ml_X7_tempo_0 {p : Program} {l : Launch} {e : Env} {s : State} {m : MethodId} {args : Array Value} {below : List Frame} {meth : Method} {c : Code} {D : va_G} {cI cZ cR : ClassId} {A : Nat → Prop} {ad_m : Nat → Nat} {m_pitch : Nat → Int32} {m_first : Nat → Int32} {m_length : Nat → Int32} {m_table : Nat → Int32} {m_order : Nat → Int32} {m_many : Int32} {m_heard : Int32} {m_pressed : Int32} {m_silents : Int32} {m_items : Int32} {m_itemPitch : Nat → Int32} {m_itemStep : Nat → Int32} {m_ends : Nat → Int32} {m_noteOf : Nat → Int32} {m_cost : Int32} {m_extra : Int32} {m_slotOf : Nat → Int32} {m_sights : Int32} {m_sightCopy : Nat → Int32} {m_sightPitch : Nat → Int32} {m_isFaulty : Nat → Int32} {m_least : Int32} {m_greatest : Int32} {m_lines : Int32} {m_lineCopy : Nat → Int32} {m_lineDay : Nat → Int32} {m_linePlace : Nat → Int32} {m_lineTold : Nat → Int32} {m_now : Int32} (G : gG p s m args meth c cX7_tempo (some .int) 5 RX7 wsX7_tempo) (hK : va_K D vwCl (gT cI cZ cR) s) (hN : va_Nw gN s) (hA : ∀ q, s.heap.size ≤ q → A q) (m_rolls : Int32) (v1 : Int32) (v2 : Int32) (v3 : Int32) (post : Int32 → Int32 → (Nat → Int32) → (Nat → Int32) → (Nat → Int32) → Prop) (m_thrown : Int32) (m_marks : Nat → Int32) (m_markStep : Nat → Int32) (m_markTicks : Nat → Int32) (h : wp_X7_tempo m_rolls v1 v2 v3 m_thrown m_marks m_markStep m_markTicks post) : ∀ (H : Heap) (locs : List Loc), va_P D vwCl (w_M cI cZ cR ad_m m_thrown m_rolls m_pitch m_first m_length m_marks m_markStep m_markTicks m_table m_order m_many m_heard m_pressed m_silents m_items m_itemPitch m_itemStep m_ends m_noteOf m_cost m_extra m_slotOf m_sights m_sightCopy m_sightPitch m_isFaulty m_least m_greatest m_lines m_lineCopy m_lineDay m_linePlace m_lineTold m_now) H → va_D A (w_M cI cZ cR ad_m m_thrown m_rolls m_pitch m_first m_length m_marks m_markStep m_markTicks m_table m_order m_many m_heard m_pressed m_silents m_items m_itemPitch m_itemStep m_ends m_noteOf m_cost m_extra m_slotOf m_sights m_sightCopy m_sightPitch m_isFaulty m_least m_greatest m_lines m_lineCopy m_lineDay m_linePlace m_lineTold m_now) → va_S A s.heap H locs → ∀ (ls : Array Slot), lv_has ls 5 [(0, .ref (ad_m 0)), (1, .int v1), (2, .int v2), (3, .int v3)] → W p l e { frames := 2, cells := 0, slots := 0, locals := 43 } s m args below meth c H locs 0 0 (MQ below (va_Qi (fun (r : Int32) (u : (Int32) × (Nat → Int32) × (Nat → Int32) × (Nat → Int32)) => post r u.1 u.2.1 u.2.2.1 u.2.2.2) (fun u t => gB D (gT cI cZ cR) A (w_M cI cZ cR ad_m u.1 m_rolls m_pitch m_first m_length u.2.1 u.2.2.1 u.2.2.2 m_table m_order m_many m_heard m_pressed m_silents m_items m_itemPitch m_itemStep m_ends m_noteOf m_cost m_extra m_slotOf m_sights m_sightCopy m_sightPitch m_isFaulty m_least m_greatest m_lines m_lineCopy m_lineDay m_linePlace m_lineTold m_now) t) A) args s 0 0 A) (F0 m 0 ls []) := by
  obtain ⟨hx, hb, hr, hml, hown, hts, hlocks⟩ := id G
  intro H locs hP hD hS ls hl
  unfold wp_X7_tempo at h
  refine lv_aload_n hx hb dX7_tempo_0 rfl (lv_at hl 0 rfl) ?_
  refine lv_iconst (v := 0) hx hb dX7_tempo_1 (by decide) ?_
  refine va_put (D := D) (ci := 7) (v := .int 0) (ty := .int) (C := RX7) (T := TX7) (N := 34) hx hb hts us_X7_tempo_X7 tyX7 tyX7_ok nmX7 hown hK hP hD hS 0 rfl rfl 0 (by decide) (hts (.fieldLink RX7 71 "RollHouseModel" "thrown" "I") lk_X7_tempo_0) (fun _ h9 => h9) rfl (by decide +kernel) rfl rfl (Nat.le_of_ble_eq_true rfl) dX7_tempo_2 (fun H locs hP hD hS => ?_)
  have hP : va_P D vwCl (w_M cI cZ cR ad_m 0 m_rolls m_pitch m_first m_length m_marks m_markStep m_markTicks m_table m_order m_many m_heard m_pressed m_silents m_items m_itemPitch m_itemStep m_ends m_noteOf m_cost m_extra m_slotOf m_sights m_sightCopy m_sightPitch m_isFaulty m_least m_greatest m_lines m_lineCopy m_lineDay m_linePlace m_lineTold m_now) H := hP
  have hD : va_D A (w_M cI cZ cR ad_m 0 m_rolls m_pitch m_first m_length m_marks m_markStep m_markTicks m_table m_order m_many m_heard m_pressed m_silents m_items m_itemPitch m_itemStep m_ends m_noteOf m_cost m_extra m_slotOf m_sights m_sightCopy m_sightPitch m_isFaulty m_least m_greatest m_lines m_lineCopy m_lineDay m_linePlace m_lineTold m_now) := hD
  refine lv_aload_n hx hb dX7_tempo_5 rfl (lv_at hl 0 rfl) ?_
  refine lv_iload_n hx hb dX7_tempo_6 rfl (lv_at hl 1 rfl) ?_
  refine gl_calliF (va_runV (As := [.int v1]) (rest := []) ⟨hx, hb, hml, hown, hts⟩ (mt_X7_isRoll l D cI cZ cR ad_m H.size 0 m_rolls m_pitch m_first m_length m_marks m_markStep m_markTicks m_table m_order m_many m_heard m_pressed m_silents m_items m_itemPitch m_itemStep m_ends m_noteOf m_cost m_extra m_slotOf m_sights m_sightCopy m_sightPitch m_isFaulty m_least m_greatest m_lines m_lineCopy m_lineDay m_linePlace m_lineTold m_now v1 _ h) (cwV 1 hts gX7_tempo_X7_isRoll rfl rfl rfl (by decide +kernel) ⟨Nat.le_of_ble_eq_true rfl, Nat.le_of_ble_eq_true rfl⟩) ⟨gl_blind, va_recv hK hP (ci := 7) (q0 := 0) rfl rfl, gl_pre hP hK hN hD⟩ rfl rfl hl.1 rfl (lv_room (Nat.le_of_ble_eq_true rfl)) dX7_tempo_7 ⟨Nat.le_of_ble_eq_true rfl, Nat.le_of_ble_eq_true rfl⟩) hD hS hA (fun r1 u H locs h hP hD hS => ?_)
  try dsimp only at h
  refine lv_if_eq (tgt := 34) hx hb dX7_tempo_10 (by decide) (fun hc => ?_) (fun hc => ?_)
  · have h := h.1 hc
    refine lv_iconst (v := (-1)) hx hb dX7_tempo_34 (by decide) ?_
    exact gl_ireti G hK (u := (0, m_marks, m_markStep, m_markTicks)) hP hD hS h dX7_tempo_35
  · have h := h.2 hc
    refine lv_iload_n hx hb dX7_tempo_13 rfl (lv_at hl 2 rfl) ?_
    refine lv_iconst (v := 0) hx hb dX7_tempo_14 (by decide) ?_
    refine lv_sipush (v := 299) hx hb dX7_tempo_15 (by decide) ?_
    refine gl_calliS (va_runS (As := [.int v2, .int 0, .int 299]) (rest := []) ⟨hx, hb, hml, hown, hts⟩ (mt_X7_within l D cI cZ cR  H.size v2 0 299 _ h) (va_cwS 3 hts gX7_tempo_X7_within rfl rfl rfl (by decide +kernel) ⟨Nat.le_of_ble_eq_true rfl, Nat.le_of_ble_eq_true rfl⟩) ⟨gl_blind, gl_pre gl_nilP hK hN (gl_nilD (A := A))⟩ rfl rfl hl.1 rfl (lv_room (Nat.le_of_ble_eq_true rfl)) dX7_tempo_18 ⟨Nat.le_of_ble_eq_true rfl, Nat.le_of_ble_eq_true rfl⟩) hP hS hA (fun r2 u H locs h hP hS => ?_)
    try dsimp only at h
    refine lv_if_eq (tgt := 34) hx hb dX7_tempo_21 (by decide) (fun hc => ?_) (fun hc => ?_)
    · have h := h.1 hc
      refine lv_iconst (v := (-1)) hx hb dX7_tempo_34 (by decide) ?_
      exact gl_ireti G hK (u := (0, m_marks, m_markStep, m_markTicks)) hP hD hS h dX7_tempo_35
    · have h := h.2 hc
      refine lv_iload_n hx hb dX7_tempo_24 rfl (lv_at hl 3 rfl) ?_
      refine lv_iconst (v := 1) hx hb dX7_tempo_25 (by decide) ?_
      refine lv_bipush (v := 9) hx hb dX7_tempo_26 (by decide) ?_
      refine gl_calliS (va_runS (As := [.int v3, .int 1, .int 9]) (rest := []) ⟨hx, hb, hml, hown, hts⟩ (mt_X7_within l D cI cZ cR  H.size v3 1 9 _ h) (va_cwS 3 hts gX7_tempo_X7_within rfl rfl rfl (by decide +kernel) ⟨Nat.le_of_ble_eq_true rfl, Nat.le_of_ble_eq_true rfl⟩) ⟨gl_blind, gl_pre gl_nilP hK hN (gl_nilD (A := A))⟩ rfl rfl hl.1 rfl (lv_room (Nat.le_of_ble_eq_true rfl)) dX7_tempo_28 ⟨Nat.le_of_ble_eq_true rfl, Nat.le_of_ble_eq_true rfl⟩) hP hS hA (fun r3 u H locs h hP hS => ?_)
      try dsimp only at h
      refine lv_if_ne (tgt := 36) hx hb dX7_tempo_31 (by decide) (fun hc => ?_) (fun hc => ?_)
      · have h := h.1 hc
        refine lv_bipush (v := 10) hx hb dX7_tempo_36 (by decide) ?_
        refine lv_iload_n hx hb dX7_tempo_38 rfl (lv_at hl 1 rfl) ?_
        refine lv_imul hx hb dX7_tempo_39 ?_
        refine lv_topi (fun z4 ez4 => ?_)
        have h := h z4 ez4
        refine lv_istore (lv' := [(4, .int z4), (0, .ref (ad_m 0)), (1, .int v1), (2, .int v2), (3, .int v3)]) hx hb dX7_tempo_40 hl (by decide) rfl (fun ls hl => ?_)
        obtain ⟨nf, h⟩ := h
        exact ml_X7_tempo_42 G hK hN hA m_rolls v1 v2 v3 post nf z4 0 m_marks m_markStep m_markTicks h H locs hP hD hS ls (lv_sub hl [1, 2, 3, 4, 0] rfl)
      · have h := h.2 hc
        refine lv_iconst (v := (-1)) hx hb dX7_tempo_34 (by decide) ?_
        exact gl_ireti G hK (u := (0, m_marks, m_markStep, m_markTicks)) hP hD hS h dX7_tempo_35
set_option maxRecDepth 100000 in
theorem mt_X7_tempo (l : Launch) (D : va_G) (cI cZ cR : ClassId) (ad_m : Nat → Nat) (sz : Nat) (m_thrown : Int32) (m_rolls : Int32) (m_pitch : Nat → Int32) (m_first : Nat → Int32) (m_length : Nat → Int32) (m_marks : Nat → Int32) (m_markStep : Nat → Int32) (m_markTicks : Nat → Int32) (m_table : Nat → Int32) (m_order : Nat → Int32) (m_many : Int32) (m_heard : Int32) (m_pressed : Int32) (m_silents : Int32) (m_items : Int32) (m_itemPitch : Nat → Int32) (m_itemStep : Nat → Int32) (m_ends : Nat → Int32) (m_noteOf : Nat → Int32) (m_cost : Int32) (m_extra : Int32) (m_slotOf : Nat → Int32) (m_sights : Int32) (m_sightCopy : Nat → Int32) (m_sightPitch : Nat → Int32) (m_isFaulty : Nat → Int32) (m_least : Int32) (m_greatest : Int32) (m_lines : Int32) (m_lineCopy : Nat → Int32) (m_lineDay : Nat → Int32) (m_linePlace : Nat → Int32) (m_lineTold : Nat → Int32) (m_now : Int32) (v1 : Int32) (v2 : Int32) (v3 : Int32) (post : Int32 → Int32 → (Nat → Int32) → (Nat → Int32) → (Nat → Int32) → Prop) (h : wp_X7_tempo m_rolls v1 v2 v3 m_thrown m_marks m_markStep m_markTicks post) : Met l yX7_tempo wsX7_tempo ({ frames := 2, cells := 0, slots := 0, locals := 43 }) (gPc D (gT cI cZ cR) (w_M cI cZ cR ad_m m_thrown m_rolls m_pitch m_first m_length m_marks m_markStep m_markTicks m_table m_order m_many m_heard m_pressed m_silents m_items m_itemPitch m_itemStep m_ends m_noteOf m_cost m_extra m_slotOf m_sights m_sightCopy m_sightPitch m_isFaulty m_least m_greatest m_lines m_lineCopy m_lineDay m_linePlace m_lineTold m_now) sz [.ref (ad_m 0), .int v1, .int v2, .int v3]) (va_Qi (fun (r : Int32) (u : (Int32) × (Nat → Int32) × (Nat → Int32) × (Nat → Int32)) => post r u.1 u.2.1 u.2.2.1 u.2.2.2) (fun u t => gB D (gT cI cZ cR) (va_A (w_M cI cZ cR ad_m m_thrown m_rolls m_pitch m_first m_length m_marks m_markStep m_markTicks m_table m_order m_many m_heard m_pressed m_silents m_items m_itemPitch m_itemStep m_ends m_noteOf m_cost m_extra m_slotOf m_sights m_sightCopy m_sightPitch m_isFaulty m_least m_greatest m_lines m_lineCopy m_lineDay m_linePlace m_lineTold m_now) sz) (w_M cI cZ cR ad_m u.1 m_rolls m_pitch m_first m_length u.2.1 u.2.2.1 u.2.2.2 m_table m_order m_many m_heard m_pressed m_silents m_items m_itemPitch m_itemStep m_ends m_noteOf m_cost m_extra m_slotOf m_sights m_sightCopy m_sightPitch m_isFaulty m_least m_greatest m_lines m_lineCopy m_lineDay m_linePlace m_lineTold m_now) t) (va_A (w_M cI cZ cR ad_m m_thrown m_rolls m_pitch m_first m_length m_marks m_markStep m_markTicks m_table m_order m_many m_heard m_pressed m_silents m_items m_itemPitch m_itemStep m_ends m_noteOf m_cost m_extra m_slotOf m_sights m_sightCopy m_sightPitch m_isFaulty m_least m_greatest m_lines m_lineCopy m_lineDay m_linePlace m_lineTold m_now) sz)) 0 0 (va_A (w_M cI cZ cR ad_m m_thrown m_rolls m_pitch m_first m_length m_marks m_markStep m_markTicks m_table m_order m_many m_heard m_pressed m_silents m_items m_itemPitch m_itemStep m_ends m_noteOf m_cost m_extra m_slotOf m_sights m_sightCopy m_sightPitch m_isFaulty m_least m_greatest m_lines m_lineCopy m_lineDay m_linePlace m_lineTold m_now) sz) := by
  refine gl_entry (cc := cX7_tempo) (maxL := 5) (ret := (some .int)) (by decide) rfl (Nat.le_of_ble_eq_true rfl) ?_
  intro p e s m below meth c ls G hin hsz hK hN hP hD hl
  subst hsz
  exact ml_X7_tempo_0 G hK hN (fun q h => Or.inr h) m_rolls v1 v2 v3 post m_thrown m_marks m_markStep m_markTicks h s.heap [] hP hD va_S.rf ls hl
theorem lk_X7_ticksOf_0 : (Cond.fieldLink RX7 19 "RollHouseModel" "marks" "[I") ∈ wsX7_ticksOf := by decide +kernel
theorem lk_X7_ticksOf_1 : (Cond.fieldLink RX7 25 "RollHouseModel" "markTicks" "[I") ∈ wsX7_ticksOf := by decide +kernel
theorem lk_X7_ticksOf_2 : (Cond.fieldLink RX7 22 "RollHouseModel" "markStep" "[I") ∈ wsX7_ticksOf := by decide +kernel
theorem us_X7_ticksOf_X7 : ∀ w ∈ u_ws RX7 TX7 34, w ∈ wsX7_ticksOf := by decide +kernel
def wl_X7_ticksOf_8 (m_marks : Nat → Int32) (m_markStep : Nat → Int32) (m_markTicks : Nat → Int32) (v1 : Int32) (v2 : Int32) (post : Int32 → Prop) : Nat → (Int32) → (Int32) → Prop
  | 0, _, _ => False
  | fu + 1, v3, v4 => (vp_in v1 6 ∧ ((((10 * v1) + (m_marks v1.toNatClampNeg)) ≤ v4 → ((¬ v3 = (-1) → (vp_in v3 60 ∧ post (m_markTicks v3.toNatClampNeg) )) ∧ (v3 = (-1) → post 2 ))) ∧ (¬ ((10 * v1) + (m_marks v1.toNatClampNeg)) ≤ v4 → (vp_in v4 60 ∧ ((v2 < (m_markStep v4.toNatClampNeg) → wl_X7_ticksOf_8 m_marks m_markStep m_markTicks v1 v2 post fu v3 (v4 + 1)) ∧ (¬ v2 < (m_markStep v4.toNatClampNeg) → ((v3 = (-1) → wl_X7_ticksOf_8 m_marks m_markStep m_markTicks v1 v2 post fu v4 (v4 + 1)) ∧ (¬ v3 = (-1) → (vp_in v4 60 ∧ (vp_in v3 60 ∧ (((m_markStep v4.toNatClampNeg) ≤ (m_markStep v3.toNatClampNeg) → wl_X7_ticksOf_8 m_marks m_markStep m_markTicks v1 v2 post fu v3 (v4 + 1)) ∧ (¬ (m_markStep v4.toNatClampNeg) ≤ (m_markStep v3.toNatClampNeg) → wl_X7_ticksOf_8 m_marks m_markStep m_markTicks v1 v2 post fu v4 (v4 + 1)))))))))))))
def wp_X7_ticksOf (m_marks : Nat → Int32) (m_markStep : Nat → Int32) (m_markTicks : Nat → Int32) (v1 : Int32) (v2 : Int32) (post : Int32 → Prop) : Prop := (∀ z1 : Int32, z1 = 10 * v1 → (∃ n, wl_X7_ticksOf_8 m_marks m_markStep m_markTicks v1 v2 post n (-1) z1))
set_option maxRecDepth 100000 in
set_option maxHeartbeats 4000000 in
theorem ml_X7_ticksOf_8 {p : Program} {l : Launch} {e : Env} {s : State} {m : MethodId} {args : Array Value} {below : List Frame} {meth : Method} {c : Code} {D : va_G} {cI cZ cR : ClassId} {A : Nat → Prop} {ad_m : Nat → Nat} {m_thrown : Int32} {m_rolls : Int32} {m_pitch : Nat → Int32} {m_first : Nat → Int32} {m_length : Nat → Int32} {m_table : Nat → Int32} {m_order : Nat → Int32} {m_many : Int32} {m_heard : Int32} {m_pressed : Int32} {m_silents : Int32} {m_items : Int32} {m_itemPitch : Nat → Int32} {m_itemStep : Nat → Int32} {m_ends : Nat → Int32} {m_noteOf : Nat → Int32} {m_cost : Int32} {m_extra : Int32} {m_slotOf : Nat → Int32} {m_sights : Int32} {m_sightCopy : Nat → Int32} {m_sightPitch : Nat → Int32} {m_isFaulty : Nat → Int32} {m_least : Int32} {m_greatest : Int32} {m_lines : Int32} {m_lineCopy : Nat → Int32} {m_lineDay : Nat → Int32} {m_linePlace : Nat → Int32} {m_lineTold : Nat → Int32} {m_now : Int32} (G : gG p s m args meth c cX7_ticksOf (some .int) 5 RX7 wsX7_ticksOf) (hK : va_K D vwCl (gT cI cZ cR) s) (hN : va_Nw gN s) (hA : ∀ q, s.heap.size ≤ q → A q) (m_marks : Nat → Int32) (m_markStep : Nat → Int32) (m_markTicks : Nat → Int32) (v1 : Int32) (v2 : Int32) (post : Int32 → Prop) : ∀ (fu : Nat) (v3 : Int32) (v4 : Int32), wl_X7_ticksOf_8 m_marks m_markStep m_markTicks v1 v2 post fu v3 v4 → ∀ (H : Heap) (locs : List Loc), va_P D vwCl (w_M cI cZ cR ad_m m_thrown m_rolls m_pitch m_first m_length m_marks m_markStep m_markTicks m_table m_order m_many m_heard m_pressed m_silents m_items m_itemPitch m_itemStep m_ends m_noteOf m_cost m_extra m_slotOf m_sights m_sightCopy m_sightPitch m_isFaulty m_least m_greatest m_lines m_lineCopy m_lineDay m_linePlace m_lineTold m_now) H → va_D A (w_M cI cZ cR ad_m m_thrown m_rolls m_pitch m_first m_length m_marks m_markStep m_markTicks m_table m_order m_many m_heard m_pressed m_silents m_items m_itemPitch m_itemStep m_ends m_noteOf m_cost m_extra m_slotOf m_sights m_sightCopy m_sightPitch m_isFaulty m_least m_greatest m_lines m_lineCopy m_lineDay m_linePlace m_lineTold m_now) → va_S A s.heap H locs → ∀ (ls : Array Slot), lv_has ls 5 [(0, .ref (ad_m 0)), (1, .int v1), (2, .int v2), (3, .int v3), (4, .int v4)] → W p l e { frames := 0, cells := 0, slots := 0, locals := 0 } s m args below meth c H locs 0 0 (MQ below (va_Qi (fun (r : Int32) (u : Unit) => post r ) (fun u t => gB D (gT cI cZ cR) A (w_M cI cZ cR ad_m m_thrown m_rolls m_pitch m_first m_length m_marks m_markStep m_markTicks m_table m_order m_many m_heard m_pressed m_silents m_items m_itemPitch m_itemStep m_ends m_noteOf m_cost m_extra m_slotOf m_sights m_sightCopy m_sightPitch m_isFaulty m_least m_greatest m_lines m_lineCopy m_lineDay m_linePlace m_lineTold m_now) t) A) args s 0 0 A) (F0 m 8 ls []) := by
  obtain ⟨hx, hb, hr, hml, hown, hts, hlocks⟩ := id G
  intro fu
  induction fu with
  | zero =>
    intro v3 v4 h
    exact h.elim
  | succ fu ih =>
    intro v3 v4 h H locs hP hD hS ls hl
    rw [wl_X7_ticksOf_8] at h
    refine lv_iload hx hb dX7_ticksOf_8 (lv_at hl 4 rfl) ?_
    refine lv_bipush (v := 10) hx hb dX7_ticksOf_10 (by decide) ?_
    refine lv_iload_n hx hb dX7_ticksOf_12 rfl (lv_at hl 1 rfl) ?_
    refine lv_imul hx hb dX7_ticksOf_13 ?_
    refine lv_aload_n hx hb dX7_ticksOf_14 rfl (lv_at hl 0 rfl) ?_
    refine va_get (D := D) (ci := 7) (v := .ref (ad_m 4)) (C := RX7) (T := TX7) (N := 34) hx hb hts us_X7_ticksOf_X7 hown hK hP 0 rfl rfl 5 (by decide) (hts (.fieldLink RX7 19 "RollHouseModel" "marks" "[I") lk_X7_ticksOf_0) (fun _ h9 => h9) rfl dX7_ticksOf_15 ?_
    refine lv_iload_n hx hb dX7_ticksOf_18 rfl (lv_at hl 1 rfl) ?_
    obtain ⟨hin, h⟩ := h
    refine va_iald hx hb hK hP 4 0 rfl rfl hin dX7_ticksOf_19 ?_
    refine lv_iadd hx hb dX7_ticksOf_20 ?_
    refine lv_icmp_ge (tgt := 65) hx hb dX7_ticksOf_21 (by decide) (fun hc => ?_) (fun hc => ?_)
    · have h := h.1 hc
      refine lv_iload_n hx hb dX7_ticksOf_65 rfl (lv_at hl 3 rfl) ?_
      refine lv_iconst (v := (-1)) hx hb dX7_ticksOf_66 (by decide) ?_
      refine lv_icmp_ne (tgt := 74) hx hb dX7_ticksOf_67 (by decide) (fun hc => ?_) (fun hc => ?_)
      · have h := h.1 hc
        refine lv_aload_n hx hb dX7_ticksOf_74 rfl (lv_at hl 0 rfl) ?_
        refine va_get (D := D) (ci := 7) (v := .ref (ad_m 6)) (C := RX7) (T := TX7) (N := 34) hx hb hts us_X7_ticksOf_X7 hown hK hP 0 rfl rfl 7 (by decide) (hts (.fieldLink RX7 25 "RollHouseModel" "markTicks" "[I") lk_X7_ticksOf_1) (fun _ h9 => h9) rfl dX7_ticksOf_75 ?_
        refine lv_iload_n hx hb dX7_ticksOf_78 rfl (lv_at hl 3 rfl) ?_
        obtain ⟨hin, h⟩ := h
        refine va_iald hx hb hK hP 6 0 rfl rfl hin dX7_ticksOf_79 ?_
        exact gl_ireti G hK (u := ()) hP hD hS h dX7_ticksOf_80
      · have h := h.2 hc
        refine lv_iconst (v := 2) hx hb dX7_ticksOf_70 (by decide) ?_
        refine lv_goto (tgt := 80) hx hb dX7_ticksOf_71 (by decide) ?_
        exact gl_ireti G hK (u := ()) hP hD hS h dX7_ticksOf_80
    · have h := h.2 hc
      refine lv_aload_n hx hb dX7_ticksOf_24 rfl (lv_at hl 0 rfl) ?_
      refine va_get (D := D) (ci := 7) (v := .ref (ad_m 5)) (C := RX7) (T := TX7) (N := 34) hx hb hts us_X7_ticksOf_X7 hown hK hP 0 rfl rfl 6 (by decide) (hts (.fieldLink RX7 22 "RollHouseModel" "markStep" "[I") lk_X7_ticksOf_2) (fun _ h9 => h9) rfl dX7_ticksOf_25 ?_
      refine lv_iload hx hb dX7_ticksOf_28 (lv_at hl 4 rfl) ?_
      obtain ⟨hin, h⟩ := h
      refine va_iald hx hb hK hP 5 0 rfl rfl hin dX7_ticksOf_30 ?_
      refine lv_iload_n hx hb dX7_ticksOf_31 rfl (lv_at hl 2 rfl) ?_
      refine lv_icmp_gt (tgt := 59) hx hb dX7_ticksOf_32 (by decide) (fun hc => ?_) (fun hc => ?_)
      · have h := h.1 hc
        refine lv_iinc (v := v4 + 1) (lv' := [(4, .int (v4 + 1)), (0, .ref (ad_m 0)), (1, .int v1), (2, .int v2), (3, .int v3)]) hx hb dX7_ticksOf_59 hl (k := 4) rfl rfl (by decide) rfl (fun ls hl => ?_)
        refine lv_goto (tgt := 8) hx hb dX7_ticksOf_62 (by decide) ?_
        exact ih v3 (v4 + 1) h H locs hP hD hS ls (lv_sub hl [1, 2, 3, 4, 0] rfl)
      · have h := h.2 hc
        refine lv_iload_n hx hb dX7_ticksOf_35 rfl (lv_at hl 3 rfl) ?_
        refine lv_iconst (v := (-1)) hx hb dX7_ticksOf_36 (by decide) ?_
        refine lv_icmp_eq (tgt := 56) hx hb dX7_ticksOf_37 (by decide) (fun hc => ?_) (fun hc => ?_)
        · have h := h.1 hc
          refine lv_iload hx hb dX7_ticksOf_56 (lv_at hl 4 rfl) ?_
          refine lv_istore_n (lv' := [(3, .int v4), (0, .ref (ad_m 0)), (1, .int v1), (2, .int v2), (4, .int v4)]) hx hb dX7_ticksOf_58 rfl hl (by decide) rfl (fun ls hl => ?_)
          refine lv_iinc (v := v4 + 1) (lv' := [(4, .int (v4 + 1)), (3, .int v4), (0, .ref (ad_m 0)), (1, .int v1), (2, .int v2)]) hx hb dX7_ticksOf_59 hl (k := 4) rfl rfl (by decide) rfl (fun ls hl => ?_)
          refine lv_goto (tgt := 8) hx hb dX7_ticksOf_62 (by decide) ?_
          exact ih v4 (v4 + 1) h H locs hP hD hS ls (lv_sub hl [2, 3, 4, 1, 0] rfl)
        · have h := h.2 hc
          refine lv_aload_n hx hb dX7_ticksOf_40 rfl (lv_at hl 0 rfl) ?_
          refine va_get (D := D) (ci := 7) (v := .ref (ad_m 5)) (C := RX7) (T := TX7) (N := 34) hx hb hts us_X7_ticksOf_X7 hown hK hP 0 rfl rfl 6 (by decide) (hts (.fieldLink RX7 22 "RollHouseModel" "markStep" "[I") lk_X7_ticksOf_2) (fun _ h9 => h9) rfl dX7_ticksOf_41 ?_
          refine lv_iload hx hb dX7_ticksOf_44 (lv_at hl 4 rfl) ?_
          obtain ⟨hin, h⟩ := h
          refine va_iald hx hb hK hP 5 0 rfl rfl hin dX7_ticksOf_46 ?_
          refine lv_aload_n hx hb dX7_ticksOf_47 rfl (lv_at hl 0 rfl) ?_
          refine va_get (D := D) (ci := 7) (v := .ref (ad_m 5)) (C := RX7) (T := TX7) (N := 34) hx hb hts us_X7_ticksOf_X7 hown hK hP 0 rfl rfl 6 (by decide) (hts (.fieldLink RX7 22 "RollHouseModel" "markStep" "[I") lk_X7_ticksOf_2) (fun _ h9 => h9) rfl dX7_ticksOf_48 ?_
          refine lv_iload_n hx hb dX7_ticksOf_51 rfl (lv_at hl 3 rfl) ?_
          obtain ⟨hin, h⟩ := h
          refine va_iald hx hb hK hP 5 0 rfl rfl hin dX7_ticksOf_52 ?_
          refine lv_icmp_le (tgt := 59) hx hb dX7_ticksOf_53 (by decide) (fun hc => ?_) (fun hc => ?_)
          · have h := h.1 hc
            refine lv_iinc (v := v4 + 1) (lv' := [(4, .int (v4 + 1)), (0, .ref (ad_m 0)), (1, .int v1), (2, .int v2), (3, .int v3)]) hx hb dX7_ticksOf_59 hl (k := 4) rfl rfl (by decide) rfl (fun ls hl => ?_)
            refine lv_goto (tgt := 8) hx hb dX7_ticksOf_62 (by decide) ?_
            exact ih v3 (v4 + 1) h H locs hP hD hS ls (lv_sub hl [1, 2, 3, 4, 0] rfl)
          · have h := h.2 hc
            refine lv_iload hx hb dX7_ticksOf_56 (lv_at hl 4 rfl) ?_
            refine lv_istore_n (lv' := [(3, .int v4), (0, .ref (ad_m 0)), (1, .int v1), (2, .int v2), (4, .int v4)]) hx hb dX7_ticksOf_58 rfl hl (by decide) rfl (fun ls hl => ?_)
            refine lv_iinc (v := v4 + 1) (lv' := [(4, .int (v4 + 1)), (3, .int v4), (0, .ref (ad_m 0)), (1, .int v1), (2, .int v2)]) hx hb dX7_ticksOf_59 hl (k := 4) rfl rfl (by decide) rfl (fun ls hl => ?_)
            refine lv_goto (tgt := 8) hx hb dX7_ticksOf_62 (by decide) ?_
            exact ih v4 (v4 + 1) h H locs hP hD hS ls (lv_sub hl [2, 3, 4, 1, 0] rfl)
set_option maxRecDepth 100000 in
set_option maxHeartbeats 4000000 in
theorem ml_X7_ticksOf_0 {p : Program} {l : Launch} {e : Env} {s : State} {m : MethodId} {args : Array Value} {below : List Frame} {meth : Method} {c : Code} {D : va_G} {cI cZ cR : ClassId} {A : Nat → Prop} {ad_m : Nat → Nat} {m_thrown : Int32} {m_rolls : Int32} {m_pitch : Nat → Int32} {m_first : Nat → Int32} {m_length : Nat → Int32} {m_table : Nat → Int32} {m_order : Nat → Int32} {m_many : Int32} {m_heard : Int32} {m_pressed : Int32} {m_silents : Int32} {m_items : Int32} {m_itemPitch : Nat → Int32} {m_itemStep : Nat → Int32} {m_ends : Nat → Int32} {m_noteOf : Nat → Int32} {m_cost : Int32} {m_extra : Int32} {m_slotOf : Nat → Int32} {m_sights : Int32} {m_sightCopy : Nat → Int32} {m_sightPitch : Nat → Int32} {m_isFaulty : Nat → Int32} {m_least : Int32} {m_greatest : Int32} {m_lines : Int32} {m_lineCopy : Nat → Int32} {m_lineDay : Nat → Int32} {m_linePlace : Nat → Int32} {m_lineTold : Nat → Int32} {m_now : Int32} (G : gG p s m args meth c cX7_ticksOf (some .int) 5 RX7 wsX7_ticksOf) (hK : va_K D vwCl (gT cI cZ cR) s) (hN : va_Nw gN s) (hA : ∀ q, s.heap.size ≤ q → A q) (m_marks : Nat → Int32) (m_markStep : Nat → Int32) (m_markTicks : Nat → Int32) (v1 : Int32) (v2 : Int32) (post : Int32 → Prop)  (h : wp_X7_ticksOf m_marks m_markStep m_markTicks v1 v2 post) : ∀ (H : Heap) (locs : List Loc), va_P D vwCl (w_M cI cZ cR ad_m m_thrown m_rolls m_pitch m_first m_length m_marks m_markStep m_markTicks m_table m_order m_many m_heard m_pressed m_silents m_items m_itemPitch m_itemStep m_ends m_noteOf m_cost m_extra m_slotOf m_sights m_sightCopy m_sightPitch m_isFaulty m_least m_greatest m_lines m_lineCopy m_lineDay m_linePlace m_lineTold m_now) H → va_D A (w_M cI cZ cR ad_m m_thrown m_rolls m_pitch m_first m_length m_marks m_markStep m_markTicks m_table m_order m_many m_heard m_pressed m_silents m_items m_itemPitch m_itemStep m_ends m_noteOf m_cost m_extra m_slotOf m_sights m_sightCopy m_sightPitch m_isFaulty m_least m_greatest m_lines m_lineCopy m_lineDay m_linePlace m_lineTold m_now) → va_S A s.heap H locs → ∀ (ls : Array Slot), lv_has ls 5 [(0, .ref (ad_m 0)), (1, .int v1), (2, .int v2)] → W p l e { frames := 0, cells := 0, slots := 0, locals := 0 } s m args below meth c H locs 0 0 (MQ below (va_Qi (fun (r : Int32) (u : Unit) => post r ) (fun u t => gB D (gT cI cZ cR) A (w_M cI cZ cR ad_m m_thrown m_rolls m_pitch m_first m_length m_marks m_markStep m_markTicks m_table m_order m_many m_heard m_pressed m_silents m_items m_itemPitch m_itemStep m_ends m_noteOf m_cost m_extra m_slotOf m_sights m_sightCopy m_sightPitch m_isFaulty m_least m_greatest m_lines m_lineCopy m_lineDay m_linePlace m_lineTold m_now) t) A) args s 0 0 A) (F0 m 0 ls []) := by
  obtain ⟨hx, hb, hr, hml, hown, hts, hlocks⟩ := id G
  intro H locs hP hD hS ls hl
  unfold wp_X7_ticksOf at h
  refine lv_iconst (v := (-1)) hx hb dX7_ticksOf_0 (by decide) ?_
  refine lv_istore_n (lv' := [(3, .int (-1)), (0, .ref (ad_m 0)), (1, .int v1), (2, .int v2)]) hx hb dX7_ticksOf_1 rfl hl (by decide) rfl (fun ls hl => ?_)
  refine lv_bipush (v := 10) hx hb dX7_ticksOf_2 (by decide) ?_
  refine lv_iload_n hx hb dX7_ticksOf_4 rfl (lv_at hl 2 rfl) ?_
  refine lv_imul hx hb dX7_ticksOf_5 ?_
  refine lv_topi (fun z1 ez1 => ?_)
  have h := h z1 ez1
  refine lv_istore (lv' := [(4, .int z1), (3, .int (-1)), (0, .ref (ad_m 0)), (1, .int v1), (2, .int v2)]) hx hb dX7_ticksOf_6 hl (by decide) rfl (fun ls hl => ?_)
  obtain ⟨nf, h⟩ := h
  exact ml_X7_ticksOf_8 G hK hN hA m_marks m_markStep m_markTicks v1 v2 post nf (-1) z1 h H locs hP hD hS ls (lv_sub hl [2, 3, 4, 1, 0] rfl)
set_option maxRecDepth 100000 in
theorem mt_X7_ticksOf (l : Launch) (D : va_G) (cI cZ cR : ClassId) (ad_m : Nat → Nat) (sz : Nat) (m_thrown : Int32) (m_rolls : Int32) (m_pitch : Nat → Int32) (m_first : Nat → Int32) (m_length : Nat → Int32) (m_marks : Nat → Int32) (m_markStep : Nat → Int32) (m_markTicks : Nat → Int32) (m_table : Nat → Int32) (m_order : Nat → Int32) (m_many : Int32) (m_heard : Int32) (m_pressed : Int32) (m_silents : Int32) (m_items : Int32) (m_itemPitch : Nat → Int32) (m_itemStep : Nat → Int32) (m_ends : Nat → Int32) (m_noteOf : Nat → Int32) (m_cost : Int32) (m_extra : Int32) (m_slotOf : Nat → Int32) (m_sights : Int32) (m_sightCopy : Nat → Int32) (m_sightPitch : Nat → Int32) (m_isFaulty : Nat → Int32) (m_least : Int32) (m_greatest : Int32) (m_lines : Int32) (m_lineCopy : Nat → Int32) (m_lineDay : Nat → Int32) (m_linePlace : Nat → Int32) (m_lineTold : Nat → Int32) (m_now : Int32) (v1 : Int32) (v2 : Int32) (post : Int32 → Prop) (h : wp_X7_ticksOf m_marks m_markStep m_markTicks v1 v2 post) : Met l yX7_ticksOf wsX7_ticksOf ({ frames := 0, cells := 0, slots := 0, locals := 0 }) (gPc D (gT cI cZ cR) (w_M cI cZ cR ad_m m_thrown m_rolls m_pitch m_first m_length m_marks m_markStep m_markTicks m_table m_order m_many m_heard m_pressed m_silents m_items m_itemPitch m_itemStep m_ends m_noteOf m_cost m_extra m_slotOf m_sights m_sightCopy m_sightPitch m_isFaulty m_least m_greatest m_lines m_lineCopy m_lineDay m_linePlace m_lineTold m_now) sz [.ref (ad_m 0), .int v1, .int v2]) (va_Qi (fun (r : Int32) (u : Unit) => post r ) (fun u t => gB D (gT cI cZ cR) (va_A (w_M cI cZ cR ad_m m_thrown m_rolls m_pitch m_first m_length m_marks m_markStep m_markTicks m_table m_order m_many m_heard m_pressed m_silents m_items m_itemPitch m_itemStep m_ends m_noteOf m_cost m_extra m_slotOf m_sights m_sightCopy m_sightPitch m_isFaulty m_least m_greatest m_lines m_lineCopy m_lineDay m_linePlace m_lineTold m_now) sz) (w_M cI cZ cR ad_m m_thrown m_rolls m_pitch m_first m_length m_marks m_markStep m_markTicks m_table m_order m_many m_heard m_pressed m_silents m_items m_itemPitch m_itemStep m_ends m_noteOf m_cost m_extra m_slotOf m_sights m_sightCopy m_sightPitch m_isFaulty m_least m_greatest m_lines m_lineCopy m_lineDay m_linePlace m_lineTold m_now) t) (va_A (w_M cI cZ cR ad_m m_thrown m_rolls m_pitch m_first m_length m_marks m_markStep m_markTicks m_table m_order m_many m_heard m_pressed m_silents m_items m_itemPitch m_itemStep m_ends m_noteOf m_cost m_extra m_slotOf m_sights m_sightCopy m_sightPitch m_isFaulty m_least m_greatest m_lines m_lineCopy m_lineDay m_linePlace m_lineTold m_now) sz)) 0 0 (va_A (w_M cI cZ cR ad_m m_thrown m_rolls m_pitch m_first m_length m_marks m_markStep m_markTicks m_table m_order m_many m_heard m_pressed m_silents m_items m_itemPitch m_itemStep m_ends m_noteOf m_cost m_extra m_slotOf m_sights m_sightCopy m_sightPitch m_isFaulty m_least m_greatest m_lines m_lineCopy m_lineDay m_linePlace m_lineTold m_now) sz) := by
  refine gl_entry (cc := cX7_ticksOf) (maxL := 5) (ret := (some .int)) (by decide) rfl (Nat.le_of_ble_eq_true rfl) ?_
  intro p e s m below meth c ls G hin hsz hK hN hP hD hl
  subst hsz
  exact ml_X7_ticksOf_0 G hK hN (fun q h => Or.inr h) m_marks m_markStep m_markTicks v1 v2 post h s.heap [] hP hD va_S.rf ls hl
def wl_X7_allTicks_4 (m_marks : Nat → Int32) (m_markStep : Nat → Int32) (m_markTicks : Nat → Int32) (v1 : Int32) (post : Int32 → Prop) : Nat → (Int32) → (Int32) → Prop
  | 0, _, _ => False
  | fu + 1, v2, v3 => ((300 ≤ v3 → post v2 ) ∧ (¬ 300 ≤ v3 → (wp_X7_ticksOf m_marks m_markStep m_markTicks v1 v3 (fun (r1 : Int32) => wl_X7_allTicks_4 m_marks m_markStep m_markTicks v1 post fu (v2 + r1) (v3 + 1)))))
def wp_X7_allTicks (m_marks : Nat → Int32) (m_markStep : Nat → Int32) (m_markTicks : Nat → Int32) (v1 : Int32) (post : Int32 → Prop) : Prop := (∃ n, wl_X7_allTicks_4 m_marks m_markStep m_markTicks v1 post n 0 0)
set_option maxRecDepth 100000 in
set_option maxHeartbeats 4000000 in
theorem ml_X7_allTicks_4 {p : Program} {l : Launch} {e : Env} {s : State} {m : MethodId} {args : Array Value} {below : List Frame} {meth : Method} {c : Code} {D : va_G} {cI cZ cR : ClassId} {A : Nat → Prop} {ad_m : Nat → Nat} {m_thrown : Int32} {m_rolls : Int32} {m_pitch : Nat → Int32} {m_first : Nat → Int32} {m_length : Nat → Int32} {m_table : Nat → Int32} {m_order : Nat → Int32} {m_many : Int32} {m_heard : Int32} {m_pressed : Int32} {m_silents : Int32} {m_items : Int32} {m_itemPitch : Nat → Int32} {m_itemStep : Nat → Int32} {m_ends : Nat → Int32} {m_noteOf : Nat → Int32} {m_cost : Int32} {m_extra : Int32} {m_slotOf : Nat → Int32} {m_sights : Int32} {m_sightCopy : Nat → Int32} {m_sightPitch : Nat → Int32} {m_isFaulty : Nat → Int32} {m_least : Int32} {m_greatest : Int32} {m_lines : Int32} {m_lineCopy : Nat → Int32} {m_lineDay : Nat → Int32} {m_linePlace : Nat → Int32} {m_lineTold : Nat → Int32} {m_now : Int32} (G : gG p s m args meth c cX7_allTicks (some .int) 4 RX7 wsX7_allTicks) (hK : va_K D vwCl (gT cI cZ cR) s) (hN : va_Nw gN s) (hA : ∀ q, s.heap.size ≤ q → A q) (m_marks : Nat → Int32) (m_markStep : Nat → Int32) (m_markTicks : Nat → Int32) (v1 : Int32) (post : Int32 → Prop) : ∀ (fu : Nat) (v2 : Int32) (v3 : Int32), wl_X7_allTicks_4 m_marks m_markStep m_markTicks v1 post fu v2 v3 → ∀ (H : Heap) (locs : List Loc), va_P D vwCl (w_M cI cZ cR ad_m m_thrown m_rolls m_pitch m_first m_length m_marks m_markStep m_markTicks m_table m_order m_many m_heard m_pressed m_silents m_items m_itemPitch m_itemStep m_ends m_noteOf m_cost m_extra m_slotOf m_sights m_sightCopy m_sightPitch m_isFaulty m_least m_greatest m_lines m_lineCopy m_lineDay m_linePlace m_lineTold m_now) H → va_D A (w_M cI cZ cR ad_m m_thrown m_rolls m_pitch m_first m_length m_marks m_markStep m_markTicks m_table m_order m_many m_heard m_pressed m_silents m_items m_itemPitch m_itemStep m_ends m_noteOf m_cost m_extra m_slotOf m_sights m_sightCopy m_sightPitch m_isFaulty m_least m_greatest m_lines m_lineCopy m_lineDay m_linePlace m_lineTold m_now) → va_S A s.heap H locs → ∀ (ls : Array Slot), lv_has ls 4 [(0, .ref (ad_m 0)), (1, .int v1), (2, .int v2), (3, .int v3)] → W p l e { frames := 1, cells := 0, slots := 0, locals := 24 } s m args below meth c H locs 0 0 (MQ below (va_Qi (fun (r : Int32) (u : Unit) => post r ) (fun u t => gB D (gT cI cZ cR) A (w_M cI cZ cR ad_m m_thrown m_rolls m_pitch m_first m_length m_marks m_markStep m_markTicks m_table m_order m_many m_heard m_pressed m_silents m_items m_itemPitch m_itemStep m_ends m_noteOf m_cost m_extra m_slotOf m_sights m_sightCopy m_sightPitch m_isFaulty m_least m_greatest m_lines m_lineCopy m_lineDay m_linePlace m_lineTold m_now) t) A) args s 0 0 A) (F0 m 4 ls []) := by
  obtain ⟨hx, hb, hr, hml, hown, hts, hlocks⟩ := id G
  intro fu
  induction fu with
  | zero =>
    intro v2 v3 h
    exact h.elim
  | succ fu ih =>
    intro v2 v3 h H locs hP hD hS ls hl
    rw [wl_X7_allTicks_4] at h
    refine lv_iload_n hx hb dX7_allTicks_4 rfl (lv_at hl 3 rfl) ?_
    refine lv_sipush (v := 300) hx hb dX7_allTicks_5 (by decide) ?_
    refine lv_icmp_ge (tgt := 26) hx hb dX7_allTicks_8 (by decide) (fun hc => ?_) (fun hc => ?_)
    · have h := h.1 hc
      refine lv_iload_n hx hb dX7_allTicks_26 rfl (lv_at hl 2 rfl) ?_
      exact gl_ireti G hK (u := ()) hP hD hS h dX7_allTicks_27
    · have h := h.2 hc
      refine lv_iload_n hx hb dX7_allTicks_11 rfl (lv_at hl 2 rfl) ?_
      refine lv_aload_n hx hb dX7_allTicks_12 rfl (lv_at hl 0 rfl) ?_
      refine lv_iload_n hx hb dX7_allTicks_13 rfl (lv_at hl 1 rfl) ?_
      refine lv_iload_n hx hb dX7_allTicks_14 rfl (lv_at hl 3 rfl) ?_
      refine gl_calliF (va_runV (As := [.int v1, .int v3]) (rest := [.int v2]) ⟨hx, hb, hml, hown, hts⟩ (mt_X7_ticksOf l D cI cZ cR ad_m H.size m_thrown m_rolls m_pitch m_first m_length m_marks m_markStep m_markTicks m_table m_order m_many m_heard m_pressed m_silents m_items m_itemPitch m_itemStep m_ends m_noteOf m_cost m_extra m_slotOf m_sights m_sightCopy m_sightPitch m_isFaulty m_least m_greatest m_lines m_lineCopy m_lineDay m_linePlace m_lineTold m_now v1 v3 _ h) (cwV 2 hts gX7_allTicks_X7_ticksOf rfl rfl rfl (by decide +kernel) ⟨Nat.le_of_ble_eq_true rfl, Nat.le_of_ble_eq_true rfl⟩) ⟨gl_blind, va_recv hK hP (ci := 7) (q0 := 0) rfl rfl, gl_pre hP hK hN hD⟩ rfl rfl hl.1 rfl (lv_room (Nat.le_of_ble_eq_true rfl)) dX7_allTicks_15 ⟨Nat.le_of_ble_eq_true rfl, Nat.le_of_ble_eq_true rfl⟩) hD hS hA (fun r1 u H locs h hP hD hS => ?_)
      try dsimp only at h
      refine lv_iadd hx hb dX7_allTicks_18 ?_
      refine lv_istore_n (lv' := [(2, .int (v2 + r1)), (0, .ref (ad_m 0)), (1, .int v1), (3, .int v3)]) hx hb dX7_allTicks_19 rfl hl (by decide) rfl (fun ls hl => ?_)
      refine lv_iinc (v := v3 + 1) (lv' := [(3, .int (v3 + 1)), (2, .int (v2 + r1)), (0, .ref (ad_m 0)), (1, .int v1)]) hx hb dX7_allTicks_20 hl (k := 3) rfl rfl (by decide) rfl (fun ls hl => ?_)
      refine lv_goto (tgt := 4) hx hb dX7_allTicks_23 (by decide) ?_
      exact ih (v2 + r1) (v3 + 1) h H locs hP hD hS ls (lv_sub hl [2, 3, 1, 0] rfl)
set_option maxRecDepth 100000 in
set_option maxHeartbeats 4000000 in
theorem ml_X7_allTicks_0 {p : Program} {l : Launch} {e : Env} {s : State} {m : MethodId} {args : Array Value} {below : List Frame} {meth : Method} {c : Code} {D : va_G} {cI cZ cR : ClassId} {A : Nat → Prop} {ad_m : Nat → Nat} {m_thrown : Int32} {m_rolls : Int32} {m_pitch : Nat → Int32} {m_first : Nat → Int32} {m_length : Nat → Int32} {m_table : Nat → Int32} {m_order : Nat → Int32} {m_many : Int32} {m_heard : Int32} {m_pressed : Int32} {m_silents : Int32} {m_items : Int32} {m_itemPitch : Nat → Int32} {m_itemStep : Nat → Int32} {m_ends : Nat → Int32} {m_noteOf : Nat → Int32} {m_cost : Int32} {m_extra : Int32} {m_slotOf : Nat → Int32} {m_sights : Int32} {m_sightCopy : Nat → Int32} {m_sightPitch : Nat → Int32} {m_isFaulty : Nat → Int32} {m_least : Int32} {m_greatest : Int32} {m_lines : Int32} {m_lineCopy : Nat → Int32} {m_lineDay : Nat → Int32} {m_linePlace : Nat → Int32} {m_lineTold : Nat → Int32} {m_now : Int32} (G : gG p s m args meth c cX7_allTicks (some .int) 4 RX7 wsX7_allTicks) (hK : va_K D vwCl (gT cI cZ cR) s) (hN : va_Nw gN s) (hA : ∀ q, s.heap.size ≤ q → A q) (m_marks : Nat → Int32) (m_markStep : Nat → Int32) (m_markTicks : Nat → Int32) (v1 : Int32) (post : Int32 → Prop)  (h : wp_X7_allTicks m_marks m_markStep m_markTicks v1 post) : ∀ (H : Heap) (locs : List Loc), va_P D vwCl (w_M cI cZ cR ad_m m_thrown m_rolls m_pitch m_first m_length m_marks m_markStep m_markTicks m_table m_order m_many m_heard m_pressed m_silents m_items m_itemPitch m_itemStep m_ends m_noteOf m_cost m_extra m_slotOf m_sights m_sightCopy m_sightPitch m_isFaulty m_least m_greatest m_lines m_lineCopy m_lineDay m_linePlace m_lineTold m_now) H → va_D A (w_M cI cZ cR ad_m m_thrown m_rolls m_pitch m_first m_length m_marks m_markStep m_markTicks m_table m_order m_many m_heard m_pressed m_silents m_items m_itemPitch m_itemStep m_ends m_noteOf m_cost m_extra m_slotOf m_sights m_sightCopy m_sightPitch m_isFaulty m_least m_greatest m_lines m_lineCopy m_lineDay m_linePlace m_lineTold m_now) → va_S A s.heap H locs → ∀ (ls : Array Slot), lv_has ls 4 [(0, .ref (ad_m 0)), (1, .int v1)] → W p l e { frames := 1, cells := 0, slots := 0, locals := 24 } s m args below meth c H locs 0 0 (MQ below (va_Qi (fun (r : Int32) (u : Unit) => post r ) (fun u t => gB D (gT cI cZ cR) A (w_M cI cZ cR ad_m m_thrown m_rolls m_pitch m_first m_length m_marks m_markStep m_markTicks m_table m_order m_many m_heard m_pressed m_silents m_items m_itemPitch m_itemStep m_ends m_noteOf m_cost m_extra m_slotOf m_sights m_sightCopy m_sightPitch m_isFaulty m_least m_greatest m_lines m_lineCopy m_lineDay m_linePlace m_lineTold m_now) t) A) args s 0 0 A) (F0 m 0 ls []) := by
  obtain ⟨hx, hb, hr, hml, hown, hts, hlocks⟩ := id G
  intro H locs hP hD hS ls hl
  unfold wp_X7_allTicks at h
  refine lv_iconst (v := 0) hx hb dX7_allTicks_0 (by decide) ?_
  refine lv_istore_n (lv' := [(2, .int 0), (0, .ref (ad_m 0)), (1, .int v1)]) hx hb dX7_allTicks_1 rfl hl (by decide) rfl (fun ls hl => ?_)
  refine lv_iconst (v := 0) hx hb dX7_allTicks_2 (by decide) ?_
  refine lv_istore_n (lv' := [(3, .int 0), (2, .int 0), (0, .ref (ad_m 0)), (1, .int v1)]) hx hb dX7_allTicks_3 rfl hl (by decide) rfl (fun ls hl => ?_)
  obtain ⟨nf, h⟩ := h
  exact ml_X7_allTicks_4 G hK hN hA m_marks m_markStep m_markTicks v1 post nf 0 0 h H locs hP hD hS ls (lv_sub hl [2, 3, 1, 0] rfl)
set_option maxRecDepth 100000 in
theorem mt_X7_allTicks (l : Launch) (D : va_G) (cI cZ cR : ClassId) (ad_m : Nat → Nat) (sz : Nat) (m_thrown : Int32) (m_rolls : Int32) (m_pitch : Nat → Int32) (m_first : Nat → Int32) (m_length : Nat → Int32) (m_marks : Nat → Int32) (m_markStep : Nat → Int32) (m_markTicks : Nat → Int32) (m_table : Nat → Int32) (m_order : Nat → Int32) (m_many : Int32) (m_heard : Int32) (m_pressed : Int32) (m_silents : Int32) (m_items : Int32) (m_itemPitch : Nat → Int32) (m_itemStep : Nat → Int32) (m_ends : Nat → Int32) (m_noteOf : Nat → Int32) (m_cost : Int32) (m_extra : Int32) (m_slotOf : Nat → Int32) (m_sights : Int32) (m_sightCopy : Nat → Int32) (m_sightPitch : Nat → Int32) (m_isFaulty : Nat → Int32) (m_least : Int32) (m_greatest : Int32) (m_lines : Int32) (m_lineCopy : Nat → Int32) (m_lineDay : Nat → Int32) (m_linePlace : Nat → Int32) (m_lineTold : Nat → Int32) (m_now : Int32) (v1 : Int32) (post : Int32 → Prop) (h : wp_X7_allTicks m_marks m_markStep m_markTicks v1 post) : Met l yX7_allTicks wsX7_allTicks ({ frames := 1, cells := 0, slots := 0, locals := 24 }) (gPc D (gT cI cZ cR) (w_M cI cZ cR ad_m m_thrown m_rolls m_pitch m_first m_length m_marks m_markStep m_markTicks m_table m_order m_many m_heard m_pressed m_silents m_items m_itemPitch m_itemStep m_ends m_noteOf m_cost m_extra m_slotOf m_sights m_sightCopy m_sightPitch m_isFaulty m_least m_greatest m_lines m_lineCopy m_lineDay m_linePlace m_lineTold m_now) sz [.ref (ad_m 0), .int v1]) (va_Qi (fun (r : Int32) (u : Unit) => post r ) (fun u t => gB D (gT cI cZ cR) (va_A (w_M cI cZ cR ad_m m_thrown m_rolls m_pitch m_first m_length m_marks m_markStep m_markTicks m_table m_order m_many m_heard m_pressed m_silents m_items m_itemPitch m_itemStep m_ends m_noteOf m_cost m_extra m_slotOf m_sights m_sightCopy m_sightPitch m_isFaulty m_least m_greatest m_lines m_lineCopy m_lineDay m_linePlace m_lineTold m_now) sz) (w_M cI cZ cR ad_m m_thrown m_rolls m_pitch m_first m_length m_marks m_markStep m_markTicks m_table m_order m_many m_heard m_pressed m_silents m_items m_itemPitch m_itemStep m_ends m_noteOf m_cost m_extra m_slotOf m_sights m_sightCopy m_sightPitch m_isFaulty m_least m_greatest m_lines m_lineCopy m_lineDay m_linePlace m_lineTold m_now) t) (va_A (w_M cI cZ cR ad_m m_thrown m_rolls m_pitch m_first m_length m_marks m_markStep m_markTicks m_table m_order m_many m_heard m_pressed m_silents m_items m_itemPitch m_itemStep m_ends m_noteOf m_cost m_extra m_slotOf m_sights m_sightCopy m_sightPitch m_isFaulty m_least m_greatest m_lines m_lineCopy m_lineDay m_linePlace m_lineTold m_now) sz)) 0 0 (va_A (w_M cI cZ cR ad_m m_thrown m_rolls m_pitch m_first m_length m_marks m_markStep m_markTicks m_table m_order m_many m_heard m_pressed m_silents m_items m_itemPitch m_itemStep m_ends m_noteOf m_cost m_extra m_slotOf m_sights m_sightCopy m_sightPitch m_isFaulty m_least m_greatest m_lines m_lineCopy m_lineDay m_linePlace m_lineTold m_now) sz) := by
  refine gl_entry (cc := cX7_allTicks) (maxL := 4) (ret := (some .int)) (by decide) rfl (Nat.le_of_ble_eq_true rfl) ?_
  intro p e s m below meth c ls G hin hsz hK hN hP hD hl
  subst hsz
  exact ml_X7_allTicks_0 G hK hN (fun q h => Or.inr h) m_marks m_markStep m_markTicks v1 post h s.heap [] hP hD va_S.rf ls hl
theorem lk_X7_ticks_0 : (Cond.fieldLink RX7 71 "RollHouseModel" "thrown" "I") ∈ wsX7_ticks := by decide +kernel
theorem us_X7_ticks_X7 : ∀ w ∈ u_ws RX7 TX7 34, w ∈ wsX7_ticks := by decide +kernel
def wp_X7_ticks (m_rolls : Int32) (m_marks : Nat → Int32) (m_markStep : Nat → Int32) (m_markTicks : Nat → Int32) (v1 : Int32) (m_thrown : Int32) (post : Int32 → Int32 → Prop) : Prop := (wp_X7_isRoll m_rolls v1 (fun (r1 : Int32) => ((r1 = 0 → post (-1) 0) ∧ (¬ r1 = 0 → (wp_X7_allTicks m_marks m_markStep m_markTicks v1 (fun (r2 : Int32) => post r2 0))))))
set_option maxRecDepth 100000 in
set_option maxHeartbeats 4000000 in
theorem ml_X7_ticks_0 {p : Program} {l : Launch} {e : Env} {s : State} {m : MethodId} {args : Array Value} {below : List Frame} {meth : Method} {c : Code} {D : va_G} {cI cZ cR : ClassId} {A : Nat → Prop} {ad_m : Nat → Nat} {m_pitch : Nat → Int32} {m_first : Nat → Int32} {m_length : Nat → Int32} {m_table : Nat → Int32} {m_order : Nat → Int32} {m_many : Int32} {m_heard : Int32} {m_pressed : Int32} {m_silents : Int32} {m_items : Int32} {m_itemPitch : Nat → Int32} {m_itemStep : Nat → Int32} {m_ends : Nat → Int32} {m_noteOf : Nat → Int32} {m_cost : Int32} {m_extra : Int32} {m_slotOf : Nat → Int32} {m_sights : Int32} {m_sightCopy : Nat → Int32} {m_sightPitch : Nat → Int32} {m_isFaulty : Nat → Int32} {m_least : Int32} {m_greatest : Int32} {m_lines : Int32} {m_lineCopy : Nat → Int32} {m_lineDay : Nat → Int32} {m_linePlace : Nat → Int32} {m_lineTold : Nat → Int32} {m_now : Int32} (G : gG p s m args meth c cX7_ticks (some .int) 2 RX7 wsX7_ticks) (hK : va_K D vwCl (gT cI cZ cR) s) (hN : va_Nw gN s) (hA : ∀ q, s.heap.size ≤ q → A q) (m_rolls : Int32) (m_marks : Nat → Int32) (m_markStep : Nat → Int32) (m_markTicks : Nat → Int32) (v1 : Int32) (post : Int32 → Int32 → Prop) (m_thrown : Int32) (h : wp_X7_ticks m_rolls m_marks m_markStep m_markTicks v1 m_thrown post) : ∀ (H : Heap) (locs : List Loc), va_P D vwCl (w_M cI cZ cR ad_m m_thrown m_rolls m_pitch m_first m_length m_marks m_markStep m_markTicks m_table m_order m_many m_heard m_pressed m_silents m_items m_itemPitch m_itemStep m_ends m_noteOf m_cost m_extra m_slotOf m_sights m_sightCopy m_sightPitch m_isFaulty m_least m_greatest m_lines m_lineCopy m_lineDay m_linePlace m_lineTold m_now) H → va_D A (w_M cI cZ cR ad_m m_thrown m_rolls m_pitch m_first m_length m_marks m_markStep m_markTicks m_table m_order m_many m_heard m_pressed m_silents m_items m_itemPitch m_itemStep m_ends m_noteOf m_cost m_extra m_slotOf m_sights m_sightCopy m_sightPitch m_isFaulty m_least m_greatest m_lines m_lineCopy m_lineDay m_linePlace m_lineTold m_now) → va_S A s.heap H locs → ∀ (ls : Array Slot), lv_has ls 2 [(0, .ref (ad_m 0)), (1, .int v1)] → W p l e { frames := 2, cells := 0, slots := 0, locals := 47 } s m args below meth c H locs 0 0 (MQ below (va_Qi (fun (r : Int32) (u : (Int32)) => post r u) (fun u t => gB D (gT cI cZ cR) A (w_M cI cZ cR ad_m u m_rolls m_pitch m_first m_length m_marks m_markStep m_markTicks m_table m_order m_many m_heard m_pressed m_silents m_items m_itemPitch m_itemStep m_ends m_noteOf m_cost m_extra m_slotOf m_sights m_sightCopy m_sightPitch m_isFaulty m_least m_greatest m_lines m_lineCopy m_lineDay m_linePlace m_lineTold m_now) t) A) args s 0 0 A) (F0 m 0 ls []) := by
  obtain ⟨hx, hb, hr, hml, hown, hts, hlocks⟩ := id G
  intro H locs hP hD hS ls hl
  unfold wp_X7_ticks at h
  refine lv_aload_n hx hb dX7_ticks_0 rfl (lv_at hl 0 rfl) ?_
  refine lv_iconst (v := 0) hx hb dX7_ticks_1 (by decide) ?_
  refine va_put (D := D) (ci := 7) (v := .int 0) (ty := .int) (C := RX7) (T := TX7) (N := 34) hx hb hts us_X7_ticks_X7 tyX7 tyX7_ok nmX7 hown hK hP hD hS 0 rfl rfl 0 (by decide) (hts (.fieldLink RX7 71 "RollHouseModel" "thrown" "I") lk_X7_ticks_0) (fun _ h9 => h9) rfl (by decide +kernel) rfl rfl (Nat.le_of_ble_eq_true rfl) dX7_ticks_2 (fun H locs hP hD hS => ?_)
  have hP : va_P D vwCl (w_M cI cZ cR ad_m 0 m_rolls m_pitch m_first m_length m_marks m_markStep m_markTicks m_table m_order m_many m_heard m_pressed m_silents m_items m_itemPitch m_itemStep m_ends m_noteOf m_cost m_extra m_slotOf m_sights m_sightCopy m_sightPitch m_isFaulty m_least m_greatest m_lines m_lineCopy m_lineDay m_linePlace m_lineTold m_now) H := hP
  have hD : va_D A (w_M cI cZ cR ad_m 0 m_rolls m_pitch m_first m_length m_marks m_markStep m_markTicks m_table m_order m_many m_heard m_pressed m_silents m_items m_itemPitch m_itemStep m_ends m_noteOf m_cost m_extra m_slotOf m_sights m_sightCopy m_sightPitch m_isFaulty m_least m_greatest m_lines m_lineCopy m_lineDay m_linePlace m_lineTold m_now) := hD
  refine lv_aload_n hx hb dX7_ticks_5 rfl (lv_at hl 0 rfl) ?_
  refine lv_iload_n hx hb dX7_ticks_6 rfl (lv_at hl 1 rfl) ?_
  refine gl_calliF (va_runV (As := [.int v1]) (rest := []) ⟨hx, hb, hml, hown, hts⟩ (mt_X7_isRoll l D cI cZ cR ad_m H.size 0 m_rolls m_pitch m_first m_length m_marks m_markStep m_markTicks m_table m_order m_many m_heard m_pressed m_silents m_items m_itemPitch m_itemStep m_ends m_noteOf m_cost m_extra m_slotOf m_sights m_sightCopy m_sightPitch m_isFaulty m_least m_greatest m_lines m_lineCopy m_lineDay m_linePlace m_lineTold m_now v1 _ h) (cwV 1 hts gX7_ticks_X7_isRoll rfl rfl rfl (by decide +kernel) ⟨Nat.le_of_ble_eq_true rfl, Nat.le_of_ble_eq_true rfl⟩) ⟨gl_blind, va_recv hK hP (ci := 7) (q0 := 0) rfl rfl, gl_pre hP hK hN hD⟩ rfl rfl hl.1 rfl (lv_room (Nat.le_of_ble_eq_true rfl)) dX7_ticks_7 ⟨Nat.le_of_ble_eq_true rfl, Nat.le_of_ble_eq_true rfl⟩) hD hS hA (fun r1 u H locs h hP hD hS => ?_)
  try dsimp only at h
  refine lv_if_eq (tgt := 21) hx hb dX7_ticks_10 (by decide) (fun hc => ?_) (fun hc => ?_)
  · have h := h.1 hc
    refine lv_iconst (v := (-1)) hx hb dX7_ticks_21 (by decide) ?_
    exact gl_ireti G hK (u := 0) hP hD hS h dX7_ticks_22
  · have h := h.2 hc
    refine lv_aload_n hx hb dX7_ticks_13 rfl (lv_at hl 0 rfl) ?_
    refine lv_iload_n hx hb dX7_ticks_14 rfl (lv_at hl 1 rfl) ?_
    refine gl_calliF (va_runV (As := [.int v1]) (rest := []) ⟨hx, hb, hml, hown, hts⟩ (mt_X7_allTicks l D cI cZ cR ad_m H.size 0 m_rolls m_pitch m_first m_length m_marks m_markStep m_markTicks m_table m_order m_many m_heard m_pressed m_silents m_items m_itemPitch m_itemStep m_ends m_noteOf m_cost m_extra m_slotOf m_sights m_sightCopy m_sightPitch m_isFaulty m_least m_greatest m_lines m_lineCopy m_lineDay m_linePlace m_lineTold m_now v1 _ h) (cwV 1 hts gX7_ticks_X7_allTicks rfl rfl rfl (by decide +kernel) ⟨Nat.le_of_ble_eq_true rfl, Nat.le_of_ble_eq_true rfl⟩) ⟨gl_blind, va_recv hK hP (ci := 7) (q0 := 0) rfl rfl, gl_pre hP hK hN hD⟩ rfl rfl hl.1 rfl (lv_room (Nat.le_of_ble_eq_true rfl)) dX7_ticks_15 ⟨Nat.le_of_ble_eq_true rfl, Nat.le_of_ble_eq_true rfl⟩) hD hS hA (fun r2 u H locs h hP hD hS => ?_)
    try dsimp only at h
    refine lv_goto (tgt := 22) hx hb dX7_ticks_18 (by decide) ?_
    exact gl_ireti G hK (u := 0) hP hD hS h dX7_ticks_22
set_option maxRecDepth 100000 in
theorem mt_X7_ticks (l : Launch) (D : va_G) (cI cZ cR : ClassId) (ad_m : Nat → Nat) (sz : Nat) (m_thrown : Int32) (m_rolls : Int32) (m_pitch : Nat → Int32) (m_first : Nat → Int32) (m_length : Nat → Int32) (m_marks : Nat → Int32) (m_markStep : Nat → Int32) (m_markTicks : Nat → Int32) (m_table : Nat → Int32) (m_order : Nat → Int32) (m_many : Int32) (m_heard : Int32) (m_pressed : Int32) (m_silents : Int32) (m_items : Int32) (m_itemPitch : Nat → Int32) (m_itemStep : Nat → Int32) (m_ends : Nat → Int32) (m_noteOf : Nat → Int32) (m_cost : Int32) (m_extra : Int32) (m_slotOf : Nat → Int32) (m_sights : Int32) (m_sightCopy : Nat → Int32) (m_sightPitch : Nat → Int32) (m_isFaulty : Nat → Int32) (m_least : Int32) (m_greatest : Int32) (m_lines : Int32) (m_lineCopy : Nat → Int32) (m_lineDay : Nat → Int32) (m_linePlace : Nat → Int32) (m_lineTold : Nat → Int32) (m_now : Int32) (v1 : Int32) (post : Int32 → Int32 → Prop) (h : wp_X7_ticks m_rolls m_marks m_markStep m_markTicks v1 m_thrown post) : Met l yX7_ticks wsX7_ticks ({ frames := 2, cells := 0, slots := 0, locals := 47 }) (gPc D (gT cI cZ cR) (w_M cI cZ cR ad_m m_thrown m_rolls m_pitch m_first m_length m_marks m_markStep m_markTicks m_table m_order m_many m_heard m_pressed m_silents m_items m_itemPitch m_itemStep m_ends m_noteOf m_cost m_extra m_slotOf m_sights m_sightCopy m_sightPitch m_isFaulty m_least m_greatest m_lines m_lineCopy m_lineDay m_linePlace m_lineTold m_now) sz [.ref (ad_m 0), .int v1]) (va_Qi (fun (r : Int32) (u : (Int32)) => post r u) (fun u t => gB D (gT cI cZ cR) (va_A (w_M cI cZ cR ad_m m_thrown m_rolls m_pitch m_first m_length m_marks m_markStep m_markTicks m_table m_order m_many m_heard m_pressed m_silents m_items m_itemPitch m_itemStep m_ends m_noteOf m_cost m_extra m_slotOf m_sights m_sightCopy m_sightPitch m_isFaulty m_least m_greatest m_lines m_lineCopy m_lineDay m_linePlace m_lineTold m_now) sz) (w_M cI cZ cR ad_m u m_rolls m_pitch m_first m_length m_marks m_markStep m_markTicks m_table m_order m_many m_heard m_pressed m_silents m_items m_itemPitch m_itemStep m_ends m_noteOf m_cost m_extra m_slotOf m_sights m_sightCopy m_sightPitch m_isFaulty m_least m_greatest m_lines m_lineCopy m_lineDay m_linePlace m_lineTold m_now) t) (va_A (w_M cI cZ cR ad_m m_thrown m_rolls m_pitch m_first m_length m_marks m_markStep m_markTicks m_table m_order m_many m_heard m_pressed m_silents m_items m_itemPitch m_itemStep m_ends m_noteOf m_cost m_extra m_slotOf m_sights m_sightCopy m_sightPitch m_isFaulty m_least m_greatest m_lines m_lineCopy m_lineDay m_linePlace m_lineTold m_now) sz)) 0 0 (va_A (w_M cI cZ cR ad_m m_thrown m_rolls m_pitch m_first m_length m_marks m_markStep m_markTicks m_table m_order m_many m_heard m_pressed m_silents m_items m_itemPitch m_itemStep m_ends m_noteOf m_cost m_extra m_slotOf m_sights m_sightCopy m_sightPitch m_isFaulty m_least m_greatest m_lines m_lineCopy m_lineDay m_linePlace m_lineTold m_now) sz) := by
  refine gl_entry (cc := cX7_ticks) (maxL := 2) (ret := (some .int)) (by decide) rfl (Nat.le_of_ble_eq_true rfl) ?_
  intro p e s m below meth c ls G hin hsz hK hN hP hD hl
  subst hsz
  exact ml_X7_ticks_0 G hK hN (fun q h => Or.inr h) m_rolls m_marks m_markStep m_markTicks v1 post m_thrown h s.heap [] hP hD va_S.rf ls hl
