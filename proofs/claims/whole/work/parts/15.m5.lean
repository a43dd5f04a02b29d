theorem lk_X7_align_0 : (Cond.fieldLink RX7 71 "RollHouseModel" "thrown" "I") ∈ wsX7_align := by decide +kernel
theorem lk_X7_align_1 : (Cond.fieldLink RX7 152 "RollHouseModel" "items" "I") ∈ wsX7_align := by decide +kernel
theorem lk_X7_align_2 : (Cond.fieldLink RX7 161 "RollHouseModel" "cost" "I") ∈ wsX7_align := by decide +kernel
theorem lk_X7_align_3 : (Cond.fieldLink RX7 164 "RollHouseModel" "extra" "I") ∈ wsX7_align := by decide +kernel
theorem lk_X7_align_4 : (Cond.fieldLink RX7 44 "RollHouseModel" "noteOf" "[I") ∈ wsX7_align := by decide +kernel
theorem lk_X7_align_5 : (Cond.fieldLink RX7 32 "RollHouseModel" "order" "[I") ∈ wsX7_align := by decide +kernel
theorem lk_X7_align_6 : (Cond.fieldLink RX7 7 "RollHouseModel" "pitch" "[I") ∈ wsX7_align := by decide +kernel
theorem lk_X7_align_7 : (Cond.fieldLink RX7 35 "RollHouseModel" "itemPitch" "[I") ∈ wsX7_align := by decide +kernel
theorem lk_X7_align_8 : (Cond.fieldLink RX7 13 "RollHouseModel" "first" "[I") ∈ wsX7_align := by decide +kernel
theorem lk_X7_align_9 : (Cond.fieldLink RX7 38 "RollHouseModel" "itemStep" "[I") ∈ wsX7_align := by decide +kernel
theorem us_X7_align_X7 : ∀ w ∈ u_ws RX7 TX7 34, w ∈ wsX7_align := by decide +kernel
def wl_X7_align_104 (m_rolls : Int32) (m_pitch : Nat → Int32) (m_first : Nat → Int32) (m_length : Nat → Int32) (m_items : Int32) (m_itemPitch : Nat → Int32) (m_itemStep : Nat → Int32) (v1 : Int32) (v2 : Int32) (post : Int32 → Int32 → (Nat → Int32) → Int32 → (Nat → Int32) → (Nat → Int32) → Int32 → Int32 → Prop) (K40 : (Int32) → (Int32) → (Int32) → (Int32) → (Int32) → (Nat → Int32) → (Int32) → (Nat → Int32) → (Nat → Int32) → (Int32) → (Int32) → Prop) (v3 : Int32) (v5 : Int32) (v6 : Int32) (v7 : Int32) (w0 : Int32) (w1 : Int32) (m_thrown : Int32) (m_order : Nat → Int32) (m_many : Int32) (m_ends : Nat → Int32) (m_noteOf : Nat → Int32) (m_cost : Int32) (m_extra : Int32) : Prop := (vp_in v7 360 ∧ (vp_in v6 40 ∧ (((m_first v7.toNatClampNeg) = (m_itemStep v6.toNatClampNeg) → K40 v3 (w0 + w1) (v5 + 0) (v6 + 1) m_thrown m_order m_many m_ends m_noteOf m_cost m_extra) ∧ (¬ (m_first v7.toNatClampNeg) = (m_itemStep v6.toNatClampNeg) → K40 v3 (w0 + w1) (v5 + 1) (v6 + 1) m_thrown m_order m_many m_ends m_noteOf m_cost m_extra))))
def wl_X7_align_40 (m_rolls : Int32) (m_pitch : Nat → Int32) (m_first : Nat → Int32) (m_length : Nat → Int32) (m_items : Int32) (m_itemPitch : Nat → Int32) (m_itemStep : Nat → Int32) (v1 : Int32) (v2 : Int32) (post : Int32 → Int32 → (Nat → Int32) → Int32 → (Nat → Int32) → (Nat → Int32) → Int32 → Int32 → Prop) : Nat → (Int32) → (Int32) → (Int32) → (Int32) → (Int32) → (Nat → Int32) → (Int32) → (Nat → Int32) → (Nat → Int32) → (Int32) → (Int32) → Prop
  | 0, _, _, _, _, _, _, _, _, _, _, _ => False
  | fu + 1, v3, v4, v5, v6, m_thrown, m_order, m_many, m_ends, m_noteOf, m_cost, m_extra => ((m_items ≤ v6 → ((v2 = 0 → post m_cost m_thrown m_order m_many m_ends m_noteOf m_cost m_extra) ∧ (¬ v2 = 0 → ((v2 = 1 → post v3 m_thrown m_order m_many m_ends m_noteOf m_cost m_extra) ∧ (¬ v2 = 1 → ((v2 = 2 → post (m_items - v3) m_thrown m_order m_many m_ends m_noteOf m_cost m_extra) ∧ (¬ v2 = 2 → ((v2 = 3 → post m_extra m_thrown m_order m_many m_ends m_noteOf m_cost m_extra) ∧ (¬ v2 = 3 → ((v2 = 4 → post v4 m_thrown m_order m_many m_ends m_noteOf m_cost m_extra) ∧ (¬ v2 = 4 → post v5 m_thrown m_order m_many m_ends m_noteOf m_cost m_extra))))))))))) ∧ (¬ m_items ≤ v6 → (vp_in v6 40 ∧ ((¬ (m_noteOf v6.toNatClampNeg) = (-1) → (vp_in v6 40 ∧ (vp_in (m_noteOf v6.toNatClampNeg) 60 ∧ (∀ z9 : Int32, z9 = m_order (m_noteOf v6.toNatClampNeg).toNatClampNeg → (vp_in z9 360 ∧ (vp_in v6 40 ∧ (((m_pitch z9.toNatClampNeg) = (m_itemPitch v6.toNatClampNeg) → wl_X7_align_104 m_rolls m_pitch m_first m_length m_items m_itemPitch m_itemStep v1 v2 post (wl_X7_align_40 m_rolls m_pitch m_first m_length m_items m_itemPitch m_itemStep v1 v2 post fu) (v3 + 1) v5 v6 z9 v4 0 m_thrown m_order m_many m_ends m_noteOf m_cost m_extra) ∧ (¬ (m_pitch z9.toNatClampNeg) = (m_itemPitch v6.toNatClampNeg) → wl_X7_align_104 m_rolls m_pitch m_first m_length m_items m_itemPitch m_itemStep v1 v2 post (wl_X7_align_40 m_rolls m_pitch m_first m_length m_items m_itemPitch m_itemStep v1 v2 post fu) (v3 + 1) v5 v6 z9 v4 1 m_thrown m_order m_many m_ends m_noteOf m_cost m_extra)))))))) ∧ ((m_noteOf v6.toNatClampNeg) = (-1) → wl_X7_align_40 m_rolls m_pitch m_first m_length m_items m_itemPitch m_itemStep v1 v2 post fu v3 v4 v5 (v6 + 1) m_thrown m_order m_many m_ends m_noteOf m_cost m_extra)))))
def wp_X7_align (m_rolls : Int32) (m_pitch : Nat → Int32) (m_first : Nat → Int32) (m_length : Nat → Int32) (m_items : Int32) (m_itemPitch : Nat → Int32) (m_itemStep : Nat → Int32) (v1 : Int32) (v2 : Int32) (m_thrown : Int32) (m_order : Nat → Int32) (m_many : Int32) (m_ends : Nat → Int32) (m_noteOf : Nat → Int32) (m_cost : Int32) (m_extra : Int32) (post : Int32 → Int32 → (Nat → Int32) → Int32 → (Nat → Int32) → (Nat → Int32) → Int32 → Int32 → Prop) : Prop := (wp_X7_isRoll m_rolls v1 (fun (r1 : Int32) => ((r1 = 0 → post (-1) 0 m_order m_many m_ends m_noteOf m_cost m_extra) ∧ (¬ r1 = 0 → (wp_X7_within v2 0 5 (fun (r2 : Int32) => ((¬ r2 = 0 → (wp_X7_aligns m_pitch m_first m_length m_items m_itemPitch m_itemStep v1 m_order m_many m_ends m_noteOf m_cost m_extra (fun (a3 : Nat → Int32) (z4 : Int32) (a5 : Nat → Int32) (a6 : Nat → Int32) (z7 : Int32) (z8 : Int32) => (∃ n, wl_X7_align_40 m_rolls m_pitch m_first m_length m_items m_itemPitch m_itemStep v1 v2 post n 0 0 0 0 0 a3 z4 a5 a6 z7 z8)))) ∧ (r2 = 0 → post (-1) 0 m_order m_many m_ends m_noteOf m_cost m_extra))))))))
set_option maxRecDepth 100000 in
set_option maxHeartbeats 4000000 in
theorem ml_X7_align_104 {p : Program} {l : Launch} {e : Env} {s : State} {m : MethodId} {args : Array Value} {below : List Frame} {meth : Method} {c : Code} {D : va_G} {cI cZ cR : ClassId} {A : Nat → Prop} {ad_m : Nat → Nat} {m_marks : Nat → Int32} {m_markStep : Nat → Int32} {m_markTicks : Nat → Int32} {m_table : Nat → Int32} {m_heard : Int32} {m_pressed : Int32} {m_silents : Int32} {m_slotOf : Nat → Int32} {m_sights : Int32} {m_sightCopy : Nat → Int32} {m_sightPitch : Nat → Int32} {m_isFaulty : Nat → Int32} {m_least : Int32} {m_greatest : Int32} {m_lines : Int32} {m_lineCopy : Nat → Int32} {m_lineDay : Nat → Int32} {m_linePlace : Nat → Int32} {m_lineTold : Nat → Int32} {m_now : Int32} (G : gG p s m args meth c cX7_align (some .int) 8 RX7 wsX7_align) (hK : va_K D vwCl (gT cI cZ cR) s) (hN : va_Nw gN s) (hA : ∀ q, s.heap.size ≤ q → A q) (m_rolls : Int32) (m_pitch : Nat → Int32) (m_first : Nat → Int32) (m_length : Nat → Int32) (m_items : Int32) (m_itemPitch : Nat → Int32) (m_itemStep : Nat → Int32) (v1 : Int32) (v2 : Int32) (post : Int32 → Int32 → (Nat → Int32) → Int32 → (Nat → Int32) → (Nat → Int32) → Int32 → Int32 → Prop) (K40 : (Int32) → (Int32) → (Int32) → (Int32) → (Int32) → (Nat → Int32) → (Int32) → (Nat → Int32) → (Nat → Int32) → (Int32) → (Int32) → Prop) (hK40 : ∀ (v3 : Int32) (v4 : Int32) (v5 : Int32) (v6 : Int32) (m_thrown : Int32) (m_order : Nat → Int32) (m_many : Int32) (m_ends : Nat → Int32) (m_noteOf : Nat → Int32) (m_cost : Int32) (m_extra : Int32), K40 v3 v4 v5 v6 m_thrown m_order m_many m_ends m_noteOf m_cost m_extra → ∀ (H : Heap) (locs : List Loc), va_P D vwCl (w_M cI cZ cR ad_m m_thrown m_rolls m_pitch m_first m_length m_marks m_markStep m_markTicks m_table m_order m_many m_heard m_pressed m_silents m_items m_itemPitch m_itemStep m_ends m_noteOf m_cost m_extra m_slotOf m_sights m_sightCopy m_sightPitch m_isFaulty m_least m_greatest m_lines m_lineCopy m_lineDay m_linePlace m_lineTold m_now) H → va_D A (w_M cI cZ cR ad_m m_thrown m_rolls m_pitch m_first m_length m_marks m_markStep m_markTicks m_table m_order m_many m_heard m_pressed m_silents m_items m_itemPitch m_itemStep m_ends m_noteOf m_cost m_extra m_slotOf m_sights m_sightCopy m_sightPitch m_isFaulty m_least m_greatest m_lines m_lineCopy m_lineDay m_linePlace m_lineTold m_now) → va_S A s.heap H locs → ∀ (ls : Array Slot), lv_has ls 8 [(0, .ref (ad_m 0)), (2, .int v2), (3, .int v3), (4, .int v4), (5, .int v5), (6, .int v6)] → W p l e { frames := 3, cells := 0, slots := 0, locals := 69 } s m args below meth c H locs 0 0 (MQ below (va_Qi (fun (r : Int32) (u : (Int32) × (Nat → Int32) × (Int32) × (Nat → Int32) × (Nat → Int32) × (Int32) × (Int32)) => post r u.1 u.2.1 u.2.2.1 u.2.2.2.1 u.2.2.2.2.1 u.2.2.2.2.2.1 u.2.2.2.2.2.2) (fun u t => gB D (gT cI cZ cR) A (w_M cI cZ cR ad_m u.1 m_rolls m_pitch m_first m_length m_marks m_markStep m_markTicks m_table u.2.1 u.2.2.1 m_heard m_pressed m_silents m_items m_itemPitch m_itemStep u.2.2.2.1 u.2.2.2.2.1 u.2.2.2.2.2.1 u.2.2.2.2.2.2 m_slotOf m_sights m_sightCopy m_sightPitch m_isFaulty m_least m_greatest m_lines m_lineCopy m_lineDay m_linePlace m_lineTold m_now) t) A) args s 0 0 A) (F0 m 40 ls [])) (v3 : Int32) (v5 : Int32) (v6 : Int32) (v7 : Int32) (w0 : Int32) (w1 : Int32) (m_thrown : Int32) (m_order : Nat → Int32) (m_many : Int32) (m_ends : Nat → Int32) (m_noteOf : Nat → Int32) (m_cost : Int32) (m_extra : Int32) (h : wl_X7_align_104 m_rolls m_pitch m_first m_length m_items m_itemPitch m_itemStep v1 v2 post K40 v3 v5 v6 v7 w0 w1 m_thrown m_order m_many m_ends m_noteOf m_cost m_extra) : ∀ (H : Heap) (locs : List Loc), va_P D vwCl (w_M cI cZ cR ad_m m_thrown m_rolls m_pitch m_first m_length m_marks m_markStep m_markTicks m_table m_order m_many m_heard m_pressed m_silents m_items m_itemPitch m_itemStep m_ends m_noteOf m_cost m_extra m_slotOf m_sights m_sightCopy m_sightPitch m_isFaulty m_least m_greatest m_lines m_lineCopy m_lineDay m_linePlace m_lineTold m_now) H → va_D A (w_M cI cZ cR ad_m m_thrown m_rolls m_pitch m_first m_length m_marks m_markStep m_markTicks m_table m_order m_many m_heard m_pressed m_silents m_items m_itemPitch m_itemStep m_ends m_noteOf m_cost m_extra m_slotOf m_sights m_sightCopy m_sightPitch m_isFaulty m_least m_greatest m_lines m_lineCopy m_lineDay m_linePlace m_lineTold m_now) → va_S A s.heap H locs → ∀ (ls : Array Slot), lv_has ls 8 [(0, .ref (ad_m 0)), (2, .int v2), (3, .int v3), (5, .int v5), (6, .int v6), (7, .int v7)] → W p l e { frames := 3, cells := 0, slots := 0, locals := 69 } s m args below meth c H locs 0 0 (MQ below (va_Qi (fun (r : Int32) (u : (Int32) × (Nat → Int32) × (Int32) × (Nat → Int32) × (Nat → Int32) × (Int32) × (Int32)) => post r u.1 u.2.1 u.2.2.1 u.2.2.2.1 u.2.2.2.2.1 u.2.2.2.2.2.1 u.2.2.2.2.2.2) (fun u t => gB D (gT cI cZ cR) A (w_M cI cZ cR ad_m u.1 m_rolls m_pitch m_first m_length m_marks m_markStep m_markTicks m_table u.2.1 u.2.2.1 m_heard m_pressed m_silents m_items m_itemPitch m_itemStep u.2.2.2.1 u.2.2.2.2.1 u.2.2.2.2.2.1 u.2.2.2.2.2.2 m_slotOf m_sights m_sightCopy m_sightPitch m_isFaulty m_least m_greatest m_lines m_lineCopy m_lineDay m_linePlace m_lineTold m_now) t) A) args s 0 0 A) (F0 m 104 ls [.int w1, .int w0]) := by
  obtain ⟨hx, hb, hr, hml, hown, hts, hlocks⟩ := id G
  intro H locs hP hD hS ls hl
  unfold wl_X7_align_104 at h
  refine lv_iadd hx hb dX7_align_104 ?_
  refine lv_istore (lv' := [(4, .int (w0 + w1)), (0, .ref (ad_m 0)), (2, .int v2), (3, .int v3), (5, .int v5), (6, .int v6), (7, .int v7)]) hx hb dX7_align_105 hl (by decide) rfl (fun ls hl => ?_)
  refine lv_iload hx hb dX7_align_107 (lv_at hl 4 rfl) ?_
  refine lv_aload_n hx hb dX7_align_109 rfl (lv_at hl 1 rfl) ?_
  refine va_get (D := D) (ci := 7) (v := .ref (ad_m 2)) (C := RX7) (T := TX7) (N := 34) hx hb hts us_X7_align_X7 hown hK hP 0 rfl rfl 3 (by decide) (hts (.fieldLink RX7 13 "RollHouseModel" "first" "[I") lk_X7_align_8) (fun _ h9 => h9) rfl dX7_align_110 ?_
  refine lv_iload hx hb dX7_align_113 (lv_at hl 6 rfl) ?_
  obtain ⟨hin, h⟩ := h
  refine va_iald hx hb hK hP 2 0 rfl rfl hin dX7_align_115 ?_
  refine lv_aload_n hx hb dX7_align_116 rfl (lv_at hl 1 rfl) ?_
  refine va_get (D := D) (ci := 7) (v := .ref (ad_m 10)) (C := RX7) (T := TX7) (N := 34) hx hb hts us_X7_align_X7 hown hK hP 0 rfl rfl 16 (by decide) (hts (.fieldLink RX7 38 "RollHouseModel" "itemStep" "[I") lk_X7_align_9) (fun _ h9 => h9) rfl dX7_align_117 ?_
  refine lv_iload hx hb dX7_align_120 (lv_at hl 5 rfl) ?_
  obtain ⟨hin, h⟩ := h
  refine va_iald hx hb hK hP 10 0 rfl rfl hin dX7_align_122 ?_
  refine lv_icmp_eq (tgt := 130) hx hb dX7_align_123 (by decide) (fun hc => ?_) (fun hc => ?_)
  · have h := h.1 hc
    refine lv_iconst (v := 0) hx hb dX7_align_130 (by decide) ?_
    refine lv_iadd hx hb dX7_align_131 ?_
    refine lv_istore (lv' := [(5, .int (v5 + 0)), (4, .int (w0 + w1)), (0, .ref (ad_m 0)), (2, .int v2), (3, .int v3), (6, .int v6), (7, .int v7)]) hx hb dX7_align_132 hl (by decide) rfl (fun ls hl => ?_)
    refine lv_iinc (v := v6 + 1) (lv' := [(6, .int (v6 + 1)), (5, .int (v5 + 0)), (4, .int (w0 + w1)), (0, .ref (ad_m 0)), (2, .int v2), (3, .int v3), (7, .int v7)]) hx hb dX7_align_134 hl (k := 5) rfl rfl (by decide) rfl (fun ls hl => ?_)
    refine lv_goto (tgt := 40) hx hb dX7_align_137 (by decide) ?_
    exact hK40 v3 (w0 + w1) (v5 + 0) (v6 + 1) m_thrown m_order m_many m_ends m_noteOf m_cost m_extra h H locs hP hD hS ls (lv_sub hl [3, 4, 5, 2, 1, 0] rfl)
  · have h := h.2 hc
    refine lv_iconst (v := 1) hx hb dX7_align_126 (by decide) ?_
    refine lv_goto (tgt := 131) hx hb dX7_align_127 (by decide) ?_
    refine lv_iadd hx hb dX7_align_131 ?_
    refine lv_istore (lv' := [(5, .int (v5 + 1)), (4, .int (w0 + w1)), (0, .ref (ad_m 0)), (2, .int v2), (3, .int v3), (6, .int v6), (7, .int v7)]) hx hb dX7_align_132 hl (by decide) rfl (fun ls hl => ?_)
    refine lv_iinc (v := v6 + 1) (lv' := [(6, .int (v6 + 1)), (5, .int (v5 + 1)), (4, .int (w0 + w1)), (0, .ref (ad_m 0)), (2, .int v2), (3, .int v3), (7, .int v7)]) hx hb dX7_align_134 hl (k := 5) rfl rfl (by decide) rfl (fun ls hl => ?_)
    refine lv_goto (tgt := 40) hx hb dX7_align_137 (by decide) ?_
    exact hK40 v3 (w0 + w1) (v5 + 1) (v6 + 1) m_thrown m_order m_many m_ends m_noteOf m_cost m_extra h H locs hP hD hS ls (lv_sub hl [3, 4, 5, 2, 1, 0] rfl)
set_option maxRecDepth 100000 in
set_option maxHeartbeats 4000000 in
theorem ml_X7_align_40 {p : Program} {l : Launch} {e : Env} {s : State} {m : MethodId} {args : Array Value} {below : List Frame} {meth : Method} {c : Code} {D : va_G} {cI cZ cR : ClassId} {A : Nat → Prop} {ad_m : Nat → Nat} {m_marks : Nat → Int32} {m_markStep : Nat → Int32} {m_markTicks : Nat → Int32} {m_table : Nat → Int32} {m_heard : Int32} {m_pressed : Int32} {m_silents : Int32} {m_slotOf : Nat → Int32} {m_sights : Int32} {m_sightCopy : Nat → Int32} {m_sightPitch : Nat → Int32} {m_isFaulty : Nat → Int32} {m_least : Int32} {m_greatest : Int32} {m_lines : Int32} {m_lineCopy : Nat → Int32} {m_lineDay : Nat → Int32} {m_linePlace : Nat → Int32} {m_lineTold : Nat → Int32} {m_now : Int32} (G : gG p s m args meth c cX7_align (some .int) 8 RX7 wsX7_align) (hK : va_K D vwCl (gT cI cZ cR) s) (hN : va_Nw gN s) (hA : ∀ q, s.heap.size ≤ q → A q) (m_rolls : Int32) (m_pitch : Nat → Int32) (m_first : Nat → Int32) (m_length : Nat → Int32) (m_items : Int32) (m_itemPitch : Nat → Int32) (m_itemStep : Nat → Int32) (v1 : Int32) (v2 : Int32) (post : Int32 → Int32 → (Nat → Int32) → Int32 → (Nat → Int32) → (Nat → Int32) → Int32 → Int32 → Prop) : ∀ (fu : Nat) (v3 : Int32) (v4 : Int32) (v5 : Int32) (v6 : Int32) (m_thrown : Int32) (m_order : Nat → Int32) (m_many : Int32) (m_ends : Nat → Int32) (m_noteOf : Nat → Int32) (m_cost : Int32) (m_extra : Int32), wl_X7_align_40 m_rolls m_pitch m_first m_length m_items m_itemPitch m_itemStep v1 v2 post fu v3 v4 v5 v6 m_thrown m_order m_many m_ends m_noteOf m_cost m_extra → ∀ (H : Heap) (locs : List Loc), va_P D vwCl (w_M cI cZ cR ad_m m_thrown m_rolls m_pitch m_first m_length m_marks m_markStep m_markTicks m_table m_order m_many m_heard m_pressed m_silents m_items m_itemPitch m_itemStep m_ends m_noteOf m_cost m_extra m_slotOf m_sights m_sightCopy m_sightPitch m_isFaulty m_least m_greatest m_lines m_lineCopy m_lineDay m_linePlace m_lineTold m_now) H → va_D A (w_M cI cZ cR ad_m m_thrown m_rolls m_pitch m_first m_length m_marks m_markStep m_markTicks m_table m_order m_many m_heard m_pressed m_silents m_items m_itemPitch m_itemStep m_ends m_noteOf m_cost m_extra m_slotOf m_sights m_sightCopy m_sightPitch m_isFaulty m_least m_greatest m_lines m_lineCopy m_lineDay m_linePlace m_lineTold m_now) → va_S A s.heap H locs → ∀ (ls : Array Slot), lv_has ls 8 [(0, .ref (ad_m 0)), (2, .int v2), (3, .int v3), (4, .int v4), (5, .int v5), (6, .int v6)] → W p l e { frames := 3, cells := 0, slots := 0, locals := 69 } s m args below meth c H locs 0 0 (MQ below (va_Qi (fun (r : Int32) (u : (Int32) × (Nat → Int32) × (Int32) × (Nat → Int32) × (Nat → Int32) × (Int32) × (Int32)) => post r u.1 u.2.1 u.2.2.1 u.2.2.2.1 u.2.2.2.2.1 u.2.2.2.2.2.1 u.2.2.2.2.2.2) (fun u t => gB D (gT cI cZ cR) A (w_M cI cZ cR ad_m u.1 m_rolls m_pitch m_first m_length m_marks m_markStep m_markTicks m_table u.2.1 u.2.2.1 m_heard m_pressed m_silents m_items m_itemPitch m_itemStep u.2.2.2.1 u.2.2.2.2.1 u.2.2.2.2.2.1 u.2.2.2.2.2.2 m_slotOf m_sights m_sightCopy m_sightPitch m_isFaulty m_least m_greatest m_lines m_lineCopy m_lineDay m_linePlace m_lineTold m_now) t) A) args s 0 0 A) (F0 m 40 ls []) := by
  obtain ⟨hx, hb, hr, hml, hown, hts, hlocks⟩ := id G
  intro fu
  induction fu with
  | zero =>
    intro v3 v4 v5 v6 m_thrown m_order m_many m_ends m_noteOf m_cost m_extra h
    exact h.elim
  | succ fu ih =>
    intro v3 v4 v5 v6 m_thrown m_order m_many m_ends m_noteOf m_cost m_extra h H locs hP hD hS ls hl
    rw [wl_X7_align_40] at h
    refine lv_iload hx hb dX7_align_40 (lv_at hl 5 rfl) ?_
    refine lv_aload_n hx hb dX7_align_42 rfl (lv_at hl 0 rfl) ?_
    refine va_get (D := D) (ci := 7) (v := .int m_items) (C := RX7) (T := TX7) (N := 34) hx hb hts us_X7_align_X7 hown hK hP 0 rfl rfl 14 (by decide) (hts (.fieldLink RX7 152 "RollHouseModel" "items" "I") lk_X7_align_1) (fun _ h9 => h9) rfl dX7_align_43 ?_
    refine lv_icmp_ge (tgt := 140) hx hb dX7_align_46 (by decide) (fun hc => ?_) (fun hc => ?_)
    · have h := h.1 hc
      refine lv_iload_n hx hb dX7_align_140 rfl (lv_at hl 1 rfl) ?_
      by_cases hc0 : v2 = 0
      · have h := h.1 hc0
        refine lv_tableIn (tgt := 176) hx hb dX7_align_141 (by rw [hc0]; decide) (by rw [hc0]; decide) (by rw [hc0]; rfl) (by decide) ?_
        refine lv_aload_n hx hb dX7_align_176 rfl (lv_at hl 0 rfl) ?_
        refine va_get (D := D) (ci := 7) (v := .int m_cost) (C := RX7) (T := TX7) (N := 34) hx hb hts us_X7_align_X7 hown hK hP 0 rfl rfl 19 (by decide) (hts (.fieldLink RX7 161 "RollHouseModel" "cost" "I") lk_X7_align_2) (fun _ h9 => h9) rfl dX7_align_177 ?_
        exact gl_ireti G hK (u := (m_thrown, m_order, m_many, m_ends, m_noteOf, m_cost, m_extra)) hP hD hS h dX7_align_180
      · have h := h.2 hc0
        by_cases hc1 : v2 = 1
        · have h := h.1 hc1
          refine lv_tableIn (tgt := 181) hx hb dX7_align_141 (by rw [hc1]; decide) (by rw [hc1]; decide) (by rw [hc1]; rfl) (by decide) ?_
          refine lv_iload_n hx hb dX7_align_181 rfl (lv_at hl 2 rfl) ?_
          exact gl_ireti G hK (u := (m_thrown, m_order, m_many, m_ends, m_noteOf, m_cost, m_extra)) hP hD hS h dX7_align_182
        · have h := h.2 hc1
          by_cases hc2 : v2 = 2
          · have h := h.1 hc2
            refine lv_tableIn (tgt := 183) hx hb dX7_align_141 (by rw [hc2]; decide) (by rw [hc2]; decide) (by rw [hc2]; rfl) (by decide) ?_
            refine lv_aload_n hx hb dX7_align_183 rfl (lv_at hl 0 rfl) ?_
            refine va_get (D := D) (ci := 7) (v := .int m_items) (C := RX7) (T := TX7) (N := 34) hx hb hts us_X7_align_X7 hown hK hP 0 rfl rfl 14 (by decide) (hts (.fieldLink RX7 152 "RollHouseModel" "items" "I") lk_X7_align_1) (fun _ h9 => h9) rfl dX7_align_184 ?_
            refine lv_iload_n hx hb dX7_align_187 rfl (lv_at hl 2 rfl) ?_
            refine lv_isub hx hb dX7_align_188 ?_
            exact gl_ireti G hK (u := (m_thrown, m_order, m_many, m_ends, m_noteOf, m_cost, m_extra)) hP hD hS h dX7_align_189
          · have h := h.2 hc2
            by_cases hc3 : v2 = 3
            · have h := h.1 hc3
              refine lv_tableIn (tgt := 190) hx hb dX7_align_141 (by rw [hc3]; decide) (by rw [hc3]; decide) (by rw [hc3]; rfl) (by decide) ?_
              refine lv_aload_n hx hb dX7_align_190 rfl (lv_at hl 0 rfl) ?_
              refine va_get (D := D) (ci := 7) (v := .int m_extra) (C := RX7) (T := TX7) (N := 34) hx hb hts us_X7_align_X7 hown hK hP 0 rfl rfl 20 (by decide) (hts (.fieldLink RX7 164 "RollHouseModel" "extra" "I") lk_X7_align_3) (fun _ h9 => h9) rfl dX7_align_191 ?_
              exact gl_ireti G hK (u := (m_thrown, m_order, m_many, m_ends, m_noteOf, m_cost, m_extra)) hP hD hS h dX7_align_194
            · have h := h.2 hc3
              by_cases hc4 : v2 = 4
              · have h := h.1 hc4
                refine lv_tableIn (tgt := 195) hx hb dX7_align_141 (by rw [hc4]; decide) (by rw [hc4]; decide) (by rw [hc4]; rfl) (by decide) ?_
                refine lv_iload hx hb dX7_align_195 (lv_at hl 3 rfl) ?_
                exact gl_ireti G hK (u := (m_thrown, m_order, m_many, m_ends, m_noteOf, m_cost, m_extra)) hP hD hS h dX7_align_197
              · have h := h.2 hc4
                refine lv_tableOut (tgt := 198) hx hb dX7_align_141 (gl_sw (n := 4) (by decide) (fun k hk => by match k, hk with | 0, _ => exact hc0 | 1, _ => exact hc1 | 2, _ => exact hc2 | 3, _ => exact hc3 | 4, _ => exact hc4)) (by decide) ?_
                refine lv_iload hx hb dX7_align_198 (lv_at hl 4 rfl) ?_
                exact gl_ireti G hK (u := (m_thrown, m_order, m_many, m_ends, m_noteOf, m_cost, m_extra)) hP hD hS h dX7_align_200
    · have h := h.2 hc
      refine lv_aload_n hx hb dX7_align_49 rfl (lv_at hl 0 rfl) ?_
      refine va_get (D := D) (ci := 7) (v := .ref (ad_m 12)) (C := RX7) (T := TX7) (N := 34) hx hb hts us_X7_align_X7 hown hK hP 0 rfl rfl 18 (by decide) (hts (.fieldLink RX7 44 "RollHouseModel" "noteOf" "[I") lk_X7_align_4) (fun _ h9 => h9) rfl dX7_align_50 ?_
      refine lv_iload hx hb dX7_align_53 (lv_at hl 5 rfl) ?_
      obtain ⟨hin, h⟩ := h
      refine va_iald hx hb hK hP 12 0 rfl rfl hin dX7_align_55 ?_
      refine lv_iconst (v := (-1)) hx hb dX7_align_56 (by decide) ?_
      refine lv_icmp_ne (tgt := 63) hx hb dX7_align_57 (by decide) (fun hc => ?_) (fun hc => ?_)
      · have h := h.1 hc
        refine lv_aload_n hx hb dX7_align_63 rfl (lv_at hl 0 rfl) ?_
        refine va_get (D := D) (ci := 7) (v := .ref (ad_m 8)) (C := RX7) (T := TX7) (N := 34) hx hb hts us_X7_align_X7 hown hK hP 0 rfl rfl 9 (by decide) (hts (.fieldLink RX7 32 "RollHouseModel" "order" "[I") lk_X7_align_5) (fun _ h9 => h9) rfl dX7_align_64 ?_
        refine lv_aload_n hx hb dX7_align_67 rfl (lv_at hl 0 rfl) ?_
        refine va_get (D := D) (ci := 7) (v := .ref (ad_m 12)) (C := RX7) (T := TX7) (N := 34) hx hb hts us_X7_align_X7 hown hK hP 0 rfl rfl 18 (by decide) (hts (.fieldLink RX7 44 "RollHouseModel" "noteOf" "[I") lk_X7_align_4) (fun _ h9 => h9) rfl dX7_align_68 ?_
        refine lv_iload hx hb dX7_align_71 (lv_at hl 5 rfl) ?_
        obtain ⟨hin, h⟩ := h
        refine va_iald hx hb hK hP 12 0 rfl rfl hin dX7_align_73 ?_
        obtain ⟨hin, h⟩ := h
        refine va_iald hx hb hK hP 8 0 rfl rfl hin dX7_align_74 ?_
        refine lv_topi (fun z9 ez9 => ?_)
        have h := h z9 ez9
        refine lv_istore (lv' := [(7, .int z9), (0, .ref (ad_m 0)), (2, .int v2), (3, .int v3), (4, .int v4), (5, .int v5), (6, .int v6)]) hx hb dX7_align_75 hl (by decide) rfl (fun ls hl => ?_)
        refine lv_iinc (v := v3 + 1) (lv' := [(3, .int (v3 + 1)), (7, .int z9), (0, .ref (ad_m 0)), (2, .int v2), (4, .int v4), (5, .int v5), (6, .int v6)]) hx hb dX7_align_77 hl (k := 3) rfl rfl (by decide) rfl (fun ls hl => ?_)
        refine lv_iload hx hb dX7_align_80 (lv_at hl 4 rfl) ?_
        refine lv_aload_n hx hb dX7_align_82 rfl (lv_at hl 2 rfl) ?_
        refine va_get (D := D) (ci := 7) (v := .ref (ad_m 1)) (C := RX7) (T := TX7) (N := 34) hx hb hts us_X7_align_X7 hown hK hP 0 rfl rfl 2 (by decide) (hts (.fieldLink RX7 7 "RollHouseModel" "pitch" "[I") lk_X7_align_6) (fun _ h9 => h9) rfl dX7_align_83 ?_
        refine lv_iload hx hb dX7_align_86 (lv_at hl 1 rfl) ?_
        obtain ⟨hin, h⟩ := h
        refine va_iald hx hb hK hP 1 0 rfl rfl hin dX7_align_88 ?_
        refine lv_aload_n hx hb dX7_align_89 rfl (lv_at hl 2 rfl) ?_
        refine va_get (D := D) (ci := 7) (v := .ref (ad_m 9)) (C := RX7) (T := TX7) (N := 34) hx hb hts us_X7_align_X7 hown hK hP 0 rfl rfl 15 (by decide) (hts (.fieldLink RX7 35 "RollHouseModel" "itemPitch" "[I") lk_X7_align_7) (fun _ h9 => h9) rfl dX7_align_90 ?_
        refine lv_iload hx hb dX7_align_93 (lv_at hl 6 rfl) ?_
        obtain ⟨hin, h⟩ := h
        refine va_iald hx hb hK hP 9 0 rfl rfl hin dX7_align_95 ?_
        refine lv_icmp_eq (tgt := 103) hx hb dX7_align_96 (by decide) (fun hc => ?_) (fun hc => ?_)
        · have h := h.1 hc
          refine lv_iconst (v := 0) hx hb dX7_align_103 (by decide) ?_
          exact ml_X7_align_104 G hK hN hA m_rolls m_pitch m_first m_length m_items m_itemPitch m_itemStep v1 v2 post (wl_X7_align_40 m_rolls m_pitch m_first m_length m_items m_itemPitch m_itemStep v1 v2 post fu) ih (v3 + 1) v5 v6 z9 v4 0 m_thrown m_order m_many m_ends m_noteOf m_cost m_extra h H locs hP hD hS ls (lv_sub hl [2, 3, 0, 5, 6, 1] rfl)
        · have h := h.2 hc
          refine lv_iconst (v := 1) hx hb dX7_align_99 (by decide) ?_
          refine lv_goto (tgt := 104) hx hb dX7_align_100 (by decide) ?_
          exact ml_X7_align_104 G hK hN hA m_rolls m_pitch m_first m_length m_items m_itemPitch m_itemStep v1 v2 post (wl_X7_align_40 m_rolls m_pitch m_first m_length m_items m_itemPitch m_itemStep v1 v2 post fu) ih (v3 + 1) v5 v6 z9 v4 1 m_thrown m_order m_many m_ends m_noteOf m_cost m_extra h H locs hP hD hS ls (lv_sub hl [2, 3, 0, 5, 6, 1] rfl)
      · have h := h.2 hc
        refine lv_goto (tgt := 134) hx hb dX7_align_60 (by decide) ?_
        refine lv_iinc (v := v6 + 1) (lv' := [(6, .int (v6 + 1)), (0, .ref (ad_m 0)), (2, .int v2), (3, .int v3), (4, .int v4), (5, .int v5)]) hx hb dX7_align_134 hl (k := 5) rfl rfl (by decide) rfl (fun ls hl => ?_)
        refine lv_goto (tgt := 40) hx hb dX7_align_137 (by decide) ?_
        exact ih v3 v4 v5 (v6 + 1) m_thrown m_order m_many m_ends m_noteOf m_cost m_extra h H locs hP hD hS ls (lv_sub hl [1, 2, 3, 4, 5, 0] rfl)
set_option maxRecDepth 100000 in
set_option maxHeartbeats 4000000 in
theorem ml_X7_align_0 {p : Program} {l : Launch} {e : Env} {s : State} {m : MethodId} {args : Array Value} {below : List Frame} {meth : Method} {c : Code} {D : va_G} {cI cZ cR : ClassId} {A : Nat → Prop} {ad_m : Nat → Nat} {m_marks : Nat → Int32} {m_markStep : Nat → Int32} {m_markTicks : Nat → Int32} {m_table : Nat → Int32} {m_heard : Int32} {m_pressed : Int32} {m_silents : Int32} {m_slotOf : Nat → Int32} {m_sights : Int32} {m_sightCopy : Nat → Int32} {m_sightPitch : Nat → Int32} {m_isFaulty : Nat → Int32} {m_least : Int32} {m_greatest : Int32} {m_lines : Int32} {m_lineCopy : Nat → Int32} {m_lineDay : Nat → Int32} {m_linePlace : Nat → Int32} {m_lineTold : Nat → Int32} {m_now : Int32} (G : gG p s m args meth c cX7_align (some .int) 8 RX7 wsX7_align) (hK : va_K D vwCl (gT cI cZ cR) s) (hN : va_Nw gN s) (hA : ∀ q, s.heap.size ≤ q → A q) (m_rolls : Int32) (m_pitch : Nat → Int32) (m_first : Nat → Int32) (m_length : Nat → Int32) (m_items : Int32) (m_itemPitch : Nat → Int32) (m_itemStep : Nat → Int32) (v1 : Int32) (v2 : Int32) (post : Int32 → Int32 → (Nat → Int32) → Int32 → (Nat → Int32) → (Nat → Int32) → Int32 → Int32 → Prop) (m_thrown : Int32) (m_order : Nat → Int32) (m_many : Int32) (m_ends : Nat → Int32) (m_noteOf : Nat → Int32) (m_cost : Int32) (m_extra : Int32) (h : wp_X7_align m_rolls m_pitch m_first m_length m_items m_itemPitch m_itemStep v1 v2 m_thrown m_order m_many m_ends m_noteOf m_cost m_extra post) : ∀ (H : Heap) (locs : List Loc), va_P D vwCl (w_M cI cZ cR ad_m m_thrown m_rolls m_pitch m_first m_length m_marks m_markStep m_markTicks m_table m_order m_many m_heard m_pressed m_silents m_items m_itemPitch m_itemStep m_ends m_noteOf m_cost m_extra m_slotOf m_sights m_sightCopy m_sightPitch m_isFaulty m_least m_greatest m_lines m_lineCopy m_lineDay m_linePlace m_lineTold m_now) H → va_D A (w_M cI cZ cR ad_m m_thrown m_rolls m_pitch m_first m_length m_marks m_markStep m_markTicks m_table m_order m_many m_heard m_pressed m_silents m_items m_itemPitch m_itemStep m_ends m_noteOf m_cost m_extra m_slotOf m_sights m_sightCopy m_sightPitch m_isFaulty m_least m_greatest m_lines m_lineCopy m_lineDay m_linePlace m_lineTold m_now) → va_S A s.heap H locs → ∀ (ls : Array Slot), lv_has ls 8 [(0, .ref (ad_m 0)), (1, .int v1), (2, .int v2)] → W p l e { frames := 3, cells := 0, slots := 0, locals := 69 } s m args below meth c H locs 0 0 (MQ below (va_Qi (fun (r : Int32) (u : (Int32) × (Nat → Int32) × (Int32) × (Nat → Int32) × (Nat → Int32) × (Int32) × (Int32)) => post r u.1 u.2.1 u.2.2.1 u.2.2.2.1 u.2.2.2.2.1 u.2.2.2.2.2.1 u.2.2.2.2.2.2) (fun u t => gB D (gT cI cZ cR) A (w_M cI cZ cR ad_m u.1 m_rolls m_pitch m_first m_length m_marks m_markStep m_markTicks m_table u.2.1 u.2.2.1 m_heard m_pressed m_silents m_items m_itemPitch m_itemStep u.2.2.2.1 u.2.2.2.2.1 u.2.2.2.2.2.1 u.2.2.2.2.2.2 m_slotOf m_sights m_sightCopy m_sightPitch m_isFaulty m_least m_greatest m_lines m_lineCopy m_lineDay m_linePlace m_lineTold m_now) t) A) args s 0 0 A) (F0 m 0 ls []) := by
  obtain ⟨hx, hb, hr, hml, hown, hts, hlocks⟩ := id G
  intro H locs hP hD hS ls hl
  unfold wp_X7_align at h
  refine lv_aload_n hx hb dX7_align_0 rfl (lv_at hl 0 rfl) ?_
  refine lv_iconst (v := 0) hx hb dX7_align_1 (by decide) ?_
  refine va_put (D := D) (ci := 7) (v := .int 0) (ty := .int) (C := RX7) (T := TX7) (N := 34) hx hb hts us_X7_align_X7 tyX7 tyX7_ok nmX7 hown hK hP hD hS 0 rfl rfl 0 (by decide) (hts (.fieldLink RX7 71 "RollHouseModel" "thrown" "I") lk_X7_align_0) (fun _ h9 => h9) rfl (by decide +kernel) rfl rfl (Nat.le_of_ble_eq_true rfl) dX7_align_2 (fun H locs hP hD hS => ?_)
  have hP : va_P D vwCl (w_M cI cZ cR ad_m 0 m_rolls m_pitch m_first m_length m_marks m_markStep m_markTicks m_table m_order m_many m_heard m_pressed m_silents m_items m_itemPitch m_itemStep m_ends m_noteOf m_cost m_extra m_slotOf m_sights m_sightCopy m_sightPitch m_isFaulty m_least m_greatest m_lines m_lineCopy m_lineDay m_linePlace m_lineTold m_now) H := hP
  have hD : va_D A (w_M cI cZ cR ad_m 0 m_rolls m_pitch m_first m_length m_marks m_markStep m_markTicks m_table m_order m_many m_heard m_pressed m_silents m_items m_itemPitch m_itemStep m_ends m_noteOf m_cost m_extra m_slotOf m_sights m_sightCopy m_sightPitch m_isFaulty m_least m_greatest m_lines m_lineCopy m_lineDay m_linePlace m_lineTold m_now) := hD
  refine lv_aload_n hx hb dX7_align_5 rfl (lv_at hl 0 rfl) ?_
  refine lv_iload_n hx hb dX7_align_6 rfl (lv_at hl 1 rfl) ?_
  refine gl_calliF (va_runV (As := [.int v1]) (rest := []) ⟨hx, hb, hml, hown, hts⟩ (mt_X7_isRoll l D cI cZ cR ad_m H.size 0 m_rolls m_pitch m_first m_length m_marks m_markStep m_markTicks m_table m_order m_many m_heard m_pressed m_silents m_items m_itemPitch m_itemStep m_ends m_noteOf m_cost m_extra m_slotOf m_sights m_sightCopy m_sightPitch m_isFaulty m_least m_greatest m_lines m_lineCopy m_lineDay m_linePlace m_lineTold m_now v1 _ h) (cwV 1 hts gX7_align_X7_isRoll rfl rfl rfl (by decide +kernel) ⟨Nat.le_of_ble_eq_true rfl, Nat.le_of_ble_eq_true rfl⟩) ⟨gl_blind, va_recv hK hP (ci := 7) (q0 := 0) rfl rfl, gl_pre hP hK hN hD⟩ rfl rfl hl.1 rfl (lv_room (Nat.le_of_ble_eq_true rfl)) dX7_align_7 ⟨Nat.le_of_ble_eq_true rfl, Nat.le_of_ble_eq_true rfl⟩) hD hS hA (fun r1 u H locs h hP hD hS => ?_)
  try dsimp only at h
  refine lv_if_eq (tgt := 22) hx hb dX7_align_10 (by decide) (fun hc => ?_) (fun hc => ?_)
  · have h := h.1 hc
    refine lv_iconst (v := (-1)) hx hb dX7_align_22 (by decide) ?_
    exact gl_ireti G hK (u := (0, m_order, m_many, m_ends, m_noteOf, m_cost, m_extra)) hP hD hS h dX7_align_23
  · have h := h.2 hc
    refine lv_iload_n hx hb dX7_align_13 rfl (lv_at hl 2 rfl) ?_
    refine lv_iconst (v := 0) hx hb dX7_align_14 (by decide) ?_
    refine lv_iconst (v := 5) hx hb dX7_align_15 (by decide) ?_
    refine gl_calliS (va_runS (As := [.int v2, .int 0, .int 5]) (rest := []) ⟨hx, hb, hml, hown, hts⟩ (mt_X7_within l D cI cZ cR  H.size v2 0 5 _ h) (va_cwS 3 hts gX7_align_X7_within rfl rfl rfl (by decide +kernel) ⟨Nat.le_of_ble_eq_true rfl, Nat.le_of_ble_eq_true rfl⟩) ⟨gl_blind, gl_pre gl_nilP hK hN (gl_nilD (A := A))⟩ rfl rfl hl.1 rfl (lv_room (Nat.le_of_ble_eq_true rfl)) dX7_align_16 ⟨Nat.le_of_ble_eq_true rfl, Nat.le_of_ble_eq_true rfl⟩) hP hS hA (fun r2 u H locs h hP hS => ?_)
    try dsimp only at h
    refine lv_if_ne (tgt := 24) hx hb dX7_align_19 (by decide) (fun hc => ?_) (fun hc => ?_)
    · have h := h.1 hc
      refine lv_aload_n hx hb dX7_align_24 rfl (lv_at hl 0 rfl) ?_
      refine lv_iload_n hx hb dX7_align_25 rfl (lv_at hl 1 rfl) ?_
      refine gl_callvF (va_runV (As := [.int v1]) (rest := []) ⟨hx, hb, hml, hown, hts⟩ (mt_X7_aligns l D cI cZ cR ad_m H.size 0 m_rolls m_pitch m_first m_length m_marks m_markStep m_markTicks m_table m_order m_many m_heard m_pressed m_silents m_items m_itemPitch m_itemStep m_ends m_noteOf m_cost m_extra m_slotOf m_sights m_sightCopy m_sightPitch m_isFaulty m_least m_greatest m_lines m_lineCopy m_lineDay m_linePlace m_lineTold m_now v1 _ h) (cwV 1 hts gX7_align_X7_aligns rfl rfl rfl (by decide +kernel) ⟨Nat.le_of_ble_eq_true rfl, Nat.le_of_ble_eq_true rfl⟩) ⟨gl_blind, va_recv hK hP (ci := 7) (q0 := 0) rfl rfl, gl_pre hP hK hN hD⟩ rfl rfl hl.1 rfl (lv_room (Nat.le_of_ble_eq_true rfl)) dX7_align_26 ⟨Nat.le_of_ble_eq_true rfl, Nat.le_of_ble_eq_true rfl⟩) hD hS hA (fun u H locs h hP hD hS => ?_)
      obtain ⟨a3, z4, a5, a6, z7, z8⟩ := u
      try dsimp only at h
      have hP : va_P D vwCl (w_M cI cZ cR ad_m 0 m_rolls m_pitch m_first m_length m_marks m_markStep m_markTicks m_table a3 z4 m_heard m_pressed m_silents m_items m_itemPitch m_itemStep a5 a6 z7 z8 m_slotOf m_sights m_sightCopy m_sightPitch m_isFaulty m_least m_greatest m_lines m_lineCopy m_lineDay m_linePlace m_lineTold m_now) H := hP
      have hD : va_D A (w_M cI cZ cR ad_m 0 m_rolls m_pitch m_first m_length m_marks m_markStep m_markTicks m_table a3 z4 m_heard m_pressed m_silents m_items m_itemPitch m_itemStep a5 a6 z7 z8 m_slotOf m_sights m_sightCopy m_sightPitch m_isFaulty m_least m_greatest m_lines m_lineCopy m_lineDay m_linePlace m_lineTold m_now) := hD
      refine lv_iconst (v := 0) hx hb dX7_align_29 (by decide) ?_
      refine lv_istore_n (lv' := [(3, .int 0), (0, .ref (ad_m 0)), (1, .int v1), (2, .int v2)]) hx hb dX7_align_30 rfl hl (by decide) rfl (fun ls hl => ?_)
      refine lv_iconst (v := 0) hx hb dX7_align_31 (by decide) ?_
      refine lv_istore (lv' := [(4, .int 0), (3, .int 0), (0, .ref (ad_m 0)), (1, .int v1), (2, .int v2)]) hx hb dX7_align_32 hl (by decide) rfl (fun ls hl => ?_)
      refine lv_iconst (v := 0) hx hb dX7_align_34 (by decide) ?_
      refine lv_istore (lv' := [(5, .int 0), (4, .int 0), (3, .int 0), (0, .ref (ad_m 0)), (1, .int v1), (2, .int v2)]) hx hb dX7_align_35 hl (by decide) rfl (fun ls hl => ?_)
      refine lv_iconst (v := 0) hx hb dX7_align_37 (by decide) ?_
      refine lv_istore (lv' := [(6, .int 0), (5, .int 0), (4, .int 0), (3, .int 0), (0, .ref (ad_m 0)), (1, .int v1), (2, .int v2)]) hx hb dX7_align_38 hl (by decide) rfl (fun ls hl => ?_)
      obtain ⟨nf, h⟩ := h
      exact ml_X7_align_40 G hK hN hA m_rolls m_pitch m_first m_length m_items m_itemPitch m_itemStep v1 v2 post nf 0 0 0 0 0 a3 z4 a5 a6 z7 z8 h H locs hP hD hS ls (lv_sub hl [4, 6, 3, 2, 1, 0] rfl)
    · have h := h.2 hc
      refine lv_iconst (v := (-1)) hx hb dX7_align_22 (by decide) ?_
      exact gl_ireti G hK (u := (0, m_order, m_many, m_ends, m_noteOf, m_cost, m_extra)) hP hD hS h dX7_align_23
set_option maxRecDepth 100000 in
theorem mt_X7_align (l : Launch) (D : va_G) (cI cZ cR : ClassId) (ad_m : Nat → Nat) (sz : Nat) (m_thrown : Int32) (m_rolls : Int32) (m_pitch : Nat → Int32) (m_first : Nat → Int32) (m_length : Nat → Int32) (m_marks : Nat → Int32) (m_markStep : Nat → Int32) (m_markTicks : Nat → Int32) (m_table : Nat → Int32) (m_order : Nat → Int32) (m_many : Int32) (m_heard : Int32) (m_pressed : Int32) (m_silents : Int32) (m_items : Int32) (m_itemPitch : Nat → Int32) (m_itemStep : Nat → Int32) (m_ends : Nat → Int32) (m_noteOf : Nat → Int32) (m_cost : Int32) (m_extra : Int32) (m_slotOf : Nat → Int32) (m_sights : Int32) (m_sightCopy : Nat → Int32) (m_sightPitch : Nat → Int32) (m_isFaulty : Nat → Int32) (m_least : Int32) (m_greatest : Int32) (m_lines : Int32) (m_lineCopy : Nat → Int32) (m_lineDay : Nat → Int32) (m_linePlace : Nat → Int32) (m_lineTold : Nat → Int32) (m_now : Int32) (v1 : Int32) (v2 : Int32) (post : Int32 → Int32 → (Nat → Int32) → Int32 → (Nat → Int32) → (Nat → Int32) → Int32 → Int32 → Prop) (h : wp_X7_align m_rolls m_pitch m_first m_length m_items m_itemPitch m_itemStep v1 v2 m_thrown m_order m_many m_ends m_noteOf m_cost m_extra post) : Met l yX7_align wsX7_align ({ frames := 3, cells := 0, slots := 0, locals := 69 }) (gPc D (gT cI cZ cR) (w_M cI cZ cR ad_m m_thrown m_rolls m_pitch m_first m_length m_marks m_markStep m_markTicks m_table m_order m_many m_heard m_pressed m_silents m_items m_itemPitch m_itemStep m_ends m_noteOf m_cost m_extra m_slotOf m_sights m_sightCopy m_sightPitch m_isFaulty m_least m_greatest m_lines m_lineCopy m_lineDay m_linePlace m_lineTold m_now) sz [.ref (ad_m 0), .int v1, .int v2]) (va_Qi (fun (r : Int32) (u : (Int32) × (Nat → Int32) × (Int32) × (Nat → Int32) × (Nat → Int32) × (Int32) × (Int32)) => post r u.1 u.2.1 u.2.2.1 u.2.2.2.1 u.2.2.2.2.1 u.2.2.2.2.2.1 u.2.2.2.2.2.2) (fun u t => gB D (gT cI cZ cR) (va_A (w_M cI cZ cR ad_m m_thrown m_rolls m_pitch m_first m_length m_marks m_markStep m_markTicks m_table m_order m_many m_heard m_pressed m_silents m_items m_itemPitch m_itemStep m_ends m_noteOf m_cost m_extra m_slotOf m_sights m_sightCopy m_sightPitch m_isFaulty m_least m_greatest m_lines m_lineCopy m_lineDay m_linePlace m_lineTold m_now) sz) (w_M cI cZ cR ad_m u.1 m_rolls m_pitch m_first m_length m_marks m_markStep m_markTicks m_table u.2.1 u.2.2.1 m_heard m_pressed m_silents m_items m_itemPitch m_itemStep u.2.2.2.1 u.2.2.2.2.1 u.2.2.2.2.2.1 u.2.2.2.2.2.2 m_slotOf m_sights m_sightCopy m_sightPitch m_isFaulty m_least m_greatest m_lines m_lineCopy m_lineDay m_linePlace m_lineTold m_now) t) (va_A (w_M cI cZ cR ad_m m_thrown m_rolls m_pitch m_first m_length m_marks m_markStep m_markTicks m_table m_order m_many m_heard m_pressed m_silents m_items m_itemPitch m_itemStep m_ends m_noteOf m_cost m_extra m_slotOf m_sights m_sightCopy m_sightPitch m_isFaulty m_least m_greatest m_lines m_lineCopy m_lineDay m_linePlace m_lineTold m_now) sz)) 0 0 (va_A (w_M cI cZ cR ad_m m_thrown m_rolls m_pitch m_first m_length m_marks m_markStep m_markTicks m_table m_order m_many m_heard m_pressed m_silents m_items m_itemPitch m_itemStep m_ends m_noteOf m_cost m_extra m_slotOf m_sights m_sightCopy m_sightPitch m_isFaulty m_least m_greatest m_lines m_lineCopy m_lineDay m_linePlace m_lineTold m_now) sz) := by
  refine gl_entry (cc := cX7_align) (maxL := 8) (ret := (some .int)) (by decide) rfl (Nat.le_of_ble_eq_true rfl) ?_
  intro p e s m below meth c ls G hin hsz hK hN hP hD hl
  subst hsz
  exact ml_X7_align_0 G hK hN (fun q h => Or.inr h) m_rolls m_pitch m_first m_length m_items m_itemPitch m_itemStep v1 v2 post m_thrown m_order m_many m_ends m_noteOf m_cost m_extra h s.heap [] hP hD va_S.rf ls hl
theorem lk_X7_paired_0 : (Cond.fieldLink RX7 71 "RollHouseModel" "thrown" "I") ∈ wsX7_paired := by decide +kernel
theorem lk_X7_paired_1 : (Cond.fieldLink RX7 152 "RollHouseModel" "items" "I") ∈ wsX7_paired := by decide +kernel
theorem lk_X7_paired_2 : (Cond.fieldLink RX7 44 "RollHouseModel" "noteOf" "[I") ∈ wsX7_paired := by decide +kernel
theorem us_X7_paired_X7 : ∀ w ∈ u_ws RX7 TX7 34, w ∈ wsX7_paired := by decide +kernel
def wp_X7_paired (m_rolls : Int32) (m_pitch : Nat → Int32) (m_first : Nat → Int32) (m_length : Nat → Int32) (m_items : Int32) (m_itemPitch : Nat → Int32) (m_itemStep : Nat → Int32) (v1 : Int32) (v2 : Int32) (m_thrown : Int32) (m_order : Nat → Int32) (m_many : Int32) (m_ends : Nat → Int32) (m_noteOf : Nat → Int32) (m_cost : Int32) (m_extra : Int32) (post : Int32 → Int32 → (Nat → Int32) → Int32 → (Nat → Int32) → (Nat → Int32) → Int32 → Int32 → Prop) : Prop := (wp_X7_isRoll m_rolls v1 (fun (r1 : Int32) => ((r1 = 0 → post (-1) 0 m_order m_many m_ends m_noteOf m_cost m_extra) ∧ (¬ r1 = 0 → (wp_X7_within v2 0 (m_items - 1) (fun (r2 : Int32) => ((¬ r2 = 0 → (wp_X7_aligns m_pitch m_first m_length m_items m_itemPitch m_itemStep v1 m_order m_many m_ends m_noteOf m_cost m_extra (fun (a3 : Nat → Int32) (z4 : Int32) (a5 : Nat → Int32) (a6 : Nat → Int32) (z7 : Int32) (z8 : Int32) => (vp_in v2 40 ∧ post (a6 v2.toNatClampNeg) 0 a3 z4 a5 a6 z7 z8)))) ∧ (r2 = 0 → post (-1) 0 m_order m_many m_ends m_noteOf m_cost m_extra))))))))
set_option maxRecDepth 100000 in
set_option maxHeartbeats 4000000 in
theorem ml_X7_paired_0 {p : Program} {l : Launch} {e : Env} {s : State} {m : MethodId} {args : Array Value} {below : List Frame} {meth : Method} {c : Code} {D : va_G} {cI cZ cR : ClassId} {A : Nat → Prop} {ad_m : Nat → Nat} {m_marks : Nat → Int32} {m_markStep : Nat → Int32} {m_markTicks : Nat → Int32} {m_table : Nat → Int32} {m_heard : Int32} {m_pressed : Int32} {m_silents : Int32} {m_slotOf : Nat → Int32} {m_sights : Int32} {m_sightCopy : Nat → Int32} {m_sightPitch : Nat → Int32} {m_isFaulty : Nat → Int32} {m_least : Int32} {m_greatest : Int32} {m_lines : Int32} {m_lineCopy : Nat → Int32} {m_lineDay : Nat → Int32} {m_linePlace : Nat → Int32} {m_lineTold : Nat → Int32} {m_now : Int32} (G : gG p s m args meth c cX7_paired (some .int) 3 RX7 wsX7_paired) (hK : va_K D vwCl (gT cI cZ cR) s) (hN : va_Nw gN s) (hA : ∀ q, s.heap.size ≤ q → A q) (m_rolls : Int32) (m_pitch : Nat → Int32) (m_first : Nat → Int32) (m_length : Nat → Int32) (m_items : Int32) (m_itemPitch : Nat → Int32) (m_itemStep : Nat → Int32) (v1 : Int32) (v2 : Int32) (post : Int32 → Int32 → (Nat → Int32) → Int32 → (Nat → Int32) → (Nat → Int32) → Int32 → Int32 → Prop) (m_thrown : Int32) (m_order : Nat → Int32) (m_many : Int32) (m_ends : Nat → Int32) (m_noteOf : Nat → Int32) (m_cost : Int32) (m_extra : Int32) (h : wp_X7_paired m_rolls m_pitch m_first m_length m_items m_itemPitch m_itemStep v1 v2 m_thrown m_order m_many m_ends m_noteOf m_cost m_extra post) : ∀ (H : Heap) (locs : List Loc), va_P D vwCl (w_M cI cZ cR ad_m m_thrown m_rolls m_pitch m_first m_length m_marks m_markStep m_markTicks m_table m_order m_many m_heard m_pressed m_silents m_items m_itemPitch m_itemStep m_ends m_noteOf m_cost m_extra m_slotOf m_sights m_sightCopy m_sightPitch m_isFaulty m_least m_greatest m_lines m_lineCopy m_lineDay m_linePlace m_lineTold m_now) H → va_D A (w_M cI cZ cR ad_m m_thrown m_rolls m_pitch m_first m_length m_marks m_markStep m_markTicks m_table m_order m_many m_heard m_pressed m_silents m_items m_itemPitch m_itemStep m_ends m_noteOf m_cost m_extra m_slotOf m_sights m_sightCopy m_sightPitch m_isFaulty m_least m_greatest m_lines m_lineCopy m_lineDay m_linePlace m_lineTold m_now) → va_S A s.heap H locs → ∀ (ls : Array Slot), lv_has ls 3 [(0, .ref (ad_m 0)), (1, .int v1), (2, .int v2)] → W p l e { frames := 3, cells := 0, slots := 0, locals := 69 } s m args below meth c H locs 0 0 (MQ below (va_Qi (fun (r : Int32) (u : (Int32) × (Nat → Int32) × (Int32) × (Nat → Int32) × (Nat → Int32) × (Int32) × (Int32)) => post r u.1 u.2.1 u.2.2.1 u.2.2.2.1 u.2.2.2.2.1 u.2.2.2.2.2.1 u.2.2.2.2.2.2) (fun u t => gB D (gT cI cZ cR) A (w_M cI cZ cR ad_m u.1 m_rolls m_pitch m_first m_length m_marks m_markStep m_markTicks m_table u.2.1 u.2.2.1 m_heard m_pressed m_silents m_items m_itemPitch m_itemStep u.2.2.2.1 u.2.2.2.2.1 u.2.2.2.2.2.1 u.2.2.2.2.2.2 m_slotOf m_sights m_sightCopy m_sightPitch m_isFaulty m_least m_greatest m_lines m_lineCopy m_lineDay m_linePlace m_lineTold m_now) t) A) args s 0 0 A) (F0 m 0 ls []) := by
  obtain ⟨hx, hb, hr, hml, hown, hts, hlocks⟩ := id G
  intro H locs hP hD hS ls hl
  unfold wp_X7_paired at h
  refine lv_aload_n hx hb dX7_paired_0 rfl (lv_at hl 0 rfl) ?_
  refine lv_iconst (v := 0) hx hb dX7_paired_1 (by decide) ?_
  refine va_put (D := D) (ci := 7) (v := .int 0) (ty := .int) (C := RX7) (T := TX7) (N := 34) hx hb hts us_X7_paired_X7 tyX7 tyX7_ok nmX7 hown hK hP hD hS 0 rfl rfl 0 (by decide) (hts (.fieldLink RX7 71 "RollHouseModel" "thrown" "I") lk_X7_paired_0) (fun _ h9 => h9) rfl (by decide +kernel) rfl rfl (Nat.le_of_ble_eq_true rfl) dX7_paired_2 (fun H locs hP hD hS => ?_)
  have hP : va_P D vwCl (w_M cI cZ cR ad_m 0 m_rolls m_pitch m_first m_length m_marks m_markStep m_markTicks m_table m_order m_many m_heard m_pressed m_silents m_items m_itemPitch m_itemStep m_ends m_noteOf m_cost m_extra m_slotOf m_sights m_sightCopy m_sightPitch m_isFaulty m_least m_greatest m_lines m_lineCopy m_lineDay m_linePlace m_lineTold m_now) H := hP
  have hD : va_D A (w_M cI cZ cR ad_m 0 m_rolls m_pitch m_first m_length m_marks m_markStep m_markTicks m_table m_order m_many m_heard m_pressed m_silents m_items m_itemPitch m_itemStep m_ends m_noteOf m_cost m_extra m_slotOf m_sights m_sightCopy m_sightPitch m_isFaulty m_least m_greatest m_lines m_lineCopy m_lineDay m_linePlace m_lineTold m_now) := hD
  refine lv_aload_n hx hb dX7_paired_5 rfl (lv_at hl 0 rfl) ?_
  refine lv_iload_n hx hb dX7_paired_6 rfl (lv_at hl 1 rfl) ?_
  refine gl_calliF (va_runV (As := [.int v1]) (rest := []) ⟨hx, hb, hml, hown, hts⟩ (mt_X7_isRoll l D cI cZ cR ad_m H.size 0 m_rolls m_pitch m_first m_length m_marks m_markStep m_markTicks m_table m_order m_many m_heard m_pressed m_silents m_items m_itemPitch m_itemStep m_ends m_noteOf m_cost m_extra m_slotOf m_sights m_sightCopy m_sightPitch m_isFaulty m_least m_greatest m_lines m_lineCopy m_lineDay m_linePlace m_lineTold m_now v1 _ h) (cwV 1 hts gX7_paired_X7_isRoll rfl rfl rfl (by decide +kernel) ⟨Nat.le_of_ble_eq_true rfl, Nat.le_of_ble_eq_true rfl⟩) ⟨gl_blind, va_recv hK hP (ci := 7) (q0 := 0) rfl rfl, gl_pre hP hK hN hD⟩ rfl rfl hl.1 rfl (lv_room (Nat.le_of_ble_eq_true rfl)) dX7_paired_7 ⟨Nat.le_of_ble_eq_true rfl, Nat.le_of_ble_eq_true rfl⟩) hD hS hA (fun r1 u H locs h hP hD hS => ?_)
  try dsimp only at h
  refine lv_if_eq (tgt := 27) hx hb dX7_paired_10 (by decide) (fun hc => ?_) (fun hc => ?_)
  · have h := h.1 hc
    refine lv_iconst (v := (-1)) hx hb dX7_paired_27 (by decide) ?_
    exact gl_ireti G hK (u := (0, m_order, m_many, m_ends, m_noteOf, m_cost, m_extra)) hP hD hS h dX7_paired_28
  · have h := h.2 hc
    refine lv_iload_n hx hb dX7_paired_13 rfl (lv_at hl 2 rfl) ?_
    refine lv_iconst (v := 0) hx hb dX7_paired_14 (by decide) ?_
    refine lv_aload_n hx hb dX7_paired_15 rfl (lv_at hl 0 rfl) ?_
    refine va_get (D := D) (ci := 7) (v := .int m_items) (C := RX7) (T := TX7) (N := 34) hx hb hts us_X7_paired_X7 hown hK hP 0 rfl rfl 14 (by decide) (hts (.fieldLink RX7 152 "RollHouseModel" "items" "I") lk_X7_paired_1) (fun _ h9 => h9) rfl dX7_paired_16 ?_
    refine lv_iconst (v := 1) hx hb dX7_paired_19 (by decide) ?_
    refine lv_isub hx hb dX7_paired_20 ?_
    refine gl_calliS (va_runS (As := [.int v2, .int 0, .int (m_items - 1)]) (rest := []) ⟨hx, hb, hml, hown, hts⟩ (mt_X7_within l D cI cZ cR  H.size v2 0 (m_items - 1) _ h) (va_cwS 3 hts gX7_paired_X7_within rfl rfl rfl (by decide +kernel) ⟨Nat.le_of_ble_eq_true rfl, Nat.le_of_ble_eq_true rfl⟩) ⟨gl_blind, gl_pre gl_nilP hK hN (gl_nilD (A := A))⟩ rfl rfl hl.1 rfl (lv_room (Nat.le_of_ble_eq_true rfl)) dX7_paired_21 ⟨Nat.le_of_ble_eq_true rfl, Nat.le_of_ble_eq_true rfl⟩) hP hS hA (fun r2 u H locs h hP hS => ?_)
    try dsimp only at h
    refine lv_if_ne (tgt := 29) hx hb dX7_paired_24 (by decide) (fun hc => ?_) (fun hc => ?_)
    · have h := h.1 hc
      refine lv_aload_n hx hb dX7_paired_29 rfl (lv_at hl 0 rfl) ?_
      refine lv_iload_n hx hb dX7_paired_30 rfl (lv_at hl 1 rfl) ?_
      refine gl_callvF (va_runV (As := [.int v1]) (rest := []) ⟨hx, hb, hml, hown, hts⟩ (mt_X7_aligns l D cI cZ cR ad_m H.size 0 m_rolls m_pitch m_first m_length m_marks m_markStep m_markTicks m_table m_order m_many m_heard m_pressed m_silents m_items m_itemPitch m_itemStep m_ends m_noteOf m_cost m_extra m_slotOf m_sights m_sightCopy m_sightPitch m_isFaulty m_least m_greatest m_lines m_lineCopy m_lineDay m_linePlace m_lineTold m_now v1 _ h) (cwV 1 hts gX7_paired_X7_aligns rfl rfl rfl (by decide +kernel) ⟨Nat.le_of_ble_eq_true rfl, Nat.le_of_ble_eq_true rfl⟩) ⟨gl_blind, va_recv hK hP (ci := 7) (q0 := 0) rfl rfl, gl_pre hP hK hN hD⟩ rfl rfl hl.1 rfl (lv_room (Nat.le_of_ble_eq_true rfl)) dX7_paired_31 ⟨Nat.le_of_ble_eq_true rfl, Nat.le_of_ble_eq_true rfl⟩) hD hS hA (fun u H locs h hP hD hS => ?_)
      obtain ⟨a3, z4, a5, a6, z7, z8⟩ := u
      try dsimp only at h
      have hP : va_P D vwCl (w_M cI cZ cR ad_m 0 m_rolls m_pitch m_first m_length m_marks m_markStep m_markTicks m_table a3 z4 m_heard m_pressed m_silents m_items m_itemPitch m_itemStep a5 a6 z7 z8 m_slotOf m_sights m_sightCopy m_sightPitch m_isFaulty m_least m_greatest m_lines m_lineCopy m_lineDay m_linePlace m_lineTold m_now) H := hP
      have hD : va_D A (w_M cI cZ cR ad_m 0 m_rolls m_pitch m_first m_length m_marks m_markStep m_markTicks m_table a3 z4 m_heard m_pressed m_silents m_items m_itemPitch m_itemStep a5 a6 z7 z8 m_slotOf m_sights m_sightCopy m_sightPitch m_isFaulty m_least m_greatest m_lines m_lineCopy m_lineDay m_linePlace m_lineTold m_now) := hD
      refine lv_aload_n hx hb dX7_paired_34 rfl (lv_at hl 0 rfl) ?_
      refine va_get (D := D) (ci := 7) (v := .ref (ad_m 12)) (C := RX7) (T := TX7) (N := 34) hx hb hts us_X7_paired_X7 hown hK hP 0 rfl rfl 18 (by decide) (hts (.fieldLink RX7 44 "RollHouseModel" "noteOf" "[I") lk_X7_paired_2) (fun _ h9 => h9) rfl dX7_paired_35 ?_
      refine lv_iload_n hx hb dX7_paired_38 rfl (lv_at hl 2 rfl) ?_
      obtain ⟨hin, h⟩ := h
      refine va_iald hx hb hK hP 12 0 rfl rfl hin dX7_paired_39 ?_
      exact gl_ireti G hK (u := (0, a3, z4, a5, a6, z7, z8)) hP hD hS h dX7_paired_40
    · have h := h.2 hc
      refine lv_iconst (v := (-1)) hx hb dX7_paired_27 (by decide) ?_
      exact gl_ireti G hK (u := (0, m_order, m_many, m_ends, m_noteOf, m_cost, m_extra)) hP hD hS h dX7_paired_28
set_option maxRecDepth 100000 in
theorem mt_X7_paired (l : Launch) (D : va_G) (cI cZ cR : ClassId) (ad_m : Nat → Nat) (sz : Nat) (m_thrown : Int32) (m_rolls : Int32) (m_pitch : Nat → Int32) (m_first : Nat → Int32) (m_length : Nat → Int32) (m_marks : Nat → Int32) (m_markStep : Nat → Int32) (m_markTicks : Nat → Int32) (m_table : Nat → Int32) (m_order : Nat → Int32) (m_many : Int32) (m_heard : Int32) (m_pressed : Int32) (m_silents : Int32) (m_items : Int32) (m_itemPitch : Nat → Int32) (m_itemStep : Nat → Int32) (m_ends : Nat → Int32) (m_noteOf : Nat → Int32) (m_cost : Int32) (m_extra : Int32) (m_slotOf : Nat → Int32) (m_sights : Int32) (m_sightCopy : Nat → Int32) (m_sightPitch : Nat → Int32) (m_isFaulty : Nat → Int32) (m_least : Int32) (m_greatest : Int32) (m_lines : Int32) (m_lineCopy : Nat → Int32) (m_lineDay : Nat → Int32) (m_linePlace : Nat → Int32) (m_lineTold : Nat → Int32) (m_now : Int32) (v1 : Int32) (v2 : Int32) (post : Int32 → Int32 → (Nat → Int32) → Int32 → (Nat → Int32) → (Nat → Int32) → Int32 → Int32 → Prop) (h : wp_X7_paired m_rolls m_pitch m_first m_length m_items m_itemPitch m_itemStep v1 v2 m_thrown m_order m_many m_ends m_noteOf m_cost m_extra post) : Met l yX7_paired wsX7_paired ({ frames := 3, cells := 0, slots := 0, locals := 69 }) (gPc D (gT cI cZ cR) (w_M cI cZ cR ad_m m_thrown m_rolls m_pitch m_first m_length m_marks m_markStep m_markTicks m_table m_order m_many m_heard m_pressed m_silents m_items m_itemPitch m_itemStep m_ends m_noteOf m_cost m_extra m_slotOf m_sights m_sightCopy m_sightPitch m_isFaulty m_least m_greatest m_lines m_lineCopy m_lineDay m_linePlace m_lineTold m_now) sz [.ref (ad_m 0), .int v1, .int v2]) (va_Qi (fun (r : Int32) (u : (Int32) × (Nat → Int32) × (Int32) × (Nat → Int32) × (Nat → Int32) × (Int32) × (Int32)) => post r u.1 u.2.1 u.2.2.1 u.2.2.2.1 u.2.2.2.2.1 u.2.2.2.2.2.1 u.2.2.2.2.2.2) (fun u t => gB D (gT cI cZ cR) (va_A (w_M cI cZ cR ad_m m_thrown m_rolls m_pitch m_first m_length m_marks m_markStep m_markTicks m_table m_order m_many m_heard m_pressed m_silents m_items m_itemPitch m_itemStep m_ends m_noteOf m_cost m_extra m_slotOf m_sights m_sightCopy m_sightPitch m_isFaulty m_least m_greatest m_lines m_lineCopy m_lineDay m_linePlace m_lineTold m_now) sz) (w_M cI cZ cR ad_m u.1 m_rolls m_pitch m_first m_length m_marks m_markStep m_markTicks m_table u.2.1 u.2.2.1 m_heard m_pressed m_silents m_items m_itemPitch m_itemStep u.2.2.2.1 u.2.2.2.2.1 u.2.2.2.2.2.1 u.2.2.2.2.2.2 m_slotOf m_sights m_sightCopy m_sightPitch m_isFaulty m_least m_greatest m_lines m_lineCopy m_lineDay m_linePlace m_lineTold m_now) t) (va_A (w_M cI cZ cR ad_m m_thrown m_rolls m_pitch m_first m_length m_marks m_markStep m_markTicks m_table m_order m_many m_heard m_pressed m_silents m_items m_itemPitch m_itemStep m_ends m_noteOf m_cost m_extra m_slotOf m_sights m_sightCopy m_sightPitch m_isFaulty m_least m_greatest m_lines m_lineCopy m_lineDay m_linePlace m_lineTold m_now) sz)) 0 0 (va_A (w_M cI cZ cR ad_m m_thrown m_rolls m_pitch m_first m_length m_marks m_markStep m_markTicks m_table m_order m_many m_heard m_pressed m_silents m_items m_itemPitch m_itemStep m_ends m_noteOf m_cost m_extra m_slotOf m_sights m_sightCopy m_sightPitch m_isFaulty m_least m_greatest m_lines m_lineCopy m_lineDay m_linePlace m_lineTold m_now) sz) := by
  refine gl_entry (cc := cX7_paired) (maxL := 3) (ret := (some .int)) (by decide) rfl (Nat.le_of_ble_eq_true rfl) ?_
  intro p e s m below meth c ls G hin hsz hK hN hP hD hl
  subst hsz
  exact ml_X7_paired_0 G hK hN (fun q h => Or.inr h) m_rolls m_pitch m_first m_length m_items m_itemPitch m_itemStep v1 v2 post m_thrown m_order m_many m_ends m_noteOf m_cost m_extra h s.heap [] hP hD va_S.rf ls hl
theorem lk_X7_mends_0 : (Cond.fieldLink RX7 7 "RollHouseModel" "pitch" "[I") ∈ wsX7_mends := by decide +kernel
theorem lk_X7_mends_1 : (Cond.fieldLink RX7 13 "RollHouseModel" "first" "[I") ∈ wsX7_mends := by decide +kernel
theorem lk_X7_mends_2 : (Cond.fieldLink RX7 16 "RollHouseModel" "length" "[I") ∈ wsX7_mends := by decide +kernel
theorem us_X7_mends_X7 : ∀ w ∈ u_ws RX7 TX7 34, w ∈ wsX7_mends := by decide +kernel
def wl_X7_mends_14 (m_first : Nat → Int32) (m_length : Nat → Int32) (v1 : Int32) (v2 : Int32) (v3 : Int32) (post : Int32 → (Nat → Int32) → (Nat → Int32) → Prop) : Nat → (Int32) → (Int32) → (Nat → Int32) → (Nat → Int32) → Prop
  | 0, _, _, _, _ => False
  | fu + 1, v4, v5, m_pitch, m_table => ((((60 * v1) + 60) ≤ v5 → (vp_in v2 360 ∧ (∀ a3 : Nat → Int32, a3 = upd m_pitch v2.toNatClampNeg v3 → (vp_in v2 360 ∧ (vp_in v2 360 ∧ (vp_in v2 360 ∧ (∀ z4 : Int32, z4 = ((m_first v2.toNatClampNeg) + (m_length v2.toNatClampNeg)) - 1 → (wp_X7_bears a3 m_first m_length v1 (m_first v2.toNatClampNeg) z4 m_table (fun (r5 : Int32) (a6 : Nat → Int32) => ((r5 = 0 → (vp_in v2 360 ∧ (∀ a7 : Nat → Int32, a7 = upd a3 v2.toNatClampNeg v4 → post 0 a7 a6))) ∧ (¬ r5 = 0 → post 1 a3 a6))))))))))) ∧ (¬ ((60 * v1) + 60) ≤ v5 → ((v5 = v2 → wl_X7_mends_14 m_first m_length v1 v2 v3 post fu v4 (v5 + 1) m_pitch m_table) ∧ (¬ v5 = v2 → (vp_in v5 360 ∧ (((m_length v5.toNatClampNeg) ≤ 0 → wl_X7_mends_14 m_first m_length v1 v2 v3 post fu v4 (v5 + 1) m_pitch m_table) ∧ (¬ (m_length v5.toNatClampNeg) ≤ 0 → (vp_in v5 360 ∧ ((¬ (m_pitch v5.toNatClampNeg) = v3 → wl_X7_mends_14 m_first m_length v1 v2 v3 post fu v4 (v5 + 1) m_pitch m_table) ∧ ((m_pitch v5.toNatClampNeg) = v3 → (vp_in v2 360 ∧ (vp_in v5 360 ∧ (vp_in v5 360 ∧ (∀ z8 : Int32, z8 = ((m_first v5.toNatClampNeg) + (m_length v5.toNatClampNeg)) + 1 → ((z8 ≤ (m_first v2.toNatClampNeg) → wl_X7_mends_14 m_first m_length v1 v2 v3 post fu v4 (v5 + 1) m_pitch m_table) ∧ (¬ z8 ≤ (m_first v2.toNatClampNeg) → (vp_in v5 360 ∧ (vp_in v2 360 ∧ (vp_in v2 360 ∧ (∀ z9 : Int32, z9 = ((m_first v2.toNatClampNeg) + (m_length v2.toNatClampNeg)) + 1 → ((z9 ≤ (m_first v5.toNatClampNeg) → wl_X7_mends_14 m_first m_length v1 v2 v3 post fu v4 (v5 + 1) m_pitch m_table) ∧ (¬ z9 ≤ (m_first v5.toNatClampNeg) → post 0 m_pitch m_table))))))))))))))))))))))
def wp_X7_mends (m_first : Nat → Int32) (m_length : Nat → Int32) (v1 : Int32) (v2 : Int32) (v3 : Int32) (m_pitch : Nat → Int32) (m_table : Nat → Int32) (post : Int32 → (Nat → Int32) → (Nat → Int32) → Prop) : Prop := (vp_in v2 360 ∧ (∀ z1 : Int32, z1 = m_pitch v2.toNatClampNeg → (∀ z2 : Int32, z2 = 60 * v1 → (∃ n, wl_X7_mends_14 m_first m_length v1 v2 v3 post n z1 z2 m_pitch m_table))))
set_option maxRecDepth 100000 in
set_option maxHeartbeats 4000000 in
theorem ml_X7_mends_14 {p : Program} {l : Launch} {e : Env} {s : State} {m : MethodId} {args : Array Value} {below : List Frame} {meth : Method} {c : Code} {D : va_G} {cI cZ cR : ClassId} {A : Nat → Prop} {ad_m : Nat → Nat} {m_thrown : Int32} {m_rolls : Int32} {m_marks : Nat → Int32} {m_markStep : Nat → Int32} {m_markTicks : Nat → Int32} {m_order : Nat → Int32} {m_many : Int32} {m_heard : Int32} {m_pressed : Int32} {m_silents : Int32} {m_items : Int32} {m_itemPitch : Nat → Int32} {m_itemStep : Nat → Int32} {m_ends : Nat → Int32} {m_noteOf : Nat → Int32} {m_cost : Int32} {m_extra : Int32} {m_slotOf : Nat → Int32} {m_sights : Int32} {m_sightCopy : Nat → Int32} {m_sightPitch : Nat → Int32} {m_isFaulty : Nat → Int32} {m_least : Int32} {m_greatest : Int32} {m_lines : Int32} {m_lineCopy : Nat → Int32} {m_lineDay : Nat → Int32} {m_linePlace : Nat → Int32} {m_lineTold : Nat → Int32} {m_now : Int32} (G : gG p s m args meth c cX7_mends (some .boolean) 6 RX7 wsX7_mends) (hK : va_K D vwCl (gT cI cZ cR) s) (hN : va_Nw gN s) (hA : ∀ q, s.heap.size ≤ q → A q) (m_first : Nat → Int32) (m_length : Nat → Int32) (v1 : Int32) (v2 : Int32) (v3 : Int32) (post : Int32 → (Nat → Int32) → (Nat → Int32) → Prop) : ∀ (fu : Nat) (v4 : Int32) (v5 : Int32) (m_pitch : Nat → Int32) (m_table : Nat → Int32), wl_X7_mends_14 m_first m_length v1 v2 v3 post fu v4 v5 m_pitch m_table → ∀ (H : Heap) (locs : List Loc), va_P D vwCl (w_M cI cZ cR ad_m m_thrown m_rolls m_pitch m_first m_length m_marks m_markStep m_markTicks m_table m_order m_many m_heard m_pressed m_silents m_items m_itemPitch m_itemStep m_ends m_noteOf m_cost m_extra m_slotOf m_sights m_sightCopy m_sightPitch m_isFaulty m_least m_greatest m_lines m_lineCopy m_lineDay m_linePlace m_lineTold m_now) H → va_D A (w_M cI cZ cR ad_m m_thrown m_rolls m_pitch m_first m_length m_marks m_markStep m_markTicks m_table m_order m_many m_heard m_pressed m_silents m_items m_itemPitch m_itemStep m_ends m_noteOf m_cost m_extra m_slotOf m_sights m_sightCopy m_sightPitch m_isFaulty m_least m_greatest m_lines m_lineCopy m_lineDay m_linePlace m_lineTold m_now) → va_S A s.heap H locs → ∀ (ls : Array Slot), lv_has ls 6 [(0, .ref (ad_m 0)), (1, .int v1), (2, .int v2), (3, .int v3), (4, .int v4), (5, .int v5)] → W p l e { frames := 5, cells := 0, slots := 0, locals := 118 } s m args below meth c H locs 0 0 (MQ below (va_Qi (fun (r : Int32) (u : (Nat → Int32) × (Nat → Int32)) => post r u.1 u.2) (fun u t => gB D (gT cI cZ cR) A (w_M cI cZ cR ad_m m_thrown m_rolls u.1 m_first m_length m_marks m_markStep m_markTicks u.2 m_order m_many m_heard m_pressed m_silents m_items m_itemPitch m_itemStep m_ends m_noteOf m_cost m_extra m_slotOf m_sights m_sightCopy m_sightPitch m_isFaulty m_least m_greatest m_lines m_lineCopy m_lineDay m_linePlace m_lineTold m_now) t) A) args s 0 0 A) (F0 m 14 ls []) := by
  obtain ⟨hx, hb, hr, hml, hown, hts, hlocks⟩ := id G
  intro fu
  induction fu with
  | zero =>
    intro v4 v5 m_pitch m_table h
    exact h.elim
  | succ fu ih =>
    intro v4 v5 m_pitch m_table h H locs hP hD hS ls hl
    rw [wl_X7_mends_14] at h
    refine lv_iload hx hb dX7_mends_14 (lv_at hl 5 rfl) ?_
    refine lv_bipush (v := 60) hx hb dX7_mends_16 (by decide) ?_
    refine lv_iload_n hx hb dX7_mends_18 rfl (lv_at hl 1 rfl) ?_
    refine lv_imul hx hb dX7_mends_19 ?_
    refine lv_bipush (v := 60) hx hb dX7_mends_20 (by decide) ?_
    refine lv_iadd hx hb dX7_mends_22 ?_
    refine lv_icmp_ge (tgt := 112) hx hb dX7_mends_23 (by decide) (fun hc => ?_) (fun hc => ?_)
    · have h := h.1 hc
      refine lv_aload_n hx hb dX7_mends_112 rfl (lv_at hl 0 rfl) ?_
      refine va_get (D := D) (ci := 7) (v := .ref (ad_m 1)) (C := RX7) (T := TX7) (N := 34) hx hb hts us_X7_mends_X7 hown hK hP 0 rfl rfl 2 (by decide) (hts (.fieldLink RX7 7 "RollHouseModel" "pitch" "[I") lk_X7_mends_0) (fun _ h9 => h9) rfl dX7_mends_113 ?_
      refine lv_iload_n hx hb dX7_mends_116 rfl (lv_at hl 2 rfl) ?_
      refine lv_iload_n hx hb dX7_mends_117 rfl (lv_at hl 3 rfl) ?_
      obtain ⟨hin, h⟩ := h
      refine va_iast hx hb hK hP hD hS 1 0 rfl rfl hin dX7_mends_118 (fun H locs hP hD hS => ?_)
      obtain ⟨a3, ea3⟩ : ∃ f, f = upd m_pitch v2.toNatClampNeg v3 := ⟨_, rfl⟩
      have h := h a3 ea3
      rw [← ea3] at hP hD
      have hP : va_P D vwCl (w_M cI cZ cR ad_m m_thrown m_rolls a3 m_first m_length m_marks m_markStep m_markTicks m_table m_order m_many m_heard m_pressed m_silents m_items m_itemPitch m_itemStep m_ends m_noteOf m_cost m_extra m_slotOf m_sights m_sightCopy m_sightPitch m_isFaulty m_least m_greatest m_lines m_lineCopy m_lineDay m_linePlace m_lineTold m_now) H := hP
      have hD : va_D A (w_M cI cZ cR ad_m m_thrown m_rolls a3 m_first m_length m_marks m_markStep m_markTicks m_table m_order m_many m_heard m_pressed m_silents m_items m_itemPitch m_itemStep m_ends m_noteOf m_cost m_extra m_slotOf m_sights m_sightCopy m_sightPitch m_isFaulty m_least m_greatest m_lines m_lineCopy m_lineDay m_linePlace m_lineTold m_now) := hD
      refine lv_aload_n hx hb dX7_mends_119 rfl (lv_at hl 0 rfl) ?_
      refine lv_iload_n hx hb dX7_mends_120 rfl (lv_at hl 1 rfl) ?_
      refine lv_aload_n hx hb dX7_mends_121 rfl (lv_at hl 0 rfl) ?_
      refine va_get (D := D) (ci := 7) (v := .ref (ad_m 2)) (C := RX7) (T := TX7) (N := 34) hx hb hts us_X7_mends_X7 hown hK hP 0 rfl rfl 3 (by decide) (hts (.fieldLink RX7 13 "RollHouseModel" "first" "[I") lk_X7_mends_1) (fun _ h9 => h9) rfl dX7_mends_122 ?_
      refine lv_iload_n hx hb dX7_mends_125 rfl (lv_at hl 2 rfl) ?_
      obtain ⟨hin, h⟩ := h
      refine va_iald hx hb hK hP 2 0 rfl rfl hin dX7_mends_126 ?_
      refine lv_aload_n hx hb dX7_mends_127 rfl (lv_at hl 0 rfl) ?_
      refine va_get (D := D) (ci := 7) (v := .ref (ad_m 2)) (C := RX7) (T := TX7) (N := 34) hx hb hts us_X7_mends_X7 hown hK hP 0 rfl rfl 3 (by decide) (hts (.fieldLink RX7 13 "RollHouseModel" "first" "[I") lk_X7_mends_1) (fun _ h9 => h9) rfl dX7_mends_128 ?_
      refine lv_iload_n hx hb dX7_mends_131 rfl (lv_at hl 2 rfl) ?_
      obtain ⟨hin, h⟩ := h
      refine va_iald hx hb hK hP 2 0 rfl rfl hin dX7_mends_132 ?_
      refine lv_aload_n hx hb dX7_mends_133 rfl (lv_at hl 0 rfl) ?_
      refine va_get (D := D) (ci := 7) (v := .ref (ad_m 3)) (C := RX7) (T := TX7) (N := 34) hx hb hts us_X7_mends_X7 hown hK hP 0 rfl rfl 4 (by decide) (hts (.fieldLink RX7 16 "RollHouseModel" "length" "[I") lk_X7_mends_2) (fun _ h9 => h9) rfl dX7_mends_134 ?_
      refine lv_iload_n hx hb dX7_mends_137 rfl (lv_at hl 2 rfl) ?_
      obtain ⟨hin, h⟩ := h
      refine va_iald hx hb hK hP 3 0 rfl rfl hin dX7_mends_138 ?_
      refine lv_iadd hx hb dX7_mends_139 ?_
      refine lv_iconst (v := 1) hx hb dX7_mends_140 (by decide) ?_
      refine lv_isub hx hb dX7_mends_141 ?_
      refine lv_topi (fun z4 ez4 => ?_)
      have h := h z4 ez4
      refine gl_calliF (va_runV (As := [.int v1, .int (m_first v2.toNatClampNeg), .int z4]) (rest := []) ⟨hx, hb, hml, hown, hts⟩ (mt_X7_bears l D cI cZ cR ad_m H.size m_thrown m_rolls a3 m_first m_length m_marks m_markStep m_markTicks m_table m_order m_many m_heard m_pressed m_silents m_items m_itemPitch m_itemStep m_ends m_noteOf m_cost m_extra m_slotOf m_sights m_sightCopy m_sightPitch m_isFaulty m_least m_greatest m_lines m_lineCopy m_lineDay m_linePlace m_lineTold m_now v1 (m_first v2.toNatClampNeg) z4 _ h) (cwV 3 hts gX7_mends_X7_bears rfl rfl rfl (by decide +kernel) ⟨Nat.le_of_ble_eq_true rfl, Nat.le_of_ble_eq_true rfl⟩) ⟨gl_blind, va_recv hK hP (ci := 7) (q0 := 0) rfl rfl, gl_pre hP hK hN hD⟩ rfl rfl hl.1 rfl (lv_room (Nat.le_of_ble_eq_true rfl)) dX7_mends_142 ⟨Nat.le_of_ble_eq_true rfl, Nat.le_of_ble_eq_true rfl⟩) hD hS hA (fun r5 u H locs h hP hD hS => ?_)
      obtain ⟨a6, rfl⟩ : ∃ z, z = u := ⟨_, rfl⟩
      have hP : va_P D vwCl (w_M cI cZ cR ad_m m_thrown m_rolls a3 m_first m_length m_marks m_markStep m_markTicks a6 m_order m_many m_heard m_pressed m_silents m_items m_itemPitch m_itemStep m_ends m_noteOf m_cost m_extra m_slotOf m_sights m_sightCopy m_sightPitch m_isFaulty m_least m_greatest m_lines m_lineCopy m_lineDay m_linePlace m_lineTold m_now) H := hP
      have hD : va_D A (w_M cI cZ cR ad_m m_thrown m_rolls a3 m_first m_length m_marks m_markStep m_markTicks a6 m_order m_many m_heard m_pressed m_silents m_items m_itemPitch m_itemStep m_ends m_noteOf m_cost m_extra m_slotOf m_sights m_sightCopy m_sightPitch m_isFaulty m_least m_greatest m_lines m_lineCopy m_lineDay m_linePlace m_lineTold m_now) := hD
      refine lv_if_eq (tgt := 150) hx hb dX7_mends_145 (by decide) (fun hc => ?_) (fun hc => ?_)
      · have h := h.1 hc
        refine lv_aload_n hx hb dX7_mends_150 rfl (lv_at hl 0 rfl) ?_
        refine va_get (D := D) (ci := 7) (v := .ref (ad_m 1)) (C := RX7) (T := TX7) (N := 34) hx hb hts us_X7_mends_X7 hown hK hP 0 rfl rfl 2 (by decide) (hts (.fieldLink RX7 7 "RollHouseModel" "pitch" "[I") lk_X7_mends_0) (fun _ h9 => h9) rfl dX7_mends_151 ?_
        refine lv_iload_n hx hb dX7_mends_154 rfl (lv_at hl 2 rfl) ?_
        refine lv_iload hx hb dX7_mends_155 (lv_at hl 4 rfl) ?_
        obtain ⟨hin, h⟩ := h
        refine va_iast hx hb hK hP hD hS 1 0 rfl rfl hin dX7_mends_157 (fun H locs hP hD hS => ?_)
        obtain ⟨a7, ea7⟩ : ∃ f, f = upd a3 v2.toNatClampNeg v4 := ⟨_, rfl⟩
        have h := h a7 ea7
        rw [← ea7] at hP hD
        have hP : va_P D vwCl (w_M cI cZ cR ad_m m_thrown m_rolls a7 m_first m_length m_marks m_markStep m_markTicks a6 m_order m_many m_heard m_pressed m_silents m_items m_itemPitch m_itemStep m_ends m_noteOf m_cost m_extra m_slotOf m_sights m_sightCopy m_sightPitch m_isFaulty m_least m_greatest m_lines m_lineCopy m_lineDay m_linePlace m_lineTold m_now) H := hP
        have hD : va_D A (w_M cI cZ cR ad_m m_thrown m_rolls a7 m_first m_length m_marks m_markStep m_markTicks a6 m_order m_many m_heard m_pressed m_silents m_items m_itemPitch m_itemStep m_ends m_noteOf m_cost m_extra m_slotOf m_sights m_sightCopy m_sightPitch m_isFaulty m_least m_greatest m_lines m_lineCopy m_lineDay m_linePlace m_lineTold m_now) := hD
        refine lv_iconst (v := 0) hx hb dX7_mends_158 (by decide) ?_
        exact gl_iretz G hK (u := (a7, a6)) hP hD hS (by decide) h dX7_mends_159
      · have h := h.2 hc
        refine lv_iconst (v := 1) hx hb dX7_mends_148 (by decide) ?_
        exact gl_iretz G hK (u := (a3, a6)) hP hD hS (by decide) h dX7_mends_149
    · have h := h.2 hc
      refine lv_iload hx hb dX7_mends_26 (lv_at hl 5 rfl) ?_
      refine lv_iload_n hx hb dX7_mends_28 rfl (lv_at hl 2 rfl) ?_
      refine lv_icmp_eq (tgt := 106) hx hb dX7_mends_29 (by decide) (fun hc => ?_) (fun hc => ?_)
      · have h := h.1 hc
        refine lv_iinc (v := v5 + 1) (lv' := [(5, .int (v5 + 1)), (0, .ref (ad_m 0)), (1, .int v1), (2, .int v2), (3, .int v3), (4, .int v4)]) hx hb dX7_mends_106 hl (k := 5) rfl rfl (by decide) rfl (fun ls hl => ?_)
        refine lv_goto (tgt := 14) hx hb dX7_mends_109 (by decide) ?_
        exact ih v4 (v5 + 1) m_pitch m_table h H locs hP hD hS ls (lv_sub hl [1, 2, 3, 4, 5, 0] rfl)
      · have h := h.2 hc
        refine lv_aload_n hx hb dX7_mends_32 rfl (lv_at hl 0 rfl) ?_
        refine va_get (D := D) (ci := 7) (v := .ref (ad_m 3)) (C := RX7) (T := TX7) (N := 34) hx hb hts us_X7_mends_X7 hown hK hP 0 rfl rfl 4 (by decide) (hts (.fieldLink RX7 16 "RollHouseModel" "length" "[I") lk_X7_mends_2) (fun _ h9 => h9) rfl dX7_mends_33 ?_
        refine lv_iload hx hb dX7_mends_36 (lv_at hl 5 rfl) ?_
        obtain ⟨hin, h⟩ := h
        refine va_iald hx hb hK hP 3 0 rfl rfl hin dX7_mends_38 ?_
        refine lv_if_le (tgt := 106) hx hb dX7_mends_39 (by decide) (fun hc => ?_) (fun hc => ?_)
        · have h := h.1 hc
          refine lv_iinc (v := v5 + 1) (lv' := [(5, .int (v5 + 1)), (0, .ref (ad_m 0)), (1, .int v1), (2, .int v2), (3, .int v3), (4, .int v4)]) hx hb dX7_mends_106 hl (k := 5) rfl rfl (by decide) rfl (fun ls hl => ?_)
          refine lv_goto (tgt := 14) hx hb dX7_mends_109 (by decide) ?_
          exact ih v4 (v5 + 1) m_pitch m_table h H locs hP hD hS ls (lv_sub hl [1, 2, 3, 4, 5, 0] rfl)
        · have h := h.2 hc
          refine lv_aload_n hx hb dX7_mends_42 rfl (lv_at hl 0 rfl) ?_
          refine va_get (D := D) (ci := 7) (v := .ref (ad_m 1)) (C := RX7) (T := TX7) (N := 34) hx hb hts us_X7_mends_X7 hown hK hP 0 rfl rfl 2 (by decide) (hts (.fieldLink RX7 7 "RollHouseModel" "pitch" "[I") lk_X7_mends_0) (fun _ h9 => h9) rfl dX7_mends_43 ?_
          refine lv_iload hx hb dX7_mends_46 (lv_at hl 5 rfl) ?_
          obtain ⟨hin, h⟩ := h
          refine va_iald hx hb hK hP 1 0 rfl rfl hin dX7_mends_48 ?_
          refine lv_iload_n hx hb dX7_mends_49 rfl (lv_at hl 3 rfl) ?_
          refine lv_icmp_ne (tgt := 106) hx hb dX7_mends_50 (by decide) (fun hc => ?_) (fun hc => ?_)
          · have h := h.1 hc
            refine lv_iinc (v := v5 + 1) (lv' := [(5, .int (v5 + 1)), (0, .ref (ad_m 0)), (1, .int v1), (2, .int v2), (3, .int v3), (4, .int v4)]) hx hb dX7_mends_106 hl (k := 5) rfl rfl (by decide) rfl (fun ls hl => ?_)
            refine lv_goto (tgt := 14) hx hb dX7_mends_109 (by decide) ?_
            exact ih v4 (v5 + 1) m_pitch m_table h H locs hP hD hS ls (lv_sub hl [1, 2, 3, 4, 5, 0] rfl)
          · have h := h.2 hc
            refine lv_aload_n hx hb dX7_mends_53 rfl (lv_at hl 0 rfl) ?_
            refine va_get (D := D) (ci := 7) (v := .ref (ad_m 2)) (C := RX7) (T := TX7) (N := 34) hx hb hts us_X7_mends_X7 hown hK hP 0 rfl rfl 3 (by decide) (hts (.fieldLink RX7 13 "RollHouseModel" "first" "[I") lk_X7_mends_1) (fun _ h9 => h9) rfl dX7_mends_54 ?_
            refine lv_iload_n hx hb dX7_mends_57 rfl (lv_at hl 2 rfl) ?_
            obtain ⟨hin, h⟩ := h
            refine va_iald hx hb hK hP 2 0 rfl rfl hin dX7_mends_58 ?_
            refine lv_aload_n hx hb dX7_mends_59 rfl (lv_at hl 0 rfl) ?_
            refine va_get (D := D) (ci := 7) (v := .ref (ad_m 2)) (C := RX7) (T := TX7) (N := 34) hx hb hts us_X7_mends_X7 hown hK hP 0 rfl rfl 3 (by decide) (hts (.fieldLink RX7 13 "RollHouseModel" "first" "[I") lk_X7_mends_1) (fun _ h9 => h9) rfl dX7_mends_60 ?_
            refine lv_iload hx hb dX7_mends_63 (lv_at hl 5 rfl) ?_
            obtain ⟨hin, h⟩ := h
            refine va_iald hx hb hK hP 2 0 rfl rfl hin dX7_mends_65 ?_
            refine lv_aload_n hx hb dX7_mends_66 rfl (lv_at hl 0 rfl) ?_
            refine va_get (D := D) (ci := 7) (v := .ref (ad_m 3)) (C := RX7) (T := TX7) (N := 34) hx hb hts us_X7_mends_X7 hown hK hP 0 rfl rfl 4 (by decide) (hts (.fieldLink RX7 16 "RollHouseModel" "length" "[I") lk_X7_mends_2) (fun _ h9 => h9) rfl dX7_mends_67 ?_
            refine lv_iload hx hb dX7_mends_70 (lv_at hl 5 rfl) ?_
            obtain ⟨hin, h⟩ := h
            refine va_iald hx hb hK hP 3 0 rfl rfl hin dX7_mends_72 ?_
            refine lv_iadd hx hb dX7_mends_73 ?_
            refine lv_iconst (v := 1) hx hb dX7_mends_74 (by decide) ?_
            refine lv_iadd hx hb dX7_mends_75 ?_
            refine lv_topi (fun z8 ez8 => ?_)
            have h := h z8 ez8
            refine lv_icmp_ge (tgt := 106) hx hb dX7_mends_76 (by decide) (fun hc => ?_) (fun hc => ?_)
            · have h := h.1 hc
              refine lv_iinc (v := v5 + 1) (lv' := [(5, .int (v5 + 1)), (0, .ref (ad_m 0)), (1, .int v1), (2, .int v2), (3, .int v3), (4, .int v4)]) hx hb dX7_mends_106 hl (k := 5) rfl rfl (by decide) rfl (fun ls hl => ?_)
              refine lv_goto (tgt := 14) hx hb dX7_mends_109 (by decide) ?_
              exact ih v4 (v5 + 1) m_pitch m_table h H locs hP hD hS ls (lv_sub hl [1, 2, 3, 4, 5, 0] rfl)
            · have h := h.2 hc
              refine lv_aload_n hx hb dX7_mends_79 rfl (lv_at hl 0 rfl) ?_
              refine va_get (D := D) (ci := 7) (v := .ref (ad_m 2)) (C := RX7) (T := TX7) (N := 34) hx hb hts us_X7_mends_X7 hown hK hP 0 rfl rfl 3 (by decide) (hts (.fieldLink RX7 13 "RollHouseModel" "first" "[I") lk_X7_mends_1) (fun _ h9 => h9) rfl dX7_mends_80 ?_
              refine lv_iload hx hb dX7_mends_83 (lv_at hl 5 rfl) ?_
              obtain ⟨hin, h⟩ := h
              refine va_iald hx hb hK hP 2 0 rfl rfl hin dX7_mends_85 ?_
              refine lv_aload_n hx hb dX7_mends_86 rfl (lv_at hl 0 rfl) ?_
              refine va_get (D := D) (ci := 7) (v := .ref (ad_m 2)) (C := RX7) (T := TX7) (N := 34) hx hb hts us_X7_mends_X7 hown hK hP 0 rfl rfl 3 (by decide) (hts (.fieldLink RX7 13 "RollHouseModel" "first" "[I") lk_X7_mends_1) (fun _ h9 => h9) rfl dX7_mends_87 ?_
              refine lv_iload_n hx hb dX7_mends_90 rfl (lv_at hl 2 rfl) ?_
              obtain ⟨hin, h⟩ := h
              refine va_iald hx hb hK hP 2 0 rfl rfl hin dX7_mends_91 ?_
              refine lv_aload_n hx hb dX7_mends_92 rfl (lv_at hl 0 rfl) ?_
              refine va_get (D := D) (ci := 7) (v := .ref (ad_m 3)) (C := RX7) (T := TX7) (N := 34) hx hb hts us_X7_mends_X7 hown hK hP 0 rfl rfl 4 (by decide) (hts (.fieldLink RX7 16 "RollHouseModel" "length" "[I") lk_X7_mends_2) (fun _ h9 => h9) rfl dX7_mends_93 ?_
              refine lv_iload_n hx hb dX7_mends_96 rfl (lv_at hl 2 rfl) ?_
              obtain ⟨hin, h⟩ := h
              refine va_iald hx hb hK hP 3 0 rfl rfl hin dX7_mends_97 ?_
              refine lv_iadd hx hb dX7_mends_98 ?_
              refine lv_iconst (v := 1) hx hb dX7_mends_99 (by decide) ?_
              refine lv_iadd hx hb dX7_mends_100 ?_
              refine lv_topi (fun z9 ez9 => ?_)
              have h := h z9 ez9
              refine lv_icmp_ge (tgt := 106) hx hb dX7_mends_101 (by decide) (fun hc => ?_) (fun hc => ?_)
              · have h := h.1 hc
                refine lv_iinc (v := v5 + 1) (lv' := [(5, .int (v5 + 1)), (0, .ref (ad_m 0)), (1, .int v1), (2, .int v2), (3, .int v3), (4, .int v4)]) hx hb dX7_mends_106 hl (k := 5) rfl rfl (by decide) rfl (fun ls hl => ?_)
                refine lv_goto (tgt := 14) hx hb dX7_mends_109 (by decide) ?_
                exact ih v4 (v5 + 1) m_pitch m_table h H locs hP hD hS ls (lv_sub hl [1, 2, 3, 4, 5, 0] rfl)
              · have h := h.2 hc
                refine lv_iconst (v := 0) hx hb dX7_mends_104 (by decide) ?_
                exact gl_iretz G hK (u := (m_pitch, m_table)) hP hD hS (by decide) h dX7_mends_105
set_option maxRecDepth 100000 in
set_option maxHeartbeats 4000000 in
theorem ml_X7_mends_0 {p : Program} {l : Launch} {e : Env} {s : State} {m : MethodId} {args : Array Value} {below : List Frame} {meth : Method} {c : Code} {D : va_G} {cI cZ cR : ClassId} {A : Nat → Prop} {ad_m : Nat → Nat} {m_thrown : Int32} {m_rolls : Int32} {m_marks : Nat → Int32} {m_markStep : Nat → Int32} {m_markTicks : Nat → Int32} {m_order : Nat → Int32} {m_many : Int32} {m_heard : Int32} {m_pressed : Int32} {m_silents : Int32} {m_items : Int32} {m_itemPitch : Nat → Int32} {m_itemStep : Nat → Int32} {m_ends : Nat → Int32} {m_noteOf : Nat → Int32} {m_cost : Int32} {m_extra : Int32} {m_slotOf : Nat → Int32} {m_sights : Int32} {m_sightCopy : Nat → Int32} {m_sightPitch : Nat → Int32} {m_isFaulty : Nat → Int32} {m_least : Int32} {m_greatest : Int32} {m_lines : Int32} {m_lineCopy : Nat → Int32} {m_lineDay : Nat → Int32} {m_linePlace : Nat → Int32} {m_lineTold : Nat → Int32} {m_now : Int32} (G : gG p s m args meth c cX7_mends (some .boolean) 6 RX7 wsX7_mends) (hK : va_K D vwCl (gT cI cZ cR) s) (hN : va_Nw gN s) (hA : ∀ q, s.heap.size ≤ q → A q) (m_first : Nat → Int32) (m_length : Nat → Int32) (v1 : Int32) (v2 : Int32) (v3 : Int32) (post : Int32 → (Nat → Int32) → (Nat → Int32) → Prop) (m_pitch : Nat → Int32) (m_table : Nat → Int32) (h : wp_X7_mends m_first m_length v1 v2 v3 m_pitch m_table post) : ∀ (H : Heap) (locs : List Loc), va_P D vwCl (w_M cI cZ cR ad_m m_thrown m_rolls m_pitch m_first m_length m_marks m_markStep m_markTicks m_table m_order m_many m_heard m_pressed m_silents m_items m_itemPitch m_itemStep m_ends m_noteOf m_cost m_extra m_slotOf m_sights m_sightCopy m_sightPitch m_isFaulty m_least m_greatest m_lines m_lineCopy m_lineDay m_linePlace m_lineTold m_now) H → va_D A (w_M cI cZ cR ad_m m_thrown m_rolls m_pitch m_first m_length m_marks m_markStep m_markTicks m_table m_order m_many m_heard m_pressed m_silents m_items m_itemPitch m_itemStep m_ends m_noteOf m_cost m_extra m_slotOf m_sights m_sightCopy m_sightPitch m_isFaulty m_least m_greatest m_lines m_lineCopy m_lineDay m_linePlace m_lineTold m_now) → va_S A s.heap H locs → ∀ (ls : Array Slot), lv_has ls 6 [(0, .ref (ad_m 0)), (1, .int v1), (2, .int v2), (3, .int v3)] → W p l e { frames := 5, cells := 0, slots := 0, locals := 118 } s m args below meth c H locs 0 0 (MQ below (va_Qi (fun (r : Int32) (u : (Nat → Int32) × (Nat → Int32)) => post r u.1 u.2) (fun u t => gB D (gT cI cZ cR) A (w_M cI cZ cR ad_m m_thrown m_rolls u.1 m_first m_length m_marks m_markStep m_markTicks u.2 m_order m_many m_heard m_pressed m_silents m_items m_itemPitch m_itemStep m_ends m_noteOf m_cost m_extra m_slotOf m_sights m_sightCopy m_sightPitch m_isFaulty m_least m_greatest m_lines m_lineCopy m_lineDay m_linePlace m_lineTold m_now) t) A) args s 0 0 A) (F0 m 0 ls []) := by
  obtain ⟨hx, hb, hr, hml, hown, hts, hlocks⟩ := id G
  intro H locs hP hD hS ls hl
  unfold wp_X7_mends at h
  refine lv_aload_n hx hb dX7_mends_0 rfl (lv_at hl 0 rfl) ?_
  refine va_get (D := D) (ci := 7) (v := .ref (ad_m 1)) (C := RX7) (T := TX7) (N := 34) hx hb hts us_X7_mends_X7 hown hK hP 0 rfl rfl 2 (by decide) (hts (.fieldLink RX7 7 "RollHouseModel" "pitch" "[I") lk_X7_mends_0) (fun _ h9 => h9) rfl dX7_mends_1 ?_
  refine lv_iload_n hx hb dX7_mends_4 rfl (lv_at hl 2 rfl) ?_
  obtain ⟨hin, h⟩ := h
  refine va_iald hx hb hK hP 1 0 rfl rfl hin dX7_mends_5 ?_
  refine lv_topi (fun z1 ez1 => ?_)
  have h := h z1 ez1
  refine lv_istore (lv' := [(4, .int z1), (0, .ref (ad_m 0)), (1, .int v1), (2, .int v2), (3, .int v3)]) hx hb dX7_mends_6 hl (by decide) rfl (fun ls hl => ?_)
  refine lv_bipush (v := 60) hx hb dX7_mends_8 (by decide) ?_
  refine lv_iload_n hx hb dX7_mends_10 rfl (lv_at hl 2 rfl) ?_
  refine lv_imul hx hb dX7_mends_11 ?_
  refine lv_topi (fun z2 ez2 => ?_)
  have h := h z2 ez2
  refine lv_istore (lv' := [(5, .int z2), (4, .int z1), (0, .ref (ad_m 0)), (1, .int v1), (2, .int v2), (3, .int v3)]) hx hb dX7_mends_12 hl (by decide) rfl (fun ls hl => ?_)
  obtain ⟨nf, h⟩ := h
  exact ml_X7_mends_14 G hK hN hA m_first m_length v1 v2 v3 post nf z1 z2 m_pitch m_table h H locs hP hD hS ls (lv_sub hl [2, 3, 4, 5, 1, 0] rfl)
set_option maxRecDepth 100000 in
theorem mt_X7_mends (l : Launch) (D : va_G) (cI cZ cR : ClassId) (ad_m : Nat → Nat) (sz : Nat) (m_thrown : Int32) (m_rolls : Int32) (m_pitch : Nat → Int32) (m_first : Nat → Int32) (m_length : Nat → Int32) (m_marks : Nat → Int32) (m_markStep : Nat → Int32) (m_markTicks : Nat → Int32) (m_table : Nat → Int32) (m_order : Nat → Int32) (m_many : Int32) (m_heard : Int32) (m_pressed : Int32) (m_silents : Int32) (m_items : Int32) (m_itemPitch : Nat → Int32) (m_itemStep : Nat → Int32) (m_ends : Nat → Int32) (m_noteOf : Nat → Int32) (m_cost : Int32) (m_extra : Int32) (m_slotOf : Nat → Int32) (m_sights : Int32) (m_sightCopy : Nat → Int32) (m_sightPitch : Nat → Int32) (m_isFaulty : Nat → Int32) (m_least : Int32) (m_greatest : Int32) (m_lines : Int32) (m_lineCopy : Nat → Int32) (m_lineDay : Nat → Int32) (m_linePlace : Nat → Int32) (m_lineTold : Nat → Int32) (m_now : Int32) (v1 : Int32) (v2 : Int32) (v3 : Int32) (post : Int32 → (Nat → Int32) → (Nat → Int32) → Prop) (h : wp_X7_mends m_first m_length v1 v2 v3 m_pitch m_table post) : Met l yX7_mends wsX7_mends ({ frames := 5, cells := 0, slots := 0, locals := 118 }) (gPc D (gT cI cZ cR) (w_M cI cZ cR ad_m m_thrown m_rolls m_pitch m_first m_length m_marks m_markStep m_markTicks m_table m_order m_many m_heard m_pressed m_silents m_items m_itemPitch m_itemStep m_ends m_noteOf m_cost m_extra m_slotOf m_sights m_sightCopy m_sightPitch m_isFaulty m_least m_greatest m_lines m_lineCopy m_lineDay m_linePlace m_lineTold m_now) sz [.ref (ad_m 0), .int v1, .int v2, .int v3]) (va_Qi (fun (r : Int32) (u : (Nat → Int32) × (Nat → Int32)) => post r u.1 u.2) (fun u t => gB D (gT cI cZ cR) (va_A (w_M cI cZ cR ad_m m_thrown m_rolls m_pitch m_first m_length m_marks m_markStep m_markTicks m_table m_order m_many m_heard m_pressed m_silents m_items m_itemPitch m_itemStep m_ends m_noteOf m_cost m_extra m_slotOf m_sights m_sightCopy m_sightPitch m_isFaulty m_least m_greatest m_lines m_lineCopy m_lineDay m_linePlace m_lineTold m_now) sz) (w_M cI cZ cR ad_m m_thrown m_rolls u.1 m_first m_length m_marks m_markStep m_markTicks u.2 m_order m_many m_heard m_pressed m_silents m_items m_itemPitch m_itemStep m_ends m_noteOf m_cost m_extra m_slotOf m_sights m_sightCopy m_sightPitch m_isFaulty m_least m_greatest m_lines m_lineCopy m_lineDay m_linePlace m_lineTold m_now) t) (va_A (w_M cI cZ cR ad_m m_thrown m_rolls m_pitch m_first m_length m_marks m_markStep m_markTicks m_table m_order m_many m_heard m_pressed m_silents m_items m_itemPitch m_itemStep m_ends m_noteOf m_cost m_extra m_slotOf m_sights m_sightCopy m_sightPitch m_isFaulty m_least m_greatest m_lines m_lineCopy m_lineDay m_linePlace m_lineTold m_now) sz)) 0 0 (va_A (w_M cI cZ cR ad_m m_thrown m_rolls m_pitch m_first m_length m_marks m_markStep m_markTicks m_table m_order m_many m_heard m_pressed m_silents m_items m_itemPitch m_itemStep m_ends m_noteOf m_cost m_extra m_slotOf m_sights m_sightCopy m_sightPitch m_isFaulty m_least m_greatest m_lines m_lineCopy m_lineDay m_linePlace m_lineTold m_now) sz) := by
  refine gl_entry (cc := cX7_mends) (maxL := 6) (ret := (some .boolean)) (by decide) rfl (Nat.le_of_ble_eq_true rfl) ?_
  intro p e s m below meth c ls G hin hsz hK hN hP hD hl
  subst hsz
  exact ml_X7_mends_0 G hK hN (fun q h => Or.inr h) m_first m_length v1 v2 v3 post m_pitch m_table h s.heap [] hP hD va_S.rf ls hl
theorem lk_X7_mend_0 : (Cond.fieldLink RX7 71 "RollHouseModel" "thrown" "I") ∈ wsX7_mend := by decide +kernel
theorem lk_X7_mend_1 : (Cond.fieldLink RX7 152 "RollHouseModel" "items" "I") ∈ wsX7_mend := by decide +kernel
theorem lk_X7_mend_2 : (Cond.fieldLink RX7 47 "RollHouseModel" "slotOf" "[I") ∈ wsX7_mend := by decide +kernel
theorem lk_X7_mend_3 : (Cond.fieldLink RX7 44 "RollHouseModel" "noteOf" "[I") ∈ wsX7_mend := by decide +kernel
theorem lk_X7_mend_4 : (Cond.fieldLink RX7 32 "RollHouseModel" "order" "[I") ∈ wsX7_mend := by decide +kernel
theorem lk_X7_mend_5 : (Cond.fieldLink RX7 7 "RollHouseModel" "pitch" "[I") ∈ wsX7_mend := by decide +kernel
theorem lk_X7_mend_6 : (Cond.fieldLink RX7 35 "RollHouseModel" "itemPitch" "[I") ∈ wsX7_mend := by decide +kernel
theorem us_X7_mend_X7 : ∀ w ∈ u_ws RX7 TX7 34, w ∈ wsX7_mend := by decide +kernel
def wl_X7_mend_60 (m_rolls : Int32) (m_first : Nat → Int32) (m_length : Nat → Int32) (m_items : Int32) (m_itemPitch : Nat → Int32) (m_itemStep : Nat → Int32) (v1 : Int32) (post : Int32 → Int32 → (Nat → Int32) → (Nat → Int32) → (Nat → Int32) → Int32 → (Nat → Int32) → (Nat → Int32) → Int32 → Int32 → (Nat → Int32) → Prop) (K22 : (Int32) → (Int32) → (Nat → Int32) → (Nat → Int32) → (Nat → Int32) → (Int32) → (Nat → Int32) → (Nat → Int32) → (Int32) → (Int32) → (Nat → Int32) → Prop) (v2 : Int32) (w1 : Int32) (w2 : Int32) (m_thrown : Int32) (m_pitch : Nat → Int32) (m_table : Nat → Int32) (m_order : Nat → Int32) (m_many : Int32) (m_ends : Nat → Int32) (m_noteOf : Nat → Int32) (m_cost : Int32) (m_extra : Int32) (m_slotOf : Nat → Int32) : Prop := (vp_in w1 40 ∧ (∀ a8 : Nat → Int32, a8 = upd m_slotOf w1.toNatClampNeg w2 → K22 (v2 + 1) m_thrown m_pitch m_table m_order m_many m_ends m_noteOf m_cost m_extra a8))
def wl_X7_mend_71 (m_rolls : Int32) (m_first : Nat → Int32) (m_length : Nat → Int32) (m_items : Int32) (m_itemPitch : Nat → Int32) (m_itemStep : Nat → Int32) (v1 : Int32) (post : Int32 → Int32 → (Nat → Int32) → (Nat → Int32) → (Nat → Int32) → Int32 → (Nat → Int32) → (Nat → Int32) → Int32 → Int32 → (Nat → Int32) → Prop) : Nat → (Int32) → (Int32) → (Int32) → (Nat → Int32) → (Nat → Int32) → (Nat → Int32) → (Int32) → (Nat → Int32) → (Nat → Int32) → (Int32) → (Int32) → (Nat → Int32) → Prop
  | 0, _, _, _, _, _, _, _, _, _, _, _, _ => False
  | fu + 1, v2, v3, m_thrown, m_pitch, m_table, m_order, m_many, m_ends, m_noteOf, m_cost, m_extra, m_slotOf => ((m_items ≤ v3 → post v2 m_thrown m_pitch m_table m_order m_many m_ends m_noteOf m_cost m_extra m_slotOf) ∧ (¬ m_items ≤ v3 → (vp_in v3 40 ∧ (∀ z9 : Int32, z9 = m_slotOf v3.toNatClampNeg → ((z9 = (-1) → wl_X7_mend_71 m_rolls m_first m_length m_items m_itemPitch m_itemStep v1 post fu v2 (v3 + 1) m_thrown m_pitch m_table m_order m_many m_ends m_noteOf m_cost m_extra m_slotOf) ∧ (¬ z9 = (-1) → (vp_in z9 360 ∧ (vp_in v3 40 ∧ ((¬ (m_pitch z9.toNatClampNeg) = (m_itemPitch v3.toNatClampNeg) → (vp_in v3 40 ∧ (wp_X7_mends m_first m_length v1 z9 (m_itemPitch v3.toNatClampNeg) m_pitch m_table (fun (r10 : Int32) (a11 : Nat → Int32) (a12 : Nat → Int32) => ((r10 = 0 → wl_X7_mend_71 m_rolls m_first m_length m_items m_itemPitch m_itemStep v1 post fu (v2 + 0) (v3 + 1) m_thrown a11 a12 m_order m_many m_ends m_noteOf m_cost m_extra m_slotOf) ∧ (¬ r10 = 0 → wl_X7_mend_71 m_rolls m_first m_length m_items m_itemPitch m_itemStep v1 post fu (v2 + 1) (v3 + 1) m_thrown a11 a12 m_order m_many m_ends m_noteOf m_cost m_extra m_slotOf)))))) ∧ ((m_pitch z9.toNatClampNeg) = (m_itemPitch v3.toNatClampNeg) → wl_X7_mend_71 m_rolls m_first m_length m_items m_itemPitch m_itemStep v1 post fu v2 (v3 + 1) m_thrown m_pitch m_table m_order m_many m_ends m_noteOf m_cost m_extra m_slotOf))))))))))
def wl_X7_mend_22 (m_rolls : Int32) (m_first : Nat → Int32) (m_length : Nat → Int32) (m_items : Int32) (m_itemPitch : Nat → Int32) (m_itemStep : Nat → Int32) (v1 : Int32) (post : Int32 → Int32 → (Nat → Int32) → (Nat → Int32) → (Nat → Int32) → Int32 → (Nat → Int32) → (Nat → Int32) → Int32 → Int32 → (Nat → Int32) → Prop) : Nat → (Int32) → (Int32) → (Nat → Int32) → (Nat → Int32) → (Nat → Int32) → (Int32) → (Nat → Int32) → (Nat → Int32) → (Int32) → (Int32) → (Nat → Int32) → Prop
  | 0, _, _, _, _, _, _, _, _, _, _, _ => False
  | fu + 1, v2, m_thrown, m_pitch, m_table, m_order, m_many, m_ends, m_noteOf, m_cost, m_extra, m_slotOf => ((m_items ≤ v2 → (∃ n, wl_X7_mend_71 m_rolls m_first m_length m_items m_itemPitch m_itemStep v1 post n 0 0 m_thrown m_pitch m_table m_order m_many m_ends m_noteOf m_cost m_extra m_slotOf)) ∧ (¬ m_items ≤ v2 → (vp_in v2 40 ∧ ((¬ (m_noteOf v2.toNatClampNeg) = (-1) → (vp_in v2 40 ∧ (vp_in (m_noteOf v2.toNatClampNeg) 60 ∧ wl_X7_mend_60 m_rolls m_first m_length m_items m_itemPitch m_itemStep v1 post (wl_X7_mend_22 m_rolls m_first m_length m_items m_itemPitch m_itemStep v1 post fu) v2 v2 (m_order (m_noteOf v2.toNatClampNeg).toNatClampNeg) m_thrown m_pitch m_table m_order m_many m_ends m_noteOf m_cost m_extra m_slotOf))) ∧ ((m_noteOf v2.toNatClampNeg) = (-1) → wl_X7_mend_60 m_rolls m_first m_length m_items m_itemPitch m_itemStep v1 post (wl_X7_mend_22 m_rolls m_first m_length m_items m_itemPitch m_itemStep v1 post fu) v2 v2 (-1) m_thrown m_pitch m_table m_order m_many m_ends m_noteOf m_cost m_extra m_slotOf)))))
def wp_X7_mend (m_rolls : Int32) (m_first : Nat → Int32) (m_length : Nat → Int32) (m_items : Int32) (m_itemPitch : Nat → Int32) (m_itemStep : Nat → Int32) (v1 : Int32) (m_thrown : Int32) (m_pitch : Nat → Int32) (m_table : Nat → Int32) (m_order : Nat → Int32) (m_many : Int32) (m_ends : Nat → Int32) (m_noteOf : Nat → Int32) (m_cost : Int32) (m_extra : Int32) (m_slotOf : Nat → Int32) (post : Int32 → Int32 → (Nat → Int32) → (Nat → Int32) → (Nat → Int32) → Int32 → (Nat → Int32) → (Nat → Int32) → Int32 → Int32 → (Nat → Int32) → Prop) : Prop := (wp_X7_isRoll m_rolls v1 (fun (r1 : Int32) => ((¬ r1 = 0 → (wp_X7_aligns m_pitch m_first m_length m_items m_itemPitch m_itemStep v1 m_order m_many m_ends m_noteOf m_cost m_extra (fun (a2 : Nat → Int32) (z3 : Int32) (a4 : Nat → Int32) (a5 : Nat → Int32) (z6 : Int32) (z7 : Int32) => (∃ n, wl_X7_mend_22 m_rolls m_first m_length m_items m_itemPitch m_itemStep v1 post n 0 0 m_pitch m_table a2 z3 a4 a5 z6 z7 m_slotOf)))) ∧ (r1 = 0 → post (-1) 0 m_pitch m_table m_order m_many m_ends m_noteOf m_cost m_extra m_slotOf))))
set_option maxRecDepth 100000 in
set_option maxHeartbeats 4000000 in
theorem ml_X7_mend_60 {p : Program} {l : Launch} {e : Env} {s : State} {m : MethodId} {args : Array Value} {below : List Frame} {meth : Method} {c : Code} {D : va_G} {cI cZ cR : ClassId} {A : Nat → Prop} {ad_m : Nat → Nat} {m_marks : Nat → Int32} {m_markStep : Nat → Int32} {m_markTicks : Nat → Int32} {m_heard : Int32} {m_pressed : Int32} {m_silents : Int32} {m_sights : Int32} {m_sightCopy : Nat → Int32} {m_sightPitch : Nat → Int32} {m_isFaulty : Nat → Int32} {m_least : Int32} {m_greatest : Int32} {m_lines : Int32} {m_lineCopy : Nat → Int32} {m_lineDay : Nat → Int32} {m_linePlace : Nat → Int32} {m_lineTold : Nat → Int32} {m_now : Int32} (G : gG p s m args meth c cX7_mend (some .int) 5 RX7 wsX7_mend) (hK : va_K D vwCl (gT cI cZ cR) s) (hN : va_Nw gN s) (hA : ∀ q, s.heap.size ≤ q → A q) (m_rolls : Int32) (m_first : Nat → Int32) (m_length : Nat → Int32) (m_items : Int32) (m_itemPitch : Nat → Int32) (m_itemStep : Nat → Int32) (v1 : Int32) (post : Int32 → Int32 → (Nat → Int32) → (Nat → Int32) → (Nat → Int32) → Int32 → (Nat → Int32) → (Nat → Int32) → Int32 → Int32 → (Nat → Int32) → Prop) (K22 : (Int32) → (Int32) → (Nat → Int32) → (Nat → Int32) → (Nat → Int32) → (Int32) → (Nat → Int32) → (Nat → Int32) → (Int32) → (Int32) → (Nat → Int32) → Prop) (hK22 : ∀ (v2 : Int32) (m_thrown : Int32) (m_pitch : Nat → Int32) (m_table : Nat → Int32) (m_order : Nat → Int32) (m_many : Int32) (m_ends : Nat → Int32) (m_noteOf : Nat → Int32) (m_cost : Int32) (m_extra : Int32) (m_slotOf : Nat → Int32), K22 v2 m_thrown m_pitch m_table m_order m_many m_ends m_noteOf m_cost m_extra m_slotOf → ∀ (H : Heap) (locs : List Loc), va_P D vwCl (w_M cI cZ cR ad_m m_thrown m_rolls m_pitch m_first m_length m_marks m_markStep m_markTicks m_table m_order m_many m_heard m_pressed m_silents m_items m_itemPitch m_itemStep m_ends m_noteOf m_cost m_extra m_slotOf m_sights m_sightCopy m_sightPitch m_isFaulty m_least m_greatest m_lines m_lineCopy m_lineDay m_linePlace m_lineTold m_now) H → va_D A (w_M cI cZ cR ad_m m_thrown m_rolls m_pitch m_first m_length m_marks m_markStep m_markTicks m_table m_order m_many m_heard m_pressed m_silents m_items m_itemPitch m_itemStep m_ends m_noteOf m_cost m_extra m_slotOf m_sights m_sightCopy m_sightPitch m_isFaulty m_least m_greatest m_lines m_lineCopy m_lineDay m_linePlace m_lineTold m_now) → va_S A s.heap H locs → ∀ (ls : Array Slot), lv_has ls 5 [(0, .ref (ad_m 0)), (1, .int v1), (2, .int v2)] → W p l e { frames := 6, cells := 0, slots := 0, locals := 143 } s m args below meth c H locs 0 0 (MQ below (va_Qi (fun (r : Int32) (u : (Int32) × (Nat → Int32) × (Nat → Int32) × (Nat → Int32) × (Int32) × (Nat → Int32) × (Nat → Int32) × (Int32) × (Int32) × (Nat → Int32)) => post r u.1 u.2.1 u.2.2.1 u.2.2.2.1 u.2.2.2.2.1 u.2.2.2.2.2.1 u.2.2.2.2.2.2.1 u.2.2.2.2.2.2.2.1 u.2.2.2.2.2.2.2.2.1 u.2.2.2.2.2.2.2.2.2) (fun u t => gB D (gT cI cZ cR) A (w_M cI cZ cR ad_m u.1 m_rolls u.2.1 m_first m_length m_marks m_markStep m_markTicks u.2.2.1 u.2.2.2.1 u.2.2.2.2.1 m_heard m_pressed m_silents m_items m_itemPitch m_itemStep u.2.2.2.2.2.1 u.2.2.2.2.2.2.1 u.2.2.2.2.2.2.2.1 u.2.2.2.2.2.2.2.2.1 u.2.2.2.2.2.2.2.2.2 m_sights m_sightCopy m_sightPitch m_isFaulty m_least m_greatest m_lines m_lineCopy m_lineDay m_linePlace m_lineTold m_now) t) A) args s 0 0 A) (F0 m 22 ls [])) (v2 : Int32) (w1 : Int32) (w2 : Int32) (m_thrown : Int32) (m_pitch : Nat → Int32) (m_table : Nat → Int32) (m_order : Nat → Int32) (m_many : Int32) (m_ends : Nat → Int32) (m_noteOf : Nat → Int32) (m_cost : Int32) (m_extra : Int32) (m_slotOf : Nat → Int32) (h : wl_X7_mend_60 m_rolls m_first m_length m_items m_itemPitch m_itemStep v1 post K22 v2 w1 w2 m_thrown m_pitch m_table m_order m_many m_ends m_noteOf m_cost m_extra m_slotOf) : ∀ (H : Heap) (locs : List Loc), va_P D vwCl (w_M cI cZ cR ad_m m_thrown m_rolls m_pitch m_first m_length m_marks m_markStep m_markTicks m_table m_order m_many m_heard m_pressed m_silents m_items m_itemPitch m_itemStep m_ends m_noteOf m_cost m_extra m_slotOf m_sights m_sightCopy m_sightPitch m_isFaulty m_least m_greatest m_lines m_lineCopy m_lineDay m_linePlace m_lineTold m_now) H → va_D A (w_M cI cZ cR ad_m m_thrown m_rolls m_pitch m_first m_length m_marks m_markStep m_markTicks m_table m_order m_many m_heard m_pressed m_silents m_items m_itemPitch m_itemStep m_ends m_noteOf m_cost m_extra m_slotOf m_sights m_sightCopy m_sightPitch m_isFaulty m_least m_greatest m_lines m_lineCopy m_lineDay m_linePlace m_lineTold m_now) → va_S A s.heap H locs → ∀ (ls : Array Slot), lv_has ls 5 [(0, .ref (ad_m 0)), (1, .int v1), (2, .int v2)] → W p l e { frames := 6, cells := 0, slots := 0, locals := 143 } s m args below meth c H locs 0 0 (MQ below (va_Qi (fun (r : Int32) (u : (Int32) × (Nat → Int32) × (Nat → Int32) × (Nat → Int32) × (Int32) × (Nat → Int32) × (Nat → Int32) × (Int32) × (Int32) × (Nat → Int32)) => post r u.1 u.2.1 u.2.2.1 u.2.2.2.1 u.2.2.2.2.1 u.2.2.2.2.2.1 u.2.2.2.2.2.2.1 u.2.2.2.2.2.2.2.1 u.2.2.2.2.2.2.2.2.1 u.2.2.2.2.2.2.2.2.2) (fun u t => gB D (gT cI cZ cR) A (w_M cI cZ cR ad_m u.1 m_rolls u.2.1 m_first m_length m_marks m_markStep m_markTicks u.2.2.1 u.2.2.2.1 u.2.2.2.2.1 m_heard m_pressed m_silents m_items m_itemPitch m_itemStep u.2.2.2.2.2.1 u.2.2.2.2.2.2.1 u.2.2.2.2.2.2.2.1 u.2.2.2.2.2.2.2.2.1 u.2.2.2.2.2.2.2.2.2 m_sights m_sightCopy m_sightPitch m_isFaulty m_least m_greatest m_lines m_lineCopy m_lineDay m_linePlace m_lineTold m_now) t) A) args s 0 0 A) (F0 m 60 ls [.int w2, .int w1, .ref (ad_m 13)]) := by
  obtain ⟨hx, hb, hr, hml, hown, hts, hlocks⟩ := id G
  intro H locs hP hD hS ls hl
  unfold wl_X7_mend_60 at h
  obtain ⟨hin, h⟩ := h
  refine va_iast hx hb hK hP hD hS 13 0 rfl rfl hin dX7_mend_60 (fun H locs hP hD hS => ?_)
  obtain ⟨a8, ea8⟩ : ∃ f, f = upd m_slotOf w1.toNatClampNeg w2 := ⟨_, rfl⟩
  have h := h a8 ea8
  rw [← ea8] at hP hD
  have hP : va_P D vwCl (w_M cI cZ cR ad_m m_thrown m_rolls m_pitch m_first m_length m_marks m_markStep m_markTicks m_table m_order m_many m_heard m_pressed m_silents m_items m_itemPitch m_itemStep m_ends m_noteOf m_cost m_extra a8 m_sights m_sightCopy m_sightPitch m_isFaulty m_least m_greatest m_lines m_lineCopy m_lineDay m_linePlace m_lineTold m_now) H := hP
  have hD : va_D A (w_M cI cZ cR ad_m m_thrown m_rolls m_pitch m_first m_length m_marks m_markStep m_markTicks m_table m_order m_many m_heard m_pressed m_silents m_items m_itemPitch m_itemStep m_ends m_noteOf m_cost m_extra a8 m_sights m_sightCopy m_sightPitch m_isFaulty m_least m_greatest m_lines m_lineCopy m_lineDay m_linePlace m_lineTold m_now) := hD
  refine lv_iinc (v := v2 + 1) (lv' := [(2, .int (v2 + 1)), (0, .ref (ad_m 0)), (1, .int v1)]) hx hb dX7_mend_61 hl (k := 2) rfl rfl (by decide) rfl (fun ls hl => ?_)
  refine lv_goto (tgt := 22) hx hb dX7_mend_64 (by decide) ?_
  exact hK22 (v2 + 1) m_thrown m_pitch m_table m_order m_many m_ends m_noteOf m_cost m_extra a8 h H locs hP hD hS ls (lv_sub hl [1, 2, 0] rfl)
set_option maxRecDepth 100000 in
set_option maxHeartbeats 4000000 in
theorem ml_X7_mend_71 {p : Program} {l : Launch} {e : Env} {s : State} {m : MethodId} {args : Array Value} {below : List Frame} {meth : Method} {c : Code} {D : va_G} {cI cZ cR : ClassId} {A : Nat → Prop} {ad_m : Nat → Nat} {m_marks : Nat → Int32} {m_markStep : Nat → Int32} {m_markTicks : Nat → Int32} {m_heard : Int32} {m_pressed : Int32} {m_silents : Int32} {m_sights : Int32} {m_sightCopy : Nat → Int32} {m_sightPitch : Nat → Int32} {m_isFaulty : Nat → Int32} {m_least : Int32} {m_greatest : Int32} {m_lines : Int32} {m_lineCopy : Nat → Int32} {m_lineDay : Nat → Int32} {m_linePlace : Nat → Int32} {m_lineTold : Nat → Int32} {m_now : Int32} (G : gG p s m args meth c cX7_mend (some .int) 5 RX7 wsX7_mend) (hK : va_K D vwCl (gT cI cZ cR) s) (hN : va_Nw gN s) (hA : ∀ q, s.heap.size ≤ q → A q) (m_rolls : Int32) (m_first : Nat → Int32) (m_length : Nat → Int32) (m_items : Int32) (m_itemPitch : Nat → Int32) (m_itemStep : Nat → Int32) (v1 : Int32) (post : Int32 → Int32 → (Nat → Int32) → (Nat → Int32) → (Nat → Int32) → Int32 → (Nat → Int32) → (Nat → Int32) → Int32 → Int32 → (Nat → Int32) → Prop) : ∀ (fu : Nat) (v2 : Int32) (v3 : Int32) (m_thrown : Int32) (m_pitch : Nat → Int32) (m_table : Nat → Int32) (m_order : Nat → Int32) (m_many : Int32) (m_ends : Nat → Int32) (m_noteOf : Nat → Int32) (m_cost : Int32) (m_extra : Int32) (m_slotOf : Nat → Int32), wl_X7_mend_71 m_rolls m_first m_length m_items m_itemPitch m_itemStep v1 post fu v2 v3 m_thrown m_pitch m_table m_order m_many m_ends m_noteOf m_cost m_extra m_slotOf → ∀ (H : Heap) (locs : List Loc), va_P D vwCl (w_M cI cZ cR ad_m m_thrown m_rolls m_pitch m_first m_length m_marks m_markStep m_markTicks m_table m_order m_many m_heard m_pressed m_silents m_items m_itemPitch m_itemStep m_ends m_noteOf m_cost m_extra m_slotOf m_sights m_sightCopy m_sightPitch m_isFaulty m_least m_greatest m_lines m_lineCopy m_lineDay m_linePlace m_lineTold m_now) H → va_D A (w_M cI cZ cR ad_m m_thrown m_rolls m_pitch m_first m_length m_marks m_markStep m_markTicks m_table m_order m_many m_heard m_pressed m_silents m_items m_itemPitch m_itemStep m_ends m_noteOf m_cost m_extra m_slotOf m_sights m_sightCopy m_sightPitch m_isFaulty m_least m_greatest m_lines m_lineCopy m_lineDay m_linePlace m_lineTold m_now) → va_S A s.heap H locs → ∀ (ls : Array Slot), lv_has ls 5 [(0, .ref (ad_m 0)), (1, .int v1), (2, .int v2), (3, .int v3)] → W p l e { frames := 6, cells := 0, slots := 0, locals := 143 } s m args below meth c H locs 0 0 (MQ below (va_Qi (fun (r : Int32) (u : (Int32) × (Nat → Int32) × (Nat → Int32) × (Nat → Int32) × (Int32) × (Nat → Int32) × (Nat → Int32) × (Int32) × (Int32) × (Nat → Int32)) => post r u.1 u.2.1 u.2.2.1 u.2.2.2.1 u.2.2.2.2.1 u.2.2.2.2.2.1 u.2.2.2.2.2.2.1 u.2.2.2.2.2.2.2.1 u.2.2.2.2.2.2.2.2.1 u.2.2.2.2.2.2.2.2.2) (fun u t => gB D (gT cI cZ cR) A (w_M cI cZ cR ad_m u.1 m_rolls u.2.1 m_first m_length m_marks m_markStep m_markTicks u.2.2.1 u.2.2.2.1 u.2.2.2.2.1 m_heard m_pressed m_silents m_items m_itemPitch m_itemStep u.2.2.2.2.2.1 u.2.2.2.2.2.2.1 u.2.2.2.2.2.2.2.1 u.2.2.2.2.2.2.2.2.1 u.2.2.2.2.2.2.2.2.2 m_sights m_sightCopy m_sightPitch m_isFaulty m_least m_greatest m_lines m_lineCopy m_lineDay m_linePlace m_lineTold m_now) t) A) args s 0 0 A) (F0 m 71 ls []) := by
  obtain ⟨hx, hb, hr, hml, hown, hts, hlocks⟩ := id G
  intro fu
  induction fu with
  | zero =>
    intro v2 v3 m_thrown m_pitch m_table m_order m_many m_ends m_noteOf m_cost m_extra m_slotOf h
    exact h.elim
  | succ fu ih =>
    intro v2 v3 m_thrown m_pitch m_table m_order m_many m_ends m_noteOf m_cost m_extra m_slotOf h H locs hP hD hS ls hl
    rw [wl_X7_mend_71] at h
    refine lv_iload_n hx hb dX7_mend_71 rfl (lv_at hl 3 rfl) ?_
    refine lv_aload_n hx hb dX7_mend_72 rfl (lv_at hl 0 rfl) ?_
    refine va_get (D := D) (ci := 7) (v := .int m_items) (C := RX7) (T := TX7) (N := 34) hx hb hts us_X7_mend_X7 hown hK hP 0 rfl rfl 14 (by decide) (hts (.fieldLink RX7 152 "RollHouseModel" "items" "I") lk_X7_mend_1) (fun _ h9 => h9) rfl dX7_mend_73 ?_
    refine lv_icmp_ge (tgt := 142) hx hb dX7_mend_76 (by decide) (fun hc => ?_) (fun hc => ?_)
    · have h := h.1 hc
      refine lv_iload_n hx hb dX7_mend_142 rfl (lv_at hl 2 rfl) ?_
      exact gl_ireti G hK (u := (m_thrown, m_pitch, m_table, m_order, m_many, m_ends, m_noteOf, m_cost, m_extra, m_slotOf)) hP hD hS h dX7_mend_143
    · have h := h.2 hc
      refine lv_aload_n hx hb dX7_mend_79 rfl (lv_at hl 0 rfl) ?_
      refine va_get (D := D) (ci := 7) (v := .ref (ad_m 13)) (C := RX7) (T := TX7) (N := 34) hx hb hts us_X7_mend_X7 hown hK hP 0 rfl rfl 21 (by decide) (hts (.fieldLink RX7 47 "RollHouseModel" "slotOf" "[I") lk_X7_mend_2) (fun _ h9 => h9) rfl dX7_mend_80 ?_
      refine lv_iload_n hx hb dX7_mend_83 rfl (lv_at hl 3 rfl) ?_
      obtain ⟨hin, h⟩ := h
      refine va_iald hx hb hK hP 13 0 rfl rfl hin dX7_mend_84 ?_
      refine lv_topi (fun z9 ez9 => ?_)
      have h := h z9 ez9
      refine lv_istore (lv' := [(4, .int z9), (0, .ref (ad_m 0)), (1, .int v1), (2, .int v2), (3, .int v3)]) hx hb dX7_mend_85 hl (by decide) rfl (fun ls hl => ?_)
      refine lv_iload hx hb dX7_mend_87 (lv_at hl 0 rfl) ?_
      refine lv_iconst (v := (-1)) hx hb dX7_mend_89 (by decide) ?_
      refine lv_icmp_eq (tgt := 136) hx hb dX7_mend_90 (by decide) (fun hc => ?_) (fun hc => ?_)
      · have h := h.1 hc
        refine lv_iinc (v := v3 + 1) (lv' := [(3, .int (v3 + 1)), (4, .int z9), (0, .ref (ad_m 0)), (1, .int v1), (2, .int v2)]) hx hb dX7_mend_136 hl (k := 4) rfl rfl (by decide) rfl (fun ls hl => ?_)
        refine lv_goto (tgt := 71) hx hb dX7_mend_139 (by decide) ?_
        exact ih v2 (v3 + 1) m_thrown m_pitch m_table m_order m_many m_ends m_noteOf m_cost m_extra m_slotOf h H locs hP hD hS ls (lv_sub hl [2, 3, 4, 0] rfl)
      · have h := h.2 hc
        refine lv_aload_n hx hb dX7_mend_93 rfl (lv_at hl 1 rfl) ?_
        refine va_get (D := D) (ci := 7) (v := .ref (ad_m 1)) (C := RX7) (T := TX7) (N := 34) hx hb hts us_X7_mend_X7 hown hK hP 0 rfl rfl 2 (by decide) (hts (.fieldLink RX7 7 "RollHouseModel" "pitch" "[I") lk_X7_mend_5) (fun _ h9 => h9) rfl dX7_mend_94 ?_
        refine lv_iload hx hb dX7_mend_97 (lv_at hl 0 rfl) ?_
        obtain ⟨hin, h⟩ := h
        refine va_iald hx hb hK hP 1 0 rfl rfl hin dX7_mend_99 ?_
        refine lv_aload_n hx hb dX7_mend_100 rfl (lv_at hl 1 rfl) ?_
        refine va_get (D := D) (ci := 7) (v := .ref (ad_m 9)) (C := RX7) (T := TX7) (N := 34) hx hb hts us_X7_mend_X7 hown hK hP 0 rfl rfl 15 (by decide) (hts (.fieldLink RX7 35 "RollHouseModel" "itemPitch" "[I") lk_X7_mend_6) (fun _ h9 => h9) rfl dX7_mend_101 ?_
        refine lv_iload_n hx hb dX7_mend_104 rfl (lv_at hl 4 rfl) ?_
        obtain ⟨hin, h⟩ := h
        refine va_iald hx hb hK hP 9 0 rfl rfl hin dX7_mend_105 ?_
        refine lv_icmp_ne (tgt := 112) hx hb dX7_mend_106 (by decide) (fun hc => ?_) (fun hc => ?_)
        · have h := h.1 hc
          refine lv_iload_n hx hb dX7_mend_112 rfl (lv_at hl 3 rfl) ?_
          refine lv_aload_n hx hb dX7_mend_113 rfl (lv_at hl 1 rfl) ?_
          refine lv_iload_n hx hb dX7_mend_114 rfl (lv_at hl 2 rfl) ?_
          refine lv_iload hx hb dX7_mend_115 (lv_at hl 0 rfl) ?_
          refine lv_aload_n hx hb dX7_mend_117 rfl (lv_at hl 1 rfl) ?_
          refine va_get (D := D) (ci := 7) (v := .ref (ad_m 9)) (C := RX7) (T := TX7) (N := 34) hx hb hts us_X7_mend_X7 hown hK hP 0 rfl rfl 15 (by decide) (hts (.fieldLink RX7 35 "RollHouseModel" "itemPitch" "[I") lk_X7_mend_6) (fun _ h9 => h9) rfl dX7_mend_118 ?_
          refine lv_iload_n hx hb dX7_mend_121 rfl (lv_at hl 4 rfl) ?_
          obtain ⟨hin, h⟩ := h
          refine va_iald hx hb hK hP 9 0 rfl rfl hin dX7_mend_122 ?_
          refine gl_calliF (va_runV (As := [.int v1, .int z9, .int (m_itemPitch v3.toNatClampNeg)]) (rest := [.int v2]) ⟨hx, hb, hml, hown, hts⟩ (mt_X7_mends l D cI cZ cR ad_m H.size m_thrown m_rolls m_pitch m_first m_length m_marks m_markStep m_markTicks m_table m_order m_many m_heard m_pressed m_silents m_items m_itemPitch m_itemStep m_ends m_noteOf m_cost m_extra m_slotOf m_sights m_sightCopy m_sightPitch m_isFaulty m_least m_greatest m_lines m_lineCopy m_lineDay m_linePlace m_lineTold m_now v1 z9 (m_itemPitch v3.toNatClampNeg) _ h) (cwV 3 hts gX7_mend_X7_mends rfl rfl rfl (by decide +kernel) ⟨Nat.le_of_ble_eq_true rfl, Nat.le_of_ble_eq_true rfl⟩) ⟨gl_blind, va_recv hK hP (ci := 7) (q0 := 0) rfl rfl, gl_pre hP hK hN hD⟩ rfl rfl hl.1 rfl (lv_room (Nat.le_of_ble_eq_true rfl)) dX7_mend_123 ⟨Nat.le_of_ble_eq_true rfl, Nat.le_of_ble_eq_true rfl⟩) hD hS hA (fun r10 u H locs h hP hD hS => ?_)
          obtain ⟨a11, a12⟩ := u
          try dsimp only at h
          have hP : va_P D vwCl (w_M cI cZ cR ad_m m_thrown m_rolls a11 m_first m_length m_marks m_markStep m_markTicks a12 m_order m_many m_heard m_pressed m_silents m_items m_itemPitch m_itemStep m_ends m_noteOf m_cost m_extra m_slotOf m_sights m_sightCopy m_sightPitch m_isFaulty m_least m_greatest m_lines m_lineCopy m_lineDay m_linePlace m_lineTold m_now) H := hP
          have hD : va_D A (w_M cI cZ cR ad_m m_thrown m_rolls a11 m_first m_length m_marks m_markStep m_markTicks a12 m_order m_many m_heard m_pressed m_silents m_items m_itemPitch m_itemStep m_ends m_noteOf m_cost m_extra m_slotOf m_sights m_sightCopy m_sightPitch m_isFaulty m_least m_greatest m_lines m_lineCopy m_lineDay m_linePlace m_lineTold m_now) := hD
          refine lv_if_eq (tgt := 133) hx hb dX7_mend_126 (by decide) (fun hc => ?_) (fun hc => ?_)
          · have h := h.1 hc
            refine lv_iconst (v := 0) hx hb dX7_mend_133 (by decide) ?_
            refine lv_iadd hx hb dX7_mend_134 ?_
            refine lv_istore_n (lv' := [(2, .int (v2 + 0)), (4, .int z9), (0, .ref (ad_m 0)), (1, .int v1), (3, .int v3)]) hx hb dX7_mend_135 rfl hl (by decide) rfl (fun ls hl => ?_)
            refine lv_iinc (v := v3 + 1) (lv' := [(3, .int (v3 + 1)), (2, .int (v2 + 0)), (4, .int z9), (0, .ref (ad_m 0)), (1, .int v1)]) hx hb dX7_mend_136 hl (k := 4) rfl rfl (by decide) rfl (fun ls hl => ?_)
            refine lv_goto (tgt := 71) hx hb dX7_mend_139 (by decide) ?_
            exact ih (v2 + 0) (v3 + 1) m_thrown a11 a12 m_order m_many m_ends m_noteOf m_cost m_extra m_slotOf h H locs hP hD hS ls (lv_sub hl [3, 4, 1, 0] rfl)
          · have h := h.2 hc
            refine lv_iconst (v := 1) hx hb dX7_mend_129 (by decide) ?_
            refine lv_goto (tgt := 134) hx hb dX7_mend_130 (by decide) ?_
            refine lv_iadd hx hb dX7_mend_134 ?_
            refine lv_istore_n (lv' := [(2, .int (v2 + 1)), (4, .int z9), (0, .ref (ad_m 0)), (1, .int v1), (3, .int v3)]) hx hb dX7_mend_135 rfl hl (by decide) rfl (fun ls hl => ?_)
            refine lv_iinc (v := v3 + 1) (lv' := [(3, .int (v3 + 1)), (2, .int (v2 + 1)), (4, .int z9), (0, .ref (ad_m 0)), (1, .int v1)]) hx hb dX7_mend_136 hl (k := 4) rfl rfl (by decide) rfl (fun ls hl => ?_)
            refine lv_goto (tgt := 71) hx hb dX7_mend_139 (by decide) ?_
            exact ih (v2 + 1) (v3 + 1) m_thrown a11 a12 m_order m_many m_ends m_noteOf m_cost m_extra m_slotOf h H locs hP hD hS ls (lv_sub hl [3, 4, 1, 0] rfl)
        · have h := h.2 hc
          refine lv_goto (tgt := 136) hx hb dX7_mend_109 (by decide) ?_
          refine lv_iinc (v := v3 + 1) (lv' := [(3, .int (v3 + 1)), (4, .int z9), (0, .ref (ad_m 0)), (1, .int v1), (2, .int v2)]) hx hb dX7_mend_136 hl (k := 4) rfl rfl (by decide) rfl (fun ls hl => ?_)
          refine lv_goto (tgt := 71) hx hb dX7_mend_139 (by decide) ?_
          exact ih v2 (v3 + 1) m_thrown m_pitch m_table m_order m_many m_ends m_noteOf m_cost m_extra m_slotOf h H locs hP hD hS ls (lv_sub hl [2, 3, 4, 0] rfl)
set_option maxRecDepth 100000 in
set_option maxHeartbeats 4000000 in
theorem ml_X7_mend_22 {p : Program} {l : Launch} {e : Env} {s : State} {m : MethodId} {args : Array Value} {below : List Frame} {meth : Method} {c : Code} {D : va_G} {cI cZ cR : ClassId} {A : Nat → Prop} {ad_m : Nat → Nat} {m_marks : Nat → Int32} {m_markStep : Nat → Int32} {m_markTicks : Nat → Int32} {m_heard : Int32} {m_pressed : Int32} {m_silents : Int32} {m_sights : Int32} {m_sightCopy : Nat → Int32} {m_sightPitch : Nat → Int32} {m_isFaulty : Nat → Int32} {m_least : Int32} {m_greatest : Int32} {m_lines : Int32} {m_lineCopy : Nat → Int32} {m_lineDay : Nat → Int32} {m_linePlace : Nat → Int32} {m_lineTold : Nat → Int32} {m_now : Int32} (G : gG p s m args meth c cX7_mend (some .int) 5 RX7 wsX7_mend) (hK : va_K D vwCl (gT cI cZ cR) s) (hN : va_Nw gN s) (hA : ∀ q, s.heap.size ≤ q → A q) (m_rolls : Int32) (m_first : Nat → Int32) (m_length : Nat → Int32) (m_items : Int32) (m_itemPitch : Nat → Int32) (m_itemStep : Nat → Int32) (v1 : Int32) (post : Int32 → Int32 → (Nat → Int32) → (Nat → Int32) → (Nat → Int32) → Int32 → (Nat → Int32) → (Nat → Int32) → Int32 → Int32 → (Nat → Int32) → Prop) : ∀ (fu : Nat) (v2 : Int32) (m_thrown : Int32) (m_pitch : Nat → Int32) (m_table : Nat → Int32) (m_order : Nat → Int32) (m_many : Int32) (m_ends : Nat → Int32) (m_noteOf : Nat → Int32) (m_cost : Int32) (m_extra : Int32) (m_slotOf : Nat → Int32), wl_X7_mend_22 m_rolls m_first m_length m_items m_itemPitch m_itemStep v1 post fu v2 m_thrown m_pitch m_table m_order m_many m_ends m_noteOf m_cost m_extra m_slotOf → ∀ (H : Heap) (locs : List Loc), va_P D vwCl (w_M cI cZ cR ad_m m_thrown m_rolls m_pitch m_first m_length m_marks m_markStep m_markTicks m_table m_order m_many m_heard m_pressed m_silents m_items m_itemPitch m_itemStep m_ends m_noteOf m_cost m_extra m_slotOf m_sights m_sightCopy m_sightPitch m_isFaulty m_least m_greatest m_lines m_lineCopy m_lineDay m_linePlace m_lineTold m_now) H → va_D A (w_M cI cZ cR ad_m m_thrown m_rolls m_pitch m_first m_length m_marks m_markStep m_markTicks m_table m_order m_many m_heard m_pressed m_silents m_items m_itemPitch m_itemStep m_ends m_noteOf m_cost m_extra m_slotOf m_sights m_sightCopy m_sightPitch m_isFaulty m_least m_greatest m_lines m_lineCopy m_lineDay m_linePlace m_lineTold m_now) → va_S A s.heap H locs → ∀ (ls : Array Slot), lv_has ls 5 [(0, .ref (ad_m 0)), (1, .int v1), (2, .int v2)] → W p l e { frames := 6, cells := 0, slots := 0, locals := 143 } s m args below meth c H locs 0 0 (MQ below (va_Qi (fun (r : Int32) (u : (Int32) × (Nat → Int32) × (Nat → Int32) × (Nat → Int32) × (Int32) × (Nat → Int32) × (Nat → Int32) × (Int32) × (Int32) × (Nat → Int32)) => post r u.1 u.2.1 u.2.2.1 u.2.2.2.1 u.2.2.2.2.1 u.2.2.2.2.2.1 u.2.2.2.2.2.2.1 u.2.2.2.2.2.2.2.1 u.2.2.2.2.2.2.2.2.1 u.2.2.2.2.2.2.2.2.2) (fun u t => gB D (gT cI cZ cR) A (w_M cI cZ cR ad_m u.1 m_rolls u.2.1 m_first m_length m_marks m_markStep m_markTicks u.2.2.1 u.2.2.2.1 u.2.2.2.2.1 m_heard m_pressed m_silents m_items m_itemPitch m_itemStep u.2.2.2.2.2.1 u.2.2.2.2.2.2.1 u.2.2.2.2.2.2.2.1 u.2.2.2.2.2.2.2.2.1 u.2.2.2.2.2.2.2.2.2 m_sights m_sightCopy m_sightPitch m_isFaulty m_least m_greatest m_lines m_lineCopy m_lineDay m_linePlace m_lineTold m_now) t) A) args s 0 0 A) (F0 m 22 ls []) := by
  obtain ⟨hx, hb, hr, hml, hown, hts, hlocks⟩ := id G
  intro fu
  induction fu with
  | zero =>
    intro v2 m_thrown m_pitch m_table m_order m_many m_ends m_noteOf m_cost m_extra m_slotOf h
    exact h.elim
  | succ fu ih =>
    intro v2 m_thrown m_pitch m_table m_order m_many m_ends m_noteOf m_cost m_extra m_slotOf h H locs hP hD hS ls hl
    rw [wl_X7_mend_22] at h
    refine lv_iload_n hx hb dX7_mend_22 rfl (lv_at hl 2 rfl) ?_
    refine lv_aload_n hx hb dX7_mend_23 rfl (lv_at hl 0 rfl) ?_
    refine va_get (D := D) (ci := 7) (v := .int m_items) (C := RX7) (T := TX7) (N := 34) hx hb hts us_X7_mend_X7 hown hK hP 0 rfl rfl 14 (by decide) (hts (.fieldLink RX7 152 "RollHouseModel" "items" "I") lk_X7_mend_1) (fun _ h9 => h9) rfl dX7_mend_24 ?_
    refine lv_icmp_ge (tgt := 67) hx hb dX7_mend_27 (by decide) (fun hc => ?_) (fun hc => ?_)
    · have h := h.1 hc
      refine lv_iconst (v := 0) hx hb dX7_mend_67 (by decide) ?_
      refine lv_istore_n (lv' := [(2, .int 0), (0, .ref (ad_m 0)), (1, .int v1)]) hx hb dX7_mend_68 rfl hl (by decide) rfl (fun ls hl => ?_)
      refine lv_iconst (v := 0) hx hb dX7_mend_69 (by decide) ?_
      refine lv_istore_n (lv' := [(3, .int 0), (2, .int 0), (0, .ref (ad_m 0)), (1, .int v1)]) hx hb dX7_mend_70 rfl hl (by decide) rfl (fun ls hl => ?_)
      obtain ⟨nf, h⟩ := h
      exact ml_X7_mend_71 G hK hN hA m_rolls m_first m_length m_items m_itemPitch m_itemStep v1 post nf 0 0 m_thrown m_pitch m_table m_order m_many m_ends m_noteOf m_cost m_extra m_slotOf h H locs hP hD hS ls (lv_sub hl [2, 3, 1, 0] rfl)
    · have h := h.2 hc
      refine lv_aload_n hx hb dX7_mend_30 rfl (lv_at hl 0 rfl) ?_
      refine va_get (D := D) (ci := 7) (v := .ref (ad_m 13)) (C := RX7) (T := TX7) (N := 34) hx hb hts us_X7_mend_X7 hown hK hP 0 rfl rfl 21 (by decide) (hts (.fieldLink RX7 47 "RollHouseModel" "slotOf" "[I") lk_X7_mend_2) (fun _ h9 => h9) rfl dX7_mend_31 ?_
      refine lv_iload_n hx hb dX7_mend_34 rfl (lv_at hl 2 rfl) ?_
      refine lv_aload_n hx hb dX7_mend_35 rfl (lv_at hl 0 rfl) ?_
      refine va_get (D := D) (ci := 7) (v := .ref (ad_m 12)) (C := RX7) (T := TX7) (N := 34) hx hb hts us_X7_mend_X7 hown hK hP 0 rfl rfl 18 (by decide) (hts (.fieldLink RX7 44 "RollHouseModel" "noteOf" "[I") lk_X7_mend_3) (fun _ h9 => h9) rfl dX7_mend_36 ?_
      refine lv_iload_n hx hb dX7_mend_39 rfl (lv_at hl 2 rfl) ?_
      obtain ⟨hin, h⟩ := h
      refine va_iald hx hb hK hP 12 0 rfl rfl hin dX7_mend_40 ?_
      refine lv_iconst (v := (-1)) hx hb dX7_mend_41 (by decide) ?_
      refine lv_icmp_ne (tgt := 49) hx hb dX7_mend_42 (by decide) (fun hc => ?_) (fun hc => ?_)
      · have h := h.1 hc
        refine lv_aload_n hx hb dX7_mend_49 rfl (lv_at hl 0 rfl) ?_
        refine va_get (D := D) (ci := 7) (v := .ref (ad_m 8)) (C := RX7) (T := TX7) (N := 34) hx hb hts us_X7_mend_X7 hown hK hP 0 rfl rfl 9 (by decide) (hts (.fieldLink RX7 32 "RollHouseModel" "order" "[I") lk_X7_mend_4) (fun _ h9 => h9) rfl dX7_mend_50 ?_
        refine lv_aload_n hx hb dX7_mend_53 rfl (lv_at hl 0 rfl) ?_
        refine va_get (D := D) (ci := 7) (v := .ref (ad_m 12)) (C := RX7) (T := TX7) (N := 34) hx hb hts us_X7_mend_X7 hown hK hP 0 rfl rfl 18 (by decide) (hts (.fieldLink RX7 44 "RollHouseModel" "noteOf" "[I") lk_X7_mend_3) (fun _ h9 => h9) rfl dX7_mend_54 ?_
        refine lv_iload_n hx hb dX7_mend_57 rfl (lv_at hl 2 rfl) ?_
        obtain ⟨hin, h⟩ := h
        refine va_iald hx hb hK hP 12 0 rfl rfl hin dX7_mend_58 ?_
        obtain ⟨hin, h⟩ := h
        refine va_iald hx hb hK hP 8 0 rfl rfl hin dX7_mend_59 ?_
        exact ml_X7_mend_60 G hK hN hA m_rolls m_first m_length m_items m_itemPitch m_itemStep v1 post (wl_X7_mend_22 m_rolls m_first m_length m_items m_itemPitch m_itemStep v1 post fu) ih v2 v2 (m_order (m_noteOf v2.toNatClampNeg).toNatClampNeg) m_thrown m_pitch m_table m_order m_many m_ends m_noteOf m_cost m_extra m_slotOf h H locs hP hD hS ls (lv_sub hl [0, 1, 2] rfl)
      · have h := h.2 hc
        refine lv_iconst (v := (-1)) hx hb dX7_mend_45 (by decide) ?_
        refine lv_goto (tgt := 60) hx hb dX7_mend_46 (by decide) ?_
        exact ml_X7_mend_60 G hK hN hA m_rolls m_first m_length m_items m_itemPitch m_itemStep v1 post (wl_X7_mend_22 m_rolls m_first m_length m_items m_itemPitch m_itemStep v1 post fu) ih v2 v2 (-1) m_thrown m_pitch m_table m_order m_many m_ends m_noteOf m_cost m_extra m_slotOf h H locs hP hD hS ls (lv_sub hl [0, 1, 2] rfl)
set_option maxRecDepth 100000 in
set_option maxHeartbeats 4000000 in
theorem ml_X7_mend_0 {p : Program} {l : Launch} {e : Env} {s : State} {m : MethodId} {args : Array Value} {below : List Frame} {meth : Method} {c : Code} {D : va_G} {cI cZ cR : ClassId} {A : Nat → Prop} {ad_m : Nat → Nat} {m_marks : Nat → Int32} {m_markStep : Nat → Int32} {m_markTicks : Nat → Int32} {m_heard : Int32} {m_pressed : Int32} {m_silents : Int32} {m_sights : Int32} {m_sightCopy : Nat → Int32} {m_sightPitch : Nat → Int32} {m_isFaulty : Nat → Int32} {m_least : Int32} {m_greatest : Int32} {m_lines : Int32} {m_lineCopy : Nat → Int32} {m_lineDay : Nat → Int32} {m_linePlace : Nat → Int32} {m_lineTold : Nat → Int32} {m_now : Int32} (G : gG p s m args meth c cX7_mend (some .int) 5 RX7 wsX7_mend) (hK : va_K D vwCl (gT cI cZ cR) s) (hN : va_Nw gN s) (hA : ∀ q, s.heap.size ≤ q → A q) (m_rolls : Int32) (m_first : Nat → Int32) (m_length : Nat → Int32) (m_items : Int32) (m_itemPitch : Nat → Int32) (m_itemStep : Nat → Int32) (v1 : Int32) (post : Int32 → Int32 → (Nat → Int32) → (Nat → Int32) → (Nat → Int32) → Int32 → (Nat → Int32) → (Nat → Int32) → Int32 → Int32 → (Nat → Int32) → Prop) (m_thrown : Int32) (m_pitch : Nat → Int32) (m_table : Nat → Int32) (m_order : Nat → Int32) (m_many : Int32) (m_ends : Nat → Int32) (m_noteOf : Nat → Int32) (m_cost : Int32) (m_extra : Int32) (m_slotOf : Nat → Int32) (h : wp_X7_mend m_rolls m_first m_length m_items m_itemPitch m_itemStep v1 m_thrown m_pitch m_table m_order m_many m_ends m_noteOf m_cost m_extra m_slotOf post) : ∀ (H : Heap) (locs : List Loc), va_P D vwCl (w_M cI cZ cR ad_m m_thrown m_rolls m_pitch m_first m_length m_marks m_markStep m_markTicks m_table m_order m_many m_heard m_pressed m_silents m_items m_itemPitch m_itemStep m_ends m_noteOf m_cost m_extra m_slotOf m_sights m_sightCopy m_sightPitch m_isFaulty m_least m_greatest m_lines m_lineCopy m_lineDay m_linePlace m_lineTold m_now) H → va_D A (w_M cI cZ cR ad_m m_thrown m_rolls m_pitch m_first m_length m_marks m_markStep m_markTicks m_table m_order m_many m_heard m_pressed m_silents m_items m_itemPitch m_itemStep m_ends m_noteOf m_cost m_extra m_slotOf m_sights m_sightCopy m_sightPitch m_isFaulty m_least m_greatest m_lines m_lineCopy m_lineDay m_linePlace m_lineTold m_now) → va_S A s.heap H locs → ∀ (ls : Array Slot), lv_has ls 5 [(0, .ref (ad_m 0)), (1, .int v1)] → W p l e { frames := 6, cells := 0, slots := 0, locals := 143 } s m args below meth c H locs 0 0 (MQ below (va_Qi (fun (r : Int32) (u : (Int32) × (Nat → Int32) × (Nat → Int32) × (Nat → Int32) × (Int32) × (Nat → Int32) × (Nat → Int32) × (Int32) × (Int32) × (Nat → Int32)) => post r u.1 u.2.1 u.2.2.1 u.2.2.2.1 u.2.2.2.2.1 u.2.2.2.2.2.1 u.2.2.2.2.2.2.1 u.2.2.2.2.2.2.2.1 u.2.2.2.2.2.2.2.2.1 u.2.2.2.2.2.2.2.2.2) (fun u t => gB D (gT cI cZ cR) A (w_M cI cZ cR ad_m u.1 m_rolls u.2.1 m_first m_length m_marks m_markStep m_markTicks u.2.2.1 u.2.2.2.1 u.2.2.2.2.1 m_heard m_pressed m_silents m_items m_itemPitch m_itemStep u.2.2.2.2.2.1 u.2.2.2.2.2.2.1 u.2.2.2.2.2.2.2.1 u.2.2.2.2.2.2.2.2.1 u.2.2.2.2.2.2.2.2.2 m_sights m_sightCopy m_sightPitch m_isFaulty m_least m_greatest m_lines m_lineCopy m_lineDay m_linePlace m_lineTold m_now) t) A) args s 0 0 A) (F0 m 0 ls []) := by
  obtain ⟨hx, hb, hr, hml, hown, hts, hlocks⟩ := id G
  intro H locs hP hD hS ls hl
  unfold wp_X7_mend at h
  refine lv_aload_n hx hb dX7_mend_0 rfl (lv_at hl 0 rfl) ?_
  refine lv_iconst (v := 0) hx hb dX7_mend_1 (by decide) ?_
  refine va_put (D := D) (ci := 7) (v := .int 0) (ty := .int) (C := RX7) (T := TX7) (N := 34) hx hb hts us_X7_mend_X7 tyX7 tyX7_ok nmX7 hown hK hP hD hS 0 rfl rfl 0 (by decide) (hts (.fieldLink RX7 71 "RollHouseModel" "thrown" "I") lk_X7_mend_0) (fun _ h9 => h9) rfl (by decide +kernel) rfl rfl (Nat.le_of_ble_eq_true rfl) dX7_mend_2 (fun H locs hP hD hS => ?_)
  have hP : va_P D vwCl (w_M cI cZ cR ad_m 0 m_rolls m_pitch m_first m_length m_marks m_markStep m_markTicks m_table m_order m_many m_heard m_pressed m_silents m_items m_itemPitch m_itemStep m_ends m_noteOf m_cost m_extra m_slotOf m_sights m_sightCopy m_sightPitch m_isFaulty m_least m_greatest m_lines m_lineCopy m_lineDay m_linePlace m_lineTold m_now) H := hP
  have hD : va_D A (w_M cI cZ cR ad_m 0 m_rolls m_pitch m_first m_length m_marks m_markStep m_markTicks m_table m_order m_many m_heard m_pressed m_silents m_items m_itemPitch m_itemStep m_ends m_noteOf m_cost m_extra m_slotOf m_sights m_sightCopy m_sightPitch m_isFaulty m_least m_greatest m_lines m_lineCopy m_lineDay m_linePlace m_lineTold m_now) := hD
  refine lv_aload_n hx hb dX7_mend_5 rfl (lv_at hl 0 rfl) ?_
  refine lv_iload_n hx hb dX7_mend_6 rfl (lv_at hl 1 rfl) ?_
  refine gl_calliF (va_runV (As := [.int v1]) (rest := []) ⟨hx, hb, hml, hown, hts⟩ (mt_X7_isRoll l D cI cZ cR ad_m H.size 0 m_rolls m_pitch m_first m_length m_marks m_markStep m_markTicks m_table m_order m_many m_heard m_pressed m_silents m_items m_itemPitch m_itemStep m_ends m_noteOf m_cost m_extra m_slotOf m_sights m_sightCopy m_sightPitch m_isFaulty m_least m_greatest m_lines m_lineCopy m_lineDay m_linePlace m_lineTold m_now v1 _ h) (cwV 1 hts gX7_mend_X7_isRoll rfl rfl rfl (by decide +kernel) ⟨Nat.le_of_ble_eq_true rfl, Nat.le_of_ble_eq_true rfl⟩) ⟨gl_blind, va_recv hK hP (ci := 7) (q0 := 0) rfl rfl, gl_pre hP hK hN hD⟩ rfl rfl hl.1 rfl (lv_room (Nat.le_of_ble_eq_true rfl)) dX7_mend_7 ⟨Nat.le_of_ble_eq_true rfl, Nat.le_of_ble_eq_true rfl⟩) hD hS hA (fun r1 u H locs h hP hD hS => ?_)
  try dsimp only at h
  refine lv_if_ne (tgt := 15) hx hb dX7_mend_10 (by decide) (fun hc => ?_) (fun hc => ?_)
  · have h := h.1 hc
    refine lv_aload_n hx hb dX7_mend_15 rfl (lv_at hl 0 rfl) ?_
    refine lv_iload_n hx hb dX7_mend_16 rfl (lv_at hl 1 rfl) ?_
    refine gl_callvF (va_runV (As := [.int v1]) (rest := []) ⟨hx, hb, hml, hown, hts⟩ (mt_X7_aligns l D cI cZ cR ad_m H.size 0 m_rolls m_pitch m_first m_length m_marks m_markStep m_markTicks m_table m_order m_many m_heard m_pressed m_silents m_items m_itemPitch m_itemStep m_ends m_noteOf m_cost m_extra m_slotOf m_sights m_sightCopy m_sightPitch m_isFaulty m_least m_greatest m_lines m_lineCopy m_lineDay m_linePlace m_lineTold m_now v1 _ h) (cwV 1 hts gX7_mend_X7_aligns rfl rfl rfl (by decide +kernel) ⟨Nat.le_of_ble_eq_true rfl, Nat.le_of_ble_eq_true rfl⟩) ⟨gl_blind, va_recv hK hP (ci := 7) (q0 := 0) rfl rfl, gl_pre hP hK hN hD⟩ rfl rfl hl.1 rfl (lv_room (Nat.le_of_ble_eq_true rfl)) dX7_mend_17 ⟨Nat.le_of_ble_eq_true rfl, Nat.le_of_ble_eq_true rfl⟩) hD hS hA (fun u H locs h hP hD hS => ?_)
    obtain ⟨a2, z3, a4, a5, z6, z7⟩ := u
    try dsimp only at h
    have hP : va_P D vwCl (w_M cI cZ cR ad_m 0 m_rolls m_pitch m_first m_length m_marks m_markStep m_markTicks m_table a2 z3 m_heard m_pressed m_silents m_items m_itemPitch m_itemStep a4 a5 z6 z7 m_slotOf m_sights m_sightCopy m_sightPitch m_isFaulty m_least m_greatest m_lines m_lineCopy m_lineDay m_linePlace m_lineTold m_now) H := hP
    have hD : va_D A (w_M cI cZ cR ad_m 0 m_rolls m_pitch m_first m_length m_marks m_markStep m_markTicks m_table a2 z3 m_heard m_pressed m_silents m_items m_itemPitch m_itemStep a4 a5 z6 z7 m_slotOf m_sights m_sightCopy m_sightPitch m_isFaulty m_least m_greatest m_lines m_lineCopy m_lineDay m_linePlace m_lineTold m_now) := hD
    refine lv_iconst (v := 0) hx hb dX7_mend_20 (by decide) ?_
    refine lv_istore_n (lv' := [(2, .int 0), (0, .ref (ad_m 0)), (1, .int v1)]) hx hb dX7_mend_21 rfl hl (by decide) rfl (fun ls hl => ?_)
    obtain ⟨nf, h⟩ := h
    exact ml_X7_mend_22 G hK hN hA m_rolls m_first m_length m_items m_itemPitch m_itemStep v1 post nf 0 0 m_pitch m_table a2 z3 a4 a5 z6 z7 m_slotOf h H locs hP hD hS ls (lv_sub hl [1, 2, 0] rfl)
  · have h := h.2 hc
    refine lv_iconst (v := (-1)) hx hb dX7_mend_13 (by decide) ?_
    exact gl_ireti G hK (u := (0, m_pitch, m_table, m_order, m_many, m_ends, m_noteOf, m_cost, m_extra, m_slotOf)) hP hD hS h dX7_mend_14
set_option maxRecDepth 100000 in
theorem mt_X7_mend (l : Launch) (D : va_G) (cI cZ cR : ClassId) (ad_m : Nat → Nat) (sz : Nat) (m_thrown : Int32) (m_rolls : Int32) (m_pitch : Nat → Int32) (m_first : Nat → Int32) (m_length : Nat → Int32) (m_marks : Nat → Int32) (m_markStep : Nat → Int32) (m_markTicks : Nat → Int32) (m_table : Nat → Int32) (m_order : Nat → Int32) (m_many : Int32) (m_heard : Int32) (m_pressed : Int32) (m_silents : Int32) (m_items : Int32) (m_itemPitch : Nat → Int32) (m_itemStep : Nat → Int32) (m_ends : Nat → Int32) (m_noteOf : Nat → Int32) (m_cost : Int32) (m_extra : Int32) (m_slotOf : Nat → Int32) (m_sights : Int32) (m_sightCopy : Nat → Int32) (m_sightPitch : Nat → Int32) (m_isFaulty : Nat → Int32) (m_least : Int32) (m_greatest : Int32) (m_lines : Int32) (m_lineCopy : Nat → Int32) (m_lineDay : Nat → Int32) (m_linePlace : Nat → Int32) (m_lineTold : Nat → Int32) (m_now : Int32) (v1 : Int32) (post : Int32 → Int32 → (Nat → Int32) → (Nat → Int32) → (Nat → Int32) → Int32 → (Nat → Int32) → (Nat → Int32) → Int32 → Int32 → (Nat → Int32) → Prop) (h : wp_X7_mend m_rolls m_first m_length m_items m_itemPitch m_itemStep v1 m_thrown m_pitch m_table m_order m_many m_ends m_noteOf m_cost m_extra m_slotOf post) : Met l yX7_mend wsX7_mend ({ frames := 6, cells := 0, slots := 0, locals := 143 }) (gPc D (gT cI cZ cR) (w_M cI cZ cR ad_m m_thrown m_rolls m_pitch m_first m_length m_marks m_markStep m_markTicks m_table m_order m_many m_heard m_pressed m_silents m_items m_itemPitch m_itemStep m_ends m_noteOf m_cost m_extra m_slotOf m_sights m_sightCopy m_sightPitch m_isFaulty m_least m_greatest m_lines m_lineCopy m_lineDay m_linePlace m_lineTold m_now) sz [.ref (ad_m 0), .int v1]) (va_Qi (fun (r : Int32) (u : (Int32) × (Nat → Int32) × (Nat → Int32) × (Nat → Int32) × (Int32) × (Nat → Int32) × (Nat → Int32) × (Int32) × (Int32) × (Nat → Int32)) => post r u.1 u.2.1 u.2.2.1 u.2.2.2.1 u.2.2.2.2.1 u.2.2.2.2.2.1 u.2.2.2.2.2.2.1 u.2.2.2.2.2.2.2.1 u.2.2.2.2.2.2.2.2.1 u.2.2.2.2.2.2.2.2.2) (fun u t => gB D (gT cI cZ cR) (va_A (w_M cI cZ cR ad_m m_thrown m_rolls m_pitch m_first m_length m_marks m_markStep m_markTicks m_table m_order m_many m_heard m_pressed m_silents m_items m_itemPitch m_itemStep m_ends m_noteOf m_cost m_extra m_slotOf m_sights m_sightCopy m_sightPitch m_isFaulty m_least m_greatest m_lines m_lineCopy m_lineDay m_linePlace m_lineTold m_now) sz) (w_M cI cZ cR ad_m u.1 m_rolls u.2.1 m_first m_length m_marks m_markStep m_markTicks u.2.2.1 u.2.2.2.1 u.2.2.2.2.1 m_heard m_pressed m_silents m_items m_itemPitch m_itemStep u.2.2.2.2.2.1 u.2.2.2.2.2.2.1 u.2.2.2.2.2.2.2.1 u.2.2.2.2.2.2.2.2.1 u.2.2.2.2.2.2.2.2.2 m_sights m_sightCopy m_sightPitch m_isFaulty m_least m_greatest m_lines m_lineCopy m_lineDay m_linePlace m_lineTold m_now) t) (va_A (w_M cI cZ cR ad_m m_thrown m_rolls m_pitch m_first m_length m_marks m_markStep m_markTicks m_table m_order m_many m_heard m_pressed m_silents m_items m_itemPitch m_itemStep m_ends m_noteOf m_cost m_extra m_slotOf m_sights m_sightCopy m_sightPitch m_isFaulty m_least m_greatest m_lines m_lineCopy m_lineDay m_linePlace m_lineTold m_now) sz)) 0 0 (va_A (w_M cI cZ cR ad_m m_thrown m_rolls m_pitch m_first m_length m_marks m_markStep m_markTicks m_table m_order m_many m_heard m_pressed m_silents m_items m_itemPitch m_itemStep m_ends m_noteOf m_cost m_extra m_slotOf m_sights m_sightCopy m_sightPitch m_isFaulty m_least m_greatest m_lines m_lineCopy m_lineDay m_linePlace m_lineTold m_now) sz) := by
  refine gl_entry (cc := cX7_mend) (maxL := 5) (ret := (some .int)) (by decide) rfl (Nat.le_of_ble_eq_true rfl) ?_
  intro p e s m below meth c ls G hin hsz hK hN hP hD hl
  subst hsz
  exact ml_X7_mend_0 G hK hN (fun q h => Or.inr h) m_rolls m_first m_length m_items m_itemPitch m_itemStep v1 post m_thrown m_pitch m_table m_order m_many m_ends m_noteOf m_cost m_extra m_slotOf h s.heap [] hP hD va_S.rf ls hl
