theorem lk_J6_bitCount_0f7a4_0 : (Cond.constant RJ6 265 (1431655765)) ∈ wsJ6_bitCount_0f7a4 := by decide +kernel
theorem lk_J6_bitCount_0f7a4_1 : (Cond.constant RJ6 266 (858993459)) ∈ wsJ6_bitCount_0f7a4 := by decide +kernel
theorem lk_J6_bitCount_0f7a4_2 : (Cond.constant RJ6 267 (252645135)) ∈ wsJ6_bitCount_0f7a4 := by decide +kernel
def wp_J6_bitCount_0f7a4 (v0 : Int32) (post : Int32 → Prop) : Prop := (∀ z1 : Int32, z1 = ((v0.toUInt32 >>> (Int32.toUInt32 1 &&& Int32.toUInt32 31)).toInt32) &&& 1431655765 → (∀ z2 : Int32, z2 = (((v0 - z1).toUInt32 >>> (Int32.toUInt32 2 &&& Int32.toUInt32 31)).toInt32) &&& 858993459 → (∀ z3 : Int32, z3 = ((v0 - z1) &&& 858993459) + z2 → (∀ z4 : Int32, z4 = z3 + ((z3.toUInt32 >>> (Int32.toUInt32 4 &&& Int32.toUInt32 31)).toInt32) → (∀ z5 : Int32, z5 = z4 &&& 252645135 → (∀ z6 : Int32, z6 = z5 + ((z5.toUInt32 >>> (Int32.toUInt32 8 &&& Int32.toUInt32 31)).toInt32) → (∀ z7 : Int32, z7 = z6 + ((z6.toUInt32 >>> (Int32.toUInt32 16 &&& Int32.toUInt32 31)).toInt32) → post (z7 &&& 63) )))))))
set_option maxRecDepth 100000 in
set_option maxHeartbeats 4000000 in
theorem ml_J6_bitCount_0f7a4_0 {p : Program} {l : Launch} {e : Env} {s : State} {m : MethodId} {args : Array Value} {below : List Frame} {meth : Method} {c : Code} {D : va_G} {cI cZ cR : ClassId} {A : Nat → Prop}  (G : gG p s m args meth c cJ6_bitCount_0f7a4 (some .int) 1 RJ6 wsJ6_bitCount_0f7a4) (hK : va_K D vwCl (gT cI cZ cR) s) (hN : va_Nw gN s) (hA : ∀ q, s.heap.size ≤ q → A q)  (post : Int32 → Prop) (v0 : Int32) (h : wp_J6_bitCount_0f7a4 v0 post) : ∀ (H : Heap) (locs : List Loc), va_P D vwCl ([]) H → va_D A ([]) → va_S A s.heap H locs → ∀ (ls : Array Slot), lv_has ls 1 [(0, .int v0)] → W p l e { frames := 0, cells := 0, slots := 0, locals := 0 } s m args below meth c H locs 0 0 (MQ below (va_Qi (fun (r : Int32) (u : Unit) => post r ) (fun u t => gB D (gT cI cZ cR) A ([]) t) A) args s 0 0 A) (F0 m 0 ls []) := by
  obtain ⟨hx, hb, hr, hml, hown, hts, hlocks⟩ := id G
  intro H locs hP hD hS ls hl
  unfold wp_J6_bitCount_0f7a4 at h
  refine lv_iload_n hx hb dJ6_bitCount_0f7a4_0 rfl (lv_at hl 0 rfl) ?_
  refine lv_iload_n hx hb dJ6_bitCount_0f7a4_1 rfl (lv_at hl 0 rfl) ?_
  refine lv_iconst (v := 1) hx hb dJ6_bitCount_0f7a4_2 (by decide) ?_
  refine lv_iushr (v := (v0.toUInt32 >>> (Int32.toUInt32 1 &&& Int32.toUInt32 31)).toInt32) hx hb dJ6_bitCount_0f7a4_3 rfl ?_
  refine lv_ldcw (v := 1431655765) hx hb hown (hts (.constant RJ6 265 (1431655765)) lk_J6_bitCount_0f7a4_0) dJ6_bitCount_0f7a4_4 ?_
  refine lv_iand hx hb dJ6_bitCount_0f7a4_7 ?_
  refine lv_topi (fun z1 ez1 => ?_)
  have h := h z1 ez1
  refine lv_isub hx hb dJ6_bitCount_0f7a4_8 ?_
  refine lv_istore_n (lv' := [(0, .int (v0 - z1))]) hx hb dJ6_bitCount_0f7a4_9 rfl hl (by decide) rfl (fun ls hl => ?_)
  refine lv_iload_n hx hb dJ6_bitCount_0f7a4_10 rfl (lv_at hl 0 rfl) ?_
  refine lv_ldcw (v := 858993459) hx hb hown (hts (.constant RJ6 266 (858993459)) lk_J6_bitCount_0f7a4_1) dJ6_bitCount_0f7a4_11 ?_
  refine lv_iand hx hb dJ6_bitCount_0f7a4_14 ?_
  refine lv_iload_n hx hb dJ6_bitCount_0f7a4_15 rfl (lv_at hl 0 rfl) ?_
  refine lv_iconst (v := 2) hx hb dJ6_bitCount_0f7a4_16 (by decide) ?_
  refine lv_iushr (v := ((v0 - z1).toUInt32 >>> (Int32.toUInt32 2 &&& Int32.toUInt32 31)).toInt32) hx hb dJ6_bitCount_0f7a4_17 rfl ?_
  refine lv_ldcw (v := 858993459) hx hb hown (hts (.constant RJ6 266 (858993459)) lk_J6_bitCount_0f7a4_1) dJ6_bitCount_0f7a4_18 ?_
  refine lv_iand hx hb dJ6_bitCount_0f7a4_21 ?_
  refine lv_topi (fun z2 ez2 => ?_)
  have h := h z2 ez2
  refine lv_iadd hx hb dJ6_bitCount_0f7a4_22 ?_
  refine lv_topi (fun z3 ez3 => ?_)
  have h := h z3 ez3
  refine lv_istore_n (lv' := [(0, .int z3)]) hx hb dJ6_bitCount_0f7a4_23 rfl hl (by decide) rfl (fun ls hl => ?_)
  refine lv_iload_n hx hb dJ6_bitCount_0f7a4_24 rfl (lv_at hl 0 rfl) ?_
  refine lv_iload_n hx hb dJ6_bitCount_0f7a4_25 rfl (lv_at hl 0 rfl) ?_
  refine lv_iconst (v := 4) hx hb dJ6_bitCount_0f7a4_26 (by decide) ?_
  refine lv_iushr (v := (z3.toUInt32 >>> (Int32.toUInt32 4 &&& Int32.toUInt32 31)).toInt32) hx hb dJ6_bitCount_0f7a4_27 rfl ?_
  refine lv_iadd hx hb dJ6_bitCount_0f7a4_28 ?_
  refine lv_topi (fun z4 ez4 => ?_)
  have h := h z4 ez4
  refine lv_ldcw (v := 252645135) hx hb hown (hts (.constant RJ6 267 (252645135)) lk_J6_bitCount_0f7a4_2) dJ6_bitCount_0f7a4_29 ?_
  refine lv_iand hx hb dJ6_bitCount_0f7a4_32 ?_
  refine lv_topi (fun z5 ez5 => ?_)
  have h := h z5 ez5
  refine lv_istore_n (lv' := [(0, .int z5)]) hx hb dJ6_bitCount_0f7a4_33 rfl hl (by decide) rfl (fun ls hl => ?_)
  refine lv_iload_n hx hb dJ6_bitCount_0f7a4_34 rfl (lv_at hl 0 rfl) ?_
  refine lv_iload_n hx hb dJ6_bitCount_0f7a4_35 rfl (lv_at hl 0 rfl) ?_
  refine lv_bipush (v := 8) hx hb dJ6_bitCount_0f7a4_36 (by decide) ?_
  refine lv_iushr (v := (z5.toUInt32 >>> (Int32.toUInt32 8 &&& Int32.toUInt32 31)).toInt32) hx hb dJ6_bitCount_0f7a4_38 rfl ?_
  refine lv_iadd hx hb dJ6_bitCount_0f7a4_39 ?_
  refine lv_topi (fun z6 ez6 => ?_)
  have h := h z6 ez6
  refine lv_istore_n (lv' := [(0, .int z6)]) hx hb dJ6_bitCount_0f7a4_40 rfl hl (by decide) rfl (fun ls hl => ?_)
  refine lv_iload_n hx hb dJ6_bitCount_0f7a4_41 rfl (lv_at hl 0 rfl) ?_
  refine lv_iload_n hx hb dJ6_bitCount_0f7a4_42 rfl (lv_at hl 0 rfl) ?_
  refine lv_bipush (v := 16) hx hb dJ6_bitCount_0f7a4_43 (by decide) ?_
  refine lv_iushr (v := (z6.toUInt32 >>> (Int32.toUInt32 16 &&& Int32.toUInt32 31)).toInt32) hx hb dJ6_bitCount_0f7a4_45 rfl ?_
  refine lv_iadd hx hb dJ6_bitCount_0f7a4_46 ?_
  refine lv_topi (fun z7 ez7 => ?_)
  have h := h z7 ez7
  refine lv_istore_n (lv' := [(0, .int z7)]) hx hb dJ6_bitCount_0f7a4_47 rfl hl (by decide) rfl (fun ls hl => ?_)
  refine lv_iload_n hx hb dJ6_bitCount_0f7a4_48 rfl (lv_at hl 0 rfl) ?_
  refine lv_bipush (v := 63) hx hb dJ6_bitCount_0f7a4_49 (by decide) ?_
  refine lv_iand hx hb dJ6_bitCount_0f7a4_51 ?_
  exact gl_ireti G hK (u := ()) hP hD hS h dJ6_bitCount_0f7a4_52
set_option maxRecDepth 100000 in
theorem mt_J6_bitCount_0f7a4 (l : Launch) (D : va_G) (cI cZ cR : ClassId) (sz : Nat) (v0 : Int32) (post : Int32 → Prop) (h : wp_J6_bitCount_0f7a4 v0 post) : Met l yJ6_bitCount_0f7a4 wsJ6_bitCount_0f7a4 ({ frames := 0, cells := 0, slots := 0, locals := 0 }) (gPc D (gT cI cZ cR) ([]) sz [.int v0]) (va_Qi (fun (r : Int32) (u : Unit) => post r ) (fun u t => gB D (gT cI cZ cR) (va_A ([]) sz) ([]) t) (va_A ([]) sz)) 0 0 (va_A ([]) sz) := by
  refine gl_entry (cc := cJ6_bitCount_0f7a4) (maxL := 1) (ret := (some .int)) (by decide) rfl (Nat.le_of_ble_eq_true rfl) ?_
  intro p e s m below meth c ls G hin hsz hK hN hP hD hl
  subst hsz
  exact ml_J6_bitCount_0f7a4_0 G hK hN (fun q h => Or.inr h) post v0 h s.heap [] hP hD va_S.rf ls hl
def wp_X7_within (v0 : Int32) (v1 : Int32) (v2 : Int32) (post : Int32 → Prop) : Prop := ((v0 < v1 → post 0 ) ∧ (¬ v0 < v1 → ((v2 < v0 → post 0 ) ∧ (¬ v2 < v0 → post 1 ))))
set_option maxRecDepth 100000 in
set_option maxHeartbeats 4000000 in
theorem ml_X7_within_0 {p : Program} {l : Launch} {e : Env} {s : State} {m : MethodId} {args : Array Value} {below : List Frame} {meth : Method} {c : Code} {D : va_G} {cI cZ cR : ClassId} {A : Nat → Prop}  (G : gG p s m args meth c cX7_within (some .boolean) 3 RX7 wsX7_within) (hK : va_K D vwCl (gT cI cZ cR) s) (hN : va_Nw gN s) (hA : ∀ q, s.heap.size ≤ q → A q) (v0 : Int32) (v1 : Int32) (v2 : Int32) (post : Int32 → Prop)  (h : wp_X7_within v0 v1 v2 post) : ∀ (H : Heap) (locs : List Loc), va_P D vwCl ([]) H → va_D A ([]) → va_S A s.heap H locs → ∀ (ls : Array Slot), lv_has ls 3 [(0, .int v0), (1, .int v1), (2, .int v2)] → W p l e { frames := 0, cells := 0, slots := 0, locals := 0 } s m args below meth c H locs 0 0 (MQ below (va_Qi (fun (r : Int32) (u : Unit) => post r ) (fun u t => gB D (gT cI cZ cR) A ([]) t) A) args s 0 0 A) (F0 m 0 ls []) := by
  obtain ⟨hx, hb, hr, hml, hown, hts, hlocks⟩ := id G
  intro H locs hP hD hS ls hl
  unfold wp_X7_within at h
  refine lv_iload_n hx hb dX7_within_0 rfl (lv_at hl 0 rfl) ?_
  refine lv_iload_n hx hb dX7_within_1 rfl (lv_at hl 1 rfl) ?_
  refine lv_icmp_lt (tgt := 14) hx hb dX7_within_2 (by decide) (fun hc => ?_) (fun hc => ?_)
  · have h := h.1 hc
    refine lv_iconst (v := 0) hx hb dX7_within_14 (by decide) ?_
    exact gl_iretz G hK (u := ()) hP hD hS (by decide) h dX7_within_15
  · have h := h.2 hc
    refine lv_iload_n hx hb dX7_within_5 rfl (lv_at hl 0 rfl) ?_
    refine lv_iload_n hx hb dX7_within_6 rfl (lv_at hl 2 rfl) ?_
    refine lv_icmp_gt (tgt := 14) hx hb dX7_within_7 (by decide) (fun hc => ?_) (fun hc => ?_)
    · have h := h.1 hc
      refine lv_iconst (v := 0) hx hb dX7_within_14 (by decide) ?_
      exact gl_iretz G hK (u := ()) hP hD hS (by decide) h dX7_within_15
    · have h := h.2 hc
      refine lv_iconst (v := 1) hx hb dX7_within_10 (by decide) ?_
      refine lv_goto (tgt := 15) hx hb dX7_within_11 (by decide) ?_
      exact gl_iretz G hK (u := ()) hP hD hS (by decide) h dX7_within_15
set_option maxRecDepth 100000 in
theorem mt_X7_within (l : Launch) (D : va_G) (cI cZ cR : ClassId) (sz : Nat) (v0 : Int32) (v1 : Int32) (v2 : Int32) (post : Int32 → Prop) (h : wp_X7_within v0 v1 v2 post) : Met l yX7_within wsX7_within ({ frames := 0, cells := 0, slots := 0, locals := 0 }) (gPc D (gT cI cZ cR) ([]) sz [.int v0, .int v1, .int v2]) (va_Qi (fun (r : Int32) (u : Unit) => post r ) (fun u t => gB D (gT cI cZ cR) (va_A ([]) sz) ([]) t) (va_A ([]) sz)) 0 0 (va_A ([]) sz) := by
  refine gl_entry (cc := cX7_within) (maxL := 3) (ret := (some .boolean)) (by decide) rfl (Nat.le_of_ble_eq_true rfl) ?_
  intro p e s m below meth c ls G hin hsz hK hN hP hD hl
  subst hsz
  exact ml_X7_within_0 G hK hN (fun q h => Or.inr h) v0 v1 v2 post h s.heap [] hP hD va_S.rf ls hl
def wp_X7_size (v0 : Int32) (post : Int32 → Prop) : Prop := ((0 ≤ v0 → post v0 ) ∧ (¬ 0 ≤ v0 → post (-v0) ))
set_option maxRecDepth 100000 in
set_option maxHeartbeats 4000000 in
theorem ml_X7_size_0 {p : Program} {l : Launch} {e : Env} {s : State} {m : MethodId} {args : Array Value} {below : List Frame} {meth : Method} {c : Code} {D : va_G} {cI cZ cR : ClassId} {A : Nat → Prop}  (G : gG p s m args meth c cX7_size (some .int) 1 RX7 wsX7_size) (hK : va_K D vwCl (gT cI cZ cR) s) (hN : va_Nw gN s) (hA : ∀ q, s.heap.size ≤ q → A q) (v0 : Int32) (post : Int32 → Prop)  (h : wp_X7_size v0 post) : ∀ (H : Heap) (locs : List Loc), va_P D vwCl ([]) H → va_D A ([]) → va_S A s.heap H locs → ∀ (ls : Array Slot), lv_has ls 1 [(0, .int v0)] → W p l e { frames := 0, cells := 0, slots := 0, locals := 0 } s m args below meth c H locs 0 0 (MQ below (va_Qi (fun (r : Int32) (u : Unit) => post r ) (fun u t => gB D (gT cI cZ cR) A ([]) t) A) args s 0 0 A) (F0 m 0 ls []) := by
  obtain ⟨hx, hb, hr, hml, hown, hts, hlocks⟩ := id G
  intro H locs hP hD hS ls hl
  unfold wp_X7_size at h
  refine lv_iload_n hx hb dX7_size_0 rfl (lv_at hl 0 rfl) ?_
  refine lv_if_ge (tgt := 9) hx hb dX7_size_1 (by decide) (fun hc => ?_) (fun hc => ?_)
  · have h := h.1 hc
    refine lv_iload_n hx hb dX7_size_9 rfl (lv_at hl 0 rfl) ?_
    exact gl_ireti G hK (u := ()) hP hD hS h dX7_size_10
  · have h := h.2 hc
    refine lv_iload_n hx hb dX7_size_4 rfl (lv_at hl 0 rfl) ?_
    refine lv_ineg hx hb dX7_size_5 ?_
    refine lv_goto (tgt := 10) hx hb dX7_size_6 (by decide) ?_
    exact gl_ireti G hK (u := ()) hP hD hS h dX7_size_10
set_option maxRecDepth 100000 in
theorem mt_X7_size (l : Launch) (D : va_G) (cI cZ cR : ClassId) (sz : Nat) (v0 : Int32) (post : Int32 → Prop) (h : wp_X7_size v0 post) : Met l yX7_size wsX7_size ({ frames := 0, cells := 0, slots := 0, locals := 0 }) (gPc D (gT cI cZ cR) ([]) sz [.int v0]) (va_Qi (fun (r : Int32) (u : Unit) => post r ) (fun u t => gB D (gT cI cZ cR) (va_A ([]) sz) ([]) t) (va_A ([]) sz)) 0 0 (va_A ([]) sz) := by
  refine gl_entry (cc := cX7_size) (maxL := 1) (ret := (some .int)) (by decide) rfl (Nat.le_of_ble_eq_true rfl) ?_
  intro p e s m below meth c ls G hin hsz hK hN hP hD hl
  subst hsz
  exact ml_X7_size_0 G hK hN (fun q h => Or.inr h) v0 post h s.heap [] hP hD va_S.rf ls hl
theorem lk_X7_thrown_0 : (Cond.fieldLink RX7 71 "RollHouseModel" "thrown" "I") ∈ wsX7_thrown := by decide +kernel
theorem us_X7_thrown_X7 : ∀ w ∈ u_ws RX7 TX7 34, w ∈ wsX7_thrown := by decide +kernel
def wp_X7_thrown (m_thrown : Int32) (post : Int32 → Prop) : Prop := post m_thrown 
set_option maxRecDepth 100000 in
set_option maxHeartbeats 4000000 in
theorem ml_X7_thrown_0 {p : Program} {l : Launch} {e : Env} {s : State} {m : MethodId} {args : Array Value} {below : List Frame} {meth : Method} {c : Code} {D : va_G} {cI cZ cR : ClassId} {A : Nat → Prop} {ad_m : Nat → Nat} {m_rolls : Int32} {m_pitch : Nat → Int32} {m_first : Nat → Int32} {m_length : Nat → Int32} {m_marks : Nat → Int32} {m_markStep : Nat → Int32} {m_markTicks : Nat → Int32} {m_table : Nat → Int32} {m_order : Nat → Int32} {m_many : Int32} {m_heard : Int32} {m_pressed : Int32} {m_silents : Int32} {m_items : Int32} {m_itemPitch : Nat → Int32} {m_itemStep : Nat → Int32} {m_ends : Nat → Int32} {m_noteOf : Nat → Int32} {m_cost : Int32} {m_extra : Int32} {m_slotOf : Nat → Int32} {m_sights : Int32} {m_sightCopy : Nat → Int32} {m_sightPitch : Nat → Int32} {m_isFaulty : Nat → Int32} {m_least : Int32} {m_greatest : Int32} {m_lines : Int32} {m_lineCopy : Nat → Int32} {m_lineDay : Nat → Int32} {m_linePlace : Nat → Int32} {m_lineTold : Nat → Int32} {m_now : Int32} (G : gG p s m args meth c cX7_thrown (some .int) 1 RX7 wsX7_thrown) (hK : va_K D vwCl (gT cI cZ cR) s) (hN : va_Nw gN s) (hA : ∀ q, s.heap.size ≤ q → A q) (m_thrown : Int32) (post : Int32 → Prop)  (h : wp_X7_thrown m_thrown post) : ∀ (H : Heap) (locs : List Loc), va_P D vwCl (w_M cI cZ cR ad_m m_thrown m_rolls m_pitch m_first m_length m_marks m_markStep m_markTicks m_table m_order m_many m_heard m_pressed m_silents m_items m_itemPitch m_itemStep m_ends m_noteOf m_cost m_extra m_slotOf m_sights m_sightCopy m_sightPitch m_isFaulty m_least m_greatest m_lines m_lineCopy m_lineDay m_linePlace m_lineTold m_now) H → va_D A (w_M cI cZ cR ad_m m_thrown m_rolls m_pitch m_first m_length m_marks m_markStep m_markTicks m_table m_order m_many m_heard m_pressed m_silents m_items m_itemPitch m_itemStep m_ends m_noteOf m_cost m_extra m_slotOf m_sights m_sightCopy m_sightPitch m_isFaulty m_least m_greatest m_lines m_lineCopy m_lineDay m_linePlace m_lineTold m_now) → va_S A s.heap H locs → ∀ (ls : Array Slot), lv_has ls 1 [(0, .ref (ad_m 0))] → W p l e { frames := 0, cells := 0, slots := 0, locals := 0 } s m args below meth c H locs 0 0 (MQ below (va_Qi (fun (r : Int32) (u : Unit) => post r ) (fun u t => gB D (gT cI cZ cR) A (w_M cI cZ cR ad_m m_thrown m_rolls m_pitch m_first m_length m_marks m_markStep m_markTicks m_table m_order m_many m_heard m_pressed m_silents m_items m_itemPitch m_itemStep m_ends m_noteOf m_cost m_extra m_slotOf m_sights m_sightCopy m_sightPitch m_isFaulty m_least m_greatest m_lines m_lineCopy m_lineDay m_linePlace m_lineTold m_now) t) A) args s 0 0 A) (F0 m 0 ls []) := by
  obtain ⟨hx, hb, hr, hml, hown, hts, hlocks⟩ := id G
  intro H locs hP hD hS ls hl
  unfold wp_X7_thrown at h
  refine lv_aload_n hx hb dX7_thrown_0 rfl (lv_at hl 0 rfl) ?_
  refine va_get (D := D) (ci := 7) (v := .int m_thrown) (C := RX7) (T := TX7) (N := 34) hx hb hts us_X7_thrown_X7 hown hK hP 0 rfl rfl 0 (by decide) (hts (.fieldLink RX7 71 "RollHouseModel" "thrown" "I") lk_X7_thrown_0) (fun _ h9 => h9) rfl dX7_thrown_1 ?_
  exact gl_ireti G hK (u := ()) hP hD hS h dX7_thrown_4
set_option maxRecDepth 100000 in
theorem mt_X7_thrown (l : Launch) (D : va_G) (cI cZ cR : ClassId) (ad_m : Nat → Nat) (sz : Nat) (m_thrown : Int32) (m_rolls : Int32) (m_pitch : Nat → Int32) (m_first : Nat → Int32) (m_length : Nat → Int32) (m_marks : Nat → Int32) (m_markStep : Nat → Int32) (m_markTicks : Nat → Int32) (m_table : Nat → Int32) (m_order : Nat → Int32) (m_many : Int32) (m_heard : Int32) (m_pressed : Int32) (m_silents : Int32) (m_items : Int32) (m_itemPitch : Nat → Int32) (m_itemStep : Nat → Int32) (m_ends : Nat → Int32) (m_noteOf : Nat → Int32) (m_cost : Int32) (m_extra : Int32) (m_slotOf : Nat → Int32) (m_sights : Int32) (m_sightCopy : Nat → Int32) (m_sightPitch : Nat → Int32) (m_isFaulty : Nat → Int32) (m_least : Int32) (m_greatest : Int32) (m_lines : Int32) (m_lineCopy : Nat → Int32) (m_lineDay : Nat → Int32) (m_linePlace : Nat → Int32) (m_lineTold : Nat → Int32) (m_now : Int32) (post : Int32 → Prop) (h : wp_X7_thrown m_thrown post) : Met l yX7_thrown wsX7_thrown ({ frames := 0, cells := 0, slots := 0, locals := 0 }) (gPc D (gT cI cZ cR) (w_M cI cZ cR ad_m m_thrown m_rolls m_pitch m_first m_length m_marks m_markStep m_markTicks m_table m_order m_many m_heard m_pressed m_silents m_items m_itemPitch m_itemStep m_ends m_noteOf m_cost m_extra m_slotOf m_sights m_sightCopy m_sightPitch m_isFaulty m_least m_greatest m_lines m_lineCopy m_lineDay m_linePlace m_lineTold m_now) sz [.ref (ad_m 0)]) (va_Qi (fun (r : Int32) (u : Unit) => post r ) (fun u t => gB D (gT cI cZ cR) (va_A (w_M cI cZ cR ad_m m_thrown m_rolls m_pitch m_first m_length m_marks m_markStep m_markTicks m_table m_order m_many m_heard m_pressed m_silents m_items m_itemPitch m_itemStep m_ends m_noteOf m_cost m_extra m_slotOf m_sights m_sightCopy m_sightPitch m_isFaulty m_least m_greatest m_lines m_lineCopy m_lineDay m_linePlace m_lineTold m_now) sz) (w_M cI cZ cR ad_m m_thrown m_rolls m_pitch m_first m_length m_marks m_markStep m_markTicks m_table m_order m_many m_heard m_pressed m_silents m_items m_itemPitch m_itemStep m_ends m_noteOf m_cost m_extra m_slotOf m_sights m_sightCopy m_sightPitch m_isFaulty m_least m_greatest m_lines m_lineCopy m_lineDay m_linePlace m_lineTold m_now) t) (va_A (w_M cI cZ cR ad_m m_thrown m_rolls m_pitch m_first m_length m_marks m_markStep m_markTicks m_table m_order m_many m_heard m_pressed m_silents m_items m_itemPitch m_itemStep m_ends m_noteOf m_cost m_extra m_slotOf m_sights m_sightCopy m_sightPitch m_isFaulty m_least m_greatest m_lines m_lineCopy m_lineDay m_linePlace m_lineTold m_now) sz)) 0 0 (va_A (w_M cI cZ cR ad_m m_thrown m_rolls m_pitch m_first m_length m_marks m_markStep m_markTicks m_table m_order m_many m_heard m_pressed m_silents m_items m_itemPitch m_itemStep m_ends m_noteOf m_cost m_extra m_slotOf m_sights m_sightCopy m_sightPitch m_isFaulty m_least m_greatest m_lines m_lineCopy m_lineDay m_linePlace m_lineTold m_now) sz) := by
  refine gl_entry (cc := cX7_thrown) (maxL := 1) (ret := (some .int)) (by decide) rfl (Nat.le_of_ble_eq_true rfl) ?_
  intro p e s m below meth c ls G hin hsz hK hN hP hD hl
  subst hsz
  exact ml_X7_thrown_0 G hK hN (fun q h => Or.inr h) m_thrown post h s.heap [] hP hD va_S.rf ls hl
theorem lk_X7_isRoll_0 : (Cond.fieldLink RX7 75 "RollHouseModel" "rolls" "I") ∈ wsX7_isRoll := by decide +kernel
theorem us_X7_isRoll_X7 : ∀ w ∈ u_ws RX7 TX7 34, w ∈ wsX7_isRoll := by decide +kernel
def wp_X7_isRoll (m_rolls : Int32) (v1 : Int32) (post : Int32 → Prop) : Prop := (wp_X7_within v1 0 (m_rolls - 1) (fun (r1 : Int32) => ((r1 = 0 ∨ r1 = 1) ∧ post r1 )))
set_option maxRecDepth 100000 in
set_option maxHeartbeats 4000000 in
theorem ml_X7_isRoll_0 {p : Program} {l : Launch} {e : Env} {s : State} {m : MethodId} {args : Array Value} {below : List Frame} {meth : Method} {c : Code} {D : va_G} {cI cZ cR : ClassId} {A : Nat → Prop} {ad_m : Nat → Nat} {m_thrown : Int32} {m_pitch : Nat → Int32} {m_first : Nat → Int32} {m_length : Nat → Int32} {m_marks : Nat → Int32} {m_markStep : Nat → Int32} {m_markTicks : Nat → Int32} {m_table : Nat → Int32} {m_order : Nat → Int32} {m_many : Int32} {m_heard : Int32} {m_pressed : Int32} {m_silents : Int32} {m_items : Int32} {m_itemPitch : Nat → Int32} {m_itemStep : Nat → Int32} {m_ends : Nat → Int32} {m_noteOf : Nat → Int32} {m_cost : Int32} {m_extra : Int32} {m_slotOf : Nat → Int32} {m_sights : Int32} {m_sightCopy : Nat → Int32} {m_sightPitch : Nat → Int32} {m_isFaulty : Nat → Int32} {m_least : Int32} {m_greatest : Int32} {m_lines : Int32} {m_lineCopy : Nat → Int32} {m_lineDay : Nat → Int32} {m_linePlace : Nat → Int32} {m_lineTold : Nat → Int32} {m_now : Int32} (G : gG p s m args meth c cX7_isRoll (some .boolean) 2 RX7 wsX7_isRoll) (hK : va_K D vwCl (gT cI cZ cR) s) (hN : va_Nw gN s) (hA : ∀ q, s.heap.size ≤ q → A q) (m_rolls : Int32) (v1 : Int32) (post : Int32 → Prop)  (h : wp_X7_isRoll m_rolls v1 post) : ∀ (H : Heap) (locs : List Loc), va_P D vwCl (w_M cI cZ cR ad_m m_thrown m_rolls m_pitch m_first m_length m_marks m_markStep m_markTicks m_table m_order m_many m_heard m_pressed m_silents m_items m_itemPitch m_itemStep m_ends m_noteOf m_cost m_extra m_slotOf m_sights m_sightCopy m_sightPitch m_isFaulty m_least m_greatest m_lines m_lineCopy m_lineDay m_linePlace m_lineTold m_now) H → va_D A (w_M cI cZ cR ad_m m_thrown m_rolls m_pitch m_first m_length m_marks m_markStep m_markTicks m_table m_order m_many m_heard m_pressed m_silents m_items m_itemPitch m_itemStep m_ends m_noteOf m_cost m_extra m_slotOf m_sights m_sightCopy m_sightPitch m_isFaulty m_least m_greatest m_lines m_lineCopy m_lineDay m_linePlace m_lineTold m_now) → va_S A s.heap H locs → ∀ (ls : Array Slot), lv_has ls 2 [(0, .ref (ad_m 0)), (1, .int v1)] → W p l e { frames := 1, cells := 0, slots := 0, locals := 22 } s m args below meth c H locs 0 0 (MQ below (va_Qi (fun (r : Int32) (u : Unit) => post r ) (fun u t => gB D (gT cI cZ cR) A (w_M cI cZ cR ad_m m_thrown m_rolls m_pitch m_first m_length m_marks m_markStep m_markTicks m_table m_order m_many m_heard m_pressed m_silents m_items m_itemPitch m_itemStep m_ends m_noteOf m_cost m_extra m_slotOf m_sights m_sightCopy m_sightPitch m_isFaulty m_least m_greatest m_lines m_lineCopy m_lineDay m_linePlace m_lineTold m_now) t) A) args s 0 0 A) (F0 m 0 ls []) := by
  obtain ⟨hx, hb, hr, hml, hown, hts, hlocks⟩ := id G
  intro H locs hP hD hS ls hl
  unfold wp_X7_isRoll at h
  refine lv_iload_n hx hb dX7_isRoll_0 rfl (lv_at hl 1 rfl) ?_
  refine lv_iconst (v := 0) hx hb dX7_isRoll_1 (by decide) ?_
  refine lv_aload_n hx hb dX7_isRoll_2 rfl (lv_at hl 0 rfl) ?_
  refine va_get (D := D) (ci := 7) (v := .int m_rolls) (C := RX7) (T := TX7) (N := 34) hx hb hts us_X7_isRoll_X7 hown hK hP 0 rfl rfl 1 (by decide) (hts (.fieldLink RX7 75 "RollHouseModel" "rolls" "I") lk_X7_isRoll_0) (fun _ h9 => h9) rfl dX7_isRoll_3 ?_
  refine lv_iconst (v := 1) hx hb dX7_isRoll_6 (by decide) ?_
  refine lv_isub hx hb dX7_isRoll_7 ?_
  refine gl_calliS (va_runS (As := [.int v1, .int 0, .int (m_rolls - 1)]) (rest := []) ⟨hx, hb, hml, hown, hts⟩ (mt_X7_within l D cI cZ cR  H.size v1 0 (m_rolls - 1) _ h) (va_cwS 3 hts gX7_isRoll_X7_within rfl rfl rfl (by decide +kernel) ⟨Nat.le_of_ble_eq_true rfl, Nat.le_of_ble_eq_true rfl⟩) ⟨gl_blind, gl_pre gl_nilP hK hN (gl_nilD (A := A))⟩ rfl rfl hl.1 rfl (lv_room (Nat.le_of_ble_eq_true rfl)) dX7_isRoll_8 ⟨Nat.le_of_ble_eq_true rfl, Nat.le_of_ble_eq_true rfl⟩) hP hS hA (fun r1 u H locs h hP hS => ?_)
  try dsimp only at h
  exact gl_iretz G hK (u := ()) hP hD hS h.1 h.2 dX7_isRoll_11
set_option maxRecDepth 100000 in
theorem mt_X7_isRoll (l : Launch) (D : va_G) (cI cZ cR : ClassId) (ad_m : Nat → Nat) (sz : Nat) (m_thrown : Int32) (m_rolls : Int32) (m_pitch : Nat → Int32) (m_first : Nat → Int32) (m_length : Nat → Int32) (m_marks : Nat → Int32) (m_markStep : Nat → Int32) (m_markTicks : Nat → Int32) (m_table : Nat → Int32) (m_order : Nat → Int32) (m_many : Int32) (m_heard : Int32) (m_pressed : Int32) (m_silents : Int32) (m_items : Int32) (m_itemPitch : Nat → Int32) (m_itemStep : Nat → Int32) (m_ends : Nat → Int32) (m_noteOf : Nat → Int32) (m_cost : Int32) (m_extra : Int32) (m_slotOf : Nat → Int32) (m_sights : Int32) (m_sightCopy : Nat → Int32) (m_sightPitch : Nat → Int32) (m_isFaulty : Nat → Int32) (m_least : Int32) (m_greatest : Int32) (m_lines : Int32) (m_lineCopy : Nat → Int32) (m_lineDay : Nat → Int32) (m_linePlace : Nat → Int32) (m_lineTold : Nat → Int32) (m_now : Int32) (v1 : Int32) (post : Int32 → Prop) (h : wp_X7_isRoll m_rolls v1 post) : Met l yX7_isRoll wsX7_isRoll ({ frames := 1, cells := 0, slots := 0, locals := 22 }) (gPc D (gT cI cZ cR) (w_M cI cZ cR ad_m m_thrown m_rolls m_pitch m_first m_length m_marks m_markStep m_markTicks m_table m_order m_many m_heard m_pressed m_silents m_items m_itemPitch m_itemStep m_ends m_noteOf m_cost m_extra m_slotOf m_sights m_sightCopy m_sightPitch m_isFaulty m_least m_greatest m_lines m_lineCopy m_lineDay m_linePlace m_lineTold m_now) sz [.ref (ad_m 0), .int v1]) (va_Qi (fun (r : Int32) (u : Unit) => post r ) (fun u t => gB D (gT cI cZ cR) (va_A (w_M cI cZ cR ad_m m_thrown m_rolls m_pitch m_first m_length m_marks m_markStep m_markTicks m_table m_order m_many m_heard m_pressed m_silents m_items m_itemPitch m_itemStep m_ends m_noteOf m_cost m_extra m_slotOf m_sights m_sightCopy m_sightPitch m_isFaulty m_least m_greatest m_lines m_lineCopy m_lineDay m_linePlace m_lineTold m_now) sz) (w_M cI cZ cR ad_m m_thrown m_rolls m_pitch m_first m_length m_marks m_markStep m_markTicks m_table m_order m_many m_heard m_pressed m_silents m_items m_itemPitch m_itemStep m_ends m_noteOf m_cost m_extra m_slotOf m_sights m_sightCopy m_sightPitch m_isFaulty m_least m_greatest m_lines m_lineCopy m_lineDay m_linePlace m_lineTold m_now) t) (va_A (w_M cI cZ cR ad_m m_thrown m_rolls m_pitch m_first m_length m_marks m_markStep m_markTicks m_table m_order m_many m_heard m_pressed m_silents m_items m_itemPitch m_itemStep m_ends m_noteOf m_cost m_extra m_slotOf m_sights m_sightCopy m_sightPitch m_isFaulty m_least m_greatest m_lines m_lineCopy m_lineDay m_linePlace m_lineTold m_now) sz)) 0 0 (va_A (w_M cI cZ cR ad_m m_thrown m_rolls m_pitch m_first m_length m_marks m_markStep m_markTicks m_table m_order m_many m_heard m_pressed m_silents m_items m_itemPitch m_itemStep m_ends m_noteOf m_cost m_extra m_slotOf m_sights m_sightCopy m_sightPitch m_isFaulty m_least m_greatest m_lines m_lineCopy m_lineDay m_linePlace m_lineTold m_now) sz) := by
  refine gl_entry (cc := cX7_isRoll) (maxL := 2) (ret := (some .boolean)) (by decide) rfl (Nat.le_of_ble_eq_true rfl) ?_
  intro p e s m below meth c ls G hin hsz hK hN hP hD hl
  subst hsz
  exact ml_X7_isRoll_0 G hK hN (fun q h => Or.inr h) m_rolls v1 post h s.heap [] hP hD va_S.rf ls hl
theorem lk_X7_roll_0 : (Cond.fieldLink RX7 71 "RollHouseModel" "thrown" "I") ∈ wsX7_roll := by decide +kernel
theorem lk_X7_roll_1 : (Cond.fieldLink RX7 75 "RollHouseModel" "rolls" "I") ∈ wsX7_roll := by decide +kernel
theorem us_X7_roll_X7 : ∀ w ∈ u_ws RX7 TX7 34, w ∈ wsX7_roll := by decide +kernel
def wp_X7_roll (m_thrown : Int32) (m_rolls : Int32) (post : Int32 → Int32 → Int32 → Prop) : Prop := ((¬ m_rolls = 6 → post ((m_rolls + 1) - 1) 0 (m_rolls + 1)) ∧ (m_rolls = 6 → post (-1) 0 m_rolls))
set_option maxRecDepth 100000 in
set_option maxHeartbeats 4000000 in
theorem ml_X7_roll_0 {p : Program} {l : Launch} {e : Env} {s : State} {m : MethodId} {args : Array Value} {below : List Frame} {meth : Method} {c : Code} {D : va_G} {cI cZ cR : ClassId} {A : Nat → Prop} {ad_m : Nat → Nat} {m_pitch : Nat → Int32} {m_first : Nat → Int32} {m_length : Nat → Int32} {m_marks : Nat → Int32} {m_markStep : Nat → Int32} {m_markTicks : Nat → Int32} {m_table : Nat → Int32} {m_order : Nat → Int32} {m_many : Int32} {m_heard : Int32} {m_pressed : Int32} {m_silents : Int32} {m_items : Int32} {m_itemPitch : Nat → Int32} {m_itemStep : Nat → Int32} {m_ends : Nat → Int32} {m_noteOf : Nat → Int32} {m_cost : Int32} {m_extra : Int32} {m_slotOf : Nat → Int32} {m_sights : Int32} {m_sightCopy : Nat → Int32} {m_sightPitch : Nat → Int32} {m_isFaulty : Nat → Int32} {m_least : Int32} {m_greatest : Int32} {m_lines : Int32} {m_lineCopy : Nat → Int32} {m_lineDay : Nat → Int32} {m_linePlace : Nat → Int32} {m_lineTold : Nat → Int32} {m_now : Int32} (G : gG p s m args meth c cX7_roll (some .int) 1 RX7 wsX7_roll) (hK : va_K D vwCl (gT cI cZ cR) s) (hN : va_Nw gN s) (hA : ∀ q, s.heap.size ≤ q → A q)  (post : Int32 → Int32 → Int32 → Prop) (m_thrown : Int32) (m_rolls : Int32) (h : wp_X7_roll m_thrown m_rolls post) : ∀ (H : Heap) (locs : List Loc), va_P D vwCl (w_M cI cZ cR ad_m m_thrown m_rolls m_pitch m_first m_length m_marks m_markStep m_markTicks m_table m_order m_many m_heard m_pressed m_silents m_items m_itemPitch m_itemStep m_ends m_noteOf m_cost m_extra m_slotOf m_sights m_sightCopy m_sightPitch m_isFaulty m_least m_greatest m_lines m_lineCopy m_lineDay m_linePlace m_lineTold m_now) H → va_D A (w_M cI cZ cR ad_m m_thrown m_rolls m_pitch m_first m_length m_marks m_markStep m_markTicks m_table m_order m_many m_heard m_pressed m_silents m_items m_itemPitch m_itemStep m_ends m_noteOf m_cost m_extra m_slotOf m_sights m_sightCopy m_sightPitch m_isFaulty m_least m_greatest m_lines m_lineCopy m_lineDay m_linePlace m_lineTold m_now) → va_S A s.heap H locs → ∀ (ls : Array Slot), lv_has ls 1 [(0, .ref (ad_m 0))] → W p l e { frames := 0, cells := 0, slots := 0, locals := 0 } s m args below meth c H locs 0 0 (MQ below (va_Qi (fun (r : Int32) (u : (Int32) × (Int32)) => post r u.1 u.2) (fun u t => gB D (gT cI cZ cR) A (w_M cI cZ cR ad_m u.1 u.2 m_pitch m_first m_length m_marks m_markStep m_markTicks m_table m_order m_many m_heard m_pressed m_silents m_items m_itemPitch m_itemStep m_ends m_noteOf m_cost m_extra m_slotOf m_sights m_sightCopy m_sightPitch m_isFaulty m_least m_greatest m_lines m_lineCopy m_lineDay m_linePlace m_lineTold m_now) t) A) args s 0 0 A) (F0 m 0 ls []) := by
  obtain ⟨hx, hb, hr, hml, hown, hts, hlocks⟩ := id G
  intro H locs hP hD hS ls hl
  unfold wp_X7_roll at h
  refine lv_aload_n hx hb dX7_roll_0 rfl (lv_at hl 0 rfl) ?_
  refine lv_iconst (v := 0) hx hb dX7_roll_1 (by decide) ?_
  refine va_put (D := D) (ci := 7) (v := .int 0) (ty := .int) (C := RX7) (T := TX7) (N := 34) hx hb hts us_X7_roll_X7 tyX7 tyX7_ok nmX7 hown hK hP hD hS 0 rfl rfl 0 (by decide) (hts (.fieldLink RX7 71 "RollHouseModel" "thrown" "I") lk_X7_roll_0) (fun _ h9 => h9) rfl (by decide +kernel) rfl rfl (Nat.le_of_ble_eq_true rfl) dX7_roll_2 (fun H locs hP hD hS => ?_)
  have hP : va_P D vwCl (w_M cI cZ cR ad_m 0 m_rolls m_pitch m_first m_length m_marks m_markStep m_markTicks m_table m_order m_many m_heard m_pressed m_silents m_items m_itemPitch m_itemStep m_ends m_noteOf m_cost m_extra m_slotOf m_sights m_sightCopy m_sightPitch m_isFaulty m_least m_greatest m_lines m_lineCopy m_lineDay m_linePlace m_lineTold m_now) H := hP
  have hD : va_D A (w_M cI cZ cR ad_m 0 m_rolls m_pitch m_first m_length m_marks m_markStep m_markTicks m_table m_order m_many m_heard m_pressed m_silents m_items m_itemPitch m_itemStep m_ends m_noteOf m_cost m_extra m_slotOf m_sights m_sightCopy m_sightPitch m_isFaulty m_least m_greatest m_lines m_lineCopy m_lineDay m_linePlace m_lineTold m_now) := hD
  refine lv_aload_n hx hb dX7_roll_5 rfl (lv_at hl 0 rfl) ?_
  refine va_get (D := D) (ci := 7) (v := .int m_rolls) (C := RX7) (T := TX7) (N := 34) hx hb hts us_X7_roll_X7 hown hK hP 0 rfl rfl 1 (by decide) (hts (.fieldLink RX7 75 "RollHouseModel" "rolls" "I") lk_X7_roll_1) (fun _ h9 => h9) rfl dX7_roll_6 ?_
  refine lv_bipush (v := 6) hx hb dX7_roll_9 (by decide) ?_
  refine lv_icmp_ne (tgt := 16) hx hb dX7_roll_11 (by decide) (fun hc => ?_) (fun hc => ?_)
  · have h := h.1 hc
    refine lv_aload_n hx hb dX7_roll_16 rfl (lv_at hl 0 rfl) ?_
    refine lv_dup hx hb dX7_roll_17 rfl ?_
    refine va_get (D := D) (ci := 7) (v := .int m_rolls) (C := RX7) (T := TX7) (N := 34) hx hb hts us_X7_roll_X7 hown hK hP 0 rfl rfl 1 (by decide) (hts (.fieldLink RX7 75 "RollHouseModel" "rolls" "I") lk_X7_roll_1) (fun _ h9 => h9) rfl dX7_roll_18 ?_
    refine lv_iconst (v := 1) hx hb dX7_roll_21 (by decide) ?_
    refine lv_iadd hx hb dX7_roll_22 ?_
    refine va_put (D := D) (ci := 7) (v := .int (m_rolls + 1)) (ty := .int) (C := RX7) (T := TX7) (N := 34) hx hb hts us_X7_roll_X7 tyX7 tyX7_ok nmX7 hown hK hP hD hS 0 rfl rfl 1 (by decide) (hts (.fieldLink RX7 75 "RollHouseModel" "rolls" "I") lk_X7_roll_1) (fun _ h9 => h9) rfl (by decide +kernel) rfl rfl (Nat.le_of_ble_eq_true rfl) dX7_roll_23 (fun H locs hP hD hS => ?_)
    have hP : va_P D vwCl (w_M cI cZ cR ad_m 0 (m_rolls + 1) m_pitch m_first m_length m_marks m_markStep m_markTicks m_table m_order m_many m_heard m_pressed m_silents m_items m_itemPitch m_itemStep m_ends m_noteOf m_cost m_extra m_slotOf m_sights m_sightCopy m_sightPitch m_isFaulty m_least m_greatest m_lines m_lineCopy m_lineDay m_linePlace m_lineTold m_now) H := hP
    have hD : va_D A (w_M cI cZ cR ad_m 0 (m_rolls + 1) m_pitch m_first m_length m_marks m_markStep m_markTicks m_table m_order m_many m_heard m_pressed m_silents m_items m_itemPitch m_itemStep m_ends m_noteOf m_cost m_extra m_slotOf m_sights m_sightCopy m_sightPitch m_isFaulty m_least m_greatest m_lines m_lineCopy m_lineDay m_linePlace m_lineTold m_now) := hD
    refine lv_aload_n hx hb dX7_roll_26 rfl (lv_at hl 0 rfl) ?_
    refine va_get (D := D) (ci := 7) (v := .int (m_rolls + 1)) (C := RX7) (T := TX7) (N := 34) hx hb hts us_X7_roll_X7 hown hK hP 0 rfl rfl 1 (by decide) (hts (.fieldLink RX7 75 "RollHouseModel" "rolls" "I") lk_X7_roll_1) (fun _ h9 => h9) rfl dX7_roll_27 ?_
    refine lv_iconst (v := 1) hx hb dX7_roll_30 (by decide) ?_
    refine lv_isub hx hb dX7_roll_31 ?_
    exact gl_ireti G hK (u := (0, (m_rolls + 1))) hP hD hS h dX7_roll_32
  · have h := h.2 hc
    refine lv_iconst (v := (-1)) hx hb dX7_roll_14 (by decide) ?_
    exact gl_ireti G hK (u := (0, m_rolls)) hP hD hS h dX7_roll_15
set_option maxRecDepth 100000 in
theorem mt_X7_roll (l : Launch) (D : va_G) (cI cZ cR : ClassId) (ad_m : Nat → Nat) (sz : Nat) (m_thrown : Int32) (m_rolls : Int32) (m_pitch : Nat → Int32) (m_first : Nat → Int32) (m_length : Nat → Int32) (m_marks : Nat → Int32) (m_markStep : Nat → Int32) (m_markTicks : Nat → Int32) (m_table : Nat → Int32) (m_order : Nat → Int32) (m_many : Int32) (m_heard : Int32) (m_pressed : Int32) (m_silents : Int32) (m_items : Int32) (m_itemPitch : Nat → Int32) (m_itemStep : Nat → Int32) (m_ends : Nat → Int32) (m_noteOf : Nat → Int32) (m_cost : Int32) (m_extra : Int32) (m_slotOf : Nat → Int32) (m_sights : Int32) (m_sightCopy : Nat → Int32) (m_sightPitch : Nat → Int32) (m_isFaulty : Nat → Int32) (m_least : Int32) (m_greatest : Int32) (m_lines : Int32) (m_lineCopy : Nat → Int32) (m_lineDay : Nat → Int32) (m_linePlace : Nat → Int32) (m_lineTold : Nat → Int32) (m_now : Int32) (post : Int32 → Int32 → Int32 → Prop) (h : wp_X7_roll m_thrown m_rolls post) : Met l yX7_roll wsX7_roll ({ frames := 0, cells := 0, slots := 0, locals := 0 }) (gPc D (gT cI cZ cR) (w_M cI cZ cR ad_m m_thrown m_rolls m_pitch m_first m_length m_marks m_markStep m_markTicks m_table m_order m_many m_heard m_pressed m_silents m_items m_itemPitch m_itemStep m_ends m_noteOf m_cost m_extra m_slotOf m_sights m_sightCopy m_sightPitch m_isFaulty m_least m_greatest m_lines m_lineCopy m_lineDay m_linePlace m_lineTold m_now) sz [.ref (ad_m 0)]) (va_Qi (fun (r : Int32) (u : (Int32) × (Int32)) => post r u.1 u.2) (fun u t => gB D (gT cI cZ cR) (va_A (w_M cI cZ cR ad_m m_thrown m_rolls m_pitch m_first m_length m_marks m_markStep m_markTicks m_table m_order m_many m_heard m_pressed m_silents m_items m_itemPitch m_itemStep m_ends m_noteOf m_cost m_extra m_slotOf m_sights m_sightCopy m_sightPitch m_isFaulty m_least m_greatest m_lines m_lineCopy m_lineDay m_linePlace m_lineTold m_now) sz) (w_M cI cZ cR ad_m u.1 u.2 m_pitch m_first m_length m_marks m_markStep m_markTicks m_table m_order m_many m_heard m_pressed m_silents m_items m_itemPitch m_itemStep m_ends m_noteOf m_cost m_extra m_slotOf m_sights m_sightCopy m_sightPitch m_isFaulty m_least m_greatest m_lines m_lineCopy m_lineDay m_linePlace m_lineTold m_now) t) (va_A (w_M cI cZ cR ad_m m_thrown m_rolls m_pitch m_first m_length m_marks m_markStep m_markTicks m_table m_order m_many m_heard m_pressed m_silents m_items m_itemPitch m_itemStep m_ends m_noteOf m_cost m_extra m_slotOf m_sights m_sightCopy m_sightPitch m_isFaulty m_least m_greatest m_lines m_lineCopy m_lineDay m_linePlace m_lineTold m_now) sz)) 0 0 (va_A (w_M cI cZ cR ad_m m_thrown m_rolls m_pitch m_first m_length m_marks m_markStep m_markTicks m_table m_order m_many m_heard m_pressed m_silents m_items m_itemPitch m_itemStep m_ends m_noteOf m_cost m_extra m_slotOf m_sights m_sightCopy m_sightPitch m_isFaulty m_least m_greatest m_lines m_lineCopy m_lineDay m_linePlace m_lineTold m_now) sz) := by
  refine gl_entry (cc := cX7_roll) (maxL := 1) (ret := (some .int)) (by decide) rfl (Nat.le_of_ble_eq_true rfl) ?_
  intro p e s m below meth c ls G hin hsz hK hN hP hD hl
  subst hsz
  exact ml_X7_roll_0 G hK hN (fun q h => Or.inr h) post m_thrown m_rolls h s.heap [] hP hD va_S.rf ls hl
theorem lk_X7_notes_0 : (Cond.fieldLink RX7 16 "RollHouseModel" "length" "[I") ∈ wsX7_notes := by decide +kernel
theorem us_X7_notes_X7 : ∀ w ∈ u_ws RX7 TX7 34, w ∈ wsX7_notes := by decide +kernel
def wl_X7_notes_7 (m_length : Nat → Int32) (v1 : Int32) (post : Int32 → Prop) : Nat → (Int32) → (Int32) → Prop
  | 0, _, _ => False
  | fu + 1, v2, v3 => ((((60 * v1) + 60) ≤ v3 → post v2 ) ∧ (¬ ((60 * v1) + 60) ≤ v3 → (vp_in v3 360 ∧ (((m_length v3.toNatClampNeg) ≤ 0 → wl_X7_notes_7 m_length v1 post fu (v2 + 0) (v3 + 1)) ∧ (¬ (m_length v3.toNatClampNeg) ≤ 0 → wl_X7_notes_7 m_length v1 post fu (v2 + 1) (v3 + 1))))))
def wp_X7_notes (m_length : Nat → Int32) (v1 : Int32) (post : Int32 → Prop) : Prop := (∀ z1 : Int32, z1 = 60 * v1 → (∃ n, wl_X7_notes_7 m_length v1 post n 0 z1))
set_option maxRecDepth 100000 in
set_option maxHeartbeats 4000000 in
theorem ml_X7_notes_7 {p : Program} {l : Launch} {e : Env} {s : State} {m : MethodId} {args : Array Value} {below : List Frame} {meth : Method} {c : Code} {D : va_G} {cI cZ cR : ClassId} {A : Nat → Prop} {ad_m : Nat → Nat} {m_thrown : Int32} {m_rolls : Int32} {m_pitch : Nat → Int32} {m_first : Nat → Int32} {m_marks : Nat → Int32} {m_markStep : Nat → Int32} {m_markTicks : Nat → Int32} {m_table : Nat → Int32} {m_order : Nat → Int32} {m_many : Int32} {m_heard : Int32} {m_pressed : Int32} {m_silents : Int32} {m_items : Int32} {m_itemPitch : Nat → Int32} {m_itemStep : Nat → Int32} {m_ends : Nat → Int32} {m_noteOf : Nat → Int32} {m_cost : Int32} {m_extra : Int32} {m_slotOf : Nat → Int32} {m_sights : Int32} {m_sightCopy : Nat → Int32} {m_sightPitch : Nat → Int32} {m_isFaulty : Nat → Int32} {m_least : Int32} {m_greatest : Int32} {m_lines : Int32} {m_lineCopy : Nat → Int32} {m_lineDay : Nat → Int32} {m_linePlace : Nat → Int32} {m_lineTold : Nat → Int32} {m_now : Int32} (G : gG p s m args meth c cX7_notes (some .int) 4 RX7 wsX7_notes) (hK : va_K D vwCl (gT cI cZ cR) s) (hN : va_Nw gN s) (hA : ∀ q, s.heap.size ≤ q → A q) (m_length : Nat → Int32) (v1 : Int32) (post : Int32 → Prop) : ∀ (fu : Nat) (v2 : Int32) (v3 : Int32), wl_X7_notes_7 m_length v1 post fu v2 v3 → ∀ (H : Heap) (locs : List Loc), va_P D vwCl (w_M cI cZ cR ad_m m_thrown m_rolls m_pitch m_first m_length m_marks m_markStep m_markTicks m_table m_order m_many m_heard m_pressed m_silents m_items m_itemPitch m_itemStep m_ends m_noteOf m_cost m_extra m_slotOf m_sights m_sightCopy m_sightPitch m_isFaulty m_least m_greatest m_lines m_lineCopy m_lineDay m_linePlace m_lineTold m_now) H → va_D A (w_M cI cZ cR ad_m m_thrown m_rolls m_pitch m_first m_length m_marks m_markStep m_markTicks m_table m_order m_many m_heard m_pressed m_silents m_items m_itemPitch m_itemStep m_ends m_noteOf m_cost m_extra m_slotOf m_sights m_sightCopy m_sightPitch m_isFaulty m_least m_greatest m_lines m_lineCopy m_lineDay m_linePlace m_lineTold m_now) → va_S A s.heap H locs → ∀ (ls : Array Slot), lv_has ls 4 [(0, .ref (ad_m 0)), (1, .int v1), (2, .int v2), (3, .int v3)] → W p l e { frames := 0, cells := 0, slots := 0, locals := 0 } s m args below meth c H locs 0 0 (MQ below (va_Qi (fun (r : Int32) (u : Unit) => post r ) (fun u t => gB D (gT cI cZ cR) A (w_M cI cZ cR ad_m m_thrown m_rolls m_pitch m_first m_length m_marks m_markStep m_markTicks m_table m_order m_many m_heard m_pressed m_silents m_items m_itemPitch m_itemStep m_ends m_noteOf m_cost m_extra m_slotOf m_sights m_sightCopy m_sightPitch m_isFaulty m_least m_greatest m_lines m_lineCopy m_lineDay m_linePlace m_lineTold m_now) t) A) args s 0 0 A) (F0 m 7 ls []) := by
  obtain ⟨hx, hb, hr, hml, hown, hts, hlocks⟩ := id G
  intro fu
  induction fu with
  | zero =>
    intro v2 v3 h
    exact h.elim
  | succ fu ih =>
    intro v2 v3 h H locs hP hD hS ls hl
    rw [wl_X7_notes_7] at h
    refine lv_iload_n hx hb dX7_notes_7 rfl (lv_at hl 3 rfl) ?_
    refine lv_bipush (v := 60) hx hb dX7_notes_8 (by decide) ?_
    refine lv_iload_n hx hb dX7_notes_10 rfl (lv_at hl 1 rfl) ?_
    refine lv_imul hx hb dX7_notes_11 ?_
    refine lv_bipush (v := 60) hx hb dX7_notes_12 (by decide) ?_
    refine lv_iadd hx hb dX7_notes_14 ?_
    refine lv_icmp_ge (tgt := 41) hx hb dX7_notes_15 (by decide) (fun hc => ?_) (fun hc => ?_)
    · have h := h.1 hc
      refine lv_iload_n hx hb dX7_notes_41 rfl (lv_at hl 2 rfl) ?_
      exact gl_ireti G hK (u := ()) hP hD hS h dX7_notes_42
    · have h := h.2 hc
      refine lv_iload_n hx hb dX7_notes_18 rfl (lv_at hl 2 rfl) ?_
      refine lv_aload_n hx hb dX7_notes_19 rfl (lv_at hl 0 rfl) ?_
      refine va_get (D := D) (ci := 7) (v := .ref (ad_m 3)) (C := RX7) (T := TX7) (N := 34) hx hb hts us_X7_notes_X7 hown hK hP 0 rfl rfl 4 (by decide) (hts (.fieldLink RX7 16 "RollHouseModel" "length" "[I") lk_X7_notes_0) (fun _ h9 => h9) rfl dX7_notes_20 ?_
      refine lv_iload_n hx hb dX7_notes_23 rfl (lv_at hl 3 rfl) ?_
      obtain ⟨hin, h⟩ := h
      refine va_iald hx hb hK hP 3 0 rfl rfl hin dX7_notes_24 ?_
      refine lv_if_le (tgt := 32) hx hb dX7_notes_25 (by decide) (fun hc => ?_) (fun hc => ?_)
      · have h := h.1 hc
        refine lv_iconst (v := 0) hx hb dX7_notes_32 (by decide) ?_
        refine lv_iadd hx hb dX7_notes_33 ?_
        refine lv_istore_n (lv' := [(2, .int (v2 + 0)), (0, .ref (ad_m 0)), (1, .int v1), (3, .int v3)]) hx hb dX7_notes_34 rfl hl (by decide) rfl (fun ls hl => ?_)
        refine lv_iinc (v := v3 + 1) (lv' := [(3, .int (v3 + 1)), (2, .int (v2 + 0)), (0, .ref (ad_m 0)), (1, .int v1)]) hx hb dX7_notes_35 hl (k := 3) rfl rfl (by decide) rfl (fun ls hl => ?_)
        refine lv_goto (tgt := 7) hx hb dX7_notes_38 (by decide) ?_
        exact ih (v2 + 0) (v3 + 1) h H locs hP hD hS ls (lv_sub hl [2, 3, 1, 0] rfl)
      · have h := h.2 hc
        refine lv_iconst (v := 1) hx hb dX7_notes_28 (by decide) ?_
        refine lv_goto (tgt := 33) hx hb dX7_notes_29 (by decide) ?_
        refine lv_iadd hx hb dX7_notes_33 ?_
        refine lv_istore_n (lv' := [(2, .int (v2 + 1)), (0, .ref (ad_m 0)), (1, .int v1), (3, .int v3)]) hx hb dX7_notes_34 rfl hl (by decide) rfl (fun ls hl => ?_)
        refine lv_iinc (v := v3 + 1) (lv' := [(3, .int (v3 + 1)), (2, .int (v2 + 1)), (0, .ref (ad_m 0)), (1, .int v1)]) hx hb dX7_notes_35 hl (k := 3) rfl rfl (by decide) rfl (fun ls hl => ?_)
        refine lv_goto (tgt := 7) hx hb dX7_notes_38 (by decide) ?_
        exact ih (v2 + 1) (v3 + 1) h H locs hP hD hS ls (lv_sub hl [2, 3, 1, 0] rfl)
set_option maxRecDepth 100000 in
set_option maxHeartbeats 4000000 in
theorem ml_X7_notes_0 {p : Program} {l : Launch} {e : Env} {s : State} {m : MethodId} {args : Array Value} {below : List Frame} {meth : Method} {c : Code} {D : va_G} {cI cZ cR : ClassId} {A : Nat → Prop} {ad_m : Nat → Nat} {m_thrown : Int32} {m_rolls : Int32} {m_pitch : Nat → Int32} {m_first : Nat → Int32} {m_marks : Nat → Int32} {m_markStep : Nat → Int32} {m_markTicks : Nat → Int32} {m_table : Nat → Int32} {m_order : Nat → Int32} {m_many : Int32} {m_heard : Int32} {m_pressed : Int32} {m_silents : Int32} {m_items : Int32} {m_itemPitch : Nat → Int32} {m_itemStep : Nat → Int32} {m_ends : Nat → Int32} {m_noteOf : Nat → Int32} {m_cost : Int32} {m_extra : Int32} {m_slotOf : Nat → Int32} {m_sights : Int32} {m_sightCopy : Nat → Int32} {m_sightPitch : Nat → Int32} {m_isFaulty : Nat → Int32} {m_least : Int32} {m_greatest : Int32} {m_lines : Int32} {m_lineCopy : Nat → Int32} {m_lineDay : Nat → Int32} {m_linePlace : Nat → Int32} {m_lineTold : Nat → Int32} {m_now : Int32} (G : gG p s m args meth c cX7_notes (some .int) 4 RX7 wsX7_notes) (hK : va_K D vwCl (gT cI cZ cR) s) (hN : va_Nw gN s) (hA : ∀ q, s.heap.size ≤ q → A q) (m_length : Nat → Int32) (v1 : Int32) (post : Int32 → Prop)  (h : wp_X7_notes m_length v1 post) : ∀ (H : Heap) (locs : List Loc), va_P D vwCl (w_M cI cZ cR ad_m m_thrown m_rolls m_pitch m_first m_length m_marks m_markStep m_markTicks m_table m_order m_many m_heard m_pressed m_silents m_items m_itemPitch m_itemStep m_ends m_noteOf m_cost m_extra m_slotOf m_sights m_sightCopy m_sightPitch m_isFaulty m_least m_greatest m_lines m_lineCopy m_lineDay m_linePlace m_lineTold m_now) H → va_D A (w_M cI cZ cR ad_m m_thrown m_rolls m_pitch m_first m_length m_marks m_markStep m_markTicks m_table m_order m_many m_heard m_pressed m_silents m_items m_itemPitch m_itemStep m_ends m_noteOf m_cost m_extra m_slotOf m_sights m_sightCopy m_sightPitch m_isFaulty m_least m_greatest m_lines m_lineCopy m_lineDay m_linePlace m_lineTold m_now) → va_S A s.heap H locs → ∀ (ls : Array Slot), lv_has ls 4 [(0, .ref (ad_m 0)), (1, .int v1)] → W p l e { frames := 0, cells := 0, slots := 0, locals := 0 } s m args below meth c H locs 0 0 (MQ below (va_Qi (fun (r : Int32) (u : Unit) => post r ) (fun u t => gB D (gT cI cZ cR) A (w_M cI cZ cR ad_m m_thrown m_rolls m_pitch m_first m_length m_marks m_markStep m_markTicks m_table m_order m_many m_heard m_pressed m_silents m_items m_itemPitch m_itemStep m_ends m_noteOf m_cost m_extra m_slotOf m_sights m_sightCopy m_sightPitch m_isFaulty m_least m_greatest m_lines m_lineCopy m_lineDay m_linePlace m_lineTold m_now) t) A) args s 0 0 A) (F0 m 0 ls []) := by
  obtain ⟨hx, hb, hr, hml, hown, hts, hlocks⟩ := id G
  intro H locs hP hD hS ls hl
  unfold wp_X7_notes at h
  refine lv_iconst (v := 0) hx hb dX7_notes_0 (by decide) ?_
  refine lv_istore_n (lv' := [(2, .int 0), (0, .ref (ad_m 0)), (1, .int v1)]) hx hb dX7_notes_1 rfl hl (by decide) rfl (fun ls hl => ?_)
  refine lv_bipush (v := 60) hx hb dX7_notes_2 (by decide) ?_
  refine lv_iload_n hx hb dX7_notes_4 rfl (lv_at hl 2 rfl) ?_
  refine lv_imul hx hb dX7_notes_5 ?_
  refine lv_topi (fun z1 ez1 => ?_)
  have h := h z1 ez1
  refine lv_istore_n (lv' := [(3, .int z1), (2, .int 0), (0, .ref (ad_m 0)), (1, .int v1)]) hx hb dX7_notes_6 rfl hl (by decide) rfl (fun ls hl => ?_)
  obtain ⟨nf, h⟩ := h
  exact ml_X7_notes_7 G hK hN hA m_length v1 post nf 0 z1 h H locs hP hD hS ls (lv_sub hl [2, 3, 1, 0] rfl)
set_option maxRecDepth 100000 in
theorem mt_X7_notes (l : Launch) (D : va_G) (cI cZ cR : ClassId) (ad_m : Nat → Nat) (sz : Nat) (m_thrown : Int32) (m_rolls : Int32) (m_pitch : Nat → Int32) (m_first : Nat → Int32) (m_length : Nat → Int32) (m_marks : Nat → Int32) (m_markStep : Nat → Int32) (m_markTicks : Nat → Int32) (m_table : Nat → Int32) (m_order : Nat → Int32) (m_many : Int32) (m_heard : Int32) (m_pressed : Int32) (m_silents : Int32) (m_items : Int32) (m_itemPitch : Nat → Int32) (m_itemStep : Nat → Int32) (m_ends : Nat → Int32) (m_noteOf : Nat → Int32) (m_cost : Int32) (m_extra : Int32) (m_slotOf : Nat → Int32) (m_sights : Int32) (m_sightCopy : Nat → Int32) (m_sightPitch : Nat → Int32) (m_isFaulty : Nat → Int32) (m_least : Int32) (m_greatest : Int32) (m_lines : Int32) (m_lineCopy : Nat → Int32) (m_lineDay : Nat → Int32) (m_linePlace : Nat → Int32) (m_lineTold : Nat → Int32) (m_now : Int32) (v1 : Int32) (post : Int32 → Prop) (h : wp_X7_notes m_length v1 post) : Met l yX7_notes wsX7_notes ({ frames := 0, cells := 0, slots := 0, locals := 0 }) (gPc D (gT cI cZ cR) (w_M cI cZ cR ad_m m_thrown m_rolls m_pitch m_first m_length m_marks m_markStep m_markTicks m_table m_order m_many m_heard m_pressed m_silents m_items m_itemPitch m_itemStep m_ends m_noteOf m_cost m_extra m_slotOf m_sights m_sightCopy m_sightPitch m_isFaulty m_least m_greatest m_lines m_lineCopy m_lineDay m_linePlace m_lineTold m_now) sz [.ref (ad_m 0), .int v1]) (va_Qi (fun (r : Int32) (u : Unit) => post r ) (fun u t => gB D (gT cI cZ cR) (va_A (w_M cI cZ cR ad_m m_thrown m_rolls m_pitch m_first m_length m_marks m_markStep m_markTicks m_table m_order m_many m_heard m_pressed m_silents m_items m_itemPitch m_itemStep m_ends m_noteOf m_cost m_extra m_slotOf m_sights m_sightCopy m_sightPitch m_isFaulty m_least m_greatest m_lines m_lineCopy m_lineDay m_linePlace m_lineTold m_now) sz) (w_M cI cZ cR ad_m m_thrown m_rolls m_pitch m_first m_length m_marks m_markStep m_markTicks m_table m_order m_many m_heard m_pressed m_silents m_items m_itemPitch m_itemStep m_ends m_noteOf m_cost m_extra m_slotOf m_sights m_sightCopy m_sightPitch m_isFaulty m_least m_greatest m_lines m_lineCopy m_lineDay m_linePlace m_lineTold m_now) t) (va_A (w_M cI cZ cR ad_m m_thrown m_rolls m_pitch m_first m_length m_marks m_markStep m_markTicks m_table m_order m_many m_heard m_pressed m_silents m_items m_itemPitch m_itemStep m_ends m_noteOf m_cost m_extra m_slotOf m_sights m_sightCopy m_sightPitch m_isFaulty m_least m_greatest m_lines m_lineCopy m_lineDay m_linePlace m_lineTold m_now) sz)) 0 0 (va_A (w_M cI cZ cR ad_m m_thrown m_rolls m_pitch m_first m_length m_marks m_markStep m_markTicks m_table m_order m_many m_heard m_pressed m_silents m_items m_itemPitch m_itemStep m_ends m_noteOf m_cost m_extra m_slotOf m_sights m_sightCopy m_sightPitch m_isFaulty m_least m_greatest m_lines m_lineCopy m_lineDay m_linePlace m_lineTold m_now) sz) := by
  refine gl_entry (cc := cX7_notes) (maxL := 4) (ret := (some .int)) (by decide) rfl (Nat.le_of_ble_eq_true rfl) ?_
  intro p e s m below meth c ls G hin hsz hK hN hP hD hl
  subst hsz
  exact ml_X7_notes_0 G hK hN (fun q h => Or.inr h) m_length v1 post h s.heap [] hP hD va_S.rf ls hl
theorem lk_X7_isIn_0 : (Cond.fieldLink RX7 16 "RollHouseModel" "length" "[I") ∈ wsX7_isIn := by decide +kernel
theorem lk_X7_isIn_1 : (Cond.fieldLink RX7 13 "RollHouseModel" "first" "[I") ∈ wsX7_isIn := by decide +kernel
theorem us_X7_isIn_X7 : ∀ w ∈ u_ws RX7 TX7 34, w ∈ wsX7_isIn := by decide +kernel
def wp_X7_isIn (m_first : Nat → Int32) (m_length : Nat → Int32) (v1 : Int32) (v2 : Int32) (post : Int32 → Prop) : Prop := (vp_in v1 360 ∧ (((m_length v1.toNatClampNeg) ≤ 0 → post 0 ) ∧ (¬ (m_length v1.toNatClampNeg) ≤ 0 → (vp_in v1 360 ∧ (vp_in v1 360 ∧ (vp_in v1 360 ∧ (∀ z1 : Int32, z1 = ((m_first v1.toNatClampNeg) + (m_length v1.toNatClampNeg)) - 1 → (wp_X7_within v2 (m_first v1.toNatClampNeg) z1 (fun (r2 : Int32) => ((r2 = 0 → post 0 ) ∧ (¬ r2 = 0 → post 1 )))))))))))
set_option maxRecDepth 100000 in
set_option maxHeartbeats 4000000 in
theorem ml_X7_isIn_0 {p : Program} {l : Launch} {e : Env} {s : State} {m : MethodId} {args : Array Value} {below : List Frame} {meth : Method} {c : Code} {D : va_G} {cI cZ cR : ClassId} {A : Nat → Prop} {ad_m : Nat → Nat} {m_thrown : Int32} {m_rolls : Int32} {m_pitch : Nat → Int32} {m_marks : Nat → Int32} {m_markStep : Nat → Int32} {m_markTicks : Nat → Int32} {m_table : Nat → Int32} {m_order : Nat → Int32} {m_many : Int32} {m_heard : Int32} {m_pressed : Int32} {m_silents : Int32} {m_items : Int32} {m_itemPitch : Nat → Int32} {m_itemStep : Nat → Int32} {m_ends : Nat → Int32} {m_noteOf : Nat → Int32} {m_cost : Int32} {m_extra : Int32} {m_slotOf : Nat → Int32} {m_sights : Int32} {m_sightCopy : Nat → Int32} {m_sightPitch : Nat → Int32} {m_isFaulty : Nat → Int32} {m_least : Int32} {m_greatest : Int32} {m_lines : Int32} {m_lineCopy : Nat → Int32} {m_lineDay : Nat → Int32} {m_linePlace : Nat → Int32} {m_lineTold : Nat → Int32} {m_now : Int32} (G : gG p s m args meth c cX7_isIn (some .boolean) 3 RX7 wsX7_isIn) (hK : va_K D vwCl (gT cI cZ cR) s) (hN : va_Nw gN s) (hA : ∀ q, s.heap.size ≤ q → A q) (m_first : Nat → Int32) (m_length : Nat → Int32) (v1 : Int32) (v2 : Int32) (post : Int32 → Prop)  (h : wp_X7_isIn m_first m_length v1 v2 post) : ∀ (H : Heap) (locs : List Loc), va_P D vwCl (w_M cI cZ cR ad_m m_thrown m_rolls m_pitch m_first m_length m_marks m_markStep m_markTicks m_table m_order m_many m_heard m_pressed m_silents m_items m_itemPitch m_itemStep m_ends m_noteOf m_cost m_extra m_slotOf m_sights m_sightCopy m_sightPitch m_isFaulty m_least m_greatest m_lines m_lineCopy m_lineDay m_linePlace m_lineTold m_now) H → va_D A (w_M cI cZ cR ad_m m_thrown m_rolls m_pitch m_first m_length m_marks m_markStep m_markTicks m_table m_order m_many m_heard m_pressed m_silents m_items m_itemPitch m_itemStep m_ends m_noteOf m_cost m_extra m_slotOf m_sights m_sightCopy m_sightPitch m_isFaulty m_least m_greatest m_lines m_lineCopy m_lineDay m_linePlace m_lineTold m_now) → va_S A s.heap H locs → ∀ (ls : Array Slot), lv_has ls 3 [(0, .ref (ad_m 0)), (1, .int v1), (2, .int v2)] → W p l e { frames := 1, cells := 0, slots := 0, locals := 22 } s m args below meth c H locs 0 0 (MQ below (va_Qi (fun (r : Int32) (u : Unit) => post r ) (fun u t => gB D (gT cI cZ cR) A (w_M cI cZ cR ad_m m_thrown m_rolls m_pitch m_first m_length m_marks m_markStep m_markTicks m_table m_order m_many m_heard m_pressed m_silents m_items m_itemPitch m_itemStep m_ends m_noteOf m_cost m_extra m_slotOf m_sights m_sightCopy m_sightPitch m_isFaulty m_least m_greatest m_lines m_lineCopy m_lineDay m_linePlace m_lineTold m_now) t) A) args s 0 0 A) (F0 m 0 ls []) := by
  obtain ⟨hx, hb, hr, hml, hown, hts, hlocks⟩ := id G
  intro H locs hP hD hS ls hl
  unfold wp_X7_isIn at h
  refine lv_aload_n hx hb dX7_isIn_0 rfl (lv_at hl 0 rfl) ?_
  refine va_get (D := D) (ci := 7) (v := .ref (ad_m 3)) (C := RX7) (T := TX7) (N := 34) hx hb hts us_X7_isIn_X7 hown hK hP 0 rfl rfl 4 (by decide) (hts (.fieldLink RX7 16 "RollHouseModel" "length" "[I") lk_X7_isIn_0) (fun _ h9 => h9) rfl dX7_isIn_1 ?_
  refine lv_iload_n hx hb dX7_isIn_4 rfl (lv_at hl 1 rfl) ?_
  obtain ⟨hin, h⟩ := h
  refine va_iald hx hb hK hP 3 0 rfl rfl hin dX7_isIn_5 ?_
  refine lv_if_le (tgt := 41) hx hb dX7_isIn_6 (by decide) (fun hc => ?_) (fun hc => ?_)
  · have h := h.1 hc
    refine lv_iconst (v := 0) hx hb dX7_isIn_41 (by decide) ?_
    exact gl_iretz G hK (u := ()) hP hD hS (by decide) h dX7_isIn_42
  · have h := h.2 hc
    refine lv_iload_n hx hb dX7_isIn_9 rfl (lv_at hl 2 rfl) ?_
    refine lv_aload_n hx hb dX7_isIn_10 rfl (lv_at hl 0 rfl) ?_
    refine va_get (D := D) (ci := 7) (v := .ref (ad_m 2)) (C := RX7) (T := TX7) (N := 34) hx hb hts us_X7_isIn_X7 hown hK hP 0 rfl rfl 3 (by decide) (hts (.fieldLink RX7 13 "RollHouseModel" "first" "[I") lk_X7_isIn_1) (fun _ h9 => h9) rfl dX7_isIn_11 ?_
    refine lv_iload_n hx hb dX7_isIn_14 rfl (lv_at hl 1 rfl) ?_
    obtain ⟨hin, h⟩ := h
    refine va_iald hx hb hK hP 2 0 rfl rfl hin dX7_isIn_15 ?_
    refine lv_aload_n hx hb dX7_isIn_16 rfl (lv_at hl 0 rfl) ?_
    refine va_get (D := D) (ci := 7) (v := .ref (ad_m 2)) (C := RX7) (T := TX7) (N := 34) hx hb hts us_X7_isIn_X7 hown hK hP 0 rfl rfl 3 (by decide) (hts (.fieldLink RX7 13 "RollHouseModel" "first" "[I") lk_X7_isIn_1) (fun _ h9 => h9) rfl dX7_isIn_17 ?_
    refine lv_iload_n hx hb dX7_isIn_20 rfl (lv_at hl 1 rfl) ?_
    obtain ⟨hin, h⟩ := h
    refine va_iald hx hb hK hP 2 0 rfl rfl hin dX7_isIn_21 ?_
    refine lv_aload_n hx hb dX7_isIn_22 rfl (lv_at hl 0 rfl) ?_
    refine va_get (D := D) (ci := 7) (v := .ref (ad_m 3)) (C := RX7) (T := TX7) (N := 34) hx hb hts us_X7_isIn_X7 hown hK hP 0 rfl rfl 4 (by decide) (hts (.fieldLink RX7 16 "RollHouseModel" "length" "[I") lk_X7_isIn_0) (fun _ h9 => h9) rfl dX7_isIn_23 ?_
    refine lv_iload_n hx hb dX7_isIn_26 rfl (lv_at hl 1 rfl) ?_
    obtain ⟨hin, h⟩ := h
    refine va_iald hx hb hK hP 3 0 rfl rfl hin dX7_isIn_27 ?_
    refine lv_iadd hx hb dX7_isIn_28 ?_
    refine lv_iconst (v := 1) hx hb dX7_isIn_29 (by decide) ?_
    refine lv_isub hx hb dX7_isIn_30 ?_
    refine lv_topi (fun z1 ez1 => ?_)
    have h := h z1 ez1
    refine gl_calliS (va_runS (As := [.int v2, .int (m_first v1.toNatClampNeg), .int z1]) (rest := []) ⟨hx, hb, hml, hown, hts⟩ (mt_X7_within l D cI cZ cR  H.size v2 (m_first v1.toNatClampNeg) z1 _ h) (va_cwS 3 hts gX7_isIn_X7_within rfl rfl rfl (by decide +kernel) ⟨Nat.le_of_ble_eq_true rfl, Nat.le_of_ble_eq_true rfl⟩) ⟨gl_blind, gl_pre gl_nilP hK hN (gl_nilD (A := A))⟩ rfl rfl hl.1 rfl (lv_room (Nat.le_of_ble_eq_true rfl)) dX7_isIn_31 ⟨Nat.le_of_ble_eq_true rfl, Nat.le_of_ble_eq_true rfl⟩) hP hS hA (fun r2 u H locs h hP hS => ?_)
    try dsimp only at h
    refine lv_if_eq (tgt := 41) hx hb dX7_isIn_34 (by decide) (fun hc => ?_) (fun hc => ?_)
    · have h := h.1 hc
      refine lv_iconst (v := 0) hx hb dX7_isIn_41 (by decide) ?_
      exact gl_iretz G hK (u := ()) hP hD hS (by decide) h dX7_isIn_42
    · have h := h.2 hc
      refine lv_iconst (v := 1) hx hb dX7_isIn_37 (by decide) ?_
      refine lv_goto (tgt := 42) hx hb dX7_isIn_38 (by decide) ?_
      exact gl_iretz G hK (u := ()) hP hD hS (by decide) h dX7_isIn_42
set_option maxRecDepth 100000 in
theorem mt_X7_isIn (l : Launch) (D : va_G) (cI cZ cR : ClassId) (ad_m : Nat → Nat) (sz : Nat) (m_thrown : Int32) (m_rolls : Int32) (m_pitch : Nat → Int32) (m_first : Nat → Int32) (m_length : Nat → Int32) (m_marks : Nat → Int32) (m_markStep : Nat → Int32) (m_markTicks : Nat → Int32) (m_table : Nat → Int32) (m_order : Nat → Int32) (m_many : Int32) (m_heard : Int32) (m_pressed : Int32) (m_silents : Int32) (m_items : Int32) (m_itemPitch : Nat → Int32) (m_itemStep : Nat → Int32) (m_ends : Nat → Int32) (m_noteOf : Nat → Int32) (m_cost : Int32) (m_extra : Int32) (m_slotOf : Nat → Int32) (m_sights : Int32) (m_sightCopy : Nat → Int32) (m_sightPitch : Nat → Int32) (m_isFaulty : Nat → Int32) (m_least : Int32) (m_greatest : Int32) (m_lines : Int32) (m_lineCopy : Nat → Int32) (m_lineDay : Nat → Int32) (m_linePlace : Nat → Int32) (m_lineTold : Nat → Int32) (m_now : Int32) (v1 : Int32) (v2 : Int32) (post : Int32 → Prop) (h : wp_X7_isIn m_first m_length v1 v2 post) : Met l yX7_isIn wsX7_isIn ({ frames := 1, cells := 0, slots := 0, locals := 22 }) (gPc D (gT cI cZ cR) (w_M cI cZ cR ad_m m_thrown m_rolls m_pitch m_first m_length m_marks m_markStep m_markTicks m_table m_order m_many m_heard m_pressed m_silents m_items m_itemPitch m_itemStep m_ends m_noteOf m_cost m_extra m_slotOf m_sights m_sightCopy m_sightPitch m_isFaulty m_least m_greatest m_lines m_lineCopy m_lineDay m_linePlace m_lineTold m_now) sz [.ref (ad_m 0), .int v1, .int v2]) (va_Qi (fun (r : Int32) (u : Unit) => post r ) (fun u t => gB D (gT cI cZ cR) (va_A (w_M cI cZ cR ad_m m_thrown m_rolls m_pitch m_first m_length m_marks m_markStep m_markTicks m_table m_order m_many m_heard m_pressed m_silents m_items m_itemPitch m_itemStep m_ends m_noteOf m_cost m_extra m_slotOf m_sights m_sightCopy m_sightPitch m_isFaulty m_least m_greatest m_lines m_lineCopy m_lineDay m_linePlace m_lineTold m_now) sz) (w_M cI cZ cR ad_m m_thrown m_rolls m_pitch m_first m_length m_marks m_markStep m_markTicks m_table m_order m_many m_heard m_pressed m_silents m_items m_itemPitch m_itemStep m_ends m_noteOf m_cost m_extra m_slotOf m_sights m_sightCopy m_sightPitch m_isFaulty m_least m_greatest m_lines m_lineCopy m_lineDay m_linePlace m_lineTold m_now) t) (va_A (w_M cI cZ cR ad_m m_thrown m_rolls m_pitch m_first m_length m_marks m_markStep m_markTicks m_table m_order m_many m_heard m_pressed m_silents m_items m_itemPitch m_itemStep m_ends m_noteOf m_cost m_extra m_slotOf m_sights m_sightCopy m_sightPitch m_isFaulty m_least m_greatest m_lines m_lineCopy m_lineDay m_linePlace m_lineTold m_now) sz)) 0 0 (va_A (w_M cI cZ cR ad_m m_thrown m_rolls m_pitch m_first m_length m_marks m_markStep m_markTicks m_table m_order m_many m_heard m_pressed m_silents m_items m_itemPitch m_itemStep m_ends m_noteOf m_cost m_extra m_slotOf m_sights m_sightCopy m_sightPitch m_isFaulty m_least m_greatest m_lines m_lineCopy m_lineDay m_linePlace m_lineTold m_now) sz) := by
  refine gl_entry (cc := cX7_isIn) (maxL := 3) (ret := (some .boolean)) (by decide) rfl (Nat.le_of_ble_eq_true rfl) ?_
  intro p e s m below meth c ls G hin hsz hK hN hP hD hl
  subst hsz
  exact ml_X7_isIn_0 G hK hN (fun q h => Or.inr h) m_first m_length v1 v2 post h s.heap [] hP hD va_S.rf ls hl
theorem lk_X7_isPunched_0 : (Cond.fieldLink RX7 13 "RollHouseModel" "first" "[I") ∈ wsX7_isPunched := by decide +kernel
theorem lk_X7_isPunched_1 : (Cond.fieldLink RX7 16 "RollHouseModel" "length" "[I") ∈ wsX7_isPunched := by decide +kernel
theorem us_X7_isPunched_X7 : ∀ w ∈ u_ws RX7 TX7 34, w ∈ wsX7_isPunched := by decide +kernel
def wp_X7_isPunched (m_first : Nat → Int32) (m_length : Nat → Int32) (v1 : Int32) (v2 : Int32) (post : Int32 → Prop) : Prop := (vp_in v1 360 ∧ (∀ z1 : Int32, z1 = v2 - (m_first v1.toNatClampNeg) → (wp_X7_isIn m_first m_length v1 v2 (fun (r2 : Int32) => ((r2 = 0 → post 0 ) ∧ (¬ r2 = 0 → ((¬ (z1 - z1 / 8 * 8) = 7 → post 1 ) ∧ ((z1 - z1 / 8 * 8) = 7 → (vp_in v1 360 ∧ ((¬ z1 = ((m_length v1.toNatClampNeg) - 1) → post 0 ) ∧ (z1 = ((m_length v1.toNatClampNeg) - 1) → post 1 )))))))))))
set_option maxRecDepth 100000 in
set_option maxHeartbeats 4000000 in
theorem ml_X7_isPunched_0 {p : Program} {l : Launch} {e : Env} {s : State} {m : MethodId} {args : Array Value} {below : List Frame} {meth : Method} {c : Code} {D : va_G} {cI cZ cR : ClassId} {A : Nat → Prop} {ad_m : Nat → Nat} {m_thrown : Int32} {m_rolls : Int32} {m_pitch : Nat → Int32} {m_marks : Nat → Int32} {m_markStep : Nat → Int32} {m_markTicks : Nat → Int32} {m_table : Nat → Int32} {m_order : Nat → Int32} {m_many : Int32} {m_heard : Int32} {m_pressed : Int32} {m_silents : Int32} {m_items : Int32} {m_itemPitch : Nat → Int32} {m_itemStep : Nat → Int32} {m_ends : Nat → Int32} {m_noteOf : Nat → Int32} {m_cost : Int32} {m_extra : Int32} {m_slotOf : Nat → Int32} {m_sights : Int32} {m_sightCopy : Nat → Int32} {m_sightPitch : Nat → Int32} {m_isFaulty : Nat → Int32} {m_least : Int32} {m_greatest : Int32} {m_lines : Int32} {m_lineCopy : Nat → Int32} {m_lineDay : Nat → Int32} {m_linePlace : Nat → Int32} {m_lineTold : Nat → Int32} {m_now : Int32} (G : gG p s m args meth c cX7_isPunched (some .boolean) 4 RX7 wsX7_isPunched) (hK : va_K D vwCl (gT cI cZ cR) s) (hN : va_Nw gN s) (hA : ∀ q, s.heap.size ≤ q → A q) (m_first : Nat → Int32) (m_length : Nat → Int32) (v1 : Int32) (v2 : Int32) (post : Int32 → Prop)  (h : wp_X7_isPunched m_first m_length v1 v2 post) : ∀ (H : Heap) (locs : List Loc), va_P D vwCl (w_M cI cZ cR ad_m m_thrown m_rolls m_pitch m_first m_length m_marks m_markStep m_markTicks m_table m_order m_many m_heard m_pressed m_silents m_items m_itemPitch m_itemStep m_ends m_noteOf m_cost m_extra m_slotOf m_sights m_sightCopy m_sightPitch m_isFaulty m_least m_greatest m_lines m_lineCopy m_lineDay m_linePlace m_lineTold m_now) H → va_D A (w_M cI cZ cR ad_m m_thrown m_rolls m_pitch m_first m_length m_marks m_markStep m_markTicks m_table m_order m_many m_heard m_pressed m_silents m_items m_itemPitch m_itemStep m_ends m_noteOf m_cost m_extra m_slotOf m_sights m_sightCopy m_sightPitch m_isFaulty m_least m_greatest m_lines m_lineCopy m_lineDay m_linePlace m_lineTold m_now) → va_S A s.heap H locs → ∀ (ls : Array Slot), lv_has ls 4 [(0, .ref (ad_m 0)), (1, .int v1), (2, .int v2)] → W p l e { frames := 2, cells := 0, slots := 0, locals := 44 } s m args below meth c H locs 0 0 (MQ below (va_Qi (fun (r : Int32) (u : Unit) => post r ) (fun u t => gB D (gT cI cZ cR) A (w_M cI cZ cR ad_m m_thrown m_rolls m_pitch m_first m_length m_marks m_markStep m_markTicks m_table m_order m_many m_heard m_pressed m_silents m_items m_itemPitch m_itemStep m_ends m_noteOf m_cost m_extra m_slotOf m_sights m_sightCopy m_sightPitch m_isFaulty m_least m_greatest m_lines m_lineCopy m_lineDay m_linePlace m_lineTold m_now) t) A) args s 0 0 A) (F0 m 0 ls []) := by
  obtain ⟨hx, hb, hr, hml, hown, hts, hlocks⟩ := id G
  intro H locs hP hD hS ls hl
  unfold wp_X7_isPunched at h
  refine lv_iload_n hx hb dX7_isPunched_0 rfl (lv_at hl 2 rfl) ?_
  refine lv_aload_n hx hb dX7_isPunched_1 rfl (lv_at hl 0 rfl) ?_
  refine va_get (D := D) (ci := 7) (v := .ref (ad_m 2)) (C := RX7) (T := TX7) (N := 34) hx hb hts us_X7_isPunched_X7 hown hK hP 0 rfl rfl 3 (by decide) (hts (.fieldLink RX7 13 "RollHouseModel" "first" "[I") lk_X7_isPunched_0) (fun _ h9 => h9) rfl dX7_isPunched_2 ?_
  refine lv_iload_n hx hb dX7_isPunched_5 rfl (lv_at hl 1 rfl) ?_
  obtain ⟨hin, h⟩ := h
  refine va_iald hx hb hK hP 2 0 rfl rfl hin dX7_isPunched_6 ?_
  refine lv_isub hx hb dX7_isPunched_7 ?_
  refine lv_topi (fun z1 ez1 => ?_)
  have h := h z1 ez1
  refine lv_istore_n (lv' := [(3, .int z1), (0, .ref (ad_m 0)), (1, .int v1), (2, .int v2)]) hx hb dX7_isPunched_8 rfl hl (by decide) rfl (fun ls hl => ?_)
  refine lv_aload_n hx hb dX7_isPunched_9 rfl (lv_at hl 1 rfl) ?_
  refine lv_iload_n hx hb dX7_isPunched_10 rfl (lv_at hl 2 rfl) ?_
  refine lv_iload_n hx hb dX7_isPunched_11 rfl (lv_at hl 3 rfl) ?_
  refine gl_calliF (va_runV (As := [.int v1, .int v2]) (rest := []) ⟨hx, hb, hml, hown, hts⟩ (mt_X7_isIn l D cI cZ cR ad_m H.size m_thrown m_rolls m_pitch m_first m_length m_marks m_markStep m_markTicks m_table m_order m_many m_heard m_pressed m_silents m_items m_itemPitch m_itemStep m_ends m_noteOf m_cost m_extra m_slotOf m_sights m_sightCopy m_sightPitch m_isFaulty m_least m_greatest m_lines m_lineCopy m_lineDay m_linePlace m_lineTold m_now v1 v2 _ h) (cwV 2 hts gX7_isPunched_X7_isIn rfl rfl rfl (by decide +kernel) ⟨Nat.le_of_ble_eq_true rfl, Nat.le_of_ble_eq_true rfl⟩) ⟨gl_blind, va_recv hK hP (ci := 7) (q0 := 0) rfl rfl, gl_pre hP hK hN hD⟩ rfl rfl hl.1 rfl (lv_room (Nat.le_of_ble_eq_true rfl)) dX7_isPunched_12 ⟨Nat.le_of_ble_eq_true rfl, Nat.le_of_ble_eq_true rfl⟩) hD hS hA (fun r2 u H locs h hP hD hS => ?_)
  try dsimp only at h
  refine lv_if_eq (tgt := 43) hx hb dX7_isPunched_15 (by decide) (fun hc => ?_) (fun hc => ?_)
  · have h := h.1 hc
    refine lv_iconst (v := 0) hx hb dX7_isPunched_43 (by decide) ?_
    exact gl_iretz G hK (u := ()) hP hD hS (by decide) h dX7_isPunched_44
  · have h := h.2 hc
    refine lv_iload_n hx hb dX7_isPunched_18 rfl (lv_at hl 0 rfl) ?_
    refine lv_bipush (v := 8) hx hb dX7_isPunched_19 (by decide) ?_
    refine lv_irem hx hb dX7_isPunched_21 (by decide) ?_
    refine lv_bipush (v := 7) hx hb dX7_isPunched_22 (by decide) ?_
    refine lv_icmp_ne (tgt := 39) hx hb dX7_isPunched_24 (by decide) (fun hc => ?_) (fun hc => ?_)
    · have h := h.1 hc
      refine lv_iconst (v := 1) hx hb dX7_isPunched_39 (by decide) ?_
      refine lv_goto (tgt := 44) hx hb dX7_isPunched_40 (by decide) ?_
      exact gl_iretz G hK (u := ()) hP hD hS (by decide) h dX7_isPunched_44
    · have h := h.2 hc
      refine lv_iload_n hx hb dX7_isPunched_27 rfl (lv_at hl 0 rfl) ?_
      refine lv_aload_n hx hb dX7_isPunched_28 rfl (lv_at hl 1 rfl) ?_
      refine va_get (D := D) (ci := 7) (v := .ref (ad_m 3)) (C := RX7) (T := TX7) (N := 34) hx hb hts us_X7_isPunched_X7 hown hK hP 0 rfl rfl 4 (by decide) (hts (.fieldLink RX7 16 "RollHouseModel" "length" "[I") lk_X7_isPunched_1) (fun _ h9 => h9) rfl dX7_isPunched_29 ?_
      refine lv_iload_n hx hb dX7_isPunched_32 rfl (lv_at hl 2 rfl) ?_
      obtain ⟨hin, h⟩ := h
      refine va_iald hx hb hK hP 3 0 rfl rfl hin dX7_isPunched_33 ?_
      refine lv_iconst (v := 1) hx hb dX7_isPunched_34 (by decide) ?_
      refine lv_isub hx hb dX7_isPunched_35 ?_
      refine lv_icmp_ne (tgt := 43) hx hb dX7_isPunched_36 (by decide) (fun hc => ?_) (fun hc => ?_)
      · have h := h.1 hc
        refine lv_iconst (v := 0) hx hb dX7_isPunched_43 (by decide) ?_
        exact gl_iretz G hK (u := ()) hP hD hS (by decide) h dX7_isPunched_44
      · have h := h.2 hc
        refine lv_iconst (v := 1) hx hb dX7_isPunched_39 (by decide) ?_
        refine lv_goto (tgt := 44) hx hb dX7_isPunched_40 (by decide) ?_
        exact gl_iretz G hK (u := ()) hP hD hS (by decide) h dX7_isPunched_44
set_option maxRecDepth 100000 in
theorem mt_X7_isPunched (l : Launch) (D : va_G) (cI cZ cR : ClassId) (ad_m : Nat → Nat) (sz : Nat) (m_thrown : Int32) (m_rolls : Int32) (m_pitch : Nat → Int32) (m_first : Nat → Int32) (m_length : Nat → Int32) (m_marks : Nat → Int32) (m_markStep : Nat → Int32) (m_markTicks : Nat → Int32) (m_table : Nat → Int32) (m_order : Nat → Int32) (m_many : Int32) (m_heard : Int32) (m_pressed : Int32) (m_silents : Int32) (m_items : Int32) (m_itemPitch : Nat → Int32) (m_itemStep : Nat → Int32) (m_ends : Nat → Int32) (m_noteOf : Nat → Int32) (m_cost : Int32) (m_extra : Int32) (m_slotOf : Nat → Int32) (m_sights : Int32) (m_sightCopy : Nat → Int32) (m_sightPitch : Nat → Int32) (m_isFaulty : Nat → Int32) (m_least : Int32) (m_greatest : Int32) (m_lines : Int32) (m_lineCopy : Nat → Int32) (m_lineDay : Nat → Int32) (m_linePlace : Nat → Int32) (m_lineTold : Nat → Int32) (m_now : Int32) (v1 : Int32) (v2 : Int32) (post : Int32 → Prop) (h : wp_X7_isPunched m_first m_length v1 v2 post) : Met l yX7_isPunched wsX7_isPunched ({ frames := 2, cells := 0, slots := 0, locals := 44 }) (gPc D (gT cI cZ cR) (w_M cI cZ cR ad_m m_thrown m_rolls m_pitch m_first m_length m_marks m_markStep m_markTicks m_table m_order m_many m_heard m_pressed m_silents m_items m_itemPitch m_itemStep m_ends m_noteOf m_cost m_extra m_slotOf m_sights m_sightCopy m_sightPitch m_isFaulty m_least m_greatest m_lines m_lineCopy m_lineDay m_linePlace m_lineTold m_now) sz [.ref (ad_m 0), .int v1, .int v2]) (va_Qi (fun (r : Int32) (u : Unit) => post r ) (fun u t => gB D (gT cI cZ cR) (va_A (w_M cI cZ cR ad_m m_thrown m_rolls m_pitch m_first m_length m_marks m_markStep m_markTicks m_table m_order m_many m_heard m_pressed m_silents m_items m_itemPitch m_itemStep m_ends m_noteOf m_cost m_extra m_slotOf m_sights m_sightCopy m_sightPitch m_isFaulty m_least m_greatest m_lines m_lineCopy m_lineDay m_linePlace m_lineTold m_now) sz) (w_M cI cZ cR ad_m m_thrown m_rolls m_pitch m_first m_length m_marks m_markStep m_markTicks m_table m_order m_many m_heard m_pressed m_silents m_items m_itemPitch m_itemStep m_ends m_noteOf m_cost m_extra m_slotOf m_sights m_sightCopy m_sightPitch m_isFaulty m_least m_greatest m_lines m_lineCopy m_lineDay m_linePlace m_lineTold m_now) t) (va_A (w_M cI cZ cR ad_m m_thrown m_rolls m_pitch m_first m_length m_marks m_markStep m_markTicks m_table m_order m_many m_heard m_pressed m_silents m_items m_itemPitch m_itemStep m_ends m_noteOf m_cost m_extra m_slotOf m_sights m_sightCopy m_sightPitch m_isFaulty m_least m_greatest m_lines m_lineCopy m_lineDay m_linePlace m_lineTold m_now) sz)) 0 0 (va_A (w_M cI cZ cR ad_m m_thrown m_rolls m_pitch m_first m_length m_marks m_markStep m_markTicks m_table m_order m_many m_heard m_pressed m_silents m_items m_itemPitch m_itemStep m_ends m_noteOf m_cost m_extra m_slotOf m_sights m_sightCopy m_sightPitch m_isFaulty m_least m_greatest m_lines m_lineCopy m_lineDay m_linePlace m_lineTold m_now) sz) := by
  refine gl_entry (cc := cX7_isPunched) (maxL := 4) (ret := (some .boolean)) (by decide) rfl (Nat.le_of_ble_eq_true rfl) ?_
  intro p e s m below meth c ls G hin hsz hK hN hP hD hl
  subst hsz
  exact ml_X7_isPunched_0 G hK hN (fun q h => Or.inr h) m_first m_length v1 v2 post h s.heap [] hP hD va_S.rf ls hl
theorem lk_X7_at_0 : (Cond.fieldLink RX7 16 "RollHouseModel" "length" "[I") ∈ wsX7_at := by decide +kernel
theorem lk_X7_at_1 : (Cond.fieldLink RX7 7 "RollHouseModel" "pitch" "[I") ∈ wsX7_at := by decide +kernel
theorem us_X7_at_X7 : ∀ w ∈ u_ws RX7 TX7 34, w ∈ wsX7_at := by decide +kernel
def wl_X7_at_6 (m_pitch : Nat → Int32) (m_first : Nat → Int32) (m_length : Nat → Int32) (v1 : Int32) (v2 : Int32) (v3 : Int32) (post : Int32 → Prop) : Nat → (Int32) → Prop
  | 0, _ => False
  | fu + 1, v4 => ((((60 * v1) + 60) ≤ v4 → post (-1) ) ∧ (¬ ((60 * v1) + 60) ≤ v4 → (vp_in v4 360 ∧ (((m_length v4.toNatClampNeg) ≤ 0 → wl_X7_at_6 m_pitch m_first m_length v1 v2 v3 post fu (v4 + 1)) ∧ (¬ (m_length v4.toNatClampNeg) ≤ 0 → (vp_in v4 360 ∧ ((¬ (m_pitch v4.toNatClampNeg) = v2 → wl_X7_at_6 m_pitch m_first m_length v1 v2 v3 post fu (v4 + 1)) ∧ ((m_pitch v4.toNatClampNeg) = v2 → (wp_X7_isIn m_first m_length v4 v3 (fun (r2 : Int32) => ((r2 = 0 → wl_X7_at_6 m_pitch m_first m_length v1 v2 v3 post fu (v4 + 1)) ∧ (¬ r2 = 0 → post v4 ))))))))))))
def wp_X7_at (m_pitch : Nat → Int32) (m_first : Nat → Int32) (m_length : Nat → Int32) (v1 : Int32) (v2 : Int32) (v3 : Int32) (post : Int32 → Prop) : Prop := (∀ z1 : Int32, z1 = 60 * v1 → (∃ n, wl_X7_at_6 m_pitch m_first m_length v1 v2 v3 post n z1))
set_option maxRecDepth 100000 in
set_option maxHeartbeats 4000000 in
theorem ml_X7_at_6 {p : Program} {l : Launch} {e : Env} {s : State} {m : MethodId} {args : Array Value} {below : List Frame} {meth : Method} {c : Code} {D : va_G} {cI cZ cR : ClassId} {A : Nat → Prop} {ad_m : Nat → Nat} {m_thrown : Int32} {m_rolls : Int32} {m_marks : Nat → Int32} {m_markStep : Nat → Int32} {m_markTicks : Nat → Int32} {m_table : Nat → Int32} {m_order : Nat → Int32} {m_many : Int32} {m_heard : Int32} {m_pressed : Int32} {m_silents : Int32} {m_items : Int32} {m_itemPitch : Nat → Int32} {m_itemStep : Nat → Int32} {m_ends : Nat → Int32} {m_noteOf : Nat → Int32} {m_cost : Int32} {m_extra : Int32} {m_slotOf : Nat → Int32} {m_sights : Int32} {m_sightCopy : Nat → Int32} {m_sightPitch : Nat → Int32} {m_isFaulty : Nat → Int32} {m_least : Int32} {m_greatest : Int32} {m_lines : Int32} {m_lineCopy : Nat → Int32} {m_lineDay : Nat → Int32} {m_linePlace : Nat → Int32} {m_lineTold : Nat → Int32} {m_now : Int32} (G : gG p s m args meth c cX7_at (some .int) 5 RX7 wsX7_at) (hK : va_K D vwCl (gT cI cZ cR) s) (hN : va_Nw gN s) (hA : ∀ q, s.heap.size ≤ q → A q) (m_pitch : Nat → Int32) (m_first : Nat → Int32) (m_length : Nat → Int32) (v1 : Int32) (v2 : Int32) (v3 : Int32) (post : Int32 → Prop) : ∀ (fu : Nat) (v4 : Int32), wl_X7_at_6 m_pitch m_first m_length v1 v2 v3 post fu v4 → ∀ (H : Heap) (locs : List Loc), va_P D vwCl (w_M cI cZ cR ad_m m_thrown m_rolls m_pitch m_first m_length m_marks m_markStep m_markTicks m_table m_order m_many m_heard m_pressed m_silents m_items m_itemPitch m_itemStep m_ends m_noteOf m_cost m_extra m_slotOf m_sights m_sightCopy m_sightPitch m_isFaulty m_least m_greatest m_lines m_lineCopy m_lineDay m_linePlace m_lineTold m_now) H → va_D A (w_M cI cZ cR ad_m m_thrown m_rolls m_pitch m_first m_length m_marks m_markStep m_markTicks m_table m_order m_many m_heard m_pressed m_silents m_items m_itemPitch m_itemStep m_ends m_noteOf m_cost m_extra m_slotOf m_sights m_sightCopy m_sightPitch m_isFaulty m_least m_greatest m_lines m_lineCopy m_lineDay m_linePlace m_lineTold m_now) → va_S A s.heap H locs → ∀ (ls : Array Slot), lv_has ls 5 [(0, .ref (ad_m 0)), (1, .int v1), (2, .int v2), (3, .int v3), (4, .int v4)] → W p l e { frames := 2, cells := 0, slots := 0, locals := 44 } s m args below meth c H locs 0 0 (MQ below (va_Qi (fun (r : Int32) (u : Unit) => post r ) (fun u t => gB D (gT cI cZ cR) A (w_M cI cZ cR ad_m m_thrown m_rolls m_pitch m_first m_length m_marks m_markStep m_markTicks m_table m_order m_many m_heard m_pressed m_silents m_items m_itemPitch m_itemStep m_ends m_noteOf m_cost m_extra m_slotOf m_sights m_sightCopy m_sightPitch m_isFaulty m_least m_greatest m_lines m_lineCopy m_lineDay m_linePlace m_lineTold m_now) t) A) args s 0 0 A) (F0 m 6 ls []) := by
  obtain ⟨hx, hb, hr, hml, hown, hts, hlocks⟩ := id G
  intro fu
  induction fu with
  | zero =>
    intro v4 h
    exact h.elim
  | succ fu ih =>
    intro v4 h H locs hP hD hS ls hl
    rw [wl_X7_at_6] at h
    refine lv_iload hx hb dX7_at_6 (lv_at hl 4 rfl) ?_
    refine lv_bipush (v := 60) hx hb dX7_at_8 (by decide) ?_
    refine lv_iload_n hx hb dX7_at_10 rfl (lv_at hl 1 rfl) ?_
    refine lv_imul hx hb dX7_at_11 ?_
    refine lv_bipush (v := 60) hx hb dX7_at_12 (by decide) ?_
    refine lv_iadd hx hb dX7_at_14 ?_
    refine lv_icmp_ge (tgt := 58) hx hb dX7_at_15 (by decide) (fun hc => ?_) (fun hc => ?_)
    · have h := h.1 hc
      refine lv_iconst (v := (-1)) hx hb dX7_at_58 (by decide) ?_
      exact gl_ireti G hK (u := ()) hP hD hS h dX7_at_59
    · have h := h.2 hc
      refine lv_aload_n hx hb dX7_at_18 rfl (lv_at hl 0 rfl) ?_
      refine va_get (D := D) (ci := 7) (v := .ref (ad_m 3)) (C := RX7) (T := TX7) (N := 34) hx hb hts us_X7_at_X7 hown hK hP 0 rfl rfl 4 (by decide) (hts (.fieldLink RX7 16 "RollHouseModel" "length" "[I") lk_X7_at_0) (fun _ h9 => h9) rfl dX7_at_19 ?_
      refine lv_iload hx hb dX7_at_22 (lv_at hl 4 rfl) ?_
      obtain ⟨hin, h⟩ := h
      refine va_iald hx hb hK hP 3 0 rfl rfl hin dX7_at_24 ?_
      refine lv_if_le (tgt := 52) hx hb dX7_at_25 (by decide) (fun hc => ?_) (fun hc => ?_)
      · have h := h.1 hc
        refine lv_iinc (v := v4 + 1) (lv' := [(4, .int (v4 + 1)), (0, .ref (ad_m 0)), (1, .int v1), (2, .int v2), (3, .int v3)]) hx hb dX7_at_52 hl (k := 4) rfl rfl (by decide) rfl (fun ls hl => ?_)
        refine lv_goto (tgt := 6) hx hb dX7_at_55 (by decide) ?_
        exact ih (v4 + 1) h H locs hP hD hS ls (lv_sub hl [1, 2, 3, 4, 0] rfl)
      · have h := h.2 hc
        refine lv_aload_n hx hb dX7_at_28 rfl (lv_at hl 0 rfl) ?_
        refine va_get (D := D) (ci := 7) (v := .ref (ad_m 1)) (C := RX7) (T := TX7) (N := 34) hx hb hts us_X7_at_X7 hown hK hP 0 rfl rfl 2 (by decide) (hts (.fieldLink RX7 7 "RollHouseModel" "pitch" "[I") lk_X7_at_1) (fun _ h9 => h9) rfl dX7_at_29 ?_
        refine lv_iload hx hb dX7_at_32 (lv_at hl 4 rfl) ?_
        obtain ⟨hin, h⟩ := h
        refine va_iald hx hb hK hP 1 0 rfl rfl hin dX7_at_34 ?_
        refine lv_iload_n hx hb dX7_at_35 rfl (lv_at hl 2 rfl) ?_
        refine lv_icmp_ne (tgt := 52) hx hb dX7_at_36 (by decide) (fun hc => ?_) (fun hc => ?_)
        · have h := h.1 hc
          refine lv_iinc (v := v4 + 1) (lv' := [(4, .int (v4 + 1)), (0, .ref (ad_m 0)), (1, .int v1), (2, .int v2), (3, .int v3)]) hx hb dX7_at_52 hl (k := 4) rfl rfl (by decide) rfl (fun ls hl => ?_)
          refine lv_goto (tgt := 6) hx hb dX7_at_55 (by decide) ?_
          exact ih (v4 + 1) h H locs hP hD hS ls (lv_sub hl [1, 2, 3, 4, 0] rfl)
        · have h := h.2 hc
          refine lv_aload_n hx hb dX7_at_39 rfl (lv_at hl 0 rfl) ?_
          refine lv_iload hx hb dX7_at_40 (lv_at hl 4 rfl) ?_
          refine lv_iload_n hx hb dX7_at_42 rfl (lv_at hl 3 rfl) ?_
          refine gl_calliF (va_runV (As := [.int v4, .int v3]) (rest := []) ⟨hx, hb, hml, hown, hts⟩ (mt_X7_isIn l D cI cZ cR ad_m H.size m_thrown m_rolls m_pitch m_first m_length m_marks m_markStep m_markTicks m_table m_order m_many m_heard m_pressed m_silents m_items m_itemPitch m_itemStep m_ends m_noteOf m_cost m_extra m_slotOf m_sights m_sightCopy m_sightPitch m_isFaulty m_least m_greatest m_lines m_lineCopy m_lineDay m_linePlace m_lineTold m_now v4 v3 _ h) (cwV 2 hts gX7_at_X7_isIn rfl rfl rfl (by decide +kernel) ⟨Nat.le_of_ble_eq_true rfl, Nat.le_of_ble_eq_true rfl⟩) ⟨gl_blind, va_recv hK hP (ci := 7) (q0 := 0) rfl rfl, gl_pre hP hK hN hD⟩ rfl rfl hl.1 rfl (lv_room (Nat.le_of_ble_eq_true rfl)) dX7_at_43 ⟨Nat.le_of_ble_eq_true rfl, Nat.le_of_ble_eq_true rfl⟩) hD hS hA (fun r2 u H locs h hP hD hS => ?_)
          try dsimp only at h
          refine lv_if_eq (tgt := 52) hx hb dX7_at_46 (by decide) (fun hc => ?_) (fun hc => ?_)
          · have h := h.1 hc
            refine lv_iinc (v := v4 + 1) (lv' := [(4, .int (v4 + 1)), (0, .ref (ad_m 0)), (1, .int v1), (2, .int v2), (3, .int v3)]) hx hb dX7_at_52 hl (k := 4) rfl rfl (by decide) rfl (fun ls hl => ?_)
            refine lv_goto (tgt := 6) hx hb dX7_at_55 (by decide) ?_
            exact ih (v4 + 1) h H locs hP hD hS ls (lv_sub hl [1, 2, 3, 4, 0] rfl)
          · have h := h.2 hc
            refine lv_iload hx hb dX7_at_49 (lv_at hl 4 rfl) ?_
            exact gl_ireti G hK (u := ()) hP hD hS h dX7_at_51
set_option maxRecDepth 100000 in
set_option maxHeartbeats 4000000 in
theorem ml_X7_at_0 {p : Program} {l : Launch} {e : Env} {s : State} {m : MethodId} {args : Array Value} {below : List Frame} {meth : Method} {c : Code} {D : va_G} {cI cZ cR : ClassId} {A : Nat → Prop} {ad_m : Nat → Nat} {m_thrown : Int32} {m_rolls : Int32} {m_marks : Nat → Int32} {m_markStep : Nat → Int32} {m_markTicks : Nat → Int32} {m_table : Nat → Int32} {m_order : Nat → Int32} {m_many : Int32} {m_heard : Int32} {m_pressed : Int32} {m_silents : Int32} {m_items : Int32} {m_itemPitch : Nat → Int32} {m_itemStep : Nat → Int32} {m_ends : Nat → Int32} {m_noteOf : Nat → Int32} {m_cost : Int32} {m_extra : Int32} {m_slotOf : Nat → Int32} {m_sights : Int32} {m_sightCopy : Nat → Int32} {m_sightPitch : Nat → Int32} {m_isFaulty : Nat → Int32} {m_least : Int32} {m_greatest : Int32} {m_lines : Int32} {m_lineCopy : Nat → Int32} {m_lineDay : Nat → Int32} {m_linePlace : Nat → Int32} {m_lineTold : Nat → Int32} {m_now : Int32} (G : gG p s m args meth c cX7_at (some .int) 5 RX7 wsX7_at) (hK : va_K D vwCl (gT cI cZ cR) s) (hN : va_Nw gN s) (hA : ∀ q, s.heap.size ≤ q → A q) (m_pitch : Nat → Int32) (m_first : Nat → Int32) (m_length : Nat → Int32) (v1 : Int32) (v2 : Int32) (v3 : Int32) (post : Int32 → Prop)  (h : wp_X7_at m_pitch m_first m_length v1 v2 v3 post) : ∀ (H : Heap) (locs : List Loc), va_P D vwCl (w_M cI cZ cR ad_m m_thrown m_rolls m_pitch m_first m_length m_marks m_markStep m_markTicks m_table m_order m_many m_heard m_pressed m_silents m_items m_itemPitch m_itemStep m_ends m_noteOf m_cost m_extra m_slotOf m_sights m_sightCopy m_sightPitch m_isFaulty m_least m_greatest m_lines m_lineCopy m_lineDay m_linePlace m_lineTold m_now) H → va_D A (w_M cI cZ cR ad_m m_thrown m_rolls m_pitch m_first m_length m_marks m_markStep m_markTicks m_table m_order m_many m_heard m_pressed m_silents m_items m_itemPitch m_itemStep m_ends m_noteOf m_cost m_extra m_slotOf m_sights m_sightCopy m_sightPitch m_isFaulty m_least m_greatest m_lines m_lineCopy m_lineDay m_linePlace m_lineTold m_now) → va_S A s.heap H locs → ∀ (ls : Array Slot), lv_has ls 5 [(0, .ref (ad_m 0)), (1, .int v1), (2, .int v2), (3, .int v3)] → W p l e { frames := 2, cells := 0, slots := 0, locals := 44 } s m args below meth c H locs 0 0 (MQ below (va_Qi (fun (r : Int32) (u : Unit) => post r ) (fun u t => gB D (gT cI cZ cR) A (w_M cI cZ cR ad_m m_thrown m_rolls m_pitch m_first m_length m_marks m_markStep m_markTicks m_table m_order m_many m_heard m_pressed m_silents m_items m_itemPitch m_itemStep m_ends m_noteOf m_cost m_extra m_slotOf m_sights m_sightCopy m_sightPitch m_isFaulty m_least m_greatest m_lines m_lineCopy m_lineDay m_linePlace m_lineTold m_now) t) A) args s 0 0 A) (F0 m 0 ls []) := by
  obtain ⟨hx, hb, hr, hml, hown, hts, hlocks⟩ := id G
  intro H locs hP hD hS ls hl
  unfold wp_X7_at at h
  refine lv_bipush (v := 60) hx hb dX7_at_0 (by decide) ?_
  refine lv_iload_n hx hb dX7_at_2 rfl (lv_at hl 1 rfl) ?_
  refine lv_imul hx hb dX7_at_3 ?_
  refine lv_topi (fun z1 ez1 => ?_)
  have h := h z1 ez1
  refine lv_istore (lv' := [(4, .int z1), (0, .ref (ad_m 0)), (1, .int v1), (2, .int v2), (3, .int v3)]) hx hb dX7_at_4 hl (by decide) rfl (fun ls hl => ?_)
  obtain ⟨nf, h⟩ := h
  exact ml_X7_at_6 G hK hN hA m_pitch m_first m_length v1 v2 v3 post nf z1 h H locs hP hD hS ls (lv_sub hl [1, 2, 3, 4, 0] rfl)
set_option maxRecDepth 100000 in
theorem mt_X7_at (l : Launch) (D : va_G) (cI cZ cR : ClassId) (ad_m : Nat → Nat) (sz : Nat) (m_thrown : Int32) (m_rolls : Int32) (m_pitch : Nat → Int32) (m_first : Nat → Int32) (m_length : Nat → Int32) (m_marks : Nat → Int32) (m_markStep : Nat → Int32) (m_markTicks : Nat → Int32) (m_table : Nat → Int32) (m_order : Nat → Int32) (m_many : Int32) (m_heard : Int32) (m_pressed : Int32) (m_silents : Int32) (m_items : Int32) (m_itemPitch : Nat → Int32) (m_itemStep : Nat → Int32) (m_ends : Nat → Int32) (m_noteOf : Nat → Int32) (m_cost : Int32) (m_extra : Int32) (m_slotOf : Nat → Int32) (m_sights : Int32) (m_sightCopy : Nat → Int32) (m_sightPitch : Nat → Int32) (m_isFaulty : Nat → Int32) (m_least : Int32) (m_greatest : Int32) (m_lines : Int32) (m_lineCopy : Nat → Int32) (m_lineDay : Nat → Int32) (m_linePlace : Nat → Int32) (m_lineTold : Nat → Int32) (m_now : Int32) (v1 : Int32) (v2 : Int32) (v3 : Int32) (post : Int32 → Prop) (h : wp_X7_at m_pitch m_first m_length v1 v2 v3 post) : Met l yX7_at wsX7_at ({ frames := 2, cells := 0, slots := 0, locals := 44 }) (gPc D (gT cI cZ cR) (w_M cI cZ cR ad_m m_thrown m_rolls m_pitch m_first m_length m_marks m_markStep m_markTicks m_table m_order m_many m_heard m_pressed m_silents m_items m_itemPitch m_itemStep m_ends m_noteOf m_cost m_extra m_slotOf m_sights m_sightCopy m_sightPitch m_isFaulty m_least m_greatest m_lines m_lineCopy m_lineDay m_linePlace m_lineTold m_now) sz [.ref (ad_m 0), .int v1, .int v2, .int v3]) (va_Qi (fun (r : Int32) (u : Unit) => post r ) (fun u t => gB D (gT cI cZ cR) (va_A (w_M cI cZ cR ad_m m_thrown m_rolls m_pitch m_first m_length m_marks m_markStep m_markTicks m_table m_order m_many m_heard m_pressed m_silents m_items m_itemPitch m_itemStep m_ends m_noteOf m_cost m_extra m_slotOf m_sights m_sightCopy m_sightPitch m_isFaulty m_least m_greatest m_lines m_lineCopy m_lineDay m_linePlace m_lineTold m_now) sz) (w_M cI cZ cR ad_m m_thrown m_rolls m_pitch m_first m_length m_marks m_markStep m_markTicks m_table m_order m_many m_heard m_pressed m_silents m_items m_itemPitch m_itemStep m_ends m_noteOf m_cost m_extra m_slotOf m_sights m_sightCopy m_sightPitch m_isFaulty m_least m_greatest m_lines m_lineCopy m_lineDay m_linePlace m_lineTold m_now) t) (va_A (w_M cI cZ cR ad_m m_thrown m_rolls m_pitch m_first m_length m_marks m_markStep m_markTicks m_table m_order m_many m_heard m_pressed m_silents m_items m_itemPitch m_itemStep m_ends m_noteOf m_cost m_extra m_slotOf m_sights m_sightCopy m_sightPitch m_isFaulty m_least m_greatest m_lines m_lineCopy m_lineDay m_linePlace m_lineTold m_now) sz)) 0 0 (va_A (w_M cI cZ cR ad_m m_thrown m_rolls m_pitch m_first m_length m_marks m_markStep m_markTicks m_table m_order m_many m_heard m_pressed m_silents m_items m_itemPitch m_itemStep m_ends m_noteOf m_cost m_extra m_slotOf m_sights m_sightCopy m_sightPitch m_isFaulty m_least m_greatest m_lines m_lineCopy m_lineDay m_linePlace m_lineTold m_now) sz) := by
  refine gl_entry (cc := cX7_at) (maxL := 5) (ret := (some .int)) (by decide) rfl (Nat.le_of_ble_eq_true rfl) ?_
  intro p e s m below meth c ls G hin hsz hK hN hP hD hl
  subst hsz
  exact ml_X7_at_0 G hK hN (fun q h => Or.inr h) m_pitch m_first m_length v1 v2 v3 post h s.heap [] hP hD va_S.rf ls hl
