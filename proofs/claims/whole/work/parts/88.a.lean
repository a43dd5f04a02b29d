section LAW0
abbrev w_T (cJ : ClassId) (ad_q : Nat) (f : Nat → Int64) : va_W := [(ad_q, .inl (cJ, 1, .inr (.inl f)))]
abbrev LA (s : State) : Nat → Prop := fun q => s.heap.size ≤ q
def LC (p : Program) (l : Launch) (s : State) (m : MethodId) (meth : Method) (c : Code) (b L : Nat) (xs : Nat → Int32) (D : va_G) (cI cZ cR cJ : ClassId) : Prop := p.tables.exec = Jvm.exec ∧ c.code = cL_law ∧ meth.sig.returnType = ret ∧ c.maxLocals = 7 ∧ s.vm.findClass RL = some m.cls ∧ (∀ w ∈ wsL_law, w.before #[Value.ref b] s = true) ∧ va_X b L xs s s.heap ∧ b < s.heap.size ∧ meth.locks = false ∧ va_K D vwCl (gT cI cZ cR ++ [(cJ, FieldType.long)]) s ∧ va_Nw gN s ∧ l.stackTraces = false ∧ xz (LA s) s s.heap
def Iv (cI cZ cR cJ : ClassId) (ad_h ad_p ad_c ad_a ad_u ad_o ad_m : Nat → Nat) (ad_q calls : Nat) (w : va_W) : Prop := ∃ (R : Nat) (h_rolls : Nat → Option Nat) (g : Nat → va_W) (p_pressure : Int32) (p_sounding : Int32) (p_muted : Int32) (c_pitches : Nat → Int32) (c_steps : Nat → Int32) (c_size : Int32) (a_notePitches : Nat → Int32) (a_noteSteps : Nat → Int32) (a_noteOfItem : Nat → Int32) (a_restCost : Nat → Int32) (a_notes : Int32) (a_items : Int32) (a_pairs : Int32) (a_pitchesDiffer : Int32) (a_stepsDiffer : Int32) (u_least : Nat → Int32) (u_greatest : Nat → Int32) (u_sights : Int32) (o_copies : Nat → Int32) (o_days : Nat → Int32) (o_places : Nat → Int32) (o_toldOn : Nat → Int32) (o_size : Int32) (o_today : Int32) (o_lineOfCopy : Nat → Int32) (m_thrown : Int32) (m_pitch : Nat → Int32) (m_first : Nat → Int32) (m_length : Nat → Int32) (m_marks : Nat → Int32) (m_markStep : Nat → Int32) (m_markTicks : Nat → Int32) (m_table : Nat → Int32) (m_order : Nat → Int32) (m_many : Int32) (m_heard : Int32) (m_pressed : Int32) (m_silents : Int32) (m_items : Int32) (m_itemPitch : Nat → Int32) (m_itemStep : Nat → Int32) (m_ends : Nat → Int32) (m_noteOf : Nat → Int32) (m_cost : Int32) (m_extra : Int32) (m_slotOf : Nat → Int32) (m_sights : Int32) (m_sightCopy : Nat → Int32) (m_sightPitch : Nat → Int32) (m_isFaulty : Nat → Int32) (m_least : Int32) (m_greatest : Int32) (m_lines : Int32) (m_lineCopy : Nat → Int32) (m_lineDay : Nat → Int32) (m_linePlace : Nat → Int32) (m_lineTold : Nat → Int32) (m_now : Int32) (f : Nat → Int64), R ≤ 6 ∧ IR cI cZ cR R g h_rolls m_pitch m_first m_length m_marks m_markStep m_markTicks ∧ SC c_pitches c_steps c_size m_itemPitch m_itemStep m_items ∧ PU u_least u_greatest u_sights m_sights m_sightCopy m_sightPitch m_isFaulty ∧ PO calls o_copies o_days o_places o_toldOn o_size o_today m_lines m_lineCopy m_lineDay m_linePlace m_lineTold m_now ∧ w = w_H cI cZ cR ad_h (ad_p 0) (ad_c 0) (ad_a 0) (ad_u 0) (ad_o 0) h_rolls (iI R) ++ w_P cI cZ cR ad_p p_pressure p_sounding p_muted ++ w_S cI cZ cR ad_c c_pitches c_steps c_size ++ w_A cI cZ cR ad_a a_notePitches a_noteSteps a_noteOfItem a_restCost a_notes a_items a_pairs a_pitchesDiffer a_stepsDiffer ++ w_U cI cZ cR ad_u u_least u_greatest u_sights ++ w_O cI cZ cR ad_o o_copies o_days o_places o_toldOn o_size o_today o_lineOfCopy ++ w_M cI cZ cR ad_m m_thrown (iI R) m_pitch m_first m_length m_marks m_markStep m_markTicks m_table m_order m_many m_heard m_pressed m_silents m_items m_itemPitch m_itemStep m_ends m_noteOf m_cost m_extra m_slotOf m_sights m_sightCopy m_sightPitch m_isFaulty m_least m_greatest m_lines m_lineCopy m_lineDay m_linePlace m_lineTold m_now ++ w_T cJ ad_q f ++ wRx g 6
def LK (p : Program) (l : Launch) (e : Env) (s : State) (m : MethodId) (below : List Frame) (meth : Method) (c : Code) (Q : State → Prop) (b : Nat) (D : va_G) (cI cZ cR cJ : ClassId) (ad_h ad_p ad_c ad_a ad_u ad_o ad_m : Nat → Nat) (ad_q calls i cells slots : Nat) : Prop := ∀ (w : va_W) (H : Heap) (locs : List Loc) (ls : Array Slot), Iv cI cZ cR cJ ad_h ad_p ad_c ad_a ad_u ad_o ad_m ad_q (calls + 1) w → va_P D vwCl w H → va_D (LA s) w → va_S (LA s) s.heap H locs → lv_has ls 7 [(0, .ref b), (1, .ref (ad_h 0)), (2, .ref (ad_m 0)), (3, .ref ad_q), (4, .int (nI i))] → W p l e room_1 s m #[Value.ref b] below meth c H locs (cells + 8) (slots + 1200) Q (F0 m 1129 ls [])
theorem Iv_mk {cI cZ cR cJ : ClassId} {ad_h ad_p ad_c ad_a ad_u ad_o ad_m : Nat → Nat} {ad_q calls : Nat} (R : Nat) (h_rolls : Nat → Option Nat) (g : Nat → va_W) (p_pressure : Int32) (p_sounding : Int32) (p_muted : Int32) (c_pitches : Nat → Int32) (c_steps : Nat → Int32) (c_size : Int32) (a_notePitches : Nat → Int32) (a_noteSteps : Nat → Int32) (a_noteOfItem : Nat → Int32) (a_restCost : Nat → Int32) (a_notes : Int32) (a_items : Int32) (a_pairs : Int32) (a_pitchesDiffer : Int32) (a_stepsDiffer : Int32) (u_least : Nat → Int32) (u_greatest : Nat → Int32) (u_sights : Int32) (o_copies : Nat → Int32) (o_days : Nat → Int32) (o_places : Nat → Int32) (o_toldOn : Nat → Int32) (o_size : Int32) (o_today : Int32) (o_lineOfCopy : Nat → Int32) (m_thrown : Int32) (m_pitch : Nat → Int32) (m_first : Nat → Int32) (m_length : Nat → Int32) (m_marks : Nat → Int32) (m_markStep : Nat → Int32) (m_markTicks : Nat → Int32) (m_table : Nat → Int32) (m_order : Nat → Int32) (m_many : Int32) (m_heard : Int32) (m_pressed : Int32) (m_silents : Int32) (m_items : Int32) (m_itemPitch : Nat → Int32) (m_itemStep : Nat → Int32) (m_ends : Nat → Int32) (m_noteOf : Nat → Int32) (m_cost : Int32) (m_extra : Int32) (m_slotOf : Nat → Int32) (m_sights : Int32) (m_sightCopy : Nat → Int32) (m_sightPitch : Nat → Int32) (m_isFaulty : Nat → Int32) (m_least : Int32) (m_greatest : Int32) (m_lines : Int32) (m_lineCopy : Nat → Int32) (m_lineDay : Nat → Int32) (m_linePlace : Nat → Int32) (m_lineTold : Nat → Int32) (m_now : Int32) (f : Nat → Int64) (hR : R ≤ 6) (hIR : IR cI cZ cR R g h_rolls m_pitch m_first m_length m_marks m_markStep m_markTicks) (hSc : SC c_pitches c_steps c_size m_itemPitch m_itemStep m_items) (hPu : PU u_least u_greatest u_sights m_sights m_sightCopy m_sightPitch m_isFaulty) (hPo : PO calls o_copies o_days o_places o_toldOn o_size o_today m_lines m_lineCopy m_lineDay m_linePlace m_lineTold m_now) : Iv cI cZ cR cJ ad_h ad_p ad_c ad_a ad_u ad_o ad_m ad_q calls (w_H cI cZ cR ad_h (ad_p 0) (ad_c 0) (ad_a 0) (ad_u 0) (ad_o 0) h_rolls (iI R) ++ w_P cI cZ cR ad_p p_pressure p_sounding p_muted ++ w_S cI cZ cR ad_c c_pitches c_steps c_size ++ w_A cI cZ cR ad_a a_notePitches a_noteSteps a_noteOfItem a_restCost a_notes a_items a_pairs a_pitchesDiffer a_stepsDiffer ++ w_U cI cZ cR ad_u u_least u_greatest u_sights ++ w_O cI cZ cR ad_o o_copies o_days o_places o_toldOn o_size o_today o_lineOfCopy ++ w_M cI cZ cR ad_m m_thrown (iI R) m_pitch m_first m_length m_marks m_markStep m_markTicks m_table m_order m_many m_heard m_pressed m_silents m_items m_itemPitch m_itemStep m_ends m_noteOf m_cost m_extra m_slotOf m_sights m_sightCopy m_sightPitch m_isFaulty m_least m_greatest m_lines m_lineCopy m_lineDay m_linePlace m_lineTold m_now ++ w_T cJ ad_q f ++ wRx g 6) :=
  ⟨R, h_rolls, g, p_pressure, p_sounding, p_muted, c_pitches, c_steps, c_size, a_notePitches, a_noteSteps, a_noteOfItem, a_restCost, a_notes, a_items, a_pairs, a_pitchesDiffer, a_stepsDiffer, u_least, u_greatest, u_sights, o_copies, o_days, o_places, o_toldOn, o_size, o_today, o_lineOfCopy, m_thrown, m_pitch, m_first, m_length, m_marks, m_markStep, m_markTicks, m_table, m_order, m_many, m_heard, m_pressed, m_silents, m_items, m_itemPitch, m_itemStep, m_ends, m_noteOf, m_cost, m_extra, m_slotOf, m_sights, m_sightCopy, m_sightPitch, m_isFaulty, m_least, m_greatest, m_lines, m_lineCopy, m_lineDay, m_linePlace, m_lineTold, m_now, f, hR, hIR, hSc, hPu, hPo, rfl⟩
theorem Iv_el {cI cZ cR cJ : ClassId} {ad_h ad_p ad_c ad_a ad_u ad_o ad_m : Nat → Nat} {ad_q calls : Nat} {w : va_W} {Z : va_W → Prop} (h : Iv cI cZ cR cJ ad_h ad_p ad_c ad_a ad_u ad_o ad_m ad_q calls w) (k : ∀ (R : Nat) (h_rolls : Nat → Option Nat) (g : Nat → va_W) (p_pressure : Int32) (p_sounding : Int32) (p_muted : Int32) (c_pitches : Nat → Int32) (c_steps : Nat → Int32) (c_size : Int32) (a_notePitches : Nat → Int32) (a_noteSteps : Nat → Int32) (a_noteOfItem : Nat → Int32) (a_restCost : Nat → Int32) (a_notes : Int32) (a_items : Int32) (a_pairs : Int32) (a_pitchesDiffer : Int32) (a_stepsDiffer : Int32) (u_least : Nat → Int32) (u_greatest : Nat → Int32) (u_sights : Int32) (o_copies : Nat → Int32) (o_days : Nat → Int32) (o_places : Nat → Int32) (o_toldOn : Nat → Int32) (o_size : Int32) (o_today : Int32) (o_lineOfCopy : Nat → Int32) (m_thrown : Int32) (m_pitch : Nat → Int32) (m_first : Nat → Int32) (m_length : Nat → Int32) (m_marks : Nat → Int32) (m_markStep : Nat → Int32) (m_markTicks : Nat → Int32) (m_table : Nat → Int32) (m_order : Nat → Int32) (m_many : Int32) (m_heard : Int32) (m_pressed : Int32) (m_silents : Int32) (m_items : Int32) (m_itemPitch : Nat → Int32) (m_itemStep : Nat → Int32) (m_ends : Nat → Int32) (m_noteOf : Nat → Int32) (m_cost : Int32) (m_extra : Int32) (m_slotOf : Nat → Int32) (m_sights : Int32) (m_sightCopy : Nat → Int32) (m_sightPitch : Nat → Int32) (m_isFaulty : Nat → Int32) (m_least : Int32) (m_greatest : Int32) (m_lines : Int32) (m_lineCopy : Nat → Int32) (m_lineDay : Nat → Int32) (m_linePlace : Nat → Int32) (m_lineTold : Nat → Int32) (m_now : Int32) (f : Nat → Int64) (hR : R ≤ 6) (hIR : IR cI cZ cR R g h_rolls m_pitch m_first m_length m_marks m_markStep m_markTicks) (hSc : SC c_pitches c_steps c_size m_itemPitch m_itemStep m_items) (hPu : PU u_least u_greatest u_sights m_sights m_sightCopy m_sightPitch m_isFaulty) (hPo : PO calls o_copies o_days o_places o_toldOn o_size o_today m_lines m_lineCopy m_lineDay m_linePlace m_lineTold m_now), Z (w_H cI cZ cR ad_h (ad_p 0) (ad_c 0) (ad_a 0) (ad_u 0) (ad_o 0) h_rolls (iI R) ++ w_P cI cZ cR ad_p p_pressure p_sounding p_muted ++ w_S cI cZ cR ad_c c_pitches c_steps c_size ++ w_A cI cZ cR ad_a a_notePitches a_noteSteps a_noteOfItem a_restCost a_notes a_items a_pairs a_pitchesDiffer a_stepsDiffer ++ w_U cI cZ cR ad_u u_least u_greatest u_sights ++ w_O cI cZ cR ad_o o_copies o_days o_places o_toldOn o_size o_today o_lineOfCopy ++ w_M cI cZ cR ad_m m_thrown (iI R) m_pitch m_first m_length m_marks m_markStep m_markTicks m_table m_order m_many m_heard m_pressed m_silents m_items m_itemPitch m_itemStep m_ends m_noteOf m_cost m_extra m_slotOf m_sights m_sightCopy m_sightPitch m_isFaulty m_least m_greatest m_lines m_lineCopy m_lineDay m_linePlace m_lineTold m_now ++ w_T cJ ad_q f ++ wRx g 6)) : Z w := by
  obtain ⟨R, h_rolls, g, p_pressure, p_sounding, p_muted, c_pitches, c_steps, c_size, a_notePitches, a_noteSteps, a_noteOfItem, a_restCost, a_notes, a_items, a_pairs, a_pitchesDiffer, a_stepsDiffer, u_least, u_greatest, u_sights, o_copies, o_days, o_places, o_toldOn, o_size, o_today, o_lineOfCopy, m_thrown, m_pitch, m_first, m_length, m_marks, m_markStep, m_markTicks, m_table, m_order, m_many, m_heard, m_pressed, m_silents, m_items, m_itemPitch, m_itemStep, m_ends, m_noteOf, m_cost, m_extra, m_slotOf, m_sights, m_sightCopy, m_sightPitch, m_isFaulty, m_least, m_greatest, m_lines, m_lineCopy, m_lineDay, m_linePlace, m_lineTold, m_now, f, hR, hIR, hSc, hPu, hPo, e⟩ := h
  rw [e]
  exact k R h_rolls g p_pressure p_sounding p_muted c_pitches c_steps c_size a_notePitches a_noteSteps a_noteOfItem a_restCost a_notes a_items a_pairs a_pitchesDiffer a_stepsDiffer u_least u_greatest u_sights o_copies o_days o_places o_toldOn o_size o_today o_lineOfCopy m_thrown m_pitch m_first m_length m_marks m_markStep m_markTicks m_table m_order m_many m_heard m_pressed m_silents m_items m_itemPitch m_itemStep m_ends m_noteOf m_cost m_extra m_slotOf m_sights m_sightCopy m_sightPitch m_isFaulty m_least m_greatest m_lines m_lineCopy m_lineDay m_linePlace m_lineTold m_now f hR hIR hSc hPu hPo
theorem Iv_1 {cI cZ cR cJ : ClassId} {ad_h ad_p ad_c ad_a ad_u ad_o ad_m : Nat → Nat} {ad_q calls : Nat} {w : va_W} (h : Iv cI cZ cR cJ ad_h ad_p ad_c ad_a ad_u ad_o ad_m ad_q calls w) : Iv cI cZ cR cJ ad_h ad_p ad_c ad_a ad_u ad_o ad_m ad_q (calls + 1) w :=
  Iv_el (Z := fun w => Iv cI cZ cR cJ ad_h ad_p ad_c ad_a ad_u ad_o ad_m ad_q (calls + 1) w) h (fun R h_rolls g p_pressure p_sounding p_muted c_pitches c_steps c_size a_notePitches a_noteSteps a_noteOfItem a_restCost a_notes a_items a_pairs a_pitchesDiffer a_stepsDiffer u_least u_greatest u_sights o_copies o_days o_places o_toldOn o_size o_today o_lineOfCopy m_thrown m_pitch m_first m_length m_marks m_markStep m_markTicks m_table m_order m_many m_heard m_pressed m_silents m_items m_itemPitch m_itemStep m_ends m_noteOf m_cost m_extra m_slotOf m_sights m_sightCopy m_sightPitch m_isFaulty m_least m_greatest m_lines m_lineCopy m_lineDay m_linePlace m_lineTold m_now f hR hIR hSc hPu hPo => Iv_mk R h_rolls g p_pressure p_sounding p_muted c_pitches c_steps c_size a_notePitches a_noteSteps a_noteOfItem a_restCost a_notes a_items a_pairs a_pitchesDiffer a_stepsDiffer u_least u_greatest u_sights o_copies o_days o_places o_toldOn o_size o_today o_lineOfCopy m_thrown m_pitch m_first m_length m_marks m_markStep m_markTicks m_table m_order m_many m_heard m_pressed m_silents m_items m_itemPitch m_itemStep m_ends m_noteOf m_cost m_extra m_slotOf m_sights m_sightCopy m_sightPitch m_isFaulty m_least m_greatest m_lines m_lineCopy m_lineDay m_linePlace m_lineTold m_now f hR hIR hSc hPu (PO_1 hPo))
variable {p : Program} {l : Launch} {e : Env} {s : State} {m : MethodId} {below : List Frame} {meth : Method} {c : Code} {Q : State → Prop} {b L : Nat} {xs : Nat → Int32} {D : va_G} {cI cZ cR cJ : ClassId} {ad_h ad_p ad_c ad_a ad_u ad_o ad_m : Nat → Nat} {ad_q : Nat} {calls i cells slots : Nat} {H : Heap} {locs : List Loc} {ls : Array Slot}
theorem sl_arg {rest : List Value} {c1 s1 pc kc : Nat} {kI : Int} (C : LC p l s m meth c b L xs D cI cZ cR cJ) (hi : i + 5 ≤ L) (hL : L ≤ 2560) (hS : va_S (LA s) s.heap H locs) (hl : lv_has ls 7 [(0, .ref b), (1, .ref (ad_h 0)), (2, .ref (ad_m 0)), (3, .ref ad_q), (4, .int (nI i))]) (hk : kc ≤ 4) (hv : Int32.ofInt kI = nI kc) (d0 : decode cL_law pc = .ok (.aload_n 0, 1)) (d1 : decode cL_law (pc + 1) = .ok (.iload 4, 2)) (d2 : decode cL_law (pc + 3) = .ok (.iconst kI, 1)) (d3 : decode cL_law (pc + 4) = .ok (.iadd, 1)) (d4 : decode cL_law (pc + 5) = .ok (.iaload, 1))
    (kk : W p l e room_1 s m #[Value.ref b] below meth c H locs c1 s1 Q (F0 m (pc + 6) ls (.int (xs (i + kc)) :: rest))) : W p l e room_1 s m #[Value.ref b] below meth c H locs c1 s1 Q (F0 m pc ls rest) := by
  obtain ⟨hx, hb, hr, hml, hown, hts, hX, hbl, hlocks, hK, hN, hlt, hz⟩ := id C
  refine lv_aload_n hx hb d0 rfl (lv_at hl 0 rfl) ?_
  refine lv_iload hx hb d1 (lv_at hl 4 rfl) ?_
  refine lv_iconst (v := nI kc) hx hb d2 hv ?_
  refine lv_iadd hx hb d3 ?_
  rw [nI_add]
  refine va_sld hx hb hX hbl (Nat.not_le.mpr hbl) hS (vp_in_nI (by omega) (by omega)) d4 ?_
  rw [nI_clamp (by omega)]
  exact kk
theorem sl_bool {rest : List Value} {c1 s1 pc : Nat} (C : LC p l s m meth c b L xs D cI cZ cR cJ) (hi : i + 5 ≤ L) (hL : L ≤ 2560) (hS : va_S (LA s) s.heap H locs) (hl : lv_has ls 7 [(0, .ref b), (1, .ref (ad_h 0)), (2, .ref (ad_m 0)), (3, .ref ad_q), (4, .int (nI i))]) (d0 : decode cL_law pc = .ok (.aload_n 0, 1)) (d1 : decode cL_law (pc + 1) = .ok (.iload 4, 2)) (d2 : decode cL_law (pc + 3) = .ok (.iconst 3, 1)) (d3 : decode cL_law (pc + 4) = .ok (.iadd, 1)) (d4 : decode cL_law (pc + 5) = .ok (.iaload, 1)) (d6 : decode cL_law (pc + 6) = .ok (.ifCond .eq 7, 3)) (d9 : decode cL_law (pc + 9) = .ok (.iconst 1, 1)) (d10 : decode cL_law (pc + 10) = .ok (.goto 4, 3)) (d13 : decode cL_law (pc + 13) = .ok (.iconst 0, 1))
    (kk : W p l e room_1 s m #[Value.ref b] below meth c H locs c1 s1 Q (F0 m (pc + 14) ls (.int (bi (decide (¬ xs (i + 3) = 0))) :: rest))) : W p l e room_1 s m #[Value.ref b] below meth c H locs c1 s1 Q (F0 m pc ls rest) := by
  obtain ⟨hx, hb, hr, hml, hown, hts, hX, hbl, hlocks, hK, hN, hlt, hz⟩ := id C
  refine sl_arg (kc := 3) C hi hL hS hl (by decide) (by decide) d0 d1 d2 d3 d4 ?_
  refine lv_if_eq (tgt := pc + 13) hx hb d6 (by omega) (fun hc => ?_) (fun hc => ?_)
  · refine lv_iconst (v := 0) hx hb d13 (by decide) ?_
    have e9 : bi (decide (¬ xs (i + 3) = 0)) = 0 := by rw [hc]; rfl
    rw [e9] at kk
    exact kk
  · refine lv_iconst (v := 1) hx hb d9 (by decide) ?_
    refine lv_goto hx hb d10 (tgt := pc + 14) (by omega) ?_
    have e9 : bi (decide (¬ xs (i + 3) = 0)) = 1 := by rw [decide_eq_true hc]; rfl
    rw [e9] at kk
    exact kk
theorem pmA_h {h p s a u o m t x : va_W} : (h ++ p ++ s ++ a ++ u ++ o ++ m ++ t ++ x).Perm ((h) ++ (p ++ s ++ a ++ u ++ o ++ m ++ t ++ x)) := by
  have h1 : (h ++ (p ++ (s ++ (a ++ (u ++ (o ++ (m ++ (t ++ (x ++ []))))))))).Perm (h ++ (p ++ (s ++ (a ++ (u ++ (o ++ (m ++ (t ++ (x ++ []))))))))) := pm_idx [h, p, s, a, u, o, m, t, x] [0, 1, 2, 3, 4, 5, 6, 7, 8] (show [0, 1, 2, 3, 4, 5, 6, 7, 8].Perm (List.range 9) by decide)
  simp only [List.append_assoc, List.append_nil] at h1 ⊢
  exact h1
theorem pmC_h {h p s a u o m t x : va_W} : (h ++ p ++ s ++ a ++ u ++ o ++ m ++ t ++ x).Perm (((p ++ s ++ a ++ u ++ o ++ t ++ x) ++ (h)) ++ m) := by
  have h1 : (h ++ (p ++ (s ++ (a ++ (u ++ (o ++ (m ++ (t ++ (x ++ []))))))))).Perm (p ++ (s ++ (a ++ (u ++ (o ++ (t ++ (x ++ (h ++ (m ++ []))))))))) := pm_idx [h, p, s, a, u, o, m, t, x] [1, 2, 3, 4, 5, 7, 8, 0, 6] (show [1, 2, 3, 4, 5, 7, 8, 0, 6].Perm (List.range 9) by decide)
  simp only [List.append_assoc, List.append_nil] at h1 ⊢
  exact h1
theorem pmB_h {p s a u o m t x v : va_W} : ((p ++ s ++ a ++ u ++ o ++ m ++ t ++ x) ++ v).Perm (m ++ ((p ++ s ++ a ++ u ++ o ++ t ++ x) ++ v)) := by
  have h1 : (p ++ (s ++ (a ++ (u ++ (o ++ (m ++ (t ++ (x ++ (v ++ []))))))))).Perm (m ++ (p ++ (s ++ (a ++ (u ++ (o ++ (t ++ (x ++ (v ++ []))))))))) := pm_idx [p, s, a, u, o, m, t, x, v] [5, 0, 1, 2, 3, 4, 6, 7, 8] (show [5, 0, 1, 2, 3, 4, 6, 7, 8].Perm (List.range 9) by decide)
  simp only [List.append_assoc, List.append_nil] at h1 ⊢
  exact h1
theorem pmA_hr {h p s a u o m t x r y : va_W} (hx : x.Perm (r ++ y)) : (h ++ p ++ s ++ a ++ u ++ o ++ m ++ t ++ x).Perm ((h ++ r) ++ (p ++ s ++ a ++ u ++ o ++ m ++ t ++ y)) := by
  have h1 : (h ++ (p ++ (s ++ (a ++ (u ++ (o ++ (m ++ (t ++ (r ++ (y ++ [])))))))))).Perm (h ++ (r ++ (p ++ (s ++ (a ++ (u ++ (o ++ (m ++ (t ++ (y ++ [])))))))))) := pm_idx [h, p, s, a, u, o, m, t, r, y] [0, 8, 1, 2, 3, 4, 5, 6, 7, 9] (show [0, 8, 1, 2, 3, 4, 5, 6, 7, 9].Perm (List.range 10) by decide)
  have h2 : (h ++ p ++ s ++ a ++ u ++ o ++ m ++ t ++ x).Perm ((h ++ p ++ s ++ a ++ u ++ o ++ m ++ t) ++ (r ++ y)) := hx.append_left (h ++ p ++ s ++ a ++ u ++ o ++ m ++ t)
  simp only [List.append_assoc, List.append_nil] at h1 h2 ⊢
  exact h2.trans h1
theorem pmC_hr {h p s a u o m t x r y : va_W} (hx : x.Perm (r ++ y)) : (h ++ p ++ s ++ a ++ u ++ o ++ m ++ t ++ x).Perm (((p ++ s ++ a ++ u ++ o ++ t ++ y) ++ (h ++ r)) ++ m) := by
  have h1 : (h ++ (p ++ (s ++ (a ++ (u ++ (o ++ (m ++ (t ++ (r ++ (y ++ [])))))))))).Perm (p ++ (s ++ (a ++ (u ++ (o ++ (t ++ (y ++ (h ++ (r ++ (m ++ [])))))))))) := pm_idx [h, p, s, a, u, o, m, t, r, y] [1, 2, 3, 4, 5, 7, 9, 0, 8, 6] (show [1, 2, 3, 4, 5, 7, 9, 0, 8, 6].Perm (List.range 10) by decide)
  have h2 : (h ++ p ++ s ++ a ++ u ++ o ++ m ++ t ++ x).Perm ((h ++ p ++ s ++ a ++ u ++ o ++ m ++ t) ++ (r ++ y)) := hx.append_left (h ++ p ++ s ++ a ++ u ++ o ++ m ++ t)
  simp only [List.append_assoc, List.append_nil] at h1 h2 ⊢
  exact h2.trans h1
theorem pmB_hr {p s a u o m t y v : va_W} : ((p ++ s ++ a ++ u ++ o ++ m ++ t ++ y) ++ v).Perm (m ++ ((p ++ s ++ a ++ u ++ o ++ t ++ y) ++ v)) := by
  have h1 : (p ++ (s ++ (a ++ (u ++ (o ++ (m ++ (t ++ (y ++ (v ++ []))))))))).Perm (m ++ (p ++ (s ++ (a ++ (u ++ (o ++ (t ++ (y ++ (v ++ []))))))))) := pm_idx [p, s, a, u, o, m, t, y, v] [5, 0, 1, 2, 3, 4, 6, 7, 8] (show [5, 0, 1, 2, 3, 4, 6, 7, 8].Perm (List.range 9) by decide)
  simp only [List.append_assoc, List.append_nil] at h1 ⊢
  exact h1
theorem pmA_hp {h p s a u o m t x : va_W} : (h ++ p ++ s ++ a ++ u ++ o ++ m ++ t ++ x).Perm ((h ++ p) ++ (s ++ a ++ u ++ o ++ m ++ t ++ x)) := by
  have h1 : (h ++ (p ++ (s ++ (a ++ (u ++ (o ++ (m ++ (t ++ (x ++ []))))))))).Perm (h ++ (p ++ (s ++ (a ++ (u ++ (o ++ (m ++ (t ++ (x ++ []))))))))) := pm_idx [h, p, s, a, u, o, m, t, x] [0, 1, 2, 3, 4, 5, 6, 7, 8] (show [0, 1, 2, 3, 4, 5, 6, 7, 8].Perm (List.range 9) by decide)
  simp only [List.append_assoc, List.append_nil] at h1 ⊢
  exact h1
theorem pmC_hp {h p s a u o m t x : va_W} : (h ++ p ++ s ++ a ++ u ++ o ++ m ++ t ++ x).Perm (((s ++ a ++ u ++ o ++ t ++ x) ++ (h ++ p)) ++ m) := by
  have h1 : (h ++ (p ++ (s ++ (a ++ (u ++ (o ++ (m ++ (t ++ (x ++ []))))))))).Perm (s ++ (a ++ (u ++ (o ++ (t ++ (x ++ (h ++ (p ++ (m ++ []))))))))) := pm_idx [h, p, s, a, u, o, m, t, x] [2, 3, 4, 5, 7, 8, 0, 1, 6] (show [2, 3, 4, 5, 7, 8, 0, 1, 6].Perm (List.range 9) by decide)
  simp only [List.append_assoc, List.append_nil] at h1 ⊢
  exact h1
theorem pmB_hp {s a u o m t x v : va_W} : ((s ++ a ++ u ++ o ++ m ++ t ++ x) ++ v).Perm (m ++ ((s ++ a ++ u ++ o ++ t ++ x) ++ v)) := by
  have h1 : (s ++ (a ++ (u ++ (o ++ (m ++ (t ++ (x ++ (v ++ [])))))))).Perm (m ++ (s ++ (a ++ (u ++ (o ++ (t ++ (x ++ (v ++ [])))))))) := pm_idx [s, a, u, o, m, t, x, v] [4, 0, 1, 2, 3, 5, 6, 7] (show [4, 0, 1, 2, 3, 5, 6, 7].Perm (List.range 8) by decide)
  simp only [List.append_assoc, List.append_nil] at h1 ⊢
  exact h1
theorem pmA_hpr {h p s a u o m t x r y : va_W} (hx : x.Perm (r ++ y)) : (h ++ p ++ s ++ a ++ u ++ o ++ m ++ t ++ x).Perm ((h ++ p ++ r) ++ (s ++ a ++ u ++ o ++ m ++ t ++ y)) := by
  have h1 : (h ++ (p ++ (s ++ (a ++ (u ++ (o ++ (m ++ (t ++ (r ++ (y ++ [])))))))))).Perm (h ++ (p ++ (r ++ (s ++ (a ++ (u ++ (o ++ (m ++ (t ++ (y ++ [])))))))))) := pm_idx [h, p, s, a, u, o, m, t, r, y] [0, 1, 8, 2, 3, 4, 5, 6, 7, 9] (show [0, 1, 8, 2, 3, 4, 5, 6, 7, 9].Perm (List.range 10) by decide)
  have h2 : (h ++ p ++ s ++ a ++ u ++ o ++ m ++ t ++ x).Perm ((h ++ p ++ s ++ a ++ u ++ o ++ m ++ t) ++ (r ++ y)) := hx.append_left (h ++ p ++ s ++ a ++ u ++ o ++ m ++ t)
  simp only [List.append_assoc, List.append_nil] at h1 h2 ⊢
  exact h2.trans h1
theorem pmC_hpr {h p s a u o m t x r y : va_W} (hx : x.Perm (r ++ y)) : (h ++ p ++ s ++ a ++ u ++ o ++ m ++ t ++ x).Perm (((s ++ a ++ u ++ o ++ t ++ y) ++ (h ++ p ++ r)) ++ m) := by
  have h1 : (h ++ (p ++ (s ++ (a ++ (u ++ (o ++ (m ++ (t ++ (r ++ (y ++ [])))))))))).Perm (s ++ (a ++ (u ++ (o ++ (t ++ (y ++ (h ++ (p ++ (r ++ (m ++ [])))))))))) := pm_idx [h, p, s, a, u, o, m, t, r, y] [2, 3, 4, 5, 7, 9, 0, 1, 8, 6] (show [2, 3, 4, 5, 7, 9, 0, 1, 8, 6].Perm (List.range 10) by decide)
  have h2 : (h ++ p ++ s ++ a ++ u ++ o ++ m ++ t ++ x).Perm ((h ++ p ++ s ++ a ++ u ++ o ++ m ++ t) ++ (r ++ y)) := hx.append_left (h ++ p ++ s ++ a ++ u ++ o ++ m ++ t)
  simp only [List.append_assoc, List.append_nil] at h1 h2 ⊢
  exact h2.trans h1
theorem pmB_hpr {s a u o m t y v : va_W} : ((s ++ a ++ u ++ o ++ m ++ t ++ y) ++ v).Perm (m ++ ((s ++ a ++ u ++ o ++ t ++ y) ++ v)) := by
  have h1 : (s ++ (a ++ (u ++ (o ++ (m ++ (t ++ (y ++ (v ++ [])))))))).Perm (m ++ (s ++ (a ++ (u ++ (o ++ (t ++ (y ++ (v ++ [])))))))) := pm_idx [s, a, u, o, m, t, y, v] [4, 0, 1, 2, 3, 5, 6, 7] (show [4, 0, 1, 2, 3, 5, 6, 7].Perm (List.range 8) by decide)
  simp only [List.append_assoc, List.append_nil] at h1 ⊢
  exact h1
theorem pmA_hs {h p s a u o m t x : va_W} : (h ++ p ++ s ++ a ++ u ++ o ++ m ++ t ++ x).Perm ((h ++ s) ++ (p ++ a ++ u ++ o ++ m ++ t ++ x)) := by
  have h1 : (h ++ (p ++ (s ++ (a ++ (u ++ (o ++ (m ++ (t ++ (x ++ []))))))))).Perm (h ++ (s ++ (p ++ (a ++ (u ++ (o ++ (m ++ (t ++ (x ++ []))))))))) := pm_idx [h, p, s, a, u, o, m, t, x] [0, 2, 1, 3, 4, 5, 6, 7, 8] (show [0, 2, 1, 3, 4, 5, 6, 7, 8].Perm (List.range 9) by decide)
  simp only [List.append_assoc, List.append_nil] at h1 ⊢
  exact h1
theorem pmC_hs {h p s a u o m t x : va_W} : (h ++ p ++ s ++ a ++ u ++ o ++ m ++ t ++ x).Perm (((p ++ a ++ u ++ o ++ t ++ x) ++ (h ++ s)) ++ m) := by
  have h1 : (h ++ (p ++ (s ++ (a ++ (u ++ (o ++ (m ++ (t ++ (x ++ []))))))))).Perm (p ++ (a ++ (u ++ (o ++ (t ++ (x ++ (h ++ (s ++ (m ++ []))))))))) := pm_idx [h, p, s, a, u, o, m, t, x] [1, 3, 4, 5, 7, 8, 0, 2, 6] (show [1, 3, 4, 5, 7, 8, 0, 2, 6].Perm (List.range 9) by decide)
  simp only [List.append_assoc, List.append_nil] at h1 ⊢
  exact h1
theorem pmB_hs {p a u o m t x v : va_W} : ((p ++ a ++ u ++ o ++ m ++ t ++ x) ++ v).Perm (m ++ ((p ++ a ++ u ++ o ++ t ++ x) ++ v)) := by
  have h1 : (p ++ (a ++ (u ++ (o ++ (m ++ (t ++ (x ++ (v ++ [])))))))).Perm (m ++ (p ++ (a ++ (u ++ (o ++ (t ++ (x ++ (v ++ [])))))))) := pm_idx [p, a, u, o, m, t, x, v] [4, 0, 1, 2, 3, 5, 6, 7] (show [4, 0, 1, 2, 3, 5, 6, 7].Perm (List.range 8) by decide)
  simp only [List.append_assoc, List.append_nil] at h1 ⊢
  exact h1
theorem pmA_hsa {h p s a u o m t x : va_W} : (h ++ p ++ s ++ a ++ u ++ o ++ m ++ t ++ x).Perm ((h ++ s ++ a) ++ (p ++ u ++ o ++ m ++ t ++ x)) := by
  have h1 : (h ++ (p ++ (s ++ (a ++ (u ++ (o ++ (m ++ (t ++ (x ++ []))))))))).Perm (h ++ (s ++ (a ++ (p ++ (u ++ (o ++ (m ++ (t ++ (x ++ []))))))))) := pm_idx [h, p, s, a, u, o, m, t, x] [0, 2, 3, 1, 4, 5, 6, 7, 8] (show [0, 2, 3, 1, 4, 5, 6, 7, 8].Perm (List.range 9) by decide)
  simp only [List.append_assoc, List.append_nil] at h1 ⊢
  exact h1
theorem pmC_hsa {h p s a u o m t x : va_W} : (h ++ p ++ s ++ a ++ u ++ o ++ m ++ t ++ x).Perm (((p ++ u ++ o ++ t ++ x) ++ (h ++ s ++ a)) ++ m) := by
  have h1 : (h ++ (p ++ (s ++ (a ++ (u ++ (o ++ (m ++ (t ++ (x ++ []))))))))).Perm (p ++ (u ++ (o ++ (t ++ (x ++ (h ++ (s ++ (a ++ (m ++ []))))))))) := pm_idx [h, p, s, a, u, o, m, t, x] [1, 4, 5, 7, 8, 0, 2, 3, 6] (show [1, 4, 5, 7, 8, 0, 2, 3, 6].Perm (List.range 9) by decide)
  simp only [List.append_assoc, List.append_nil] at h1 ⊢
  exact h1
theorem pmB_hsa {p u o m t x v : va_W} : ((p ++ u ++ o ++ m ++ t ++ x) ++ v).Perm (m ++ ((p ++ u ++ o ++ t ++ x) ++ v)) := by
  have h1 : (p ++ (u ++ (o ++ (m ++ (t ++ (x ++ (v ++ []))))))).Perm (m ++ (p ++ (u ++ (o ++ (t ++ (x ++ (v ++ []))))))) := pm_idx [p, u, o, m, t, x, v] [3, 0, 1, 2, 4, 5, 6] (show [3, 0, 1, 2, 4, 5, 6].Perm (List.range 7) by decide)
  simp only [List.append_assoc, List.append_nil] at h1 ⊢
  exact h1
theorem pmA_hsar {h p s a u o m t x r y : va_W} (hx : x.Perm (r ++ y)) : (h ++ p ++ s ++ a ++ u ++ o ++ m ++ t ++ x).Perm ((h ++ s ++ a ++ r) ++ (p ++ u ++ o ++ m ++ t ++ y)) := by
  have h1 : (h ++ (p ++ (s ++ (a ++ (u ++ (o ++ (m ++ (t ++ (r ++ (y ++ [])))))))))).Perm (h ++ (s ++ (a ++ (r ++ (p ++ (u ++ (o ++ (m ++ (t ++ (y ++ [])))))))))) := pm_idx [h, p, s, a, u, o, m, t, r, y] [0, 2, 3, 8, 1, 4, 5, 6, 7, 9] (show [0, 2, 3, 8, 1, 4, 5, 6, 7, 9].Perm (List.range 10) by decide)
  have h2 : (h ++ p ++ s ++ a ++ u ++ o ++ m ++ t ++ x).Perm ((h ++ p ++ s ++ a ++ u ++ o ++ m ++ t) ++ (r ++ y)) := hx.append_left (h ++ p ++ s ++ a ++ u ++ o ++ m ++ t)
  simp only [List.append_assoc, List.append_nil] at h1 h2 ⊢
  exact h2.trans h1
theorem pmC_hsar {h p s a u o m t x r y : va_W} (hx : x.Perm (r ++ y)) : (h ++ p ++ s ++ a ++ u ++ o ++ m ++ t ++ x).Perm (((p ++ u ++ o ++ t ++ y) ++ (h ++ s ++ a ++ r)) ++ m) := by
  have h1 : (h ++ (p ++ (s ++ (a ++ (u ++ (o ++ (m ++ (t ++ (r ++ (y ++ [])))))))))).Perm (p ++ (u ++ (o ++ (t ++ (y ++ (h ++ (s ++ (a ++ (r ++ (m ++ [])))))))))) := pm_idx [h, p, s, a, u, o, m, t, r, y] [1, 4, 5, 7, 9, 0, 2, 3, 8, 6] (show [1, 4, 5, 7, 9, 0, 2, 3, 8, 6].Perm (List.range 10) by decide)
  have h2 : (h ++ p ++ s ++ a ++ u ++ o ++ m ++ t ++ x).Perm ((h ++ p ++ s ++ a ++ u ++ o ++ m ++ t) ++ (r ++ y)) := hx.append_left (h ++ p ++ s ++ a ++ u ++ o ++ m ++ t)
  simp only [List.append_assoc, List.append_nil] at h1 h2 ⊢
  exact h2.trans h1
theorem pmB_hsar {p u o m t y v : va_W} : ((p ++ u ++ o ++ m ++ t ++ y) ++ v).Perm (m ++ ((p ++ u ++ o ++ t ++ y) ++ v)) := by
  have h1 : (p ++ (u ++ (o ++ (m ++ (t ++ (y ++ (v ++ []))))))).Perm (m ++ (p ++ (u ++ (o ++ (t ++ (y ++ (v ++ []))))))) := pm_idx [p, u, o, m, t, y, v] [3, 0, 1, 2, 4, 5, 6] (show [3, 0, 1, 2, 4, 5, 6].Perm (List.range 7) by decide)
  simp only [List.append_assoc, List.append_nil] at h1 ⊢
  exact h1
theorem pmA_hu {h p s a u o m t x : va_W} : (h ++ p ++ s ++ a ++ u ++ o ++ m ++ t ++ x).Perm ((h ++ u) ++ (p ++ s ++ a ++ o ++ m ++ t ++ x)) := by
  have h1 : (h ++ (p ++ (s ++ (a ++ (u ++ (o ++ (m ++ (t ++ (x ++ []))))))))).Perm (h ++ (u ++ (p ++ (s ++ (a ++ (o ++ (m ++ (t ++ (x ++ []))))))))) := pm_idx [h, p, s, a, u, o, m, t, x] [0, 4, 1, 2, 3, 5, 6, 7, 8] (show [0, 4, 1, 2, 3, 5, 6, 7, 8].Perm (List.range 9) by decide)
  simp only [List.append_assoc, List.append_nil] at h1 ⊢
  exact h1
theorem pmC_hu {h p s a u o m t x : va_W} : (h ++ p ++ s ++ a ++ u ++ o ++ m ++ t ++ x).Perm (((p ++ s ++ a ++ o ++ t ++ x) ++ (h ++ u)) ++ m) := by
  have h1 : (h ++ (p ++ (s ++ (a ++ (u ++ (o ++ (m ++ (t ++ (x ++ []))))))))).Perm (p ++ (s ++ (a ++ (o ++ (t ++ (x ++ (h ++ (u ++ (m ++ []))))))))) := pm_idx [h, p, s, a, u, o, m, t, x] [1, 2, 3, 5, 7, 8, 0, 4, 6] (show [1, 2, 3, 5, 7, 8, 0, 4, 6].Perm (List.range 9) by decide)
  simp only [List.append_assoc, List.append_nil] at h1 ⊢
  exact h1
theorem pmB_hu {p s a o m t x v : va_W} : ((p ++ s ++ a ++ o ++ m ++ t ++ x) ++ v).Perm (m ++ ((p ++ s ++ a ++ o ++ t ++ x) ++ v)) := by
  have h1 : (p ++ (s ++ (a ++ (o ++ (m ++ (t ++ (x ++ (v ++ [])))))))).Perm (m ++ (p ++ (s ++ (a ++ (o ++ (t ++ (x ++ (v ++ [])))))))) := pm_idx [p, s, a, o, m, t, x, v] [4, 0, 1, 2, 3, 5, 6, 7] (show [4, 0, 1, 2, 3, 5, 6, 7].Perm (List.range 8) by decide)
  simp only [List.append_assoc, List.append_nil] at h1 ⊢
  exact h1
theorem pmA_ho {h p s a u o m t x : va_W} : (h ++ p ++ s ++ a ++ u ++ o ++ m ++ t ++ x).Perm ((h ++ o) ++ (p ++ s ++ a ++ u ++ m ++ t ++ x)) := by
  have h1 : (h ++ (p ++ (s ++ (a ++ (u ++ (o ++ (m ++ (t ++ (x ++ []))))))))).Perm (h ++ (o ++ (p ++ (s ++ (a ++ (u ++ (m ++ (t ++ (x ++ []))))))))) := pm_idx [h, p, s, a, u, o, m, t, x] [0, 5, 1, 2, 3, 4, 6, 7, 8] (show [0, 5, 1, 2, 3, 4, 6, 7, 8].Perm (List.range 9) by decide)
  simp only [List.append_assoc, List.append_nil] at h1 ⊢
  exact h1
theorem pmC_ho {h p s a u o m t x : va_W} : (h ++ p ++ s ++ a ++ u ++ o ++ m ++ t ++ x).Perm (((p ++ s ++ a ++ u ++ t ++ x) ++ (h ++ o)) ++ m) := by
  have h1 : (h ++ (p ++ (s ++ (a ++ (u ++ (o ++ (m ++ (t ++ (x ++ []))))))))).Perm (p ++ (s ++ (a ++ (u ++ (t ++ (x ++ (h ++ (o ++ (m ++ []))))))))) := pm_idx [h, p, s, a, u, o, m, t, x] [1, 2, 3, 4, 7, 8, 0, 5, 6] (show [1, 2, 3, 4, 7, 8, 0, 5, 6].Perm (List.range 9) by decide)
  simp only [List.append_assoc, List.append_nil] at h1 ⊢
  exact h1
theorem pmB_ho {p s a u m t x v : va_W} : ((p ++ s ++ a ++ u ++ m ++ t ++ x) ++ v).Perm (m ++ ((p ++ s ++ a ++ u ++ t ++ x) ++ v)) := by
  have h1 : (p ++ (s ++ (a ++ (u ++ (m ++ (t ++ (x ++ (v ++ [])))))))).Perm (m ++ (p ++ (s ++ (a ++ (u ++ (t ++ (x ++ (v ++ [])))))))) := pm_idx [p, s, a, u, m, t, x, v] [4, 0, 1, 2, 3, 5, 6, 7] (show [4, 0, 1, 2, 3, 5, 6, 7].Perm (List.range 8) by decide)
  simp only [List.append_assoc, List.append_nil] at h1 ⊢
  exact h1
theorem pmA_hsuo {h p s a u o m t x : va_W} : (h ++ p ++ s ++ a ++ u ++ o ++ m ++ t ++ x).Perm ((h ++ s ++ u ++ o) ++ (p ++ a ++ m ++ t ++ x)) := by
  have h1 : (h ++ (p ++ (s ++ (a ++ (u ++ (o ++ (m ++ (t ++ (x ++ []))))))))).Perm (h ++ (s ++ (u ++ (o ++ (p ++ (a ++ (m ++ (t ++ (x ++ []))))))))) := pm_idx [h, p, s, a, u, o, m, t, x] [0, 2, 4, 5, 1, 3, 6, 7, 8] (show [0, 2, 4, 5, 1, 3, 6, 7, 8].Perm (List.range 9) by decide)
  simp only [List.append_assoc, List.append_nil] at h1 ⊢
  exact h1
theorem pmC_hsuo {h p s a u o m t x : va_W} : (h ++ p ++ s ++ a ++ u ++ o ++ m ++ t ++ x).Perm (((p ++ a ++ t ++ x) ++ (h ++ s ++ u ++ o)) ++ m) := by
  have h1 : (h ++ (p ++ (s ++ (a ++ (u ++ (o ++ (m ++ (t ++ (x ++ []))))))))).Perm (p ++ (a ++ (t ++ (x ++ (h ++ (s ++ (u ++ (o ++ (m ++ []))))))))) := pm_idx [h, p, s, a, u, o, m, t, x] [1, 3, 7, 8, 0, 2, 4, 5, 6] (show [1, 3, 7, 8, 0, 2, 4, 5, 6].Perm (List.range 9) by decide)
  simp only [List.append_assoc, List.append_nil] at h1 ⊢
  exact h1
theorem pmB_hsuo {p a m t x v : va_W} : ((p ++ a ++ m ++ t ++ x) ++ v).Perm (m ++ ((p ++ a ++ t ++ x) ++ v)) := by
  have h1 : (p ++ (a ++ (m ++ (t ++ (x ++ (v ++ [])))))).Perm (m ++ (p ++ (a ++ (t ++ (x ++ (v ++ [])))))) := pm_idx [p, a, m, t, x, v] [2, 0, 1, 3, 4, 5] (show [2, 0, 1, 3, 4, 5].Perm (List.range 6) by decide)
  simp only [List.append_assoc, List.append_nil] at h1 ⊢
  exact h1
theorem pmA_hsuor {h p s a u o m t x r y : va_W} (hx : x.Perm (r ++ y)) : (h ++ p ++ s ++ a ++ u ++ o ++ m ++ t ++ x).Perm ((h ++ s ++ u ++ o ++ r) ++ (p ++ a ++ m ++ t ++ y)) := by
  have h1 : (h ++ (p ++ (s ++ (a ++ (u ++ (o ++ (m ++ (t ++ (r ++ (y ++ [])))))))))).Perm (h ++ (s ++ (u ++ (o ++ (r ++ (p ++ (a ++ (m ++ (t ++ (y ++ [])))))))))) := pm_idx [h, p, s, a, u, o, m, t, r, y] [0, 2, 4, 5, 8, 1, 3, 6, 7, 9] (show [0, 2, 4, 5, 8, 1, 3, 6, 7, 9].Perm (List.range 10) by decide)
  have h2 : (h ++ p ++ s ++ a ++ u ++ o ++ m ++ t ++ x).Perm ((h ++ p ++ s ++ a ++ u ++ o ++ m ++ t) ++ (r ++ y)) := hx.append_left (h ++ p ++ s ++ a ++ u ++ o ++ m ++ t)
  simp only [List.append_assoc, List.append_nil] at h1 h2 ⊢
  exact h2.trans h1
theorem pmC_hsuor {h p s a u o m t x r y : va_W} (hx : x.Perm (r ++ y)) : (h ++ p ++ s ++ a ++ u ++ o ++ m ++ t ++ x).Perm (((p ++ a ++ t ++ y) ++ (h ++ s ++ u ++ o ++ r)) ++ m) := by
  have h1 : (h ++ (p ++ (s ++ (a ++ (u ++ (o ++ (m ++ (t ++ (r ++ (y ++ [])))))))))).Perm (p ++ (a ++ (t ++ (y ++ (h ++ (s ++ (u ++ (o ++ (r ++ (m ++ [])))))))))) := pm_idx [h, p, s, a, u, o, m, t, r, y] [1, 3, 7, 9, 0, 2, 4, 5, 8, 6] (show [1, 3, 7, 9, 0, 2, 4, 5, 8, 6].Perm (List.range 10) by decide)
  have h2 : (h ++ p ++ s ++ a ++ u ++ o ++ m ++ t ++ x).Perm ((h ++ p ++ s ++ a ++ u ++ o ++ m ++ t) ++ (r ++ y)) := hx.append_left (h ++ p ++ s ++ a ++ u ++ o ++ m ++ t)
  simp only [List.append_assoc, List.append_nil] at h1 h2 ⊢
  exact h2.trans h1
theorem pmB_hsuor {p a m t y v : va_W} : ((p ++ a ++ m ++ t ++ y) ++ v).Perm (m ++ ((p ++ a ++ t ++ y) ++ v)) := by
  have h1 : (p ++ (a ++ (m ++ (t ++ (y ++ (v ++ [])))))).Perm (m ++ (p ++ (a ++ (t ++ (y ++ (v ++ [])))))) := pm_idx [p, a, m, t, y, v] [2, 0, 1, 3, 4, 5] (show [2, 0, 1, 3, 4, 5].Perm (List.range 6) by decide)
  simp only [List.append_assoc, List.append_nil] at h1 ⊢
  exact h1
theorem pmA_hrq {h p s a u o m t x r y q z : va_W} (hx : x.Perm (r ++ y)) (hy : y.Perm (q ++ z)) : (h ++ p ++ s ++ a ++ u ++ o ++ m ++ t ++ x).Perm ((h ++ r ++ q) ++ (p ++ s ++ a ++ u ++ o ++ m ++ t ++ z)) := by
  have h1 : (h ++ (p ++ (s ++ (a ++ (u ++ (o ++ (m ++ (t ++ (r ++ (q ++ (z ++ []))))))))))).Perm (h ++ (r ++ (q ++ (p ++ (s ++ (a ++ (u ++ (o ++ (m ++ (t ++ (z ++ []))))))))))) := pm_idx [h, p, s, a, u, o, m, t, r, q, z] [0, 8, 9, 1, 2, 3, 4, 5, 6, 7, 10] (show [0, 8, 9, 1, 2, 3, 4, 5, 6, 7, 10].Perm (List.range 11) by decide)
  have h2 : (h ++ p ++ s ++ a ++ u ++ o ++ m ++ t ++ x).Perm ((h ++ p ++ s ++ a ++ u ++ o ++ m ++ t) ++ (r ++ y)) := hx.append_left (h ++ p ++ s ++ a ++ u ++ o ++ m ++ t)
  have h2 := h2.trans ((hy.append_left r).append_left (h ++ p ++ s ++ a ++ u ++ o ++ m ++ t))
  simp only [List.append_assoc, List.append_nil] at h1 h2 ⊢
  exact h2.trans h1
theorem pmC_hrq {h p s a u o m t x r y q z : va_W} (hx : x.Perm (r ++ y)) (hy : y.Perm (q ++ z)) : (h ++ p ++ s ++ a ++ u ++ o ++ m ++ t ++ x).Perm (((p ++ s ++ a ++ u ++ o ++ t ++ z) ++ (h ++ r ++ q)) ++ m) := by
  have h1 : (h ++ (p ++ (s ++ (a ++ (u ++ (o ++ (m ++ (t ++ (r ++ (q ++ (z ++ []))))))))))).Perm (p ++ (s ++ (a ++ (u ++ (o ++ (t ++ (z ++ (h ++ (r ++ (q ++ (m ++ []))))))))))) := pm_idx [h, p, s, a, u, o, m, t, r, q, z] [1, 2, 3, 4, 5, 7, 10, 0, 8, 9, 6] (show [1, 2, 3, 4, 5, 7, 10, 0, 8, 9, 6].Perm (List.range 11) by decide)
  have h2 : (h ++ p ++ s ++ a ++ u ++ o ++ m ++ t ++ x).Perm ((h ++ p ++ s ++ a ++ u ++ o ++ m ++ t) ++ (r ++ y)) := hx.append_left (h ++ p ++ s ++ a ++ u ++ o ++ m ++ t)
  have h2 := h2.trans ((hy.append_left r).append_left (h ++ p ++ s ++ a ++ u ++ o ++ m ++ t))
  simp only [List.append_assoc, List.append_nil] at h1 h2 ⊢
  exact h2.trans h1
theorem pmB_hrq {p s a u o m t z v : va_W} : ((p ++ s ++ a ++ u ++ o ++ m ++ t ++ z) ++ v).Perm (m ++ ((p ++ s ++ a ++ u ++ o ++ t ++ z) ++ v)) := by
  have h1 : (p ++ (s ++ (a ++ (u ++ (o ++ (m ++ (t ++ (z ++ (v ++ []))))))))).Perm (m ++ (p ++ (s ++ (a ++ (u ++ (o ++ (t ++ (z ++ (v ++ []))))))))) := pm_idx [p, s, a, u, o, m, t, z, v] [5, 0, 1, 2, 3, 4, 6, 7, 8] (show [5, 0, 1, 2, 3, 4, 6, 7, 8].Perm (List.range 9) by decide)
  simp only [List.append_assoc, List.append_nil] at h1 ⊢
  exact h1
theorem pmA_hot {h p s a u o m t x : va_W} : (h ++ p ++ s ++ a ++ u ++ o ++ m ++ t ++ x).Perm ((h ++ o ++ t) ++ (p ++ s ++ a ++ u ++ m ++ x)) := by
  have h1 : (h ++ (p ++ (s ++ (a ++ (u ++ (o ++ (m ++ (t ++ (x ++ []))))))))).Perm (h ++ (o ++ (t ++ (p ++ (s ++ (a ++ (u ++ (m ++ (x ++ []))))))))) := pm_idx [h, p, s, a, u, o, m, t, x] [0, 5, 7, 1, 2, 3, 4, 6, 8] (show [0, 5, 7, 1, 2, 3, 4, 6, 8].Perm (List.range 9) by decide)
  simp only [List.append_assoc, List.append_nil] at h1 ⊢
  exact h1
theorem pmC_hot {h p s a u o m t x : va_W} : (h ++ p ++ s ++ a ++ u ++ o ++ m ++ t ++ x).Perm (((p ++ s ++ a ++ u ++ x) ++ (h ++ o ++ t)) ++ m) := by
  have h1 : (h ++ (p ++ (s ++ (a ++ (u ++ (o ++ (m ++ (t ++ (x ++ []))))))))).Perm (p ++ (s ++ (a ++ (u ++ (x ++ (h ++ (o ++ (t ++ (m ++ []))))))))) := pm_idx [h, p, s, a, u, o, m, t, x] [1, 2, 3, 4, 8, 0, 5, 7, 6] (show [1, 2, 3, 4, 8, 0, 5, 7, 6].Perm (List.range 9) by decide)
  simp only [List.append_assoc, List.append_nil] at h1 ⊢
  exact h1
theorem pmB_hot {p s a u m x v : va_W} : ((p ++ s ++ a ++ u ++ m ++ x) ++ v).Perm (m ++ ((p ++ s ++ a ++ u ++ x) ++ v)) := by
  have h1 : (p ++ (s ++ (a ++ (u ++ (m ++ (x ++ (v ++ []))))))).Perm (m ++ (p ++ (s ++ (a ++ (u ++ (x ++ (v ++ []))))))) := pm_idx [p, s, a, u, m, x, v] [4, 0, 1, 2, 3, 5, 6] (show [4, 0, 1, 2, 3, 5, 6].Perm (List.range 7) by decide)
  simp only [List.append_assoc, List.append_nil] at h1 ⊢
  exact h1
end LAW0
