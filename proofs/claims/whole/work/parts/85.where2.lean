section LWH
theorem xw_ofWH {l : Launch} {y : MethodName} {ws ws' : List Cond} {rm : Room} {Pc : Array Value → State → Prop} {Qc : Array Value → State → Outcome → State → Prop} {mc ms : Nat} {free : Addr → Prop} {cc : ByteArray} {maxL : Nat} {ret : Option FieldType} {hh : List (Nat × Nat × Nat × Nat)}
    (hy : plainName y.cls = true) (hw : ws = Cond.codeWith y cc maxL ret hh :: ws')
    (body : ∀ p e s m args below meth c s₁, BodyLoose p l y (headSpec ws rm) cc maxL ret e s m args below meth c s₁ → c.maxLocals = maxL → Pc args s →
      W p l e (headSpec ws rm).room s m args below meth c s.heap [] 0 0 (MQ below Qc args s mc ms free) (entryFrame m args maxL)) : Met l y ws rm Pc Qc mc ms free := by
  refine MetFree.of_bodyS (code := cc) (maxLocals := maxL) (ret := ret) hy ?_ ?_
  · intro args s m h hn
    obtain ⟨m9, meth, c, hn9, h1, h2, h3, h4, -, h5, h6, -⟩ := Cond.codeWith_spec (atoms_spec (ws := ws) h _ (by rw [hw]; exact List.mem_cons_self))
    cases hn.symm.trans hn9
    exact ⟨meth, c, h1, h2, h3, h4, h5, h6⟩
  · intro p e s m args below meth c s₁ B hml hP _
    have hh0 : s₁.heap = s.heap := by rw [B.state]; rfl
    obtain ⟨t, a1, o, b1, b2, b3⟩ := body p e s m args below meth c s₁ B hml hP s₁ hh0 (Stand.of_body B)
    exact ⟨t, o, a1, b1, b2, ⟨b3.1, b3.2⟩⟩
theorem lk_L_where_0 : Cond.classLink RL 13 xE ∈ wsL_where := by decide +kernel
theorem lk_L_where_1 : Cond.codeWith yL_where cL_where 6 (some .int) [(0, 12, 15, 13)] ∈ wsL_where := by decide +kernel
set_option maxRecDepth 100000 in
theorem ml_L_where {p : Program} {l : Launch} {e : Env} {s : State} {m : MethodId} {args : Array Value} {below : List Frame} {meth : Method} {c : Code} {D : va_G} {cI cZ cR cJ : ClassId} {A : Nat → Prop} {ad_h : Nat → Nat} {ad_o : Nat → Nat} {ao qh_player qh_score qh_alignment qh_punches : Nat} {h_rolls : Nat → Option Nat} {h_rollCount : Int32} (G : gG p s m args meth c cL_where (some .int) 6 RL wsL_where) (hK : va_K D vwCl (gT cI cZ cR ++ [(cJ, FieldType.long)]) s) (hN : va_Nw gN s) (hA : ∀ q, s.heap.size ≤ q → A q) (hlt : l.stackTraces = false) (htab : c.exceptionTable.toList = tableOf [(0, 12, 15, 13)]) (hz : xz A s s.heap) (o_copies : Nat → Int32) (o_days : Nat → Int32) (o_places : Nat → Int32) (o_toldOn : Nat → Int32) (o_size : Int32) (o_today : Int32) (o_lineOfCopy : Nat → Int32) (f : Nat → Int64) (v1 v2 v3 : Int32) (post : Int32 → (Nat → Int64) → Prop) (h : wp_X6_where o_copies o_days o_places o_toldOn o_size o_today v1 v2 v3 (fun r => post 0 (vp_updL f 0 r.toInt64)) (post 1 f)) (H : Heap) (locs : List Loc) (hP : va_P D vwCl (w_H cI cZ cR ad_h qh_player qh_score qh_alignment qh_punches (ad_o 0) h_rolls h_rollCount ++ w_O cI cZ cR ad_o o_copies o_days o_places o_toldOn o_size o_today o_lineOfCopy ++ [(ao, .inl (cJ, 1, .inr (.inl f)))]) H) (hD : va_D A (w_H cI cZ cR ad_h qh_player qh_score qh_alignment qh_punches (ad_o 0) h_rolls h_rollCount ++ w_O cI cZ cR ad_o o_copies o_days o_places o_toldOn o_size o_today o_lineOfCopy ++ [(ao, .inl (cJ, 1, .inr (.inl f)))])) (hS : va_S A s.heap H locs) (ls : Array Slot) (hl : lv_has ls 6 [(0, .ref (ad_h 0)), (1, .int v1), (2, .int v2), (3, .int v3), (4, .ref ao)]) :
    W p l e { frames := 7, cells := 1, slots := 6, locals := 105 } s m args below meth c H locs 0 0 (MQ below (va_Qi (fun (r : Int32) (u : Nat → Int64) => post r u) (fun u t => gB D (gT cI cZ cR ++ [(cJ, FieldType.long)]) A (w_H cI cZ cR ad_h qh_player qh_score qh_alignment qh_punches (ad_o 0) h_rolls h_rollCount ++ w_O cI cZ cR ad_o o_copies o_days o_places o_toldOn o_size o_today o_lineOfCopy ++ [(ao, .inl (cJ, 1, .inr (.inl u)))]) t) A) args s 1 6 A) (F0 m 0 ls []) := by
  obtain ⟨hx, hb, hr, hml, hown, hts, hlocks⟩ := id G
  have hK3 : va_K D vwCl (gT cI cZ cR) s := hK.sub [0, 1, 2] rfl
  refine lv_aload hx hb dL_where_0 (lv_at hl 4 rfl) ?_
  refine lv_iconst (v := 0) hx hb dL_where_2 (by decide) ?_
  refine lv_aload_n hx hb dL_where_3 rfl (lv_at hl 0 rfl) ?_
  refine lv_iload_n hx hb dL_where_4 rfl (lv_at hl 1 rfl) ?_
  refine lv_iload_n hx hb dL_where_5 rfl (lv_at hl 2 rfl) ?_
  refine lv_iload_n hx hb dL_where_6 rfl (lv_at hl 3 rfl) ?_
  have hPc := hP.sub (ws' := w_H cI cZ cR ad_h qh_player qh_score qh_alignment qh_punches (ad_o 0) h_rolls h_rollCount ++ w_O cI cZ cR ad_o o_copies o_days o_places o_toldOn o_size o_today o_lineOfCopy) [0, 1, 2, 3, 4, 5, 6, 7] rfl
  have hDc := hD.sub (ws' := w_H cI cZ cR ad_h qh_player qh_score qh_alignment qh_punches (ad_o 0) h_rolls h_rollCount ++ w_O cI cZ cR ad_o o_copies o_days o_places o_toldOn o_size o_today o_lineOfCopy) [0, 1, 2, 3, 4, 5, 6, 7] (by decide) rfl
  have hF : ∀ q, va_A (w_H cI cZ cR ad_h qh_player qh_score qh_alignment qh_punches (ad_o 0) h_rolls h_rollCount ++ w_O cI cZ cR ad_o o_copies o_days o_places o_toldOn o_size o_today o_lineOfCopy) H.size q → A q := va_free hD hS hA [0, 1, 2, 3, 4, 5, 6, 7] rfl
  refine vx_calli (vx_runV (As := [.int v1, .int v2, .int v3]) (rest := [.int 0, .ref ao]) ⟨hx, hb, hml, hown, hts⟩ (mt_X6_where l hlt D cI cZ cR ad_h ad_o qh_player qh_score qh_alignment qh_punches H.size h_rolls h_rollCount o_copies o_days o_places o_toldOn o_size o_today o_lineOfCopy v1 v2 v3 _ _ h) (cwV 3 hts gL_where_X6_where rfl rfl rfl (by decide +kernel) ⟨Nat.le_of_ble_eq_true rfl, Nat.le_of_ble_eq_true rfl⟩) ⟨xl_blind, va_recv hK3 hPc (ci := 6) (q0 := 0) rfl rfl, xl_pre hPc hK3 hN hDc hz hS hF⟩ rfl rfl hl.1 rfl (lv_room (Nat.le_of_ble_eq_true rfl)) dL_where_7 ⟨Nat.le_of_ble_eq_true rfl, Nat.le_of_ble_eq_true rfl⟩) hS (fun q _ h => hF q h) hF (fun q _ h => hF q h) ?_ ?_
  · intro E ce q9 u t H1 locs1 ht hvm hpx hBX hz1 hk1 hS1 hcell hv hcl
    obtain ⟨rfl, hB, -, hD1⟩ := hBX
    rw [ht] at hB
    obtain ⟨hP2, hD2⟩ := va_join (wr := [(ao, .inl (cJ, 1, .inr (.inl f)))]) hP hD [0, 1, 2, 3, 4, 5, 6, 7] [8] rfl rfl (by decide) (by decide) hk1 hF hB hD1
    refine vx_catch (name := xE) hown [] _ [] (htab.trans rfl) (fun z h9 => by cases h9) rfl (by decide) (hts _ lk_L_where_0) (va_tabs rfl rfl hz.2.2.2.2.2.2) hcell hv hcl ?_
    refine lv_astore (lv' := [(5, .ref q9), (0, .ref (ad_h 0)), (1, .int v1), (2, .int v2), (3, .int v3), (4, .ref ao)]) hx hb dL_where_15 hl (by decide) rfl (fun ls hl => ?_)
    refine lv_iconst (v := 1) hx hb dL_where_17 (by decide) ?_
    exact gl_ireti G hK (u := f) (hP2.sub [1, 2, 3, 4, 5, 6, 7, 8, 0] rfl) (hD2.sub [1, 2, 3, 4, 5, 6, 7, 8, 0] (by decide) rfl) hS1 hpx dL_where_18
  · intro r u t H1 locs1 ht hvm hp1 hB hz1 hk1 hS1
    obtain ⟨hB, -, hD1⟩ := hB
    rw [ht] at hB
    obtain ⟨hP2, hD2⟩ := va_join (wr := [(ao, .inl (cJ, 1, .inr (.inl f)))]) hP hD [0, 1, 2, 3, 4, 5, 6, 7] [8] rfl rfl (by decide) (by decide) hk1 hF hB hD1
    have hP2 := hP2.sub (ws' := w_H cI cZ cR ad_h qh_player qh_score qh_alignment qh_punches (ad_o 0) h_rolls h_rollCount ++ w_O cI cZ cR ad_o o_copies o_days o_places o_toldOn o_size o_today o_lineOfCopy ++ [(ao, .inl (cJ, 1, .inr (.inl f)))]) [1, 2, 3, 4, 5, 6, 7, 8, 0] rfl
    have hD2 := hD2.sub (ws' := w_H cI cZ cR ad_h qh_player qh_score qh_alignment qh_punches (ad_o 0) h_rolls h_rollCount ++ w_O cI cZ cR ad_o o_copies o_days o_places o_toldOn o_size o_today o_lineOfCopy ++ [(ao, .inl (cJ, 1, .inr (.inl f)))]) [1, 2, 3, 4, 5, 6, 7, 8, 0] (by decide) rfl
    refine lv_i2l hx hb dL_where_10 rfl ?_
    refine va_last hx hb hK hP2 hD2 hS1 8 3 rfl rfl (by unfold vp_in; decide) dL_where_11 (fun H2 locs2 hP3 hD3 hS2 => ?_)
    refine lv_goto hx hb dL_where_12 (tgt := 19) (by decide) ?_
    refine lv_iconst (v := 0) hx hb dL_where_19 (by decide) ?_
    exact gl_ireti G hK (u := vp_updL f 0 r.toInt64) hP3 hD3 hS2 hp1 dL_where_20
theorem mt_L_where (l : Launch) (hlt : l.stackTraces = false) (D : va_G) (cI cZ cR cJ : ClassId) (ad_h : Nat → Nat) (ad_o : Nat → Nat) (ao : Nat) (qh_player : Nat) (qh_score : Nat) (qh_alignment : Nat) (qh_punches : Nat) (sz : Nat) (h_rolls : Nat → Option Nat) (h_rollCount : Int32) (o_copies : Nat → Int32) (o_days : Nat → Int32) (o_places : Nat → Int32) (o_toldOn : Nat → Int32) (o_size : Int32) (o_today : Int32) (o_lineOfCopy : Nat → Int32) (f : Nat → Int64) (v1 : Int32) (v2 : Int32) (v3 : Int32) (post : Int32 → (Nat → Int64) → Prop) (h : wp_X6_where o_copies o_days o_places o_toldOn o_size o_today v1 v2 v3 (fun r => post 0 (vp_updL f 0 r.toInt64)) (post 1 f)) :
    Met l yL_where wsL_where ({ frames := 7, cells := 1, slots := 6, locals := 105 }) (xPc D (gT cI cZ cR ++ [(cJ, FieldType.long)]) (w_H cI cZ cR ad_h qh_player qh_score qh_alignment qh_punches (ad_o 0) h_rolls h_rollCount ++ w_O cI cZ cR ad_o o_copies o_days o_places o_toldOn o_size o_today o_lineOfCopy ++ [(ao, .inl (cJ, 1, .inr (.inl f)))]) sz [.ref (ad_h 0), .int v1, .int v2, .int v3, .ref ao]) (va_Qi (fun (r : Int32) (u : Nat → Int64) => post r u) (fun u t => gB D (gT cI cZ cR ++ [(cJ, FieldType.long)]) (va_A (w_H cI cZ cR ad_h qh_player qh_score qh_alignment qh_punches (ad_o 0) h_rolls h_rollCount ++ w_O cI cZ cR ad_o o_copies o_days o_places o_toldOn o_size o_today o_lineOfCopy ++ [(ao, .inl (cJ, 1, .inr (.inl f)))]) sz) (w_H cI cZ cR ad_h qh_player qh_score qh_alignment qh_punches (ad_o 0) h_rolls h_rollCount ++ w_O cI cZ cR ad_o o_copies o_days o_places o_toldOn o_size o_today o_lineOfCopy ++ [(ao, .inl (cJ, 1, .inr (.inl u)))]) t) (va_A (w_H cI cZ cR ad_h qh_player qh_score qh_alignment qh_punches (ad_o 0) h_rolls h_rollCount ++ w_O cI cZ cR ad_o o_copies o_days o_places o_toldOn o_size o_today o_lineOfCopy ++ [(ao, .inl (cJ, 1, .inr (.inl f)))]) sz)) 1 6 (va_A (w_H cI cZ cR ad_h qh_player qh_score qh_alignment qh_punches (ad_o 0) h_rolls h_rollCount ++ w_O cI cZ cR ad_o o_copies o_days o_places o_toldOn o_size o_today o_lineOfCopy ++ [(ao, .inl (cJ, 1, .inr (.inl f)))]) sz) := by
  refine xw_ofWH (cc := cL_where) (maxL := 6) (ret := some .int) (hh := [(0, 12, 15, 13)]) (by decide) rfl ?_
  intro p e s m args below meth c s₁ B hml hv
  obtain ⟨⟨rfl, hsz, hP, hK, hN, hD0⟩, hz⟩ := hv
  subst hsz
  have hts := atoms_spec (ws := wsL_where) B.pre
  rw [lg_entry_eq]
  exact ml_L_where ⟨B.exec, B.bytes, B.returns, hml, findClass_of_methodNamed B.named, hts, B.notSynchronized⟩ hK hN (fun q h => Or.inr h) hlt (vx_table (x := yL_where) B (hts _ lk_L_where_1)) hz o_copies o_days o_places o_toldOn o_size o_today o_lineOfCopy f v1 v2 v3 post h s.heap [] hP hD0.self va_S.rf _ (lv_entry _ (Nat.le_of_ble_eq_true rfl))
end LWH
