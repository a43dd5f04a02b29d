section WHX
abbrev xE : String := "java/util/NoSuchElementException"
abbrev xwA : List Cond := xw_at RX6 190 "java/util/NoSuchElementException" "java/lang/RuntimeException" 13 prog_17_method_4_code ["java/lang/Exception"]
abbrev xd1 : Cond := .declares (Bundle.initS "java/lang/RuntimeException")
abbrev xd2 : Cond := .declares (Bundle.initS "java/lang/Exception")
abbrev xd3 : Cond := .declares (Bundle.initS Bundle.tN)
abbrev xd4 : Cond := .castable xE xE
/-- what a throw needs of the state: two statics, a text, four words -/
def xz (A : Nat → Prop) (U : State) (H : Heap) : Prop := vx_Zq Bundle.tN "UNASSIGNED_STACK" Bundle.steD A U H ∧ vx_Zq Bundle.tN "SUPPRESSED_SENTINEL" Bundle.listD A U H ∧ (∃ sa : Nat, vk_R RX6 188 "no such copy or days" sa U) ∧ va_Nw xd1 U ∧ va_Nw xd2 U ∧ va_Nw xd3 U ∧ va_Nw xd4 U
theorem xz.warm {A B : Nat → Prop} {s U : State} {H0 H : Heap} (h : xz A s H0) (hW : s.WarmedH U.vm) (hk : ∀ a : Nat, a < H0.size → ¬ A a → H[a]? = H0[a]?) (hAB : ∀ q, B q → A q) : xz B U H := by
  obtain ⟨h1, h2, ⟨sa, h3⟩, h4, h5, h6, h7⟩ := h
  exact ⟨(vx_Zq.moved hW.alike (h1.kept hk)).narrow hAB, (vx_Zq.moved hW.alike (h2.kept hk)).narrow hAB, ⟨sa, vk_R.warm hW h3⟩, va_Nw.warmD hW h4, va_Nw.warmD hW h5, va_Nw.warmD hW h6, va_Nw.warmC hW h7⟩
def xPc (D : va_G) (tys : List (ClassId × FieldType)) (w : va_W) (sz : Nat) (av : List Value) : Array Value → State → Prop := fun a U => gPc D tys w sz av a U ∧ xz (va_A w sz) U U.heap
theorem xl_blind {D : va_G} {tys : List (ClassId × FieldType)} {w : va_W} {sz : Nat} {av : List Value} : FrameBlind (xPc D tys w sz av) := by
  intro a U g mk q
  obtain ⟨q0, h1, h2, ⟨sa, h3⟩, h4, h5, h6, h7⟩ := q
  refine ⟨gl_blind _ _ _ _ q0, ?_⟩
  exact ⟨vx_Zq.moved (u := U) (U := U.calling g mk a) (Vm.Alike.refl U.vm) h1, vx_Zq.moved (u := U) (U := U.calling g mk a) (Vm.Alike.refl U.vm) h2, ⟨sa, vk_R.same (u := U) (U := U.calling g mk a) rfl h3⟩, va_tabs (u := U) (U := U.calling g mk a) rfl rfl h4, va_tabs (u := U) (U := U.calling g mk a) rfl rfl h5, va_tabs (u := U) (U := U.calling g mk a) rfl rfl h6, va_tabs (u := U) (U := U.calling g mk a) rfl rfl h7⟩
theorem xl_pre {D : va_G} {tys : List (ClassId × FieldType)} {w : va_W} {av : List Value} {s : State} {H0 H : Heap} {locs : List Loc} {A : Nat → Prop} (hP : va_P D vwCl w H) (hK : va_K D vwCl tys s) (hN : va_Nw gN s) (hD : va_D A w) (hz : xz A s H0) (hS : va_S A H0 H locs) (hF : ∀ q, va_A w H.size q → A q) : ∀ U : State, U.heap = H → s.WarmedH U.vm → xPc D tys w H.size av av.toArray U :=
  fun U hU hW => ⟨gl_pre hP hK hN hD U hU hW, by rw [hU]; exact hz.warm hW hS.2.1 hF⟩
theorem xw_0 : decode prog_17_method_4_code 0 = .ok (.aload_n 0, 1) := by decide +kernel
theorem xw_1 : decode prog_17_method_4_code 1 = .ok (.aload_n 1, 1) := by decide +kernel
theorem xw_2 : decode prog_17_method_4_code 2 = .ok (.invokespecial 13, 3) := by decide +kernel
theorem xw_5 : decode prog_17_method_4_code 5 = .ok (.return_, 1) := by decide +kernel
set_option maxRecDepth 20000 in
theorem xw_good : ∀ w ∈ Cond.classLink RX6 186 xE :: Cond.initialized xE :: xwA, vx_ot w = true := by decide +kernel
set_option maxRecDepth 20000 in
theorem xw_rest : ∀ w ∈ xwA.filter (fun w => !goodWord w), w ∈ [xd1, xd2, xd3, xd4] := by decide +kernel
theorem lk_X6_where_0 : (Cond.classLink RX6 186 xE) ∈ wsX6_where := by decide +kernel
theorem lk_X6_where_1 : (Cond.initialized xE) ∈ wsX6_where := by decide +kernel
theorem lk_X6_where_2 : (Cond.fieldLink RX6 50 "RollHouse" "post" "LRollHouse$Post;") ∈ wsX6_where := by decide +kernel
theorem us_X6_where_X6 : ∀ w ∈ u_ws RX6 TX6 7, w ∈ wsX6_where := by decide +kernel
theorem xw_in : ∀ w ∈ xwA.filter goodWord, w ∈ wsX6_where := fun _ h => List.mem_cons_of_mem _ (List.mem_append_right _ h)
def wp_X6_where (o_copies : Nat → Int32) (o_days : Nat → Int32) (o_places : Nat → Int32) (o_toldOn : Nat → Int32) (o_size : Int32) (o_today : Int32) (v1 v2 v3 : Int32) (post : Int32 → Prop) (px : Prop) : Prop :=
  wp_X6_isCopy v1 (fun r1 => (r1 = 0 → px) ∧ (¬ r1 = 0 → wp_X6_areDays o_today v2 v3 (fun r2 => (¬ r2 = 0 → wp_X2_placeOf o_copies o_days o_places o_toldOn o_size v1 v2 v3 (fun r3 => post r3)) ∧ (r2 = 0 → px))))
theorem xl_throw {p : Program} {l : Launch} {e : Env} {s : State} {m : MethodId} {args : Array Value} {below : List Frame} {meth : Method} {c : Code} {D : va_G} {cI cZ cR : ClassId} {A : Nat → Prop} {w : va_W} {post : Int32 → Prop} {px : Prop} {nA : List (Nat × Value)} (G : gG p s m args meth c cX6_where (some .int) 4 RX6 wsX6_where) (hK : va_K D vwCl (gT cI cZ cR) s) (hlt : l.stackTraces = false) (htab : ∀ x ∈ c.exceptionTable.toList, False) (hz : xz A s s.heap) (hpx : px) {H : Heap} {locs : List Loc} (hP : va_P D vwCl w H) (hD : va_D A w) (hS : va_S A s.heap H locs) {ls : Array Slot} (hl : lv_has ls 4 nA) :
    W p l e { frames := 6, cells := 1, slots := 6, locals := 82 } s m args below meth c H locs 0 0 (vx_MQ below (va_Qi (fun (r : Int32) (u : Unit) => post r) (fun u t => gB D (gT cI cZ cR) A (w) t) A) (vx_X (fun (_ : Unit) => px) (fun E _ t => E = xE ∧ gB D (gT cI cZ cR) A (w) t) A) args s 1 6 A) (F0 m 16 ls []) := by
  obtain ⟨hx, hb, hr, hml, hown, hts, hlocks⟩ := id G
  obtain ⟨h1, h2, ⟨sa, h3⟩, h4, h5, h6, h7⟩ := id hz
  refine xw_throw (pc := 16) (A := A) hx hb hlt xw_0 xw_1 xw_2 xw_5 hown (by decide +kernel) (by decide +kernel) (by decide +kernel) (hts _ lk_X6_where_0) (hts _ lk_X6_where_1) h3
    (vx_hat (fun w hw => hts w (xw_in w hw)) xw_rest (vx_c (va_tabs rfl rfl h4) (vx_c (va_tabs rfl rfl h5) (vx_c (va_tabs rfl rfl h6) (vx_c (va_tabs rfl rfl h7) vx_n))))) xw_good h1 h2 hS (hl.1.trans hml.symm)
    dX6_where_16 dX6_where_19 dX6_where_20 dX6_where_22 dX6_where_25 (fun x hx => (htab x hx).elim) (by decide) (by decide) (by decide) (by decide) hlocks ?_ hS.2.2 (by decide) (by decide)
  intro t ha hz1 hk1
  refine ⟨(), hpx, ⟨rfl, fun k q hq => (hP k q hq).kept (hk1 q.1 (hP k q hq).lt), va_K.moved ha hK, hD⟩, Nat.le_trans hS.1 hz1, fun q h8 h9 => ?_⟩
  rw [hk1 q (Nat.lt_of_lt_of_le h8 hS.1)]
  exact hS.2.1 q h8 h9
set_option maxRecDepth 100000 in
theorem ml_X6_where {p : Program} {l : Launch} {e : Env} {s : State} {m : MethodId} {args : Array Value} {below : List Frame} {meth : Method} {c : Code} {D : va_G} {cI cZ cR : ClassId} {A : Nat → Prop} {ad_h : Nat → Nat} {ad_o : Nat → Nat} {qh_player qh_score qh_alignment qh_punches : Nat} {h_rolls : Nat → Option Nat} {h_rollCount : Int32} (G : gG p s m args meth c cX6_where (some .int) 4 RX6 wsX6_where) (hK : va_K D vwCl (gT cI cZ cR) s) (hN : va_Nw gN s) (hA : ∀ q, s.heap.size ≤ q → A q) (hlt : l.stackTraces = false) (htab : ∀ x ∈ c.exceptionTable.toList, False) (hz : xz A s s.heap) (o_copies : Nat → Int32) (o_days : Nat → Int32) (o_places : Nat → Int32) (o_toldOn : Nat → Int32) (o_size : Int32) (o_today : Int32) (o_lineOfCopy : Nat → Int32) (v1 v2 v3 : Int32) (post : Int32 → Prop) (px : Prop) (h : wp_X6_where o_copies o_days o_places o_toldOn o_size o_today v1 v2 v3 post px) (H : Heap) (locs : List Loc) (hP : va_P D vwCl (w_H cI cZ cR ad_h qh_player qh_score qh_alignment qh_punches (ad_o 0) h_rolls h_rollCount ++ w_O cI cZ cR ad_o o_copies o_days o_places o_toldOn o_size o_today o_lineOfCopy) H) (hD : va_D A (w_H cI cZ cR ad_h qh_player qh_score qh_alignment qh_punches (ad_o 0) h_rolls h_rollCount ++ w_O cI cZ cR ad_o o_copies o_days o_places o_toldOn o_size o_today o_lineOfCopy)) (hS : va_S A s.heap H locs) (ls : Array Slot) (hl : lv_has ls 4 [(0, .ref (ad_h 0)), (1, .int v1), (2, .int v2), (3, .int v3)]) :
    W p l e { frames := 6, cells := 1, slots := 6, locals := 82 } s m args below meth c H locs 0 0 (vx_MQ below (va_Qi (fun (r : Int32) (u : Unit) => post r) (fun u t => gB D (gT cI cZ cR) A (w_H cI cZ cR ad_h qh_player qh_score qh_alignment qh_punches (ad_o 0) h_rolls h_rollCount ++ w_O cI cZ cR ad_o o_copies o_days o_places o_toldOn o_size o_today o_lineOfCopy) t) A) (vx_X (fun (_ : Unit) => px) (fun E _ t => E = xE ∧ gB D (gT cI cZ cR) A (w_H cI cZ cR ad_h qh_player qh_score qh_alignment qh_punches (ad_o 0) h_rolls h_rollCount ++ w_O cI cZ cR ad_o o_copies o_days o_places o_toldOn o_size o_today o_lineOfCopy) t) A) args s 1 6 A) (F0 m 0 ls []) := by
  obtain ⟨hx, hb, hr, hml, hown, hts, hlocks⟩ := id G
  unfold wp_X6_where at h
  refine lv_iload_n hx hb dX6_where_0 rfl (lv_at hl 1 rfl) ?_
  refine gl_calliS (va_runS (As := [.int v1]) (rest := []) ⟨hx, hb, hml, hown, hts⟩ (mt_X6_isCopy l D cI cZ cR H.size v1 _ h) (va_cwS 1 hts gX6_where_X6_isCopy rfl rfl rfl (by decide +kernel) ⟨Nat.le_of_ble_eq_true rfl, Nat.le_of_ble_eq_true rfl⟩) ⟨gl_blind, gl_pre gl_nilP hK hN (gl_nilD (A := A))⟩ rfl rfl hl.1 rfl (lv_room (Nat.le_of_ble_eq_true rfl)) dX6_where_1 ⟨Nat.le_of_ble_eq_true rfl, Nat.le_of_ble_eq_true rfl⟩) hP hS hA (fun r1 u H locs h hP hS => ?_)
  try dsimp only at h
  refine lv_if_eq (tgt := 16) hx hb dX6_where_4 (by decide) (fun hc => ?_) (fun hc => ?_)
  · exact xl_throw G hK hlt htab hz (h.1 hc) hP hD hS hl
  · have h := h.2 hc
    refine lv_aload_n hx hb dX6_where_7 rfl (lv_at hl 0 rfl) ?_
    refine lv_iload_n hx hb dX6_where_8 rfl (lv_at hl 2 rfl) ?_
    refine lv_iload_n hx hb dX6_where_9 rfl (lv_at hl 3 rfl) ?_
    refine gl_calliF (va_runV (As := [.int v2, .int v3]) (rest := []) ⟨hx, hb, hml, hown, hts⟩ (mt_X6_areDays l D cI cZ cR ad_h ad_o qh_player qh_score qh_alignment qh_punches H.size h_rolls h_rollCount o_copies o_days o_places o_toldOn o_size o_today o_lineOfCopy v2 v3 _ h) (cwV 2 hts gX6_where_X6_areDays rfl rfl rfl (by decide +kernel) ⟨Nat.le_of_ble_eq_true rfl, Nat.le_of_ble_eq_true rfl⟩) ⟨gl_blind, va_recv hK hP (ci := 6) (q0 := 0) rfl rfl, gl_pre hP hK hN hD⟩ rfl rfl hl.1 rfl (lv_room (Nat.le_of_ble_eq_true rfl)) dX6_where_10 ⟨Nat.le_of_ble_eq_true rfl, Nat.le_of_ble_eq_true rfl⟩) hD hS hA (fun r2 u H locs h hP hD hS => ?_)
    try dsimp only at h
    refine lv_if_ne (tgt := 26) hx hb dX6_where_13 (by decide) (fun hc => ?_) (fun hc => ?_)
    · have h := h.1 hc
      refine lv_aload_n hx hb dX6_where_26 rfl (lv_at hl 0 rfl) ?_
      refine va_get (D := D) (ci := 6) (v := .ref (ad_o 0)) (C := RX6) (T := TX6) (N := 7) hx hb hts us_X6_where_X6 hown hK hP 0 rfl rfl 6 (by decide) (hts (.fieldLink RX6 50 "RollHouse" "post" "LRollHouse$Post;") lk_X6_where_2) (fun _ h9 => h9) rfl dX6_where_27 ?_
      refine lv_iload_n hx hb dX6_where_30 rfl (lv_at hl 1 rfl) ?_
      refine lv_iload_n hx hb dX6_where_31 rfl (lv_at hl 2 rfl) ?_
      refine lv_iload_n hx hb dX6_where_32 rfl (lv_at hl 3 rfl) ?_
      have hPc := hP.sub (ws' := w_O cI cZ cR ad_o o_copies o_days o_places o_toldOn o_size o_today o_lineOfCopy) [2, 3, 4, 5, 6, 7] rfl
      have hDc := hD.sub (ws' := w_O cI cZ cR ad_o o_copies o_days o_places o_toldOn o_size o_today o_lineOfCopy) [2, 3, 4, 5, 6, 7] (by decide) rfl
      refine gl_calli (wr := w_H cI cZ cR ad_h qh_player qh_score qh_alignment qh_punches (ad_o 0) h_rolls h_rollCount) (va_runV (As := [.int v1, .int v2, .int v3]) (rest := []) ⟨hx, hb, hml, hown, hts⟩ (mt_X2_placeOf l D cI cZ cR ad_o H.size o_copies o_days o_places o_toldOn o_size o_today o_lineOfCopy v1 v2 v3 _ h) (cwV 3 hts gX6_where_X2_placeOf rfl rfl rfl (by decide +kernel) ⟨Nat.le_of_ble_eq_true rfl, Nat.le_of_ble_eq_true rfl⟩) ⟨gl_blind, va_recv hK hPc (ci := 2) (q0 := 0) rfl rfl, gl_pre hPc hK hN hDc⟩ rfl rfl hl.1 rfl (lv_room (Nat.le_of_ble_eq_true rfl)) dX6_where_33 ⟨Nat.le_of_ble_eq_true rfl, Nat.le_of_ble_eq_true rfl⟩) hP hD hS hA [2, 3, 4, 5, 6, 7] [0, 1] rfl rfl (by decide) (by decide) (fun r3 u H locs h hP hD hS => ?_)
      have hP := hP.sub (ws' := w_H cI cZ cR ad_h qh_player qh_score qh_alignment qh_punches (ad_o 0) h_rolls h_rollCount ++ w_O cI cZ cR ad_o o_copies o_days o_places o_toldOn o_size o_today o_lineOfCopy) [0, 1, 2, 3, 4, 5, 6, 7] rfl
      have hD := hD.sub (ws' := w_H cI cZ cR ad_h qh_player qh_score qh_alignment qh_punches (ad_o 0) h_rolls h_rollCount ++ w_O cI cZ cR ad_o o_copies o_days o_places o_toldOn o_size o_today o_lineOfCopy) [0, 1, 2, 3, 4, 5, 6, 7] (by decide) rfl
      exact W.widen (k := 1) (n := 6) (by decide) (by decide) (vx_ret (gl_ireti G hK (u := ()) hP hD hS h dX6_where_36))
    · exact xl_throw G hK hlt htab hz (h.2 hc) hP hD hS hl
theorem mt_X6_where (l : Launch) (hlt : l.stackTraces = false) (D : va_G) (cI cZ cR : ClassId) (ad_h : Nat → Nat) (ad_o : Nat → Nat) (qh_player : Nat) (qh_score : Nat) (qh_alignment : Nat) (qh_punches : Nat) (sz : Nat) (h_rolls : Nat → Option Nat) (h_rollCount : Int32) (o_copies : Nat → Int32) (o_days : Nat → Int32) (o_places : Nat → Int32) (o_toldOn : Nat → Int32) (o_size : Int32) (o_today : Int32) (o_lineOfCopy : Nat → Int32) (v1 : Int32) (v2 : Int32) (v3 : Int32) (post : Int32 → Prop) (px : Prop) (h : wp_X6_where o_copies o_days o_places o_toldOn o_size o_today v1 v2 v3 post px) :
    vx_Met l yX6_where wsX6_where ({ frames := 6, cells := 1, slots := 6, locals := 82 }) (xPc D (gT cI cZ cR) (w_H cI cZ cR ad_h qh_player qh_score qh_alignment qh_punches (ad_o 0) h_rolls h_rollCount ++ w_O cI cZ cR ad_o o_copies o_days o_places o_toldOn o_size o_today o_lineOfCopy) sz [.ref (ad_h 0), .int v1, .int v2, .int v3]) (va_Qi (fun (r : Int32) (u : Unit) => post r) (fun u t => gB D (gT cI cZ cR) (va_A (w_H cI cZ cR ad_h qh_player qh_score qh_alignment qh_punches (ad_o 0) h_rolls h_rollCount ++ w_O cI cZ cR ad_o o_copies o_days o_places o_toldOn o_size o_today o_lineOfCopy) sz) (w_H cI cZ cR ad_h qh_player qh_score qh_alignment qh_punches (ad_o 0) h_rolls h_rollCount ++ w_O cI cZ cR ad_o o_copies o_days o_places o_toldOn o_size o_today o_lineOfCopy) t) (va_A (w_H cI cZ cR ad_h qh_player qh_score qh_alignment qh_punches (ad_o 0) h_rolls h_rollCount ++ w_O cI cZ cR ad_o o_copies o_days o_places o_toldOn o_size o_today o_lineOfCopy) sz)) (vx_X (fun (_ : Unit) => px) (fun E _ t => E = xE ∧ gB D (gT cI cZ cR) (va_A (w_H cI cZ cR ad_h qh_player qh_score qh_alignment qh_punches (ad_o 0) h_rolls h_rollCount ++ w_O cI cZ cR ad_o o_copies o_days o_places o_toldOn o_size o_today o_lineOfCopy) sz) (w_H cI cZ cR ad_h qh_player qh_score qh_alignment qh_punches (ad_o 0) h_rolls h_rollCount ++ w_O cI cZ cR ad_o o_copies o_days o_places o_toldOn o_size o_today o_lineOfCopy) t) (va_A (w_H cI cZ cR ad_h qh_player qh_score qh_alignment qh_punches (ad_o 0) h_rolls h_rollCount ++ w_O cI cZ cR ad_o o_copies o_days o_places o_toldOn o_size o_today o_lineOfCopy) sz)) 1 6 (va_A (w_H cI cZ cR ad_h qh_player qh_score qh_alignment qh_punches (ad_o 0) h_rolls h_rollCount ++ w_O cI cZ cR ad_o o_copies o_days o_places o_toldOn o_size o_today o_lineOfCopy) sz) := by
  refine vx_ofW (cc := cX6_where) (maxL := 4) (ret := some .int) (by decide) rfl ?_
  intro p e s m args below meth c s₁ B hml htab hv
  obtain ⟨⟨rfl, hsz, hP, hK, hN, hD0⟩, hz⟩ := hv
  subst hsz
  have hts := atoms_spec (ws := wsX6_where) B.pre
  rw [lg_entry_eq]
  exact ml_X6_where ⟨B.exec, B.bytes, B.returns, hml, findClass_of_methodNamed B.named, hts, B.notSynchronized⟩ hK hN (fun q h => Or.inr h) hlt htab hz o_copies o_days o_places o_toldOn o_size o_today o_lineOfCopy v1 v2 v3 post px h s.heap [] hP hD0.self va_S.rf _ (lv_entry _ (Nat.le_of_ble_eq_true rfl))
end WHX
