theorem lk_X2_lineCount_0 : (Cond.fieldLink RX2 24 "RollHouse$Post" "size" "I") ∈ wsX2_lineCount := by decide +kernel
theorem us_X2_lineCount_X2 : ∀ w ∈ u_ws RX2 TX2 7, w ∈ wsX2_lineCount := by decide +kernel
def wp_X2_lineCount (o_size : Int32) (post : Int32 → Prop) : Prop := post o_size 
set_option maxRecDepth 100000 in
set_option maxHeartbeats 4000000 in
theorem ml_X2_lineCount_0 {p : Program} {l : Launch} {e : Env} {s : State} {m : MethodId} {args : Array Value} {below : List Frame} {meth : Method} {c : Code} {D : va_G} {cI cZ cR : ClassId} {A : Nat → Prop} {ad_o : Nat → Nat} {o_copies : Nat → Int32} {o_days : Nat → Int32} {o_places : Nat → Int32} {o_toldOn : Nat → Int32} {o_today : Int32} {o_lineOfCopy : Nat → Int32} (G : gG p s m args meth c cX2_lineCount (some .int) 1 RX2 wsX2_lineCount) (hK : va_K D vwCl (gT cI cZ cR) s) (hN : va_Nw gN s) (hA : ∀ q, s.heap.size ≤ q → A q) (o_size : Int32) (post : Int32 → Prop)  (h : wp_X2_lineCount o_size post) : ∀ (H : Heap) (locs : List Loc), va_P D vwCl (w_O cI cZ cR ad_o o_copies o_days o_places o_toldOn o_size o_today o_lineOfCopy) H → va_D A (w_O cI cZ cR ad_o o_copies o_days o_places o_toldOn o_size o_today o_lineOfCopy) → va_S A s.heap H locs → ∀ (ls : Array Slot), lv_has ls 1 [(0, .ref (ad_o 0))] → W p l e { frames := 0, cells := 0, slots := 0, locals := 0 } s m args below meth c H locs 0 0 (MQ below (va_Qi (fun (r : Int32) (u : Unit) => post r ) (fun u t => gB D (gT cI cZ cR) A (w_O cI cZ cR ad_o o_copies o_days o_places o_toldOn o_size o_today o_lineOfCopy) t) A) args s 0 0 A) (F0 m 0 ls []) := by
  obtain ⟨hx, hb, hr, hml, hown, hts, hlocks⟩ := id G
  intro H locs hP hD hS ls hl
  unfold wp_X2_lineCount at h
  refine lv_aload_n hx hb dX2_lineCount_0 rfl (lv_at hl 0 rfl) ?_
  refine va_get (D := D) (ci := 2) (v := .int o_size) (C := RX2) (T := TX2) (N := 7) hx hb hts us_X2_lineCount_X2 hown hK hP 0 rfl rfl 4 (by decide) (hts (.fieldLink RX2 24 "RollHouse$Post" "size" "I") lk_X2_lineCount_0) (fun _ h9 => h9) rfl dX2_lineCount_1 ?_
  exact gl_ireti G hK (u := ()) hP hD hS h dX2_lineCount_4
set_option maxRecDepth 100000 in
theorem mt_X2_lineCount (l : Launch) (D : va_G) (cI cZ cR : ClassId) (ad_o : Nat → Nat) (sz : Nat) (o_copies : Nat → Int32) (o_days : Nat → Int32) (o_places : Nat → Int32) (o_toldOn : Nat → Int32) (o_size : Int32) (o_today : Int32) (o_lineOfCopy : Nat → Int32) (post : Int32 → Prop) (h : wp_X2_lineCount o_size post) : Met l yX2_lineCount wsX2_lineCount ({ frames := 0, cells := 0, slots := 0, locals := 0 }) (gPc D (gT cI cZ cR) (w_O cI cZ cR ad_o o_copies o_days o_places o_toldOn o_size o_today o_lineOfCopy) sz [.ref (ad_o 0)]) (va_Qi (fun (r : Int32) (u : Unit) => post r ) (fun u t => gB D (gT cI cZ cR) (va_A (w_O cI cZ cR ad_o o_copies o_days o_places o_toldOn o_size o_today o_lineOfCopy) sz) (w_O cI cZ cR ad_o o_copies o_days o_places o_toldOn o_size o_today o_lineOfCopy) t) (va_A (w_O cI cZ cR ad_o o_copies o_days o_places o_toldOn o_size o_today o_lineOfCopy) sz)) 0 0 (va_A (w_O cI cZ cR ad_o o_copies o_days o_places o_toldOn o_size o_today o_lineOfCopy) sz) := by
  refine gl_entry (cc := cX2_lineCount) (maxL := 1) (ret := (some .int)) (by decide) rfl (Nat.le_of_ble_eq_true rfl) ?_
  intro p e s m below meth c ls G hin hsz hK hN hP hD hl
  subst hsz
  exact ml_X2_lineCount_0 G hK hN (fun q h => Or.inr h) o_size post h s.heap [] hP hD va_S.rf ls hl
theorem lk_X2_today_0 : (Cond.fieldLink RX2 28 "RollHouse$Post" "today" "I") ∈ wsX2_today := by decide +kernel
theorem us_X2_today_X2 : ∀ w ∈ u_ws RX2 TX2 7, w ∈ wsX2_today := by decide +kernel
def wp_X2_today (o_today : Int32) (post : Int32 → Prop) : Prop := post o_today 
set_option maxRecDepth 100000 in
set_option maxHeartbeats 4000000 in
theorem ml_X2_today_0 {p : Program} {l : Launch} {e : Env} {s : State} {m : MethodId} {args : Array Value} {below : List Frame} {meth : Method} {c : Code} {D : va_G} {cI cZ cR : ClassId} {A : Nat → Prop} {ad_o : Nat → Nat} {o_copies : Nat → Int32} {o_days : Nat → Int32} {o_places : Nat → Int32} {o_toldOn : Nat → Int32} {o_size : Int32} {o_lineOfCopy : Nat → Int32} (G : gG p s m args meth c cX2_today (some .int) 1 RX2 wsX2_today) (hK : va_K D vwCl (gT cI cZ cR) s) (hN : va_Nw gN s) (hA : ∀ q, s.heap.size ≤ q → A q) (o_today : Int32) (post : Int32 → Prop)  (h : wp_X2_today o_today post) : ∀ (H : Heap) (locs : List Loc), va_P D vwCl (w_O cI cZ cR ad_o o_copies o_days o_places o_toldOn o_size o_today o_lineOfCopy) H → va_D A (w_O cI cZ cR ad_o o_copies o_days o_places o_toldOn o_size o_today o_lineOfCopy) → va_S A s.heap H locs → ∀ (ls : Array Slot), lv_has ls 1 [(0, .ref (ad_o 0))] → W p l e { frames := 0, cells := 0, slots := 0, locals := 0 } s m args below meth c H locs 0 0 (MQ below (va_Qi (fun (r : Int32) (u : Unit) => post r ) (fun u t => gB D (gT cI cZ cR) A (w_O cI cZ cR ad_o o_copies o_days o_places o_toldOn o_size o_today o_lineOfCopy) t) A) args s 0 0 A) (F0 m 0 ls []) := by
  obtain ⟨hx, hb, hr, hml, hown, hts, hlocks⟩ := id G
  intro H locs hP hD hS ls hl
  unfold wp_X2_today at h
  refine lv_aload_n hx hb dX2_today_0 rfl (lv_at hl 0 rfl) ?_
  refine va_get (D := D) (ci := 2) (v := .int o_today) (C := RX2) (T := TX2) (N := 7) hx hb hts us_X2_today_X2 hown hK hP 0 rfl rfl 5 (by decide) (hts (.fieldLink RX2 28 "RollHouse$Post" "today" "I") lk_X2_today_0) (fun _ h9 => h9) rfl dX2_today_1 ?_
  exact gl_ireti G hK (u := ()) hP hD hS h dX2_today_4
set_option maxRecDepth 100000 in
theorem mt_X2_today (l : Launch) (D : va_G) (cI cZ cR : ClassId) (ad_o : Nat → Nat) (sz : Nat) (o_copies : Nat → Int32) (o_days : Nat → Int32) (o_places : Nat → Int32) (o_toldOn : Nat → Int32) (o_size : Int32) (o_today : Int32) (o_lineOfCopy : Nat → Int32) (post : Int32 → Prop) (h : wp_X2_today o_today post) : Met l yX2_today wsX2_today ({ frames := 0, cells := 0, slots := 0, locals := 0 }) (gPc D (gT cI cZ cR) (w_O cI cZ cR ad_o o_copies o_days o_places o_toldOn o_size o_today o_lineOfCopy) sz [.ref (ad_o 0)]) (va_Qi (fun (r : Int32) (u : Unit) => post r ) (fun u t => gB D (gT cI cZ cR) (va_A (w_O cI cZ cR ad_o o_copies o_days o_places o_toldOn o_size o_today o_lineOfCopy) sz) (w_O cI cZ cR ad_o o_copies o_days o_places o_toldOn o_size o_today o_lineOfCopy) t) (va_A (w_O cI cZ cR ad_o o_copies o_days o_places o_toldOn o_size o_today o_lineOfCopy) sz)) 0 0 (va_A (w_O cI cZ cR ad_o o_copies o_days o_places o_toldOn o_size o_today o_lineOfCopy) sz) := by
  refine gl_entry (cc := cX2_today) (maxL := 1) (ret := (some .int)) (by decide) rfl (Nat.le_of_ble_eq_true rfl) ?_
  intro p e s m below meth c ls G hin hsz hK hN hP hD hl
  subst hsz
  exact ml_X2_today_0 G hK hN (fun q h => Or.inr h) o_today post h s.heap [] hP hD va_S.rf ls hl
theorem lk_X2_letPass_0 : (Cond.fieldLink RX2 28 "RollHouse$Post" "today" "I") ∈ wsX2_letPass := by decide +kernel
theorem us_X2_letPass_X2 : ∀ w ∈ u_ws RX2 TX2 7, w ∈ wsX2_letPass := by decide +kernel
def wp_X2_letPass (v1 : Int32) (o_today : Int32) (post : Int32 → Int32 → Prop) : Prop := post (o_today + v1) (o_today + v1)
set_option maxRecDepth 100000 in
set_option maxHeartbeats 4000000 in
theorem ml_X2_letPass_0 {p : Program} {l : Launch} {e : Env} {s : State} {m : MethodId} {args : Array Value} {below : List Frame} {meth : Method} {c : Code} {D : va_G} {cI cZ cR : ClassId} {A : Nat → Prop} {ad_o : Nat → Nat} {o_copies : Nat → Int32} {o_days : Nat → Int32} {o_places : Nat → Int32} {o_toldOn : Nat → Int32} {o_size : Int32} {o_lineOfCopy : Nat → Int32} (G : gG p s m args meth c cX2_letPass (some .int) 2 RX2 wsX2_letPass) (hK : va_K D vwCl (gT cI cZ cR) s) (hN : va_Nw gN s) (hA : ∀ q, s.heap.size ≤ q → A q) (v1 : Int32) (post : Int32 → Int32 → Prop) (o_today : Int32) (h : wp_X2_letPass v1 o_today post) : ∀ (H : Heap) (locs : List Loc), va_P D vwCl (w_O cI cZ cR ad_o o_copies o_days o_places o_toldOn o_size o_today o_lineOfCopy) H → va_D A (w_O cI cZ cR ad_o o_copies o_days o_places o_toldOn o_size o_today o_lineOfCopy) → va_S A s.heap H locs → ∀ (ls : Array Slot), lv_has ls 2 [(0, .ref (ad_o 0)), (1, .int v1)] → W p l e { frames := 0, cells := 0, slots := 0, locals := 0 } s m args below meth c H locs 0 0 (MQ below (va_Qi (fun (r : Int32) (u : (Int32)) => post r u) (fun u t => gB D (gT cI cZ cR) A (w_O cI cZ cR ad_o o_copies o_days o_places o_toldOn o_size u o_lineOfCopy) t) A) args s 0 0 A) (F0 m 0 ls []) := by
  obtain ⟨hx, hb, hr, hml, hown, hts, hlocks⟩ := id G
  intro H locs hP hD hS ls hl
  unfold wp_X2_letPass at h
  refine lv_aload_n hx hb dX2_letPass_0 rfl (lv_at hl 0 rfl) ?_
  refine lv_dup hx hb dX2_letPass_1 rfl ?_
  refine va_get (D := D) (ci := 2) (v := .int o_today) (C := RX2) (T := TX2) (N := 7) hx hb hts us_X2_letPass_X2 hown hK hP 0 rfl rfl 5 (by decide) (hts (.fieldLink RX2 28 "RollHouse$Post" "today" "I") lk_X2_letPass_0) (fun _ h9 => h9) rfl dX2_letPass_2 ?_
  refine lv_iload_n hx hb dX2_letPass_5 rfl (lv_at hl 1 rfl) ?_
  refine lv_iadd hx hb dX2_letPass_6 ?_
  refine va_put (D := D) (ci := 2) (v := .int (o_today + v1)) (ty := .int) (C := RX2) (T := TX2) (N := 7) hx hb hts us_X2_letPass_X2 tyX2 tyX2_ok nmX2 hown hK hP hD hS 0 rfl rfl 5 (by decide) (hts (.fieldLink RX2 28 "RollHouse$Post" "today" "I") lk_X2_letPass_0) (fun _ h9 => h9) rfl (by decide +kernel) rfl rfl (Nat.le_of_ble_eq_true rfl) dX2_letPass_7 (fun H locs hP hD hS => ?_)
  have hP : va_P D vwCl (w_O cI cZ cR ad_o o_copies o_days o_places o_toldOn o_size (o_today + v1) o_lineOfCopy) H := hP
  have hD : va_D A (w_O cI cZ cR ad_o o_copies o_days o_places o_toldOn o_size (o_today + v1) o_lineOfCopy) := hD
  refine lv_aload_n hx hb dX2_letPass_10 rfl (lv_at hl 0 rfl) ?_
  refine va_get (D := D) (ci := 2) (v := .int (o_today + v1)) (C := RX2) (T := TX2) (N := 7) hx hb hts us_X2_letPass_X2 hown hK hP 0 rfl rfl 5 (by decide) (hts (.fieldLink RX2 28 "RollHouse$Post" "today" "I") lk_X2_letPass_0) (fun _ h9 => h9) rfl dX2_letPass_11 ?_
  exact gl_ireti G hK (u := (o_today + v1)) hP hD hS h dX2_letPass_14
set_option maxRecDepth 100000 in
theorem mt_X2_letPass (l : Launch) (D : va_G) (cI cZ cR : ClassId) (ad_o : Nat → Nat) (sz : Nat) (o_copies : Nat → Int32) (o_days : Nat → Int32) (o_places : Nat → Int32) (o_toldOn : Nat → Int32) (o_size : Int32) (o_today : Int32) (o_lineOfCopy : Nat → Int32) (v1 : Int32) (post : Int32 → Int32 → Prop) (h : wp_X2_letPass v1 o_today post) : Met l yX2_letPass wsX2_letPass ({ frames := 0, cells := 0, slots := 0, locals := 0 }) (gPc D (gT cI cZ cR) (w_O cI cZ cR ad_o o_copies o_days o_places o_toldOn o_size o_today o_lineOfCopy) sz [.ref (ad_o 0), .int v1]) (va_Qi (fun (r : Int32) (u : (Int32)) => post r u) (fun u t => gB D (gT cI cZ cR) (va_A (w_O cI cZ cR ad_o o_copies o_days o_places o_toldOn o_size o_today o_lineOfCopy) sz) (w_O cI cZ cR ad_o o_copies o_days o_places o_toldOn o_size u o_lineOfCopy) t) (va_A (w_O cI cZ cR ad_o o_copies o_days o_places o_toldOn o_size o_today o_lineOfCopy) sz)) 0 0 (va_A (w_O cI cZ cR ad_o o_copies o_days o_places o_toldOn o_size o_today o_lineOfCopy) sz) := by
  refine gl_entry (cc := cX2_letPass) (maxL := 2) (ret := (some .int)) (by decide) rfl (Nat.le_of_ble_eq_true rfl) ?_
  intro p e s m below meth c ls G hin hsz hK hN hP hD hl
  subst hsz
  exact ml_X2_letPass_0 G hK hN (fun q h => Or.inr h) v1 post o_today h s.heap [] hP hD va_S.rf ls hl
theorem lk_X2_tell_0 : (Cond.fieldLink RX2 24 "RollHouse$Post" "size" "I") ∈ wsX2_tell := by decide +kernel
theorem lk_X2_tell_1 : (Cond.fieldLink RX2 11 "RollHouse$Post" "copies" "[I") ∈ wsX2_tell := by decide +kernel
theorem lk_X2_tell_2 : (Cond.fieldLink RX2 15 "RollHouse$Post" "days" "[I") ∈ wsX2_tell := by decide +kernel
theorem lk_X2_tell_3 : (Cond.fieldLink RX2 18 "RollHouse$Post" "places" "[I") ∈ wsX2_tell := by decide +kernel
theorem lk_X2_tell_4 : (Cond.fieldLink RX2 21 "RollHouse$Post" "toldOn" "[I") ∈ wsX2_tell := by decide +kernel
theorem lk_X2_tell_5 : (Cond.fieldLink RX2 28 "RollHouse$Post" "today" "I") ∈ wsX2_tell := by decide +kernel
theorem us_X2_tell_X2 : ∀ w ∈ u_ws RX2 TX2 7, w ∈ wsX2_tell := by decide +kernel
def wp_X2_tell (o_today : Int32) (v1 : Int32) (v2 : Int32) (v3 : Int32) (o_copies : Nat → Int32) (o_days : Nat → Int32) (o_places : Nat → Int32) (o_toldOn : Nat → Int32) (o_size : Int32) (post : Int32 → (Nat → Int32) → (Nat → Int32) → (Nat → Int32) → (Nat → Int32) → Int32 → Prop) : Prop := ((o_size < 200 → (vp_in o_size 200 ∧ (∀ a1 : Nat → Int32, a1 = upd o_copies o_size.toNatClampNeg v1 → (vp_in o_size 200 ∧ (∀ a2 : Nat → Int32, a2 = upd o_days o_size.toNatClampNeg v2 → (vp_in o_size 200 ∧ (∀ a3 : Nat → Int32, a3 = upd o_places o_size.toNatClampNeg v3 → (vp_in o_size 200 ∧ (∀ a4 : Nat → Int32, a4 = upd o_toldOn o_size.toNatClampNeg o_today → post (o_size + 1) a1 a2 a3 a4 (o_size + 1)))))))))) ∧ (¬ o_size < 200 → post (-1) o_copies o_days o_places o_toldOn o_size))
set_option maxRecDepth 100000 in
set_option maxHeartbeats 4000000 in
theorem ml_X2_tell_0 {p : Program} {l : Launch} {e : Env} {s : State} {m : MethodId} {args : Array Value} {below : List Frame} {meth : Method} {c : Code} {D : va_G} {cI cZ cR : ClassId} {A : Nat → Prop} {ad_o : Nat → Nat} {o_lineOfCopy : Nat → Int32} (G : gG p s m args meth c cX2_tell (some .int) 4 RX2 wsX2_tell) (hK : va_K D vwCl (gT cI cZ cR) s) (hN : va_Nw gN s) (hA : ∀ q, s.heap.size ≤ q → A q) (o_today : Int32) (v1 : Int32) (v2 : Int32) (v3 : Int32) (post : Int32 → (Nat → Int32) → (Nat → Int32) → (Nat → Int32) → (Nat → Int32) → Int32 → Prop) (o_copies : Nat → Int32) (o_days : Nat → Int32) (o_places : Nat → Int32) (o_toldOn : Nat → Int32) (o_size : Int32) (h : wp_X2_tell o_today v1 v2 v3 o_copies o_days o_places o_toldOn o_size post) : ∀ (H : Heap) (locs : List Loc), va_P D vwCl (w_O cI cZ cR ad_o o_copies o_days o_places o_toldOn o_size o_today o_lineOfCopy) H → va_D A (w_O cI cZ cR ad_o o_copies o_days o_places o_toldOn o_size o_today o_lineOfCopy) → va_S A s.heap H locs → ∀ (ls : Array Slot), lv_has ls 4 [(0, .ref (ad_o 0)), (1, .int v1), (2, .int v2), (3, .int v3)] → W p l e { frames := 0, cells := 0, slots := 0, locals := 0 } s m args below meth c H locs 0 0 (MQ below (va_Qi (fun (r : Int32) (u : (Nat → Int32) × (Nat → Int32) × (Nat → Int32) × (Nat → Int32) × (Int32)) => post r u.1 u.2.1 u.2.2.1 u.2.2.2.1 u.2.2.2.2) (fun u t => gB D (gT cI cZ cR) A (w_O cI cZ cR ad_o u.1 u.2.1 u.2.2.1 u.2.2.2.1 u.2.2.2.2 o_today o_lineOfCopy) t) A) args s 0 0 A) (F0 m 0 ls []) := by
  obtain ⟨hx, hb, hr, hml, hown, hts, hlocks⟩ := id G
  intro H locs hP hD hS ls hl
  unfold wp_X2_tell at h
  refine lv_aload_n hx hb dX2_tell_0 rfl (lv_at hl 0 rfl) ?_
  refine va_get (D := D) (ci := 2) (v := .int o_size) (C := RX2) (T := TX2) (N := 7) hx hb hts us_X2_tell_X2 hown hK hP 0 rfl rfl 4 (by decide) (hts (.fieldLink RX2 24 "RollHouse$Post" "size" "I") lk_X2_tell_0) (fun _ h9 => h9) rfl dX2_tell_1 ?_
  refine lv_sipush (v := 200) hx hb dX2_tell_4 (by decide) ?_
  refine lv_icmp_lt (tgt := 12) hx hb dX2_tell_7 (by decide) (fun hc => ?_) (fun hc => ?_)
  · have h := h.1 hc
    refine lv_aload_n hx hb dX2_tell_12 rfl (lv_at hl 0 rfl) ?_
    refine va_get (D := D) (ci := 2) (v := .ref (ad_o 1)) (C := RX2) (T := TX2) (N := 7) hx hb hts us_X2_tell_X2 hown hK hP 0 rfl rfl 0 (by decide) (hts (.fieldLink RX2 11 "RollHouse$Post" "copies" "[I") lk_X2_tell_1) (fun _ h9 => h9) rfl dX2_tell_13 ?_
    refine lv_aload_n hx hb dX2_tell_16 rfl (lv_at hl 0 rfl) ?_
    refine va_get (D := D) (ci := 2) (v := .int o_size) (C := RX2) (T := TX2) (N := 7) hx hb hts us_X2_tell_X2 hown hK hP 0 rfl rfl 4 (by decide) (hts (.fieldLink RX2 24 "RollHouse$Post" "size" "I") lk_X2_tell_0) (fun _ h9 => h9) rfl dX2_tell_17 ?_
    refine lv_iload_n hx hb dX2_tell_20 rfl (lv_at hl 1 rfl) ?_
    obtain ⟨hin, h⟩ := h
    refine va_iast hx hb hK hP hD hS 1 0 rfl rfl hin dX2_tell_21 (fun H locs hP hD hS => ?_)
    obtain ⟨a1, ea1⟩ : ∃ f, f = upd o_copies o_size.toNatClampNeg v1 := ⟨_, rfl⟩
    have h := h a1 ea1
    rw [← ea1] at hP hD
    have hP : va_P D vwCl (w_O cI cZ cR ad_o a1 o_days o_places o_toldOn o_size o_today o_lineOfCopy) H := hP
    have hD : va_D A (w_O cI cZ cR ad_o a1 o_days o_places o_toldOn o_size o_today o_lineOfCopy) := hD
    refine lv_aload_n hx hb dX2_tell_22 rfl (lv_at hl 0 rfl) ?_
    refine va_get (D := D) (ci := 2) (v := .ref (ad_o 2)) (C := RX2) (T := TX2) (N := 7) hx hb hts us_X2_tell_X2 hown hK hP 0 rfl rfl 1 (by decide) (hts (.fieldLink RX2 15 "RollHouse$Post" "days" "[I") lk_X2_tell_2) (fun _ h9 => h9) rfl dX2_tell_23 ?_
    refine lv_aload_n hx hb dX2_tell_26 rfl (lv_at hl 0 rfl) ?_
    refine va_get (D := D) (ci := 2) (v := .int o_size) (C := RX2) (T := TX2) (N := 7) hx hb hts us_X2_tell_X2 hown hK hP 0 rfl rfl 4 (by decide) (hts (.fieldLink RX2 24 "RollHouse$Post" "size" "I") lk_X2_tell_0) (fun _ h9 => h9) rfl dX2_tell_27 ?_
    refine lv_iload_n hx hb dX2_tell_30 rfl (lv_at hl 2 rfl) ?_
    obtain ⟨hin, h⟩ := h
    refine va_iast hx hb hK hP hD hS 2 0 rfl rfl hin dX2_tell_31 (fun H locs hP hD hS => ?_)
    obtain ⟨a2, ea2⟩ : ∃ f, f = upd o_days o_size.toNatClampNeg v2 := ⟨_, rfl⟩
    have h := h a2 ea2
    rw [← ea2] at hP hD
    have hP : va_P D vwCl (w_O cI cZ cR ad_o a1 a2 o_places o_toldOn o_size o_today o_lineOfCopy) H := hP
    have hD : va_D A (w_O cI cZ cR ad_o a1 a2 o_places o_toldOn o_size o_today o_lineOfCopy) := hD
    refine lv_aload_n hx hb dX2_tell_32 rfl (lv_at hl 0 rfl) ?_
    refine va_get (D := D) (ci := 2) (v := .ref (ad_o 3)) (C := RX2) (T := TX2) (N := 7) hx hb hts us_X2_tell_X2 hown hK hP 0 rfl rfl 2 (by decide) (hts (.fieldLink RX2 18 "RollHouse$Post" "places" "[I") lk_X2_tell_3) (fun _ h9 => h9) rfl dX2_tell_33 ?_
    refine lv_aload_n hx hb dX2_tell_36 rfl (lv_at hl 0 rfl) ?_
    refine va_get (D := D) (ci := 2) (v := .int o_size) (C := RX2) (T := TX2) (N := 7) hx hb hts us_X2_tell_X2 hown hK hP 0 rfl rfl 4 (by decide) (hts (.fieldLink RX2 24 "RollHouse$Post" "size" "I") lk_X2_tell_0) (fun _ h9 => h9) rfl dX2_tell_37 ?_
    refine lv_iload_n hx hb dX2_tell_40 rfl (lv_at hl 3 rfl) ?_
    obtain ⟨hin, h⟩ := h
    refine va_iast hx hb hK hP hD hS 3 0 rfl rfl hin dX2_tell_41 (fun H locs hP hD hS => ?_)
    obtain ⟨a3, ea3⟩ : ∃ f, f = upd o_places o_size.toNatClampNeg v3 := ⟨_, rfl⟩
    have h := h a3 ea3
    rw [← ea3] at hP hD
    have hP : va_P D vwCl (w_O cI cZ cR ad_o a1 a2 a3 o_toldOn o_size o_today o_lineOfCopy) H := hP
    have hD : va_D A (w_O cI cZ cR ad_o a1 a2 a3 o_toldOn o_size o_today o_lineOfCopy) := hD
    refine lv_aload_n hx hb dX2_tell_42 rfl (lv_at hl 0 rfl) ?_
    refine va_get (D := D) (ci := 2) (v := .ref (ad_o 4)) (C := RX2) (T := TX2) (N := 7) hx hb hts us_X2_tell_X2 hown hK hP 0 rfl rfl 3 (by decide) (hts (.fieldLink RX2 21 "RollHouse$Post" "toldOn" "[I") lk_X2_tell_4) (fun _ h9 => h9) rfl dX2_tell_43 ?_
    refine lv_aload_n hx hb dX2_tell_46 rfl (lv_at hl 0 rfl) ?_
    refine va_get (D := D) (ci := 2) (v := .int o_size) (C := RX2) (T := TX2) (N := 7) hx hb hts us_X2_tell_X2 hown hK hP 0 rfl rfl 4 (by decide) (hts (.fieldLink RX2 24 "RollHouse$Post" "size" "I") lk_X2_tell_0) (fun _ h9 => h9) rfl dX2_tell_47 ?_
    refine lv_aload_n hx hb dX2_tell_50 rfl (lv_at hl 0 rfl) ?_
    refine va_get (D := D) (ci := 2) (v := .int o_today) (C := RX2) (T := TX2) (N := 7) hx hb hts us_X2_tell_X2 hown hK hP 0 rfl rfl 5 (by decide) (hts (.fieldLink RX2 28 "RollHouse$Post" "today" "I") lk_X2_tell_5) (fun _ h9 => h9) rfl dX2_tell_51 ?_
    obtain ⟨hin, h⟩ := h
    refine va_iast hx hb hK hP hD hS 4 0 rfl rfl hin dX2_tell_54 (fun H locs hP hD hS => ?_)
    obtain ⟨a4, ea4⟩ : ∃ f, f = upd o_toldOn o_size.toNatClampNeg o_today := ⟨_, rfl⟩
    have h := h a4 ea4
    rw [← ea4] at hP hD
    have hP : va_P D vwCl (w_O cI cZ cR ad_o a1 a2 a3 a4 o_size o_today o_lineOfCopy) H := hP
    have hD : va_D A (w_O cI cZ cR ad_o a1 a2 a3 a4 o_size o_today o_lineOfCopy) := hD
    refine lv_aload_n hx hb dX2_tell_55 rfl (lv_at hl 0 rfl) ?_
    refine lv_dup hx hb dX2_tell_56 rfl ?_
    refine va_get (D := D) (ci := 2) (v := .int o_size) (C := RX2) (T := TX2) (N := 7) hx hb hts us_X2_tell_X2 hown hK hP 0 rfl rfl 4 (by decide) (hts (.fieldLink RX2 24 "RollHouse$Post" "size" "I") lk_X2_tell_0) (fun _ h9 => h9) rfl dX2_tell_57 ?_
    refine lv_iconst (v := 1) hx hb dX2_tell_60 (by decide) ?_
    refine lv_iadd hx hb dX2_tell_61 ?_
    refine va_put (D := D) (ci := 2) (v := .int (o_size + 1)) (ty := .int) (C := RX2) (T := TX2) (N := 7) hx hb hts us_X2_tell_X2 tyX2 tyX2_ok nmX2 hown hK hP hD hS 0 rfl rfl 4 (by decide) (hts (.fieldLink RX2 24 "RollHouse$Post" "size" "I") lk_X2_tell_0) (fun _ h9 => h9) rfl (by decide +kernel) rfl rfl (Nat.le_of_ble_eq_true rfl) dX2_tell_62 (fun H locs hP hD hS => ?_)
    have hP : va_P D vwCl (w_O cI cZ cR ad_o a1 a2 a3 a4 (o_size + 1) o_today o_lineOfCopy) H := hP
    have hD : va_D A (w_O cI cZ cR ad_o a1 a2 a3 a4 (o_size + 1) o_today o_lineOfCopy) := hD
    refine lv_aload_n hx hb dX2_tell_65 rfl (lv_at hl 0 rfl) ?_
    refine va_get (D := D) (ci := 2) (v := .int (o_size + 1)) (C := RX2) (T := TX2) (N := 7) hx hb hts us_X2_tell_X2 hown hK hP 0 rfl rfl 4 (by decide) (hts (.fieldLink RX2 24 "RollHouse$Post" "size" "I") lk_X2_tell_0) (fun _ h9 => h9) rfl dX2_tell_66 ?_
    exact gl_ireti G hK (u := (a1, a2, a3, a4, (o_size + 1))) hP hD hS h dX2_tell_69
  · have h := h.2 hc
    refine lv_iconst (v := (-1)) hx hb dX2_tell_10 (by decide) ?_
    exact gl_ireti G hK (u := (o_copies, o_days, o_places, o_toldOn, o_size)) hP hD hS h dX2_tell_11
set_option maxRecDepth 100000 in
theorem mt_X2_tell (l : Launch) (D : va_G) (cI cZ cR : ClassId) (ad_o : Nat → Nat) (sz : Nat) (o_copies : Nat → Int32) (o_days : Nat → Int32) (o_places : Nat → Int32) (o_toldOn : Nat → Int32) (o_size : Int32) (o_today : Int32) (o_lineOfCopy : Nat → Int32) (v1 : Int32) (v2 : Int32) (v3 : Int32) (post : Int32 → (Nat → Int32) → (Nat → Int32) → (Nat → Int32) → (Nat → Int32) → Int32 → Prop) (h : wp_X2_tell o_today v1 v2 v3 o_copies o_days o_places o_toldOn o_size post) : Met l yX2_tell wsX2_tell ({ frames := 0, cells := 0, slots := 0, locals := 0 }) (gPc D (gT cI cZ cR) (w_O cI cZ cR ad_o o_copies o_days o_places o_toldOn o_size o_today o_lineOfCopy) sz [.ref (ad_o 0), .int v1, .int v2, .int v3]) (va_Qi (fun (r : Int32) (u : (Nat → Int32) × (Nat → Int32) × (Nat → Int32) × (Nat → Int32) × (Int32)) => post r u.1 u.2.1 u.2.2.1 u.2.2.2.1 u.2.2.2.2) (fun u t => gB D (gT cI cZ cR) (va_A (w_O cI cZ cR ad_o o_copies o_days o_places o_toldOn o_size o_today o_lineOfCopy) sz) (w_O cI cZ cR ad_o u.1 u.2.1 u.2.2.1 u.2.2.2.1 u.2.2.2.2 o_today o_lineOfCopy) t) (va_A (w_O cI cZ cR ad_o o_copies o_days o_places o_toldOn o_size o_today o_lineOfCopy) sz)) 0 0 (va_A (w_O cI cZ cR ad_o o_copies o_days o_places o_toldOn o_size o_today o_lineOfCopy) sz) := by
  refine gl_entry (cc := cX2_tell) (maxL := 4) (ret := (some .int)) (by decide) rfl (Nat.le_of_ble_eq_true rfl) ?_
  intro p e s m below meth c ls G hin hsz hK hN hP hD hl
  subst hsz
  exact ml_X2_tell_0 G hK hN (fun q h => Or.inr h) o_today v1 v2 v3 post o_copies o_days o_places o_toldOn o_size h s.heap [] hP hD va_S.rf ls hl
theorem lk_X2_counts_0 : (Cond.fieldLink RX2 21 "RollHouse$Post" "toldOn" "[I") ∈ wsX2_counts := by decide +kernel
theorem lk_X2_counts_1 : (Cond.fieldLink RX2 15 "RollHouse$Post" "days" "[I") ∈ wsX2_counts := by decide +kernel
theorem us_X2_counts_X2 : ∀ w ∈ u_ws RX2 TX2 7, w ∈ wsX2_counts := by decide +kernel
def wp_X2_counts (o_days : Nat → Int32) (o_toldOn : Nat → Int32) (v1 : Int32) (v2 : Int32) (v3 : Int32) (post : Int32 → Prop) : Prop := (vp_in v1 200 ∧ ((v3 < (o_toldOn v1.toNatClampNeg) → post 0 ) ∧ (¬ v3 < (o_toldOn v1.toNatClampNeg) → (vp_in v1 200 ∧ ((v2 < (o_days v1.toNatClampNeg) → post 0 ) ∧ (¬ v2 < (o_days v1.toNatClampNeg) → post 1 ))))))
set_option maxRecDepth 100000 in
set_option maxHeartbeats 4000000 in
theorem ml_X2_counts_0 {p : Program} {l : Launch} {e : Env} {s : State} {m : MethodId} {args : Array Value} {below : List Frame} {meth : Method} {c : Code} {D : va_G} {cI cZ cR : ClassId} {A : Nat → Prop} {ad_o : Nat → Nat} {o_copies : Nat → Int32} {o_places : Nat → Int32} {o_size : Int32} {o_today : Int32} {o_lineOfCopy : Nat → Int32} (G : gG p s m args meth c cX2_counts (some .boolean) 4 RX2 wsX2_counts) (hK : va_K D vwCl (gT cI cZ cR) s) (hN : va_Nw gN s) (hA : ∀ q, s.heap.size ≤ q → A q) (o_days : Nat → Int32) (o_toldOn : Nat → Int32) (v1 : Int32) (v2 : Int32) (v3 : Int32) (post : Int32 → Prop)  (h : wp_X2_counts o_days o_toldOn v1 v2 v3 post) : ∀ (H : Heap) (locs : List Loc), va_P D vwCl (w_O cI cZ cR ad_o o_copies o_days o_places o_toldOn o_size o_today o_lineOfCopy) H → va_D A (w_O cI cZ cR ad_o o_copies o_days o_places o_toldOn o_size o_today o_lineOfCopy) → va_S A s.heap H locs → ∀ (ls : Array Slot), lv_has ls 4 [(0, .ref (ad_o 0)), (1, .int v1), (2, .int v2), (3, .int v3)] → W p l e { frames := 0, cells := 0, slots := 0, locals := 0 } s m args below meth c H locs 0 0 (MQ below (va_Qi (fun (r : Int32) (u : Unit) => post r ) (fun u t => gB D (gT cI cZ cR) A (w_O cI cZ cR ad_o o_copies o_days o_places o_toldOn o_size o_today o_lineOfCopy) t) A) args s 0 0 A) (F0 m 0 ls []) := by
  obtain ⟨hx, hb, hr, hml, hown, hts, hlocks⟩ := id G
  intro H locs hP hD hS ls hl
  unfold wp_X2_counts at h
  refine lv_aload_n hx hb dX2_counts_0 rfl (lv_at hl 0 rfl) ?_
  refine va_get (D := D) (ci := 2) (v := .ref (ad_o 4)) (C := RX2) (T := TX2) (N := 7) hx hb hts us_X2_counts_X2 hown hK hP 0 rfl rfl 3 (by decide) (hts (.fieldLink RX2 21 "RollHouse$Post" "toldOn" "[I") lk_X2_counts_0) (fun _ h9 => h9) rfl dX2_counts_1 ?_
  refine lv_iload_n hx hb dX2_counts_4 rfl (lv_at hl 1 rfl) ?_
  obtain ⟨hin, h⟩ := h
  refine va_iald hx hb hK hP 4 0 rfl rfl hin dX2_counts_5 ?_
  refine lv_iload_n hx hb dX2_counts_6 rfl (lv_at hl 3 rfl) ?_
  refine lv_icmp_gt (tgt := 24) hx hb dX2_counts_7 (by decide) (fun hc => ?_) (fun hc => ?_)
  · have h := h.1 hc
    refine lv_iconst (v := 0) hx hb dX2_counts_24 (by decide) ?_
    exact gl_iretz G hK (u := ()) hP hD hS (by decide) h dX2_counts_25
  · have h := h.2 hc
    refine lv_aload_n hx hb dX2_counts_10 rfl (lv_at hl 0 rfl) ?_
    refine va_get (D := D) (ci := 2) (v := .ref (ad_o 2)) (C := RX2) (T := TX2) (N := 7) hx hb hts us_X2_counts_X2 hown hK hP 0 rfl rfl 1 (by decide) (hts (.fieldLink RX2 15 "RollHouse$Post" "days" "[I") lk_X2_counts_1) (fun _ h9 => h9) rfl dX2_counts_11 ?_
    refine lv_iload_n hx hb dX2_counts_14 rfl (lv_at hl 1 rfl) ?_
    obtain ⟨hin, h⟩ := h
    refine va_iald hx hb hK hP 2 0 rfl rfl hin dX2_counts_15 ?_
    refine lv_iload_n hx hb dX2_counts_16 rfl (lv_at hl 2 rfl) ?_
    refine lv_icmp_gt (tgt := 24) hx hb dX2_counts_17 (by decide) (fun hc => ?_) (fun hc => ?_)
    · have h := h.1 hc
      refine lv_iconst (v := 0) hx hb dX2_counts_24 (by decide) ?_
      exact gl_iretz G hK (u := ()) hP hD hS (by decide) h dX2_counts_25
    · have h := h.2 hc
      refine lv_iconst (v := 1) hx hb dX2_counts_20 (by decide) ?_
      refine lv_goto (tgt := 25) hx hb dX2_counts_21 (by decide) ?_
      exact gl_iretz G hK (u := ()) hP hD hS (by decide) h dX2_counts_25
set_option maxRecDepth 100000 in
theorem mt_X2_counts (l : Launch) (D : va_G) (cI cZ cR : ClassId) (ad_o : Nat → Nat) (sz : Nat) (o_copies : Nat → Int32) (o_days : Nat → Int32) (o_places : Nat → Int32) (o_toldOn : Nat → Int32) (o_size : Int32) (o_today : Int32) (o_lineOfCopy : Nat → Int32) (v1 : Int32) (v2 : Int32) (v3 : Int32) (post : Int32 → Prop) (h : wp_X2_counts o_days o_toldOn v1 v2 v3 post) : Met l yX2_counts wsX2_counts ({ frames := 0, cells := 0, slots := 0, locals := 0 }) (gPc D (gT cI cZ cR) (w_O cI cZ cR ad_o o_copies o_days o_places o_toldOn o_size o_today o_lineOfCopy) sz [.ref (ad_o 0), .int v1, .int v2, .int v3]) (va_Qi (fun (r : Int32) (u : Unit) => post r ) (fun u t => gB D (gT cI cZ cR) (va_A (w_O cI cZ cR ad_o o_copies o_days o_places o_toldOn o_size o_today o_lineOfCopy) sz) (w_O cI cZ cR ad_o o_copies o_days o_places o_toldOn o_size o_today o_lineOfCopy) t) (va_A (w_O cI cZ cR ad_o o_copies o_days o_places o_toldOn o_size o_today o_lineOfCopy) sz)) 0 0 (va_A (w_O cI cZ cR ad_o o_copies o_days o_places o_toldOn o_size o_today o_lineOfCopy) sz) := by
  refine gl_entry (cc := cX2_counts) (maxL := 4) (ret := (some .boolean)) (by decide) rfl (Nat.le_of_ble_eq_true rfl) ?_
  intro p e s m below meth c ls G hin hsz hK hN hP hD hl
  subst hsz
  exact ml_X2_counts_0 G hK hN (fun q h => Or.inr h) o_days o_toldOn v1 v2 v3 post h s.heap [] hP hD va_S.rf ls hl
theorem lk_X2_standsInPlaceOf_0 : (Cond.fieldLink RX2 15 "RollHouse$Post" "days" "[I") ∈ wsX2_standsInPlaceOf := by decide +kernel
theorem us_X2_standsInPlaceOf_X2 : ∀ w ∈ u_ws RX2 TX2 7, w ∈ wsX2_standsInPlaceOf := by decide +kernel
def wp_X2_standsInPlaceOf (o_days : Nat → Int32) (v1 : Int32) (v2 : Int32) (post : Int32 → Prop) : Prop := ((v2 = (-1) → post 1 ) ∧ (¬ v2 = (-1) → (vp_in v1 200 ∧ (vp_in v2 200 ∧ (((o_days v1.toNatClampNeg) < (o_days v2.toNatClampNeg) → post 0 ) ∧ (¬ (o_days v1.toNatClampNeg) < (o_days v2.toNatClampNeg) → post 1 ))))))
set_option maxRecDepth 100000 in
set_option maxHeartbeats 4000000 in
theorem ml_X2_standsInPlaceOf_0 {p : Program} {l : Launch} {e : Env} {s : State} {m : MethodId} {args : Array Value} {below : List Frame} {meth : Method} {c : Code} {D : va_G} {cI cZ cR : ClassId} {A : Nat → Prop} {ad_o : Nat → Nat} {o_copies : Nat → Int32} {o_places : Nat → Int32} {o_toldOn : Nat → Int32} {o_size : Int32} {o_today : Int32} {o_lineOfCopy : Nat → Int32} (G : gG p s m args meth c cX2_standsInPlaceOf (some .boolean) 3 RX2 wsX2_standsInPlaceOf) (hK : va_K D vwCl (gT cI cZ cR) s) (hN : va_Nw gN s) (hA : ∀ q, s.heap.size ≤ q → A q) (o_days : Nat → Int32) (v1 : Int32) (v2 : Int32) (post : Int32 → Prop)  (h : wp_X2_standsInPlaceOf o_days v1 v2 post) : ∀ (H : Heap) (locs : List Loc), va_P D vwCl (w_O cI cZ cR ad_o o_copies o_days o_places o_toldOn o_size o_today o_lineOfCopy) H → va_D A (w_O cI cZ cR ad_o o_copies o_days o_places o_toldOn o_size o_today o_lineOfCopy) → va_S A s.heap H locs → ∀ (ls : Array Slot), lv_has ls 3 [(0, .ref (ad_o 0)), (1, .int v1), (2, .int v2)] → W p l e { frames := 0, cells := 0, slots := 0, locals := 0 } s m args below meth c H locs 0 0 (MQ below (va_Qi (fun (r : Int32) (u : Unit) => post r ) (fun u t => gB D (gT cI cZ cR) A (w_O cI cZ cR ad_o o_copies o_days o_places o_toldOn o_size o_today o_lineOfCopy) t) A) args s 0 0 A) (F0 m 0 ls []) := by
  obtain ⟨hx, hb, hr, hml, hown, hts, hlocks⟩ := id G
  intro H locs hP hD hS ls hl
  unfold wp_X2_standsInPlaceOf at h
  refine lv_iload_n hx hb dX2_standsInPlaceOf_0 rfl (lv_at hl 2 rfl) ?_
  refine lv_iconst (v := (-1)) hx hb dX2_standsInPlaceOf_1 (by decide) ?_
  refine lv_icmp_eq (tgt := 20) hx hb dX2_standsInPlaceOf_2 (by decide) (fun hc => ?_) (fun hc => ?_)
  · have h := h.1 hc
    refine lv_iconst (v := 1) hx hb dX2_standsInPlaceOf_20 (by decide) ?_
    refine lv_goto (tgt := 25) hx hb dX2_standsInPlaceOf_21 (by decide) ?_
    exact gl_iretz G hK (u := ()) hP hD hS (by decide) h dX2_standsInPlaceOf_25
  · have h := h.2 hc
    refine lv_aload_n hx hb dX2_standsInPlaceOf_5 rfl (lv_at hl 0 rfl) ?_
    refine va_get (D := D) (ci := 2) (v := .ref (ad_o 2)) (C := RX2) (T := TX2) (N := 7) hx hb hts us_X2_standsInPlaceOf_X2 hown hK hP 0 rfl rfl 1 (by decide) (hts (.fieldLink RX2 15 "RollHouse$Post" "days" "[I") lk_X2_standsInPlaceOf_0) (fun _ h9 => h9) rfl dX2_standsInPlaceOf_6 ?_
    refine lv_iload_n hx hb dX2_standsInPlaceOf_9 rfl (lv_at hl 1 rfl) ?_
    obtain ⟨hin, h⟩ := h
    refine va_iald hx hb hK hP 2 0 rfl rfl hin dX2_standsInPlaceOf_10 ?_
    refine lv_aload_n hx hb dX2_standsInPlaceOf_11 rfl (lv_at hl 0 rfl) ?_
    refine va_get (D := D) (ci := 2) (v := .ref (ad_o 2)) (C := RX2) (T := TX2) (N := 7) hx hb hts us_X2_standsInPlaceOf_X2 hown hK hP 0 rfl rfl 1 (by decide) (hts (.fieldLink RX2 15 "RollHouse$Post" "days" "[I") lk_X2_standsInPlaceOf_0) (fun _ h9 => h9) rfl dX2_standsInPlaceOf_12 ?_
    refine lv_iload_n hx hb dX2_standsInPlaceOf_15 rfl (lv_at hl 2 rfl) ?_
    obtain ⟨hin, h⟩ := h
    refine va_iald hx hb hK hP 2 0 rfl rfl hin dX2_standsInPlaceOf_16 ?_
    refine lv_icmp_lt (tgt := 24) hx hb dX2_standsInPlaceOf_17 (by decide) (fun hc => ?_) (fun hc => ?_)
    · have h := h.1 hc
      refine lv_iconst (v := 0) hx hb dX2_standsInPlaceOf_24 (by decide) ?_
      exact gl_iretz G hK (u := ()) hP hD hS (by decide) h dX2_standsInPlaceOf_25
    · have h := h.2 hc
      refine lv_iconst (v := 1) hx hb dX2_standsInPlaceOf_20 (by decide) ?_
      refine lv_goto (tgt := 25) hx hb dX2_standsInPlaceOf_21 (by decide) ?_
      exact gl_iretz G hK (u := ()) hP hD hS (by decide) h dX2_standsInPlaceOf_25
set_option maxRecDepth 100000 in
theorem mt_X2_standsInPlaceOf (l : Launch) (D : va_G) (cI cZ cR : ClassId) (ad_o : Nat → Nat) (sz : Nat) (o_copies : Nat → Int32) (o_days : Nat → Int32) (o_places : Nat → Int32) (o_toldOn : Nat → Int32) (o_size : Int32) (o_today : Int32) (o_lineOfCopy : Nat → Int32) (v1 : Int32) (v2 : Int32) (post : Int32 → Prop) (h : wp_X2_standsInPlaceOf o_days v1 v2 post) : Met l yX2_standsInPlaceOf wsX2_standsInPlaceOf ({ frames := 0, cells := 0, slots := 0, locals := 0 }) (gPc D (gT cI cZ cR) (w_O cI cZ cR ad_o o_copies o_days o_places o_toldOn o_size o_today o_lineOfCopy) sz [.ref (ad_o 0), .int v1, .int v2]) (va_Qi (fun (r : Int32) (u : Unit) => post r ) (fun u t => gB D (gT cI cZ cR) (va_A (w_O cI cZ cR ad_o o_copies o_days o_places o_toldOn o_size o_today o_lineOfCopy) sz) (w_O cI cZ cR ad_o o_copies o_days o_places o_toldOn o_size o_today o_lineOfCopy) t) (va_A (w_O cI cZ cR ad_o o_copies o_days o_places o_toldOn o_size o_today o_lineOfCopy) sz)) 0 0 (va_A (w_O cI cZ cR ad_o o_copies o_days o_places o_toldOn o_size o_today o_lineOfCopy) sz) := by
  refine gl_entry (cc := cX2_standsInPlaceOf) (maxL := 3) (ret := (some .boolean)) (by decide) rfl (Nat.le_of_ble_eq_true rfl) ?_
  intro p e s m below meth c ls G hin hsz hK hN hP hD hl
  subst hsz
  exact ml_X2_standsInPlaceOf_0 G hK hN (fun q h => Or.inr h) o_days v1 v2 post h s.heap [] hP hD va_S.rf ls hl
theorem lk_X2_placeOf_0 : (Cond.fieldLink RX2 24 "RollHouse$Post" "size" "I") ∈ wsX2_placeOf := by decide +kernel
theorem lk_X2_placeOf_1 : (Cond.fieldLink RX2 18 "RollHouse$Post" "places" "[I") ∈ wsX2_placeOf := by decide +kernel
theorem lk_X2_placeOf_2 : (Cond.fieldLink RX2 11 "RollHouse$Post" "copies" "[I") ∈ wsX2_placeOf := by decide +kernel
theorem us_X2_placeOf_X2 : ∀ w ∈ u_ws RX2 TX2 7, w ∈ wsX2_placeOf := by decide +kernel
def wl_X2_placeOf_6 (o_copies : Nat → Int32) (o_days : Nat → Int32) (o_places : Nat → Int32) (o_toldOn : Nat → Int32) (o_size : Int32) (v1 : Int32) (v2 : Int32) (v3 : Int32) (post : Int32 → Prop) : Nat → (Int32) → (Int32) → Prop
  | 0, _, _ => False
  | fu + 1, v4, v5 => ((o_size ≤ v5 → ((¬ v4 = (-1) → (vp_in v4 200 ∧ post (o_places v4.toNatClampNeg) )) ∧ (v4 = (-1) → post 0 ))) ∧ (¬ o_size ≤ v5 → (vp_in v5 200 ∧ ((¬ (o_copies v5.toNatClampNeg) = v1 → wl_X2_placeOf_6 o_copies o_days o_places o_toldOn o_size v1 v2 v3 post fu v4 (v5 + 1)) ∧ ((o_copies v5.toNatClampNeg) = v1 → (wp_X2_counts o_days o_toldOn v5 v2 v3 (fun (r1 : Int32) => ((r1 = 0 → wl_X2_placeOf_6 o_copies o_days o_places o_toldOn o_size v1 v2 v3 post fu v4 (v5 + 1)) ∧ (¬ r1 = 0 → (wp_X2_standsInPlaceOf o_days v5 v4 (fun (r2 : Int32) => ((r2 = 0 → wl_X2_placeOf_6 o_copies o_days o_places o_toldOn o_size v1 v2 v3 post fu v4 (v5 + 1)) ∧ (¬ r2 = 0 → wl_X2_placeOf_6 o_copies o_days o_places o_toldOn o_size v1 v2 v3 post fu v5 (v5 + 1))))))))))))))
def wp_X2_placeOf (o_copies : Nat → Int32) (o_days : Nat → Int32) (o_places : Nat → Int32) (o_toldOn : Nat → Int32) (o_size : Int32) (v1 : Int32) (v2 : Int32) (v3 : Int32) (post : Int32 → Prop) : Prop := (∃ n, wl_X2_placeOf_6 o_copies o_days o_places o_toldOn o_size v1 v2 v3 post n (-1) 0)
set_option maxRecDepth 100000 in
set_option maxHeartbeats 4000000 in
theorem ml_X2_placeOf_6 {p : Program} {l : Launch} {e : Env} {s : State} {m : MethodId} {args : Array Value} {below : List Frame} {meth : Method} {c : Code} {D : va_G} {cI cZ cR : ClassId} {A : Nat → Prop} {ad_o : Nat → Nat} {o_today : Int32} {o_lineOfCopy : Nat → Int32} (G : gG p s m args meth c cX2_placeOf (some .int) 6 RX2 wsX2_placeOf) (hK : va_K D vwCl (gT cI cZ cR) s) (hN : va_Nw gN s) (hA : ∀ q, s.heap.size ≤ q → A q) (o_copies : Nat → Int32) (o_days : Nat → Int32) (o_places : Nat → Int32) (o_toldOn : Nat → Int32) (o_size : Int32) (v1 : Int32) (v2 : Int32) (v3 : Int32) (post : Int32 → Prop) : ∀ (fu : Nat) (v4 : Int32) (v5 : Int32), wl_X2_placeOf_6 o_copies o_days o_places o_toldOn o_size v1 v2 v3 post fu v4 v5 → ∀ (H : Heap) (locs : List Loc), va_P D vwCl (w_O cI cZ cR ad_o o_copies o_days o_places o_toldOn o_size o_today o_lineOfCopy) H → va_D A (w_O cI cZ cR ad_o o_copies o_days o_places o_toldOn o_size o_today o_lineOfCopy) → va_S A s.heap H locs → ∀ (ls : Array Slot), lv_has ls 6 [(0, .ref (ad_o 0)), (1, .int v1), (2, .int v2), (3, .int v3), (4, .int v4), (5, .int v5)] → W p l e { frames := 1, cells := 0, slots := 0, locals := 23 } s m args below meth c H locs 0 0 (MQ below (va_Qi (fun (r : Int32) (u : Unit) => post r ) (fun u t => gB D (gT cI cZ cR) A (w_O cI cZ cR ad_o o_copies o_days o_places o_toldOn o_size o_today o_lineOfCopy) t) A) args s 0 0 A) (F0 m 6 ls []) := by
  obtain ⟨hx, hb, hr, hml, hown, hts, hlocks⟩ := id G
  intro fu
  induction fu with
  | zero =>
    intro v4 v5 h
    exact h.elim
  | succ fu ih =>
    intro v4 v5 h H locs hP hD hS ls hl
    rw [wl_X2_placeOf_6] at h
    refine lv_iload hx hb dX2_placeOf_6 (lv_at hl 5 rfl) ?_
    refine lv_aload_n hx hb dX2_placeOf_8 rfl (lv_at hl 0 rfl) ?_
    refine va_get (D := D) (ci := 2) (v := .int o_size) (C := RX2) (T := TX2) (N := 7) hx hb hts us_X2_placeOf_X2 hown hK hP 0 rfl rfl 4 (by decide) (hts (.fieldLink RX2 24 "RollHouse$Post" "size" "I") lk_X2_placeOf_0) (fun _ h9 => h9) rfl dX2_placeOf_9 ?_
    refine lv_icmp_ge (tgt := 58) hx hb dX2_placeOf_12 (by decide) (fun hc => ?_) (fun hc => ?_)
    · have h := h.1 hc
      refine lv_iload hx hb dX2_placeOf_58 (lv_at hl 4 rfl) ?_
      refine lv_iconst (v := (-1)) hx hb dX2_placeOf_60 (by decide) ?_
      refine lv_icmp_ne (tgt := 68) hx hb dX2_placeOf_61 (by decide) (fun hc => ?_) (fun hc => ?_)
      · have h := h.1 hc
        refine lv_aload_n hx hb dX2_placeOf_68 rfl (lv_at hl 0 rfl) ?_
        refine va_get (D := D) (ci := 2) (v := .ref (ad_o 3)) (C := RX2) (T := TX2) (N := 7) hx hb hts us_X2_placeOf_X2 hown hK hP 0 rfl rfl 2 (by decide) (hts (.fieldLink RX2 18 "RollHouse$Post" "places" "[I") lk_X2_placeOf_1) (fun _ h9 => h9) rfl dX2_placeOf_69 ?_
        refine lv_iload hx hb dX2_placeOf_72 (lv_at hl 4 rfl) ?_
        obtain ⟨hin, h⟩ := h
        refine va_iald hx hb hK hP 3 0 rfl rfl hin dX2_placeOf_74 ?_
        exact gl_ireti G hK (u := ()) hP hD hS h dX2_placeOf_75
      · have h := h.2 hc
        refine lv_iconst (v := 0) hx hb dX2_placeOf_64 (by decide) ?_
        refine lv_goto (tgt := 75) hx hb dX2_placeOf_65 (by decide) ?_
        exact gl_ireti G hK (u := ()) hP hD hS h dX2_placeOf_75
    · have h := h.2 hc
      refine lv_aload_n hx hb dX2_placeOf_15 rfl (lv_at hl 0 rfl) ?_
      refine va_get (D := D) (ci := 2) (v := .ref (ad_o 1)) (C := RX2) (T := TX2) (N := 7) hx hb hts us_X2_placeOf_X2 hown hK hP 0 rfl rfl 0 (by decide) (hts (.fieldLink RX2 11 "RollHouse$Post" "copies" "[I") lk_X2_placeOf_2) (fun _ h9 => h9) rfl dX2_placeOf_16 ?_
      refine lv_iload hx hb dX2_placeOf_19 (lv_at hl 5 rfl) ?_
      obtain ⟨hin, h⟩ := h
      refine va_iald hx hb hK hP 1 0 rfl rfl hin dX2_placeOf_21 ?_
      refine lv_iload_n hx hb dX2_placeOf_22 rfl (lv_at hl 1 rfl) ?_
      refine lv_icmp_ne (tgt := 52) hx hb dX2_placeOf_23 (by decide) (fun hc => ?_) (fun hc => ?_)
      · have h := h.1 hc
        refine lv_iinc (v := v5 + 1) (lv' := [(5, .int (v5 + 1)), (0, .ref (ad_o 0)), (1, .int v1), (2, .int v2), (3, .int v3), (4, .int v4)]) hx hb dX2_placeOf_52 hl (k := 5) rfl rfl (by decide) rfl (fun ls hl => ?_)
        refine lv_goto (tgt := 6) hx hb dX2_placeOf_55 (by decide) ?_
        exact ih v4 (v5 + 1) h H locs hP hD hS ls (lv_sub hl [1, 2, 3, 4, 5, 0] rfl)
      · have h := h.2 hc
        refine lv_aload_n hx hb dX2_placeOf_26 rfl (lv_at hl 0 rfl) ?_
        refine lv_iload hx hb dX2_placeOf_27 (lv_at hl 5 rfl) ?_
        refine lv_iload_n hx hb dX2_placeOf_29 rfl (lv_at hl 2 rfl) ?_
        refine lv_iload_n hx hb dX2_placeOf_30 rfl (lv_at hl 3 rfl) ?_
        refine gl_calliF (va_runV (As := [.int v5, .int v2, .int v3]) (rest := []) ⟨hx, hb, hml, hown, hts⟩ (mt_X2_counts l D cI cZ cR ad_o H.size o_copies o_days o_places o_toldOn o_size o_today o_lineOfCopy v5 v2 v3 _ h) (cwV 3 hts gX2_placeOf_X2_counts rfl rfl rfl (by decide +kernel) ⟨Nat.le_of_ble_eq_true rfl, Nat.le_of_ble_eq_true rfl⟩) ⟨gl_blind, va_recv hK hP (ci := 2) (q0 := 0) rfl rfl, gl_pre hP hK hN hD⟩ rfl rfl hl.1 rfl (lv_room (Nat.le_of_ble_eq_true rfl)) dX2_placeOf_31 ⟨Nat.le_of_ble_eq_true rfl, Nat.le_of_ble_eq_true rfl⟩) hD hS hA (fun r1 u H locs h hP hD hS => ?_)
        try dsimp only at h
        refine lv_if_eq (tgt := 52) hx hb dX2_placeOf_34 (by decide) (fun hc => ?_) (fun hc => ?_)
        · have h := h.1 hc
          refine lv_iinc (v := v5 + 1) (lv' := [(5, .int (v5 + 1)), (0, .ref (ad_o 0)), (1, .int v1), (2, .int v2), (3, .int v3), (4, .int v4)]) hx hb dX2_placeOf_52 hl (k := 5) rfl rfl (by decide) rfl (fun ls hl => ?_)
          refine lv_goto (tgt := 6) hx hb dX2_placeOf_55 (by decide) ?_
          exact ih v4 (v5 + 1) h H locs hP hD hS ls (lv_sub hl [1, 2, 3, 4, 5, 0] rfl)
        · have h := h.2 hc
          refine lv_aload_n hx hb dX2_placeOf_37 rfl (lv_at hl 0 rfl) ?_
          refine lv_iload hx hb dX2_placeOf_38 (lv_at hl 5 rfl) ?_
          refine lv_iload hx hb dX2_placeOf_40 (lv_at hl 4 rfl) ?_
          refine gl_calliF (va_runV (As := [.int v5, .int v4]) (rest := []) ⟨hx, hb, hml, hown, hts⟩ (mt_X2_standsInPlaceOf l D cI cZ cR ad_o H.size o_copies o_days o_places o_toldOn o_size o_today o_lineOfCopy v5 v4 _ h) (cwV 2 hts gX2_placeOf_X2_standsInPlaceOf rfl rfl rfl (by decide +kernel) ⟨Nat.le_of_ble_eq_true rfl, Nat.le_of_ble_eq_true rfl⟩) ⟨gl_blind, va_recv hK hP (ci := 2) (q0 := 0) rfl rfl, gl_pre hP hK hN hD⟩ rfl rfl hl.1 rfl (lv_room (Nat.le_of_ble_eq_true rfl)) dX2_placeOf_42 ⟨Nat.le_of_ble_eq_true rfl, Nat.le_of_ble_eq_true rfl⟩) hD hS hA (fun r2 u H locs h hP hD hS => ?_)
          try dsimp only at h
          refine lv_if_eq (tgt := 52) hx hb dX2_placeOf_45 (by decide) (fun hc => ?_) (fun hc => ?_)
          · have h := h.1 hc
            refine lv_iinc (v := v5 + 1) (lv' := [(5, .int (v5 + 1)), (0, .ref (ad_o 0)), (1, .int v1), (2, .int v2), (3, .int v3), (4, .int v4)]) hx hb dX2_placeOf_52 hl (k := 5) rfl rfl (by decide) rfl (fun ls hl => ?_)
            refine lv_goto (tgt := 6) hx hb dX2_placeOf_55 (by decide) ?_
            exact ih v4 (v5 + 1) h H locs hP hD hS ls (lv_sub hl [1, 2, 3, 4, 5, 0] rfl)
          · have h := h.2 hc
            refine lv_iload hx hb dX2_placeOf_48 (lv_at hl 5 rfl) ?_
            refine lv_istore (lv' := [(4, .int v5), (0, .ref (ad_o 0)), (1, .int v1), (2, .int v2), (3, .int v3), (5, .int v5)]) hx hb dX2_placeOf_50 hl (by decide) rfl (fun ls hl => ?_)
            refine lv_iinc (v := v5 + 1) (lv' := [(5, .int (v5 + 1)), (4, .int v5), (0, .ref (ad_o 0)), (1, .int v1), (2, .int v2), (3, .int v3)]) hx hb dX2_placeOf_52 hl (k := 5) rfl rfl (by decide) rfl (fun ls hl => ?_)
            refine lv_goto (tgt := 6) hx hb dX2_placeOf_55 (by decide) ?_
            exact ih v5 (v5 + 1) h H locs hP hD hS ls (lv_sub hl [2, 3, 4, 5, 1, 0] rfl)
set_option maxRecDepth 100000 in
set_option maxHeartbeats 4000000 in
theorem ml_X2_placeOf_0 {p : Program} {l : Launch} {e : Env} {s : State} {m : MethodId} {args : Array Value} {below : List Frame} {meth : Method} {c : Code} {D : va_G} {cI cZ cR : ClassId} {A : Nat → Prop} {ad_o : Nat → Nat} {o_today : Int32} {o_lineOfCopy : Nat → Int32} (G : gG p s m args meth c cX2_placeOf (some .int) 6 RX2 wsX2_placeOf) (hK : va_K D vwCl (gT cI cZ cR) s) (hN : va_Nw gN s) (hA : ∀ q, s.heap.size ≤ q → A q) (o_copies : Nat → Int32) (o_days : Nat → Int32) (o_places : Nat → Int32) (o_toldOn : Nat → Int32) (o_size : Int32) (v1 : Int32) (v2 : Int32) (v3 : Int32) (post : Int32 → Prop)  (h : wp_X2_placeOf o_copies o_days o_places o_toldOn o_size v1 v2 v3 post) : ∀ (H : Heap) (locs : List Loc), va_P D vwCl (w_O cI cZ cR ad_o o_copies o_days o_places o_toldOn o_size o_today o_lineOfCopy) H → va_D A (w_O cI cZ cR ad_o o_copies o_days o_places o_toldOn o_size o_today o_lineOfCopy) → va_S A s.heap H locs → ∀ (ls : Array Slot), lv_has ls 6 [(0, .ref (ad_o 0)), (1, .int v1), (2, .int v2), (3, .int v3)] → W p l e { frames := 1, cells := 0, slots := 0, locals := 23 } s m args below meth c H locs 0 0 (MQ below (va_Qi (fun (r : Int32) (u : Unit) => post r ) (fun u t => gB D (gT cI cZ cR) A (w_O cI cZ cR ad_o o_copies o_days o_places o_toldOn o_size o_today o_lineOfCopy) t) A) args s 0 0 A) (F0 m 0 ls []) := by
  obtain ⟨hx, hb, hr, hml, hown, hts, hlocks⟩ := id G
  intro H locs hP hD hS ls hl
  unfold wp_X2_placeOf at h
  refine lv_iconst (v := (-1)) hx hb dX2_placeOf_0 (by decide) ?_
  refine lv_istore (lv' := [(4, .int (-1)), (0, .ref (ad_o 0)), (1, .int v1), (2, .int v2), (3, .int v3)]) hx hb dX2_placeOf_1 hl (by decide) rfl (fun ls hl => ?_)
  refine lv_iconst (v := 0) hx hb dX2_placeOf_3 (by decide) ?_
  refine lv_istore (lv' := [(5, .int 0), (4, .int (-1)), (0, .ref (ad_o 0)), (1, .int v1), (2, .int v2), (3, .int v3)]) hx hb dX2_placeOf_4 hl (by decide) rfl (fun ls hl => ?_)
  obtain ⟨nf, h⟩ := h
  exact ml_X2_placeOf_6 G hK hN hA o_copies o_days o_places o_toldOn o_size v1 v2 v3 post nf (-1) 0 h H locs hP hD hS ls (lv_sub hl [2, 3, 4, 5, 1, 0] rfl)
set_option maxRecDepth 100000 in
theorem mt_X2_placeOf (l : Launch) (D : va_G) (cI cZ cR : ClassId) (ad_o : Nat → Nat) (sz : Nat) (o_copies : Nat → Int32) (o_days : Nat → Int32) (o_places : Nat → Int32) (o_toldOn : Nat → Int32) (o_size : Int32) (o_today : Int32) (o_lineOfCopy : Nat → Int32) (v1 : Int32) (v2 : Int32) (v3 : Int32) (post : Int32 → Prop) (h : wp_X2_placeOf o_copies o_days o_places o_toldOn o_size v1 v2 v3 post) : Met l yX2_placeOf wsX2_placeOf ({ frames := 1, cells := 0, slots := 0, locals := 23 }) (gPc D (gT cI cZ cR) (w_O cI cZ cR ad_o o_copies o_days o_places o_toldOn o_size o_today o_lineOfCopy) sz [.ref (ad_o 0), .int v1, .int v2, .int v3]) (va_Qi (fun (r : Int32) (u : Unit) => post r ) (fun u t => gB D (gT cI cZ cR) (va_A (w_O cI cZ cR ad_o o_copies o_days o_places o_toldOn o_size o_today o_lineOfCopy) sz) (w_O cI cZ cR ad_o o_copies o_days o_places o_toldOn o_size o_today o_lineOfCopy) t) (va_A (w_O cI cZ cR ad_o o_copies o_days o_places o_toldOn o_size o_today o_lineOfCopy) sz)) 0 0 (va_A (w_O cI cZ cR ad_o o_copies o_days o_places o_toldOn o_size o_today o_lineOfCopy) sz) := by
  refine gl_entry (cc := cX2_placeOf) (maxL := 6) (ret := (some .int)) (by decide) rfl (Nat.le_of_ble_eq_true rfl) ?_
  intro p e s m below meth c ls G hin hsz hK hN hP hD hl
  subst hsz
  exact ml_X2_placeOf_0 G hK hN (fun q h => Or.inr h) o_copies o_days o_places o_toldOn o_size v1 v2 v3 post h s.heap [] hP hD va_S.rf ls hl
theorem lk_X2_copiesIn_0 : (Cond.fieldLink RX2 24 "RollHouse$Post" "size" "I") ∈ wsX2_copiesIn := by decide +kernel
theorem lk_X2_copiesIn_1 : (Cond.fieldLink RX2 31 "RollHouse$Post" "lineOfCopy" "[I") ∈ wsX2_copiesIn := by decide +kernel
theorem lk_X2_copiesIn_2 : (Cond.fieldLink RX2 11 "RollHouse$Post" "copies" "[I") ∈ wsX2_copiesIn := by decide +kernel
theorem lk_X2_copiesIn_3 : (Cond.fieldLink RX2 18 "RollHouse$Post" "places" "[I") ∈ wsX2_copiesIn := by decide +kernel
theorem us_X2_copiesIn_X2 : ∀ w ∈ u_ws RX2 TX2 7, w ∈ wsX2_copiesIn := by decide +kernel
def wl_X2_copiesIn_101 (o_copies : Nat → Int32) (o_days : Nat → Int32) (o_places : Nat → Int32) (o_toldOn : Nat → Int32) (o_size : Int32) (v1 : Int32) (v2 : Int32) (v3 : Int32) (post : Int32 → (Nat → Int32) → Prop) : Nat → (Int32) → (Int32) → (Nat → Int32) → Prop
  | 0, _, _, _ => False
  | fu + 1, v4, v5, o_lineOfCopy => ((o_size ≤ v5 → post v4 o_lineOfCopy) ∧ (¬ o_size ≤ v5 → (vp_in v5 200 ∧ (vp_in (o_copies v5.toNatClampNeg) 1001 ∧ ((¬ (o_lineOfCopy (o_copies v5.toNatClampNeg).toNatClampNeg) = v5 → wl_X2_copiesIn_101 o_copies o_days o_places o_toldOn o_size v1 v2 v3 post fu v4 (v5 + 1) o_lineOfCopy) ∧ ((o_lineOfCopy (o_copies v5.toNatClampNeg).toNatClampNeg) = v5 → (vp_in v5 200 ∧ ((¬ (o_places v5.toNatClampNeg) = v1 → wl_X2_copiesIn_101 o_copies o_days o_places o_toldOn o_size v1 v2 v3 post fu v4 (v5 + 1) o_lineOfCopy) ∧ ((o_places v5.toNatClampNeg) = v1 → wl_X2_copiesIn_101 o_copies o_days o_places o_toldOn o_size v1 v2 v3 post fu (v4 + 1) (v5 + 1) o_lineOfCopy)))))))))
def wl_X2_copiesIn_34 (o_copies : Nat → Int32) (o_days : Nat → Int32) (o_places : Nat → Int32) (o_toldOn : Nat → Int32) (o_size : Int32) (v1 : Int32) (v2 : Int32) (v3 : Int32) (post : Int32 → (Nat → Int32) → Prop) : Nat → (Int32) → (Nat → Int32) → Prop
  | 0, _, _ => False
  | fu + 1, v4, o_lineOfCopy => ((o_size ≤ v4 → (∃ n, wl_X2_copiesIn_101 o_copies o_days o_places o_toldOn o_size v1 v2 v3 post n 0 0 o_lineOfCopy)) ∧ (¬ o_size ≤ v4 → (wp_X2_counts o_days o_toldOn v4 v2 v3 (fun (r2 : Int32) => ((r2 = 0 → wl_X2_copiesIn_34 o_copies o_days o_places o_toldOn o_size v1 v2 v3 post fu (v4 + 1) o_lineOfCopy) ∧ (¬ r2 = 0 → (vp_in v4 200 ∧ (vp_in (o_copies v4.toNatClampNeg) 1001 ∧ (wp_X2_standsInPlaceOf o_days v4 (o_lineOfCopy (o_copies v4.toNatClampNeg).toNatClampNeg) (fun (r3 : Int32) => ((r3 = 0 → wl_X2_copiesIn_34 o_copies o_days o_places o_toldOn o_size v1 v2 v3 post fu (v4 + 1) o_lineOfCopy) ∧ (¬ r3 = 0 → (vp_in v4 200 ∧ (vp_in (o_copies v4.toNatClampNeg) 1001 ∧ (∀ a4 : Nat → Int32, a4 = upd o_lineOfCopy (o_copies v4.toNatClampNeg).toNatClampNeg v4 → wl_X2_copiesIn_34 o_copies o_days o_places o_toldOn o_size v1 v2 v3 post fu (v4 + 1) a4)))))))))))))))
def wl_X2_copiesIn_3 (o_copies : Nat → Int32) (o_days : Nat → Int32) (o_places : Nat → Int32) (o_toldOn : Nat → Int32) (o_size : Int32) (v1 : Int32) (v2 : Int32) (v3 : Int32) (post : Int32 → (Nat → Int32) → Prop) : Nat → (Int32) → (Nat → Int32) → Prop
  | 0, _, _ => False
  | fu + 1, v4, o_lineOfCopy => ((o_size ≤ v4 → (∃ n, wl_X2_copiesIn_34 o_copies o_days o_places o_toldOn o_size v1 v2 v3 post n 0 o_lineOfCopy)) ∧ (¬ o_size ≤ v4 → (vp_in v4 200 ∧ (vp_in (o_copies v4.toNatClampNeg) 1001 ∧ (∀ a1 : Nat → Int32, a1 = upd o_lineOfCopy (o_copies v4.toNatClampNeg).toNatClampNeg (-1) → wl_X2_copiesIn_3 o_copies o_days o_places o_toldOn o_size v1 v2 v3 post fu (v4 + 1) a1)))))
def wp_X2_copiesIn (o_copies : Nat → Int32) (o_days : Nat → Int32) (o_places : Nat → Int32) (o_toldOn : Nat → Int32) (o_size : Int32) (v1 : Int32) (v2 : Int32) (v3 : Int32) (o_lineOfCopy : Nat → Int32) (post : Int32 → (Nat → Int32) → Prop) : Prop := (∃ n, wl_X2_copiesIn_3 o_copies o_days o_places o_toldOn o_size v1 v2 v3 post n 0 o_lineOfCopy)
set_option maxRecDepth 100000 in
set_option maxHeartbeats 4000000 in
theorem ml_X2_copiesIn_101 {p : Program} {l : Launch} {e : Env} {s : State} {m : MethodId} {args : Array Value} {below : List Frame} {meth : Method} {c : Code} {D : va_G} {cI cZ cR : ClassId} {A : Nat → Prop} {ad_o : Nat → Nat} {o_today : Int32} (G : gG p s m args meth c cX2_copiesIn (some .int) 6 RX2 wsX2_copiesIn) (hK : va_K D vwCl (gT cI cZ cR) s) (hN : va_Nw gN s) (hA : ∀ q, s.heap.size ≤ q → A q) (o_copies : Nat → Int32) (o_days : Nat → Int32) (o_places : Nat → Int32) (o_toldOn : Nat → Int32) (o_size : Int32) (v1 : Int32) (v2 : Int32) (v3 : Int32) (post : Int32 → (Nat → Int32) → Prop) : ∀ (fu : Nat) (v4 : Int32) (v5 : Int32) (o_lineOfCopy : Nat → Int32), wl_X2_copiesIn_101 o_copies o_days o_places o_toldOn o_size v1 v2 v3 post fu v4 v5 o_lineOfCopy → ∀ (H : Heap) (locs : List Loc), va_P D vwCl (w_O cI cZ cR ad_o o_copies o_days o_places o_toldOn o_size o_today o_lineOfCopy) H → va_D A (w_O cI cZ cR ad_o o_copies o_days o_places o_toldOn o_size o_today o_lineOfCopy) → va_S A s.heap H locs → ∀ (ls : Array Slot), lv_has ls 6 [(0, .ref (ad_o 0)), (1, .int v1), (4, .int v4), (5, .int v5)] → W p l e { frames := 1, cells := 0, slots := 0, locals := 23 } s m args below meth c H locs 0 0 (MQ below (va_Qi (fun (r : Int32) (u : (Nat → Int32)) => post r u) (fun u t => gB D (gT cI cZ cR) A (w_O cI cZ cR ad_o o_copies o_days o_places o_toldOn o_size o_today u) t) A) args s 0 0 A) (F0 m 101 ls []) := by
  obtain ⟨hx, hb, hr, hml, hown, hts, hlocks⟩ := id G
  intro fu
  induction fu with
  | zero =>
    intro v4 v5 o_lineOfCopy h
    exact h.elim
  | succ fu ih =>
    intro v4 v5 o_lineOfCopy h H locs hP hD hS ls hl
    rw [wl_X2_copiesIn_101] at h
    refine lv_iload hx hb dX2_copiesIn_101 (lv_at hl 3 rfl) ?_
    refine lv_aload_n hx hb dX2_copiesIn_103 rfl (lv_at hl 0 rfl) ?_
    refine va_get (D := D) (ci := 2) (v := .int o_size) (C := RX2) (T := TX2) (N := 7) hx hb hts us_X2_copiesIn_X2 hown hK hP 0 rfl rfl 4 (by decide) (hts (.fieldLink RX2 24 "RollHouse$Post" "size" "I") lk_X2_copiesIn_0) (fun _ h9 => h9) rfl dX2_copiesIn_104 ?_
    refine lv_icmp_ge (tgt := 147) hx hb dX2_copiesIn_107 (by decide) (fun hc => ?_) (fun hc => ?_)
    · have h := h.1 hc
      refine lv_iload hx hb dX2_copiesIn_147 (lv_at hl 2 rfl) ?_
      exact gl_ireti G hK (u := o_lineOfCopy) hP hD hS h dX2_copiesIn_149
    · have h := h.2 hc
      refine lv_aload_n hx hb dX2_copiesIn_110 rfl (lv_at hl 0 rfl) ?_
      refine va_get (D := D) (ci := 2) (v := .ref (ad_o 5)) (C := RX2) (T := TX2) (N := 7) hx hb hts us_X2_copiesIn_X2 hown hK hP 0 rfl rfl 6 (by decide) (hts (.fieldLink RX2 31 "RollHouse$Post" "lineOfCopy" "[I") lk_X2_copiesIn_1) (fun _ h9 => h9) rfl dX2_copiesIn_111 ?_
      refine lv_aload_n hx hb dX2_copiesIn_114 rfl (lv_at hl 0 rfl) ?_
      refine va_get (D := D) (ci := 2) (v := .ref (ad_o 1)) (C := RX2) (T := TX2) (N := 7) hx hb hts us_X2_copiesIn_X2 hown hK hP 0 rfl rfl 0 (by decide) (hts (.fieldLink RX2 11 "RollHouse$Post" "copies" "[I") lk_X2_copiesIn_2) (fun _ h9 => h9) rfl dX2_copiesIn_115 ?_
      refine lv_iload hx hb dX2_copiesIn_118 (lv_at hl 3 rfl) ?_
      obtain ⟨hin, h⟩ := h
      refine va_iald hx hb hK hP 1 0 rfl rfl hin dX2_copiesIn_120 ?_
      obtain ⟨hin, h⟩ := h
      refine va_iald hx hb hK hP 5 0 rfl rfl hin dX2_copiesIn_121 ?_
      refine lv_iload hx hb dX2_copiesIn_122 (lv_at hl 3 rfl) ?_
      refine lv_icmp_ne (tgt := 141) hx hb dX2_copiesIn_124 (by decide) (fun hc => ?_) (fun hc => ?_)
      · have h := h.1 hc
        refine lv_iinc (v := v5 + 1) (lv' := [(5, .int (v5 + 1)), (0, .ref (ad_o 0)), (1, .int v1), (4, .int v4)]) hx hb dX2_copiesIn_141 hl (k := 3) rfl rfl (by decide) rfl (fun ls hl => ?_)
        refine lv_goto (tgt := 101) hx hb dX2_copiesIn_144 (by decide) ?_
        exact ih v4 (v5 + 1) o_lineOfCopy h H locs hP hD hS ls (lv_sub hl [1, 2, 3, 0] rfl)
      · have h := h.2 hc
        refine lv_aload_n hx hb dX2_copiesIn_127 rfl (lv_at hl 0 rfl) ?_
        refine va_get (D := D) (ci := 2) (v := .ref (ad_o 3)) (C := RX2) (T := TX2) (N := 7) hx hb hts us_X2_copiesIn_X2 hown hK hP 0 rfl rfl 2 (by decide) (hts (.fieldLink RX2 18 "RollHouse$Post" "places" "[I") lk_X2_copiesIn_3) (fun _ h9 => h9) rfl dX2_copiesIn_128 ?_
        refine lv_iload hx hb dX2_copiesIn_131 (lv_at hl 3 rfl) ?_
        obtain ⟨hin, h⟩ := h
        refine va_iald hx hb hK hP 3 0 rfl rfl hin dX2_copiesIn_133 ?_
        refine lv_iload_n hx hb dX2_copiesIn_134 rfl (lv_at hl 1 rfl) ?_
        refine lv_icmp_ne (tgt := 141) hx hb dX2_copiesIn_135 (by decide) (fun hc => ?_) (fun hc => ?_)
        · have h := h.1 hc
          refine lv_iinc (v := v5 + 1) (lv' := [(5, .int (v5 + 1)), (0, .ref (ad_o 0)), (1, .int v1), (4, .int v4)]) hx hb dX2_copiesIn_141 hl (k := 3) rfl rfl (by decide) rfl (fun ls hl => ?_)
          refine lv_goto (tgt := 101) hx hb dX2_copiesIn_144 (by decide) ?_
          exact ih v4 (v5 + 1) o_lineOfCopy h H locs hP hD hS ls (lv_sub hl [1, 2, 3, 0] rfl)
        · have h := h.2 hc
          refine lv_iinc (v := v4 + 1) (lv' := [(4, .int (v4 + 1)), (0, .ref (ad_o 0)), (1, .int v1), (5, .int v5)]) hx hb dX2_copiesIn_138 hl (k := 2) rfl rfl (by decide) rfl (fun ls hl => ?_)
          refine lv_iinc (v := v5 + 1) (lv' := [(5, .int (v5 + 1)), (4, .int (v4 + 1)), (0, .ref (ad_o 0)), (1, .int v1)]) hx hb dX2_copiesIn_141 hl (k := 3) rfl rfl (by decide) rfl (fun ls hl => ?_)
          refine lv_goto (tgt := 101) hx hb dX2_copiesIn_144 (by decide) ?_
          exact ih (v4 + 1) (v5 + 1) o_lineOfCopy h H locs hP hD hS ls (lv_sub hl [2, 3, 1, 0] rfl)
set_option maxRecDepth 100000 in
set_option maxHeartbeats 4000000 in
theorem ml_X2_copiesIn_34 {p : Program} {l : Launch} {e : Env} {s : State} {m : MethodId} {args : Array Value} {below : List Frame} {meth : Method} {c : Code} {D : va_G} {cI cZ cR : ClassId} {A : Nat → Prop} {ad_o : Nat → Nat} {o_today : Int32} (G : gG p s m args meth c cX2_copiesIn (some .int) 6 RX2 wsX2_copiesIn) (hK : va_K D vwCl (gT cI cZ cR) s) (hN : va_Nw gN s) (hA : ∀ q, s.heap.size ≤ q → A q) (o_copies : Nat → Int32) (o_days : Nat → Int32) (o_places : Nat → Int32) (o_toldOn : Nat → Int32) (o_size : Int32) (v1 : Int32) (v2 : Int32) (v3 : Int32) (post : Int32 → (Nat → Int32) → Prop) : ∀ (fu : Nat) (v4 : Int32) (o_lineOfCopy : Nat → Int32), wl_X2_copiesIn_34 o_copies o_days o_places o_toldOn o_size v1 v2 v3 post fu v4 o_lineOfCopy → ∀ (H : Heap) (locs : List Loc), va_P D vwCl (w_O cI cZ cR ad_o o_copies o_days o_places o_toldOn o_size o_today o_lineOfCopy) H → va_D A (w_O cI cZ cR ad_o o_copies o_days o_places o_toldOn o_size o_today o_lineOfCopy) → va_S A s.heap H locs → ∀ (ls : Array Slot), lv_has ls 6 [(0, .ref (ad_o 0)), (1, .int v1), (2, .int v2), (3, .int v3), (4, .int v4)] → W p l e { frames := 1, cells := 0, slots := 0, locals := 23 } s m args below meth c H locs 0 0 (MQ below (va_Qi (fun (r : Int32) (u : (Nat → Int32)) => post r u) (fun u t => gB D (gT cI cZ cR) A (w_O cI cZ cR ad_o o_copies o_days o_places o_toldOn o_size o_today u) t) A) args s 0 0 A) (F0 m 34 ls []) := by
  obtain ⟨hx, hb, hr, hml, hown, hts, hlocks⟩ := id G
  intro fu
  induction fu with
  | zero =>
    intro v4 o_lineOfCopy h
    exact h.elim
  | succ fu ih =>
    intro v4 o_lineOfCopy h H locs hP hD hS ls hl
    rw [wl_X2_copiesIn_34] at h
    refine lv_iload hx hb dX2_copiesIn_34 (lv_at hl 4 rfl) ?_
    refine lv_aload_n hx hb dX2_copiesIn_36 rfl (lv_at hl 0 rfl) ?_
    refine va_get (D := D) (ci := 2) (v := .int o_size) (C := RX2) (T := TX2) (N := 7) hx hb hts us_X2_copiesIn_X2 hown hK hP 0 rfl rfl 4 (by decide) (hts (.fieldLink RX2 24 "RollHouse$Post" "size" "I") lk_X2_copiesIn_0) (fun _ h9 => h9) rfl dX2_copiesIn_37 ?_
    refine lv_icmp_ge (tgt := 95) hx hb dX2_copiesIn_40 (by decide) (fun hc => ?_) (fun hc => ?_)
    · have h := h.1 hc
      refine lv_iconst (v := 0) hx hb dX2_copiesIn_95 (by decide) ?_
      refine lv_istore (lv' := [(4, .int 0), (0, .ref (ad_o 0)), (1, .int v1), (2, .int v2), (3, .int v3)]) hx hb dX2_copiesIn_96 hl (by decide) rfl (fun ls hl => ?_)
      refine lv_iconst (v := 0) hx hb dX2_copiesIn_98 (by decide) ?_
      refine lv_istore (lv' := [(5, .int 0), (4, .int 0), (0, .ref (ad_o 0)), (1, .int v1), (2, .int v2), (3, .int v3)]) hx hb dX2_copiesIn_99 hl (by decide) rfl (fun ls hl => ?_)
      obtain ⟨nf, h⟩ := h
      exact ml_X2_copiesIn_101 G hK hN hA o_copies o_days o_places o_toldOn o_size v1 v2 v3 post nf 0 0 o_lineOfCopy h H locs hP hD hS ls (lv_sub hl [2, 3, 1, 0] rfl)
    · have h := h.2 hc
      refine lv_aload_n hx hb dX2_copiesIn_43 rfl (lv_at hl 0 rfl) ?_
      refine lv_iload hx hb dX2_copiesIn_44 (lv_at hl 4 rfl) ?_
      refine lv_iload_n hx hb dX2_copiesIn_46 rfl (lv_at hl 2 rfl) ?_
      refine lv_iload_n hx hb dX2_copiesIn_47 rfl (lv_at hl 3 rfl) ?_
      refine gl_calliF (va_runV (As := [.int v4, .int v2, .int v3]) (rest := []) ⟨hx, hb, hml, hown, hts⟩ (mt_X2_counts l D cI cZ cR ad_o H.size o_copies o_days o_places o_toldOn o_size o_today o_lineOfCopy v4 v2 v3 _ h) (cwV 3 hts gX2_copiesIn_X2_counts rfl rfl rfl (by decide +kernel) ⟨Nat.le_of_ble_eq_true rfl, Nat.le_of_ble_eq_true rfl⟩) ⟨gl_blind, va_recv hK hP (ci := 2) (q0 := 0) rfl rfl, gl_pre hP hK hN hD⟩ rfl rfl hl.1 rfl (lv_room (Nat.le_of_ble_eq_true rfl)) dX2_copiesIn_48 ⟨Nat.le_of_ble_eq_true rfl, Nat.le_of_ble_eq_true rfl⟩) hD hS hA (fun r2 u H locs h hP hD hS => ?_)
      try dsimp only at h
      refine lv_if_eq (tgt := 89) hx hb dX2_copiesIn_51 (by decide) (fun hc => ?_) (fun hc => ?_)
      · have h := h.1 hc
        refine lv_iinc (v := v4 + 1) (lv' := [(4, .int (v4 + 1)), (0, .ref (ad_o 0)), (1, .int v1), (2, .int v2), (3, .int v3)]) hx hb dX2_copiesIn_89 hl (k := 4) rfl rfl (by decide) rfl (fun ls hl => ?_)
        refine lv_goto (tgt := 34) hx hb dX2_copiesIn_92 (by decide) ?_
        exact ih (v4 + 1) o_lineOfCopy h H locs hP hD hS ls (lv_sub hl [1, 2, 3, 4, 0] rfl)
      · have h := h.2 hc
        refine lv_aload_n hx hb dX2_copiesIn_54 rfl (lv_at hl 0 rfl) ?_
        refine lv_iload hx hb dX2_copiesIn_55 (lv_at hl 4 rfl) ?_
        refine lv_aload_n hx hb dX2_copiesIn_57 rfl (lv_at hl 0 rfl) ?_
        refine va_get (D := D) (ci := 2) (v := .ref (ad_o 5)) (C := RX2) (T := TX2) (N := 7) hx hb hts us_X2_copiesIn_X2 hown hK hP 0 rfl rfl 6 (by decide) (hts (.fieldLink RX2 31 "RollHouse$Post" "lineOfCopy" "[I") lk_X2_copiesIn_1) (fun _ h9 => h9) rfl dX2_copiesIn_58 ?_
        refine lv_aload_n hx hb dX2_copiesIn_61 rfl (lv_at hl 0 rfl) ?_
        refine va_get (D := D) (ci := 2) (v := .ref (ad_o 1)) (C := RX2) (T := TX2) (N := 7) hx hb hts us_X2_copiesIn_X2 hown hK hP 0 rfl rfl 0 (by decide) (hts (.fieldLink RX2 11 "RollHouse$Post" "copies" "[I") lk_X2_copiesIn_2) (fun _ h9 => h9) rfl dX2_copiesIn_62 ?_
        refine lv_iload hx hb dX2_copiesIn_65 (lv_at hl 4 rfl) ?_
        obtain ⟨hin, h⟩ := h
        refine va_iald hx hb hK hP 1 0 rfl rfl hin dX2_copiesIn_67 ?_
        obtain ⟨hin, h⟩ := h
        refine va_iald hx hb hK hP 5 0 rfl rfl hin dX2_copiesIn_68 ?_
        refine gl_calliF (va_runV (As := [.int v4, .int (o_lineOfCopy (o_copies v4.toNatClampNeg).toNatClampNeg)]) (rest := []) ⟨hx, hb, hml, hown, hts⟩ (mt_X2_standsInPlaceOf l D cI cZ cR ad_o H.size o_copies o_days o_places o_toldOn o_size o_today o_lineOfCopy v4 (o_lineOfCopy (o_copies v4.toNatClampNeg).toNatClampNeg) _ h) (cwV 2 hts gX2_copiesIn_X2_standsInPlaceOf rfl rfl rfl (by decide +kernel) ⟨Nat.le_of_ble_eq_true rfl, Nat.le_of_ble_eq_true rfl⟩) ⟨gl_blind, va_recv hK hP (ci := 2) (q0 := 0) rfl rfl, gl_pre hP hK hN hD⟩ rfl rfl hl.1 rfl (lv_room (Nat.le_of_ble_eq_true rfl)) dX2_copiesIn_69 ⟨Nat.le_of_ble_eq_true rfl, Nat.le_of_ble_eq_true rfl⟩) hD hS hA (fun r3 u H locs h hP hD hS => ?_)
        try dsimp only at h
        refine lv_if_eq (tgt := 89) hx hb dX2_copiesIn_72 (by decide) (fun hc => ?_) (fun hc => ?_)
        · have h := h.1 hc
          refine lv_iinc (v := v4 + 1) (lv' := [(4, .int (v4 + 1)), (0, .ref (ad_o 0)), (1, .int v1), (2, .int v2), (3, .int v3)]) hx hb dX2_copiesIn_89 hl (k := 4) rfl rfl (by decide) rfl (fun ls hl => ?_)
          refine lv_goto (tgt := 34) hx hb dX2_copiesIn_92 (by decide) ?_
          exact ih (v4 + 1) o_lineOfCopy h H locs hP hD hS ls (lv_sub hl [1, 2, 3, 4, 0] rfl)
        · have h := h.2 hc
          refine lv_aload_n hx hb dX2_copiesIn_75 rfl (lv_at hl 0 rfl) ?_
          refine va_get (D := D) (ci := 2) (v := .ref (ad_o 5)) (C := RX2) (T := TX2) (N := 7) hx hb hts us_X2_copiesIn_X2 hown hK hP 0 rfl rfl 6 (by decide) (hts (.fieldLink RX2 31 "RollHouse$Post" "lineOfCopy" "[I") lk_X2_copiesIn_1) (fun _ h9 => h9) rfl dX2_copiesIn_76 ?_
          refine lv_aload_n hx hb dX2_copiesIn_79 rfl (lv_at hl 0 rfl) ?_
          refine va_get (D := D) (ci := 2) (v := .ref (ad_o 1)) (C := RX2) (T := TX2) (N := 7) hx hb hts us_X2_copiesIn_X2 hown hK hP 0 rfl rfl 0 (by decide) (hts (.fieldLink RX2 11 "RollHouse$Post" "copies" "[I") lk_X2_copiesIn_2) (fun _ h9 => h9) rfl dX2_copiesIn_80 ?_
          refine lv_iload hx hb dX2_copiesIn_83 (lv_at hl 4 rfl) ?_
          obtain ⟨hin, h⟩ := h
          refine va_iald hx hb hK hP 1 0 rfl rfl hin dX2_copiesIn_85 ?_
          refine lv_iload hx hb dX2_copiesIn_86 (lv_at hl 4 rfl) ?_
          obtain ⟨hin, h⟩ := h
          refine va_iast hx hb hK hP hD hS 5 0 rfl rfl hin dX2_copiesIn_88 (fun H locs hP hD hS => ?_)
          obtain ⟨a4, ea4⟩ : ∃ f, f = upd o_lineOfCopy (o_copies v4.toNatClampNeg).toNatClampNeg v4 := ⟨_, rfl⟩
          have h := h a4 ea4
          rw [← ea4] at hP hD
          have hP : va_P D vwCl (w_O cI cZ cR ad_o o_copies o_days o_places o_toldOn o_size o_today a4) H := hP
          have hD : va_D A (w_O cI cZ cR ad_o o_copies o_days o_places o_toldOn o_size o_today a4) := hD
          refine lv_iinc (v := v4 + 1) (lv' := [(4, .int (v4 + 1)), (0, .ref (ad_o 0)), (1, .int v1), (2, .int v2), (3, .int v3)]) hx hb dX2_copiesIn_89 hl (k := 4) rfl rfl (by decide) rfl (fun ls hl => ?_)
          refine lv_goto (tgt := 34) hx hb dX2_copiesIn_92 (by decide) ?_
          exact ih (v4 + 1) a4 h H locs hP hD hS ls (lv_sub hl [1, 2, 3, 4, 0] rfl)
set_option maxRecDepth 100000 in
set_option maxHeartbeats 4000000 in
theorem ml_X2_copiesIn_3 {p : Program} {l : Launch} {e : Env} {s : State} {m : MethodId} {args : Array Value} {below : List Frame} {meth : Method} {c : Code} {D : va_G} {cI cZ cR : ClassId} {A : Nat → Prop} {ad_o : Nat → Nat} {o_today : Int32} (G : gG p s m args meth c cX2_copiesIn (some .int) 6 RX2 wsX2_copiesIn) (hK : va_K D vwCl (gT cI cZ cR) s) (hN : va_Nw gN s) (hA : ∀ q, s.heap.size ≤ q → A q) (o_copies : Nat → Int32) (o_days : Nat → Int32) (o_places : Nat → Int32) (o_toldOn : Nat → Int32) (o_size : Int32) (v1 : Int32) (v2 : Int32) (v3 : Int32) (post : Int32 → (Nat → Int32) → Prop) : ∀ (fu : Nat) (v4 : Int32) (o_lineOfCopy : Nat → Int32), wl_X2_copiesIn_3 o_copies o_days o_places o_toldOn o_size v1 v2 v3 post fu v4 o_lineOfCopy → ∀ (H : Heap) (locs : List Loc), va_P D vwCl (w_O cI cZ cR ad_o o_copies o_days o_places o_toldOn o_size o_today o_lineOfCopy) H → va_D A (w_O cI cZ cR ad_o o_copies o_days o_places o_toldOn o_size o_today o_lineOfCopy) → va_S A s.heap H locs → ∀ (ls : Array Slot), lv_has ls 6 [(0, .ref (ad_o 0)), (1, .int v1), (2, .int v2), (3, .int v3), (4, .int v4)] → W p l e { frames := 1, cells := 0, slots := 0, locals := 23 } s m args below meth c H locs 0 0 (MQ below (va_Qi (fun (r : Int32) (u : (Nat → Int32)) => post r u) (fun u t => gB D (gT cI cZ cR) A (w_O cI cZ cR ad_o o_copies o_days o_places o_toldOn o_size o_today u) t) A) args s 0 0 A) (F0 m 3 ls []) := by
  obtain ⟨hx, hb, hr, hml, hown, hts, hlocks⟩ := id G
  intro fu
  induction fu with
  | zero =>
    intro v4 o_lineOfCopy h
    exact h.elim
  | succ fu ih =>
    intro v4 o_lineOfCopy h H locs hP hD hS ls hl
    rw [wl_X2_copiesIn_3] at h
    refine lv_iload hx hb dX2_copiesIn_3 (lv_at hl 4 rfl) ?_
    refine lv_aload_n hx hb dX2_copiesIn_5 rfl (lv_at hl 0 rfl) ?_
    refine va_get (D := D) (ci := 2) (v := .int o_size) (C := RX2) (T := TX2) (N := 7) hx hb hts us_X2_copiesIn_X2 hown hK hP 0 rfl rfl 4 (by decide) (hts (.fieldLink RX2 24 "RollHouse$Post" "size" "I") lk_X2_copiesIn_0) (fun _ h9 => h9) rfl dX2_copiesIn_6 ?_
    refine lv_icmp_ge (tgt := 31) hx hb dX2_copiesIn_9 (by decide) (fun hc => ?_) (fun hc => ?_)
    · have h := h.1 hc
      refine lv_iconst (v := 0) hx hb dX2_copiesIn_31 (by decide) ?_
      refine lv_istore (lv' := [(4, .int 0), (0, .ref (ad_o 0)), (1, .int v1), (2, .int v2), (3, .int v3)]) hx hb dX2_copiesIn_32 hl (by decide) rfl (fun ls hl => ?_)
      obtain ⟨nf, h⟩ := h
      exact ml_X2_copiesIn_34 G hK hN hA o_copies o_days o_places o_toldOn o_size v1 v2 v3 post nf 0 o_lineOfCopy h H locs hP hD hS ls (lv_sub hl [1, 2, 3, 4, 0] rfl)
    · have h := h.2 hc
      refine lv_aload_n hx hb dX2_copiesIn_12 rfl (lv_at hl 0 rfl) ?_
      refine va_get (D := D) (ci := 2) (v := .ref (ad_o 5)) (C := RX2) (T := TX2) (N := 7) hx hb hts us_X2_copiesIn_X2 hown hK hP 0 rfl rfl 6 (by decide) (hts (.fieldLink RX2 31 "RollHouse$Post" "lineOfCopy" "[I") lk_X2_copiesIn_1) (fun _ h9 => h9) rfl dX2_copiesIn_13 ?_
      refine lv_aload_n hx hb dX2_copiesIn_16 rfl (lv_at hl 0 rfl) ?_
      refine va_get (D := D) (ci := 2) (v := .ref (ad_o 1)) (C := RX2) (T := TX2) (N := 7) hx hb hts us_X2_copiesIn_X2 hown hK hP 0 rfl rfl 0 (by decide) (hts (.fieldLink RX2 11 "RollHouse$Post" "copies" "[I") lk_X2_copiesIn_2) (fun _ h9 => h9) rfl dX2_copiesIn_17 ?_
      refine lv_iload hx hb dX2_copiesIn_20 (lv_at hl 4 rfl) ?_
      obtain ⟨hin, h⟩ := h
      refine va_iald hx hb hK hP 1 0 rfl rfl hin dX2_copiesIn_22 ?_
      refine lv_iconst (v := (-1)) hx hb dX2_copiesIn_23 (by decide) ?_
      obtain ⟨hin, h⟩ := h
      refine va_iast hx hb hK hP hD hS 5 0 rfl rfl hin dX2_copiesIn_24 (fun H locs hP hD hS => ?_)
      obtain ⟨a1, ea1⟩ : ∃ f, f = upd o_lineOfCopy (o_copies v4.toNatClampNeg).toNatClampNeg (-1) := ⟨_, rfl⟩
      have h := h a1 ea1
      rw [← ea1] at hP hD
      have hP : va_P D vwCl (w_O cI cZ cR ad_o o_copies o_days o_places o_toldOn o_size o_today a1) H := hP
      have hD : va_D A (w_O cI cZ cR ad_o o_copies o_days o_places o_toldOn o_size o_today a1) := hD
      refine lv_iinc (v := v4 + 1) (lv' := [(4, .int (v4 + 1)), (0, .ref (ad_o 0)), (1, .int v1), (2, .int v2), (3, .int v3)]) hx hb dX2_copiesIn_25 hl (k := 4) rfl rfl (by decide) rfl (fun ls hl => ?_)
      refine lv_goto (tgt := 3) hx hb dX2_copiesIn_28 (by decide) ?_
      exact ih (v4 + 1) a1 h H locs hP hD hS ls (lv_sub hl [1, 2, 3, 4, 0] rfl)
set_option maxRecDepth 100000 in
set_option maxHeartbeats 4000000 in
theorem ml_X2_copiesIn_0 {p : Program} {l : Launch} {e : Env} {s : State} {m : MethodId} {args : Array Value} {below : List Frame} {meth : Method} {c : Code} {D : va_G} {cI cZ cR : ClassId} {A : Nat → Prop} {ad_o : Nat → Nat} {o_today : Int32} (G : gG p s m args meth c cX2_copiesIn (some .int) 6 RX2 wsX2_copiesIn) (hK : va_K D vwCl (gT cI cZ cR) s) (hN : va_Nw gN s) (hA : ∀ q, s.heap.size ≤ q → A q) (o_copies : Nat → Int32) (o_days : Nat → Int32) (o_places : Nat → Int32) (o_toldOn : Nat → Int32) (o_size : Int32) (v1 : Int32) (v2 : Int32) (v3 : Int32) (post : Int32 → (Nat → Int32) → Prop) (o_lineOfCopy : Nat → Int32) (h : wp_X2_copiesIn o_copies o_days o_places o_toldOn o_size v1 v2 v3 o_lineOfCopy post) : ∀ (H : Heap) (locs : List Loc), va_P D vwCl (w_O cI cZ cR ad_o o_copies o_days o_places o_toldOn o_size o_today o_lineOfCopy) H → va_D A (w_O cI cZ cR ad_o o_copies o_days o_places o_toldOn o_size o_today o_lineOfCopy) → va_S A s.heap H locs → ∀ (ls : Array Slot), lv_has ls 6 [(0, .ref (ad_o 0)), (1, .int v1), (2, .int v2), (3, .int v3)] → W p l e { frames := 1, cells := 0, slots := 0, locals := 23 } s m args below meth c H locs 0 0 (MQ below (va_Qi (fun (r : Int32) (u : (Nat → Int32)) => post r u) (fun u t => gB D (gT cI cZ cR) A (w_O cI cZ cR ad_o o_copies o_days o_places o_toldOn o_size o_today u) t) A) args s 0 0 A) (F0 m 0 ls []) := by
  obtain ⟨hx, hb, hr, hml, hown, hts, hlocks⟩ := id G
  intro H locs hP hD hS ls hl
  unfold wp_X2_copiesIn at h
  refine lv_iconst (v := 0) hx hb dX2_copiesIn_0 (by decide) ?_
  refine lv_istore (lv' := [(4, .int 0), (0, .ref (ad_o 0)), (1, .int v1), (2, .int v2), (3, .int v3)]) hx hb dX2_copiesIn_1 hl (by decide) rfl (fun ls hl => ?_)
  obtain ⟨nf, h⟩ := h
  exact ml_X2_copiesIn_3 G hK hN hA o_copies o_days o_places o_toldOn o_size v1 v2 v3 post nf 0 o_lineOfCopy h H locs hP hD hS ls (lv_sub hl [1, 2, 3, 4, 0] rfl)
set_option maxRecDepth 100000 in
theorem mt_X2_copiesIn (l : Launch) (D : va_G) (cI cZ cR : ClassId) (ad_o : Nat → Nat) (sz : Nat) (o_copies : Nat → Int32) (o_days : Nat → Int32) (o_places : Nat → Int32) (o_toldOn : Nat → Int32) (o_size : Int32) (o_today : Int32) (o_lineOfCopy : Nat → Int32) (v1 : Int32) (v2 : Int32) (v3 : Int32) (post : Int32 → (Nat → Int32) → Prop) (h : wp_X2_copiesIn o_copies o_days o_places o_toldOn o_size v1 v2 v3 o_lineOfCopy post) : Met l yX2_copiesIn wsX2_copiesIn ({ frames := 1, cells := 0, slots := 0, locals := 23 }) (gPc D (gT cI cZ cR) (w_O cI cZ cR ad_o o_copies o_days o_places o_toldOn o_size o_today o_lineOfCopy) sz [.ref (ad_o 0), .int v1, .int v2, .int v3]) (va_Qi (fun (r : Int32) (u : (Nat → Int32)) => post r u) (fun u t => gB D (gT cI cZ cR) (va_A (w_O cI cZ cR ad_o o_copies o_days o_places o_toldOn o_size o_today o_lineOfCopy) sz) (w_O cI cZ cR ad_o o_copies o_days o_places o_toldOn o_size o_today u) t) (va_A (w_O cI cZ cR ad_o o_copies o_days o_places o_toldOn o_size o_today o_lineOfCopy) sz)) 0 0 (va_A (w_O cI cZ cR ad_o o_copies o_days o_places o_toldOn o_size o_today o_lineOfCopy) sz) := by
  refine gl_entry (cc := cX2_copiesIn) (maxL := 6) (ret := (some .int)) (by decide) rfl (Nat.le_of_ble_eq_true rfl) ?_
  intro p e s m below meth c ls G hin hsz hK hN hP hD hl
  subst hsz
  exact ml_X2_copiesIn_0 G hK hN (fun q h => Or.inr h) o_copies o_days o_places o_toldOn o_size v1 v2 v3 post o_lineOfCopy h s.heap [] hP hD va_S.rf ls hl
