def wp_X6_isWithin (v0 : Int32) (v1 : Int32) (v2 : Int32) (post : Int32 → Prop) : Prop := ((v0 < v1 → post 0 ) ∧ (¬ v0 < v1 → ((v2 < v0 → post 0 ) ∧ (¬ v2 < v0 → post 1 ))))
set_option maxRecDepth 100000 in
set_option maxHeartbeats 4000000 in
theorem ml_X6_isWithin_0 {p : Program} {l : Launch} {e : Env} {s : State} {m : MethodId} {args : Array Value} {below : List Frame} {meth : Method} {c : Code} {D : va_G} {cI cZ cR : ClassId} {A : Nat → Prop}  (G : gG p s m args meth c cX6_isWithin (some .boolean) 3 RX6 wsX6_isWithin) (hK : va_K D vwCl (gT cI cZ cR) s) (hN : va_Nw gN s) (hA : ∀ q, s.heap.size ≤ q → A q) (v0 : Int32) (v1 : Int32) (v2 : Int32) (post : Int32 → Prop)  (h : wp_X6_isWithin v0 v1 v2 post) : ∀ (H : Heap) (locs : List Loc), va_P D vwCl ([]) H → va_D A ([]) → va_S A s.heap H locs → ∀ (ls : Array Slot), lv_has ls 3 [(0, .int v0), (1, .int v1), (2, .int v2)] → W p l e { frames := 0, cells := 0, slots := 0, locals := 0 } s m args below meth c H locs 0 0 (MQ below (va_Qi (fun (r : Int32) (u : Unit) => post r ) (fun u t => gB D (gT cI cZ cR) A ([]) t) A) args s 0 0 A) (F0 m 0 ls []) := by
  obtain ⟨hx, hb, hr, hml, hown, hts, hlocks⟩ := id G
  intro H locs hP hD hS ls hl
  unfold wp_X6_isWithin at h
  refine lv_iload_n hx hb dX6_isWithin_0 rfl (lv_at hl 0 rfl) ?_
  refine lv_iload_n hx hb dX6_isWithin_1 rfl (lv_at hl 1 rfl) ?_
  refine lv_icmp_lt (tgt := 14) hx hb dX6_isWithin_2 (by decide) (fun hc => ?_) (fun hc => ?_)
  · have h := h.1 hc
    refine lv_iconst (v := 0) hx hb dX6_isWithin_14 (by decide) ?_
    exact gl_iretz G hK (u := ()) hP hD hS (by decide) h dX6_isWithin_15
  · have h := h.2 hc
    refine lv_iload_n hx hb dX6_isWithin_5 rfl (lv_at hl 0 rfl) ?_
    refine lv_iload_n hx hb dX6_isWithin_6 rfl (lv_at hl 2 rfl) ?_
    refine lv_icmp_gt (tgt := 14) hx hb dX6_isWithin_7 (by decide) (fun hc => ?_) (fun hc => ?_)
    · have h := h.1 hc
      refine lv_iconst (v := 0) hx hb dX6_isWithin_14 (by decide) ?_
      exact gl_iretz G hK (u := ()) hP hD hS (by decide) h dX6_isWithin_15
    · have h := h.2 hc
      refine lv_iconst (v := 1) hx hb dX6_isWithin_10 (by decide) ?_
      refine lv_goto (tgt := 15) hx hb dX6_isWithin_11 (by decide) ?_
      exact gl_iretz G hK (u := ()) hP hD hS (by decide) h dX6_isWithin_15
set_option maxRecDepth 100000 in
theorem mt_X6_isWithin (l : Launch) (D : va_G) (cI cZ cR : ClassId) (sz : Nat) (v0 : Int32) (v1 : Int32) (v2 : Int32) (post : Int32 → Prop) (h : wp_X6_isWithin v0 v1 v2 post) : Met l yX6_isWithin wsX6_isWithin ({ frames := 0, cells := 0, slots := 0, locals := 0 }) (gPc D (gT cI cZ cR) ([]) sz [.int v0, .int v1, .int v2]) (va_Qi (fun (r : Int32) (u : Unit) => post r ) (fun u t => gB D (gT cI cZ cR) (va_A ([]) sz) ([]) t) (va_A ([]) sz)) 0 0 (va_A ([]) sz) := by
  refine gl_entry (cc := cX6_isWithin) (maxL := 3) (ret := (some .boolean)) (by decide) rfl (Nat.le_of_ble_eq_true rfl) ?_
  intro p e s m below meth c ls G hin hsz hK hN hP hD hl
  subst hsz
  exact ml_X6_isWithin_0 G hK hN (fun q h => Or.inr h) v0 v1 v2 post h s.heap [] hP hD va_S.rf ls hl
def wp_X4_isBridge (v0 : Int32) (v1 : Int32) (post : Int32 → Prop) : Prop := ((¬ (v0 - v0 / 8 * 8) = 7 → post 0 ) ∧ ((v0 - v0 / 8 * 8) = 7 → ((v0 = (v1 - 1) → post 0 ) ∧ (¬ v0 = (v1 - 1) → post 1 ))))
set_option maxRecDepth 100000 in
set_option maxHeartbeats 4000000 in
theorem ml_X4_isBridge_0 {p : Program} {l : Launch} {e : Env} {s : State} {m : MethodId} {args : Array Value} {below : List Frame} {meth : Method} {c : Code} {D : va_G} {cI cZ cR : ClassId} {A : Nat → Prop}  (G : gG p s m args meth c cX4_isBridge (some .boolean) 2 RX4 wsX4_isBridge) (hK : va_K D vwCl (gT cI cZ cR) s) (hN : va_Nw gN s) (hA : ∀ q, s.heap.size ≤ q → A q) (v0 : Int32) (v1 : Int32) (post : Int32 → Prop)  (h : wp_X4_isBridge v0 v1 post) : ∀ (H : Heap) (locs : List Loc), va_P D vwCl ([]) H → va_D A ([]) → va_S A s.heap H locs → ∀ (ls : Array Slot), lv_has ls 2 [(0, .int v0), (1, .int v1)] → W p l e { frames := 0, cells := 0, slots := 0, locals := 0 } s m args below meth c H locs 0 0 (MQ below (va_Qi (fun (r : Int32) (u : Unit) => post r ) (fun u t => gB D (gT cI cZ cR) A ([]) t) A) args s 0 0 A) (F0 m 0 ls []) := by
  obtain ⟨hx, hb, hr, hml, hown, hts, hlocks⟩ := id G
  intro H locs hP hD hS ls hl
  unfold wp_X4_isBridge at h
  refine lv_iload_n hx hb dX4_isBridge_0 rfl (lv_at hl 0 rfl) ?_
  refine lv_bipush (v := 8) hx hb dX4_isBridge_1 (by decide) ?_
  refine lv_irem hx hb dX4_isBridge_3 (by decide) ?_
  refine lv_bipush (v := 7) hx hb dX4_isBridge_4 (by decide) ?_
  refine lv_icmp_ne (tgt := 20) hx hb dX4_isBridge_6 (by decide) (fun hc => ?_) (fun hc => ?_)
  · have h := h.1 hc
    refine lv_iconst (v := 0) hx hb dX4_isBridge_20 (by decide) ?_
    exact gl_iretz G hK (u := ()) hP hD hS (by decide) h dX4_isBridge_21
  · have h := h.2 hc
    refine lv_iload_n hx hb dX4_isBridge_9 rfl (lv_at hl 0 rfl) ?_
    refine lv_iload_n hx hb dX4_isBridge_10 rfl (lv_at hl 1 rfl) ?_
    refine lv_iconst (v := 1) hx hb dX4_isBridge_11 (by decide) ?_
    refine lv_isub hx hb dX4_isBridge_12 ?_
    refine lv_icmp_eq (tgt := 20) hx hb dX4_isBridge_13 (by decide) (fun hc => ?_) (fun hc => ?_)
    · have h := h.1 hc
      refine lv_iconst (v := 0) hx hb dX4_isBridge_20 (by decide) ?_
      exact gl_iretz G hK (u := ()) hP hD hS (by decide) h dX4_isBridge_21
    · have h := h.2 hc
      refine lv_iconst (v := 1) hx hb dX4_isBridge_16 (by decide) ?_
      refine lv_goto (tgt := 21) hx hb dX4_isBridge_17 (by decide) ?_
      exact gl_iretz G hK (u := ()) hP hD hS (by decide) h dX4_isBridge_21
set_option maxRecDepth 100000 in
theorem mt_X4_isBridge (l : Launch) (D : va_G) (cI cZ cR : ClassId) (sz : Nat) (v0 : Int32) (v1 : Int32) (post : Int32 → Prop) (h : wp_X4_isBridge v0 v1 post) : Met l yX4_isBridge wsX4_isBridge ({ frames := 0, cells := 0, slots := 0, locals := 0 }) (gPc D (gT cI cZ cR) ([]) sz [.int v0, .int v1]) (va_Qi (fun (r : Int32) (u : Unit) => post r ) (fun u t => gB D (gT cI cZ cR) (va_A ([]) sz) ([]) t) (va_A ([]) sz)) 0 0 (va_A ([]) sz) := by
  refine gl_entry (cc := cX4_isBridge) (maxL := 2) (ret := (some .boolean)) (by decide) rfl (Nat.le_of_ble_eq_true rfl) ?_
  intro p e s m below meth c ls G hin hsz hK hN hP hD hl
  subst hsz
  exact ml_X4_isBridge_0 G hK hN (fun q h => Or.inr h) v0 v1 post h s.heap [] hP hD va_S.rf ls hl
def wp_X4_bears (v0 : Int32) (post : Int32 → Prop) : Prop := (∀ z1 : Int32, z1 = ((v0 &&& (v0 >>> (1 &&& 31))) &&& (v0 >>> (2 &&& 31))) &&& (v0 >>> (3 &&& 31)) → ((¬ z1 = 0 → post 0 ) ∧ (z1 = 0 → (wp_J6_bitCount_0f7a4 v0 (fun (r2 : Int32) => ((10 < r2 → post 0 ) ∧ (¬ 10 < r2 → post 1 )))))))
set_option maxRecDepth 100000 in
set_option maxHeartbeats 4000000 in
theorem ml_X4_bears_0 {p : Program} {l : Launch} {e : Env} {s : State} {m : MethodId} {args : Array Value} {below : List Frame} {meth : Method} {c : Code} {D : va_G} {cI cZ cR : ClassId} {A : Nat → Prop}  (G : gG p s m args meth c cX4_bears (some .boolean) 2 RX4 wsX4_bears) (hK : va_K D vwCl (gT cI cZ cR) s) (hN : va_Nw gN s) (hA : ∀ q, s.heap.size ≤ q → A q) (v0 : Int32) (post : Int32 → Prop)  (h : wp_X4_bears v0 post) : ∀ (H : Heap) (locs : List Loc), va_P D vwCl ([]) H → va_D A ([]) → va_S A s.heap H locs → ∀ (ls : Array Slot), lv_has ls 2 [(0, .int v0)] → W p l e { frames := 1, cells := 0, slots := 0, locals := 20 } s m args below meth c H locs 0 0 (MQ below (va_Qi (fun (r : Int32) (u : Unit) => post r ) (fun u t => gB D (gT cI cZ cR) A ([]) t) A) args s 0 0 A) (F0 m 0 ls []) := by
  obtain ⟨hx, hb, hr, hml, hown, hts, hlocks⟩ := id G
  intro H locs hP hD hS ls hl
  unfold wp_X4_bears at h
  refine lv_iload_n hx hb dX4_bears_0 rfl (lv_at hl 0 rfl) ?_
  refine lv_iload_n hx hb dX4_bears_1 rfl (lv_at hl 0 rfl) ?_
  refine lv_iconst (v := 1) hx hb dX4_bears_2 (by decide) ?_
  refine lv_ishr hx hb dX4_bears_3 ?_
  refine lv_iand hx hb dX4_bears_4 ?_
  refine lv_iload_n hx hb dX4_bears_5 rfl (lv_at hl 0 rfl) ?_
  refine lv_iconst (v := 2) hx hb dX4_bears_6 (by decide) ?_
  refine lv_ishr hx hb dX4_bears_7 ?_
  refine lv_iand hx hb dX4_bears_8 ?_
  refine lv_iload_n hx hb dX4_bears_9 rfl (lv_at hl 0 rfl) ?_
  refine lv_iconst (v := 3) hx hb dX4_bears_10 (by decide) ?_
  refine lv_ishr hx hb dX4_bears_11 ?_
  refine lv_iand hx hb dX4_bears_12 ?_
  refine lv_topi (fun z1 ez1 => ?_)
  have h := h z1 ez1
  refine lv_istore_n (lv' := [(1, .int z1), (0, .int v0)]) hx hb dX4_bears_13 rfl hl (by decide) rfl (fun ls hl => ?_)
  refine lv_iload_n hx hb dX4_bears_14 rfl (lv_at hl 0 rfl) ?_
  refine lv_if_ne (tgt := 31) hx hb dX4_bears_15 (by decide) (fun hc => ?_) (fun hc => ?_)
  · have h := h.1 hc
    refine lv_iconst (v := 0) hx hb dX4_bears_31 (by decide) ?_
    exact gl_iretz G hK (u := ()) hP hD hS (by decide) h dX4_bears_32
  · have h := h.2 hc
    refine lv_iload_n hx hb dX4_bears_18 rfl (lv_at hl 1 rfl) ?_
    refine gl_calliS (va_runS (As := [.int v0]) (rest := []) ⟨hx, hb, hml, hown, hts⟩ (mt_J6_bitCount_0f7a4 l D cI cZ cR  H.size v0 _ h) (va_cwS 1 hts gX4_bears_J6_bitCount_0f7a4 rfl rfl rfl (by decide +kernel) ⟨Nat.le_of_ble_eq_true rfl, Nat.le_of_ble_eq_true rfl⟩) ⟨gl_blind, gl_pre gl_nilP hK hN (gl_nilD (A := A))⟩ rfl rfl hl.1 rfl (lv_room (Nat.le_of_ble_eq_true rfl)) dX4_bears_19 ⟨Nat.le_of_ble_eq_true rfl, Nat.le_of_ble_eq_true rfl⟩) hP hS hA (fun r2 u H locs h hP hS => ?_)
    try dsimp only at h
    refine lv_bipush (v := 10) hx hb dX4_bears_22 (by decide) ?_
    refine lv_icmp_gt (tgt := 31) hx hb dX4_bears_24 (by decide) (fun hc => ?_) (fun hc => ?_)
    · have h := h.1 hc
      refine lv_iconst (v := 0) hx hb dX4_bears_31 (by decide) ?_
      exact gl_iretz G hK (u := ()) hP hD hS (by decide) h dX4_bears_32
    · have h := h.2 hc
      refine lv_iconst (v := 1) hx hb dX4_bears_27 (by decide) ?_
      refine lv_goto (tgt := 32) hx hb dX4_bears_28 (by decide) ?_
      exact gl_iretz G hK (u := ()) hP hD hS (by decide) h dX4_bears_32
set_option maxRecDepth 100000 in
theorem mt_X4_bears (l : Launch) (D : va_G) (cI cZ cR : ClassId) (sz : Nat) (v0 : Int32) (post : Int32 → Prop) (h : wp_X4_bears v0 post) : Met l yX4_bears wsX4_bears ({ frames := 1, cells := 0, slots := 0, locals := 20 }) (gPc D (gT cI cZ cR) ([]) sz [.int v0]) (va_Qi (fun (r : Int32) (u : Unit) => post r ) (fun u t => gB D (gT cI cZ cR) (va_A ([]) sz) ([]) t) (va_A ([]) sz)) 0 0 (va_A ([]) sz) := by
  refine gl_entry (cc := cX4_bears) (maxL := 2) (ret := (some .boolean)) (by decide) rfl (Nat.le_of_ble_eq_true rfl) ?_
  intro p e s m below meth c ls G hin hsz hK hN hP hD hl
  subst hsz
  exact ml_X4_bears_0 G hK hN (fun q h => Or.inr h) v0 post h s.heap [] hP hD va_S.rf ls hl
def wp_X4_onSmallBar (v0 : Int32) (post : Int32 → Prop) : Prop := ((4 ≤ v0 → ((v0 ≤ 19 → post v0 ) ∧ (¬ v0 ≤ 19 → post (v0 - 12) ))) ∧ (¬ 4 ≤ v0 → post (v0 + 12) ))
set_option maxRecDepth 100000 in
set_option maxHeartbeats 4000000 in
theorem ml_X4_onSmallBar_0 {p : Program} {l : Launch} {e : Env} {s : State} {m : MethodId} {args : Array Value} {below : List Frame} {meth : Method} {c : Code} {D : va_G} {cI cZ cR : ClassId} {A : Nat → Prop}  (G : gG p s m args meth c cX4_onSmallBar (some .int) 1 RX4 wsX4_onSmallBar) (hK : va_K D vwCl (gT cI cZ cR) s) (hN : va_Nw gN s) (hA : ∀ q, s.heap.size ≤ q → A q) (v0 : Int32) (post : Int32 → Prop)  (h : wp_X4_onSmallBar v0 post) : ∀ (H : Heap) (locs : List Loc), va_P D vwCl ([]) H → va_D A ([]) → va_S A s.heap H locs → ∀ (ls : Array Slot), lv_has ls 1 [(0, .int v0)] → W p l e { frames := 0, cells := 0, slots := 0, locals := 0 } s m args below meth c H locs 0 0 (MQ below (va_Qi (fun (r : Int32) (u : Unit) => post r ) (fun u t => gB D (gT cI cZ cR) A ([]) t) A) args s 0 0 A) (F0 m 0 ls []) := by
  obtain ⟨hx, hb, hr, hml, hown, hts, hlocks⟩ := id G
  intro H locs hP hD hS ls hl
  unfold wp_X4_onSmallBar at h
  refine lv_iload_n hx hb dX4_onSmallBar_0 rfl (lv_at hl 0 rfl) ?_
  refine lv_iconst (v := 4) hx hb dX4_onSmallBar_1 (by decide) ?_
  refine lv_icmp_ge (tgt := 10) hx hb dX4_onSmallBar_2 (by decide) (fun hc => ?_) (fun hc => ?_)
  · have h := h.1 hc
    refine lv_iload_n hx hb dX4_onSmallBar_10 rfl (lv_at hl 0 rfl) ?_
    refine lv_bipush (v := 19) hx hb dX4_onSmallBar_11 (by decide) ?_
    refine lv_icmp_le (tgt := 23) hx hb dX4_onSmallBar_13 (by decide) (fun hc => ?_) (fun hc => ?_)
    · have h := h.1 hc
      refine lv_iload_n hx hb dX4_onSmallBar_23 rfl (lv_at hl 0 rfl) ?_
      exact gl_ireti G hK (u := ()) hP hD hS h dX4_onSmallBar_24
    · have h := h.2 hc
      refine lv_iload_n hx hb dX4_onSmallBar_16 rfl (lv_at hl 0 rfl) ?_
      refine lv_bipush (v := 12) hx hb dX4_onSmallBar_17 (by decide) ?_
      refine lv_isub hx hb dX4_onSmallBar_19 ?_
      refine lv_goto (tgt := 24) hx hb dX4_onSmallBar_20 (by decide) ?_
      exact gl_ireti G hK (u := ()) hP hD hS h dX4_onSmallBar_24
  · have h := h.2 hc
    refine lv_iload_n hx hb dX4_onSmallBar_5 rfl (lv_at hl 0 rfl) ?_
    refine lv_bipush (v := 12) hx hb dX4_onSmallBar_6 (by decide) ?_
    refine lv_iadd hx hb dX4_onSmallBar_8 ?_
    exact gl_ireti G hK (u := ()) hP hD hS h dX4_onSmallBar_9
set_option maxRecDepth 100000 in
theorem mt_X4_onSmallBar (l : Launch) (D : va_G) (cI cZ cR : ClassId) (sz : Nat) (v0 : Int32) (post : Int32 → Prop) (h : wp_X4_onSmallBar v0 post) : Met l yX4_onSmallBar wsX4_onSmallBar ({ frames := 0, cells := 0, slots := 0, locals := 0 }) (gPc D (gT cI cZ cR) ([]) sz [.int v0]) (va_Qi (fun (r : Int32) (u : Unit) => post r ) (fun u t => gB D (gT cI cZ cR) (va_A ([]) sz) ([]) t) (va_A ([]) sz)) 0 0 (va_A ([]) sz) := by
  refine gl_entry (cc := cX4_onSmallBar) (maxL := 1) (ret := (some .int)) (by decide) rfl (Nat.le_of_ble_eq_true rfl) ?_
  intro p e s m below meth c ls G hin hsz hK hN hP hD hl
  subst hsz
  exact ml_X4_onSmallBar_0 G hK hN (fun q h => Or.inr h) v0 post h s.heap [] hP hD va_S.rf ls hl
theorem lk_X4_noteCount_0 : (Cond.fieldLink RX4 21 "RollHouse$Roll" "size" "I") ∈ wsX4_noteCount := by decide +kernel
theorem us_X4_noteCount_X4 : ∀ w ∈ u_ws RX4 TX4 8, w ∈ wsX4_noteCount := by decide +kernel
def wp_X4_noteCount (r_size : Int32) (post : Int32 → Prop) : Prop := post r_size 
set_option maxRecDepth 100000 in
set_option maxHeartbeats 4000000 in
theorem ml_X4_noteCount_0 {p : Program} {l : Launch} {e : Env} {s : State} {m : MethodId} {args : Array Value} {below : List Frame} {meth : Method} {c : Code} {D : va_G} {cI cZ cR : ClassId} {A : Nat → Prop} {ad_r : Nat → Nat} {r_pitches : Nat → Int32} {r_firstSteps : Nat → Int32} {r_lengths : Nat → Int32} {r_held : Nat → Int32} {r_punched : Nat → Int32} {r_markedTicks : Nat → Int32} {r_marks : Int32} (G : gG p s m args meth c cX4_noteCount (some .int) 1 RX4 wsX4_noteCount) (hK : va_K D vwCl (gT cI cZ cR) s) (hN : va_Nw gN s) (hA : ∀ q, s.heap.size ≤ q → A q) (r_size : Int32) (post : Int32 → Prop)  (h : wp_X4_noteCount r_size post) : ∀ (H : Heap) (locs : List Loc), va_P D vwCl (w_R cI cZ cR ad_r r_pitches r_firstSteps r_lengths r_size r_held r_punched r_markedTicks r_marks) H → va_D A (w_R cI cZ cR ad_r r_pitches r_firstSteps r_lengths r_size r_held r_punched r_markedTicks r_marks) → va_S A s.heap H locs → ∀ (ls : Array Slot), lv_has ls 1 [(0, .ref (ad_r 0))] → W p l e { frames := 0, cells := 0, slots := 0, locals := 0 } s m args below meth c H locs 0 0 (MQ below (va_Qi (fun (r : Int32) (u : Unit) => post r ) (fun u t => gB D (gT cI cZ cR) A (w_R cI cZ cR ad_r r_pitches r_firstSteps r_lengths r_size r_held r_punched r_markedTicks r_marks) t) A) args s 0 0 A) (F0 m 0 ls []) := by
  obtain ⟨hx, hb, hr, hml, hown, hts, hlocks⟩ := id G
  intro H locs hP hD hS ls hl
  unfold wp_X4_noteCount at h
  refine lv_aload_n hx hb dX4_noteCount_0 rfl (lv_at hl 0 rfl) ?_
  refine va_get (D := D) (ci := 4) (v := .int r_size) (C := RX4) (T := TX4) (N := 8) hx hb hts us_X4_noteCount_X4 hown hK hP 0 rfl rfl 3 (by decide) (hts (.fieldLink RX4 21 "RollHouse$Roll" "size" "I") lk_X4_noteCount_0) (fun _ h9 => h9) rfl dX4_noteCount_1 ?_
  exact gl_ireti G hK (u := ()) hP hD hS h dX4_noteCount_4
set_option maxRecDepth 100000 in
theorem mt_X4_noteCount (l : Launch) (D : va_G) (cI cZ cR : ClassId) (ad_r : Nat → Nat) (sz : Nat) (r_pitches : Nat → Int32) (r_firstSteps : Nat → Int32) (r_lengths : Nat → Int32) (r_size : Int32) (r_held : Nat → Int32) (r_punched : Nat → Int32) (r_markedTicks : Nat → Int32) (r_marks : Int32) (post : Int32 → Prop) (h : wp_X4_noteCount r_size post) : Met l yX4_noteCount wsX4_noteCount ({ frames := 0, cells := 0, slots := 0, locals := 0 }) (gPc D (gT cI cZ cR) (w_R cI cZ cR ad_r r_pitches r_firstSteps r_lengths r_size r_held r_punched r_markedTicks r_marks) sz [.ref (ad_r 0)]) (va_Qi (fun (r : Int32) (u : Unit) => post r ) (fun u t => gB D (gT cI cZ cR) (va_A (w_R cI cZ cR ad_r r_pitches r_firstSteps r_lengths r_size r_held r_punched r_markedTicks r_marks) sz) (w_R cI cZ cR ad_r r_pitches r_firstSteps r_lengths r_size r_held r_punched r_markedTicks r_marks) t) (va_A (w_R cI cZ cR ad_r r_pitches r_firstSteps r_lengths r_size r_held r_punched r_markedTicks r_marks) sz)) 0 0 (va_A (w_R cI cZ cR ad_r r_pitches r_firstSteps r_lengths r_size r_held r_punched r_markedTicks r_marks) sz) := by
  refine gl_entry (cc := cX4_noteCount) (maxL := 1) (ret := (some .int)) (by decide) rfl (Nat.le_of_ble_eq_true rfl) ?_
  intro p e s m below meth c ls G hin hsz hK hN hP hD hl
  subst hsz
  exact ml_X4_noteCount_0 G hK hN (fun q h => Or.inr h) r_size post h s.heap [] hP hD va_S.rf ls hl
theorem lk_X4_pitchOf_0 : (Cond.fieldLink RX4 9 "RollHouse$Roll" "pitches" "[I") ∈ wsX4_pitchOf := by decide +kernel
theorem us_X4_pitchOf_X4 : ∀ w ∈ u_ws RX4 TX4 8, w ∈ wsX4_pitchOf := by decide +kernel
def wp_X4_pitchOf (r_pitches : Nat → Int32) (v1 : Int32) (post : Int32 → Prop) : Prop := (vp_in v1 60 ∧ post (r_pitches v1.toNatClampNeg) )
set_option maxRecDepth 100000 in
set_option maxHeartbeats 4000000 in
theorem ml_X4_pitchOf_0 {p : Program} {l : Launch} {e : Env} {s : State} {m : MethodId} {args : Array Value} {below : List Frame} {meth : Method} {c : Code} {D : va_G} {cI cZ cR : ClassId} {A : Nat → Prop} {ad_r : Nat → Nat} {r_firstSteps : Nat → Int32} {r_lengths : Nat → Int32} {r_size : Int32} {r_held : Nat → Int32} {r_punched : Nat → Int32} {r_markedTicks : Nat → Int32} {r_marks : Int32} (G : gG p s m args meth c cX4_pitchOf (some .int) 2 RX4 wsX4_pitchOf) (hK : va_K D vwCl (gT cI cZ cR) s) (hN : va_Nw gN s) (hA : ∀ q, s.heap.size ≤ q → A q) (r_pitches : Nat → Int32) (v1 : Int32) (post : Int32 → Prop)  (h : wp_X4_pitchOf r_pitches v1 post) : ∀ (H : Heap) (locs : List Loc), va_P D vwCl (w_R cI cZ cR ad_r r_pitches r_firstSteps r_lengths r_size r_held r_punched r_markedTicks r_marks) H → va_D A (w_R cI cZ cR ad_r r_pitches r_firstSteps r_lengths r_size r_held r_punched r_markedTicks r_marks) → va_S A s.heap H locs → ∀ (ls : Array Slot), lv_has ls 2 [(0, .ref (ad_r 0)), (1, .int v1)] → W p l e { frames := 0, cells := 0, slots := 0, locals := 0 } s m args below meth c H locs 0 0 (MQ below (va_Qi (fun (r : Int32) (u : Unit) => post r ) (fun u t => gB D (gT cI cZ cR) A (w_R cI cZ cR ad_r r_pitches r_firstSteps r_lengths r_size r_held r_punched r_markedTicks r_marks) t) A) args s 0 0 A) (F0 m 0 ls []) := by
  obtain ⟨hx, hb, hr, hml, hown, hts, hlocks⟩ := id G
  intro H locs hP hD hS ls hl
  unfold wp_X4_pitchOf at h
  refine lv_aload_n hx hb dX4_pitchOf_0 rfl (lv_at hl 0 rfl) ?_
  refine va_get (D := D) (ci := 4) (v := .ref (ad_r 1)) (C := RX4) (T := TX4) (N := 8) hx hb hts us_X4_pitchOf_X4 hown hK hP 0 rfl rfl 0 (by decide) (hts (.fieldLink RX4 9 "RollHouse$Roll" "pitches" "[I") lk_X4_pitchOf_0) (fun _ h9 => h9) rfl dX4_pitchOf_1 ?_
  refine lv_iload_n hx hb dX4_pitchOf_4 rfl (lv_at hl 1 rfl) ?_
  obtain ⟨hin, h⟩ := h
  refine va_iald hx hb hK hP 1 0 rfl rfl hin dX4_pitchOf_5 ?_
  exact gl_ireti G hK (u := ()) hP hD hS h dX4_pitchOf_6
set_option maxRecDepth 100000 in
theorem mt_X4_pitchOf (l : Launch) (D : va_G) (cI cZ cR : ClassId) (ad_r : Nat → Nat) (sz : Nat) (r_pitches : Nat → Int32) (r_firstSteps : Nat → Int32) (r_lengths : Nat → Int32) (r_size : Int32) (r_held : Nat → Int32) (r_punched : Nat → Int32) (r_markedTicks : Nat → Int32) (r_marks : Int32) (v1 : Int32) (post : Int32 → Prop) (h : wp_X4_pitchOf r_pitches v1 post) : Met l yX4_pitchOf wsX4_pitchOf ({ frames := 0, cells := 0, slots := 0, locals := 0 }) (gPc D (gT cI cZ cR) (w_R cI cZ cR ad_r r_pitches r_firstSteps r_lengths r_size r_held r_punched r_markedTicks r_marks) sz [.ref (ad_r 0), .int v1]) (va_Qi (fun (r : Int32) (u : Unit) => post r ) (fun u t => gB D (gT cI cZ cR) (va_A (w_R cI cZ cR ad_r r_pitches r_firstSteps r_lengths r_size r_held r_punched r_markedTicks r_marks) sz) (w_R cI cZ cR ad_r r_pitches r_firstSteps r_lengths r_size r_held r_punched r_markedTicks r_marks) t) (va_A (w_R cI cZ cR ad_r r_pitches r_firstSteps r_lengths r_size r_held r_punched r_markedTicks r_marks) sz)) 0 0 (va_A (w_R cI cZ cR ad_r r_pitches r_firstSteps r_lengths r_size r_held r_punched r_markedTicks r_marks) sz) := by
  refine gl_entry (cc := cX4_pitchOf) (maxL := 2) (ret := (some .int)) (by decide) rfl (Nat.le_of_ble_eq_true rfl) ?_
  intro p e s m below meth c ls G hin hsz hK hN hP hD hl
  subst hsz
  exact ml_X4_pitchOf_0 G hK hN (fun q h => Or.inr h) r_pitches v1 post h s.heap [] hP hD va_S.rf ls hl
theorem lk_X4_firstStepOf_0 : (Cond.fieldLink RX4 15 "RollHouse$Roll" "firstSteps" "[I") ∈ wsX4_firstStepOf := by decide +kernel
theorem us_X4_firstStepOf_X4 : ∀ w ∈ u_ws RX4 TX4 8, w ∈ wsX4_firstStepOf := by decide +kernel
def wp_X4_firstStepOf (r_firstSteps : Nat → Int32) (v1 : Int32) (post : Int32 → Prop) : Prop := (vp_in v1 60 ∧ post (r_firstSteps v1.toNatClampNeg) )
set_option maxRecDepth 100000 in
set_option maxHeartbeats 4000000 in
theorem ml_X4_firstStepOf_0 {p : Program} {l : Launch} {e : Env} {s : State} {m : MethodId} {args : Array Value} {below : List Frame} {meth : Method} {c : Code} {D : va_G} {cI cZ cR : ClassId} {A : Nat → Prop} {ad_r : Nat → Nat} {r_pitches : Nat → Int32} {r_lengths : Nat → Int32} {r_size : Int32} {r_held : Nat → Int32} {r_punched : Nat → Int32} {r_markedTicks : Nat → Int32} {r_marks : Int32} (G : gG p s m args meth c cX4_firstStepOf (some .int) 2 RX4 wsX4_firstStepOf) (hK : va_K D vwCl (gT cI cZ cR) s) (hN : va_Nw gN s) (hA : ∀ q, s.heap.size ≤ q → A q) (r_firstSteps : Nat → Int32) (v1 : Int32) (post : Int32 → Prop)  (h : wp_X4_firstStepOf r_firstSteps v1 post) : ∀ (H : Heap) (locs : List Loc), va_P D vwCl (w_R cI cZ cR ad_r r_pitches r_firstSteps r_lengths r_size r_held r_punched r_markedTicks r_marks) H → va_D A (w_R cI cZ cR ad_r r_pitches r_firstSteps r_lengths r_size r_held r_punched r_markedTicks r_marks) → va_S A s.heap H locs → ∀ (ls : Array Slot), lv_has ls 2 [(0, .ref (ad_r 0)), (1, .int v1)] → W p l e { frames := 0, cells := 0, slots := 0, locals := 0 } s m args below meth c H locs 0 0 (MQ below (va_Qi (fun (r : Int32) (u : Unit) => post r ) (fun u t => gB D (gT cI cZ cR) A (w_R cI cZ cR ad_r r_pitches r_firstSteps r_lengths r_size r_held r_punched r_markedTicks r_marks) t) A) args s 0 0 A) (F0 m 0 ls []) := by
  obtain ⟨hx, hb, hr, hml, hown, hts, hlocks⟩ := id G
  intro H locs hP hD hS ls hl
  unfold wp_X4_firstStepOf at h
  refine lv_aload_n hx hb dX4_firstStepOf_0 rfl (lv_at hl 0 rfl) ?_
  refine va_get (D := D) (ci := 4) (v := .ref (ad_r 2)) (C := RX4) (T := TX4) (N := 8) hx hb hts us_X4_firstStepOf_X4 hown hK hP 0 rfl rfl 1 (by decide) (hts (.fieldLink RX4 15 "RollHouse$Roll" "firstSteps" "[I") lk_X4_firstStepOf_0) (fun _ h9 => h9) rfl dX4_firstStepOf_1 ?_
  refine lv_iload_n hx hb dX4_firstStepOf_4 rfl (lv_at hl 1 rfl) ?_
  obtain ⟨hin, h⟩ := h
  refine va_iald hx hb hK hP 2 0 rfl rfl hin dX4_firstStepOf_5 ?_
  exact gl_ireti G hK (u := ()) hP hD hS h dX4_firstStepOf_6
set_option maxRecDepth 100000 in
theorem mt_X4_firstStepOf (l : Launch) (D : va_G) (cI cZ cR : ClassId) (ad_r : Nat → Nat) (sz : Nat) (r_pitches : Nat → Int32) (r_firstSteps : Nat → Int32) (r_lengths : Nat → Int32) (r_size : Int32) (r_held : Nat → Int32) (r_punched : Nat → Int32) (r_markedTicks : Nat → Int32) (r_marks : Int32) (v1 : Int32) (post : Int32 → Prop) (h : wp_X4_firstStepOf r_firstSteps v1 post) : Met l yX4_firstStepOf wsX4_firstStepOf ({ frames := 0, cells := 0, slots := 0, locals := 0 }) (gPc D (gT cI cZ cR) (w_R cI cZ cR ad_r r_pitches r_firstSteps r_lengths r_size r_held r_punched r_markedTicks r_marks) sz [.ref (ad_r 0), .int v1]) (va_Qi (fun (r : Int32) (u : Unit) => post r ) (fun u t => gB D (gT cI cZ cR) (va_A (w_R cI cZ cR ad_r r_pitches r_firstSteps r_lengths r_size r_held r_punched r_markedTicks r_marks) sz) (w_R cI cZ cR ad_r r_pitches r_firstSteps r_lengths r_size r_held r_punched r_markedTicks r_marks) t) (va_A (w_R cI cZ cR ad_r r_pitches r_firstSteps r_lengths r_size r_held r_punched r_markedTicks r_marks) sz)) 0 0 (va_A (w_R cI cZ cR ad_r r_pitches r_firstSteps r_lengths r_size r_held r_punched r_markedTicks r_marks) sz) := by
  refine gl_entry (cc := cX4_firstStepOf) (maxL := 2) (ret := (some .int)) (by decide) rfl (Nat.le_of_ble_eq_true rfl) ?_
  intro p e s m below meth c ls G hin hsz hK hN hP hD hl
  subst hsz
  exact ml_X4_firstStepOf_0 G hK hN (fun q h => Or.inr h) r_firstSteps v1 post h s.heap [] hP hD va_S.rf ls hl
theorem lk_X4_lengthOf_0 : (Cond.fieldLink RX4 18 "RollHouse$Roll" "lengths" "[I") ∈ wsX4_lengthOf := by decide +kernel
theorem us_X4_lengthOf_X4 : ∀ w ∈ u_ws RX4 TX4 8, w ∈ wsX4_lengthOf := by decide +kernel
def wp_X4_lengthOf (r_lengths : Nat → Int32) (v1 : Int32) (post : Int32 → Prop) : Prop := (vp_in v1 60 ∧ post (r_lengths v1.toNatClampNeg) )
set_option maxRecDepth 100000 in
set_option maxHeartbeats 4000000 in
theorem ml_X4_lengthOf_0 {p : Program} {l : Launch} {e : Env} {s : State} {m : MethodId} {args : Array Value} {below : List Frame} {meth : Method} {c : Code} {D : va_G} {cI cZ cR : ClassId} {A : Nat → Prop} {ad_r : Nat → Nat} {r_pitches : Nat → Int32} {r_firstSteps : Nat → Int32} {r_size : Int32} {r_held : Nat → Int32} {r_punched : Nat → Int32} {r_markedTicks : Nat → Int32} {r_marks : Int32} (G : gG p s m args meth c cX4_lengthOf (some .int) 2 RX4 wsX4_lengthOf) (hK : va_K D vwCl (gT cI cZ cR) s) (hN : va_Nw gN s) (hA : ∀ q, s.heap.size ≤ q → A q) (r_lengths : Nat → Int32) (v1 : Int32) (post : Int32 → Prop)  (h : wp_X4_lengthOf r_lengths v1 post) : ∀ (H : Heap) (locs : List Loc), va_P D vwCl (w_R cI cZ cR ad_r r_pitches r_firstSteps r_lengths r_size r_held r_punched r_markedTicks r_marks) H → va_D A (w_R cI cZ cR ad_r r_pitches r_firstSteps r_lengths r_size r_held r_punched r_markedTicks r_marks) → va_S A s.heap H locs → ∀ (ls : Array Slot), lv_has ls 2 [(0, .ref (ad_r 0)), (1, .int v1)] → W p l e { frames := 0, cells := 0, slots := 0, locals := 0 } s m args below meth c H locs 0 0 (MQ below (va_Qi (fun (r : Int32) (u : Unit) => post r ) (fun u t => gB D (gT cI cZ cR) A (w_R cI cZ cR ad_r r_pitches r_firstSteps r_lengths r_size r_held r_punched r_markedTicks r_marks) t) A) args s 0 0 A) (F0 m 0 ls []) := by
  obtain ⟨hx, hb, hr, hml, hown, hts, hlocks⟩ := id G
  intro H locs hP hD hS ls hl
  unfold wp_X4_lengthOf at h
  refine lv_aload_n hx hb dX4_lengthOf_0 rfl (lv_at hl 0 rfl) ?_
  refine va_get (D := D) (ci := 4) (v := .ref (ad_r 3)) (C := RX4) (T := TX4) (N := 8) hx hb hts us_X4_lengthOf_X4 hown hK hP 0 rfl rfl 2 (by decide) (hts (.fieldLink RX4 18 "RollHouse$Roll" "lengths" "[I") lk_X4_lengthOf_0) (fun _ h9 => h9) rfl dX4_lengthOf_1 ?_
  refine lv_iload_n hx hb dX4_lengthOf_4 rfl (lv_at hl 1 rfl) ?_
  obtain ⟨hin, h⟩ := h
  refine va_iald hx hb hK hP 3 0 rfl rfl hin dX4_lengthOf_5 ?_
  exact gl_ireti G hK (u := ()) hP hD hS h dX4_lengthOf_6
set_option maxRecDepth 100000 in
theorem mt_X4_lengthOf (l : Launch) (D : va_G) (cI cZ cR : ClassId) (ad_r : Nat → Nat) (sz : Nat) (r_pitches : Nat → Int32) (r_firstSteps : Nat → Int32) (r_lengths : Nat → Int32) (r_size : Int32) (r_held : Nat → Int32) (r_punched : Nat → Int32) (r_markedTicks : Nat → Int32) (r_marks : Int32) (v1 : Int32) (post : Int32 → Prop) (h : wp_X4_lengthOf r_lengths v1 post) : Met l yX4_lengthOf wsX4_lengthOf ({ frames := 0, cells := 0, slots := 0, locals := 0 }) (gPc D (gT cI cZ cR) (w_R cI cZ cR ad_r r_pitches r_firstSteps r_lengths r_size r_held r_punched r_markedTicks r_marks) sz [.ref (ad_r 0), .int v1]) (va_Qi (fun (r : Int32) (u : Unit) => post r ) (fun u t => gB D (gT cI cZ cR) (va_A (w_R cI cZ cR ad_r r_pitches r_firstSteps r_lengths r_size r_held r_punched r_markedTicks r_marks) sz) (w_R cI cZ cR ad_r r_pitches r_firstSteps r_lengths r_size r_held r_punched r_markedTicks r_marks) t) (va_A (w_R cI cZ cR ad_r r_pitches r_firstSteps r_lengths r_size r_held r_punched r_markedTicks r_marks) sz)) 0 0 (va_A (w_R cI cZ cR ad_r r_pitches r_firstSteps r_lengths r_size r_held r_punched r_markedTicks r_marks) sz) := by
  refine gl_entry (cc := cX4_lengthOf) (maxL := 2) (ret := (some .int)) (by decide) rfl (Nat.le_of_ble_eq_true rfl) ?_
  intro p e s m below meth c ls G hin hsz hK hN hP hD hl
  subst hsz
  exact ml_X4_lengthOf_0 G hK hN (fun q h => Or.inr h) r_lengths v1 post h s.heap [] hP hD va_S.rf ls hl
theorem lk_X4_pitchesIn_0 : (Cond.fieldLink RX4 25 "RollHouse$Roll" "held" "[I") ∈ wsX4_pitchesIn := by decide +kernel
theorem us_X4_pitchesIn_X4 : ∀ w ∈ u_ws RX4 TX4 8, w ∈ wsX4_pitchesIn := by decide +kernel
def wp_X4_pitchesIn (r_held : Nat → Int32) (v1 : Int32) (post : Int32 → Prop) : Prop := (vp_in v1 300 ∧ post (r_held v1.toNatClampNeg) )
set_option maxRecDepth 100000 in
set_option maxHeartbeats 4000000 in
theorem ml_X4_pitchesIn_0 {p : Program} {l : Launch} {e : Env} {s : State} {m : MethodId} {args : Array Value} {below : List Frame} {meth : Method} {c : Code} {D : va_G} {cI cZ cR : ClassId} {A : Nat → Prop} {ad_r : Nat → Nat} {r_pitches : Nat → Int32} {r_firstSteps : Nat → Int32} {r_lengths : Nat → Int32} {r_size : Int32} {r_punched : Nat → Int32} {r_markedTicks : Nat → Int32} {r_marks : Int32} (G : gG p s m args meth c cX4_pitchesIn (some .int) 2 RX4 wsX4_pitchesIn) (hK : va_K D vwCl (gT cI cZ cR) s) (hN : va_Nw gN s) (hA : ∀ q, s.heap.size ≤ q → A q) (r_held : Nat → Int32) (v1 : Int32) (post : Int32 → Prop)  (h : wp_X4_pitchesIn r_held v1 post) : ∀ (H : Heap) (locs : List Loc), va_P D vwCl (w_R cI cZ cR ad_r r_pitches r_firstSteps r_lengths r_size r_held r_punched r_markedTicks r_marks) H → va_D A (w_R cI cZ cR ad_r r_pitches r_firstSteps r_lengths r_size r_held r_punched r_markedTicks r_marks) → va_S A s.heap H locs → ∀ (ls : Array Slot), lv_has ls 2 [(0, .ref (ad_r 0)), (1, .int v1)] → W p l e { frames := 0, cells := 0, slots := 0, locals := 0 } s m args below meth c H locs 0 0 (MQ below (va_Qi (fun (r : Int32) (u : Unit) => post r ) (fun u t => gB D (gT cI cZ cR) A (w_R cI cZ cR ad_r r_pitches r_firstSteps r_lengths r_size r_held r_punched r_markedTicks r_marks) t) A) args s 0 0 A) (F0 m 0 ls []) := by
  obtain ⟨hx, hb, hr, hml, hown, hts, hlocks⟩ := id G
  intro H locs hP hD hS ls hl
  unfold wp_X4_pitchesIn at h
  refine lv_aload_n hx hb dX4_pitchesIn_0 rfl (lv_at hl 0 rfl) ?_
  refine va_get (D := D) (ci := 4) (v := .ref (ad_r 4)) (C := RX4) (T := TX4) (N := 8) hx hb hts us_X4_pitchesIn_X4 hown hK hP 0 rfl rfl 4 (by decide) (hts (.fieldLink RX4 25 "RollHouse$Roll" "held" "[I") lk_X4_pitchesIn_0) (fun _ h9 => h9) rfl dX4_pitchesIn_1 ?_
  refine lv_iload_n hx hb dX4_pitchesIn_4 rfl (lv_at hl 1 rfl) ?_
  obtain ⟨hin, h⟩ := h
  refine va_iald hx hb hK hP 4 0 rfl rfl hin dX4_pitchesIn_5 ?_
  exact gl_ireti G hK (u := ()) hP hD hS h dX4_pitchesIn_6
set_option maxRecDepth 100000 in
theorem mt_X4_pitchesIn (l : Launch) (D : va_G) (cI cZ cR : ClassId) (ad_r : Nat → Nat) (sz : Nat) (r_pitches : Nat → Int32) (r_firstSteps : Nat → Int32) (r_lengths : Nat → Int32) (r_size : Int32) (r_held : Nat → Int32) (r_punched : Nat → Int32) (r_markedTicks : Nat → Int32) (r_marks : Int32) (v1 : Int32) (post : Int32 → Prop) (h : wp_X4_pitchesIn r_held v1 post) : Met l yX4_pitchesIn wsX4_pitchesIn ({ frames := 0, cells := 0, slots := 0, locals := 0 }) (gPc D (gT cI cZ cR) (w_R cI cZ cR ad_r r_pitches r_firstSteps r_lengths r_size r_held r_punched r_markedTicks r_marks) sz [.ref (ad_r 0), .int v1]) (va_Qi (fun (r : Int32) (u : Unit) => post r ) (fun u t => gB D (gT cI cZ cR) (va_A (w_R cI cZ cR ad_r r_pitches r_firstSteps r_lengths r_size r_held r_punched r_markedTicks r_marks) sz) (w_R cI cZ cR ad_r r_pitches r_firstSteps r_lengths r_size r_held r_punched r_markedTicks r_marks) t) (va_A (w_R cI cZ cR ad_r r_pitches r_firstSteps r_lengths r_size r_held r_punched r_markedTicks r_marks) sz)) 0 0 (va_A (w_R cI cZ cR ad_r r_pitches r_firstSteps r_lengths r_size r_held r_punched r_markedTicks r_marks) sz) := by
  refine gl_entry (cc := cX4_pitchesIn) (maxL := 2) (ret := (some .int)) (by decide) rfl (Nat.le_of_ble_eq_true rfl) ?_
  intro p e s m below meth c ls G hin hsz hK hN hP hD hl
  subst hsz
  exact ml_X4_pitchesIn_0 G hK hN (fun q h => Or.inr h) r_held v1 post h s.heap [] hP hD va_S.rf ls hl
theorem lk_X4_markCount_0 : (Cond.fieldLink RX4 34 "RollHouse$Roll" "marks" "I") ∈ wsX4_markCount := by decide +kernel
theorem us_X4_markCount_X4 : ∀ w ∈ u_ws RX4 TX4 8, w ∈ wsX4_markCount := by decide +kernel
def wp_X4_markCount (r_marks : Int32) (post : Int32 → Prop) : Prop := post r_marks 
set_option maxRecDepth 100000 in
set_option maxHeartbeats 4000000 in
theorem ml_X4_markCount_0 {p : Program} {l : Launch} {e : Env} {s : State} {m : MethodId} {args : Array Value} {below : List Frame} {meth : Method} {c : Code} {D : va_G} {cI cZ cR : ClassId} {A : Nat → Prop} {ad_r : Nat → Nat} {r_pitches : Nat → Int32} {r_firstSteps : Nat → Int32} {r_lengths : Nat → Int32} {r_size : Int32} {r_held : Nat → Int32} {r_punched : Nat → Int32} {r_markedTicks : Nat → Int32} (G : gG p s m args meth c cX4_markCount (some .int) 1 RX4 wsX4_markCount) (hK : va_K D vwCl (gT cI cZ cR) s) (hN : va_Nw gN s) (hA : ∀ q, s.heap.size ≤ q → A q) (r_marks : Int32) (post : Int32 → Prop)  (h : wp_X4_markCount r_marks post) : ∀ (H : Heap) (locs : List Loc), va_P D vwCl (w_R cI cZ cR ad_r r_pitches r_firstSteps r_lengths r_size r_held r_punched r_markedTicks r_marks) H → va_D A (w_R cI cZ cR ad_r r_pitches r_firstSteps r_lengths r_size r_held r_punched r_markedTicks r_marks) → va_S A s.heap H locs → ∀ (ls : Array Slot), lv_has ls 1 [(0, .ref (ad_r 0))] → W p l e { frames := 0, cells := 0, slots := 0, locals := 0 } s m args below meth c H locs 0 0 (MQ below (va_Qi (fun (r : Int32) (u : Unit) => post r ) (fun u t => gB D (gT cI cZ cR) A (w_R cI cZ cR ad_r r_pitches r_firstSteps r_lengths r_size r_held r_punched r_markedTicks r_marks) t) A) args s 0 0 A) (F0 m 0 ls []) := by
  obtain ⟨hx, hb, hr, hml, hown, hts, hlocks⟩ := id G
  intro H locs hP hD hS ls hl
  unfold wp_X4_markCount at h
  refine lv_aload_n hx hb dX4_markCount_0 rfl (lv_at hl 0 rfl) ?_
  refine va_get (D := D) (ci := 4) (v := .int r_marks) (C := RX4) (T := TX4) (N := 8) hx hb hts us_X4_markCount_X4 hown hK hP 0 rfl rfl 7 (by decide) (hts (.fieldLink RX4 34 "RollHouse$Roll" "marks" "I") lk_X4_markCount_0) (fun _ h9 => h9) rfl dX4_markCount_1 ?_
  exact gl_ireti G hK (u := ()) hP hD hS h dX4_markCount_4
set_option maxRecDepth 100000 in
theorem mt_X4_markCount (l : Launch) (D : va_G) (cI cZ cR : ClassId) (ad_r : Nat → Nat) (sz : Nat) (r_pitches : Nat → Int32) (r_firstSteps : Nat → Int32) (r_lengths : Nat → Int32) (r_size : Int32) (r_held : Nat → Int32) (r_punched : Nat → Int32) (r_markedTicks : Nat → Int32) (r_marks : Int32) (post : Int32 → Prop) (h : wp_X4_markCount r_marks post) : Met l yX4_markCount wsX4_markCount ({ frames := 0, cells := 0, slots := 0, locals := 0 }) (gPc D (gT cI cZ cR) (w_R cI cZ cR ad_r r_pitches r_firstSteps r_lengths r_size r_held r_punched r_markedTicks r_marks) sz [.ref (ad_r 0)]) (va_Qi (fun (r : Int32) (u : Unit) => post r ) (fun u t => gB D (gT cI cZ cR) (va_A (w_R cI cZ cR ad_r r_pitches r_firstSteps r_lengths r_size r_held r_punched r_markedTicks r_marks) sz) (w_R cI cZ cR ad_r r_pitches r_firstSteps r_lengths r_size r_held r_punched r_markedTicks r_marks) t) (va_A (w_R cI cZ cR ad_r r_pitches r_firstSteps r_lengths r_size r_held r_punched r_markedTicks r_marks) sz)) 0 0 (va_A (w_R cI cZ cR ad_r r_pitches r_firstSteps r_lengths r_size r_held r_punched r_markedTicks r_marks) sz) := by
  refine gl_entry (cc := cX4_markCount) (maxL := 1) (ret := (some .int)) (by decide) rfl (Nat.le_of_ble_eq_true rfl) ?_
  intro p e s m below meth c ls G hin hsz hK hN hP hD hl
  subst hsz
  exact ml_X4_markCount_0 G hK hN (fun q h => Or.inr h) r_marks post h s.heap [] hP hD va_S.rf ls hl
theorem lk_X4_kindOfHole_0 : (Cond.fieldLink RX4 28 "RollHouse$Roll" "punched" "[I") ∈ wsX4_kindOfHole := by decide +kernel
theorem lk_X4_kindOfHole_1 : (Cond.fieldLink RX4 25 "RollHouse$Roll" "held" "[I") ∈ wsX4_kindOfHole := by decide +kernel
theorem us_X4_kindOfHole_X4 : ∀ w ∈ u_ws RX4 TX4 8, w ∈ wsX4_kindOfHole := by decide +kernel
def wp_X4_kindOfHole (r_held : Nat → Int32) (r_punched : Nat → Int32) (v1 : Int32) (v2 : Int32) (post : Int32 → Prop) : Prop := (∀ z1 : Int32, z1 = 1 <<< (v1 &&& 31) → (vp_in v2 300 ∧ ((((r_punched v2.toNatClampNeg) &&& z1) = 0 → (vp_in v2 300 ∧ ((((r_held v2.toNatClampNeg) &&& z1) = 0 → post 0 ) ∧ (¬ ((r_held v2.toNatClampNeg) &&& z1) = 0 → post 2 )))) ∧ (¬ ((r_punched v2.toNatClampNeg) &&& z1) = 0 → post 1 ))))
set_option maxRecDepth 100000 in
set_option maxHeartbeats 4000000 in
theorem ml_X4_kindOfHole_0 {p : Program} {l : Launch} {e : Env} {s : State} {m : MethodId} {args : Array Value} {below : List Frame} {meth : Method} {c : Code} {D : va_G} {cI cZ cR : ClassId} {A : Nat → Prop} {ad_r : Nat → Nat} {r_pitches : Nat → Int32} {r_firstSteps : Nat → Int32} {r_lengths : Nat → Int32} {r_size : Int32} {r_markedTicks : Nat → Int32} {r_marks : Int32} (G : gG p s m args meth c cX4_kindOfHole (some .int) 4 RX4 wsX4_kindOfHole) (hK : va_K D vwCl (gT cI cZ cR) s) (hN : va_Nw gN s) (hA : ∀ q, s.heap.size ≤ q → A q) (r_held : Nat → Int32) (r_punched : Nat → Int32) (v1 : Int32) (v2 : Int32) (post : Int32 → Prop)  (h : wp_X4_kindOfHole r_held r_punched v1 v2 post) : ∀ (H : Heap) (locs : List Loc), va_P D vwCl (w_R cI cZ cR ad_r r_pitches r_firstSteps r_lengths r_size r_held r_punched r_markedTicks r_marks) H → va_D A (w_R cI cZ cR ad_r r_pitches r_firstSteps r_lengths r_size r_held r_punched r_markedTicks r_marks) → va_S A s.heap H locs → ∀ (ls : Array Slot), lv_has ls 4 [(0, .ref (ad_r 0)), (1, .int v1), (2, .int v2)] → W p l e { frames := 0, cells := 0, slots := 0, locals := 0 } s m args below meth c H locs 0 0 (MQ below (va_Qi (fun (r : Int32) (u : Unit) => post r ) (fun u t => gB D (gT cI cZ cR) A (w_R cI cZ cR ad_r r_pitches r_firstSteps r_lengths r_size r_held r_punched r_markedTicks r_marks) t) A) args s 0 0 A) (F0 m 0 ls []) := by
  obtain ⟨hx, hb, hr, hml, hown, hts, hlocks⟩ := id G
  intro H locs hP hD hS ls hl
  unfold wp_X4_kindOfHole at h
  refine lv_iconst (v := 1) hx hb dX4_kindOfHole_0 (by decide) ?_
  refine lv_iload_n hx hb dX4_kindOfHole_1 rfl (lv_at hl 1 rfl) ?_
  refine lv_ishl hx hb dX4_kindOfHole_2 ?_
  refine lv_topi (fun z1 ez1 => ?_)
  have h := h z1 ez1
  refine lv_istore_n (lv' := [(3, .int z1), (0, .ref (ad_r 0)), (1, .int v1), (2, .int v2)]) hx hb dX4_kindOfHole_3 rfl hl (by decide) rfl (fun ls hl => ?_)
  refine lv_aload_n hx hb dX4_kindOfHole_4 rfl (lv_at hl 1 rfl) ?_
  refine va_get (D := D) (ci := 4) (v := .ref (ad_r 5)) (C := RX4) (T := TX4) (N := 8) hx hb hts us_X4_kindOfHole_X4 hown hK hP 0 rfl rfl 5 (by decide) (hts (.fieldLink RX4 28 "RollHouse$Roll" "punched" "[I") lk_X4_kindOfHole_0) (fun _ h9 => h9) rfl dX4_kindOfHole_5 ?_
  refine lv_iload_n hx hb dX4_kindOfHole_8 rfl (lv_at hl 3 rfl) ?_
  obtain ⟨hin, h⟩ := h
  refine va_iald hx hb hK hP 5 0 rfl rfl hin dX4_kindOfHole_9 ?_
  refine lv_iload_n hx hb dX4_kindOfHole_10 rfl (lv_at hl 0 rfl) ?_
  refine lv_iand hx hb dX4_kindOfHole_11 ?_
  refine lv_if_eq (tgt := 17) hx hb dX4_kindOfHole_12 (by decide) (fun hc => ?_) (fun hc => ?_)
  · have h := h.1 hc
    refine lv_aload_n hx hb dX4_kindOfHole_17 rfl (lv_at hl 1 rfl) ?_
    refine va_get (D := D) (ci := 4) (v := .ref (ad_r 4)) (C := RX4) (T := TX4) (N := 8) hx hb hts us_X4_kindOfHole_X4 hown hK hP 0 rfl rfl 4 (by decide) (hts (.fieldLink RX4 25 "RollHouse$Roll" "held" "[I") lk_X4_kindOfHole_1) (fun _ h9 => h9) rfl dX4_kindOfHole_18 ?_
    refine lv_iload_n hx hb dX4_kindOfHole_21 rfl (lv_at hl 3 rfl) ?_
    obtain ⟨hin, h⟩ := h
    refine va_iald hx hb hK hP 4 0 rfl rfl hin dX4_kindOfHole_22 ?_
    refine lv_iload_n hx hb dX4_kindOfHole_23 rfl (lv_at hl 0 rfl) ?_
    refine lv_iand hx hb dX4_kindOfHole_24 ?_
    refine lv_if_eq (tgt := 32) hx hb dX4_kindOfHole_25 (by decide) (fun hc => ?_) (fun hc => ?_)
    · have h := h.1 hc
      refine lv_iconst (v := 0) hx hb dX4_kindOfHole_32 (by decide) ?_
      exact gl_ireti G hK (u := ()) hP hD hS h dX4_kindOfHole_33
    · have h := h.2 hc
      refine lv_iconst (v := 2) hx hb dX4_kindOfHole_28 (by decide) ?_
      refine lv_goto (tgt := 33) hx hb dX4_kindOfHole_29 (by decide) ?_
      exact gl_ireti G hK (u := ()) hP hD hS h dX4_kindOfHole_33
  · have h := h.2 hc
    refine lv_iconst (v := 1) hx hb dX4_kindOfHole_15 (by decide) ?_
    exact gl_ireti G hK (u := ()) hP hD hS h dX4_kindOfHole_16
set_option maxRecDepth 100000 in
theorem mt_X4_kindOfHole (l : Launch) (D : va_G) (cI cZ cR : ClassId) (ad_r : Nat → Nat) (sz : Nat) (r_pitches : Nat → Int32) (r_firstSteps : Nat → Int32) (r_lengths : Nat → Int32) (r_size : Int32) (r_held : Nat → Int32) (r_punched : Nat → Int32) (r_markedTicks : Nat → Int32) (r_marks : Int32) (v1 : Int32) (v2 : Int32) (post : Int32 → Prop) (h : wp_X4_kindOfHole r_held r_punched v1 v2 post) : Met l yX4_kindOfHole wsX4_kindOfHole ({ frames := 0, cells := 0, slots := 0, locals := 0 }) (gPc D (gT cI cZ cR) (w_R cI cZ cR ad_r r_pitches r_firstSteps r_lengths r_size r_held r_punched r_markedTicks r_marks) sz [.ref (ad_r 0), .int v1, .int v2]) (va_Qi (fun (r : Int32) (u : Unit) => post r ) (fun u t => gB D (gT cI cZ cR) (va_A (w_R cI cZ cR ad_r r_pitches r_firstSteps r_lengths r_size r_held r_punched r_markedTicks r_marks) sz) (w_R cI cZ cR ad_r r_pitches r_firstSteps r_lengths r_size r_held r_punched r_markedTicks r_marks) t) (va_A (w_R cI cZ cR ad_r r_pitches r_firstSteps r_lengths r_size r_held r_punched r_markedTicks r_marks) sz)) 0 0 (va_A (w_R cI cZ cR ad_r r_pitches r_firstSteps r_lengths r_size r_held r_punched r_markedTicks r_marks) sz) := by
  refine gl_entry (cc := cX4_kindOfHole) (maxL := 4) (ret := (some .int)) (by decide) rfl (Nat.le_of_ble_eq_true rfl) ?_
  intro p e s m below meth c ls G hin hsz hK hN hP hD hl
  subst hsz
  exact ml_X4_kindOfHole_0 G hK hN (fun q h => Or.inr h) r_held r_punched v1 v2 post h s.heap [] hP hD va_S.rf ls hl
theorem lk_X4_isTooNear_0 : (Cond.methodLink RX4 48 Lib.Math.max.name) ∈ wsX4_isTooNear := by decide +kernel
theorem lk_X4_isTooNear_1 : (Cond.static Lib.Math.max.name) ∈ wsX4_isTooNear := by decide +kernel
theorem lk_X4_isTooNear_2 : (Cond.initialized "java/lang/Math") ∈ wsX4_isTooNear := by decide +kernel
theorem lk_X4_isTooNear_3 : (Cond.code Lib.Math.max.name Lib.Math.max.code 2 (some .int)) ∈ wsX4_isTooNear := by decide +kernel
theorem lk_X4_isTooNear_4 : (Cond.methodLink RX4 54 Lib.Math.min.name) ∈ wsX4_isTooNear := by decide +kernel
theorem lk_X4_isTooNear_5 : (Cond.static Lib.Math.min.name) ∈ wsX4_isTooNear := by decide +kernel
theorem lk_X4_isTooNear_6 : (Cond.code Lib.Math.min.name Lib.Math.min.code 2 (some .int)) ∈ wsX4_isTooNear := by decide +kernel
theorem lk_X4_isTooNear_7 : (Cond.fieldLink RX4 25 "RollHouse$Roll" "held" "[I") ∈ wsX4_isTooNear := by decide +kernel
theorem us_X4_isTooNear_X4 : ∀ w ∈ u_ws RX4 TX4 8, w ∈ wsX4_isTooNear := by decide +kernel
def wl_X4_isTooNear_24 (r_held : Nat → Int32) (v1 : Int32) (v2 : Int32) (v3 : Int32) (post : Int32 → Prop) : Nat → (Int32) → (Int32) → Prop
  | 0, _, _ => False
  | fu + 1, v5, v6 => ((v5 < v6 → post 0 ) ∧ (¬ v5 < v6 → (vp_in v6 300 ∧ (((((r_held v6.toNatClampNeg) >>> (v1 &&& 31)) &&& 1) = 0 → wl_X4_isTooNear_24 r_held v1 v2 v3 post fu v5 (v6 + 1)) ∧ (¬ (((r_held v6.toNatClampNeg) >>> (v1 &&& 31)) &&& 1) = 0 → post 1 )))))
def wp_X4_isTooNear (r_held : Nat → Int32) (v1 : Int32) (v2 : Int32) (v3 : Int32) (post : Int32 → Prop) : Prop := (∀ z1 : Int32, z1 = (if (v2 - 1) < 0 then 0 else (v2 - 1)) → (∀ z2 : Int32, z2 = (if 299 < (v2 + v3) then 299 else (v2 + v3)) → (∃ n, wl_X4_isTooNear_24 r_held v1 v2 v3 post n z2 z1)))
set_option maxRecDepth 100000 in
set_option maxHeartbeats 4000000 in
theorem ml_X4_isTooNear_24 {p : Program} {l : Launch} {e : Env} {s : State} {m : MethodId} {args : Array Value} {below : List Frame} {meth : Method} {c : Code} {D : va_G} {cI cZ cR : ClassId} {A : Nat → Prop} {ad_r : Nat → Nat} {r_pitches : Nat → Int32} {r_firstSteps : Nat → Int32} {r_lengths : Nat → Int32} {r_size : Int32} {r_punched : Nat → Int32} {r_markedTicks : Nat → Int32} {r_marks : Int32} (G : gG p s m args meth c cX4_isTooNear (some .boolean) 7 RX4 wsX4_isTooNear) (hK : va_K D vwCl (gT cI cZ cR) s) (hN : va_Nw gN s) (hA : ∀ q, s.heap.size ≤ q → A q) (r_held : Nat → Int32) (v1 : Int32) (v2 : Int32) (v3 : Int32) (post : Int32 → Prop) : ∀ (fu : Nat) (v5 : Int32) (v6 : Int32), wl_X4_isTooNear_24 r_held v1 v2 v3 post fu v5 v6 → ∀ (H : Heap) (locs : List Loc), va_P D vwCl (w_R cI cZ cR ad_r r_pitches r_firstSteps r_lengths r_size r_held r_punched r_markedTicks r_marks) H → va_D A (w_R cI cZ cR ad_r r_pitches r_firstSteps r_lengths r_size r_held r_punched r_markedTicks r_marks) → va_S A s.heap H locs → ∀ (ls : Array Slot), lv_has ls 7 [(0, .ref (ad_r 0)), (1, .int v1), (5, .int v5), (6, .int v6)] → W p l e { frames := 1, cells := 0, slots := 0, locals := 21 } s m args below meth c H locs 0 0 (MQ below (va_Qi (fun (r : Int32) (u : Unit) => post r ) (fun u t => gB D (gT cI cZ cR) A (w_R cI cZ cR ad_r r_pitches r_firstSteps r_lengths r_size r_held r_punched r_markedTicks r_marks) t) A) args s 0 0 A) (F0 m 24 ls []) := by
  obtain ⟨hx, hb, hr, hml, hown, hts, hlocks⟩ := id G
  intro fu
  induction fu with
  | zero =>
    intro v5 v6 h
    exact h.elim
  | succ fu ih =>
    intro v5 v6 h H locs hP hD hS ls hl
    rw [wl_X4_isTooNear_24] at h
    refine lv_iload hx hb dX4_isTooNear_24 (lv_at hl 3 rfl) ?_
    refine lv_iload hx hb dX4_isTooNear_26 (lv_at hl 2 rfl) ?_
    refine lv_icmp_gt (tgt := 53) hx hb dX4_isTooNear_28 (by decide) (fun hc => ?_) (fun hc => ?_)
    · have h := h.1 hc
      refine lv_iconst (v := 0) hx hb dX4_isTooNear_53 (by decide) ?_
      exact gl_iretz G hK (u := ()) hP hD hS (by decide) h dX4_isTooNear_54
    · have h := h.2 hc
      refine lv_aload_n hx hb dX4_isTooNear_31 rfl (lv_at hl 0 rfl) ?_
      refine va_get (D := D) (ci := 4) (v := .ref (ad_r 4)) (C := RX4) (T := TX4) (N := 8) hx hb hts us_X4_isTooNear_X4 hown hK hP 0 rfl rfl 4 (by decide) (hts (.fieldLink RX4 25 "RollHouse$Roll" "held" "[I") lk_X4_isTooNear_7) (fun _ h9 => h9) rfl dX4_isTooNear_32 ?_
      refine lv_iload hx hb dX4_isTooNear_35 (lv_at hl 3 rfl) ?_
      obtain ⟨hin, h⟩ := h
      refine va_iald hx hb hK hP 4 0 rfl rfl hin dX4_isTooNear_37 ?_
      refine lv_iload_n hx hb dX4_isTooNear_38 rfl (lv_at hl 1 rfl) ?_
      refine lv_ishr hx hb dX4_isTooNear_39 ?_
      refine lv_iconst (v := 1) hx hb dX4_isTooNear_40 (by decide) ?_
      refine lv_iand hx hb dX4_isTooNear_41 ?_
      refine lv_if_eq (tgt := 47) hx hb dX4_isTooNear_42 (by decide) (fun hc => ?_) (fun hc => ?_)
      · have h := h.1 hc
        refine lv_iinc (v := v6 + 1) (lv' := [(6, .int (v6 + 1)), (0, .ref (ad_r 0)), (1, .int v1), (5, .int v5)]) hx hb dX4_isTooNear_47 hl (k := 3) rfl rfl (by decide) rfl (fun ls hl => ?_)
        refine lv_goto (tgt := 24) hx hb dX4_isTooNear_50 (by decide) ?_
        exact ih v5 (v6 + 1) h H locs hP hD hS ls (lv_sub hl [1, 2, 3, 0] rfl)
      · have h := h.2 hc
        refine lv_iconst (v := 1) hx hb dX4_isTooNear_45 (by decide) ?_
        exact gl_iretz G hK (u := ()) hP hD hS (by decide) h dX4_isTooNear_46
set_option maxRecDepth 100000 in
set_option maxHeartbeats 4000000 in
theorem ml_X4_isTooNear_0 {p : Program} {l : Launch} {e : Env} {s : State} {m : MethodId} {args : Array Value} {below : List Frame} {meth : Method} {c : Code} {D : va_G} {cI cZ cR : ClassId} {A : Nat → Prop} {ad_r : Nat → Nat} {r_pitches : Nat → Int32} {r_firstSteps : Nat → Int32} {r_lengths : Nat → Int32} {r_size : Int32} {r_punched : Nat → Int32} {r_markedTicks : Nat → Int32} {r_marks : Int32} (G : gG p s m args meth c cX4_isTooNear (some .boolean) 7 RX4 wsX4_isTooNear) (hK : va_K D vwCl (gT cI cZ cR) s) (hN : va_Nw gN s) (hA : ∀ q, s.heap.size ≤ q → A q) (r_held : Nat → Int32) (v1 : Int32) (v2 : Int32) (v3 : Int32) (post : Int32 → Prop)  (h : wp_X4_isTooNear r_held v1 v2 v3 post) : ∀ (H : Heap) (locs : List Loc), va_P D vwCl (w_R cI cZ cR ad_r r_pitches r_firstSteps r_lengths r_size r_held r_punched r_markedTicks r_marks) H → va_D A (w_R cI cZ cR ad_r r_pitches r_firstSteps r_lengths r_size r_held r_punched r_markedTicks r_marks) → va_S A s.heap H locs → ∀ (ls : Array Slot), lv_has ls 7 [(0, .ref (ad_r 0)), (1, .int v1), (2, .int v2), (3, .int v3)] → W p l e { frames := 1, cells := 0, slots := 0, locals := 21 } s m args below meth c H locs 0 0 (MQ below (va_Qi (fun (r : Int32) (u : Unit) => post r ) (fun u t => gB D (gT cI cZ cR) A (w_R cI cZ cR ad_r r_pitches r_firstSteps r_lengths r_size r_held r_punched r_markedTicks r_marks) t) A) args s 0 0 A) (F0 m 0 ls []) := by
  obtain ⟨hx, hb, hr, hml, hown, hts, hlocks⟩ := id G
  intro H locs hP hD hS ls hl
  unfold wp_X4_isTooNear at h
  refine lv_iload_n hx hb dX4_isTooNear_0 rfl (lv_at hl 2 rfl) ?_
  refine lv_iconst (v := 1) hx hb dX4_isTooNear_1 (by decide) ?_
  refine lv_isub hx hb dX4_isTooNear_2 ?_
  refine lv_iconst (v := 0) hx hb dX4_isTooNear_3 (by decide) ?_
  refine va_mmax hx hb (hml.trans hl.1.symm) hown (hts (.methodLink RX4 48 Lib.Math.max.name) lk_X4_isTooNear_0) (hts (.static Lib.Math.max.name) lk_X4_isTooNear_1) (hts (.initialized "java/lang/Math") lk_X4_isTooNear_2) (hts (.code Lib.Math.max.name Lib.Math.max.code 2 (some .int)) lk_X4_isTooNear_3) (Nat.le_of_ble_eq_true rfl) (Nat.le_of_ble_eq_true rfl) (Nat.le_of_ble_eq_true rfl) (Nat.le_of_ble_eq_true rfl) dX4_isTooNear_4 ?_
  refine lv_topi (fun z1 ez1 => ?_)
  have h := h z1 ez1
  refine lv_istore (lv' := [(4, .int z1), (0, .ref (ad_r 0)), (1, .int v1), (2, .int v2), (3, .int v3)]) hx hb dX4_isTooNear_7 hl (by decide) rfl (fun ls hl => ?_)
  refine lv_iload_n hx hb dX4_isTooNear_9 rfl (lv_at hl 3 rfl) ?_
  refine lv_iload_n hx hb dX4_isTooNear_10 rfl (lv_at hl 4 rfl) ?_
  refine lv_iadd hx hb dX4_isTooNear_11 ?_
  refine lv_sipush (v := 299) hx hb dX4_isTooNear_12 (by decide) ?_
  refine va_mmin hx hb (hml.trans hl.1.symm) hown (hts (.methodLink RX4 54 Lib.Math.min.name) lk_X4_isTooNear_4) (hts (.static Lib.Math.min.name) lk_X4_isTooNear_5) (hts (.initialized "java/lang/Math") lk_X4_isTooNear_2) (hts (.code Lib.Math.min.name Lib.Math.min.code 2 (some .int)) lk_X4_isTooNear_6) (Nat.le_of_ble_eq_true rfl) (Nat.le_of_ble_eq_true rfl) (Nat.le_of_ble_eq_true rfl) (Nat.le_of_ble_eq_true rfl) dX4_isTooNear_15 ?_
  refine lv_topi (fun z2 ez2 => ?_)
  have h := h z2 ez2
  refine lv_istore (lv' := [(5, .int z2), (4, .int z1), (0, .ref (ad_r 0)), (1, .int v1), (2, .int v2), (3, .int v3)]) hx hb dX4_isTooNear_18 hl (by decide) rfl (fun ls hl => ?_)
  refine lv_iload hx hb dX4_isTooNear_20 (lv_at hl 1 rfl) ?_
  refine lv_istore (lv' := [(6, .int z1), (5, .int z2), (4, .int z1), (0, .ref (ad_r 0)), (1, .int v1), (2, .int v2), (3, .int v3)]) hx hb dX4_isTooNear_22 hl (by decide) rfl (fun ls hl => ?_)
  obtain ⟨nf, h⟩ := h
  exact ml_X4_isTooNear_24 G hK hN hA r_held v1 v2 v3 post nf z2 z1 h H locs hP hD hS ls (lv_sub hl [3, 4, 1, 0] rfl)
set_option maxRecDepth 100000 in
theorem mt_X4_isTooNear (l : Launch) (D : va_G) (cI cZ cR : ClassId) (ad_r : Nat → Nat) (sz : Nat) (r_pitches : Nat → Int32) (r_firstSteps : Nat → Int32) (r_lengths : Nat → Int32) (r_size : Int32) (r_held : Nat → Int32) (r_punched : Nat → Int32) (r_markedTicks : Nat → Int32) (r_marks : Int32) (v1 : Int32) (v2 : Int32) (v3 : Int32) (post : Int32 → Prop) (h : wp_X4_isTooNear r_held v1 v2 v3 post) : Met l yX4_isTooNear wsX4_isTooNear ({ frames := 1, cells := 0, slots := 0, locals := 21 }) (gPc D (gT cI cZ cR) (w_R cI cZ cR ad_r r_pitches r_firstSteps r_lengths r_size r_held r_punched r_markedTicks r_marks) sz [.ref (ad_r 0), .int v1, .int v2, .int v3]) (va_Qi (fun (r : Int32) (u : Unit) => post r ) (fun u t => gB D (gT cI cZ cR) (va_A (w_R cI cZ cR ad_r r_pitches r_firstSteps r_lengths r_size r_held r_punched r_markedTicks r_marks) sz) (w_R cI cZ cR ad_r r_pitches r_firstSteps r_lengths r_size r_held r_punched r_markedTicks r_marks) t) (va_A (w_R cI cZ cR ad_r r_pitches r_firstSteps r_lengths r_size r_held r_punched r_markedTicks r_marks) sz)) 0 0 (va_A (w_R cI cZ cR ad_r r_pitches r_firstSteps r_lengths r_size r_held r_punched r_markedTicks r_marks) sz) := by
  refine gl_entry (cc := cX4_isTooNear) (maxL := 7) (ret := (some .boolean)) (by decide) rfl (Nat.le_of_ble_eq_true rfl) ?_
  intro p e s m below meth c ls G hin hsz hK hN hP hD hl
  subst hsz
  exact ml_X4_isTooNear_0 G hK hN (fun q h => Or.inr h) r_held v1 v2 v3 post h s.heap [] hP hD va_S.rf ls hl
theorem lk_X4_isBorne_0 : (Cond.fieldLink RX4 28 "RollHouse$Roll" "punched" "[I") ∈ wsX4_isBorne := by decide +kernel
theorem us_X4_isBorne_X4 : ∀ w ∈ u_ws RX4 TX4 8, w ∈ wsX4_isBorne := by decide +kernel
def wl_X4_isBorne_3 (r_punched : Nat → Int32) (v1 : Int32) (v2 : Int32) (v3 : Int32) (post : Int32 → Prop) : Nat → (Int32) → Prop
  | 0, _ => False
  | fu + 1, v4 => ((v3 ≤ v4 → post 1 ) ∧ (¬ v3 ≤ v4 → (wp_X4_isBridge v4 v3 (fun (r1 : Int32) => ((¬ r1 = 0 → wl_X4_isBorne_3 r_punched v1 v2 v3 post fu (v4 + 1)) ∧ (r1 = 0 → (vp_in (v2 + v4) 300 ∧ (wp_X4_bears ((r_punched (v2 + v4).toNatClampNeg) ||| (1 <<< (v1 &&& 31))) (fun (r2 : Int32) => ((¬ r2 = 0 → wl_X4_isBorne_3 r_punched v1 v2 v3 post fu (v4 + 1)) ∧ (r2 = 0 → post 0 )))))))))))
def wp_X4_isBorne (r_punched : Nat → Int32) (v1 : Int32) (v2 : Int32) (v3 : Int32) (post : Int32 → Prop) : Prop := (∃ n, wl_X4_isBorne_3 r_punched v1 v2 v3 post n 0)
set_option maxRecDepth 100000 in
set_option maxHeartbeats 4000000 in
theorem ml_X4_isBorne_3 {p : Program} {l : Launch} {e : Env} {s : State} {m : MethodId} {args : Array Value} {below : List Frame} {meth : Method} {c : Code} {D : va_G} {cI cZ cR : ClassId} {A : Nat → Prop} {ad_r : Nat → Nat} {r_pitches : Nat → Int32} {r_firstSteps : Nat → Int32} {r_lengths : Nat → Int32} {r_size : Int32} {r_held : Nat → Int32} {r_markedTicks : Nat → Int32} {r_marks : Int32} (G : gG p s m args meth c cX4_isBorne (some .boolean) 5 RX4 wsX4_isBorne) (hK : va_K D vwCl (gT cI cZ cR) s) (hN : va_Nw gN s) (hA : ∀ q, s.heap.size ≤ q → A q) (r_punched : Nat → Int32) (v1 : Int32) (v2 : Int32) (v3 : Int32) (post : Int32 → Prop) : ∀ (fu : Nat) (v4 : Int32), wl_X4_isBorne_3 r_punched v1 v2 v3 post fu v4 → ∀ (H : Heap) (locs : List Loc), va_P D vwCl (w_R cI cZ cR ad_r r_pitches r_firstSteps r_lengths r_size r_held r_punched r_markedTicks r_marks) H → va_D A (w_R cI cZ cR ad_r r_pitches r_firstSteps r_lengths r_size r_held r_punched r_markedTicks r_marks) → va_S A s.heap H locs → ∀ (ls : Array Slot), lv_has ls 5 [(0, .ref (ad_r 0)), (1, .int v1), (2, .int v2), (3, .int v3), (4, .int v4)] → W p l e { frames := 2, cells := 0, slots := 0, locals := 41 } s m args below meth c H locs 0 0 (MQ below (va_Qi (fun (r : Int32) (u : Unit) => post r ) (fun u t => gB D (gT cI cZ cR) A (w_R cI cZ cR ad_r r_pitches r_firstSteps r_lengths r_size r_held r_punched r_markedTicks r_marks) t) A) args s 0 0 A) (F0 m 3 ls []) := by
  obtain ⟨hx, hb, hr, hml, hown, hts, hlocks⟩ := id G
  intro fu
  induction fu with
  | zero =>
    intro v4 h
    exact h.elim
  | succ fu ih =>
    intro v4 h H locs hP hD hS ls hl
    rw [wl_X4_isBorne_3] at h
    refine lv_iload hx hb dX4_isBorne_3 (lv_at hl 4 rfl) ?_
    refine lv_iload_n hx hb dX4_isBorne_5 rfl (lv_at hl 3 rfl) ?_
    refine lv_icmp_ge (tgt := 45) hx hb dX4_isBorne_6 (by decide) (fun hc => ?_) (fun hc => ?_)
    · have h := h.1 hc
      refine lv_iconst (v := 1) hx hb dX4_isBorne_45 (by decide) ?_
      exact gl_iretz G hK (u := ()) hP hD hS (by decide) h dX4_isBorne_46
    · have h := h.2 hc
      refine lv_iload hx hb dX4_isBorne_9 (lv_at hl 4 rfl) ?_
      refine lv_iload_n hx hb dX4_isBorne_11 rfl (lv_at hl 3 rfl) ?_
      refine gl_calliS (va_runS (As := [.int v4, .int v3]) (rest := []) ⟨hx, hb, hml, hown, hts⟩ (mt_X4_isBridge l D cI cZ cR  H.size v4 v3 _ h) (va_cwS 2 hts gX4_isBorne_X4_isBridge rfl rfl rfl (by decide +kernel) ⟨Nat.le_of_ble_eq_true rfl, Nat.le_of_ble_eq_true rfl⟩) ⟨gl_blind, gl_pre gl_nilP hK hN (gl_nilD (A := A))⟩ rfl rfl hl.1 rfl (lv_room (Nat.le_of_ble_eq_true rfl)) dX4_isBorne_12 ⟨Nat.le_of_ble_eq_true rfl, Nat.le_of_ble_eq_true rfl⟩) hP hS hA (fun r1 u H locs h hP hS => ?_)
      try dsimp only at h
      refine lv_if_ne (tgt := 39) hx hb dX4_isBorne_15 (by decide) (fun hc => ?_) (fun hc => ?_)
      · have h := h.1 hc
        refine lv_iinc (v := v4 + 1) (lv' := [(4, .int (v4 + 1)), (0, .ref (ad_r 0)), (1, .int v1), (2, .int v2), (3, .int v3)]) hx hb dX4_isBorne_39 hl (k := 4) rfl rfl (by decide) rfl (fun ls hl => ?_)
        refine lv_goto (tgt := 3) hx hb dX4_isBorne_42 (by decide) ?_
        exact ih (v4 + 1) h H locs hP hD hS ls (lv_sub hl [1, 2, 3, 4, 0] rfl)
      · have h := h.2 hc
        refine lv_aload_n hx hb dX4_isBorne_18 rfl (lv_at hl 0 rfl) ?_
        refine va_get (D := D) (ci := 4) (v := .ref (ad_r 5)) (C := RX4) (T := TX4) (N := 8) hx hb hts us_X4_isBorne_X4 hown hK hP 0 rfl rfl 5 (by decide) (hts (.fieldLink RX4 28 "RollHouse$Roll" "punched" "[I") lk_X4_isBorne_0) (fun _ h9 => h9) rfl dX4_isBorne_19 ?_
        refine lv_iload_n hx hb dX4_isBorne_22 rfl (lv_at hl 2 rfl) ?_
        refine lv_iload hx hb dX4_isBorne_23 (lv_at hl 4 rfl) ?_
        refine lv_iadd hx hb dX4_isBorne_25 ?_
        obtain ⟨hin, h⟩ := h
        refine va_iald hx hb hK hP 5 0 rfl rfl hin dX4_isBorne_26 ?_
        refine lv_iconst (v := 1) hx hb dX4_isBorne_27 (by decide) ?_
        refine lv_iload_n hx hb dX4_isBorne_28 rfl (lv_at hl 1 rfl) ?_
        refine lv_ishl hx hb dX4_isBorne_29 ?_
        refine lv_ior hx hb dX4_isBorne_30 ?_
        refine gl_calliS (va_runS (As := [.int ((r_punched (v2 + v4).toNatClampNeg) ||| (1 <<< (v1 &&& 31)))]) (rest := []) ⟨hx, hb, hml, hown, hts⟩ (mt_X4_bears l D cI cZ cR  H.size ((r_punched (v2 + v4).toNatClampNeg) ||| (1 <<< (v1 &&& 31))) _ h) (va_cwS 1 hts gX4_isBorne_X4_bears rfl rfl rfl (by decide +kernel) ⟨Nat.le_of_ble_eq_true rfl, Nat.le_of_ble_eq_true rfl⟩) ⟨gl_blind, gl_pre gl_nilP hK hN (gl_nilD (A := A))⟩ rfl rfl hl.1 rfl (lv_room (Nat.le_of_ble_eq_true rfl)) dX4_isBorne_31 ⟨Nat.le_of_ble_eq_true rfl, Nat.le_of_ble_eq_true rfl⟩) hP hS hA (fun r2 u H locs h hP hS => ?_)
        try dsimp only at h
        refine lv_if_ne (tgt := 39) hx hb dX4_isBorne_34 (by decide) (fun hc => ?_) (fun hc => ?_)
        · have h := h.1 hc
          refine lv_iinc (v := v4 + 1) (lv' := [(4, .int (v4 + 1)), (0, .ref (ad_r 0)), (1, .int v1), (2, .int v2), (3, .int v3)]) hx hb dX4_isBorne_39 hl (k := 4) rfl rfl (by decide) rfl (fun ls hl => ?_)
          refine lv_goto (tgt := 3) hx hb dX4_isBorne_42 (by decide) ?_
          exact ih (v4 + 1) h H locs hP hD hS ls (lv_sub hl [1, 2, 3, 4, 0] rfl)
        · have h := h.2 hc
          refine lv_iconst (v := 0) hx hb dX4_isBorne_37 (by decide) ?_
          exact gl_iretz G hK (u := ()) hP hD hS (by decide) h dX4_isBorne_38
set_option maxRecDepth 100000 in
set_option maxHeartbeats 4000000 in
theorem ml_X4_isBorne_0 {p : Program} {l : Launch} {e : Env} {s : State} {m : MethodId} {args : Array Value} {below : List Frame} {meth : Method} {c : Code} {D : va_G} {cI cZ cR : ClassId} {A : Nat → Prop} {ad_r : Nat → Nat} {r_pitches : Nat → Int32} {r_firstSteps : Nat → Int32} {r_lengths : Nat → Int32} {r_size : Int32} {r_held : Nat → Int32} {r_markedTicks : Nat → Int32} {r_marks : Int32} (G : gG p s m args meth c cX4_isBorne (some .boolean) 5 RX4 wsX4_isBorne) (hK : va_K D vwCl (gT cI cZ cR) s) (hN : va_Nw gN s) (hA : ∀ q, s.heap.size ≤ q → A q) (r_punched : Nat → Int32) (v1 : Int32) (v2 : Int32) (v3 : Int32) (post : Int32 → Prop)  (h : wp_X4_isBorne r_punched v1 v2 v3 post) : ∀ (H : Heap) (locs : List Loc), va_P D vwCl (w_R cI cZ cR ad_r r_pitches r_firstSteps r_lengths r_size r_held r_punched r_markedTicks r_marks) H → va_D A (w_R cI cZ cR ad_r r_pitches r_firstSteps r_lengths r_size r_held r_punched r_markedTicks r_marks) → va_S A s.heap H locs → ∀ (ls : Array Slot), lv_has ls 5 [(0, .ref (ad_r 0)), (1, .int v1), (2, .int v2), (3, .int v3)] → W p l e { frames := 2, cells := 0, slots := 0, locals := 41 } s m args below meth c H locs 0 0 (MQ below (va_Qi (fun (r : Int32) (u : Unit) => post r ) (fun u t => gB D (gT cI cZ cR) A (w_R cI cZ cR ad_r r_pitches r_firstSteps r_lengths r_size r_held r_punched r_markedTicks r_marks) t) A) args s 0 0 A) (F0 m 0 ls []) := by
  obtain ⟨hx, hb, hr, hml, hown, hts, hlocks⟩ := id G
  intro H locs hP hD hS ls hl
  unfold wp_X4_isBorne at h
  refine lv_iconst (v := 0) hx hb dX4_isBorne_0 (by decide) ?_
  refine lv_istore (lv' := [(4, .int 0), (0, .ref (ad_r 0)), (1, .int v1), (2, .int v2), (3, .int v3)]) hx hb dX4_isBorne_1 hl (by decide) rfl (fun ls hl => ?_)
  obtain ⟨nf, h⟩ := h
  exact ml_X4_isBorne_3 G hK hN hA r_punched v1 v2 v3 post nf 0 h H locs hP hD hS ls (lv_sub hl [1, 2, 3, 4, 0] rfl)
set_option maxRecDepth 100000 in
theorem mt_X4_isBorne (l : Launch) (D : va_G) (cI cZ cR : ClassId) (ad_r : Nat → Nat) (sz : Nat) (r_pitches : Nat → Int32) (r_firstSteps : Nat → Int32) (r_lengths : Nat → Int32) (r_size : Int32) (r_held : Nat → Int32) (r_punched : Nat → Int32) (r_markedTicks : Nat → Int32) (r_marks : Int32) (v1 : Int32) (v2 : Int32) (v3 : Int32) (post : Int32 → Prop) (h : wp_X4_isBorne r_punched v1 v2 v3 post) : Met l yX4_isBorne wsX4_isBorne ({ frames := 2, cells := 0, slots := 0, locals := 41 }) (gPc D (gT cI cZ cR) (w_R cI cZ cR ad_r r_pitches r_firstSteps r_lengths r_size r_held r_punched r_markedTicks r_marks) sz [.ref (ad_r 0), .int v1, .int v2, .int v3]) (va_Qi (fun (r : Int32) (u : Unit) => post r ) (fun u t => gB D (gT cI cZ cR) (va_A (w_R cI cZ cR ad_r r_pitches r_firstSteps r_lengths r_size r_held r_punched r_markedTicks r_marks) sz) (w_R cI cZ cR ad_r r_pitches r_firstSteps r_lengths r_size r_held r_punched r_markedTicks r_marks) t) (va_A (w_R cI cZ cR ad_r r_pitches r_firstSteps r_lengths r_size r_held r_punched r_markedTicks r_marks) sz)) 0 0 (va_A (w_R cI cZ cR ad_r r_pitches r_firstSteps r_lengths r_size r_held r_punched r_markedTicks r_marks) sz) := by
  refine gl_entry (cc := cX4_isBorne) (maxL := 5) (ret := (some .boolean)) (by decide) rfl (Nat.le_of_ble_eq_true rfl) ?_
  intro p e s m below meth c ls G hin hsz hK hN hP hD hl
  subst hsz
  exact ml_X4_isBorne_0 G hK hN (fun q h => Or.inr h) r_punched v1 v2 v3 post h s.heap [] hP hD va_S.rf ls hl
theorem lk_X4_comesAhead_0 : (Cond.fieldLink RX4 15 "RollHouse$Roll" "firstSteps" "[I") ∈ wsX4_comesAhead := by decide +kernel
theorem lk_X4_comesAhead_1 : (Cond.fieldLink RX4 9 "RollHouse$Roll" "pitches" "[I") ∈ wsX4_comesAhead := by decide +kernel
theorem us_X4_comesAhead_X4 : ∀ w ∈ u_ws RX4 TX4 8, w ∈ wsX4_comesAhead := by decide +kernel
def wp_X4_comesAhead (r_pitches : Nat → Int32) (r_firstSteps : Nat → Int32) (v1 : Int32) (v2 : Int32) (v3 : Int32) (post : Int32 → Prop) : Prop := (vp_in v3 60 ∧ ((v2 < (r_firstSteps v3.toNatClampNeg) → post 1 ) ∧ (¬ v2 < (r_firstSteps v3.toNatClampNeg) → (vp_in v3 60 ∧ ((¬ v2 = (r_firstSteps v3.toNatClampNeg) → post 0 ) ∧ (v2 = (r_firstSteps v3.toNatClampNeg) → (vp_in v3 60 ∧ (((r_pitches v3.toNatClampNeg) ≤ v1 → post 0 ) ∧ (¬ (r_pitches v3.toNatClampNeg) ≤ v1 → post 1 )))))))))
set_option maxRecDepth 100000 in
set_option maxHeartbeats 4000000 in
theorem ml_X4_comesAhead_0 {p : Program} {l : Launch} {e : Env} {s : State} {m : MethodId} {args : Array Value} {below : List Frame} {meth : Method} {c : Code} {D : va_G} {cI cZ cR : ClassId} {A : Nat → Prop} {ad_r : Nat → Nat} {r_lengths : Nat → Int32} {r_size : Int32} {r_held : Nat → Int32} {r_punched : Nat → Int32} {r_markedTicks : Nat → Int32} {r_marks : Int32} (G : gG p s m args meth c cX4_comesAhead (some .boolean) 4 RX4 wsX4_comesAhead) (hK : va_K D vwCl (gT cI cZ cR) s) (hN : va_Nw gN s) (hA : ∀ q, s.heap.size ≤ q → A q) (r_pitches : Nat → Int32) (r_firstSteps : Nat → Int32) (v1 : Int32) (v2 : Int32) (v3 : Int32) (post : Int32 → Prop)  (h : wp_X4_comesAhead r_pitches r_firstSteps v1 v2 v3 post) : ∀ (H : Heap) (locs : List Loc), va_P D vwCl (w_R cI cZ cR ad_r r_pitches r_firstSteps r_lengths r_size r_held r_punched r_markedTicks r_marks) H → va_D A (w_R cI cZ cR ad_r r_pitches r_firstSteps r_lengths r_size r_held r_punched r_markedTicks r_marks) → va_S A s.heap H locs → ∀ (ls : Array Slot), lv_has ls 4 [(0, .ref (ad_r 0)), (1, .int v1), (2, .int v2), (3, .int v3)] → W p l e { frames := 0, cells := 0, slots := 0, locals := 0 } s m args below meth c H locs 0 0 (MQ below (va_Qi (fun (r : Int32) (u : Unit) => post r ) (fun u t => gB D (gT cI cZ cR) A (w_R cI cZ cR ad_r r_pitches r_firstSteps r_lengths r_size r_held r_punched r_markedTicks r_marks) t) A) args s 0 0 A) (F0 m 0 ls []) := by
  obtain ⟨hx, hb, hr, hml, hown, hts, hlocks⟩ := id G
  intro H locs hP hD hS ls hl
  unfold wp_X4_comesAhead at h
  refine lv_iload_n hx hb dX4_comesAhead_0 rfl (lv_at hl 2 rfl) ?_
  refine lv_aload_n hx hb dX4_comesAhead_1 rfl (lv_at hl 0 rfl) ?_
  refine va_get (D := D) (ci := 4) (v := .ref (ad_r 2)) (C := RX4) (T := TX4) (N := 8) hx hb hts us_X4_comesAhead_X4 hown hK hP 0 rfl rfl 1 (by decide) (hts (.fieldLink RX4 15 "RollHouse$Roll" "firstSteps" "[I") lk_X4_comesAhead_0) (fun _ h9 => h9) rfl dX4_comesAhead_2 ?_
  refine lv_iload_n hx hb dX4_comesAhead_5 rfl (lv_at hl 3 rfl) ?_
  obtain ⟨hin, h⟩ := h
  refine va_iald hx hb hK hP 2 0 rfl rfl hin dX4_comesAhead_6 ?_
  refine lv_icmp_lt (tgt := 30) hx hb dX4_comesAhead_7 (by decide) (fun hc => ?_) (fun hc => ?_)
  · have h := h.1 hc
    refine lv_iconst (v := 1) hx hb dX4_comesAhead_30 (by decide) ?_
    refine lv_goto (tgt := 35) hx hb dX4_comesAhead_31 (by decide) ?_
    exact gl_iretz G hK (u := ()) hP hD hS (by decide) h dX4_comesAhead_35
  · have h := h.2 hc
    refine lv_iload_n hx hb dX4_comesAhead_10 rfl (lv_at hl 2 rfl) ?_
    refine lv_aload_n hx hb dX4_comesAhead_11 rfl (lv_at hl 0 rfl) ?_
    refine va_get (D := D) (ci := 4) (v := .ref (ad_r 2)) (C := RX4) (T := TX4) (N := 8) hx hb hts us_X4_comesAhead_X4 hown hK hP 0 rfl rfl 1 (by decide) (hts (.fieldLink RX4 15 "RollHouse$Roll" "firstSteps" "[I") lk_X4_comesAhead_0) (fun _ h9 => h9) rfl dX4_comesAhead_12 ?_
    refine lv_iload_n hx hb dX4_comesAhead_15 rfl (lv_at hl 3 rfl) ?_
    obtain ⟨hin, h⟩ := h
    refine va_iald hx hb hK hP 2 0 rfl rfl hin dX4_comesAhead_16 ?_
    refine lv_icmp_ne (tgt := 34) hx hb dX4_comesAhead_17 (by decide) (fun hc => ?_) (fun hc => ?_)
    · have h := h.1 hc
      refine lv_iconst (v := 0) hx hb dX4_comesAhead_34 (by decide) ?_
      exact gl_iretz G hK (u := ()) hP hD hS (by decide) h dX4_comesAhead_35
    · have h := h.2 hc
      refine lv_iload_n hx hb dX4_comesAhead_20 rfl (lv_at hl 1 rfl) ?_
      refine lv_aload_n hx hb dX4_comesAhead_21 rfl (lv_at hl 0 rfl) ?_
      refine va_get (D := D) (ci := 4) (v := .ref (ad_r 1)) (C := RX4) (T := TX4) (N := 8) hx hb hts us_X4_comesAhead_X4 hown hK hP 0 rfl rfl 0 (by decide) (hts (.fieldLink RX4 9 "RollHouse$Roll" "pitches" "[I") lk_X4_comesAhead_1) (fun _ h9 => h9) rfl dX4_comesAhead_22 ?_
      refine lv_iload_n hx hb dX4_comesAhead_25 rfl (lv_at hl 3 rfl) ?_
      obtain ⟨hin, h⟩ := h
      refine va_iald hx hb hK hP 1 0 rfl rfl hin dX4_comesAhead_26 ?_
      refine lv_icmp_ge (tgt := 34) hx hb dX4_comesAhead_27 (by decide) (fun hc => ?_) (fun hc => ?_)
      · have h := h.1 hc
        refine lv_iconst (v := 0) hx hb dX4_comesAhead_34 (by decide) ?_
        exact gl_iretz G hK (u := ()) hP hD hS (by decide) h dX4_comesAhead_35
      · have h := h.2 hc
        refine lv_iconst (v := 1) hx hb dX4_comesAhead_30 (by decide) ?_
        refine lv_goto (tgt := 35) hx hb dX4_comesAhead_31 (by decide) ?_
        exact gl_iretz G hK (u := ()) hP hD hS (by decide) h dX4_comesAhead_35
set_option maxRecDepth 100000 in
theorem mt_X4_comesAhead (l : Launch) (D : va_G) (cI cZ cR : ClassId) (ad_r : Nat → Nat) (sz : Nat) (r_pitches : Nat → Int32) (r_firstSteps : Nat → Int32) (r_lengths : Nat → Int32) (r_size : Int32) (r_held : Nat → Int32) (r_punched : Nat → Int32) (r_markedTicks : Nat → Int32) (r_marks : Int32) (v1 : Int32) (v2 : Int32) (v3 : Int32) (post : Int32 → Prop) (h : wp_X4_comesAhead r_pitches r_firstSteps v1 v2 v3 post) : Met l yX4_comesAhead wsX4_comesAhead ({ frames := 0, cells := 0, slots := 0, locals := 0 }) (gPc D (gT cI cZ cR) (w_R cI cZ cR ad_r r_pitches r_firstSteps r_lengths r_size r_held r_punched r_markedTicks r_marks) sz [.ref (ad_r 0), .int v1, .int v2, .int v3]) (va_Qi (fun (r : Int32) (u : Unit) => post r ) (fun u t => gB D (gT cI cZ cR) (va_A (w_R cI cZ cR ad_r r_pitches r_firstSteps r_lengths r_size r_held r_punched r_markedTicks r_marks) sz) (w_R cI cZ cR ad_r r_pitches r_firstSteps r_lengths r_size r_held r_punched r_markedTicks r_marks) t) (va_A (w_R cI cZ cR ad_r r_pitches r_firstSteps r_lengths r_size r_held r_punched r_markedTicks r_marks) sz)) 0 0 (va_A (w_R cI cZ cR ad_r r_pitches r_firstSteps r_lengths r_size r_held r_punched r_markedTicks r_marks) sz) := by
  refine gl_entry (cc := cX4_comesAhead) (maxL := 4) (ret := (some .boolean)) (by decide) rfl (Nat.le_of_ble_eq_true rfl) ?_
  intro p e s m below meth c ls G hin hsz hK hN hP hD hl
  subst hsz
  exact ml_X4_comesAhead_0 G hK hN (fun q h => Or.inr h) r_pitches r_firstSteps v1 v2 v3 post h s.heap [] hP hD va_S.rf ls hl
theorem lk_X4_setNote_0 : (Cond.fieldLink RX4 9 "RollHouse$Roll" "pitches" "[I") ∈ wsX4_setNote := by decide +kernel
theorem lk_X4_setNote_1 : (Cond.fieldLink RX4 15 "RollHouse$Roll" "firstSteps" "[I") ∈ wsX4_setNote := by decide +kernel
theorem lk_X4_setNote_2 : (Cond.fieldLink RX4 18 "RollHouse$Roll" "lengths" "[I") ∈ wsX4_setNote := by decide +kernel
theorem us_X4_setNote_X4 : ∀ w ∈ u_ws RX4 TX4 8, w ∈ wsX4_setNote := by decide +kernel
def wp_X4_setNote (v1 : Int32) (v2 : Int32) (v3 : Int32) (v4 : Int32) (r_pitches : Nat → Int32) (r_firstSteps : Nat → Int32) (r_lengths : Nat → Int32) (post : (Nat → Int32) → (Nat → Int32) → (Nat → Int32) → Prop) : Prop := (vp_in v1 60 ∧ (∀ a1 : Nat → Int32, a1 = upd r_pitches v1.toNatClampNeg v2 → (vp_in v1 60 ∧ (∀ a2 : Nat → Int32, a2 = upd r_firstSteps v1.toNatClampNeg v3 → (vp_in v1 60 ∧ (∀ a3 : Nat → Int32, a3 = upd r_lengths v1.toNatClampNeg v4 → post a1 a2 a3))))))
set_option maxRecDepth 100000 in
set_option maxHeartbeats 4000000 in
theorem ml_X4_setNote_0 {p : Program} {l : Launch} {e : Env} {s : State} {m : MethodId} {args : Array Value} {below : List Frame} {meth : Method} {c : Code} {D : va_G} {cI cZ cR : ClassId} {A : Nat → Prop} {ad_r : Nat → Nat} {r_size : Int32} {r_held : Nat → Int32} {r_punched : Nat → Int32} {r_markedTicks : Nat → Int32} {r_marks : Int32} (G : gG p s m args meth c cX4_setNote none 5 RX4 wsX4_setNote) (hK : va_K D vwCl (gT cI cZ cR) s) (hN : va_Nw gN s) (hA : ∀ q, s.heap.size ≤ q → A q) (v1 : Int32) (v2 : Int32) (v3 : Int32) (v4 : Int32) (post : (Nat → Int32) → (Nat → Int32) → (Nat → Int32) → Prop) (r_pitches : Nat → Int32) (r_firstSteps : Nat → Int32) (r_lengths : Nat → Int32) (h : wp_X4_setNote v1 v2 v3 v4 r_pitches r_firstSteps r_lengths post) : ∀ (H : Heap) (locs : List Loc), va_P D vwCl (w_R cI cZ cR ad_r r_pitches r_firstSteps r_lengths r_size r_held r_punched r_markedTicks r_marks) H → va_D A (w_R cI cZ cR ad_r r_pitches r_firstSteps r_lengths r_size r_held r_punched r_markedTicks r_marks) → va_S A s.heap H locs → ∀ (ls : Array Slot), lv_has ls 5 [(0, .ref (ad_r 0)), (1, .int v1), (2, .int v2), (3, .int v3), (4, .int v4)] → W p l e { frames := 0, cells := 0, slots := 0, locals := 0 } s m args below meth c H locs 0 0 (MQ below (va_Qv (fun (u : (Nat → Int32) × (Nat → Int32) × (Nat → Int32)) => post u.1 u.2.1 u.2.2) (fun u t => gB D (gT cI cZ cR) A (w_R cI cZ cR ad_r u.1 u.2.1 u.2.2 r_size r_held r_punched r_markedTicks r_marks) t) A) args s 0 0 A) (F0 m 0 ls []) := by
  obtain ⟨hx, hb, hr, hml, hown, hts, hlocks⟩ := id G
  intro H locs hP hD hS ls hl
  unfold wp_X4_setNote at h
  refine lv_aload_n hx hb dX4_setNote_0 rfl (lv_at hl 0 rfl) ?_
  refine va_get (D := D) (ci := 4) (v := .ref (ad_r 1)) (C := RX4) (T := TX4) (N := 8) hx hb hts us_X4_setNote_X4 hown hK hP 0 rfl rfl 0 (by decide) (hts (.fieldLink RX4 9 "RollHouse$Roll" "pitches" "[I") lk_X4_setNote_0) (fun _ h9 => h9) rfl dX4_setNote_1 ?_
  refine lv_iload_n hx hb dX4_setNote_4 rfl (lv_at hl 1 rfl) ?_
  refine lv_iload_n hx hb dX4_setNote_5 rfl (lv_at hl 2 rfl) ?_
  obtain ⟨hin, h⟩ := h
  refine va_iast hx hb hK hP hD hS 1 0 rfl rfl hin dX4_setNote_6 (fun H locs hP hD hS => ?_)
  obtain ⟨a1, ea1⟩ : ∃ f, f = upd r_pitches v1.toNatClampNeg v2 := ⟨_, rfl⟩
  have h := h a1 ea1
  rw [← ea1] at hP hD
  have hP : va_P D vwCl (w_R cI cZ cR ad_r a1 r_firstSteps r_lengths r_size r_held r_punched r_markedTicks r_marks) H := hP
  have hD : va_D A (w_R cI cZ cR ad_r a1 r_firstSteps r_lengths r_size r_held r_punched r_markedTicks r_marks) := hD
  refine lv_aload_n hx hb dX4_setNote_7 rfl (lv_at hl 0 rfl) ?_
  refine va_get (D := D) (ci := 4) (v := .ref (ad_r 2)) (C := RX4) (T := TX4) (N := 8) hx hb hts us_X4_setNote_X4 hown hK hP 0 rfl rfl 1 (by decide) (hts (.fieldLink RX4 15 "RollHouse$Roll" "firstSteps" "[I") lk_X4_setNote_1) (fun _ h9 => h9) rfl dX4_setNote_8 ?_
  refine lv_iload_n hx hb dX4_setNote_11 rfl (lv_at hl 1 rfl) ?_
  refine lv_iload_n hx hb dX4_setNote_12 rfl (lv_at hl 3 rfl) ?_
  obtain ⟨hin, h⟩ := h
  refine va_iast hx hb hK hP hD hS 2 0 rfl rfl hin dX4_setNote_13 (fun H locs hP hD hS => ?_)
  obtain ⟨a2, ea2⟩ : ∃ f, f = upd r_firstSteps v1.toNatClampNeg v3 := ⟨_, rfl⟩
  have h := h a2 ea2
  rw [← ea2] at hP hD
  have hP : va_P D vwCl (w_R cI cZ cR ad_r a1 a2 r_lengths r_size r_held r_punched r_markedTicks r_marks) H := hP
  have hD : va_D A (w_R cI cZ cR ad_r a1 a2 r_lengths r_size r_held r_punched r_markedTicks r_marks) := hD
  refine lv_aload_n hx hb dX4_setNote_14 rfl (lv_at hl 0 rfl) ?_
  refine va_get (D := D) (ci := 4) (v := .ref (ad_r 3)) (C := RX4) (T := TX4) (N := 8) hx hb hts us_X4_setNote_X4 hown hK hP 0 rfl rfl 2 (by decide) (hts (.fieldLink RX4 18 "RollHouse$Roll" "lengths" "[I") lk_X4_setNote_2) (fun _ h9 => h9) rfl dX4_setNote_15 ?_
  refine lv_iload_n hx hb dX4_setNote_18 rfl (lv_at hl 1 rfl) ?_
  refine lv_iload hx hb dX4_setNote_19 (lv_at hl 4 rfl) ?_
  obtain ⟨hin, h⟩ := h
  refine va_iast hx hb hK hP hD hS 3 0 rfl rfl hin dX4_setNote_21 (fun H locs hP hD hS => ?_)
  obtain ⟨a3, ea3⟩ : ∃ f, f = upd r_lengths v1.toNatClampNeg v4 := ⟨_, rfl⟩
  have h := h a3 ea3
  rw [← ea3] at hP hD
  have hP : va_P D vwCl (w_R cI cZ cR ad_r a1 a2 a3 r_size r_held r_punched r_markedTicks r_marks) H := hP
  have hD : va_D A (w_R cI cZ cR ad_r a1 a2 a3 r_size r_held r_punched r_markedTicks r_marks) := hD
  exact gl_retv G hK (u := (a1, a2, a3)) hP hD hS h dX4_setNote_22
set_option maxRecDepth 100000 in
theorem mt_X4_setNote (l : Launch) (D : va_G) (cI cZ cR : ClassId) (ad_r : Nat → Nat) (sz : Nat) (r_pitches : Nat → Int32) (r_firstSteps : Nat → Int32) (r_lengths : Nat → Int32) (r_size : Int32) (r_held : Nat → Int32) (r_punched : Nat → Int32) (r_markedTicks : Nat → Int32) (r_marks : Int32) (v1 : Int32) (v2 : Int32) (v3 : Int32) (v4 : Int32) (post : (Nat → Int32) → (Nat → Int32) → (Nat → Int32) → Prop) (h : wp_X4_setNote v1 v2 v3 v4 r_pitches r_firstSteps r_lengths post) : Met l yX4_setNote wsX4_setNote ({ frames := 0, cells := 0, slots := 0, locals := 0 }) (gPc D (gT cI cZ cR) (w_R cI cZ cR ad_r r_pitches r_firstSteps r_lengths r_size r_held r_punched r_markedTicks r_marks) sz [.ref (ad_r 0), .int v1, .int v2, .int v3, .int v4]) (va_Qv (fun (u : (Nat → Int32) × (Nat → Int32) × (Nat → Int32)) => post u.1 u.2.1 u.2.2) (fun u t => gB D (gT cI cZ cR) (va_A (w_R cI cZ cR ad_r r_pitches r_firstSteps r_lengths r_size r_held r_punched r_markedTicks r_marks) sz) (w_R cI cZ cR ad_r u.1 u.2.1 u.2.2 r_size r_held r_punched r_markedTicks r_marks) t) (va_A (w_R cI cZ cR ad_r r_pitches r_firstSteps r_lengths r_size r_held r_punched r_markedTicks r_marks) sz)) 0 0 (va_A (w_R cI cZ cR ad_r r_pitches r_firstSteps r_lengths r_size r_held r_punched r_markedTicks r_marks) sz) := by
  refine gl_entry (cc := cX4_setNote) (maxL := 5) (ret := none) (by decide) rfl (Nat.le_of_ble_eq_true rfl) ?_
  intro p e s m below meth c ls G hin hsz hK hN hP hD hl
  subst hsz
  exact ml_X4_setNote_0 G hK hN (fun q h => Or.inr h) v1 v2 v3 v4 post r_pitches r_firstSteps r_lengths h s.heap [] hP hD va_S.rf ls hl
