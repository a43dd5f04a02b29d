theorem lk_X5_size_0 : (Cond.fieldLink RX5 18 "RollHouse$Score" "size" "I") ∈ wsX5_size := by decide +kernel
theorem us_X5_size_X5 : ∀ w ∈ u_ws RX5 TX5 3, w ∈ wsX5_size := by decide +kernel
def wp_X5_size (c_size : Int32) (post : Int32 → Prop) : Prop := post c_size 
set_option maxRecDepth 100000 in
set_option maxHeartbeats 4000000 in
theorem ml_X5_size_0 {p : Program} {l : Launch} {e : Env} {s : State} {m : MethodId} {args : Array Value} {below : List Frame} {meth : Method} {c : Code} {D : va_G} {cI cZ cR : ClassId} {A : Nat → Prop} {ad_c : Nat → Nat} {c_pitches : Nat → Int32} {c_steps : Nat → Int32} (G : gG p s m args meth c cX5_size (some .int) 1 RX5 wsX5_size) (hK : va_K D vwCl (gT cI cZ cR) s) (hN : va_Nw gN s) (hA : ∀ q, s.heap.size ≤ q → A q) (c_size : Int32) (post : Int32 → Prop)  (h : wp_X5_size c_size post) : ∀ (H : Heap) (locs : List Loc), va_P D vwCl (w_S cI cZ cR ad_c c_pitches c_steps c_size) H → va_D A (w_S cI cZ cR ad_c c_pitches c_steps c_size) → va_S A s.heap H locs → ∀ (ls : Array Slot), lv_has ls 1 [(0, .ref (ad_c 0))] → W p l e { frames := 0, cells := 0, slots := 0, locals := 0 } s m args below meth c H locs 0 0 (MQ below (va_Qi (fun (r : Int32) (u : Unit) => post r ) (fun u t => gB D (gT cI cZ cR) A (w_S cI cZ cR ad_c c_pitches c_steps c_size) t) A) args s 0 0 A) (F0 m 0 ls []) := by
  obtain ⟨hx, hb, hr, hml, hown, hts, hlocks⟩ := id G
  intro H locs hP hD hS ls hl
  unfold wp_X5_size at h
  refine lv_aload_n hx hb dX5_size_0 rfl (lv_at hl 0 rfl) ?_
  refine va_get (D := D) (ci := 5) (v := .int c_size) (C := RX5) (T := TX5) (N := 3) hx hb hts us_X5_size_X5 hown hK hP 0 rfl rfl 2 (by decide) (hts (.fieldLink RX5 18 "RollHouse$Score" "size" "I") lk_X5_size_0) (fun _ h9 => h9) rfl dX5_size_1 ?_
  exact gl_ireti G hK (u := ()) hP hD hS h dX5_size_4
set_option maxRecDepth 100000 in
theorem mt_X5_size (l : Launch) (D : va_G) (cI cZ cR : ClassId) (ad_c : Nat → Nat) (sz : Nat) (c_pitches : Nat → Int32) (c_steps : Nat → Int32) (c_size : Int32) (post : Int32 → Prop) (h : wp_X5_size c_size post) : Met l yX5_size wsX5_size ({ frames := 0, cells := 0, slots := 0, locals := 0 }) (gPc D (gT cI cZ cR) (w_S cI cZ cR ad_c c_pitches c_steps c_size) sz [.ref (ad_c 0)]) (va_Qi (fun (r : Int32) (u : Unit) => post r ) (fun u t => gB D (gT cI cZ cR) (va_A (w_S cI cZ cR ad_c c_pitches c_steps c_size) sz) (w_S cI cZ cR ad_c c_pitches c_steps c_size) t) (va_A (w_S cI cZ cR ad_c c_pitches c_steps c_size) sz)) 0 0 (va_A (w_S cI cZ cR ad_c c_pitches c_steps c_size) sz) := by
  refine gl_entry (cc := cX5_size) (maxL := 1) (ret := (some .int)) (by decide) rfl (Nat.le_of_ble_eq_true rfl) ?_
  intro p e s m below meth c ls G hin hsz hK hN hP hD hl
  subst hsz
  exact ml_X5_size_0 G hK hN (fun q h => Or.inr h) c_size post h s.heap [] hP hD va_S.rf ls hl
theorem lk_X5_pitchOf_0 : (Cond.fieldLink RX5 9 "RollHouse$Score" "pitches" "[I") ∈ wsX5_pitchOf := by decide +kernel
theorem us_X5_pitchOf_X5 : ∀ w ∈ u_ws RX5 TX5 3, w ∈ wsX5_pitchOf := by decide +kernel
def wp_X5_pitchOf (c_pitches : Nat → Int32) (v1 : Int32) (post : Int32 → Prop) : Prop := (vp_in v1 40 ∧ post (c_pitches v1.toNatClampNeg) )
set_option maxRecDepth 100000 in
set_option maxHeartbeats 4000000 in
theorem ml_X5_pitchOf_0 {p : Program} {l : Launch} {e : Env} {s : State} {m : MethodId} {args : Array Value} {below : List Frame} {meth : Method} {c : Code} {D : va_G} {cI cZ cR : ClassId} {A : Nat → Prop} {ad_c : Nat → Nat} {c_steps : Nat → Int32} {c_size : Int32} (G : gG p s m args meth c cX5_pitchOf (some .int) 2 RX5 wsX5_pitchOf) (hK : va_K D vwCl (gT cI cZ cR) s) (hN : va_Nw gN s) (hA : ∀ q, s.heap.size ≤ q → A q) (c_pitches : Nat → Int32) (v1 : Int32) (post : Int32 → Prop)  (h : wp_X5_pitchOf c_pitches v1 post) : ∀ (H : Heap) (locs : List Loc), va_P D vwCl (w_S cI cZ cR ad_c c_pitches c_steps c_size) H → va_D A (w_S cI cZ cR ad_c c_pitches c_steps c_size) → va_S A s.heap H locs → ∀ (ls : Array Slot), lv_has ls 2 [(0, .ref (ad_c 0)), (1, .int v1)] → W p l e { frames := 0, cells := 0, slots := 0, locals := 0 } s m args below meth c H locs 0 0 (MQ below (va_Qi (fun (r : Int32) (u : Unit) => post r ) (fun u t => gB D (gT cI cZ cR) A (w_S cI cZ cR ad_c c_pitches c_steps c_size) t) A) args s 0 0 A) (F0 m 0 ls []) := by
  obtain ⟨hx, hb, hr, hml, hown, hts, hlocks⟩ := id G
  intro H locs hP hD hS ls hl
  unfold wp_X5_pitchOf at h
  refine lv_aload_n hx hb dX5_pitchOf_0 rfl (lv_at hl 0 rfl) ?_
  refine va_get (D := D) (ci := 5) (v := .ref (ad_c 1)) (C := RX5) (T := TX5) (N := 3) hx hb hts us_X5_pitchOf_X5 hown hK hP 0 rfl rfl 0 (by decide) (hts (.fieldLink RX5 9 "RollHouse$Score" "pitches" "[I") lk_X5_pitchOf_0) (fun _ h9 => h9) rfl dX5_pitchOf_1 ?_
  refine lv_iload_n hx hb dX5_pitchOf_4 rfl (lv_at hl 1 rfl) ?_
  obtain ⟨hin, h⟩ := h
  refine va_iald hx hb hK hP 1 0 rfl rfl hin dX5_pitchOf_5 ?_
  exact gl_ireti G hK (u := ()) hP hD hS h dX5_pitchOf_6
set_option maxRecDepth 100000 in
theorem mt_X5_pitchOf (l : Launch) (D : va_G) (cI cZ cR : ClassId) (ad_c : Nat → Nat) (sz : Nat) (c_pitches : Nat → Int32) (c_steps : Nat → Int32) (c_size : Int32) (v1 : Int32) (post : Int32 → Prop) (h : wp_X5_pitchOf c_pitches v1 post) : Met l yX5_pitchOf wsX5_pitchOf ({ frames := 0, cells := 0, slots := 0, locals := 0 }) (gPc D (gT cI cZ cR) (w_S cI cZ cR ad_c c_pitches c_steps c_size) sz [.ref (ad_c 0), .int v1]) (va_Qi (fun (r : Int32) (u : Unit) => post r ) (fun u t => gB D (gT cI cZ cR) (va_A (w_S cI cZ cR ad_c c_pitches c_steps c_size) sz) (w_S cI cZ cR ad_c c_pitches c_steps c_size) t) (va_A (w_S cI cZ cR ad_c c_pitches c_steps c_size) sz)) 0 0 (va_A (w_S cI cZ cR ad_c c_pitches c_steps c_size) sz) := by
  refine gl_entry (cc := cX5_pitchOf) (maxL := 2) (ret := (some .int)) (by decide) rfl (Nat.le_of_ble_eq_true rfl) ?_
  intro p e s m below meth c ls G hin hsz hK hN hP hD hl
  subst hsz
  exact ml_X5_pitchOf_0 G hK hN (fun q h => Or.inr h) c_pitches v1 post h s.heap [] hP hD va_S.rf ls hl
theorem lk_X5_stepOf_0 : (Cond.fieldLink RX5 15 "RollHouse$Score" "steps" "[I") ∈ wsX5_stepOf := by decide +kernel
theorem us_X5_stepOf_X5 : ∀ w ∈ u_ws RX5 TX5 3, w ∈ wsX5_stepOf := by decide +kernel
def wp_X5_stepOf (c_steps : Nat → Int32) (v1 : Int32) (post : Int32 → Prop) : Prop := (vp_in v1 40 ∧ post (c_steps v1.toNatClampNeg) )
set_option maxRecDepth 100000 in
set_option maxHeartbeats 4000000 in
theorem ml_X5_stepOf_0 {p : Program} {l : Launch} {e : Env} {s : State} {m : MethodId} {args : Array Value} {below : List Frame} {meth : Method} {c : Code} {D : va_G} {cI cZ cR : ClassId} {A : Nat → Prop} {ad_c : Nat → Nat} {c_pitches : Nat → Int32} {c_size : Int32} (G : gG p s m args meth c cX5_stepOf (some .int) 2 RX5 wsX5_stepOf) (hK : va_K D vwCl (gT cI cZ cR) s) (hN : va_Nw gN s) (hA : ∀ q, s.heap.size ≤ q → A q) (c_steps : Nat → Int32) (v1 : Int32) (post : Int32 → Prop)  (h : wp_X5_stepOf c_steps v1 post) : ∀ (H : Heap) (locs : List Loc), va_P D vwCl (w_S cI cZ cR ad_c c_pitches c_steps c_size) H → va_D A (w_S cI cZ cR ad_c c_pitches c_steps c_size) → va_S A s.heap H locs → ∀ (ls : Array Slot), lv_has ls 2 [(0, .ref (ad_c 0)), (1, .int v1)] → W p l e { frames := 0, cells := 0, slots := 0, locals := 0 } s m args below meth c H locs 0 0 (MQ below (va_Qi (fun (r : Int32) (u : Unit) => post r ) (fun u t => gB D (gT cI cZ cR) A (w_S cI cZ cR ad_c c_pitches c_steps c_size) t) A) args s 0 0 A) (F0 m 0 ls []) := by
  obtain ⟨hx, hb, hr, hml, hown, hts, hlocks⟩ := id G
  intro H locs hP hD hS ls hl
  unfold wp_X5_stepOf at h
  refine lv_aload_n hx hb dX5_stepOf_0 rfl (lv_at hl 0 rfl) ?_
  refine va_get (D := D) (ci := 5) (v := .ref (ad_c 2)) (C := RX5) (T := TX5) (N := 3) hx hb hts us_X5_stepOf_X5 hown hK hP 0 rfl rfl 1 (by decide) (hts (.fieldLink RX5 15 "RollHouse$Score" "steps" "[I") lk_X5_stepOf_0) (fun _ h9 => h9) rfl dX5_stepOf_1 ?_
  refine lv_iload_n hx hb dX5_stepOf_4 rfl (lv_at hl 1 rfl) ?_
  obtain ⟨hin, h⟩ := h
  refine va_iald hx hb hK hP 2 0 rfl rfl hin dX5_stepOf_5 ?_
  exact gl_ireti G hK (u := ()) hP hD hS h dX5_stepOf_6
set_option maxRecDepth 100000 in
theorem mt_X5_stepOf (l : Launch) (D : va_G) (cI cZ cR : ClassId) (ad_c : Nat → Nat) (sz : Nat) (c_pitches : Nat → Int32) (c_steps : Nat → Int32) (c_size : Int32) (v1 : Int32) (post : Int32 → Prop) (h : wp_X5_stepOf c_steps v1 post) : Met l yX5_stepOf wsX5_stepOf ({ frames := 0, cells := 0, slots := 0, locals := 0 }) (gPc D (gT cI cZ cR) (w_S cI cZ cR ad_c c_pitches c_steps c_size) sz [.ref (ad_c 0), .int v1]) (va_Qi (fun (r : Int32) (u : Unit) => post r ) (fun u t => gB D (gT cI cZ cR) (va_A (w_S cI cZ cR ad_c c_pitches c_steps c_size) sz) (w_S cI cZ cR ad_c c_pitches c_steps c_size) t) (va_A (w_S cI cZ cR ad_c c_pitches c_steps c_size) sz)) 0 0 (va_A (w_S cI cZ cR ad_c c_pitches c_steps c_size) sz) := by
  refine gl_entry (cc := cX5_stepOf) (maxL := 2) (ret := (some .int)) (by decide) rfl (Nat.le_of_ble_eq_true rfl) ?_
  intro p e s m below meth c ls G hin hsz hK hN hP hD hl
  subst hsz
  exact ml_X5_stepOf_0 G hK hN (fun q h => Or.inr h) c_steps v1 post h s.heap [] hP hD va_S.rf ls hl
theorem lk_X5_append_0 : (Cond.fieldLink RX5 18 "RollHouse$Score" "size" "I") ∈ wsX5_append := by decide +kernel
theorem lk_X5_append_1 : (Cond.fieldLink RX5 15 "RollHouse$Score" "steps" "[I") ∈ wsX5_append := by decide +kernel
theorem lk_X5_append_2 : (Cond.fieldLink RX5 9 "RollHouse$Score" "pitches" "[I") ∈ wsX5_append := by decide +kernel
theorem us_X5_append_X5 : ∀ w ∈ u_ws RX5 TX5 3, w ∈ wsX5_append := by decide +kernel
def wl_X5_append_33 (v1 : Int32) (v2 : Int32) (post : Int32 → (Nat → Int32) → (Nat → Int32) → Int32 → Prop) (c_pitches : Nat → Int32) (c_steps : Nat → Int32) (c_size : Int32) : Prop := (vp_in c_size 40 ∧ (∀ a1 : Nat → Int32, a1 = upd c_pitches c_size.toNatClampNeg v1 → (vp_in c_size 40 ∧ (∀ a2 : Nat → Int32, a2 = upd c_steps c_size.toNatClampNeg v2 → post ((c_size + 1) - 1) a1 a2 (c_size + 1)))))
def wp_X5_append (v1 : Int32) (v2 : Int32) (c_pitches : Nat → Int32) (c_steps : Nat → Int32) (c_size : Int32) (post : Int32 → (Nat → Int32) → (Nat → Int32) → Int32 → Prop) : Prop := ((40 ≤ c_size → post (-1) c_pitches c_steps c_size) ∧ (¬ 40 ≤ c_size → ((c_size ≤ 0 → wl_X5_append_33 v1 v2 post c_pitches c_steps c_size) ∧ (¬ c_size ≤ 0 → (vp_in (c_size - 1) 40 ∧ (((c_steps (c_size - 1).toNatClampNeg) ≤ v2 → wl_X5_append_33 v1 v2 post c_pitches c_steps c_size) ∧ (¬ (c_steps (c_size - 1).toNatClampNeg) ≤ v2 → post (-1) c_pitches c_steps c_size)))))))
set_option maxRecDepth 100000 in
set_option maxHeartbeats 4000000 in
theorem ml_X5_append_33 {p : Program} {l : Launch} {e : Env} {s : State} {m : MethodId} {args : Array Value} {below : List Frame} {meth : Method} {c : Code} {D : va_G} {cI cZ cR : ClassId} {A : Nat → Prop} {ad_c : Nat → Nat}  (G : gG p s m args meth c cX5_append (some .int) 3 RX5 wsX5_append) (hK : va_K D vwCl (gT cI cZ cR) s) (hN : va_Nw gN s) (hA : ∀ q, s.heap.size ≤ q → A q) (v1 : Int32) (v2 : Int32) (post : Int32 → (Nat → Int32) → (Nat → Int32) → Int32 → Prop) (c_pitches : Nat → Int32) (c_steps : Nat → Int32) (c_size : Int32) (h : wl_X5_append_33 v1 v2 post c_pitches c_steps c_size) : ∀ (H : Heap) (locs : List Loc), va_P D vwCl (w_S cI cZ cR ad_c c_pitches c_steps c_size) H → va_D A (w_S cI cZ cR ad_c c_pitches c_steps c_size) → va_S A s.heap H locs → ∀ (ls : Array Slot), lv_has ls 3 [(0, .ref (ad_c 0)), (1, .int v1), (2, .int v2)] → W p l e { frames := 0, cells := 0, slots := 0, locals := 0 } s m args below meth c H locs 0 0 (MQ below (va_Qi (fun (r : Int32) (u : (Nat → Int32) × (Nat → Int32) × (Int32)) => post r u.1 u.2.1 u.2.2) (fun u t => gB D (gT cI cZ cR) A (w_S cI cZ cR ad_c u.1 u.2.1 u.2.2) t) A) args s 0 0 A) (F0 m 33 ls []) := by
  obtain ⟨hx, hb, hr, hml, hown, hts, hlocks⟩ := id G
  intro H locs hP hD hS ls hl
  unfold wl_X5_append_33 at h
  refine lv_aload_n hx hb dX5_append_33 rfl (lv_at hl 0 rfl) ?_
  refine va_get (D := D) (ci := 5) (v := .ref (ad_c 1)) (C := RX5) (T := TX5) (N := 3) hx hb hts us_X5_append_X5 hown hK hP 0 rfl rfl 0 (by decide) (hts (.fieldLink RX5 9 "RollHouse$Score" "pitches" "[I") lk_X5_append_2) (fun _ h9 => h9) rfl dX5_append_34 ?_
  refine lv_aload_n hx hb dX5_append_37 rfl (lv_at hl 0 rfl) ?_
  refine va_get (D := D) (ci := 5) (v := .int c_size) (C := RX5) (T := TX5) (N := 3) hx hb hts us_X5_append_X5 hown hK hP 0 rfl rfl 2 (by decide) (hts (.fieldLink RX5 18 "RollHouse$Score" "size" "I") lk_X5_append_0) (fun _ h9 => h9) rfl dX5_append_38 ?_
  refine lv_iload_n hx hb dX5_append_41 rfl (lv_at hl 1 rfl) ?_
  obtain ⟨hin, h⟩ := h
  refine va_iast hx hb hK hP hD hS 1 0 rfl rfl hin dX5_append_42 (fun H locs hP hD hS => ?_)
  obtain ⟨a1, ea1⟩ : ∃ f, f = upd c_pitches c_size.toNatClampNeg v1 := ⟨_, rfl⟩
  have h := h a1 ea1
  rw [← ea1] at hP hD
  have hP : va_P D vwCl (w_S cI cZ cR ad_c a1 c_steps c_size) H := hP
  have hD : va_D A (w_S cI cZ cR ad_c a1 c_steps c_size) := hD
  refine lv_aload_n hx hb dX5_append_43 rfl (lv_at hl 0 rfl) ?_
  refine va_get (D := D) (ci := 5) (v := .ref (ad_c 2)) (C := RX5) (T := TX5) (N := 3) hx hb hts us_X5_append_X5 hown hK hP 0 rfl rfl 1 (by decide) (hts (.fieldLink RX5 15 "RollHouse$Score" "steps" "[I") lk_X5_append_1) (fun _ h9 => h9) rfl dX5_append_44 ?_
  refine lv_aload_n hx hb dX5_append_47 rfl (lv_at hl 0 rfl) ?_
  refine va_get (D := D) (ci := 5) (v := .int c_size) (C := RX5) (T := TX5) (N := 3) hx hb hts us_X5_append_X5 hown hK hP 0 rfl rfl 2 (by decide) (hts (.fieldLink RX5 18 "RollHouse$Score" "size" "I") lk_X5_append_0) (fun _ h9 => h9) rfl dX5_append_48 ?_
  refine lv_iload_n hx hb dX5_append_51 rfl (lv_at hl 2 rfl) ?_
  obtain ⟨hin, h⟩ := h
  refine va_iast hx hb hK hP hD hS 2 0 rfl rfl hin dX5_append_52 (fun H locs hP hD hS => ?_)
  obtain ⟨a2, ea2⟩ : ∃ f, f = upd c_steps c_size.toNatClampNeg v2 := ⟨_, rfl⟩
  have h := h a2 ea2
  rw [← ea2] at hP hD
  have hP : va_P D vwCl (w_S cI cZ cR ad_c a1 a2 c_size) H := hP
  have hD : va_D A (w_S cI cZ cR ad_c a1 a2 c_size) := hD
  refine lv_aload_n hx hb dX5_append_53 rfl (lv_at hl 0 rfl) ?_
  refine lv_dup hx hb dX5_append_54 rfl ?_
  refine va_get (D := D) (ci := 5) (v := .int c_size) (C := RX5) (T := TX5) (N := 3) hx hb hts us_X5_append_X5 hown hK hP 0 rfl rfl 2 (by decide) (hts (.fieldLink RX5 18 "RollHouse$Score" "size" "I") lk_X5_append_0) (fun _ h9 => h9) rfl dX5_append_55 ?_
  refine lv_iconst (v := 1) hx hb dX5_append_58 (by decide) ?_
  refine lv_iadd hx hb dX5_append_59 ?_
  refine va_put (D := D) (ci := 5) (v := .int (c_size + 1)) (ty := .int) (C := RX5) (T := TX5) (N := 3) hx hb hts us_X5_append_X5 tyX5 tyX5_ok nmX5 hown hK hP hD hS 0 rfl rfl 2 (by decide) (hts (.fieldLink RX5 18 "RollHouse$Score" "size" "I") lk_X5_append_0) (fun _ h9 => h9) rfl (by decide +kernel) rfl rfl (Nat.le_of_ble_eq_true rfl) dX5_append_60 (fun H locs hP hD hS => ?_)
  have hP : va_P D vwCl (w_S cI cZ cR ad_c a1 a2 (c_size + 1)) H := hP
  have hD : va_D A (w_S cI cZ cR ad_c a1 a2 (c_size + 1)) := hD
  refine lv_aload_n hx hb dX5_append_63 rfl (lv_at hl 0 rfl) ?_
  refine va_get (D := D) (ci := 5) (v := .int (c_size + 1)) (C := RX5) (T := TX5) (N := 3) hx hb hts us_X5_append_X5 hown hK hP 0 rfl rfl 2 (by decide) (hts (.fieldLink RX5 18 "RollHouse$Score" "size" "I") lk_X5_append_0) (fun _ h9 => h9) rfl dX5_append_64 ?_
  refine lv_iconst (v := 1) hx hb dX5_append_67 (by decide) ?_
  refine lv_isub hx hb dX5_append_68 ?_
  exact gl_ireti G hK (u := (a1, a2, (c_size + 1))) hP hD hS h dX5_append_69
set_option maxRecDepth 100000 in
set_option maxHeartbeats 4000000 in
theorem ml_X5_append_0 {p : Program} {l : Launch} {e : Env} {s : State} {m : MethodId} {args : Array Value} {below : List Frame} {meth : Method} {c : Code} {D : va_G} {cI cZ cR : ClassId} {A : Nat → Prop} {ad_c : Nat → Nat}  (G : gG p s m args meth c cX5_append (some .int) 3 RX5 wsX5_append) (hK : va_K D vwCl (gT cI cZ cR) s) (hN : va_Nw gN s) (hA : ∀ q, s.heap.size ≤ q → A q) (v1 : Int32) (v2 : Int32) (post : Int32 → (Nat → Int32) → (Nat → Int32) → Int32 → Prop) (c_pitches : Nat → Int32) (c_steps : Nat → Int32) (c_size : Int32) (h : wp_X5_append v1 v2 c_pitches c_steps c_size post) : ∀ (H : Heap) (locs : List Loc), va_P D vwCl (w_S cI cZ cR ad_c c_pitches c_steps c_size) H → va_D A (w_S cI cZ cR ad_c c_pitches c_steps c_size) → va_S A s.heap H locs → ∀ (ls : Array Slot), lv_has ls 3 [(0, .ref (ad_c 0)), (1, .int v1), (2, .int v2)] → W p l e { frames := 0, cells := 0, slots := 0, locals := 0 } s m args below meth c H locs 0 0 (MQ below (va_Qi (fun (r : Int32) (u : (Nat → Int32) × (Nat → Int32) × (Int32)) => post r u.1 u.2.1 u.2.2) (fun u t => gB D (gT cI cZ cR) A (w_S cI cZ cR ad_c u.1 u.2.1 u.2.2) t) A) args s 0 0 A) (F0 m 0 ls []) := by
  obtain ⟨hx, hb, hr, hml, hown, hts, hlocks⟩ := id G
  intro H locs hP hD hS ls hl
  unfold wp_X5_append at h
  refine lv_aload_n hx hb dX5_append_0 rfl (lv_at hl 0 rfl) ?_
  refine va_get (D := D) (ci := 5) (v := .int c_size) (C := RX5) (T := TX5) (N := 3) hx hb hts us_X5_append_X5 hown hK hP 0 rfl rfl 2 (by decide) (hts (.fieldLink RX5 18 "RollHouse$Score" "size" "I") lk_X5_append_0) (fun _ h9 => h9) rfl dX5_append_1 ?_
  refine lv_bipush (v := 40) hx hb dX5_append_4 (by decide) ?_
  refine lv_icmp_ge (tgt := 31) hx hb dX5_append_6 (by decide) (fun hc => ?_) (fun hc => ?_)
  · have h := h.1 hc
    refine lv_iconst (v := (-1)) hx hb dX5_append_31 (by decide) ?_
    exact gl_ireti G hK (u := (c_pitches, c_steps, c_size)) hP hD hS h dX5_append_32
  · have h := h.2 hc
    refine lv_aload_n hx hb dX5_append_9 rfl (lv_at hl 0 rfl) ?_
    refine va_get (D := D) (ci := 5) (v := .int c_size) (C := RX5) (T := TX5) (N := 3) hx hb hts us_X5_append_X5 hown hK hP 0 rfl rfl 2 (by decide) (hts (.fieldLink RX5 18 "RollHouse$Score" "size" "I") lk_X5_append_0) (fun _ h9 => h9) rfl dX5_append_10 ?_
    refine lv_if_le (tgt := 33) hx hb dX5_append_13 (by decide) (fun hc => ?_) (fun hc => ?_)
    · have h := h.1 hc
      exact ml_X5_append_33 G hK hN hA v1 v2 post c_pitches c_steps c_size h H locs hP hD hS ls (lv_sub hl [0, 1, 2] rfl)
    · have h := h.2 hc
      refine lv_iload_n hx hb dX5_append_16 rfl (lv_at hl 2 rfl) ?_
      refine lv_aload_n hx hb dX5_append_17 rfl (lv_at hl 0 rfl) ?_
      refine va_get (D := D) (ci := 5) (v := .ref (ad_c 2)) (C := RX5) (T := TX5) (N := 3) hx hb hts us_X5_append_X5 hown hK hP 0 rfl rfl 1 (by decide) (hts (.fieldLink RX5 15 "RollHouse$Score" "steps" "[I") lk_X5_append_1) (fun _ h9 => h9) rfl dX5_append_18 ?_
      refine lv_aload_n hx hb dX5_append_21 rfl (lv_at hl 0 rfl) ?_
      refine va_get (D := D) (ci := 5) (v := .int c_size) (C := RX5) (T := TX5) (N := 3) hx hb hts us_X5_append_X5 hown hK hP 0 rfl rfl 2 (by decide) (hts (.fieldLink RX5 18 "RollHouse$Score" "size" "I") lk_X5_append_0) (fun _ h9 => h9) rfl dX5_append_22 ?_
      refine lv_iconst (v := 1) hx hb dX5_append_25 (by decide) ?_
      refine lv_isub hx hb dX5_append_26 ?_
      obtain ⟨hin, h⟩ := h
      refine va_iald hx hb hK hP 2 0 rfl rfl hin dX5_append_27 ?_
      refine lv_icmp_ge (tgt := 33) hx hb dX5_append_28 (by decide) (fun hc => ?_) (fun hc => ?_)
      · have h := h.1 hc
        exact ml_X5_append_33 G hK hN hA v1 v2 post c_pitches c_steps c_size h H locs hP hD hS ls (lv_sub hl [0, 1, 2] rfl)
      · have h := h.2 hc
        refine lv_iconst (v := (-1)) hx hb dX5_append_31 (by decide) ?_
        exact gl_ireti G hK (u := (c_pitches, c_steps, c_size)) hP hD hS h dX5_append_32
set_option maxRecDepth 100000 in
theorem mt_X5_append (l : Launch) (D : va_G) (cI cZ cR : ClassId) (ad_c : Nat → Nat) (sz : Nat) (c_pitches : Nat → Int32) (c_steps : Nat → Int32) (c_size : Int32) (v1 : Int32) (v2 : Int32) (post : Int32 → (Nat → Int32) → (Nat → Int32) → Int32 → Prop) (h : wp_X5_append v1 v2 c_pitches c_steps c_size post) : Met l yX5_append wsX5_append ({ frames := 0, cells := 0, slots := 0, locals := 0 }) (gPc D (gT cI cZ cR) (w_S cI cZ cR ad_c c_pitches c_steps c_size) sz [.ref (ad_c 0), .int v1, .int v2]) (va_Qi (fun (r : Int32) (u : (Nat → Int32) × (Nat → Int32) × (Int32)) => post r u.1 u.2.1 u.2.2) (fun u t => gB D (gT cI cZ cR) (va_A (w_S cI cZ cR ad_c c_pitches c_steps c_size) sz) (w_S cI cZ cR ad_c u.1 u.2.1 u.2.2) t) (va_A (w_S cI cZ cR ad_c c_pitches c_steps c_size) sz)) 0 0 (va_A (w_S cI cZ cR ad_c c_pitches c_steps c_size) sz) := by
  refine gl_entry (cc := cX5_append) (maxL := 3) (ret := (some .int)) (by decide) rfl (Nat.le_of_ble_eq_true rfl) ?_
  intro p e s m below meth c ls G hin hsz hK hN hP hD hl
  subst hsz
  exact ml_X5_append_0 G hK hN (fun q h => Or.inr h) v1 v2 post c_pitches c_steps c_size h s.heap [] hP hD va_S.rf ls hl
theorem lk_X5_forgetAll_0 : (Cond.fieldLink RX5 18 "RollHouse$Score" "size" "I") ∈ wsX5_forgetAll := by decide +kernel
theorem us_X5_forgetAll_X5 : ∀ w ∈ u_ws RX5 TX5 3, w ∈ wsX5_forgetAll := by decide +kernel
def wp_X5_forgetAll (c_size : Int32) (post : Int32 → Prop) : Prop := post 0
set_option maxRecDepth 100000 in
set_option maxHeartbeats 4000000 in
theorem ml_X5_forgetAll_0 {p : Program} {l : Launch} {e : Env} {s : State} {m : MethodId} {args : Array Value} {below : List Frame} {meth : Method} {c : Code} {D : va_G} {cI cZ cR : ClassId} {A : Nat → Prop} {ad_c : Nat → Nat} {c_pitches : Nat → Int32} {c_steps : Nat → Int32} (G : gG p s m args meth c cX5_forgetAll none 1 RX5 wsX5_forgetAll) (hK : va_K D vwCl (gT cI cZ cR) s) (hN : va_Nw gN s) (hA : ∀ q, s.heap.size ≤ q → A q)  (post : Int32 → Prop) (c_size : Int32) (h : wp_X5_forgetAll c_size post) : ∀ (H : Heap) (locs : List Loc), va_P D vwCl (w_S cI cZ cR ad_c c_pitches c_steps c_size) H → va_D A (w_S cI cZ cR ad_c c_pitches c_steps c_size) → va_S A s.heap H locs → ∀ (ls : Array Slot), lv_has ls 1 [(0, .ref (ad_c 0))] → W p l e { frames := 0, cells := 0, slots := 0, locals := 0 } s m args below meth c H locs 0 0 (MQ below (va_Qv (fun (u : (Int32)) => post u) (fun u t => gB D (gT cI cZ cR) A (w_S cI cZ cR ad_c c_pitches c_steps u) t) A) args s 0 0 A) (F0 m 0 ls []) := by
  obtain ⟨hx, hb, hr, hml, hown, hts, hlocks⟩ := id G
  intro H locs hP hD hS ls hl
  unfold wp_X5_forgetAll at h
  refine lv_aload_n hx hb dX5_forgetAll_0 rfl (lv_at hl 0 rfl) ?_
  refine lv_iconst (v := 0) hx hb dX5_forgetAll_1 (by decide) ?_
  refine va_put (D := D) (ci := 5) (v := .int 0) (ty := .int) (C := RX5) (T := TX5) (N := 3) hx hb hts us_X5_forgetAll_X5 tyX5 tyX5_ok nmX5 hown hK hP hD hS 0 rfl rfl 2 (by decide) (hts (.fieldLink RX5 18 "RollHouse$Score" "size" "I") lk_X5_forgetAll_0) (fun _ h9 => h9) rfl (by decide +kernel) rfl rfl (Nat.le_of_ble_eq_true rfl) dX5_forgetAll_2 (fun H locs hP hD hS => ?_)
  have hP : va_P D vwCl (w_S cI cZ cR ad_c c_pitches c_steps 0) H := hP
  have hD : va_D A (w_S cI cZ cR ad_c c_pitches c_steps 0) := hD
  exact gl_retv G hK (u := 0) hP hD hS h dX5_forgetAll_5
set_option maxRecDepth 100000 in
theorem mt_X5_forgetAll (l : Launch) (D : va_G) (cI cZ cR : ClassId) (ad_c : Nat → Nat) (sz : Nat) (c_pitches : Nat → Int32) (c_steps : Nat → Int32) (c_size : Int32) (post : Int32 → Prop) (h : wp_X5_forgetAll c_size post) : Met l yX5_forgetAll wsX5_forgetAll ({ frames := 0, cells := 0, slots := 0, locals := 0 }) (gPc D (gT cI cZ cR) (w_S cI cZ cR ad_c c_pitches c_steps c_size) sz [.ref (ad_c 0)]) (va_Qv (fun (u : (Int32)) => post u) (fun u t => gB D (gT cI cZ cR) (va_A (w_S cI cZ cR ad_c c_pitches c_steps c_size) sz) (w_S cI cZ cR ad_c c_pitches c_steps u) t) (va_A (w_S cI cZ cR ad_c c_pitches c_steps c_size) sz)) 0 0 (va_A (w_S cI cZ cR ad_c c_pitches c_steps c_size) sz) := by
  refine gl_entry (cc := cX5_forgetAll) (maxL := 1) (ret := none) (by decide) rfl (Nat.le_of_ble_eq_true rfl) ?_
  intro p e s m below meth c ls G hin hsz hK hN hP hD hl
  subst hsz
  exact ml_X5_forgetAll_0 G hK hN (fun q h => Or.inr h) post c_size h s.heap [] hP hD va_S.rf ls hl
