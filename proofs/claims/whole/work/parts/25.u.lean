theorem lk_X3_sightCount_0 : (Cond.fieldLink RX3 18 "RollHouse$Punches" "sights" "I") ∈ wsX3_sightCount := by decide +kernel
theorem us_X3_sightCount_X3 : ∀ w ∈ u_ws RX3 TX3 3, w ∈ wsX3_sightCount := by decide +kernel
def wp_X3_sightCount (u_sights : Int32) (post : Int32 → Prop) : Prop := post u_sights 
set_option maxRecDepth 100000 in
set_option maxHeartbeats 4000000 in
theorem ml_X3_sightCount_0 {p : Program} {l : Launch} {e : Env} {s : State} {m : MethodId} {args : Array Value} {below : List Frame} {meth : Method} {c : Code} {D : va_G} {cI cZ cR : ClassId} {A : Nat → Prop} {ad_u : Nat → Nat} {u_least : Nat → Int32} {u_greatest : Nat → Int32} (G : gG p s m args meth c cX3_sightCount (some .int) 1 RX3 wsX3_sightCount) (hK : va_K D vwCl (gT cI cZ cR) s) (hN : va_Nw gN s) (hA : ∀ q, s.heap.size ≤ q → A q) (u_sights : Int32) (post : Int32 → Prop)  (h : wp_X3_sightCount u_sights post) : ∀ (H : Heap) (locs : List Loc), va_P D vwCl (w_U cI cZ cR ad_u u_least u_greatest u_sights) H → va_D A (w_U cI cZ cR ad_u u_least u_greatest u_sights) → va_S A s.heap H locs → ∀ (ls : Array Slot), lv_has ls 1 [(0, .ref (ad_u 0))] → W p l e { frames := 0, cells := 0, slots := 0, locals := 0 } s m args below meth c H locs 0 0 (MQ below (va_Qi (fun (r : Int32) (u : Unit) => post r ) (fun u t => gB D (gT cI cZ cR) A (w_U cI cZ cR ad_u u_least u_greatest u_sights) t) A) args s 0 0 A) (F0 m 0 ls []) := by
  obtain ⟨hx, hb, hr, hml, hown, hts, hlocks⟩ := id G
  intro H locs hP hD hS ls hl
  unfold wp_X3_sightCount at h
  refine lv_aload_n hx hb dX3_sightCount_0 rfl (lv_at hl 0 rfl) ?_
  refine va_get (D := D) (ci := 3) (v := .int u_sights) (C := RX3) (T := TX3) (N := 3) hx hb hts us_X3_sightCount_X3 hown hK hP 0 rfl rfl 2 (by decide) (hts (.fieldLink RX3 18 "RollHouse$Punches" "sights" "I") lk_X3_sightCount_0) (fun _ h9 => h9) rfl dX3_sightCount_1 ?_
  exact gl_ireti G hK (u := ()) hP hD hS h dX3_sightCount_4
set_option maxRecDepth 100000 in
theorem mt_X3_sightCount (l : Launch) (D : va_G) (cI cZ cR : ClassId) (ad_u : Nat → Nat) (sz : Nat) (u_least : Nat → Int32) (u_greatest : Nat → Int32) (u_sights : Int32) (post : Int32 → Prop) (h : wp_X3_sightCount u_sights post) : Met l yX3_sightCount wsX3_sightCount ({ frames := 0, cells := 0, slots := 0, locals := 0 }) (gPc D (gT cI cZ cR) (w_U cI cZ cR ad_u u_least u_greatest u_sights) sz [.ref (ad_u 0)]) (va_Qi (fun (r : Int32) (u : Unit) => post r ) (fun u t => gB D (gT cI cZ cR) (va_A (w_U cI cZ cR ad_u u_least u_greatest u_sights) sz) (w_U cI cZ cR ad_u u_least u_greatest u_sights) t) (va_A (w_U cI cZ cR ad_u u_least u_greatest u_sights) sz)) 0 0 (va_A (w_U cI cZ cR ad_u u_least u_greatest u_sights) sz) := by
  refine gl_entry (cc := cX3_sightCount) (maxL := 1) (ret := (some .int)) (by decide) rfl (Nat.le_of_ble_eq_true rfl) ?_
  intro p e s m below meth c ls G hin hsz hK hN hP hD hl
  subst hsz
  exact ml_X3_sightCount_0 G hK hN (fun q h => Or.inr h) u_sights post h s.heap [] hP hD va_S.rf ls hl
theorem lk_X3_see_0 : (Cond.fieldLink RX3 18 "RollHouse$Punches" "sights" "I") ∈ wsX3_see := by decide +kernel
theorem lk_X3_see_1 : (Cond.fieldLink RX3 9 "RollHouse$Punches" "least" "[I") ∈ wsX3_see := by decide +kernel
theorem lk_X3_see_2 : (Cond.methodLink RX3 28 Lib.Math.max.name) ∈ wsX3_see := by decide +kernel
theorem lk_X3_see_3 : (Cond.static Lib.Math.max.name) ∈ wsX3_see := by decide +kernel
theorem lk_X3_see_4 : (Cond.initialized "java/lang/Math") ∈ wsX3_see := by decide +kernel
theorem lk_X3_see_5 : (Cond.code Lib.Math.max.name Lib.Math.max.code 2 (some .int)) ∈ wsX3_see := by decide +kernel
theorem lk_X3_see_6 : (Cond.fieldLink RX3 15 "RollHouse$Punches" "greatest" "[I") ∈ wsX3_see := by decide +kernel
theorem lk_X3_see_7 : (Cond.methodLink RX3 22 Lib.Math.min.name) ∈ wsX3_see := by decide +kernel
theorem lk_X3_see_8 : (Cond.static Lib.Math.min.name) ∈ wsX3_see := by decide +kernel
theorem lk_X3_see_9 : (Cond.code Lib.Math.min.name Lib.Math.min.code 2 (some .int)) ∈ wsX3_see := by decide +kernel
theorem us_X3_see_X3 : ∀ w ∈ u_ws RX3 TX3 3, w ∈ wsX3_see := by decide +kernel
def wl_X3_see_53 (v1 : Int32) (v2 : Int32) (v3 : Int32) (post : Int32 → (Nat → Int32) → (Nat → Int32) → Int32 → Prop) (u_least : Nat → Int32) (u_greatest : Nat → Int32) (u_sights : Int32) : Prop := post (u_sights + 1) u_least u_greatest (u_sights + 1)
def wp_X3_see (v1 : Int32) (v2 : Int32) (v3 : Int32) (u_least : Nat → Int32) (u_greatest : Nat → Int32) (u_sights : Int32) (post : Int32 → (Nat → Int32) → (Nat → Int32) → Int32 → Prop) : Prop := ((u_sights < 200 → ((v3 = 0 → (vp_in v2 24 ∧ (∀ z1 : Int32, z1 = (if (u_least v2.toNatClampNeg) < (v1 + 1) then (v1 + 1) else (u_least v2.toNatClampNeg)) → (vp_in v2 24 ∧ (∀ a2 : Nat → Int32, a2 = upd u_least v2.toNatClampNeg z1 → wl_X3_see_53 v1 v2 v3 post a2 u_greatest u_sights))))) ∧ (¬ v3 = 0 → (vp_in v2 24 ∧ (∀ z3 : Int32, z3 = (if v1 < (u_greatest v2.toNatClampNeg) then v1 else (u_greatest v2.toNatClampNeg)) → (vp_in v2 24 ∧ (∀ a4 : Nat → Int32, a4 = upd u_greatest v2.toNatClampNeg z3 → wl_X3_see_53 v1 v2 v3 post u_least a4 u_sights))))))) ∧ (¬ u_sights < 200 → post (-1) u_least u_greatest u_sights))
set_option maxRecDepth 100000 in
set_option maxHeartbeats 4000000 in
theorem ml_X3_see_53 {p : Program} {l : Launch} {e : Env} {s : State} {m : MethodId} {args : Array Value} {below : List Frame} {meth : Method} {c : Code} {D : va_G} {cI cZ cR : ClassId} {A : Nat → Prop} {ad_u : Nat → Nat}  (G : gG p s m args meth c cX3_see (some .int) 4 RX3 wsX3_see) (hK : va_K D vwCl (gT cI cZ cR) s) (hN : va_Nw gN s) (hA : ∀ q, s.heap.size ≤ q → A q) (v1 : Int32) (v2 : Int32) (v3 : Int32) (post : Int32 → (Nat → Int32) → (Nat → Int32) → Int32 → Prop) (u_least : Nat → Int32) (u_greatest : Nat → Int32) (u_sights : Int32) (h : wl_X3_see_53 v1 v2 v3 post u_least u_greatest u_sights) : ∀ (H : Heap) (locs : List Loc), va_P D vwCl (w_U cI cZ cR ad_u u_least u_greatest u_sights) H → va_D A (w_U cI cZ cR ad_u u_least u_greatest u_sights) → va_S A s.heap H locs → ∀ (ls : Array Slot), lv_has ls 4 [(0, .ref (ad_u 0))] → W p l e { frames := 1, cells := 0, slots := 0, locals := 21 } s m args below meth c H locs 0 0 (MQ below (va_Qi (fun (r : Int32) (u : (Nat → Int32) × (Nat → Int32) × (Int32)) => post r u.1 u.2.1 u.2.2) (fun u t => gB D (gT cI cZ cR) A (w_U cI cZ cR ad_u u.1 u.2.1 u.2.2) t) A) args s 0 0 A) (F0 m 53 ls []) := by
  obtain ⟨hx, hb, hr, hml, hown, hts, hlocks⟩ := id G
  intro H locs hP hD hS ls hl
  unfold wl_X3_see_53 at h
  refine lv_aload_n hx hb dX3_see_53 rfl (lv_at hl 0 rfl) ?_
  refine lv_dup hx hb dX3_see_54 rfl ?_
  refine va_get (D := D) (ci := 3) (v := .int u_sights) (C := RX3) (T := TX3) (N := 3) hx hb hts us_X3_see_X3 hown hK hP 0 rfl rfl 2 (by decide) (hts (.fieldLink RX3 18 "RollHouse$Punches" "sights" "I") lk_X3_see_0) (fun _ h9 => h9) rfl dX3_see_55 ?_
  refine lv_iconst (v := 1) hx hb dX3_see_58 (by decide) ?_
  refine lv_iadd hx hb dX3_see_59 ?_
  refine va_put (D := D) (ci := 3) (v := .int (u_sights + 1)) (ty := .int) (C := RX3) (T := TX3) (N := 3) hx hb hts us_X3_see_X3 tyX3 tyX3_ok nmX3 hown hK hP hD hS 0 rfl rfl 2 (by decide) (hts (.fieldLink RX3 18 "RollHouse$Punches" "sights" "I") lk_X3_see_0) (fun _ h9 => h9) rfl (by decide +kernel) rfl rfl (Nat.le_of_ble_eq_true rfl) dX3_see_60 (fun H locs hP hD hS => ?_)
  have hP : va_P D vwCl (w_U cI cZ cR ad_u u_least u_greatest (u_sights + 1)) H := hP
  have hD : va_D A (w_U cI cZ cR ad_u u_least u_greatest (u_sights + 1)) := hD
  refine lv_aload_n hx hb dX3_see_63 rfl (lv_at hl 0 rfl) ?_
  refine va_get (D := D) (ci := 3) (v := .int (u_sights + 1)) (C := RX3) (T := TX3) (N := 3) hx hb hts us_X3_see_X3 hown hK hP 0 rfl rfl 2 (by decide) (hts (.fieldLink RX3 18 "RollHouse$Punches" "sights" "I") lk_X3_see_0) (fun _ h9 => h9) rfl dX3_see_64 ?_
  exact gl_ireti G hK (u := (u_least, u_greatest, (u_sights + 1))) hP hD hS h dX3_see_67
set_option maxRecDepth 100000 in
set_option maxHeartbeats 4000000 in
theorem ml_X3_see_0 {p : Program} {l : Launch} {e : Env} {s : State} {m : MethodId} {args : Array Value} {below : List Frame} {meth : Method} {c : Code} {D : va_G} {cI cZ cR : ClassId} {A : Nat → Prop} {ad_u : Nat → Nat}  (G : gG p s m args meth c cX3_see (some .int) 4 RX3 wsX3_see) (hK : va_K D vwCl (gT cI cZ cR) s) (hN : va_Nw gN s) (hA : ∀ q, s.heap.size ≤ q → A q) (v1 : Int32) (v2 : Int32) (v3 : Int32) (post : Int32 → (Nat → Int32) → (Nat → Int32) → Int32 → Prop) (u_least : Nat → Int32) (u_greatest : Nat → Int32) (u_sights : Int32) (h : wp_X3_see v1 v2 v3 u_least u_greatest u_sights post) : ∀ (H : Heap) (locs : List Loc), va_P D vwCl (w_U cI cZ cR ad_u u_least u_greatest u_sights) H → va_D A (w_U cI cZ cR ad_u u_least u_greatest u_sights) → va_S A s.heap H locs → ∀ (ls : Array Slot), lv_has ls 4 [(0, .ref (ad_u 0)), (1, .int v1), (2, .int v2), (3, .int v3)] → W p l e { frames := 1, cells := 0, slots := 0, locals := 21 } s m args below meth c H locs 0 0 (MQ below (va_Qi (fun (r : Int32) (u : (Nat → Int32) × (Nat → Int32) × (Int32)) => post r u.1 u.2.1 u.2.2) (fun u t => gB D (gT cI cZ cR) A (w_U cI cZ cR ad_u u.1 u.2.1 u.2.2) t) A) args s 0 0 A) (F0 m 0 ls []) := by
  obtain ⟨hx, hb, hr, hml, hown, hts, hlocks⟩ := id G
  intro H locs hP hD hS ls hl
  unfold wp_X3_see at h
  refine lv_aload_n hx hb dX3_see_0 rfl (lv_at hl 0 rfl) ?_
  refine va_get (D := D) (ci := 3) (v := .int u_sights) (C := RX3) (T := TX3) (N := 3) hx hb hts us_X3_see_X3 hown hK hP 0 rfl rfl 2 (by decide) (hts (.fieldLink RX3 18 "RollHouse$Punches" "sights" "I") lk_X3_see_0) (fun _ h9 => h9) rfl dX3_see_1 ?_
  refine lv_sipush (v := 200) hx hb dX3_see_4 (by decide) ?_
  refine lv_icmp_lt (tgt := 12) hx hb dX3_see_7 (by decide) (fun hc => ?_) (fun hc => ?_)
  · have h := h.1 hc
    refine lv_iload_n hx hb dX3_see_12 rfl (lv_at hl 3 rfl) ?_
    refine lv_if_eq (tgt := 35) hx hb dX3_see_13 (by decide) (fun hc => ?_) (fun hc => ?_)
    · have h := h.1 hc
      refine lv_aload_n hx hb dX3_see_35 rfl (lv_at hl 0 rfl) ?_
      refine va_get (D := D) (ci := 3) (v := .ref (ad_u 1)) (C := RX3) (T := TX3) (N := 3) hx hb hts us_X3_see_X3 hown hK hP 0 rfl rfl 0 (by decide) (hts (.fieldLink RX3 9 "RollHouse$Punches" "least" "[I") lk_X3_see_1) (fun _ h9 => h9) rfl dX3_see_36 ?_
      refine lv_iload_n hx hb dX3_see_39 rfl (lv_at hl 2 rfl) ?_
      refine lv_aload_n hx hb dX3_see_40 rfl (lv_at hl 0 rfl) ?_
      refine va_get (D := D) (ci := 3) (v := .ref (ad_u 1)) (C := RX3) (T := TX3) (N := 3) hx hb hts us_X3_see_X3 hown hK hP 0 rfl rfl 0 (by decide) (hts (.fieldLink RX3 9 "RollHouse$Punches" "least" "[I") lk_X3_see_1) (fun _ h9 => h9) rfl dX3_see_41 ?_
      refine lv_iload_n hx hb dX3_see_44 rfl (lv_at hl 2 rfl) ?_
      obtain ⟨hin, h⟩ := h
      refine va_iald hx hb hK hP 1 0 rfl rfl hin dX3_see_45 ?_
      refine lv_iload_n hx hb dX3_see_46 rfl (lv_at hl 1 rfl) ?_
      refine lv_iconst (v := 1) hx hb dX3_see_47 (by decide) ?_
      refine lv_iadd hx hb dX3_see_48 ?_
      refine va_mmax hx hb (hml.trans hl.1.symm) hown (hts (.methodLink RX3 28 Lib.Math.max.name) lk_X3_see_2) (hts (.static Lib.Math.max.name) lk_X3_see_3) (hts (.initialized "java/lang/Math") lk_X3_see_4) (hts (.code Lib.Math.max.name Lib.Math.max.code 2 (some .int)) lk_X3_see_5) (Nat.le_of_ble_eq_true rfl) (Nat.le_of_ble_eq_true rfl) (Nat.le_of_ble_eq_true rfl) (Nat.le_of_ble_eq_true rfl) dX3_see_49 ?_
      refine lv_topi (fun z1 ez1 => ?_)
      have h := h z1 ez1
      obtain ⟨hin, h⟩ := h
      refine va_iast hx hb hK hP hD hS 1 0 rfl rfl hin dX3_see_52 (fun H locs hP hD hS => ?_)
      obtain ⟨a2, ea2⟩ : ∃ f, f = upd u_least v2.toNatClampNeg z1 := ⟨_, rfl⟩
      have h := h a2 ea2
      rw [← ea2] at hP hD
      have hP : va_P D vwCl (w_U cI cZ cR ad_u a2 u_greatest u_sights) H := hP
      have hD : va_D A (w_U cI cZ cR ad_u a2 u_greatest u_sights) := hD
      exact ml_X3_see_53 G hK hN hA v1 v2 v3 post a2 u_greatest u_sights h H locs hP hD hS ls (lv_sub hl [0] rfl)
    · have h := h.2 hc
      refine lv_aload_n hx hb dX3_see_16 rfl (lv_at hl 0 rfl) ?_
      refine va_get (D := D) (ci := 3) (v := .ref (ad_u 2)) (C := RX3) (T := TX3) (N := 3) hx hb hts us_X3_see_X3 hown hK hP 0 rfl rfl 1 (by decide) (hts (.fieldLink RX3 15 "RollHouse$Punches" "greatest" "[I") lk_X3_see_6) (fun _ h9 => h9) rfl dX3_see_17 ?_
      refine lv_iload_n hx hb dX3_see_20 rfl (lv_at hl 2 rfl) ?_
      refine lv_aload_n hx hb dX3_see_21 rfl (lv_at hl 0 rfl) ?_
      refine va_get (D := D) (ci := 3) (v := .ref (ad_u 2)) (C := RX3) (T := TX3) (N := 3) hx hb hts us_X3_see_X3 hown hK hP 0 rfl rfl 1 (by decide) (hts (.fieldLink RX3 15 "RollHouse$Punches" "greatest" "[I") lk_X3_see_6) (fun _ h9 => h9) rfl dX3_see_22 ?_
      refine lv_iload_n hx hb dX3_see_25 rfl (lv_at hl 2 rfl) ?_
      obtain ⟨hin, h⟩ := h
      refine va_iald hx hb hK hP 2 0 rfl rfl hin dX3_see_26 ?_
      refine lv_iload_n hx hb dX3_see_27 rfl (lv_at hl 1 rfl) ?_
      refine va_mmin hx hb (hml.trans hl.1.symm) hown (hts (.methodLink RX3 22 Lib.Math.min.name) lk_X3_see_7) (hts (.static Lib.Math.min.name) lk_X3_see_8) (hts (.initialized "java/lang/Math") lk_X3_see_4) (hts (.code Lib.Math.min.name Lib.Math.min.code 2 (some .int)) lk_X3_see_9) (Nat.le_of_ble_eq_true rfl) (Nat.le_of_ble_eq_true rfl) (Nat.le_of_ble_eq_true rfl) (Nat.le_of_ble_eq_true rfl) dX3_see_28 ?_
      refine lv_topi (fun z3 ez3 => ?_)
      have h := h z3 ez3
      obtain ⟨hin, h⟩ := h
      refine va_iast hx hb hK hP hD hS 2 0 rfl rfl hin dX3_see_31 (fun H locs hP hD hS => ?_)
      obtain ⟨a4, ea4⟩ : ∃ f, f = upd u_greatest v2.toNatClampNeg z3 := ⟨_, rfl⟩
      have h := h a4 ea4
      rw [← ea4] at hP hD
      have hP : va_P D vwCl (w_U cI cZ cR ad_u u_least a4 u_sights) H := hP
      have hD : va_D A (w_U cI cZ cR ad_u u_least a4 u_sights) := hD
      refine lv_goto (tgt := 53) hx hb dX3_see_32 (by decide) ?_
      exact ml_X3_see_53 G hK hN hA v1 v2 v3 post u_least a4 u_sights h H locs hP hD hS ls (lv_sub hl [0] rfl)
  · have h := h.2 hc
    refine lv_iconst (v := (-1)) hx hb dX3_see_10 (by decide) ?_
    exact gl_ireti G hK (u := (u_least, u_greatest, u_sights)) hP hD hS h dX3_see_11
set_option maxRecDepth 100000 in
theorem mt_X3_see (l : Launch) (D : va_G) (cI cZ cR : ClassId) (ad_u : Nat → Nat) (sz : Nat) (u_least : Nat → Int32) (u_greatest : Nat → Int32) (u_sights : Int32) (v1 : Int32) (v2 : Int32) (v3 : Int32) (post : Int32 → (Nat → Int32) → (Nat → Int32) → Int32 → Prop) (h : wp_X3_see v1 v2 v3 u_least u_greatest u_sights post) : Met l yX3_see wsX3_see ({ frames := 1, cells := 0, slots := 0, locals := 21 }) (gPc D (gT cI cZ cR) (w_U cI cZ cR ad_u u_least u_greatest u_sights) sz [.ref (ad_u 0), .int v1, .int v2, .int v3]) (va_Qi (fun (r : Int32) (u : (Nat → Int32) × (Nat → Int32) × (Int32)) => post r u.1 u.2.1 u.2.2) (fun u t => gB D (gT cI cZ cR) (va_A (w_U cI cZ cR ad_u u_least u_greatest u_sights) sz) (w_U cI cZ cR ad_u u.1 u.2.1 u.2.2) t) (va_A (w_U cI cZ cR ad_u u_least u_greatest u_sights) sz)) 0 0 (va_A (w_U cI cZ cR ad_u u_least u_greatest u_sights) sz) := by
  refine gl_entry (cc := cX3_see) (maxL := 4) (ret := (some .int)) (by decide) rfl (Nat.le_of_ble_eq_true rfl) ?_
  intro p e s m below meth c ls G hin hsz hK hN hP hD hl
  subst hsz
  exact ml_X3_see_0 G hK hN (fun q h => Or.inr h) v1 v2 v3 post u_least u_greatest u_sights h s.heap [] hP hD va_S.rf ls hl
theorem lk_X3_canBe_0 : (Cond.fieldLink RX3 9 "RollHouse$Punches" "least" "[I") ∈ wsX3_canBe := by decide +kernel
theorem lk_X3_canBe_1 : (Cond.fieldLink RX3 15 "RollHouse$Punches" "greatest" "[I") ∈ wsX3_canBe := by decide +kernel
theorem us_X3_canBe_X3 : ∀ w ∈ u_ws RX3 TX3 3, w ∈ wsX3_canBe := by decide +kernel
def wp_X3_canBe (u_least : Nat → Int32) (u_greatest : Nat → Int32) (v1 : Int32) (post : Int32 → Prop) : Prop := (vp_in v1 24 ∧ (vp_in v1 24 ∧ (((u_greatest v1.toNatClampNeg) < (u_least v1.toNatClampNeg) → post 0 ) ∧ (¬ (u_greatest v1.toNatClampNeg) < (u_least v1.toNatClampNeg) → post 1 ))))
set_option maxRecDepth 100000 in
set_option maxHeartbeats 4000000 in
theorem ml_X3_canBe_0 {p : Program} {l : Launch} {e : Env} {s : State} {m : MethodId} {args : Array Value} {below : List Frame} {meth : Method} {c : Code} {D : va_G} {cI cZ cR : ClassId} {A : Nat → Prop} {ad_u : Nat → Nat} {u_sights : Int32} (G : gG p s m args meth c cX3_canBe (some .boolean) 2 RX3 wsX3_canBe) (hK : va_K D vwCl (gT cI cZ cR) s) (hN : va_Nw gN s) (hA : ∀ q, s.heap.size ≤ q → A q) (u_least : Nat → Int32) (u_greatest : Nat → Int32) (v1 : Int32) (post : Int32 → Prop)  (h : wp_X3_canBe u_least u_greatest v1 post) : ∀ (H : Heap) (locs : List Loc), va_P D vwCl (w_U cI cZ cR ad_u u_least u_greatest u_sights) H → va_D A (w_U cI cZ cR ad_u u_least u_greatest u_sights) → va_S A s.heap H locs → ∀ (ls : Array Slot), lv_has ls 2 [(0, .ref (ad_u 0)), (1, .int v1)] → W p l e { frames := 0, cells := 0, slots := 0, locals := 0 } s m args below meth c H locs 0 0 (MQ below (va_Qi (fun (r : Int32) (u : Unit) => post r ) (fun u t => gB D (gT cI cZ cR) A (w_U cI cZ cR ad_u u_least u_greatest u_sights) t) A) args s 0 0 A) (F0 m 0 ls []) := by
  obtain ⟨hx, hb, hr, hml, hown, hts, hlocks⟩ := id G
  intro H locs hP hD hS ls hl
  unfold wp_X3_canBe at h
  refine lv_aload_n hx hb dX3_canBe_0 rfl (lv_at hl 0 rfl) ?_
  refine va_get (D := D) (ci := 3) (v := .ref (ad_u 1)) (C := RX3) (T := TX3) (N := 3) hx hb hts us_X3_canBe_X3 hown hK hP 0 rfl rfl 0 (by decide) (hts (.fieldLink RX3 9 "RollHouse$Punches" "least" "[I") lk_X3_canBe_0) (fun _ h9 => h9) rfl dX3_canBe_1 ?_
  refine lv_iload_n hx hb dX3_canBe_4 rfl (lv_at hl 1 rfl) ?_
  obtain ⟨hin, h⟩ := h
  refine va_iald hx hb hK hP 1 0 rfl rfl hin dX3_canBe_5 ?_
  refine lv_aload_n hx hb dX3_canBe_6 rfl (lv_at hl 0 rfl) ?_
  refine va_get (D := D) (ci := 3) (v := .ref (ad_u 2)) (C := RX3) (T := TX3) (N := 3) hx hb hts us_X3_canBe_X3 hown hK hP 0 rfl rfl 1 (by decide) (hts (.fieldLink RX3 15 "RollHouse$Punches" "greatest" "[I") lk_X3_canBe_1) (fun _ h9 => h9) rfl dX3_canBe_7 ?_
  refine lv_iload_n hx hb dX3_canBe_10 rfl (lv_at hl 1 rfl) ?_
  obtain ⟨hin, h⟩ := h
  refine va_iald hx hb hK hP 2 0 rfl rfl hin dX3_canBe_11 ?_
  refine lv_icmp_gt (tgt := 19) hx hb dX3_canBe_12 (by decide) (fun hc => ?_) (fun hc => ?_)
  · have h := h.1 hc
    refine lv_iconst (v := 0) hx hb dX3_canBe_19 (by decide) ?_
    exact gl_iretz G hK (u := ()) hP hD hS (by decide) h dX3_canBe_20
  · have h := h.2 hc
    refine lv_iconst (v := 1) hx hb dX3_canBe_15 (by decide) ?_
    refine lv_goto (tgt := 20) hx hb dX3_canBe_16 (by decide) ?_
    exact gl_iretz G hK (u := ()) hP hD hS (by decide) h dX3_canBe_20
set_option maxRecDepth 100000 in
theorem mt_X3_canBe (l : Launch) (D : va_G) (cI cZ cR : ClassId) (ad_u : Nat → Nat) (sz : Nat) (u_least : Nat → Int32) (u_greatest : Nat → Int32) (u_sights : Int32) (v1 : Int32) (post : Int32 → Prop) (h : wp_X3_canBe u_least u_greatest v1 post) : Met l yX3_canBe wsX3_canBe ({ frames := 0, cells := 0, slots := 0, locals := 0 }) (gPc D (gT cI cZ cR) (w_U cI cZ cR ad_u u_least u_greatest u_sights) sz [.ref (ad_u 0), .int v1]) (va_Qi (fun (r : Int32) (u : Unit) => post r ) (fun u t => gB D (gT cI cZ cR) (va_A (w_U cI cZ cR ad_u u_least u_greatest u_sights) sz) (w_U cI cZ cR ad_u u_least u_greatest u_sights) t) (va_A (w_U cI cZ cR ad_u u_least u_greatest u_sights) sz)) 0 0 (va_A (w_U cI cZ cR ad_u u_least u_greatest u_sights) sz) := by
  refine gl_entry (cc := cX3_canBe) (maxL := 2) (ret := (some .boolean)) (by decide) rfl (Nat.le_of_ble_eq_true rfl) ?_
  intro p e s m below meth c ls G hin hsz hK hN hP hD hl
  subst hsz
  exact ml_X3_canBe_0 G hK hN (fun q h => Or.inr h) u_least u_greatest v1 post h s.heap [] hP hD va_S.rf ls hl
theorem lk_X3_leastOf_0 : (Cond.fieldLink RX3 9 "RollHouse$Punches" "least" "[I") ∈ wsX3_leastOf := by decide +kernel
theorem us_X3_leastOf_X3 : ∀ w ∈ u_ws RX3 TX3 3, w ∈ wsX3_leastOf := by decide +kernel
def wp_X3_leastOf (u_least : Nat → Int32) (v1 : Int32) (post : Int32 → Prop) : Prop := (vp_in v1 24 ∧ post (u_least v1.toNatClampNeg) )
set_option maxRecDepth 100000 in
set_option maxHeartbeats 4000000 in
theorem ml_X3_leastOf_0 {p : Program} {l : Launch} {e : Env} {s : State} {m : MethodId} {args : Array Value} {below : List Frame} {meth : Method} {c : Code} {D : va_G} {cI cZ cR : ClassId} {A : Nat → Prop} {ad_u : Nat → Nat} {u_greatest : Nat → Int32} {u_sights : Int32} (G : gG p s m args meth c cX3_leastOf (some .int) 2 RX3 wsX3_leastOf) (hK : va_K D vwCl (gT cI cZ cR) s) (hN : va_Nw gN s) (hA : ∀ q, s.heap.size ≤ q → A q) (u_least : Nat → Int32) (v1 : Int32) (post : Int32 → Prop)  (h : wp_X3_leastOf u_least v1 post) : ∀ (H : Heap) (locs : List Loc), va_P D vwCl (w_U cI cZ cR ad_u u_least u_greatest u_sights) H → va_D A (w_U cI cZ cR ad_u u_least u_greatest u_sights) → va_S A s.heap H locs → ∀ (ls : Array Slot), lv_has ls 2 [(0, .ref (ad_u 0)), (1, .int v1)] → W p l e { frames := 0, cells := 0, slots := 0, locals := 0 } s m args below meth c H locs 0 0 (MQ below (va_Qi (fun (r : Int32) (u : Unit) => post r ) (fun u t => gB D (gT cI cZ cR) A (w_U cI cZ cR ad_u u_least u_greatest u_sights) t) A) args s 0 0 A) (F0 m 0 ls []) := by
  obtain ⟨hx, hb, hr, hml, hown, hts, hlocks⟩ := id G
  intro H locs hP hD hS ls hl
  unfold wp_X3_leastOf at h
  refine lv_aload_n hx hb dX3_leastOf_0 rfl (lv_at hl 0 rfl) ?_
  refine va_get (D := D) (ci := 3) (v := .ref (ad_u 1)) (C := RX3) (T := TX3) (N := 3) hx hb hts us_X3_leastOf_X3 hown hK hP 0 rfl rfl 0 (by decide) (hts (.fieldLink RX3 9 "RollHouse$Punches" "least" "[I") lk_X3_leastOf_0) (fun _ h9 => h9) rfl dX3_leastOf_1 ?_
  refine lv_iload_n hx hb dX3_leastOf_4 rfl (lv_at hl 1 rfl) ?_
  obtain ⟨hin, h⟩ := h
  refine va_iald hx hb hK hP 1 0 rfl rfl hin dX3_leastOf_5 ?_
  exact gl_ireti G hK (u := ()) hP hD hS h dX3_leastOf_6
set_option maxRecDepth 100000 in
theorem mt_X3_leastOf (l : Launch) (D : va_G) (cI cZ cR : ClassId) (ad_u : Nat → Nat) (sz : Nat) (u_least : Nat → Int32) (u_greatest : Nat → Int32) (u_sights : Int32) (v1 : Int32) (post : Int32 → Prop) (h : wp_X3_leastOf u_least v1 post) : Met l yX3_leastOf wsX3_leastOf ({ frames := 0, cells := 0, slots := 0, locals := 0 }) (gPc D (gT cI cZ cR) (w_U cI cZ cR ad_u u_least u_greatest u_sights) sz [.ref (ad_u 0), .int v1]) (va_Qi (fun (r : Int32) (u : Unit) => post r ) (fun u t => gB D (gT cI cZ cR) (va_A (w_U cI cZ cR ad_u u_least u_greatest u_sights) sz) (w_U cI cZ cR ad_u u_least u_greatest u_sights) t) (va_A (w_U cI cZ cR ad_u u_least u_greatest u_sights) sz)) 0 0 (va_A (w_U cI cZ cR ad_u u_least u_greatest u_sights) sz) := by
  refine gl_entry (cc := cX3_leastOf) (maxL := 2) (ret := (some .int)) (by decide) rfl (Nat.le_of_ble_eq_true rfl) ?_
  intro p e s m below meth c ls G hin hsz hK hN hP hD hl
  subst hsz
  exact ml_X3_leastOf_0 G hK hN (fun q h => Or.inr h) u_least v1 post h s.heap [] hP hD va_S.rf ls hl
theorem lk_X3_greatestOf_0 : (Cond.fieldLink RX3 15 "RollHouse$Punches" "greatest" "[I") ∈ wsX3_greatestOf := by decide +kernel
theorem us_X3_greatestOf_X3 : ∀ w ∈ u_ws RX3 TX3 3, w ∈ wsX3_greatestOf := by decide +kernel
def wp_X3_greatestOf (u_greatest : Nat → Int32) (v1 : Int32) (post : Int32 → Prop) : Prop := (vp_in v1 24 ∧ post (u_greatest v1.toNatClampNeg) )
set_option maxRecDepth 100000 in
set_option maxHeartbeats 4000000 in
theorem ml_X3_greatestOf_0 {p : Program} {l : Launch} {e : Env} {s : State} {m : MethodId} {args : Array Value} {below : List Frame} {meth : Method} {c : Code} {D : va_G} {cI cZ cR : ClassId} {A : Nat → Prop} {ad_u : Nat → Nat} {u_least : Nat → Int32} {u_sights : Int32} (G : gG p s m args meth c cX3_greatestOf (some .int) 2 RX3 wsX3_greatestOf) (hK : va_K D vwCl (gT cI cZ cR) s) (hN : va_Nw gN s) (hA : ∀ q, s.heap.size ≤ q → A q) (u_greatest : Nat → Int32) (v1 : Int32) (post : Int32 → Prop)  (h : wp_X3_greatestOf u_greatest v1 post) : ∀ (H : Heap) (locs : List Loc), va_P D vwCl (w_U cI cZ cR ad_u u_least u_greatest u_sights) H → va_D A (w_U cI cZ cR ad_u u_least u_greatest u_sights) → va_S A s.heap H locs → ∀ (ls : Array Slot), lv_has ls 2 [(0, .ref (ad_u 0)), (1, .int v1)] → W p l e { frames := 0, cells := 0, slots := 0, locals := 0 } s m args below meth c H locs 0 0 (MQ below (va_Qi (fun (r : Int32) (u : Unit) => post r ) (fun u t => gB D (gT cI cZ cR) A (w_U cI cZ cR ad_u u_least u_greatest u_sights) t) A) args s 0 0 A) (F0 m 0 ls []) := by
  obtain ⟨hx, hb, hr, hml, hown, hts, hlocks⟩ := id G
  intro H locs hP hD hS ls hl
  unfold wp_X3_greatestOf at h
  refine lv_aload_n hx hb dX3_greatestOf_0 rfl (lv_at hl 0 rfl) ?_
  refine va_get (D := D) (ci := 3) (v := .ref (ad_u 2)) (C := RX3) (T := TX3) (N := 3) hx hb hts us_X3_greatestOf_X3 hown hK hP 0 rfl rfl 1 (by decide) (hts (.fieldLink RX3 15 "RollHouse$Punches" "greatest" "[I") lk_X3_greatestOf_0) (fun _ h9 => h9) rfl dX3_greatestOf_1 ?_
  refine lv_iload_n hx hb dX3_greatestOf_4 rfl (lv_at hl 1 rfl) ?_
  obtain ⟨hin, h⟩ := h
  refine va_iald hx hb hK hP 2 0 rfl rfl hin dX3_greatestOf_5 ?_
  exact gl_ireti G hK (u := ()) hP hD hS h dX3_greatestOf_6
set_option maxRecDepth 100000 in
theorem mt_X3_greatestOf (l : Launch) (D : va_G) (cI cZ cR : ClassId) (ad_u : Nat → Nat) (sz : Nat) (u_least : Nat → Int32) (u_greatest : Nat → Int32) (u_sights : Int32) (v1 : Int32) (post : Int32 → Prop) (h : wp_X3_greatestOf u_greatest v1 post) : Met l yX3_greatestOf wsX3_greatestOf ({ frames := 0, cells := 0, slots := 0, locals := 0 }) (gPc D (gT cI cZ cR) (w_U cI cZ cR ad_u u_least u_greatest u_sights) sz [.ref (ad_u 0), .int v1]) (va_Qi (fun (r : Int32) (u : Unit) => post r ) (fun u t => gB D (gT cI cZ cR) (va_A (w_U cI cZ cR ad_u u_least u_greatest u_sights) sz) (w_U cI cZ cR ad_u u_least u_greatest u_sights) t) (va_A (w_U cI cZ cR ad_u u_least u_greatest u_sights) sz)) 0 0 (va_A (w_U cI cZ cR ad_u u_least u_greatest u_sights) sz) := by
  refine gl_entry (cc := cX3_greatestOf) (maxL := 2) (ret := (some .int)) (by decide) rfl (Nat.le_of_ble_eq_true rfl) ?_
  intro p e s m below meth c ls G hin hsz hK hN hP hD hl
  subst hsz
  exact ml_X3_greatestOf_0 G hK hN (fun q h => Or.inr h) u_greatest v1 post h s.heap [] hP hD va_S.rf ls hl
def wl_X3_notBehind_g_5 (u_least : Nat → Int32) (u_greatest : Nat → Int32) (v2 : Int32) (post : Int32 → Prop) : Nat → (Int32) → (Int32) → Prop
  | 0, _, _ => False
  | fu + 1, v3, v4 => ((24 ≤ v4 → post v3 ) ∧ (¬ 24 ≤ v4 → (wp_X3_canBe u_least u_greatest v4 (fun (r1 : Int32) => ((r1 = 0 → wl_X3_notBehind_g_5 u_least u_greatest v2 post fu v3 (v4 + 1)) ∧ (¬ r1 = 0 → (vp_in v4 24 ∧ ((v2 < (u_greatest v4.toNatClampNeg) → wl_X3_notBehind_g_5 u_least u_greatest v2 post fu v3 (v4 + 1)) ∧ (¬ v2 < (u_greatest v4.toNatClampNeg) → (∀ z2 : Int32, z2 = v3 ||| (1 <<< (v4 &&& 31)) → wl_X3_notBehind_g_5 u_least u_greatest v2 post fu z2 (v4 + 1)))))))))))
def wp_X3_notBehind_g (u_least : Nat → Int32) (u_greatest : Nat → Int32) (v2 : Int32) (post : Int32 → Prop) : Prop := (∃ n, wl_X3_notBehind_g_5 u_least u_greatest v2 post n 0 0)
set_option maxRecDepth 100000 in
set_option maxHeartbeats 4000000 in
theorem ml_X3_notBehind_g_5 {p : Program} {l : Launch} {e : Env} {s : State} {m : MethodId} {args : Array Value} {below : List Frame} {meth : Method} {c : Code} {D : va_G} {cI cZ cR : ClassId} {A : Nat → Prop} {ad_u : Nat → Nat} {u_sights : Int32} (G : gG p s m args meth c cX3_notBehind (some .int) 5 RX3 wsX3_notBehind) (hK : va_K D vwCl (gT cI cZ cR) s) (hN : va_Nw gN s) (hA : ∀ q, s.heap.size ≤ q → A q) (u_least : Nat → Int32) (u_greatest : Nat → Int32) (v2 : Int32) (post : Int32 → Prop) : ∀ (fu : Nat) (v3 : Int32) (v4 : Int32), wl_X3_notBehind_g_5 u_least u_greatest v2 post fu v3 v4 → ∀ (H : Heap) (locs : List Loc), va_P D vwCl (w_U cI cZ cR ad_u u_least u_greatest u_sights) H → va_D A (w_U cI cZ cR ad_u u_least u_greatest u_sights) → va_S A s.heap H locs → ∀ (ls : Array Slot), lv_has ls 5 [(0, .ref (ad_u 0)), (1, .ref (ad_u 2)), (2, .int v2), (3, .int v3), (4, .int v4)] → W p l e { frames := 1, cells := 0, slots := 0, locals := 21 } s m args below meth c H locs 0 0 (MQ below (va_Qi (fun (r : Int32) (u : Unit) => post r ) (fun u t => gB D (gT cI cZ cR) A (w_U cI cZ cR ad_u u_least u_greatest u_sights) t) A) args s 0 0 A) (F0 m 5 ls []) := by
  obtain ⟨hx, hb, hr, hml, hown, hts, hlocks⟩ := id G
  intro fu
  induction fu with
  | zero =>
    intro v3 v4 h
    exact h.elim
  | succ fu ih =>
    intro v3 v4 h H locs hP hD hS ls hl
    rw [wl_X3_notBehind_g_5] at h
    refine lv_iload hx hb dX3_notBehind_5 (lv_at hl 4 rfl) ?_
    refine lv_bipush (v := 24) hx hb dX3_notBehind_7 (by decide) ?_
    refine lv_icmp_ge (tgt := 42) hx hb dX3_notBehind_9 (by decide) (fun hc => ?_) (fun hc => ?_)
    · have h := h.1 hc
      refine lv_iload_n hx hb dX3_notBehind_42 rfl (lv_at hl 3 rfl) ?_
      exact gl_ireti G hK (u := ()) hP hD hS h dX3_notBehind_43
    · have h := h.2 hc
      refine lv_aload_n hx hb dX3_notBehind_12 rfl (lv_at hl 0 rfl) ?_
      refine lv_iload hx hb dX3_notBehind_13 (lv_at hl 4 rfl) ?_
      refine gl_calliF (va_runV (As := [.int v4]) (rest := []) ⟨hx, hb, hml, hown, hts⟩ (mt_X3_canBe l D cI cZ cR ad_u H.size u_least u_greatest u_sights v4 _ h) (cwV 1 hts gX3_notBehind_X3_canBe rfl rfl rfl (by decide +kernel) ⟨Nat.le_of_ble_eq_true rfl, Nat.le_of_ble_eq_true rfl⟩) ⟨gl_blind, va_recv hK hP (ci := 3) (q0 := 0) rfl rfl, gl_pre hP hK hN hD⟩ rfl rfl hl.1 rfl (lv_room (Nat.le_of_ble_eq_true rfl)) dX3_notBehind_15 ⟨Nat.le_of_ble_eq_true rfl, Nat.le_of_ble_eq_true rfl⟩) hD hS hA (fun r1 u H locs h hP hD hS => ?_)
      try dsimp only at h
      refine lv_if_eq (tgt := 36) hx hb dX3_notBehind_18 (by decide) (fun hc => ?_) (fun hc => ?_)
      · have h := h.1 hc
        refine lv_iinc (v := v4 + 1) (lv' := [(4, .int (v4 + 1)), (0, .ref (ad_u 0)), (1, .ref (ad_u 2)), (2, .int v2), (3, .int v3)]) hx hb dX3_notBehind_36 hl (k := 4) rfl rfl (by decide) rfl (fun ls hl => ?_)
        refine lv_goto (tgt := 5) hx hb dX3_notBehind_39 (by decide) ?_
        exact ih v3 (v4 + 1) h H locs hP hD hS ls (lv_sub hl [1, 2, 3, 4, 0] rfl)
      · have h := h.2 hc
        refine lv_aload_n hx hb dX3_notBehind_21 rfl (lv_at hl 1 rfl) ?_
        refine lv_iload hx hb dX3_notBehind_22 (lv_at hl 4 rfl) ?_
        obtain ⟨hin, h⟩ := h
        refine va_iald hx hb hK hP 2 0 rfl rfl hin dX3_notBehind_24 ?_
        refine lv_iload_n hx hb dX3_notBehind_25 rfl (lv_at hl 2 rfl) ?_
        refine lv_icmp_gt (tgt := 36) hx hb dX3_notBehind_26 (by decide) (fun hc => ?_) (fun hc => ?_)
        · have h := h.1 hc
          refine lv_iinc (v := v4 + 1) (lv' := [(4, .int (v4 + 1)), (0, .ref (ad_u 0)), (1, .ref (ad_u 2)), (2, .int v2), (3, .int v3)]) hx hb dX3_notBehind_36 hl (k := 4) rfl rfl (by decide) rfl (fun ls hl => ?_)
          refine lv_goto (tgt := 5) hx hb dX3_notBehind_39 (by decide) ?_
          exact ih v3 (v4 + 1) h H locs hP hD hS ls (lv_sub hl [1, 2, 3, 4, 0] rfl)
        · have h := h.2 hc
          refine lv_iload_n hx hb dX3_notBehind_29 rfl (lv_at hl 3 rfl) ?_
          refine lv_iconst (v := 1) hx hb dX3_notBehind_30 (by decide) ?_
          refine lv_iload hx hb dX3_notBehind_31 (lv_at hl 4 rfl) ?_
          refine lv_ishl hx hb dX3_notBehind_33 ?_
          refine lv_ior hx hb dX3_notBehind_34 ?_
          refine lv_topi (fun z2 ez2 => ?_)
          have h := h z2 ez2
          refine lv_istore_n (lv' := [(3, .int z2), (0, .ref (ad_u 0)), (1, .ref (ad_u 2)), (2, .int v2), (4, .int v4)]) hx hb dX3_notBehind_35 rfl hl (by decide) rfl (fun ls hl => ?_)
          refine lv_iinc (v := v4 + 1) (lv' := [(4, .int (v4 + 1)), (3, .int z2), (0, .ref (ad_u 0)), (1, .ref (ad_u 2)), (2, .int v2)]) hx hb dX3_notBehind_36 hl (k := 4) rfl rfl (by decide) rfl (fun ls hl => ?_)
          refine lv_goto (tgt := 5) hx hb dX3_notBehind_39 (by decide) ?_
          exact ih z2 (v4 + 1) h H locs hP hD hS ls (lv_sub hl [2, 3, 4, 1, 0] rfl)
set_option maxRecDepth 100000 in
set_option maxHeartbeats 4000000 in
theorem ml_X3_notBehind_g_0 {p : Program} {l : Launch} {e : Env} {s : State} {m : MethodId} {args : Array Value} {below : List Frame} {meth : Method} {c : Code} {D : va_G} {cI cZ cR : ClassId} {A : Nat → Prop} {ad_u : Nat → Nat} {u_sights : Int32} (G : gG p s m args meth c cX3_notBehind (some .int) 5 RX3 wsX3_notBehind) (hK : va_K D vwCl (gT cI cZ cR) s) (hN : va_Nw gN s) (hA : ∀ q, s.heap.size ≤ q → A q) (u_least : Nat → Int32) (u_greatest : Nat → Int32) (v2 : Int32) (post : Int32 → Prop)  (h : wp_X3_notBehind_g u_least u_greatest v2 post) : ∀ (H : Heap) (locs : List Loc), va_P D vwCl (w_U cI cZ cR ad_u u_least u_greatest u_sights) H → va_D A (w_U cI cZ cR ad_u u_least u_greatest u_sights) → va_S A s.heap H locs → ∀ (ls : Array Slot), lv_has ls 5 [(0, .ref (ad_u 0)), (1, .ref (ad_u 2)), (2, .int v2)] → W p l e { frames := 1, cells := 0, slots := 0, locals := 21 } s m args below meth c H locs 0 0 (MQ below (va_Qi (fun (r : Int32) (u : Unit) => post r ) (fun u t => gB D (gT cI cZ cR) A (w_U cI cZ cR ad_u u_least u_greatest u_sights) t) A) args s 0 0 A) (F0 m 0 ls []) := by
  obtain ⟨hx, hb, hr, hml, hown, hts, hlocks⟩ := id G
  intro H locs hP hD hS ls hl
  unfold wp_X3_notBehind_g at h
  refine lv_iconst (v := 0) hx hb dX3_notBehind_0 (by decide) ?_
  refine lv_istore_n (lv' := [(3, .int 0), (0, .ref (ad_u 0)), (1, .ref (ad_u 2)), (2, .int v2)]) hx hb dX3_notBehind_1 rfl hl (by decide) rfl (fun ls hl => ?_)
  refine lv_iconst (v := 0) hx hb dX3_notBehind_2 (by decide) ?_
  refine lv_istore (lv' := [(4, .int 0), (3, .int 0), (0, .ref (ad_u 0)), (1, .ref (ad_u 2)), (2, .int v2)]) hx hb dX3_notBehind_3 hl (by decide) rfl (fun ls hl => ?_)
  obtain ⟨nf, h⟩ := h
  exact ml_X3_notBehind_g_5 G hK hN hA u_least u_greatest v2 post nf 0 0 h H locs hP hD hS ls (lv_sub hl [2, 3, 4, 1, 0] rfl)
set_option maxRecDepth 100000 in
theorem mt_X3_notBehind_g (l : Launch) (D : va_G) (cI cZ cR : ClassId) (ad_u : Nat → Nat) (sz : Nat) (u_least : Nat → Int32) (u_greatest : Nat → Int32) (u_sights : Int32) (v2 : Int32) (post : Int32 → Prop) (h : wp_X3_notBehind_g u_least u_greatest v2 post) : Met l yX3_notBehind wsX3_notBehind ({ frames := 1, cells := 0, slots := 0, locals := 21 }) (gPc D (gT cI cZ cR) (w_U cI cZ cR ad_u u_least u_greatest u_sights) sz [.ref (ad_u 0), .ref (ad_u 2), .int v2]) (va_Qi (fun (r : Int32) (u : Unit) => post r ) (fun u t => gB D (gT cI cZ cR) (va_A (w_U cI cZ cR ad_u u_least u_greatest u_sights) sz) (w_U cI cZ cR ad_u u_least u_greatest u_sights) t) (va_A (w_U cI cZ cR ad_u u_least u_greatest u_sights) sz)) 0 0 (va_A (w_U cI cZ cR ad_u u_least u_greatest u_sights) sz) := by
  refine gl_entry (cc := cX3_notBehind) (maxL := 5) (ret := (some .int)) (by decide) rfl (Nat.le_of_ble_eq_true rfl) ?_
  intro p e s m below meth c ls G hin hsz hK hN hP hD hl
  subst hsz
  exact ml_X3_notBehind_g_0 G hK hN (fun q h => Or.inr h) u_least u_greatest v2 post h s.heap [] hP hD va_S.rf ls hl
def wl_X3_notBehind_l_5 (u_least : Nat → Int32) (u_greatest : Nat → Int32) (v2 : Int32) (post : Int32 → Prop) : Nat → (Int32) → (Int32) → Prop
  | 0, _, _ => False
  | fu + 1, v3, v4 => ((24 ≤ v4 → post v3 ) ∧ (¬ 24 ≤ v4 → (wp_X3_canBe u_least u_greatest v4 (fun (r1 : Int32) => ((r1 = 0 → wl_X3_notBehind_l_5 u_least u_greatest v2 post fu v3 (v4 + 1)) ∧ (¬ r1 = 0 → (vp_in v4 24 ∧ ((v2 < (u_least v4.toNatClampNeg) → wl_X3_notBehind_l_5 u_least u_greatest v2 post fu v3 (v4 + 1)) ∧ (¬ v2 < (u_least v4.toNatClampNeg) → (∀ z2 : Int32, z2 = v3 ||| (1 <<< (v4 &&& 31)) → wl_X3_notBehind_l_5 u_least u_greatest v2 post fu z2 (v4 + 1)))))))))))
def wp_X3_notBehind_l (u_least : Nat → Int32) (u_greatest : Nat → Int32) (v2 : Int32) (post : Int32 → Prop) : Prop := (∃ n, wl_X3_notBehind_l_5 u_least u_greatest v2 post n 0 0)
set_option maxRecDepth 100000 in
set_option maxHeartbeats 4000000 in
theorem ml_X3_notBehind_l_5 {p : Program} {l : Launch} {e : Env} {s : State} {m : MethodId} {args : Array Value} {below : List Frame} {meth : Method} {c : Code} {D : va_G} {cI cZ cR : ClassId} {A : Nat → Prop} {ad_u : Nat → Nat} {u_sights : Int32} (G : gG p s m args meth c cX3_notBehind (some .int) 5 RX3 wsX3_notBehind) (hK : va_K D vwCl (gT cI cZ cR) s) (hN : va_Nw gN s) (hA : ∀ q, s.heap.size ≤ q → A q) (u_least : Nat → Int32) (u_greatest : Nat → Int32) (v2 : Int32) (post : Int32 → Prop) : ∀ (fu : Nat) (v3 : Int32) (v4 : Int32), wl_X3_notBehind_l_5 u_least u_greatest v2 post fu v3 v4 → ∀ (H : Heap) (locs : List Loc), va_P D vwCl (w_U cI cZ cR ad_u u_least u_greatest u_sights) H → va_D A (w_U cI cZ cR ad_u u_least u_greatest u_sights) → va_S A s.heap H locs → ∀ (ls : Array Slot), lv_has ls 5 [(0, .ref (ad_u 0)), (1, .ref (ad_u 1)), (2, .int v2), (3, .int v3), (4, .int v4)] → W p l e { frames := 1, cells := 0, slots := 0, locals := 21 } s m args below meth c H locs 0 0 (MQ below (va_Qi (fun (r : Int32) (u : Unit) => post r ) (fun u t => gB D (gT cI cZ cR) A (w_U cI cZ cR ad_u u_least u_greatest u_sights) t) A) args s 0 0 A) (F0 m 5 ls []) := by
  obtain ⟨hx, hb, hr, hml, hown, hts, hlocks⟩ := id G
  intro fu
  induction fu with
  | zero =>
    intro v3 v4 h
    exact h.elim
  | succ fu ih =>
    intro v3 v4 h H locs hP hD hS ls hl
    rw [wl_X3_notBehind_l_5] at h
    refine lv_iload hx hb dX3_notBehind_5 (lv_at hl 4 rfl) ?_
    refine lv_bipush (v := 24) hx hb dX3_notBehind_7 (by decide) ?_
    refine lv_icmp_ge (tgt := 42) hx hb dX3_notBehind_9 (by decide) (fun hc => ?_) (fun hc => ?_)
    · have h := h.1 hc
      refine lv_iload_n hx hb dX3_notBehind_42 rfl (lv_at hl 3 rfl) ?_
      exact gl_ireti G hK (u := ()) hP hD hS h dX3_notBehind_43
    · have h := h.2 hc
      refine lv_aload_n hx hb dX3_notBehind_12 rfl (lv_at hl 0 rfl) ?_
      refine lv_iload hx hb dX3_notBehind_13 (lv_at hl 4 rfl) ?_
      refine gl_calliF (va_runV (As := [.int v4]) (rest := []) ⟨hx, hb, hml, hown, hts⟩ (mt_X3_canBe l D cI cZ cR ad_u H.size u_least u_greatest u_sights v4 _ h) (cwV 1 hts gX3_notBehind_X3_canBe rfl rfl rfl (by decide +kernel) ⟨Nat.le_of_ble_eq_true rfl, Nat.le_of_ble_eq_true rfl⟩) ⟨gl_blind, va_recv hK hP (ci := 3) (q0 := 0) rfl rfl, gl_pre hP hK hN hD⟩ rfl rfl hl.1 rfl (lv_room (Nat.le_of_ble_eq_true rfl)) dX3_notBehind_15 ⟨Nat.le_of_ble_eq_true rfl, Nat.le_of_ble_eq_true rfl⟩) hD hS hA (fun r1 u H locs h hP hD hS => ?_)
      try dsimp only at h
      refine lv_if_eq (tgt := 36) hx hb dX3_notBehind_18 (by decide) (fun hc => ?_) (fun hc => ?_)
      · have h := h.1 hc
        refine lv_iinc (v := v4 + 1) (lv' := [(4, .int (v4 + 1)), (0, .ref (ad_u 0)), (1, .ref (ad_u 1)), (2, .int v2), (3, .int v3)]) hx hb dX3_notBehind_36 hl (k := 4) rfl rfl (by decide) rfl (fun ls hl => ?_)
        refine lv_goto (tgt := 5) hx hb dX3_notBehind_39 (by decide) ?_
        exact ih v3 (v4 + 1) h H locs hP hD hS ls (lv_sub hl [1, 2, 3, 4, 0] rfl)
      · have h := h.2 hc
        refine lv_aload_n hx hb dX3_notBehind_21 rfl (lv_at hl 1 rfl) ?_
        refine lv_iload hx hb dX3_notBehind_22 (lv_at hl 4 rfl) ?_
        obtain ⟨hin, h⟩ := h
        refine va_iald hx hb hK hP 1 0 rfl rfl hin dX3_notBehind_24 ?_
        refine lv_iload_n hx hb dX3_notBehind_25 rfl (lv_at hl 2 rfl) ?_
        refine lv_icmp_gt (tgt := 36) hx hb dX3_notBehind_26 (by decide) (fun hc => ?_) (fun hc => ?_)
        · have h := h.1 hc
          refine lv_iinc (v := v4 + 1) (lv' := [(4, .int (v4 + 1)), (0, .ref (ad_u 0)), (1, .ref (ad_u 1)), (2, .int v2), (3, .int v3)]) hx hb dX3_notBehind_36 hl (k := 4) rfl rfl (by decide) rfl (fun ls hl => ?_)
          refine lv_goto (tgt := 5) hx hb dX3_notBehind_39 (by decide) ?_
          exact ih v3 (v4 + 1) h H locs hP hD hS ls (lv_sub hl [1, 2, 3, 4, 0] rfl)
        · have h := h.2 hc
          refine lv_iload_n hx hb dX3_notBehind_29 rfl (lv_at hl 3 rfl) ?_
          refine lv_iconst (v := 1) hx hb dX3_notBehind_30 (by decide) ?_
          refine lv_iload hx hb dX3_notBehind_31 (lv_at hl 4 rfl) ?_
          refine lv_ishl hx hb dX3_notBehind_33 ?_
          refine lv_ior hx hb dX3_notBehind_34 ?_
          refine lv_topi (fun z2 ez2 => ?_)
          have h := h z2 ez2
          refine lv_istore_n (lv' := [(3, .int z2), (0, .ref (ad_u 0)), (1, .ref (ad_u 1)), (2, .int v2), (4, .int v4)]) hx hb dX3_notBehind_35 rfl hl (by decide) rfl (fun ls hl => ?_)
          refine lv_iinc (v := v4 + 1) (lv' := [(4, .int (v4 + 1)), (3, .int z2), (0, .ref (ad_u 0)), (1, .ref (ad_u 1)), (2, .int v2)]) hx hb dX3_notBehind_36 hl (k := 4) rfl rfl (by decide) rfl (fun ls hl => ?_)
          refine lv_goto (tgt := 5) hx hb dX3_notBehind_39 (by decide) ?_
          exact ih z2 (v4 + 1) h H locs hP hD hS ls (lv_sub hl [2, 3, 4, 1, 0] rfl)
set_option maxRecDepth 100000 in
set_option maxHeartbeats 4000000 in
theorem ml_X3_notBehind_l_0 {p : Program} {l : Launch} {e : Env} {s : State} {m : MethodId} {args : Array Value} {below : List Frame} {meth : Method} {c : Code} {D : va_G} {cI cZ cR : ClassId} {A : Nat → Prop} {ad_u : Nat → Nat} {u_sights : Int32} (G : gG p s m args meth c cX3_notBehind (some .int) 5 RX3 wsX3_notBehind) (hK : va_K D vwCl (gT cI cZ cR) s) (hN : va_Nw gN s) (hA : ∀ q, s.heap.size ≤ q → A q) (u_least : Nat → Int32) (u_greatest : Nat → Int32) (v2 : Int32) (post : Int32 → Prop)  (h : wp_X3_notBehind_l u_least u_greatest v2 post) : ∀ (H : Heap) (locs : List Loc), va_P D vwCl (w_U cI cZ cR ad_u u_least u_greatest u_sights) H → va_D A (w_U cI cZ cR ad_u u_least u_greatest u_sights) → va_S A s.heap H locs → ∀ (ls : Array Slot), lv_has ls 5 [(0, .ref (ad_u 0)), (1, .ref (ad_u 1)), (2, .int v2)] → W p l e { frames := 1, cells := 0, slots := 0, locals := 21 } s m args below meth c H locs 0 0 (MQ below (va_Qi (fun (r : Int32) (u : Unit) => post r ) (fun u t => gB D (gT cI cZ cR) A (w_U cI cZ cR ad_u u_least u_greatest u_sights) t) A) args s 0 0 A) (F0 m 0 ls []) := by
  obtain ⟨hx, hb, hr, hml, hown, hts, hlocks⟩ := id G
  intro H locs hP hD hS ls hl
  unfold wp_X3_notBehind_l at h
  refine lv_iconst (v := 0) hx hb dX3_notBehind_0 (by decide) ?_
  refine lv_istore_n (lv' := [(3, .int 0), (0, .ref (ad_u 0)), (1, .ref (ad_u 1)), (2, .int v2)]) hx hb dX3_notBehind_1 rfl hl (by decide) rfl (fun ls hl => ?_)
  refine lv_iconst (v := 0) hx hb dX3_notBehind_2 (by decide) ?_
  refine lv_istore (lv' := [(4, .int 0), (3, .int 0), (0, .ref (ad_u 0)), (1, .ref (ad_u 1)), (2, .int v2)]) hx hb dX3_notBehind_3 hl (by decide) rfl (fun ls hl => ?_)
  obtain ⟨nf, h⟩ := h
  exact ml_X3_notBehind_l_5 G hK hN hA u_least u_greatest v2 post nf 0 0 h H locs hP hD hS ls (lv_sub hl [2, 3, 4, 1, 0] rfl)
set_option maxRecDepth 100000 in
theorem mt_X3_notBehind_l (l : Launch) (D : va_G) (cI cZ cR : ClassId) (ad_u : Nat → Nat) (sz : Nat) (u_least : Nat → Int32) (u_greatest : Nat → Int32) (u_sights : Int32) (v2 : Int32) (post : Int32 → Prop) (h : wp_X3_notBehind_l u_least u_greatest v2 post) : Met l yX3_notBehind wsX3_notBehind ({ frames := 1, cells := 0, slots := 0, locals := 21 }) (gPc D (gT cI cZ cR) (w_U cI cZ cR ad_u u_least u_greatest u_sights) sz [.ref (ad_u 0), .ref (ad_u 1), .int v2]) (va_Qi (fun (r : Int32) (u : Unit) => post r ) (fun u t => gB D (gT cI cZ cR) (va_A (w_U cI cZ cR ad_u u_least u_greatest u_sights) sz) (w_U cI cZ cR ad_u u_least u_greatest u_sights) t) (va_A (w_U cI cZ cR ad_u u_least u_greatest u_sights) sz)) 0 0 (va_A (w_U cI cZ cR ad_u u_least u_greatest u_sights) sz) := by
  refine gl_entry (cc := cX3_notBehind) (maxL := 5) (ret := (some .int)) (by decide) rfl (Nat.le_of_ble_eq_true rfl) ?_
  intro p e s m below meth c ls G hin hsz hK hN hP hD hl
  subst hsz
  exact ml_X3_notBehind_l_0 G hK hN (fun q h => Or.inr h) u_least u_greatest v2 post h s.heap [] hP hD va_S.rf ls hl
theorem lk_X3_surelyWornBy_0 : (Cond.fieldLink RX3 15 "RollHouse$Punches" "greatest" "[I") ∈ wsX3_surelyWornBy := by decide +kernel
theorem us_X3_surelyWornBy_X3 : ∀ w ∈ u_ws RX3 TX3 3, w ∈ wsX3_surelyWornBy := by decide +kernel
def wp_X3_surelyWornBy (u_least : Nat → Int32) (u_greatest : Nat → Int32) (v1 : Int32) (post : Int32 → Prop) : Prop := (wp_X3_notBehind_g u_least u_greatest v1 (fun (r1 : Int32) => post r1 ))
set_option maxRecDepth 100000 in
set_option maxHeartbeats 4000000 in
theorem ml_X3_surelyWornBy_0 {p : Program} {l : Launch} {e : Env} {s : State} {m : MethodId} {args : Array Value} {below : List Frame} {meth : Method} {c : Code} {D : va_G} {cI cZ cR : ClassId} {A : Nat → Prop} {ad_u : Nat → Nat} {u_sights : Int32} (G : gG p s m args meth c cX3_surelyWornBy (some .int) 2 RX3 wsX3_surelyWornBy) (hK : va_K D vwCl (gT cI cZ cR) s) (hN : va_Nw gN s) (hA : ∀ q, s.heap.size ≤ q → A q) (u_least : Nat → Int32) (u_greatest : Nat → Int32) (v1 : Int32) (post : Int32 → Prop)  (h : wp_X3_surelyWornBy u_least u_greatest v1 post) : ∀ (H : Heap) (locs : List Loc), va_P D vwCl (w_U cI cZ cR ad_u u_least u_greatest u_sights) H → va_D A (w_U cI cZ cR ad_u u_least u_greatest u_sights) → va_S A s.heap H locs → ∀ (ls : Array Slot), lv_has ls 2 [(0, .ref (ad_u 0)), (1, .int v1)] → W p l e { frames := 2, cells := 0, slots := 0, locals := 45 } s m args below meth c H locs 0 0 (MQ below (va_Qi (fun (r : Int32) (u : Unit) => post r ) (fun u t => gB D (gT cI cZ cR) A (w_U cI cZ cR ad_u u_least u_greatest u_sights) t) A) args s 0 0 A) (F0 m 0 ls []) := by
  obtain ⟨hx, hb, hr, hml, hown, hts, hlocks⟩ := id G
  intro H locs hP hD hS ls hl
  unfold wp_X3_surelyWornBy at h
  refine lv_aload_n hx hb dX3_surelyWornBy_0 rfl (lv_at hl 0 rfl) ?_
  refine lv_aload_n hx hb dX3_surelyWornBy_1 rfl (lv_at hl 0 rfl) ?_
  refine va_get (D := D) (ci := 3) (v := .ref (ad_u 2)) (C := RX3) (T := TX3) (N := 3) hx hb hts us_X3_surelyWornBy_X3 hown hK hP 0 rfl rfl 1 (by decide) (hts (.fieldLink RX3 15 "RollHouse$Punches" "greatest" "[I") lk_X3_surelyWornBy_0) (fun _ h9 => h9) rfl dX3_surelyWornBy_2 ?_
  refine lv_iload_n hx hb dX3_surelyWornBy_5 rfl (lv_at hl 1 rfl) ?_
  refine gl_calliF (va_runV (As := [.ref (ad_u 2), .int v1]) (rest := []) ⟨hx, hb, hml, hown, hts⟩ (mt_X3_notBehind_g l D cI cZ cR ad_u H.size u_least u_greatest u_sights v1 _ h) (cwV 2 hts gX3_surelyWornBy_X3_notBehind rfl rfl rfl (by decide +kernel) ⟨Nat.le_of_ble_eq_true rfl, Nat.le_of_ble_eq_true rfl⟩) ⟨gl_blind, va_recv hK hP (ci := 3) (q0 := 0) rfl rfl, gl_pre hP hK hN hD⟩ rfl rfl hl.1 rfl (lv_room (Nat.le_of_ble_eq_true rfl)) dX3_surelyWornBy_6 ⟨Nat.le_of_ble_eq_true rfl, Nat.le_of_ble_eq_true rfl⟩) hD hS hA (fun r1 u H locs h hP hD hS => ?_)
  try dsimp only at h
  exact gl_ireti G hK (u := ()) hP hD hS h dX3_surelyWornBy_9
set_option maxRecDepth 100000 in
theorem mt_X3_surelyWornBy (l : Launch) (D : va_G) (cI cZ cR : ClassId) (ad_u : Nat → Nat) (sz : Nat) (u_least : Nat → Int32) (u_greatest : Nat → Int32) (u_sights : Int32) (v1 : Int32) (post : Int32 → Prop) (h : wp_X3_surelyWornBy u_least u_greatest v1 post) : Met l yX3_surelyWornBy wsX3_surelyWornBy ({ frames := 2, cells := 0, slots := 0, locals := 45 }) (gPc D (gT cI cZ cR) (w_U cI cZ cR ad_u u_least u_greatest u_sights) sz [.ref (ad_u 0), .int v1]) (va_Qi (fun (r : Int32) (u : Unit) => post r ) (fun u t => gB D (gT cI cZ cR) (va_A (w_U cI cZ cR ad_u u_least u_greatest u_sights) sz) (w_U cI cZ cR ad_u u_least u_greatest u_sights) t) (va_A (w_U cI cZ cR ad_u u_least u_greatest u_sights) sz)) 0 0 (va_A (w_U cI cZ cR ad_u u_least u_greatest u_sights) sz) := by
  refine gl_entry (cc := cX3_surelyWornBy) (maxL := 2) (ret := (some .int)) (by decide) rfl (Nat.le_of_ble_eq_true rfl) ?_
  intro p e s m below meth c ls G hin hsz hK hN hP hD hl
  subst hsz
  exact ml_X3_surelyWornBy_0 G hK hN (fun q h => Or.inr h) u_least u_greatest v1 post h s.heap [] hP hD va_S.rf ls hl
theorem lk_X3_perhapsWornBy_0 : (Cond.fieldLink RX3 9 "RollHouse$Punches" "least" "[I") ∈ wsX3_perhapsWornBy := by decide +kernel
theorem us_X3_perhapsWornBy_X3 : ∀ w ∈ u_ws RX3 TX3 3, w ∈ wsX3_perhapsWornBy := by decide +kernel
def wp_X3_perhapsWornBy (u_least : Nat → Int32) (u_greatest : Nat → Int32) (v1 : Int32) (post : Int32 → Prop) : Prop := (wp_X3_notBehind_l u_least u_greatest v1 (fun (r1 : Int32) => post r1 ))
set_option maxRecDepth 100000 in
set_option maxHeartbeats 4000000 in
theorem ml_X3_perhapsWornBy_0 {p : Program} {l : Launch} {e : Env} {s : State} {m : MethodId} {args : Array Value} {below : List Frame} {meth : Method} {c : Code} {D : va_G} {cI cZ cR : ClassId} {A : Nat → Prop} {ad_u : Nat → Nat} {u_sights : Int32} (G : gG p s m args meth c cX3_perhapsWornBy (some .int) 2 RX3 wsX3_perhapsWornBy) (hK : va_K D vwCl (gT cI cZ cR) s) (hN : va_Nw gN s) (hA : ∀ q, s.heap.size ≤ q → A q) (u_least : Nat → Int32) (u_greatest : Nat → Int32) (v1 : Int32) (post : Int32 → Prop)  (h : wp_X3_perhapsWornBy u_least u_greatest v1 post) : ∀ (H : Heap) (locs : List Loc), va_P D vwCl (w_U cI cZ cR ad_u u_least u_greatest u_sights) H → va_D A (w_U cI cZ cR ad_u u_least u_greatest u_sights) → va_S A s.heap H locs → ∀ (ls : Array Slot), lv_has ls 2 [(0, .ref (ad_u 0)), (1, .int v1)] → W p l e { frames := 2, cells := 0, slots := 0, locals := 45 } s m args below meth c H locs 0 0 (MQ below (va_Qi (fun (r : Int32) (u : Unit) => post r ) (fun u t => gB D (gT cI cZ cR) A (w_U cI cZ cR ad_u u_least u_greatest u_sights) t) A) args s 0 0 A) (F0 m 0 ls []) := by
  obtain ⟨hx, hb, hr, hml, hown, hts, hlocks⟩ := id G
  intro H locs hP hD hS ls hl
  unfold wp_X3_perhapsWornBy at h
  refine lv_aload_n hx hb dX3_perhapsWornBy_0 rfl (lv_at hl 0 rfl) ?_
  refine lv_aload_n hx hb dX3_perhapsWornBy_1 rfl (lv_at hl 0 rfl) ?_
  refine va_get (D := D) (ci := 3) (v := .ref (ad_u 1)) (C := RX3) (T := TX3) (N := 3) hx hb hts us_X3_perhapsWornBy_X3 hown hK hP 0 rfl rfl 0 (by decide) (hts (.fieldLink RX3 9 "RollHouse$Punches" "least" "[I") lk_X3_perhapsWornBy_0) (fun _ h9 => h9) rfl dX3_perhapsWornBy_2 ?_
  refine lv_iload_n hx hb dX3_perhapsWornBy_5 rfl (lv_at hl 1 rfl) ?_
  refine gl_calliF (va_runV (As := [.ref (ad_u 1), .int v1]) (rest := []) ⟨hx, hb, hml, hown, hts⟩ (mt_X3_notBehind_l l D cI cZ cR ad_u H.size u_least u_greatest u_sights v1 _ h) (cwV 2 hts gX3_perhapsWornBy_X3_notBehind rfl rfl rfl (by decide +kernel) ⟨Nat.le_of_ble_eq_true rfl, Nat.le_of_ble_eq_true rfl⟩) ⟨gl_blind, va_recv hK hP (ci := 3) (q0 := 0) rfl rfl, gl_pre hP hK hN hD⟩ rfl rfl hl.1 rfl (lv_room (Nat.le_of_ble_eq_true rfl)) dX3_perhapsWornBy_6 ⟨Nat.le_of_ble_eq_true rfl, Nat.le_of_ble_eq_true rfl⟩) hD hS hA (fun r1 u H locs h hP hD hS => ?_)
  try dsimp only at h
  exact gl_ireti G hK (u := ()) hP hD hS h dX3_perhapsWornBy_9
set_option maxRecDepth 100000 in
theorem mt_X3_perhapsWornBy (l : Launch) (D : va_G) (cI cZ cR : ClassId) (ad_u : Nat → Nat) (sz : Nat) (u_least : Nat → Int32) (u_greatest : Nat → Int32) (u_sights : Int32) (v1 : Int32) (post : Int32 → Prop) (h : wp_X3_perhapsWornBy u_least u_greatest v1 post) : Met l yX3_perhapsWornBy wsX3_perhapsWornBy ({ frames := 2, cells := 0, slots := 0, locals := 45 }) (gPc D (gT cI cZ cR) (w_U cI cZ cR ad_u u_least u_greatest u_sights) sz [.ref (ad_u 0), .int v1]) (va_Qi (fun (r : Int32) (u : Unit) => post r ) (fun u t => gB D (gT cI cZ cR) (va_A (w_U cI cZ cR ad_u u_least u_greatest u_sights) sz) (w_U cI cZ cR ad_u u_least u_greatest u_sights) t) (va_A (w_U cI cZ cR ad_u u_least u_greatest u_sights) sz)) 0 0 (va_A (w_U cI cZ cR ad_u u_least u_greatest u_sights) sz) := by
  refine gl_entry (cc := cX3_perhapsWornBy) (maxL := 2) (ret := (some .int)) (by decide) rfl (Nat.le_of_ble_eq_true rfl) ?_
  intro p e s m below meth c ls G hin hsz hK hN hP hD hl
  subst hsz
  exact ml_X3_perhapsWornBy_0 G hK hN (fun q h => Or.inr h) u_least u_greatest v1 post h s.heap [] hP hD va_S.rf ls hl
