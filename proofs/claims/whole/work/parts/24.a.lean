theorem lk_X0_noteOfItem_0 : (Cond.fieldLink RX0 18 "RollHouse$Alignment" "noteOfItem" "[I") ∈ wsX0_noteOfItem := by decide +kernel
theorem us_X0_noteOfItem_X0 : ∀ w ∈ u_ws RX0 TX0 9, w ∈ wsX0_noteOfItem := by decide +kernel
def wp_X0_noteOfItem (a_noteOfItem : Nat → Int32) (v1 : Int32) (post : Int32 → Prop) : Prop := (vp_in v1 40 ∧ post (a_noteOfItem v1.toNatClampNeg) )
set_option maxRecDepth 100000 in
set_option maxHeartbeats 4000000 in
theorem ml_X0_noteOfItem_0 {p : Program} {l : Launch} {e : Env} {s : State} {m : MethodId} {args : Array Value} {below : List Frame} {meth : Method} {c : Code} {D : va_G} {cI cZ cR : ClassId} {A : Nat → Prop} {ad_a : Nat → Nat} {a_notePitches : Nat → Int32} {a_noteSteps : Nat → Int32} {a_restCost : Nat → Int32} {a_notes : Int32} {a_items : Int32} {a_pairs : Int32} {a_pitchesDiffer : Int32} {a_stepsDiffer : Int32} (G : gG p s m args meth c cX0_noteOfItem (some .int) 2 RX0 wsX0_noteOfItem) (hK : va_K D vwCl (gT cI cZ cR) s) (hN : va_Nw gN s) (hA : ∀ q, s.heap.size ≤ q → A q) (a_noteOfItem : Nat → Int32) (v1 : Int32) (post : Int32 → Prop)  (h : wp_X0_noteOfItem a_noteOfItem v1 post) : ∀ (H : Heap) (locs : List Loc), va_P D vwCl (w_A cI cZ cR ad_a a_notePitches a_noteSteps a_noteOfItem a_restCost a_notes a_items a_pairs a_pitchesDiffer a_stepsDiffer) H → va_D A (w_A cI cZ cR ad_a a_notePitches a_noteSteps a_noteOfItem a_restCost a_notes a_items a_pairs a_pitchesDiffer a_stepsDiffer) → va_S A s.heap H locs → ∀ (ls : Array Slot), lv_has ls 2 [(0, .ref (ad_a 0)), (1, .int v1)] → W p l e { frames := 0, cells := 0, slots := 0, locals := 0 } s m args below meth c H locs 0 0 (MQ below (va_Qi (fun (r : Int32) (u : Unit) => post r ) (fun u t => gB D (gT cI cZ cR) A (w_A cI cZ cR ad_a a_notePitches a_noteSteps a_noteOfItem a_restCost a_notes a_items a_pairs a_pitchesDiffer a_stepsDiffer) t) A) args s 0 0 A) (F0 m 0 ls []) := by
  obtain ⟨hx, hb, hr, hml, hown, hts, hlocks⟩ := id G
  intro H locs hP hD hS ls hl
  unfold wp_X0_noteOfItem at h
  refine lv_aload_n hx hb dX0_noteOfItem_0 rfl (lv_at hl 0 rfl) ?_
  refine va_get (D := D) (ci := 0) (v := .ref (ad_a 3)) (C := RX0) (T := TX0) (N := 9) hx hb hts us_X0_noteOfItem_X0 hown hK hP 0 rfl rfl 2 (by decide) (hts (.fieldLink RX0 18 "RollHouse$Alignment" "noteOfItem" "[I") lk_X0_noteOfItem_0) (fun _ h9 => h9) rfl dX0_noteOfItem_1 ?_
  refine lv_iload_n hx hb dX0_noteOfItem_4 rfl (lv_at hl 1 rfl) ?_
  obtain ⟨hin, h⟩ := h
  refine va_iald hx hb hK hP 3 0 rfl rfl hin dX0_noteOfItem_5 ?_
  exact gl_ireti G hK (u := ()) hP hD hS h dX0_noteOfItem_6
set_option maxRecDepth 100000 in
theorem mt_X0_noteOfItem (l : Launch) (D : va_G) (cI cZ cR : ClassId) (ad_a : Nat → Nat) (sz : Nat) (a_notePitches : Nat → Int32) (a_noteSteps : Nat → Int32) (a_noteOfItem : Nat → Int32) (a_restCost : Nat → Int32) (a_notes : Int32) (a_items : Int32) (a_pairs : Int32) (a_pitchesDiffer : Int32) (a_stepsDiffer : Int32) (v1 : Int32) (post : Int32 → Prop) (h : wp_X0_noteOfItem a_noteOfItem v1 post) : Met l yX0_noteOfItem wsX0_noteOfItem ({ frames := 0, cells := 0, slots := 0, locals := 0 }) (gPc D (gT cI cZ cR) (w_A cI cZ cR ad_a a_notePitches a_noteSteps a_noteOfItem a_restCost a_notes a_items a_pairs a_pitchesDiffer a_stepsDiffer) sz [.ref (ad_a 0), .int v1]) (va_Qi (fun (r : Int32) (u : Unit) => post r ) (fun u t => gB D (gT cI cZ cR) (va_A (w_A cI cZ cR ad_a a_notePitches a_noteSteps a_noteOfItem a_restCost a_notes a_items a_pairs a_pitchesDiffer a_stepsDiffer) sz) (w_A cI cZ cR ad_a a_notePitches a_noteSteps a_noteOfItem a_restCost a_notes a_items a_pairs a_pitchesDiffer a_stepsDiffer) t) (va_A (w_A cI cZ cR ad_a a_notePitches a_noteSteps a_noteOfItem a_restCost a_notes a_items a_pairs a_pitchesDiffer a_stepsDiffer) sz)) 0 0 (va_A (w_A cI cZ cR ad_a a_notePitches a_noteSteps a_noteOfItem a_restCost a_notes a_items a_pairs a_pitchesDiffer a_stepsDiffer) sz) := by
  refine gl_entry (cc := cX0_noteOfItem) (maxL := 2) (ret := (some .int)) (by decide) rfl (Nat.le_of_ble_eq_true rfl) ?_
  intro p e s m below meth c ls G hin hsz hK hN hP hD hl
  subst hsz
  exact ml_X0_noteOfItem_0 G hK hN (fun q h => Or.inr h) a_noteOfItem v1 post h s.heap [] hP hD va_S.rf ls hl
theorem lk_X0_figure_0 : (Cond.fieldLink RX0 21 "RollHouse$Alignment" "restCost" "[I") ∈ wsX0_figure := by decide +kernel
theorem lk_X0_figure_1 : (Cond.fieldLink RX0 56 "RollHouse$Alignment" "pairs" "I") ∈ wsX0_figure := by decide +kernel
theorem lk_X0_figure_2 : (Cond.fieldLink RX0 46 "RollHouse$Alignment" "items" "I") ∈ wsX0_figure := by decide +kernel
theorem lk_X0_figure_3 : (Cond.fieldLink RX0 30 "RollHouse$Alignment" "notes" "I") ∈ wsX0_figure := by decide +kernel
theorem lk_X0_figure_4 : (Cond.fieldLink RX0 59 "RollHouse$Alignment" "pitchesDiffer" "I") ∈ wsX0_figure := by decide +kernel
theorem lk_X0_figure_5 : (Cond.fieldLink RX0 62 "RollHouse$Alignment" "stepsDiffer" "I") ∈ wsX0_figure := by decide +kernel
theorem us_X0_figure_X0 : ∀ w ∈ u_ws RX0 TX0 9, w ∈ wsX0_figure := by decide +kernel
def wp_X0_figure (a_restCost : Nat → Int32) (a_notes : Int32) (a_items : Int32) (a_pairs : Int32) (a_pitchesDiffer : Int32) (a_stepsDiffer : Int32) (v1 : Int32) (post : Int32 → Prop) : Prop := ((v1 = 0 → (vp_in 0 2501 ∧ post (a_restCost (0 : Int32).toNatClampNeg) )) ∧ (¬ v1 = 0 → ((v1 = 1 → post a_pairs ) ∧ (¬ v1 = 1 → ((v1 = 2 → post (a_items - a_pairs) ) ∧ (¬ v1 = 2 → ((v1 = 3 → post (a_notes - a_pairs) ) ∧ (¬ v1 = 3 → ((v1 = 4 → post a_pitchesDiffer ) ∧ (¬ v1 = 4 → ((v1 = 5 → post a_stepsDiffer ) ∧ (¬ v1 = 5 → post (-1) ))))))))))))
set_option maxRecDepth 100000 in
set_option maxHeartbeats 4000000 in
theorem ml_X0_figure_0 {p : Program} {l : Launch} {e : Env} {s : State} {m : MethodId} {args : Array Value} {below : List Frame} {meth : Method} {c : Code} {D : va_G} {cI cZ cR : ClassId} {A : Nat → Prop} {ad_a : Nat → Nat} {a_notePitches : Nat → Int32} {a_noteSteps : Nat → Int32} {a_noteOfItem : Nat → Int32} (G : gG p s m args meth c cX0_figure (some .int) 2 RX0 wsX0_figure) (hK : va_K D vwCl (gT cI cZ cR) s) (hN : va_Nw gN s) (hA : ∀ q, s.heap.size ≤ q → A q) (a_restCost : Nat → Int32) (a_notes : Int32) (a_items : Int32) (a_pairs : Int32) (a_pitchesDiffer : Int32) (a_stepsDiffer : Int32) (v1 : Int32) (post : Int32 → Prop)  (h : wp_X0_figure a_restCost a_notes a_items a_pairs a_pitchesDiffer a_stepsDiffer v1 post) : ∀ (H : Heap) (locs : List Loc), va_P D vwCl (w_A cI cZ cR ad_a a_notePitches a_noteSteps a_noteOfItem a_restCost a_notes a_items a_pairs a_pitchesDiffer a_stepsDiffer) H → va_D A (w_A cI cZ cR ad_a a_notePitches a_noteSteps a_noteOfItem a_restCost a_notes a_items a_pairs a_pitchesDiffer a_stepsDiffer) → va_S A s.heap H locs → ∀ (ls : Array Slot), lv_has ls 2 [(0, .ref (ad_a 0)), (1, .int v1)] → W p l e { frames := 0, cells := 0, slots := 0, locals := 0 } s m args below meth c H locs 0 0 (MQ below (va_Qi (fun (r : Int32) (u : Unit) => post r ) (fun u t => gB D (gT cI cZ cR) A (w_A cI cZ cR ad_a a_notePitches a_noteSteps a_noteOfItem a_restCost a_notes a_items a_pairs a_pitchesDiffer a_stepsDiffer) t) A) args s 0 0 A) (F0 m 0 ls []) := by
  obtain ⟨hx, hb, hr, hml, hown, hts, hlocks⟩ := id G
  intro H locs hP hD hS ls hl
  unfold wp_X0_figure at h
  refine lv_iload_n hx hb dX0_figure_0 rfl (lv_at hl 1 rfl) ?_
  by_cases hc0 : v1 = 0
  · have h := h.1 hc0
    refine lv_tableIn (tgt := 40) hx hb dX0_figure_1 (by rw [hc0]; decide) (by rw [hc0]; decide) (by rw [hc0]; rfl) (by decide) ?_
    refine lv_aload_n hx hb dX0_figure_40 rfl (lv_at hl 0 rfl) ?_
    refine va_get (D := D) (ci := 0) (v := .ref (ad_a 4)) (C := RX0) (T := TX0) (N := 9) hx hb hts us_X0_figure_X0 hown hK hP 0 rfl rfl 3 (by decide) (hts (.fieldLink RX0 21 "RollHouse$Alignment" "restCost" "[I") lk_X0_figure_0) (fun _ h9 => h9) rfl dX0_figure_41 ?_
    refine lv_iconst (v := 0) hx hb dX0_figure_44 (by decide) ?_
    obtain ⟨hin, h⟩ := h
    refine va_iald hx hb hK hP 4 0 rfl rfl hin dX0_figure_45 ?_
    exact gl_ireti G hK (u := ()) hP hD hS h dX0_figure_46
  · have h := h.2 hc0
    by_cases hc1 : v1 = 1
    · have h := h.1 hc1
      refine lv_tableIn (tgt := 47) hx hb dX0_figure_1 (by rw [hc1]; decide) (by rw [hc1]; decide) (by rw [hc1]; rfl) (by decide) ?_
      refine lv_aload_n hx hb dX0_figure_47 rfl (lv_at hl 0 rfl) ?_
      refine va_get (D := D) (ci := 0) (v := .int a_pairs) (C := RX0) (T := TX0) (N := 9) hx hb hts us_X0_figure_X0 hown hK hP 0 rfl rfl 6 (by decide) (hts (.fieldLink RX0 56 "RollHouse$Alignment" "pairs" "I") lk_X0_figure_1) (fun _ h9 => h9) rfl dX0_figure_48 ?_
      exact gl_ireti G hK (u := ()) hP hD hS h dX0_figure_51
    · have h := h.2 hc1
      by_cases hc2 : v1 = 2
      · have h := h.1 hc2
        refine lv_tableIn (tgt := 52) hx hb dX0_figure_1 (by rw [hc2]; decide) (by rw [hc2]; decide) (by rw [hc2]; rfl) (by decide) ?_
        refine lv_aload_n hx hb dX0_figure_52 rfl (lv_at hl 0 rfl) ?_
        refine va_get (D := D) (ci := 0) (v := .int a_items) (C := RX0) (T := TX0) (N := 9) hx hb hts us_X0_figure_X0 hown hK hP 0 rfl rfl 5 (by decide) (hts (.fieldLink RX0 46 "RollHouse$Alignment" "items" "I") lk_X0_figure_2) (fun _ h9 => h9) rfl dX0_figure_53 ?_
        refine lv_aload_n hx hb dX0_figure_56 rfl (lv_at hl 0 rfl) ?_
        refine va_get (D := D) (ci := 0) (v := .int a_pairs) (C := RX0) (T := TX0) (N := 9) hx hb hts us_X0_figure_X0 hown hK hP 0 rfl rfl 6 (by decide) (hts (.fieldLink RX0 56 "RollHouse$Alignment" "pairs" "I") lk_X0_figure_1) (fun _ h9 => h9) rfl dX0_figure_57 ?_
        refine lv_isub hx hb dX0_figure_60 ?_
        exact gl_ireti G hK (u := ()) hP hD hS h dX0_figure_61
      · have h := h.2 hc2
        by_cases hc3 : v1 = 3
        · have h := h.1 hc3
          refine lv_tableIn (tgt := 62) hx hb dX0_figure_1 (by rw [hc3]; decide) (by rw [hc3]; decide) (by rw [hc3]; rfl) (by decide) ?_
          refine lv_aload_n hx hb dX0_figure_62 rfl (lv_at hl 0 rfl) ?_
          refine va_get (D := D) (ci := 0) (v := .int a_notes) (C := RX0) (T := TX0) (N := 9) hx hb hts us_X0_figure_X0 hown hK hP 0 rfl rfl 4 (by decide) (hts (.fieldLink RX0 30 "RollHouse$Alignment" "notes" "I") lk_X0_figure_3) (fun _ h9 => h9) rfl dX0_figure_63 ?_
          refine lv_aload_n hx hb dX0_figure_66 rfl (lv_at hl 0 rfl) ?_
          refine va_get (D := D) (ci := 0) (v := .int a_pairs) (C := RX0) (T := TX0) (N := 9) hx hb hts us_X0_figure_X0 hown hK hP 0 rfl rfl 6 (by decide) (hts (.fieldLink RX0 56 "RollHouse$Alignment" "pairs" "I") lk_X0_figure_1) (fun _ h9 => h9) rfl dX0_figure_67 ?_
          refine lv_isub hx hb dX0_figure_70 ?_
          exact gl_ireti G hK (u := ()) hP hD hS h dX0_figure_71
        · have h := h.2 hc3
          by_cases hc4 : v1 = 4
          · have h := h.1 hc4
            refine lv_tableIn (tgt := 72) hx hb dX0_figure_1 (by rw [hc4]; decide) (by rw [hc4]; decide) (by rw [hc4]; rfl) (by decide) ?_
            refine lv_aload_n hx hb dX0_figure_72 rfl (lv_at hl 0 rfl) ?_
            refine va_get (D := D) (ci := 0) (v := .int a_pitchesDiffer) (C := RX0) (T := TX0) (N := 9) hx hb hts us_X0_figure_X0 hown hK hP 0 rfl rfl 7 (by decide) (hts (.fieldLink RX0 59 "RollHouse$Alignment" "pitchesDiffer" "I") lk_X0_figure_4) (fun _ h9 => h9) rfl dX0_figure_73 ?_
            exact gl_ireti G hK (u := ()) hP hD hS h dX0_figure_76
          · have h := h.2 hc4
            by_cases hc5 : v1 = 5
            · have h := h.1 hc5
              refine lv_tableIn (tgt := 77) hx hb dX0_figure_1 (by rw [hc5]; decide) (by rw [hc5]; decide) (by rw [hc5]; rfl) (by decide) ?_
              refine lv_aload_n hx hb dX0_figure_77 rfl (lv_at hl 0 rfl) ?_
              refine va_get (D := D) (ci := 0) (v := .int a_stepsDiffer) (C := RX0) (T := TX0) (N := 9) hx hb hts us_X0_figure_X0 hown hK hP 0 rfl rfl 8 (by decide) (hts (.fieldLink RX0 62 "RollHouse$Alignment" "stepsDiffer" "I") lk_X0_figure_5) (fun _ h9 => h9) rfl dX0_figure_78 ?_
              exact gl_ireti G hK (u := ()) hP hD hS h dX0_figure_81
            · have h := h.2 hc5
              refine lv_tableOut (tgt := 82) hx hb dX0_figure_1 (gl_sw (n := 5) (by decide) (fun k hk => by match k, hk with | 0, _ => exact hc0 | 1, _ => exact hc1 | 2, _ => exact hc2 | 3, _ => exact hc3 | 4, _ => exact hc4 | 5, _ => exact hc5)) (by decide) ?_
              refine lv_iconst (v := (-1)) hx hb dX0_figure_82 (by decide) ?_
              exact gl_ireti G hK (u := ()) hP hD hS h dX0_figure_83
set_option maxRecDepth 100000 in
theorem mt_X0_figure (l : Launch) (D : va_G) (cI cZ cR : ClassId) (ad_a : Nat → Nat) (sz : Nat) (a_notePitches : Nat → Int32) (a_noteSteps : Nat → Int32) (a_noteOfItem : Nat → Int32) (a_restCost : Nat → Int32) (a_notes : Int32) (a_items : Int32) (a_pairs : Int32) (a_pitchesDiffer : Int32) (a_stepsDiffer : Int32) (v1 : Int32) (post : Int32 → Prop) (h : wp_X0_figure a_restCost a_notes a_items a_pairs a_pitchesDiffer a_stepsDiffer v1 post) : Met l yX0_figure wsX0_figure ({ frames := 0, cells := 0, slots := 0, locals := 0 }) (gPc D (gT cI cZ cR) (w_A cI cZ cR ad_a a_notePitches a_noteSteps a_noteOfItem a_restCost a_notes a_items a_pairs a_pitchesDiffer a_stepsDiffer) sz [.ref (ad_a 0), .int v1]) (va_Qi (fun (r : Int32) (u : Unit) => post r ) (fun u t => gB D (gT cI cZ cR) (va_A (w_A cI cZ cR ad_a a_notePitches a_noteSteps a_noteOfItem a_restCost a_notes a_items a_pairs a_pitchesDiffer a_stepsDiffer) sz) (w_A cI cZ cR ad_a a_notePitches a_noteSteps a_noteOfItem a_restCost a_notes a_items a_pairs a_pitchesDiffer a_stepsDiffer) t) (va_A (w_A cI cZ cR ad_a a_notePitches a_noteSteps a_noteOfItem a_restCost a_notes a_items a_pairs a_pitchesDiffer a_stepsDiffer) sz)) 0 0 (va_A (w_A cI cZ cR ad_a a_notePitches a_noteSteps a_noteOfItem a_restCost a_notes a_items a_pairs a_pitchesDiffer a_stepsDiffer) sz) := by
  refine gl_entry (cc := cX0_figure) (maxL := 2) (ret := (some .int)) (by decide) rfl (Nat.le_of_ble_eq_true rfl) ?_
  intro p e s m below meth c ls G hin hsz hK hN hP hD hl
  subst hsz
  exact ml_X0_figure_0 G hK hN (fun q h => Or.inr h) a_restCost a_notes a_items a_pairs a_pitchesDiffer a_stepsDiffer v1 post h s.heap [] hP hD va_S.rf ls hl
theorem lk_X0_costFromPair_0 : (Cond.fieldLink RX0 9 "RollHouse$Alignment" "notePitches" "[I") ∈ wsX0_costFromPair := by decide +kernel
theorem lk_X0_costFromPair_1 : (Cond.methodLink RX0 83 Lib.Math.abs.name) ∈ wsX0_costFromPair := by decide +kernel
theorem lk_X0_costFromPair_2 : (Cond.static Lib.Math.abs.name) ∈ wsX0_costFromPair := by decide +kernel
theorem lk_X0_costFromPair_3 : (Cond.initialized "java/lang/Math") ∈ wsX0_costFromPair := by decide +kernel
theorem lk_X0_costFromPair_4 : (Cond.code Lib.Math.abs.name Lib.Math.abs.code 1 (some .int)) ∈ wsX0_costFromPair := by decide +kernel
theorem lk_X0_costFromPair_5 : (Cond.fieldLink RX0 15 "RollHouse$Alignment" "noteSteps" "[I") ∈ wsX0_costFromPair := by decide +kernel
theorem lk_X0_costFromPair_6 : (Cond.methodLink RX0 74 Lib.Math.min.name) ∈ wsX0_costFromPair := by decide +kernel
theorem lk_X0_costFromPair_7 : (Cond.static Lib.Math.min.name) ∈ wsX0_costFromPair := by decide +kernel
theorem lk_X0_costFromPair_8 : (Cond.code Lib.Math.min.name Lib.Math.min.code 2 (some .int)) ∈ wsX0_costFromPair := by decide +kernel
theorem lk_X0_costFromPair_9 : (Cond.fieldLink RX0 21 "RollHouse$Alignment" "restCost" "[I") ∈ wsX0_costFromPair := by decide +kernel
theorem us_X0_costFromPair_X0 : ∀ w ∈ u_ws RX0 TX0 9, w ∈ wsX0_costFromPair := by decide +kernel
def wp_X0_costFromPair (a_notePitches : Nat → Int32) (a_noteSteps : Nat → Int32) (a_restCost : Nat → Int32) (c_pitches : Nat → Int32) (c_steps : Nat → Int32) (v1 : Int32) (v2 : Int32) (post : Int32 → Prop) : Prop := (vp_in v1 60 ∧ (wp_X5_pitchOf c_pitches v2 (fun (r1 : Int32) => (∀ z2 : Int32, z2 = (if 0 ≤ ((a_notePitches v1.toNatClampNeg) - r1) then ((a_notePitches v1.toNatClampNeg) - r1) else 0 - ((a_notePitches v1.toNatClampNeg) - r1)) → (∀ z3 : Int32, z3 = 2 * z2 → (vp_in v1 60 ∧ (wp_X5_stepOf c_steps v2 (fun (r4 : Int32) => (∀ z5 : Int32, z5 = (if 0 ≤ ((a_noteSteps v1.toNatClampNeg) - r4) then ((a_noteSteps v1.toNatClampNeg) - r4) else 0 - ((a_noteSteps v1.toNatClampNeg) - r4)) → (∀ z6 : Int32, z6 = (if z5 < 4 then z5 else 4) → (vp_in ((((v1 + 1) * 41) + v2) + 1) 2501 ∧ (∀ z7 : Int32, z7 = (z3 + z6) + (a_restCost ((((v1 + 1) * 41) + v2) + 1).toNatClampNeg) → post z7 ))))))))))))
set_option maxRecDepth 100000 in
set_option maxHeartbeats 4000000 in
theorem ml_X0_costFromPair_0 {p : Program} {l : Launch} {e : Env} {s : State} {m : MethodId} {args : Array Value} {below : List Frame} {meth : Method} {c : Code} {D : va_G} {cI cZ cR : ClassId} {A : Nat → Prop} {ad_a : Nat → Nat} {ad_c : Nat → Nat} {a_noteOfItem : Nat → Int32} {a_notes : Int32} {a_items : Int32} {a_pairs : Int32} {a_pitchesDiffer : Int32} {a_stepsDiffer : Int32} {c_size : Int32} (G : gG p s m args meth c cX0_costFromPair (some .int) 6 RX0 wsX0_costFromPair) (hK : va_K D vwCl (gT cI cZ cR) s) (hN : va_Nw gN s) (hA : ∀ q, s.heap.size ≤ q → A q) (a_notePitches : Nat → Int32) (a_noteSteps : Nat → Int32) (a_restCost : Nat → Int32) (c_pitches : Nat → Int32) (c_steps : Nat → Int32) (v1 : Int32) (v2 : Int32) (post : Int32 → Prop)  (h : wp_X0_costFromPair a_notePitches a_noteSteps a_restCost c_pitches c_steps v1 v2 post) : ∀ (H : Heap) (locs : List Loc), va_P D vwCl (w_A cI cZ cR ad_a a_notePitches a_noteSteps a_noteOfItem a_restCost a_notes a_items a_pairs a_pitchesDiffer a_stepsDiffer ++ w_S cI cZ cR ad_c c_pitches c_steps c_size) H → va_D A (w_A cI cZ cR ad_a a_notePitches a_noteSteps a_noteOfItem a_restCost a_notes a_items a_pairs a_pitchesDiffer a_stepsDiffer ++ w_S cI cZ cR ad_c c_pitches c_steps c_size) → va_S A s.heap H locs → ∀ (ls : Array Slot), lv_has ls 6 [(0, .ref (ad_a 0)), (1, .int v1), (2, .int v2), (3, .ref (ad_c 0))] → W p l e { frames := 1, cells := 0, slots := 0, locals := 21 } s m args below meth c H locs 0 0 (MQ below (va_Qi (fun (r : Int32) (u : Unit) => post r ) (fun u t => gB D (gT cI cZ cR) A (w_A cI cZ cR ad_a a_notePitches a_noteSteps a_noteOfItem a_restCost a_notes a_items a_pairs a_pitchesDiffer a_stepsDiffer ++ w_S cI cZ cR ad_c c_pitches c_steps c_size) t) A) args s 0 0 A) (F0 m 0 ls []) := by
  obtain ⟨hx, hb, hr, hml, hown, hts, hlocks⟩ := id G
  intro H locs hP hD hS ls hl
  unfold wp_X0_costFromPair at h
  refine lv_iconst (v := 2) hx hb dX0_costFromPair_0 (by decide) ?_
  refine lv_aload_n hx hb dX0_costFromPair_1 rfl (lv_at hl 0 rfl) ?_
  refine va_get (D := D) (ci := 0) (v := .ref (ad_a 1)) (C := RX0) (T := TX0) (N := 9) hx hb hts us_X0_costFromPair_X0 hown hK hP 0 rfl rfl 0 (by decide) (hts (.fieldLink RX0 9 "RollHouse$Alignment" "notePitches" "[I") lk_X0_costFromPair_0) (fun _ h9 => h9) rfl dX0_costFromPair_2 ?_
  refine lv_iload_n hx hb dX0_costFromPair_5 rfl (lv_at hl 1 rfl) ?_
  obtain ⟨hin, h⟩ := h
  refine va_iald hx hb hK hP 1 0 rfl rfl hin dX0_costFromPair_6 ?_
  refine lv_aload_n hx hb dX0_costFromPair_7 rfl (lv_at hl 3 rfl) ?_
  refine lv_iload_n hx hb dX0_costFromPair_8 rfl (lv_at hl 2 rfl) ?_
  have hPc := hP.sub (ws' := w_S cI cZ cR ad_c c_pitches c_steps c_size) [5, 6, 7] rfl
  have hDc := hD.sub (ws' := w_S cI cZ cR ad_c c_pitches c_steps c_size) [5, 6, 7] (by decide) rfl
  refine gl_calli (wr := w_A cI cZ cR ad_a a_notePitches a_noteSteps a_noteOfItem a_restCost a_notes a_items a_pairs a_pitchesDiffer a_stepsDiffer) (va_runV (As := [.int v2]) (rest := [.int (a_notePitches v1.toNatClampNeg), .int 2]) ⟨hx, hb, hml, hown, hts⟩ (mt_X5_pitchOf l D cI cZ cR ad_c H.size c_pitches c_steps c_size v2 _ h) (cwV 1 hts gX0_costFromPair_X5_pitchOf rfl rfl rfl (by decide +kernel) ⟨Nat.le_of_ble_eq_true rfl, Nat.le_of_ble_eq_true rfl⟩) ⟨gl_blind, va_recv hK hPc (ci := 5) (q0 := 0) rfl rfl, gl_pre hPc hK hN hDc⟩ rfl rfl hl.1 rfl (lv_room (Nat.le_of_ble_eq_true rfl)) dX0_costFromPair_9 ⟨Nat.le_of_ble_eq_true rfl, Nat.le_of_ble_eq_true rfl⟩) hP hD hS hA [5, 6, 7] [0, 1, 2, 3, 4] rfl rfl (by decide) (by decide) (fun r1 u H locs h hP hD hS => ?_)
  try dsimp only at h
  have hP := hP.sub (ws' := w_A cI cZ cR ad_a a_notePitches a_noteSteps a_noteOfItem a_restCost a_notes a_items a_pairs a_pitchesDiffer a_stepsDiffer ++ w_S cI cZ cR ad_c c_pitches c_steps c_size) [0, 1, 2, 3, 4, 5, 6, 7] rfl
  have hD := hD.sub (ws' := w_A cI cZ cR ad_a a_notePitches a_noteSteps a_noteOfItem a_restCost a_notes a_items a_pairs a_pitchesDiffer a_stepsDiffer ++ w_S cI cZ cR ad_c c_pitches c_steps c_size) [0, 1, 2, 3, 4, 5, 6, 7] (by decide) rfl
  refine lv_isub hx hb dX0_costFromPair_12 ?_
  refine va_mabs hx hb (hml.trans hl.1.symm) hown (hts (.methodLink RX0 83 Lib.Math.abs.name) lk_X0_costFromPair_1) (hts (.static Lib.Math.abs.name) lk_X0_costFromPair_2) (hts (.initialized "java/lang/Math") lk_X0_costFromPair_3) (hts (.code Lib.Math.abs.name Lib.Math.abs.code 1 (some .int)) lk_X0_costFromPair_4) (Nat.le_of_ble_eq_true rfl) (Nat.le_of_ble_eq_true rfl) (Nat.le_of_ble_eq_true rfl) (Nat.le_of_ble_eq_true rfl) dX0_costFromPair_13 ?_
  refine lv_topi (fun z2 ez2 => ?_)
  have h := h z2 ez2
  refine lv_imul hx hb dX0_costFromPair_16 ?_
  refine lv_topi (fun z3 ez3 => ?_)
  have h := h z3 ez3
  refine lv_istore (lv' := [(4, .int z3), (0, .ref (ad_a 0)), (1, .int v1), (2, .int v2), (3, .ref (ad_c 0))]) hx hb dX0_costFromPair_17 hl (by decide) rfl (fun ls hl => ?_)
  refine lv_iconst (v := 4) hx hb dX0_costFromPair_19 (by decide) ?_
  refine lv_aload_n hx hb dX0_costFromPair_20 rfl (lv_at hl 1 rfl) ?_
  refine va_get (D := D) (ci := 0) (v := .ref (ad_a 2)) (C := RX0) (T := TX0) (N := 9) hx hb hts us_X0_costFromPair_X0 hown hK hP 0 rfl rfl 1 (by decide) (hts (.fieldLink RX0 15 "RollHouse$Alignment" "noteSteps" "[I") lk_X0_costFromPair_5) (fun _ h9 => h9) rfl dX0_costFromPair_21 ?_
  refine lv_iload_n hx hb dX0_costFromPair_24 rfl (lv_at hl 2 rfl) ?_
  obtain ⟨hin, h⟩ := h
  refine va_iald hx hb hK hP 2 0 rfl rfl hin dX0_costFromPair_25 ?_
  refine lv_aload_n hx hb dX0_costFromPair_26 rfl (lv_at hl 4 rfl) ?_
  refine lv_iload_n hx hb dX0_costFromPair_27 rfl (lv_at hl 3 rfl) ?_
  have hPc := hP.sub (ws' := w_S cI cZ cR ad_c c_pitches c_steps c_size) [5, 6, 7] rfl
  have hDc := hD.sub (ws' := w_S cI cZ cR ad_c c_pitches c_steps c_size) [5, 6, 7] (by decide) rfl
  refine gl_calli (wr := w_A cI cZ cR ad_a a_notePitches a_noteSteps a_noteOfItem a_restCost a_notes a_items a_pairs a_pitchesDiffer a_stepsDiffer) (va_runV (As := [.int v2]) (rest := [.int (a_noteSteps v1.toNatClampNeg), .int 4]) ⟨hx, hb, hml, hown, hts⟩ (mt_X5_stepOf l D cI cZ cR ad_c H.size c_pitches c_steps c_size v2 _ h) (cwV 1 hts gX0_costFromPair_X5_stepOf rfl rfl rfl (by decide +kernel) ⟨Nat.le_of_ble_eq_true rfl, Nat.le_of_ble_eq_true rfl⟩) ⟨gl_blind, va_recv hK hPc (ci := 5) (q0 := 0) rfl rfl, gl_pre hPc hK hN hDc⟩ rfl rfl hl.1 rfl (lv_room (Nat.le_of_ble_eq_true rfl)) dX0_costFromPair_28 ⟨Nat.le_of_ble_eq_true rfl, Nat.le_of_ble_eq_true rfl⟩) hP hD hS hA [5, 6, 7] [0, 1, 2, 3, 4] rfl rfl (by decide) (by decide) (fun r4 u H locs h hP hD hS => ?_)
  try dsimp only at h
  have hP := hP.sub (ws' := w_A cI cZ cR ad_a a_notePitches a_noteSteps a_noteOfItem a_restCost a_notes a_items a_pairs a_pitchesDiffer a_stepsDiffer ++ w_S cI cZ cR ad_c c_pitches c_steps c_size) [0, 1, 2, 3, 4, 5, 6, 7] rfl
  have hD := hD.sub (ws' := w_A cI cZ cR ad_a a_notePitches a_noteSteps a_noteOfItem a_restCost a_notes a_items a_pairs a_pitchesDiffer a_stepsDiffer ++ w_S cI cZ cR ad_c c_pitches c_steps c_size) [0, 1, 2, 3, 4, 5, 6, 7] (by decide) rfl
  refine lv_isub hx hb dX0_costFromPair_31 ?_
  refine va_mabs hx hb (hml.trans hl.1.symm) hown (hts (.methodLink RX0 83 Lib.Math.abs.name) lk_X0_costFromPair_1) (hts (.static Lib.Math.abs.name) lk_X0_costFromPair_2) (hts (.initialized "java/lang/Math") lk_X0_costFromPair_3) (hts (.code Lib.Math.abs.name Lib.Math.abs.code 1 (some .int)) lk_X0_costFromPair_4) (Nat.le_of_ble_eq_true rfl) (Nat.le_of_ble_eq_true rfl) (Nat.le_of_ble_eq_true rfl) (Nat.le_of_ble_eq_true rfl) dX0_costFromPair_32 ?_
  refine lv_topi (fun z5 ez5 => ?_)
  have h := h z5 ez5
  refine va_mmin hx hb (hml.trans hl.1.symm) hown (hts (.methodLink RX0 74 Lib.Math.min.name) lk_X0_costFromPair_6) (hts (.static Lib.Math.min.name) lk_X0_costFromPair_7) (hts (.initialized "java/lang/Math") lk_X0_costFromPair_3) (hts (.code Lib.Math.min.name Lib.Math.min.code 2 (some .int)) lk_X0_costFromPair_8) (Nat.le_of_ble_eq_true rfl) (Nat.le_of_ble_eq_true rfl) (Nat.le_of_ble_eq_true rfl) (Nat.le_of_ble_eq_true rfl) dX0_costFromPair_35 ?_
  refine lv_topi (fun z6 ez6 => ?_)
  have h := h z6 ez6
  refine lv_istore (lv' := [(5, .int z6), (4, .int z3), (0, .ref (ad_a 0)), (1, .int v1), (2, .int v2), (3, .ref (ad_c 0))]) hx hb dX0_costFromPair_38 hl (by decide) rfl (fun ls hl => ?_)
  refine lv_iload hx hb dX0_costFromPair_40 (lv_at hl 1 rfl) ?_
  refine lv_iload hx hb dX0_costFromPair_42 (lv_at hl 0 rfl) ?_
  refine lv_iadd hx hb dX0_costFromPair_44 ?_
  refine lv_aload_n hx hb dX0_costFromPair_45 rfl (lv_at hl 2 rfl) ?_
  refine va_get (D := D) (ci := 0) (v := .ref (ad_a 4)) (C := RX0) (T := TX0) (N := 9) hx hb hts us_X0_costFromPair_X0 hown hK hP 0 rfl rfl 3 (by decide) (hts (.fieldLink RX0 21 "RollHouse$Alignment" "restCost" "[I") lk_X0_costFromPair_9) (fun _ h9 => h9) rfl dX0_costFromPair_46 ?_
  refine lv_iload_n hx hb dX0_costFromPair_49 rfl (lv_at hl 3 rfl) ?_
  refine lv_iconst (v := 1) hx hb dX0_costFromPair_50 (by decide) ?_
  refine lv_iadd hx hb dX0_costFromPair_51 ?_
  refine lv_bipush (v := 41) hx hb dX0_costFromPair_52 (by decide) ?_
  refine lv_imul hx hb dX0_costFromPair_54 ?_
  refine lv_iload_n hx hb dX0_costFromPair_55 rfl (lv_at hl 4 rfl) ?_
  refine lv_iadd hx hb dX0_costFromPair_56 ?_
  refine lv_iconst (v := 1) hx hb dX0_costFromPair_57 (by decide) ?_
  refine lv_iadd hx hb dX0_costFromPair_58 ?_
  obtain ⟨hin, h⟩ := h
  refine va_iald hx hb hK hP 4 0 rfl rfl hin dX0_costFromPair_59 ?_
  refine lv_iadd hx hb dX0_costFromPair_60 ?_
  refine lv_topi (fun z7 ez7 => ?_)
  have h := h z7 ez7
  exact gl_ireti G hK (u := ()) hP hD hS h dX0_costFromPair_61
set_option maxRecDepth 100000 in
theorem mt_X0_costFromPair (l : Launch) (D : va_G) (cI cZ cR : ClassId) (ad_a : Nat → Nat) (ad_c : Nat → Nat) (sz : Nat) (a_notePitches : Nat → Int32) (a_noteSteps : Nat → Int32) (a_noteOfItem : Nat → Int32) (a_restCost : Nat → Int32) (a_notes : Int32) (a_items : Int32) (a_pairs : Int32) (a_pitchesDiffer : Int32) (a_stepsDiffer : Int32) (c_pitches : Nat → Int32) (c_steps : Nat → Int32) (c_size : Int32) (v1 : Int32) (v2 : Int32) (post : Int32 → Prop) (h : wp_X0_costFromPair a_notePitches a_noteSteps a_restCost c_pitches c_steps v1 v2 post) : Met l yX0_costFromPair wsX0_costFromPair ({ frames := 1, cells := 0, slots := 0, locals := 21 }) (gPc D (gT cI cZ cR) (w_A cI cZ cR ad_a a_notePitches a_noteSteps a_noteOfItem a_restCost a_notes a_items a_pairs a_pitchesDiffer a_stepsDiffer ++ w_S cI cZ cR ad_c c_pitches c_steps c_size) sz [.ref (ad_a 0), .int v1, .int v2, .ref (ad_c 0)]) (va_Qi (fun (r : Int32) (u : Unit) => post r ) (fun u t => gB D (gT cI cZ cR) (va_A (w_A cI cZ cR ad_a a_notePitches a_noteSteps a_noteOfItem a_restCost a_notes a_items a_pairs a_pitchesDiffer a_stepsDiffer ++ w_S cI cZ cR ad_c c_pitches c_steps c_size) sz) (w_A cI cZ cR ad_a a_notePitches a_noteSteps a_noteOfItem a_restCost a_notes a_items a_pairs a_pitchesDiffer a_stepsDiffer ++ w_S cI cZ cR ad_c c_pitches c_steps c_size) t) (va_A (w_A cI cZ cR ad_a a_notePitches a_noteSteps a_noteOfItem a_restCost a_notes a_items a_pairs a_pitchesDiffer a_stepsDiffer ++ w_S cI cZ cR ad_c c_pitches c_steps c_size) sz)) 0 0 (va_A (w_A cI cZ cR ad_a a_notePitches a_noteSteps a_noteOfItem a_restCost a_notes a_items a_pairs a_pitchesDiffer a_stepsDiffer ++ w_S cI cZ cR ad_c c_pitches c_steps c_size) sz) := by
  refine gl_entry (cc := cX0_costFromPair) (maxL := 6) (ret := (some .int)) (by decide) rfl (Nat.le_of_ble_eq_true rfl) ?_
  intro p e s m below meth c ls G hin hsz hK hN hP hD hl
  subst hsz
  exact ml_X0_costFromPair_0 G hK hN (fun q h => Or.inr h) a_notePitches a_noteSteps a_restCost c_pitches c_steps v1 v2 post h s.heap [] hP hD va_S.rf ls hl
theorem lk_X0_leastFrom_0 : (Cond.fieldLink RX0 30 "RollHouse$Alignment" "notes" "I") ∈ wsX0_leastFrom := by decide +kernel
theorem lk_X0_leastFrom_1 : (Cond.fieldLink RX0 46 "RollHouse$Alignment" "items" "I") ∈ wsX0_leastFrom := by decide +kernel
theorem lk_X0_leastFrom_2 : (Cond.fieldLink RX0 21 "RollHouse$Alignment" "restCost" "[I") ∈ wsX0_leastFrom := by decide +kernel
theorem lk_X0_leastFrom_3 : (Cond.methodLink RX0 74 Lib.Math.min.name) ∈ wsX0_leastFrom := by decide +kernel
theorem lk_X0_leastFrom_4 : (Cond.static Lib.Math.min.name) ∈ wsX0_leastFrom := by decide +kernel
theorem lk_X0_leastFrom_5 : (Cond.initialized "java/lang/Math") ∈ wsX0_leastFrom := by decide +kernel
theorem lk_X0_leastFrom_6 : (Cond.code Lib.Math.min.name Lib.Math.min.code 2 (some .int)) ∈ wsX0_leastFrom := by decide +kernel
theorem us_X0_leastFrom_X0 : ∀ w ∈ u_ws RX0 TX0 9, w ∈ wsX0_leastFrom := by decide +kernel
def wp_X0_leastFrom (a_notePitches : Nat → Int32) (a_noteSteps : Nat → Int32) (a_restCost : Nat → Int32) (a_notes : Int32) (a_items : Int32) (c_pitches : Nat → Int32) (c_steps : Nat → Int32) (v1 : Int32) (v2 : Int32) (post : Int32 → Prop) : Prop := ((¬ v1 = a_notes → ((¬ v2 = a_items → (vp_in (((v1 * 41) + v2) + 1) 2501 ∧ (vp_in (((v1 + 1) * 41) + v2) 2501 ∧ (∀ z1 : Int32, z1 = (if (a_restCost (((v1 + 1) * 41) + v2).toNatClampNeg) < (a_restCost (((v1 * 41) + v2) + 1).toNatClampNeg) then (a_restCost (((v1 + 1) * 41) + v2).toNatClampNeg) else (a_restCost (((v1 * 41) + v2) + 1).toNatClampNeg)) → (wp_X0_costFromPair a_notePitches a_noteSteps a_restCost c_pitches c_steps v1 v2 (fun (r2 : Int32) => (∀ z3 : Int32, z3 = (if r2 < (5 + z1) then r2 else (5 + z1)) → post z3 ))))))) ∧ (v2 = a_items → post ((a_notes - v1) * 5) ))) ∧ (v1 = a_notes → post ((a_items - v2) * 5) ))
set_option maxRecDepth 100000 in
set_option maxHeartbeats 4000000 in
theorem ml_X0_leastFrom_0 {p : Program} {l : Launch} {e : Env} {s : State} {m : MethodId} {args : Array Value} {below : List Frame} {meth : Method} {c : Code} {D : va_G} {cI cZ cR : ClassId} {A : Nat → Prop} {ad_a : Nat → Nat} {ad_c : Nat → Nat} {a_noteOfItem : Nat → Int32} {a_pairs : Int32} {a_pitchesDiffer : Int32} {a_stepsDiffer : Int32} {c_size : Int32} (G : gG p s m args meth c cX0_leastFrom (some .int) 5 RX0 wsX0_leastFrom) (hK : va_K D vwCl (gT cI cZ cR) s) (hN : va_Nw gN s) (hA : ∀ q, s.heap.size ≤ q → A q) (a_notePitches : Nat → Int32) (a_noteSteps : Nat → Int32) (a_restCost : Nat → Int32) (a_notes : Int32) (a_items : Int32) (c_pitches : Nat → Int32) (c_steps : Nat → Int32) (v1 : Int32) (v2 : Int32) (post : Int32 → Prop)  (h : wp_X0_leastFrom a_notePitches a_noteSteps a_restCost a_notes a_items c_pitches c_steps v1 v2 post) : ∀ (H : Heap) (locs : List Loc), va_P D vwCl (w_A cI cZ cR ad_a a_notePitches a_noteSteps a_noteOfItem a_restCost a_notes a_items a_pairs a_pitchesDiffer a_stepsDiffer ++ w_S cI cZ cR ad_c c_pitches c_steps c_size) H → va_D A (w_A cI cZ cR ad_a a_notePitches a_noteSteps a_noteOfItem a_restCost a_notes a_items a_pairs a_pitchesDiffer a_stepsDiffer ++ w_S cI cZ cR ad_c c_pitches c_steps c_size) → va_S A s.heap H locs → ∀ (ls : Array Slot), lv_has ls 5 [(0, .ref (ad_a 0)), (1, .int v1), (2, .int v2), (3, .ref (ad_c 0))] → W p l e { frames := 2, cells := 0, slots := 0, locals := 46 } s m args below meth c H locs 0 0 (MQ below (va_Qi (fun (r : Int32) (u : Unit) => post r ) (fun u t => gB D (gT cI cZ cR) A (w_A cI cZ cR ad_a a_notePitches a_noteSteps a_noteOfItem a_restCost a_notes a_items a_pairs a_pitchesDiffer a_stepsDiffer ++ w_S cI cZ cR ad_c c_pitches c_steps c_size) t) A) args s 0 0 A) (F0 m 0 ls []) := by
  obtain ⟨hx, hb, hr, hml, hown, hts, hlocks⟩ := id G
  intro H locs hP hD hS ls hl
  unfold wp_X0_leastFrom at h
  refine lv_iload_n hx hb dX0_leastFrom_0 rfl (lv_at hl 1 rfl) ?_
  refine lv_aload_n hx hb dX0_leastFrom_1 rfl (lv_at hl 0 rfl) ?_
  refine va_get (D := D) (ci := 0) (v := .int a_notes) (C := RX0) (T := TX0) (N := 9) hx hb hts us_X0_leastFrom_X0 hown hK hP 0 rfl rfl 4 (by decide) (hts (.fieldLink RX0 30 "RollHouse$Alignment" "notes" "I") lk_X0_leastFrom_0) (fun _ h9 => h9) rfl dX0_leastFrom_2 ?_
  refine lv_icmp_ne (tgt := 17) hx hb dX0_leastFrom_5 (by decide) (fun hc => ?_) (fun hc => ?_)
  · have h := h.1 hc
    refine lv_iload_n hx hb dX0_leastFrom_17 rfl (lv_at hl 2 rfl) ?_
    refine lv_aload_n hx hb dX0_leastFrom_18 rfl (lv_at hl 0 rfl) ?_
    refine va_get (D := D) (ci := 0) (v := .int a_items) (C := RX0) (T := TX0) (N := 9) hx hb hts us_X0_leastFrom_X0 hown hK hP 0 rfl rfl 5 (by decide) (hts (.fieldLink RX0 46 "RollHouse$Alignment" "items" "I") lk_X0_leastFrom_1) (fun _ h9 => h9) rfl dX0_leastFrom_19 ?_
    refine lv_icmp_ne (tgt := 34) hx hb dX0_leastFrom_22 (by decide) (fun hc => ?_) (fun hc => ?_)
    · have h := h.1 hc
      refine lv_iconst (v := 5) hx hb dX0_leastFrom_34 (by decide) ?_
      refine lv_aload_n hx hb dX0_leastFrom_35 rfl (lv_at hl 0 rfl) ?_
      refine va_get (D := D) (ci := 0) (v := .ref (ad_a 4)) (C := RX0) (T := TX0) (N := 9) hx hb hts us_X0_leastFrom_X0 hown hK hP 0 rfl rfl 3 (by decide) (hts (.fieldLink RX0 21 "RollHouse$Alignment" "restCost" "[I") lk_X0_leastFrom_2) (fun _ h9 => h9) rfl dX0_leastFrom_36 ?_
      refine lv_iload_n hx hb dX0_leastFrom_39 rfl (lv_at hl 1 rfl) ?_
      refine lv_bipush (v := 41) hx hb dX0_leastFrom_40 (by decide) ?_
      refine lv_imul hx hb dX0_leastFrom_42 ?_
      refine lv_iload_n hx hb dX0_leastFrom_43 rfl (lv_at hl 2 rfl) ?_
      refine lv_iadd hx hb dX0_leastFrom_44 ?_
      refine lv_iconst (v := 1) hx hb dX0_leastFrom_45 (by decide) ?_
      refine lv_iadd hx hb dX0_leastFrom_46 ?_
      obtain ⟨hin, h⟩ := h
      refine va_iald hx hb hK hP 4 0 rfl rfl hin dX0_leastFrom_47 ?_
      refine lv_aload_n hx hb dX0_leastFrom_48 rfl (lv_at hl 0 rfl) ?_
      refine va_get (D := D) (ci := 0) (v := .ref (ad_a 4)) (C := RX0) (T := TX0) (N := 9) hx hb hts us_X0_leastFrom_X0 hown hK hP 0 rfl rfl 3 (by decide) (hts (.fieldLink RX0 21 "RollHouse$Alignment" "restCost" "[I") lk_X0_leastFrom_2) (fun _ h9 => h9) rfl dX0_leastFrom_49 ?_
      refine lv_iload_n hx hb dX0_leastFrom_52 rfl (lv_at hl 1 rfl) ?_
      refine lv_iconst (v := 1) hx hb dX0_leastFrom_53 (by decide) ?_
      refine lv_iadd hx hb dX0_leastFrom_54 ?_
      refine lv_bipush (v := 41) hx hb dX0_leastFrom_55 (by decide) ?_
      refine lv_imul hx hb dX0_leastFrom_57 ?_
      refine lv_iload_n hx hb dX0_leastFrom_58 rfl (lv_at hl 2 rfl) ?_
      refine lv_iadd hx hb dX0_leastFrom_59 ?_
      obtain ⟨hin, h⟩ := h
      refine va_iald hx hb hK hP 4 0 rfl rfl hin dX0_leastFrom_60 ?_
      refine va_mmin hx hb (hml.trans hl.1.symm) hown (hts (.methodLink RX0 74 Lib.Math.min.name) lk_X0_leastFrom_3) (hts (.static Lib.Math.min.name) lk_X0_leastFrom_4) (hts (.initialized "java/lang/Math") lk_X0_leastFrom_5) (hts (.code Lib.Math.min.name Lib.Math.min.code 2 (some .int)) lk_X0_leastFrom_6) (Nat.le_of_ble_eq_true rfl) (Nat.le_of_ble_eq_true rfl) (Nat.le_of_ble_eq_true rfl) (Nat.le_of_ble_eq_true rfl) dX0_leastFrom_61 ?_
      refine lv_topi (fun z1 ez1 => ?_)
      have h := h z1 ez1
      refine lv_iadd hx hb dX0_leastFrom_64 ?_
      refine lv_istore (lv' := [(4, .int (5 + z1)), (0, .ref (ad_a 0)), (1, .int v1), (2, .int v2), (3, .ref (ad_c 0))]) hx hb dX0_leastFrom_65 hl (by decide) rfl (fun ls hl => ?_)
      refine lv_iload hx hb dX0_leastFrom_67 (lv_at hl 0 rfl) ?_
      refine lv_aload_n hx hb dX0_leastFrom_69 rfl (lv_at hl 1 rfl) ?_
      refine lv_iload_n hx hb dX0_leastFrom_70 rfl (lv_at hl 2 rfl) ?_
      refine lv_iload_n hx hb dX0_leastFrom_71 rfl (lv_at hl 3 rfl) ?_
      refine lv_aload_n hx hb dX0_leastFrom_72 rfl (lv_at hl 4 rfl) ?_
      refine gl_calliF (va_runV (As := [.int v1, .int v2, .ref (ad_c 0)]) (rest := [.int (5 + z1)]) ⟨hx, hb, hml, hown, hts⟩ (mt_X0_costFromPair l D cI cZ cR ad_a ad_c H.size a_notePitches a_noteSteps a_noteOfItem a_restCost a_notes a_items a_pairs a_pitchesDiffer a_stepsDiffer c_pitches c_steps c_size v1 v2 _ h) (cwV 3 hts gX0_leastFrom_X0_costFromPair rfl rfl rfl (by decide +kernel) ⟨Nat.le_of_ble_eq_true rfl, Nat.le_of_ble_eq_true rfl⟩) ⟨gl_blind, va_recv hK hP (ci := 0) (q0 := 0) rfl rfl, gl_pre hP hK hN hD⟩ rfl rfl hl.1 rfl (lv_room (Nat.le_of_ble_eq_true rfl)) dX0_leastFrom_73 ⟨Nat.le_of_ble_eq_true rfl, Nat.le_of_ble_eq_true rfl⟩) hD hS hA (fun r2 u H locs h hP hD hS => ?_)
      try dsimp only at h
      refine va_mmin hx hb (hml.trans hl.1.symm) hown (hts (.methodLink RX0 74 Lib.Math.min.name) lk_X0_leastFrom_3) (hts (.static Lib.Math.min.name) lk_X0_leastFrom_4) (hts (.initialized "java/lang/Math") lk_X0_leastFrom_5) (hts (.code Lib.Math.min.name Lib.Math.min.code 2 (some .int)) lk_X0_leastFrom_6) (Nat.le_of_ble_eq_true rfl) (Nat.le_of_ble_eq_true rfl) (Nat.le_of_ble_eq_true rfl) (Nat.le_of_ble_eq_true rfl) dX0_leastFrom_76 ?_
      refine lv_topi (fun z3 ez3 => ?_)
      have h := h z3 ez3
      exact gl_ireti G hK (u := ()) hP hD hS h dX0_leastFrom_79
    · have h := h.2 hc
      refine lv_aload_n hx hb dX0_leastFrom_25 rfl (lv_at hl 0 rfl) ?_
      refine va_get (D := D) (ci := 0) (v := .int a_notes) (C := RX0) (T := TX0) (N := 9) hx hb hts us_X0_leastFrom_X0 hown hK hP 0 rfl rfl 4 (by decide) (hts (.fieldLink RX0 30 "RollHouse$Alignment" "notes" "I") lk_X0_leastFrom_0) (fun _ h9 => h9) rfl dX0_leastFrom_26 ?_
      refine lv_iload_n hx hb dX0_leastFrom_29 rfl (lv_at hl 1 rfl) ?_
      refine lv_isub hx hb dX0_leastFrom_30 ?_
      refine lv_iconst (v := 5) hx hb dX0_leastFrom_31 (by decide) ?_
      refine lv_imul hx hb dX0_leastFrom_32 ?_
      exact gl_ireti G hK (u := ()) hP hD hS h dX0_leastFrom_33
  · have h := h.2 hc
    refine lv_aload_n hx hb dX0_leastFrom_8 rfl (lv_at hl 0 rfl) ?_
    refine va_get (D := D) (ci := 0) (v := .int a_items) (C := RX0) (T := TX0) (N := 9) hx hb hts us_X0_leastFrom_X0 hown hK hP 0 rfl rfl 5 (by decide) (hts (.fieldLink RX0 46 "RollHouse$Alignment" "items" "I") lk_X0_leastFrom_1) (fun _ h9 => h9) rfl dX0_leastFrom_9 ?_
    refine lv_iload_n hx hb dX0_leastFrom_12 rfl (lv_at hl 2 rfl) ?_
    refine lv_isub hx hb dX0_leastFrom_13 ?_
    refine lv_iconst (v := 5) hx hb dX0_leastFrom_14 (by decide) ?_
    refine lv_imul hx hb dX0_leastFrom_15 ?_
    exact gl_ireti G hK (u := ()) hP hD hS h dX0_leastFrom_16
set_option maxRecDepth 100000 in
theorem mt_X0_leastFrom (l : Launch) (D : va_G) (cI cZ cR : ClassId) (ad_a : Nat → Nat) (ad_c : Nat → Nat) (sz : Nat) (a_notePitches : Nat → Int32) (a_noteSteps : Nat → Int32) (a_noteOfItem : Nat → Int32) (a_restCost : Nat → Int32) (a_notes : Int32) (a_items : Int32) (a_pairs : Int32) (a_pitchesDiffer : Int32) (a_stepsDiffer : Int32) (c_pitches : Nat → Int32) (c_steps : Nat → Int32) (c_size : Int32) (v1 : Int32) (v2 : Int32) (post : Int32 → Prop) (h : wp_X0_leastFrom a_notePitches a_noteSteps a_restCost a_notes a_items c_pitches c_steps v1 v2 post) : Met l yX0_leastFrom wsX0_leastFrom ({ frames := 2, cells := 0, slots := 0, locals := 46 }) (gPc D (gT cI cZ cR) (w_A cI cZ cR ad_a a_notePitches a_noteSteps a_noteOfItem a_restCost a_notes a_items a_pairs a_pitchesDiffer a_stepsDiffer ++ w_S cI cZ cR ad_c c_pitches c_steps c_size) sz [.ref (ad_a 0), .int v1, .int v2, .ref (ad_c 0)]) (va_Qi (fun (r : Int32) (u : Unit) => post r ) (fun u t => gB D (gT cI cZ cR) (va_A (w_A cI cZ cR ad_a a_notePitches a_noteSteps a_noteOfItem a_restCost a_notes a_items a_pairs a_pitchesDiffer a_stepsDiffer ++ w_S cI cZ cR ad_c c_pitches c_steps c_size) sz) (w_A cI cZ cR ad_a a_notePitches a_noteSteps a_noteOfItem a_restCost a_notes a_items a_pairs a_pitchesDiffer a_stepsDiffer ++ w_S cI cZ cR ad_c c_pitches c_steps c_size) t) (va_A (w_A cI cZ cR ad_a a_notePitches a_noteSteps a_noteOfItem a_restCost a_notes a_items a_pairs a_pitchesDiffer a_stepsDiffer ++ w_S cI cZ cR ad_c c_pitches c_steps c_size) sz)) 0 0 (va_A (w_A cI cZ cR ad_a a_notePitches a_noteSteps a_noteOfItem a_restCost a_notes a_items a_pairs a_pitchesDiffer a_stepsDiffer ++ w_S cI cZ cR ad_c c_pitches c_steps c_size) sz) := by
  refine gl_entry (cc := cX0_leastFrom) (maxL := 5) (ret := (some .int)) (by decide) rfl (Nat.le_of_ble_eq_true rfl) ?_
  intro p e s m below meth c ls G hin hsz hK hN hP hD hl
  subst hsz
  exact ml_X0_leastFrom_0 G hK hN (fun q h => Or.inr h) a_notePitches a_noteSteps a_restCost a_notes a_items c_pitches c_steps v1 v2 post h s.heap [] hP hD va_S.rf ls hl
theorem lk_X0_reckonCosts_0 : (Cond.fieldLink RX0 30 "RollHouse$Alignment" "notes" "I") ∈ wsX0_reckonCosts := by decide +kernel
theorem lk_X0_reckonCosts_1 : (Cond.fieldLink RX0 46 "RollHouse$Alignment" "items" "I") ∈ wsX0_reckonCosts := by decide +kernel
theorem lk_X0_reckonCosts_2 : (Cond.fieldLink RX0 21 "RollHouse$Alignment" "restCost" "[I") ∈ wsX0_reckonCosts := by decide +kernel
theorem us_X0_reckonCosts_X0 : ∀ w ∈ u_ws RX0 TX0 9, w ∈ wsX0_reckonCosts := by decide +kernel
def wl_X0_reckonCosts_14 (a_notePitches : Nat → Int32) (a_noteSteps : Nat → Int32) (a_notes : Int32) (a_items : Int32) (c_pitches : Nat → Int32) (c_steps : Nat → Int32) (post : (Nat → Int32) → Prop) (K5 : (Int32) → (Nat → Int32) → Prop) : Nat → (Int32) → (Int32) → (Nat → Int32) → Prop
  | 0, _, _, _ => False
  | fu + 1, v2, v3, a_restCost => ((v3 < 0 → K5 (v2 + (-1)) a_restCost) ∧ (¬ v3 < 0 → (wp_X0_leastFrom a_notePitches a_noteSteps a_restCost a_notes a_items c_pitches c_steps v2 v3 (fun (r1 : Int32) => (vp_in ((v2 * 41) + v3) 2501 ∧ (∀ a2 : Nat → Int32, a2 = upd a_restCost ((v2 * 41) + v3).toNatClampNeg r1 → wl_X0_reckonCosts_14 a_notePitches a_noteSteps a_notes a_items c_pitches c_steps post K5 fu v2 (v3 + (-1)) a2))))))
def wl_X0_reckonCosts_5 (a_notePitches : Nat → Int32) (a_noteSteps : Nat → Int32) (a_notes : Int32) (a_items : Int32) (c_pitches : Nat → Int32) (c_steps : Nat → Int32) (post : (Nat → Int32) → Prop) : Nat → (Int32) → (Nat → Int32) → Prop
  | 0, _, _ => False
  | fu + 1, v2, a_restCost => ((v2 < 0 → post a_restCost) ∧ (¬ v2 < 0 → (∃ n, wl_X0_reckonCosts_14 a_notePitches a_noteSteps a_notes a_items c_pitches c_steps post (wl_X0_reckonCosts_5 a_notePitches a_noteSteps a_notes a_items c_pitches c_steps post fu) n v2 a_items a_restCost)))
def wp_X0_reckonCosts (a_notePitches : Nat → Int32) (a_noteSteps : Nat → Int32) (a_notes : Int32) (a_items : Int32) (c_pitches : Nat → Int32) (c_steps : Nat → Int32) (a_restCost : Nat → Int32) (post : (Nat → Int32) → Prop) : Prop := (∃ n, wl_X0_reckonCosts_5 a_notePitches a_noteSteps a_notes a_items c_pitches c_steps post n a_notes a_restCost)
set_option maxRecDepth 100000 in
set_option maxHeartbeats 4000000 in
theorem ml_X0_reckonCosts_14 {p : Program} {l : Launch} {e : Env} {s : State} {m : MethodId} {args : Array Value} {below : List Frame} {meth : Method} {c : Code} {D : va_G} {cI cZ cR : ClassId} {A : Nat → Prop} {ad_a : Nat → Nat} {ad_c : Nat → Nat} {a_noteOfItem : Nat → Int32} {a_pairs : Int32} {a_pitchesDiffer : Int32} {a_stepsDiffer : Int32} {c_size : Int32} (G : gG p s m args meth c cX0_reckonCosts none 4 RX0 wsX0_reckonCosts) (hK : va_K D vwCl (gT cI cZ cR) s) (hN : va_Nw gN s) (hA : ∀ q, s.heap.size ≤ q → A q) (a_notePitches : Nat → Int32) (a_noteSteps : Nat → Int32) (a_notes : Int32) (a_items : Int32) (c_pitches : Nat → Int32) (c_steps : Nat → Int32) (post : (Nat → Int32) → Prop) (K5 : (Int32) → (Nat → Int32) → Prop) (hK5 : ∀ (v2 : Int32) (a_restCost : Nat → Int32), K5 v2 a_restCost → ∀ (H : Heap) (locs : List Loc), va_P D vwCl (w_A cI cZ cR ad_a a_notePitches a_noteSteps a_noteOfItem a_restCost a_notes a_items a_pairs a_pitchesDiffer a_stepsDiffer ++ w_S cI cZ cR ad_c c_pitches c_steps c_size) H → va_D A (w_A cI cZ cR ad_a a_notePitches a_noteSteps a_noteOfItem a_restCost a_notes a_items a_pairs a_pitchesDiffer a_stepsDiffer ++ w_S cI cZ cR ad_c c_pitches c_steps c_size) → va_S A s.heap H locs → ∀ (ls : Array Slot), lv_has ls 4 [(0, .ref (ad_a 0)), (1, .ref (ad_c 0)), (2, .int v2)] → W p l e { frames := 3, cells := 0, slots := 0, locals := 70 } s m args below meth c H locs 0 0 (MQ below (va_Qv (fun (u : (Nat → Int32)) => post u) (fun u t => gB D (gT cI cZ cR) A (w_A cI cZ cR ad_a a_notePitches a_noteSteps a_noteOfItem u a_notes a_items a_pairs a_pitchesDiffer a_stepsDiffer ++ w_S cI cZ cR ad_c c_pitches c_steps c_size) t) A) args s 0 0 A) (F0 m 5 ls [])) : ∀ (fu : Nat) (v2 : Int32) (v3 : Int32) (a_restCost : Nat → Int32), wl_X0_reckonCosts_14 a_notePitches a_noteSteps a_notes a_items c_pitches c_steps post K5 fu v2 v3 a_restCost → ∀ (H : Heap) (locs : List Loc), va_P D vwCl (w_A cI cZ cR ad_a a_notePitches a_noteSteps a_noteOfItem a_restCost a_notes a_items a_pairs a_pitchesDiffer a_stepsDiffer ++ w_S cI cZ cR ad_c c_pitches c_steps c_size) H → va_D A (w_A cI cZ cR ad_a a_notePitches a_noteSteps a_noteOfItem a_restCost a_notes a_items a_pairs a_pitchesDiffer a_stepsDiffer ++ w_S cI cZ cR ad_c c_pitches c_steps c_size) → va_S A s.heap H locs → ∀ (ls : Array Slot), lv_has ls 4 [(0, .ref (ad_a 0)), (1, .ref (ad_c 0)), (2, .int v2), (3, .int v3)] → W p l e { frames := 3, cells := 0, slots := 0, locals := 70 } s m args below meth c H locs 0 0 (MQ below (va_Qv (fun (u : (Nat → Int32)) => post u) (fun u t => gB D (gT cI cZ cR) A (w_A cI cZ cR ad_a a_notePitches a_noteSteps a_noteOfItem u a_notes a_items a_pairs a_pitchesDiffer a_stepsDiffer ++ w_S cI cZ cR ad_c c_pitches c_steps c_size) t) A) args s 0 0 A) (F0 m 14 ls []) := by
  obtain ⟨hx, hb, hr, hml, hown, hts, hlocks⟩ := id G
  intro fu
  induction fu with
  | zero =>
    intro v2 v3 a_restCost h
    exact h.elim
  | succ fu ih =>
    intro v2 v3 a_restCost h H locs hP hD hS ls hl
    rw [wl_X0_reckonCosts_14] at h
    refine lv_iload_n hx hb dX0_reckonCosts_14 rfl (lv_at hl 3 rfl) ?_
    refine lv_if_lt (tgt := 42) hx hb dX0_reckonCosts_15 (by decide) (fun hc => ?_) (fun hc => ?_)
    · have h := h.1 hc
      refine lv_iinc (v := v2 + (-1)) (lv' := [(2, .int (v2 + (-1))), (0, .ref (ad_a 0)), (1, .ref (ad_c 0)), (3, .int v3)]) hx hb dX0_reckonCosts_42 hl (k := 2) rfl rfl (by decide) rfl (fun ls hl => ?_)
      refine lv_goto (tgt := 5) hx hb dX0_reckonCosts_45 (by decide) ?_
      exact hK5 (v2 + (-1)) a_restCost h H locs hP hD hS ls (lv_sub hl [1, 2, 0] rfl)
    · have h := h.2 hc
      refine lv_aload_n hx hb dX0_reckonCosts_18 rfl (lv_at hl 0 rfl) ?_
      refine va_get (D := D) (ci := 0) (v := .ref (ad_a 4)) (C := RX0) (T := TX0) (N := 9) hx hb hts us_X0_reckonCosts_X0 hown hK hP 0 rfl rfl 3 (by decide) (hts (.fieldLink RX0 21 "RollHouse$Alignment" "restCost" "[I") lk_X0_reckonCosts_2) (fun _ h9 => h9) rfl dX0_reckonCosts_19 ?_
      refine lv_iload_n hx hb dX0_reckonCosts_22 rfl (lv_at hl 2 rfl) ?_
      refine lv_bipush (v := 41) hx hb dX0_reckonCosts_23 (by decide) ?_
      refine lv_imul hx hb dX0_reckonCosts_25 ?_
      refine lv_iload_n hx hb dX0_reckonCosts_26 rfl (lv_at hl 3 rfl) ?_
      refine lv_iadd hx hb dX0_reckonCosts_27 ?_
      refine lv_aload_n hx hb dX0_reckonCosts_28 rfl (lv_at hl 0 rfl) ?_
      refine lv_iload_n hx hb dX0_reckonCosts_29 rfl (lv_at hl 2 rfl) ?_
      refine lv_iload_n hx hb dX0_reckonCosts_30 rfl (lv_at hl 3 rfl) ?_
      refine lv_aload_n hx hb dX0_reckonCosts_31 rfl (lv_at hl 1 rfl) ?_
      refine gl_calliF (va_runV (As := [.int v2, .int v3, .ref (ad_c 0)]) (rest := [.int ((v2 * 41) + v3), .ref (ad_a 4)]) ⟨hx, hb, hml, hown, hts⟩ (mt_X0_leastFrom l D cI cZ cR ad_a ad_c H.size a_notePitches a_noteSteps a_noteOfItem a_restCost a_notes a_items a_pairs a_pitchesDiffer a_stepsDiffer c_pitches c_steps c_size v2 v3 _ h) (cwV 3 hts gX0_reckonCosts_X0_leastFrom rfl rfl rfl (by decide +kernel) ⟨Nat.le_of_ble_eq_true rfl, Nat.le_of_ble_eq_true rfl⟩) ⟨gl_blind, va_recv hK hP (ci := 0) (q0 := 0) rfl rfl, gl_pre hP hK hN hD⟩ rfl rfl hl.1 rfl (lv_room (Nat.le_of_ble_eq_true rfl)) dX0_reckonCosts_32 ⟨Nat.le_of_ble_eq_true rfl, Nat.le_of_ble_eq_true rfl⟩) hD hS hA (fun r1 u H locs h hP hD hS => ?_)
      try dsimp only at h
      obtain ⟨hin, h⟩ := h
      refine va_iast hx hb hK hP hD hS 4 0 rfl rfl hin dX0_reckonCosts_35 (fun H locs hP hD hS => ?_)
      obtain ⟨a2, ea2⟩ : ∃ f, f = upd a_restCost ((v2 * 41) + v3).toNatClampNeg r1 := ⟨_, rfl⟩
      have h := h a2 ea2
      rw [← ea2] at hP hD
      have hP : va_P D vwCl (w_A cI cZ cR ad_a a_notePitches a_noteSteps a_noteOfItem a2 a_notes a_items a_pairs a_pitchesDiffer a_stepsDiffer ++ w_S cI cZ cR ad_c c_pitches c_steps c_size) H := hP
      have hD : va_D A (w_A cI cZ cR ad_a a_notePitches a_noteSteps a_noteOfItem a2 a_notes a_items a_pairs a_pitchesDiffer a_stepsDiffer ++ w_S cI cZ cR ad_c c_pitches c_steps c_size) := hD
      refine lv_iinc (v := v3 + (-1)) (lv' := [(3, .int (v3 + (-1))), (0, .ref (ad_a 0)), (1, .ref (ad_c 0)), (2, .int v2)]) hx hb dX0_reckonCosts_36 hl (k := 3) rfl rfl (by decide) rfl (fun ls hl => ?_)
      refine lv_goto (tgt := 14) hx hb dX0_reckonCosts_39 (by decide) ?_
      exact ih v2 (v3 + (-1)) a2 h H locs hP hD hS ls (lv_sub hl [1, 2, 3, 0] rfl)
set_option maxRecDepth 100000 in
set_option maxHeartbeats 4000000 in
theorem ml_X0_reckonCosts_5 {p : Program} {l : Launch} {e : Env} {s : State} {m : MethodId} {args : Array Value} {below : List Frame} {meth : Method} {c : Code} {D : va_G} {cI cZ cR : ClassId} {A : Nat → Prop} {ad_a : Nat → Nat} {ad_c : Nat → Nat} {a_noteOfItem : Nat → Int32} {a_pairs : Int32} {a_pitchesDiffer : Int32} {a_stepsDiffer : Int32} {c_size : Int32} (G : gG p s m args meth c cX0_reckonCosts none 4 RX0 wsX0_reckonCosts) (hK : va_K D vwCl (gT cI cZ cR) s) (hN : va_Nw gN s) (hA : ∀ q, s.heap.size ≤ q → A q) (a_notePitches : Nat → Int32) (a_noteSteps : Nat → Int32) (a_notes : Int32) (a_items : Int32) (c_pitches : Nat → Int32) (c_steps : Nat → Int32) (post : (Nat → Int32) → Prop) : ∀ (fu : Nat) (v2 : Int32) (a_restCost : Nat → Int32), wl_X0_reckonCosts_5 a_notePitches a_noteSteps a_notes a_items c_pitches c_steps post fu v2 a_restCost → ∀ (H : Heap) (locs : List Loc), va_P D vwCl (w_A cI cZ cR ad_a a_notePitches a_noteSteps a_noteOfItem a_restCost a_notes a_items a_pairs a_pitchesDiffer a_stepsDiffer ++ w_S cI cZ cR ad_c c_pitches c_steps c_size) H → va_D A (w_A cI cZ cR ad_a a_notePitches a_noteSteps a_noteOfItem a_restCost a_notes a_items a_pairs a_pitchesDiffer a_stepsDiffer ++ w_S cI cZ cR ad_c c_pitches c_steps c_size) → va_S A s.heap H locs → ∀ (ls : Array Slot), lv_has ls 4 [(0, .ref (ad_a 0)), (1, .ref (ad_c 0)), (2, .int v2)] → W p l e { frames := 3, cells := 0, slots := 0, locals := 70 } s m args below meth c H locs 0 0 (MQ below (va_Qv (fun (u : (Nat → Int32)) => post u) (fun u t => gB D (gT cI cZ cR) A (w_A cI cZ cR ad_a a_notePitches a_noteSteps a_noteOfItem u a_notes a_items a_pairs a_pitchesDiffer a_stepsDiffer ++ w_S cI cZ cR ad_c c_pitches c_steps c_size) t) A) args s 0 0 A) (F0 m 5 ls []) := by
  obtain ⟨hx, hb, hr, hml, hown, hts, hlocks⟩ := id G
  intro fu
  induction fu with
  | zero =>
    intro v2 a_restCost h
    exact h.elim
  | succ fu ih =>
    intro v2 a_restCost h H locs hP hD hS ls hl
    rw [wl_X0_reckonCosts_5] at h
    refine lv_iload_n hx hb dX0_reckonCosts_5 rfl (lv_at hl 2 rfl) ?_
    refine lv_if_lt (tgt := 48) hx hb dX0_reckonCosts_6 (by decide) (fun hc => ?_) (fun hc => ?_)
    · have h := h.1 hc
      exact gl_retv G hK (u := a_restCost) hP hD hS h dX0_reckonCosts_48
    · have h := h.2 hc
      refine lv_aload_n hx hb dX0_reckonCosts_9 rfl (lv_at hl 0 rfl) ?_
      refine va_get (D := D) (ci := 0) (v := .int a_items) (C := RX0) (T := TX0) (N := 9) hx hb hts us_X0_reckonCosts_X0 hown hK hP 0 rfl rfl 5 (by decide) (hts (.fieldLink RX0 46 "RollHouse$Alignment" "items" "I") lk_X0_reckonCosts_1) (fun _ h9 => h9) rfl dX0_reckonCosts_10 ?_
      refine lv_istore_n (lv' := [(3, .int a_items), (0, .ref (ad_a 0)), (1, .ref (ad_c 0)), (2, .int v2)]) hx hb dX0_reckonCosts_13 rfl hl (by decide) rfl (fun ls hl => ?_)
      obtain ⟨nf, h⟩ := h
      exact ml_X0_reckonCosts_14 G hK hN hA a_notePitches a_noteSteps a_notes a_items c_pitches c_steps post (wl_X0_reckonCosts_5 a_notePitches a_noteSteps a_notes a_items c_pitches c_steps post fu) ih nf v2 a_items a_restCost h H locs hP hD hS ls (lv_sub hl [1, 2, 3, 0] rfl)
set_option maxRecDepth 100000 in
set_option maxHeartbeats 4000000 in
theorem ml_X0_reckonCosts_0 {p : Program} {l : Launch} {e : Env} {s : State} {m : MethodId} {args : Array Value} {below : List Frame} {meth : Method} {c : Code} {D : va_G} {cI cZ cR : ClassId} {A : Nat → Prop} {ad_a : Nat → Nat} {ad_c : Nat → Nat} {a_noteOfItem : Nat → Int32} {a_pairs : Int32} {a_pitchesDiffer : Int32} {a_stepsDiffer : Int32} {c_size : Int32} (G : gG p s m args meth c cX0_reckonCosts none 4 RX0 wsX0_reckonCosts) (hK : va_K D vwCl (gT cI cZ cR) s) (hN : va_Nw gN s) (hA : ∀ q, s.heap.size ≤ q → A q) (a_notePitches : Nat → Int32) (a_noteSteps : Nat → Int32) (a_notes : Int32) (a_items : Int32) (c_pitches : Nat → Int32) (c_steps : Nat → Int32) (post : (Nat → Int32) → Prop) (a_restCost : Nat → Int32) (h : wp_X0_reckonCosts a_notePitches a_noteSteps a_notes a_items c_pitches c_steps a_restCost post) : ∀ (H : Heap) (locs : List Loc), va_P D vwCl (w_A cI cZ cR ad_a a_notePitches a_noteSteps a_noteOfItem a_restCost a_notes a_items a_pairs a_pitchesDiffer a_stepsDiffer ++ w_S cI cZ cR ad_c c_pitches c_steps c_size) H → va_D A (w_A cI cZ cR ad_a a_notePitches a_noteSteps a_noteOfItem a_restCost a_notes a_items a_pairs a_pitchesDiffer a_stepsDiffer ++ w_S cI cZ cR ad_c c_pitches c_steps c_size) → va_S A s.heap H locs → ∀ (ls : Array Slot), lv_has ls 4 [(0, .ref (ad_a 0)), (1, .ref (ad_c 0))] → W p l e { frames := 3, cells := 0, slots := 0, locals := 70 } s m args below meth c H locs 0 0 (MQ below (va_Qv (fun (u : (Nat → Int32)) => post u) (fun u t => gB D (gT cI cZ cR) A (w_A cI cZ cR ad_a a_notePitches a_noteSteps a_noteOfItem u a_notes a_items a_pairs a_pitchesDiffer a_stepsDiffer ++ w_S cI cZ cR ad_c c_pitches c_steps c_size) t) A) args s 0 0 A) (F0 m 0 ls []) := by
  obtain ⟨hx, hb, hr, hml, hown, hts, hlocks⟩ := id G
  intro H locs hP hD hS ls hl
  unfold wp_X0_reckonCosts at h
  refine lv_aload_n hx hb dX0_reckonCosts_0 rfl (lv_at hl 0 rfl) ?_
  refine va_get (D := D) (ci := 0) (v := .int a_notes) (C := RX0) (T := TX0) (N := 9) hx hb hts us_X0_reckonCosts_X0 hown hK hP 0 rfl rfl 4 (by decide) (hts (.fieldLink RX0 30 "RollHouse$Alignment" "notes" "I") lk_X0_reckonCosts_0) (fun _ h9 => h9) rfl dX0_reckonCosts_1 ?_
  refine lv_istore_n (lv' := [(2, .int a_notes), (0, .ref (ad_a 0)), (1, .ref (ad_c 0))]) hx hb dX0_reckonCosts_4 rfl hl (by decide) rfl (fun ls hl => ?_)
  obtain ⟨nf, h⟩ := h
  exact ml_X0_reckonCosts_5 G hK hN hA a_notePitches a_noteSteps a_notes a_items c_pitches c_steps post nf a_notes a_restCost h H locs hP hD hS ls (lv_sub hl [1, 2, 0] rfl)
set_option maxRecDepth 100000 in
theorem mt_X0_reckonCosts (l : Launch) (D : va_G) (cI cZ cR : ClassId) (ad_a : Nat → Nat) (ad_c : Nat → Nat) (sz : Nat) (a_notePitches : Nat → Int32) (a_noteSteps : Nat → Int32) (a_noteOfItem : Nat → Int32) (a_restCost : Nat → Int32) (a_notes : Int32) (a_items : Int32) (a_pairs : Int32) (a_pitchesDiffer : Int32) (a_stepsDiffer : Int32) (c_pitches : Nat → Int32) (c_steps : Nat → Int32) (c_size : Int32) (post : (Nat → Int32) → Prop) (h : wp_X0_reckonCosts a_notePitches a_noteSteps a_notes a_items c_pitches c_steps a_restCost post) : Met l yX0_reckonCosts wsX0_reckonCosts ({ frames := 3, cells := 0, slots := 0, locals := 70 }) (gPc D (gT cI cZ cR) (w_A cI cZ cR ad_a a_notePitches a_noteSteps a_noteOfItem a_restCost a_notes a_items a_pairs a_pitchesDiffer a_stepsDiffer ++ w_S cI cZ cR ad_c c_pitches c_steps c_size) sz [.ref (ad_a 0), .ref (ad_c 0)]) (va_Qv (fun (u : (Nat → Int32)) => post u) (fun u t => gB D (gT cI cZ cR) (va_A (w_A cI cZ cR ad_a a_notePitches a_noteSteps a_noteOfItem a_restCost a_notes a_items a_pairs a_pitchesDiffer a_stepsDiffer ++ w_S cI cZ cR ad_c c_pitches c_steps c_size) sz) (w_A cI cZ cR ad_a a_notePitches a_noteSteps a_noteOfItem u a_notes a_items a_pairs a_pitchesDiffer a_stepsDiffer ++ w_S cI cZ cR ad_c c_pitches c_steps c_size) t) (va_A (w_A cI cZ cR ad_a a_notePitches a_noteSteps a_noteOfItem a_restCost a_notes a_items a_pairs a_pitchesDiffer a_stepsDiffer ++ w_S cI cZ cR ad_c c_pitches c_steps c_size) sz)) 0 0 (va_A (w_A cI cZ cR ad_a a_notePitches a_noteSteps a_noteOfItem a_restCost a_notes a_items a_pairs a_pitchesDiffer a_stepsDiffer ++ w_S cI cZ cR ad_c c_pitches c_steps c_size) sz) := by
  refine gl_entry (cc := cX0_reckonCosts) (maxL := 4) (ret := none) (by decide) rfl (Nat.le_of_ble_eq_true rfl) ?_
  intro p e s m below meth c ls G hin hsz hK hN hP hD hl
  subst hsz
  exact ml_X0_reckonCosts_0 G hK hN (fun q h => Or.inr h) a_notePitches a_noteSteps a_notes a_items c_pitches c_steps post a_restCost h s.heap [] hP hD va_S.rf ls hl
theorem lk_X0_pair_0 : (Cond.fieldLink RX0 18 "RollHouse$Alignment" "noteOfItem" "[I") ∈ wsX0_pair := by decide +kernel
theorem lk_X0_pair_1 : (Cond.fieldLink RX0 56 "RollHouse$Alignment" "pairs" "I") ∈ wsX0_pair := by decide +kernel
theorem lk_X0_pair_2 : (Cond.fieldLink RX0 9 "RollHouse$Alignment" "notePitches" "[I") ∈ wsX0_pair := by decide +kernel
theorem lk_X0_pair_3 : (Cond.fieldLink RX0 59 "RollHouse$Alignment" "pitchesDiffer" "I") ∈ wsX0_pair := by decide +kernel
theorem lk_X0_pair_4 : (Cond.fieldLink RX0 15 "RollHouse$Alignment" "noteSteps" "[I") ∈ wsX0_pair := by decide +kernel
theorem lk_X0_pair_5 : (Cond.fieldLink RX0 62 "RollHouse$Alignment" "stepsDiffer" "I") ∈ wsX0_pair := by decide +kernel
theorem us_X0_pair_X0 : ∀ w ∈ u_ws RX0 TX0 9, w ∈ wsX0_pair := by decide +kernel
def wl_X0_pair_41 (a_notePitches : Nat → Int32) (a_noteSteps : Nat → Int32) (c_pitches : Nat → Int32) (c_steps : Nat → Int32) (v1 : Int32) (v2 : Int32) (post : (Nat → Int32) → Int32 → Int32 → Int32 → Prop) (a_noteOfItem : Nat → Int32) (a_pairs : Int32) (a_pitchesDiffer : Int32) (a_stepsDiffer : Int32) : Prop := (vp_in v1 60 ∧ (wp_X5_stepOf c_steps v2 (fun (r3 : Int32) => (((a_noteSteps v1.toNatClampNeg) = r3 → post a_noteOfItem a_pairs a_pitchesDiffer a_stepsDiffer) ∧ (¬ (a_noteSteps v1.toNatClampNeg) = r3 → post a_noteOfItem a_pairs a_pitchesDiffer (a_stepsDiffer + 1))))))
def wp_X0_pair (a_notePitches : Nat → Int32) (a_noteSteps : Nat → Int32) (c_pitches : Nat → Int32) (c_steps : Nat → Int32) (v1 : Int32) (v2 : Int32) (a_noteOfItem : Nat → Int32) (a_pairs : Int32) (a_pitchesDiffer : Int32) (a_stepsDiffer : Int32) (post : (Nat → Int32) → Int32 → Int32 → Int32 → Prop) : Prop := (vp_in v2 40 ∧ (∀ a1 : Nat → Int32, a1 = upd a_noteOfItem v2.toNatClampNeg v1 → (vp_in v1 60 ∧ (wp_X5_pitchOf c_pitches v2 (fun (r2 : Int32) => (((a_notePitches v1.toNatClampNeg) = r2 → wl_X0_pair_41 a_notePitches a_noteSteps c_pitches c_steps v1 v2 post a1 (a_pairs + 1) a_pitchesDiffer a_stepsDiffer) ∧ (¬ (a_notePitches v1.toNatClampNeg) = r2 → wl_X0_pair_41 a_notePitches a_noteSteps c_pitches c_steps v1 v2 post a1 (a_pairs + 1) (a_pitchesDiffer + 1) a_stepsDiffer)))))))
set_option maxRecDepth 100000 in
set_option maxHeartbeats 4000000 in
theorem ml_X0_pair_41 {p : Program} {l : Launch} {e : Env} {s : State} {m : MethodId} {args : Array Value} {below : List Frame} {meth : Method} {c : Code} {D : va_G} {cI cZ cR : ClassId} {A : Nat → Prop} {ad_a : Nat → Nat} {ad_c : Nat → Nat} {a_restCost : Nat → Int32} {a_notes : Int32} {a_items : Int32} {c_size : Int32} (G : gG p s m args meth c cX0_pair none 4 RX0 wsX0_pair) (hK : va_K D vwCl (gT cI cZ cR) s) (hN : va_Nw gN s) (hA : ∀ q, s.heap.size ≤ q → A q) (a_notePitches : Nat → Int32) (a_noteSteps : Nat → Int32) (c_pitches : Nat → Int32) (c_steps : Nat → Int32) (v1 : Int32) (v2 : Int32) (post : (Nat → Int32) → Int32 → Int32 → Int32 → Prop) (a_noteOfItem : Nat → Int32) (a_pairs : Int32) (a_pitchesDiffer : Int32) (a_stepsDiffer : Int32) (h : wl_X0_pair_41 a_notePitches a_noteSteps c_pitches c_steps v1 v2 post a_noteOfItem a_pairs a_pitchesDiffer a_stepsDiffer) : ∀ (H : Heap) (locs : List Loc), va_P D vwCl (w_A cI cZ cR ad_a a_notePitches a_noteSteps a_noteOfItem a_restCost a_notes a_items a_pairs a_pitchesDiffer a_stepsDiffer ++ w_S cI cZ cR ad_c c_pitches c_steps c_size) H → va_D A (w_A cI cZ cR ad_a a_notePitches a_noteSteps a_noteOfItem a_restCost a_notes a_items a_pairs a_pitchesDiffer a_stepsDiffer ++ w_S cI cZ cR ad_c c_pitches c_steps c_size) → va_S A s.heap H locs → ∀ (ls : Array Slot), lv_has ls 4 [(0, .ref (ad_a 0)), (1, .int v1), (2, .int v2), (3, .ref (ad_c 0))] → W p l e { frames := 1, cells := 0, slots := 0, locals := 21 } s m args below meth c H locs 0 0 (MQ below (va_Qv (fun (u : (Nat → Int32) × (Int32) × (Int32) × (Int32)) => post u.1 u.2.1 u.2.2.1 u.2.2.2) (fun u t => gB D (gT cI cZ cR) A (w_A cI cZ cR ad_a a_notePitches a_noteSteps u.1 a_restCost a_notes a_items u.2.1 u.2.2.1 u.2.2.2 ++ w_S cI cZ cR ad_c c_pitches c_steps c_size) t) A) args s 0 0 A) (F0 m 41 ls []) := by
  obtain ⟨hx, hb, hr, hml, hown, hts, hlocks⟩ := id G
  intro H locs hP hD hS ls hl
  unfold wl_X0_pair_41 at h
  refine lv_aload_n hx hb dX0_pair_41 rfl (lv_at hl 0 rfl) ?_
  refine va_get (D := D) (ci := 0) (v := .ref (ad_a 2)) (C := RX0) (T := TX0) (N := 9) hx hb hts us_X0_pair_X0 hown hK hP 0 rfl rfl 1 (by decide) (hts (.fieldLink RX0 15 "RollHouse$Alignment" "noteSteps" "[I") lk_X0_pair_4) (fun _ h9 => h9) rfl dX0_pair_42 ?_
  refine lv_iload_n hx hb dX0_pair_45 rfl (lv_at hl 1 rfl) ?_
  obtain ⟨hin, h⟩ := h
  refine va_iald hx hb hK hP 2 0 rfl rfl hin dX0_pair_46 ?_
  refine lv_aload_n hx hb dX0_pair_47 rfl (lv_at hl 3 rfl) ?_
  refine lv_iload_n hx hb dX0_pair_48 rfl (lv_at hl 2 rfl) ?_
  have hPc := hP.sub (ws' := w_S cI cZ cR ad_c c_pitches c_steps c_size) [5, 6, 7] rfl
  have hDc := hD.sub (ws' := w_S cI cZ cR ad_c c_pitches c_steps c_size) [5, 6, 7] (by decide) rfl
  refine gl_calli (wr := w_A cI cZ cR ad_a a_notePitches a_noteSteps a_noteOfItem a_restCost a_notes a_items a_pairs a_pitchesDiffer a_stepsDiffer) (va_runV (As := [.int v2]) (rest := [.int (a_noteSteps v1.toNatClampNeg)]) ⟨hx, hb, hml, hown, hts⟩ (mt_X5_stepOf l D cI cZ cR ad_c H.size c_pitches c_steps c_size v2 _ h) (cwV 1 hts gX0_pair_X5_stepOf rfl rfl rfl (by decide +kernel) ⟨Nat.le_of_ble_eq_true rfl, Nat.le_of_ble_eq_true rfl⟩) ⟨gl_blind, va_recv hK hPc (ci := 5) (q0 := 0) rfl rfl, gl_pre hPc hK hN hDc⟩ rfl rfl hl.1 rfl (lv_room (Nat.le_of_ble_eq_true rfl)) dX0_pair_49 ⟨Nat.le_of_ble_eq_true rfl, Nat.le_of_ble_eq_true rfl⟩) hP hD hS hA [5, 6, 7] [0, 1, 2, 3, 4] rfl rfl (by decide) (by decide) (fun r3 u H locs h hP hD hS => ?_)
  try dsimp only at h
  have hP := hP.sub (ws' := w_A cI cZ cR ad_a a_notePitches a_noteSteps a_noteOfItem a_restCost a_notes a_items a_pairs a_pitchesDiffer a_stepsDiffer ++ w_S cI cZ cR ad_c c_pitches c_steps c_size) [0, 1, 2, 3, 4, 5, 6, 7] rfl
  have hD := hD.sub (ws' := w_A cI cZ cR ad_a a_notePitches a_noteSteps a_noteOfItem a_restCost a_notes a_items a_pairs a_pitchesDiffer a_stepsDiffer ++ w_S cI cZ cR ad_c c_pitches c_steps c_size) [0, 1, 2, 3, 4, 5, 6, 7] (by decide) rfl
  refine lv_icmp_eq (tgt := 65) hx hb dX0_pair_52 (by decide) (fun hc => ?_) (fun hc => ?_)
  · have h := h.1 hc
    exact gl_retv G hK (u := (a_noteOfItem, a_pairs, a_pitchesDiffer, a_stepsDiffer)) hP hD hS h dX0_pair_65
  · have h := h.2 hc
    refine lv_aload_n hx hb dX0_pair_55 rfl (lv_at hl 0 rfl) ?_
    refine lv_dup hx hb dX0_pair_56 rfl ?_
    refine va_get (D := D) (ci := 0) (v := .int a_stepsDiffer) (C := RX0) (T := TX0) (N := 9) hx hb hts us_X0_pair_X0 hown hK hP 0 rfl rfl 8 (by decide) (hts (.fieldLink RX0 62 "RollHouse$Alignment" "stepsDiffer" "I") lk_X0_pair_5) (fun _ h9 => h9) rfl dX0_pair_57 ?_
    refine lv_iconst (v := 1) hx hb dX0_pair_60 (by decide) ?_
    refine lv_iadd hx hb dX0_pair_61 ?_
    refine va_put (D := D) (ci := 0) (v := .int (a_stepsDiffer + 1)) (ty := .int) (C := RX0) (T := TX0) (N := 9) hx hb hts us_X0_pair_X0 tyX0 tyX0_ok nmX0 hown hK hP hD hS 0 rfl rfl 8 (by decide) (hts (.fieldLink RX0 62 "RollHouse$Alignment" "stepsDiffer" "I") lk_X0_pair_5) (fun _ h9 => h9) rfl (by decide +kernel) rfl rfl (Nat.le_of_ble_eq_true rfl) dX0_pair_62 (fun H locs hP hD hS => ?_)
    have hP : va_P D vwCl (w_A cI cZ cR ad_a a_notePitches a_noteSteps a_noteOfItem a_restCost a_notes a_items a_pairs a_pitchesDiffer (a_stepsDiffer + 1) ++ w_S cI cZ cR ad_c c_pitches c_steps c_size) H := hP
    have hD : va_D A (w_A cI cZ cR ad_a a_notePitches a_noteSteps a_noteOfItem a_restCost a_notes a_items a_pairs a_pitchesDiffer (a_stepsDiffer + 1) ++ w_S cI cZ cR ad_c c_pitches c_steps c_size) := hD
    exact gl_retv G hK (u := (a_noteOfItem, a_pairs, a_pitchesDiffer, (a_stepsDiffer + 1))) hP hD hS h dX0_pair_65
set_option maxRecDepth 100000 in
set_option maxHeartbeats 4000000 in
theorem ml_X0_pair_0 {p : Program} {l : Launch} {e : Env} {s : State} {m : MethodId} {args : Array Value} {below : List Frame} {meth : Method} {c : Code} {D : va_G} {cI cZ cR : ClassId} {A : Nat → Prop} {ad_a : Nat → Nat} {ad_c : Nat → Nat} {a_restCost : Nat → Int32} {a_notes : Int32} {a_items : Int32} {c_size : Int32} (G : gG p s m args meth c cX0_pair none 4 RX0 wsX0_pair) (hK : va_K D vwCl (gT cI cZ cR) s) (hN : va_Nw gN s) (hA : ∀ q, s.heap.size ≤ q → A q) (a_notePitches : Nat → Int32) (a_noteSteps : Nat → Int32) (c_pitches : Nat → Int32) (c_steps : Nat → Int32) (v1 : Int32) (v2 : Int32) (post : (Nat → Int32) → Int32 → Int32 → Int32 → Prop) (a_noteOfItem : Nat → Int32) (a_pairs : Int32) (a_pitchesDiffer : Int32) (a_stepsDiffer : Int32) (h : wp_X0_pair a_notePitches a_noteSteps c_pitches c_steps v1 v2 a_noteOfItem a_pairs a_pitchesDiffer a_stepsDiffer post) : ∀ (H : Heap) (locs : List Loc), va_P D vwCl (w_A cI cZ cR ad_a a_notePitches a_noteSteps a_noteOfItem a_restCost a_notes a_items a_pairs a_pitchesDiffer a_stepsDiffer ++ w_S cI cZ cR ad_c c_pitches c_steps c_size) H → va_D A (w_A cI cZ cR ad_a a_notePitches a_noteSteps a_noteOfItem a_restCost a_notes a_items a_pairs a_pitchesDiffer a_stepsDiffer ++ w_S cI cZ cR ad_c c_pitches c_steps c_size) → va_S A s.heap H locs → ∀ (ls : Array Slot), lv_has ls 4 [(0, .ref (ad_a 0)), (1, .int v1), (2, .int v2), (3, .ref (ad_c 0))] → W p l e { frames := 1, cells := 0, slots := 0, locals := 21 } s m args below meth c H locs 0 0 (MQ below (va_Qv (fun (u : (Nat → Int32) × (Int32) × (Int32) × (Int32)) => post u.1 u.2.1 u.2.2.1 u.2.2.2) (fun u t => gB D (gT cI cZ cR) A (w_A cI cZ cR ad_a a_notePitches a_noteSteps u.1 a_restCost a_notes a_items u.2.1 u.2.2.1 u.2.2.2 ++ w_S cI cZ cR ad_c c_pitches c_steps c_size) t) A) args s 0 0 A) (F0 m 0 ls []) := by
  obtain ⟨hx, hb, hr, hml, hown, hts, hlocks⟩ := id G
  intro H locs hP hD hS ls hl
  unfold wp_X0_pair at h
  refine lv_aload_n hx hb dX0_pair_0 rfl (lv_at hl 0 rfl) ?_
  refine va_get (D := D) (ci := 0) (v := .ref (ad_a 3)) (C := RX0) (T := TX0) (N := 9) hx hb hts us_X0_pair_X0 hown hK hP 0 rfl rfl 2 (by decide) (hts (.fieldLink RX0 18 "RollHouse$Alignment" "noteOfItem" "[I") lk_X0_pair_0) (fun _ h9 => h9) rfl dX0_pair_1 ?_
  refine lv_iload_n hx hb dX0_pair_4 rfl (lv_at hl 2 rfl) ?_
  refine lv_iload_n hx hb dX0_pair_5 rfl (lv_at hl 1 rfl) ?_
  obtain ⟨hin, h⟩ := h
  refine va_iast hx hb hK hP hD hS 3 0 rfl rfl hin dX0_pair_6 (fun H locs hP hD hS => ?_)
  obtain ⟨a1, ea1⟩ : ∃ f, f = upd a_noteOfItem v2.toNatClampNeg v1 := ⟨_, rfl⟩
  have h := h a1 ea1
  rw [← ea1] at hP hD
  have hP : va_P D vwCl (w_A cI cZ cR ad_a a_notePitches a_noteSteps a1 a_restCost a_notes a_items a_pairs a_pitchesDiffer a_stepsDiffer ++ w_S cI cZ cR ad_c c_pitches c_steps c_size) H := hP
  have hD : va_D A (w_A cI cZ cR ad_a a_notePitches a_noteSteps a1 a_restCost a_notes a_items a_pairs a_pitchesDiffer a_stepsDiffer ++ w_S cI cZ cR ad_c c_pitches c_steps c_size) := hD
  refine lv_aload_n hx hb dX0_pair_7 rfl (lv_at hl 0 rfl) ?_
  refine lv_dup hx hb dX0_pair_8 rfl ?_
  refine va_get (D := D) (ci := 0) (v := .int a_pairs) (C := RX0) (T := TX0) (N := 9) hx hb hts us_X0_pair_X0 hown hK hP 0 rfl rfl 6 (by decide) (hts (.fieldLink RX0 56 "RollHouse$Alignment" "pairs" "I") lk_X0_pair_1) (fun _ h9 => h9) rfl dX0_pair_9 ?_
  refine lv_iconst (v := 1) hx hb dX0_pair_12 (by decide) ?_
  refine lv_iadd hx hb dX0_pair_13 ?_
  refine va_put (D := D) (ci := 0) (v := .int (a_pairs + 1)) (ty := .int) (C := RX0) (T := TX0) (N := 9) hx hb hts us_X0_pair_X0 tyX0 tyX0_ok nmX0 hown hK hP hD hS 0 rfl rfl 6 (by decide) (hts (.fieldLink RX0 56 "RollHouse$Alignment" "pairs" "I") lk_X0_pair_1) (fun _ h9 => h9) rfl (by decide +kernel) rfl rfl (Nat.le_of_ble_eq_true rfl) dX0_pair_14 (fun H locs hP hD hS => ?_)
  have hP : va_P D vwCl (w_A cI cZ cR ad_a a_notePitches a_noteSteps a1 a_restCost a_notes a_items (a_pairs + 1) a_pitchesDiffer a_stepsDiffer ++ w_S cI cZ cR ad_c c_pitches c_steps c_size) H := hP
  have hD : va_D A (w_A cI cZ cR ad_a a_notePitches a_noteSteps a1 a_restCost a_notes a_items (a_pairs + 1) a_pitchesDiffer a_stepsDiffer ++ w_S cI cZ cR ad_c c_pitches c_steps c_size) := hD
  refine lv_aload_n hx hb dX0_pair_17 rfl (lv_at hl 0 rfl) ?_
  refine va_get (D := D) (ci := 0) (v := .ref (ad_a 1)) (C := RX0) (T := TX0) (N := 9) hx hb hts us_X0_pair_X0 hown hK hP 0 rfl rfl 0 (by decide) (hts (.fieldLink RX0 9 "RollHouse$Alignment" "notePitches" "[I") lk_X0_pair_2) (fun _ h9 => h9) rfl dX0_pair_18 ?_
  refine lv_iload_n hx hb dX0_pair_21 rfl (lv_at hl 1 rfl) ?_
  obtain ⟨hin, h⟩ := h
  refine va_iald hx hb hK hP 1 0 rfl rfl hin dX0_pair_22 ?_
  refine lv_aload_n hx hb dX0_pair_23 rfl (lv_at hl 3 rfl) ?_
  refine lv_iload_n hx hb dX0_pair_24 rfl (lv_at hl 2 rfl) ?_
  have hPc := hP.sub (ws' := w_S cI cZ cR ad_c c_pitches c_steps c_size) [5, 6, 7] rfl
  have hDc := hD.sub (ws' := w_S cI cZ cR ad_c c_pitches c_steps c_size) [5, 6, 7] (by decide) rfl
  refine gl_calli (wr := w_A cI cZ cR ad_a a_notePitches a_noteSteps a1 a_restCost a_notes a_items (a_pairs + 1) a_pitchesDiffer a_stepsDiffer) (va_runV (As := [.int v2]) (rest := [.int (a_notePitches v1.toNatClampNeg)]) ⟨hx, hb, hml, hown, hts⟩ (mt_X5_pitchOf l D cI cZ cR ad_c H.size c_pitches c_steps c_size v2 _ h) (cwV 1 hts gX0_pair_X5_pitchOf rfl rfl rfl (by decide +kernel) ⟨Nat.le_of_ble_eq_true rfl, Nat.le_of_ble_eq_true rfl⟩) ⟨gl_blind, va_recv hK hPc (ci := 5) (q0 := 0) rfl rfl, gl_pre hPc hK hN hDc⟩ rfl rfl hl.1 rfl (lv_room (Nat.le_of_ble_eq_true rfl)) dX0_pair_25 ⟨Nat.le_of_ble_eq_true rfl, Nat.le_of_ble_eq_true rfl⟩) hP hD hS hA [5, 6, 7] [0, 1, 2, 3, 4] rfl rfl (by decide) (by decide) (fun r2 u H locs h hP hD hS => ?_)
  try dsimp only at h
  have hP := hP.sub (ws' := w_A cI cZ cR ad_a a_notePitches a_noteSteps a1 a_restCost a_notes a_items (a_pairs + 1) a_pitchesDiffer a_stepsDiffer ++ w_S cI cZ cR ad_c c_pitches c_steps c_size) [0, 1, 2, 3, 4, 5, 6, 7] rfl
  have hD := hD.sub (ws' := w_A cI cZ cR ad_a a_notePitches a_noteSteps a1 a_restCost a_notes a_items (a_pairs + 1) a_pitchesDiffer a_stepsDiffer ++ w_S cI cZ cR ad_c c_pitches c_steps c_size) [0, 1, 2, 3, 4, 5, 6, 7] (by decide) rfl
  refine lv_icmp_eq (tgt := 41) hx hb dX0_pair_28 (by decide) (fun hc => ?_) (fun hc => ?_)
  · have h := h.1 hc
    exact ml_X0_pair_41 G hK hN hA a_notePitches a_noteSteps c_pitches c_steps v1 v2 post a1 (a_pairs + 1) a_pitchesDiffer a_stepsDiffer h H locs hP hD hS ls (lv_sub hl [0, 1, 2, 3] rfl)
  · have h := h.2 hc
    refine lv_aload_n hx hb dX0_pair_31 rfl (lv_at hl 0 rfl) ?_
    refine lv_dup hx hb dX0_pair_32 rfl ?_
    refine va_get (D := D) (ci := 0) (v := .int a_pitchesDiffer) (C := RX0) (T := TX0) (N := 9) hx hb hts us_X0_pair_X0 hown hK hP 0 rfl rfl 7 (by decide) (hts (.fieldLink RX0 59 "RollHouse$Alignment" "pitchesDiffer" "I") lk_X0_pair_3) (fun _ h9 => h9) rfl dX0_pair_33 ?_
    refine lv_iconst (v := 1) hx hb dX0_pair_36 (by decide) ?_
    refine lv_iadd hx hb dX0_pair_37 ?_
    refine va_put (D := D) (ci := 0) (v := .int (a_pitchesDiffer + 1)) (ty := .int) (C := RX0) (T := TX0) (N := 9) hx hb hts us_X0_pair_X0 tyX0 tyX0_ok nmX0 hown hK hP hD hS 0 rfl rfl 7 (by decide) (hts (.fieldLink RX0 59 "RollHouse$Alignment" "pitchesDiffer" "I") lk_X0_pair_3) (fun _ h9 => h9) rfl (by decide +kernel) rfl rfl (Nat.le_of_ble_eq_true rfl) dX0_pair_38 (fun H locs hP hD hS => ?_)
    have hP : va_P D vwCl (w_A cI cZ cR ad_a a_notePitches a_noteSteps a1 a_restCost a_notes a_items (a_pairs + 1) (a_pitchesDiffer + 1) a_stepsDiffer ++ w_S cI cZ cR ad_c c_pitches c_steps c_size) H := hP
    have hD : va_D A (w_A cI cZ cR ad_a a_notePitches a_noteSteps a1 a_restCost a_notes a_items (a_pairs + 1) (a_pitchesDiffer + 1) a_stepsDiffer ++ w_S cI cZ cR ad_c c_pitches c_steps c_size) := hD
    exact ml_X0_pair_41 G hK hN hA a_notePitches a_noteSteps c_pitches c_steps v1 v2 post a1 (a_pairs + 1) (a_pitchesDiffer + 1) a_stepsDiffer h H locs hP hD hS ls (lv_sub hl [0, 1, 2, 3] rfl)
set_option maxRecDepth 100000 in
theorem mt_X0_pair (l : Launch) (D : va_G) (cI cZ cR : ClassId) (ad_a : Nat → Nat) (ad_c : Nat → Nat) (sz : Nat) (a_notePitches : Nat → Int32) (a_noteSteps : Nat → Int32) (a_noteOfItem : Nat → Int32) (a_restCost : Nat → Int32) (a_notes : Int32) (a_items : Int32) (a_pairs : Int32) (a_pitchesDiffer : Int32) (a_stepsDiffer : Int32) (c_pitches : Nat → Int32) (c_steps : Nat → Int32) (c_size : Int32) (v1 : Int32) (v2 : Int32) (post : (Nat → Int32) → Int32 → Int32 → Int32 → Prop) (h : wp_X0_pair a_notePitches a_noteSteps c_pitches c_steps v1 v2 a_noteOfItem a_pairs a_pitchesDiffer a_stepsDiffer post) : Met l yX0_pair wsX0_pair ({ frames := 1, cells := 0, slots := 0, locals := 21 }) (gPc D (gT cI cZ cR) (w_A cI cZ cR ad_a a_notePitches a_noteSteps a_noteOfItem a_restCost a_notes a_items a_pairs a_pitchesDiffer a_stepsDiffer ++ w_S cI cZ cR ad_c c_pitches c_steps c_size) sz [.ref (ad_a 0), .int v1, .int v2, .ref (ad_c 0)]) (va_Qv (fun (u : (Nat → Int32) × (Int32) × (Int32) × (Int32)) => post u.1 u.2.1 u.2.2.1 u.2.2.2) (fun u t => gB D (gT cI cZ cR) (va_A (w_A cI cZ cR ad_a a_notePitches a_noteSteps a_noteOfItem a_restCost a_notes a_items a_pairs a_pitchesDiffer a_stepsDiffer ++ w_S cI cZ cR ad_c c_pitches c_steps c_size) sz) (w_A cI cZ cR ad_a a_notePitches a_noteSteps u.1 a_restCost a_notes a_items u.2.1 u.2.2.1 u.2.2.2 ++ w_S cI cZ cR ad_c c_pitches c_steps c_size) t) (va_A (w_A cI cZ cR ad_a a_notePitches a_noteSteps a_noteOfItem a_restCost a_notes a_items a_pairs a_pitchesDiffer a_stepsDiffer ++ w_S cI cZ cR ad_c c_pitches c_steps c_size) sz)) 0 0 (va_A (w_A cI cZ cR ad_a a_notePitches a_noteSteps a_noteOfItem a_restCost a_notes a_items a_pairs a_pitchesDiffer a_stepsDiffer ++ w_S cI cZ cR ad_c c_pitches c_steps c_size) sz) := by
  refine gl_entry (cc := cX0_pair) (maxL := 4) (ret := none) (by decide) rfl (Nat.le_of_ble_eq_true rfl) ?_
  intro p e s m below meth c ls G hin hsz hK hN hP hD hl
  subst hsz
  exact ml_X0_pair_0 G hK hN (fun q h => Or.inr h) a_notePitches a_noteSteps c_pitches c_steps v1 v2 post a_noteOfItem a_pairs a_pitchesDiffer a_stepsDiffer h s.heap [] hP hD va_S.rf ls hl
theorem lk_X0_choose_0 : (Cond.fieldLink RX0 56 "RollHouse$Alignment" "pairs" "I") ∈ wsX0_choose := by decide +kernel
theorem lk_X0_choose_1 : (Cond.fieldLink RX0 59 "RollHouse$Alignment" "pitchesDiffer" "I") ∈ wsX0_choose := by decide +kernel
theorem lk_X0_choose_2 : (Cond.fieldLink RX0 62 "RollHouse$Alignment" "stepsDiffer" "I") ∈ wsX0_choose := by decide +kernel
theorem lk_X0_choose_3 : (Cond.fieldLink RX0 30 "RollHouse$Alignment" "notes" "I") ∈ wsX0_choose := by decide +kernel
theorem lk_X0_choose_4 : (Cond.fieldLink RX0 46 "RollHouse$Alignment" "items" "I") ∈ wsX0_choose := by decide +kernel
theorem lk_X0_choose_5 : (Cond.fieldLink RX0 21 "RollHouse$Alignment" "restCost" "[I") ∈ wsX0_choose := by decide +kernel
theorem lk_X0_choose_6 : (Cond.fieldLink RX0 18 "RollHouse$Alignment" "noteOfItem" "[I") ∈ wsX0_choose := by decide +kernel
theorem us_X0_choose_X0 : ∀ w ∈ u_ws RX0 TX0 9, w ∈ wsX0_choose := by decide +kernel
def wl_X0_choose_120 (a_notePitches : Nat → Int32) (a_noteSteps : Nat → Int32) (a_restCost : Nat → Int32) (a_notes : Int32) (a_items : Int32) (c_pitches : Nat → Int32) (c_steps : Nat → Int32) (post : (Nat → Int32) → Int32 → Int32 → Int32 → Prop) (K30 : (Int32) → (Int32) → (Int32) → (Nat → Int32) → (Int32) → (Int32) → (Int32) → Prop) (v2 : Int32) (v3 : Int32) (v4 : Int32) (a_noteOfItem : Nat → Int32) (a_pairs : Int32) (a_pitchesDiffer : Int32) (a_stepsDiffer : Int32) : Prop := (vp_in v3 40 ∧ (∀ a7 : Nat → Int32, a7 = upd a_noteOfItem v3.toNatClampNeg (-1) → K30 v2 (v3 + 1) (v4 + (-1)) a7 a_pairs a_pitchesDiffer a_stepsDiffer))
def wl_X0_choose_92 (a_notePitches : Nat → Int32) (a_noteSteps : Nat → Int32) (a_restCost : Nat → Int32) (a_notes : Int32) (a_items : Int32) (c_pitches : Nat → Int32) (c_steps : Nat → Int32) (post : (Nat → Int32) → Int32 → Int32 → Int32 → Prop) (K30 : (Int32) → (Int32) → (Int32) → (Nat → Int32) → (Int32) → (Int32) → (Int32) → Prop) (v2 : Int32) (v3 : Int32) (v4 : Int32) (v5 : Int32) (a_noteOfItem : Nat → Int32) (a_pairs : Int32) (a_pitchesDiffer : Int32) (a_stepsDiffer : Int32) : Prop := ((v2 = a_notes → wl_X0_choose_120 a_notePitches a_noteSteps a_restCost a_notes a_items c_pitches c_steps post K30 v2 v3 v4 a_noteOfItem a_pairs a_pitchesDiffer a_stepsDiffer) ∧ (¬ v2 = a_notes → (vp_in (((v2 * 41) + v3) + 1) 2501 ∧ ((¬ (5 + (a_restCost (((v2 * 41) + v3) + 1).toNatClampNeg)) = v5 → K30 (v2 + 1) v3 (v4 + (-1)) a_noteOfItem a_pairs a_pitchesDiffer a_stepsDiffer) ∧ ((5 + (a_restCost (((v2 * 41) + v3) + 1).toNatClampNeg)) = v5 → wl_X0_choose_120 a_notePitches a_noteSteps a_restCost a_notes a_items c_pitches c_steps post K30 v2 v3 v4 a_noteOfItem a_pairs a_pitchesDiffer a_stepsDiffer)))))
def wl_X0_choose_30 (a_notePitches : Nat → Int32) (a_noteSteps : Nat → Int32) (a_restCost : Nat → Int32) (a_notes : Int32) (a_items : Int32) (c_pitches : Nat → Int32) (c_steps : Nat → Int32) (post : (Nat → Int32) → Int32 → Int32 → Int32 → Prop) : Nat → (Int32) → (Int32) → (Int32) → (Nat → Int32) → (Int32) → (Int32) → (Int32) → Prop
  | 0, _, _, _, _, _, _, _ => False
  | fu + 1, v2, v3, v4, a_noteOfItem, a_pairs, a_pitchesDiffer, a_stepsDiffer => ((v4 ≤ 0 → post a_noteOfItem a_pairs a_pitchesDiffer a_stepsDiffer) ∧ (¬ v4 ≤ 0 → ((a_items ≤ v3 → post a_noteOfItem a_pairs a_pitchesDiffer a_stepsDiffer) ∧ (¬ a_items ≤ v3 → (vp_in ((v2 * 41) + v3) 2501 ∧ (∀ z1 : Int32, z1 = a_restCost ((v2 * 41) + v3).toNatClampNeg → ((a_notes ≤ v2 → wl_X0_choose_92 a_notePitches a_noteSteps a_restCost a_notes a_items c_pitches c_steps post (wl_X0_choose_30 a_notePitches a_noteSteps a_restCost a_notes a_items c_pitches c_steps post fu) v2 v3 v4 z1 a_noteOfItem a_pairs a_pitchesDiffer a_stepsDiffer) ∧ (¬ a_notes ≤ v2 → (wp_X0_costFromPair a_notePitches a_noteSteps a_restCost c_pitches c_steps v2 v3 (fun (r2 : Int32) => ((¬ r2 = z1 → wl_X0_choose_92 a_notePitches a_noteSteps a_restCost a_notes a_items c_pitches c_steps post (wl_X0_choose_30 a_notePitches a_noteSteps a_restCost a_notes a_items c_pitches c_steps post fu) v2 v3 v4 z1 a_noteOfItem a_pairs a_pitchesDiffer a_stepsDiffer) ∧ (r2 = z1 → (wp_X0_pair a_notePitches a_noteSteps c_pitches c_steps v2 v3 a_noteOfItem a_pairs a_pitchesDiffer a_stepsDiffer (fun (a3 : Nat → Int32) (z4 : Int32) (z5 : Int32) (z6 : Int32) => wl_X0_choose_30 a_notePitches a_noteSteps a_restCost a_notes a_items c_pitches c_steps post fu (v2 + 1) (v3 + 1) (v4 + (-1)) a3 z4 z5 z6))))))))))))))
def wp_X0_choose (a_notePitches : Nat → Int32) (a_noteSteps : Nat → Int32) (a_restCost : Nat → Int32) (a_notes : Int32) (a_items : Int32) (c_pitches : Nat → Int32) (c_steps : Nat → Int32) (a_noteOfItem : Nat → Int32) (a_pairs : Int32) (a_pitchesDiffer : Int32) (a_stepsDiffer : Int32) (post : (Nat → Int32) → Int32 → Int32 → Int32 → Prop) : Prop := (∃ n, wl_X0_choose_30 a_notePitches a_noteSteps a_restCost a_notes a_items c_pitches c_steps post n 0 0 (a_notes + a_items) a_noteOfItem 0 0 0)
set_option maxRecDepth 100000 in
set_option maxHeartbeats 4000000 in
theorem ml_X0_choose_120 {p : Program} {l : Launch} {e : Env} {s : State} {m : MethodId} {args : Array Value} {below : List Frame} {meth : Method} {c : Code} {D : va_G} {cI cZ cR : ClassId} {A : Nat → Prop} {ad_a : Nat → Nat} {ad_c : Nat → Nat} {c_size : Int32} (G : gG p s m args meth c cX0_choose none 6 RX0 wsX0_choose) (hK : va_K D vwCl (gT cI cZ cR) s) (hN : va_Nw gN s) (hA : ∀ q, s.heap.size ≤ q → A q) (a_notePitches : Nat → Int32) (a_noteSteps : Nat → Int32) (a_restCost : Nat → Int32) (a_notes : Int32) (a_items : Int32) (c_pitches : Nat → Int32) (c_steps : Nat → Int32) (post : (Nat → Int32) → Int32 → Int32 → Int32 → Prop) (K30 : (Int32) → (Int32) → (Int32) → (Nat → Int32) → (Int32) → (Int32) → (Int32) → Prop) (hK30 : ∀ (v2 : Int32) (v3 : Int32) (v4 : Int32) (a_noteOfItem : Nat → Int32) (a_pairs : Int32) (a_pitchesDiffer : Int32) (a_stepsDiffer : Int32), K30 v2 v3 v4 a_noteOfItem a_pairs a_pitchesDiffer a_stepsDiffer → ∀ (H : Heap) (locs : List Loc), va_P D vwCl (w_A cI cZ cR ad_a a_notePitches a_noteSteps a_noteOfItem a_restCost a_notes a_items a_pairs a_pitchesDiffer a_stepsDiffer ++ w_S cI cZ cR ad_c c_pitches c_steps c_size) H → va_D A (w_A cI cZ cR ad_a a_notePitches a_noteSteps a_noteOfItem a_restCost a_notes a_items a_pairs a_pitchesDiffer a_stepsDiffer ++ w_S cI cZ cR ad_c c_pitches c_steps c_size) → va_S A s.heap H locs → ∀ (ls : Array Slot), lv_has ls 6 [(0, .ref (ad_a 0)), (1, .ref (ad_c 0)), (2, .int v2), (3, .int v3), (4, .int v4)] → W p l e { frames := 2, cells := 0, slots := 0, locals := 46 } s m args below meth c H locs 0 0 (MQ below (va_Qv (fun (u : (Nat → Int32) × (Int32) × (Int32) × (Int32)) => post u.1 u.2.1 u.2.2.1 u.2.2.2) (fun u t => gB D (gT cI cZ cR) A (w_A cI cZ cR ad_a a_notePitches a_noteSteps u.1 a_restCost a_notes a_items u.2.1 u.2.2.1 u.2.2.2 ++ w_S cI cZ cR ad_c c_pitches c_steps c_size) t) A) args s 0 0 A) (F0 m 30 ls [])) (v2 : Int32) (v3 : Int32) (v4 : Int32) (a_noteOfItem : Nat → Int32) (a_pairs : Int32) (a_pitchesDiffer : Int32) (a_stepsDiffer : Int32) (h : wl_X0_choose_120 a_notePitches a_noteSteps a_restCost a_notes a_items c_pitches c_steps post K30 v2 v3 v4 a_noteOfItem a_pairs a_pitchesDiffer a_stepsDiffer) : ∀ (H : Heap) (locs : List Loc), va_P D vwCl (w_A cI cZ cR ad_a a_notePitches a_noteSteps a_noteOfItem a_restCost a_notes a_items a_pairs a_pitchesDiffer a_stepsDiffer ++ w_S cI cZ cR ad_c c_pitches c_steps c_size) H → va_D A (w_A cI cZ cR ad_a a_notePitches a_noteSteps a_noteOfItem a_restCost a_notes a_items a_pairs a_pitchesDiffer a_stepsDiffer ++ w_S cI cZ cR ad_c c_pitches c_steps c_size) → va_S A s.heap H locs → ∀ (ls : Array Slot), lv_has ls 6 [(0, .ref (ad_a 0)), (1, .ref (ad_c 0)), (2, .int v2), (3, .int v3), (4, .int v4)] → W p l e { frames := 2, cells := 0, slots := 0, locals := 46 } s m args below meth c H locs 0 0 (MQ below (va_Qv (fun (u : (Nat → Int32) × (Int32) × (Int32) × (Int32)) => post u.1 u.2.1 u.2.2.1 u.2.2.2) (fun u t => gB D (gT cI cZ cR) A (w_A cI cZ cR ad_a a_notePitches a_noteSteps u.1 a_restCost a_notes a_items u.2.1 u.2.2.1 u.2.2.2 ++ w_S cI cZ cR ad_c c_pitches c_steps c_size) t) A) args s 0 0 A) (F0 m 120 ls []) := by
  obtain ⟨hx, hb, hr, hml, hown, hts, hlocks⟩ := id G
  intro H locs hP hD hS ls hl
  unfold wl_X0_choose_120 at h
  refine lv_aload_n hx hb dX0_choose_120 rfl (lv_at hl 0 rfl) ?_
  refine va_get (D := D) (ci := 0) (v := .ref (ad_a 3)) (C := RX0) (T := TX0) (N := 9) hx hb hts us_X0_choose_X0 hown hK hP 0 rfl rfl 2 (by decide) (hts (.fieldLink RX0 18 "RollHouse$Alignment" "noteOfItem" "[I") lk_X0_choose_6) (fun _ h9 => h9) rfl dX0_choose_121 ?_
  refine lv_iload_n hx hb dX0_choose_124 rfl (lv_at hl 3 rfl) ?_
  refine lv_iconst (v := (-1)) hx hb dX0_choose_125 (by decide) ?_
  obtain ⟨hin, h⟩ := h
  refine va_iast hx hb hK hP hD hS 3 0 rfl rfl hin dX0_choose_126 (fun H locs hP hD hS => ?_)
  obtain ⟨a7, ea7⟩ : ∃ f, f = upd a_noteOfItem v3.toNatClampNeg (-1) := ⟨_, rfl⟩
  have h := h a7 ea7
  rw [← ea7] at hP hD
  have hP : va_P D vwCl (w_A cI cZ cR ad_a a_notePitches a_noteSteps a7 a_restCost a_notes a_items a_pairs a_pitchesDiffer a_stepsDiffer ++ w_S cI cZ cR ad_c c_pitches c_steps c_size) H := hP
  have hD : va_D A (w_A cI cZ cR ad_a a_notePitches a_noteSteps a7 a_restCost a_notes a_items a_pairs a_pitchesDiffer a_stepsDiffer ++ w_S cI cZ cR ad_c c_pitches c_steps c_size) := hD
  refine lv_iinc (v := v3 + 1) (lv' := [(3, .int (v3 + 1)), (0, .ref (ad_a 0)), (1, .ref (ad_c 0)), (2, .int v2), (4, .int v4)]) hx hb dX0_choose_127 hl (k := 3) rfl rfl (by decide) rfl (fun ls hl => ?_)
  refine lv_goto (tgt := 136) hx hb dX0_choose_130 (by decide) ?_
  refine lv_iinc (v := v4 + (-1)) (lv' := [(4, .int (v4 + (-1))), (3, .int (v3 + 1)), (0, .ref (ad_a 0)), (1, .ref (ad_c 0)), (2, .int v2)]) hx hb dX0_choose_136 hl (k := 4) rfl rfl (by decide) rfl (fun ls hl => ?_)
  refine lv_goto (tgt := 30) hx hb dX0_choose_139 (by decide) ?_
  exact hK30 v2 (v3 + 1) (v4 + (-1)) a7 a_pairs a_pitchesDiffer a_stepsDiffer h H locs hP hD hS ls (lv_sub hl [2, 3, 4, 1, 0] rfl)
set_option maxRecDepth 100000 in
set_option maxHeartbeats 4000000 in
theorem ml_X0_choose_92 {p : Program} {l : Launch} {e : Env} {s : State} {m : MethodId} {args : Array Value} {below : List Frame} {meth : Method} {c : Code} {D : va_G} {cI cZ cR : ClassId} {A : Nat → Prop} {ad_a : Nat → Nat} {ad_c : Nat → Nat} {c_size : Int32} (G : gG p s m args meth c cX0_choose none 6 RX0 wsX0_choose) (hK : va_K D vwCl (gT cI cZ cR) s) (hN : va_Nw gN s) (hA : ∀ q, s.heap.size ≤ q → A q) (a_notePitches : Nat → Int32) (a_noteSteps : Nat → Int32) (a_restCost : Nat → Int32) (a_notes : Int32) (a_items : Int32) (c_pitches : Nat → Int32) (c_steps : Nat → Int32) (post : (Nat → Int32) → Int32 → Int32 → Int32 → Prop) (K30 : (Int32) → (Int32) → (Int32) → (Nat → Int32) → (Int32) → (Int32) → (Int32) → Prop) (hK30 : ∀ (v2 : Int32) (v3 : Int32) (v4 : Int32) (a_noteOfItem : Nat → Int32) (a_pairs : Int32) (a_pitchesDiffer : Int32) (a_stepsDiffer : Int32), K30 v2 v3 v4 a_noteOfItem a_pairs a_pitchesDiffer a_stepsDiffer → ∀ (H : Heap) (locs : List Loc), va_P D vwCl (w_A cI cZ cR ad_a a_notePitches a_noteSteps a_noteOfItem a_restCost a_notes a_items a_pairs a_pitchesDiffer a_stepsDiffer ++ w_S cI cZ cR ad_c c_pitches c_steps c_size) H → va_D A (w_A cI cZ cR ad_a a_notePitches a_noteSteps a_noteOfItem a_restCost a_notes a_items a_pairs a_pitchesDiffer a_stepsDiffer ++ w_S cI cZ cR ad_c c_pitches c_steps c_size) → va_S A s.heap H locs → ∀ (ls : Array Slot), lv_has ls 6 [(0, .ref (ad_a 0)), (1, .ref (ad_c 0)), (2, .int v2), (3, .int v3), (4, .int v4)] → W p l e { frames := 2, cells := 0, slots := 0, locals := 46 } s m args below meth c H locs 0 0 (MQ below (va_Qv (fun (u : (Nat → Int32) × (Int32) × (Int32) × (Int32)) => post u.1 u.2.1 u.2.2.1 u.2.2.2) (fun u t => gB D (gT cI cZ cR) A (w_A cI cZ cR ad_a a_notePitches a_noteSteps u.1 a_restCost a_notes a_items u.2.1 u.2.2.1 u.2.2.2 ++ w_S cI cZ cR ad_c c_pitches c_steps c_size) t) A) args s 0 0 A) (F0 m 30 ls [])) (v2 : Int32) (v3 : Int32) (v4 : Int32) (v5 : Int32) (a_noteOfItem : Nat → Int32) (a_pairs : Int32) (a_pitchesDiffer : Int32) (a_stepsDiffer : Int32) (h : wl_X0_choose_92 a_notePitches a_noteSteps a_restCost a_notes a_items c_pitches c_steps post K30 v2 v3 v4 v5 a_noteOfItem a_pairs a_pitchesDiffer a_stepsDiffer) : ∀ (H : Heap) (locs : List Loc), va_P D vwCl (w_A cI cZ cR ad_a a_notePitches a_noteSteps a_noteOfItem a_restCost a_notes a_items a_pairs a_pitchesDiffer a_stepsDiffer ++ w_S cI cZ cR ad_c c_pitches c_steps c_size) H → va_D A (w_A cI cZ cR ad_a a_notePitches a_noteSteps a_noteOfItem a_restCost a_notes a_items a_pairs a_pitchesDiffer a_stepsDiffer ++ w_S cI cZ cR ad_c c_pitches c_steps c_size) → va_S A s.heap H locs → ∀ (ls : Array Slot), lv_has ls 6 [(0, .ref (ad_a 0)), (1, .ref (ad_c 0)), (2, .int v2), (3, .int v3), (4, .int v4), (5, .int v5)] → W p l e { frames := 2, cells := 0, slots := 0, locals := 46 } s m args below meth c H locs 0 0 (MQ below (va_Qv (fun (u : (Nat → Int32) × (Int32) × (Int32) × (Int32)) => post u.1 u.2.1 u.2.2.1 u.2.2.2) (fun u t => gB D (gT cI cZ cR) A (w_A cI cZ cR ad_a a_notePitches a_noteSteps u.1 a_restCost a_notes a_items u.2.1 u.2.2.1 u.2.2.2 ++ w_S cI cZ cR ad_c c_pitches c_steps c_size) t) A) args s 0 0 A) (F0 m 92 ls []) := by
  obtain ⟨hx, hb, hr, hml, hown, hts, hlocks⟩ := id G
  intro H locs hP hD hS ls hl
  unfold wl_X0_choose_92 at h
  refine lv_iload_n hx hb dX0_choose_92 rfl (lv_at hl 2 rfl) ?_
  refine lv_aload_n hx hb dX0_choose_93 rfl (lv_at hl 0 rfl) ?_
  refine va_get (D := D) (ci := 0) (v := .int a_notes) (C := RX0) (T := TX0) (N := 9) hx hb hts us_X0_choose_X0 hown hK hP 0 rfl rfl 4 (by decide) (hts (.fieldLink RX0 30 "RollHouse$Alignment" "notes" "I") lk_X0_choose_3) (fun _ h9 => h9) rfl dX0_choose_94 ?_
  refine lv_icmp_eq (tgt := 120) hx hb dX0_choose_97 (by decide) (fun hc => ?_) (fun hc => ?_)
  · have h := h.1 hc
    exact ml_X0_choose_120 G hK hN hA a_notePitches a_noteSteps a_restCost a_notes a_items c_pitches c_steps post K30 hK30 v2 v3 v4 a_noteOfItem a_pairs a_pitchesDiffer a_stepsDiffer h H locs hP hD hS ls (lv_sub hl [0, 1, 2, 3, 4] rfl)
  · have h := h.2 hc
    refine lv_iconst (v := 5) hx hb dX0_choose_100 (by decide) ?_
    refine lv_aload_n hx hb dX0_choose_101 rfl (lv_at hl 0 rfl) ?_
    refine va_get (D := D) (ci := 0) (v := .ref (ad_a 4)) (C := RX0) (T := TX0) (N := 9) hx hb hts us_X0_choose_X0 hown hK hP 0 rfl rfl 3 (by decide) (hts (.fieldLink RX0 21 "RollHouse$Alignment" "restCost" "[I") lk_X0_choose_5) (fun _ h9 => h9) rfl dX0_choose_102 ?_
    refine lv_iload_n hx hb dX0_choose_105 rfl (lv_at hl 2 rfl) ?_
    refine lv_bipush (v := 41) hx hb dX0_choose_106 (by decide) ?_
    refine lv_imul hx hb dX0_choose_108 ?_
    refine lv_iload_n hx hb dX0_choose_109 rfl (lv_at hl 3 rfl) ?_
    refine lv_iadd hx hb dX0_choose_110 ?_
    refine lv_iconst (v := 1) hx hb dX0_choose_111 (by decide) ?_
    refine lv_iadd hx hb dX0_choose_112 ?_
    obtain ⟨hin, h⟩ := h
    refine va_iald hx hb hK hP 4 0 rfl rfl hin dX0_choose_113 ?_
    refine lv_iadd hx hb dX0_choose_114 ?_
    refine lv_iload hx hb dX0_choose_115 (lv_at hl 5 rfl) ?_
    refine lv_icmp_ne (tgt := 133) hx hb dX0_choose_117 (by decide) (fun hc => ?_) (fun hc => ?_)
    · have h := h.1 hc
      refine lv_iinc (v := v2 + 1) (lv' := [(2, .int (v2 + 1)), (0, .ref (ad_a 0)), (1, .ref (ad_c 0)), (3, .int v3), (4, .int v4), (5, .int v5)]) hx hb dX0_choose_133 hl (k := 2) rfl rfl (by decide) rfl (fun ls hl => ?_)
      refine lv_iinc (v := v4 + (-1)) (lv' := [(4, .int (v4 + (-1))), (2, .int (v2 + 1)), (0, .ref (ad_a 0)), (1, .ref (ad_c 0)), (3, .int v3), (5, .int v5)]) hx hb dX0_choose_136 hl (k := 4) rfl rfl (by decide) rfl (fun ls hl => ?_)
      refine lv_goto (tgt := 30) hx hb dX0_choose_139 (by decide) ?_
      exact hK30 (v2 + 1) v3 (v4 + (-1)) a_noteOfItem a_pairs a_pitchesDiffer a_stepsDiffer h H locs hP hD hS ls (lv_sub hl [2, 3, 1, 4, 0] rfl)
    · have h := h.2 hc
      exact ml_X0_choose_120 G hK hN hA a_notePitches a_noteSteps a_restCost a_notes a_items c_pitches c_steps post K30 hK30 v2 v3 v4 a_noteOfItem a_pairs a_pitchesDiffer a_stepsDiffer h H locs hP hD hS ls (lv_sub hl [0, 1, 2, 3, 4] rfl)
set_option maxRecDepth 100000 in
set_option maxHeartbeats 4000000 in
theorem ml_X0_choose_30 {p : Program} {l : Launch} {e : Env} {s : State} {m : MethodId} {args : Array Value} {below : List Frame} {meth : Method} {c : Code} {D : va_G} {cI cZ cR : ClassId} {A : Nat → Prop} {ad_a : Nat → Nat} {ad_c : Nat → Nat} {c_size : Int32} (G : gG p s m args meth c cX0_choose none 6 RX0 wsX0_choose) (hK : va_K D vwCl (gT cI cZ cR) s) (hN : va_Nw gN s) (hA : ∀ q, s.heap.size ≤ q → A q) (a_notePitches : Nat → Int32) (a_noteSteps : Nat → Int32) (a_restCost : Nat → Int32) (a_notes : Int32) (a_items : Int32) (c_pitches : Nat → Int32) (c_steps : Nat → Int32) (post : (Nat → Int32) → Int32 → Int32 → Int32 → Prop) : ∀ (fu : Nat) (v2 : Int32) (v3 : Int32) (v4 : Int32) (a_noteOfItem : Nat → Int32) (a_pairs : Int32) (a_pitchesDiffer : Int32) (a_stepsDiffer : Int32), wl_X0_choose_30 a_notePitches a_noteSteps a_restCost a_notes a_items c_pitches c_steps post fu v2 v3 v4 a_noteOfItem a_pairs a_pitchesDiffer a_stepsDiffer → ∀ (H : Heap) (locs : List Loc), va_P D vwCl (w_A cI cZ cR ad_a a_notePitches a_noteSteps a_noteOfItem a_restCost a_notes a_items a_pairs a_pitchesDiffer a_stepsDiffer ++ w_S cI cZ cR ad_c c_pitches c_steps c_size) H → va_D A (w_A cI cZ cR ad_a a_notePitches a_noteSteps a_noteOfItem a_restCost a_notes a_items a_pairs a_pitchesDiffer a_stepsDiffer ++ w_S cI cZ cR ad_c c_pitches c_steps c_size) → va_S A s.heap H locs → ∀ (ls : Array Slot), lv_has ls 6 [(0, .ref (ad_a 0)), (1, .ref (ad_c 0)), (2, .int v2), (3, .int v3), (4, .int v4)] → W p l e { frames := 2, cells := 0, slots := 0, locals := 46 } s m args below meth c H locs 0 0 (MQ below (va_Qv (fun (u : (Nat → Int32) × (Int32) × (Int32) × (Int32)) => post u.1 u.2.1 u.2.2.1 u.2.2.2) (fun u t => gB D (gT cI cZ cR) A (w_A cI cZ cR ad_a a_notePitches a_noteSteps u.1 a_restCost a_notes a_items u.2.1 u.2.2.1 u.2.2.2 ++ w_S cI cZ cR ad_c c_pitches c_steps c_size) t) A) args s 0 0 A) (F0 m 30 ls []) := by
  obtain ⟨hx, hb, hr, hml, hown, hts, hlocks⟩ := id G
  intro fu
  induction fu with
  | zero =>
    intro v2 v3 v4 a_noteOfItem a_pairs a_pitchesDiffer a_stepsDiffer h
    exact h.elim
  | succ fu ih =>
    intro v2 v3 v4 a_noteOfItem a_pairs a_pitchesDiffer a_stepsDiffer h H locs hP hD hS ls hl
    rw [wl_X0_choose_30] at h
    refine lv_iload hx hb dX0_choose_30 (lv_at hl 4 rfl) ?_
    refine lv_if_le (tgt := 142) hx hb dX0_choose_32 (by decide) (fun hc => ?_) (fun hc => ?_)
    · have h := h.1 hc
      exact gl_retv G hK (u := (a_noteOfItem, a_pairs, a_pitchesDiffer, a_stepsDiffer)) hP hD hS h dX0_choose_142
    · have h := h.2 hc
      refine lv_iload_n hx hb dX0_choose_35 rfl (lv_at hl 3 rfl) ?_
      refine lv_aload_n hx hb dX0_choose_36 rfl (lv_at hl 0 rfl) ?_
      refine va_get (D := D) (ci := 0) (v := .int a_items) (C := RX0) (T := TX0) (N := 9) hx hb hts us_X0_choose_X0 hown hK hP 0 rfl rfl 5 (by decide) (hts (.fieldLink RX0 46 "RollHouse$Alignment" "items" "I") lk_X0_choose_4) (fun _ h9 => h9) rfl dX0_choose_37 ?_
      refine lv_icmp_ge (tgt := 142) hx hb dX0_choose_40 (by decide) (fun hc => ?_) (fun hc => ?_)
      · have h := h.1 hc
        exact gl_retv G hK (u := (a_noteOfItem, a_pairs, a_pitchesDiffer, a_stepsDiffer)) hP hD hS h dX0_choose_142
      · have h := h.2 hc
        refine lv_aload_n hx hb dX0_choose_43 rfl (lv_at hl 0 rfl) ?_
        refine va_get (D := D) (ci := 0) (v := .ref (ad_a 4)) (C := RX0) (T := TX0) (N := 9) hx hb hts us_X0_choose_X0 hown hK hP 0 rfl rfl 3 (by decide) (hts (.fieldLink RX0 21 "RollHouse$Alignment" "restCost" "[I") lk_X0_choose_5) (fun _ h9 => h9) rfl dX0_choose_44 ?_
        refine lv_iload_n hx hb dX0_choose_47 rfl (lv_at hl 2 rfl) ?_
        refine lv_bipush (v := 41) hx hb dX0_choose_48 (by decide) ?_
        refine lv_imul hx hb dX0_choose_50 ?_
        refine lv_iload_n hx hb dX0_choose_51 rfl (lv_at hl 3 rfl) ?_
        refine lv_iadd hx hb dX0_choose_52 ?_
        obtain ⟨hin, h⟩ := h
        refine va_iald hx hb hK hP 4 0 rfl rfl hin dX0_choose_53 ?_
        refine lv_topi (fun z1 ez1 => ?_)
        have h := h z1 ez1
        refine lv_istore (lv' := [(5, .int z1), (0, .ref (ad_a 0)), (1, .ref (ad_c 0)), (2, .int v2), (3, .int v3), (4, .int v4)]) hx hb dX0_choose_54 hl (by decide) rfl (fun ls hl => ?_)
        refine lv_iload_n hx hb dX0_choose_56 rfl (lv_at hl 3 rfl) ?_
        refine lv_aload_n hx hb dX0_choose_57 rfl (lv_at hl 1 rfl) ?_
        refine va_get (D := D) (ci := 0) (v := .int a_notes) (C := RX0) (T := TX0) (N := 9) hx hb hts us_X0_choose_X0 hown hK hP 0 rfl rfl 4 (by decide) (hts (.fieldLink RX0 30 "RollHouse$Alignment" "notes" "I") lk_X0_choose_3) (fun _ h9 => h9) rfl dX0_choose_58 ?_
        refine lv_icmp_ge (tgt := 92) hx hb dX0_choose_61 (by decide) (fun hc => ?_) (fun hc => ?_)
        · have h := h.1 hc
          exact ml_X0_choose_92 G hK hN hA a_notePitches a_noteSteps a_restCost a_notes a_items c_pitches c_steps post (wl_X0_choose_30 a_notePitches a_noteSteps a_restCost a_notes a_items c_pitches c_steps post fu) ih v2 v3 v4 z1 a_noteOfItem a_pairs a_pitchesDiffer a_stepsDiffer h H locs hP hD hS ls (lv_sub hl [1, 2, 3, 4, 5, 0] rfl)
        · have h := h.2 hc
          refine lv_aload_n hx hb dX0_choose_64 rfl (lv_at hl 1 rfl) ?_
          refine lv_iload_n hx hb dX0_choose_65 rfl (lv_at hl 3 rfl) ?_
          refine lv_iload_n hx hb dX0_choose_66 rfl (lv_at hl 4 rfl) ?_
          refine lv_aload_n hx hb dX0_choose_67 rfl (lv_at hl 2 rfl) ?_
          refine gl_calliF (va_runV (As := [.int v2, .int v3, .ref (ad_c 0)]) (rest := []) ⟨hx, hb, hml, hown, hts⟩ (mt_X0_costFromPair l D cI cZ cR ad_a ad_c H.size a_notePitches a_noteSteps a_noteOfItem a_restCost a_notes a_items a_pairs a_pitchesDiffer a_stepsDiffer c_pitches c_steps c_size v2 v3 _ h) (cwV 3 hts gX0_choose_X0_costFromPair rfl rfl rfl (by decide +kernel) ⟨Nat.le_of_ble_eq_true rfl, Nat.le_of_ble_eq_true rfl⟩) ⟨gl_blind, va_recv hK hP (ci := 0) (q0 := 0) rfl rfl, gl_pre hP hK hN hD⟩ rfl rfl hl.1 rfl (lv_room (Nat.le_of_ble_eq_true rfl)) dX0_choose_68 ⟨Nat.le_of_ble_eq_true rfl, Nat.le_of_ble_eq_true rfl⟩) hD hS hA (fun r2 u H locs h hP hD hS => ?_)
          try dsimp only at h
          refine lv_iload hx hb dX0_choose_71 (lv_at hl 0 rfl) ?_
          refine lv_icmp_ne (tgt := 92) hx hb dX0_choose_73 (by decide) (fun hc => ?_) (fun hc => ?_)
          · have h := h.1 hc
            exact ml_X0_choose_92 G hK hN hA a_notePitches a_noteSteps a_restCost a_notes a_items c_pitches c_steps post (wl_X0_choose_30 a_notePitches a_noteSteps a_restCost a_notes a_items c_pitches c_steps post fu) ih v2 v3 v4 z1 a_noteOfItem a_pairs a_pitchesDiffer a_stepsDiffer h H locs hP hD hS ls (lv_sub hl [1, 2, 3, 4, 5, 0] rfl)
          · have h := h.2 hc
            refine lv_aload_n hx hb dX0_choose_76 rfl (lv_at hl 1 rfl) ?_
            refine lv_iload_n hx hb dX0_choose_77 rfl (lv_at hl 3 rfl) ?_
            refine lv_iload_n hx hb dX0_choose_78 rfl (lv_at hl 4 rfl) ?_
            refine lv_aload_n hx hb dX0_choose_79 rfl (lv_at hl 2 rfl) ?_
            refine gl_callvF (va_runV (As := [.int v2, .int v3, .ref (ad_c 0)]) (rest := []) ⟨hx, hb, hml, hown, hts⟩ (mt_X0_pair l D cI cZ cR ad_a ad_c H.size a_notePitches a_noteSteps a_noteOfItem a_restCost a_notes a_items a_pairs a_pitchesDiffer a_stepsDiffer c_pitches c_steps c_size v2 v3 _ h) (cwV 3 hts gX0_choose_X0_pair rfl rfl rfl (by decide +kernel) ⟨Nat.le_of_ble_eq_true rfl, Nat.le_of_ble_eq_true rfl⟩) ⟨gl_blind, va_recv hK hP (ci := 0) (q0 := 0) rfl rfl, gl_pre hP hK hN hD⟩ rfl rfl hl.1 rfl (lv_room (Nat.le_of_ble_eq_true rfl)) dX0_choose_80 ⟨Nat.le_of_ble_eq_true rfl, Nat.le_of_ble_eq_true rfl⟩) hD hS hA (fun u H locs h hP hD hS => ?_)
            obtain ⟨a3, z4, z5, z6⟩ := u
            try dsimp only at h
            have hP : va_P D vwCl (w_A cI cZ cR ad_a a_notePitches a_noteSteps a3 a_restCost a_notes a_items z4 z5 z6 ++ w_S cI cZ cR ad_c c_pitches c_steps c_size) H := hP
            have hD : va_D A (w_A cI cZ cR ad_a a_notePitches a_noteSteps a3 a_restCost a_notes a_items z4 z5 z6 ++ w_S cI cZ cR ad_c c_pitches c_steps c_size) := hD
            refine lv_iinc (v := v2 + 1) (lv' := [(2, .int (v2 + 1)), (5, .int z1), (0, .ref (ad_a 0)), (1, .ref (ad_c 0)), (3, .int v3), (4, .int v4)]) hx hb dX0_choose_83 hl (k := 3) rfl rfl (by decide) rfl (fun ls hl => ?_)
            refine lv_iinc (v := v3 + 1) (lv' := [(3, .int (v3 + 1)), (2, .int (v2 + 1)), (5, .int z1), (0, .ref (ad_a 0)), (1, .ref (ad_c 0)), (4, .int v4)]) hx hb dX0_choose_86 hl (k := 4) rfl rfl (by decide) rfl (fun ls hl => ?_)
            refine lv_goto (tgt := 136) hx hb dX0_choose_89 (by decide) ?_
            refine lv_iinc (v := v4 + (-1)) (lv' := [(4, .int (v4 + (-1))), (3, .int (v3 + 1)), (2, .int (v2 + 1)), (5, .int z1), (0, .ref (ad_a 0)), (1, .ref (ad_c 0))]) hx hb dX0_choose_136 hl (k := 5) rfl rfl (by decide) rfl (fun ls hl => ?_)
            refine lv_goto (tgt := 30) hx hb dX0_choose_139 (by decide) ?_
            exact ih (v2 + 1) (v3 + 1) (v4 + (-1)) a3 z4 z5 z6 h H locs hP hD hS ls (lv_sub hl [4, 5, 2, 1, 0] rfl)
set_option maxRecDepth 100000 in
set_option maxHeartbeats 4000000 in
theorem ml_X0_choose_0 {p : Program} {l : Launch} {e : Env} {s : State} {m : MethodId} {args : Array Value} {below : List Frame} {meth : Method} {c : Code} {D : va_G} {cI cZ cR : ClassId} {A : Nat → Prop} {ad_a : Nat → Nat} {ad_c : Nat → Nat} {c_size : Int32} (G : gG p s m args meth c cX0_choose none 6 RX0 wsX0_choose) (hK : va_K D vwCl (gT cI cZ cR) s) (hN : va_Nw gN s) (hA : ∀ q, s.heap.size ≤ q → A q) (a_notePitches : Nat → Int32) (a_noteSteps : Nat → Int32) (a_restCost : Nat → Int32) (a_notes : Int32) (a_items : Int32) (c_pitches : Nat → Int32) (c_steps : Nat → Int32) (post : (Nat → Int32) → Int32 → Int32 → Int32 → Prop) (a_noteOfItem : Nat → Int32) (a_pairs : Int32) (a_pitchesDiffer : Int32) (a_stepsDiffer : Int32) (h : wp_X0_choose a_notePitches a_noteSteps a_restCost a_notes a_items c_pitches c_steps a_noteOfItem a_pairs a_pitchesDiffer a_stepsDiffer post) : ∀ (H : Heap) (locs : List Loc), va_P D vwCl (w_A cI cZ cR ad_a a_notePitches a_noteSteps a_noteOfItem a_restCost a_notes a_items a_pairs a_pitchesDiffer a_stepsDiffer ++ w_S cI cZ cR ad_c c_pitches c_steps c_size) H → va_D A (w_A cI cZ cR ad_a a_notePitches a_noteSteps a_noteOfItem a_restCost a_notes a_items a_pairs a_pitchesDiffer a_stepsDiffer ++ w_S cI cZ cR ad_c c_pitches c_steps c_size) → va_S A s.heap H locs → ∀ (ls : Array Slot), lv_has ls 6 [(0, .ref (ad_a 0)), (1, .ref (ad_c 0))] → W p l e { frames := 2, cells := 0, slots := 0, locals := 46 } s m args below meth c H locs 0 0 (MQ below (va_Qv (fun (u : (Nat → Int32) × (Int32) × (Int32) × (Int32)) => post u.1 u.2.1 u.2.2.1 u.2.2.2) (fun u t => gB D (gT cI cZ cR) A (w_A cI cZ cR ad_a a_notePitches a_noteSteps u.1 a_restCost a_notes a_items u.2.1 u.2.2.1 u.2.2.2 ++ w_S cI cZ cR ad_c c_pitches c_steps c_size) t) A) args s 0 0 A) (F0 m 0 ls []) := by
  obtain ⟨hx, hb, hr, hml, hown, hts, hlocks⟩ := id G
  intro H locs hP hD hS ls hl
  unfold wp_X0_choose at h
  refine lv_aload_n hx hb dX0_choose_0 rfl (lv_at hl 0 rfl) ?_
  refine lv_iconst (v := 0) hx hb dX0_choose_1 (by decide) ?_
  refine va_put (D := D) (ci := 0) (v := .int 0) (ty := .int) (C := RX0) (T := TX0) (N := 9) hx hb hts us_X0_choose_X0 tyX0 tyX0_ok nmX0 hown hK hP hD hS 0 rfl rfl 6 (by decide) (hts (.fieldLink RX0 56 "RollHouse$Alignment" "pairs" "I") lk_X0_choose_0) (fun _ h9 => h9) rfl (by decide +kernel) rfl rfl (Nat.le_of_ble_eq_true rfl) dX0_choose_2 (fun H locs hP hD hS => ?_)
  have hP : va_P D vwCl (w_A cI cZ cR ad_a a_notePitches a_noteSteps a_noteOfItem a_restCost a_notes a_items 0 a_pitchesDiffer a_stepsDiffer ++ w_S cI cZ cR ad_c c_pitches c_steps c_size) H := hP
  have hD : va_D A (w_A cI cZ cR ad_a a_notePitches a_noteSteps a_noteOfItem a_restCost a_notes a_items 0 a_pitchesDiffer a_stepsDiffer ++ w_S cI cZ cR ad_c c_pitches c_steps c_size) := hD
  refine lv_aload_n hx hb dX0_choose_5 rfl (lv_at hl 0 rfl) ?_
  refine lv_iconst (v := 0) hx hb dX0_choose_6 (by decide) ?_
  refine va_put (D := D) (ci := 0) (v := .int 0) (ty := .int) (C := RX0) (T := TX0) (N := 9) hx hb hts us_X0_choose_X0 tyX0 tyX0_ok nmX0 hown hK hP hD hS 0 rfl rfl 7 (by decide) (hts (.fieldLink RX0 59 "RollHouse$Alignment" "pitchesDiffer" "I") lk_X0_choose_1) (fun _ h9 => h9) rfl (by decide +kernel) rfl rfl (Nat.le_of_ble_eq_true rfl) dX0_choose_7 (fun H locs hP hD hS => ?_)
  have hP : va_P D vwCl (w_A cI cZ cR ad_a a_notePitches a_noteSteps a_noteOfItem a_restCost a_notes a_items 0 0 a_stepsDiffer ++ w_S cI cZ cR ad_c c_pitches c_steps c_size) H := hP
  have hD : va_D A (w_A cI cZ cR ad_a a_notePitches a_noteSteps a_noteOfItem a_restCost a_notes a_items 0 0 a_stepsDiffer ++ w_S cI cZ cR ad_c c_pitches c_steps c_size) := hD
  refine lv_aload_n hx hb dX0_choose_10 rfl (lv_at hl 0 rfl) ?_
  refine lv_iconst (v := 0) hx hb dX0_choose_11 (by decide) ?_
  refine va_put (D := D) (ci := 0) (v := .int 0) (ty := .int) (C := RX0) (T := TX0) (N := 9) hx hb hts us_X0_choose_X0 tyX0 tyX0_ok nmX0 hown hK hP hD hS 0 rfl rfl 8 (by decide) (hts (.fieldLink RX0 62 "RollHouse$Alignment" "stepsDiffer" "I") lk_X0_choose_2) (fun _ h9 => h9) rfl (by decide +kernel) rfl rfl (Nat.le_of_ble_eq_true rfl) dX0_choose_12 (fun H locs hP hD hS => ?_)
  have hP : va_P D vwCl (w_A cI cZ cR ad_a a_notePitches a_noteSteps a_noteOfItem a_restCost a_notes a_items 0 0 0 ++ w_S cI cZ cR ad_c c_pitches c_steps c_size) H := hP
  have hD : va_D A (w_A cI cZ cR ad_a a_notePitches a_noteSteps a_noteOfItem a_restCost a_notes a_items 0 0 0 ++ w_S cI cZ cR ad_c c_pitches c_steps c_size) := hD
  refine lv_iconst (v := 0) hx hb dX0_choose_15 (by decide) ?_
  refine lv_istore_n (lv' := [(2, .int 0), (0, .ref (ad_a 0)), (1, .ref (ad_c 0))]) hx hb dX0_choose_16 rfl hl (by decide) rfl (fun ls hl => ?_)
  refine lv_iconst (v := 0) hx hb dX0_choose_17 (by decide) ?_
  refine lv_istore_n (lv' := [(3, .int 0), (2, .int 0), (0, .ref (ad_a 0)), (1, .ref (ad_c 0))]) hx hb dX0_choose_18 rfl hl (by decide) rfl (fun ls hl => ?_)
  refine lv_aload_n hx hb dX0_choose_19 rfl (lv_at hl 2 rfl) ?_
  refine va_get (D := D) (ci := 0) (v := .int a_notes) (C := RX0) (T := TX0) (N := 9) hx hb hts us_X0_choose_X0 hown hK hP 0 rfl rfl 4 (by decide) (hts (.fieldLink RX0 30 "RollHouse$Alignment" "notes" "I") lk_X0_choose_3) (fun _ h9 => h9) rfl dX0_choose_20 ?_
  refine lv_aload_n hx hb dX0_choose_23 rfl (lv_at hl 2 rfl) ?_
  refine va_get (D := D) (ci := 0) (v := .int a_items) (C := RX0) (T := TX0) (N := 9) hx hb hts us_X0_choose_X0 hown hK hP 0 rfl rfl 5 (by decide) (hts (.fieldLink RX0 46 "RollHouse$Alignment" "items" "I") lk_X0_choose_4) (fun _ h9 => h9) rfl dX0_choose_24 ?_
  refine lv_iadd hx hb dX0_choose_27 ?_
  refine lv_istore (lv' := [(4, .int (a_notes + a_items)), (3, .int 0), (2, .int 0), (0, .ref (ad_a 0)), (1, .ref (ad_c 0))]) hx hb dX0_choose_28 hl (by decide) rfl (fun ls hl => ?_)
  obtain ⟨nf, h⟩ := h
  exact ml_X0_choose_30 G hK hN hA a_notePitches a_noteSteps a_restCost a_notes a_items c_pitches c_steps post nf 0 0 (a_notes + a_items) a_noteOfItem 0 0 0 h H locs hP hD hS ls (lv_sub hl [3, 4, 2, 1, 0] rfl)
set_option maxRecDepth 100000 in
theorem mt_X0_choose (l : Launch) (D : va_G) (cI cZ cR : ClassId) (ad_a : Nat → Nat) (ad_c : Nat → Nat) (sz : Nat) (a_notePitches : Nat → Int32) (a_noteSteps : Nat → Int32) (a_noteOfItem : Nat → Int32) (a_restCost : Nat → Int32) (a_notes : Int32) (a_items : Int32) (a_pairs : Int32) (a_pitchesDiffer : Int32) (a_stepsDiffer : Int32) (c_pitches : Nat → Int32) (c_steps : Nat → Int32) (c_size : Int32) (post : (Nat → Int32) → Int32 → Int32 → Int32 → Prop) (h : wp_X0_choose a_notePitches a_noteSteps a_restCost a_notes a_items c_pitches c_steps a_noteOfItem a_pairs a_pitchesDiffer a_stepsDiffer post) : Met l yX0_choose wsX0_choose ({ frames := 2, cells := 0, slots := 0, locals := 46 }) (gPc D (gT cI cZ cR) (w_A cI cZ cR ad_a a_notePitches a_noteSteps a_noteOfItem a_restCost a_notes a_items a_pairs a_pitchesDiffer a_stepsDiffer ++ w_S cI cZ cR ad_c c_pitches c_steps c_size) sz [.ref (ad_a 0), .ref (ad_c 0)]) (va_Qv (fun (u : (Nat → Int32) × (Int32) × (Int32) × (Int32)) => post u.1 u.2.1 u.2.2.1 u.2.2.2) (fun u t => gB D (gT cI cZ cR) (va_A (w_A cI cZ cR ad_a a_notePitches a_noteSteps a_noteOfItem a_restCost a_notes a_items a_pairs a_pitchesDiffer a_stepsDiffer ++ w_S cI cZ cR ad_c c_pitches c_steps c_size) sz) (w_A cI cZ cR ad_a a_notePitches a_noteSteps u.1 a_restCost a_notes a_items u.2.1 u.2.2.1 u.2.2.2 ++ w_S cI cZ cR ad_c c_pitches c_steps c_size) t) (va_A (w_A cI cZ cR ad_a a_notePitches a_noteSteps a_noteOfItem a_restCost a_notes a_items a_pairs a_pitchesDiffer a_stepsDiffer ++ w_S cI cZ cR ad_c c_pitches c_steps c_size) sz)) 0 0 (va_A (w_A cI cZ cR ad_a a_notePitches a_noteSteps a_noteOfItem a_restCost a_notes a_items a_pairs a_pitchesDiffer a_stepsDiffer ++ w_S cI cZ cR ad_c c_pitches c_steps c_size) sz) := by
  refine gl_entry (cc := cX0_choose) (maxL := 6) (ret := none) (by decide) rfl (Nat.le_of_ble_eq_true rfl) ?_
  intro p e s m below meth c ls G hin hsz hK hN hP hD hl
  subst hsz
  exact ml_X0_choose_0 G hK hN (fun q h => Or.inr h) a_notePitches a_noteSteps a_restCost a_notes a_items c_pitches c_steps post a_noteOfItem a_pairs a_pitchesDiffer a_stepsDiffer h s.heap [] hP hD va_S.rf ls hl
theorem lk_X0_reckon_0 : (Cond.fieldLink RX0 30 "RollHouse$Alignment" "notes" "I") ∈ wsX0_reckon := by decide +kernel
theorem lk_X0_reckon_1 : (Cond.fieldLink RX0 46 "RollHouse$Alignment" "items" "I") ∈ wsX0_reckon := by decide +kernel
theorem lk_X0_reckon_2 : (Cond.fieldLink RX0 9 "RollHouse$Alignment" "notePitches" "[I") ∈ wsX0_reckon := by decide +kernel
theorem lk_X0_reckon_3 : (Cond.fieldLink RX0 15 "RollHouse$Alignment" "noteSteps" "[I") ∈ wsX0_reckon := by decide +kernel
theorem us_X0_reckon_X0 : ∀ w ∈ u_ws RX0 TX0 9, w ∈ wsX0_reckon := by decide +kernel
def wl_X0_reckon_10 (r_pitches : Nat → Int32) (r_firstSteps : Nat → Int32) (r_size : Int32) (c_pitches : Nat → Int32) (c_steps : Nat → Int32) (c_size : Int32) (post : (Nat → Int32) → (Nat → Int32) → (Nat → Int32) → (Nat → Int32) → Int32 → Int32 → Int32 → Int32 → Int32 → Prop) : Nat → (Int32) → (Nat → Int32) → (Nat → Int32) → (Nat → Int32) → (Nat → Int32) → (Int32) → (Int32) → (Int32) → (Int32) → (Int32) → Prop
  | 0, _, _, _, _, _, _, _, _, _, _ => False
  | fu + 1, v3, a_notePitches, a_noteSteps, a_noteOfItem, a_restCost, a_notes, a_items, a_pairs, a_pitchesDiffer, a_stepsDiffer => ((a_notes ≤ v3 → (wp_X5_size c_size (fun (r2 : Int32) => (wp_X0_reckonCosts a_notePitches a_noteSteps a_notes r2 c_pitches c_steps a_restCost (fun (a3 : Nat → Int32) => (wp_X0_choose a_notePitches a_noteSteps a3 a_notes r2 c_pitches c_steps a_noteOfItem a_pairs a_pitchesDiffer a_stepsDiffer (fun (a4 : Nat → Int32) (z5 : Int32) (z6 : Int32) (z7 : Int32) => post a_notePitches a_noteSteps a4 a3 a_notes r2 z5 z6 z7))))))) ∧ (¬ a_notes ≤ v3 → (wp_X4_pitchOf r_pitches v3 (fun (r8 : Int32) => (vp_in v3 60 ∧ (∀ a9 : Nat → Int32, a9 = upd a_notePitches v3.toNatClampNeg r8 → (wp_X4_firstStepOf r_firstSteps v3 (fun (r10 : Int32) => (vp_in v3 60 ∧ (∀ a11 : Nat → Int32, a11 = upd a_noteSteps v3.toNatClampNeg r10 → wl_X0_reckon_10 r_pitches r_firstSteps r_size c_pitches c_steps c_size post fu (v3 + 1) a9 a11 a_noteOfItem a_restCost a_notes a_items a_pairs a_pitchesDiffer a_stepsDiffer))))))))))
def wp_X0_reckon (r_pitches : Nat → Int32) (r_firstSteps : Nat → Int32) (r_size : Int32) (c_pitches : Nat → Int32) (c_steps : Nat → Int32) (c_size : Int32) (a_notePitches : Nat → Int32) (a_noteSteps : Nat → Int32) (a_noteOfItem : Nat → Int32) (a_restCost : Nat → Int32) (a_notes : Int32) (a_items : Int32) (a_pairs : Int32) (a_pitchesDiffer : Int32) (a_stepsDiffer : Int32) (post : (Nat → Int32) → (Nat → Int32) → (Nat → Int32) → (Nat → Int32) → Int32 → Int32 → Int32 → Int32 → Int32 → Prop) : Prop := (wp_X4_noteCount r_size (fun (r1 : Int32) => (∃ n, wl_X0_reckon_10 r_pitches r_firstSteps r_size c_pitches c_steps c_size post n 0 a_notePitches a_noteSteps a_noteOfItem a_restCost r1 a_items a_pairs a_pitchesDiffer a_stepsDiffer)))
set_option maxRecDepth 100000 in
set_option maxHeartbeats 4000000 in
theorem ml_X0_reckon_10 {p : Program} {l : Launch} {e : Env} {s : State} {m : MethodId} {args : Array Value} {below : List Frame} {meth : Method} {c : Code} {D : va_G} {cI cZ cR : ClassId} {A : Nat → Prop} {ad_a : Nat → Nat} {ad_r : Nat → Nat} {ad_c : Nat → Nat} {r_lengths : Nat → Int32} {r_held : Nat → Int32} {r_punched : Nat → Int32} {r_markedTicks : Nat → Int32} {r_marks : Int32} (G : gG p s m args meth c cX0_reckon none 4 RX0 wsX0_reckon) (hK : va_K D vwCl (gT cI cZ cR) s) (hN : va_Nw gN s) (hA : ∀ q, s.heap.size ≤ q → A q) (r_pitches : Nat → Int32) (r_firstSteps : Nat → Int32) (r_size : Int32) (c_pitches : Nat → Int32) (c_steps : Nat → Int32) (c_size : Int32) (post : (Nat → Int32) → (Nat → Int32) → (Nat → Int32) → (Nat → Int32) → Int32 → Int32 → Int32 → Int32 → Int32 → Prop) : ∀ (fu : Nat) (v3 : Int32) (a_notePitches : Nat → Int32) (a_noteSteps : Nat → Int32) (a_noteOfItem : Nat → Int32) (a_restCost : Nat → Int32) (a_notes : Int32) (a_items : Int32) (a_pairs : Int32) (a_pitchesDiffer : Int32) (a_stepsDiffer : Int32), wl_X0_reckon_10 r_pitches r_firstSteps r_size c_pitches c_steps c_size post fu v3 a_notePitches a_noteSteps a_noteOfItem a_restCost a_notes a_items a_pairs a_pitchesDiffer a_stepsDiffer → ∀ (H : Heap) (locs : List Loc), va_P D vwCl (w_A cI cZ cR ad_a a_notePitches a_noteSteps a_noteOfItem a_restCost a_notes a_items a_pairs a_pitchesDiffer a_stepsDiffer ++ w_R cI cZ cR ad_r r_pitches r_firstSteps r_lengths r_size r_held r_punched r_markedTicks r_marks ++ w_S cI cZ cR ad_c c_pitches c_steps c_size) H → va_D A (w_A cI cZ cR ad_a a_notePitches a_noteSteps a_noteOfItem a_restCost a_notes a_items a_pairs a_pitchesDiffer a_stepsDiffer ++ w_R cI cZ cR ad_r r_pitches r_firstSteps r_lengths r_size r_held r_punched r_markedTicks r_marks ++ w_S cI cZ cR ad_c c_pitches c_steps c_size) → va_S A s.heap H locs → ∀ (ls : Array Slot), lv_has ls 4 [(0, .ref (ad_a 0)), (1, .ref (ad_r 0)), (2, .ref (ad_c 0)), (3, .int v3)] → W p l e { frames := 4, cells := 0, slots := 0, locals := 93 } s m args below meth c H locs 0 0 (MQ below (va_Qv (fun (u : (Nat → Int32) × (Nat → Int32) × (Nat → Int32) × (Nat → Int32) × (Int32) × (Int32) × (Int32) × (Int32) × (Int32)) => post u.1 u.2.1 u.2.2.1 u.2.2.2.1 u.2.2.2.2.1 u.2.2.2.2.2.1 u.2.2.2.2.2.2.1 u.2.2.2.2.2.2.2.1 u.2.2.2.2.2.2.2.2) (fun u t => gB D (gT cI cZ cR) A (w_A cI cZ cR ad_a u.1 u.2.1 u.2.2.1 u.2.2.2.1 u.2.2.2.2.1 u.2.2.2.2.2.1 u.2.2.2.2.2.2.1 u.2.2.2.2.2.2.2.1 u.2.2.2.2.2.2.2.2 ++ w_R cI cZ cR ad_r r_pitches r_firstSteps r_lengths r_size r_held r_punched r_markedTicks r_marks ++ w_S cI cZ cR ad_c c_pitches c_steps c_size) t) A) args s 0 0 A) (F0 m 10 ls []) := by
  obtain ⟨hx, hb, hr, hml, hown, hts, hlocks⟩ := id G
  intro fu
  induction fu with
  | zero =>
    intro v3 a_notePitches a_noteSteps a_noteOfItem a_restCost a_notes a_items a_pairs a_pitchesDiffer a_stepsDiffer h
    exact h.elim
  | succ fu ih =>
    intro v3 a_notePitches a_noteSteps a_noteOfItem a_restCost a_notes a_items a_pairs a_pitchesDiffer a_stepsDiffer h H locs hP hD hS ls hl
    rw [wl_X0_reckon_10] at h
    refine lv_iload_n hx hb dX0_reckon_10 rfl (lv_at hl 3 rfl) ?_
    refine lv_aload_n hx hb dX0_reckon_11 rfl (lv_at hl 0 rfl) ?_
    refine va_get (D := D) (ci := 0) (v := .int a_notes) (C := RX0) (T := TX0) (N := 9) hx hb hts us_X0_reckon_X0 hown hK hP 0 rfl rfl 4 (by decide) (hts (.fieldLink RX0 30 "RollHouse$Alignment" "notes" "I") lk_X0_reckon_0) (fun _ h9 => h9) rfl dX0_reckon_12 ?_
    refine lv_icmp_ge (tgt := 46) hx hb dX0_reckon_15 (by decide) (fun hc => ?_) (fun hc => ?_)
    · have h := h.1 hc
      refine lv_aload_n hx hb dX0_reckon_46 rfl (lv_at hl 0 rfl) ?_
      refine lv_aload_n hx hb dX0_reckon_47 rfl (lv_at hl 2 rfl) ?_
      have hPc := hP.sub (ws' := w_S cI cZ cR ad_c c_pitches c_steps c_size) [12, 13, 14] rfl
      have hDc := hD.sub (ws' := w_S cI cZ cR ad_c c_pitches c_steps c_size) [12, 13, 14] (by decide) rfl
      refine gl_calli (wr := w_A cI cZ cR ad_a a_notePitches a_noteSteps a_noteOfItem a_restCost a_notes a_items a_pairs a_pitchesDiffer a_stepsDiffer ++ w_R cI cZ cR ad_r r_pitches r_firstSteps r_lengths r_size r_held r_punched r_markedTicks r_marks) (va_runV (As := []) (rest := [.ref (ad_a 0)]) ⟨hx, hb, hml, hown, hts⟩ (mt_X5_size l D cI cZ cR ad_c H.size c_pitches c_steps c_size _ h) (cwV 0 hts gX0_reckon_X5_size rfl rfl rfl (by decide +kernel) ⟨Nat.le_of_ble_eq_true rfl, Nat.le_of_ble_eq_true rfl⟩) ⟨gl_blind, va_recv hK hPc (ci := 5) (q0 := 0) rfl rfl, gl_pre hPc hK hN hDc⟩ rfl rfl hl.1 rfl (lv_room (Nat.le_of_ble_eq_true rfl)) dX0_reckon_48 ⟨Nat.le_of_ble_eq_true rfl, Nat.le_of_ble_eq_true rfl⟩) hP hD hS hA [12, 13, 14] [0, 1, 2, 3, 4, 5, 6, 7, 8, 9, 10, 11] rfl rfl (by decide) (by decide) (fun r2 u H locs h hP hD hS => ?_)
      try dsimp only at h
      have hP := hP.sub (ws' := w_A cI cZ cR ad_a a_notePitches a_noteSteps a_noteOfItem a_restCost a_notes a_items a_pairs a_pitchesDiffer a_stepsDiffer ++ w_R cI cZ cR ad_r r_pitches r_firstSteps r_lengths r_size r_held r_punched r_markedTicks r_marks ++ w_S cI cZ cR ad_c c_pitches c_steps c_size) [0, 1, 2, 3, 4, 5, 6, 7, 8, 9, 10, 11, 12, 13, 14] rfl
      have hD := hD.sub (ws' := w_A cI cZ cR ad_a a_notePitches a_noteSteps a_noteOfItem a_restCost a_notes a_items a_pairs a_pitchesDiffer a_stepsDiffer ++ w_R cI cZ cR ad_r r_pitches r_firstSteps r_lengths r_size r_held r_punched r_markedTicks r_marks ++ w_S cI cZ cR ad_c c_pitches c_steps c_size) [0, 1, 2, 3, 4, 5, 6, 7, 8, 9, 10, 11, 12, 13, 14] (by decide) rfl
      refine va_put (D := D) (ci := 0) (v := .int r2) (ty := .int) (C := RX0) (T := TX0) (N := 9) hx hb hts us_X0_reckon_X0 tyX0 tyX0_ok nmX0 hown hK hP hD hS 0 rfl rfl 5 (by decide) (hts (.fieldLink RX0 46 "RollHouse$Alignment" "items" "I") lk_X0_reckon_1) (fun _ h9 => h9) rfl (by decide +kernel) rfl rfl (Nat.le_of_ble_eq_true rfl) dX0_reckon_51 (fun H locs hP hD hS => ?_)
      have hP : va_P D vwCl (w_A cI cZ cR ad_a a_notePitches a_noteSteps a_noteOfItem a_restCost a_notes r2 a_pairs a_pitchesDiffer a_stepsDiffer ++ w_R cI cZ cR ad_r r_pitches r_firstSteps r_lengths r_size r_held r_punched r_markedTicks r_marks ++ w_S cI cZ cR ad_c c_pitches c_steps c_size) H := hP
      have hD : va_D A (w_A cI cZ cR ad_a a_notePitches a_noteSteps a_noteOfItem a_restCost a_notes r2 a_pairs a_pitchesDiffer a_stepsDiffer ++ w_R cI cZ cR ad_r r_pitches r_firstSteps r_lengths r_size r_held r_punched r_markedTicks r_marks ++ w_S cI cZ cR ad_c c_pitches c_steps c_size) := hD
      refine lv_aload_n hx hb dX0_reckon_54 rfl (lv_at hl 0 rfl) ?_
      refine lv_aload_n hx hb dX0_reckon_55 rfl (lv_at hl 2 rfl) ?_
      have hPc := hP.sub (ws' := w_A cI cZ cR ad_a a_notePitches a_noteSteps a_noteOfItem a_restCost a_notes r2 a_pairs a_pitchesDiffer a_stepsDiffer ++ w_S cI cZ cR ad_c c_pitches c_steps c_size) [0, 1, 2, 3, 4, 12, 13, 14] rfl
      have hDc := hD.sub (ws' := w_A cI cZ cR ad_a a_notePitches a_noteSteps a_noteOfItem a_restCost a_notes r2 a_pairs a_pitchesDiffer a_stepsDiffer ++ w_S cI cZ cR ad_c c_pitches c_steps c_size) [0, 1, 2, 3, 4, 12, 13, 14] (by decide) rfl
      refine gl_callv (wr := w_R cI cZ cR ad_r r_pitches r_firstSteps r_lengths r_size r_held r_punched r_markedTicks r_marks) (va_runV (As := [.ref (ad_c 0)]) (rest := []) ⟨hx, hb, hml, hown, hts⟩ (mt_X0_reckonCosts l D cI cZ cR ad_a ad_c H.size a_notePitches a_noteSteps a_noteOfItem a_restCost a_notes r2 a_pairs a_pitchesDiffer a_stepsDiffer c_pitches c_steps c_size _ h) (cwV 1 hts gX0_reckon_X0_reckonCosts rfl rfl rfl (by decide +kernel) ⟨Nat.le_of_ble_eq_true rfl, Nat.le_of_ble_eq_true rfl⟩) ⟨gl_blind, va_recv hK hPc (ci := 0) (q0 := 0) rfl rfl, gl_pre hPc hK hN hDc⟩ rfl rfl hl.1 rfl (lv_room (Nat.le_of_ble_eq_true rfl)) dX0_reckon_56 ⟨Nat.le_of_ble_eq_true rfl, Nat.le_of_ble_eq_true rfl⟩) hP hD hS hA [0, 1, 2, 3, 4, 12, 13, 14] [5, 6, 7, 8, 9, 10, 11] rfl rfl (by decide) (by decide) (fun u H locs h hP hD hS => ?_)
      obtain ⟨a3, rfl⟩ : ∃ z, z = u := ⟨_, rfl⟩
      have hP := hP.sub (ws' := w_A cI cZ cR ad_a a_notePitches a_noteSteps a_noteOfItem a3 a_notes r2 a_pairs a_pitchesDiffer a_stepsDiffer ++ w_R cI cZ cR ad_r r_pitches r_firstSteps r_lengths r_size r_held r_punched r_markedTicks r_marks ++ w_S cI cZ cR ad_c c_pitches c_steps c_size) [7, 8, 9, 10, 11, 0, 1, 2, 3, 4, 5, 6, 12, 13, 14] rfl
      have hD := hD.sub (ws' := w_A cI cZ cR ad_a a_notePitches a_noteSteps a_noteOfItem a3 a_notes r2 a_pairs a_pitchesDiffer a_stepsDiffer ++ w_R cI cZ cR ad_r r_pitches r_firstSteps r_lengths r_size r_held r_punched r_markedTicks r_marks ++ w_S cI cZ cR ad_c c_pitches c_steps c_size) [7, 8, 9, 10, 11, 0, 1, 2, 3, 4, 5, 6, 12, 13, 14] (by decide) rfl
      refine lv_aload_n hx hb dX0_reckon_59 rfl (lv_at hl 0 rfl) ?_
      refine lv_aload_n hx hb dX0_reckon_60 rfl (lv_at hl 2 rfl) ?_
      have hPc := hP.sub (ws' := w_A cI cZ cR ad_a a_notePitches a_noteSteps a_noteOfItem a3 a_notes r2 a_pairs a_pitchesDiffer a_stepsDiffer ++ w_S cI cZ cR ad_c c_pitches c_steps c_size) [0, 1, 2, 3, 4, 12, 13, 14] rfl
      have hDc := hD.sub (ws' := w_A cI cZ cR ad_a a_notePitches a_noteSteps a_noteOfItem a3 a_notes r2 a_pairs a_pitchesDiffer a_stepsDiffer ++ w_S cI cZ cR ad_c c_pitches c_steps c_size) [0, 1, 2, 3, 4, 12, 13, 14] (by decide) rfl
      refine gl_callv (wr := w_R cI cZ cR ad_r r_pitches r_firstSteps r_lengths r_size r_held r_punched r_markedTicks r_marks) (va_runV (As := [.ref (ad_c 0)]) (rest := []) ⟨hx, hb, hml, hown, hts⟩ (mt_X0_choose l D cI cZ cR ad_a ad_c H.size a_notePitches a_noteSteps a_noteOfItem a3 a_notes r2 a_pairs a_pitchesDiffer a_stepsDiffer c_pitches c_steps c_size _ h) (cwV 1 hts gX0_reckon_X0_choose rfl rfl rfl (by decide +kernel) ⟨Nat.le_of_ble_eq_true rfl, Nat.le_of_ble_eq_true rfl⟩) ⟨gl_blind, va_recv hK hPc (ci := 0) (q0 := 0) rfl rfl, gl_pre hPc hK hN hDc⟩ rfl rfl hl.1 rfl (lv_room (Nat.le_of_ble_eq_true rfl)) dX0_reckon_61 ⟨Nat.le_of_ble_eq_true rfl, Nat.le_of_ble_eq_true rfl⟩) hP hD hS hA [0, 1, 2, 3, 4, 12, 13, 14] [5, 6, 7, 8, 9, 10, 11] rfl rfl (by decide) (by decide) (fun u H locs h hP hD hS => ?_)
      obtain ⟨a4, z5, z6, z7⟩ := u
      try dsimp only at h
      have hP := hP.sub (ws' := w_A cI cZ cR ad_a a_notePitches a_noteSteps a4 a3 a_notes r2 z5 z6 z7 ++ w_R cI cZ cR ad_r r_pitches r_firstSteps r_lengths r_size r_held r_punched r_markedTicks r_marks ++ w_S cI cZ cR ad_c c_pitches c_steps c_size) [7, 8, 9, 10, 11, 0, 1, 2, 3, 4, 5, 6, 12, 13, 14] rfl
      have hD := hD.sub (ws' := w_A cI cZ cR ad_a a_notePitches a_noteSteps a4 a3 a_notes r2 z5 z6 z7 ++ w_R cI cZ cR ad_r r_pitches r_firstSteps r_lengths r_size r_held r_punched r_markedTicks r_marks ++ w_S cI cZ cR ad_c c_pitches c_steps c_size) [7, 8, 9, 10, 11, 0, 1, 2, 3, 4, 5, 6, 12, 13, 14] (by decide) rfl
      exact gl_retv G hK (u := (a_notePitches, a_noteSteps, a4, a3, a_notes, r2, z5, z6, z7)) hP hD hS h dX0_reckon_64
    · have h := h.2 hc
      refine lv_aload_n hx hb dX0_reckon_18 rfl (lv_at hl 0 rfl) ?_
      refine va_get (D := D) (ci := 0) (v := .ref (ad_a 1)) (C := RX0) (T := TX0) (N := 9) hx hb hts us_X0_reckon_X0 hown hK hP 0 rfl rfl 0 (by decide) (hts (.fieldLink RX0 9 "RollHouse$Alignment" "notePitches" "[I") lk_X0_reckon_2) (fun _ h9 => h9) rfl dX0_reckon_19 ?_
      refine lv_iload_n hx hb dX0_reckon_22 rfl (lv_at hl 3 rfl) ?_
      refine lv_aload_n hx hb dX0_reckon_23 rfl (lv_at hl 1 rfl) ?_
      refine lv_iload_n hx hb dX0_reckon_24 rfl (lv_at hl 3 rfl) ?_
      have hPc := hP.sub (ws' := w_R cI cZ cR ad_r r_pitches r_firstSteps r_lengths r_size r_held r_punched r_markedTicks r_marks) [5, 6, 7, 8, 9, 10, 11] rfl
      have hDc := hD.sub (ws' := w_R cI cZ cR ad_r r_pitches r_firstSteps r_lengths r_size r_held r_punched r_markedTicks r_marks) [5, 6, 7, 8, 9, 10, 11] (by decide) rfl
      refine gl_calli (wr := w_A cI cZ cR ad_a a_notePitches a_noteSteps a_noteOfItem a_restCost a_notes a_items a_pairs a_pitchesDiffer a_stepsDiffer ++ w_S cI cZ cR ad_c c_pitches c_steps c_size) (va_runV (As := [.int v3]) (rest := [.int v3, .ref (ad_a 1)]) ⟨hx, hb, hml, hown, hts⟩ (mt_X4_pitchOf l D cI cZ cR ad_r H.size r_pitches r_firstSteps r_lengths r_size r_held r_punched r_markedTicks r_marks v3 _ h) (cwV 1 hts gX0_reckon_X4_pitchOf rfl rfl rfl (by decide +kernel) ⟨Nat.le_of_ble_eq_true rfl, Nat.le_of_ble_eq_true rfl⟩) ⟨gl_blind, va_recv hK hPc (ci := 4) (q0 := 0) rfl rfl, gl_pre hPc hK hN hDc⟩ rfl rfl hl.1 rfl (lv_room (Nat.le_of_ble_eq_true rfl)) dX0_reckon_25 ⟨Nat.le_of_ble_eq_true rfl, Nat.le_of_ble_eq_true rfl⟩) hP hD hS hA [5, 6, 7, 8, 9, 10, 11] [0, 1, 2, 3, 4, 12, 13, 14] rfl rfl (by decide) (by decide) (fun r8 u H locs h hP hD hS => ?_)
      try dsimp only at h
      have hP := hP.sub (ws' := w_A cI cZ cR ad_a a_notePitches a_noteSteps a_noteOfItem a_restCost a_notes a_items a_pairs a_pitchesDiffer a_stepsDiffer ++ w_R cI cZ cR ad_r r_pitches r_firstSteps r_lengths r_size r_held r_punched r_markedTicks r_marks ++ w_S cI cZ cR ad_c c_pitches c_steps c_size) [0, 1, 2, 3, 4, 8, 9, 10, 11, 12, 13, 14, 5, 6, 7] rfl
      have hD := hD.sub (ws' := w_A cI cZ cR ad_a a_notePitches a_noteSteps a_noteOfItem a_restCost a_notes a_items a_pairs a_pitchesDiffer a_stepsDiffer ++ w_R cI cZ cR ad_r r_pitches r_firstSteps r_lengths r_size r_held r_punched r_markedTicks r_marks ++ w_S cI cZ cR ad_c c_pitches c_steps c_size) [0, 1, 2, 3, 4, 8, 9, 10, 11, 12, 13, 14, 5, 6, 7] (by decide) rfl
      obtain ⟨hin, h⟩ := h
      refine va_iast hx hb hK hP hD hS 1 0 rfl rfl hin dX0_reckon_28 (fun H locs hP hD hS => ?_)
      obtain ⟨a9, ea9⟩ : ∃ f, f = upd a_notePitches v3.toNatClampNeg r8 := ⟨_, rfl⟩
      have h := h a9 ea9
      rw [← ea9] at hP hD
      have hP : va_P D vwCl (w_A cI cZ cR ad_a a9 a_noteSteps a_noteOfItem a_restCost a_notes a_items a_pairs a_pitchesDiffer a_stepsDiffer ++ w_R cI cZ cR ad_r r_pitches r_firstSteps r_lengths r_size r_held r_punched r_markedTicks r_marks ++ w_S cI cZ cR ad_c c_pitches c_steps c_size) H := hP
      have hD : va_D A (w_A cI cZ cR ad_a a9 a_noteSteps a_noteOfItem a_restCost a_notes a_items a_pairs a_pitchesDiffer a_stepsDiffer ++ w_R cI cZ cR ad_r r_pitches r_firstSteps r_lengths r_size r_held r_punched r_markedTicks r_marks ++ w_S cI cZ cR ad_c c_pitches c_steps c_size) := hD
      refine lv_aload_n hx hb dX0_reckon_29 rfl (lv_at hl 0 rfl) ?_
      refine va_get (D := D) (ci := 0) (v := .ref (ad_a 2)) (C := RX0) (T := TX0) (N := 9) hx hb hts us_X0_reckon_X0 hown hK hP 0 rfl rfl 1 (by decide) (hts (.fieldLink RX0 15 "RollHouse$Alignment" "noteSteps" "[I") lk_X0_reckon_3) (fun _ h9 => h9) rfl dX0_reckon_30 ?_
      refine lv_iload_n hx hb dX0_reckon_33 rfl (lv_at hl 3 rfl) ?_
      refine lv_aload_n hx hb dX0_reckon_34 rfl (lv_at hl 1 rfl) ?_
      refine lv_iload_n hx hb dX0_reckon_35 rfl (lv_at hl 3 rfl) ?_
      have hPc := hP.sub (ws' := w_R cI cZ cR ad_r r_pitches r_firstSteps r_lengths r_size r_held r_punched r_markedTicks r_marks) [5, 6, 7, 8, 9, 10, 11] rfl
      have hDc := hD.sub (ws' := w_R cI cZ cR ad_r r_pitches r_firstSteps r_lengths r_size r_held r_punched r_markedTicks r_marks) [5, 6, 7, 8, 9, 10, 11] (by decide) rfl
      refine gl_calli (wr := w_A cI cZ cR ad_a a9 a_noteSteps a_noteOfItem a_restCost a_notes a_items a_pairs a_pitchesDiffer a_stepsDiffer ++ w_S cI cZ cR ad_c c_pitches c_steps c_size) (va_runV (As := [.int v3]) (rest := [.int v3, .ref (ad_a 2)]) ⟨hx, hb, hml, hown, hts⟩ (mt_X4_firstStepOf l D cI cZ cR ad_r H.size r_pitches r_firstSteps r_lengths r_size r_held r_punched r_markedTicks r_marks v3 _ h) (cwV 1 hts gX0_reckon_X4_firstStepOf rfl rfl rfl (by decide +kernel) ⟨Nat.le_of_ble_eq_true rfl, Nat.le_of_ble_eq_true rfl⟩) ⟨gl_blind, va_recv hK hPc (ci := 4) (q0 := 0) rfl rfl, gl_pre hPc hK hN hDc⟩ rfl rfl hl.1 rfl (lv_room (Nat.le_of_ble_eq_true rfl)) dX0_reckon_36 ⟨Nat.le_of_ble_eq_true rfl, Nat.le_of_ble_eq_true rfl⟩) hP hD hS hA [5, 6, 7, 8, 9, 10, 11] [0, 1, 2, 3, 4, 12, 13, 14] rfl rfl (by decide) (by decide) (fun r10 u H locs h hP hD hS => ?_)
      try dsimp only at h
      have hP := hP.sub (ws' := w_A cI cZ cR ad_a a9 a_noteSteps a_noteOfItem a_restCost a_notes a_items a_pairs a_pitchesDiffer a_stepsDiffer ++ w_R cI cZ cR ad_r r_pitches r_firstSteps r_lengths r_size r_held r_punched r_markedTicks r_marks ++ w_S cI cZ cR ad_c c_pitches c_steps c_size) [0, 1, 2, 3, 4, 8, 9, 10, 11, 12, 13, 14, 5, 6, 7] rfl
      have hD := hD.sub (ws' := w_A cI cZ cR ad_a a9 a_noteSteps a_noteOfItem a_restCost a_notes a_items a_pairs a_pitchesDiffer a_stepsDiffer ++ w_R cI cZ cR ad_r r_pitches r_firstSteps r_lengths r_size r_held r_punched r_markedTicks r_marks ++ w_S cI cZ cR ad_c c_pitches c_steps c_size) [0, 1, 2, 3, 4, 8, 9, 10, 11, 12, 13, 14, 5, 6, 7] (by decide) rfl
      obtain ⟨hin, h⟩ := h
      refine va_iast hx hb hK hP hD hS 2 0 rfl rfl hin dX0_reckon_39 (fun H locs hP hD hS => ?_)
      obtain ⟨a11, ea11⟩ : ∃ f, f = upd a_noteSteps v3.toNatClampNeg r10 := ⟨_, rfl⟩
      have h := h a11 ea11
      rw [← ea11] at hP hD
      have hP : va_P D vwCl (w_A cI cZ cR ad_a a9 a11 a_noteOfItem a_restCost a_notes a_items a_pairs a_pitchesDiffer a_stepsDiffer ++ w_R cI cZ cR ad_r r_pitches r_firstSteps r_lengths r_size r_held r_punched r_markedTicks r_marks ++ w_S cI cZ cR ad_c c_pitches c_steps c_size) H := hP
      have hD : va_D A (w_A cI cZ cR ad_a a9 a11 a_noteOfItem a_restCost a_notes a_items a_pairs a_pitchesDiffer a_stepsDiffer ++ w_R cI cZ cR ad_r r_pitches r_firstSteps r_lengths r_size r_held r_punched r_markedTicks r_marks ++ w_S cI cZ cR ad_c c_pitches c_steps c_size) := hD
      refine lv_iinc (v := v3 + 1) (lv' := [(3, .int (v3 + 1)), (0, .ref (ad_a 0)), (1, .ref (ad_r 0)), (2, .ref (ad_c 0))]) hx hb dX0_reckon_40 hl (k := 3) rfl rfl (by decide) rfl (fun ls hl => ?_)
      refine lv_goto (tgt := 10) hx hb dX0_reckon_43 (by decide) ?_
      exact ih (v3 + 1) a9 a11 a_noteOfItem a_restCost a_notes a_items a_pairs a_pitchesDiffer a_stepsDiffer h H locs hP hD hS ls (lv_sub hl [1, 2, 3, 0] rfl)
set_option maxRecDepth 100000 in
set_option maxHeartbeats 4000000 in
theorem ml_X0_reckon_0 {p : Program} {l : Launch} {e : Env} {s : State} {m : MethodId} {args : Array Value} {below : List Frame} {meth : Method} {c : Code} {D : va_G} {cI cZ cR : ClassId} {A : Nat → Prop} {ad_a : Nat → Nat} {ad_r : Nat → Nat} {ad_c : Nat → Nat} {r_lengths : Nat → Int32} {r_held : Nat → Int32} {r_punched : Nat → Int32} {r_markedTicks : Nat → Int32} {r_marks : Int32} (G : gG p s m args meth c cX0_reckon none 4 RX0 wsX0_reckon) (hK : va_K D vwCl (gT cI cZ cR) s) (hN : va_Nw gN s) (hA : ∀ q, s.heap.size ≤ q → A q) (r_pitches : Nat → Int32) (r_firstSteps : Nat → Int32) (r_size : Int32) (c_pitches : Nat → Int32) (c_steps : Nat → Int32) (c_size : Int32) (post : (Nat → Int32) → (Nat → Int32) → (Nat → Int32) → (Nat → Int32) → Int32 → Int32 → Int32 → Int32 → Int32 → Prop) (a_notePitches : Nat → Int32) (a_noteSteps : Nat → Int32) (a_noteOfItem : Nat → Int32) (a_restCost : Nat → Int32) (a_notes : Int32) (a_items : Int32) (a_pairs : Int32) (a_pitchesDiffer : Int32) (a_stepsDiffer : Int32) (h : wp_X0_reckon r_pitches r_firstSteps r_size c_pitches c_steps c_size a_notePitches a_noteSteps a_noteOfItem a_restCost a_notes a_items a_pairs a_pitchesDiffer a_stepsDiffer post) : ∀ (H : Heap) (locs : List Loc), va_P D vwCl (w_A cI cZ cR ad_a a_notePitches a_noteSteps a_noteOfItem a_restCost a_notes a_items a_pairs a_pitchesDiffer a_stepsDiffer ++ w_R cI cZ cR ad_r r_pitches r_firstSteps r_lengths r_size r_held r_punched r_markedTicks r_marks ++ w_S cI cZ cR ad_c c_pitches c_steps c_size) H → va_D A (w_A cI cZ cR ad_a a_notePitches a_noteSteps a_noteOfItem a_restCost a_notes a_items a_pairs a_pitchesDiffer a_stepsDiffer ++ w_R cI cZ cR ad_r r_pitches r_firstSteps r_lengths r_size r_held r_punched r_markedTicks r_marks ++ w_S cI cZ cR ad_c c_pitches c_steps c_size) → va_S A s.heap H locs → ∀ (ls : Array Slot), lv_has ls 4 [(0, .ref (ad_a 0)), (1, .ref (ad_r 0)), (2, .ref (ad_c 0))] → W p l e { frames := 4, cells := 0, slots := 0, locals := 93 } s m args below meth c H locs 0 0 (MQ below (va_Qv (fun (u : (Nat → Int32) × (Nat → Int32) × (Nat → Int32) × (Nat → Int32) × (Int32) × (Int32) × (Int32) × (Int32) × (Int32)) => post u.1 u.2.1 u.2.2.1 u.2.2.2.1 u.2.2.2.2.1 u.2.2.2.2.2.1 u.2.2.2.2.2.2.1 u.2.2.2.2.2.2.2.1 u.2.2.2.2.2.2.2.2) (fun u t => gB D (gT cI cZ cR) A (w_A cI cZ cR ad_a u.1 u.2.1 u.2.2.1 u.2.2.2.1 u.2.2.2.2.1 u.2.2.2.2.2.1 u.2.2.2.2.2.2.1 u.2.2.2.2.2.2.2.1 u.2.2.2.2.2.2.2.2 ++ w_R cI cZ cR ad_r r_pitches r_firstSteps r_lengths r_size r_held r_punched r_markedTicks r_marks ++ w_S cI cZ cR ad_c c_pitches c_steps c_size) t) A) args s 0 0 A) (F0 m 0 ls []) := by
  obtain ⟨hx, hb, hr, hml, hown, hts, hlocks⟩ := id G
  intro H locs hP hD hS ls hl
  unfold wp_X0_reckon at h
  refine lv_aload_n hx hb dX0_reckon_0 rfl (lv_at hl 0 rfl) ?_
  refine lv_aload_n hx hb dX0_reckon_1 rfl (lv_at hl 1 rfl) ?_
  have hPc := hP.sub (ws' := w_R cI cZ cR ad_r r_pitches r_firstSteps r_lengths r_size r_held r_punched r_markedTicks r_marks) [5, 6, 7, 8, 9, 10, 11] rfl
  have hDc := hD.sub (ws' := w_R cI cZ cR ad_r r_pitches r_firstSteps r_lengths r_size r_held r_punched r_markedTicks r_marks) [5, 6, 7, 8, 9, 10, 11] (by decide) rfl
  refine gl_calli (wr := w_A cI cZ cR ad_a a_notePitches a_noteSteps a_noteOfItem a_restCost a_notes a_items a_pairs a_pitchesDiffer a_stepsDiffer ++ w_S cI cZ cR ad_c c_pitches c_steps c_size) (va_runV (As := []) (rest := [.ref (ad_a 0)]) ⟨hx, hb, hml, hown, hts⟩ (mt_X4_noteCount l D cI cZ cR ad_r H.size r_pitches r_firstSteps r_lengths r_size r_held r_punched r_markedTicks r_marks _ h) (cwV 0 hts gX0_reckon_X4_noteCount rfl rfl rfl (by decide +kernel) ⟨Nat.le_of_ble_eq_true rfl, Nat.le_of_ble_eq_true rfl⟩) ⟨gl_blind, va_recv hK hPc (ci := 4) (q0 := 0) rfl rfl, gl_pre hPc hK hN hDc⟩ rfl rfl hl.1 rfl (lv_room (Nat.le_of_ble_eq_true rfl)) dX0_reckon_2 ⟨Nat.le_of_ble_eq_true rfl, Nat.le_of_ble_eq_true rfl⟩) hP hD hS hA [5, 6, 7, 8, 9, 10, 11] [0, 1, 2, 3, 4, 12, 13, 14] rfl rfl (by decide) (by decide) (fun r1 u H locs h hP hD hS => ?_)
  try dsimp only at h
  have hP := hP.sub (ws' := w_A cI cZ cR ad_a a_notePitches a_noteSteps a_noteOfItem a_restCost a_notes a_items a_pairs a_pitchesDiffer a_stepsDiffer ++ w_R cI cZ cR ad_r r_pitches r_firstSteps r_lengths r_size r_held r_punched r_markedTicks r_marks ++ w_S cI cZ cR ad_c c_pitches c_steps c_size) [0, 1, 2, 3, 4, 8, 9, 10, 11, 12, 13, 14, 5, 6, 7] rfl
  have hD := hD.sub (ws' := w_A cI cZ cR ad_a a_notePitches a_noteSteps a_noteOfItem a_restCost a_notes a_items a_pairs a_pitchesDiffer a_stepsDiffer ++ w_R cI cZ cR ad_r r_pitches r_firstSteps r_lengths r_size r_held r_punched r_markedTicks r_marks ++ w_S cI cZ cR ad_c c_pitches c_steps c_size) [0, 1, 2, 3, 4, 8, 9, 10, 11, 12, 13, 14, 5, 6, 7] (by decide) rfl
  refine va_put (D := D) (ci := 0) (v := .int r1) (ty := .int) (C := RX0) (T := TX0) (N := 9) hx hb hts us_X0_reckon_X0 tyX0 tyX0_ok nmX0 hown hK hP hD hS 0 rfl rfl 4 (by decide) (hts (.fieldLink RX0 30 "RollHouse$Alignment" "notes" "I") lk_X0_reckon_0) (fun _ h9 => h9) rfl (by decide +kernel) rfl rfl (Nat.le_of_ble_eq_true rfl) dX0_reckon_5 (fun H locs hP hD hS => ?_)
  have hP : va_P D vwCl (w_A cI cZ cR ad_a a_notePitches a_noteSteps a_noteOfItem a_restCost r1 a_items a_pairs a_pitchesDiffer a_stepsDiffer ++ w_R cI cZ cR ad_r r_pitches r_firstSteps r_lengths r_size r_held r_punched r_markedTicks r_marks ++ w_S cI cZ cR ad_c c_pitches c_steps c_size) H := hP
  have hD : va_D A (w_A cI cZ cR ad_a a_notePitches a_noteSteps a_noteOfItem a_restCost r1 a_items a_pairs a_pitchesDiffer a_stepsDiffer ++ w_R cI cZ cR ad_r r_pitches r_firstSteps r_lengths r_size r_held r_punched r_markedTicks r_marks ++ w_S cI cZ cR ad_c c_pitches c_steps c_size) := hD
  refine lv_iconst (v := 0) hx hb dX0_reckon_8 (by decide) ?_
  refine lv_istore_n (lv' := [(3, .int 0), (0, .ref (ad_a 0)), (1, .ref (ad_r 0)), (2, .ref (ad_c 0))]) hx hb dX0_reckon_9 rfl hl (by decide) rfl (fun ls hl => ?_)
  obtain ⟨nf, h⟩ := h
  exact ml_X0_reckon_10 G hK hN hA r_pitches r_firstSteps r_size c_pitches c_steps c_size post nf 0 a_notePitches a_noteSteps a_noteOfItem a_restCost r1 a_items a_pairs a_pitchesDiffer a_stepsDiffer h H locs hP hD hS ls (lv_sub hl [1, 2, 3, 0] rfl)
set_option maxRecDepth 100000 in
theorem mt_X0_reckon (l : Launch) (D : va_G) (cI cZ cR : ClassId) (ad_a : Nat → Nat) (ad_r : Nat → Nat) (ad_c : Nat → Nat) (sz : Nat) (a_notePitches : Nat → Int32) (a_noteSteps : Nat → Int32) (a_noteOfItem : Nat → Int32) (a_restCost : Nat → Int32) (a_notes : Int32) (a_items : Int32) (a_pairs : Int32) (a_pitchesDiffer : Int32) (a_stepsDiffer : Int32) (r_pitches : Nat → Int32) (r_firstSteps : Nat → Int32) (r_lengths : Nat → Int32) (r_size : Int32) (r_held : Nat → Int32) (r_punched : Nat → Int32) (r_markedTicks : Nat → Int32) (r_marks : Int32) (c_pitches : Nat → Int32) (c_steps : Nat → Int32) (c_size : Int32) (post : (Nat → Int32) → (Nat → Int32) → (Nat → Int32) → (Nat → Int32) → Int32 → Int32 → Int32 → Int32 → Int32 → Prop) (h : wp_X0_reckon r_pitches r_firstSteps r_size c_pitches c_steps c_size a_notePitches a_noteSteps a_noteOfItem a_restCost a_notes a_items a_pairs a_pitchesDiffer a_stepsDiffer post) : Met l yX0_reckon wsX0_reckon ({ frames := 4, cells := 0, slots := 0, locals := 93 }) (gPc D (gT cI cZ cR) (w_A cI cZ cR ad_a a_notePitches a_noteSteps a_noteOfItem a_restCost a_notes a_items a_pairs a_pitchesDiffer a_stepsDiffer ++ w_R cI cZ cR ad_r r_pitches r_firstSteps r_lengths r_size r_held r_punched r_markedTicks r_marks ++ w_S cI cZ cR ad_c c_pitches c_steps c_size) sz [.ref (ad_a 0), .ref (ad_r 0), .ref (ad_c 0)]) (va_Qv (fun (u : (Nat → Int32) × (Nat → Int32) × (Nat → Int32) × (Nat → Int32) × (Int32) × (Int32) × (Int32) × (Int32) × (Int32)) => post u.1 u.2.1 u.2.2.1 u.2.2.2.1 u.2.2.2.2.1 u.2.2.2.2.2.1 u.2.2.2.2.2.2.1 u.2.2.2.2.2.2.2.1 u.2.2.2.2.2.2.2.2) (fun u t => gB D (gT cI cZ cR) (va_A (w_A cI cZ cR ad_a a_notePitches a_noteSteps a_noteOfItem a_restCost a_notes a_items a_pairs a_pitchesDiffer a_stepsDiffer ++ w_R cI cZ cR ad_r r_pitches r_firstSteps r_lengths r_size r_held r_punched r_markedTicks r_marks ++ w_S cI cZ cR ad_c c_pitches c_steps c_size) sz) (w_A cI cZ cR ad_a u.1 u.2.1 u.2.2.1 u.2.2.2.1 u.2.2.2.2.1 u.2.2.2.2.2.1 u.2.2.2.2.2.2.1 u.2.2.2.2.2.2.2.1 u.2.2.2.2.2.2.2.2 ++ w_R cI cZ cR ad_r r_pitches r_firstSteps r_lengths r_size r_held r_punched r_markedTicks r_marks ++ w_S cI cZ cR ad_c c_pitches c_steps c_size) t) (va_A (w_A cI cZ cR ad_a a_notePitches a_noteSteps a_noteOfItem a_restCost a_notes a_items a_pairs a_pitchesDiffer a_stepsDiffer ++ w_R cI cZ cR ad_r r_pitches r_firstSteps r_lengths r_size r_held r_punched r_markedTicks r_marks ++ w_S cI cZ cR ad_c c_pitches c_steps c_size) sz)) 0 0 (va_A (w_A cI cZ cR ad_a a_notePitches a_noteSteps a_noteOfItem a_restCost a_notes a_items a_pairs a_pitchesDiffer a_stepsDiffer ++ w_R cI cZ cR ad_r r_pitches r_firstSteps r_lengths r_size r_held r_punched r_markedTicks r_marks ++ w_S cI cZ cR ad_c c_pitches c_steps c_size) sz) := by
  refine gl_entry (cc := cX0_reckon) (maxL := 4) (ret := none) (by decide) rfl (Nat.le_of_ble_eq_true rfl) ?_
  intro p e s m below meth c ls G hin hsz hK hN hP hD hl
  subst hsz
  exact ml_X0_reckon_0 G hK hN (fun q h => Or.inr h) r_pitches r_firstSteps r_size c_pitches c_steps c_size post a_notePitches a_noteSteps a_noteOfItem a_restCost a_notes a_items a_pairs a_pitchesDiffer a_stepsDiffer h s.heap [] hP hD va_S.rf ls hl
theorem lk_X0_repitch_0 : (Cond.fieldLink RX0 46 "RollHouse$Alignment" "items" "I") ∈ wsX0_repitch := by decide +kernel
theorem lk_X0_repitch_1 : (Cond.fieldLink RX0 18 "RollHouse$Alignment" "noteOfItem" "[I") ∈ wsX0_repitch := by decide +kernel
theorem lk_X0_repitch_2 : (Cond.fieldLink RX0 9 "RollHouse$Alignment" "notePitches" "[I") ∈ wsX0_repitch := by decide +kernel
theorem lk_X0_repitch_3 : (Cond.fieldLink RX0 15 "RollHouse$Alignment" "noteSteps" "[I") ∈ wsX0_repitch := by decide +kernel
theorem us_X0_repitch_X0 : ∀ w ∈ u_ws RX0 TX0 9, w ∈ wsX0_repitch := by decide +kernel
def wl_X0_repitch_5 (a_notePitches : Nat → Int32) (a_noteSteps : Nat → Int32) (a_noteOfItem : Nat → Int32) (a_items : Int32) (c_pitches : Nat → Int32) (post : Int32 → (Nat → Int32) → (Nat → Int32) → (Nat → Int32) → Int32 → (Nat → Int32) → (Nat → Int32) → Prop) : Nat → (Int32) → (Int32) → (Nat → Int32) → (Nat → Int32) → (Nat → Int32) → (Int32) → (Nat → Int32) → (Nat → Int32) → Prop
  | 0, _, _, _, _, _, _, _, _ => False
  | fu + 1, v3, v4, r_pitches, r_firstSteps, r_lengths, r_size, r_held, r_punched => ((a_items ≤ v4 → post v3 r_pitches r_firstSteps r_lengths r_size r_held r_punched) ∧ (¬ a_items ≤ v4 → (vp_in v4 40 ∧ (∀ z1 : Int32, z1 = a_noteOfItem v4.toNatClampNeg → ((z1 = (-1) → wl_X0_repitch_5 a_notePitches a_noteSteps a_noteOfItem a_items c_pitches post fu v3 (v4 + 1) r_pitches r_firstSteps r_lengths r_size r_held r_punched) ∧ (¬ z1 = (-1) → (vp_in z1 60 ∧ (wp_X5_pitchOf c_pitches v4 (fun (r2 : Int32) => (((a_notePitches z1.toNatClampNeg) = r2 → wl_X0_repitch_5 a_notePitches a_noteSteps a_noteOfItem a_items c_pitches post fu v3 (v4 + 1) r_pitches r_firstSteps r_lengths r_size r_held r_punched) ∧ (¬ (a_notePitches z1.toNatClampNeg) = r2 → (vp_in z1 60 ∧ (vp_in z1 60 ∧ (wp_X5_pitchOf c_pitches v4 (fun (r3 : Int32) => (wp_X4_moveToPitch (a_notePitches z1.toNatClampNeg) (a_noteSteps z1.toNatClampNeg) r3 r_pitches r_firstSteps r_lengths r_size r_held r_punched (fun (r4 : Int32) (a5 : Nat → Int32) (a6 : Nat → Int32) (a7 : Nat → Int32) (z8 : Int32) (a9 : Nat → Int32) (a10 : Nat → Int32) => ((r4 = 0 → wl_X0_repitch_5 a_notePitches a_noteSteps a_noteOfItem a_items c_pitches post fu v3 (v4 + 1) a5 a6 a7 z8 a9 a10) ∧ (¬ r4 = 0 → wl_X0_repitch_5 a_notePitches a_noteSteps a_noteOfItem a_items c_pitches post fu (v3 + 1) (v4 + 1) a5 a6 a7 z8 a9 a10)))))))))))))))))))
def wp_X0_repitch (a_notePitches : Nat → Int32) (a_noteSteps : Nat → Int32) (a_noteOfItem : Nat → Int32) (a_items : Int32) (c_pitches : Nat → Int32) (r_pitches : Nat → Int32) (r_firstSteps : Nat → Int32) (r_lengths : Nat → Int32) (r_size : Int32) (r_held : Nat → Int32) (r_punched : Nat → Int32) (post : Int32 → (Nat → Int32) → (Nat → Int32) → (Nat → Int32) → Int32 → (Nat → Int32) → (Nat → Int32) → Prop) : Prop := (∃ n, wl_X0_repitch_5 a_notePitches a_noteSteps a_noteOfItem a_items c_pitches post n 0 0 r_pitches r_firstSteps r_lengths r_size r_held r_punched)
set_option maxRecDepth 100000 in
set_option maxHeartbeats 4000000 in
theorem ml_X0_repitch_5 {p : Program} {l : Launch} {e : Env} {s : State} {m : MethodId} {args : Array Value} {below : List Frame} {meth : Method} {c : Code} {D : va_G} {cI cZ cR : ClassId} {A : Nat → Prop} {ad_a : Nat → Nat} {ad_r : Nat → Nat} {ad_c : Nat → Nat} {a_restCost : Nat → Int32} {a_notes : Int32} {a_pairs : Int32} {a_pitchesDiffer : Int32} {a_stepsDiffer : Int32} {r_markedTicks : Nat → Int32} {r_marks : Int32} {c_steps : Nat → Int32} {c_size : Int32} (G : gG p s m args meth c cX0_repitch (some .int) 6 RX0 wsX0_repitch) (hK : va_K D vwCl (gT cI cZ cR) s) (hN : va_Nw gN s) (hA : ∀ q, s.heap.size ≤ q → A q) (a_notePitches : Nat → Int32) (a_noteSteps : Nat → Int32) (a_noteOfItem : Nat → Int32) (a_items : Int32) (c_pitches : Nat → Int32) (post : Int32 → (Nat → Int32) → (Nat → Int32) → (Nat → Int32) → Int32 → (Nat → Int32) → (Nat → Int32) → Prop) : ∀ (fu : Nat) (v3 : Int32) (v4 : Int32) (r_pitches : Nat → Int32) (r_firstSteps : Nat → Int32) (r_lengths : Nat → Int32) (r_size : Int32) (r_held : Nat → Int32) (r_punched : Nat → Int32), wl_X0_repitch_5 a_notePitches a_noteSteps a_noteOfItem a_items c_pitches post fu v3 v4 r_pitches r_firstSteps r_lengths r_size r_held r_punched → ∀ (H : Heap) (locs : List Loc), va_P D vwCl (w_A cI cZ cR ad_a a_notePitches a_noteSteps a_noteOfItem a_restCost a_notes a_items a_pairs a_pitchesDiffer a_stepsDiffer ++ w_R cI cZ cR ad_r r_pitches r_firstSteps r_lengths r_size r_held r_punched r_markedTicks r_marks ++ w_S cI cZ cR ad_c c_pitches c_steps c_size) H → va_D A (w_A cI cZ cR ad_a a_notePitches a_noteSteps a_noteOfItem a_restCost a_notes a_items a_pairs a_pitchesDiffer a_stepsDiffer ++ w_R cI cZ cR ad_r r_pitches r_firstSteps r_lengths r_size r_held r_punched r_markedTicks r_marks ++ w_S cI cZ cR ad_c c_pitches c_steps c_size) → va_S A s.heap H locs → ∀ (ls : Array Slot), lv_has ls 6 [(0, .ref (ad_a 0)), (1, .ref (ad_r 0)), (2, .ref (ad_c 0)), (3, .int v3), (4, .int v4)] → W p l e { frames := 5, cells := 0, slots := 0, locals := 112 } s m args below meth c H locs 0 0 (MQ below (va_Qi (fun (r : Int32) (u : (Nat → Int32) × (Nat → Int32) × (Nat → Int32) × (Int32) × (Nat → Int32) × (Nat → Int32)) => post r u.1 u.2.1 u.2.2.1 u.2.2.2.1 u.2.2.2.2.1 u.2.2.2.2.2) (fun u t => gB D (gT cI cZ cR) A (w_A cI cZ cR ad_a a_notePitches a_noteSteps a_noteOfItem a_restCost a_notes a_items a_pairs a_pitchesDiffer a_stepsDiffer ++ w_R cI cZ cR ad_r u.1 u.2.1 u.2.2.1 u.2.2.2.1 u.2.2.2.2.1 u.2.2.2.2.2 r_markedTicks r_marks ++ w_S cI cZ cR ad_c c_pitches c_steps c_size) t) A) args s 0 0 A) (F0 m 5 ls []) := by
  obtain ⟨hx, hb, hr, hml, hown, hts, hlocks⟩ := id G
  intro fu
  induction fu with
  | zero =>
    intro v3 v4 r_pitches r_firstSteps r_lengths r_size r_held r_punched h
    exact h.elim
  | succ fu ih =>
    intro v3 v4 r_pitches r_firstSteps r_lengths r_size r_held r_punched h H locs hP hD hS ls hl
    rw [wl_X0_repitch_5] at h
    refine lv_iload hx hb dX0_repitch_5 (lv_at hl 4 rfl) ?_
    refine lv_aload_n hx hb dX0_repitch_7 rfl (lv_at hl 0 rfl) ?_
    refine va_get (D := D) (ci := 0) (v := .int a_items) (C := RX0) (T := TX0) (N := 9) hx hb hts us_X0_repitch_X0 hown hK hP 0 rfl rfl 5 (by decide) (hts (.fieldLink RX0 46 "RollHouse$Alignment" "items" "I") lk_X0_repitch_0) (fun _ h9 => h9) rfl dX0_repitch_8 ?_
    refine lv_icmp_ge (tgt := 81) hx hb dX0_repitch_11 (by decide) (fun hc => ?_) (fun hc => ?_)
    · have h := h.1 hc
      refine lv_iload_n hx hb dX0_repitch_81 rfl (lv_at hl 3 rfl) ?_
      exact gl_ireti G hK (u := (r_pitches, r_firstSteps, r_lengths, r_size, r_held, r_punched)) hP hD hS h dX0_repitch_82
    · have h := h.2 hc
      refine lv_aload_n hx hb dX0_repitch_14 rfl (lv_at hl 0 rfl) ?_
      refine va_get (D := D) (ci := 0) (v := .ref (ad_a 3)) (C := RX0) (T := TX0) (N := 9) hx hb hts us_X0_repitch_X0 hown hK hP 0 rfl rfl 2 (by decide) (hts (.fieldLink RX0 18 "RollHouse$Alignment" "noteOfItem" "[I") lk_X0_repitch_1) (fun _ h9 => h9) rfl dX0_repitch_15 ?_
      refine lv_iload hx hb dX0_repitch_18 (lv_at hl 4 rfl) ?_
      obtain ⟨hin, h⟩ := h
      refine va_iald hx hb hK hP 3 0 rfl rfl hin dX0_repitch_20 ?_
      refine lv_topi (fun z1 ez1 => ?_)
      have h := h z1 ez1
      refine lv_istore (lv' := [(5, .int z1), (0, .ref (ad_a 0)), (1, .ref (ad_r 0)), (2, .ref (ad_c 0)), (3, .int v3), (4, .int v4)]) hx hb dX0_repitch_21 hl (by decide) rfl (fun ls hl => ?_)
      refine lv_iload hx hb dX0_repitch_23 (lv_at hl 0 rfl) ?_
      refine lv_iconst (v := (-1)) hx hb dX0_repitch_25 (by decide) ?_
      refine lv_icmp_eq (tgt := 75) hx hb dX0_repitch_26 (by decide) (fun hc => ?_) (fun hc => ?_)
      · have h := h.1 hc
        refine lv_iinc (v := v4 + 1) (lv' := [(4, .int (v4 + 1)), (5, .int z1), (0, .ref (ad_a 0)), (1, .ref (ad_r 0)), (2, .ref (ad_c 0)), (3, .int v3)]) hx hb dX0_repitch_75 hl (k := 5) rfl rfl (by decide) rfl (fun ls hl => ?_)
        refine lv_goto (tgt := 5) hx hb dX0_repitch_78 (by decide) ?_
        exact ih v3 (v4 + 1) r_pitches r_firstSteps r_lengths r_size r_held r_punched h H locs hP hD hS ls (lv_sub hl [2, 3, 4, 5, 0] rfl)
      · have h := h.2 hc
        refine lv_aload_n hx hb dX0_repitch_29 rfl (lv_at hl 1 rfl) ?_
        refine va_get (D := D) (ci := 0) (v := .ref (ad_a 1)) (C := RX0) (T := TX0) (N := 9) hx hb hts us_X0_repitch_X0 hown hK hP 0 rfl rfl 0 (by decide) (hts (.fieldLink RX0 9 "RollHouse$Alignment" "notePitches" "[I") lk_X0_repitch_2) (fun _ h9 => h9) rfl dX0_repitch_30 ?_
        refine lv_iload hx hb dX0_repitch_33 (lv_at hl 0 rfl) ?_
        obtain ⟨hin, h⟩ := h
        refine va_iald hx hb hK hP 1 0 rfl rfl hin dX0_repitch_35 ?_
        refine lv_aload_n hx hb dX0_repitch_36 rfl (lv_at hl 3 rfl) ?_
        refine lv_iload hx hb dX0_repitch_37 (lv_at hl 5 rfl) ?_
        have hPc := hP.sub (ws' := w_S cI cZ cR ad_c c_pitches c_steps c_size) [12, 13, 14] rfl
        have hDc := hD.sub (ws' := w_S cI cZ cR ad_c c_pitches c_steps c_size) [12, 13, 14] (by decide) rfl
        refine gl_calli (wr := w_A cI cZ cR ad_a a_notePitches a_noteSteps a_noteOfItem a_restCost a_notes a_items a_pairs a_pitchesDiffer a_stepsDiffer ++ w_R cI cZ cR ad_r r_pitches r_firstSteps r_lengths r_size r_held r_punched r_markedTicks r_marks) (va_runV (As := [.int v4]) (rest := [.int (a_notePitches z1.toNatClampNeg)]) ⟨hx, hb, hml, hown, hts⟩ (mt_X5_pitchOf l D cI cZ cR ad_c H.size c_pitches c_steps c_size v4 _ h) (cwV 1 hts gX0_repitch_X5_pitchOf rfl rfl rfl (by decide +kernel) ⟨Nat.le_of_ble_eq_true rfl, Nat.le_of_ble_eq_true rfl⟩) ⟨gl_blind, va_recv hK hPc (ci := 5) (q0 := 0) rfl rfl, gl_pre hPc hK hN hDc⟩ rfl rfl hl.1 rfl (lv_room (Nat.le_of_ble_eq_true rfl)) dX0_repitch_39 ⟨Nat.le_of_ble_eq_true rfl, Nat.le_of_ble_eq_true rfl⟩) hP hD hS hA [12, 13, 14] [0, 1, 2, 3, 4, 5, 6, 7, 8, 9, 10, 11] rfl rfl (by decide) (by decide) (fun r2 u H locs h hP hD hS => ?_)
        try dsimp only at h
        have hP := hP.sub (ws' := w_A cI cZ cR ad_a a_notePitches a_noteSteps a_noteOfItem a_restCost a_notes a_items a_pairs a_pitchesDiffer a_stepsDiffer ++ w_R cI cZ cR ad_r r_pitches r_firstSteps r_lengths r_size r_held r_punched r_markedTicks r_marks ++ w_S cI cZ cR ad_c c_pitches c_steps c_size) [0, 1, 2, 3, 4, 5, 6, 7, 8, 9, 10, 11, 12, 13, 14] rfl
        have hD := hD.sub (ws' := w_A cI cZ cR ad_a a_notePitches a_noteSteps a_noteOfItem a_restCost a_notes a_items a_pairs a_pitchesDiffer a_stepsDiffer ++ w_R cI cZ cR ad_r r_pitches r_firstSteps r_lengths r_size r_held r_punched r_markedTicks r_marks ++ w_S cI cZ cR ad_c c_pitches c_steps c_size) [0, 1, 2, 3, 4, 5, 6, 7, 8, 9, 10, 11, 12, 13, 14] (by decide) rfl
        refine lv_icmp_eq (tgt := 75) hx hb dX0_repitch_42 (by decide) (fun hc => ?_) (fun hc => ?_)
        · have h := h.1 hc
          refine lv_iinc (v := v4 + 1) (lv' := [(4, .int (v4 + 1)), (5, .int z1), (0, .ref (ad_a 0)), (1, .ref (ad_r 0)), (2, .ref (ad_c 0)), (3, .int v3)]) hx hb dX0_repitch_75 hl (k := 5) rfl rfl (by decide) rfl (fun ls hl => ?_)
          refine lv_goto (tgt := 5) hx hb dX0_repitch_78 (by decide) ?_
          exact ih v3 (v4 + 1) r_pitches r_firstSteps r_lengths r_size r_held r_punched h H locs hP hD hS ls (lv_sub hl [2, 3, 4, 5, 0] rfl)
        · have h := h.2 hc
          refine lv_aload_n hx hb dX0_repitch_45 rfl (lv_at hl 2 rfl) ?_
          refine lv_aload_n hx hb dX0_repitch_46 rfl (lv_at hl 1 rfl) ?_
          refine va_get (D := D) (ci := 0) (v := .ref (ad_a 1)) (C := RX0) (T := TX0) (N := 9) hx hb hts us_X0_repitch_X0 hown hK hP 0 rfl rfl 0 (by decide) (hts (.fieldLink RX0 9 "RollHouse$Alignment" "notePitches" "[I") lk_X0_repitch_2) (fun _ h9 => h9) rfl dX0_repitch_47 ?_
          refine lv_iload hx hb dX0_repitch_50 (lv_at hl 0 rfl) ?_
          obtain ⟨hin, h⟩ := h
          refine va_iald hx hb hK hP 1 0 rfl rfl hin dX0_repitch_52 ?_
          refine lv_aload_n hx hb dX0_repitch_53 rfl (lv_at hl 1 rfl) ?_
          refine va_get (D := D) (ci := 0) (v := .ref (ad_a 2)) (C := RX0) (T := TX0) (N := 9) hx hb hts us_X0_repitch_X0 hown hK hP 0 rfl rfl 1 (by decide) (hts (.fieldLink RX0 15 "RollHouse$Alignment" "noteSteps" "[I") lk_X0_repitch_3) (fun _ h9 => h9) rfl dX0_repitch_54 ?_
          refine lv_iload hx hb dX0_repitch_57 (lv_at hl 0 rfl) ?_
          obtain ⟨hin, h⟩ := h
          refine va_iald hx hb hK hP 2 0 rfl rfl hin dX0_repitch_59 ?_
          refine lv_aload_n hx hb dX0_repitch_60 rfl (lv_at hl 3 rfl) ?_
          refine lv_iload hx hb dX0_repitch_61 (lv_at hl 5 rfl) ?_
          have hPc := hP.sub (ws' := w_S cI cZ cR ad_c c_pitches c_steps c_size) [12, 13, 14] rfl
          have hDc := hD.sub (ws' := w_S cI cZ cR ad_c c_pitches c_steps c_size) [12, 13, 14] (by decide) rfl
          refine gl_calli (wr := w_A cI cZ cR ad_a a_notePitches a_noteSteps a_noteOfItem a_restCost a_notes a_items a_pairs a_pitchesDiffer a_stepsDiffer ++ w_R cI cZ cR ad_r r_pitches r_firstSteps r_lengths r_size r_held r_punched r_markedTicks r_marks) (va_runV (As := [.int v4]) (rest := [.int (a_noteSteps z1.toNatClampNeg), .int (a_notePitches z1.toNatClampNeg), .ref (ad_r 0)]) ⟨hx, hb, hml, hown, hts⟩ (mt_X5_pitchOf l D cI cZ cR ad_c H.size c_pitches c_steps c_size v4 _ h) (cwV 1 hts gX0_repitch_X5_pitchOf rfl rfl rfl (by decide +kernel) ⟨Nat.le_of_ble_eq_true rfl, Nat.le_of_ble_eq_true rfl⟩) ⟨gl_blind, va_recv hK hPc (ci := 5) (q0 := 0) rfl rfl, gl_pre hPc hK hN hDc⟩ rfl rfl hl.1 rfl (lv_room (Nat.le_of_ble_eq_true rfl)) dX0_repitch_63 ⟨Nat.le_of_ble_eq_true rfl, Nat.le_of_ble_eq_true rfl⟩) hP hD hS hA [12, 13, 14] [0, 1, 2, 3, 4, 5, 6, 7, 8, 9, 10, 11] rfl rfl (by decide) (by decide) (fun r3 u H locs h hP hD hS => ?_)
          try dsimp only at h
          have hP := hP.sub (ws' := w_A cI cZ cR ad_a a_notePitches a_noteSteps a_noteOfItem a_restCost a_notes a_items a_pairs a_pitchesDiffer a_stepsDiffer ++ w_R cI cZ cR ad_r r_pitches r_firstSteps r_lengths r_size r_held r_punched r_markedTicks r_marks ++ w_S cI cZ cR ad_c c_pitches c_steps c_size) [0, 1, 2, 3, 4, 5, 6, 7, 8, 9, 10, 11, 12, 13, 14] rfl
          have hD := hD.sub (ws' := w_A cI cZ cR ad_a a_notePitches a_noteSteps a_noteOfItem a_restCost a_notes a_items a_pairs a_pitchesDiffer a_stepsDiffer ++ w_R cI cZ cR ad_r r_pitches r_firstSteps r_lengths r_size r_held r_punched r_markedTicks r_marks ++ w_S cI cZ cR ad_c c_pitches c_steps c_size) [0, 1, 2, 3, 4, 5, 6, 7, 8, 9, 10, 11, 12, 13, 14] (by decide) rfl
          have hPc := hP.sub (ws' := w_R cI cZ cR ad_r r_pitches r_firstSteps r_lengths r_size r_held r_punched r_markedTicks r_marks) [5, 6, 7, 8, 9, 10, 11] rfl
          have hDc := hD.sub (ws' := w_R cI cZ cR ad_r r_pitches r_firstSteps r_lengths r_size r_held r_punched r_markedTicks r_marks) [5, 6, 7, 8, 9, 10, 11] (by decide) rfl
          refine gl_calli (wr := w_A cI cZ cR ad_a a_notePitches a_noteSteps a_noteOfItem a_restCost a_notes a_items a_pairs a_pitchesDiffer a_stepsDiffer ++ w_S cI cZ cR ad_c c_pitches c_steps c_size) (va_runV (As := [.int (a_notePitches z1.toNatClampNeg), .int (a_noteSteps z1.toNatClampNeg), .int r3]) (rest := []) ⟨hx, hb, hml, hown, hts⟩ (mt_X4_moveToPitch l D cI cZ cR ad_r H.size r_pitches r_firstSteps r_lengths r_size r_held r_punched r_markedTicks r_marks (a_notePitches z1.toNatClampNeg) (a_noteSteps z1.toNatClampNeg) r3 _ h) (cwV 3 hts gX0_repitch_X4_moveToPitch rfl rfl rfl (by decide +kernel) ⟨Nat.le_of_ble_eq_true rfl, Nat.le_of_ble_eq_true rfl⟩) ⟨gl_blind, va_recv hK hPc (ci := 4) (q0 := 0) rfl rfl, gl_pre hPc hK hN hDc⟩ rfl rfl hl.1 rfl (lv_room (Nat.le_of_ble_eq_true rfl)) dX0_repitch_66 ⟨Nat.le_of_ble_eq_true rfl, Nat.le_of_ble_eq_true rfl⟩) hP hD hS hA [5, 6, 7, 8, 9, 10, 11] [0, 1, 2, 3, 4, 12, 13, 14] rfl rfl (by decide) (by decide) (fun r4 u H locs h hP hD hS => ?_)
          obtain ⟨a5, a6, a7, z8, a9, a10⟩ := u
          try dsimp only at h
          have hP := hP.sub (ws' := w_A cI cZ cR ad_a a_notePitches a_noteSteps a_noteOfItem a_restCost a_notes a_items a_pairs a_pitchesDiffer a_stepsDiffer ++ w_R cI cZ cR ad_r a5 a6 a7 z8 a9 a10 r_markedTicks r_marks ++ w_S cI cZ cR ad_c c_pitches c_steps c_size) [0, 1, 2, 3, 4, 8, 9, 10, 11, 12, 13, 14, 5, 6, 7] rfl
          have hD := hD.sub (ws' := w_A cI cZ cR ad_a a_notePitches a_noteSteps a_noteOfItem a_restCost a_notes a_items a_pairs a_pitchesDiffer a_stepsDiffer ++ w_R cI cZ cR ad_r a5 a6 a7 z8 a9 a10 r_markedTicks r_marks ++ w_S cI cZ cR ad_c c_pitches c_steps c_size) [0, 1, 2, 3, 4, 8, 9, 10, 11, 12, 13, 14, 5, 6, 7] (by decide) rfl
          refine lv_if_eq (tgt := 75) hx hb dX0_repitch_69 (by decide) (fun hc => ?_) (fun hc => ?_)
          · have h := h.1 hc
            refine lv_iinc (v := v4 + 1) (lv' := [(4, .int (v4 + 1)), (5, .int z1), (0, .ref (ad_a 0)), (1, .ref (ad_r 0)), (2, .ref (ad_c 0)), (3, .int v3)]) hx hb dX0_repitch_75 hl (k := 5) rfl rfl (by decide) rfl (fun ls hl => ?_)
            refine lv_goto (tgt := 5) hx hb dX0_repitch_78 (by decide) ?_
            exact ih v3 (v4 + 1) a5 a6 a7 z8 a9 a10 h H locs hP hD hS ls (lv_sub hl [2, 3, 4, 5, 0] rfl)
          · have h := h.2 hc
            refine lv_iinc (v := v3 + 1) (lv' := [(3, .int (v3 + 1)), (5, .int z1), (0, .ref (ad_a 0)), (1, .ref (ad_r 0)), (2, .ref (ad_c 0)), (4, .int v4)]) hx hb dX0_repitch_72 hl (k := 4) rfl rfl (by decide) rfl (fun ls hl => ?_)
            refine lv_iinc (v := v4 + 1) (lv' := [(4, .int (v4 + 1)), (3, .int (v3 + 1)), (5, .int z1), (0, .ref (ad_a 0)), (1, .ref (ad_r 0)), (2, .ref (ad_c 0))]) hx hb dX0_repitch_75 hl (k := 5) rfl rfl (by decide) rfl (fun ls hl => ?_)
            refine lv_goto (tgt := 5) hx hb dX0_repitch_78 (by decide) ?_
            exact ih (v3 + 1) (v4 + 1) a5 a6 a7 z8 a9 a10 h H locs hP hD hS ls (lv_sub hl [3, 4, 5, 1, 0] rfl)
set_option maxRecDepth 100000 in
set_option maxHeartbeats 4000000 in
theorem ml_X0_repitch_0 {p : Program} {l : Launch} {e : Env} {s : State} {m : MethodId} {args : Array Value} {below : List Frame} {meth : Method} {c : Code} {D : va_G} {cI cZ cR : ClassId} {A : Nat → Prop} {ad_a : Nat → Nat} {ad_r : Nat → Nat} {ad_c : Nat → Nat} {a_restCost : Nat → Int32} {a_notes : Int32} {a_pairs : Int32} {a_pitchesDiffer : Int32} {a_stepsDiffer : Int32} {r_markedTicks : Nat → Int32} {r_marks : Int32} {c_steps : Nat → Int32} {c_size : Int32} (G : gG p s m args meth c cX0_repitch (some .int) 6 RX0 wsX0_repitch) (hK : va_K D vwCl (gT cI cZ cR) s) (hN : va_Nw gN s) (hA : ∀ q, s.heap.size ≤ q → A q) (a_notePitches : Nat → Int32) (a_noteSteps : Nat → Int32) (a_noteOfItem : Nat → Int32) (a_items : Int32) (c_pitches : Nat → Int32) (post : Int32 → (Nat → Int32) → (Nat → Int32) → (Nat → Int32) → Int32 → (Nat → Int32) → (Nat → Int32) → Prop) (r_pitches : Nat → Int32) (r_firstSteps : Nat → Int32) (r_lengths : Nat → Int32) (r_size : Int32) (r_held : Nat → Int32) (r_punched : Nat → Int32) (h : wp_X0_repitch a_notePitches a_noteSteps a_noteOfItem a_items c_pitches r_pitches r_firstSteps r_lengths r_size r_held r_punched post) : ∀ (H : Heap) (locs : List Loc), va_P D vwCl (w_A cI cZ cR ad_a a_notePitches a_noteSteps a_noteOfItem a_restCost a_notes a_items a_pairs a_pitchesDiffer a_stepsDiffer ++ w_R cI cZ cR ad_r r_pitches r_firstSteps r_lengths r_size r_held r_punched r_markedTicks r_marks ++ w_S cI cZ cR ad_c c_pitches c_steps c_size) H → va_D A (w_A cI cZ cR ad_a a_notePitches a_noteSteps a_noteOfItem a_restCost a_notes a_items a_pairs a_pitchesDiffer a_stepsDiffer ++ w_R cI cZ cR ad_r r_pitches r_firstSteps r_lengths r_size r_held r_punched r_markedTicks r_marks ++ w_S cI cZ cR ad_c c_pitches c_steps c_size) → va_S A s.heap H locs → ∀ (ls : Array Slot), lv_has ls 6 [(0, .ref (ad_a 0)), (1, .ref (ad_r 0)), (2, .ref (ad_c 0))] → W p l e { frames := 5, cells := 0, slots := 0, locals := 112 } s m args below meth c H locs 0 0 (MQ below (va_Qi (fun (r : Int32) (u : (Nat → Int32) × (Nat → Int32) × (Nat → Int32) × (Int32) × (Nat → Int32) × (Nat → Int32)) => post r u.1 u.2.1 u.2.2.1 u.2.2.2.1 u.2.2.2.2.1 u.2.2.2.2.2) (fun u t => gB D (gT cI cZ cR) A (w_A cI cZ cR ad_a a_notePitches a_noteSteps a_noteOfItem a_restCost a_notes a_items a_pairs a_pitchesDiffer a_stepsDiffer ++ w_R cI cZ cR ad_r u.1 u.2.1 u.2.2.1 u.2.2.2.1 u.2.2.2.2.1 u.2.2.2.2.2 r_markedTicks r_marks ++ w_S cI cZ cR ad_c c_pitches c_steps c_size) t) A) args s 0 0 A) (F0 m 0 ls []) := by
  obtain ⟨hx, hb, hr, hml, hown, hts, hlocks⟩ := id G
  intro H locs hP hD hS ls hl
  unfold wp_X0_repitch at h
  refine lv_iconst (v := 0) hx hb dX0_repitch_0 (by decide) ?_
  refine lv_istore_n (lv' := [(3, .int 0), (0, .ref (ad_a 0)), (1, .ref (ad_r 0)), (2, .ref (ad_c 0))]) hx hb dX0_repitch_1 rfl hl (by decide) rfl (fun ls hl => ?_)
  refine lv_iconst (v := 0) hx hb dX0_repitch_2 (by decide) ?_
  refine lv_istore (lv' := [(4, .int 0), (3, .int 0), (0, .ref (ad_a 0)), (1, .ref (ad_r 0)), (2, .ref (ad_c 0))]) hx hb dX0_repitch_3 hl (by decide) rfl (fun ls hl => ?_)
  obtain ⟨nf, h⟩ := h
  exact ml_X0_repitch_5 G hK hN hA a_notePitches a_noteSteps a_noteOfItem a_items c_pitches post nf 0 0 r_pitches r_firstSteps r_lengths r_size r_held r_punched h H locs hP hD hS ls (lv_sub hl [2, 3, 4, 1, 0] rfl)
set_option maxRecDepth 100000 in
theorem mt_X0_repitch (l : Launch) (D : va_G) (cI cZ cR : ClassId) (ad_a : Nat → Nat) (ad_r : Nat → Nat) (ad_c : Nat → Nat) (sz : Nat) (a_notePitches : Nat → Int32) (a_noteSteps : Nat → Int32) (a_noteOfItem : Nat → Int32) (a_restCost : Nat → Int32) (a_notes : Int32) (a_items : Int32) (a_pairs : Int32) (a_pitchesDiffer : Int32) (a_stepsDiffer : Int32) (r_pitches : Nat → Int32) (r_firstSteps : Nat → Int32) (r_lengths : Nat → Int32) (r_size : Int32) (r_held : Nat → Int32) (r_punched : Nat → Int32) (r_markedTicks : Nat → Int32) (r_marks : Int32) (c_pitches : Nat → Int32) (c_steps : Nat → Int32) (c_size : Int32) (post : Int32 → (Nat → Int32) → (Nat → Int32) → (Nat → Int32) → Int32 → (Nat → Int32) → (Nat → Int32) → Prop) (h : wp_X0_repitch a_notePitches a_noteSteps a_noteOfItem a_items c_pitches r_pitches r_firstSteps r_lengths r_size r_held r_punched post) : Met l yX0_repitch wsX0_repitch ({ frames := 5, cells := 0, slots := 0, locals := 112 }) (gPc D (gT cI cZ cR) (w_A cI cZ cR ad_a a_notePitches a_noteSteps a_noteOfItem a_restCost a_notes a_items a_pairs a_pitchesDiffer a_stepsDiffer ++ w_R cI cZ cR ad_r r_pitches r_firstSteps r_lengths r_size r_held r_punched r_markedTicks r_marks ++ w_S cI cZ cR ad_c c_pitches c_steps c_size) sz [.ref (ad_a 0), .ref (ad_r 0), .ref (ad_c 0)]) (va_Qi (fun (r : Int32) (u : (Nat → Int32) × (Nat → Int32) × (Nat → Int32) × (Int32) × (Nat → Int32) × (Nat → Int32)) => post r u.1 u.2.1 u.2.2.1 u.2.2.2.1 u.2.2.2.2.1 u.2.2.2.2.2) (fun u t => gB D (gT cI cZ cR) (va_A (w_A cI cZ cR ad_a a_notePitches a_noteSteps a_noteOfItem a_restCost a_notes a_items a_pairs a_pitchesDiffer a_stepsDiffer ++ w_R cI cZ cR ad_r r_pitches r_firstSteps r_lengths r_size r_held r_punched r_markedTicks r_marks ++ w_S cI cZ cR ad_c c_pitches c_steps c_size) sz) (w_A cI cZ cR ad_a a_notePitches a_noteSteps a_noteOfItem a_restCost a_notes a_items a_pairs a_pitchesDiffer a_stepsDiffer ++ w_R cI cZ cR ad_r u.1 u.2.1 u.2.2.1 u.2.2.2.1 u.2.2.2.2.1 u.2.2.2.2.2 r_markedTicks r_marks ++ w_S cI cZ cR ad_c c_pitches c_steps c_size) t) (va_A (w_A cI cZ cR ad_a a_notePitches a_noteSteps a_noteOfItem a_restCost a_notes a_items a_pairs a_pitchesDiffer a_stepsDiffer ++ w_R cI cZ cR ad_r r_pitches r_firstSteps r_lengths r_size r_held r_punched r_markedTicks r_marks ++ w_S cI cZ cR ad_c c_pitches c_steps c_size) sz)) 0 0 (va_A (w_A cI cZ cR ad_a a_notePitches a_noteSteps a_noteOfItem a_restCost a_notes a_items a_pairs a_pitchesDiffer a_stepsDiffer ++ w_R cI cZ cR ad_r r_pitches r_firstSteps r_lengths r_size r_held r_punched r_markedTicks r_marks ++ w_S cI cZ cR ad_c c_pitches c_steps c_size) sz) := by
  refine gl_entry (cc := cX0_repitch) (maxL := 6) (ret := (some .int)) (by decide) rfl (Nat.le_of_ble_eq_true rfl) ?_
  intro p e s m below meth c ls G hin hsz hK hN hP hD hl
  subst hsz
  exact ml_X0_repitch_0 G hK hN (fun q h => Or.inr h) a_notePitches a_noteSteps a_noteOfItem a_items c_pitches post r_pitches r_firstSteps r_lengths r_size r_held r_punched h s.heap [] hP hD va_S.rf ls hl
