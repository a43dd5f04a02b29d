theorem lk_X4_put_0 : (Cond.fieldLink RX4 21 "RollHouse$Roll" "size" "I") ∈ wsX4_put := by decide +kernel
theorem lk_X4_put_1 : (Cond.fieldLink RX4 9 "RollHouse$Roll" "pitches" "[I") ∈ wsX4_put := by decide +kernel
theorem lk_X4_put_2 : (Cond.fieldLink RX4 15 "RollHouse$Roll" "firstSteps" "[I") ∈ wsX4_put := by decide +kernel
theorem lk_X4_put_3 : (Cond.fieldLink RX4 18 "RollHouse$Roll" "lengths" "[I") ∈ wsX4_put := by decide +kernel
theorem lk_X4_put_4 : (Cond.fieldLink RX4 25 "RollHouse$Roll" "held" "[I") ∈ wsX4_put := by decide +kernel
theorem lk_X4_put_5 : (Cond.fieldLink RX4 28 "RollHouse$Roll" "punched" "[I") ∈ wsX4_put := by decide +kernel
theorem us_X4_put_X4 : ∀ w ∈ u_ws RX4 TX4 8, w ∈ wsX4_put := by decide +kernel
def wl_X4_put_95 (v1 : Int32) (v2 : Int32) (v3 : Int32) (post : (Nat → Int32) → (Nat → Int32) → (Nat → Int32) → Int32 → (Nat → Int32) → (Nat → Int32) → Prop) : Nat → (Int32) → (Nat → Int32) → (Nat → Int32) → (Nat → Int32) → (Int32) → (Nat → Int32) → (Nat → Int32) → Prop
  | 0, _, _, _, _, _, _, _ => False
  | fu + 1, v5, r_pitches, r_firstSteps, r_lengths, r_size, r_held, r_punched => ((v3 ≤ v5 → post r_pitches r_firstSteps r_lengths r_size r_held r_punched) ∧ (¬ v3 ≤ v5 → (vp_in (v2 + v5) 300 ∧ (∀ z8 : Int32, z8 = (r_held (v2 + v5).toNatClampNeg) ||| (1 <<< (v1 &&& 31)) → (vp_in (v2 + v5) 300 ∧ (∀ a9 : Nat → Int32, a9 = upd r_held (v2 + v5).toNatClampNeg z8 → (wp_X4_isBridge v5 v3 (fun (r10 : Int32) => ((¬ r10 = 0 → wl_X4_put_95 v1 v2 v3 post fu (v5 + 1) r_pitches r_firstSteps r_lengths r_size a9 r_punched) ∧ (r10 = 0 → (vp_in (v2 + v5) 300 ∧ (∀ z11 : Int32, z11 = (r_punched (v2 + v5).toNatClampNeg) ||| (1 <<< (v1 &&& 31)) → (vp_in (v2 + v5) 300 ∧ (∀ a12 : Nat → Int32, a12 = upd r_punched (v2 + v5).toNatClampNeg z11 → wl_X4_put_95 v1 v2 v3 post fu (v5 + 1) r_pitches r_firstSteps r_lengths r_size a9 a12))))))))))))))
def wl_X4_put_73 (v1 : Int32) (v2 : Int32) (v3 : Int32) (post : (Nat → Int32) → (Nat → Int32) → (Nat → Int32) → Int32 → (Nat → Int32) → (Nat → Int32) → Prop) (v4 : Int32) (r_pitches : Nat → Int32) (r_firstSteps : Nat → Int32) (r_lengths : Nat → Int32) (r_size : Int32) (r_held : Nat → Int32) (r_punched : Nat → Int32) : Prop := (wp_X4_setNote v4 v1 v2 v3 r_pitches r_firstSteps r_lengths (fun (a5 : Nat → Int32) (a6 : Nat → Int32) (a7 : Nat → Int32) => (∃ n, wl_X4_put_95 v1 v2 v3 post n 0 a5 a6 a7 (r_size + 1) r_held r_punched)))
def wl_X4_put_16 (v1 : Int32) (v2 : Int32) (v3 : Int32) (post : (Nat → Int32) → (Nat → Int32) → (Nat → Int32) → Int32 → (Nat → Int32) → (Nat → Int32) → Prop) : Nat → (Int32) → (Nat → Int32) → (Nat → Int32) → (Nat → Int32) → (Int32) → (Nat → Int32) → (Nat → Int32) → Prop
  | 0, _, _, _, _, _, _, _ => False
  | fu + 1, v4, r_pitches, r_firstSteps, r_lengths, r_size, r_held, r_punched => ((v4 ≤ 0 → wl_X4_put_73 v1 v2 v3 post v4 r_pitches r_firstSteps r_lengths r_size r_held r_punched) ∧ (¬ v4 ≤ 0 → (wp_X4_comesAhead r_pitches r_firstSteps v1 v2 (v4 - 1) (fun (r1 : Int32) => ((r1 = 0 → wl_X4_put_73 v1 v2 v3 post v4 r_pitches r_firstSteps r_lengths r_size r_held r_punched) ∧ (¬ r1 = 0 → (vp_in (v4 - 1) 60 ∧ (vp_in (v4 - 1) 60 ∧ (vp_in (v4 - 1) 60 ∧ (wp_X4_setNote v4 (r_pitches (v4 - 1).toNatClampNeg) (r_firstSteps (v4 - 1).toNatClampNeg) (r_lengths (v4 - 1).toNatClampNeg) r_pitches r_firstSteps r_lengths (fun (a2 : Nat → Int32) (a3 : Nat → Int32) (a4 : Nat → Int32) => wl_X4_put_16 v1 v2 v3 post fu (v4 + (-1)) a2 a3 a4 r_size r_held r_punched)))))))))))
def wp_X4_put (v1 : Int32) (v2 : Int32) (v3 : Int32) (r_pitches : Nat → Int32) (r_firstSteps : Nat → Int32) (r_lengths : Nat → Int32) (r_size : Int32) (r_held : Nat → Int32) (r_punched : Nat → Int32) (post : (Nat → Int32) → (Nat → Int32) → (Nat → Int32) → Int32 → (Nat → Int32) → (Nat → Int32) → Prop) : Prop := ((r_size < 60 → (∃ n, wl_X4_put_16 v1 v2 v3 post n r_size r_pitches r_firstSteps r_lengths r_size r_held r_punched)) ∧ (¬ r_size < 60 → post r_pitches r_firstSteps r_lengths r_size r_held r_punched))
set_option maxRecDepth 100000 in
set_option maxHeartbeats 4000000 in
theorem ml_X4_put_95 {p : Program} {l : Launch} {e : Env} {s : State} {m : MethodId} {args : Array Value} {below : List Frame} {meth : Method} {c : Code} {D : va_G} {cI cZ cR : ClassId} {A : Nat → Prop} {ad_r : Nat → Nat} {r_markedTicks : Nat → Int32} {r_marks : Int32} (G : gG p s m args meth c cX4_put none 6 RX4 wsX4_put) (hK : va_K D vwCl (gT cI cZ cR) s) (hN : va_Nw gN s) (hA : ∀ q, s.heap.size ≤ q → A q) (v1 : Int32) (v2 : Int32) (v3 : Int32) (post : (Nat → Int32) → (Nat → Int32) → (Nat → Int32) → Int32 → (Nat → Int32) → (Nat → Int32) → Prop) : ∀ (fu : Nat) (v5 : Int32) (r_pitches : Nat → Int32) (r_firstSteps : Nat → Int32) (r_lengths : Nat → Int32) (r_size : Int32) (r_held : Nat → Int32) (r_punched : Nat → Int32), wl_X4_put_95 v1 v2 v3 post fu v5 r_pitches r_firstSteps r_lengths r_size r_held r_punched → ∀ (H : Heap) (locs : List Loc), va_P D vwCl (w_R cI cZ cR ad_r r_pitches r_firstSteps r_lengths r_size r_held r_punched r_markedTicks r_marks) H → va_D A (w_R cI cZ cR ad_r r_pitches r_firstSteps r_lengths r_size r_held r_punched r_markedTicks r_marks) → va_S A s.heap H locs → ∀ (ls : Array Slot), lv_has ls 6 [(0, .ref (ad_r 0)), (1, .int v1), (2, .int v2), (3, .int v3), (5, .int v5)] → W p l e { frames := 1, cells := 0, slots := 0, locals := 24 } s m args below meth c H locs 0 0 (MQ below (va_Qv (fun (u : (Nat → Int32) × (Nat → Int32) × (Nat → Int32) × (Int32) × (Nat → Int32) × (Nat → Int32)) => post u.1 u.2.1 u.2.2.1 u.2.2.2.1 u.2.2.2.2.1 u.2.2.2.2.2) (fun u t => gB D (gT cI cZ cR) A (w_R cI cZ cR ad_r u.1 u.2.1 u.2.2.1 u.2.2.2.1 u.2.2.2.2.1 u.2.2.2.2.2 r_markedTicks r_marks) t) A) args s 0 0 A) (F0 m 95 ls []) := by
  obtain ⟨hx, hb, hr, hml, hown, hts, hlocks⟩ := id G
  intro fu
  induction fu with
  | zero =>
    intro v5 r_pitches r_firstSteps r_lengths r_size r_held r_punched h
    exact h.elim
  | succ fu ih =>
    intro v5 r_pitches r_firstSteps r_lengths r_size r_held r_punched h H locs hP hD hS ls hl
    rw [wl_X4_put_95] at h
    refine lv_iload hx hb dX4_put_95 (lv_at hl 4 rfl) ?_
    refine lv_iload_n hx hb dX4_put_97 rfl (lv_at hl 3 rfl) ?_
    refine lv_icmp_ge (tgt := 146) hx hb dX4_put_98 (by decide) (fun hc => ?_) (fun hc => ?_)
    · have h := h.1 hc
      exact gl_retv G hK (u := (r_pitches, r_firstSteps, r_lengths, r_size, r_held, r_punched)) hP hD hS h dX4_put_146
    · have h := h.2 hc
      refine lv_aload_n hx hb dX4_put_101 rfl (lv_at hl 0 rfl) ?_
      refine va_get (D := D) (ci := 4) (v := .ref (ad_r 4)) (C := RX4) (T := TX4) (N := 8) hx hb hts us_X4_put_X4 hown hK hP 0 rfl rfl 4 (by decide) (hts (.fieldLink RX4 25 "RollHouse$Roll" "held" "[I") lk_X4_put_4) (fun _ h9 => h9) rfl dX4_put_102 ?_
      refine lv_iload_n hx hb dX4_put_105 rfl (lv_at hl 2 rfl) ?_
      refine lv_iload hx hb dX4_put_106 (lv_at hl 4 rfl) ?_
      refine lv_iadd hx hb dX4_put_108 ?_
      refine lv_dup2_11 hx hb dX4_put_109 rfl rfl ?_
      obtain ⟨hin, h⟩ := h
      refine va_iald hx hb hK hP 4 0 rfl rfl hin dX4_put_110 ?_
      refine lv_iconst (v := 1) hx hb dX4_put_111 (by decide) ?_
      refine lv_iload_n hx hb dX4_put_112 rfl (lv_at hl 1 rfl) ?_
      refine lv_ishl hx hb dX4_put_113 ?_
      refine lv_ior hx hb dX4_put_114 ?_
      refine lv_topi (fun z8 ez8 => ?_)
      have h := h z8 ez8
      obtain ⟨hin, h⟩ := h
      refine va_iast hx hb hK hP hD hS 4 0 rfl rfl hin dX4_put_115 (fun H locs hP hD hS => ?_)
      obtain ⟨a9, ea9⟩ : ∃ f, f = upd r_held (v2 + v5).toNatClampNeg z8 := ⟨_, rfl⟩
      have h := h a9 ea9
      rw [← ea9] at hP hD
      have hP : va_P D vwCl (w_R cI cZ cR ad_r r_pitches r_firstSteps r_lengths r_size a9 r_punched r_markedTicks r_marks) H := hP
      have hD : va_D A (w_R cI cZ cR ad_r r_pitches r_firstSteps r_lengths r_size a9 r_punched r_markedTicks r_marks) := hD
      refine lv_iload hx hb dX4_put_116 (lv_at hl 4 rfl) ?_
      refine lv_iload_n hx hb dX4_put_118 rfl (lv_at hl 3 rfl) ?_
      refine gl_calliS (va_runS (As := [.int v5, .int v3]) (rest := []) ⟨hx, hb, hml, hown, hts⟩ (mt_X4_isBridge l D cI cZ cR  H.size v5 v3 _ h) (va_cwS 2 hts gX4_put_X4_isBridge rfl rfl rfl (by decide +kernel) ⟨Nat.le_of_ble_eq_true rfl, Nat.le_of_ble_eq_true rfl⟩) ⟨gl_blind, gl_pre gl_nilP hK hN (gl_nilD (A := A))⟩ rfl rfl hl.1 rfl (lv_room (Nat.le_of_ble_eq_true rfl)) dX4_put_119 ⟨Nat.le_of_ble_eq_true rfl, Nat.le_of_ble_eq_true rfl⟩) hP hS hA (fun r10 u H locs h hP hS => ?_)
      try dsimp only at h
      refine lv_if_ne (tgt := 140) hx hb dX4_put_122 (by decide) (fun hc => ?_) (fun hc => ?_)
      · have h := h.1 hc
        refine lv_iinc (v := v5 + 1) (lv' := [(5, .int (v5 + 1)), (0, .ref (ad_r 0)), (1, .int v1), (2, .int v2), (3, .int v3)]) hx hb dX4_put_140 hl (k := 4) rfl rfl (by decide) rfl (fun ls hl => ?_)
        refine lv_goto (tgt := 95) hx hb dX4_put_143 (by decide) ?_
        exact ih (v5 + 1) r_pitches r_firstSteps r_lengths r_size a9 r_punched h H locs hP hD hS ls (lv_sub hl [1, 2, 3, 4, 0] rfl)
      · have h := h.2 hc
        refine lv_aload_n hx hb dX4_put_125 rfl (lv_at hl 0 rfl) ?_
        refine va_get (D := D) (ci := 4) (v := .ref (ad_r 5)) (C := RX4) (T := TX4) (N := 8) hx hb hts us_X4_put_X4 hown hK hP 0 rfl rfl 5 (by decide) (hts (.fieldLink RX4 28 "RollHouse$Roll" "punched" "[I") lk_X4_put_5) (fun _ h9 => h9) rfl dX4_put_126 ?_
        refine lv_iload_n hx hb dX4_put_129 rfl (lv_at hl 2 rfl) ?_
        refine lv_iload hx hb dX4_put_130 (lv_at hl 4 rfl) ?_
        refine lv_iadd hx hb dX4_put_132 ?_
        refine lv_dup2_11 hx hb dX4_put_133 rfl rfl ?_
        obtain ⟨hin, h⟩ := h
        refine va_iald hx hb hK hP 5 0 rfl rfl hin dX4_put_134 ?_
        refine lv_iconst (v := 1) hx hb dX4_put_135 (by decide) ?_
        refine lv_iload_n hx hb dX4_put_136 rfl (lv_at hl 1 rfl) ?_
        refine lv_ishl hx hb dX4_put_137 ?_
        refine lv_ior hx hb dX4_put_138 ?_
        refine lv_topi (fun z11 ez11 => ?_)
        have h := h z11 ez11
        obtain ⟨hin, h⟩ := h
        refine va_iast hx hb hK hP hD hS 5 0 rfl rfl hin dX4_put_139 (fun H locs hP hD hS => ?_)
        obtain ⟨a12, ea12⟩ : ∃ f, f = upd r_punched (v2 + v5).toNatClampNeg z11 := ⟨_, rfl⟩
        have h := h a12 ea12
        rw [← ea12] at hP hD
        have hP : va_P D vwCl (w_R cI cZ cR ad_r r_pitches r_firstSteps r_lengths r_size a9 a12 r_markedTicks r_marks) H := hP
        have hD : va_D A (w_R cI cZ cR ad_r r_pitches r_firstSteps r_lengths r_size a9 a12 r_markedTicks r_marks) := hD
        refine lv_iinc (v := v5 + 1) (lv' := [(5, .int (v5 + 1)), (0, .ref (ad_r 0)), (1, .int v1), (2, .int v2), (3, .int v3)]) hx hb dX4_put_140 hl (k := 4) rfl rfl (by decide) rfl (fun ls hl => ?_)
        refine lv_goto (tgt := 95) hx hb dX4_put_143 (by decide) ?_
        exact ih (v5 + 1) r_pitches r_firstSteps r_lengths r_size a9 a12 h H locs hP hD hS ls (lv_sub hl [1, 2, 3, 4, 0] rfl)
set_option maxRecDepth 100000 in
set_option maxHeartbeats 4000000 in
theorem ml_X4_put_73 {p : Program} {l : Launch} {e : Env} {s : State} {m : MethodId} {args : Array Value} {below : List Frame} {meth : Method} {c : Code} {D : va_G} {cI cZ cR : ClassId} {A : Nat → Prop} {ad_r : Nat → Nat} {r_markedTicks : Nat → Int32} {r_marks : Int32} (G : gG p s m args meth c cX4_put none 6 RX4 wsX4_put) (hK : va_K D vwCl (gT cI cZ cR) s) (hN : va_Nw gN s) (hA : ∀ q, s.heap.size ≤ q → A q) (v1 : Int32) (v2 : Int32) (v3 : Int32) (post : (Nat → Int32) → (Nat → Int32) → (Nat → Int32) → Int32 → (Nat → Int32) → (Nat → Int32) → Prop) (v4 : Int32) (r_pitches : Nat → Int32) (r_firstSteps : Nat → Int32) (r_lengths : Nat → Int32) (r_size : Int32) (r_held : Nat → Int32) (r_punched : Nat → Int32) (h : wl_X4_put_73 v1 v2 v3 post v4 r_pitches r_firstSteps r_lengths r_size r_held r_punched) : ∀ (H : Heap) (locs : List Loc), va_P D vwCl (w_R cI cZ cR ad_r r_pitches r_firstSteps r_lengths r_size r_held r_punched r_markedTicks r_marks) H → va_D A (w_R cI cZ cR ad_r r_pitches r_firstSteps r_lengths r_size r_held r_punched r_markedTicks r_marks) → va_S A s.heap H locs → ∀ (ls : Array Slot), lv_has ls 6 [(0, .ref (ad_r 0)), (1, .int v1), (2, .int v2), (3, .int v3), (4, .int v4)] → W p l e { frames := 1, cells := 0, slots := 0, locals := 24 } s m args below meth c H locs 0 0 (MQ below (va_Qv (fun (u : (Nat → Int32) × (Nat → Int32) × (Nat → Int32) × (Int32) × (Nat → Int32) × (Nat → Int32)) => post u.1 u.2.1 u.2.2.1 u.2.2.2.1 u.2.2.2.2.1 u.2.2.2.2.2) (fun u t => gB D (gT cI cZ cR) A (w_R cI cZ cR ad_r u.1 u.2.1 u.2.2.1 u.2.2.2.1 u.2.2.2.2.1 u.2.2.2.2.2 r_markedTicks r_marks) t) A) args s 0 0 A) (F0 m 73 ls []) := by
  obtain ⟨hx, hb, hr, hml, hown, hts, hlocks⟩ := id G
  intro H locs hP hD hS ls hl
  unfold wl_X4_put_73 at h
  refine lv_aload_n hx hb dX4_put_73 rfl (lv_at hl 0 rfl) ?_
  refine lv_iload hx hb dX4_put_74 (lv_at hl 4 rfl) ?_
  refine lv_iload_n hx hb dX4_put_76 rfl (lv_at hl 1 rfl) ?_
  refine lv_iload_n hx hb dX4_put_77 rfl (lv_at hl 2 rfl) ?_
  refine lv_iload_n hx hb dX4_put_78 rfl (lv_at hl 3 rfl) ?_
  refine gl_callvF (va_runV (As := [.int v4, .int v1, .int v2, .int v3]) (rest := []) ⟨hx, hb, hml, hown, hts⟩ (mt_X4_setNote l D cI cZ cR ad_r H.size r_pitches r_firstSteps r_lengths r_size r_held r_punched r_markedTicks r_marks v4 v1 v2 v3 _ h) (cwV 4 hts gX4_put_X4_setNote rfl rfl rfl (by decide +kernel) ⟨Nat.le_of_ble_eq_true rfl, Nat.le_of_ble_eq_true rfl⟩) ⟨gl_blind, va_recv hK hP (ci := 4) (q0 := 0) rfl rfl, gl_pre hP hK hN hD⟩ rfl rfl hl.1 rfl (lv_room (Nat.le_of_ble_eq_true rfl)) dX4_put_79 ⟨Nat.le_of_ble_eq_true rfl, Nat.le_of_ble_eq_true rfl⟩) hD hS hA (fun u H locs h hP hD hS => ?_)
  obtain ⟨a5, a6, a7⟩ := u
  try dsimp only at h
  have hP : va_P D vwCl (w_R cI cZ cR ad_r a5 a6 a7 r_size r_held r_punched r_markedTicks r_marks) H := hP
  have hD : va_D A (w_R cI cZ cR ad_r a5 a6 a7 r_size r_held r_punched r_markedTicks r_marks) := hD
  refine lv_aload_n hx hb dX4_put_82 rfl (lv_at hl 0 rfl) ?_
  refine lv_dup hx hb dX4_put_83 rfl ?_
  refine va_get (D := D) (ci := 4) (v := .int r_size) (C := RX4) (T := TX4) (N := 8) hx hb hts us_X4_put_X4 hown hK hP 0 rfl rfl 3 (by decide) (hts (.fieldLink RX4 21 "RollHouse$Roll" "size" "I") lk_X4_put_0) (fun _ h9 => h9) rfl dX4_put_84 ?_
  refine lv_iconst (v := 1) hx hb dX4_put_87 (by decide) ?_
  refine lv_iadd hx hb dX4_put_88 ?_
  refine va_put (D := D) (ci := 4) (v := .int (r_size + 1)) (ty := .int) (C := RX4) (T := TX4) (N := 8) hx hb hts us_X4_put_X4 tyX4 tyX4_ok nmX4 hown hK hP hD hS 0 rfl rfl 3 (by decide) (hts (.fieldLink RX4 21 "RollHouse$Roll" "size" "I") lk_X4_put_0) (fun _ h9 => h9) rfl (by decide +kernel) rfl rfl (Nat.le_of_ble_eq_true rfl) dX4_put_89 (fun H locs hP hD hS => ?_)
  have hP : va_P D vwCl (w_R cI cZ cR ad_r a5 a6 a7 (r_size + 1) r_held r_punched r_markedTicks r_marks) H := hP
  have hD : va_D A (w_R cI cZ cR ad_r a5 a6 a7 (r_size + 1) r_held r_punched r_markedTicks r_marks) := hD
  refine lv_iconst (v := 0) hx hb dX4_put_92 (by decide) ?_
  refine lv_istore (lv' := [(5, .int 0), (0, .ref (ad_r 0)), (1, .int v1), (2, .int v2), (3, .int v3), (4, .int v4)]) hx hb dX4_put_93 hl (by decide) rfl (fun ls hl => ?_)
  obtain ⟨nf, h⟩ := h
  exact ml_X4_put_95 G hK hN hA v1 v2 v3 post nf 0 a5 a6 a7 (r_size + 1) r_held r_punched h H locs hP hD hS ls (lv_sub hl [1, 2, 3, 4, 0] rfl)
set_option maxRecDepth 100000 in
set_option maxHeartbeats 4000000 in
theorem ml_X4_put_16 {p : Program} {l : Launch} {e : Env} {s : State} {m : MethodId} {args : Array Value} {below : List Frame} {meth : Method} {c : Code} {D : va_G} {cI cZ cR : ClassId} {A : Nat → Prop} {ad_r : Nat → Nat} {r_markedTicks : Nat → Int32} {r_marks : Int32} (G : gG p s m args meth c cX4_put none 6 RX4 wsX4_put) (hK : va_K D vwCl (gT cI cZ cR) s) (hN : va_Nw gN s) (hA : ∀ q, s.heap.size ≤ q → A q) (v1 : Int32) (v2 : Int32) (v3 : Int32) (post : (Nat → Int32) → (Nat → Int32) → (Nat → Int32) → Int32 → (Nat → Int32) → (Nat → Int32) → Prop) : ∀ (fu : Nat) (v4 : Int32) (r_pitches : Nat → Int32) (r_firstSteps : Nat → Int32) (r_lengths : Nat → Int32) (r_size : Int32) (r_held : Nat → Int32) (r_punched : Nat → Int32), wl_X4_put_16 v1 v2 v3 post fu v4 r_pitches r_firstSteps r_lengths r_size r_held r_punched → ∀ (H : Heap) (locs : List Loc), va_P D vwCl (w_R cI cZ cR ad_r r_pitches r_firstSteps r_lengths r_size r_held r_punched r_markedTicks r_marks) H → va_D A (w_R cI cZ cR ad_r r_pitches r_firstSteps r_lengths r_size r_held r_punched r_markedTicks r_marks) → va_S A s.heap H locs → ∀ (ls : Array Slot), lv_has ls 6 [(0, .ref (ad_r 0)), (1, .int v1), (2, .int v2), (3, .int v3), (4, .int v4)] → W p l e { frames := 1, cells := 0, slots := 0, locals := 24 } s m args below meth c H locs 0 0 (MQ below (va_Qv (fun (u : (Nat → Int32) × (Nat → Int32) × (Nat → Int32) × (Int32) × (Nat → Int32) × (Nat → Int32)) => post u.1 u.2.1 u.2.2.1 u.2.2.2.1 u.2.2.2.2.1 u.2.2.2.2.2) (fun u t => gB D (gT cI cZ cR) A (w_R cI cZ cR ad_r u.1 u.2.1 u.2.2.1 u.2.2.2.1 u.2.2.2.2.1 u.2.2.2.2.2 r_markedTicks r_marks) t) A) args s 0 0 A) (F0 m 16 ls []) := by
  obtain ⟨hx, hb, hr, hml, hown, hts, hlocks⟩ := id G
  intro fu
  induction fu with
  | zero =>
    intro v4 r_pitches r_firstSteps r_lengths r_size r_held r_punched h
    exact h.elim
  | succ fu ih =>
    intro v4 r_pitches r_firstSteps r_lengths r_size r_held r_punched h H locs hP hD hS ls hl
    rw [wl_X4_put_16] at h
    refine lv_iload hx hb dX4_put_16 (lv_at hl 4 rfl) ?_
    refine lv_if_le (tgt := 73) hx hb dX4_put_18 (by decide) (fun hc => ?_) (fun hc => ?_)
    · have h := h.1 hc
      exact ml_X4_put_73 G hK hN hA v1 v2 v3 post v4 r_pitches r_firstSteps r_lengths r_size r_held r_punched h H locs hP hD hS ls (lv_sub hl [0, 1, 2, 3, 4] rfl)
    · have h := h.2 hc
      refine lv_aload_n hx hb dX4_put_21 rfl (lv_at hl 0 rfl) ?_
      refine lv_iload_n hx hb dX4_put_22 rfl (lv_at hl 1 rfl) ?_
      refine lv_iload_n hx hb dX4_put_23 rfl (lv_at hl 2 rfl) ?_
      refine lv_iload hx hb dX4_put_24 (lv_at hl 4 rfl) ?_
      refine lv_iconst (v := 1) hx hb dX4_put_26 (by decide) ?_
      refine lv_isub hx hb dX4_put_27 ?_
      refine gl_calliF (va_runV (As := [.int v1, .int v2, .int (v4 - 1)]) (rest := []) ⟨hx, hb, hml, hown, hts⟩ (mt_X4_comesAhead l D cI cZ cR ad_r H.size r_pitches r_firstSteps r_lengths r_size r_held r_punched r_markedTicks r_marks v1 v2 (v4 - 1) _ h) (cwV 3 hts gX4_put_X4_comesAhead rfl rfl rfl (by decide +kernel) ⟨Nat.le_of_ble_eq_true rfl, Nat.le_of_ble_eq_true rfl⟩) ⟨gl_blind, va_recv hK hP (ci := 4) (q0 := 0) rfl rfl, gl_pre hP hK hN hD⟩ rfl rfl hl.1 rfl (lv_room (Nat.le_of_ble_eq_true rfl)) dX4_put_28 ⟨Nat.le_of_ble_eq_true rfl, Nat.le_of_ble_eq_true rfl⟩) hD hS hA (fun r1 u H locs h hP hD hS => ?_)
      try dsimp only at h
      refine lv_if_eq (tgt := 73) hx hb dX4_put_31 (by decide) (fun hc => ?_) (fun hc => ?_)
      · have h := h.1 hc
        exact ml_X4_put_73 G hK hN hA v1 v2 v3 post v4 r_pitches r_firstSteps r_lengths r_size r_held r_punched h H locs hP hD hS ls (lv_sub hl [0, 1, 2, 3, 4] rfl)
      · have h := h.2 hc
        refine lv_aload_n hx hb dX4_put_34 rfl (lv_at hl 0 rfl) ?_
        refine lv_iload hx hb dX4_put_35 (lv_at hl 4 rfl) ?_
        refine lv_aload_n hx hb dX4_put_37 rfl (lv_at hl 0 rfl) ?_
        refine va_get (D := D) (ci := 4) (v := .ref (ad_r 1)) (C := RX4) (T := TX4) (N := 8) hx hb hts us_X4_put_X4 hown hK hP 0 rfl rfl 0 (by decide) (hts (.fieldLink RX4 9 "RollHouse$Roll" "pitches" "[I") lk_X4_put_1) (fun _ h9 => h9) rfl dX4_put_38 ?_
        refine lv_iload hx hb dX4_put_41 (lv_at hl 4 rfl) ?_
        refine lv_iconst (v := 1) hx hb dX4_put_43 (by decide) ?_
        refine lv_isub hx hb dX4_put_44 ?_
        obtain ⟨hin, h⟩ := h
        refine va_iald hx hb hK hP 1 0 rfl rfl hin dX4_put_45 ?_
        refine lv_aload_n hx hb dX4_put_46 rfl (lv_at hl 0 rfl) ?_
        refine va_get (D := D) (ci := 4) (v := .ref (ad_r 2)) (C := RX4) (T := TX4) (N := 8) hx hb hts us_X4_put_X4 hown hK hP 0 rfl rfl 1 (by decide) (hts (.fieldLink RX4 15 "RollHouse$Roll" "firstSteps" "[I") lk_X4_put_2) (fun _ h9 => h9) rfl dX4_put_47 ?_
        refine lv_iload hx hb dX4_put_50 (lv_at hl 4 rfl) ?_
        refine lv_iconst (v := 1) hx hb dX4_put_52 (by decide) ?_
        refine lv_isub hx hb dX4_put_53 ?_
        obtain ⟨hin, h⟩ := h
        refine va_iald hx hb hK hP 2 0 rfl rfl hin dX4_put_54 ?_
        refine lv_aload_n hx hb dX4_put_55 rfl (lv_at hl 0 rfl) ?_
        refine va_get (D := D) (ci := 4) (v := .ref (ad_r 3)) (C := RX4) (T := TX4) (N := 8) hx hb hts us_X4_put_X4 hown hK hP 0 rfl rfl 2 (by decide) (hts (.fieldLink RX4 18 "RollHouse$Roll" "lengths" "[I") lk_X4_put_3) (fun _ h9 => h9) rfl dX4_put_56 ?_
        refine lv_iload hx hb dX4_put_59 (lv_at hl 4 rfl) ?_
        refine lv_iconst (v := 1) hx hb dX4_put_61 (by decide) ?_
        refine lv_isub hx hb dX4_put_62 ?_
        obtain ⟨hin, h⟩ := h
        refine va_iald hx hb hK hP 3 0 rfl rfl hin dX4_put_63 ?_
        refine gl_callvF (va_runV (As := [.int v4, .int (r_pitches (v4 - 1).toNatClampNeg), .int (r_firstSteps (v4 - 1).toNatClampNeg), .int (r_lengths (v4 - 1).toNatClampNeg)]) (rest := []) ⟨hx, hb, hml, hown, hts⟩ (mt_X4_setNote l D cI cZ cR ad_r H.size r_pitches r_firstSteps r_lengths r_size r_held r_punched r_markedTicks r_marks v4 (r_pitches (v4 - 1).toNatClampNeg) (r_firstSteps (v4 - 1).toNatClampNeg) (r_lengths (v4 - 1).toNatClampNeg) _ h) (cwV 4 hts gX4_put_X4_setNote rfl rfl rfl (by decide +kernel) ⟨Nat.le_of_ble_eq_true rfl, Nat.le_of_ble_eq_true rfl⟩) ⟨gl_blind, va_recv hK hP (ci := 4) (q0 := 0) rfl rfl, gl_pre hP hK hN hD⟩ rfl rfl hl.1 rfl (lv_room (Nat.le_of_ble_eq_true rfl)) dX4_put_64 ⟨Nat.le_of_ble_eq_true rfl, Nat.le_of_ble_eq_true rfl⟩) hD hS hA (fun u H locs h hP hD hS => ?_)
        obtain ⟨a2, a3, a4⟩ := u
        try dsimp only at h
        have hP : va_P D vwCl (w_R cI cZ cR ad_r a2 a3 a4 r_size r_held r_punched r_markedTicks r_marks) H := hP
        have hD : va_D A (w_R cI cZ cR ad_r a2 a3 a4 r_size r_held r_punched r_markedTicks r_marks) := hD
        refine lv_iinc (v := v4 + (-1)) (lv' := [(4, .int (v4 + (-1))), (0, .ref (ad_r 0)), (1, .int v1), (2, .int v2), (3, .int v3)]) hx hb dX4_put_67 hl (k := 4) rfl rfl (by decide) rfl (fun ls hl => ?_)
        refine lv_goto (tgt := 16) hx hb dX4_put_70 (by decide) ?_
        exact ih (v4 + (-1)) a2 a3 a4 r_size r_held r_punched h H locs hP hD hS ls (lv_sub hl [1, 2, 3, 4, 0] rfl)
set_option maxRecDepth 100000 in
set_option maxHeartbeats 4000000 in
theorem ml_X4_put_0 {p : Program} {l : Launch} {e : Env} {s : State} {m : MethodId} {args : Array Value} {below : List Frame} {meth : Method} {c : Code} {D : va_G} {cI cZ cR : ClassId} {A : Nat → Prop} {ad_r : Nat → Nat} {r_markedTicks : Nat → Int32} {r_marks : Int32} (G : gG p s m args meth c cX4_put none 6 RX4 wsX4_put) (hK : va_K D vwCl (gT cI cZ cR) s) (hN : va_Nw gN s) (hA : ∀ q, s.heap.size ≤ q → A q) (v1 : Int32) (v2 : Int32) (v3 : Int32) (post : (Nat → Int32) → (Nat → Int32) → (Nat → Int32) → Int32 → (Nat → Int32) → (Nat → Int32) → Prop) (r_pitches : Nat → Int32) (r_firstSteps : Nat → Int32) (r_lengths : Nat → Int32) (r_size : Int32) (r_held : Nat → Int32) (r_punched : Nat → Int32) (h : wp_X4_put v1 v2 v3 r_pitches r_firstSteps r_lengths r_size r_held r_punched post) : ∀ (H : Heap) (locs : List Loc), va_P D vwCl (w_R cI cZ cR ad_r r_pitches r_firstSteps r_lengths r_size r_held r_punched r_markedTicks r_marks) H → va_D A (w_R cI cZ cR ad_r r_pitches r_firstSteps r_lengths r_size r_held r_punched r_markedTicks r_marks) → va_S A s.heap H locs → ∀ (ls : Array Slot), lv_has ls 6 [(0, .ref (ad_r 0)), (1, .int v1), (2, .int v2), (3, .int v3)] → W p l e { frames := 1, cells := 0, slots := 0, locals := 24 } s m args below meth c H locs 0 0 (MQ below (va_Qv (fun (u : (Nat → Int32) × (Nat → Int32) × (Nat → Int32) × (Int32) × (Nat → Int32) × (Nat → Int32)) => post u.1 u.2.1 u.2.2.1 u.2.2.2.1 u.2.2.2.2.1 u.2.2.2.2.2) (fun u t => gB D (gT cI cZ cR) A (w_R cI cZ cR ad_r u.1 u.2.1 u.2.2.1 u.2.2.2.1 u.2.2.2.2.1 u.2.2.2.2.2 r_markedTicks r_marks) t) A) args s 0 0 A) (F0 m 0 ls []) := by
  obtain ⟨hx, hb, hr, hml, hown, hts, hlocks⟩ := id G
  intro H locs hP hD hS ls hl
  unfold wp_X4_put at h
  refine lv_aload_n hx hb dX4_put_0 rfl (lv_at hl 0 rfl) ?_
  refine va_get (D := D) (ci := 4) (v := .int r_size) (C := RX4) (T := TX4) (N := 8) hx hb hts us_X4_put_X4 hown hK hP 0 rfl rfl 3 (by decide) (hts (.fieldLink RX4 21 "RollHouse$Roll" "size" "I") lk_X4_put_0) (fun _ h9 => h9) rfl dX4_put_1 ?_
  refine lv_bipush (v := 60) hx hb dX4_put_4 (by decide) ?_
  refine lv_icmp_lt (tgt := 10) hx hb dX4_put_6 (by decide) (fun hc => ?_) (fun hc => ?_)
  · have h := h.1 hc
    refine lv_aload_n hx hb dX4_put_10 rfl (lv_at hl 0 rfl) ?_
    refine va_get (D := D) (ci := 4) (v := .int r_size) (C := RX4) (T := TX4) (N := 8) hx hb hts us_X4_put_X4 hown hK hP 0 rfl rfl 3 (by decide) (hts (.fieldLink RX4 21 "RollHouse$Roll" "size" "I") lk_X4_put_0) (fun _ h9 => h9) rfl dX4_put_11 ?_
    refine lv_istore (lv' := [(4, .int r_size), (0, .ref (ad_r 0)), (1, .int v1), (2, .int v2), (3, .int v3)]) hx hb dX4_put_14 hl (by decide) rfl (fun ls hl => ?_)
    obtain ⟨nf, h⟩ := h
    exact ml_X4_put_16 G hK hN hA v1 v2 v3 post nf r_size r_pitches r_firstSteps r_lengths r_size r_held r_punched h H locs hP hD hS ls (lv_sub hl [1, 2, 3, 4, 0] rfl)
  · have h := h.2 hc
    exact gl_retv G hK (u := (r_pitches, r_firstSteps, r_lengths, r_size, r_held, r_punched)) hP hD hS h dX4_put_9
set_option maxRecDepth 100000 in
theorem mt_X4_put (l : Launch) (D : va_G) (cI cZ cR : ClassId) (ad_r : Nat → Nat) (sz : Nat) (r_pitches : Nat → Int32) (r_firstSteps : Nat → Int32) (r_lengths : Nat → Int32) (r_size : Int32) (r_held : Nat → Int32) (r_punched : Nat → Int32) (r_markedTicks : Nat → Int32) (r_marks : Int32) (v1 : Int32) (v2 : Int32) (v3 : Int32) (post : (Nat → Int32) → (Nat → Int32) → (Nat → Int32) → Int32 → (Nat → Int32) → (Nat → Int32) → Prop) (h : wp_X4_put v1 v2 v3 r_pitches r_firstSteps r_lengths r_size r_held r_punched post) : Met l yX4_put wsX4_put ({ frames := 1, cells := 0, slots := 0, locals := 24 }) (gPc D (gT cI cZ cR) (w_R cI cZ cR ad_r r_pitches r_firstSteps r_lengths r_size r_held r_punched r_markedTicks r_marks) sz [.ref (ad_r 0), .int v1, .int v2, .int v3]) (va_Qv (fun (u : (Nat → Int32) × (Nat → Int32) × (Nat → Int32) × (Int32) × (Nat → Int32) × (Nat → Int32)) => post u.1 u.2.1 u.2.2.1 u.2.2.2.1 u.2.2.2.2.1 u.2.2.2.2.2) (fun u t => gB D (gT cI cZ cR) (va_A (w_R cI cZ cR ad_r r_pitches r_firstSteps r_lengths r_size r_held r_punched r_markedTicks r_marks) sz) (w_R cI cZ cR ad_r u.1 u.2.1 u.2.2.1 u.2.2.2.1 u.2.2.2.2.1 u.2.2.2.2.2 r_markedTicks r_marks) t) (va_A (w_R cI cZ cR ad_r r_pitches r_firstSteps r_lengths r_size r_held r_punched r_markedTicks r_marks) sz)) 0 0 (va_A (w_R cI cZ cR ad_r r_pitches r_firstSteps r_lengths r_size r_held r_punched r_markedTicks r_marks) sz) := by
  refine gl_entry (cc := cX4_put) (maxL := 6) (ret := none) (by decide) rfl (Nat.le_of_ble_eq_true rfl) ?_
  intro p e s m below meth c ls G hin hsz hK hN hP hD hl
  subst hsz
  exact ml_X4_put_0 G hK hN (fun q h => Or.inr h) v1 v2 v3 post r_pitches r_firstSteps r_lengths r_size r_held r_punched h s.heap [] hP hD va_S.rf ls hl
def wp_X4_putIfAllowed (v1 : Int32) (v2 : Int32) (v3 : Int32) (r_pitches : Nat → Int32) (r_firstSteps : Nat → Int32) (r_lengths : Nat → Int32) (r_size : Int32) (r_held : Nat → Int32) (r_punched : Nat → Int32) (post : Int32 → (Nat → Int32) → (Nat → Int32) → (Nat → Int32) → Int32 → (Nat → Int32) → (Nat → Int32) → Prop) : Prop := (wp_X4_isTooNear r_held v1 v2 v3 (fun (r1 : Int32) => ((r1 = 0 → (wp_X4_isBorne r_punched v1 v2 v3 (fun (r2 : Int32) => ((¬ r2 = 0 → (wp_X4_put v1 v2 v3 r_pitches r_firstSteps r_lengths r_size r_held r_punched (fun (a3 : Nat → Int32) (a4 : Nat → Int32) (a5 : Nat → Int32) (z6 : Int32) (a7 : Nat → Int32) (a8 : Nat → Int32) => post 1 a3 a4 a5 z6 a7 a8))) ∧ (r2 = 0 → post (-3) r_pitches r_firstSteps r_lengths r_size r_held r_punched))))) ∧ (¬ r1 = 0 → post (-2) r_pitches r_firstSteps r_lengths r_size r_held r_punched))))
set_option maxRecDepth 100000 in
set_option maxHeartbeats 4000000 in
theorem ml_X4_putIfAllowed_0 {p : Program} {l : Launch} {e : Env} {s : State} {m : MethodId} {args : Array Value} {below : List Frame} {meth : Method} {c : Code} {D : va_G} {cI cZ cR : ClassId} {A : Nat → Prop} {ad_r : Nat → Nat} {r_markedTicks : Nat → Int32} {r_marks : Int32} (G : gG p s m args meth c cX4_putIfAllowed (some .int) 4 RX4 wsX4_putIfAllowed) (hK : va_K D vwCl (gT cI cZ cR) s) (hN : va_Nw gN s) (hA : ∀ q, s.heap.size ≤ q → A q) (v1 : Int32) (v2 : Int32) (v3 : Int32) (post : Int32 → (Nat → Int32) → (Nat → Int32) → (Nat → Int32) → Int32 → (Nat → Int32) → (Nat → Int32) → Prop) (r_pitches : Nat → Int32) (r_firstSteps : Nat → Int32) (r_lengths : Nat → Int32) (r_size : Int32) (r_held : Nat → Int32) (r_punched : Nat → Int32) (h : wp_X4_putIfAllowed v1 v2 v3 r_pitches r_firstSteps r_lengths r_size r_held r_punched post) : ∀ (H : Heap) (locs : List Loc), va_P D vwCl (w_R cI cZ cR ad_r r_pitches r_firstSteps r_lengths r_size r_held r_punched r_markedTicks r_marks) H → va_D A (w_R cI cZ cR ad_r r_pitches r_firstSteps r_lengths r_size r_held r_punched r_markedTicks r_marks) → va_S A s.heap H locs → ∀ (ls : Array Slot), lv_has ls 4 [(0, .ref (ad_r 0)), (1, .int v1), (2, .int v2), (3, .int v3)] → W p l e { frames := 3, cells := 0, slots := 0, locals := 65 } s m args below meth c H locs 0 0 (MQ below (va_Qi (fun (r : Int32) (u : (Nat → Int32) × (Nat → Int32) × (Nat → Int32) × (Int32) × (Nat → Int32) × (Nat → Int32)) => post r u.1 u.2.1 u.2.2.1 u.2.2.2.1 u.2.2.2.2.1 u.2.2.2.2.2) (fun u t => gB D (gT cI cZ cR) A (w_R cI cZ cR ad_r u.1 u.2.1 u.2.2.1 u.2.2.2.1 u.2.2.2.2.1 u.2.2.2.2.2 r_markedTicks r_marks) t) A) args s 0 0 A) (F0 m 0 ls []) := by
  obtain ⟨hx, hb, hr, hml, hown, hts, hlocks⟩ := id G
  intro H locs hP hD hS ls hl
  unfold wp_X4_putIfAllowed at h
  refine lv_aload_n hx hb dX4_putIfAllowed_0 rfl (lv_at hl 0 rfl) ?_
  refine lv_iload_n hx hb dX4_putIfAllowed_1 rfl (lv_at hl 1 rfl) ?_
  refine lv_iload_n hx hb dX4_putIfAllowed_2 rfl (lv_at hl 2 rfl) ?_
  refine lv_iload_n hx hb dX4_putIfAllowed_3 rfl (lv_at hl 3 rfl) ?_
  refine gl_calliF (va_runV (As := [.int v1, .int v2, .int v3]) (rest := []) ⟨hx, hb, hml, hown, hts⟩ (mt_X4_isTooNear l D cI cZ cR ad_r H.size r_pitches r_firstSteps r_lengths r_size r_held r_punched r_markedTicks r_marks v1 v2 v3 _ h) (cwV 3 hts gX4_putIfAllowed_X4_isTooNear rfl rfl rfl (by decide +kernel) ⟨Nat.le_of_ble_eq_true rfl, Nat.le_of_ble_eq_true rfl⟩) ⟨gl_blind, va_recv hK hP (ci := 4) (q0 := 0) rfl rfl, gl_pre hP hK hN hD⟩ rfl rfl hl.1 rfl (lv_room (Nat.le_of_ble_eq_true rfl)) dX4_putIfAllowed_4 ⟨Nat.le_of_ble_eq_true rfl, Nat.le_of_ble_eq_true rfl⟩) hD hS hA (fun r1 u H locs h hP hD hS => ?_)
  try dsimp only at h
  refine lv_if_eq (tgt := 13) hx hb dX4_putIfAllowed_7 (by decide) (fun hc => ?_) (fun hc => ?_)
  · have h := h.1 hc
    refine lv_aload_n hx hb dX4_putIfAllowed_13 rfl (lv_at hl 0 rfl) ?_
    refine lv_iload_n hx hb dX4_putIfAllowed_14 rfl (lv_at hl 1 rfl) ?_
    refine lv_iload_n hx hb dX4_putIfAllowed_15 rfl (lv_at hl 2 rfl) ?_
    refine lv_iload_n hx hb dX4_putIfAllowed_16 rfl (lv_at hl 3 rfl) ?_
    refine gl_calliF (va_runV (As := [.int v1, .int v2, .int v3]) (rest := []) ⟨hx, hb, hml, hown, hts⟩ (mt_X4_isBorne l D cI cZ cR ad_r H.size r_pitches r_firstSteps r_lengths r_size r_held r_punched r_markedTicks r_marks v1 v2 v3 _ h) (cwV 3 hts gX4_putIfAllowed_X4_isBorne rfl rfl rfl (by decide +kernel) ⟨Nat.le_of_ble_eq_true rfl, Nat.le_of_ble_eq_true rfl⟩) ⟨gl_blind, va_recv hK hP (ci := 4) (q0 := 0) rfl rfl, gl_pre hP hK hN hD⟩ rfl rfl hl.1 rfl (lv_room (Nat.le_of_ble_eq_true rfl)) dX4_putIfAllowed_17 ⟨Nat.le_of_ble_eq_true rfl, Nat.le_of_ble_eq_true rfl⟩) hD hS hA (fun r2 u H locs h hP hD hS => ?_)
    try dsimp only at h
    refine lv_if_ne (tgt := 26) hx hb dX4_putIfAllowed_20 (by decide) (fun hc => ?_) (fun hc => ?_)
    · have h := h.1 hc
      refine lv_aload_n hx hb dX4_putIfAllowed_26 rfl (lv_at hl 0 rfl) ?_
      refine lv_iload_n hx hb dX4_putIfAllowed_27 rfl (lv_at hl 1 rfl) ?_
      refine lv_iload_n hx hb dX4_putIfAllowed_28 rfl (lv_at hl 2 rfl) ?_
      refine lv_iload_n hx hb dX4_putIfAllowed_29 rfl (lv_at hl 3 rfl) ?_
      refine gl_callvF (va_runV (As := [.int v1, .int v2, .int v3]) (rest := []) ⟨hx, hb, hml, hown, hts⟩ (mt_X4_put l D cI cZ cR ad_r H.size r_pitches r_firstSteps r_lengths r_size r_held r_punched r_markedTicks r_marks v1 v2 v3 _ h) (cwV 3 hts gX4_putIfAllowed_X4_put rfl rfl rfl (by decide +kernel) ⟨Nat.le_of_ble_eq_true rfl, Nat.le_of_ble_eq_true rfl⟩) ⟨gl_blind, va_recv hK hP (ci := 4) (q0 := 0) rfl rfl, gl_pre hP hK hN hD⟩ rfl rfl hl.1 rfl (lv_room (Nat.le_of_ble_eq_true rfl)) dX4_putIfAllowed_30 ⟨Nat.le_of_ble_eq_true rfl, Nat.le_of_ble_eq_true rfl⟩) hD hS hA (fun u H locs h hP hD hS => ?_)
      obtain ⟨a3, a4, a5, z6, a7, a8⟩ := u
      try dsimp only at h
      have hP : va_P D vwCl (w_R cI cZ cR ad_r a3 a4 a5 z6 a7 a8 r_markedTicks r_marks) H := hP
      have hD : va_D A (w_R cI cZ cR ad_r a3 a4 a5 z6 a7 a8 r_markedTicks r_marks) := hD
      refine lv_iconst (v := 1) hx hb dX4_putIfAllowed_33 (by decide) ?_
      exact gl_ireti G hK (u := (a3, a4, a5, z6, a7, a8)) hP hD hS h dX4_putIfAllowed_34
    · have h := h.2 hc
      refine lv_bipush (v := (-3)) hx hb dX4_putIfAllowed_23 (by decide) ?_
      exact gl_ireti G hK (u := (r_pitches, r_firstSteps, r_lengths, r_size, r_held, r_punched)) hP hD hS h dX4_putIfAllowed_25
  · have h := h.2 hc
    refine lv_bipush (v := (-2)) hx hb dX4_putIfAllowed_10 (by decide) ?_
    exact gl_ireti G hK (u := (r_pitches, r_firstSteps, r_lengths, r_size, r_held, r_punched)) hP hD hS h dX4_putIfAllowed_12
set_option maxRecDepth 100000 in
theorem mt_X4_putIfAllowed (l : Launch) (D : va_G) (cI cZ cR : ClassId) (ad_r : Nat → Nat) (sz : Nat) (r_pitches : Nat → Int32) (r_firstSteps : Nat → Int32) (r_lengths : Nat → Int32) (r_size : Int32) (r_held : Nat → Int32) (r_punched : Nat → Int32) (r_markedTicks : Nat → Int32) (r_marks : Int32) (v1 : Int32) (v2 : Int32) (v3 : Int32) (post : Int32 → (Nat → Int32) → (Nat → Int32) → (Nat → Int32) → Int32 → (Nat → Int32) → (Nat → Int32) → Prop) (h : wp_X4_putIfAllowed v1 v2 v3 r_pitches r_firstSteps r_lengths r_size r_held r_punched post) : Met l yX4_putIfAllowed wsX4_putIfAllowed ({ frames := 3, cells := 0, slots := 0, locals := 65 }) (gPc D (gT cI cZ cR) (w_R cI cZ cR ad_r r_pitches r_firstSteps r_lengths r_size r_held r_punched r_markedTicks r_marks) sz [.ref (ad_r 0), .int v1, .int v2, .int v3]) (va_Qi (fun (r : Int32) (u : (Nat → Int32) × (Nat → Int32) × (Nat → Int32) × (Int32) × (Nat → Int32) × (Nat → Int32)) => post r u.1 u.2.1 u.2.2.1 u.2.2.2.1 u.2.2.2.2.1 u.2.2.2.2.2) (fun u t => gB D (gT cI cZ cR) (va_A (w_R cI cZ cR ad_r r_pitches r_firstSteps r_lengths r_size r_held r_punched r_markedTicks r_marks) sz) (w_R cI cZ cR ad_r u.1 u.2.1 u.2.2.1 u.2.2.2.1 u.2.2.2.2.1 u.2.2.2.2.2 r_markedTicks r_marks) t) (va_A (w_R cI cZ cR ad_r r_pitches r_firstSteps r_lengths r_size r_held r_punched r_markedTicks r_marks) sz)) 0 0 (va_A (w_R cI cZ cR ad_r r_pitches r_firstSteps r_lengths r_size r_held r_punched r_markedTicks r_marks) sz) := by
  refine gl_entry (cc := cX4_putIfAllowed) (maxL := 4) (ret := (some .int)) (by decide) rfl (Nat.le_of_ble_eq_true rfl) ?_
  intro p e s m below meth c ls G hin hsz hK hN hP hD hl
  subst hsz
  exact ml_X4_putIfAllowed_0 G hK hN (fun q h => Or.inr h) v1 v2 v3 post r_pitches r_firstSteps r_lengths r_size r_held r_punched h s.heap [] hP hD va_S.rf ls hl
theorem lk_X4_noteWith_0 : (Cond.fieldLink RX4 21 "RollHouse$Roll" "size" "I") ∈ wsX4_noteWith := by decide +kernel
theorem lk_X4_noteWith_1 : (Cond.fieldLink RX4 9 "RollHouse$Roll" "pitches" "[I") ∈ wsX4_noteWith := by decide +kernel
theorem lk_X4_noteWith_2 : (Cond.fieldLink RX4 15 "RollHouse$Roll" "firstSteps" "[I") ∈ wsX4_noteWith := by decide +kernel
theorem lk_X4_noteWith_3 : (Cond.fieldLink RX4 18 "RollHouse$Roll" "lengths" "[I") ∈ wsX4_noteWith := by decide +kernel
theorem lk_X4_noteWith_4 : (Cond.initialized RX6) ∈ wsX4_noteWith := by decide +kernel
theorem lk_X4_noteWith_5 : (Cond.static yX6_isWithin) ∈ wsX4_noteWith := by decide +kernel
theorem us_X4_noteWith_X4 : ∀ w ∈ u_ws RX4 TX4 8, w ∈ wsX4_noteWith := by decide +kernel
def wl_X4_noteWith_2 (r_pitches : Nat → Int32) (r_firstSteps : Nat → Int32) (r_lengths : Nat → Int32) (r_size : Int32) (v1 : Int32) (v2 : Int32) (post : Int32 → Prop) : Nat → (Int32) → Prop
  | 0, _ => False
  | fu + 1, v3 => ((r_size ≤ v3 → post (-1) ) ∧ (¬ r_size ≤ v3 → (vp_in v3 60 ∧ ((¬ (r_pitches v3.toNatClampNeg) = v1 → wl_X4_noteWith_2 r_pitches r_firstSteps r_lengths r_size v1 v2 post fu (v3 + 1)) ∧ ((r_pitches v3.toNatClampNeg) = v1 → (vp_in v3 60 ∧ (vp_in v3 60 ∧ (wp_X6_isWithin (v2 - (r_firstSteps v3.toNatClampNeg)) 0 ((r_lengths v3.toNatClampNeg) - 1) (fun (r1 : Int32) => ((r1 = 0 → wl_X4_noteWith_2 r_pitches r_firstSteps r_lengths r_size v1 v2 post fu (v3 + 1)) ∧ (¬ r1 = 0 → post v3 )))))))))))
def wp_X4_noteWith (r_pitches : Nat → Int32) (r_firstSteps : Nat → Int32) (r_lengths : Nat → Int32) (r_size : Int32) (v1 : Int32) (v2 : Int32) (post : Int32 → Prop) : Prop := (∃ n, wl_X4_noteWith_2 r_pitches r_firstSteps r_lengths r_size v1 v2 post n 0)
set_option maxRecDepth 100000 in
set_option maxHeartbeats 4000000 in
theorem ml_X4_noteWith_2 {p : Program} {l : Launch} {e : Env} {s : State} {m : MethodId} {args : Array Value} {below : List Frame} {meth : Method} {c : Code} {D : va_G} {cI cZ cR : ClassId} {A : Nat → Prop} {ad_r : Nat → Nat} {r_held : Nat → Int32} {r_punched : Nat → Int32} {r_markedTicks : Nat → Int32} {r_marks : Int32} (G : gG p s m args meth c cX4_noteWith (some .int) 4 RX4 wsX4_noteWith) (hK : va_K D vwCl (gT cI cZ cR) s) (hN : va_Nw gN s) (hA : ∀ q, s.heap.size ≤ q → A q) (r_pitches : Nat → Int32) (r_firstSteps : Nat → Int32) (r_lengths : Nat → Int32) (r_size : Int32) (v1 : Int32) (v2 : Int32) (post : Int32 → Prop) : ∀ (fu : Nat) (v3 : Int32), wl_X4_noteWith_2 r_pitches r_firstSteps r_lengths r_size v1 v2 post fu v3 → ∀ (H : Heap) (locs : List Loc), va_P D vwCl (w_R cI cZ cR ad_r r_pitches r_firstSteps r_lengths r_size r_held r_punched r_markedTicks r_marks) H → va_D A (w_R cI cZ cR ad_r r_pitches r_firstSteps r_lengths r_size r_held r_punched r_markedTicks r_marks) → va_S A s.heap H locs → ∀ (ls : Array Slot), lv_has ls 4 [(0, .ref (ad_r 0)), (1, .int v1), (2, .int v2), (3, .int v3)] → W p l e { frames := 1, cells := 0, slots := 0, locals := 22 } s m args below meth c H locs 0 0 (MQ below (va_Qi (fun (r : Int32) (u : Unit) => post r ) (fun u t => gB D (gT cI cZ cR) A (w_R cI cZ cR ad_r r_pitches r_firstSteps r_lengths r_size r_held r_punched r_markedTicks r_marks) t) A) args s 0 0 A) (F0 m 2 ls []) := by
  obtain ⟨hx, hb, hr, hml, hown, hts, hlocks⟩ := id G
  intro fu
  induction fu with
  | zero =>
    intro v3 h
    exact h.elim
  | succ fu ih =>
    intro v3 h H locs hP hD hS ls hl
    rw [wl_X4_noteWith_2] at h
    refine lv_iload_n hx hb dX4_noteWith_2 rfl (lv_at hl 3 rfl) ?_
    refine lv_aload_n hx hb dX4_noteWith_3 rfl (lv_at hl 0 rfl) ?_
    refine va_get (D := D) (ci := 4) (v := .int r_size) (C := RX4) (T := TX4) (N := 8) hx hb hts us_X4_noteWith_X4 hown hK hP 0 rfl rfl 3 (by decide) (hts (.fieldLink RX4 21 "RollHouse$Roll" "size" "I") lk_X4_noteWith_0) (fun _ h9 => h9) rfl dX4_noteWith_4 ?_
    refine lv_icmp_ge (tgt := 51) hx hb dX4_noteWith_7 (by decide) (fun hc => ?_) (fun hc => ?_)
    · have h := h.1 hc
      refine lv_iconst (v := (-1)) hx hb dX4_noteWith_51 (by decide) ?_
      exact gl_ireti G hK (u := ()) hP hD hS h dX4_noteWith_52
    · have h := h.2 hc
      refine lv_aload_n hx hb dX4_noteWith_10 rfl (lv_at hl 0 rfl) ?_
      refine va_get (D := D) (ci := 4) (v := .ref (ad_r 1)) (C := RX4) (T := TX4) (N := 8) hx hb hts us_X4_noteWith_X4 hown hK hP 0 rfl rfl 0 (by decide) (hts (.fieldLink RX4 9 "RollHouse$Roll" "pitches" "[I") lk_X4_noteWith_1) (fun _ h9 => h9) rfl dX4_noteWith_11 ?_
      refine lv_iload_n hx hb dX4_noteWith_14 rfl (lv_at hl 3 rfl) ?_
      obtain ⟨hin, h⟩ := h
      refine va_iald hx hb hK hP 1 0 rfl rfl hin dX4_noteWith_15 ?_
      refine lv_iload_n hx hb dX4_noteWith_16 rfl (lv_at hl 1 rfl) ?_
      refine lv_icmp_ne (tgt := 45) hx hb dX4_noteWith_17 (by decide) (fun hc => ?_) (fun hc => ?_)
      · have h := h.1 hc
        refine lv_iinc (v := v3 + 1) (lv' := [(3, .int (v3 + 1)), (0, .ref (ad_r 0)), (1, .int v1), (2, .int v2)]) hx hb dX4_noteWith_45 hl (k := 3) rfl rfl (by decide) rfl (fun ls hl => ?_)
        refine lv_goto (tgt := 2) hx hb dX4_noteWith_48 (by decide) ?_
        exact ih (v3 + 1) h H locs hP hD hS ls (lv_sub hl [1, 2, 3, 0] rfl)
      · have h := h.2 hc
        refine lv_iload_n hx hb dX4_noteWith_20 rfl (lv_at hl 2 rfl) ?_
        refine lv_aload_n hx hb dX4_noteWith_21 rfl (lv_at hl 0 rfl) ?_
        refine va_get (D := D) (ci := 4) (v := .ref (ad_r 2)) (C := RX4) (T := TX4) (N := 8) hx hb hts us_X4_noteWith_X4 hown hK hP 0 rfl rfl 1 (by decide) (hts (.fieldLink RX4 15 "RollHouse$Roll" "firstSteps" "[I") lk_X4_noteWith_2) (fun _ h9 => h9) rfl dX4_noteWith_22 ?_
        refine lv_iload_n hx hb dX4_noteWith_25 rfl (lv_at hl 3 rfl) ?_
        obtain ⟨hin, h⟩ := h
        refine va_iald hx hb hK hP 2 0 rfl rfl hin dX4_noteWith_26 ?_
        refine lv_isub hx hb dX4_noteWith_27 ?_
        refine lv_iconst (v := 0) hx hb dX4_noteWith_28 (by decide) ?_
        refine lv_aload_n hx hb dX4_noteWith_29 rfl (lv_at hl 0 rfl) ?_
        refine va_get (D := D) (ci := 4) (v := .ref (ad_r 3)) (C := RX4) (T := TX4) (N := 8) hx hb hts us_X4_noteWith_X4 hown hK hP 0 rfl rfl 2 (by decide) (hts (.fieldLink RX4 18 "RollHouse$Roll" "lengths" "[I") lk_X4_noteWith_3) (fun _ h9 => h9) rfl dX4_noteWith_30 ?_
        refine lv_iload_n hx hb dX4_noteWith_33 rfl (lv_at hl 3 rfl) ?_
        obtain ⟨hin, h⟩ := h
        refine va_iald hx hb hK hP 3 0 rfl rfl hin dX4_noteWith_34 ?_
        refine lv_iconst (v := 1) hx hb dX4_noteWith_35 (by decide) ?_
        refine lv_isub hx hb dX4_noteWith_36 ?_
        refine gl_calliS (va_runSN (As := [.int (v2 - (r_firstSteps v3.toNatClampNeg)), .int 0, .int ((r_lengths v3.toNatClampNeg) - 1)]) (rest := []) ⟨hx, hb, hml, hown, hts⟩ (mt_X6_isWithin l D cI cZ cR  H.size (v2 - (r_firstSteps v3.toNatClampNeg)) 0 ((r_lengths v3.toNatClampNeg) - 1) _ h) ⟨va_cnB 3 hts ggX4_noteWith_X6_isWithin rfl rfl rfl hN (hts (.initialized RX6) lk_X4_noteWith_4) (by decide +kernel) ⟨Nat.le_of_ble_eq_true rfl, Nat.le_of_ble_eq_true rfl⟩, hts (.static yX6_isWithin) lk_X4_noteWith_5, trivial⟩ ⟨gl_blind, gl_pre gl_nilP hK hN (gl_nilD (A := A))⟩ rfl rfl hl.1 rfl (lv_room (Nat.le_of_ble_eq_true rfl)) dX4_noteWith_37 ⟨Nat.le_of_ble_eq_true rfl, Nat.le_of_ble_eq_true rfl⟩) hP hS hA (fun r1 u H locs h hP hS => ?_)
        try dsimp only at h
        refine lv_if_eq (tgt := 45) hx hb dX4_noteWith_40 (by decide) (fun hc => ?_) (fun hc => ?_)
        · have h := h.1 hc
          refine lv_iinc (v := v3 + 1) (lv' := [(3, .int (v3 + 1)), (0, .ref (ad_r 0)), (1, .int v1), (2, .int v2)]) hx hb dX4_noteWith_45 hl (k := 3) rfl rfl (by decide) rfl (fun ls hl => ?_)
          refine lv_goto (tgt := 2) hx hb dX4_noteWith_48 (by decide) ?_
          exact ih (v3 + 1) h H locs hP hD hS ls (lv_sub hl [1, 2, 3, 0] rfl)
        · have h := h.2 hc
          refine lv_iload_n hx hb dX4_noteWith_43 rfl (lv_at hl 3 rfl) ?_
          exact gl_ireti G hK (u := ()) hP hD hS h dX4_noteWith_44
set_option maxRecDepth 100000 in
set_option maxHeartbeats 4000000 in
theorem ml_X4_noteWith_0 {p : Program} {l : Launch} {e : Env} {s : State} {m : MethodId} {args : Array Value} {below : List Frame} {meth : Method} {c : Code} {D : va_G} {cI cZ cR : ClassId} {A : Nat → Prop} {ad_r : Nat → Nat} {r_held : Nat → Int32} {r_punched : Nat → Int32} {r_markedTicks : Nat → Int32} {r_marks : Int32} (G : gG p s m args meth c cX4_noteWith (some .int) 4 RX4 wsX4_noteWith) (hK : va_K D vwCl (gT cI cZ cR) s) (hN : va_Nw gN s) (hA : ∀ q, s.heap.size ≤ q → A q) (r_pitches : Nat → Int32) (r_firstSteps : Nat → Int32) (r_lengths : Nat → Int32) (r_size : Int32) (v1 : Int32) (v2 : Int32) (post : Int32 → Prop)  (h : wp_X4_noteWith r_pitches r_firstSteps r_lengths r_size v1 v2 post) : ∀ (H : Heap) (locs : List Loc), va_P D vwCl (w_R cI cZ cR ad_r r_pitches r_firstSteps r_lengths r_size r_held r_punched r_markedTicks r_marks) H → va_D A (w_R cI cZ cR ad_r r_pitches r_firstSteps r_lengths r_size r_held r_punched r_markedTicks r_marks) → va_S A s.heap H locs → ∀ (ls : Array Slot), lv_has ls 4 [(0, .ref (ad_r 0)), (1, .int v1), (2, .int v2)] → W p l e { frames := 1, cells := 0, slots := 0, locals := 22 } s m args below meth c H locs 0 0 (MQ below (va_Qi (fun (r : Int32) (u : Unit) => post r ) (fun u t => gB D (gT cI cZ cR) A (w_R cI cZ cR ad_r r_pitches r_firstSteps r_lengths r_size r_held r_punched r_markedTicks r_marks) t) A) args s 0 0 A) (F0 m 0 ls []) := by
  obtain ⟨hx, hb, hr, hml, hown, hts, hlocks⟩ := id G
  intro H locs hP hD hS ls hl
  unfold wp_X4_noteWith at h
  refine lv_iconst (v := 0) hx hb dX4_noteWith_0 (by decide) ?_
  refine lv_istore_n (lv' := [(3, .int 0), (0, .ref (ad_r 0)), (1, .int v1), (2, .int v2)]) hx hb dX4_noteWith_1 rfl hl (by decide) rfl (fun ls hl => ?_)
  obtain ⟨nf, h⟩ := h
  exact ml_X4_noteWith_2 G hK hN hA r_pitches r_firstSteps r_lengths r_size v1 v2 post nf 0 h H locs hP hD hS ls (lv_sub hl [1, 2, 3, 0] rfl)
set_option maxRecDepth 100000 in
theorem mt_X4_noteWith (l : Launch) (D : va_G) (cI cZ cR : ClassId) (ad_r : Nat → Nat) (sz : Nat) (r_pitches : Nat → Int32) (r_firstSteps : Nat → Int32) (r_lengths : Nat → Int32) (r_size : Int32) (r_held : Nat → Int32) (r_punched : Nat → Int32) (r_markedTicks : Nat → Int32) (r_marks : Int32) (v1 : Int32) (v2 : Int32) (post : Int32 → Prop) (h : wp_X4_noteWith r_pitches r_firstSteps r_lengths r_size v1 v2 post) : Met l yX4_noteWith wsX4_noteWith ({ frames := 1, cells := 0, slots := 0, locals := 22 }) (gPc D (gT cI cZ cR) (w_R cI cZ cR ad_r r_pitches r_firstSteps r_lengths r_size r_held r_punched r_markedTicks r_marks) sz [.ref (ad_r 0), .int v1, .int v2]) (va_Qi (fun (r : Int32) (u : Unit) => post r ) (fun u t => gB D (gT cI cZ cR) (va_A (w_R cI cZ cR ad_r r_pitches r_firstSteps r_lengths r_size r_held r_punched r_markedTicks r_marks) sz) (w_R cI cZ cR ad_r r_pitches r_firstSteps r_lengths r_size r_held r_punched r_markedTicks r_marks) t) (va_A (w_R cI cZ cR ad_r r_pitches r_firstSteps r_lengths r_size r_held r_punched r_markedTicks r_marks) sz)) 0 0 (va_A (w_R cI cZ cR ad_r r_pitches r_firstSteps r_lengths r_size r_held r_punched r_markedTicks r_marks) sz) := by
  refine gl_entry (cc := cX4_noteWith) (maxL := 4) (ret := (some .int)) (by decide) rfl (Nat.le_of_ble_eq_true rfl) ?_
  intro p e s m below meth c ls G hin hsz hK hN hP hD hl
  subst hsz
  exact ml_X4_noteWith_0 G hK hN (fun q h => Or.inr h) r_pitches r_firstSteps r_lengths r_size v1 v2 post h s.heap [] hP hD va_S.rf ls hl
theorem lk_X4_take_0 : (Cond.fieldLink RX4 15 "RollHouse$Roll" "firstSteps" "[I") ∈ wsX4_take := by decide +kernel
theorem lk_X4_take_1 : (Cond.fieldLink RX4 18 "RollHouse$Roll" "lengths" "[I") ∈ wsX4_take := by decide +kernel
theorem lk_X4_take_2 : (Cond.fieldLink RX4 21 "RollHouse$Roll" "size" "I") ∈ wsX4_take := by decide +kernel
theorem lk_X4_take_3 : (Cond.fieldLink RX4 9 "RollHouse$Roll" "pitches" "[I") ∈ wsX4_take := by decide +kernel
theorem lk_X4_take_4 : (Cond.fieldLink RX4 25 "RollHouse$Roll" "held" "[I") ∈ wsX4_take := by decide +kernel
theorem lk_X4_take_5 : (Cond.fieldLink RX4 28 "RollHouse$Roll" "punched" "[I") ∈ wsX4_take := by decide +kernel
theorem us_X4_take_X4 : ∀ w ∈ u_ws RX4 TX4 8, w ∈ wsX4_take := by decide +kernel
def wl_X4_take_101 (v1 : Int32) (v2 : Int32) (post : Int32 → (Nat → Int32) → (Nat → Int32) → (Nat → Int32) → Int32 → (Nat → Int32) → (Nat → Int32) → Prop) : Nat → (Int32) → (Int32) → (Int32) → (Int32) → (Nat → Int32) → (Nat → Int32) → (Nat → Int32) → (Int32) → (Nat → Int32) → (Nat → Int32) → Prop
  | 0, _, _, _, _, _, _, _, _, _, _ => False
  | fu + 1, v4, v5, v6, v7, r_pitches, r_firstSteps, r_lengths, r_size, r_held, r_punched => ((v5 ≤ v7 → post v5 r_pitches r_firstSteps r_lengths r_size r_held r_punched) ∧ (¬ v5 ≤ v7 → (vp_in (v4 + v7) 300 ∧ (∀ z8 : Int32, z8 = (r_held (v4 + v7).toNatClampNeg) &&& v6 → (vp_in (v4 + v7) 300 ∧ (∀ a9 : Nat → Int32, a9 = upd r_held (v4 + v7).toNatClampNeg z8 → (vp_in (v4 + v7) 300 ∧ (∀ z10 : Int32, z10 = (r_punched (v4 + v7).toNatClampNeg) &&& v6 → (vp_in (v4 + v7) 300 ∧ (∀ a11 : Nat → Int32, a11 = upd r_punched (v4 + v7).toNatClampNeg z10 → wl_X4_take_101 v1 v2 post fu v4 v5 v6 (v7 + 1) r_pitches r_firstSteps r_lengths r_size a9 a11))))))))))
def wl_X4_take_43 (v1 : Int32) (v2 : Int32) (post : Int32 → (Nat → Int32) → (Nat → Int32) → (Nat → Int32) → Int32 → (Nat → Int32) → (Nat → Int32) → Prop) : Nat → (Int32) → (Int32) → (Int32) → (Nat → Int32) → (Nat → Int32) → (Nat → Int32) → (Int32) → (Nat → Int32) → (Nat → Int32) → Prop
  | 0, _, _, _, _, _, _, _, _, _ => False
  | fu + 1, v4, v5, v6, r_pitches, r_firstSteps, r_lengths, r_size, r_held, r_punched => ((r_size ≤ v6 → (∀ z4 : Int32, z4 = (1 <<< (v1 &&& 31)) ^^^ (-1) → (∃ n, wl_X4_take_101 v1 v2 post n v4 v5 z4 0 r_pitches r_firstSteps r_lengths r_size r_held r_punched))) ∧ (¬ r_size ≤ v6 → (vp_in (v6 + 1) 60 ∧ (vp_in (v6 + 1) 60 ∧ (vp_in (v6 + 1) 60 ∧ (wp_X4_setNote v6 (r_pitches (v6 + 1).toNatClampNeg) (r_firstSteps (v6 + 1).toNatClampNeg) (r_lengths (v6 + 1).toNatClampNeg) r_pitches r_firstSteps r_lengths (fun (a5 : Nat → Int32) (a6 : Nat → Int32) (a7 : Nat → Int32) => wl_X4_take_43 v1 v2 post fu v4 v5 (v6 + 1) a5 a6 a7 r_size r_held r_punched)))))))
def wp_X4_take (v1 : Int32) (v2 : Int32) (r_pitches : Nat → Int32) (r_firstSteps : Nat → Int32) (r_lengths : Nat → Int32) (r_size : Int32) (r_held : Nat → Int32) (r_punched : Nat → Int32) (post : Int32 → (Nat → Int32) → (Nat → Int32) → (Nat → Int32) → Int32 → (Nat → Int32) → (Nat → Int32) → Prop) : Prop := (wp_X4_noteWith r_pitches r_firstSteps r_lengths r_size v1 v2 (fun (r1 : Int32) => ((¬ r1 = (-1) → (vp_in r1 60 ∧ (∀ z2 : Int32, z2 = r_firstSteps r1.toNatClampNeg → (vp_in r1 60 ∧ (∀ z3 : Int32, z3 = r_lengths r1.toNatClampNeg → (∃ n, wl_X4_take_43 v1 v2 post n z2 z3 r1 r_pitches r_firstSteps r_lengths (r_size - 1) r_held r_punched)))))) ∧ (r1 = (-1) → post (-1) r_pitches r_firstSteps r_lengths r_size r_held r_punched))))
set_option maxRecDepth 100000 in
set_option maxHeartbeats 4000000 in
theorem ml_X4_take_101 {p : Program} {l : Launch} {e : Env} {s : State} {m : MethodId} {args : Array Value} {below : List Frame} {meth : Method} {c : Code} {D : va_G} {cI cZ cR : ClassId} {A : Nat → Prop} {ad_r : Nat → Nat} {r_markedTicks : Nat → Int32} {r_marks : Int32} (G : gG p s m args meth c cX4_take (some .int) 8 RX4 wsX4_take) (hK : va_K D vwCl (gT cI cZ cR) s) (hN : va_Nw gN s) (hA : ∀ q, s.heap.size ≤ q → A q) (v1 : Int32) (v2 : Int32) (post : Int32 → (Nat → Int32) → (Nat → Int32) → (Nat → Int32) → Int32 → (Nat → Int32) → (Nat → Int32) → Prop) : ∀ (fu : Nat) (v4 : Int32) (v5 : Int32) (v6 : Int32) (v7 : Int32) (r_pitches : Nat → Int32) (r_firstSteps : Nat → Int32) (r_lengths : Nat → Int32) (r_size : Int32) (r_held : Nat → Int32) (r_punched : Nat → Int32), wl_X4_take_101 v1 v2 post fu v4 v5 v6 v7 r_pitches r_firstSteps r_lengths r_size r_held r_punched → ∀ (H : Heap) (locs : List Loc), va_P D vwCl (w_R cI cZ cR ad_r r_pitches r_firstSteps r_lengths r_size r_held r_punched r_markedTicks r_marks) H → va_D A (w_R cI cZ cR ad_r r_pitches r_firstSteps r_lengths r_size r_held r_punched r_markedTicks r_marks) → va_S A s.heap H locs → ∀ (ls : Array Slot), lv_has ls 8 [(0, .ref (ad_r 0)), (4, .int v4), (5, .int v5), (6, .int v6), (7, .int v7)] → W p l e { frames := 2, cells := 0, slots := 0, locals := 45 } s m args below meth c H locs 0 0 (MQ below (va_Qi (fun (r : Int32) (u : (Nat → Int32) × (Nat → Int32) × (Nat → Int32) × (Int32) × (Nat → Int32) × (Nat → Int32)) => post r u.1 u.2.1 u.2.2.1 u.2.2.2.1 u.2.2.2.2.1 u.2.2.2.2.2) (fun u t => gB D (gT cI cZ cR) A (w_R cI cZ cR ad_r u.1 u.2.1 u.2.2.1 u.2.2.2.1 u.2.2.2.2.1 u.2.2.2.2.2 r_markedTicks r_marks) t) A) args s 0 0 A) (F0 m 101 ls []) := by
  obtain ⟨hx, hb, hr, hml, hown, hts, hlocks⟩ := id G
  intro fu
  induction fu with
  | zero =>
    intro v4 v5 v6 v7 r_pitches r_firstSteps r_lengths r_size r_held r_punched h
    exact h.elim
  | succ fu ih =>
    intro v4 v5 v6 v7 r_pitches r_firstSteps r_lengths r_size r_held r_punched h H locs hP hD hS ls hl
    rw [wl_X4_take_101] at h
    refine lv_iload hx hb dX4_take_101 (lv_at hl 4 rfl) ?_
    refine lv_iload hx hb dX4_take_103 (lv_at hl 2 rfl) ?_
    refine lv_icmp_ge (tgt := 144) hx hb dX4_take_105 (by decide) (fun hc => ?_) (fun hc => ?_)
    · have h := h.1 hc
      refine lv_iload hx hb dX4_take_144 (lv_at hl 2 rfl) ?_
      exact gl_ireti G hK (u := (r_pitches, r_firstSteps, r_lengths, r_size, r_held, r_punched)) hP hD hS h dX4_take_146
    · have h := h.2 hc
      refine lv_aload_n hx hb dX4_take_108 rfl (lv_at hl 0 rfl) ?_
      refine va_get (D := D) (ci := 4) (v := .ref (ad_r 4)) (C := RX4) (T := TX4) (N := 8) hx hb hts us_X4_take_X4 hown hK hP 0 rfl rfl 4 (by decide) (hts (.fieldLink RX4 25 "RollHouse$Roll" "held" "[I") lk_X4_take_4) (fun _ h9 => h9) rfl dX4_take_109 ?_
      refine lv_iload hx hb dX4_take_112 (lv_at hl 1 rfl) ?_
      refine lv_iload hx hb dX4_take_114 (lv_at hl 4 rfl) ?_
      refine lv_iadd hx hb dX4_take_116 ?_
      refine lv_dup2_11 hx hb dX4_take_117 rfl rfl ?_
      obtain ⟨hin, h⟩ := h
      refine va_iald hx hb hK hP 4 0 rfl rfl hin dX4_take_118 ?_
      refine lv_iload hx hb dX4_take_119 (lv_at hl 3 rfl) ?_
      refine lv_iand hx hb dX4_take_121 ?_
      refine lv_topi (fun z8 ez8 => ?_)
      have h := h z8 ez8
      obtain ⟨hin, h⟩ := h
      refine va_iast hx hb hK hP hD hS 4 0 rfl rfl hin dX4_take_122 (fun H locs hP hD hS => ?_)
      obtain ⟨a9, ea9⟩ : ∃ f, f = upd r_held (v4 + v7).toNatClampNeg z8 := ⟨_, rfl⟩
      have h := h a9 ea9
      rw [← ea9] at hP hD
      have hP : va_P D vwCl (w_R cI cZ cR ad_r r_pitches r_firstSteps r_lengths r_size a9 r_punched r_markedTicks r_marks) H := hP
      have hD : va_D A (w_R cI cZ cR ad_r r_pitches r_firstSteps r_lengths r_size a9 r_punched r_markedTicks r_marks) := hD
      refine lv_aload_n hx hb dX4_take_123 rfl (lv_at hl 0 rfl) ?_
      refine va_get (D := D) (ci := 4) (v := .ref (ad_r 5)) (C := RX4) (T := TX4) (N := 8) hx hb hts us_X4_take_X4 hown hK hP 0 rfl rfl 5 (by decide) (hts (.fieldLink RX4 28 "RollHouse$Roll" "punched" "[I") lk_X4_take_5) (fun _ h9 => h9) rfl dX4_take_124 ?_
      refine lv_iload hx hb dX4_take_127 (lv_at hl 1 rfl) ?_
      refine lv_iload hx hb dX4_take_129 (lv_at hl 4 rfl) ?_
      refine lv_iadd hx hb dX4_take_131 ?_
      refine lv_dup2_11 hx hb dX4_take_132 rfl rfl ?_
      obtain ⟨hin, h⟩ := h
      refine va_iald hx hb hK hP 5 0 rfl rfl hin dX4_take_133 ?_
      refine lv_iload hx hb dX4_take_134 (lv_at hl 3 rfl) ?_
      refine lv_iand hx hb dX4_take_136 ?_
      refine lv_topi (fun z10 ez10 => ?_)
      have h := h z10 ez10
      obtain ⟨hin, h⟩ := h
      refine va_iast hx hb hK hP hD hS 5 0 rfl rfl hin dX4_take_137 (fun H locs hP hD hS => ?_)
      obtain ⟨a11, ea11⟩ : ∃ f, f = upd r_punched (v4 + v7).toNatClampNeg z10 := ⟨_, rfl⟩
      have h := h a11 ea11
      rw [← ea11] at hP hD
      have hP : va_P D vwCl (w_R cI cZ cR ad_r r_pitches r_firstSteps r_lengths r_size a9 a11 r_markedTicks r_marks) H := hP
      have hD : va_D A (w_R cI cZ cR ad_r r_pitches r_firstSteps r_lengths r_size a9 a11 r_markedTicks r_marks) := hD
      refine lv_iinc (v := v7 + 1) (lv' := [(7, .int (v7 + 1)), (0, .ref (ad_r 0)), (4, .int v4), (5, .int v5), (6, .int v6)]) hx hb dX4_take_138 hl (k := 4) rfl rfl (by decide) rfl (fun ls hl => ?_)
      refine lv_goto (tgt := 101) hx hb dX4_take_141 (by decide) ?_
      exact ih v4 v5 v6 (v7 + 1) r_pitches r_firstSteps r_lengths r_size a9 a11 h H locs hP hD hS ls (lv_sub hl [1, 2, 3, 4, 0] rfl)
set_option maxRecDepth 100000 in
set_option maxHeartbeats 4000000 in
theorem ml_X4_take_43 {p : Program} {l : Launch} {e : Env} {s : State} {m : MethodId} {args : Array Value} {below : List Frame} {meth : Method} {c : Code} {D : va_G} {cI cZ cR : ClassId} {A : Nat → Prop} {ad_r : Nat → Nat} {r_markedTicks : Nat → Int32} {r_marks : Int32} (G : gG p s m args meth c cX4_take (some .int) 8 RX4 wsX4_take) (hK : va_K D vwCl (gT cI cZ cR) s) (hN : va_Nw gN s) (hA : ∀ q, s.heap.size ≤ q → A q) (v1 : Int32) (v2 : Int32) (post : Int32 → (Nat → Int32) → (Nat → Int32) → (Nat → Int32) → Int32 → (Nat → Int32) → (Nat → Int32) → Prop) : ∀ (fu : Nat) (v4 : Int32) (v5 : Int32) (v6 : Int32) (r_pitches : Nat → Int32) (r_firstSteps : Nat → Int32) (r_lengths : Nat → Int32) (r_size : Int32) (r_held : Nat → Int32) (r_punched : Nat → Int32), wl_X4_take_43 v1 v2 post fu v4 v5 v6 r_pitches r_firstSteps r_lengths r_size r_held r_punched → ∀ (H : Heap) (locs : List Loc), va_P D vwCl (w_R cI cZ cR ad_r r_pitches r_firstSteps r_lengths r_size r_held r_punched r_markedTicks r_marks) H → va_D A (w_R cI cZ cR ad_r r_pitches r_firstSteps r_lengths r_size r_held r_punched r_markedTicks r_marks) → va_S A s.heap H locs → ∀ (ls : Array Slot), lv_has ls 8 [(0, .ref (ad_r 0)), (1, .int v1), (4, .int v4), (5, .int v5), (6, .int v6)] → W p l e { frames := 2, cells := 0, slots := 0, locals := 45 } s m args below meth c H locs 0 0 (MQ below (va_Qi (fun (r : Int32) (u : (Nat → Int32) × (Nat → Int32) × (Nat → Int32) × (Int32) × (Nat → Int32) × (Nat → Int32)) => post r u.1 u.2.1 u.2.2.1 u.2.2.2.1 u.2.2.2.2.1 u.2.2.2.2.2) (fun u t => gB D (gT cI cZ cR) A (w_R cI cZ cR ad_r u.1 u.2.1 u.2.2.1 u.2.2.2.1 u.2.2.2.2.1 u.2.2.2.2.2 r_markedTicks r_marks) t) A) args s 0 0 A) (F0 m 43 ls []) := by
  obtain ⟨hx, hb, hr, hml, hown, hts, hlocks⟩ := id G
  intro fu
  induction fu with
  | zero =>
    intro v4 v5 v6 r_pitches r_firstSteps r_lengths r_size r_held r_punched h
    exact h.elim
  | succ fu ih =>
    intro v4 v5 v6 r_pitches r_firstSteps r_lengths r_size r_held r_punched h H locs hP hD hS ls hl
    rw [wl_X4_take_43] at h
    refine lv_iload hx hb dX4_take_43 (lv_at hl 4 rfl) ?_
    refine lv_aload_n hx hb dX4_take_45 rfl (lv_at hl 0 rfl) ?_
    refine va_get (D := D) (ci := 4) (v := .int r_size) (C := RX4) (T := TX4) (N := 8) hx hb hts us_X4_take_X4 hown hK hP 0 rfl rfl 3 (by decide) (hts (.fieldLink RX4 21 "RollHouse$Roll" "size" "I") lk_X4_take_2) (fun _ h9 => h9) rfl dX4_take_46 ?_
    refine lv_icmp_ge (tgt := 91) hx hb dX4_take_49 (by decide) (fun hc => ?_) (fun hc => ?_)
    · have h := h.1 hc
      refine lv_iconst (v := 1) hx hb dX4_take_91 (by decide) ?_
      refine lv_iload_n hx hb dX4_take_92 rfl (lv_at hl 1 rfl) ?_
      refine lv_ishl hx hb dX4_take_93 ?_
      refine lv_iconst (v := (-1)) hx hb dX4_take_94 (by decide) ?_
      refine lv_ixor hx hb dX4_take_95 ?_
      refine lv_topi (fun z4 ez4 => ?_)
      have h := h z4 ez4
      refine lv_istore (lv' := [(6, .int z4), (0, .ref (ad_r 0)), (1, .int v1), (4, .int v4), (5, .int v5)]) hx hb dX4_take_96 hl (by decide) rfl (fun ls hl => ?_)
      refine lv_iconst (v := 0) hx hb dX4_take_98 (by decide) ?_
      refine lv_istore (lv' := [(7, .int 0), (6, .int z4), (0, .ref (ad_r 0)), (1, .int v1), (4, .int v4), (5, .int v5)]) hx hb dX4_take_99 hl (by decide) rfl (fun ls hl => ?_)
      obtain ⟨nf, h⟩ := h
      exact ml_X4_take_101 G hK hN hA v1 v2 post nf v4 v5 z4 0 r_pitches r_firstSteps r_lengths r_size r_held r_punched h H locs hP hD hS ls (lv_sub hl [2, 4, 5, 1, 0] rfl)
    · have h := h.2 hc
      refine lv_aload_n hx hb dX4_take_52 rfl (lv_at hl 0 rfl) ?_
      refine lv_iload hx hb dX4_take_53 (lv_at hl 4 rfl) ?_
      refine lv_aload_n hx hb dX4_take_55 rfl (lv_at hl 0 rfl) ?_
      refine va_get (D := D) (ci := 4) (v := .ref (ad_r 1)) (C := RX4) (T := TX4) (N := 8) hx hb hts us_X4_take_X4 hown hK hP 0 rfl rfl 0 (by decide) (hts (.fieldLink RX4 9 "RollHouse$Roll" "pitches" "[I") lk_X4_take_3) (fun _ h9 => h9) rfl dX4_take_56 ?_
      refine lv_iload hx hb dX4_take_59 (lv_at hl 4 rfl) ?_
      refine lv_iconst (v := 1) hx hb dX4_take_61 (by decide) ?_
      refine lv_iadd hx hb dX4_take_62 ?_
      obtain ⟨hin, h⟩ := h
      refine va_iald hx hb hK hP 1 0 rfl rfl hin dX4_take_63 ?_
      refine lv_aload_n hx hb dX4_take_64 rfl (lv_at hl 0 rfl) ?_
      refine va_get (D := D) (ci := 4) (v := .ref (ad_r 2)) (C := RX4) (T := TX4) (N := 8) hx hb hts us_X4_take_X4 hown hK hP 0 rfl rfl 1 (by decide) (hts (.fieldLink RX4 15 "RollHouse$Roll" "firstSteps" "[I") lk_X4_take_0) (fun _ h9 => h9) rfl dX4_take_65 ?_
      refine lv_iload hx hb dX4_take_68 (lv_at hl 4 rfl) ?_
      refine lv_iconst (v := 1) hx hb dX4_take_70 (by decide) ?_
      refine lv_iadd hx hb dX4_take_71 ?_
      obtain ⟨hin, h⟩ := h
      refine va_iald hx hb hK hP 2 0 rfl rfl hin dX4_take_72 ?_
      refine lv_aload_n hx hb dX4_take_73 rfl (lv_at hl 0 rfl) ?_
      refine va_get (D := D) (ci := 4) (v := .ref (ad_r 3)) (C := RX4) (T := TX4) (N := 8) hx hb hts us_X4_take_X4 hown hK hP 0 rfl rfl 2 (by decide) (hts (.fieldLink RX4 18 "RollHouse$Roll" "lengths" "[I") lk_X4_take_1) (fun _ h9 => h9) rfl dX4_take_74 ?_
      refine lv_iload hx hb dX4_take_77 (lv_at hl 4 rfl) ?_
      refine lv_iconst (v := 1) hx hb dX4_take_79 (by decide) ?_
      refine lv_iadd hx hb dX4_take_80 ?_
      obtain ⟨hin, h⟩ := h
      refine va_iald hx hb hK hP 3 0 rfl rfl hin dX4_take_81 ?_
      refine gl_callvF (va_runV (As := [.int v6, .int (r_pitches (v6 + 1).toNatClampNeg), .int (r_firstSteps (v6 + 1).toNatClampNeg), .int (r_lengths (v6 + 1).toNatClampNeg)]) (rest := []) ⟨hx, hb, hml, hown, hts⟩ (mt_X4_setNote l D cI cZ cR ad_r H.size r_pitches r_firstSteps r_lengths r_size r_held r_punched r_markedTicks r_marks v6 (r_pitches (v6 + 1).toNatClampNeg) (r_firstSteps (v6 + 1).toNatClampNeg) (r_lengths (v6 + 1).toNatClampNeg) _ h) (cwV 4 hts gX4_take_X4_setNote rfl rfl rfl (by decide +kernel) ⟨Nat.le_of_ble_eq_true rfl, Nat.le_of_ble_eq_true rfl⟩) ⟨gl_blind, va_recv hK hP (ci := 4) (q0 := 0) rfl rfl, gl_pre hP hK hN hD⟩ rfl rfl hl.1 rfl (lv_room (Nat.le_of_ble_eq_true rfl)) dX4_take_82 ⟨Nat.le_of_ble_eq_true rfl, Nat.le_of_ble_eq_true rfl⟩) hD hS hA (fun u H locs h hP hD hS => ?_)
      obtain ⟨a5, a6, a7⟩ := u
      try dsimp only at h
      have hP : va_P D vwCl (w_R cI cZ cR ad_r a5 a6 a7 r_size r_held r_punched r_markedTicks r_marks) H := hP
      have hD : va_D A (w_R cI cZ cR ad_r a5 a6 a7 r_size r_held r_punched r_markedTicks r_marks) := hD
      refine lv_iinc (v := v6 + 1) (lv' := [(6, .int (v6 + 1)), (0, .ref (ad_r 0)), (1, .int v1), (4, .int v4), (5, .int v5)]) hx hb dX4_take_85 hl (k := 4) rfl rfl (by decide) rfl (fun ls hl => ?_)
      refine lv_goto (tgt := 43) hx hb dX4_take_88 (by decide) ?_
      exact ih v4 v5 (v6 + 1) a5 a6 a7 r_size r_held r_punched h H locs hP hD hS ls (lv_sub hl [1, 2, 3, 4, 0] rfl)
set_option maxRecDepth 100000 in
set_option maxHeartbeats 4000000 in
theorem ml_X4_take_0 {p : Program} {l : Launch} {e : Env} {s : State} {m : MethodId} {args : Array Value} {below : List Frame} {meth : Method} {c : Code} {D : va_G} {cI cZ cR : ClassId} {A : Nat → Prop} {ad_r : Nat → Nat} {r_markedTicks : Nat → Int32} {r_marks : Int32} (G : gG p s m args meth c cX4_take (some .int) 8 RX4 wsX4_take) (hK : va_K D vwCl (gT cI cZ cR) s) (hN : va_Nw gN s) (hA : ∀ q, s.heap.size ≤ q → A q) (v1 : Int32) (v2 : Int32) (post : Int32 → (Nat → Int32) → (Nat → Int32) → (Nat → Int32) → Int32 → (Nat → Int32) → (Nat → Int32) → Prop) (r_pitches : Nat → Int32) (r_firstSteps : Nat → Int32) (r_lengths : Nat → Int32) (r_size : Int32) (r_held : Nat → Int32) (r_punched : Nat → Int32) (h : wp_X4_take v1 v2 r_pitches r_firstSteps r_lengths r_size r_held r_punched post) : ∀ (H : Heap) (locs : List Loc), va_P D vwCl (w_R cI cZ cR ad_r r_pitches r_firstSteps r_lengths r_size r_held r_punched r_markedTicks r_marks) H → va_D A (w_R cI cZ cR ad_r r_pitches r_firstSteps r_lengths r_size r_held r_punched r_markedTicks r_marks) → va_S A s.heap H locs → ∀ (ls : Array Slot), lv_has ls 8 [(0, .ref (ad_r 0)), (1, .int v1), (2, .int v2)] → W p l e { frames := 2, cells := 0, slots := 0, locals := 45 } s m args below meth c H locs 0 0 (MQ below (va_Qi (fun (r : Int32) (u : (Nat → Int32) × (Nat → Int32) × (Nat → Int32) × (Int32) × (Nat → Int32) × (Nat → Int32)) => post r u.1 u.2.1 u.2.2.1 u.2.2.2.1 u.2.2.2.2.1 u.2.2.2.2.2) (fun u t => gB D (gT cI cZ cR) A (w_R cI cZ cR ad_r u.1 u.2.1 u.2.2.1 u.2.2.2.1 u.2.2.2.2.1 u.2.2.2.2.2 r_markedTicks r_marks) t) A) args s 0 0 A) (F0 m 0 ls []) := by
  obtain ⟨hx, hb, hr, hml, hown, hts, hlocks⟩ := id G
  intro H locs hP hD hS ls hl
  unfold wp_X4_take at h
  refine lv_aload_n hx hb dX4_take_0 rfl (lv_at hl 0 rfl) ?_
  refine lv_iload_n hx hb dX4_take_1 rfl (lv_at hl 1 rfl) ?_
  refine lv_iload_n hx hb dX4_take_2 rfl (lv_at hl 2 rfl) ?_
  refine gl_calliF (va_runV (As := [.int v1, .int v2]) (rest := []) ⟨hx, hb, hml, hown, hts⟩ (mt_X4_noteWith l D cI cZ cR ad_r H.size r_pitches r_firstSteps r_lengths r_size r_held r_punched r_markedTicks r_marks v1 v2 _ h) (cwV 2 hts gX4_take_X4_noteWith rfl rfl rfl (by decide +kernel) ⟨Nat.le_of_ble_eq_true rfl, Nat.le_of_ble_eq_true rfl⟩) ⟨gl_blind, va_recv hK hP (ci := 4) (q0 := 0) rfl rfl, gl_pre hP hK hN hD⟩ rfl rfl hl.1 rfl (lv_room (Nat.le_of_ble_eq_true rfl)) dX4_take_3 ⟨Nat.le_of_ble_eq_true rfl, Nat.le_of_ble_eq_true rfl⟩) hD hS hA (fun r1 u H locs h hP hD hS => ?_)
  try dsimp only at h
  refine lv_istore_n (lv' := [(3, .int r1), (0, .ref (ad_r 0)), (1, .int v1), (2, .int v2)]) hx hb dX4_take_6 rfl hl (by decide) rfl (fun ls hl => ?_)
  refine lv_iload_n hx hb dX4_take_7 rfl (lv_at hl 0 rfl) ?_
  refine lv_iconst (v := (-1)) hx hb dX4_take_8 (by decide) ?_
  refine lv_icmp_ne (tgt := 14) hx hb dX4_take_9 (by decide) (fun hc => ?_) (fun hc => ?_)
  · have h := h.1 hc
    refine lv_aload_n hx hb dX4_take_14 rfl (lv_at hl 1 rfl) ?_
    refine va_get (D := D) (ci := 4) (v := .ref (ad_r 2)) (C := RX4) (T := TX4) (N := 8) hx hb hts us_X4_take_X4 hown hK hP 0 rfl rfl 1 (by decide) (hts (.fieldLink RX4 15 "RollHouse$Roll" "firstSteps" "[I") lk_X4_take_0) (fun _ h9 => h9) rfl dX4_take_15 ?_
    refine lv_iload_n hx hb dX4_take_18 rfl (lv_at hl 0 rfl) ?_
    obtain ⟨hin, h⟩ := h
    refine va_iald hx hb hK hP 2 0 rfl rfl hin dX4_take_19 ?_
    refine lv_topi (fun z2 ez2 => ?_)
    have h := h z2 ez2
    refine lv_istore (lv' := [(4, .int z2), (3, .int r1), (0, .ref (ad_r 0)), (1, .int v1), (2, .int v2)]) hx hb dX4_take_20 hl (by decide) rfl (fun ls hl => ?_)
    refine lv_aload_n hx hb dX4_take_22 rfl (lv_at hl 2 rfl) ?_
    refine va_get (D := D) (ci := 4) (v := .ref (ad_r 3)) (C := RX4) (T := TX4) (N := 8) hx hb hts us_X4_take_X4 hown hK hP 0 rfl rfl 2 (by decide) (hts (.fieldLink RX4 18 "RollHouse$Roll" "lengths" "[I") lk_X4_take_1) (fun _ h9 => h9) rfl dX4_take_23 ?_
    refine lv_iload_n hx hb dX4_take_26 rfl (lv_at hl 1 rfl) ?_
    obtain ⟨hin, h⟩ := h
    refine va_iald hx hb hK hP 3 0 rfl rfl hin dX4_take_27 ?_
    refine lv_topi (fun z3 ez3 => ?_)
    have h := h z3 ez3
    refine lv_istore (lv' := [(5, .int z3), (4, .int z2), (3, .int r1), (0, .ref (ad_r 0)), (1, .int v1), (2, .int v2)]) hx hb dX4_take_28 hl (by decide) rfl (fun ls hl => ?_)
    refine lv_aload_n hx hb dX4_take_30 rfl (lv_at hl 3 rfl) ?_
    refine lv_dup hx hb dX4_take_31 rfl ?_
    refine va_get (D := D) (ci := 4) (v := .int r_size) (C := RX4) (T := TX4) (N := 8) hx hb hts us_X4_take_X4 hown hK hP 0 rfl rfl 3 (by decide) (hts (.fieldLink RX4 21 "RollHouse$Roll" "size" "I") lk_X4_take_2) (fun _ h9 => h9) rfl dX4_take_32 ?_
    refine lv_iconst (v := 1) hx hb dX4_take_35 (by decide) ?_
    refine lv_isub hx hb dX4_take_36 ?_
    refine va_put (D := D) (ci := 4) (v := .int (r_size - 1)) (ty := .int) (C := RX4) (T := TX4) (N := 8) hx hb hts us_X4_take_X4 tyX4 tyX4_ok nmX4 hown hK hP hD hS 0 rfl rfl 3 (by decide) (hts (.fieldLink RX4 21 "RollHouse$Roll" "size" "I") lk_X4_take_2) (fun _ h9 => h9) rfl (by decide +kernel) rfl rfl (Nat.le_of_ble_eq_true rfl) dX4_take_37 (fun H locs hP hD hS => ?_)
    have hP : va_P D vwCl (w_R cI cZ cR ad_r r_pitches r_firstSteps r_lengths (r_size - 1) r_held r_punched r_markedTicks r_marks) H := hP
    have hD : va_D A (w_R cI cZ cR ad_r r_pitches r_firstSteps r_lengths (r_size - 1) r_held r_punched r_markedTicks r_marks) := hD
    refine lv_iload_n hx hb dX4_take_40 rfl (lv_at hl 2 rfl) ?_
    refine lv_istore (lv' := [(6, .int r1), (5, .int z3), (4, .int z2), (3, .int r1), (0, .ref (ad_r 0)), (1, .int v1), (2, .int v2)]) hx hb dX4_take_41 hl (by decide) rfl (fun ls hl => ?_)
    obtain ⟨nf, h⟩ := h
    exact ml_X4_take_43 G hK hN hA v1 v2 post nf z2 z3 r1 r_pitches r_firstSteps r_lengths (r_size - 1) r_held r_punched h H locs hP hD hS ls (lv_sub hl [4, 5, 2, 1, 0] rfl)
  · have h := h.2 hc
    refine lv_iconst (v := (-1)) hx hb dX4_take_12 (by decide) ?_
    exact gl_ireti G hK (u := (r_pitches, r_firstSteps, r_lengths, r_size, r_held, r_punched)) hP hD hS h dX4_take_13
set_option maxRecDepth 100000 in
theorem mt_X4_take (l : Launch) (D : va_G) (cI cZ cR : ClassId) (ad_r : Nat → Nat) (sz : Nat) (r_pitches : Nat → Int32) (r_firstSteps : Nat → Int32) (r_lengths : Nat → Int32) (r_size : Int32) (r_held : Nat → Int32) (r_punched : Nat → Int32) (r_markedTicks : Nat → Int32) (r_marks : Int32) (v1 : Int32) (v2 : Int32) (post : Int32 → (Nat → Int32) → (Nat → Int32) → (Nat → Int32) → Int32 → (Nat → Int32) → (Nat → Int32) → Prop) (h : wp_X4_take v1 v2 r_pitches r_firstSteps r_lengths r_size r_held r_punched post) : Met l yX4_take wsX4_take ({ frames := 2, cells := 0, slots := 0, locals := 45 }) (gPc D (gT cI cZ cR) (w_R cI cZ cR ad_r r_pitches r_firstSteps r_lengths r_size r_held r_punched r_markedTicks r_marks) sz [.ref (ad_r 0), .int v1, .int v2]) (va_Qi (fun (r : Int32) (u : (Nat → Int32) × (Nat → Int32) × (Nat → Int32) × (Int32) × (Nat → Int32) × (Nat → Int32)) => post r u.1 u.2.1 u.2.2.1 u.2.2.2.1 u.2.2.2.2.1 u.2.2.2.2.2) (fun u t => gB D (gT cI cZ cR) (va_A (w_R cI cZ cR ad_r r_pitches r_firstSteps r_lengths r_size r_held r_punched r_markedTicks r_marks) sz) (w_R cI cZ cR ad_r u.1 u.2.1 u.2.2.1 u.2.2.2.1 u.2.2.2.2.1 u.2.2.2.2.2 r_markedTicks r_marks) t) (va_A (w_R cI cZ cR ad_r r_pitches r_firstSteps r_lengths r_size r_held r_punched r_markedTicks r_marks) sz)) 0 0 (va_A (w_R cI cZ cR ad_r r_pitches r_firstSteps r_lengths r_size r_held r_punched r_markedTicks r_marks) sz) := by
  refine gl_entry (cc := cX4_take) (maxL := 8) (ret := (some .int)) (by decide) rfl (Nat.le_of_ble_eq_true rfl) ?_
  intro p e s m below meth c ls G hin hsz hK hN hP hD hl
  subst hsz
  exact ml_X4_take_0 G hK hN (fun q h => Or.inr h) v1 v2 post r_pitches r_firstSteps r_lengths r_size r_held r_punched h s.heap [] hP hD va_S.rf ls hl
def wp_X4_moveToPitch (v1 : Int32) (v2 : Int32) (v3 : Int32) (r_pitches : Nat → Int32) (r_firstSteps : Nat → Int32) (r_lengths : Nat → Int32) (r_size : Int32) (r_held : Nat → Int32) (r_punched : Nat → Int32) (post : Int32 → (Nat → Int32) → (Nat → Int32) → (Nat → Int32) → Int32 → (Nat → Int32) → (Nat → Int32) → Prop) : Prop := (wp_X4_take v1 v2 r_pitches r_firstSteps r_lengths r_size r_held r_punched (fun (r1 : Int32) (a2 : Nat → Int32) (a3 : Nat → Int32) (a4 : Nat → Int32) (z5 : Int32) (a6 : Nat → Int32) (a7 : Nat → Int32) => ((¬ r1 = (-1) → (wp_X4_putIfAllowed v3 v2 r1 a2 a3 a4 z5 a6 a7 (fun (r8 : Int32) (a9 : Nat → Int32) (a10 : Nat → Int32) (a11 : Nat → Int32) (z12 : Int32) (a13 : Nat → Int32) (a14 : Nat → Int32) => ((¬ r8 = 1 → (wp_X4_put v1 v2 r1 a9 a10 a11 z12 a13 a14 (fun (a15 : Nat → Int32) (a16 : Nat → Int32) (a17 : Nat → Int32) (z18 : Int32) (a19 : Nat → Int32) (a20 : Nat → Int32) => post 0 a15 a16 a17 z18 a19 a20))) ∧ (r8 = 1 → post 1 a9 a10 a11 z12 a13 a14))))) ∧ (r1 = (-1) → post 0 a2 a3 a4 z5 a6 a7))))
set_option maxRecDepth 100000 in
set_option maxHeartbeats 4000000 in
theorem ml_X4_moveToPitch_0 {p : Program} {l : Launch} {e : Env} {s : State} {m : MethodId} {args : Array Value} {below : List Frame} {meth : Method} {c : Code} {D : va_G} {cI cZ cR : ClassId} {A : Nat → Prop} {ad_r : Nat → Nat} {r_markedTicks : Nat → Int32} {r_marks : Int32} (G : gG p s m args meth c cX4_moveToPitch (some .boolean) 5 RX4 wsX4_moveToPitch) (hK : va_K D vwCl (gT cI cZ cR) s) (hN : va_Nw gN s) (hA : ∀ q, s.heap.size ≤ q → A q) (v1 : Int32) (v2 : Int32) (v3 : Int32) (post : Int32 → (Nat → Int32) → (Nat → Int32) → (Nat → Int32) → Int32 → (Nat → Int32) → (Nat → Int32) → Prop) (r_pitches : Nat → Int32) (r_firstSteps : Nat → Int32) (r_lengths : Nat → Int32) (r_size : Int32) (r_held : Nat → Int32) (r_punched : Nat → Int32) (h : wp_X4_moveToPitch v1 v2 v3 r_pitches r_firstSteps r_lengths r_size r_held r_punched post) : ∀ (H : Heap) (locs : List Loc), va_P D vwCl (w_R cI cZ cR ad_r r_pitches r_firstSteps r_lengths r_size r_held r_punched r_markedTicks r_marks) H → va_D A (w_R cI cZ cR ad_r r_pitches r_firstSteps r_lengths r_size r_held r_punched r_markedTicks r_marks) → va_S A s.heap H locs → ∀ (ls : Array Slot), lv_has ls 5 [(0, .ref (ad_r 0)), (1, .int v1), (2, .int v2), (3, .int v3)] → W p l e { frames := 4, cells := 0, slots := 0, locals := 88 } s m args below meth c H locs 0 0 (MQ below (va_Qi (fun (r : Int32) (u : (Nat → Int32) × (Nat → Int32) × (Nat → Int32) × (Int32) × (Nat → Int32) × (Nat → Int32)) => post r u.1 u.2.1 u.2.2.1 u.2.2.2.1 u.2.2.2.2.1 u.2.2.2.2.2) (fun u t => gB D (gT cI cZ cR) A (w_R cI cZ cR ad_r u.1 u.2.1 u.2.2.1 u.2.2.2.1 u.2.2.2.2.1 u.2.2.2.2.2 r_markedTicks r_marks) t) A) args s 0 0 A) (F0 m 0 ls []) := by
  obtain ⟨hx, hb, hr, hml, hown, hts, hlocks⟩ := id G
  intro H locs hP hD hS ls hl
  unfold wp_X4_moveToPitch at h
  refine lv_aload_n hx hb dX4_moveToPitch_0 rfl (lv_at hl 0 rfl) ?_
  refine lv_iload_n hx hb dX4_moveToPitch_1 rfl (lv_at hl 1 rfl) ?_
  refine lv_iload_n hx hb dX4_moveToPitch_2 rfl (lv_at hl 2 rfl) ?_
  refine gl_calliF (va_runV (As := [.int v1, .int v2]) (rest := []) ⟨hx, hb, hml, hown, hts⟩ (mt_X4_take l D cI cZ cR ad_r H.size r_pitches r_firstSteps r_lengths r_size r_held r_punched r_markedTicks r_marks v1 v2 _ h) (cwV 2 hts gX4_moveToPitch_X4_take rfl rfl rfl (by decide +kernel) ⟨Nat.le_of_ble_eq_true rfl, Nat.le_of_ble_eq_true rfl⟩) ⟨gl_blind, va_recv hK hP (ci := 4) (q0 := 0) rfl rfl, gl_pre hP hK hN hD⟩ rfl rfl hl.1 rfl (lv_room (Nat.le_of_ble_eq_true rfl)) dX4_moveToPitch_3 ⟨Nat.le_of_ble_eq_true rfl, Nat.le_of_ble_eq_true rfl⟩) hD hS hA (fun r1 u H locs h hP hD hS => ?_)
  obtain ⟨a2, a3, a4, z5, a6, a7⟩ := u
  try dsimp only at h
  have hP : va_P D vwCl (w_R cI cZ cR ad_r a2 a3 a4 z5 a6 a7 r_markedTicks r_marks) H := hP
  have hD : va_D A (w_R cI cZ cR ad_r a2 a3 a4 z5 a6 a7 r_markedTicks r_marks) := hD
  refine lv_istore (lv' := [(4, .int r1), (0, .ref (ad_r 0)), (1, .int v1), (2, .int v2), (3, .int v3)]) hx hb dX4_moveToPitch_6 hl (by decide) rfl (fun ls hl => ?_)
  refine lv_iload hx hb dX4_moveToPitch_8 (lv_at hl 0 rfl) ?_
  refine lv_iconst (v := (-1)) hx hb dX4_moveToPitch_10 (by decide) ?_
  refine lv_icmp_ne (tgt := 16) hx hb dX4_moveToPitch_11 (by decide) (fun hc => ?_) (fun hc => ?_)
  · have h := h.1 hc
    refine lv_aload_n hx hb dX4_moveToPitch_16 rfl (lv_at hl 1 rfl) ?_
    refine lv_iload_n hx hb dX4_moveToPitch_17 rfl (lv_at hl 4 rfl) ?_
    refine lv_iload_n hx hb dX4_moveToPitch_18 rfl (lv_at hl 3 rfl) ?_
    refine lv_iload hx hb dX4_moveToPitch_19 (lv_at hl 0 rfl) ?_
    refine gl_calliF (va_runV (As := [.int v3, .int v2, .int r1]) (rest := []) ⟨hx, hb, hml, hown, hts⟩ (mt_X4_putIfAllowed l D cI cZ cR ad_r H.size a2 a3 a4 z5 a6 a7 r_markedTicks r_marks v3 v2 r1 _ h) (cwV 3 hts gX4_moveToPitch_X4_putIfAllowed rfl rfl rfl (by decide +kernel) ⟨Nat.le_of_ble_eq_true rfl, Nat.le_of_ble_eq_true rfl⟩) ⟨gl_blind, va_recv hK hP (ci := 4) (q0 := 0) rfl rfl, gl_pre hP hK hN hD⟩ rfl rfl hl.1 rfl (lv_room (Nat.le_of_ble_eq_true rfl)) dX4_moveToPitch_21 ⟨Nat.le_of_ble_eq_true rfl, Nat.le_of_ble_eq_true rfl⟩) hD hS hA (fun r8 u H locs h hP hD hS => ?_)
    obtain ⟨a9, a10, a11, z12, a13, a14⟩ := u
    try dsimp only at h
    have hP : va_P D vwCl (w_R cI cZ cR ad_r a9 a10 a11 z12 a13 a14 r_markedTicks r_marks) H := hP
    have hD : va_D A (w_R cI cZ cR ad_r a9 a10 a11 z12 a13 a14 r_markedTicks r_marks) := hD
    refine lv_iconst (v := 1) hx hb dX4_moveToPitch_24 (by decide) ?_
    refine lv_icmp_ne (tgt := 30) hx hb dX4_moveToPitch_25 (by decide) (fun hc => ?_) (fun hc => ?_)
    · have h := h.1 hc
      refine lv_aload_n hx hb dX4_moveToPitch_30 rfl (lv_at hl 1 rfl) ?_
      refine lv_iload_n hx hb dX4_moveToPitch_31 rfl (lv_at hl 2 rfl) ?_
      refine lv_iload_n hx hb dX4_moveToPitch_32 rfl (lv_at hl 3 rfl) ?_
      refine lv_iload hx hb dX4_moveToPitch_33 (lv_at hl 0 rfl) ?_
      refine gl_callvF (va_runV (As := [.int v1, .int v2, .int r1]) (rest := []) ⟨hx, hb, hml, hown, hts⟩ (mt_X4_put l D cI cZ cR ad_r H.size a9 a10 a11 z12 a13 a14 r_markedTicks r_marks v1 v2 r1 _ h) (cwV 3 hts gX4_moveToPitch_X4_put rfl rfl rfl (by decide +kernel) ⟨Nat.le_of_ble_eq_true rfl, Nat.le_of_ble_eq_true rfl⟩) ⟨gl_blind, va_recv hK hP (ci := 4) (q0 := 0) rfl rfl, gl_pre hP hK hN hD⟩ rfl rfl hl.1 rfl (lv_room (Nat.le_of_ble_eq_true rfl)) dX4_moveToPitch_35 ⟨Nat.le_of_ble_eq_true rfl, Nat.le_of_ble_eq_true rfl⟩) hD hS hA (fun u H locs h hP hD hS => ?_)
      obtain ⟨a15, a16, a17, z18, a19, a20⟩ := u
      try dsimp only at h
      have hP : va_P D vwCl (w_R cI cZ cR ad_r a15 a16 a17 z18 a19 a20 r_markedTicks r_marks) H := hP
      have hD : va_D A (w_R cI cZ cR ad_r a15 a16 a17 z18 a19 a20 r_markedTicks r_marks) := hD
      refine lv_iconst (v := 0) hx hb dX4_moveToPitch_38 (by decide) ?_
      exact gl_iretz G hK (u := (a15, a16, a17, z18, a19, a20)) hP hD hS (by decide) h dX4_moveToPitch_39
    · have h := h.2 hc
      refine lv_iconst (v := 1) hx hb dX4_moveToPitch_28 (by decide) ?_
      exact gl_iretz G hK (u := (a9, a10, a11, z12, a13, a14)) hP hD hS (by decide) h dX4_moveToPitch_29
  · have h := h.2 hc
    refine lv_iconst (v := 0) hx hb dX4_moveToPitch_14 (by decide) ?_
    exact gl_iretz G hK (u := (a2, a3, a4, z5, a6, a7)) hP hD hS (by decide) h dX4_moveToPitch_15
set_option maxRecDepth 100000 in
theorem mt_X4_moveToPitch (l : Launch) (D : va_G) (cI cZ cR : ClassId) (ad_r : Nat → Nat) (sz : Nat) (r_pitches : Nat → Int32) (r_firstSteps : Nat → Int32) (r_lengths : Nat → Int32) (r_size : Int32) (r_held : Nat → Int32) (r_punched : Nat → Int32) (r_markedTicks : Nat → Int32) (r_marks : Int32) (v1 : Int32) (v2 : Int32) (v3 : Int32) (post : Int32 → (Nat → Int32) → (Nat → Int32) → (Nat → Int32) → Int32 → (Nat → Int32) → (Nat → Int32) → Prop) (h : wp_X4_moveToPitch v1 v2 v3 r_pitches r_firstSteps r_lengths r_size r_held r_punched post) : Met l yX4_moveToPitch wsX4_moveToPitch ({ frames := 4, cells := 0, slots := 0, locals := 88 }) (gPc D (gT cI cZ cR) (w_R cI cZ cR ad_r r_pitches r_firstSteps r_lengths r_size r_held r_punched r_markedTicks r_marks) sz [.ref (ad_r 0), .int v1, .int v2, .int v3]) (va_Qi (fun (r : Int32) (u : (Nat → Int32) × (Nat → Int32) × (Nat → Int32) × (Int32) × (Nat → Int32) × (Nat → Int32)) => post r u.1 u.2.1 u.2.2.1 u.2.2.2.1 u.2.2.2.2.1 u.2.2.2.2.2) (fun u t => gB D (gT cI cZ cR) (va_A (w_R cI cZ cR ad_r r_pitches r_firstSteps r_lengths r_size r_held r_punched r_markedTicks r_marks) sz) (w_R cI cZ cR ad_r u.1 u.2.1 u.2.2.1 u.2.2.2.1 u.2.2.2.2.1 u.2.2.2.2.2 r_markedTicks r_marks) t) (va_A (w_R cI cZ cR ad_r r_pitches r_firstSteps r_lengths r_size r_held r_punched r_markedTicks r_marks) sz)) 0 0 (va_A (w_R cI cZ cR ad_r r_pitches r_firstSteps r_lengths r_size r_held r_punched r_markedTicks r_marks) sz) := by
  refine gl_entry (cc := cX4_moveToPitch) (maxL := 5) (ret := (some .boolean)) (by decide) rfl (Nat.le_of_ble_eq_true rfl) ?_
  intro p e s m below meth c ls G hin hsz hK hN hP hD hl
  subst hsz
  exact ml_X4_moveToPitch_0 G hK hN (fun q h => Or.inr h) v1 v2 v3 post r_pitches r_firstSteps r_lengths r_size r_held r_punched h s.heap [] hP hD va_S.rf ls hl
theorem lk_X4_mark_0 : (Cond.fieldLink RX4 31 "RollHouse$Roll" "markedTicks" "[I") ∈ wsX4_mark := by decide +kernel
theorem lk_X4_mark_1 : (Cond.fieldLink RX4 34 "RollHouse$Roll" "marks" "I") ∈ wsX4_mark := by decide +kernel
theorem us_X4_mark_X4 : ∀ w ∈ u_ws RX4 TX4 8, w ∈ wsX4_mark := by decide +kernel
def wl_X4_mark_30 (v1 : Int32) (v2 : Int32) (post : Int32 → (Nat → Int32) → Int32 → Prop) (r_markedTicks : Nat → Int32) (r_marks : Int32) : Prop := (vp_in v1 300 ∧ (∀ a1 : Nat → Int32, a1 = upd r_markedTicks v1.toNatClampNeg v2 → post r_marks a1 r_marks))
def wp_X4_mark (v1 : Int32) (v2 : Int32) (r_markedTicks : Nat → Int32) (r_marks : Int32) (post : Int32 → (Nat → Int32) → Int32 → Prop) : Prop := (vp_in v1 300 ∧ ((¬ (r_markedTicks v1.toNatClampNeg) = 0 → wl_X4_mark_30 v1 v2 post r_markedTicks r_marks) ∧ ((r_markedTicks v1.toNatClampNeg) = 0 → ((r_marks < 10 → wl_X4_mark_30 v1 v2 post r_markedTicks (r_marks + 1)) ∧ (¬ r_marks < 10 → post (-1) r_markedTicks r_marks)))))
set_option maxRecDepth 100000 in
set_option maxHeartbeats 4000000 in
theorem ml_X4_mark_30 {p : Program} {l : Launch} {e : Env} {s : State} {m : MethodId} {args : Array Value} {below : List Frame} {meth : Method} {c : Code} {D : va_G} {cI cZ cR : ClassId} {A : Nat → Prop} {ad_r : Nat → Nat} {r_pitches : Nat → Int32} {r_firstSteps : Nat → Int32} {r_lengths : Nat → Int32} {r_size : Int32} {r_held : Nat → Int32} {r_punched : Nat → Int32} (G : gG p s m args meth c cX4_mark (some .int) 3 RX4 wsX4_mark) (hK : va_K D vwCl (gT cI cZ cR) s) (hN : va_Nw gN s) (hA : ∀ q, s.heap.size ≤ q → A q) (v1 : Int32) (v2 : Int32) (post : Int32 → (Nat → Int32) → Int32 → Prop) (r_markedTicks : Nat → Int32) (r_marks : Int32) (h : wl_X4_mark_30 v1 v2 post r_markedTicks r_marks) : ∀ (H : Heap) (locs : List Loc), va_P D vwCl (w_R cI cZ cR ad_r r_pitches r_firstSteps r_lengths r_size r_held r_punched r_markedTicks r_marks) H → va_D A (w_R cI cZ cR ad_r r_pitches r_firstSteps r_lengths r_size r_held r_punched r_markedTicks r_marks) → va_S A s.heap H locs → ∀ (ls : Array Slot), lv_has ls 3 [(0, .ref (ad_r 0)), (1, .int v1), (2, .int v2)] → W p l e { frames := 0, cells := 0, slots := 0, locals := 0 } s m args below meth c H locs 0 0 (MQ below (va_Qi (fun (r : Int32) (u : (Nat → Int32) × (Int32)) => post r u.1 u.2) (fun u t => gB D (gT cI cZ cR) A (w_R cI cZ cR ad_r r_pitches r_firstSteps r_lengths r_size r_held r_punched u.1 u.2) t) A) args s 0 0 A) (F0 m 30 ls []) := by
  obtain ⟨hx, hb, hr, hml, hown, hts, hlocks⟩ := id G
  intro H locs hP hD hS ls hl
  unfold wl_X4_mark_30 at h
  refine lv_aload_n hx hb dX4_mark_30 rfl (lv_at hl 0 rfl) ?_
  refine va_get (D := D) (ci := 4) (v := .ref (ad_r 6)) (C := RX4) (T := TX4) (N := 8) hx hb hts us_X4_mark_X4 hown hK hP 0 rfl rfl 6 (by decide) (hts (.fieldLink RX4 31 "RollHouse$Roll" "markedTicks" "[I") lk_X4_mark_0) (fun _ h9 => h9) rfl dX4_mark_31 ?_
  refine lv_iload_n hx hb dX4_mark_34 rfl (lv_at hl 1 rfl) ?_
  refine lv_iload_n hx hb dX4_mark_35 rfl (lv_at hl 2 rfl) ?_
  obtain ⟨hin, h⟩ := h
  refine va_iast hx hb hK hP hD hS 6 0 rfl rfl hin dX4_mark_36 (fun H locs hP hD hS => ?_)
  obtain ⟨a1, ea1⟩ : ∃ f, f = upd r_markedTicks v1.toNatClampNeg v2 := ⟨_, rfl⟩
  have h := h a1 ea1
  rw [← ea1] at hP hD
  have hP : va_P D vwCl (w_R cI cZ cR ad_r r_pitches r_firstSteps r_lengths r_size r_held r_punched a1 r_marks) H := hP
  have hD : va_D A (w_R cI cZ cR ad_r r_pitches r_firstSteps r_lengths r_size r_held r_punched a1 r_marks) := hD
  refine lv_aload_n hx hb dX4_mark_37 rfl (lv_at hl 0 rfl) ?_
  refine va_get (D := D) (ci := 4) (v := .int r_marks) (C := RX4) (T := TX4) (N := 8) hx hb hts us_X4_mark_X4 hown hK hP 0 rfl rfl 7 (by decide) (hts (.fieldLink RX4 34 "RollHouse$Roll" "marks" "I") lk_X4_mark_1) (fun _ h9 => h9) rfl dX4_mark_38 ?_
  exact gl_ireti G hK (u := (a1, r_marks)) hP hD hS h dX4_mark_41
set_option maxRecDepth 100000 in
set_option maxHeartbeats 4000000 in
theorem ml_X4_mark_0 {p : Program} {l : Launch} {e : Env} {s : State} {m : MethodId} {args : Array Value} {below : List Frame} {meth : Method} {c : Code} {D : va_G} {cI cZ cR : ClassId} {A : Nat → Prop} {ad_r : Nat → Nat} {r_pitches : Nat → Int32} {r_firstSteps : Nat → Int32} {r_lengths : Nat → Int32} {r_size : Int32} {r_held : Nat → Int32} {r_punched : Nat → Int32} (G : gG p s m args meth c cX4_mark (some .int) 3 RX4 wsX4_mark) (hK : va_K D vwCl (gT cI cZ cR) s) (hN : va_Nw gN s) (hA : ∀ q, s.heap.size ≤ q → A q) (v1 : Int32) (v2 : Int32) (post : Int32 → (Nat → Int32) → Int32 → Prop) (r_markedTicks : Nat → Int32) (r_marks : Int32) (h : wp_X4_mark v1 v2 r_markedTicks r_marks post) : ∀ (H : Heap) (locs : List Loc), va_P D vwCl (w_R cI cZ cR ad_r r_pitches r_firstSteps r_lengths r_size r_held r_punched r_markedTicks r_marks) H → va_D A (w_R cI cZ cR ad_r r_pitches r_firstSteps r_lengths r_size r_held r_punched r_markedTicks r_marks) → va_S A s.heap H locs → ∀ (ls : Array Slot), lv_has ls 3 [(0, .ref (ad_r 0)), (1, .int v1), (2, .int v2)] → W p l e { frames := 0, cells := 0, slots := 0, locals := 0 } s m args below meth c H locs 0 0 (MQ below (va_Qi (fun (r : Int32) (u : (Nat → Int32) × (Int32)) => post r u.1 u.2) (fun u t => gB D (gT cI cZ cR) A (w_R cI cZ cR ad_r r_pitches r_firstSteps r_lengths r_size r_held r_punched u.1 u.2) t) A) args s 0 0 A) (F0 m 0 ls []) := by
  obtain ⟨hx, hb, hr, hml, hown, hts, hlocks⟩ := id G
  intro H locs hP hD hS ls hl
  unfold wp_X4_mark at h
  refine lv_aload_n hx hb dX4_mark_0 rfl (lv_at hl 0 rfl) ?_
  refine va_get (D := D) (ci := 4) (v := .ref (ad_r 6)) (C := RX4) (T := TX4) (N := 8) hx hb hts us_X4_mark_X4 hown hK hP 0 rfl rfl 6 (by decide) (hts (.fieldLink RX4 31 "RollHouse$Roll" "markedTicks" "[I") lk_X4_mark_0) (fun _ h9 => h9) rfl dX4_mark_1 ?_
  refine lv_iload_n hx hb dX4_mark_4 rfl (lv_at hl 1 rfl) ?_
  obtain ⟨hin, h⟩ := h
  refine va_iald hx hb hK hP 6 0 rfl rfl hin dX4_mark_5 ?_
  refine lv_if_ne (tgt := 30) hx hb dX4_mark_6 (by decide) (fun hc => ?_) (fun hc => ?_)
  · have h := h.1 hc
    exact ml_X4_mark_30 G hK hN hA v1 v2 post r_markedTicks r_marks h H locs hP hD hS ls (lv_sub hl [0, 1, 2] rfl)
  · have h := h.2 hc
    refine lv_aload_n hx hb dX4_mark_9 rfl (lv_at hl 0 rfl) ?_
    refine va_get (D := D) (ci := 4) (v := .int r_marks) (C := RX4) (T := TX4) (N := 8) hx hb hts us_X4_mark_X4 hown hK hP 0 rfl rfl 7 (by decide) (hts (.fieldLink RX4 34 "RollHouse$Roll" "marks" "I") lk_X4_mark_1) (fun _ h9 => h9) rfl dX4_mark_10 ?_
    refine lv_bipush (v := 10) hx hb dX4_mark_13 (by decide) ?_
    refine lv_icmp_lt (tgt := 20) hx hb dX4_mark_15 (by decide) (fun hc => ?_) (fun hc => ?_)
    · have h := h.1 hc
      refine lv_aload_n hx hb dX4_mark_20 rfl (lv_at hl 0 rfl) ?_
      refine lv_dup hx hb dX4_mark_21 rfl ?_
      refine va_get (D := D) (ci := 4) (v := .int r_marks) (C := RX4) (T := TX4) (N := 8) hx hb hts us_X4_mark_X4 hown hK hP 0 rfl rfl 7 (by decide) (hts (.fieldLink RX4 34 "RollHouse$Roll" "marks" "I") lk_X4_mark_1) (fun _ h9 => h9) rfl dX4_mark_22 ?_
      refine lv_iconst (v := 1) hx hb dX4_mark_25 (by decide) ?_
      refine lv_iadd hx hb dX4_mark_26 ?_
      refine va_put (D := D) (ci := 4) (v := .int (r_marks + 1)) (ty := .int) (C := RX4) (T := TX4) (N := 8) hx hb hts us_X4_mark_X4 tyX4 tyX4_ok nmX4 hown hK hP hD hS 0 rfl rfl 7 (by decide) (hts (.fieldLink RX4 34 "RollHouse$Roll" "marks" "I") lk_X4_mark_1) (fun _ h9 => h9) rfl (by decide +kernel) rfl rfl (Nat.le_of_ble_eq_true rfl) dX4_mark_27 (fun H locs hP hD hS => ?_)
      have hP : va_P D vwCl (w_R cI cZ cR ad_r r_pitches r_firstSteps r_lengths r_size r_held r_punched r_markedTicks (r_marks + 1)) H := hP
      have hD : va_D A (w_R cI cZ cR ad_r r_pitches r_firstSteps r_lengths r_size r_held r_punched r_markedTicks (r_marks + 1)) := hD
      exact ml_X4_mark_30 G hK hN hA v1 v2 post r_markedTicks (r_marks + 1) h H locs hP hD hS ls (lv_sub hl [0, 1, 2] rfl)
    · have h := h.2 hc
      refine lv_iconst (v := (-1)) hx hb dX4_mark_18 (by decide) ?_
      exact gl_ireti G hK (u := (r_markedTicks, r_marks)) hP hD hS h dX4_mark_19
set_option maxRecDepth 100000 in
theorem mt_X4_mark (l : Launch) (D : va_G) (cI cZ cR : ClassId) (ad_r : Nat → Nat) (sz : Nat) (r_pitches : Nat → Int32) (r_firstSteps : Nat → Int32) (r_lengths : Nat → Int32) (r_size : Int32) (r_held : Nat → Int32) (r_punched : Nat → Int32) (r_markedTicks : Nat → Int32) (r_marks : Int32) (v1 : Int32) (v2 : Int32) (post : Int32 → (Nat → Int32) → Int32 → Prop) (h : wp_X4_mark v1 v2 r_markedTicks r_marks post) : Met l yX4_mark wsX4_mark ({ frames := 0, cells := 0, slots := 0, locals := 0 }) (gPc D (gT cI cZ cR) (w_R cI cZ cR ad_r r_pitches r_firstSteps r_lengths r_size r_held r_punched r_markedTicks r_marks) sz [.ref (ad_r 0), .int v1, .int v2]) (va_Qi (fun (r : Int32) (u : (Nat → Int32) × (Int32)) => post r u.1 u.2) (fun u t => gB D (gT cI cZ cR) (va_A (w_R cI cZ cR ad_r r_pitches r_firstSteps r_lengths r_size r_held r_punched r_markedTicks r_marks) sz) (w_R cI cZ cR ad_r r_pitches r_firstSteps r_lengths r_size r_held r_punched u.1 u.2) t) (va_A (w_R cI cZ cR ad_r r_pitches r_firstSteps r_lengths r_size r_held r_punched r_markedTicks r_marks) sz)) 0 0 (va_A (w_R cI cZ cR ad_r r_pitches r_firstSteps r_lengths r_size r_held r_punched r_markedTicks r_marks) sz) := by
  refine gl_entry (cc := cX4_mark) (maxL := 3) (ret := (some .int)) (by decide) rfl (Nat.le_of_ble_eq_true rfl) ?_
  intro p e s m below meth c ls G hin hsz hK hN hP hD hl
  subst hsz
  exact ml_X4_mark_0 G hK hN (fun q h => Or.inr h) v1 v2 post r_markedTicks r_marks h s.heap [] hP hD va_S.rf ls hl
theorem lk_X4_ticksOf_0 : (Cond.fieldLink RX4 31 "RollHouse$Roll" "markedTicks" "[I") ∈ wsX4_ticksOf := by decide +kernel
theorem us_X4_ticksOf_X4 : ∀ w ∈ u_ws RX4 TX4 8, w ∈ wsX4_ticksOf := by decide +kernel
def wp_X4_ticksOf (r_markedTicks : Nat → Int32) (v1 : Int32) (v2 : Int32) (post : Int32 → Prop) : Prop := (vp_in v1 300 ∧ (((r_markedTicks v1.toNatClampNeg) = 0 → ((¬ v1 = 0 → post v2 ) ∧ (v1 = 0 → post 2 ))) ∧ (¬ (r_markedTicks v1.toNatClampNeg) = 0 → (vp_in v1 300 ∧ post (r_markedTicks v1.toNatClampNeg) ))))
set_option maxRecDepth 100000 in
set_option maxHeartbeats 4000000 in
theorem ml_X4_ticksOf_0 {p : Program} {l : Launch} {e : Env} {s : State} {m : MethodId} {args : Array Value} {below : List Frame} {meth : Method} {c : Code} {D : va_G} {cI cZ cR : ClassId} {A : Nat → Prop} {ad_r : Nat → Nat} {r_pitches : Nat → Int32} {r_firstSteps : Nat → Int32} {r_lengths : Nat → Int32} {r_size : Int32} {r_held : Nat → Int32} {r_punched : Nat → Int32} {r_marks : Int32} (G : gG p s m args meth c cX4_ticksOf (some .int) 3 RX4 wsX4_ticksOf) (hK : va_K D vwCl (gT cI cZ cR) s) (hN : va_Nw gN s) (hA : ∀ q, s.heap.size ≤ q → A q) (r_markedTicks : Nat → Int32) (v1 : Int32) (v2 : Int32) (post : Int32 → Prop)  (h : wp_X4_ticksOf r_markedTicks v1 v2 post) : ∀ (H : Heap) (locs : List Loc), va_P D vwCl (w_R cI cZ cR ad_r r_pitches r_firstSteps r_lengths r_size r_held r_punched r_markedTicks r_marks) H → va_D A (w_R cI cZ cR ad_r r_pitches r_firstSteps r_lengths r_size r_held r_punched r_markedTicks r_marks) → va_S A s.heap H locs → ∀ (ls : Array Slot), lv_has ls 3 [(0, .ref (ad_r 0)), (1, .int v1), (2, .int v2)] → W p l e { frames := 0, cells := 0, slots := 0, locals := 0 } s m args below meth c H locs 0 0 (MQ below (va_Qi (fun (r : Int32) (u : Unit) => post r ) (fun u t => gB D (gT cI cZ cR) A (w_R cI cZ cR ad_r r_pitches r_firstSteps r_lengths r_size r_held r_punched r_markedTicks r_marks) t) A) args s 0 0 A) (F0 m 0 ls []) := by
  obtain ⟨hx, hb, hr, hml, hown, hts, hlocks⟩ := id G
  intro H locs hP hD hS ls hl
  unfold wp_X4_ticksOf at h
  refine lv_aload_n hx hb dX4_ticksOf_0 rfl (lv_at hl 0 rfl) ?_
  refine va_get (D := D) (ci := 4) (v := .ref (ad_r 6)) (C := RX4) (T := TX4) (N := 8) hx hb hts us_X4_ticksOf_X4 hown hK hP 0 rfl rfl 6 (by decide) (hts (.fieldLink RX4 31 "RollHouse$Roll" "markedTicks" "[I") lk_X4_ticksOf_0) (fun _ h9 => h9) rfl dX4_ticksOf_1 ?_
  refine lv_iload_n hx hb dX4_ticksOf_4 rfl (lv_at hl 1 rfl) ?_
  obtain ⟨hin, h⟩ := h
  refine va_iald hx hb hK hP 6 0 rfl rfl hin dX4_ticksOf_5 ?_
  refine lv_if_eq (tgt := 16) hx hb dX4_ticksOf_6 (by decide) (fun hc => ?_) (fun hc => ?_)
  · have h := h.1 hc
    refine lv_iload_n hx hb dX4_ticksOf_16 rfl (lv_at hl 1 rfl) ?_
    refine lv_if_ne (tgt := 24) hx hb dX4_ticksOf_17 (by decide) (fun hc => ?_) (fun hc => ?_)
    · have h := h.1 hc
      refine lv_iload_n hx hb dX4_ticksOf_24 rfl (lv_at hl 2 rfl) ?_
      exact gl_ireti G hK (u := ()) hP hD hS h dX4_ticksOf_25
    · have h := h.2 hc
      refine lv_iconst (v := 2) hx hb dX4_ticksOf_20 (by decide) ?_
      refine lv_goto (tgt := 25) hx hb dX4_ticksOf_21 (by decide) ?_
      exact gl_ireti G hK (u := ()) hP hD hS h dX4_ticksOf_25
  · have h := h.2 hc
    refine lv_aload_n hx hb dX4_ticksOf_9 rfl (lv_at hl 0 rfl) ?_
    refine va_get (D := D) (ci := 4) (v := .ref (ad_r 6)) (C := RX4) (T := TX4) (N := 8) hx hb hts us_X4_ticksOf_X4 hown hK hP 0 rfl rfl 6 (by decide) (hts (.fieldLink RX4 31 "RollHouse$Roll" "markedTicks" "[I") lk_X4_ticksOf_0) (fun _ h9 => h9) rfl dX4_ticksOf_10 ?_
    refine lv_iload_n hx hb dX4_ticksOf_13 rfl (lv_at hl 1 rfl) ?_
    obtain ⟨hin, h⟩ := h
    refine va_iald hx hb hK hP 6 0 rfl rfl hin dX4_ticksOf_14 ?_
    exact gl_ireti G hK (u := ()) hP hD hS h dX4_ticksOf_15
set_option maxRecDepth 100000 in
theorem mt_X4_ticksOf (l : Launch) (D : va_G) (cI cZ cR : ClassId) (ad_r : Nat → Nat) (sz : Nat) (r_pitches : Nat → Int32) (r_firstSteps : Nat → Int32) (r_lengths : Nat → Int32) (r_size : Int32) (r_held : Nat → Int32) (r_punched : Nat → Int32) (r_markedTicks : Nat → Int32) (r_marks : Int32) (v1 : Int32) (v2 : Int32) (post : Int32 → Prop) (h : wp_X4_ticksOf r_markedTicks v1 v2 post) : Met l yX4_ticksOf wsX4_ticksOf ({ frames := 0, cells := 0, slots := 0, locals := 0 }) (gPc D (gT cI cZ cR) (w_R cI cZ cR ad_r r_pitches r_firstSteps r_lengths r_size r_held r_punched r_markedTicks r_marks) sz [.ref (ad_r 0), .int v1, .int v2]) (va_Qi (fun (r : Int32) (u : Unit) => post r ) (fun u t => gB D (gT cI cZ cR) (va_A (w_R cI cZ cR ad_r r_pitches r_firstSteps r_lengths r_size r_held r_punched r_markedTicks r_marks) sz) (w_R cI cZ cR ad_r r_pitches r_firstSteps r_lengths r_size r_held r_punched r_markedTicks r_marks) t) (va_A (w_R cI cZ cR ad_r r_pitches r_firstSteps r_lengths r_size r_held r_punched r_markedTicks r_marks) sz)) 0 0 (va_A (w_R cI cZ cR ad_r r_pitches r_firstSteps r_lengths r_size r_held r_punched r_markedTicks r_marks) sz) := by
  refine gl_entry (cc := cX4_ticksOf) (maxL := 3) (ret := (some .int)) (by decide) rfl (Nat.le_of_ble_eq_true rfl) ?_
  intro p e s m below meth c ls G hin hsz hK hN hP hD hl
  subst hsz
  exact ml_X4_ticksOf_0 G hK hN (fun q h => Or.inr h) r_markedTicks v1 v2 post h s.heap [] hP hD va_S.rf ls hl
def wl_X4_ticksOfAllSteps_6 (r_markedTicks : Nat → Int32) (post : Int32 → Prop) : Nat → (Int32) → (Int32) → (Int32) → Prop
  | 0, _, _, _ => False
  | fu + 1, v1, v2, v3 => ((300 ≤ v3 → post v1 ) ∧ (¬ 300 ≤ v3 → (wp_X4_ticksOf r_markedTicks v3 v2 (fun (r1 : Int32) => wl_X4_ticksOfAllSteps_6 r_markedTicks post fu (v1 + r1) r1 (v3 + 1)))))
def wp_X4_ticksOfAllSteps (r_markedTicks : Nat → Int32) (post : Int32 → Prop) : Prop := (∃ n, wl_X4_ticksOfAllSteps_6 r_markedTicks post n 0 0 0)
set_option maxRecDepth 100000 in
set_option maxHeartbeats 4000000 in
theorem ml_X4_ticksOfAllSteps_6 {p : Program} {l : Launch} {e : Env} {s : State} {m : MethodId} {args : Array Value} {below : List Frame} {meth : Method} {c : Code} {D : va_G} {cI cZ cR : ClassId} {A : Nat → Prop} {ad_r : Nat → Nat} {r_pitches : Nat → Int32} {r_firstSteps : Nat → Int32} {r_lengths : Nat → Int32} {r_size : Int32} {r_held : Nat → Int32} {r_punched : Nat → Int32} {r_marks : Int32} (G : gG p s m args meth c cX4_ticksOfAllSteps (some .int) 4 RX4 wsX4_ticksOfAllSteps) (hK : va_K D vwCl (gT cI cZ cR) s) (hN : va_Nw gN s) (hA : ∀ q, s.heap.size ≤ q → A q) (r_markedTicks : Nat → Int32) (post : Int32 → Prop) : ∀ (fu : Nat) (v1 : Int32) (v2 : Int32) (v3 : Int32), wl_X4_ticksOfAllSteps_6 r_markedTicks post fu v1 v2 v3 → ∀ (H : Heap) (locs : List Loc), va_P D vwCl (w_R cI cZ cR ad_r r_pitches r_firstSteps r_lengths r_size r_held r_punched r_markedTicks r_marks) H → va_D A (w_R cI cZ cR ad_r r_pitches r_firstSteps r_lengths r_size r_held r_punched r_markedTicks r_marks) → va_S A s.heap H locs → ∀ (ls : Array Slot), lv_has ls 4 [(0, .ref (ad_r 0)), (1, .int v1), (2, .int v2), (3, .int v3)] → W p l e { frames := 1, cells := 0, slots := 0, locals := 22 } s m args below meth c H locs 0 0 (MQ below (va_Qi (fun (r : Int32) (u : Unit) => post r ) (fun u t => gB D (gT cI cZ cR) A (w_R cI cZ cR ad_r r_pitches r_firstSteps r_lengths r_size r_held r_punched r_markedTicks r_marks) t) A) args s 0 0 A) (F0 m 6 ls []) := by
  obtain ⟨hx, hb, hr, hml, hown, hts, hlocks⟩ := id G
  intro fu
  induction fu with
  | zero =>
    intro v1 v2 v3 h
    exact h.elim
  | succ fu ih =>
    intro v1 v2 v3 h H locs hP hD hS ls hl
    rw [wl_X4_ticksOfAllSteps_6] at h
    refine lv_iload_n hx hb dX4_ticksOfAllSteps_6 rfl (lv_at hl 3 rfl) ?_
    refine lv_sipush (v := 300) hx hb dX4_ticksOfAllSteps_7 (by decide) ?_
    refine lv_icmp_ge (tgt := 30) hx hb dX4_ticksOfAllSteps_10 (by decide) (fun hc => ?_) (fun hc => ?_)
    · have h := h.1 hc
      refine lv_iload_n hx hb dX4_ticksOfAllSteps_30 rfl (lv_at hl 1 rfl) ?_
      exact gl_ireti G hK (u := ()) hP hD hS h dX4_ticksOfAllSteps_31
    · have h := h.2 hc
      refine lv_aload_n hx hb dX4_ticksOfAllSteps_13 rfl (lv_at hl 0 rfl) ?_
      refine lv_iload_n hx hb dX4_ticksOfAllSteps_14 rfl (lv_at hl 3 rfl) ?_
      refine lv_iload_n hx hb dX4_ticksOfAllSteps_15 rfl (lv_at hl 2 rfl) ?_
      refine gl_calliF (va_runV (As := [.int v3, .int v2]) (rest := []) ⟨hx, hb, hml, hown, hts⟩ (mt_X4_ticksOf l D cI cZ cR ad_r H.size r_pitches r_firstSteps r_lengths r_size r_held r_punched r_markedTicks r_marks v3 v2 _ h) (cwV 2 hts gX4_ticksOfAllSteps_X4_ticksOf rfl rfl rfl (by decide +kernel) ⟨Nat.le_of_ble_eq_true rfl, Nat.le_of_ble_eq_true rfl⟩) ⟨gl_blind, va_recv hK hP (ci := 4) (q0 := 0) rfl rfl, gl_pre hP hK hN hD⟩ rfl rfl hl.1 rfl (lv_room (Nat.le_of_ble_eq_true rfl)) dX4_ticksOfAllSteps_16 ⟨Nat.le_of_ble_eq_true rfl, Nat.le_of_ble_eq_true rfl⟩) hD hS hA (fun r1 u H locs h hP hD hS => ?_)
      try dsimp only at h
      refine lv_istore_n (lv' := [(2, .int r1), (0, .ref (ad_r 0)), (1, .int v1), (3, .int v3)]) hx hb dX4_ticksOfAllSteps_19 rfl hl (by decide) rfl (fun ls hl => ?_)
      refine lv_iload_n hx hb dX4_ticksOfAllSteps_20 rfl (lv_at hl 2 rfl) ?_
      refine lv_iload_n hx hb dX4_ticksOfAllSteps_21 rfl (lv_at hl 0 rfl) ?_
      refine lv_iadd hx hb dX4_ticksOfAllSteps_22 ?_
      refine lv_istore_n (lv' := [(1, .int (v1 + r1)), (2, .int r1), (0, .ref (ad_r 0)), (3, .int v3)]) hx hb dX4_ticksOfAllSteps_23 rfl hl (by decide) rfl (fun ls hl => ?_)
      refine lv_iinc (v := v3 + 1) (lv' := [(3, .int (v3 + 1)), (1, .int (v1 + r1)), (2, .int r1), (0, .ref (ad_r 0))]) hx hb dX4_ticksOfAllSteps_24 hl (k := 3) rfl rfl (by decide) rfl (fun ls hl => ?_)
      refine lv_goto (tgt := 6) hx hb dX4_ticksOfAllSteps_27 (by decide) ?_
      exact ih (v1 + r1) r1 (v3 + 1) h H locs hP hD hS ls (lv_sub hl [3, 1, 2, 0] rfl)
set_option maxRecDepth 100000 in
set_option maxHeartbeats 4000000 in
theorem ml_X4_ticksOfAllSteps_0 {p : Program} {l : Launch} {e : Env} {s : State} {m : MethodId} {args : Array Value} {below : List Frame} {meth : Method} {c : Code} {D : va_G} {cI cZ cR : ClassId} {A : Nat → Prop} {ad_r : Nat → Nat} {r_pitches : Nat → Int32} {r_firstSteps : Nat → Int32} {r_lengths : Nat → Int32} {r_size : Int32} {r_held : Nat → Int32} {r_punched : Nat → Int32} {r_marks : Int32} (G : gG p s m args meth c cX4_ticksOfAllSteps (some .int) 4 RX4 wsX4_ticksOfAllSteps) (hK : va_K D vwCl (gT cI cZ cR) s) (hN : va_Nw gN s) (hA : ∀ q, s.heap.size ≤ q → A q) (r_markedTicks : Nat → Int32) (post : Int32 → Prop)  (h : wp_X4_ticksOfAllSteps r_markedTicks post) : ∀ (H : Heap) (locs : List Loc), va_P D vwCl (w_R cI cZ cR ad_r r_pitches r_firstSteps r_lengths r_size r_held r_punched r_markedTicks r_marks) H → va_D A (w_R cI cZ cR ad_r r_pitches r_firstSteps r_lengths r_size r_held r_punched r_markedTicks r_marks) → va_S A s.heap H locs → ∀ (ls : Array Slot), lv_has ls 4 [(0, .ref (ad_r 0))] → W p l e { frames := 1, cells := 0, slots := 0, locals := 22 } s m args below meth c H locs 0 0 (MQ below (va_Qi (fun (r : Int32) (u : Unit) => post r ) (fun u t => gB D (gT cI cZ cR) A (w_R cI cZ cR ad_r r_pitches r_firstSteps r_lengths r_size r_held r_punched r_markedTicks r_marks) t) A) args s 0 0 A) (F0 m 0 ls []) := by
  obtain ⟨hx, hb, hr, hml, hown, hts, hlocks⟩ := id G
  intro H locs hP hD hS ls hl
  unfold wp_X4_ticksOfAllSteps at h
  refine lv_iconst (v := 0) hx hb dX4_ticksOfAllSteps_0 (by decide) ?_
  refine lv_istore_n (lv' := [(1, .int 0), (0, .ref (ad_r 0))]) hx hb dX4_ticksOfAllSteps_1 rfl hl (by decide) rfl (fun ls hl => ?_)
  refine lv_iconst (v := 0) hx hb dX4_ticksOfAllSteps_2 (by decide) ?_
  refine lv_istore_n (lv' := [(2, .int 0), (1, .int 0), (0, .ref (ad_r 0))]) hx hb dX4_ticksOfAllSteps_3 rfl hl (by decide) rfl (fun ls hl => ?_)
  refine lv_iconst (v := 0) hx hb dX4_ticksOfAllSteps_4 (by decide) ?_
  refine lv_istore_n (lv' := [(3, .int 0), (2, .int 0), (1, .int 0), (0, .ref (ad_r 0))]) hx hb dX4_ticksOfAllSteps_5 rfl hl (by decide) rfl (fun ls hl => ?_)
  obtain ⟨nf, h⟩ := h
  exact ml_X4_ticksOfAllSteps_6 G hK hN hA r_markedTicks post nf 0 0 0 h H locs hP hD hS ls (lv_sub hl [3, 2, 1, 0] rfl)
set_option maxRecDepth 100000 in
theorem mt_X4_ticksOfAllSteps (l : Launch) (D : va_G) (cI cZ cR : ClassId) (ad_r : Nat → Nat) (sz : Nat) (r_pitches : Nat → Int32) (r_firstSteps : Nat → Int32) (r_lengths : Nat → Int32) (r_size : Int32) (r_held : Nat → Int32) (r_punched : Nat → Int32) (r_markedTicks : Nat → Int32) (r_marks : Int32) (post : Int32 → Prop) (h : wp_X4_ticksOfAllSteps r_markedTicks post) : Met l yX4_ticksOfAllSteps wsX4_ticksOfAllSteps ({ frames := 1, cells := 0, slots := 0, locals := 22 }) (gPc D (gT cI cZ cR) (w_R cI cZ cR ad_r r_pitches r_firstSteps r_lengths r_size r_held r_punched r_markedTicks r_marks) sz [.ref (ad_r 0)]) (va_Qi (fun (r : Int32) (u : Unit) => post r ) (fun u t => gB D (gT cI cZ cR) (va_A (w_R cI cZ cR ad_r r_pitches r_firstSteps r_lengths r_size r_held r_punched r_markedTicks r_marks) sz) (w_R cI cZ cR ad_r r_pitches r_firstSteps r_lengths r_size r_held r_punched r_markedTicks r_marks) t) (va_A (w_R cI cZ cR ad_r r_pitches r_firstSteps r_lengths r_size r_held r_punched r_markedTicks r_marks) sz)) 0 0 (va_A (w_R cI cZ cR ad_r r_pitches r_firstSteps r_lengths r_size r_held r_punched r_markedTicks r_marks) sz) := by
  refine gl_entry (cc := cX4_ticksOfAllSteps) (maxL := 4) (ret := (some .int)) (by decide) rfl (Nat.le_of_ble_eq_true rfl) ?_
  intro p e s m below meth c ls G hin hsz hK hN hP hD hl
  subst hsz
  exact ml_X4_ticksOfAllSteps_0 G hK hN (fun q h => Or.inr h) r_markedTicks post h s.heap [] hP hD va_S.rf ls hl
theorem lk_X4_takeTempoOf_0 : (Cond.fieldLink RX4 31 "RollHouse$Roll" "markedTicks" "[I") ∈ wsX4_takeTempoOf := by decide +kernel
theorem lk_X4_takeTempoOf_1 : (Cond.methodLink RX4 94 arraycopyName) ∈ wsX4_takeTempoOf := by decide +kernel
theorem lk_X4_takeTempoOf_2 : (Cond.native arraycopyName) ∈ wsX4_takeTempoOf := by decide +kernel
theorem lk_X4_takeTempoOf_3 : (Cond.static arraycopyName) ∈ wsX4_takeTempoOf := by decide +kernel
theorem lk_X4_takeTempoOf_4 : (Cond.initialized "java/lang/System") ∈ wsX4_takeTempoOf := by decide +kernel
theorem lk_X4_takeTempoOf_5 : (Cond.fieldLink RX4 34 "RollHouse$Roll" "marks" "I") ∈ wsX4_takeTempoOf := by decide +kernel
theorem us_X4_takeTempoOf_X4 : ∀ w ∈ u_ws RX4 TX4 8, w ∈ wsX4_takeTempoOf := by decide +kernel
def wp_X4_takeTempoOf (s_markedTicks : Nat → Int32) (s_marks : Int32) (r_markedTicks : Nat → Int32) (r_marks : Int32) (post : (Nat → Int32) → Int32 → Prop) : Prop := (∀ a1 : Nat → Int32, a1 = va_cpy s_markedTicks r_markedTicks (0 : Int32).toNatClampNeg (0 : Int32).toNatClampNeg (300 : Int32).toNatClampNeg → post a1 s_marks)
set_option maxRecDepth 100000 in
set_option maxHeartbeats 4000000 in
theorem ml_X4_takeTempoOf_0 {p : Program} {l : Launch} {e : Env} {s : State} {m : MethodId} {args : Array Value} {below : List Frame} {meth : Method} {c : Code} {D : va_G} {cI cZ cR : ClassId} {A : Nat → Prop} {ad_r : Nat → Nat} {ad_s : Nat → Nat} {r_pitches : Nat → Int32} {r_firstSteps : Nat → Int32} {r_lengths : Nat → Int32} {r_size : Int32} {r_held : Nat → Int32} {r_punched : Nat → Int32} {s_pitches : Nat → Int32} {s_firstSteps : Nat → Int32} {s_lengths : Nat → Int32} {s_size : Int32} {s_held : Nat → Int32} {s_punched : Nat → Int32} (G : gG p s m args meth c cX4_takeTempoOf none 2 RX4 wsX4_takeTempoOf) (hK : va_K D vwCl (gT cI cZ cR) s) (hN : va_Nw gN s) (hA : ∀ q, s.heap.size ≤ q → A q) (s_markedTicks : Nat → Int32) (s_marks : Int32) (post : (Nat → Int32) → Int32 → Prop) (r_markedTicks : Nat → Int32) (r_marks : Int32) (h : wp_X4_takeTempoOf s_markedTicks s_marks r_markedTicks r_marks post) : ∀ (H : Heap) (locs : List Loc), va_P D vwCl (w_R cI cZ cR ad_r r_pitches r_firstSteps r_lengths r_size r_held r_punched r_markedTicks r_marks ++ w_R cI cZ cR ad_s s_pitches s_firstSteps s_lengths s_size s_held s_punched s_markedTicks s_marks) H → va_D A (w_R cI cZ cR ad_r r_pitches r_firstSteps r_lengths r_size r_held r_punched r_markedTicks r_marks ++ w_R cI cZ cR ad_s s_pitches s_firstSteps s_lengths s_size s_held s_punched s_markedTicks s_marks) → va_S A s.heap H locs → ∀ (ls : Array Slot), lv_has ls 2 [(0, .ref (ad_r 0)), (1, .ref (ad_s 0))] → W p l e { frames := 1, cells := 0, slots := 0, locals := 60 } s m args below meth c H locs 0 0 (MQ below (va_Qv (fun (u : (Nat → Int32) × (Int32)) => post u.1 u.2) (fun u t => gB D (gT cI cZ cR) A (w_R cI cZ cR ad_r r_pitches r_firstSteps r_lengths r_size r_held r_punched u.1 u.2 ++ w_R cI cZ cR ad_s s_pitches s_firstSteps s_lengths s_size s_held s_punched s_markedTicks s_marks) t) A) args s 0 0 A) (F0 m 0 ls []) := by
  obtain ⟨hx, hb, hr, hml, hown, hts, hlocks⟩ := id G
  intro H locs hP hD hS ls hl
  unfold wp_X4_takeTempoOf at h
  refine lv_aload_n hx hb dX4_takeTempoOf_0 rfl (lv_at hl 1 rfl) ?_
  refine va_get (D := D) (ci := 4) (v := .ref (ad_s 6)) (C := RX4) (T := TX4) (N := 8) hx hb hts us_X4_takeTempoOf_X4 hown hK hP 7 rfl rfl 6 (by decide) (hts (.fieldLink RX4 31 "RollHouse$Roll" "markedTicks" "[I") lk_X4_takeTempoOf_0) (fun _ h9 => h9) rfl dX4_takeTempoOf_1 ?_
  refine lv_iconst (v := 0) hx hb dX4_takeTempoOf_4 (by decide) ?_
  refine lv_aload_n hx hb dX4_takeTempoOf_5 rfl (lv_at hl 0 rfl) ?_
  refine va_get (D := D) (ci := 4) (v := .ref (ad_r 6)) (C := RX4) (T := TX4) (N := 8) hx hb hts us_X4_takeTempoOf_X4 hown hK hP 0 rfl rfl 6 (by decide) (hts (.fieldLink RX4 31 "RollHouse$Roll" "markedTicks" "[I") lk_X4_takeTempoOf_0) (fun _ h9 => h9) rfl dX4_takeTempoOf_6 ?_
  refine lv_iconst (v := 0) hx hb dX4_takeTempoOf_9 (by decide) ?_
  refine lv_sipush (v := 300) hx hb dX4_takeTempoOf_10 (by decide) ?_
  refine va_copyi hx hb (hml.trans hl.1.symm) hown (hts (.methodLink RX4 94 arraycopyName) lk_X4_takeTempoOf_1) (hts (.native arraycopyName) lk_X4_takeTempoOf_2) (hts (.static arraycopyName) lk_X4_takeTempoOf_3) (hts (.initialized "java/lang/System") lk_X4_takeTempoOf_4) hK hP hD hS 13 6 0 0 rfl rfl rfl rfl rfl (by decide) (by decide) (by decide) (by decide) (by decide) (fun i _ => rfl) (Nat.le_of_ble_eq_true rfl) (Nat.le_of_ble_eq_true rfl) dX4_takeTempoOf_13 (fun H locs hP hD hS => ?_)
  obtain ⟨a1, ea1⟩ : ∃ f, f = va_cpy s_markedTicks r_markedTicks (0 : Int32).toNatClampNeg (0 : Int32).toNatClampNeg (300 : Int32).toNatClampNeg := ⟨_, rfl⟩
  have h := h a1 ea1
  rw [← ea1] at hP hD
  have hP : va_P D vwCl (w_R cI cZ cR ad_r r_pitches r_firstSteps r_lengths r_size r_held r_punched a1 r_marks ++ w_R cI cZ cR ad_s s_pitches s_firstSteps s_lengths s_size s_held s_punched s_markedTicks s_marks) H := hP
  have hD : va_D A (w_R cI cZ cR ad_r r_pitches r_firstSteps r_lengths r_size r_held r_punched a1 r_marks ++ w_R cI cZ cR ad_s s_pitches s_firstSteps s_lengths s_size s_held s_punched s_markedTicks s_marks) := hD
  refine lv_aload_n hx hb dX4_takeTempoOf_16 rfl (lv_at hl 0 rfl) ?_
  refine lv_aload_n hx hb dX4_takeTempoOf_17 rfl (lv_at hl 1 rfl) ?_
  refine va_get (D := D) (ci := 4) (v := .int s_marks) (C := RX4) (T := TX4) (N := 8) hx hb hts us_X4_takeTempoOf_X4 hown hK hP 7 rfl rfl 7 (by decide) (hts (.fieldLink RX4 34 "RollHouse$Roll" "marks" "I") lk_X4_takeTempoOf_5) (fun _ h9 => h9) rfl dX4_takeTempoOf_18 ?_
  refine va_put (D := D) (ci := 4) (v := .int s_marks) (ty := .int) (C := RX4) (T := TX4) (N := 8) hx hb hts us_X4_takeTempoOf_X4 tyX4 tyX4_ok nmX4 hown hK hP hD hS 0 rfl rfl 7 (by decide) (hts (.fieldLink RX4 34 "RollHouse$Roll" "marks" "I") lk_X4_takeTempoOf_5) (fun _ h9 => h9) rfl (by decide +kernel) rfl rfl (Nat.le_of_ble_eq_true rfl) dX4_takeTempoOf_21 (fun H locs hP hD hS => ?_)
  have hP : va_P D vwCl (w_R cI cZ cR ad_r r_pitches r_firstSteps r_lengths r_size r_held r_punched a1 s_marks ++ w_R cI cZ cR ad_s s_pitches s_firstSteps s_lengths s_size s_held s_punched s_markedTicks s_marks) H := hP
  have hD : va_D A (w_R cI cZ cR ad_r r_pitches r_firstSteps r_lengths r_size r_held r_punched a1 s_marks ++ w_R cI cZ cR ad_s s_pitches s_firstSteps s_lengths s_size s_held s_punched s_markedTicks s_marks) := hD
  exact gl_retv G hK (u := (a1, s_marks)) hP hD hS h dX4_takeTempoOf_24
set_option maxRecDepth 100000 in
theorem mt_X4_takeTempoOf (l : Launch) (D : va_G) (cI cZ cR : ClassId) (ad_r : Nat → Nat) (ad_s : Nat → Nat) (sz : Nat) (r_pitches : Nat → Int32) (r_firstSteps : Nat → Int32) (r_lengths : Nat → Int32) (r_size : Int32) (r_held : Nat → Int32) (r_punched : Nat → Int32) (r_markedTicks : Nat → Int32) (r_marks : Int32) (s_pitches : Nat → Int32) (s_firstSteps : Nat → Int32) (s_lengths : Nat → Int32) (s_size : Int32) (s_held : Nat → Int32) (s_punched : Nat → Int32) (s_markedTicks : Nat → Int32) (s_marks : Int32) (post : (Nat → Int32) → Int32 → Prop) (h : wp_X4_takeTempoOf s_markedTicks s_marks r_markedTicks r_marks post) : Met l yX4_takeTempoOf wsX4_takeTempoOf ({ frames := 1, cells := 0, slots := 0, locals := 60 }) (gPc D (gT cI cZ cR) (w_R cI cZ cR ad_r r_pitches r_firstSteps r_lengths r_size r_held r_punched r_markedTicks r_marks ++ w_R cI cZ cR ad_s s_pitches s_firstSteps s_lengths s_size s_held s_punched s_markedTicks s_marks) sz [.ref (ad_r 0), .ref (ad_s 0)]) (va_Qv (fun (u : (Nat → Int32) × (Int32)) => post u.1 u.2) (fun u t => gB D (gT cI cZ cR) (va_A (w_R cI cZ cR ad_r r_pitches r_firstSteps r_lengths r_size r_held r_punched r_markedTicks r_marks ++ w_R cI cZ cR ad_s s_pitches s_firstSteps s_lengths s_size s_held s_punched s_markedTicks s_marks) sz) (w_R cI cZ cR ad_r r_pitches r_firstSteps r_lengths r_size r_held r_punched u.1 u.2 ++ w_R cI cZ cR ad_s s_pitches s_firstSteps s_lengths s_size s_held s_punched s_markedTicks s_marks) t) (va_A (w_R cI cZ cR ad_r r_pitches r_firstSteps r_lengths r_size r_held r_punched r_markedTicks r_marks ++ w_R cI cZ cR ad_s s_pitches s_firstSteps s_lengths s_size s_held s_punched s_markedTicks s_marks) sz)) 0 0 (va_A (w_R cI cZ cR ad_r r_pitches r_firstSteps r_lengths r_size r_held r_punched r_markedTicks r_marks ++ w_R cI cZ cR ad_s s_pitches s_firstSteps s_lengths s_size s_held s_punched s_markedTicks s_marks) sz) := by
  refine gl_entry (cc := cX4_takeTempoOf) (maxL := 2) (ret := none) (by decide) rfl (Nat.le_of_ble_eq_true rfl) ?_
  intro p e s m below meth c ls G hin hsz hK hN hP hD hl
  subst hsz
  exact ml_X4_takeTempoOf_0 G hK hN (fun q h => Or.inr h) s_markedTicks s_marks post r_markedTicks r_marks h s.heap [] hP hD va_S.rf ls hl
theorem lk_X4_takeNotesOf_0 : (Cond.fieldLink RX4 21 "RollHouse$Roll" "size" "I") ∈ wsX4_takeNotesOf := by decide +kernel
theorem lk_X4_takeNotesOf_1 : (Cond.fieldLink RX4 9 "RollHouse$Roll" "pitches" "[I") ∈ wsX4_takeNotesOf := by decide +kernel
theorem lk_X4_takeNotesOf_2 : (Cond.fieldLink RX4 15 "RollHouse$Roll" "firstSteps" "[I") ∈ wsX4_takeNotesOf := by decide +kernel
theorem lk_X4_takeNotesOf_3 : (Cond.fieldLink RX4 18 "RollHouse$Roll" "lengths" "[I") ∈ wsX4_takeNotesOf := by decide +kernel
theorem us_X4_takeNotesOf_X4 : ∀ w ∈ u_ws RX4 TX4 8, w ∈ wsX4_takeNotesOf := by decide +kernel
def wl_X4_takeNotesOf_4 (s_pitches : Nat → Int32) (s_firstSteps : Nat → Int32) (s_lengths : Nat → Int32) (s_size : Int32) (post : Int32 → (Nat → Int32) → (Nat → Int32) → (Nat → Int32) → Int32 → (Nat → Int32) → (Nat → Int32) → Prop) : Nat → (Int32) → (Int32) → (Nat → Int32) → (Nat → Int32) → (Nat → Int32) → (Int32) → (Nat → Int32) → (Nat → Int32) → Prop
  | 0, _, _, _, _, _, _, _, _ => False
  | fu + 1, v2, v3, r_pitches, r_firstSteps, r_lengths, r_size, r_held, r_punched => ((s_size ≤ v3 → post v2 r_pitches r_firstSteps r_lengths r_size r_held r_punched) ∧ (¬ s_size ≤ v3 → (vp_in v3 60 ∧ (wp_X4_onSmallBar (s_pitches v3.toNatClampNeg) (fun (r1 : Int32) => (vp_in v3 60 ∧ (vp_in v3 60 ∧ (wp_X4_putIfAllowed r1 (s_firstSteps v3.toNatClampNeg) (s_lengths v3.toNatClampNeg) r_pitches r_firstSteps r_lengths r_size r_held r_punched (fun (r2 : Int32) (a3 : Nat → Int32) (a4 : Nat → Int32) (a5 : Nat → Int32) (z6 : Int32) (a7 : Nat → Int32) (a8 : Nat → Int32) => ((r2 = 1 → wl_X4_takeNotesOf_4 s_pitches s_firstSteps s_lengths s_size post fu v2 (v3 + 1) a3 a4 a5 z6 a7 a8) ∧ (¬ r2 = 1 → wl_X4_takeNotesOf_4 s_pitches s_firstSteps s_lengths s_size post fu (v2 + 1) (v3 + 1) a3 a4 a5 z6 a7 a8)))))))))))
def wp_X4_takeNotesOf (s_pitches : Nat → Int32) (s_firstSteps : Nat → Int32) (s_lengths : Nat → Int32) (s_size : Int32) (r_pitches : Nat → Int32) (r_firstSteps : Nat → Int32) (r_lengths : Nat → Int32) (r_size : Int32) (r_held : Nat → Int32) (r_punched : Nat → Int32) (post : Int32 → (Nat → Int32) → (Nat → Int32) → (Nat → Int32) → Int32 → (Nat → Int32) → (Nat → Int32) → Prop) : Prop := (∃ n, wl_X4_takeNotesOf_4 s_pitches s_firstSteps s_lengths s_size post n 0 0 r_pitches r_firstSteps r_lengths r_size r_held r_punched)
set_option maxRecDepth 100000 in
set_option maxHeartbeats 4000000 in
theorem ml_X4_takeNotesOf_4 {p : Program} {l : Launch} {e : Env} {s : State} {m : MethodId} {args : Array Value} {below : List Frame} {meth : Method} {c : Code} {D : va_G} {cI cZ cR : ClassId} {A : Nat → Prop} {ad_r : Nat → Nat} {ad_s : Nat → Nat} {r_markedTicks : Nat → Int32} {r_marks : Int32} {s_held : Nat → Int32} {s_punched : Nat → Int32} {s_markedTicks : Nat → Int32} {s_marks : Int32} (G : gG p s m args meth c cX4_takeNotesOf (some .int) 5 RX4 wsX4_takeNotesOf) (hK : va_K D vwCl (gT cI cZ cR) s) (hN : va_Nw gN s) (hA : ∀ q, s.heap.size ≤ q → A q) (s_pitches : Nat → Int32) (s_firstSteps : Nat → Int32) (s_lengths : Nat → Int32) (s_size : Int32) (post : Int32 → (Nat → Int32) → (Nat → Int32) → (Nat → Int32) → Int32 → (Nat → Int32) → (Nat → Int32) → Prop) : ∀ (fu : Nat) (v2 : Int32) (v3 : Int32) (r_pitches : Nat → Int32) (r_firstSteps : Nat → Int32) (r_lengths : Nat → Int32) (r_size : Int32) (r_held : Nat → Int32) (r_punched : Nat → Int32), wl_X4_takeNotesOf_4 s_pitches s_firstSteps s_lengths s_size post fu v2 v3 r_pitches r_firstSteps r_lengths r_size r_held r_punched → ∀ (H : Heap) (locs : List Loc), va_P D vwCl (w_R cI cZ cR ad_r r_pitches r_firstSteps r_lengths r_size r_held r_punched r_markedTicks r_marks ++ w_R cI cZ cR ad_s s_pitches s_firstSteps s_lengths s_size s_held s_punched s_markedTicks s_marks) H → va_D A (w_R cI cZ cR ad_r r_pitches r_firstSteps r_lengths r_size r_held r_punched r_markedTicks r_marks ++ w_R cI cZ cR ad_s s_pitches s_firstSteps s_lengths s_size s_held s_punched s_markedTicks s_marks) → va_S A s.heap H locs → ∀ (ls : Array Slot), lv_has ls 5 [(0, .ref (ad_r 0)), (1, .ref (ad_s 0)), (2, .int v2), (3, .int v3)] → W p l e { frames := 4, cells := 0, slots := 0, locals := 88 } s m args below meth c H locs 0 0 (MQ below (va_Qi (fun (r : Int32) (u : (Nat → Int32) × (Nat → Int32) × (Nat → Int32) × (Int32) × (Nat → Int32) × (Nat → Int32)) => post r u.1 u.2.1 u.2.2.1 u.2.2.2.1 u.2.2.2.2.1 u.2.2.2.2.2) (fun u t => gB D (gT cI cZ cR) A (w_R cI cZ cR ad_r u.1 u.2.1 u.2.2.1 u.2.2.2.1 u.2.2.2.2.1 u.2.2.2.2.2 r_markedTicks r_marks ++ w_R cI cZ cR ad_s s_pitches s_firstSteps s_lengths s_size s_held s_punched s_markedTicks s_marks) t) A) args s 0 0 A) (F0 m 4 ls []) := by
  obtain ⟨hx, hb, hr, hml, hown, hts, hlocks⟩ := id G
  intro fu
  induction fu with
  | zero =>
    intro v2 v3 r_pitches r_firstSteps r_lengths r_size r_held r_punched h
    exact h.elim
  | succ fu ih =>
    intro v2 v3 r_pitches r_firstSteps r_lengths r_size r_held r_punched h H locs hP hD hS ls hl
    rw [wl_X4_takeNotesOf_4] at h
    refine lv_iload_n hx hb dX4_takeNotesOf_4 rfl (lv_at hl 3 rfl) ?_
    refine lv_aload_n hx hb dX4_takeNotesOf_5 rfl (lv_at hl 1 rfl) ?_
    refine va_get (D := D) (ci := 4) (v := .int s_size) (C := RX4) (T := TX4) (N := 8) hx hb hts us_X4_takeNotesOf_X4 hown hK hP 7 rfl rfl 3 (by decide) (hts (.fieldLink RX4 21 "RollHouse$Roll" "size" "I") lk_X4_takeNotesOf_0) (fun _ h9 => h9) rfl dX4_takeNotesOf_6 ?_
    refine lv_icmp_ge (tgt := 54) hx hb dX4_takeNotesOf_9 (by decide) (fun hc => ?_) (fun hc => ?_)
    · have h := h.1 hc
      refine lv_iload_n hx hb dX4_takeNotesOf_54 rfl (lv_at hl 2 rfl) ?_
      exact gl_ireti G hK (u := (r_pitches, r_firstSteps, r_lengths, r_size, r_held, r_punched)) hP hD hS h dX4_takeNotesOf_55
    · have h := h.2 hc
      refine lv_aload_n hx hb dX4_takeNotesOf_12 rfl (lv_at hl 1 rfl) ?_
      refine va_get (D := D) (ci := 4) (v := .ref (ad_s 1)) (C := RX4) (T := TX4) (N := 8) hx hb hts us_X4_takeNotesOf_X4 hown hK hP 7 rfl rfl 0 (by decide) (hts (.fieldLink RX4 9 "RollHouse$Roll" "pitches" "[I") lk_X4_takeNotesOf_1) (fun _ h9 => h9) rfl dX4_takeNotesOf_13 ?_
      refine lv_iload_n hx hb dX4_takeNotesOf_16 rfl (lv_at hl 3 rfl) ?_
      obtain ⟨hin, h⟩ := h
      refine va_iald hx hb hK hP 8 0 rfl rfl hin dX4_takeNotesOf_17 ?_
      refine gl_calliS (va_runS (As := [.int (s_pitches v3.toNatClampNeg)]) (rest := []) ⟨hx, hb, hml, hown, hts⟩ (mt_X4_onSmallBar l D cI cZ cR  H.size (s_pitches v3.toNatClampNeg) _ h) (va_cwS 1 hts gX4_takeNotesOf_X4_onSmallBar rfl rfl rfl (by decide +kernel) ⟨Nat.le_of_ble_eq_true rfl, Nat.le_of_ble_eq_true rfl⟩) ⟨gl_blind, gl_pre gl_nilP hK hN (gl_nilD (A := A))⟩ rfl rfl hl.1 rfl (lv_room (Nat.le_of_ble_eq_true rfl)) dX4_takeNotesOf_18 ⟨Nat.le_of_ble_eq_true rfl, Nat.le_of_ble_eq_true rfl⟩) hP hS hA (fun r1 u H locs h hP hS => ?_)
      try dsimp only at h
      refine lv_istore (lv' := [(4, .int r1), (0, .ref (ad_r 0)), (1, .ref (ad_s 0)), (2, .int v2), (3, .int v3)]) hx hb dX4_takeNotesOf_21 hl (by decide) rfl (fun ls hl => ?_)
      refine lv_aload_n hx hb dX4_takeNotesOf_23 rfl (lv_at hl 1 rfl) ?_
      refine lv_iload hx hb dX4_takeNotesOf_24 (lv_at hl 0 rfl) ?_
      refine lv_aload_n hx hb dX4_takeNotesOf_26 rfl (lv_at hl 2 rfl) ?_
      refine va_get (D := D) (ci := 4) (v := .ref (ad_s 2)) (C := RX4) (T := TX4) (N := 8) hx hb hts us_X4_takeNotesOf_X4 hown hK hP 7 rfl rfl 1 (by decide) (hts (.fieldLink RX4 15 "RollHouse$Roll" "firstSteps" "[I") lk_X4_takeNotesOf_2) (fun _ h9 => h9) rfl dX4_takeNotesOf_27 ?_
      refine lv_iload_n hx hb dX4_takeNotesOf_30 rfl (lv_at hl 4 rfl) ?_
      obtain ⟨hin, h⟩ := h
      refine va_iald hx hb hK hP 9 0 rfl rfl hin dX4_takeNotesOf_31 ?_
      refine lv_aload_n hx hb dX4_takeNotesOf_32 rfl (lv_at hl 2 rfl) ?_
      refine va_get (D := D) (ci := 4) (v := .ref (ad_s 3)) (C := RX4) (T := TX4) (N := 8) hx hb hts us_X4_takeNotesOf_X4 hown hK hP 7 rfl rfl 2 (by decide) (hts (.fieldLink RX4 18 "RollHouse$Roll" "lengths" "[I") lk_X4_takeNotesOf_3) (fun _ h9 => h9) rfl dX4_takeNotesOf_33 ?_
      refine lv_iload_n hx hb dX4_takeNotesOf_36 rfl (lv_at hl 4 rfl) ?_
      obtain ⟨hin, h⟩ := h
      refine va_iald hx hb hK hP 10 0 rfl rfl hin dX4_takeNotesOf_37 ?_
      have hPc := hP.sub (ws' := w_R cI cZ cR ad_r r_pitches r_firstSteps r_lengths r_size r_held r_punched r_markedTicks r_marks) [0, 1, 2, 3, 4, 5, 6] rfl
      have hDc := hD.sub (ws' := w_R cI cZ cR ad_r r_pitches r_firstSteps r_lengths r_size r_held r_punched r_markedTicks r_marks) [0, 1, 2, 3, 4, 5, 6] (by decide) rfl
      refine gl_calli (wr := w_R cI cZ cR ad_s s_pitches s_firstSteps s_lengths s_size s_held s_punched s_markedTicks s_marks) (va_runV (As := [.int r1, .int (s_firstSteps v3.toNatClampNeg), .int (s_lengths v3.toNatClampNeg)]) (rest := []) ⟨hx, hb, hml, hown, hts⟩ (mt_X4_putIfAllowed l D cI cZ cR ad_r H.size r_pitches r_firstSteps r_lengths r_size r_held r_punched r_markedTicks r_marks r1 (s_firstSteps v3.toNatClampNeg) (s_lengths v3.toNatClampNeg) _ h) (cwV 3 hts gX4_takeNotesOf_X4_putIfAllowed rfl rfl rfl (by decide +kernel) ⟨Nat.le_of_ble_eq_true rfl, Nat.le_of_ble_eq_true rfl⟩) ⟨gl_blind, va_recv hK hPc (ci := 4) (q0 := 0) rfl rfl, gl_pre hPc hK hN hDc⟩ rfl rfl hl.1 rfl (lv_room (Nat.le_of_ble_eq_true rfl)) dX4_takeNotesOf_38 ⟨Nat.le_of_ble_eq_true rfl, Nat.le_of_ble_eq_true rfl⟩) hP hD hS hA [0, 1, 2, 3, 4, 5, 6] [7, 8, 9, 10, 11, 12, 13] rfl rfl (by decide) (by decide) (fun r2 u H locs h hP hD hS => ?_)
      obtain ⟨a3, a4, a5, z6, a7, a8⟩ := u
      try dsimp only at h
      have hP := hP.sub (ws' := w_R cI cZ cR ad_r a3 a4 a5 z6 a7 a8 r_markedTicks r_marks ++ w_R cI cZ cR ad_s s_pitches s_firstSteps s_lengths s_size s_held s_punched s_markedTicks s_marks) [7, 8, 9, 10, 11, 12, 13, 0, 1, 2, 3, 4, 5, 6] rfl
      have hD := hD.sub (ws' := w_R cI cZ cR ad_r a3 a4 a5 z6 a7 a8 r_markedTicks r_marks ++ w_R cI cZ cR ad_s s_pitches s_firstSteps s_lengths s_size s_held s_punched s_markedTicks s_marks) [7, 8, 9, 10, 11, 12, 13, 0, 1, 2, 3, 4, 5, 6] (by decide) rfl
      refine lv_iconst (v := 1) hx hb dX4_takeNotesOf_41 (by decide) ?_
      refine lv_icmp_eq (tgt := 48) hx hb dX4_takeNotesOf_42 (by decide) (fun hc => ?_) (fun hc => ?_)
      · have h := h.1 hc
        refine lv_iinc (v := v3 + 1) (lv' := [(3, .int (v3 + 1)), (4, .int r1), (0, .ref (ad_r 0)), (1, .ref (ad_s 0)), (2, .int v2)]) hx hb dX4_takeNotesOf_48 hl (k := 4) rfl rfl (by decide) rfl (fun ls hl => ?_)
        refine lv_goto (tgt := 4) hx hb dX4_takeNotesOf_51 (by decide) ?_
        exact ih v2 (v3 + 1) a3 a4 a5 z6 a7 a8 h H locs hP hD hS ls (lv_sub hl [2, 3, 4, 0] rfl)
      · have h := h.2 hc
        refine lv_iinc (v := v2 + 1) (lv' := [(2, .int (v2 + 1)), (4, .int r1), (0, .ref (ad_r 0)), (1, .ref (ad_s 0)), (3, .int v3)]) hx hb dX4_takeNotesOf_45 hl (k := 3) rfl rfl (by decide) rfl (fun ls hl => ?_)
        refine lv_iinc (v := v3 + 1) (lv' := [(3, .int (v3 + 1)), (2, .int (v2 + 1)), (4, .int r1), (0, .ref (ad_r 0)), (1, .ref (ad_s 0))]) hx hb dX4_takeNotesOf_48 hl (k := 4) rfl rfl (by decide) rfl (fun ls hl => ?_)
        refine lv_goto (tgt := 4) hx hb dX4_takeNotesOf_51 (by decide) ?_
        exact ih (v2 + 1) (v3 + 1) a3 a4 a5 z6 a7 a8 h H locs hP hD hS ls (lv_sub hl [3, 4, 1, 0] rfl)
set_option maxRecDepth 100000 in
set_option maxHeartbeats 4000000 in
theorem ml_X4_takeNotesOf_0 {p : Program} {l : Launch} {e : Env} {s : State} {m : MethodId} {args : Array Value} {below : List Frame} {meth : Method} {c : Code} {D : va_G} {cI cZ cR : ClassId} {A : Nat → Prop} {ad_r : Nat → Nat} {ad_s : Nat → Nat} {r_markedTicks : Nat → Int32} {r_marks : Int32} {s_held : Nat → Int32} {s_punched : Nat → Int32} {s_markedTicks : Nat → Int32} {s_marks : Int32} (G : gG p s m args meth c cX4_takeNotesOf (some .int) 5 RX4 wsX4_takeNotesOf) (hK : va_K D vwCl (gT cI cZ cR) s) (hN : va_Nw gN s) (hA : ∀ q, s.heap.size ≤ q → A q) (s_pitches : Nat → Int32) (s_firstSteps : Nat → Int32) (s_lengths : Nat → Int32) (s_size : Int32) (post : Int32 → (Nat → Int32) → (Nat → Int32) → (Nat → Int32) → Int32 → (Nat → Int32) → (Nat → Int32) → Prop) (r_pitches : Nat → Int32) (r_firstSteps : Nat → Int32) (r_lengths : Nat → Int32) (r_size : Int32) (r_held : Nat → Int32) (r_punched : Nat → Int32) (h : wp_X4_takeNotesOf s_pitches s_firstSteps s_lengths s_size r_pitches r_firstSteps r_lengths r_size r_held r_punched post) : ∀ (H : Heap) (locs : List Loc), va_P D vwCl (w_R cI cZ cR ad_r r_pitches r_firstSteps r_lengths r_size r_held r_punched r_markedTicks r_marks ++ w_R cI cZ cR ad_s s_pitches s_firstSteps s_lengths s_size s_held s_punched s_markedTicks s_marks) H → va_D A (w_R cI cZ cR ad_r r_pitches r_firstSteps r_lengths r_size r_held r_punched r_markedTicks r_marks ++ w_R cI cZ cR ad_s s_pitches s_firstSteps s_lengths s_size s_held s_punched s_markedTicks s_marks) → va_S A s.heap H locs → ∀ (ls : Array Slot), lv_has ls 5 [(0, .ref (ad_r 0)), (1, .ref (ad_s 0))] → W p l e { frames := 4, cells := 0, slots := 0, locals := 88 } s m args below meth c H locs 0 0 (MQ below (va_Qi (fun (r : Int32) (u : (Nat → Int32) × (Nat → Int32) × (Nat → Int32) × (Int32) × (Nat → Int32) × (Nat → Int32)) => post r u.1 u.2.1 u.2.2.1 u.2.2.2.1 u.2.2.2.2.1 u.2.2.2.2.2) (fun u t => gB D (gT cI cZ cR) A (w_R cI cZ cR ad_r u.1 u.2.1 u.2.2.1 u.2.2.2.1 u.2.2.2.2.1 u.2.2.2.2.2 r_markedTicks r_marks ++ w_R cI cZ cR ad_s s_pitches s_firstSteps s_lengths s_size s_held s_punched s_markedTicks s_marks) t) A) args s 0 0 A) (F0 m 0 ls []) := by
  obtain ⟨hx, hb, hr, hml, hown, hts, hlocks⟩ := id G
  intro H locs hP hD hS ls hl
  unfold wp_X4_takeNotesOf at h
  refine lv_iconst (v := 0) hx hb dX4_takeNotesOf_0 (by decide) ?_
  refine lv_istore_n (lv' := [(2, .int 0), (0, .ref (ad_r 0)), (1, .ref (ad_s 0))]) hx hb dX4_takeNotesOf_1 rfl hl (by decide) rfl (fun ls hl => ?_)
  refine lv_iconst (v := 0) hx hb dX4_takeNotesOf_2 (by decide) ?_
  refine lv_istore_n (lv' := [(3, .int 0), (2, .int 0), (0, .ref (ad_r 0)), (1, .ref (ad_s 0))]) hx hb dX4_takeNotesOf_3 rfl hl (by decide) rfl (fun ls hl => ?_)
  obtain ⟨nf, h⟩ := h
  exact ml_X4_takeNotesOf_4 G hK hN hA s_pitches s_firstSteps s_lengths s_size post nf 0 0 r_pitches r_firstSteps r_lengths r_size r_held r_punched h H locs hP hD hS ls (lv_sub hl [2, 3, 1, 0] rfl)
set_option maxRecDepth 100000 in
theorem mt_X4_takeNotesOf (l : Launch) (D : va_G) (cI cZ cR : ClassId) (ad_r : Nat → Nat) (ad_s : Nat → Nat) (sz : Nat) (r_pitches : Nat → Int32) (r_firstSteps : Nat → Int32) (r_lengths : Nat → Int32) (r_size : Int32) (r_held : Nat → Int32) (r_punched : Nat → Int32) (r_markedTicks : Nat → Int32) (r_marks : Int32) (s_pitches : Nat → Int32) (s_firstSteps : Nat → Int32) (s_lengths : Nat → Int32) (s_size : Int32) (s_held : Nat → Int32) (s_punched : Nat → Int32) (s_markedTicks : Nat → Int32) (s_marks : Int32) (post : Int32 → (Nat → Int32) → (Nat → Int32) → (Nat → Int32) → Int32 → (Nat → Int32) → (Nat → Int32) → Prop) (h : wp_X4_takeNotesOf s_pitches s_firstSteps s_lengths s_size r_pitches r_firstSteps r_lengths r_size r_held r_punched post) : Met l yX4_takeNotesOf wsX4_takeNotesOf ({ frames := 4, cells := 0, slots := 0, locals := 88 }) (gPc D (gT cI cZ cR) (w_R cI cZ cR ad_r r_pitches r_firstSteps r_lengths r_size r_held r_punched r_markedTicks r_marks ++ w_R cI cZ cR ad_s s_pitches s_firstSteps s_lengths s_size s_held s_punched s_markedTicks s_marks) sz [.ref (ad_r 0), .ref (ad_s 0)]) (va_Qi (fun (r : Int32) (u : (Nat → Int32) × (Nat → Int32) × (Nat → Int32) × (Int32) × (Nat → Int32) × (Nat → Int32)) => post r u.1 u.2.1 u.2.2.1 u.2.2.2.1 u.2.2.2.2.1 u.2.2.2.2.2) (fun u t => gB D (gT cI cZ cR) (va_A (w_R cI cZ cR ad_r r_pitches r_firstSteps r_lengths r_size r_held r_punched r_markedTicks r_marks ++ w_R cI cZ cR ad_s s_pitches s_firstSteps s_lengths s_size s_held s_punched s_markedTicks s_marks) sz) (w_R cI cZ cR ad_r u.1 u.2.1 u.2.2.1 u.2.2.2.1 u.2.2.2.2.1 u.2.2.2.2.2 r_markedTicks r_marks ++ w_R cI cZ cR ad_s s_pitches s_firstSteps s_lengths s_size s_held s_punched s_markedTicks s_marks) t) (va_A (w_R cI cZ cR ad_r r_pitches r_firstSteps r_lengths r_size r_held r_punched r_markedTicks r_marks ++ w_R cI cZ cR ad_s s_pitches s_firstSteps s_lengths s_size s_held s_punched s_markedTicks s_marks) sz)) 0 0 (va_A (w_R cI cZ cR ad_r r_pitches r_firstSteps r_lengths r_size r_held r_punched r_markedTicks r_marks ++ w_R cI cZ cR ad_s s_pitches s_firstSteps s_lengths s_size s_held s_punched s_markedTicks s_marks) sz) := by
  refine gl_entry (cc := cX4_takeNotesOf) (maxL := 5) (ret := (some .int)) (by decide) rfl (Nat.le_of_ble_eq_true rfl) ?_
  intro p e s m below meth c ls G hin hsz hK hN hP hD hl
  subst hsz
  exact ml_X4_takeNotesOf_0 G hK hN (fun q h => Or.inr h) s_pitches s_firstSteps s_lengths s_size post r_pitches r_firstSteps r_lengths r_size r_held r_punched h s.heap [] hP hD va_S.rf ls hl
