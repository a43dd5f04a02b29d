theorem cl_ticksOf {mu : Nat → Nat} {k : Nat} {Mk : Nat → Int32} {mk : Int32} (hv : tpV mu) (h : tpC mu k Mk mk) {s : Nat} (hs : s < 300) {v1 v2 : Int32} (e1 : v1 = iI s) (e2 : s ≠ 0 → v2 = iI (tk mu (s - 1))) {post : Int32 → Prop} (kk : post (iI (tk mu s))) : wp_X4_ticksOf Mk v1 v2 post := by
  obtain ⟨c1, c2, c3⟩ := h
  have hm := hv.1 s
  unfold wp_X4_ticksOf
  refine q_in s ?_ e1
  rw [q_cl s e1, c3 s hs]
  refine q_eq (mu s) 0 (fun hq => ?_) (fun hq => ?_)
  · refine q_ne s 0 (fun hq2 => ?_) (fun hq2 => ?_) e1
    · rw [e2 (by omega)]
      obtain ⟨s', rfl⟩ : ∃ s', s = s' + 1 := ⟨s - 1, by omega⟩
      rw [tk, if_pos (by omega)] at kk
      exact kk
    · have e : s = 0 := by omega
      subst e
      rw [tk, if_pos (by omega)] at kk
      exact kk
  · refine q_in s ?_ e1
    have : tk mu s = mu s := by
      cases s with
      | zero => rw [tk, if_neg (by omega)]
      | succ s => rw [tk, if_neg (by omega)]
    rw [this] at kk
    exact kk
theorem cl_ticksAll {mu : Nat → Nat} {k : Nat} {Mk : Nat → Int32} {mk : Int32} (hv : tpV mu) (h : tpC mu k Mk mk) {post : Int32 → Prop} (kk : post (iI (tkS mu 300))) : wp_X4_ticksOfAllSteps Mk post := by
  unfold wp_X4_ticksOfAllSteps
  have key : ∀ (j s : Nat) (v2 : Int32), s + j = 300 → (s ≠ 0 → v2 = iI (tk mu (s - 1))) → wl_X4_ticksOfAllSteps_6 Mk post (j + 1) (iI (tkS mu s)) v2 (iI s) := by
    intro j
    induction j with
    | zero =>
      intro s v2 hs _
      have e : s = 300 := by omega
      subst e
      rw [wl_X4_ticksOfAllSteps_6]
      exact q_le 300 300 (fun _ => kk) (fun hq => absurd hq (by omega))
    | succ j ih =>
      intro s v2 hs e2
      rw [wl_X4_ticksOfAllSteps_6]
      refine q_le 300 s (fun hq => absurd hq (by omega)) (fun _ => ?_)
      refine cl_ticksOf hv h (by omega) rfl e2 ?_
      rw [show iI (s : Int) + 1 = iI ((s + 1 : Nat) : Int) by simp only [iI_lit, iI_add]; exact iI_c (by omega), iI_s]
      exact ih (s + 1) _ (by omega) (fun _ => rfl)
  exact ⟨301, key 300 0 0 (by omega) (fun h9 => absurd rfl h9)⟩
theorem mo_ticksOf {r : Nat} {mu : Nat → Nat} {k : Nat} {ma ms mt : Nat → Int32} (hr : r < 6) (h : tpM r mu k ma ms mt) {s : Nat} (hs : s < 300) {v2 : Int32} (e2 : v2 = iI s) {post : Int32 → Prop} (kk : post (iI (tk mu s))) : wp_X7_ticksOf ma ms mt (iI r) v2 post := by
  obtain ⟨c1, c2, st, tt, c3, c4, c5, c6⟩ := h
  unfold wp_X7_ticksOf
  rintro z rfl
  have e0 : 10 * iI (r : Int) = iI ((10 * r + 0 : Nat) : Int) := by
    simp only [iI_lit, iI_mul]
    exact iI_c (by omega)
  have em : ma (iI (r : Int)).toNatClampNeg = iI k := by rw [q_cl r]; exact c2
  have key : ∀ (j x : Nat) (v3 : Int32), x + j = k → ((v3 = -1 ∧ ∀ y, y < x → s < st y) ∨ (∃ b, b < x ∧ v3 = iI ((10 * r + b : Nat) : Int) ∧ st b ≤ s ∧ ∀ y, y < x → st y ≤ s → st y ≤ st b)) → wl_X7_ticksOf_8 ma ms mt (iI r) v2 post (j + 1) v3 (iI ((10 * r + x : Nat) : Int)) := by
    intro j
    induction j with
    | zero =>
      intro x v3 hx hb
      have e : x = k := by omega
      subst e
      rw [wl_X7_ticksOf_8]
      refine q_in r ?_
      rw [em]
      refine q_le (10 * r + x : Nat) (10 * r + x : Nat) (fun _ => ?_) (fun hq => absurd hq (by omega))
      rcases hb with ⟨e3, hb⟩ | ⟨b, b1, b2, b3, b4⟩
      · refine ⟨fun hq => absurd e3 hq, fun _ => ?_⟩
        rw [tk_none (fun y hy => ?_)] at kk
        · exact kk
        · rcases Nat.eq_zero_or_pos (mu y) with q | q
          · exact q
          · obtain ⟨i, i1, i2⟩ := c5 y q
            have := hb i i1
            omega
      · refine ⟨fun _ => ?_, fun hq => absurd (b2.symm.trans hq) (oE_ne (by omega))⟩
        obtain ⟨u1, u2⟩ := c4 b b1
        obtain ⟨w1, w2, w3, w4⟩ := c3 b (by omega)
        refine q_in (10 * r + b : Nat) ?_ b2
        rw [q_cl (10 * r + b) b2, w4]
        rw [tk_some (y := st b) (by omega) b3 (fun y y1 y2 => ?_), u2] at kk
        · exact kk
        · rcases Nat.eq_zero_or_pos (mu y) with q | q
          · exact q
          · obtain ⟨i, i1, i2⟩ := c5 y q
            have := b4 i i1 (by omega)
            omega
    | succ j ih =>
      intro x v3 hx hb
      obtain ⟨w1, w2, w3, w4⟩ := c3 x (by omega)
      have ex : iI ((10 * r + x : Nat) : Int) + 1 = iI ((10 * r + (x + 1) : Nat) : Int) := by
        simp only [iI_lit, iI_add]
        exact iI_c (by omega)
      rw [wl_X7_ticksOf_8]
      refine q_in r ?_
      rw [em]
      refine q_le (10 * r + k : Nat) (10 * r + x : Nat) (fun hq => absurd hq (by omega)) (fun _ => ?_)
      refine q_in (10 * r + x : Nat) ?_
      rw [q_cl (x := iI ((10 * r + x : Nat) : Int)) (10 * r + x), w3, ex]
      refine q_lt s (st x) (fun hq => ?_) (fun hq => ?_) e2
      · refine ih (x + 1) v3 (by omega) ?_
        rcases hb with ⟨e3, hb⟩ | ⟨b, b1, b2, b3, b4⟩
        · refine Or.inl ⟨e3, fun y hy => ?_⟩
          rcases Nat.lt_or_ge y x with q | q
          · exact hb y q
          · rw [show y = x by omega]; omega
        · refine Or.inr ⟨b, by omega, b2, b3, fun y hy h9 => ?_⟩
          rcases Nat.lt_or_ge y x with q | q
          · exact b4 y q h9
          · rw [show y = x by omega] at h9; omega
      · rcases hb with ⟨e3, hb⟩ | ⟨b, b1, b2, b3, b4⟩
        · refine ⟨fun _ => ?_, fun hq2 => absurd e3 hq2⟩
          refine ih (x + 1) _ (by omega) (Or.inr ⟨x, by omega, rfl, by omega, fun y hy h9 => ?_⟩)
          rcases Nat.lt_or_ge y x with q | q
          · have := hb y q; omega
          · rw [show y = x by omega]; exact Nat.le_refl _
        · refine ⟨fun hq2 => absurd (b2.symm.trans hq2) (oE_ne (by omega)), fun _ => ?_⟩
          obtain ⟨v1, v2', v3', v4⟩ := c3 b (by omega)
          refine q_in (10 * r + x : Nat) ?_
          refine q_in (10 * r + b : Nat) ?_ b2
          rw [q_cl (10 * r + b) b2, v3']
          refine q_le (st x) (st b) (fun hq3 => ?_) (fun hq3 => ?_)
          · refine ih (x + 1) _ (by omega) (Or.inr ⟨b, by omega, b2, b3, fun y hy h9 => ?_⟩)
            rcases Nat.lt_or_ge y x with q | q
            · exact b4 y q h9
            · rw [show y = x by omega]; omega
          · refine ih (x + 1) _ (by omega) (Or.inr ⟨x, by omega, rfl, by omega, fun y hy h9 => ?_⟩)
            rcases Nat.lt_or_ge y x with q | q
            · have := b4 y q h9; omega
            · rw [show y = x by omega]; exact Nat.le_refl _
  rw [e0]
  exact ⟨k + 1, key k 0 _ (by omega) (Or.inl ⟨rfl, fun y hy => absurd hy (by omega)⟩)⟩
theorem mo_allTicks {r : Nat} {mu : Nat → Nat} {k : Nat} {ma ms mt : Nat → Int32} (hr : r < 6) (h : tpM r mu k ma ms mt) {post : Int32 → Prop} (kk : post (iI (tkS mu 300))) : wp_X7_allTicks ma ms mt (iI r) post := by
  unfold wp_X7_allTicks
  have key : ∀ (j s : Nat), s + j = 300 → wl_X7_allTicks_4 ma ms mt (iI r) post (j + 1) (iI (tkS mu s)) (iI s) := by
    intro j
    induction j with
    | zero =>
      intro s hs
      have e : s = 300 := by omega
      subst e
      rw [wl_X7_allTicks_4]
      exact q_le 300 300 (fun _ => kk) (fun hq => absurd hq (by omega))
    | succ j ih =>
      intro s hs
      rw [wl_X7_allTicks_4]
      refine q_le 300 s (fun hq => absurd hq (by omega)) (fun _ => ?_)
      refine mo_ticksOf hr h (by omega) rfl ?_
      rw [show iI (s : Int) + 1 = iI ((s + 1 : Nat) : Int) by simp only [iI_lit, iI_add]; exact iI_c (by omega), iI_s]
      exact ih (s + 1) (by omega)
  exact ⟨301, key 300 0 (by omega)⟩
theorem mo_notesIn {r n : Nat} {nt : Nat → Nat → Nat} {mp mf ml : Nat → Int32} (hr : r < 6) (h : moR r nt n mp mf ml) {s : Nat} (hs : s < 300) {v2 : Int32} (e2 : v2 = iI s) {M : Int32} (hM : msk M (fun p => nInn nt p s)) {post : Int32 → Prop} (kk : post M) : wp_X7_notesIn mp mf ml (iI r) v2 post := by
  obtain ⟨pp, ff, ll, hA, hB⟩ := h
  have t2 : v2.toInt = s := by rw [e2, tI (by omega)]
  unfold wp_X7_notesIn
  rintro z rfl
  have e0 : 60 * iI (r : Int) = iI ((60 * r + 0 : Nat) : Int) := by
    simp only [iI_lit, iI_mul]
    exact iI_c (by omega)
  have key : ∀ (j i : Nat) (x : Int32), i + j = 60 → msk x (fun p => (List.range i).any (fun y => decide (pp y = p ∧ ff y ≤ s ∧ s < ff y + ll y))) → wl_X7_notesIn_8 mp mf ml (iI r) v2 post (j + 1) x (iI ((60 * r + i : Nat) : Int)) := by
    intro j
    induction j with
    | zero =>
      intro i x hi hx
      have e : i = 60 := by omega
      subst e
      rw [wl_X7_notesIn_8]
      refine q_le (60 * r + 60) (60 * r + 60 : Nat) (fun _ => ?_) (fun hc => absurd hc (by omega))
      have : x = M := msk_eq (msk_cong (fun p hp => ?_) hx) hM
      · rw [this]; exact kk
      · rw [Bool.eq_iff_iff, List.any_eq_true, nInn_iff]
        constructor
        · rintro ⟨y, y1, y2⟩
          have y1 := List.mem_range.mp y1
          obtain ⟨z1, z2, z3⟩ := of_decide_eq_true y2
          have hl := hB.1 y y1 (by omega)
          rw [z1] at hl
          exact ⟨ff y, z2, by omega⟩
        · rintro ⟨f, f1, f2⟩
          obtain ⟨y, y1, y2, y3, y4⟩ := hB.2.1 p f (by omega)
          have hl := hB.1 y y1 y2
          rw [y3, y4] at hl
          exact ⟨y, List.mem_range.mpr y1, decide_eq_true ⟨y3, by omega, by omega⟩⟩
    | succ j ih =>
      intro i x hi hx
      obtain ⟨a1, a2, a3, a4, a5, a6, a7⟩ := hA i (by omega)
      have ei : iI ((60 * r + i : Nat) : Int) + 1 = iI ((60 * r + (i + 1) : Nat) : Int) := by
        simp only [iI_lit, iI_add]
        exact iI_c (by omega)
      rw [wl_X7_notesIn_8]
      refine q_le (60 * r + 60) (60 * r + i : Nat) (fun hc => absurd hc (by omega)) (fun _ => ?_)
      rw [ei]
      refine mo_isIn hA hr (by omega) rfl (fun q1 q2 q3 => z10 ?_) (fun hq => z00 ?_)
      · refine q_in (60 * r + i : Nat) ?_
        rw [q_cl (60 * r + i), a5]
        rintro z3 rfl
        refine ih (i + 1) _ (by omega) (msk_cong (fun p hp => ?_) (msk_or hx a1))
        rw [List.range_succ, List.any_append]
        by_cases e : p = pp i
        · rw [e, nu_s]
          simp only [List.any_cons, List.any_nil, Bool.or_false]
          rw [decide_eq_true ⟨trivial, by omega, by omega⟩, Bool.or_true]
        · rw [nu_n _ _ e]
          simp only [List.any_cons, List.any_nil, Bool.or_false]
          rw [decide_eq_false (fun h9 => e h9.1.symm), Bool.or_false]
      · refine ih (i + 1) _ (by omega) (msk_cong (fun p hp => ?_) hx)
        rw [List.range_succ, List.any_append]
        simp only [List.any_cons, List.any_nil, Bool.or_false]
        rw [decide_eq_false (fun h9 => hq (by omega)), Bool.or_false]
  rw [e0]
  exact ⟨61, key 60 0 0 (by omega) (fun i hi => by rw [b_0]; simp)⟩
