/-! tempo: mu s is the ticks of the mark at step s, 0 without one; k marks -/
def tk (mu : Nat → Nat) : Nat → Nat
  | 0 => if mu 0 = 0 then 2 else mu 0
  | s + 1 => if mu (s + 1) = 0 then tk mu s else mu (s + 1)
def tkS (mu : Nat → Nat) : Nat → Nat
  | 0 => 0
  | s + 1 => tkS mu s + tk mu s
theorem tk_none {mu : Nat → Nat} : ∀ {s : Nat}, (∀ x, x ≤ s → mu x = 0) → tk mu s = 2
  | 0, h => by rw [tk, if_pos (h 0 (by omega))]
  | s + 1, h => by rw [tk, if_pos (h (s + 1) (by omega)), tk_none (fun x hx => h x (by omega))]
theorem tk_some {mu : Nat → Nat} {y : Nat} (hy : mu y ≠ 0) : ∀ {s : Nat}, y ≤ s → (∀ x, y < x → x ≤ s → mu x = 0) → tk mu s = mu y
  | 0, h, _ => by
    have e : y = 0 := by omega
    subst e
    rw [tk, if_neg hy]
  | s + 1, h, hx => by
    by_cases e : y = s + 1
    · subst e; rw [tk, if_neg hy]
    · rw [tk, if_pos (hx (s + 1) (by omega) (by omega)), tk_some hy (by omega) (fun x h1 h2 => hx x h1 (by omega))]
theorem tk_le {mu : Nat → Nat} (h : ∀ s, mu s ≤ 9) : ∀ s, tk mu s ≤ 9 ∧ 1 ≤ tk mu s
  | 0 => by
    have := h 0
    rw [tk]
    split <;> omega
  | s + 1 => by
    have := h (s + 1)
    have := tk_le h s
    rw [tk]
    split <;> omega
theorem tkS_le {mu : Nat → Nat} (h : ∀ s, mu s ≤ 9) : ∀ s, tkS mu s ≤ 9 * s
  | 0 => by simp [tkS]
  | s + 1 => by
    have := tkS_le h s
    have := tk_le h s
    rw [tkS]
    omega
def tpV (mu : Nat → Nat) : Prop := (∀ s, mu s ≤ 9) ∧ (∀ s, 300 ≤ s → mu s = 0)
/-- in the class's rows -/
def tpC (mu : Nat → Nat) (k : Nat) (Mk : Nat → Int32) (mk : Int32) : Prop := k ≤ 10 ∧ mk = iI k ∧ ∀ s, s < 300 → Mk s = iI (mu s)
/-- in the reference's rows -/
def tpM (r : Nat) (mu : Nat → Nat) (k : Nat) (ma ms mt : Nat → Int32) : Prop := k ≤ 10 ∧ ma r = iI k ∧ ∃ st tt : Nat → Nat, (∀ i, i < 10 → st i < 300 ∧ tt i ≤ 9 ∧ ms (10 * r + i) = iI (st i) ∧ mt (10 * r + i) = iI (tt i)) ∧ (∀ i, i < k → 0 < tt i ∧ mu (st i) = tt i) ∧ (∀ s, 0 < mu s → ∃ i, i < k ∧ st i = s) ∧ (∀ i j, i < k → j < k → st i = st j → i = j)
def tempoR (mu : Nat → Nat) (k : Nat) (v2 v3 ans : Int32) (mu' : Nat → Nat) (k' : Nat) : Prop := (∃ s t : Nat, s < 300 ∧ 1 ≤ t ∧ t ≤ 9 ∧ v2 = iI s ∧ v3 = iI t ∧ ((mu s ≠ 0 ∧ ans = iI k ∧ mu' = nu mu s t ∧ k' = k) ∨ (mu s = 0 ∧ k < 10 ∧ ans = iI ((k + 1 : Nat) : Int) ∧ mu' = nu mu s t ∧ k' = k + 1) ∨ (mu s = 0 ∧ k = 10 ∧ ans = -1 ∧ mu' = mu ∧ k' = k))) ∨ ((v2.toInt < 0 ∨ 299 < v2.toInt ∨ v3.toInt < 1 ∨ 9 < v3.toInt) ∧ ans = -1 ∧ mu' = mu ∧ k' = k)
theorem tempoR_fun {mu : Nat → Nat} {k : Nat} {v2 v3 x y : Int32} {m1 m2 : Nat → Nat} {k1 k2 : Nat} (h : tempoR mu k v2 v3 x m1 k1) (g : tempoR mu k v2 v3 y m2 k2) : x = y ∧ m1 = m2 ∧ k1 = k2 := by
  rcases h with ⟨s, t, h1, h2, h3, h4, h5, h6⟩ | ⟨h1, h2, h3, h4⟩ <;> rcases g with ⟨s', t', g1, g2, g3, g4, g5, g6⟩ | ⟨g1, g2, g3, g4⟩
  · have e1 := iI_inj (by omega) (by omega) (h4.symm.trans g4)
    have e2 := iI_inj (by omega) (by omega) (h5.symm.trans g5)
    subst e1 e2
    rcases h6 with ⟨a1, a2, a3, a4⟩ | ⟨a0, a1, a2, a3, a4⟩ | ⟨a0, a1, a2, a3, a4⟩ <;> rcases g6 with ⟨b1, b2, b3, b4⟩ | ⟨b0, b1, b2, b3, b4⟩ | ⟨b0, b1, b2, b3, b4⟩ <;> first | exact absurd b0 a1 | exact absurd a0 b1 | omega | exact ⟨a2.trans b2.symm, a3.trans b3.symm, a4.trans b4.symm⟩
  · rw [h4, h5, tI (by omega), tI (by omega)] at g1; omega
  · rw [g4, g5, tI (by omega), tI (by omega)] at h1; omega
  · exact ⟨h2.trans g2.symm, h3.trans g3.symm, h4.trans g4.symm⟩
theorem tempoR_V {mu : Nat → Nat} {k : Nat} {v2 v3 x : Int32} {m1 : Nat → Nat} {k1 : Nat} (hv : tpV mu) (h : tempoR mu k v2 v3 x m1 k1) : tpV m1 := by
  have key : ∀ s t : Nat, s < 300 → t ≤ 9 → tpV (nu mu s t) := by
    intro s t hs ht
    refine ⟨fun y => ?_, fun y hy => ?_⟩
    · by_cases e : y = s
      · rw [e, nu_s]; exact ht
      · rw [nu_n _ _ e]; exact hv.1 y
    · rw [nu_n _ _ (by omega)]; exact hv.2 y hy
  rcases h with ⟨s, t, h1, h2, h3, h4, h5, h6⟩ | ⟨h1, h2, h3, h4⟩
  · rcases h6 with ⟨a1, a2, a3, a4⟩ | ⟨a0, a1, a2, a3, a4⟩ | ⟨a0, a1, a2, a3, a4⟩
    · rw [a3]; exact key s t h1 h3
    · rw [a3]; exact key s t h1 h3
    · rw [a3]; exact hv
  · rw [h3]; exact hv
theorem cl_tempo {R r k : Nat} {mu : Nat → Nat} {rr : Nat → Option Nat} {ad : Nat → Nat} {rc v2 v3 mk : Int32} {Mk : Nat → Int32} (hR : R ≤ 6) (er : rc = iI R) (hr : r < R) (ha : rr r = some (ad 0)) (hv : tpV mu) (h : tpC mu k Mk mk) {post : Int32 → (Nat → Int32) → Int32 → Prop} (kk : ∀ ans mu' k' Mk' mk', tempoR mu k v2 v3 ans mu' k' → tpC mu' k' Mk' mk' → post ans Mk' mk') : wp_X6_tempo_s ad rr rc (iI r) v2 v3 Mk mk post := by
  obtain ⟨c1, c2, c3⟩ := id h
  have kx : (v2.toInt < 0 ∨ 299 < v2.toInt ∨ v3.toInt < 1 ∨ 9 < v3.toInt) → post (-1) Mk mk := fun hq => kk _ _ _ _ _ (Or.inr ⟨hq, rfl, rfl, rfl⟩) h
  unfold wp_X6_tempo_s
  refine sc_rollOf_s R r hR er hr rfl ⟨ha, ?_⟩
  refine sc_isStep (fun s hs e2 => z10 ?_) (fun hq => z00 (kx (by omega)))
  refine sc_within 1 9 (fun y y1 y2 e3 => y10 ?_) (fun hq => y00 (kx (by omega)))
  obtain ⟨t, ht, e3⟩ := iI_nat (by omega) e3
  have hm := hv.1 s
  unfold wp_X4_mark
  refine q_in s ?_ e2
  rw [q_cl s e2, c3 s hs]
  have fin : ∀ (k' : Nat) (mk' : Int32), k' ≤ 10 → mk' = iI k' → tempoR mu k v2 v3 (iI k') (nu mu s t) k' → wl_X4_mark_30 v2 v3 post Mk mk' := by
    intro k' mk' hk' em hT
    unfold wl_X4_mark_30
    refine q_in s ?_ e2
    rintro a1 rfl
    have := kk (iI k') (nu mu s t) k' (upd Mk v2.toNatClampNeg v3) mk' hT ⟨hk', em, fun y hy => ?_⟩
    · rw [← em] at this; exact this
    · rw [q_cl s e2, e3]
      by_cases e : y = s
      · rw [e, pk_us, nu_s]
      · rw [pk_un e, nu_n _ _ e]; exact c3 y hy
  refine q_ne (mu s) 0 (fun hq => ?_) (fun hq => ?_)
  · exact fin k mk c1 c2 (Or.inl ⟨s, t, hs, by omega, by omega, e2, e3, Or.inl ⟨by omega, rfl, rfl, rfl⟩⟩)
  · refine q_lt k 10 (fun hq2 => ?_) (fun hq2 => ?_) c2
    · refine fin (k + 1) (mk + 1) (by omega) (by rw [c2]; simp only [iI_lit, iI_add]; exact iI_c (by omega)) (Or.inl ⟨s, t, hs, by omega, by omega, e2, e3, Or.inr (Or.inl ⟨by omega, by omega, rfl, rfl, rfl⟩)⟩)
    · exact kk _ _ _ _ _ (Or.inl ⟨s, t, hs, by omega, by omega, e2, e3, Or.inr (Or.inr ⟨by omega, by omega, rfl, rfl, rfl⟩)⟩) h
theorem mo_tempo_n {R : Nat} {rolls th v1 v2 v3 : Int32} {ma ms mt : Nat → Int32} (hR : R ≤ 6) (er : rolls = iI R) (hv : v1.toInt < 0 ∨ (R : Int) ≤ v1.toInt) {post : Int32 → Int32 → (Nat → Int32) → (Nat → Int32) → (Nat → Int32) → Prop} (k : post (-1) 0 ma ms mt) : wp_X7_tempo rolls v1 v2 v3 th ma ms mt post := by
  unfold wp_X7_tempo
  exact sp_isRoll R hR er (fun j hj ej => absurd hv (by rw [ej, tI (by omega)]; omega)) (fun _ => z00 k)
/-- rows of marks that differ at one roll alone -/
def frM (r : Nat) (f g : Nat → Int32) : Prop := ∀ x, (x < 10 * r ∨ 10 * r + 10 ≤ x) → g x = f x
def frA (r : Nat) (f g : Nat → Int32) : Prop := ∀ x, x ≠ r → g x = f x
theorem tpM_fr {r r' : Nat} {mu : Nat → Nat} {k : Nat} {ma ms mt ma' ms' mt' : Nat → Int32} (h : tpM r' mu k ma ms mt) (hne : r' ≠ r) (f1 : frA r ma ma') (f2 : frM r ms ms') (f3 : frM r mt mt') : tpM r' mu k ma' ms' mt' := by
  obtain ⟨h1, h2, st, tt, h3, h4⟩ := h
  refine ⟨h1, by rw [f1 _ hne]; exact h2, st, tt, fun i hi => ?_, h4⟩
  rw [f2 _ (by omega), f3 _ (by omega)]
  exact h3 i hi
theorem mo_tempo {R r k : Nat} {mu : Nat → Nat} {rolls th v2 v3 : Int32} {ma ms mt : Nat → Int32} (hR : R ≤ 6) (er : rolls = iI R) (hr : r < R) (hv : tpV mu) (h : tpM r mu k ma ms mt) {post : Int32 → Int32 → (Nat → Int32) → (Nat → Int32) → (Nat → Int32) → Prop} (kk : ∀ ans mu' k' ma' ms' mt', tempoR mu k v2 v3 ans mu' k' → tpM r mu' k' ma' ms' mt' → frA r ma ma' → frM r ms ms' → frM r mt mt' → post ans 0 ma' ms' mt') : wp_X7_tempo rolls (iI r) v2 v3 th ma ms mt post := by
  obtain ⟨c1, c2, st, tt, c3, c4, c5, c6⟩ := id h
  have kx : (v2.toInt < 0 ∨ 299 < v2.toInt ∨ v3.toInt < 1 ∨ 9 < v3.toInt) → post (-1) 0 ma ms mt := fun hq => kk _ _ _ _ _ _ (Or.inr ⟨hq, rfl, rfl, rfl⟩) h (fun _ _ => rfl) (fun _ _ => rfl) (fun _ _ => rfl)
  unfold wp_X7_tempo
  refine sp_isRoll R hR er (fun _ _ _ => z10 ?_) (fun hq => absurd hq (by rw [tI (by omega)]; omega))
  refine sp_within 0 299 (fun y1 a1 a2 e2 => z10 ?_) (fun hq => z00 (kx (by omega)))
  refine sp_within 1 9 (fun y2 b1 b2 e3 => y10 ?_) (fun hq => y00 (kx (by omega)))
  obtain ⟨s, hs, e2⟩ := iI_nat a1 e2
  obtain ⟨t, ht, e3⟩ := iI_nat (by omega) e3
  rintro z4 rfl
  have e0 : 10 * iI (r : Int) = iI ((10 * r + 0 : Nat) : Int) := by
    simp only [iI_lit, iI_mul]
    exact iI_c (by omega)
  have em : ma (iI (r : Int)).toNatClampNeg = iI k := by rw [q_cl r]; exact c2
  -- a mark is written at the place x
  have fin : ∀ (x k' : Nat) (ma' : Nat → Int32), x < k' → k' ≤ 10 → ma' r = iI k' → frA r ma ma' → (k' = k ∧ st x = s ∨ k' = k + 1 ∧ x = k ∧ mu s = 0) → tempoR mu k v2 v3 (iI k') (nu mu s t) k' → wl_X7_tempo_114 rolls (iI r) v2 v3 post (iI ((10 * r + x : Nat) : Int)) 0 ma' ms mt := by
    intro x k' ma' hx hk' hma hfr hcase hT
    unfold wl_X7_tempo_114
    refine q_in (10 * r + x : Nat) ?_
    rintro a7 rfl
    refine q_in (10 * r + x : Nat) ?_
    rintro a8 rfl
    refine q_in r ?_
    rw [q_cl (x := iI ((10 * r + x : Nat) : Int)) (10 * r + x), q_cl (x := iI (r : Int)) r, hma, e2, e3]
    rw [e2, e3] at hT
    have hT2 : tempoR mu k v2 v3 (iI k') (nu mu s t) k' := by rw [e2, e3]; exact hT
    refine kk (iI k') (nu mu s t) k' ma' _ _ hT2 ⟨hk', hma, nu st x s, nu tt x t, fun i hi => ?_, fun i hi => ?_, fun y hy => ?_, fun i j hi hj e => ?_⟩ hfr (fun z hz => pk_un (by omega)) (fun z hz => pk_un (by omega))
    · by_cases e : i = x
      · rw [e, nu_s, nu_s, pk_us, pk_us]
        exact ⟨by omega, by omega, rfl, rfl⟩
      · rw [nu_n _ _ e, nu_n _ _ e, pk_un (by omega), pk_un (by omega)]
        exact c3 i hi
    · by_cases e : i = x
      · rw [e, nu_s, nu_s, nu_s]
        exact ⟨by omega, rfl⟩
      · rw [nu_n _ _ e, nu_n _ _ e]
        have hik : i < k := by omega
        have hne : st i ≠ s := by
          rcases hcase with ⟨q1, q2⟩ | ⟨q1, q2, q3⟩
          · intro e9
            exact e (c6 i x hik (by omega) (by rw [q2]; exact e9))
          · intro e9
            have := c4 i hik
            rw [e9] at this
            omega
        rw [nu_n _ _ hne]
        exact c4 i hik
    · by_cases e : y = s
      · exact ⟨x, hx, by rw [nu_s]; exact e.symm⟩
      · rw [nu_n _ _ e] at hy
        obtain ⟨i, i1, i2⟩ := c5 y hy
        have hne : i ≠ x := by
          intro e9
          rcases hcase with ⟨q1, q2⟩ | ⟨q1, q2, q3⟩
          · rw [e9, q2] at i2; exact e i2.symm
          · omega
        refine ⟨i, by omega, ?_⟩
        rw [nu_n _ _ hne]; exact i2
    · by_cases ei : i = x
      · by_cases ej : j = x
        · rw [ei, ej]
        · rw [ei, nu_s, nu_n _ _ ej] at e
          have hjk : j < k := by omega
          rcases hcase with ⟨q1, q2⟩ | ⟨q1, q2, q3⟩
          · rw [ei]; exact (c6 j x hjk (by omega) (by rw [q2]; exact e.symm)).symm
          · have := c4 j hjk
            rw [← e] at this
            omega
      · by_cases ej : j = x
        · rw [ej, nu_s, nu_n _ _ ei] at e
          have hik : i < k := by omega
          rcases hcase with ⟨q1, q2⟩ | ⟨q1, q2, q3⟩
          · rw [ej]; exact c6 i x hik (by omega) (by rw [q2]; exact e)
          · have := c4 i hik
            rw [e] at this
            omega
        · rw [nu_n _ _ ei, nu_n _ _ ej] at e
          exact c6 i j (by omega) (by omega) e
  have at75 : ∀ (x : Nat), x ≤ k → (x < k → st x = s) → (x = k → mu s = 0) → wl_X7_tempo_75 rolls (iI r) v2 v3 post (iI ((10 * r + x : Nat) : Int)) 0 ma ms mt := by
    intro x hx h1 h2
    unfold wl_X7_tempo_75
    refine q_in r ?_
    rw [em]
    refine q_ne (10 * r + x : Nat) (10 * r + k : Nat) (fun hq => ?_) (fun hq => ?_)
    · have hxk : x < k := by omega
      have hms := c4 x hxk
      rw [h1 hxk] at hms
      exact fin x k ma hxk c1 c2 (fun _ _ => rfl) (Or.inl ⟨rfl, h1 hxk⟩) (Or.inl ⟨s, t, by omega, by omega, by omega, e2, e3, Or.inl ⟨by omega, rfl, rfl, rfl⟩⟩)
    · have hxk : x = k := by omega
      have h0 := h2 hxk
      refine q_in r ?_
      refine q_ne k 10 (fun hq2 => ?_) (fun hq2 => ?_)
      · refine q_in r ?_
        rintro z5 rfl
        refine q_in r ?_
        rintro a6 rfl
        rw [q_cl r]
        refine fin x (k + 1) _ (by omega) (by omega) ?_ ?_ (Or.inr ⟨rfl, hxk, h0⟩) (Or.inl ⟨s, t, by omega, by omega, by omega, e2, e3, Or.inr (Or.inl ⟨h0, by omega, rfl, rfl, rfl⟩)⟩)
        · rw [pk_us]; simp only [iI_lit, iI_add]; exact iI_c (by omega)
        · intro z hz; exact pk_un hz
      · exact kk _ _ _ _ _ _ (Or.inl ⟨s, t, by omega, by omega, by omega, e2, e3, Or.inr (Or.inr ⟨h0, by omega, rfl, rfl, rfl⟩)⟩) h (fun _ _ => rfl) (fun _ _ => rfl) (fun _ _ => rfl)
  have key : ∀ (j x : Nat), x + j = k → (∀ y, y < x → st y ≠ s) → wl_X7_tempo_42 rolls (iI r) v2 v3 post (j + 1) (iI ((10 * r + x : Nat) : Int)) 0 ma ms mt := by
    intro j
    induction j with
    | zero =>
      intro x hx hy
      rw [wl_X7_tempo_42]
      refine q_in r ?_
      rw [em]
      refine q_le (10 * r + k : Nat) (10 * r + x : Nat) (fun _ => at75 x (by omega) (fun h9 => absurd h9 (by omega)) (fun _ => ?_)) (fun hq => absurd hq (by omega))
      rcases Nat.eq_zero_or_pos (mu s) with q | q
      · exact q
      · obtain ⟨i, i1, i2⟩ := c5 s q
        exact absurd i2 (hy i (by omega))
    | succ j ih =>
      intro x hx hy
      rw [wl_X7_tempo_42]
      refine q_in r ?_
      rw [em]
      refine q_le (10 * r + k : Nat) (10 * r + x : Nat) (fun hq => absurd hq (by omega)) (fun _ => ?_)
      obtain ⟨u1, u2, u3, u4⟩ := c3 x (by omega)
      refine q_in (10 * r + x : Nat) ?_
      rw [q_cl (10 * r + x), u3]
      refine q_eq (st x) s (fun hq => at75 x (by omega) (fun _ => by omega) (fun h9 => absurd h9 (by omega))) (fun hq => ?_) rfl e2
      rw [show iI ((10 * r + x : Nat) : Int) + 1 = iI ((10 * r + (x + 1) : Nat) : Int) by simp only [iI_lit, iI_add]; exact iI_c (by omega)]
      refine ih (x + 1) (by omega) (fun y hy1 => ?_)
      rcases Nat.lt_or_ge y x with q | q
      · exact hy y q
      · rw [show y = x by omega]; omega
  rw [e0]
  exact ⟨k + 1, key k 0 (by omega) (fun y hy => absurd hy (by omega))⟩
