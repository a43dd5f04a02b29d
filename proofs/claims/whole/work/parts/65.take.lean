theorem cl_put {nt : Nat → Nat → Nat} {n : Nat} {pp ff : Nat → Nat} {sz : Int32} {P F L He Pu : Nat → Int32} (hv : nV nt) (hc : rcN nt n pp ff sz P F L) (hb : rcB nt He Pu) (hn : n < 60) {p a l : Nat} (hp : p < 24) (h1 : 1 ≤ l) (h2 : l ≤ 60) (h3 : a + l ≤ 300) (h0 : nt p a = 0) {post : (Nat → Int32) → (Nat → Int32) → (Nat → Int32) → Int32 → (Nat → Int32) → (Nat → Int32) → Prop} (k : ∀ pp' ff' P' F' L' sz' He' Pu', rcN (setN nt p a l) (n + 1) pp' ff' sz' P' F' L' → rcB (setN nt p a l) He' Pu' → post P' F' L' sz' He' Pu') : wp_X4_put (iI p) (iI a) (iI l) P F L sz He Pu post := by
  obtain ⟨c1, c2, c3, c4, c5⟩ := hc
  have ne : ∀ i, i < n → ¬ (pp i = p ∧ ff i = a) := by
    rintro i hi ⟨e1, e2⟩
    have := (c3 i hi).1
    rw [e1, e2, h0] at this
    omega
  unfold wp_X4_put
  refine q_lt n 60 (fun _ => ?_) (fun hq => absurd hq (by omega)) c2
  have fin : ∀ (t : Nat) (P F L : Nat → Int32), t ≤ n → (∀ x, x < t → P x = iI (pp x) ∧ F x = iI (ff x) ∧ L x = iI (nt (pp x) (ff x))) → (∀ x, t ≤ x → x < n → (P (x + 1) = iI (pp x) ∧ F (x + 1) = iI (ff x) ∧ L (x + 1) = iI (nt (pp x) (ff x))) ∧ (a < ff x ∨ (a = ff x ∧ p < pp x))) → (∀ x, x < t → (ff x < a ∨ (ff x = a ∧ pp x < p))) → wl_X4_put_73 (iI p) (iI a) (iI l) post (iI t) P F L sz He Pu := by
    intro t P F L ht g1 g2 g3
    unfold wl_X4_put_73
    refine cl_setNote (i := t) (by omega) rfl ?_
    refine cl_put95 hb hp h2 h3 h0 (fun He' Pu' hb' => ?_)
    refine k (fun x => if x < t then pp x else if x = t then p else pp (x - 1)) (fun x => if x < t then ff x else if x = t then a else ff (x - 1)) _ _ _ _ _ _ ⟨by omega, by rw [c2]; simp only [iI_lit, iI_add]; exact iI_c (by omega), fun i hi => ?_, fun i j hij hj => ?_, fun q f hq => ?_⟩ hb'
    · dsimp only
      by_cases q1 : i < t
      · simp only [if_pos q1]
        rw [setN_n _ _ (ne i (by omega)), pk_un (by omega), pk_un (by omega), pk_un (by omega)]
        obtain ⟨w1, w2, w3⟩ := g1 i q1
        exact ⟨(c3 i (by omega)).1, w1, w2, w3⟩
      · by_cases q2 : i = t
        · simp only [if_neg q1, if_pos q2]
          rw [setN_s, q2, pk_us, pk_us, pk_us]
          exact ⟨by omega, rfl, rfl, rfl⟩
        · simp only [if_neg q1, if_neg q2]
          rw [setN_n _ _ (ne (i - 1) (by omega)), pk_un (by omega), pk_un (by omega), pk_un (by omega)]
          obtain ⟨⟨w1, w2, w3⟩, -⟩ := g2 (i - 1) (by omega) (by omega)
          rw [show i - 1 + 1 = i by omega] at w1 w2 w3
          exact ⟨(c3 (i - 1) (by omega)).1, w1, w2, w3⟩
    · unfold lx
      dsimp only
      by_cases q1 : i < t
      · simp only [if_pos q1]
        by_cases q2 : j < t
        · simp only [if_pos q2]; exact c4 i j hij (by omega)
        · by_cases q3 : j = t
          · simp only [if_neg q2, if_pos q3]; exact g3 i q1
          · simp only [if_neg q2, if_neg q3]; exact c4 i (j - 1) (by omega) (by omega)
      · simp only [if_neg q1, if_neg (by omega : ¬ j < t), if_neg (by omega : ¬ j = t)]
        by_cases q2 : i = t
        · simp only [if_pos q2]; exact (g2 (j - 1) (by omega) (by omega)).2
        · simp only [if_neg q2]; exact c4 (i - 1) (j - 1) (by omega) (by omega)
    · dsimp only
      by_cases e : q = p ∧ f = a
      · refine ⟨t, by omega, ?_, ?_⟩
        · simp only [if_neg (Nat.lt_irrefl t), if_true]; exact e.1.symm
        · simp only [if_neg (Nat.lt_irrefl t), if_true]; exact e.2.symm
      · rw [setN_n _ _ e] at hq
        obtain ⟨x, hx1, hx2, hx3⟩ := c5 q f hq
        by_cases q2 : x < t
        · exact ⟨x, by omega, by simp only [if_pos q2]; exact hx2, by simp only [if_pos q2]; exact hx3⟩
        · exact ⟨x + 1, by omega, by simp only [if_neg (by omega : ¬ x + 1 < t), if_neg (by omega : ¬ x + 1 = t)]; exact hx2, by simp only [if_neg (by omega : ¬ x + 1 < t), if_neg (by omega : ¬ x + 1 = t)]; exact hx3⟩
  have key : ∀ (t : Nat) (P F L : Nat → Int32), t ≤ n → (∀ x, x < t → P x = iI (pp x) ∧ F x = iI (ff x) ∧ L x = iI (nt (pp x) (ff x))) → (∀ x, t ≤ x → x < n → (P (x + 1) = iI (pp x) ∧ F (x + 1) = iI (ff x) ∧ L (x + 1) = iI (nt (pp x) (ff x))) ∧ (a < ff x ∨ (a = ff x ∧ p < pp x))) → wl_X4_put_16 (iI p) (iI a) (iI l) post (t + 1) (iI t) P F L sz He Pu := by
    intro t
    induction t with
    | zero =>
      intro P F L ht g1 g2
      rw [wl_X4_put_16]
      exact q_le 0 0 (fun _ => fin 0 P F L ht g1 g2 (fun x hx => absurd hx (by omega))) (fun hq => absurd hq (by omega))
    | succ t ih =>
      intro P F L ht g1 g2
      obtain ⟨w1, w2, w3⟩ := g1 t (by omega)
      have hpos := (c3 t (by omega)).1
      rw [wl_X4_put_16]
      refine q_le (t + 1 : Nat) 0 (fun hq => absurd hq (by omega)) (fun _ => ?_)
      have et : iI ((t + 1 : Nat) : Int) - 1 = iI t := by
        simp only [iI_lit, iI_sub]
        exact iI_c (by omega)
      rw [et, show iI ((t + 1 : Nat) : Int) + (-1) = iI t by simp only [iI_lit, iI_neg, iI_add]; exact iI_c (by omega)]
      refine cl_comesAhead hv (i := t) (by omega) rfl hpos w1 w2 hp (by omega) (fun hq => z10 ?_) (fun hq => z00 ?_)
      · refine q_in t ?_
        refine q_in t ?_
        refine q_in t ?_
        rw [q_cl t]
        refine cl_setNote (i := t + 1) (by omega) rfl ?_
        refine ih _ _ _ (by omega) (fun x hx => ?_) (fun x hx1 hx2 => ?_)
        · rw [pk_un (by omega), pk_un (by omega), pk_un (by omega)]; exact g1 x (by omega)
        · by_cases e : x = t
          · rw [e, pk_us, pk_us, pk_us]; exact ⟨⟨w1, w2, w3⟩, hq⟩
          · rw [pk_un (by omega), pk_un (by omega), pk_un (by omega)]; exact g2 x (by omega) hx2
      · refine fin (t + 1) P F L ht g1 g2 (fun x hx => ?_)
        have hlt : ff t < a ∨ (ff t = a ∧ pp t < p) := by
          have := ne t (by omega)
          omega
        rcases Nat.lt_or_ge x t with q | q
        · have := c4 x t q (by omega)
          unfold lx at this
          omega
        · rw [show x = t by omega]; exact hlt
  refine ⟨n + 1, ?_⟩
  have := key n P F L (Nat.le_refl n) (fun x hx => (c3 x hx).2) (fun x hx1 hx2 => absurd hx2 (by omega))
  rw [← c2] at this
  exact this
/-- laying a note, if it may be -/
theorem cl_putIfAllowed {nt : Nat → Nat → Nat} {n : Nat} {pp ff : Nat → Nat} {sz : Int32} {P F L He Pu : Nat → Int32} (hv : nV nt) (hc : rcN nt n pp ff sz P F L) (hb : rcB nt He Pu) (hn : n < 60) {p a l : Nat} (hp : p < 24) (h1 : 1 ≤ l) (h2 : l ≤ 60) (h3 : a + l ≤ 300) {post : Int32 → (Nat → Int32) → (Nat → Int32) → (Nat → Int32) → Int32 → (Nat → Int32) → (Nat → Int32) → Prop} (kn : nearN nt p a l → post (-2) P F L sz He Pu) (kb : ¬ nearN nt p a l → ¬ bornN nt p a l → post (-3) P F L sz He Pu) (ky : ∀ pp' ff' P' F' L' sz' He' Pu', ¬ nearN nt p a l → bornN nt p a l → rcN (setN nt p a l) (n + 1) pp' ff' sz' P' F' L' → rcB (setN nt p a l) He' Pu' → post 1 P' F' L' sz' He' Pu') : wp_X4_putIfAllowed (iI p) (iI a) (iI l) P F L sz He Pu post := by
  unfold wp_X4_putIfAllowed
  refine cl_isTooNear hv hb hp h1 h2 h3 (fun hq => z10 (kn hq)) (fun hq => z00 ?_)
  refine cl_isBorne hv hb hp h1 h2 h3 hq (fun hq2 => y10 ?_) (fun hq2 => y00 (kb hq hq2))
  exact cl_put hv hc hb hn hp h1 h2 h3 (near_0 hq) (fun pp' ff' P' F' L' sz' He' Pu' g1 g2 => ky pp' ff' P' F' L' sz' He' Pu' hq hq2 g1 g2)
theorem cl_noteWith {nt : Nat → Nat → Nat} {n : Nat} {pp ff : Nat → Nat} {sz : Int32} {P F L : Nat → Int32} (hv : nV nt) (hc : rcN nt n pp ff sz P F L) {p s : Nat} (hp : p < 24) (hs : s < 300) {post : Int32 → Prop} (k1 : ∀ i, i < n → pp i = p → ff i ≤ s → s < ff i + nt p (ff i) → post (iI i)) (k0 : nInn nt p s = false → post (-1)) : wp_X4_noteWith P F L sz (iI p) (iI s) post := by
  obtain ⟨c1, c2, c3, c4, c5⟩ := hc
  unfold wp_X4_noteWith
  have key : ∀ (j i : Nat), i + j = n → (∀ x, x < i → pp x = p → ¬ (ff x ≤ s ∧ s < ff x + nt p (ff x))) → wl_X4_noteWith_2 P F L sz (iI p) (iI s) post (j + 1) (iI i) := by
    intro j
    induction j with
    | zero =>
      intro i hi hx
      rw [wl_X4_noteWith_2]
      refine q_le n i (fun _ => k0 ?_) (fun hq => absurd hq (by omega)) c2
      rw [Bool.eq_false_iff]
      intro hq
      obtain ⟨f, f1, f2⟩ := nInn_iff.mp hq
      obtain ⟨x, x1, x2, x3⟩ := c5 p f (by omega)
      exact hx x (by omega) x2 (by rw [x3]; exact ⟨f1, f2⟩)
    | succ j ih =>
      intro i hi hx
      obtain ⟨w0, w1, w2, w3⟩ := c3 i (by omega)
      have hr := hv.1 _ _ w0
      have ek : iI (i : Int) + 1 = iI ((i + 1 : Nat) : Int) := by
        simp only [iI_lit, iI_add]
        exact iI_c (by omega)
      have nx : (pp i = p → ¬ (ff i ≤ s ∧ s < ff i + nt p (ff i))) → wl_X4_noteWith_2 P F L sz (iI p) (iI s) post (j + 1) (iI ((i + 1 : Nat) : Int)) := fun hq => ih (i + 1) (by omega) (fun x hx1 => by
        rcases Nat.lt_or_ge x i with q | q
        · exact hx x q
        · rw [show x = i by omega]; exact hq)
      rw [wl_X4_noteWith_2]
      refine q_le n i (fun hq => absurd hq (by omega)) (fun _ => ?_) c2
      refine q_in i ?_
      rw [q_cl i, w1, w2, w3, ek]
      refine q_ne (pp i) p (fun hq => nx (fun e => absurd e (by omega))) (fun hq => ?_)
      have ep : pp i = p := by omega
      rw [ep] at hr ⊢
      refine q_in i ?_
      refine q_in i ?_
      refine sc_within 0 (nt p (ff i) - 1) (fun z z1 z2 ez => z10 ?_) (fun hz => z00 (nx (fun _ => ?_)))
      · have : (s : Int) - ff i = z := by
          rw [iI_sub, iI_eq (by omega) (by omega) (by omega) (by omega)] at ez
          exact ez
        exact k1 i (by omega) ep (by omega) (by omega)
      · rw [iI_sub, iI_toInt (by omega) (by omega)] at hz
        omega
  exact ⟨n + 1, key n 0 (by omega) (fun x hx => absurd hx (by omega))⟩
/-- the rows by step behind a note that is taken off -/
theorem cl_take101 {nt : Nat → Nat → Nat} {He Pu P F L : Nat → Int32} {sz v1 v2 : Int32} (hv : nV nt) (hb : rcB nt He Pu) {p a : Nat} (h0 : 0 < nt p a) {z : Int32} (hz : z = (1 <<< (iI p &&& 31)) ^^^ (-1)) {post : Int32 → (Nat → Int32) → (Nat → Int32) → (Nat → Int32) → Int32 → (Nat → Int32) → (Nat → Int32) → Prop} (k : ∀ He' Pu', rcB (setN nt p a 0) He' Pu' → post (iI (nt p a)) P F L sz He' Pu') : ∃ n, wl_X4_take_101 v1 v2 post n (iI a) (iI (nt p a)) z 0 P F L sz He Pu := by
  obtain ⟨hp, h2, h3⟩ := hv.1 p a h0
  have hn := near_clr hv h0
  have hq0 : setN nt p a 0 p a = 0 := setN_s _ _ _ _
  generalize hl : nt p a = l at *
  have hback : setN (setN nt p a 0) p a l = nt := setN_back hl 0
  generalize hm : setN nt p a 0 = nm at *
  have ein : ∀ q s, nInn nt q s = (nInn nm q s || decide (q = p ∧ a ≤ s ∧ s < a + l)) := fun q s => by rw [← hback, nInn_set hq0]
  have epu : ∀ q s, nPun nt q s = (nPun nm q s || (decide (q = p) && spu a l s)) := fun q s => by rw [← hback, nPun_set hq0]
  have key : ∀ (j t : Nat) (He Pu : Nat → Int32), t + j = l → (∀ s, s < 300 → (if a ≤ s ∧ s < a + t then msk (He s) (fun q => nInn nm q s) ∧ msk (Pu s) (fun q => nPun nm q s) else msk (He s) (fun q => nInn nt q s) ∧ msk (Pu s) (fun q => nPun nt q s))) → wl_X4_take_101 v1 v2 post (j + 1) (iI a) (iI l) z (iI t) P F L sz He Pu := by
    intro j
    induction j with
    | zero =>
      intro t He Pu ht hx
      rw [wl_X4_take_101]
      refine q_le l t (fun _ => k He Pu (fun s hs => ?_)) (fun hc => absurd hc (by omega))
      have := hx s hs
      by_cases e : a ≤ s ∧ s < a + t
      · rw [if_pos e] at this; exact this
      · rw [if_neg e] at this
        refine ⟨msk_cong (fun q hq => ?_) this.1, msk_cong (fun q hq => ?_) this.2⟩
        · rw [ein, decide_eq_false (by omega), Bool.or_false]
        · rw [epu, show spu a l s = false from decide_eq_false (by omega)]; simp
    | succ j ih =>
      intro t He Pu ht hx
      have ek : iI (t : Int) + 1 = iI ((t + 1 : Nat) : Int) := by
        simp only [iI_lit, iI_add]
        exact iI_c (by omega)
      rw [wl_X4_take_101]
      refine q_le l t (fun hc => absurd hc (by omega)) (fun _ => ?_)
      refine q_in (a + t : Nat) ?_
      rw [q_cl (a + t)]
      rintro z8 rfl
      refine q_in (a + t : Nat) ?_
      rintro a9 rfl
      refine q_in (a + t : Nat) ?_
      rintro z10 rfl
      refine q_in (a + t : Nat) ?_
      rintro a11 rfl
      rw [ek]
      refine ih (t + 1) _ _ (by omega) (fun s hs => ?_)
      by_cases e : s = a + t
      · subst e
        rw [if_pos (by omega), pk_us, pk_us, hz]
        have := hx (a + t) hs
        rw [if_neg (by omega)] at this
        refine ⟨msk_cong (fun q hq => ?_) (msk_clr this.1 hp), msk_cong (fun q hq => ?_) (msk_clr this.2 hp)⟩
        · by_cases e2 : q = p
          · subst e2; rw [nu_s, near_inn hn (by omega) (by omega)]
          · rw [nu_n _ _ e2, ein]; simp [e2]
        · by_cases e2 : q = p
          · subst e2; rw [nu_s, near_pun hn (by omega) (by omega)]
          · rw [nu_n _ _ e2, epu]; simp [e2]
      · rw [pk_un e, pk_un e]
        have := hx s hs
        by_cases e2 : a ≤ s ∧ s < a + t
        · rw [if_pos e2] at this
          rw [if_pos (by omega)]; exact this
        · rw [if_neg e2] at this
          rw [if_neg (by omega)]; exact this
  refine ⟨l + 1, key l 0 He Pu (by omega) (fun s hs => ?_)⟩
  rw [if_neg (by omega)]
  exact hb s hs
theorem cl_take {nt : Nat → Nat → Nat} {n : Nat} {pp ff : Nat → Nat} {sz : Int32} {P F L He Pu : Nat → Int32} (hv : nV nt) (hc : rcN nt n pp ff sz P F L) (hb : rcB nt He Pu) {p s : Nat} (hp : p < 24) (hs : s < 300) {post : Int32 → (Nat → Int32) → (Nat → Int32) → (Nat → Int32) → Int32 → (Nat → Int32) → (Nat → Int32) → Prop} (k0 : nInn nt p s = false → post (-1) P F L sz He Pu) (k1 : ∀ a pp' ff' P' F' L' sz' He' Pu', 1 ≤ n → 0 < nt p a → a ≤ s → s < a + nt p a → rcN (setN nt p a 0) (n - 1) pp' ff' sz' P' F' L' → rcB (setN nt p a 0) He' Pu' → post (iI (nt p a)) P' F' L' sz' He' Pu') : wp_X4_take (iI p) (iI s) P F L sz He Pu post := by
  unfold wp_X4_take
  refine cl_noteWith hv hc hp hs (fun i hi ep f1 f2 => ?_) (fun hq => ⟨fun h9 => absurd rfl h9, fun _ => k0 hq⟩)
  obtain ⟨c1, c2, c3, c4, c5⟩ := hc
  obtain ⟨w0, w1, w2, w3⟩ := c3 i hi
  refine ⟨fun _ => ?_, fun h9 => absurd h9 (oE_ne (by omega))⟩
  refine q_in i ?_
  rw [q_cl i, w2, w3]
  rintro z2 rfl
  refine q_in i ?_
  rintro z3 rfl
  rw [ep] at w0 ⊢
  have er : sz - 1 = iI ((n - 1 : Nat) : Int) := by
    rw [c2]
    simp only [iI_lit, iI_sub]
    exact iI_c (by omega)
  rw [er]
  have neq : ∀ x, x < n → x ≠ i → ¬ (pp x = p ∧ ff x = ff i) := by
    rintro x hx hne ⟨e1, e2⟩
    rcases Nat.lt_or_ge x i with q | q
    · have := c4 x i q hi
      unfold lx at this
      rw [ep] at this
      omega
    · have := c4 i x (by omega) hx
      unfold lx at this
      rw [ep] at this
      omega
  have key : ∀ (j t : Nat) (P F L : Nat → Int32), t + j = n - 1 → i ≤ t → (∀ x, x < n → (if x < i then (P x = iI (pp x) ∧ F x = iI (ff x) ∧ L x = iI (nt (pp x) (ff x))) else if x < t then (P x = iI (pp (x + 1)) ∧ F x = iI (ff (x + 1)) ∧ L x = iI (nt (pp (x + 1)) (ff (x + 1)))) else (x ≠ t → (P x = iI (pp x) ∧ F x = iI (ff x) ∧ L x = iI (nt (pp x) (ff x)))))) → wl_X4_take_43 (iI p) (iI s) post (j + 1) (iI (ff i)) (iI (nt p (ff i))) (iI t) P F L (iI ((n - 1 : Nat) : Int)) He Pu := by
    intro j
    induction j with
    | zero =>
      intro t P F L ht hit hx
      rw [wl_X4_take_43]
      refine q_le (n - 1 : Nat) t (fun _ => ?_) (fun hq => absurd hq (by omega))
      rintro z4 rfl
      refine cl_take101 hv hb w0 rfl (fun He' Pu' hb' => ?_)
      refine k1 (ff i) (fun x => if x < i then pp x else pp (x + 1)) (fun x => if x < i then ff x else ff (x + 1)) P F L _ He' Pu' (by omega) w0 f1 f2 ⟨by omega, rfl, fun x hx1 => ?_, fun x y hxy hy => ?_, fun q f hq => ?_⟩ hb'
      · have := hx x (by omega)
        by_cases q : x < i
        · simp only [if_pos q] at this ⊢
          rw [setN_n _ _ (neq x (by omega) (by omega))]
          exact ⟨(c3 x (by omega)).1, this⟩
        · simp only [if_neg q, if_pos (show x < t by omega)] at this ⊢
          rw [setN_n _ _ (neq (x + 1) (by omega) (by omega))]
          exact ⟨(c3 (x + 1) (by omega)).1, this⟩
      · unfold lx
        by_cases q : x < i
        · by_cases q2 : y < i
          · simp only [if_pos q, if_pos q2]; exact c4 x y hxy (by omega)
          · simp only [if_pos q, if_neg q2]; exact c4 x (y + 1) (by omega) (by omega)
        · simp only [if_neg q, if_neg (by omega : ¬ y < i)]; exact c4 (x + 1) (y + 1) (by omega) (by omega)
      · by_cases e : q = p ∧ f = ff i
        · rw [e.1, e.2, setN_s] at hq; omega
        · rw [setN_n _ _ e] at hq
          obtain ⟨x, x1, x2, x3⟩ := c5 q f hq
          have hne : x ≠ i := by
            intro e9
            rw [e9] at x2 x3
            exact e ⟨by rw [← x2, ep], x3.symm⟩
          rcases Nat.lt_or_ge x i with q9 | q9
          · exact ⟨x, by omega, by simp only [if_pos q9]; exact x2, by simp only [if_pos q9]; exact x3⟩
          · refine ⟨x - 1, by omega, ?_, ?_⟩
            · simp only [if_neg (by omega : ¬ x - 1 < i)]; rw [show x - 1 + 1 = x by omega]; exact x2
            · simp only [if_neg (by omega : ¬ x - 1 < i)]; rw [show x - 1 + 1 = x by omega]; exact x3
    | succ j ih =>
      intro t P F L ht hit hx
      have et : iI (t : Int) + 1 = iI ((t + 1 : Nat) : Int) := by
        simp only [iI_lit, iI_add]
        exact iI_c (by omega)
      have h9 := hx (t + 1) (by omega)
      rw [if_neg (by omega), if_neg (by omega)] at h9
      obtain ⟨u1, u2, u3⟩ := h9 (by omega)
      rw [wl_X4_take_43]
      refine q_le (n - 1 : Nat) t (fun hq => absurd hq (by omega)) (fun _ => ?_)
      rw [et]
      refine q_in (t + 1 : Nat) ?_
      refine q_in (t + 1 : Nat) ?_
      refine q_in (t + 1 : Nat) ?_
      rw [q_cl (t + 1)]
      refine cl_setNote (i := t) (by omega) rfl ?_
      refine ih (t + 1) _ _ _ (by omega) (by omega) (fun x hx1 => ?_)
      have hxx := hx x hx1
      by_cases q : x < i
      · rw [if_pos q] at hxx ⊢
        rw [pk_un (by omega), pk_un (by omega), pk_un (by omega)]; exact hxx
      · rw [if_neg q] at hxx ⊢
        by_cases q2 : x = t
        · rw [if_pos (by omega), q2, pk_us, pk_us, pk_us]; exact ⟨u1, u2, u3⟩
        · rw [pk_un q2, pk_un q2, pk_un q2]
          by_cases q3 : x < t
          · rw [if_pos q3] at hxx
            rw [if_pos (by omega)]; exact hxx
          · rw [if_neg q3] at hxx
            rw [if_neg (by omega)]
            exact fun _ => hxx q2
  refine ⟨n - 1 - i + 1, key (n - 1 - i) i P F L (by omega) (Nat.le_refl i) (fun x hx1 => ?_)⟩
  by_cases q : x < i
  · rw [if_pos q]; exact (c3 x hx1).2
  · rw [if_neg q, if_neg q]; exact fun _ => (c3 x hx1).2
