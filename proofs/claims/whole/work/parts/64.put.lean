/-! the class's roll: rows by number, in order, and by step, as bits -/
def rcN (nt : Nat → Nat → Nat) (n : Nat) (pp ff : Nat → Nat) (sz : Int32) (P F L : Nat → Int32) : Prop := n ≤ 60 ∧ sz = iI n ∧ (∀ i, i < n → 0 < nt (pp i) (ff i) ∧ P i = iI (pp i) ∧ F i = iI (ff i) ∧ L i = iI (nt (pp i) (ff i))) ∧ (∀ i j, i < j → j < n → lx pp ff i j) ∧ (∀ p f, 0 < nt p f → ∃ i, i < n ∧ pp i = p ∧ ff i = f)
def rcB (nt : Nat → Nat → Nat) (He Pu : Nat → Int32) : Prop := ∀ s, s < 300 → msk (He s) (fun p => nInn nt p s) ∧ msk (Pu s) (fun p => nPun nt p s)
theorem cl_isTooNear {nt : Nat → Nat → Nat} (hv : nV nt) {He Pu : Nat → Int32} (hb : rcB nt He Pu) {p a l : Nat} (hp : p < 24) (h1 : 1 ≤ l) (h2 : l ≤ 60) (h3 : a + l ≤ 300) {post : Int32 → Prop} (k1 : nearN nt p a l → post 1) (k0 : ¬ nearN nt p a l → post 0) : wp_X4_isTooNear He (iI p) (iI a) (iI l) post := by
  unfold wp_X4_isTooNear
  rintro z1 rfl z2 rfl
  have e1 : (if iI (a : Int) - 1 < 0 then (0 : Int32) else iI (a : Int) - 1) = iI ((a - 1 : Nat) : Int) := by
    by_cases q : a = 0
    · subst q; decide
    · rw [show iI (a : Int) - 1 = iI ((a - 1 : Nat) : Int) by simp only [iI_lit, iI_sub]; exact iI_c (by omega), if_neg (by rw [show (0 : Int32) = iI 0 from rfl, iI_lt (by omega) (by omega) (by omega) (by omega)]; omega)]
  have e2 : (if (299 : Int32) < iI (a : Int) + iI (l : Int) then (299 : Int32) else iI (a : Int) + iI (l : Int)) = iI ((if 299 < a + l then 299 else a + l : Nat) : Int) := by
    rw [iI_s, show (299 : Int32) = iI 299 from rfl]
    by_cases q : 299 < a + l
    · rw [if_pos (by rw [iI_lt (by omega) (by omega) (by omega) (by omega)]; omega), if_pos q]; rfl
    · rw [if_neg (by rw [iI_lt (by omega) (by omega) (by omega) (by omega)]; omega), if_neg q]
  rw [e1, e2]
  generalize hE : (if 299 < a + l then 299 else a + l : Nat) = E
  have hE1 : E ≤ a + l ∧ E ≤ 299 ∧ (E = a + l ∨ E = 299) := by
    split at hE <;> omega
  have key : ∀ (j s : Nat), s + j = E + 1 → a - 1 ≤ s → (∀ x, a - 1 ≤ x → x < s → nInn nt p x = false) → wl_X4_isTooNear_24 He (iI p) (iI a) (iI l) post (j + 1) (iI E) (iI s) := by
    intro j
    induction j with
    | zero =>
      intro s hs _ hx
      rw [wl_X4_isTooNear_24]
      refine q_lt E s (fun _ => k0 ?_) (fun hc => absurd hc (by omega))
      rintro ⟨f, f1, f2, f3⟩
      obtain ⟨v1, v2, v4⟩ := hv.1 p f f1
      rcases Nat.lt_or_ge f (a - 1) with q | q
      · have := hx (a - 1) (by omega) (by omega)
        rw [Bool.eq_false_iff] at this
        exact this (nInn_iff.mpr ⟨f, by omega, by omega⟩)
      · have := hx f q (by omega)
        rw [Bool.eq_false_iff] at this
        exact this (nInn_iff.mpr ⟨f, by omega, by omega⟩)
    | succ j ih =>
      intro s hs has hx
      rw [wl_X4_isTooNear_24]
      refine q_lt E s (fun hc => absurd hc (by omega)) (fun _ => ?_)
      refine q_in s ?_
      rw [q_cl s]
      have hm := msk_sh (hb s (by omega)).1 hp
      refine ⟨fun hc => ?_, fun hc => k1 ?_⟩
      · rw [show iI (s : Int) + 1 = iI ((s + 1 : Nat) : Int) by simp only [iI_lit, iI_add]; exact iI_c (by omega)]
        refine ih (s + 1) (by omega) (by omega) (fun x x1 x2 => ?_)
        rcases Nat.lt_or_ge x s with q | q
        · exact hx x x1 q
        · rw [show x = s by omega]; exact hm.mp hc
      · rw [hm, Bool.not_eq_false] at hc
        obtain ⟨f, f1, f2⟩ := nInn_iff.mp hc
        exact ⟨f, by omega, by omega, by omega⟩
  exact ⟨E + 1 - (a - 1) + 1, key (E + 1 - (a - 1)) (a - 1) (by omega) (by omega) (fun x x1 x2 => absurd x2 (by omega))⟩
theorem cl_isBridge {k l : Nat} (hk : k < l) (hl : l ≤ 60) {a : Nat} {post : Int32 → Prop} (k1 : spu a l (a + k) = false → post 1) (k0 : spu a l (a + k) = true → post 0) : wp_X4_isBridge (iI k) (iI l) post := by
  unfold wp_X4_isBridge
  rw [i_rem8 rfl (by omega)]
  refine q_ne (k % 8 : Nat) 7 (fun hc => k0 (decide_eq_true ⟨by omega, by omega, Or.inl (by omega)⟩)) (fun hc => ?_)
  refine q_eq k (l - 1) (fun hc2 => k0 (decide_eq_true ⟨by omega, by omega, Or.inr (by omega)⟩)) (fun hc2 => k1 (decide_eq_false (by omega)))
theorem cl_bears {x : Int32} {g : Nat → Bool} (m : msk x g) {post : Int32 → Prop} (k1 : bearsAt g → post 1) (k0 : ¬ bearsAt g → post 0) : wp_X4_bears x post := by
  unfold wp_X4_bears
  rintro z rfl
  have h4 := msk_four m
  have hct := ct_le g 24
  refine ⟨fun hc => k0 (fun hb => hc (h4.mpr hb.1)), fun hc => ?_⟩
  refine bitCount_ok m ?_
  refine q_lt 10 (ct g 24) (fun hc2 => k0 (fun hb => by have := hb.2; omega)) (fun hc2 => k1 ⟨h4.mp hc, by omega⟩)
theorem cl_isBorne {nt : Nat → Nat → Nat} (hv : nV nt) {He Pu : Nat → Int32} (hb : rcB nt He Pu) {p a l : Nat} (hp : p < 24) (h1 : 1 ≤ l) (h2 : l ≤ 60) (h3 : a + l ≤ 300) (hn : ¬ nearN nt p a l) {post : Int32 → Prop} (k1 : bornN nt p a l → post 1) (k0 : ¬ bornN nt p a l → post 0) : wp_X4_isBorne Pu (iI p) (iI a) (iI l) post := by
  have h0 := near_0 hn
  have ex : ∀ k, k < l → spu a l (a + k) = true → ∀ q, q < 24 → nu (fun q => nPun nt q (a + k)) p true q = nPun (setN nt p a l) q (a + k) := by
    intro k hk hs q hq
    rw [nPun_set h0, hs]
    by_cases e : q = p
    · subst e; rw [nu_s]; simp
    · rw [nu_n _ _ e]; simp [e]
  have ey : ∀ k, k < l → spu a l (a + k) = false → ∀ q, q < 24 → nPun nt q (a + k) = nPun (setN nt p a l) q (a + k) := by
    intro k hk hs q hq
    rw [nPun_set h0, hs]; simp
  unfold wp_X4_isBorne
  have key : ∀ (j k : Nat), k + j = l → (∀ x, x < k → bearsAt (fun q => nPun (setN nt p a l) q (a + x))) → wl_X4_isBorne_3 Pu (iI p) (iI a) (iI l) post (j + 1) (iI k) := by
    intro j
    induction j with
    | zero =>
      intro k hk hx
      rw [wl_X4_isBorne_3]
      refine q_le l k (fun _ => k1 (fun s s1 s2 => ?_)) (fun hc => absurd hc (by omega))
      have := hx (s - a) (by omega)
      rw [show a + (s - a) = s by omega] at this
      exact this
    | succ j ih =>
      intro k hk hx
      have ek : iI (k : Int) + 1 = iI ((k + 1 : Nat) : Int) := by
        simp only [iI_lit, iI_add]
        exact iI_c (by omega)
      have nx : bearsAt (fun q => nPun (setN nt p a l) q (a + k)) → wl_X4_isBorne_3 Pu (iI p) (iI a) (iI l) post (j + 1) (iI ((k + 1 : Nat) : Int)) := fun hq => ih (k + 1) (by omega) (fun x x1 => by
        rcases Nat.lt_or_ge x k with q | q
        · exact hx x q
        · rw [show x = k by omega]; exact hq)
      rw [wl_X4_isBorne_3]
      refine q_le l k (fun hc => absurd hc (by omega)) (fun _ => ?_)
      rw [ek]
      refine cl_isBridge (a := a) (by omega) h2 (fun hs => y10 (nx ?_)) (fun hs => y00 ?_)
      · exact bearsAt_cong (ey k (by omega) hs) (hv.2.2 (a + k) (by omega))
      · refine q_in (a + k : Nat) ?_
        rw [q_cl (a + k)]
        refine cl_bears (msk_cong (ex k (by omega) hs) (msk_or (hb (a + k) (by omega)).2 hp)) (fun hq => y10 (nx hq)) (fun hq => y00 (k0 (fun hall => hq (hall (a + k) (by omega) (by omega)))))
  exact ⟨l + 1, key l 0 (by omega) (fun x hx => absurd hx (by omega))⟩
theorem cl_setNote {i : Nat} (hi : i < 60) {v1 v2 v3 v4 : Int32} (e1 : v1 = iI i) {P F L : Nat → Int32} {post : (Nat → Int32) → (Nat → Int32) → (Nat → Int32) → Prop} (k : post (upd P i v2) (upd F i v3) (upd L i v4)) : wp_X4_setNote v1 v2 v3 v4 P F L post := by
  unfold wp_X4_setNote
  refine q_in i ?_ e1
  rintro a1 rfl
  refine q_in i ?_ e1
  rintro a2 rfl
  refine q_in i ?_ e1
  rintro a3 rfl
  rw [q_cl i e1]
  exact k
theorem cl_comesAhead {nt : Nat → Nat → Nat} (hv : nV nt) {pp ff : Nat → Nat} {i : Nat} (hi : i < 60) {v3 : Int32} (e3 : v3 = iI i) {P F : Nat → Int32} (h0 : 0 < nt (pp i) (ff i)) (hP : P i = iI (pp i)) (hF : F i = iI (ff i)) {p a : Nat} (hp : p < 24) (ha : a < 300) {post : Int32 → Prop} (k1 : (a < ff i ∨ (a = ff i ∧ p < pp i)) → post 1) (k0 : ¬ (a < ff i ∨ (a = ff i ∧ p < pp i)) → post 0) : wp_X4_comesAhead P F (iI p) (iI a) v3 post := by
  have hr := hv.1 _ _ h0
  unfold wp_X4_comesAhead
  refine q_in i ?_ e3
  rw [q_cl i e3, hP, hF]
  refine q_lt a (ff i) (fun hc => k1 (by omega)) (fun hc => ?_)
  refine q_in i ?_ e3
  refine q_ne a (ff i) (fun hc2 => k0 (by omega)) (fun hc2 => ?_)
  refine q_in i ?_ e3
  exact q_le (pp i) p (fun hc3 => k0 (by omega)) (fun hc3 => k1 (by omega))
/-- the rows by step behind a note that is laid -/
theorem cl_put95 {nt : Nat → Nat → Nat} {He Pu P F L : Nat → Int32} {sz : Int32} (hb : rcB nt He Pu) {p a l : Nat} (hp : p < 24) (h2 : l ≤ 60) (h3 : a + l ≤ 300) (h0 : nt p a = 0) {post : (Nat → Int32) → (Nat → Int32) → (Nat → Int32) → Int32 → (Nat → Int32) → (Nat → Int32) → Prop} (k : ∀ He' Pu', rcB (setN nt p a l) He' Pu' → post P F L sz He' Pu') : ∃ n, wl_X4_put_95 (iI p) (iI a) (iI l) post n 0 P F L sz He Pu := by
  have key : ∀ (j t : Nat) (He Pu : Nat → Int32), t + j = l → (∀ s, s < 300 → msk (He s) (fun q => nInn nt q s || decide (q = p ∧ a ≤ s ∧ s < a + t)) ∧ msk (Pu s) (fun q => nPun nt q s || (decide (q = p) && spu a l s && decide (s < a + t)))) → wl_X4_put_95 (iI p) (iI a) (iI l) post (j + 1) (iI t) P F L sz He Pu := by
    intro j
    induction j with
    | zero =>
      intro t He Pu ht hx
      rw [wl_X4_put_95]
      refine q_le l t (fun _ => k He Pu (fun s hs => ?_)) (fun hc => absurd hc (by omega))
      obtain ⟨m1, m2⟩ := hx s hs
      refine ⟨msk_cong (fun q hq => ?_) m1, msk_cong (fun q hq => ?_) m2⟩
      · rw [nInn_set h0, show t = l by omega]
      · rw [nPun_set h0]
        congr 1
        by_cases hq2 : spu a l s = true
        · have := (of_decide_eq_true hq2).2.1
          rw [decide_eq_true (show s < a + t by omega), Bool.and_true]
        · rw [Bool.not_eq_true] at hq2
          rw [hq2]; simp
    | succ j ih =>
      intro t He Pu ht hx
      have ek : iI (t : Int) + 1 = iI ((t + 1 : Nat) : Int) := by
        simp only [iI_lit, iI_add]
        exact iI_c (by omega)
      rw [wl_X4_put_95]
      refine q_le l t (fun hc => absurd hc (by omega)) (fun _ => ?_)
      refine q_in (a + t : Nat) ?_
      rw [q_cl (a + t)]
      rintro z8 rfl
      refine q_in (a + t : Nat) ?_
      rintro a9 rfl
      rw [ek]
      have hHe : ∀ s, s < 300 → msk (upd He (a + t) (He (a + t) ||| 1 <<< (iI (p : Int) &&& 31)) s) (fun q => nInn nt q s || decide (q = p ∧ a ≤ s ∧ s < a + (t + 1))) := by
        intro s hs
        by_cases e : s = a + t
        · subst e
          rw [pk_us]
          refine msk_cong (fun q hq => ?_) (msk_or (hx (a + t) hs).1 hp)
          by_cases e2 : q = p
          · subst e2; rw [nu_s]; simp
          · rw [nu_n _ _ e2]; simp [e2]
        · rw [pk_un e]
          refine msk_cong (fun q hq => ?_) (hx s hs).1
          congr 1
          rw [decide_eq_decide]
          omega
      refine cl_isBridge (a := a) (by omega) h2 (fun hs => y10 ?_) (fun hs => y00 ?_)
      · refine ih (t + 1) _ _ (by omega) (fun s hs2 => ⟨hHe s hs2, msk_cong (fun q hq => ?_) (hx s hs2).2⟩)
        congr 1
        by_cases e : s = a + t
        · subst e; rw [hs]; simp
        · congr 1
          rw [decide_eq_decide]
          omega
      · refine q_in (a + t : Nat) ?_
        rintro z11 rfl
        refine q_in (a + t : Nat) ?_
        rintro a12 rfl
        refine ih (t + 1) _ _ (by omega) (fun s hs2 => ⟨hHe s hs2, ?_⟩)
        by_cases e : s = a + t
        · subst e
          rw [pk_us]
          refine msk_cong (fun q hq => ?_) (msk_or (hx (a + t) hs2).2 hp)
          by_cases e2 : q = p
          · subst e2; rw [nu_s, hs]; simp
          · rw [nu_n _ _ e2]; simp [e2]
        · rw [pk_un e]
          refine msk_cong (fun q hq => ?_) (hx s hs2).2
          congr 2
          rw [decide_eq_decide]
          omega
  refine ⟨l + 1, key l 0 He Pu (by omega) (fun s hs => ?_)⟩
  obtain ⟨m1, m2⟩ := hb s hs
  refine ⟨msk_cong (fun q hq => ?_) m1, msk_cong (fun q hq => ?_) m2⟩
  · rw [decide_eq_false (by omega), Bool.or_false]
  · by_cases hq2 : spu a l s = true
    · have := (of_decide_eq_true hq2).1
      rw [decide_eq_false (show ¬ s < a + 0 by omega)]; simp
    · rw [Bool.not_eq_true] at hq2
      rw [hq2]; simp
