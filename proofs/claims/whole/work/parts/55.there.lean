/-! counting -/
def ct (p : Nat → Bool) : Nat → Nat
  | 0 => 0
  | n + 1 => ct p n + (if p n then 1 else 0)
theorem ct_le (p : Nat → Bool) : ∀ n, ct p n ≤ n
  | 0 => Nat.le_refl _
  | n + 1 => by
    have := ct_le p n
    rw [ct]
    split <;> omega
theorem ct_cong {p q : Nat → Bool} : ∀ {n : Nat}, (∀ k, k < n → p k = q k) → ct p n = ct q n
  | 0, _ => rfl
  | n + 1, h => by rw [ct, ct, ct_cong (fun k hk => h k (by omega)), h n (by omega)]
theorem ct_upd (p : Nat → Bool) (b : Bool) {i : Nat} : ∀ {n : Nat}, i < n → ct (nu p i b) n + (if p i then 1 else 0) = ct p n + (if b then 1 else 0)
  | 0, h => absurd h (Nat.not_lt_zero i)
  | n + 1, h => by
    rw [ct, ct]
    by_cases e : i = n
    · subst e
      rw [nu_s, ct_cong (p := nu p i b) (q := p) (fun k hk => nu_n _ _ (by omega))]
      omega
    · have := ct_upd p b (i := i) (n := n) (by omega)
      rw [nu_n _ _ (fun h => e h.symm)]
      omega
theorem ct_out (p : Nat → Bool) (b : Bool) {i n : Nat} (h : n ≤ i) : ct (nu p i b) n = ct p n := ct_cong (fun k hk => nu_n _ _ (by omega))
theorem ct_inj {N : Nat} (f : Nat → Nat) (A : Nat → Bool) : ∀ (n : Nat) (B : Nat → Bool), (∀ i, i < n → A i = true → f i < N ∧ B (f i) = true) → (∀ i j, i < n → j < n → A i = true → A j = true → f i = f j → i = j) → ct A n ≤ ct B N
  | 0, B, _, _ => Nat.zero_le _
  | n + 1, B, h1, h2 => by
    rw [ct]
    by_cases hA : A n = true
    · obtain ⟨k1, k2⟩ := h1 n (by omega) hA
      have u := ct_upd B false (i := f n) (n := N) k1
      rw [k2] at u
      have ih := ct_inj f A n (nu B (f n) false) (fun i hi ha => by
        obtain ⟨m1, m2⟩ := h1 i (by omega) ha
        refine ⟨m1, ?_⟩
        rw [nu_n _ _ (fun e => by have := h2 i n (by omega) (by omega) ha hA e; omega)]
        exact m2) (fun i j hi hj => h2 i j (by omega) (by omega))
      rw [if_pos hA]
      simp at u
      omega
    · rw [if_neg hA]
      exact ct_inj f A n B (fun i hi => h1 i (by omega)) (fun i j hi hj => h2 i j (by omega) (by omega))
/-- how many copies were in a place: by the lines that tell it; by the first lines of each copy -/
def thC (C D P T : Nat → Nat) (pl dy kn n : Nat) (i : Nat) : Bool := decide (bst C D T (C i) dy kn n = some i ∧ P i = pl)
def thM (C D P T : Nat → Nat) (pl dy kn n : Nat) (i : Nat) : Bool := decide ((∀ j, j < i → C j ≠ C i) ∧ whA P (bst C D T (C i) dy kn n) = iI pl)
theorem th_eq {C D P T : Nat → Nat} {pl dy kn n : Nat} (hP : ∀ i, i < n → P i < 100) (h1 : 1 ≤ pl) (h2 : pl < 100) : ct (thC C D P T pl dy kn n) n = ct (thM C D P T pl dy kn n) n := by
  have wh : ∀ c, whA P (bst C D T c dy kn n) = iI pl → ∃ b, bst C D T c dy kn n = some b ∧ P b = pl := by
    intro c hc
    cases hb : bst C D T c dy kn n with
    | none =>
      rw [hb] at hc
      have hc : iI 0 = iI (pl : Int) := hc
      rw [iI_eq (by omega) (by omega) (by omega) (by omega)] at hc
      omega
    | some b =>
      rw [hb] at hc
      have hc : iI (P b : Int) = iI (pl : Int) := hc
      have hl := hP b (bst_lt hb).1
      rw [iI_eq (by omega) (by omega) (by omega) (by omega)] at hc
      exact ⟨b, rfl, by omega⟩
  have ff : ∀ i, ∃ j, j ≤ i ∧ C j = C i ∧ ∀ l, l < j → C l ≠ C i := by
    intro i
    obtain ⟨j, hj1, hj2⟩ := pk_least (fun j => C j = C i) ⟨i, rfl⟩
    refine ⟨j, ?_, hj1, hj2⟩
    rcases Nat.lt_or_ge i j with q | q
    · exact absurd rfl (hj2 i q)
    · exact q
  obtain ⟨f, hf⟩ := Classical.axiomOfChoice ff
  refine Nat.le_antisymm ?_ ?_
  · refine ct_inj f _ n _ (fun i hi ha => ?_) (fun i j hi hj ha hb he => ?_)
    · obtain ⟨q1, q2⟩ := of_decide_eq_true ha
      obtain ⟨m1, m2, m3⟩ := hf i
      refine ⟨by omega, decide_eq_true ⟨fun l hl => by rw [m2]; exact m3 l hl, ?_⟩⟩
      rw [m2, q1]
      show iI (P i : Int) = _
      rw [q2]
    · obtain ⟨q1, q2⟩ := of_decide_eq_true ha
      obtain ⟨q3, q4⟩ := of_decide_eq_true hb
      obtain ⟨m1, m2, m3⟩ := hf i
      obtain ⟨m4, m5, m6⟩ := hf j
      have e : C i = C j := by rw [← m2, ← m5, he]
      rw [e, q3] at q1
      cases q1
      rfl
  · refine ct_inj (fun i => (bst C D T (C i) dy kn n).getD 0) _ n _ (fun i hi ha => ?_) (fun i j hi hj ha hb he => ?_)
    · obtain ⟨q1, q2⟩ := of_decide_eq_true ha
      obtain ⟨b, hb, hp⟩ := wh _ q2
      obtain ⟨l1, l2⟩ := bst_lt hb
      simp only [hb, Option.getD_some]
      exact ⟨l1, decide_eq_true ⟨by rw [l2]; exact hb, hp⟩⟩
    · obtain ⟨q1, q2⟩ := of_decide_eq_true ha
      obtain ⟨q3, q4⟩ := of_decide_eq_true hb
      obtain ⟨b, hb1, -⟩ := wh _ q2
      obtain ⟨b2, hb2, -⟩ := wh _ q4
      simp only [hb1, hb2, Option.getD_some] at he
      have e1 := (bst_lt hb1).2
      have e2 := (bst_lt hb2).2
      rw [he, e2] at e1
      rcases Nat.lt_trichotomy i j with q | q | q
      · exact absurd e1.symm (q3 i q)
      · exact q
      · exact absurd e1 (q1 j q)
theorem cl_copiesIn {n d : Nat} {C D P T : Nat → Nat} {sz td : Int32} {fc fd fp ft : Nat → Int32} (h : poC n d C D P T sz td fc fd fp ft) (hd : d < 2147483648) {v1 v2 v3 : Int32} {pl dy kn : Nat} (e1 : v1 = iI pl) (e2 : v2 = iI dy) (e3 : v3 = iI kn) (b1 : pl < 2147483648) (b2 : dy < 2147483648) (b3 : kn < 2147483648) (lc : Nat → Int32) {post : Int32 → (Nat → Int32) → Prop} (k : ∀ lc', post (iI (ct (thC C D P T pl dy kn n) n)) lc') : wp_X2_copiesIn fc fd fp ft sz v1 v2 v3 lc post := by
  have h0 := h
  obtain ⟨hn, hz, -, hr⟩ := h
  have ei : ∀ i : Nat, iI (i : Int) + 1 = iI ((i + 1 : Nat) : Int) := fun i => by
    simp only [iI_lit, iI_add]
    exact iI_c (by omega)
  have k3 : ∀ (lc : Nat → Int32), (∀ i, i < n → lc (C i) = oE (bst C D T (C i) dy kn n)) → ∃ m, wl_X2_copiesIn_101 fc fd fp ft sz v1 v2 v3 post m 0 0 lc := by
    intro lc hlc
    have key : ∀ (j i : Nat), i + j = n → wl_X2_copiesIn_101 fc fd fp ft sz v1 v2 v3 post (j + 1) (iI (ct (thC C D P T pl dy kn n) i)) (iI i) lc := by
      intro j
      induction j with
      | zero =>
        intro i hi
        have e : i = n := by omega
        subst e
        rw [wl_X2_copiesIn_101]
        exact q_le i i (fun _ => k lc) (fun hc => absurd hc (by omega)) hz
      | succ j ih =>
        intro i hi
        obtain ⟨a1, a2, a3, a4, a5, a6, a7, a8, a9⟩ := hr i (by omega)
        have nx := ih (i + 1) (by omega)
        rw [wl_X2_copiesIn_101]
        refine q_le n i (fun hc => absurd hc (by omega)) (fun _ => ?_) hz
        refine q_in i ?_
        rw [q_cl i, a6]
        refine q_in (C i) ?_
        rw [q_cl (C i), hlc i (by omega), ei, a8]
        rw [ct] at nx
        cases hb : bst C D T (C i) dy kn n with
        | none =>
          refine ⟨fun _ => ?_, fun hc => absurd hc.symm (oE_ne (by omega))⟩
          rw [if_neg (fun hq => by have := (of_decide_eq_true hq).1; rw [hb] at this; cases this)] at nx
          exact nx
        | some b =>
          have hl := (bst_lt hb).1
          refine q_ne b i (fun h1 => ?_) (fun h1 => ?_)
          · rw [if_neg (fun hq => by have := (of_decide_eq_true hq).1; rw [hb] at this; cases this; omega)] at nx
            exact nx
          · have eb : b = i := by omega
            refine q_in i ?_
            refine q_ne (P i) pl (fun h2 => ?_) (fun h2 => ?_) rfl e1
            · rw [if_neg (fun hq => by have := (of_decide_eq_true hq).2; omega)] at nx
              exact nx
            · rw [if_pos (show thC C D P T pl dy kn n i = true from decide_eq_true ⟨by rw [hb, eb], by omega⟩)] at nx
              rw [ei]
              exact nx
    exact ⟨n + 1, key n 0 (by omega)⟩
  have k2 : ∀ (lc : Nat → Int32), (∀ i, i < n → lc (C i) = oE none) → ∃ m, wl_X2_copiesIn_34 fc fd fp ft sz v1 v2 v3 post m 0 lc := by
    intro lc hlc
    have key : ∀ (j i : Nat) (lc : Nat → Int32), i + j = n → (∀ x, x < n → lc (C x) = oE (bst C D T (C x) dy kn i)) → wl_X2_copiesIn_34 fc fd fp ft sz v1 v2 v3 post (j + 1) (iI i) lc := by
      intro j
      induction j with
      | zero =>
        intro i lc hi hlc
        have e : i = n := by omega
        subst e
        rw [wl_X2_copiesIn_34]
        exact q_le i i (fun _ => k3 lc hlc) (fun hc => absurd hc (by omega)) hz
      | succ j ih =>
        intro i lc hi hlc
        obtain ⟨a1, a2, a3, a4, a5, a6, a7, a8, a9⟩ := hr i (by omega)
        rw [wl_X2_copiesIn_34]
        refine q_le n i (fun hc => absurd hc (by omega)) (fun _ => ?_) hz
        rw [ei]
        refine cl_counts h0 hd rfl e2 e3 (by omega) b2 b3 (fun h2 h3 => z10 ?_) (fun h2 => z00 ?_)
        · refine q_in i ?_
          rw [q_cl i, a6]
          refine q_in (C i) ?_
          rw [q_cl (C i), hlc i (by omega)]
          refine cl_stands h0 (bst C D T (C i) dy kn i) rfl rfl (by omega) (fun b hb => by have := (bst_lt hb).1; omega) (fun h4 => z10 ?_) (fun h4 => z00 ?_)
          · refine q_in i ?_
            refine q_in (C i) ?_
            rintro a rfl
            refine ih (i + 1) _ (by omega) (fun x hx => ?_)
            rw [bst]
            by_cases ex : C x = C i
            · rw [ex, pk_us, if_pos ⟨rfl, h2, h3, h4⟩]
              rfl
            · rw [pk_un ex, if_neg (fun hq => ex hq.1.symm)]
              exact hlc x hx
          · refine ih (i + 1) _ (by omega) (fun x hx => ?_)
            rw [bst]
            by_cases ex : C x = C i
            · rw [ex, if_neg (fun hq => h4 hq.2.2.2), ← ex]
              exact hlc x hx
            · rw [if_neg (fun hq => ex hq.1.symm)]
              exact hlc x hx
        · refine ih (i + 1) _ (by omega) (fun x hx => ?_)
          rw [bst, if_neg (fun hq => h2 ⟨hq.2.1, hq.2.2.1⟩)]
          exact hlc x hx
    exact ⟨n + 1, key n 0 lc (by omega) hlc⟩
  unfold wp_X2_copiesIn
  have key : ∀ (j i : Nat) (lc : Nat → Int32), i + j = n → (∀ x, x < i → lc (C x) = oE none) → wl_X2_copiesIn_3 fc fd fp ft sz v1 v2 v3 post (j + 1) (iI i) lc := by
    intro j
    induction j with
    | zero =>
      intro i lc hi hlc
      have e : i = n := by omega
      subst e
      rw [wl_X2_copiesIn_3]
      exact q_le i i (fun _ => k2 lc hlc) (fun hc => absurd hc (by omega)) hz
    | succ j ih =>
      intro i lc hi hlc
      obtain ⟨a1, a2, a3, a4, a5, a6, a7, a8, a9⟩ := hr i (by omega)
      rw [wl_X2_copiesIn_3]
      refine q_le n i (fun hc => absurd hc (by omega)) (fun _ => ?_) hz
      refine q_in i ?_
      rw [q_cl i, a6]
      refine q_in (C i) ?_
      rw [q_cl (C i), ei]
      rintro a rfl
      refine ih (i + 1) _ (by omega) (fun x hx => ?_)
      by_cases ex : C x = C i
      · rw [ex, pk_us]; rfl
      · rw [pk_un ex]
        refine hlc x ?_
        rcases Nat.lt_or_ge x i with q | q
        · exact q
        · exact absurd (by rw [show x = i by omega]) ex
  exact ⟨n + 1, key n 0 lc (by omega) (fun x hx => absurd hx (by omega))⟩
