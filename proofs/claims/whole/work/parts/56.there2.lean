theorem mo_there_loop {n d : Nat} {C D P T : Nat → Nat} {sz td : Int32} {fc fd fp ft : Nat → Int32} (h : poC n d C D P T sz td fc fd fp ft) (hd : d < 2147483648) {v1 v2 v3 : Int32} {pl dy kn : Nat} (e1 : v1 = iI pl) (e2 : v2 = iI dy) (e3 : v3 = iI kn) (b1 : pl < 100) (b2 : dy < 2147483648) (b3 : kn < 2147483648) {post : Int32 → Int32 → Prop} (k : post (iI (ct (thM C D P T pl dy kn n) n)) 0) : ∃ m, wl_X7_there_32 sz fc fd fp ft td v1 v2 v3 post m 0 0 0 := by
  have h0 := h
  obtain ⟨hn, hz, -, hr⟩ := h
  have ei : ∀ i : Nat, iI (i : Int) + 1 = iI ((i + 1 : Nat) : Int) := fun i => by
    simp only [iI_lit, iI_add]
    exact iI_c (by omega)
  have ei0 : ∀ i : Nat, iI (i : Int) + 0 = iI (i : Int) := fun i => by
    simp only [iI_lit, iI_add]
    exact iI_c (by omega)
  have key : ∀ (j i : Nat), i + j = n → wl_X7_there_32 sz fc fd fp ft td v1 v2 v3 post (j + 1) (iI (ct (thM C D P T pl dy kn n) i)) (iI i) 0 := by
    intro j
    induction j with
    | zero =>
      intro i hi
      have e : i = n := by omega
      subst e
      rw [wl_X7_there_32]
      exact q_le i i (fun _ => k) (fun hc => absurd hc (by omega)) hz
    | succ j ih =>
      intro i hi
      obtain ⟨a1, a2, a3, a4, a5, a6, a7, a8, a9⟩ := hr i (by omega)
      have nx := ih (i + 1) (by omega)
      rw [wl_X7_there_32]
      refine q_le n i (fun hc => absurd hc (by omega)) (fun _ => ?_) hz
      rw [ct] at nx
      have inner : ∀ (y x : Nat) (g : Bool), x + y = i → (g = false ↔ ∀ l, l < x → C l ≠ C i) → wl_X7_there_47 sz fc fd fp ft td v1 v2 v3 post (wl_X7_there_32 sz fc fd fp ft td v1 v2 v3 post (j + 1)) (y + 1) (iI (ct (thM C D P T pl dy kn n) i)) (iI i) (bi g) (iI x) 0 := by
        intro y
        induction y with
        | zero =>
          intro x g hx hg
          have e : x = i := by omega
          subst e
          rw [wl_X7_there_47]
          refine q_le x x (fun _ => ?_) (fun hc => absurd hc (by omega))
          rw [ei, ei0, ei]
          cases hgv : g with
          | true =>
            refine y10 ?_
            rw [if_neg (fun hq => by rw [hg.mpr (of_decide_eq_true hq).1] at hgv; cases hgv)] at nx
            exact nx
          | false =>
            refine y00 ?_
            have hf := hg.mp hgv
            refine q_in x ?_
            rw [q_cl x, a6]
            refine mo_whereOf h0 hd rfl e2 e3 (by omega) b2 b3 ?_
            refine ⟨fun hc => ?_, fun hc => ?_⟩
            · rw [if_neg (fun hq => hc (by rw [e1]; exact (of_decide_eq_true hq).2))] at nx
              exact nx
            · rw [if_pos (show thM C D P T pl dy kn n x = true from decide_eq_true ⟨hf, by rw [hc, e1]⟩)] at nx
              exact nx
        | succ y ihy =>
          intro x g hx hg
          obtain ⟨c1, c2, c3, c4, c5, c6, c7, c8, c9⟩ := hr x (by omega)
          rw [wl_X7_there_47]
          refine q_le i x (fun hc => absurd hc (by omega)) (fun _ => ?_)
          rw [ei x]
          cases hgv : g with
          | true =>
            refine y10 ?_
            refine ihy (x + 1) true (by omega) ⟨fun hq => (by cases hq), fun hq => ?_⟩
            have := hg.mpr (fun l hl => hq l (by omega))
            rw [hgv] at this
            exact this
          | false =>
            refine y00 ?_
            have hf := hg.mp hgv
            refine q_in x ?_
            refine q_in i ?_
            rw [q_cl x, q_cl i, c6, a6]
            refine q_ne (C x) (C i) (fun hc => ?_) (fun hc => ?_)
            · refine ihy (x + 1) false (by omega) ⟨fun _ l hl => ?_, fun _ => rfl⟩
              rcases Nat.lt_or_ge l x with q | q
              · exact hf l q
              · rw [show l = x by omega]; omega
            · refine ihy (x + 1) true (by omega) ⟨fun hq => (by cases hq), fun hq => ?_⟩
              exact absurd (by omega) (hq x (by omega))
      exact ⟨i + 1, inner i 0 false (by omega) ⟨fun _ l hl => absurd hl (by omega), fun _ => rfl⟩⟩
  exact ⟨n + 1, key n 0 (by omega)⟩
/-- days that may be asked for -/
def daysOk (d : Nat) (v2 v3 : Int32) : Prop := ∃ dy kn : Nat, dy ≤ 100000 ∧ kn ≤ 100000 ∧ v2 = iI dy ∧ v3 = iI kn ∧ kn ≤ d
theorem mo_areDays {d : Nat} {td v2 v3 : Int32} (hd : d < 2147483648) (e : td = iI d) {post : Int32 → Prop} (k1 : ∀ dy kn : Nat, dy ≤ 100000 → kn ≤ 100000 → v2 = iI dy → v3 = iI kn → kn ≤ d → post 1) (k0 : ¬ daysOk d v2 v3 → post 0) : wp_X7_areDays td v2 v3 post := by
  have nope : (v2.toInt < 0 ∨ 100000 < v2.toInt ∨ v3.toInt < 0 ∨ 100000 < v3.toInt ∨ (d : Int) < v3.toInt) → ¬ daysOk d v2 v3 := by
    rintro hq ⟨dy, kn, q1, q2, q3, q4, q5⟩
    rw [q3, q4, tI (by omega), tI (by omega)] at hq
    omega
  unfold wp_X7_areDays
  refine sp_within 0 100000 (fun z1 a1 a2 e1 => z10 ?_) (fun hc => z00 (k0 (nope (by omega))))
  refine sp_within 0 100000 (fun z2 c1 c2 e2 => z10 ?_) (fun hc => z00 (k0 (nope (by omega))))
  have t2 : v3.toInt = z2 := by rw [e2, iI_toInt (by omega) (by omega)]
  obtain ⟨dy, hdy, e1⟩ := iI_nat a1 e1
  obtain ⟨kn, hkn, e2⟩ := iI_nat c1 e2
  exact q_lt d kn (fun hc => k0 (nope (by omega))) (fun hc => k1 dy kn (by omega) (by omega) e1 e2 (by omega)) e e2
theorem cl_areDays {d : Nat} {td v2 v3 : Int32} (hd : d < 2147483648) (e : td = iI d) {post : Int32 → Prop} (k1 : ∀ dy kn : Nat, dy ≤ 100000 → kn ≤ 100000 → v2 = iI dy → v3 = iI kn → kn ≤ d → post 1) (k0 : ¬ daysOk d v2 v3 → post 0) : wp_X6_areDays td v2 v3 post := by
  have nope : (v2.toInt < 0 ∨ 100000 < v2.toInt ∨ v3.toInt < 0 ∨ 100000 < v3.toInt ∨ (d : Int) < v3.toInt) → ¬ daysOk d v2 v3 := by
    rintro hq ⟨dy, kn, q1, q2, q3, q4, q5⟩
    rw [q3, q4, tI (by omega), tI (by omega)] at hq
    omega
  unfold wp_X6_areDays
  refine sc_isDay (fun dy a1 e1 => z10 ?_) (fun hc => z00 (k0 (nope (by omega))))
  refine sc_isDay (fun kn c1 e2 => z10 ?_) (fun hc => z00 (k0 (nope (by omega))))
  have t2 : v3.toInt = kn := by rw [e2, tI (by omega)]
  unfold wp_X2_today
  exact q_lt d kn (fun hc => k0 (nope (by omega))) (fun hc => k1 dy kn a1 c1 e1 e2 (by omega)) e e2
def thereOk (d : Nat) (v1 v2 v3 : Int32) : Prop := (1 ≤ v1.toInt ∧ v1.toInt ≤ 99) ∧ daysOk d v2 v3
theorem cl_there {n d : Nat} {C D P T : Nat → Nat} {sz td : Int32} {fc fd fp ft lc : Nat → Int32} (h : poC n d C D P T sz td fc fd fp ft) (hd : d < 2147483648) {v1 v2 v3 : Int32} {post : Int32 → (Nat → Int32) → Prop} (k1 : ∀ (pl dy kn : Nat) lc', 1 ≤ pl → pl < 100 → v1 = iI pl → v2 = iI dy → v3 = iI kn → dy ≤ 100000 → kn ≤ 100000 → kn ≤ d → post (iI (ct (thM C D P T pl dy kn n) n)) lc') (k0 : ¬ thereOk d v1 v2 v3 → post (-1) lc) : wp_X6_there fc fd fp ft sz td v1 v2 v3 lc post := by
  unfold wp_X6_there
  refine sc_within 1 99 (fun z a1 a2 e1 => z10 ?_) (fun hc => z00 (k0 (fun hq => by have := hq.1; omega)))
  obtain ⟨pl, hpl, e1⟩ := iI_nat (by omega) e1
  refine cl_areDays hd h.2.2.1 (fun dy kn c1 c2 e2 e3 c3 => y10 ?_) (fun hc => y00 (k0 (fun hq => hc hq.2)))
  refine cl_copiesIn h hd e1 e2 e3 (by omega) (by omega) (by omega) lc (fun lc' => ?_)
  rw [th_eq (fun i hi => (h.2.2.2 i hi).2.2.2.1) (by omega) (by omega)]
  exact k1 pl dy kn lc' (by omega) (by omega) e1 e2 e3 c1 c2 c3
theorem mo_there {n d : Nat} {C D P T : Nat → Nat} {sz td th : Int32} {fc fd fp ft : Nat → Int32} (h : poC n d C D P T sz td fc fd fp ft) (hd : d < 2147483648) {v1 v2 v3 : Int32} {post : Int32 → Int32 → Prop} (k1 : ∀ (pl dy kn : Nat), 1 ≤ pl → pl < 100 → v1 = iI pl → v2 = iI dy → v3 = iI kn → dy ≤ 100000 → kn ≤ 100000 → kn ≤ d → post (iI (ct (thM C D P T pl dy kn n) n)) 0) (k0 : ¬ thereOk d v1 v2 v3 → post (-1) 0) : wp_X7_there sz fc fd fp ft td v1 v2 v3 th post := by
  unfold wp_X7_there
  refine sp_within 1 99 (fun z a1 a2 e1 => z10 ?_) (fun hc => z00 (k0 (fun hq => by have := hq.1; omega)))
  obtain ⟨pl, hpl, e1⟩ := iI_nat (by omega) e1
  refine mo_areDays hd h.2.2.1 (fun dy kn c1 c2 e2 e3 c3 => y10 ?_) (fun hc => y00 (k0 (fun hq => hc hq.2)))
  exact mo_there_loop h hd e1 e2 e3 (by omega) (by omega) (by omega) (k1 pl dy kn (by omega) (by omega) e1 e2 e3 c1 c2 c3)
/-- a line is told -/
def lineOk (n : Nat) (v1 v2 v3 : Int32) : Prop := ∃ c dy pl : Nat, 1 ≤ c ∧ c < 1001 ∧ dy ≤ 100000 ∧ pl < 100 ∧ v1 = iI c ∧ v2 = iI dy ∧ v3 = iI pl ∧ n < 200
theorem poC_add {n d : Nat} {C D P T : Nat → Nat} {sz td x : Int32} {fc fd fp ft : Nat → Int32} (h : poC n d C D P T sz td fc fd fp ft) {c dy pl : Nat} (h1 : 1 ≤ c) (h2 : c < 1001) (h3 : dy ≤ 100000) (h4 : pl < 100) (h5 : n < 200) (hx : x = iI n) : poC (n + 1) d (nu C n c) (nu D n dy) (nu P n pl) (nu T n d) (sz + 1) td (upd fc x.toNatClampNeg (iI c)) (upd fd x.toNatClampNeg (iI dy)) (upd fp x.toNatClampNeg (iI pl)) (upd ft x.toNatClampNeg td) := by
  obtain ⟨hn, hz, ht, hr⟩ := h
  refine ⟨by omega, by rw [hz]; simp only [iI_lit, iI_add]; exact iI_c (by omega), ht, fun i hi => ?_⟩
  rw [q_cl n hx]
  by_cases e : i = n
  · subst e
    simp only [nu_s, pk_us]
    exact ⟨h1, h2, h3, h4, Nat.le_refl _, trivial, trivial, trivial, ht⟩
  · simp only [nu_n _ _ e, pk_un e]
    exact hr i (by omega)
theorem cl_line_y {n d : Nat} {C D P T : Nat → Nat} {sz td : Int32} {fc fd fp ft : Nat → Int32} (h : poC n d C D P T sz td fc fd fp ft) {c dy pl : Nat} (h1 : 1 ≤ c) (h2 : c < 1001) (h3 : dy ≤ 100000) (h4 : pl < 100) (h5 : n < 200) {post : Int32 → (Nat → Int32) → (Nat → Int32) → (Nat → Int32) → (Nat → Int32) → Int32 → Prop} (k : ∀ sz' fc' fd' fp' ft', poC (n + 1) d (nu C n c) (nu D n dy) (nu P n pl) (nu T n d) sz' td fc' fd' fp' ft' → post (iI ((n + 1 : Nat) : Int)) fc' fd' fp' ft' sz') : wp_X6_line td (iI c) (iI dy) (iI pl) fc fd fp ft sz post := by
  have hz := h.2.1
  unfold wp_X6_line
  refine sc_isCopy (fun _ _ _ _ => z10 ?_) (fun hc => absurd hc (by rw [tI (by omega)]; omega))
  refine sc_isDay (fun _ _ _ => z10 ?_) (fun hc => absurd hc (by rw [tI (by omega)]; omega))
  refine sc_within 0 99 (fun _ _ _ _ => y10 ?_) (fun hc => absurd hc (by rw [tI (by omega)]; omega))
  unfold wp_X2_tell
  refine q_lt n 200 (fun _ => ?_) (fun hc => absurd hc (by omega)) hz
  refine q_in n ?_ hz
  rintro a1 rfl
  refine q_in n ?_ hz
  rintro a2 rfl
  refine q_in n ?_ hz
  rintro a3 rfl
  refine q_in n ?_ hz
  rintro a4 rfl
  have hA := poC_add h h1 h2 h3 h4 h5 hz
  have e9 : sz + 1 = iI ((n + 1 : Nat) : Int) := hA.2.1
  have := k _ _ _ _ _ hA
  rw [← e9] at this
  exact this
theorem cl_line_n {n d : Nat} {C D P T : Nat → Nat} {sz td : Int32} {fc fd fp ft : Nat → Int32} (h : poC n d C D P T sz td fc fd fp ft) {v1 v2 v3 : Int32} (hv : ¬ lineOk n v1 v2 v3) {post : Int32 → (Nat → Int32) → (Nat → Int32) → (Nat → Int32) → (Nat → Int32) → Int32 → Prop} (k : post (-1) fc fd fp ft sz) : wp_X6_line td v1 v2 v3 fc fd fp ft sz post := by
  have hz := h.2.1
  have hn := h.1
  unfold wp_X6_line
  refine sc_isCopy (fun c c1 c2 e1 => z10 ?_) (fun _ => z00 k)
  refine sc_isDay (fun dy a1 e2 => z10 ?_) (fun _ => z00 k)
  refine sc_within 0 99 (fun z z1 z2 e3 => y10 ?_) (fun _ => y00 k)
  obtain ⟨pl, hpl, e3⟩ := iI_nat z1 e3
  unfold wp_X2_tell
  exact q_lt n 200 (fun hc => absurd ⟨c, dy, pl, c1, c2, a1, by omega, e1, e2, e3, by omega⟩ hv) (fun _ => k) hz
theorem mo_line_y {n d : Nat} {C D P T : Nat → Nat} {sz td th : Int32} {fc fd fp ft : Nat → Int32} (h : poC n d C D P T sz td fc fd fp ft) {c dy pl : Nat} (h1 : 1 ≤ c) (h2 : c < 1001) (h3 : dy ≤ 100000) (h4 : pl < 100) (h5 : n < 200) {post : Int32 → Int32 → Int32 → (Nat → Int32) → (Nat → Int32) → (Nat → Int32) → (Nat → Int32) → Prop} (k : ∀ sz' fc' fd' fp' ft', poC (n + 1) d (nu C n c) (nu D n dy) (nu P n pl) (nu T n d) sz' td fc' fd' fp' ft' → post (iI ((n + 1 : Nat) : Int)) 0 sz' fc' fd' fp' ft') : wp_X7_line td (iI c) (iI dy) (iI pl) th sz fc fd fp ft post := by
  have hz := h.2.1
  unfold wp_X7_line
  refine sp_within 1 1000 (fun _ _ _ _ => z10 ?_) (fun hc => absurd hc (by rw [tI (by omega)]; omega))
  refine sp_within 0 100000 (fun _ _ _ _ => z10 ?_) (fun hc => absurd hc (by rw [tI (by omega)]; omega))
  refine sp_within 0 99 (fun _ _ _ _ => z10 ?_) (fun hc => absurd hc (by rw [tI (by omega)]; omega))
  refine q_ne n 200 (fun _ => ?_) (fun hc => absurd hc (by omega)) hz
  refine q_in n ?_ hz
  rintro a1 rfl
  refine q_in n ?_ hz
  rintro a2 rfl
  refine q_in n ?_ hz
  rintro a3 rfl
  refine q_in n ?_ hz
  rintro a4 rfl
  have hA := poC_add h h1 h2 h3 h4 h5 hz
  have e9 : sz + 1 = iI ((n + 1 : Nat) : Int) := hA.2.1
  have := k _ _ _ _ _ hA
  rw [← e9] at this
  exact this
theorem mo_line_n {n d : Nat} {C D P T : Nat → Nat} {sz td th : Int32} {fc fd fp ft : Nat → Int32} (h : poC n d C D P T sz td fc fd fp ft) {v1 v2 v3 : Int32} (hv : ¬ lineOk n v1 v2 v3) {post : Int32 → Int32 → Int32 → (Nat → Int32) → (Nat → Int32) → (Nat → Int32) → (Nat → Int32) → Prop} (k : post (-1) 0 sz fc fd fp ft) : wp_X7_line td v1 v2 v3 th sz fc fd fp ft post := by
  have hz := h.2.1
  have hn := h.1
  unfold wp_X7_line
  refine sp_within 1 1000 (fun y1 c1 c2 e1 => z10 ?_) (fun _ => z00 k)
  refine sp_within 0 100000 (fun y2 a1 a2 e2 => z10 ?_) (fun _ => z00 k)
  refine sp_within 0 99 (fun z z1 z2 e3 => z10 ?_) (fun _ => z00 k)
  obtain ⟨c, hc, e1⟩ := iI_nat (by omega) e1
  obtain ⟨dy, hdy, e2⟩ := iI_nat a1 e2
  obtain ⟨pl, hpl, e3⟩ := iI_nat z1 e3
  exact q_ne n 200 (fun hc => absurd ⟨c, dy, pl, by omega, by omega, by omega, by omega, e1, e2, e3, by omega⟩ hv) (fun _ => k) hz
theorem poC_day {n d : Nat} {C D P T : Nat → Nat} {sz td : Int32} {fc fd fp ft : Nat → Int32} (h : poC n d C D P T sz td fc fd fp ft) (m : Nat) : poC n (d + m) C D P T sz (td + iI m) fc fd fp ft := by
  obtain ⟨hn, hz, ht, hr⟩ := h
  refine ⟨hn, hz, by rw [ht, iI_add]; exact iI_c (by omega), fun i hi => ?_⟩
  obtain ⟨a1, a2, a3, a4, a5, a6⟩ := hr i hi
  exact ⟨a1, a2, a3, a4, by omega, a6⟩
theorem cl_day {td v : Int32} {post : Int32 → Int32 → Prop} (k1 : ∀ m : Nat, m ≤ 1000 → v = iI m → post (td + v) (td + v)) (k0 : (v.toInt < 0 ∨ 1000 < v.toInt) → post (-1) td) : wp_X6_day v td post := by
  unfold wp_X6_day
  refine sc_within 0 1000 (fun z z1 z2 e => z10 ?_) (fun hc => z00 (k0 hc))
  obtain ⟨m, hm, e⟩ := iI_nat z1 e
  exact k1 m (by omega) e
theorem mo_day {td th v : Int32} {post : Int32 → Int32 → Int32 → Prop} (k1 : ∀ m : Nat, m ≤ 1000 → v = iI m → post (td + v) 0 (td + v)) (k0 : (v.toInt < 0 ∨ 1000 < v.toInt) → post (-1) 0 td) : wp_X7_day v th td post := by
  unfold wp_X7_day
  refine sp_within 0 1000 (fun z z1 z2 e => y10 ?_) (fun hc => y00 (k0 hc))
  obtain ⟨m, hm, e⟩ := iI_nat z1 e
  exact k1 m (by omega) e
