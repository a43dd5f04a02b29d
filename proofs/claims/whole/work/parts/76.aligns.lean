def moN (n : Nat) (pp ff : Nat → Nat) (mo mp mf : Nat → Int32) : Prop := n ≤ 60 ∧ ∀ i, i < n → ∃ s, s < 360 ∧ mo i = iI (s : Nat) ∧ mp s = iI (pp i) ∧ mf s = iI (ff i) ∧ pp i < 24 ∧ ff i < 300
theorem mo_size {z : Int32} {x y : Nat} (hz : z = iI (x : Int) - iI (y : Int)) (hx : x < 1000) (hy : y < 1000) {post : Int32 → Prop} (k : post (iI (adf x y))) : wp_X7_size z post := by
  rw [iI_sub] at hz
  unfold adf at k
  unfold wp_X7_size
  refine q_le 0 ((x : Int) - y) (fun hc => ?_) (fun hc => ?_) rfl hz
  · rw [hz, show ((x : Int) - y) = ((x - y + (y - x) : Nat) : Int) by omega]; exact k
  · rw [hz, iI_neg, show -((x : Int) - y) = ((x - y + (y - x) : Nat) : Int) by omega]; exact k
theorem mo_cst_le {n : Nat} {pp ff : Nat → Nat} {mo mp mf : Nat → Int32} (h : moN n pp ff mo mp mf) {m : Nat} {jp js : Nat → Nat} {cp cs : Nat → Int32} {cz : Int32} (hs : scC m jp js cp cs cz) {i j : Nat} (hi : i < n) (hj : j < m) : cst pp ff jp js i j ≤ 52 := by
  obtain ⟨s, h1⟩ := h.2 i hi
  have h2 := hs.2.2 j hj
  unfold cst adf
  omega
theorem mo_pairs {n : Nat} {pp ff : Nat → Nat} {mo mp mf : Nat → Int32} (h : moN n pp ff mo mp mf) {m : Nat} {jp js : Nat → Nat} {cp cs : Nat → Int32} {cz : Int32} (hs : scC m jp js cp cs cz) {i j : Nat} (hi : i < n) (hj : j < m) {v1 v2 : Int32} (e1 : v1 = iI i) (e2 : v2 = iI j) {post : Int32 → Prop} (k : post (iI (cst pp ff jp js i j))) : wp_X7_pairs mp mf mo cp cs v1 v2 post := by
  obtain ⟨s, a0, a1, a2, a3, a4, a5⟩ := h.2 i hi
  obtain ⟨b1, b2, b3, b4⟩ := hs.2.2 j hj
  have hn := h.1
  have hm := hs.1
  subst e1 e2
  have ci : (iI (i : Int)).toNatClampNeg = i := q_cl i
  have cj : (iI (j : Int)).toNatClampNeg = j := q_cl j
  have cS : (iI (s : Int)).toNatClampNeg = s := q_cl s
  have hc := mo_cst_le h hs hi hj
  unfold wp_X7_pairs
  refine q_in i ?_
  rw [ci, a1, cS, cj, a2, a3, b3, b4]
  refine q_in s ?_
  refine q_in j ?_
  intro z1 hz1
  refine mo_size hz1 (by omega) (by omega) ?_
  refine q_in i ?_
  refine q_in s ?_
  refine q_in j ?_
  intro z3 hz3
  refine mo_size hz3 (by omega) (by omega) ?_
  have d1 : adf (ff i) (js j) < 300 := by unfold adf; omega
  unfold cst at k
  refine q_le (adf (ff i) (js j)) 4 (fun hq => ?_) (fun hq => ?_)
  · rw [show (2 : Int32) * iI (adf (pp i) (jp j) : Nat) + iI (adf (ff i) (js j) : Nat) = iI ((2 * adf (pp i) (jp j) + min (adf (ff i) (js j)) 4 : Nat) : Int) by simp only [iI_lit, iI_mul, iI_add]; exact iI_c (by omega)]
    exact k
  · rw [show (2 : Int32) * iI (adf (pp i) (jp j) : Nat) + 4 = iI ((2 * adf (pp i) (jp j) + min (adf (ff i) (js j)) 4 : Nat) : Int) by simp only [iI_lit, iI_mul, iI_add]; exact iI_c (by omega)]
    exact k
def arU (c : Nat → Nat → Nat) (n m a b : Nat) (M : Nat → Int32) : Prop := ∀ x y, x ≤ n → y ≤ m → (x < a ∨ (x = a ∧ y < b)) → M (41 * x + y) = iI (eC c n m x y)
theorem eC_at {c : Nat → Nat → Nat} {n m a b : Nat} (ha : 0 < a) (hb : 0 < b) : eC c n m a b = min (5 + min (eC c n m (a - 1) b) (eC c n m a (b - 1))) (c (n - a) (m - b) + eC c n m (a - 1) (b - 1)) := by
  obtain ⟨x, rfl⟩ : ∃ x, a = x + 1 := ⟨a - 1, by omega⟩
  obtain ⟨y, rfl⟩ : ∃ y, b = y + 1 := ⟨b - 1, by omega⟩
  exact eC_ss
theorem mo_alCell {r n : Nat} {pp ff : Nat → Nat} {mo mp mf ml : Nat → Int32} (h : moN n pp ff mo mp mf) {m : Nat} {jp js : Nat → Nat} {cp cs : Nat → Int32} {cz : Int32} (hs : scC m jp js cp cs cz) {M N : Nat → Int32} {c0 x0 : Int32} {a b : Nat} (ha : a ≤ n) (hb : b ≤ m) (hM : arU (cst pp ff jp js) n m a b M) {post : (Nat → Int32) → Int32 → (Nat → Int32) → (Nat → Int32) → Int32 → Int32 → Prop} {K7 : (Int32) → (Nat → Int32) → (Int32) → (Nat → Int32) → (Nat → Int32) → (Int32) → (Int32) → Prop} {fu : Nat}
    (k : ∀ M', arU (cst pp ff jp js) n m a (b + 1) M' → wl_X7_aligns_17 mp mf ml (iI m) cp cs (iI r) post K7 fu (iI a) (iI ((b + 1 : Nat) : Int)) mo (iI n) M' N c0 x0) : wl_X7_aligns_17 mp mf ml (iI m) cp cs (iI r) post K7 (fu + 1) (iI a) (iI b) mo (iI n) M N c0 x0 := by
  have hn := h.1
  have hm := hs.1
  have l0 := eC_le (c := cst pp ff jp js) (n := n) (m := m) a b
  have l1 := eC_le (c := cst pp ff jp js) (n := n) (m := m) (a - 1) b
  have l2 := eC_le (c := cst pp ff jp js) (n := n) (m := m) a (b - 1)
  have l3 := eC_le (c := cst pp ff jp js) (n := n) (m := m) (a - 1) (b - 1)
  have hA : a = 0 → eC (cst pp ff jp js) n m a b = 5 * b ∧ eC (cst pp ff jp js) n m a (b - 1) = 5 * (b - 1) := fun e => by subst e; exact ⟨rfl, rfl⟩
  have hB : b = 0 → eC (cst pp ff jp js) n m a b = 5 * a ∧ eC (cst pp ff jp js) n m (a - 1) b = 5 * (a - 1) := fun e => by subst e; exact ⟨eC_s0, eC_s0⟩
  have hS := fun p q => eC_at (c := cst pp ff jp js) (n := n) (m := m) (a := a) (b := b) p q
  have fin : ∀ w : Nat, w = eC (cst pp ff jp js) n m a b → wl_X7_aligns_193 mp mf ml (iI m) cp cs (iI r) post K7 (wl_X7_aligns_17 mp mf ml (iI m) cp cs (iI r) post K7 fu) (iI a) (iI b) (iI w) mo (iI n) M N c0 x0 := by
    rintro w rfl
    unfold wl_X7_aligns_193
    refine q_in (41 * a + b : Nat) ?_
    rintro a10 rfl
    rw [q_cl (41 * a + b), i_p1]
    refine k _ (fun x y hx hy hxy => ?_)
    by_cases e : x = a ∧ y = b
    · rw [e.1, e.2, pk_us]
    · rw [pk_un (by omega)]
      exact hM x y hx hy (by omega)
  have m1 := hM (a - 1) b (by omega) (by omega)
  have m2 := hM a (b - 1) (by omega) (by omega)
  have m3 := hM (a - 1) (b - 1) (by omega) (by omega)
  have hcs := fun p q => mo_cst_le h hs (i := n - a) (j := m - b) p q
  generalize h0 : eC (cst pp ff jp js) n m a b = E0 at *
  generalize h1 : eC (cst pp ff jp js) n m (a - 1) b = E1 at *
  generalize h2 : eC (cst pp ff jp js) n m a (b - 1) = E2 at *
  generalize h3 : eC (cst pp ff jp js) n m (a - 1) (b - 1) = E3 at *
  have f114 : ∀ u : Nat, u ≤ 1000 → (a = 0 ∨ b = 0 → u = E0) → (0 < a → 0 < b → E0 = min u (cst pp ff jp js (n - a) (m - b) + E3)) → wl_X7_aligns_114 mp mf ml (iI m) cp cs (iI r) post K7 (wl_X7_aligns_17 mp mf ml (iI m) cp cs (iI r) post K7 fu) (iI a) (iI b) (iI u) mo (iI n) M N c0 x0 := by
    intro u hu q1 q2
    unfold wl_X7_aligns_114
    refine q_le a 0 (fun hc => fin u (q1 (by omega))) (fun hc => ?_)
    refine q_le b 0 (fun hc2 => fin u (q1 (by omega))) (fun hc2 => ?_)
    have m3 := m3 (by omega)
    have q2 := q2 (by omega) (by omega)
    have hcs := hcs (by omega) (by omega)
    have em : M (41 * (iI (a : Int) - 1) + iI (b : Int) - 1).toNatClampNeg = iI E3 := by
      rw [q_cl (41 * (a - 1) + (b - 1))]; exact m3
    refine q_in (41 * (a - 1) + (b - 1) : Nat) ?_
    rw [em]
    refine mo_pairs h hs (i := n - a) (j := m - b) (by omega) (by omega) (by rw [iI_sub]; exact iI_c (by omega)) (by rw [iI_sub]; exact iI_c (by omega)) ?_
    refine q_le u (E3 + cst pp ff jp js (n - a) (m - b)) (fun hc3 => fin u (by omega)) (fun hc3 => ?_)
    refine q_in (41 * (a - 1) + (b - 1) : Nat) ?_
    refine mo_pairs h hs (i := n - a) (j := m - b) (by omega) (by omega) (by rw [iI_sub]; exact iI_c (by omega)) (by rw [iI_sub]; exact iI_c (by omega)) ?_
    rintro z9 rfl
    rw [iI_s]
    exact fin _ (by omega)
  have f73 : ∀ u : Nat, u ≤ 1000 → (b = 0 → u = E0) → (a = 0 → 0 < b → min u (E2 + 5) = E0) → (0 < a → 0 < b → E0 = min (min u (E2 + 5)) (cst pp ff jp js (n - a) (m - b) + E3)) → wl_X7_aligns_73 mp mf ml (iI m) cp cs (iI r) post K7 (wl_X7_aligns_17 mp mf ml (iI m) cp cs (iI r) post K7 fu) (iI a) (iI b) (iI u) mo (iI n) M N c0 x0 := by
    intro u hu q1 q2 q3
    unfold wl_X7_aligns_73
    refine q_le b 0 (fun hc => f114 u hu (fun _ => q1 (by omega)) (fun _ h9 => absurd h9 (by omega))) (fun hc => ?_)
    have m2 := m2 (by omega)
    have em : M (41 * iI (a : Int) + iI (b : Int) - 1).toNatClampNeg = iI E2 := by
      rw [q_cl (41 * a + (b - 1))]; exact m2
    refine q_in (41 * a + (b - 1) : Nat) ?_
    rw [em]
    refine q_le u (E2 + 5) (fun hc2 => f114 u hu (fun hq => ?_) (fun h8 h9 => ?_)) (fun hc2 => ?_)
    · have := q2 (by omega) (by omega); omega
    · have := q3 h8 h9; omega
    · refine q_in (41 * a + (b - 1) : Nat) ?_
      rintro z6 rfl
      rw [show iI (E2 : Int) + 5 = iI ((E2 + 5 : Nat) : Int) by simp only [iI_lit, iI_add]; exact iI_c (by omega)]
      refine f114 _ (by omega) (fun hq => ?_) (fun h8 h9 => ?_)
      · have := q2 (by omega) (by omega); omega
      · have := q3 h8 h9; omega
  rw [wl_X7_aligns_17]
  refine q_lt m b (fun hc => absurd hc (by omega)) (fun _ => ?_)
  rintro z4 rfl
  rw [show (5 : Int32) * (iI (a : Int) + iI (b : Int)) = iI ((5 * (a + b) : Nat) : Int) by simp only [iI_lit, iI_mul, iI_add]; exact iI_c (by omega)]
  refine q_le a 0 (fun hc => ?_) (fun hc => ?_)
  · have := hA (by omega)
    exact f73 _ (by omega) (fun _ => by omega) (fun _ _ => by omega) (fun h9 => absurd h9 (by omega))
  · have m1 := m1 (by omega)
    have em : M (41 * (iI (a : Int) - 1) + iI (b : Int)).toNatClampNeg = iI E1 := by
      rw [q_cl (41 * (a - 1) + b)]; exact m1
    refine q_in (41 * (a - 1) + b : Nat) ?_
    rw [em]
    refine q_le (5 * (a + b) : Nat) (E1 + 5) (fun hc2 => ?_) (fun hc2 => ?_)
    · refine f73 _ (by omega) (fun e => ?_) (fun h9 => absurd h9 (by omega)) (fun h8 h9 => ?_)
      · have := hB e; omega
      · have := hS h8 h9; omega
    · refine q_in (41 * (a - 1) + b : Nat) ?_
      rintro z5 rfl
      rw [show iI (E1 : Int) + 5 = iI ((E1 + 5 : Nat) : Int) by simp only [iI_lit, iI_add]; exact iI_c (by omega)]
      refine f73 _ (by omega) (fun e => ?_) (fun h9 => absurd h9 (by omega)) (fun h8 h9 => ?_)
      · have := hB e; omega
      · have := hS h8 h9; omega
