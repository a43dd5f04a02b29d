/-! the least cost from a note and an item on: n notes pp ff, m items jp js; a notes and b items are left -/
def adf (x y : Nat) : Nat := (x - y) + (y - x)
def cst (pp ff jp js : Nat → Nat) (i j : Nat) : Nat := 2 * adf (pp i) (jp j) + min (adf (ff i) (js j)) 4
def eRow (a : Nat) (up c : Nat → Nat) : Nat → Nat
  | 0 => 5 * (a + 1)
  | b + 1 => min (5 + min (up (b + 1)) (eRow a up c b)) (c b + up b)
def eC (c : Nat → Nat → Nat) (n m : Nat) : Nat → Nat → Nat
  | 0 => fun b => 5 * b
  | a + 1 => eRow a (eC c n m a) (fun b => c (n - (a + 1)) (m - (b + 1)))
theorem eC_00 {c : Nat → Nat → Nat} {n m b : Nat} : eC c n m 0 b = 5 * b := rfl
theorem eC_s0 {c : Nat → Nat → Nat} {n m a : Nat} : eC c n m a 0 = 5 * a := by
  cases a <;> rfl
theorem eC_ss {c : Nat → Nat → Nat} {n m a b : Nat} : eC c n m (a + 1) (b + 1) = min (5 + min (eC c n m a (b + 1)) (eC c n m (a + 1) b)) (c (n - (a + 1)) (m - (b + 1)) + eC c n m a b) := rfl
theorem eC_le {c : Nat → Nat → Nat} {n m : Nat} : ∀ a b, eC c n m a b ≤ 5 * (a + b)
  | 0, b => by rw [eC_00]; omega
  | a + 1, 0 => by rw [eC_s0]; omega
  | a + 1, b + 1 => by
    have h1 := eC_le (c := c) (n := n) (m := m) a (b + 1)
    rw [eC_ss]
    omega
theorem i_min {x y : Int32} {a b : Nat} (hx : x = iI a) (hy : y = iI b) (ha : a < 2147483648) (hb : b < 2147483648) : (if x < y then x else y) = iI ((min a b : Nat) : Int) := by
  rw [hx, hy]
  by_cases h : a < b
  · rw [if_pos ((iI_lt (by omega) (by omega) (by omega) (by omega)).mpr (by omega))]
    exact iI_c (by omega)
  · rw [if_neg (fun hc => h (by have := (iI_lt (by omega) (by omega) (by omega) (by omega)).mp hc; omega))]
    exact iI_c (by omega)
theorem i_abs {x y : Int32} {a b : Nat} (hx : x = iI a) (hy : y = iI b) (ha : a < 1000) (hb : b < 1000) : (if 0 ≤ x - y then x - y else 0 - (x - y)) = iI ((adf a b : Nat) : Int) := by
  unfold adf
  rw [hx, hy, iI_sub, show (0 : Int32) = iI 0 from rfl]
  by_cases h : b ≤ a
  · rw [if_pos ((iI_le (by omega) (by omega) (by omega) (by omega)).mpr (by omega))]
    exact iI_c (by omega)
  · rw [if_neg (fun hc => h (by have := (iI_le (by omega) (by omega) (by omega) (by omega)).mp hc; omega)), iI_sub]
    exact iI_c (by omega)
def alN (n : Nat) (pp ff : Nat → Nat) (NP NS : Nat → Int32) : Prop := n ≤ 60 ∧ ∀ i, i < n → pp i < 24 ∧ ff i < 300 ∧ NP i = iI (pp i) ∧ NS i = iI (ff i)
theorem cst_le {n : Nat} {pp ff : Nat → Nat} {NP NS : Nat → Int32} (h : alN n pp ff NP NS) {m : Nat} {jp js : Nat → Nat} {cp cs : Nat → Int32} {cz : Int32} (hs : scC m jp js cp cs cz) {i j : Nat} (hi : i < n) (hj : j < m) : cst pp ff jp js i j ≤ 52 := by
  have h1 := h.2 i hi
  have h2 := hs.2.2 j hj
  unfold cst adf
  omega
theorem cl_costFromPair {n : Nat} {pp ff : Nat → Nat} {NP NS C : Nat → Int32} (h : alN n pp ff NP NS) {m : Nat} {jp js : Nat → Nat} {cp cs : Nat → Int32} {cz : Int32} (hs : scC m jp js cp cs cz) {i j e : Nat} (hi : i < n) (hj : j < m) (hC : C (41 * (i + 1) + (j + 1)) = iI e) (he : e ≤ 500) {v1 v2 : Int32} (e1 : v1 = iI i) (e2 : v2 = iI j) {post : Int32 → Prop} (k : post (iI ((cst pp ff jp js i j + e : Nat) : Int))) : wp_X0_costFromPair NP NS C cp cs v1 v2 post := by
  obtain ⟨a1, a2, a3, a4⟩ := h.2 i hi
  obtain ⟨b1, b2, b3, b4⟩ := hs.2.2 j hj
  have hn := h.1
  have hm := hs.1
  have hc := cst_le h hs hi hj
  subst e1 e2
  unfold wp_X0_costFromPair wp_X5_pitchOf wp_X5_stepOf
  have ci : (iI (i : Int)).toNatClampNeg = i := q_cl i
  have cj : (iI (j : Int)).toNatClampNeg = j := q_cl j
  refine q_in i ?_
  refine q_in j ?_
  dsimp only
  rw [ci, cj]
  intro z2 hz2
  rw [i_abs a3 b3 (by omega) (by omega)] at hz2
  intro z3 hz3
  refine q_in i ?_
  refine q_in j ?_
  intro z5 hz5
  rw [i_abs a4 b4 (by omega) (by omega)] at hz5
  intro z6 hz6
  rw [i_min (y := (4 : Int32)) (b := 4) hz5 rfl (by unfold adf; omega) (by omega)] at hz6
  refine q_in (41 * (i + 1) + (j + 1) : Nat) ?_
  intro z7 hz7
  rw [q_cl (41 * (i + 1) + (j + 1)), hC, hz3, hz2, hz6] at hz7
  have : z7 = iI ((cst pp ff jp js i j + e : Nat) : Int) := by
    rw [hz7]
    simp only [iI_lit, iI_mul, iI_add]
    exact iI_c (by unfold cst; omega)
  rw [this]
  exact k
def arD (c : Nat → Nat → Nat) (n m i j : Nat) (C : Nat → Int32) : Prop := ∀ x y, x ≤ n → y ≤ m → (i < x ∨ (x = i ∧ j ≤ y)) → C (41 * x + y) = iI (eC c n m (n - x) (m - y))
theorem cl_leastFrom {n : Nat} {pp ff : Nat → Nat} {NP NS C : Nat → Int32} (h : alN n pp ff NP NS) {m : Nat} {jp js : Nat → Nat} {cp cs : Nat → Int32} {cz : Int32} (hs : scC m jp js cp cs cz) {i j : Nat} (hi : i ≤ n) (hj : j ≤ m) (hC : arD (cst pp ff jp js) n m i (j + 1) C) {v1 v2 a b : Int32} (e1 : v1 = iI i) (e2 : v2 = iI j) (ea : a = iI n) (eb : b = iI m) {post : Int32 → Prop} (k : post (iI (eC (cst pp ff jp js) n m (n - i) (m - j)))) : wp_X0_leastFrom NP NS C a b cp cs v1 v2 post := by
  have hn := h.1
  have hm := hs.1
  subst e1 e2 ea eb
  unfold wp_X0_leastFrom
  refine q_ne i n (fun hc => ?_) (fun hc => ?_)
  · refine q_ne j m (fun hc2 => ?_) (fun hc2 => ?_)
    · refine q_in (41 * i + (j + 1) : Nat) ?_
      refine q_in (41 * (i + 1) + j : Nat) ?_
      have x1 := hC (i + 1) j (by omega) (by omega) (by omega)
      have x2 := hC i (j + 1) (by omega) (by omega) (by omega)
      have x3 := hC (i + 1) (j + 1) (by omega) (by omega) (by omega)
      have l1 := eC_le (c := cst pp ff jp js) (n := n) (m := m) (n - (i + 1)) (m - j)
      have l2 := eC_le (c := cst pp ff jp js) (n := n) (m := m) (n - i) (m - (j + 1))
      have l3 := eC_le (c := cst pp ff jp js) (n := n) (m := m) (n - (i + 1)) (m - (j + 1))
      intro z1 hz1
      rw [i_min (a := eC (cst pp ff jp js) n m (n - (i + 1)) (m - j)) (b := eC (cst pp ff jp js) n m (n - i) (m - (j + 1))) (by rw [q_cl (41 * (i + 1) + j)]; exact x1) (by rw [q_cl (41 * i + (j + 1))]; exact x2) (by omega) (by omega)] at hz1
      have hc3 := cst_le h hs (i := i) (j := j) (by omega) (by omega)
      refine cl_costFromPair h hs (i := i) (j := j) (by omega) (by omega) x3 (by omega) rfl rfl ?_
      intro z3 hz3
      rw [i_min (a := cst pp ff jp js i j + eC (cst pp ff jp js) n m (n - (i + 1)) (m - (j + 1))) (b := 5 + min (eC (cst pp ff jp js) n m (n - (i + 1)) (m - j)) (eC (cst pp ff jp js) n m (n - i) (m - (j + 1)))) rfl (by rw [hz1]; simp only [iI_lit, iI_add]; exact iI_c (by omega)) (by omega) (by omega)] at hz3
      obtain ⟨a, ea⟩ : ∃ a, n - i = a + 1 := ⟨n - i - 1, by omega⟩
      obtain ⟨b, eb⟩ : ∃ b, m - j = b + 1 := ⟨m - j - 1, by omega⟩
      rw [ea, eb, eC_ss, show n - (a + 1) = i by omega, show m - (b + 1) = j by omega] at k
      rw [ea, eb, show n - (i + 1) = a by omega, show m - (j + 1) = b by omega] at hz3
      rw [hz3, Nat.min_comm]
      exact k
    · rw [show m - j = 0 by omega, eC_s0] at k
      have : (iI (n : Int) - iI (i : Int)) * 5 = iI ((5 * (n - i) : Nat) : Int) := by
        simp only [iI_lit, iI_sub, iI_mul]
        exact iI_c (by omega)
      rw [this]
      exact k
  · rw [show n - i = 0 by omega, eC_00] at k
    have : (iI (m : Int) - iI (j : Int)) * 5 = iI ((5 * (m - j) : Nat) : Int) := by
      simp only [iI_lit, iI_sub, iI_mul]
      exact iI_c (by omega)
    rw [this]
    exact k
theorem cl_reckonCosts {n : Nat} {pp ff : Nat → Nat} {NP NS C : Nat → Int32} (h : alN n pp ff NP NS) {m : Nat} {jp js : Nat → Nat} {cp cs : Nat → Int32} {cz : Int32} (hs : scC m jp js cp cs cz) {a b : Int32} (ea : a = iI n) (eb : b = iI m) {post : (Nat → Int32) → Prop} (k : ∀ C', arD (cst pp ff jp js) n m 0 0 C' → post C') : wp_X0_reckonCosts NP NS a b cp cs C post := by
  have hn := h.1
  have hm := hs.1
  subst ea eb
  unfold wp_X0_reckonCosts
  have key : ∀ (t : Nat), t ≤ n + 1 → ∀ C, arD (cst pp ff jp js) n m t 0 C → wl_X0_reckonCosts_5 NP NS (iI n) (iI m) cp cs post (t + 1) (iI ((t : Int) - 1)) C := by
    intro t
    induction t with
    | zero =>
      intro ht C hC
      rw [wl_X0_reckonCosts_5]
      exact q_lt (-1) 0 (fun _ => k C hC) (fun hc => absurd hc (by omega))
    | succ t ih =>
      intro ht C hC
      rw [wl_X0_reckonCosts_5, show iI (((t + 1 : Nat) : Int) - 1) = iI t from iI_c (by omega)]
      refine q_lt t 0 (fun hc => absurd hc (by omega)) (fun _ => ?_)
      have inner : ∀ (u : Nat), u ≤ m + 1 → ∀ C, arD (cst pp ff jp js) n m t u C → wl_X0_reckonCosts_14 NP NS (iI n) (iI m) cp cs post (wl_X0_reckonCosts_5 NP NS (iI n) (iI m) cp cs post (t + 1)) (u + 1) (iI t) (iI ((u : Int) - 1)) C := by
        intro u
        induction u with
        | zero =>
          intro hu C hC
          rw [wl_X0_reckonCosts_14]
          refine q_lt (-1) 0 (fun _ => ?_) (fun hc => absurd hc (by omega))
          rw [show iI (t : Int) + (-1) = iI ((t : Int) - 1) by simp only [iI_lit, iI_neg, iI_add]; exact iI_c (by omega)]
          exact ih (by omega) C hC
        | succ u ihu =>
          intro hu C hC
          rw [wl_X0_reckonCosts_14, show iI (((u + 1 : Nat) : Int) - 1) = iI u from iI_c (by omega)]
          refine q_lt u 0 (fun hc => absurd hc (by omega)) (fun _ => ?_)
          refine cl_leastFrom h hs (i := t) (j := u) (by omega) (by omega) hC rfl rfl rfl rfl ?_
          refine q_in (41 * t + u : Nat) ?_
          rintro a2 rfl
          rw [q_cl (41 * t + u), show iI (u : Int) + (-1) = iI ((u : Int) - 1) by simp only [iI_lit, iI_neg, iI_add]; exact iI_c (by omega)]
          refine ihu (by omega) _ (fun x y hx hy hxy => ?_)
          by_cases e : x = t ∧ y = u
          · rw [e.1, e.2, pk_us]
          · rw [pk_un (by omega)]
            exact hC x y hx hy (by omega)
      refine ⟨m + 2, ?_⟩
      have := inner (m + 1) (by omega) C (fun x y hx hy hxy => hC x y hx hy (by omega))
      rw [show iI (((m + 1 : Nat) : Int) - 1) = iI m from iI_c (by omega)] at this
      exact this
  refine ⟨n + 2, ?_⟩
  have := key (n + 1) (by omega) C (fun x y hx hy hxy => absurd hxy (by omega))
  rw [show iI (((n + 1 : Nat) : Int) - 1) = iI n from iI_c (by omega)] at this
  exact this
