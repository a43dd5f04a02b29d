/-! the choice among the alignments of least cost: which note an item has -/
def wk (c : Nat → Nat → Nat) (n m : Nat) : Nat → Nat → Nat → Nat → Option Nat
  | 0, _, _ => fun _ => none
  | fu + 1, a, b => if 0 < a ∧ 0 < b ∧ c (n - a) (m - b) + eC c n m (a - 1) (b - 1) = eC c n m a b then nu (wk c n m fu (a - 1) (b - 1)) (m - b) (some (n - a)) else if 0 < b ∧ (a = 0 ∨ 5 + eC c n m a (b - 1) = eC c n m a b) then wk c n m fu a (b - 1) else wk c n m fu (a - 1) b
theorem wk_lo {c : Nat → Nat → Nat} {n m : Nat} : ∀ {fu a b j : Nat}, b ≤ m → j < m - b → wk c n m fu a b j = none
  | 0, _, _, _, _, _ => rfl
  | fu + 1, a, b, j, hb, hj => by
    rw [wk]
    split
    · rw [nu_n _ _ (by omega)]
      exact wk_lo (by omega) (by omega)
    · split
      · exact wk_lo (by omega) (by omega)
      · exact wk_lo hb hj
theorem wk_rng {c : Nat → Nat → Nat} {n m : Nat} : ∀ {fu a b j i : Nat}, a ≤ n → b ≤ m → wk c n m fu a b j = some i → n - a ≤ i ∧ i < n ∧ j < m
  | 0, _, _, _, _, _, _, h => by cases h
  | fu + 1, a, b, j, i, ha, hb, h => by
    rw [wk] at h
    split at h
    · rename_i hq
      by_cases e : j = m - b
      · rw [e, nu_s] at h
        injection h with h
        omega
      · rw [nu_n _ _ e] at h
        have := wk_rng (by omega) (by omega) h
        omega
    · split at h
      · have := wk_rng ha (by omega) h
        omega
      · have := wk_rng (by omega) hb h
        omega
theorem wk_mono {c : Nat → Nat → Nat} {n m : Nat} : ∀ {fu a b j j' i i' : Nat}, a ≤ n → b ≤ m → j < j' → wk c n m fu a b j = some i → wk c n m fu a b j' = some i' → i < i'
  | 0, _, _, _, _, _, _, _, _, _, h, _ => by cases h
  | fu + 1, a, b, j, j', i, i', ha, hb, hj, h, h' => by
    rw [wk] at h h'
    split at h
    · rename_i hq
      rw [if_pos hq] at h'
      by_cases e' : j' = m - b
      · rw [nu_n _ _ (by omega), wk_lo (by omega) (by omega)] at h
        cases h
      · rw [nu_n _ _ e'] at h'
        by_cases e : j = m - b
        · rw [e, nu_s] at h
          injection h with h
          have := wk_rng (by omega) (by omega) h'
          omega
        · rw [nu_n _ _ e] at h
          exact wk_mono (by omega) (by omega) hj h h'
    · rename_i hq
      rw [if_neg hq] at h'
      split at h
      · rename_i hq2
        rw [if_pos hq2] at h'
        exact wk_mono ha (by omega) hj h h'
      · rename_i hq2
        rw [if_neg hq2] at h'
        exact wk_mono (by omega) hb hj h h'
def alG (pp ff jp js : Nat → Nat) (n m : Nat) : Nat → Option Nat := wk (cst pp ff jp js) n m (n + m) n m
def alA (g : Nat → Option Nat) (j : Nat) : Bool := match g j with
  | some _ => true
  | none => false
def alB (pp jp : Nat → Nat) (g : Nat → Option Nat) (j : Nat) : Bool := match g j with
  | some i => decide (pp i ≠ jp j)
  | none => false
theorem alA_n {g : Nat → Option Nat} {j : Nat} (h : g j = none) : alA g j = false := by simp only [alA, h]
theorem alA_s {g : Nat → Option Nat} {j i : Nat} (h : g j = some i) : alA g j = true := by simp only [alA, h]
theorem alB_n {pp jp : Nat → Nat} {g : Nat → Option Nat} {j : Nat} (h : g j = none) : alB pp jp g j = false := by simp only [alB, h]
theorem alB_s {pp jp : Nat → Nat} {g : Nat → Option Nat} {j i : Nat} (h : g j = some i) : alB pp jp g j = decide (pp i ≠ jp j) := by simp only [alB, h]
theorem ct_t {p : Nat → Bool} {n : Nat} (h : p n = true) : ct p (n + 1) = ct p n + 1 := by rw [ct, h]; rfl
theorem ct_f {p : Nat → Bool} {n : Nat} (h : p n = false) : ct p (n + 1) = ct p n := by rw [ct, h]; rfl
theorem i_p1 (k : Nat) : iI (k : Int) + 1 = iI ((k + 1 : Nat) : Int) := by
  simp only [iI_lit, iI_add]
  exact iI_c (by omega)
theorem i_m1 (k : Nat) : iI ((k + 1 : Nat) : Int) + (-1) = iI (k : Int) := by
  simp only [iI_lit, iI_neg, iI_add]
  exact iI_c (by omega)
theorem cl_pair {n : Nat} {pp ff : Nat → Nat} {NP NS N : Nat → Int32} (h : alN n pp ff NP NS) {m : Nat} {jp js : Nat → Nat} {cp cs : Nat → Int32} {cz : Int32} (hs : scC m jp js cp cs cz) {g : Nat → Option Nat} {i j : Nat} (hi : i < n) (hj : j < m) (hg : g j = some i) {v1 v2 : Int32} (e1 : v1 = iI i) (e2 : v2 = iI j) {post : (Nat → Int32) → Int32 → Int32 → Int32 → Prop} (k : post (upd N j (iI i)) (iI (ct (alA g) (j + 1))) (iI (ct (alB pp jp g) (j + 1))) (iI (ct (alB ff js g) (j + 1)))) : wp_X0_pair NP NS cp cs v1 v2 N (iI (ct (alA g) j)) (iI (ct (alB pp jp g) j)) (iI (ct (alB ff js g) j)) post := by
  obtain ⟨a1, a2, a3, a4⟩ := h.2 i hi
  obtain ⟨b1, b2, b3, b4⟩ := hs.2.2 j hj
  have hn := h.1
  have hm := hs.1
  subst e1 e2
  have ci : (iI (i : Int)).toNatClampNeg = i := q_cl i
  have cj : (iI (j : Int)).toNatClampNeg = j := q_cl j
  have fin : ∀ q : Nat, q = ct (alB pp jp g) (j + 1) → wl_X0_pair_41 NP NS cp cs (iI i) (iI j) post (upd N j (iI i)) (iI (ct (alA g) j) + 1) (iI q) (iI (ct (alB ff js g) j)) := by
    rintro q rfl
    unfold wl_X0_pair_41 wp_X5_stepOf
    refine q_in i ?_
    refine q_in j ?_
    dsimp only
    rw [ci, cj, a4, b4, i_p1, ← ct_t (alA_s hg)]
    refine q_eq (ff i) (js j) (fun hc => ?_) (fun hc => ?_)
    · rw [ct_f (p := alB ff js g) (by rw [alB_s hg]; exact decide_eq_false (by omega))] at k
      exact k
    · rw [ct_t (p := alB ff js g) (by rw [alB_s hg]; exact decide_eq_true (by omega)), ← i_p1] at k
      exact k
  unfold wp_X0_pair wp_X5_pitchOf
  refine q_in j ?_
  rintro w rfl
  refine q_in i ?_
  refine q_in j ?_
  dsimp only
  rw [ci, cj, a3, b3]
  refine q_eq (pp i) (jp j) (fun hc => ?_) (fun hc => ?_)
  · exact fin _ (ct_f (p := alB pp jp g) (by rw [alB_s hg]; exact decide_eq_false (by omega))).symm
  · rw [i_p1 (ct (alB pp jp g) j)]
    exact fin _ (ct_t (p := alB pp jp g) (by rw [alB_s hg]; exact decide_eq_true (by omega))).symm
theorem cl_choose {n : Nat} {pp ff : Nat → Nat} {NP NS N C : Nat → Int32} (h : alN n pp ff NP NS) {m : Nat} {jp js : Nat → Nat} {cp cs : Nat → Int32} {cz : Int32} (hs : scC m jp js cp cs cz) (hC : arD (cst pp ff jp js) n m 0 0 C) {a0 b0 p0 q0 r0 : Int32} (ea : a0 = iI n) (eb : b0 = iI m) {post : (Nat → Int32) → Int32 → Int32 → Int32 → Prop} (k : ∀ N', (∀ j, j < m → N' j = oE (alG pp ff jp js n m j)) → post N' (iI (ct (alA (alG pp ff jp js n m)) m)) (iI (ct (alB pp jp (alG pp ff jp js n m)) m)) (iI (ct (alB ff js (alG pp ff jp js n m)) m))) : wp_X0_choose NP NS C a0 b0 cp cs N p0 q0 r0 post := by
  have hn := h.1
  have hm := hs.1
  subst ea eb
  have key : ∀ (w a b : Nat) (N : Nat → Int32), a ≤ n → b ≤ m → a + b ≤ w → w ≤ 100 → (∀ j, m - b ≤ j → wk (cst pp ff jp js) n m w a b j = alG pp ff jp js n m j) → (∀ j, j < m - b → N j = oE (alG pp ff jp js n m j)) → wl_X0_choose_30 NP NS C (iI n) (iI m) cp cs post (w + 1) (iI ((n - a : Nat) : Int)) (iI ((m - b : Nat) : Int)) (iI w) N (iI (ct (alA (alG pp ff jp js n m)) (m - b))) (iI (ct (alB pp jp (alG pp ff jp js n m)) (m - b))) (iI (ct (alB ff js (alG pp ff jp js n m)) (m - b))) := by
    intro w
    generalize hgg : alG pp ff jp js n m = g at k ⊢
    induction w with
    | zero =>
      intro a b N ha hb hab hw hg hN
      rw [wl_X0_choose_30]
      have e : b = 0 := by omega
      subst e
      exact q_le 0 0 (fun _ => k N (fun j hj => hN j (by omega))) (fun hc => absurd hc (by omega))
    | succ w ih =>
      intro a b N ha hb hab hw hg hN
      rw [wl_X0_choose_30]
      refine q_le (w + 1 : Nat) 0 (fun hc => absurd hc (by omega)) (fun _ => ?_)
      refine q_le m (m - b : Nat) (fun hc => ?_) (fun hc => ?_)
      · have e : b = 0 := by omega
        subst e
        exact k N (fun j hj => hN j (by omega))
      · refine q_in (41 * (n - a) + (m - b) : Nat) ?_
        have x0 := hC (n - a) (m - b) (by omega) (by omega) (by omega)
        rw [show n - (n - a) = a by omega, show m - (m - b) = b by omega] at x0
        rw [q_cl (41 * (n - a) + (m - b)), x0, i_m1]
        have l0 := eC_le (c := cst pp ff jp js) (n := n) (m := m) a b
        have eb1 : m - b + 1 = m - (b - 1) := by omega
        rintro z1 rfl
        have miss : ¬ (0 < a ∧ 0 < b ∧ cst pp ff jp js (n - a) (m - b) + eC (cst pp ff jp js) n m (a - 1) (b - 1) = eC (cst pp ff jp js) n m a b) → (a = 0 ∨ 5 + eC (cst pp ff jp js) n m a (b - 1) = eC (cst pp ff jp js) n m a b) → wl_X0_choose_120 NP NS C (iI n) (iI m) cp cs post (wl_X0_choose_30 NP NS C (iI n) (iI m) cp cs post (w + 1)) (iI ((n - a : Nat) : Int)) (iI ((m - b : Nat) : Int)) (iI ((w + 1 : Nat) : Int)) N (iI (ct (alA g) (m - b))) (iI (ct (alB pp jp g) (m - b))) (iI (ct (alB ff js g) (m - b))) := by
          intro c1 c2
          have hg2 : ∀ j, m - b ≤ j → wk (cst pp ff jp js) n m w a (b - 1) j = g j := by
            intro j hj
            have := hg j hj
            rw [wk, if_neg c1, if_pos ⟨by omega, c2⟩] at this
            exact this
          have gn : g (m - b) = none := by
            rw [← hg2 (m - b) (Nat.le_refl _)]
            exact wk_lo (by omega) (by omega)
          unfold wl_X0_choose_120
          refine q_in (m - b : Nat) ?_
          rintro a7 rfl
          have cj : (iI ((m - b : Nat) : Int)).toNatClampNeg = m - b := q_cl (m - b)
          rw [cj, i_p1, i_m1, ← ct_f (alA_n gn), ← ct_f (alB_n (pp := pp) (jp := jp) gn), ← ct_f (alB_n (pp := ff) (jp := js) gn), eb1]
          refine ih a (b - 1) _ ha (by omega) (by omega) (by omega) (fun j hj => hg2 j (by omega)) (fun j hj => ?_)
          by_cases e : j = m - b
          · rw [e, pk_us, gn]; rfl
          · rw [pk_un e]; exact hN j (by omega)
        refine q_le n (n - a : Nat) (fun hc2 => ?_) (fun hc2 => ?_)
        · have e : a = 0 := by omega
          unfold wl_X0_choose_92
          refine q_eq (n - a : Nat) n (fun _ => miss (by omega) (Or.inl e)) (fun hq => absurd hq (by omega))
        · have x1 := hC (n - a + 1) (m - b + 1) (by omega) (by omega) (by omega)
          rw [show n - (n - a + 1) = a - 1 by omega, show m - (m - b + 1) = b - 1 by omega] at x1
          have l1 := eC_le (c := cst pp ff jp js) (n := n) (m := m) (a - 1) (b - 1)
          have l3 := cst_le h hs (i := n - a) (j := m - b) (by omega) (by omega)
          refine cl_costFromPair h hs (i := n - a) (j := m - b) (by omega) (by omega) x1 (by omega) rfl rfl ?_
          refine q_ne ((cst pp ff jp js (n - a) (m - b) + eC (cst pp ff jp js) n m (a - 1) (b - 1) : Nat) : Int) (eC (cst pp ff jp js) n m a b) (fun hc3 => ?_) (fun hc3 => ?_)
          · unfold wl_X0_choose_92
            refine q_eq (n - a : Nat) n (fun hq => absurd hq (by omega)) (fun _ => ?_)
            refine q_in (41 * (n - a) + (m - b + 1) : Nat) ?_
            have x2 := hC (n - a) (m - b + 1) (by omega) (by omega) (by omega)
            rw [show n - (n - a) = a by omega, show m - (m - b + 1) = b - 1 by omega] at x2
            have l2 := eC_le (c := cst pp ff jp js) (n := n) (m := m) a (b - 1)
            rw [q_cl (41 * (n - a) + (m - b + 1)), x2]
            refine q_ne (5 + eC (cst pp ff jp js) n m a (b - 1)) (eC (cst pp ff jp js) n m a b) (fun hc4 => ?_) (fun hc4 => ?_)
            · rw [i_p1, i_m1, show n - a + 1 = n - (a - 1) by omega]
              refine ih (a - 1) b N (by omega) hb (by omega) (by omega) (fun j hj => ?_) hN
              have := hg j hj
              rw [wk, if_neg (by omega), if_neg (by omega)] at this
              exact this
            · exact miss (by omega) (Or.inr (by omega))
          · have hcond : 0 < a ∧ 0 < b ∧ cst pp ff jp js (n - a) (m - b) + eC (cst pp ff jp js) n m (a - 1) (b - 1) = eC (cst pp ff jp js) n m a b := ⟨by omega, by omega, by omega⟩
            have hg2 : ∀ j, m - b ≤ j → nu (wk (cst pp ff jp js) n m w (a - 1) (b - 1)) (m - b) (some (n - a)) j = g j := by
              intro j hj
              have := hg j hj
              rw [wk, if_pos hcond] at this
              exact this
            have gs : g (m - b) = some (n - a) := by
              rw [← hg2 (m - b) (Nat.le_refl _), nu_s]
            refine cl_pair h hs (i := n - a) (j := m - b) (by omega) (by omega) gs rfl rfl ?_
            rw [i_p1, i_p1, eb1, show n - a + 1 = n - (a - 1) by omega]
            refine ih (a - 1) (b - 1) _ (by omega) (by omega) (by omega) (by omega) (fun j hj => ?_) (fun j hj => ?_)
            · have := hg2 j (by omega)
              rw [nu_n _ _ (by omega)] at this
              exact this
            · by_cases e : j = m - b
              · rw [e, pk_us, gs]; rfl
              · rw [pk_un e]; exact hN j (by omega)
  unfold wp_X0_choose
  refine ⟨n + m + 1, ?_⟩
  have := key (n + m) n m N (Nat.le_refl _) (Nat.le_refl _) (Nat.le_refl _) (by omega) (fun j _ => rfl) (fun j hj => absurd hj (by omega))
  rw [show n - n = 0 by omega, show m - m = 0 by omega] at this
  have e : iI (n : Int) + iI (m : Int) = iI ((n + m : Nat) : Int) := iI_s n m
  rw [e]
  exact this
