theorem mo_back {r n : Nat} {pp ff : Nat → Nat} {mo mp mf ml : Nat → Int32} (h : moN n pp ff mo mp mf) {m : Nat} {jp js : Nat → Nat} {cp cs : Nat → Int32} {cz : Int32} (hs : scC m jp js cp cs cz) {M : Nat → Int32} {c0 : Int32} (hM : arU (cst pp ff jp js) n m (n + 1) 0 M) {post : (Nat → Int32) → Int32 → (Nat → Int32) → (Nat → Int32) → Int32 → Int32 → Prop} (k : ∀ N', (∀ j, j < m → N' j = oE (alG pp ff jp js n m j)) → post mo (iI n) M N' c0 (iI ((n : Int) - ct (alA (alG pp ff jp js n m)) m))) : ∀ (w a b x : Nat) (N : Nat → Int32), a ≤ n → b ≤ m → a + b ≤ w → (∀ j, m - b ≤ j → wk (cst pp ff jp js) n m w a b j = alG pp ff jp js n m j) → (∀ j, j < m → N j = if j < m - b then oE (alG pp ff jp js n m j) else -1) → x + ct (alA (alG pp ff jp js n m)) (m - b) + a = n → wl_X7_aligns_280 mp mf ml (iI m) cp cs (iI r) post (w + 1) (iI a) (iI b) mo (iI n) M N c0 (iI x) := by
  have hn := h.1
  have hm := hs.1
  generalize hgg : alG pp ff jp js n m = g at k ⊢
  have done : ∀ (x : Nat) (N : Nat → Int32), (∀ j, j < m → N j = if j < m - 0 then oE (g j) else -1) → x + ct (alA g) (m - 0) + 0 = n → post mo (iI n) M N c0 (iI x) := by
    intro x N h1 h2
    have := k N (fun j hj => by rw [h1 j hj, if_pos (by omega)])
    rw [Nat.sub_zero] at h2
    rw [show ((n : Int) - ct (alA g) m) = x by omega] at this
    exact this
  intro w
  induction w with
  | zero =>
    intro a b x N ha hb hab hg hN hx
    have e1 : a = 0 := by omega
    have e2 : b = 0 := by omega
    subst e1 e2
    rw [wl_X7_aligns_280]
    refine q_lt 0 0 (fun hc => absurd hc (by omega)) (fun _ => ?_)
    exact q_le 0 0 (fun _ => done x N hN hx) (fun hc => absurd hc (by omega))
  | succ w ih =>
    intro a b x N ha hb hab hg hN hx
    have l0 := eC_le (c := cst pp ff jp js) (n := n) (m := m) a b
    have l2 := eC_le (c := cst pp ff jp js) (n := n) (m := m) a (b - 1)
    have l3 := eC_le (c := cst pp ff jp js) (n := n) (m := m) (a - 1) (b - 1)
    have m0 := hM a b (by omega) (by omega) (by omega)
    have m2 := hM a (b - 1) (by omega) (by omega) (by omega)
    have m3 := hM (a - 1) (b - 1) (by omega) (by omega) (by omega)
    have eb1 : 0 < b → m - b + 1 = m - (b - 1) := fun _ => by omega
    have am1 : 0 < a → iI (a : Int) + (-1) = iI ((a - 1 : Nat) : Int) := fun _ => by
      simp only [iI_lit, iI_neg, iI_add]
      exact iI_c (by omega)
    have bm1 : 0 < b → iI (b : Int) + (-1) = iI ((b - 1 : Nat) : Int) := fun _ => by
      simp only [iI_lit, iI_neg, iI_add]
      exact iI_c (by omega)
    have f402 : 0 < a → ¬ (0 < a ∧ 0 < b ∧ cst pp ff jp js (n - a) (m - b) + eC (cst pp ff jp js) n m (a - 1) (b - 1) = eC (cst pp ff jp js) n m a b) → ¬ (0 < b ∧ (a = 0 ∨ 5 + eC (cst pp ff jp js) n m a (b - 1) = eC (cst pp ff jp js) n m a b)) → wl_X7_aligns_402 mp mf ml (iI m) cp cs (iI r) post (wl_X7_aligns_280 mp mf ml (iI m) cp cs (iI r) post (w + 1)) (iI a) (iI b) mo (iI n) M N c0 (iI x) := by
      intro h0 c1 c2
      unfold wl_X7_aligns_402
      rw [am1 h0, i_p1]
      refine ih (a - 1) b (x + 1) N (by omega) hb (by omega) (fun j hj => ?_) hN (by omega)
      have := hg j hj
      rw [wk, if_neg c1, if_neg c2] at this
      exact this
    have f372 : (0 < a ∨ 0 < b) → ¬ (0 < a ∧ 0 < b ∧ cst pp ff jp js (n - a) (m - b) + eC (cst pp ff jp js) n m (a - 1) (b - 1) = eC (cst pp ff jp js) n m a b) → wl_X7_aligns_372 mp mf ml (iI m) cp cs (iI r) post (wl_X7_aligns_280 mp mf ml (iI m) cp cs (iI r) post (w + 1)) (iI a) (iI b) (iI (eC (cst pp ff jp js) n m a b)) mo (iI n) M N c0 (iI x) := by
      intro h0 c1
      unfold wl_X7_aligns_372
      refine q_le b 0 (fun hc => f402 (by omega) c1 (by omega)) (fun hc => ?_)
      have em : M (41 * iI (a : Int) + iI (b : Int) - 1).toNatClampNeg = iI (eC (cst pp ff jp js) n m a (b - 1)) := by
        rw [q_cl (41 * a + (b - 1))]; exact m2
      refine q_in (41 * a + (b - 1) : Nat) ?_
      rw [em]
      have hA : a = 0 → 5 + eC (cst pp ff jp js) n m a (b - 1) = eC (cst pp ff jp js) n m a b := fun e => by
        subst e
        rw [eC_00, eC_00]
        omega
      refine q_ne (eC (cst pp ff jp js) n m a (b - 1) + 5) (eC (cst pp ff jp js) n m a b) (fun hc2 => ?_) (fun hc2 => ?_)
      · have a0 : 0 < a := by
          rcases Nat.eq_zero_or_pos a with q | q
          · have := hA q; omega
          · exact q
        exact f402 a0 c1 (by omega)
      · have hg2 : ∀ j, m - b ≤ j → wk (cst pp ff jp js) n m w a (b - 1) j = g j := by
          intro j hj
          have := hg j hj
          rw [wk, if_neg c1, if_pos ⟨by omega, Or.inr (by omega)⟩] at this
          exact this
        have gn : g (m - b) = none := by
          rw [← hg2 (m - b) (Nat.le_refl _)]
          exact wk_lo (by omega) (by omega)
        have hct := ct_f (alA_n gn)
        rw [eb1 (by omega)] at hct
        rw [bm1 (by omega)]
        refine ih a (b - 1) x N ha (by omega) (by omega) (fun j hj => hg2 j (by omega)) (fun j hj => ?_) (by omega)
        rw [hN j hj]
        by_cases e : j = m - b
        · rw [e, if_neg (by omega), if_pos (by omega), gn]; rfl
        · by_cases e2 : j < m - b
          · rw [if_pos e2, if_pos (by omega)]
          · rw [if_neg e2, if_neg (by omega)]
    have f288 : (0 < a ∨ 0 < b) → wl_X7_aligns_288 mp mf ml (iI m) cp cs (iI r) post (wl_X7_aligns_280 mp mf ml (iI m) cp cs (iI r) post (w + 1)) (iI a) (iI b) mo (iI n) M N c0 (iI x) := by
      intro h0
      unfold wl_X7_aligns_288
      have em0 : M (41 * iI (a : Int) + iI (b : Int)).toNatClampNeg = iI (eC (cst pp ff jp js) n m a b) := by
        rw [q_cl (41 * a + b)]; exact m0
      refine q_in (41 * a + b : Nat) ?_
      rw [em0]
      rintro z12 rfl
      refine q_le a 0 (fun hc => f372 h0 (by omega)) (fun hc => ?_)
      refine q_le b 0 (fun hc2 => f372 h0 (by omega)) (fun hc2 => ?_)
      have em : M (41 * (iI (a : Int) - 1) + iI (b : Int) - 1).toNatClampNeg = iI (eC (cst pp ff jp js) n m (a - 1) (b - 1)) := by
        rw [q_cl (41 * (a - 1) + (b - 1))]; exact m3
      refine q_in (41 * (a - 1) + (b - 1) : Nat) ?_
      rw [em]
      have en : iI (n : Int) - iI (a : Int) = iI ((n - a : Nat) : Int) := by rw [iI_sub]; exact iI_c (by omega)
      have emb : iI (m : Int) - iI (b : Int) = iI ((m - b : Nat) : Int) := by rw [iI_sub]; exact iI_c (by omega)
      have hcs := mo_cst_le h hs (i := n - a) (j := m - b) (by omega) (by omega)
      refine mo_pairs h hs (i := n - a) (j := m - b) (by omega) (by omega) en emb ?_
      refine q_ne ((eC (cst pp ff jp js) n m (a - 1) (b - 1) : Int) + cst pp ff jp js (n - a) (m - b)) (eC (cst pp ff jp js) n m a b) (fun hc3 => f372 h0 (by omega)) (fun hc3 => ?_)
      have hcond : 0 < a ∧ 0 < b ∧ cst pp ff jp js (n - a) (m - b) + eC (cst pp ff jp js) n m (a - 1) (b - 1) = eC (cst pp ff jp js) n m a b := ⟨by omega, by omega, by omega⟩
      have hg2 : ∀ j, m - b ≤ j → nu (wk (cst pp ff jp js) n m w (a - 1) (b - 1)) (m - b) (some (n - a)) j = g j := by
        intro j hj
        have := hg j hj
        rw [wk, if_pos hcond] at this
        exact this
      have gs : g (m - b) = some (n - a) := by
        rw [← hg2 (m - b) (Nat.le_refl _), nu_s]
      have hct := ct_t (alA_s gs)
      rw [eb1 (by omega)] at hct
      rw [en, emb]
      refine q_in (m - b : Nat) ?_
      rintro a14 rfl
      rw [q_cl (m - b), am1 (by omega), bm1 (by omega)]
      refine ih (a - 1) (b - 1) x _ (by omega) (by omega) (by omega) (fun j hj => ?_) (fun j hj => ?_) (by omega)
      · have := hg2 j (by omega)
        rw [nu_n _ _ (by omega)] at this
        exact this
      · by_cases e : j = m - b
        · rw [e, pk_us, if_pos (by omega), gs]; rfl
        · rw [pk_un e, hN j hj]
          by_cases e2 : j < m - b
          · rw [if_pos e2, if_pos (by omega)]
          · rw [if_neg e2, if_neg (by omega)]
    rw [wl_X7_aligns_280]
    refine q_lt 0 a (fun hc => f288 (by omega)) (fun hc => ?_)
    refine q_le b 0 (fun hc2 => ?_) (fun hc2 => f288 (by omega))
    have e1 : a = 0 := by omega
    have e2 : b = 0 := by omega
    subst e1 e2
    exact done x N hN hx
theorem mo_aligns {r n : Nat} {nt : Nat → Nat → Nat} {pp0 ff0 : Nat → Nat} {mp mf ml mo : Nat → Int32} (hr : r < 6) (hv : nV nt) (hE : nE nt n pp0 ff0) {pp ff ll : Nat → Nat} (hA : slA r pp ff ll mp mf ml) (hB : slB nt n pp ff ll) {m : Nat} {jp js : Nat → Nat} {cp cs : Nat → Int32} {cz : Int32} (hs : scC m jp js cp cs cz) {M N : Nat → Int32} {mm c0 x0 : Int32} {post : (Nat → Int32) → Int32 → (Nat → Int32) → (Nat → Int32) → Int32 → Int32 → Prop} (k : ∀ mo' o M' N', orI r pp ff ll 60 n o mo' → (∀ i, i < n → pp0 i = pp (o i) ∧ ff0 i = ff (o i)) → (∀ j, j < m → N' j = oE (alG pp0 ff0 jp js n m j)) → post mo' (iI n) M' N' (iI (eC (cst pp0 ff0 jp js) n m n m)) (iI ((n : Int) - ct (alA (alG pp0 ff0 jp js n m)) m))) : wp_X7_aligns mp mf ml cz cp cs (iI r) mo mm M N c0 x0 post := by
  have hn : n ≤ 60 := by rw [← hB.2.2.2]; exact ct_le _ _
  have hm := hs.1
  have ez := hs.2.1
  unfold wp_X7_aligns
  refine mo_orders hA hr hB.2.2.1 (fun mo' o ho => ?_)
  rw [hB.2.2.2] at ho ⊢
  have hE2 := slB_E hB ho
  have hat := fun i hi => nE_at hE hE2 i hi hi
  have h : moN n pp0 ff0 mo' mp mf := by
    refine ⟨hn, fun i hi => ?_⟩
    obtain ⟨w1, w2, w3⟩ := ho.1 i hi
    obtain ⟨a1, a2, a3, a4, a5, a6, a7⟩ := hA (o i) w1
    obtain ⟨e1, e2⟩ := hat i hi
    exact ⟨60 * r + o i, by omega, w3, by rw [a5, e1], by rw [a6, e2], by rw [e1]; exact a1, by rw [e2]; exact a2⟩
  have k2 := fun M' N' => k mo' o M' N' ho hat
  rw [ez]
  have fill : ∀ (M : Nat → Int32), arU (cst pp0 ff0 jp js) n m (n + 1) 0 M → ∀ (j i : Nat) (N : Nat → Int32), i + j = m → (∀ x, x < i → N x = -1) → wl_X7_aligns_257 mp mf ml (iI m) cp cs (iI r) post (j + 1) (iI n) (iI m) (iI i) mo' (iI n) M N (iI (eC (cst pp0 ff0 jp js) n m n m)) 0 := by
    intro M hM j
    induction j with
    | zero =>
      intro i N hi hN
      have e : i = m := by omega
      subst e
      rw [wl_X7_aligns_257]
      refine q_le i i (fun _ => ?_) (fun hc => absurd hc (by omega))
      refine ⟨n + i + 1, mo_back h hs hM (fun N' hN' => k2 M N' hN') (n + i) n i 0 N (by omega) (by omega) (by omega) (fun j _ => rfl) (fun j hj => ?_) ?_⟩
      · rw [if_neg (by omega)]; exact hN j hj
      · rw [show i - i = 0 by omega]; simp [ct]
    | succ j ih =>
      intro i N hi hN
      rw [wl_X7_aligns_257]
      refine q_le m i (fun hc => absurd hc (by omega)) (fun _ => ?_)
      refine q_in i ?_
      rintro a11 rfl
      rw [q_cl i, i_p1]
      refine ih (i + 1) _ (by omega) (fun x hx => ?_)
      by_cases e : x = i
      · rw [e, pk_us]
      · rw [pk_un e]; exact hN x (by omega)
  have outer : ∀ (j a : Nat) (M : Nat → Int32), a + j = n + 1 → arU (cst pp0 ff0 jp js) n m a 0 M → wl_X7_aligns_7 mp mf ml (iI m) cp cs (iI r) post (j + 1) (iI a) mo' (iI n) M N c0 x0 := by
    intro j
    induction j with
    | zero =>
      intro a M ha hM
      have e : a = n + 1 := by omega
      subst e
      rw [wl_X7_aligns_7]
      refine q_lt n (n + 1 : Nat) (fun _ => ?_) (fun hc => absurd hc (by omega))
      refine q_in (41 * n + m : Nat) ?_
      rw [q_cl (41 * n + m), hM n m (by omega) (by omega) (by omega)]
      rintro z3 rfl
      exact ⟨m + 1, fill M hM m 0 N (by omega) (fun x hx => absurd hx (by omega))⟩
    | succ j ih =>
      intro a M ha hM
      rw [wl_X7_aligns_7]
      refine q_lt n a (fun hc => absurd hc (by omega)) (fun _ => ?_)
      have inner : ∀ (y b : Nat) (M : Nat → Int32), b + y = m + 1 → arU (cst pp0 ff0 jp js) n m a b M → wl_X7_aligns_17 mp mf ml (iI m) cp cs (iI r) post (wl_X7_aligns_7 mp mf ml (iI m) cp cs (iI r) post (j + 1)) (y + 1) (iI a) (iI b) mo' (iI n) M N c0 x0 := by
        intro y
        induction y with
        | zero =>
          intro b M hb hM
          have e : b = m + 1 := by omega
          subst e
          rw [wl_X7_aligns_17]
          refine q_lt m (m + 1 : Nat) (fun _ => ?_) (fun hc => absurd hc (by omega))
          rw [i_p1]
          exact ih (a + 1) M (by omega) (fun x y hx hy hxy => hM x y hx hy (by omega))
        | succ y ihy =>
          intro b M hb hM
          exact mo_alCell h hs (by omega) (by omega) hM (fun M' hM' => ihy (b + 1) M' (by omega) hM')
      exact ⟨m + 2, inner (m + 1) 0 M (by omega) (fun x y hx hy hxy => hM x y hx hy (by omega))⟩
  exact ⟨n + 2, outer (n + 1) 0 M (by omega) (fun x y hx hy hxy => absurd hxy (by omega))⟩
