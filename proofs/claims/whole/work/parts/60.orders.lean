/-! the order of the places' notes -/
def lx (pp ff : Nat → Nat) (x y : Nat) : Prop := ff x < ff y ∨ (ff x = ff y ∧ pp x < pp y)
theorem mo_isAhead {r : Nat} {pp ff ll : Nat → Nat} {mp mf ml : Nat → Int32} (h : slA r pp ff ll mp mf ml) (hr : r < 6) {i j : Nat} (hi : i < 60) (hj : j < 60) {v1 v2 : Int32} (e1 : v1 = iI ((60 * r + i : Nat) : Int)) (e2 : v2 = iI ((60 * r + j : Nat) : Int)) {post : Int32 → Prop} (k1 : lx pp ff i j → post 1) (k0 : ¬ lx pp ff i j → post 0) : wp_X7_isAhead mp mf v1 v2 post := by
  obtain ⟨a1, a2, a3, a4, a5, a6, a7⟩ := h i hi
  obtain ⟨b1, b2, b3, b4, b5, b6, b7⟩ := h j hj
  unfold lx at k1 k0
  unfold wp_X7_isAhead
  refine q_in (60 * r + i : Nat) ?_ e1
  refine q_in (60 * r + j : Nat) ?_ e2
  rw [q_cl (60 * r + i) e1, q_cl (60 * r + j) e2, a5, a6, b5, b6]
  refine q_eq (ff i) (ff j) (fun hc => ?_) (fun hc => ?_)
  · refine q_in (60 * r + i : Nat) ?_ e1
    refine q_in (60 * r + j : Nat) ?_ e2
    exact q_le (pp j) (pp i) (fun hc2 => k0 (by omega)) (fun hc2 => k1 (by omega))
  · refine q_in (60 * r + i : Nat) ?_ e1
    refine q_in (60 * r + j : Nat) ?_ e2
    exact q_le (ff j) (ff i) (fun hc2 => k0 (by omega)) (fun hc2 => k1 (by omega))
/-- the first m entries of a row of places are o 0 .. o (m-1): nonempty ones among the first i, in order -/
def orI (r : Nat) (pp ff ll : Nat → Nat) (i m : Nat) (o : Nat → Nat) (mo : Nat → Int32) : Prop := (∀ x, x < m → o x < i ∧ 0 < ll (o x) ∧ mo x = iI ((60 * r + o x : Nat) : Int)) ∧ (∀ x y, x < y → y < m → lx pp ff (o x) (o y)) ∧ (∀ j, j < i → 0 < ll j → ∃ x, x < m ∧ o x = j)
theorem mo_orders {r : Nat} {pp ff ll : Nat → Nat} {mp mf ml mo : Nat → Int32} {mm : Int32} (h : slA r pp ff ll mp mf ml) (hr : r < 6) (hd : ∀ i j, i < 60 → j < 60 → 0 < ll i → 0 < ll j → pp i = pp j → ff i = ff j → i = j) {post : (Nat → Int32) → Int32 → Prop} (k : ∀ mo' o, orI r pp ff ll 60 (ct (fun j => decide (0 < ll j)) 60) o mo' → post mo' (iI (ct (fun j => decide (0 < ll j)) 60))) : wp_X7_orders mp mf ml (iI r) mo mm post := by
  unfold wp_X7_orders
  rintro z rfl
  have e0 : 60 * iI (r : Int) = iI ((60 * r + 0 : Nat) : Int) := by
    simp only [iI_lit, iI_mul]
    exact iI_c (by omega)
  have key : ∀ (j i : Nat) (mo : Nat → Int32) (o : Nat → Nat), i + j = 60 → orI r pp ff ll i (ct (fun j => decide (0 < ll j)) i) o mo → wl_X7_orders_10 mp mf ml (iI r) post (j + 1) (iI ((60 * r + i : Nat) : Int)) mo (iI (ct (fun j => decide (0 < ll j)) i)) := by
    intro j
    induction j with
    | zero =>
      intro i mo o hi ho
      have e : i = 60 := by omega
      subst e
      rw [wl_X7_orders_10]
      exact q_le (60 * r + 60) (60 * r + 60 : Nat) (fun _ => k mo o ho) (fun hc => absurd hc (by omega))
    | succ j ih =>
      intro i mo o hi ho
      obtain ⟨a1, a2, a3, a4, a5, a6, a7⟩ := h i (by omega)
      obtain ⟨o1, o2, o3⟩ := ho
      have hct := ct_le (fun j => decide (0 < ll j)) i
      have hcs : ct (fun j => decide (0 < ll j)) (i + 1) = ct (fun j => decide (0 < ll j)) i + (if decide (0 < ll i) = true then 1 else 0) := rfl
      generalize hm : ct (fun j => decide (0 < ll j)) i = m at o1 o2 o3 hct hcs
      have ei : iI ((60 * r + i : Nat) : Int) + 1 = iI ((60 * r + (i + 1) : Nat) : Int) := by
        simp only [iI_lit, iI_add]
        exact iI_c (by omega)
      rw [wl_X7_orders_10]
      refine q_le (60 * r + 60) (60 * r + i : Nat) (fun hc => absurd hc (by omega)) (fun _ => ?_)
      refine q_in (60 * r + i : Nat) ?_
      rw [q_cl (60 * r + i), a7, ei]
      refine q_ne (ll i) 0 (fun hc => ?_) (fun hc => ?_)
      · rw [if_pos (decide_eq_true (by omega))] at hcs
        have inner : ∀ (t : Nat) (mo : Nat → Int32), t ≤ m → (∀ x, x < t → mo x = iI ((60 * r + o x : Nat) : Int)) → (∀ x, t ≤ x → x < m → mo (x + 1) = iI ((60 * r + o x : Nat) : Int) ∧ lx pp ff i (o x)) → wl_X7_orders_38 mp mf ml (iI r) post (wl_X7_orders_10 mp mf ml (iI r) post (j + 1)) (t + 1) (iI ((60 * r + i : Nat) : Int)) (iI t) mo (iI m) := by
          intro t
          have fin : ∀ (t : Nat) (mo : Nat → Int32), t ≤ m → (∀ x, x < t → mo x = iI ((60 * r + o x : Nat) : Int)) → (∀ x, t ≤ x → x < m → mo (x + 1) = iI ((60 * r + o x : Nat) : Int) ∧ lx pp ff i (o x)) → (∀ x, x < t → lx pp ff (o x) i) → wl_X7_orders_78 mp mf ml (iI r) post (wl_X7_orders_10 mp mf ml (iI r) post (j + 1)) (iI ((60 * r + i : Nat) : Int)) (iI t) mo (iI m) := by
            intro t mo ht h1 h2 h3
            unfold wl_X7_orders_78
            refine q_in t ?_
            rintro a rfl
            rw [q_cl t, ei]
            have em : iI (m : Int) + 1 = iI (ct (fun j => decide (0 < ll j)) (i + 1)) := by
              rw [hcs]
              simp only [iI_lit, iI_add]
              exact iI_c (by omega)
            rw [em]
            refine ih (i + 1) _ (fun x => if x < t then o x else if x = t then i else o (x - 1)) (by omega) ?_
            rw [hcs]
            refine ⟨fun x hx => ?_, fun x y hxy hy => ?_, fun j hj hl => ?_⟩
            · dsimp only
              by_cases q1 : x < t
              · rw [if_pos q1, pk_un (by omega)]
                obtain ⟨w1, w2, w3⟩ := o1 x (by omega)
                exact ⟨by omega, w2, h1 x q1⟩
              · rw [if_neg q1]
                by_cases q2 : x = t
                · rw [if_pos q2, q2, pk_us]
                  exact ⟨by omega, by omega, rfl⟩
                · rw [if_neg q2, pk_un q2]
                  obtain ⟨w1, w2, w3⟩ := o1 (x - 1) (by omega)
                  refine ⟨by omega, w2, ?_⟩
                  have := (h2 (x - 1) (by omega) (by omega)).1
                  rw [show x - 1 + 1 = x by omega] at this
                  exact this
            · dsimp only
              by_cases q1 : x < t
              · rw [if_pos q1]
                by_cases q2 : y < t
                · rw [if_pos q2]; exact o2 x y hxy (by omega)
                · rw [if_neg q2]
                  by_cases q3 : y = t
                  · rw [if_pos q3]; exact h3 x q1
                  · rw [if_neg q3]; exact o2 x (y - 1) (by omega) (by omega)
              · rw [if_neg q1, if_neg (by omega : ¬ y < t), if_neg (by omega : ¬ y = t)]
                by_cases q2 : x = t
                · rw [if_pos q2]; exact (h2 (y - 1) (by omega) (by omega)).2
                · rw [if_neg q2]; exact o2 (x - 1) (y - 1) (by omega) (by omega)
            · dsimp only
              by_cases q1 : j = i
              · exact ⟨t, by omega, by rw [if_neg (by omega), if_pos rfl, q1]⟩
              · obtain ⟨x, hx1, hx2⟩ := o3 j (by omega) hl
                by_cases q2 : x < t
                · exact ⟨x, by omega, by rw [if_pos q2]; exact hx2⟩
                · exact ⟨x + 1, by omega, by rw [if_neg (by omega), if_neg (by omega)]; exact hx2⟩
          induction t with
          | zero =>
            intro mo ht h1 h2
            rw [wl_X7_orders_38]
            refine q_le 0 0 (fun _ => ?_) (fun hc => absurd hc (by omega))
            exact fin 0 mo ht h1 h2 (fun x hx => absurd hx (by omega))
          | succ t iht =>
            intro mo ht h1 h2
            obtain ⟨w1, w2, w3⟩ := o1 t (by omega)
            rw [wl_X7_orders_38]
            refine q_le (t + 1 : Nat) 0 (fun hc => absurd hc (by omega)) (fun _ => ?_)
            refine q_in t ?_
            have et : mo (iI ((t + 1 : Nat) : Int) - 1).toNatClampNeg = iI ((60 * r + o t : Nat) : Int) := by
              rw [q_cl t]
              exact h1 t (by omega)
            rw [et]
            refine mo_isAhead h hr (by omega) (by omega) rfl rfl (fun hq => z10 ?_) (fun hq => z00 ?_)
            · refine q_in t ?_
              rintro z rfl
              refine q_in (t + 1 : Nat) ?_
              rintro a rfl
              rw [q_cl (t + 1), show iI ((t + 1 : Nat) : Int) + (-1) = iI t by simp only [iI_lit, iI_neg, iI_add]; exact iI_c (by omega)]
              refine iht _ (by omega) (fun x hx => ?_) (fun x hx1 hx2 => ?_)
              · rw [pk_un (by omega)]; exact h1 x (by omega)
              · by_cases e : x = t
                · rw [e, pk_us]; exact ⟨rfl, hq⟩
                · rw [pk_un (by omega)]; exact h2 x (by omega) hx2
            · refine fin (t + 1) mo ht h1 h2 (fun x hx => ?_)
              have hlt : lx pp ff (o t) i := by
                have hne : o t ≠ i := by omega
                unfold lx at hq ⊢
                rcases Nat.lt_trichotomy (ff (o t)) (ff i) with q | q | q
                · exact Or.inl q
                · rcases Nat.lt_trichotomy (pp (o t)) (pp i) with q2 | q2 | q2
                  · exact Or.inr ⟨q, q2⟩
                  · exact absurd (hd (o t) i (by omega) (by omega) w2 (by omega) q2 q) hne
                  · exact absurd (Or.inr ⟨q.symm, q2⟩) hq
                · exact absurd (Or.inl q) hq
              rcases Nat.lt_or_ge x t with q | q
              · have := o2 x t q (by omega)
                unfold lx at this hlt ⊢
                omega
              · rw [show x = t by omega]; exact hlt
        exact ⟨m + 1, inner m mo (Nat.le_refl m) (fun x hx => (o1 x hx).2.2) (fun x hx1 hx2 => absurd hx2 (by omega))⟩
      · rw [if_neg (fun hq => by have := of_decide_eq_true hq; omega)] at hcs
        have := ih (i + 1) mo o (by omega) (by
          rw [hcs]
          refine ⟨fun x hx => ?_, o2, fun j hj hl => ?_⟩
          · obtain ⟨w1, w2, w3⟩ := o1 x hx
            exact ⟨by omega, w2, w3⟩
          · refine o3 j ?_ hl
            rcases Nat.lt_or_ge j i with q | q
            · exact q
            · rw [show j = i by omega] at hl; omega)
        rw [hcs] at this
        exact this
  rw [e0]
  exact ⟨61, key 60 0 mo (fun x => x) (by omega) ⟨fun x hx => absurd hx (by simp [ct]), fun x y _ hy => absurd hy (by simp [ct]), fun j hj => absurd hj (by omega)⟩⟩
