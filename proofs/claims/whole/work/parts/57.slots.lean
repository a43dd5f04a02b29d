/-! a roll's notes in the reference's sixty places: place j holds pitch pp j, first step ff j, length ll j (0: empty) -/
def slA (r : Nat) (pp ff ll : Nat → Nat) (mp mf ml : Nat → Int32) : Prop := ∀ j, j < 60 → pp j < 24 ∧ ff j < 300 ∧ ll j ≤ 60 ∧ ff j + ll j ≤ 300 ∧ mp (60 * r + j) = iI (pp j) ∧ mf (60 * r + j) = iI (ff j) ∧ ml (60 * r + j) = iI (ll j)
theorem mo_notes {r : Nat} {pp ff ll : Nat → Nat} {mp mf ml : Nat → Int32} (h : slA r pp ff ll mp mf ml) (hr : r < 6) {post : Int32 → Prop} (k : post (iI (ct (fun j => decide (0 < ll j)) 60))) : wp_X7_notes ml (iI r) post := by
  unfold wp_X7_notes
  rintro z rfl
  have e0 : 60 * iI (r : Int) = iI ((60 * r + 0 : Nat) : Int) := by
    simp only [iI_lit, iI_mul]
    exact iI_c (by omega)
  have key : ∀ (j i : Nat), i + j = 60 → wl_X7_notes_7 ml (iI r) post (j + 1) (iI (ct (fun j => decide (0 < ll j)) i)) (iI ((60 * r + i : Nat) : Int)) := by
    intro j
    induction j with
    | zero =>
      intro i hi
      have e : i = 60 := by omega
      subst e
      rw [wl_X7_notes_7]
      exact q_le (60 * r + 60) (60 * r + 60 : Nat) (fun _ => k) (fun hc => absurd hc (by omega))
    | succ j ih =>
      intro i hi
      obtain ⟨a1, a2, a3, a4, a5, a6, a7⟩ := h i (by omega)
      have nx := ih (i + 1) (by omega)
      have ei : iI ((60 * r + i : Nat) : Int) + 1 = iI ((60 * r + (i + 1) : Nat) : Int) := by
        simp only [iI_lit, iI_add]
        exact iI_c (by omega)
      rw [wl_X7_notes_7]
      refine q_le (60 * r + 60) (60 * r + i : Nat) (fun hc => absurd hc (by omega)) (fun _ => ?_)
      refine q_in (60 * r + i : Nat) ?_
      rw [q_cl (60 * r + i), a7, ei]
      rw [ct] at nx
      refine q_le (ll i) 0 (fun hc => ?_) (fun hc => ?_)
      · rw [if_neg (fun hq => by have := of_decide_eq_true hq; omega)] at nx
        rw [show iI (ct (fun j => decide (0 < ll j)) i : Int) + 0 = iI ((ct (fun j => decide (0 < ll j)) i + 0 : Nat) : Int) by simp only [iI_lit, iI_add]; exact iI_c (by omega)]
        exact nx
      · rw [if_pos (decide_eq_true (by omega))] at nx
        rw [show iI (ct (fun j => decide (0 < ll j)) i : Int) + 1 = iI ((ct (fun j => decide (0 < ll j)) i + 1 : Nat) : Int) by simp only [iI_lit, iI_add]; exact iI_c (by omega)]
        exact nx
  rw [e0]
  exact ⟨61, key 60 0 (by omega)⟩
theorem mo_isIn {r : Nat} {pp ff ll : Nat → Nat} {mp mf ml : Nat → Int32} (h : slA r pp ff ll mp mf ml) (hr : r < 6) {j : Nat} (hj : j < 60) {v1 v2 : Int32} (e1 : v1 = iI ((60 * r + j : Nat) : Int)) {post : Int32 → Prop} (k1 : 0 < ll j → (ff j : Int) ≤ v2.toInt → v2.toInt < ff j + ll j → post 1) (k0 : ¬ (0 < ll j ∧ (ff j : Int) ≤ v2.toInt ∧ v2.toInt < ff j + ll j) → post 0) : wp_X7_isIn mf ml v1 v2 post := by
  obtain ⟨a1, a2, a3, a4, a5, a6, a7⟩ := h j hj
  unfold wp_X7_isIn
  refine q_in (60 * r + j : Nat) ?_ e1
  rw [q_cl (60 * r + j) e1, a6, a7]
  refine q_le (ll j) 0 (fun hc => k0 (by omega)) (fun hc => ?_)
  refine q_in (60 * r + j : Nat) ?_ e1
  refine q_in (60 * r + j : Nat) ?_ e1
  refine q_in (60 * r + j : Nat) ?_ e1
  rintro z rfl
  refine sp_within (ff j) (ff j + ll j - 1) (fun z z1 z2 ez => z10 ?_) (fun hc => z00 (k0 (by omega)))
  have tz : v2.toInt = z := by rw [ez, iI_toInt (by omega) (by omega)]
  exact k1 (by omega) (by omega) (by omega)
/-- is a step of a note punched? -/
def spu (f l s : Nat) : Bool := decide (f ≤ s ∧ s < f + l ∧ ((s - f) % 8 ≠ 7 ∨ s - f + 1 = l))
theorem i_rem8 {x : Int32} {z : Nat} (e : x = iI z) (hz : z < 2147483648) : x - x / 8 * 8 = iI ((z % 8 : Nat) : Int) := by
  have h1 := pk_rem (a := z) (d := 8) (by omega) (by omega) (by omega)
  rw [iI_nI, iI_nI, iI_nI] at h1
  rw [e]
  exact h1
theorem mo_isPunched {r : Nat} {pp ff ll : Nat → Nat} {mp mf ml : Nat → Int32} (h : slA r pp ff ll mp mf ml) (hr : r < 6) {j : Nat} (hj : j < 60) {v1 v2 : Int32} (e1 : v1 = iI ((60 * r + j : Nat) : Int)) {s : Nat} (e2 : v2 = iI s) (hs : s < 1000) {post : Int32 → Prop} (k : post (bi (spu (ff j) (ll j) s))) : wp_X7_isPunched mf ml v1 v2 post := by
  obtain ⟨a1, a2, a3, a4, a5, a6, a7⟩ := h j hj
  have t2 : v2.toInt = s := by rw [e2, tI (by omega)]
  unfold wp_X7_isPunched
  refine q_in (60 * r + j : Nat) ?_ e1
  rw [q_cl (60 * r + j) e1, a6, a7]
  rintro z rfl
  refine mo_isIn h hr hj e1 (fun q1 q2 q3 => z10 ?_) (fun hq => z00 ?_)
  · have ez : v2 - iI (ff j : Int) = iI ((s - ff j : Nat) : Int) := by
      rw [e2, iI_sub]
      exact iI_c (by omega)
    rw [i_rem8 ez (by omega)]
    refine q_ne ((s - ff j) % 8 : Nat) 7 (fun hc => ?_) (fun hc => ?_)
    · rw [show spu (ff j) (ll j) s = true from decide_eq_true ⟨by omega, by omega, Or.inl (by omega)⟩] at k
      exact k
    · refine q_in (60 * r + j : Nat) ?_ e1
      refine q_ne ((s - ff j : Nat) : Int) (ll j - 1) (fun hc2 => ?_) (fun hc2 => ?_) ez
      · rw [show spu (ff j) (ll j) s = false from decide_eq_false (by omega)] at k
        exact k
      · rw [show spu (ff j) (ll j) s = true from decide_eq_true ⟨by omega, by omega, Or.inr (by omega)⟩] at k
        exact k
  · rw [show spu (ff j) (ll j) s = false from decide_eq_false (by omega)] at k
    exact k
/-- the place that has a step of a pitch -/
theorem mo_at {r : Nat} {pp ff ll : Nat → Nat} {mp mf ml : Nat → Int32} (h : slA r pp ff ll mp mf ml) (hr : r < 6) {v2 v3 : Int32} {post : Int32 → Prop} (k1 : ∀ j, j < 60 → 0 < ll j → (pp j : Int) = v2.toInt → (ff j : Int) ≤ v3.toInt → v3.toInt < ff j + ll j → post (iI ((60 * r + j : Nat) : Int))) (k0 : (∀ j, j < 60 → 0 < ll j → (pp j : Int) = v2.toInt → (ff j : Int) ≤ v3.toInt → v3.toInt < ff j + ll j → False) → post (-1)) : wp_X7_at mp mf ml (iI r) v2 v3 post := by
  unfold wp_X7_at
  rintro z rfl
  have e0 : 60 * iI (r : Int) = iI ((60 * r + 0 : Nat) : Int) := by
    simp only [iI_lit, iI_mul]
    exact iI_c (by omega)
  have hr2 := iI_rng v2
  have key : ∀ (j i : Nat), i + j = 60 → (∀ x, x < i → 0 < ll x → (pp x : Int) = v2.toInt → (ff x : Int) ≤ v3.toInt → v3.toInt < ff x + ll x → False) → wl_X7_at_6 mp mf ml (iI r) v2 v3 post (j + 1) (iI ((60 * r + i : Nat) : Int)) := by
    intro j
    induction j with
    | zero =>
      intro i hi hx
      have e : i = 60 := by omega
      subst e
      rw [wl_X7_at_6]
      exact q_le (60 * r + 60) (60 * r + 60 : Nat) (fun _ => k0 hx) (fun hc => absurd hc (by omega))
    | succ j ih =>
      intro i hi hx
      obtain ⟨a1, a2, a3, a4, a5, a6, a7⟩ := h i (by omega)
      have ei : iI ((60 * r + i : Nat) : Int) + 1 = iI ((60 * r + (i + 1) : Nat) : Int) := by
        simp only [iI_lit, iI_add]
        exact iI_c (by omega)
      have nx : (¬ (0 < ll i ∧ (pp i : Int) = v2.toInt ∧ (ff i : Int) ≤ v3.toInt ∧ v3.toInt < ff i + ll i)) → wl_X7_at_6 mp mf ml (iI r) v2 v3 post (j + 1) (iI ((60 * r + (i + 1) : Nat) : Int)) := fun hq => ih (i + 1) (by omega) (fun x hx1 c1 c2 c3 c4 => by
        rcases Nat.lt_or_ge x i with q | q
        · exact hx x q c1 c2 c3 c4
        · have e : x = i := by omega
          subst e
          exact hq ⟨c1, c2, c3, c4⟩)
      rw [wl_X7_at_6]
      refine q_le (60 * r + 60) (60 * r + i : Nat) (fun hc => absurd hc (by omega)) (fun _ => ?_)
      refine q_in (60 * r + i : Nat) ?_
      rw [q_cl (60 * r + i), a7, ei, a5]
      refine q_le (ll i) 0 (fun hc => nx (by omega)) (fun hc => ?_)
      refine q_in (60 * r + i : Nat) ?_
      refine q_ne (pp i) v2.toInt (fun hc2 => nx (fun hq => hc2 hq.2.1)) (fun hc2 => ?_) rfl (iI_of v2)
      refine mo_isIn h hr (by omega) rfl (fun q1 q2 q3 => z10 (k1 i (by omega) q1 hc2 q2 q3)) (fun hq => z00 (nx (fun hq2 => hq ⟨hq2.1, hq2.2.2⟩)))
  rw [e0]
  exact ⟨61, key 60 0 (by omega) (fun x hx => absurd hx (by omega))⟩
