theorem iI_s (a b : Nat) : iI (a : Int) + iI (b : Int) = iI ((a + b : Nat) : Int) := by
  rw [iI_add]
  exact iI_c (by omega)
theorem slA_set {r : Nat} {pp ff ll : Nat → Nat} {mp mf ml : Nat → Int32} (h : slA r pp ff ll mp mf ml) {j0 p a l : Nat} (h1 : p < 24) (h2 : a < 300) (h3 : l ≤ 60) (h4 : a + l ≤ 300) {x : Int32} (hj : j0 < 60) (hx : x = iI ((60 * r + j0 : Nat) : Int)) (hr : r < 6) : slA r (nu pp j0 p) (nu ff j0 a) (nu ll j0 l) (upd mp x.toNatClampNeg (iI p)) (upd mf x.toNatClampNeg (iI a)) (upd ml x.toNatClampNeg (iI l)) := by
  intro j hj2
  rw [q_cl (60 * r + j0) hx]
  by_cases e : j = j0
  · subst e
    simp only [nu_s, pk_us]
    exact ⟨h1, h2, h3, h4, trivial, trivial, trivial⟩
  · have e2 : 60 * r + j ≠ 60 * r + j0 := by omega
    simp only [nu_n _ _ e, pk_un e2]
    exact h j hj2
theorem slA_len {r : Nat} {pp ff ll : Nat → Nat} {mp mf ml : Nat → Int32} (h : slA r pp ff ll mp mf ml) {j0 l : Nat} (h3 : l ≤ 60) (h4 : ff j0 + l ≤ 300) {x y : Int32} (hj : j0 < 60) (hx : x = iI ((60 * r + j0 : Nat) : Int)) (hy : y = iI l) (hr : r < 6) : slA r pp ff (nu ll j0 l) mp mf (upd ml x.toNatClampNeg y) := by
  intro j hj2
  rw [q_cl (60 * r + j0) hx, hy]
  obtain ⟨a1, a2, a3, a4, a5, a6, a7⟩ := h j hj2
  by_cases e : j = j0
  · subst e
    simp only [nu_s, pk_us]
    exact ⟨a1, a2, h3, h4, a5, a6, trivial⟩
  · have e2 : 60 * r + j ≠ 60 * r + j0 := by omega
    simp only [nu_n _ _ e, pk_un e2]
    exact ⟨a1, a2, a3, a4, a5, a6, a7⟩
theorem slA_eq {r : Nat} {pp ff ll ll' : Nat → Nat} {mp mf ml : Nat → Int32} (h : slA r pp ff ll mp mf ml) (e : ∀ j, j < 60 → ll j = ll' j) : slA r pp ff ll' mp mf ml := by
  intro j hj
  rw [← e j hj]
  exact h j hj
/-- rows that differ at the places of one roll alone -/
def frR (r : Nat) (f g : Nat → Int32) : Prop := ∀ x, (x < 60 * r ∨ 60 * r + 60 ≤ x) → g x = f x
theorem frR_rf {r : Nat} {f : Nat → Int32} : frR r f f := fun _ _ => rfl
theorem frR_tr {r : Nat} {f g h : Nat → Int32} (a : frR r f g) (b : frR r g h) : frR r f h := fun x hx => (b x hx).trans (a x hx)
theorem frR_upd {r j : Nat} {f : Nat → Int32} {x y : Int32} (hj : j < 60) (hr : r < 6) (hx : x = iI ((60 * r + j : Nat) : Int)) : frR r f (upd f x.toNatClampNeg y) := by
  intro z hz
  rw [q_cl (60 * r + j) hx]
  exact pk_un (by omega)
theorem slA_fr {r r' : Nat} {pp ff ll : Nat → Nat} {mp mf ml mp' mf' ml' : Nat → Int32} (h : slA r' pp ff ll mp mf ml) (hne : r' ≠ r) (f1 : frR r mp mp') (f2 : frR r mf mf') (f3 : frR r ml ml') : slA r' pp ff ll mp' mf' ml' := by
  intro j hj
  rw [f1 _ (by omega), f2 _ (by omega), f3 _ (by omega)]
  exact h j hj
theorem mo_lays {r : Nat} {pp ff ll : Nat → Nat} {mp mf ml mt : Nat → Int32} (h : slA r pp ff ll mp mf ml) (hr : r < 6) {p a l : Nat} (hp : p < 24) (hl1 : 1 ≤ l) (hl2 : l ≤ 60) (hal : a + l ≤ 300) (hfree : ∃ j, j < 60 ∧ ll j = 0) {post : Int32 → (Nat → Int32) → (Nat → Int32) → (Nat → Int32) → (Nat → Int32) → Prop}
    (kn : (∃ j, j < 60 ∧ 0 < ll j ∧ pp j = p ∧ a < ff j + ll j + 1 ∧ ff j < a + l + 1) → post (-2) mp mf ml mt)
    (ky : ∀ j0 mp' mf' ml' mt', j0 < 60 → ll j0 = 0 → (∀ j, j < 60 → 0 < ll j → pp j = p → ¬ (a < ff j + ll j + 1 ∧ ff j < a + l + 1)) → slA r (nu pp j0 p) (nu ff j0 a) (nu ll j0 l) mp' mf' ml' → frR r mp mp' → frR r mf mf' → frR r ml ml' → (∀ s, a ≤ s → s ≤ a + l - 1 → bearsAt (fun q => pnS (nu pp j0 p) (nu ff j0 a) (nu ll j0 l) q s)) → post 0 mp' mf' ml' mt')
    (kb : ∀ j0 mp' mf' ml' mt', j0 < 60 → ll j0 = 0 → (∀ j, j < 60 → 0 < ll j → pp j = p → ¬ (a < ff j + ll j + 1 ∧ ff j < a + l + 1)) → slA r (nu pp j0 p) (nu ff j0 a) ll mp' mf' ml' → frR r mp mp' → frR r mf mf' → frR r ml ml' → ¬ (∀ s, a ≤ s → s ≤ a + l - 1 → bearsAt (fun q => pnS (nu pp j0 p) (nu ff j0 a) (nu ll j0 l) q s)) → post (-3) mp' mf' ml' mt') :
    wp_X7_lays (iI r) (iI p) (iI a) (iI l) mp mf ml mt post := by
  unfold wp_X7_lays
  rintro z rfl
  have e0 : 60 * iI (r : Int) = iI ((60 * r + 0 : Nat) : Int) := by
    simp only [iI_lit, iI_mul]
    exact iI_c (by omega)
  have key : ∀ (j i : Nat) (v5 : Int32), i + j = 60 → (∀ x, x < i → 0 < ll x → pp x = p → ¬ (a < ff x + ll x + 1 ∧ ff x < a + l + 1)) → ((∃ x, x < 60 ∧ ll x = 0 ∧ v5 = iI ((60 * r + x : Nat) : Int)) ∨ (∃ x, i ≤ x ∧ x < 60 ∧ ll x = 0)) → wl_X7_lays_9 (iI r) (iI p) (iI a) (iI l) post (j + 1) v5 (iI ((60 * r + i : Nat) : Int)) mp mf ml mt := by
    intro j
    induction j with
    | zero =>
      intro i v5 hi hx hv
      have e : i = 60 := by omega
      subst e
      rw [wl_X7_lays_9]
      refine q_le (60 * r + 60) (60 * r + 60 : Nat) (fun _ => ?_) (fun hc => absurd hc (by omega))
      rcases hv with ⟨j0, hj0, hz, e5⟩ | ⟨x, h1, h2, h3⟩
      · refine q_in (60 * r + j0 : Nat) ?_ e5
        rintro a2 rfl
        refine q_in (60 * r + j0 : Nat) ?_ e5
        rintro a3 rfl
        refine q_in (60 * r + j0 : Nat) ?_ e5
        rintro a4 rfl
        have hA := slA_set h (j0 := j0) hp (a := a) (l := l) (by omega) hl2 hal hj0 e5 hr
        refine mo_bears hA hr (a := a) (b := a + l - 1) rfl (by simp only [iI_lit, iI_add, iI_sub]; exact iI_c (by omega)) (by omega) (by omega) (fun mt' hb => ?_) (fun mt' hb => ?_)
        · refine z10 ?_
          exact ky j0 _ _ _ mt' hj0 hz hx hA (frR_upd hj0 hr e5) (frR_upd hj0 hr e5) (frR_upd hj0 hr e5) hb
        · refine z00 ?_
          refine q_in (60 * r + j0 : Nat) ?_ e5
          rintro a7 rfl
          have hB := slA_len hA (j0 := j0) (l := 0) (by omega) (by rw [nu_s]; omega) hj0 e5 (y := 0) rfl hr
          refine kb j0 _ _ _ mt' hj0 hz hx (slA_eq hB (fun x hx => ?_)) (frR_upd hj0 hr e5) (frR_upd hj0 hr e5) (frR_tr (frR_upd hj0 hr e5) (frR_upd hj0 hr e5)) hb
          by_cases e : x = j0
          · rw [e, nu_s, hz]
          · rw [nu_n _ _ e, nu_n _ _ e]
      · omega
    | succ j ih =>
      intro i v5 hi hx hv
      obtain ⟨a1, a2, a3, a4, a5, a6, a7⟩ := h i (by omega)
      have ei : iI ((60 * r + i : Nat) : Int) + 1 = iI ((60 * r + (i + 1) : Nat) : Int) := by
        simp only [iI_lit, iI_add]
        exact iI_c (by omega)
      have hx2 : (0 < ll i → pp i = p → ¬ (a < ff i + ll i + 1 ∧ ff i < a + l + 1)) → ∀ x, x < i + 1 → 0 < ll x → pp x = p → ¬ (a < ff x + ll x + 1 ∧ ff x < a + l + 1) := by
        intro hq x hx1
        rcases Nat.lt_or_ge x i with q | q
        · exact hx x q
        · rw [show x = i by omega]; exact hq
      have hv2 : ¬ ll i = 0 → ((∃ x, x < 60 ∧ ll x = 0 ∧ v5 = iI ((60 * r + x : Nat) : Int)) ∨ (∃ x, i + 1 ≤ x ∧ x < 60 ∧ ll x = 0)) := by
        intro hq
        rcases hv with hv | ⟨x, h1, h2, h3⟩
        · exact Or.inl hv
        · refine Or.inr ⟨x, ?_, h2, h3⟩
          rcases Nat.lt_or_ge i x with q | q
          · exact q
          · exact absurd (by rw [show i = x by omega]; exact h3) hq
      rw [wl_X7_lays_9]
      refine q_le (60 * r + 60) (60 * r + i : Nat) (fun hc => absurd hc (by omega)) (fun _ => ?_)
      refine q_in (60 * r + i : Nat) ?_
      rw [q_cl (60 * r + i), a5, a6, a7, ei]
      refine q_ne (ll i) 0 (fun hc => ?_) (fun hc => ?_)
      · refine q_in (60 * r + i : Nat) ?_
        refine q_ne (pp i) p (fun hc2 => ih (i + 1) v5 (by omega) (hx2 (fun _ hq => absurd hq (by omega))) (hv2 (by omega))) (fun hc2 => ?_)
        refine q_in (60 * r + i : Nat) ?_
        refine q_in (60 * r + i : Nat) ?_
        rintro z8 rfl
        refine q_le (ff i + ll i + 1) a (fun hc3 => ih (i + 1) v5 (by omega) (hx2 (fun _ _ hq => by omega)) (hv2 (by omega))) (fun hc3 => ?_)
        refine q_in (60 * r + i : Nat) ?_
        refine q_le (a + l + 1) (ff i) (fun hc4 => ih (i + 1) v5 (by omega) (hx2 (fun _ _ hq => by omega)) (hv2 (by omega))) (fun hc4 => ?_)
        exact kn ⟨i, by omega, by omega, by omega, by omega, by omega⟩
      · exact ih (i + 1) _ (by omega) (hx2 (fun hq => by omega)) (Or.inl ⟨i, by omega, by omega, rfl⟩)
  rw [e0]
  obtain ⟨jf, hf1, hf2⟩ := hfree
  exact ⟨61, key 60 0 _ (by omega) (fun x hx => absurd hx (by omega)) (Or.inr ⟨jf, by omega, hf1, hf2⟩)⟩
