/-! the paper -/
def run4 (g : Nat → Bool) : Nat → Nat
  | 0 => 0
  | p + 1 => if g p then run4 g p + 1 else 0
def bearsAt (g : Nat → Bool) : Prop := (∀ p, p ≤ 24 → run4 g p < 4) ∧ ct g 24 ≤ 10
theorem run4_cong {g h : Nat → Bool} : ∀ {n : Nat}, (∀ k, k < n → g k = h k) → run4 g n = run4 h n
  | 0, _ => rfl
  | n + 1, e => by rw [run4, run4, run4_cong (fun k hk => e k (by omega)), e n (by omega)]
theorem bearsAt_cong {g h : Nat → Bool} (e : ∀ k, k < 24 → g k = h k) (hb : bearsAt g) : bearsAt h :=
  ⟨fun p hp => by rw [← run4_cong (g := g) (h := h) (fun k hk => e k (by omega))]; exact hb.1 p hp, by rw [← ct_cong (p := g) (q := h) e]; exact hb.2⟩
/-- what the places' notes punch -/
def pnS (pp ff ll : Nat → Nat) (p s : Nat) : Bool := (List.range 60).any (fun j => decide (pp j = p) && spu (ff j) (ll j) s)
theorem pnS_iff {pp ff ll : Nat → Nat} {p s : Nat} : pnS pp ff ll p s = true ↔ ∃ j, j < 60 ∧ pp j = p ∧ spu (ff j) (ll j) s = true := by
  unfold pnS
  rw [List.any_eq_true]
  constructor
  · rintro ⟨j, hj, hq⟩
    rw [Bool.and_eq_true] at hq
    exact ⟨j, List.mem_range.mp hj, of_decide_eq_true hq.1, hq.2⟩
  · rintro ⟨j, hj, h1, h2⟩
    exact ⟨j, List.mem_range.mpr hj, by rw [Bool.and_eq_true]; exact ⟨decide_eq_true h1, h2⟩⟩
theorem bi_ne {b : Bool} {A B : Prop} (k1 : b = true → B) (k0 : b = false → A) : (bi b = 0 → A) ∧ (¬ bi b = 0 → B) := by
  cases b
  · exact ⟨fun _ => k0 rfl, fun hc => absurd rfl hc⟩
  · exact ⟨fun hc => absurd hc (by decide), fun _ => k1 rfl⟩
theorem nar1 : vp_nar .boolean 1 = 1 := by decide
theorem nar0 : vp_nar .boolean 0 = 0 := by decide
/-- of the first i places -/
def pnI (pp ff ll : Nat → Nat) (i p s : Nat) : Bool := (List.range i).any (fun j => decide (pp j = p) && spu (ff j) (ll j) s)
theorem pnI_succ (pp ff ll : Nat → Nat) (i p s : Nat) : pnI pp ff ll (i + 1) p s = (pnI pp ff ll i p s || (decide (pp i = p) && spu (ff i) (ll i) s)) := by
  unfold pnI
  rw [List.range_succ, List.any_append]
  simp
theorem mo_fills {r : Nat} {pp ff ll : Nat → Nat} {mp mf ml mt : Nat → Int32} (h : slA r pp ff ll mp mf ml) (hr : r < 6) {post : (Nat → Int32) → Prop} (k : ∀ mt', (∀ s p, s < 300 → p < 24 → mt' (24 * s + p) = bi (pnS pp ff ll p s)) → post mt') : wp_X7_fills mp mf ml (iI r) mt post := by
  have k2 : ∀ (mt : Nat → Int32), (∀ s p, s < 300 → p < 24 → mt (24 * s + p) = bi (pnI pp ff ll 0 p s)) → ∃ n, wl_X7_fills_27 mp mf ml (iI r) post n (iI ((60 * r + 0 : Nat) : Int)) mt := by
    intro mt hmt
    have key : ∀ (j i : Nat) (mt : Nat → Int32), i + j = 60 → (∀ s p, s < 300 → p < 24 → mt (24 * s + p) = bi (pnI pp ff ll i p s)) → wl_X7_fills_27 mp mf ml (iI r) post (j + 1) (iI ((60 * r + i : Nat) : Int)) mt := by
      intro j
      induction j with
      | zero =>
        intro i mt hi hmt
        have e : i = 60 := by omega
        subst e
        rw [wl_X7_fills_27]
        exact q_le (60 * r + 60) (60 * r + 60 : Nat) (fun _ => k mt hmt) (fun hc => absurd hc (by omega))
      | succ j ih =>
        intro i mt hi hmt
        obtain ⟨a1, a2, a3, a4, a5, a6, a7⟩ := h i (by omega)
        have ei : iI ((60 * r + i : Nat) : Int) + 1 = iI ((60 * r + (i + 1) : Nat) : Int) := by
          simp only [iI_lit, iI_add]
          exact iI_c (by omega)
        rw [wl_X7_fills_27]
        refine q_le (60 * r + 60) (60 * r + i : Nat) (fun hc => absurd hc (by omega)) (fun _ => ?_)
        refine q_in (60 * r + i : Nat) ?_
        rw [q_cl (60 * r + i), a6]
        rintro z rfl
        have inner : ∀ (y t : Nat) (mt : Nat → Int32), t + y = ll i → (∀ s p, s < 300 → p < 24 → mt (24 * s + p) = bi (pnI pp ff ll i p s || (decide (pp i = p) && spu (ff i) (ll i) s && decide (s < ff i + t)))) → wl_X7_fills_45 mp mf ml (iI r) post (wl_X7_fills_27 mp mf ml (iI r) post (j + 1)) (y + 1) (iI ((60 * r + i : Nat) : Int)) (iI ((ff i + t : Nat) : Int)) mt := by
          intro y
          induction y with
          | zero =>
            intro t mt ht hmt
            rw [wl_X7_fills_45]
            refine q_in (60 * r + i : Nat) ?_
            refine q_in (60 * r + i : Nat) ?_
            rw [q_cl (60 * r + i), a6, a7, ei]
            refine q_le (ff i + ll i) (ff i + t : Nat) (fun _ => ?_) (fun hc => absurd hc (by omega))
            refine ih (i + 1) mt (by omega) (fun s p hs hp => ?_)
            rw [hmt s p hs hp, pnI_succ]
            congr 2
            by_cases hq : spu (ff i) (ll i) s = true
            · have := (of_decide_eq_true hq).2.1
              rw [decide_eq_true (show s < ff i + t by omega), Bool.and_true]
            · rw [Bool.not_eq_true] at hq
              rw [hq]; simp
          | succ y ihy =>
            intro t mt ht hmt
            have et : iI ((ff i + t : Nat) : Int) + 1 = iI ((ff i + (t + 1) : Nat) : Int) := by
              simp only [iI_lit, iI_add]
              exact iI_c (by omega)
            rw [wl_X7_fills_45]
            refine q_in (60 * r + i : Nat) ?_
            refine q_in (60 * r + i : Nat) ?_
            rw [q_cl (60 * r + i), a6, a7, et, a5]
            refine q_le (ff i + ll i) (ff i + t : Nat) (fun hc => absurd hc (by omega)) (fun _ => ?_)
            refine mo_isPunched h hr (by omega) rfl rfl (by omega) ?_
            refine bi_ne (fun hb => ?_) (fun hb => ?_)
            · refine q_in (60 * r + i : Nat) ?_
              refine q_in (24 * (ff i + t) + pp i : Nat) ?_
              rintro a rfl
              refine ihy (t + 1) _ (by omega) (fun s p hs hp => ?_)
              rw [q_cl (24 * (ff i + t) + pp i), nar1]
              by_cases e : 24 * s + p = 24 * (ff i + t) + pp i
              · have es : s = ff i + t := by omega
                have ep : p = pp i := by omega
                rw [e, pk_us, es, ep, hb]
                simp [bi]
              · rw [pk_un e, hmt s p hs hp]
                congr 2
                by_cases e2 : pp i = p
                · have : s ≠ ff i + t := by omega
                  congr 1
                  simp only [decide_eq_decide]
                  omega
                · simp [e2]
            · refine ihy (t + 1) mt (by omega) (fun s p hs hp => ?_)
              rw [hmt s p hs hp]
              congr 2
              by_cases es : s = ff i + t
              · rw [es, hb]; simp
              · congr 1
                simp only [decide_eq_decide]
                omega
        refine ⟨ll i + 1, ?_⟩
        have := inner (ll i) 0 mt (by omega) (fun s p hs hp => by
          rw [hmt s p hs hp]
          by_cases hq : spu (ff i) (ll i) s = true
          · have := (of_decide_eq_true hq).1
            rw [decide_eq_false (show ¬ s < ff i + 0 by omega)]; simp
          · rw [Bool.not_eq_true] at hq
            rw [hq]; simp)
        exact this
    exact ⟨61, key 60 0 mt (by omega) hmt⟩
  have key : ∀ (j i : Nat) (mt : Nat → Int32), i + j = 7200 → (∀ x, x < i → mt x = 0) → wl_X7_fills_2 mp mf ml (iI r) post (j + 1) (iI i) mt := by
    intro j
    induction j with
    | zero =>
      intro i mt hi hmt
      have e : i = 7200 := by omega
      subst e
      rw [wl_X7_fills_2]
      refine q_le 7200 7200 (fun _ => ?_) (fun hc => absurd hc (by omega))
      rintro z rfl
      rw [show 60 * iI (r : Int) = iI ((60 * r + 0 : Nat) : Int) by simp only [iI_lit, iI_mul]; exact iI_c (by omega)]
      exact k2 mt (fun s p hs hp => by rw [hmt _ (by omega)]; rfl)
    | succ j ih =>
      intro i mt hi hmt
      rw [wl_X7_fills_2]
      refine q_le 7200 i (fun hc => absurd hc (by omega)) (fun _ => ?_)
      refine q_in i ?_
      rintro a rfl
      rw [show iI (i : Int) + 1 = iI ((i + 1 : Nat) : Int) by simp only [iI_lit, iI_add]; exact iI_c (by omega), q_cl i, nar0]
      refine ih (i + 1) _ (by omega) (fun x hx => ?_)
      by_cases e : x = i
      · rw [e]; exact pk_us
      · rw [pk_un e]; exact hmt x (by omega)
  unfold wp_X7_fills
  exact ⟨7201, key 7200 0 mt (by omega) (fun x hx => absurd hx (by omega))⟩
theorem run4_le {g : Nat → Bool} {p : Nat} (h : run4 g p < 4) : run4 g (p + 1) ≤ 4 := by
  rw [run4]
  split <;> omega
theorem mo_bears {r : Nat} {pp ff ll : Nat → Nat} {mp mf ml mt : Nat → Int32} (h : slA r pp ff ll mp mf ml) (hr : r < 6) {v2 v3 : Int32} {a b : Nat} (e2 : v2 = iI a) (e3 : v3 = iI b) (hb : b < 300) (hab : a ≤ b + 1) {post : Int32 → (Nat → Int32) → Prop} (k1 : ∀ mt', (∀ s, a ≤ s → s ≤ b → bearsAt (fun p => pnS pp ff ll p s)) → post 1 mt') (k0 : ∀ mt', ¬ (∀ s, a ≤ s → s ≤ b → bearsAt (fun p => pnS pp ff ll p s)) → post 0 mt') : wp_X7_bears mp mf ml (iI r) v2 v3 mt post := by
  unfold wp_X7_bears
  refine mo_fills h hr (fun mt' hmt => ?_)
  rw [e2]
  have key : ∀ (j s : Nat), s + j = b + 1 → (∀ x, a ≤ x → x < s → bearsAt (fun p => pnS pp ff ll p x)) → a ≤ s → wl_X7_bears_8 mp mf ml (iI r) (iI a) v3 post (j + 1) (iI s) mt' := by
    intro j
    induction j with
    | zero =>
      intro s hs hx _
      rw [wl_X7_bears_8]
      exact q_lt b s (fun _ => k1 mt' (fun x h1 h2 => hx x h1 (by omega))) (fun hc => absurd hc (by omega)) e3
    | succ j ih =>
      intro s hs hx has
      rw [wl_X7_bears_8]
      refine q_lt b s (fun hc => absurd hc (by omega)) (fun _ => ?_) e3
      have inner : ∀ (y p : Nat), p + y = 24 → (∀ q, q ≤ p → run4 (fun p => pnS pp ff ll p s) q < 4) → wl_X7_bears_23 mp mf ml (iI r) (iI a) v3 post (wl_X7_bears_8 mp mf ml (iI r) (iI a) v3 post (j + 1)) (y + 1) (iI s) (iI (ct (fun p => pnS pp ff ll p s) p)) (iI (run4 (fun p => pnS pp ff ll p s) p)) (iI p) mt' := by
        intro y
        induction y with
        | zero =>
          intro p hp hq
          have e : p = 24 := by omega
          subst e
          have hct := ct_le (fun p => pnS pp ff ll p s) 24
          rw [wl_X7_bears_23]
          refine q_le 24 24 (fun _ => ?_) (fun hc => absurd hc (by omega))
          refine q_le (ct (fun p => pnS pp ff ll p s) 24) 10 (fun hc => ?_) (fun hc => ?_)
          · rw [show iI (s : Int) + 1 = iI ((s + 1 : Nat) : Int) by simp only [iI_lit, iI_add]; exact iI_c (by omega)]
            refine ih (s + 1) (by omega) (fun x h1 h2 => ?_) (by omega)
            rcases Nat.lt_or_ge x s with q | q
            · exact hx x h1 q
            · rw [show x = s by omega]
              exact ⟨hq, by omega⟩
          · exact k0 mt' (fun hall => by have := (hall s has (by omega)).2; omega)
        | succ y ihy =>
          intro p hp hq
          have hct := ct_le (fun p => pnS pp ff ll p s) p
          have hrun := hq p (Nat.le_refl p)
          have em : mt' (24 * iI (s : Int) + iI (p : Int)).toNatClampNeg = bi (pnS pp ff ll p s) := by
            rw [q_cl (24 * s + p)]
            exact hmt s p (by omega) (by omega)
          rw [wl_X7_bears_23]
          refine q_le 24 p (fun hc => absurd hc (by omega)) (fun _ => ?_)
          refine q_in (24 * s + p : Nat) ?_
          rintro z rfl
          rw [em]
          have ep : iI (p : Int) + 1 = iI ((p + 1 : Nat) : Int) := by
            simp only [iI_lit, iI_add]
            exact iI_c (by omega)
          have fin : ∀ (w : Int32), w = iI (run4 (fun p => pnS pp ff ll p s) (p + 1)) → ∀ (u : Int32), u = iI (ct (fun p => pnS pp ff ll p s) (p + 1)) → wl_X7_bears_73 mp mf ml (iI r) (iI a) v3 post (wl_X7_bears_8 mp mf ml (iI r) (iI a) v3 post (j + 1)) (wl_X7_bears_23 mp mf ml (iI r) (iI a) v3 post (wl_X7_bears_8 mp mf ml (iI r) (iI a) v3 post (j + 1)) (y + 1)) (iI s) u (iI p) w mt' := by
            rintro w rfl u rfl
            have h4 := run4_le hrun
            unfold wl_X7_bears_73
            rw [ep]
            refine q_ne (run4 (fun p => pnS pp ff ll p s) (p + 1)) 4 (fun hc => ?_) (fun hc => ?_)
            · refine ihy (p + 1) (by omega) (fun q hq2 => ?_)
              rcases Nat.lt_or_ge q (p + 1) with q1 | q1
              · exact hq q (by omega)
              · rw [show q = p + 1 by omega]; omega
            · exact k0 mt' (fun hall => by have := (hall s has (by omega)).1 (p + 1) (by omega); omega)
          cases hg : pnS pp ff ll p s with
          | false =>
            refine z00 ?_
            unfold wl_X7_bears_57
            refine z00 ?_
            refine fin _ ?_ _ ?_
            · rw [run4]; simp only [hg]; rfl
            · rw [ct]; simp only [hg, iI_lit, iI_add]; exact iI_c (by simp)
          | true =>
            refine z10 ?_
            unfold wl_X7_bears_57
            refine z10 ?_
            refine fin _ ?_ _ ?_
            · rw [run4]; simp only [hg, if_true, iI_lit, iI_add]; exact iI_c (by omega)
            · rw [ct]; simp only [hg, if_true, iI_lit, iI_add]; exact iI_c (by omega)
      exact ⟨25, inner 24 0 (by omega) (fun q hq => by rw [show q = 0 by omega]; exact Nat.zero_lt_succ 3)⟩
  exact ⟨b + 1 - a + 1, key (b + 1 - a) a (by omega) (fun x h1 h2 => absurd h2 (by omega)) (Nat.le_refl a)⟩
