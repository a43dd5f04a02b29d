theorem cov_one {nt : Nat → Nat → Nat} (hv : nV nt) {p f f' s : Nat} (h1 : f ≤ s) (h2 : s < f + nt p f) (h3 : f' ≤ s) (h4 : s < f' + nt p f') : f = f' := by
  rcases Nat.lt_trichotomy f f' with q | q | q
  · have := hv.2.1 p f f' (by omega) (by omega) q; omega
  · exact q
  · have := hv.2.1 p f' f (by omega) (by omega) q; omega
/-- lay -/
def layOk (n : Nat) (v2 v3 v4 : Int32) : Prop := ∃ p a l : Nat, p < 24 ∧ a < 300 ∧ 1 ≤ l ∧ l ≤ 60 ∧ a + l ≤ 300 ∧ n < 60 ∧ v2 = iI p ∧ v3 = iI a ∧ v4 = iI l
def layP (nt : Nat → Nat → Nat) (n p a l : Nat) (ans : Int32) (nt' : Nat → Nat → Nat) (n' : Nat) : Prop := (nearN nt p a l ∧ ans = -2 ∧ nt' = nt ∧ n' = n) ∨ (¬ nearN nt p a l ∧ ¬ bornN nt p a l ∧ ans = -3 ∧ nt' = nt ∧ n' = n) ∨ (¬ nearN nt p a l ∧ bornN nt p a l ∧ ans = 1 ∧ nt' = setN nt p a l ∧ n' = n + 1)
def layR (nt : Nat → Nat → Nat) (n : Nat) (v2 v3 v4 : Int32) (ans : Int32) (nt' : Nat → Nat → Nat) (n' : Nat) : Prop := (∃ p a l : Nat, p < 24 ∧ a < 300 ∧ 1 ≤ l ∧ l ≤ 60 ∧ a + l ≤ 300 ∧ n < 60 ∧ v2 = iI p ∧ v3 = iI a ∧ v4 = iI l ∧ layP nt n p a l ans nt' n') ∨ (¬ layOk n v2 v3 v4 ∧ ans = -1 ∧ nt' = nt ∧ n' = n)
theorem iI_inj {a b : Nat} (ha : a < 2147483648) (hb : b < 2147483648) (h : iI (a : Int) = iI (b : Int)) : a = b := by
  rw [iI_eq (by omega) (by omega) (by omega) (by omega)] at h
  omega
theorem layP_fun {nt : Nat → Nat → Nat} {n p a l : Nat} {x y : Int32} {s t : Nat → Nat → Nat} {i j : Nat} (h : layP nt n p a l x s i) (k : layP nt n p a l y t j) : x = y ∧ s = t ∧ i = j := by
  rcases h with ⟨a1, a2, a3, a4⟩ | ⟨a0, a1, a2, a3, a4⟩ | ⟨a0, a1, a2, a3, a4⟩ <;> rcases k with ⟨b1, b2, b3, b4⟩ | ⟨b0, b1, b2, b3, b4⟩ | ⟨b0, b1, b2, b3, b4⟩ <;> first | exact absurd a1 b0 | exact absurd b1 a0 | exact absurd a1 b1 | exact absurd b1 a1 | exact ⟨a2.trans b2.symm, a3.trans b3.symm, a4.trans b4.symm⟩
theorem layR_fun {nt : Nat → Nat → Nat} {n : Nat} {v2 v3 v4 x y : Int32} {s t : Nat → Nat → Nat} {i j : Nat} (h : layR nt n v2 v3 v4 x s i) (k : layR nt n v2 v3 v4 y t j) : x = y ∧ s = t ∧ i = j := by
  rcases h with ⟨p, a, l, h1, h2, h3, h4, h5, h6, h7, h8, h9, hL⟩ | ⟨h1, h2, h3, h4⟩ <;> rcases k with ⟨p', a', l', k1, k2, k3, k4, k5, k6, k7, k8, k9, kL⟩ | ⟨k1, k2, k3, k4⟩
  · have e1 := iI_inj (by omega) (by omega) (h7.symm.trans k7)
    have e2 := iI_inj (by omega) (by omega) (h8.symm.trans k8)
    have e3 := iI_inj (by omega) (by omega) (h9.symm.trans k9)
    subst e1 e2 e3
    exact layP_fun hL kL
  · exact absurd ⟨p, a, l, h1, h2, h3, h4, h5, h6, h7, h8, h9⟩ k1
  · exact absurd ⟨p', a', l', k1, k2, k3, k4, k5, k6, k7, k8, k9⟩ h1
  · exact ⟨h2.trans k2.symm, h3.trans k3.symm, h4.trans k4.symm⟩
theorem mo_lay_n {R n0 : Nat} {rolls th v1 v2 v3 v4 : Int32} {mp mf ml mt : Nat → Int32} (hR : R ≤ 6) (er : rolls = iI R) (hv : v1.toInt < 0 ∨ (R : Int) ≤ v1.toInt) {post : Int32 → Int32 → (Nat → Int32) → (Nat → Int32) → (Nat → Int32) → (Nat → Int32) → Prop} (k : post (-1) 0 mp mf ml mt) : wp_X7_lay rolls v1 v2 v3 v4 th mp mf ml mt post := by
  unfold wp_X7_lay
  exact sp_isRoll R hR er (fun j hj ej => absurd hv (by rw [ej, tI (by omega)]; omega)) (fun _ => z00 k)
theorem mo_lay {R r n : Nat} {nt : Nat → Nat → Nat} {rolls th v2 v3 v4 : Int32} {mp mf ml mt : Nat → Int32} (hR : R ≤ 6) (er : rolls = iI R) (hr : r < R) (h : moR r nt n mp mf ml) (hn : n ≤ 60) {post : Int32 → Int32 → (Nat → Int32) → (Nat → Int32) → (Nat → Int32) → (Nat → Int32) → Prop} (k : ∀ ans nt' n' mp' mf' ml' mt', layR nt n v2 v3 v4 ans nt' n' → moR r nt' n' mp' mf' ml' → frR r mp mp' → frR r mf mf' → frR r ml ml' → post ans 0 mp' mf' ml' mt') : wp_X7_lay rolls (iI r) v2 v3 v4 th mp mf ml mt post := by
  have kx : ¬ layOk n v2 v3 v4 → post (-1) 0 mp mf ml mt := fun hq => k (-1) nt n mp mf ml mt (Or.inr ⟨hq, rfl, rfl, rfl⟩) h frR_rf frR_rf frR_rf
  have nk : (v2.toInt < 0 ∨ 23 < v2.toInt ∨ v3.toInt < 0 ∨ 299 < v3.toInt ∨ v4.toInt < 1 ∨ 60 < v4.toInt ∨ 300 < v3.toInt + v4.toInt ∨ n = 60) → ¬ layOk n v2 v3 v4 := by
    rintro hq ⟨p, a, l, h1, h2, h3, h4, h5, h6, h7, h8, h9⟩
    rw [h7, h8, h9, tI (by omega), tI (by omega), tI (by omega)] at hq
    omega
  unfold wp_X7_lay
  refine sp_isRoll R hR er (fun _ _ _ => z10 ?_) (fun hq => absurd hq (by rw [tI (by omega)]; omega))
  refine sp_within 0 23 (fun y1 a1 a2 e2 => z10 ?_) (fun hq => z00 (kx (nk (by omega))))
  refine sp_within 0 299 (fun y2 b1 b2 e3 => z10 ?_) (fun hq => z00 (kx (nk (by omega))))
  refine sp_within 1 60 (fun y3 c1 c2 e4 => z10 ?_) (fun hq => z00 (kx (nk (by omega))))
  obtain ⟨p, hp, e2⟩ := iI_nat a1 e2
  obtain ⟨a, ha, e3⟩ := iI_nat b1 e3
  obtain ⟨l, hl, e4⟩ := iI_nat (by omega) e4
  have t3 : v3.toInt = a := by rw [e3, tI (by omega)]
  have t4 : v4.toInt = l := by rw [e4, tI (by omega)]
  refine q_lt 300 (a + l) (fun hq => kx (nk (by omega))) (fun hq => ?_) rfl (by rw [e3, e4, iI_add])
  obtain ⟨pp, ff, ll, hA, hB⟩ := id h
  refine mo_notes hA (by omega) ?_
  rw [hB.2.2.2]
  refine q_ne n 60 (fun hq2 => ?_) (fun hq2 => kx (nk (by omega)))
  rw [e2, e3, e4]
  have base : ∀ ans nt' n', layP nt n p a l ans nt' n' → layR nt n v2 v3 v4 ans nt' n' := fun ans nt' n' hL => Or.inl ⟨p, a, l, by omega, by omega, by omega, by omega, by omega, by omega, e2, e3, e4, hL⟩
  refine mo_laysN h (by omega) (by omega) (by omega) (by omega) (by omega) (by omega) (fun hq3 => ?_) (fun mp' mf' ml' mt' q1 q2 hm f1 f2 f3 => ?_) (fun mp' mf' ml' mt' q1 q2 hm f1 f2 f3 => ?_)
  · refine ⟨fun _ => ?_, fun hq4 => absurd hq4 (by decide)⟩
    exact k _ _ _ _ _ _ _ (base _ _ _ (Or.inl ⟨hq3, rfl, rfl, rfl⟩)) h frR_rf frR_rf frR_rf
  · refine ⟨fun hq4 => absurd rfl hq4, fun _ => ?_⟩
    exact k _ _ _ _ _ _ _ (base _ _ _ (Or.inr (Or.inr ⟨q1, q2, rfl, rfl, rfl⟩))) hm f1 f2 f3
  · refine ⟨fun _ => ?_, fun hq4 => absurd hq4 (by decide)⟩
    exact k _ _ _ _ _ _ _ (base _ _ _ (Or.inr (Or.inl ⟨q1, q2, rfl, rfl, rfl⟩))) hm f1 f2 f3
theorem cl_lay {R r n : Nat} {nt : Nat → Nat → Nat} {rr : Nat → Option Nat} {ad : Nat → Nat} {rc v2 v3 v4 sz : Int32} {P F L He Pu : Nat → Int32} (hR : R ≤ 6) (er : rc = iI R) (hr : r < R) (ha : rr r = some (ad 0)) (h : clR nt n sz P F L He Pu) {post : Int32 → (Nat → Int32) → (Nat → Int32) → (Nat → Int32) → Int32 → (Nat → Int32) → (Nat → Int32) → Prop} (k : ∀ ans nt' n' P' F' L' sz' He' Pu', layR nt n v2 v3 v4 ans nt' n' → clR nt' n' sz' P' F' L' He' Pu' → post ans P' F' L' sz' He' Pu') : wp_X6_lay_s ad rr rc (iI r) v2 v3 v4 P F L sz He Pu post := by
  have kx : ¬ layOk n v2 v3 v4 → post (-1) P F L sz He Pu := fun hq => k (-1) nt n P F L sz He Pu (Or.inr ⟨hq, rfl, rfl, rfl⟩) h
  have nk : (v2.toInt < 0 ∨ 23 < v2.toInt ∨ v3.toInt < 0 ∨ 299 < v3.toInt ∨ v4.toInt < 1 ∨ 60 < v4.toInt ∨ 300 < v3.toInt + v4.toInt ∨ 60 ≤ n) → ¬ layOk n v2 v3 v4 := by
    rintro hq ⟨p, a, l, h1, h2, h3, h4, h5, h6, h7, h8, h9⟩
    rw [h7, h8, h9, tI (by omega), tI (by omega), tI (by omega)] at hq
    omega
  unfold wp_X6_lay_s
  refine sc_rollOf_s R r hR er hr rfl ⟨ha, ?_⟩
  refine sc_isPitch (fun p hp e2 => z10 ?_) (fun hq => z00 (kx (nk (by omega))))
  refine sc_isStep (fun a ha e3 => z10 ?_) (fun hq => z00 (kx (nk (by omega))))
  refine sc_within 1 60 (fun y3 c1 c2 e4 => y10 ?_) (fun hq => y00 (kx (nk (by omega))))
  obtain ⟨l, hl, e4⟩ := iI_nat (by omega) e4
  have t3 : v3.toInt = a := by rw [e3, tI (by omega)]
  have t4 : v4.toInt = l := by rw [e4, tI (by omega)]
  refine q_lt 300 (a + l) (fun hq => kx (nk (by omega))) (fun hq => ?_) rfl (by rw [e3, e4, iI_add])
  obtain ⟨⟨pp, ff, hc⟩, hb, hv⟩ := id h
  have hn := hc.1
  unfold wp_X4_noteCount
  refine q_lt n 60 (fun hq2 => ?_) (fun hq2 => kx (nk (by omega))) hc.2.1
  have base : ∀ ans nt' n', layP nt n p a l ans nt' n' → layR nt n v2 v3 v4 ans nt' n' := fun ans nt' n' hL => Or.inl ⟨p, a, l, by omega, by omega, by omega, by omega, by omega, by omega, e2, e3, e4, hL⟩
  rw [e2, e3, e4]
  refine cl_putIfAllowed hv hc hb (by omega) hp (by omega) (by omega) (by omega) (fun q1 => ?_) (fun q1 q2 => ?_) (fun pp' ff' P' F' L' sz' He' Pu' q1 q2 g1 g2 => ?_)
  · exact k _ _ _ _ _ _ _ _ _ (base _ _ _ (Or.inl ⟨q1, rfl, rfl, rfl⟩)) h
  · exact k _ _ _ _ _ _ _ _ _ (base _ _ _ (Or.inr (Or.inl ⟨q1, q2, rfl, rfl, rfl⟩))) h
  · exact k _ _ _ _ _ _ _ _ _ (base _ _ _ (Or.inr (Or.inr ⟨q1, q2, rfl, rfl, rfl⟩))) ⟨⟨pp', ff', g1⟩, g2, nV_set hv hp (by omega) (by omega) (by omega) q1 q2⟩
/-- lift -/
def liftC (nt : Nat → Nat → Nat) (v2 v3 : Int32) (p a : Nat) : Prop := p < 24 ∧ v2 = iI p ∧ 0 < nt p a ∧ (a : Int) ≤ v3.toInt ∧ v3.toInt < a + nt p a
def liftR (nt : Nat → Nat → Nat) (n : Nat) (v2 v3 : Int32) (ans : Int32) (nt' : Nat → Nat → Nat) (n' : Nat) : Prop := (∃ p a : Nat, liftC nt v2 v3 p a ∧ ans = iI (nt p a) ∧ nt' = setN nt p a 0 ∧ n' = n - 1) ∨ ((∀ p a, ¬ liftC nt v2 v3 p a) ∧ ans = -1 ∧ nt' = nt ∧ n' = n)
theorem liftR_fun {nt : Nat → Nat → Nat} (hv : nV nt) {n : Nat} {v2 v3 x y : Int32} {s t : Nat → Nat → Nat} {i j : Nat} (h : liftR nt n v2 v3 x s i) (k : liftR nt n v2 v3 y t j) : x = y ∧ s = t ∧ i = j := by
  rcases h with ⟨p, a, hC, h1, h2, h3⟩ | ⟨h0, h1, h2, h3⟩ <;> rcases k with ⟨p', a', kC, k1, k2, k3⟩ | ⟨k0, k1, k2, k3⟩
  · have e1 := iI_inj (by have := hC.1; omega) (by have := kC.1; omega) (hC.2.1.symm.trans kC.2.1)
    subst e1
    have e2 : a = a' := by
      have c1 := hC.2.2
      have c2 := kC.2.2
      exact cov_one hv (p := p) (s := v3.toInt.toNat) (by omega) (by omega) (by omega) (by omega)
    subst e2
    exact ⟨h1.trans k1.symm, h2.trans k2.symm, h3.trans k3.symm⟩
  · exact absurd hC (k0 p a)
  · exact absurd kC (h0 p' a')
  · exact ⟨h1.trans k1.symm, h2.trans k2.symm, h3.trans k3.symm⟩
theorem cl_lift {R r n : Nat} {nt : Nat → Nat → Nat} {rr : Nat → Option Nat} {ad : Nat → Nat} {rc v2 v3 sz : Int32} {P F L He Pu : Nat → Int32} (hR : R ≤ 6) (er : rc = iI R) (hr : r < R) (ha : rr r = some (ad 0)) (h : clR nt n sz P F L He Pu) {post : Int32 → (Nat → Int32) → (Nat → Int32) → (Nat → Int32) → Int32 → (Nat → Int32) → (Nat → Int32) → Prop} (k : ∀ ans nt' n' P' F' L' sz' He' Pu', liftR nt n v2 v3 ans nt' n' → clR nt' n' sz' P' F' L' He' Pu' → post ans P' F' L' sz' He' Pu') : wp_X6_lift_s ad rr rc (iI r) v2 v3 P F L sz He Pu post := by
  obtain ⟨⟨pp, ff, hc⟩, hb, hv⟩ := id h
  have kx : (∀ p a, ¬ liftC nt v2 v3 p a) → post (-1) P F L sz He Pu := fun hq => k (-1) nt n P F L sz He Pu (Or.inr ⟨hq, rfl, rfl, rfl⟩) h
  unfold wp_X6_lift_s
  refine sc_rollOf_s R r hR er hr rfl ⟨ha, ?_⟩
  refine sc_isPitch (fun p hp e2 => z10 ?_) (fun hq => z00 (kx (fun p a hC => ?_)))
  · refine sc_isStep (fun s hs e3 => y10 ?_) (fun hq => y00 (kx (fun p a hC => ?_)))
    · have t3 : v3.toInt = s := by rw [e3, tI (by omega)]
      rw [e2, e3]
      refine cl_take hv hc hb hp hs (fun hq => kx (fun p' a hC => ?_)) (fun a pp' ff' P' F' L' sz' He' Pu' q0 q1 q2 q3 g1 g2 => ?_)
      · rw [Bool.eq_false_iff] at hq
        have e1 := iI_inj (by omega) (by have := hC.1; omega) (e2.symm.trans hC.2.1)
        subst e1
        have := hC.2.2
        exact hq (nInn_iff.mpr ⟨a, by omega, by omega⟩)
      · exact k _ _ _ _ _ _ _ _ _ (Or.inl ⟨p, a, ⟨hp, e2, q1, by omega, by omega⟩, rfl, rfl, rfl⟩) ⟨⟨pp', ff', g1⟩, g2, nV_clr hv p a⟩
    · have h9 := hv.1 p a hC.2.2.1
      have := hC.2.2
      omega
  · have e := hC.2.1
    rw [e, tI (by have := hC.1; omega)] at hq
    have := hC.1
    omega
theorem mo_lift_n {R : Nat} {rolls th v1 v2 v3 : Int32} {mp mf ml : Nat → Int32} (hR : R ≤ 6) (er : rolls = iI R) (hv : v1.toInt < 0 ∨ (R : Int) ≤ v1.toInt) {post : Int32 → Int32 → (Nat → Int32) → Prop} (k : post (-1) 0 ml) : wp_X7_lift rolls mp mf v1 v2 v3 th ml post := by
  unfold wp_X7_lift
  refine sp_isRoll R hR er (fun j hj ej => absurd hv (by rw [ej, tI (by omega)]; omega)) (fun _ => z00 ?_)
  unfold wl_X7_lift_24
  exact ⟨fun hq => absurd rfl hq, fun _ => k⟩
theorem mo_lift {R r n : Nat} {nt : Nat → Nat → Nat} {rolls th v2 v3 : Int32} {mp mf ml : Nat → Int32} (hR : R ≤ 6) (er : rolls = iI R) (hr : r < R) (h : moR r nt n mp mf ml) {post : Int32 → Int32 → (Nat → Int32) → Prop} (k : ∀ ans nt' n' ml', liftR nt n v2 v3 ans nt' n' → moR r nt' n' mp mf ml' → frR r ml ml' → post ans 0 ml') : wp_X7_lift rolls mp mf (iI r) v2 v3 th ml post := by
  obtain ⟨pp, ff, ll, hA, hB⟩ := id h
  unfold wp_X7_lift
  refine sp_isRoll R hR er (fun _ _ _ => z10 ?_) (fun hq => absurd hq (by rw [tI (by omega)]; omega))
  refine mo_at hA (by omega) (fun j j1 j2 j3 j4 j5 => ?_) (fun hq => ?_)
  · obtain ⟨a1, a2, a3, a4, a5, a6, a7⟩ := hA j j1
    have hl := hB.1 j j1 j2
    unfold wl_X7_lift_24
    refine ⟨fun _ => ?_, fun h9 => absurd h9 (oE_ne (by omega))⟩
    refine q_in (60 * r + j : Nat) ?_
    rw [q_cl (60 * r + j), a7]
    rintro z3 rfl
    refine q_in (60 * r + j : Nat) ?_
    rintro a4 rfl
    have hA' := slA_len hA (j0 := j) (l := 0) (by omega) (by omega) j1 (x := iI ((60 * r + j : Nat) : Int)) rfl (y := 0) rfl (by omega)
    obtain ⟨n1, hB'⟩ := slB_clr hB j1 j2
    rw [q_cl (60 * r + j)] at hA'
    rw [← hl]
    refine k _ _ _ _ (Or.inl ⟨pp j, ff j, ⟨a1, ?_, by omega, j4, by rw [hl]; exact j5⟩, rfl, rfl, rfl⟩) ⟨pp, ff, _, hA', hB'⟩ ?_
    · rw [iI_of v2, ← j3]
    · intro z hz
      exact pk_un (by omega)
  · unfold wl_X7_lift_24
    refine ⟨fun h9 => absurd rfl h9, fun _ => ?_⟩
    refine k _ _ _ _ (Or.inr ⟨fun p a hC => ?_, rfl, rfl, rfl⟩) h frR_rf
    obtain ⟨j, j1, j2, j3, j4⟩ := hB.2.1 p a hC.2.2.1
    have hl := hB.1 j j1 j2
    have := hC.2.2
    refine hq j j1 j2 ?_ (by omega) ?_
    · rw [j3, hC.2.1, tI (by have := hC.1; omega)]
    · rw [j4, ← hl, j3, j4]; omega
