theorem mo_move_n {R : Nat} {rolls th v1 v2 mm : Int32} {mp mf ml ma ms mt tb mo : Nat → Int32} (hR : R ≤ 6) (er : rolls = iI R) (hv : (v1.toInt < 0 ∨ (R : Int) ≤ v1.toInt) ∨ (v2.toInt < 0 ∨ (R : Int) ≤ v2.toInt) ∨ v1 = v2) {post : Int32 → Int32 → (Nat → Int32) → (Nat → Int32) → (Nat → Int32) → (Nat → Int32) → (Nat → Int32) → (Nat → Int32) → (Nat → Int32) → (Nat → Int32) → Int32 → Prop} (k : post (-1) 0 mp mf ml ma ms mt tb mo mm) : wp_X7_move rolls v1 v2 th mp mf ml ma ms mt tb mo mm post := by
  unfold wp_X7_move
  refine sp_isRoll R hR er (fun j hj ej => z10 ?_) (fun _ => z00 k)
  refine sp_isRoll R hR er (fun j' hj' ej' => z10 ?_) (fun _ => z00 k)
  refine ⟨fun _ => k, fun hq => ?_⟩
  rw [ej, ej', tI (by omega), tI (by omega)] at hv
  rcases hv with h | h | h
  · omega
  · omega
  · exact absurd (by rw [ej, ej']; exact h) hq
theorem moR_fr {r r' n : Nat} {nt : Nat → Nat → Nat} {mp mf ml mp' mf' ml' : Nat → Int32} (h : moR r' nt n mp mf ml) (hne : r' ≠ r) (f1 : frR r mp mp') (f2 : frR r mf mf') (f3 : frR r ml ml') : moR r' nt n mp' mf' ml' := by
  obtain ⟨pp, ff, ll, hA, hB⟩ := h
  exact ⟨pp, ff, ll, slA_fr hA hne f1 f2 f3, hB⟩
theorem mo_move {R s r N n kt k0 : Nat} {ns nt : Nat → Nat → Nat} {mu mu0 pp0 ff0 : Nat → Nat} {rolls th mm : Int32} {mp mf ml ma ms mt tb mo : Nat → Int32} (hR : R ≤ 6) (er : rolls = iI R) (hr : r < R) (hs : s < R) (hne : s ≠ r) (hvs : nV ns) (hE : nE ns N pp0 ff0) (hms : moR s ns N mp mf ml) (hts : tpM s mu kt ma ms mt) (h : moR r nt n mp mf ml) (ht : tpM r mu0 k0 ma ms mt) {post : Int32 → Int32 → (Nat → Int32) → (Nat → Int32) → (Nat → Int32) → (Nat → Int32) → (Nat → Int32) → (Nat → Int32) → (Nat → Int32) → (Nat → Int32) → Int32 → Prop} (k : ∀ ans nt' n' mu' k' mp' mf' ml' ma' ms' mt' tb' mo' mm', mvR pp0 ff0 ns N mu kt nt n mu0 k0 ans nt' n' mu' k' → moR r nt' n' mp' mf' ml' → tpM r mu' k' ma' ms' mt' → frR r mp mp' → frR r mf mf' → frR r ml ml' → frA r ma ma' → frM r ms ms' → frM r mt mt' → post ans 0 mp' mf' ml' ma' ms' mt' tb' mo' mm') : wp_X7_move rolls (iI s) (iI r) th mp mf ml ma ms mt tb mo mm post := by
  have hn : n ≤ 60 := by
    obtain ⟨_, _, _, _, hB⟩ := h
    rw [← hB.2.2.2]; exact ct_le _ _
  unfold wp_X7_move
  refine sp_isRoll R hR er (fun _ _ _ => z10 ?_) (fun hq => absurd hq (by rw [tI (by omega)]; omega))
  refine sp_isRoll R hR er (fun _ _ _ => z10 ?_) (fun hq => absurd hq (by rw [tI (by omega)]; omega))
  refine q_eq s r (fun hq => absurd hq (by omega)) (fun _ => ?_)
  obtain ⟨ppo, ffo, llo, hAo, hBo⟩ := id h
  refine mo_notes hAo (by omega) ?_
  rw [hBo.2.2.2]
  refine q_le n 0 (fun hq => ?_) (fun hq => k _ nt n mu0 k0 _ _ _ _ _ _ _ _ _ (Or.inl ⟨by omega, rfl, rfl, rfl, rfl, rfl⟩) h ht frR_rf frR_rf frR_rf (fun _ _ => rfl) (fun _ _ => rfl) (fun _ _ => rfl))
  have e : n = 0 := by omega
  subst e
  obtain ⟨t1, t2, st, tt, t3, t4, t5, t6⟩ := hts
  have cs : (iI (s : Int)).toNatClampNeg = s := q_cl s
  have cr : (iI (r : Int)).toNatClampNeg = r := q_cl r
  refine q_in s ?_
  rw [cs, t2]
  rintro z4 rfl
  refine q_in r ?_
  rw [cr]
  rintro a5 rfl
  obtain ⟨pp, ff, ll, hA, hB⟩ := id hms
  have hN : N ≤ 60 := by rw [← hB.2.2.2]; exact ct_le _ _
  have fin : ∀ (ms' mt' : Nat → Int32), (∀ i, i < 10 → ms' (10 * r + i) = iI (st i) ∧ mt' (10 * r + i) = iI (tt i)) → frM r ms ms' → frM r mt mt' → wp_X7_orders mp mf ml (iI s) mo mm (fun (a6 : Nat → Int32) (z7 : Int32) => (∃ n, wl_X7_move_116 rolls (iI s) (iI r) post n 0 0 0 mp mf ml (upd ma r (iI kt)) ms' mt' tb a6 z7)) := by
    intro ms' mt' hmt f2 f3
    refine mo_orders hA (by omega) hB.2.2.1 (fun mo' o ho => ?_)
    rw [hB.2.2.2] at ho ⊢
    have hE2 := slB_E hB ho
    have hat := fun i hi => nE_at hE hE2 i hi hi
    have htp : tpM r mu kt (upd ma r (iI kt)) ms' mt' := ⟨t1, pk_us, st, tt, fun i hi => ⟨(t3 i hi).1, (t3 i hi).2.1, (hmt i hi).1, (hmt i hi).2⟩, t4, t5, t6⟩
    have key : ∀ (y i : Nat) (nt1 : Nat → Nat → Nat) (n1 d : Nat) (mp1 mf1 ml1 tb1 : Nat → Int32), i + y = N → mvS pp0 ff0 ns nt i nt1 n1 d → moR r nt1 n1 mp1 mf1 ml1 → frR r mp mp1 → frR r mf mf1 → frR r ml ml1 → wl_X7_move_116 rolls (iI s) (iI r) post (y + 1) (iI d) (iI i) 0 mp1 mf1 ml1 (upd ma r (iI kt)) ms' mt' tb1 mo' (iI N) := by
      intro y
      induction y with
      | zero =>
        intro i nt1 n1 d mp1 mf1 ml1 tb1 hi hS hR1 g1 g2 g3
        have e : i = N := by omega
        subst e
        rw [wl_X7_move_116]
        refine q_le i i (fun _ => ?_) (fun hq => absurd hq (by omega))
        exact k _ nt1 n1 mu kt mp1 mf1 ml1 _ _ _ _ _ _ (Or.inr ⟨rfl, d, hS, rfl, rfl, rfl⟩) hR1 htp g1 g2 g3 (fun x hx => pk_un hx) f2 f3
      | succ y ih =>
        intro i nt1 n1 d mp1 mf1 ml1 tb1 hi hS hR1 g1 g2 g3
        have hle := mvS_le hS
        obtain ⟨w1, w2, w3⟩ := ho.1 i (by omega)
        have hA1 := slA_fr hA hne g1 g2 g3
        obtain ⟨a1, a2, a3, a4, a5, a6, a7⟩ := hA1 (o i) w1
        obtain ⟨e1, e2⟩ := hat i (by omega)
        have hl := hB.1 (o i) w1 w2
        rw [← e1, ← e2] at hl
        have ci : (iI (i : Int)).toNatClampNeg = i := q_cl i
        have cS : (iI ((60 * s + o i : Nat) : Int)).toNatClampNeg = 60 * s + o i := q_cl (60 * s + o i)
        have sub : ∀ w : Int32, w = iI (sbar (pp0 i)) → wl_X7_move_190 rolls (iI s) (iI r) post (wl_X7_move_116 rolls (iI s) (iI r) post (y + 1)) (iI d) (iI i) (iI ((60 * s + o i : Nat) : Int)) w 0 mp1 mf1 ml1 (upd ma r (iI kt)) ms' mt' tb1 mo' (iI N) := by
          rintro w rfl
          unfold wl_X7_move_190
          refine q_in (60 * s + o i : Nat) ?_
          refine q_in (60 * s + o i : Nat) ?_
          rw [cS, a6, a7, i_p1 i, ← e2]
          refine mo_laysN hR1 (by omega) (sbar_lt (by rw [e1]; exact a1)) (by omega) (by omega) (by rw [e2]; omega) (by omega) (fun q1 => ?_) (fun mp2 mf2 ml2 tb2 q1 q2 q3 q4 q5 q6 => ?_) (fun mp2 mf2 ml2 tb2 q1 q2 q3 q4 q5 q6 => ?_)
          · refine ⟨fun _ => ?_, fun h9 => absurd h9 (by decide)⟩
            rw [i_p1 d]
            exact ih (i + 1) nt1 n1 (d + 1) mp1 mf1 ml1 tb1 (by omega) ⟨nt1, n1, d, hS, Or.inr ⟨fun hf => hf.1 (by rw [hl]; exact q1), rfl, rfl, rfl⟩⟩ hR1 g1 g2 g3
          · refine ⟨fun h9 => absurd rfl h9, fun _ => ?_⟩
            rw [show iI (d : Int) + 0 = iI ((d + 0 : Nat) : Int) by simp only [iI_lit, iI_add]; exact iI_c (by omega)]
            exact ih (i + 1) _ (n1 + 1) d mp2 mf2 ml2 tb2 (by omega) ⟨nt1, n1, d, hS, Or.inl ⟨by rw [hl]; exact q1, by rw [hl]; exact q2, by rw [hl], rfl, rfl⟩⟩ q3 (frR_tr g1 q4) (frR_tr g2 q5) (frR_tr g3 q6)
          · refine ⟨fun _ => ?_, fun h9 => absurd h9 (by decide)⟩
            rw [i_p1 d]
            exact ih (i + 1) nt1 n1 (d + 1) mp2 mf2 ml2 tb2 (by omega) ⟨nt1, n1, d, hS, Or.inr ⟨fun hf => q2 (by rw [hl] at hf; exact hf.2), rfl, rfl, rfl⟩⟩ q3 (frR_tr g1 q4) (frR_tr g2 q5) (frR_tr g3 q6)
        rw [wl_X7_move_116]
        refine q_le N i (fun hq => absurd hq (by omega)) (fun _ => ?_)
        refine q_in i ?_
        rw [ci, w3]
        rintro z12 rfl
        rw [cS, a5]
        refine q_in (60 * s + o i : Nat) ?_
        unfold sbar at sub
        refine q_le 4 (pp (o i)) (fun h1 => ?_) (fun h1 => ?_)
        · refine q_in (60 * s + o i : Nat) ?_
          refine q_le (pp (o i)) 19 (fun h2 => ?_) (fun h2 => ?_)
          · refine q_in (60 * s + o i : Nat) ?_
            exact sub _ (by rw [e1, if_neg (by omega), if_neg (by omega)])
          · refine q_in (60 * s + o i : Nat) ?_
            exact sub _ (by rw [e1, if_neg (by omega), if_pos (by omega)]; simp only [iI_lit, iI_sub]; exact iI_c (by omega))
        · refine q_in (60 * s + o i : Nat) ?_
          exact sub _ (by rw [e1, if_pos (by omega)]; simp only [iI_lit, iI_add]; exact iI_c (by omega))
    exact ⟨N + 1, key N 0 nt 0 0 mp mf ml tb (by omega) ⟨rfl, rfl, rfl⟩ h frR_rf frR_rf frR_rf⟩
  have copy : ∀ (y i : Nat) (ms' mt' : Nat → Int32), i + y = 10 → (∀ x, x < i → ms' (10 * r + x) = iI (st x) ∧ mt' (10 * r + x) = iI (tt x)) → frM r ms ms' → frM r mt mt' → wl_X7_move_50 rolls (iI s) (iI r) post (y + 1) (iI i) 0 mp mf ml (upd ma r (iI kt)) ms' mt' tb mo mm := by
    intro y
    induction y with
    | zero =>
      intro i ms' mt' hi hx f2 f3
      have e : i = 10 := by omega
      subst e
      rw [wl_X7_move_50]
      exact q_le 10 10 (fun _ => fin ms' mt' hx f2 f3) (fun hq => absurd hq (by omega))
    | succ y ih =>
      intro i ms' mt' hi hx f2 f3
      obtain ⟨u1, u2, u3, u4⟩ := t3 i (by omega)
      have cs' : (10 * iI (s : Int) + iI (i : Int)).toNatClampNeg = 10 * s + i := q_cl (10 * s + i)
      have cr' : (10 * iI (r : Int) + iI (i : Int)).toNatClampNeg = 10 * r + i := q_cl (10 * r + i)
      have o1 : ms' (10 * s + i) = iI (st i) := by rw [f2 _ (by omega)]; exact u3
      have o2 : mt' (10 * s + i) = iI (tt i) := by rw [f3 _ (by omega)]; exact u4
      rw [wl_X7_move_50]
      refine q_le 10 i (fun hq => absurd hq (by omega)) (fun _ => ?_)
      refine q_in (10 * s + i : Nat) ?_
      rw [cs', cr', o1, o2, i_p1]
      rintro z8 rfl
      refine q_in (10 * r + i : Nat) ?_
      rintro a9 rfl
      refine q_in (10 * s + i : Nat) ?_
      rintro z10 rfl
      refine q_in (10 * r + i : Nat) ?_
      rintro a11 rfl
      refine ih (i + 1) _ _ (by omega) (fun x hx1 => ?_) (fun x hx1 => ?_) (fun x hx1 => ?_)
      · by_cases e : x = i
        · rw [e, pk_us, pk_us]; exact ⟨rfl, rfl⟩
        · rw [pk_un (by omega), pk_un (by omega)]; exact hx x (by omega)
      · rw [pk_un (by omega)]; exact f2 x hx1
      · rw [pk_un (by omega)]; exact f3 x hx1
  exact ⟨11, copy 10 0 ms mt (by omega) (fun x hx => absurd hx (by omega)) (fun _ _ => rfl) (fun _ _ => rfl)⟩
