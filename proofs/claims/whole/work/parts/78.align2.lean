theorem mo_align_n {R : Nat} {rolls th v1 v2 : Int32} {mp mf ml cp cs mo M N : Nat → Int32} {cz mm c0 x0 : Int32} (hR : R ≤ 6) (er : rolls = iI R) (hv : v1.toInt < 0 ∨ (R : Int) ≤ v1.toInt) {post : Int32 → Int32 → (Nat → Int32) → Int32 → (Nat → Int32) → (Nat → Int32) → Int32 → Int32 → Prop} (k : post (-1) 0 mo mm M N c0 x0) : wp_X7_align rolls mp mf ml cz cp cs v1 v2 th mo mm M N c0 x0 post := by
  unfold wp_X7_align
  exact sp_isRoll R hR er (fun j hj ej => absurd hv (by rw [ej, tI (by omega)]; omega)) (fun _ => z00 k)
theorem mo_paired_n {R : Nat} {rolls th v1 v2 : Int32} {mp mf ml cp cs mo M N : Nat → Int32} {cz mm c0 x0 : Int32} (hR : R ≤ 6) (er : rolls = iI R) (hv : v1.toInt < 0 ∨ (R : Int) ≤ v1.toInt) {post : Int32 → Int32 → (Nat → Int32) → Int32 → (Nat → Int32) → (Nat → Int32) → Int32 → Int32 → Prop} (k : post (-1) 0 mo mm M N c0 x0) : wp_X7_paired rolls mp mf ml cz cp cs v1 v2 th mo mm M N c0 x0 post := by
  unfold wp_X7_paired
  exact sp_isRoll R hR er (fun j hj ej => absurd hv (by rw [ej, tI (by omega)]; omega)) (fun _ => z00 k)
theorem mo_mend_n {R : Nat} {rolls th v1 : Int32} {mp mt mf ml cp cs mo M N so : Nat → Int32} {cz mm c0 x0 : Int32} (hR : R ≤ 6) (er : rolls = iI R) (hv : v1.toInt < 0 ∨ (R : Int) ≤ v1.toInt) {post : Int32 → Int32 → (Nat → Int32) → (Nat → Int32) → (Nat → Int32) → Int32 → (Nat → Int32) → (Nat → Int32) → Int32 → Int32 → (Nat → Int32) → Prop} (k : post (-1) 0 mp mt mo mm M N c0 x0 so) : wp_X7_mend rolls mf ml cz cp cs v1 th mp mt mo mm M N c0 x0 so post := by
  unfold wp_X7_mend
  exact sp_isRoll R hR er (fun j hj ej => absurd hv (by rw [ej, tI (by omega)]; omega)) (fun _ => y00 k)
theorem mo_paired {R r n : Nat} {nt : Nat → Nat → Nat} {pp0 ff0 : Nat → Nat} {rolls th v2 : Int32} {mp mf ml mo M N : Nat → Int32} {mm c0 x0 : Int32} (hR : R ≤ 6) (er : rolls = iI R) (hr : r < R) (hv : nV nt) (hE : nE nt n pp0 ff0) (h : moR r nt n mp mf ml) {m : Nat} {jp js : Nat → Nat} {cp cs : Nat → Int32} {cz : Int32} (hs : scC m jp js cp cs cz) {post : Int32 → Int32 → (Nat → Int32) → Int32 → (Nat → Int32) → (Nat → Int32) → Int32 → Int32 → Prop} (k1 : ∀ j a1 a2 a3 a4 a5 a6, j < m → v2 = iI j → post (oE (alG pp0 ff0 jp js n m j)) 0 a1 a2 a3 a4 a5 a6) (k0 : ∀ a1 a2 a3 a4 a5 a6, (v2.toInt < 0 ∨ (m : Int) ≤ v2.toInt) → post (-1) 0 a1 a2 a3 a4 a5 a6) : wp_X7_paired rolls mp mf ml cz cp cs (iI r) v2 th mo mm M N c0 x0 post := by
  obtain ⟨pp, ff, ll, hA, hB⟩ := h
  have hm := hs.1
  unfold wp_X7_paired
  refine sp_isRoll R hR er (fun _ _ _ => z10 ?_) (fun hq => absurd hq (by rw [tI (by omega)]; omega))
  refine sp_within 0 (m - 1) (fun z z1 z2 ez => y10 ?_) (fun hq => y00 (k0 _ _ _ _ _ _ (by omega))) rfl (by rw [hs.2.1]; simp only [iI_lit, iI_sub])
  obtain ⟨j, hj, ej⟩ := iI_nat z1 ez
  refine mo_aligns (by omega) hv hE hA hB hs (fun mo' o M' N' ho hat hN => ?_)
  refine q_in j ?_ ej
  rw [q_cl j ej, hN j (by omega)]
  exact k1 j _ _ _ _ _ _ (by omega) ej
theorem mo_align {R r n : Nat} {nt : Nat → Nat → Nat} {pp0 ff0 : Nat → Nat} {rolls th v2 : Int32} {mp mf ml mo M N : Nat → Int32} {mm c0 x0 : Int32} (hR : R ≤ 6) (er : rolls = iI R) (hr : r < R) (hv : nV nt) (hE : nE nt n pp0 ff0) (h : moR r nt n mp mf ml) {m : Nat} {jp js : Nat → Nat} {cp cs : Nat → Int32} {cz : Int32} (hs : scC m jp js cp cs cz) {post : Int32 → Int32 → (Nat → Int32) → Int32 → (Nat → Int32) → (Nat → Int32) → Int32 → Int32 → Prop} (k : ∀ a1 a2 a3 a4 a5 a6, post (alignA pp0 ff0 jp js n m v2) 0 a1 a2 a3 a4 a5 a6) : wp_X7_align rolls mp mf ml cz cp cs (iI r) v2 th mo mm M N c0 x0 post := by
  obtain ⟨pp, ff, ll, hA, hB⟩ := h
  have hm := hs.1
  have hn : n ≤ 60 := by rw [← hB.2.2.2]; exact ct_le _ _
  unfold wp_X7_align
  unfold alignA at k
  refine sp_isRoll R hR er (fun _ _ _ => z10 ?_) (fun hq => absurd hq (by rw [tI (by omega)]; omega))
  refine sp_within 0 5 (fun z z1 z2 ez => y10 ?_) (fun hq => y00 (by rw [if_neg (by omega)] at k; exact k _ _ _ _ _ _))
  have t2 : v2.toInt = z := by rw [ez, iI_toInt (by omega) (by omega)]
  rw [if_pos (by omega)] at k
  refine mo_aligns (by omega) hv hE hA hB hs (fun mo' o M' N' ho hat hN => ?_)
  have hrng : ∀ j i, alG pp0 ff0 jp js n m j = some i → i < n := fun j i hg => (wk_rng (Nat.le_refl _) (Nat.le_refl _) hg).2.1
  unfold alFig at k
  generalize hgg : alG pp0 ff0 jp js n m = g at k hN hrng ⊢
  generalize hec : eC (cst pp0 ff0 jp js) n m n m = ec at k ⊢
  have ez := hs.2.1
  subst ez
  have key : ∀ (y j : Nat), j + y = m → wl_X7_align_40 rolls mp mf ml (iI m) cp cs (iI r) v2 post (y + 1) (iI (ct (alA g) j)) (iI (ct (alB pp0 jp g) j)) (iI (ct (alB ff0 js g) j)) (iI j) 0 mo' (iI n) M' N' (iI ec) (iI ((n : Int) - ct (alA g) m)) := by
    intro y
    induction y with
    | zero =>
      intro j hj
      have e : j = m := by omega
      subst e
      rw [wl_X7_align_40]
      refine q_le j j (fun _ => ?_) (fun hc => absurd hc (by omega))
      refine ⟨fun h0 => ?_, fun h0 => ⟨fun h1 => ?_, fun h1 => ⟨fun h2 => ?_, fun h2 => ⟨fun h3 => ?_, fun h3 => ⟨fun h4 => ?_, fun h4 => ?_⟩⟩⟩⟩⟩
      · rw [if_pos h0] at k; exact k _ _ _ _ _ _
      · rw [if_neg h0, if_pos h1] at k; exact k _ _ _ _ _ _
      · rw [if_neg h0, if_neg h1, if_pos h2] at k
        rw [iI_sub]
        exact k _ _ _ _ _ _
      · rw [if_neg h0, if_neg h1, if_neg h2, if_pos h3] at k; exact k _ _ _ _ _ _
      · rw [if_neg h0, if_neg h1, if_neg h2, if_neg h3, if_pos h4] at k; exact k _ _ _ _ _ _
      · rw [if_neg h0, if_neg h1, if_neg h2, if_neg h3, if_neg h4] at k; exact k _ _ _ _ _ _
    | succ y ih =>
      intro j hj
      have nx := ih (j + 1) (by omega)
      obtain ⟨b1, b2, b3, b4⟩ := hs.2.2 j (by omega)
      have cj : (iI (j : Int)).toNatClampNeg = j := q_cl j
      rw [wl_X7_align_40]
      refine q_le m j (fun hc => absurd hc (by omega)) (fun _ => ?_)
      refine q_in j ?_
      rw [cj, hN j (by omega)]
      cases hg : g j with
      | none =>
        refine ⟨fun hc => absurd rfl hc, fun _ => ?_⟩
        rw [ct_f (alA_n hg), ct_f (alB_n hg), ct_f (alB_n hg)] at nx
        rw [i_p1]
        exact nx
      | some i =>
        have hi := hrng j i hg
        obtain ⟨w1, w2, w3⟩ := ho.1 i hi
        obtain ⟨a1, a2, a3, a4, a5, a6, a7⟩ := hA (o i) w1
        obtain ⟨e1, e2⟩ := hat i hi
        have ci : (iI (i : Int)).toNatClampNeg = i := q_cl i
        have cS : (iI ((60 * r + o i : Nat) : Int)).toNatClampNeg = 60 * r + o i := q_cl (60 * r + o i)
        refine ⟨fun _ => ?_, fun hc => absurd hc (oE_ne (by omega))⟩
        show vp_in (iI j) 40 ∧ vp_in (iI (i : Int)) 60 ∧ _
        refine q_in j ?_
        refine q_in i ?_
        rintro z9 rfl
        show vp_in (mo' (iI (i : Int)).toNatClampNeg) 360 ∧ _
        rw [show oE (some i) = iI (i : Int) from rfl, ci, w3, cS, a5, b3]
        refine q_in (60 * r + o i : Nat) ?_
        refine q_in j ?_
        rw [ct_t (alA_s hg)] at nx
        have fin : ∀ w1 : Nat, ct (alB pp0 jp g) (j + 1) = ct (alB pp0 jp g) j + w1 → wl_X7_align_104 rolls mp mf ml (iI m) cp cs (iI r) v2 post (wl_X7_align_40 rolls mp mf ml (iI m) cp cs (iI r) v2 post (y + 1)) (iI (ct (alA g) j) + 1) (iI (ct (alB ff0 js g) j)) (iI j) (iI ((60 * r + o i : Nat) : Int)) (iI (ct (alB pp0 jp g) j)) (iI w1) 0 mo' (iI n) M' N' (iI ec) (iI ((n : Int) - ct (alA g) m)) := by
          intro w1 hw
          unfold wl_X7_align_104
          refine q_in (60 * r + o i : Nat) ?_
          refine q_in j ?_
          rw [cS, cj, a6, b4, iI_s, ← hw, i_p1, i_p1 j]
          refine q_eq (ff (o i)) (js j) (fun hc => ?_) (fun hc => ?_)
          · rw [ct_f (p := alB ff0 js g) (by rw [alB_s hg]; exact decide_eq_false (by omega))] at nx
            rw [show iI (ct (alB ff0 js g) j : Int) + 0 = iI (ct (alB ff0 js g) j : Int) by simp only [iI_lit, iI_add]; exact iI_c (by omega)]
            exact nx
          · rw [ct_t (p := alB ff0 js g) (by rw [alB_s hg]; exact decide_eq_true (by omega)), ← i_p1 (ct (alB ff0 js g) j)] at nx
            exact nx
        refine q_eq (pp (o i)) (jp j) (fun hc => ?_) (fun hc => ?_)
        · exact fin 0 (ct_f (p := alB pp0 jp g) (by rw [alB_s hg]; exact decide_eq_false (by omega)))
        · exact fin 1 (ct_t (p := alB pp0 jp g) (by rw [alB_s hg]; exact decide_eq_true (by omega)))
  exact ⟨m + 1, key m 0 (by omega)⟩
