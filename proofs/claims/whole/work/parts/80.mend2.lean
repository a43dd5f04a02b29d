theorem near_oth {nt : Nat → Nat → Nat} {p q a b l : Nat} (h : q ≠ p) : nearN (setN nt p a 0) q b l ↔ nearN nt q b l := by
  constructor
  · rintro ⟨f, h1, h2, h3⟩
    rw [setN_n _ _ (by omega)] at h1 h2
    exact ⟨f, h1, h2, h3⟩
  · rintro ⟨f, h1, h2, h3⟩
    refine ⟨f, ?_, ?_, h3⟩
    · rw [setN_n _ _ (by omega)]; exact h1
    · rw [setN_n _ _ (by omega)]; exact h2
theorem nu_nu {α : Type} (f : Nat → α) (k : Nat) (x : α) : nu (nu f k x) k (f k) = f := by
  funext j
  by_cases e : j = k
  · subst e; rw [nu_s]
  · rw [nu_n _ _ e, nu_n _ _ e]
theorem nu_self {α : Type} (f : Nat → α) (k : Nat) : nu f k (f k) = f := by
  funext j
  by_cases e : j = k
  · subst e; rw [nu_s]
  · rw [nu_n _ _ e]
theorem slA_pit {r : Nat} {pp ff ll : Nat → Nat} {mp mf ml : Nat → Int32} (h : slA r pp ff ll mp mf ml) {s q : Nat} (hq : q < 24) {x : Int32} (hs : s < 60) (hx : x = iI ((60 * r + s : Nat) : Int)) (hr : r < 6) : slA r (nu pp s q) ff ll (upd mp x.toNatClampNeg (iI q)) mf ml := by
  intro j hj
  rw [q_cl (60 * r + s) hx]
  obtain ⟨a1, a2, a3, a4, a5, a6, a7⟩ := h j hj
  by_cases e : j = s
  · subst e
    rw [nu_s, pk_us]
    exact ⟨hq, a2, a3, a4, rfl, a6, a7⟩
  · rw [nu_n _ _ e, pk_un (by omega)]
    exact ⟨a1, a2, a3, a4, a5, a6, a7⟩
theorem mo_mends {r n : Nat} {nt : Nat → Nat → Nat} {pp ff ll : Nat → Nat} {mp mf ml mt : Nat → Int32} (hr : r < 6) (hA : slA r pp ff ll mp mf ml) (hB : slB nt n pp ff ll) {s q : Nat} (hs : s < 60) (hl : 0 < ll s) (hq : q < 24) (hne : pp s ≠ q) {post : Int32 → (Nat → Int32) → (Nat → Int32) → Prop} (k : ∀ nt' d pp' mp' mt', mdP nt (pp s) (ff s) q nt' d → d ≤ 1 → slA r pp' ff ll mp' mf ml → slB nt' n pp' ff ll → (∀ x, x ≠ s → pp' x = pp x) → frR r mp mp' → post (iI (d : Nat)) mp' mt') : wp_X7_mends mf ml (iI r) (iI ((60 * r + s : Nat) : Int)) (iI q) mp mt post := by
  obtain ⟨c1, c2, c3, c4, c5, c6, c7⟩ := hA s hs
  have hnt := hB.1 s hs hl
  have cS : (iI ((60 * r + s : Nat) : Int)).toNatClampNeg = 60 * r + s := q_cl (60 * r + s)
  have e0 : 60 * iI (r : Int) = iI ((60 * r + 0 : Nat) : Int) := by
    simp only [iI_lit, iI_mul]
    exact iI_c (by omega)
  unfold wp_X7_mends
  refine q_in (60 * r + s : Nat) ?_
  rintro z1 rfl
  rintro z2 rfl
  rw [e0, cS, c5]
  have key : ∀ (j i : Nat), i + j = 60 → (∀ x, x < i → x ≠ s → 0 < ll x → pp x = q → ¬ (ff s < ff x + ll x + 1 ∧ ff x < ff s + ll s + 1)) → wl_X7_mends_14 mf ml (iI r) (iI ((60 * r + s : Nat) : Int)) (iI q) post (j + 1) (iI (pp s)) (iI ((60 * r + i : Nat) : Int)) mp mt := by
    intro j
    induction j with
    | zero =>
      intro i hi hx
      have e : i = 60 := by omega
      subst e
      have nn : ¬ nearN (setN nt (pp s) (ff s) 0) q (ff s) (ll s) := by
        rw [near_oth (by omega)]
        intro hq2
        obtain ⟨j, j1, j2, j3, j4, j5⟩ := (slB_near hB).mpr hq2
        refine hx j j1 (fun e => ?_) j2 j3 ⟨j4, j5⟩
        rw [e] at j3
        exact hne j3
      obtain ⟨n1, hB1⟩ := slB_clr hB hs hl
      have hB2 := slB_add hB1 (j0 := s) (p := q) (a := ff s) (l := ll s) hs (nu_s _ _ _) (near_0 nn) hl
      rw [nu_nu, nu_self, show n - 1 + 1 = n by omega] at hB2
      have hA2 := slA_pit hA hq hs (x := iI ((60 * r + s : Nat) : Int)) rfl hr
      rw [wl_X7_mends_14]
      refine q_le (60 * r + 60) (60 * r + 60 : Nat) (fun _ => ?_) (fun hc => absurd hc (by omega))
      refine q_in (60 * r + s : Nat) ?_
      rintro a3 rfl
      refine q_in (60 * r + s : Nat) ?_
      refine q_in (60 * r + s : Nat) ?_
      refine q_in (60 * r + s : Nat) ?_
      rw [cS] at hA2 ⊢
      rw [c6, c7]
      intro z4 hz4
      refine mo_bears hA2 hr rfl (b := ff s + ll s - 1) (by rw [hz4]; simp only [iI_lit, iI_add, iI_sub]; exact iI_c (by omega)) (by omega) (by omega) (fun mt' hb => ?_) (fun mt' hb => ?_)
      · refine z10 ?_
        refine k _ 1 _ _ mt' (Or.inl ⟨by rw [hnt]; exact nn, ?_, by rw [hnt], rfl⟩) (by omega) hA2 hB2 (fun x hx => nu_n _ _ hx) (fun x hx => pk_un (by omega))
        rw [hnt]
        intro t t1 t2
        exact bearsAt_cong (fun x _ => pnS_eq hB2 x t) (hb t t1 t2)
      · refine z00 ?_
        refine q_in (60 * r + s : Nat) ?_
        rintro a7 rfl
        refine k nt 0 pp _ mt' (Or.inr ⟨fun hf => hb (fun t t1 t2 => ?_), rfl, rfl⟩) (by omega) ?_ hB (fun x _ => rfl) ?_
        · rw [hnt] at hf
          exact bearsAt_cong (fun x _ => (pnS_eq hB2 x t).symm) (hf.2 t t1 t2)
        · intro j hj
          obtain ⟨a1, a2, a3, a4, a5, a6, a7⟩ := hA j hj
          by_cases e : j = s
          · subst e; rw [pk_us]; exact ⟨a1, a2, a3, a4, rfl, a6, a7⟩
          · rw [pk_un (by omega), pk_un (by omega)]; exact ⟨a1, a2, a3, a4, a5, a6, a7⟩
        · intro x hx
          rw [pk_un (by omega), pk_un (by omega)]
    | succ j ih =>
      intro i hi hx
      obtain ⟨a1, a2, a3, a4, a5, a6, a7⟩ := hA i (by omega)
      have ei : iI ((60 * r + i : Nat) : Int) + 1 = iI ((60 * r + (i + 1) : Nat) : Int) := by
        simp only [iI_lit, iI_add]
        exact iI_c (by omega)
      have cI : (iI ((60 * r + i : Nat) : Int)).toNatClampNeg = 60 * r + i := q_cl (60 * r + i)
      have nx : (i ≠ s → 0 < ll i → pp i = q → ¬ (ff s < ff i + ll i + 1 ∧ ff i < ff s + ll s + 1)) → wl_X7_mends_14 mf ml (iI r) (iI ((60 * r + s : Nat) : Int)) (iI q) post (j + 1) (iI (pp s)) (iI ((60 * r + (i + 1) : Nat) : Int)) mp mt := fun h9 => ih (i + 1) (by omega) (fun x h1 h2 h3 h4 => by
        rcases Nat.lt_or_ge x i with u | u
        · exact hx x u h2 h3 h4
        · have e : x = i := by omega
          subst e
          exact h9 h2 h3 h4)
      rw [wl_X7_mends_14]
      refine q_le (60 * r + 60) (60 * r + i : Nat) (fun hc => absurd hc (by omega)) (fun _ => ?_)
      rw [ei, cI, cS, a5, a6, a7, c6, c7]
      refine q_eq (60 * r + i : Nat) (60 * r + s : Nat) (fun hc => nx (fun h9 => absurd hc (by omega))) (fun hc => ?_)
      refine q_in (60 * r + i : Nat) ?_
      refine q_le (ll i) 0 (fun hc2 => nx (fun _ h9 => absurd h9 (by omega))) (fun hc2 => ?_)
      refine q_in (60 * r + i : Nat) ?_
      refine q_ne (pp i) q (fun hc3 => nx (fun _ _ h9 => absurd h9 (by omega))) (fun hc3 => ?_)
      refine q_in (60 * r + s : Nat) ?_
      refine q_in (60 * r + i : Nat) ?_
      refine q_in (60 * r + i : Nat) ?_
      intro z8 hz8
      refine q_le (ff i + ll i + 1) (ff s) (fun hc4 => nx (fun _ _ _ h9 => by omega)) (fun hc4 => ?_) (by rw [hz8]; simp only [iI_lit, iI_add])
      refine q_in (60 * r + i : Nat) ?_
      refine q_in (60 * r + s : Nat) ?_
      refine q_in (60 * r + s : Nat) ?_
      intro z9 hz9
      refine q_le (ff s + ll s + 1) (ff i) (fun hc5 => nx (fun _ _ _ h9 => by omega)) (fun hc5 => ?_) (by rw [hz9]; simp only [iI_lit, iI_add])
      have near : nearN (setN nt (pp s) (ff s) 0) q (ff s) (ll s) := by
        rw [near_oth (by omega)]
        exact (slB_near hB).mp ⟨i, by omega, by omega, by omega, by omega, by omega⟩
      exact k nt 0 pp mp mt (Or.inr ⟨fun hf => hf.1 (by rw [hnt]; exact near), rfl, rfl⟩) (by omega) hA hB (fun _ _ => rfl) frR_rf
  exact ⟨61, key 60 0 (by omega) (fun x hx => absurd hx (by omega))⟩
theorem mo_mend {R r n : Nat} {nt : Nat → Nat → Nat} {pp0 ff0 : Nat → Nat} {rolls th : Int32} {mp mt mf ml mo M N so : Nat → Int32} {mm c0 x0 : Int32} (hR : R ≤ 6) (er : rolls = iI R) (hr : r < R) (hv : nV nt) (hE : nE nt n pp0 ff0) (h : moR r nt n mp mf ml) {m : Nat} {jp js : Nat → Nat} {cp cs : Nat → Int32} {cz : Int32} (hs : scC m jp js cp cs cz) {post : Int32 → Int32 → (Nat → Int32) → (Nat → Int32) → (Nat → Int32) → Int32 → (Nat → Int32) → (Nat → Int32) → Int32 → Int32 → (Nat → Int32) → Prop} (k : ∀ nt' c mp' mt' a1 a2 a3 a4 a5 a6 a7, mdS pp0 ff0 jp (alG pp0 ff0 jp js n m) nt m nt' c → moR r nt' n mp' mf ml → frR r mp mp' → post (iI (c : Nat)) 0 mp' mt' a1 a2 a3 a4 a5 a6 a7) : wp_X7_mend rolls mf ml cz cp cs (iI r) th mp mt mo mm M N c0 x0 so post := by
  obtain ⟨pp, ff, ll, hA, hB⟩ := h
  have hm := hs.1
  have hn : n ≤ 60 := by rw [← hB.2.2.2]; exact ct_le _ _
  have hI := mdI_0 (m := m) (jp := jp) (js := js) hv hE
  unfold wp_X7_mend
  refine sp_isRoll R hR er (fun _ _ _ => y10 ?_) (fun hq => absurd hq (by rw [tI (by omega)]; omega))
  refine mo_aligns (by omega) hv hE hA hB hs (fun mo' o M' N' ho hat hN => ?_)
  have hrng : ∀ j i, alG pp0 ff0 jp js n m j = some i → i < n := fun j i hg => (wk_rng (Nat.le_refl _) (Nat.le_refl _) hg).2.1
  have hmono : ∀ x y i i', x < y → alG pp0 ff0 jp js n m x = some i → alG pp0 ff0 jp js n m y = some i' → i < i' := fun x y i i' hxy h h' => wk_mono (Nat.le_refl _) (Nat.le_refl _) hxy h h'
  generalize hgg : alG pp0 ff0 jp js n m = g at k hN hrng hmono hI ⊢
  generalize iI (eC (cst pp0 ff0 jp js) n m n m : Int) = ec
  generalize iI ((n : Int) - ct (alA g) m) = ex
  have ez := hs.2.1
  subst ez
  have hoi : ∀ i i', i < i' → i' < n → o i ≠ o i' := fun i i' h1 h2 e => by
    have := ho.2.1 i i' h1 h2
    unfold lx at this
    rw [e] at this
    omega
  have run : ∀ (so : Nat → Int32), (∀ x, x < m → so x = (match g x with | none => -1 | some i => iI ((60 * r + o i : Nat) : Int))) → ∀ (y j : Nat) (nt1 : Nat → Nat → Nat) (c : Nat) (pp1 : Nat → Nat) (mp1 mt1 : Nat → Int32), j + y = m → mdS pp0 ff0 jp g nt j nt1 c → mdI pp0 ff0 g m j nt1 → slA r pp1 ff ll mp1 mf ml → slB nt1 n pp1 ff ll → (∀ x i, j ≤ x → g x = some i → pp1 (o i) = pp0 i) → frR r mp mp1 → wl_X7_mend_71 rolls mf ml (iI m) cp cs (iI r) post (y + 1) (iI c) (iI j) 0 mp1 mt1 mo' (iI n) M' N' ec ex so := by
    intro so hso y
    induction y with
    | zero =>
      intro j nt1 c pp1 mp1 mt1 hj hS hI hA1 hB1 hp hf
      have e : j = m := by omega
      subst e
      rw [wl_X7_mend_71]
      exact q_le j j (fun _ => k nt1 c mp1 mt1 _ _ _ _ _ _ _ hS ⟨pp1, ff, ll, hA1, hB1⟩ hf) (fun hq => absurd hq (by omega))
    | succ y ih =>
      intro j nt1 c pp1 mp1 mt1 hj hS hI hA1 hB1 hp hf
      obtain ⟨b1, b2, b3, b4⟩ := hs.2.2 j (by omega)
      have hcl := mdS_le hS
      have cj : (iI (j : Int)).toNatClampNeg = j := q_cl j
      have nx : ∀ nt2 c2 pp2 mp2 mt2, mdT pp0 ff0 jp (g j) j nt1 c nt2 c2 → slA r pp2 ff ll mp2 mf ml → slB nt2 n pp2 ff ll → (∀ x i, j + 1 ≤ x → g x = some i → pp2 (o i) = pp0 i) → frR r mp mp2 → wl_X7_mend_71 rolls mf ml (iI m) cp cs (iI r) post (y + 1) (iI (c2 : Nat)) (iI ((j + 1 : Nat) : Int)) 0 mp2 mt2 mo' (iI n) M' N' ec ex so := fun nt2 c2 pp2 mp2 mt2 hT h1 h2 h3 h4 => ih (j + 1) nt2 c2 pp2 mp2 mt2 (by omega) ⟨nt1, c, hS, hT⟩ (mdI_next (by omega) hrng hmono hE.2.1 b1 hI hT) h1 h2 h3 h4
      rw [wl_X7_mend_71]
      refine q_le m j (fun hq => absurd hq (by omega)) (fun _ => ?_)
      refine q_in j ?_
      rw [cj, i_p1]
      have hsj := hso j (by omega)
      cases hgj : g j with
      | none =>
        rw [hgj] at hsj
        simp only at hsj
        rw [hsj]
        rintro z9 rfl
        refine ⟨fun _ => nx nt1 c pp1 mp1 mt1 (Or.inl ⟨hgj, rfl, rfl⟩) hA1 hB1 (fun x i h1 h2 => hp x i (by omega) h2) hf, fun h => absurd rfl h⟩
      | some i =>
        rw [hgj] at hsj
        simp only at hsj
        have hi := hrng j i hgj
        have h0 := hI.2 j i (Nat.le_refl _) (by omega) hgj
        obtain ⟨w1, w2, w3⟩ := ho.1 i hi
        obtain ⟨e1, e2⟩ := hat i hi
        have e3 := hp j i (Nat.le_refl _) hgj
        obtain ⟨a1, a2, a3, a4, a5, a6, a7⟩ := hA1 (o i) w1
        have cS : (iI ((60 * r + o i : Nat) : Int)).toNatClampNeg = 60 * r + o i := q_cl (60 * r + o i)
        rw [hsj]
        rintro z9 rfl
        refine ⟨fun h => absurd h (oE_ne (by omega)), fun _ => ?_⟩
        refine q_in (60 * r + o i : Nat) ?_
        refine q_in j ?_
        rw [cS, a5, b3]
        refine q_ne (pp1 (o i)) (jp j) (fun hq => ?_) (fun hq => ?_)
        · refine q_in j ?_
          refine mo_mends (by omega) hA1 hB1 w1 w2 b1 (by omega) (fun nt' d pp' mp' mt' s1 s2 s3 s4 s5 s6 => ?_)
          rw [e3, ← e2] at s1
          have nx2 := nx nt' (c + d) pp' mp' mt' (Or.inr (Or.inr ⟨i, d, hgj, by omega, s1, rfl⟩)) s3 s4 (fun x i' h1 h2 => by
            rw [s5 (o i') (fun e => hoi i i' (hmono j x i i' (by omega) hgj h2) (hrng x i' h2) e.symm)]
            exact hp x i' (by omega) h2) (frR_tr hf s6)
          refine q_eq d 0 (fun hd => ?_) (fun hd => ?_)
          · rw [show d = 0 by omega] at nx2
            rw [show iI (c : Int) + 0 = iI ((c + 0 : Nat) : Int) by simp only [iI_lit, iI_add]; exact iI_c (by omega)]
            exact nx2
          · rw [show d = 1 by omega, ← i_p1] at nx2; exact nx2
        · exact nx nt1 c pp1 mp1 mt1 (Or.inr (Or.inl ⟨i, hgj, by omega, rfl, rfl⟩)) hA1 hB1 (fun x i h1 h2 => hp x i (by omega) h2) hf
  have fill : ∀ (y j : Nat) (so : Nat → Int32), j + y = m → (∀ x, x < j → so x = (match g x with | none => -1 | some i => iI ((60 * r + o i : Nat) : Int))) → wl_X7_mend_22 rolls mf ml (iI m) cp cs (iI r) post (y + 1) (iI j) 0 mp mt mo' (iI n) M' N' ec ex so := by
    intro y
    induction y with
    | zero =>
      intro j so hj hso
      have e : j = m := by omega
      subst e
      rw [wl_X7_mend_22]
      refine q_le j j (fun _ => ?_) (fun hq => absurd hq (by omega))
      exact ⟨j + 1, run so hso j 0 nt 0 pp mp mt (by omega) ⟨rfl, rfl⟩ hI hA hB (fun x i _ hx => ((hat i (hrng x i hx)).1).symm) frR_rf⟩
    | succ y ih =>
      intro j so hj hso
      have cj : (iI (j : Int)).toNatClampNeg = j := q_cl j
      have nx : ∀ w : Int32, w = (match g j with | none => -1 | some i => iI ((60 * r + o i : Nat) : Int)) → wl_X7_mend_60 rolls mf ml (iI m) cp cs (iI r) post (wl_X7_mend_22 rolls mf ml (iI m) cp cs (iI r) post (y + 1)) (iI j) (iI j) w 0 mp mt mo' (iI n) M' N' ec ex so := by
        intro w hw
        unfold wl_X7_mend_60
        refine q_in j ?_
        rintro a8 rfl
        rw [cj, i_p1]
        refine ih (j + 1) _ (by omega) (fun x hx => ?_)
        by_cases e : x = j
        · rw [e, pk_us]; exact hw
        · rw [pk_un e]; exact hso x (by omega)
      rw [wl_X7_mend_22]
      refine q_le m j (fun hq => absurd hq (by omega)) (fun _ => ?_)
      refine q_in j ?_
      rw [cj, hN j (by omega)]
      cases hgj : g j with
      | none =>
        refine ⟨fun h => absurd rfl h, fun _ => nx _ ?_⟩
        rw [hgj]
      | some i =>
        have hi := hrng j i hgj
        obtain ⟨w1, w2, w3⟩ := ho.1 i hi
        have ci : (iI (i : Int)).toNatClampNeg = i := q_cl i
        refine ⟨fun _ => ?_, fun h => absurd h (oE_ne (by omega))⟩
        refine q_in j ?_
        show vp_in (iI (i : Int)) 60 ∧ _
        refine q_in i ?_
        refine nx _ ?_
        rw [hgj, show oE (some i) = iI (i : Int) from rfl, ci, w3]
  exact ⟨m + 1, fill m 0 so (by omega) (fun x hx => absurd hx (by omega))⟩
