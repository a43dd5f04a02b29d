/-! mending: item by item -/
def mdP (nt : Nat → Nat → Nat) (p a q : Nat) (nt' : Nat → Nat → Nat) (d : Nat) : Prop := (¬ nearN (setN nt p a 0) q a (nt p a) ∧ bornN (setN nt p a 0) q a (nt p a) ∧ nt' = setN (setN nt p a 0) q a (nt p a) ∧ d = 1) ∨ (¬ (¬ nearN (setN nt p a 0) q a (nt p a) ∧ bornN (setN nt p a 0) q a (nt p a)) ∧ nt' = nt ∧ d = 0)
theorem mdP_fun {nt : Nat → Nat → Nat} {p a q : Nat} {s t : Nat → Nat → Nat} {x y : Nat} (h : mdP nt p a q s x) (k : mdP nt p a q t y) : s = t ∧ x = y := by
  rcases h with ⟨h1, h2, h3, h4⟩ | ⟨h1, h3, h4⟩ <;> rcases k with ⟨k1, k2, k3, k4⟩ | ⟨k1, k3, k4⟩
  · exact ⟨h3.trans k3.symm, h4.trans k4.symm⟩
  · exact absurd ⟨h1, h2⟩ k1
  · exact absurd ⟨k1, k2⟩ h1
  · exact ⟨h3.trans k3.symm, h4.trans k4.symm⟩
theorem mdP_V {nt : Nat → Nat → Nat} {p a q : Nat} {s : Nat → Nat → Nat} {x : Nat} (hv : nV nt) (hq : q < 24) (h0 : 0 < nt p a) (h : mdP nt p a q s x) : nV s := by
  have h9 := hv.1 p a h0
  rcases h with ⟨h1, h2, h3, h4⟩ | ⟨h1, h3, h4⟩
  · rw [h3]; exact nV_set (nV_clr hv p a) hq (by omega) (by omega) (by omega) h1 h2
  · rw [h3]; exact hv
theorem mdP_at {nt : Nat → Nat → Nat} {p a q : Nat} {s : Nat → Nat → Nat} {x : Nat} (h0 : 0 < nt p a) (h : mdP nt p a q s x) {p' f' : Nat} (h1 : 0 < nt p' f') (hne : ¬ (p' = p ∧ f' = a)) : 0 < s p' f' := by
  rcases h with ⟨-, -, h3, h4⟩ | ⟨-, h3, h4⟩
  · rw [h3]
    by_cases e : p' = q ∧ f' = a
    · rw [e.1, e.2, setN_s]; exact h0
    · rw [setN_n _ _ e, setN_n _ _ hne]; exact h1
  · rw [h3]; exact h1
def mdT (pp ff jp : Nat → Nat) (g : Option Nat) (j : Nat) (nt : Nat → Nat → Nat) (c : Nat) (nt' : Nat → Nat → Nat) (c' : Nat) : Prop := (g = none ∧ nt' = nt ∧ c' = c) ∨ (∃ i, g = some i ∧ pp i = jp j ∧ nt' = nt ∧ c' = c) ∨ (∃ i d, g = some i ∧ pp i ≠ jp j ∧ mdP nt (pp i) (ff i) (jp j) nt' d ∧ c' = c + d)
theorem mdT_fun {pp ff jp : Nat → Nat} {g : Option Nat} {j : Nat} {nt : Nat → Nat → Nat} {c : Nat} {s t : Nat → Nat → Nat} {x y : Nat} (h : mdT pp ff jp g j nt c s x) (k : mdT pp ff jp g j nt c t y) : s = t ∧ x = y := by
  rcases h with ⟨h1, h2, h3⟩ | ⟨i, h1, h2, h3, h4⟩ | ⟨i, d, h1, h2, h3, h4⟩ <;> rcases k with ⟨k1, k2, k3⟩ | ⟨i', k1, k2, k3, k4⟩ | ⟨i', d', k1, k2, k3, k4⟩
  · exact ⟨h2.trans k2.symm, h3.trans k3.symm⟩
  · rw [h1] at k1; cases k1
  · rw [h1] at k1; cases k1
  · rw [h1] at k1; cases k1
  · exact ⟨h3.trans k3.symm, h4.trans k4.symm⟩
  · rw [h1] at k1
    injection k1 with e
    rw [e] at h2
    exact absurd h2 k2
  · rw [h1] at k1; cases k1
  · rw [h1] at k1
    injection k1 with e
    rw [← e] at k2
    exact absurd k2 h2
  · rw [h1] at k1
    injection k1 with e
    rw [← e] at k3
    obtain ⟨u1, u2⟩ := mdP_fun h3 k3
    exact ⟨u1, by omega⟩
def mdS (pp ff jp : Nat → Nat) (g : Nat → Option Nat) (nt0 : Nat → Nat → Nat) : Nat → (Nat → Nat → Nat) → Nat → Prop
  | 0, nt, c => nt = nt0 ∧ c = 0
  | j + 1, nt, c => ∃ nt1 c1, mdS pp ff jp g nt0 j nt1 c1 ∧ mdT pp ff jp (g j) j nt1 c1 nt c
theorem mdS_fun {pp ff jp : Nat → Nat} {g : Nat → Option Nat} {nt0 : Nat → Nat → Nat} : ∀ {j : Nat} {s t : Nat → Nat → Nat} {x y : Nat}, mdS pp ff jp g nt0 j s x → mdS pp ff jp g nt0 j t y → s = t ∧ x = y
  | 0, _, _, _, _, h, k => ⟨h.1.trans k.1.symm, h.2.trans k.2.symm⟩
  | j + 1, _, _, _, _, ⟨n1, c1, h1, h2⟩, ⟨n2, c2, k1, k2⟩ => by
    obtain ⟨e1, e2⟩ := mdS_fun h1 k1
    subst e1 e2
    exact mdT_fun h2 k2
theorem mdS_le {pp ff jp : Nat → Nat} {g : Nat → Option Nat} {nt0 : Nat → Nat → Nat} : ∀ {j : Nat} {s : Nat → Nat → Nat} {x : Nat}, mdS pp ff jp g nt0 j s x → x ≤ j
  | 0, _, _, h => by rw [h.2]; exact Nat.le_refl _
  | j + 1, _, _, ⟨n1, c1, h1, h2⟩ => by
    have := mdS_le h1
    rcases h2 with ⟨-, -, h3⟩ | ⟨i, -, -, -, h4⟩ | ⟨i, d, -, -, h3, h4⟩
    · omega
    · omega
    · rcases h3 with ⟨-, -, -, h5⟩ | ⟨-, -, h5⟩ <;> omega
/-- what stays true while items are gone through -/
def mdI (pp ff : Nat → Nat) (g : Nat → Option Nat) (m j : Nat) (nt : Nat → Nat → Nat) : Prop := nV nt ∧ ∀ x i, j ≤ x → x < m → g x = some i → 0 < nt (pp i) (ff i)
theorem mdI_next {pp ff jp : Nat → Nat} {g : Nat → Option Nat} {m j n : Nat} {nt nt' : Nat → Nat → Nat} {c c' : Nat} (hj : j < m) (hrng : ∀ x i, g x = some i → i < n) (hmono : ∀ x y i i', x < y → g x = some i → g y = some i' → i < i') (hlx : ∀ i i', i < i' → i' < n → lx pp ff i i') (hq : jp j < 24) (h : mdI pp ff g m j nt) (k : mdT pp ff jp (g j) j nt c nt' c') : mdI pp ff g m (j + 1) nt' := by
  obtain ⟨hv, h2⟩ := h
  rcases k with ⟨-, k2, -⟩ | ⟨i, k1, -, k2, -⟩ | ⟨i, d, k1, k2, k3, -⟩
  · rw [k2]; exact ⟨hv, fun x i h3 h4 h5 => h2 x i (by omega) h4 h5⟩
  · rw [k2]; exact ⟨hv, fun x i h3 h4 h5 => h2 x i (by omega) h4 h5⟩
  · have h0 := h2 j i (Nat.le_refl _) hj k1
    refine ⟨mdP_V hv hq h0 k3, fun x i' h3 h4 h5 => ?_⟩
    refine mdP_at h0 k3 (h2 x i' (by omega) h4 h5) (fun e => ?_)
    have := hlx i i' (hmono j x i i' (by omega) k1 h5) (hrng x i' h5)
    unfold lx at this
    omega
theorem cl_moveToPitch {nt : Nat → Nat → Nat} {n : Nat} {pp ff : Nat → Nat} {sz : Int32} {P F L He Pu : Nat → Int32} (hv : nV nt) (hc : rcN nt n pp ff sz P F L) (hb : rcB nt He Pu) {p a q : Nat} (h0 : 0 < nt p a) (hq : q < 24) {post : Int32 → (Nat → Int32) → (Nat → Int32) → (Nat → Int32) → Int32 → (Nat → Int32) → (Nat → Int32) → Prop} (k : ∀ nt' d pp' ff' P' F' L' sz' He' Pu', mdP nt p a q nt' d → d ≤ 1 → rcN nt' n pp' ff' sz' P' F' L' → rcB nt' He' Pu' → post (iI (d : Nat)) P' F' L' sz' He' Pu') : wp_X4_moveToPitch (iI p) (iI a) (iI q) P F L sz He Pu post := by
  have h9 := hv.1 p a h0
  have hn := hc.1
  unfold wp_X4_moveToPitch
  refine cl_take hv hc hb h9.1 (by omega) (fun hq2 => ?_) (fun a' pp' ff' P' F' L' sz' He' Pu' g0 g1 g2 g3 g4 g5 => ?_)
  · rw [Bool.eq_false_iff] at hq2
    exact absurd (nInn_iff.mpr ⟨a, by omega, by omega⟩) hq2
  · have e := cov_one hv (p := p) (s := a) (f := a') (f' := a) g2 g3 (by omega) (by omega)
    subst e
    have hv2 := nV_clr hv p a'
    refine ⟨fun _ => ?_, fun h => absurd h (oE_ne (by omega))⟩
    have back : ∀ (x : Int32) (pp' ff' : Nat → Nat) (P' F' L' : Nat → Int32) (sz' : Int32) (He' Pu' : Nat → Int32), ¬ x = 1 → ¬ (¬ nearN (setN nt p a' 0) q a' (nt p a') ∧ bornN (setN nt p a' 0) q a' (nt p a')) → rcN (setN nt p a' 0) (n - 1) pp' ff' sz' P' F' L' → rcB (setN nt p a' 0) He' Pu' → (¬ x = 1 → wp_X4_put (iI p) (iI a') (iI (nt p a')) P' F' L' sz' He' Pu' (fun a15 a16 a17 z18 a19 a20 => post 0 a15 a16 a17 z18 a19 a20)) ∧ (x = 1 → post 1 P' F' L' sz' He' Pu') := by
      intro x pp' ff' P' F' L' sz' He' Pu' hx hf r1 r2
      refine ⟨fun _ => ?_, fun h => absurd h hx⟩
      refine cl_put hv2 r1 r2 (by omega) h9.1 (by omega) (by omega) (by omega) (setN_s _ _ _ _) (fun pp2 ff2 P2 F2 L2 sz2 He2 Pu2 s1 s2 => ?_)
      rw [setN_back rfl] at s1 s2
      rw [show n - 1 + 1 = n by omega] at s1
      exact k nt 0 pp2 ff2 P2 F2 L2 sz2 He2 Pu2 (Or.inr ⟨hf, rfl, rfl⟩) (by omega) s1 s2
    refine cl_putIfAllowed hv2 g4 g5 (by omega) hq (by omega) (by omega) (by omega) (fun t1 => ?_) (fun t1 t2 => ?_) (fun pp2 ff2 P2 F2 L2 sz2 He2 Pu2 t1 t2 s1 s2 => ?_)
    · exact back (-2) _ _ _ _ _ _ _ _ (by decide) (fun hf => hf.1 t1) g4 g5
    · exact back (-3) _ _ _ _ _ _ _ _ (by decide) (fun hf => t2 hf.2) g4 g5
    · rw [show n - 1 + 1 = n by omega] at s1
      refine ⟨fun h => absurd rfl h, fun _ => ?_⟩
      exact k _ 1 pp2 ff2 P2 F2 L2 sz2 He2 Pu2 (Or.inl ⟨t1, t2, rfl, rfl⟩) (by omega) s1 s2
theorem cl_repitch {nt : Nat → Nat → Nat} {n : Nat} {pp ff : Nat → Nat} {g : Nat → Option Nat} {NP NS N : Nat → Int32} (hN : alN n pp ff NP NS) {m : Nat} {jp js : Nat → Nat} {cp cs : Nat → Int32} {cz : Int32} (hs : scC m jp js cp cs cz) (hg : ∀ j, j < m → N j = oE (g j)) (hrng : ∀ x i, g x = some i → i < n) (hmono : ∀ x y i i', x < y → g x = some i → g y = some i' → i < i') (hlx : ∀ i i', i < i' → i' < n → lx pp ff i i') (hI : mdI pp ff g m 0 nt) {pp1 ff1 : Nat → Nat} {sz : Int32} {P F L He Pu : Nat → Int32} (hc : rcN nt n pp1 ff1 sz P F L) (hb : rcB nt He Pu) {post : Int32 → (Nat → Int32) → (Nat → Int32) → (Nat → Int32) → Int32 → (Nat → Int32) → (Nat → Int32) → Prop} (k : ∀ nt' c pp' ff' P' F' L' sz' He' Pu', mdS pp ff jp g nt m nt' c → nV nt' → rcN nt' n pp' ff' sz' P' F' L' → rcB nt' He' Pu' → post (iI (c : Nat)) P' F' L' sz' He' Pu') : wp_X0_repitch NP NS N (iI m) cp P F L sz He Pu post := by
  have hm := hs.1
  have hn := hN.1
  have key : ∀ (y j : Nat) (nt1 : Nat → Nat → Nat) (c : Nat) (pp1 ff1 : Nat → Nat) (P F L : Nat → Int32) (sz : Int32) (He Pu : Nat → Int32), j + y = m → mdS pp ff jp g nt j nt1 c → mdI pp ff g m j nt1 → rcN nt1 n pp1 ff1 sz P F L → rcB nt1 He Pu → wl_X0_repitch_5 NP NS N (iI m) cp post (y + 1) (iI c) (iI j) P F L sz He Pu := by
    intro y
    induction y with
    | zero =>
      intro j nt1 c pp1 ff1 P F L sz He Pu hj hS hI hc hb
      have e : j = m := by omega
      subst e
      rw [wl_X0_repitch_5]
      exact q_le j j (fun _ => k nt1 c pp1 ff1 P F L sz He Pu hS hI.1 hc hb) (fun hq => absurd hq (by omega))
    | succ y ih =>
      intro j nt1 c pp1 ff1 P F L sz He Pu hj hS hI hc hb
      obtain ⟨b1, b2, b3, b4⟩ := hs.2.2 j (by omega)
      have hcl := mdS_le hS
      have cj : (iI (j : Int)).toNatClampNeg = j := q_cl j
      have nx : ∀ nt2 c2 pp1 ff1 P F L sz He Pu, mdT pp ff jp (g j) j nt1 c nt2 c2 → rcN nt2 n pp1 ff1 sz P F L → rcB nt2 He Pu → wl_X0_repitch_5 NP NS N (iI m) cp post (y + 1) (iI (c2 : Nat)) (iI ((j + 1 : Nat) : Int)) P F L sz He Pu := fun nt2 c2 pp1 ff1 P F L sz He Pu hT h1 h2 => ih (j + 1) nt2 c2 pp1 ff1 P F L sz He Pu (by omega) ⟨nt1, c, hS, hT⟩ (mdI_next (by omega) hrng hmono hlx b1 hI hT) h1 h2
      rw [wl_X0_repitch_5]
      refine q_le m j (fun hq => absurd hq (by omega)) (fun _ => ?_)
      refine q_in j ?_
      rw [cj, hg j (by omega), i_p1]
      cases hgj : g j with
      | none =>
        rintro z1 rfl
        refine ⟨fun _ => nx nt1 c pp1 ff1 P F L sz He Pu (Or.inl ⟨hgj, rfl, rfl⟩) hc hb, fun h => absurd rfl h⟩
      | some i =>
        have hi := hrng j i hgj
        have h0 := hI.2 j i (Nat.le_refl _) (by omega) hgj
        obtain ⟨w1, w2, w3, w4⟩ := hN.2 i hi
        have ci : (iI (i : Int)).toNatClampNeg = i := q_cl i
        rintro z1 rfl
        refine ⟨fun h => absurd h (oE_ne (by omega)), fun _ => ?_⟩
        show vp_in (iI (i : Int)) 60 ∧ _
        refine q_in i ?_
        unfold wp_X5_pitchOf
        refine q_in j ?_
        rw [show oE (some i) = iI (i : Int) from rfl]
        dsimp only
        rw [ci, cj, w3, b3, w4]
        refine q_eq (pp i) (jp j) (fun hq => ?_) (fun hq => ?_)
        · exact nx nt1 c pp1 ff1 P F L sz He Pu (Or.inr (Or.inl ⟨i, hgj, by omega, rfl, rfl⟩)) hc hb
        · refine q_in i ?_
          refine q_in i ?_
          refine q_in j ?_
          refine cl_moveToPitch hI.1 hc hb h0 b1 (fun nt' d pp' ff' P' F' L' sz' He' Pu' s1 s2 s3 s4 => ?_)
          have nx2 := nx nt' (c + d) pp' ff' P' F' L' sz' He' Pu' (Or.inr (Or.inr ⟨i, d, hgj, by omega, s1, rfl⟩)) s3 s4
          refine q_eq d 0 (fun hd => ?_) (fun hd => ?_)
          · rw [show d = 0 by omega] at nx2; exact nx2
          · rw [show d = 1 by omega, ← i_p1] at nx2; exact nx2
  unfold wp_X0_repitch
  exact ⟨m + 1, key m 0 nt 0 pp1 ff1 P F L sz He Pu (by omega) ⟨rfl, rfl⟩ hI hc hb⟩
theorem mdI_0 {nt : Nat → Nat → Nat} {n m : Nat} {pp ff jp js : Nat → Nat} (hv : nV nt) (hE : nE nt n pp ff) : mdI pp ff (alG pp ff jp js n m) m 0 nt := ⟨hv, fun x i _ _ h => hE.1 i (wk_rng (Nat.le_refl _) (Nat.le_refl _) h).2.1⟩
theorem cl_mend {R r n : Nat} {nt : Nat → Nat → Nat} {pp ff : Nat → Nat} {rr : Nat → Option Nat} {ad : Nat → Nat} {rc sz : Int32} {P F L He Pu : Nat → Int32} (hR : R ≤ 6) (er : rc = iI R) (hr : r < R) (ha : rr r = some (ad 0)) (hv : nV nt) (hc : rcN nt n pp ff sz P F L) (hb : rcB nt He Pu) {m : Nat} {jp js : Nat → Nat} {cp cs : Nat → Int32} {cz : Int32} (hs : scC m jp js cp cs cz) {NP NS N C : Nat → Int32} {n0 i0 p0 q0 r0 : Int32} {post : Int32 → (Nat → Int32) → (Nat → Int32) → (Nat → Int32) → (Nat → Int32) → Int32 → Int32 → Int32 → Int32 → Int32 → (Nat → Int32) → (Nat → Int32) → (Nat → Int32) → Int32 → (Nat → Int32) → (Nat → Int32) → Prop} (k : ∀ nt' c a1 a2 a3 a4 a5 a6 a7 a8 a9 P' F' L' sz' He' Pu', mdS pp ff jp (alG pp ff jp js n m) nt m nt' c → clR nt' n sz' P' F' L' He' Pu' → post (iI (c : Nat)) a1 a2 a3 a4 a5 a6 a7 a8 a9 P' F' L' sz' He' Pu') : wp_X6_mend_s ad rr rc cp cs cz (iI r) NP NS N C n0 i0 p0 q0 r0 P F L sz He Pu post := by
  have hE := rcN_E hc
  unfold wp_X6_mend_s
  refine sc_rollOf_s R r hR er hr rfl ⟨ha, ?_⟩
  refine cl_reckon hv hc hs (fun NP' NS' N' C' g1 g2 g3 => ?_)
  refine cl_repitch g1 hs g2 (fun x i h => (wk_rng (Nat.le_refl _) (Nat.le_refl _) h).2.1) (fun x y i i' hxy h h' => wk_mono (Nat.le_refl _) (Nat.le_refl _) hxy h h') hE.2.1 (mdI_0 hv hE) hc hb (fun nt' c pp' ff' P' F' L' sz' He' Pu' s1 s2 s3 s4 => ?_)
  exact k _ _ _ _ _ _ _ _ _ _ _ _ _ _ _ _ _ s1 ⟨⟨pp', ff', s3⟩, s4, s2⟩
