/-! moving to the small bar -/
def sbar (p : Nat) : Nat := if p < 4 then p + 12 else if 19 < p then p - 12 else p
theorem sbar_lt {p : Nat} (h : p < 24) : sbar p < 24 := by
  unfold sbar
  split
  · omega
  · split <;> omega
def mvT (p a l : Nat) (nt : Nat → Nat → Nat) (n d : Nat) (nt' : Nat → Nat → Nat) (n' d' : Nat) : Prop := (¬ nearN nt p a l ∧ bornN nt p a l ∧ nt' = setN nt p a l ∧ n' = n + 1 ∧ d' = d) ∨ (¬ (¬ nearN nt p a l ∧ bornN nt p a l) ∧ nt' = nt ∧ n' = n ∧ d' = d + 1)
theorem mvT_fun {p a l : Nat} {nt : Nat → Nat → Nat} {n d : Nat} {s t : Nat → Nat → Nat} {x y u v : Nat} (h : mvT p a l nt n d s x u) (k : mvT p a l nt n d t y v) : s = t ∧ x = y ∧ u = v := by
  rcases h with ⟨h1, h2, h3, h4, h5⟩ | ⟨h1, h3, h4, h5⟩ <;> rcases k with ⟨k1, k2, k3, k4, k5⟩ | ⟨k1, k3, k4, k5⟩
  · exact ⟨h3.trans k3.symm, h4.trans k4.symm, h5.trans k5.symm⟩
  · exact absurd ⟨h1, h2⟩ k1
  · exact absurd ⟨k1, k2⟩ h1
  · exact ⟨h3.trans k3.symm, h4.trans k4.symm, h5.trans k5.symm⟩
def mvS (pp ff : Nat → Nat) (ns nt0 : Nat → Nat → Nat) : Nat → (Nat → Nat → Nat) → Nat → Nat → Prop
  | 0, nt, n, d => nt = nt0 ∧ n = 0 ∧ d = 0
  | i + 1, nt, n, d => ∃ nt1 n1 d1, mvS pp ff ns nt0 i nt1 n1 d1 ∧ mvT (sbar (pp i)) (ff i) (ns (pp i) (ff i)) nt1 n1 d1 nt n d
theorem mvS_fun {pp ff : Nat → Nat} {ns nt0 : Nat → Nat → Nat} : ∀ {i : Nat} {s t : Nat → Nat → Nat} {x y u v : Nat}, mvS pp ff ns nt0 i s x u → mvS pp ff ns nt0 i t y v → s = t ∧ x = y ∧ u = v
  | 0, _, _, _, _, _, _, h, k => ⟨h.1.trans k.1.symm, h.2.1.trans k.2.1.symm, h.2.2.trans k.2.2.symm⟩
  | i + 1, _, _, _, _, _, _, ⟨n1, c1, d1, h1, h2⟩, ⟨n2, c2, d2, k1, k2⟩ => by
    obtain ⟨e1, e2, e3⟩ := mvS_fun h1 k1
    subst e1 e2 e3
    exact mvT_fun h2 k2
theorem mvS_le {pp ff : Nat → Nat} {ns nt0 : Nat → Nat → Nat} : ∀ {i : Nat} {s : Nat → Nat → Nat} {x u : Nat}, mvS pp ff ns nt0 i s x u → x + u = i
  | 0, _, _, _, h => by rw [h.2.1, h.2.2]
  | i + 1, _, _, _, ⟨n1, c1, d1, h1, h2⟩ => by
    have := mvS_le h1
    rcases h2 with ⟨-, -, -, h4, h5⟩ | ⟨-, -, h4, h5⟩ <;> omega
def mvR (pp ff : Nat → Nat) (ns : Nat → Nat → Nat) (N : Nat) (mu : Nat → Nat) (k : Nat) (nt : Nat → Nat → Nat) (n : Nat) (mu0 : Nat → Nat) (k0 : Nat) (ans : Int32) (nt' : Nat → Nat → Nat) (n' : Nat) (mu' : Nat → Nat) (k' : Nat) : Prop := (0 < n ∧ ans = -1 ∧ nt' = nt ∧ n' = n ∧ mu' = mu0 ∧ k' = k0) ∨ (n = 0 ∧ ∃ d : Nat, mvS pp ff ns nt N nt' n' d ∧ ans = iI d ∧ mu' = mu ∧ k' = k)
theorem mvR_fun {pp ff : Nat → Nat} {ns : Nat → Nat → Nat} {N : Nat} {mu : Nat → Nat} {k : Nat} {nt : Nat → Nat → Nat} {n : Nat} {mu0 : Nat → Nat} {k0 : Nat} {x y : Int32} {s t : Nat → Nat → Nat} {i j : Nat} {m1 m2 : Nat → Nat} {k1 k2 : Nat} (h : mvR pp ff ns N mu k nt n mu0 k0 x s i m1 k1) (g : mvR pp ff ns N mu k nt n mu0 k0 y t j m2 k2) : x = y ∧ s = t ∧ i = j ∧ m1 = m2 ∧ k1 = k2 := by
  rcases h with ⟨h0, h1, h2, h3, h4, h5⟩ | ⟨h0, d, h1, h2, h3, h4⟩ <;> rcases g with ⟨g0, g1, g2, g3, g4, g5⟩ | ⟨g0, d', g1, g2, g3, g4⟩
  · exact ⟨h1.trans g1.symm, h2.trans g2.symm, h3.trans g3.symm, h4.trans g4.symm, h5.trans g5.symm⟩
  · omega
  · omega
  · obtain ⟨e1, e2, e3⟩ := mvS_fun h1 g1
    subst e3
    exact ⟨h2.trans g2.symm, e1, e2, h3.trans g3.symm, h4.trans g4.symm⟩
theorem cl_onSmallBar {p : Nat} (hp : p < 24) {post : Int32 → Prop} (k : post (iI (sbar p))) : wp_X4_onSmallBar (iI p) post := by
  unfold sbar at k
  unfold wp_X4_onSmallBar
  refine q_le 4 p (fun h1 => ?_) (fun h1 => ?_)
  · rw [if_neg (by omega)] at k
    refine q_le p 19 (fun h2 => ?_) (fun h2 => ?_)
    · rw [if_neg (by omega)] at k; exact k
    · rw [if_pos (by omega)] at k
      rw [show iI (p : Int) - 12 = iI ((p - 12 : Nat) : Int) by simp only [iI_lit, iI_sub]; exact iI_c (by omega)]
      exact k
  · rw [if_pos (by omega)] at k
    rw [show iI (p : Int) + 12 = iI ((p + 12 : Nat) : Int) by simp only [iI_lit, iI_add]; exact iI_c (by omega)]
    exact k
theorem cl_takeNotesOf {ns nt : Nat → Nat → Nat} {N : Nat} {pp ff : Nat → Nat} {ssz sz : Int32} {SP SF SL P F L He Pu : Nat → Int32} (hvs : nV ns) (hcs : rcN ns N pp ff ssz SP SF SL) (h : clR nt 0 sz P F L He Pu) {post : Int32 → (Nat → Int32) → (Nat → Int32) → (Nat → Int32) → Int32 → (Nat → Int32) → (Nat → Int32) → Prop} (k : ∀ nt' n' d P' F' L' sz' He' Pu', mvS pp ff ns nt N nt' n' d → clR nt' n' sz' P' F' L' He' Pu' → post (iI (d : Nat)) P' F' L' sz' He' Pu') : wp_X4_takeNotesOf SP SF SL ssz P F L sz He Pu post := by
  obtain ⟨c1, c2, c3, c4, c5⟩ := hcs
  subst c2
  have key : ∀ (y i : Nat) (nt1 : Nat → Nat → Nat) (n1 d : Nat) (P F L : Nat → Int32) (sz : Int32) (He Pu : Nat → Int32), i + y = N → mvS pp ff ns nt i nt1 n1 d → clR nt1 n1 sz P F L He Pu → wl_X4_takeNotesOf_4 SP SF SL (iI N) post (y + 1) (iI d) (iI i) P F L sz He Pu := by
    intro y
    induction y with
    | zero =>
      intro i nt1 n1 d P F L sz He Pu hi hS hc
      have e : i = N := by omega
      subst e
      rw [wl_X4_takeNotesOf_4]
      exact q_le i i (fun _ => k nt1 n1 d P F L sz He Pu hS hc) (fun hq => absurd hq (by omega))
    | succ y ih =>
      intro i nt1 n1 d P F L sz He Pu hi hS hc
      obtain ⟨w0, w1, w2, w3⟩ := c3 i (by omega)
      have wv := hvs.1 _ _ w0
      have hle := mvS_le hS
      have ci : (iI (i : Int)).toNatClampNeg = i := q_cl i
      obtain ⟨⟨pp1, ff1, hcn⟩, hb, hv⟩ := id hc
      have nx : ∀ nt2 n2 d2 P F L sz He Pu, mvT (sbar (pp i)) (ff i) (ns (pp i) (ff i)) nt1 n1 d nt2 n2 d2 → clR nt2 n2 sz P F L He Pu → wl_X4_takeNotesOf_4 SP SF SL (iI N) post (y + 1) (iI (d2 : Nat)) (iI ((i + 1 : Nat) : Int)) P F L sz He Pu := fun nt2 n2 d2 P F L sz He Pu hT h1 => ih (i + 1) nt2 n2 d2 P F L sz He Pu (by omega) ⟨nt1, n1, d, hS, hT⟩ h1
      rw [wl_X4_takeNotesOf_4]
      refine q_le N i (fun hq => absurd hq (by omega)) (fun _ => ?_)
      refine q_in i ?_
      rw [ci, w1, w2, w3, i_p1 i]
      refine cl_onSmallBar wv.1 ?_
      refine q_in i ?_
      refine q_in i ?_
      refine cl_putIfAllowed hv hcn hb (by omega) (sbar_lt wv.1) (by omega) (by omega) (by omega) (fun t1 => ?_) (fun t1 t2 => ?_) (fun pp2 ff2 P2 F2 L2 sz2 He2 Pu2 t1 t2 s1 s2 => ?_)
      · refine ⟨fun hq => absurd hq (by decide), fun _ => ?_⟩
        rw [i_p1 d]
        exact nx nt1 n1 (d + 1) P F L sz He Pu (Or.inr ⟨fun hf => hf.1 t1, rfl, rfl, rfl⟩) hc
      · refine ⟨fun hq => absurd hq (by decide), fun _ => ?_⟩
        rw [i_p1 d]
        exact nx nt1 n1 (d + 1) P F L sz He Pu (Or.inr ⟨fun hf => t2 hf.2, rfl, rfl, rfl⟩) hc
      · refine ⟨fun _ => ?_, fun hq => absurd rfl hq⟩
        exact nx _ (n1 + 1) d P2 F2 L2 sz2 He2 Pu2 (Or.inl ⟨t1, t2, rfl, rfl, rfl⟩) ⟨⟨pp2, ff2, s1⟩, s2, nV_set hv (sbar_lt wv.1) (by omega) (by omega) (by omega) t1 t2⟩
  unfold wp_X4_takeNotesOf
  exact ⟨N + 1, key N 0 nt 0 0 P F L sz He Pu (by omega) ⟨rfl, rfl, rfl⟩ h⟩
theorem cl_move {R s r N n kt k0 : Nat} {ns nt : Nat → Nat → Nat} {mu mu0 pp ff : Nat → Nat} {rr : Nat → Option Nat} {ad_r ad_s : Nat → Nat} {rc ssz sz smk mk : Int32} {SP SF SL SMk P F L He Pu Mk : Nat → Int32} (hR : R ≤ 6) (er : rc = iI R) (hr : r < R) (hs : s < R) (hne : s ≠ r) (ha : rr r = some (ad_r 0)) (hb : rr s = some (ad_s 0)) (hvs : nV ns) (hcs : rcN ns N pp ff ssz SP SF SL) (hts : tpC mu kt SMk smk) (h : clR nt n sz P F L He Pu) (ht : tpC mu0 k0 Mk mk) {post : Int32 → (Nat → Int32) → (Nat → Int32) → (Nat → Int32) → Int32 → (Nat → Int32) → (Nat → Int32) → (Nat → Int32) → Int32 → Prop} (k : ∀ ans nt' n' mu' k' P' F' L' sz' He' Pu' Mk' mk', mvR pp ff ns N mu kt nt n mu0 k0 ans nt' n' mu' k' → clR nt' n' sz' P' F' L' He' Pu' → tpC mu' k' Mk' mk' → post ans P' F' L' sz' He' Pu' Mk' mk') : wp_X6_move_e ad_r ad_s rr rc SP SF SL ssz SMk smk (iI s) (iI r) P F L sz He Pu Mk mk post := by
  obtain ⟨⟨pp1, ff1, hcn⟩, -, -⟩ := id h
  have hn := hcn.1
  unfold wp_X6_move_e
  refine sc_rollOf_s R s hR er hs rfl ⟨hb, ?_⟩
  refine sc_rollOf_s R r hR er hr rfl ⟨ha, ?_⟩
  refine q_eq s r (fun hq => absurd hq (by omega)) (fun _ => ?_)
  unfold wp_X4_noteCount
  refine q_le n 0 (fun hq => ?_) (fun hq => ?_) hcn.2.1
  · have e : n = 0 := by omega
    subst e
    unfold wp_X4_takeTempoOf
    rintro a1 rfl
    refine cl_takeNotesOf hvs hcs h (fun nt' n' d P' F' L' sz' He' Pu' g1 g2 => ?_)
    refine k _ nt' n' mu kt P' F' L' sz' He' Pu' _ _ (Or.inr ⟨rfl, d, g1, rfl, rfl, rfl⟩) g2 ⟨hts.1, hts.2.1, fun x hx => ?_⟩
    rw [show va_cpy SMk Mk (0 : Int32).toNatClampNeg (0 : Int32).toNatClampNeg (300 : Int32).toNatClampNeg x = SMk x from ?_]
    · exact hts.2.2 x hx
    · rw [show (0 : Int32).toNatClampNeg = 0 from rfl, show (300 : Int32).toNatClampNeg = 300 from rfl]
      simp only [va_cpy]
      simp [hx]
  · exact k _ nt n mu0 k0 P F L sz He Pu Mk mk (Or.inl ⟨by omega, rfl, rfl, rfl, rfl, rfl⟩) h ht
