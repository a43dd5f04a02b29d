section LEM
theorem iI_ninj {a b : Nat} (ha : a < 2147483648) (hb : b < 2147483648) (h : iI (a : Nat) = iI (b : Nat)) : a = b := by
  have := (iI_eq (a := (a : Int)) (b := (b : Int)) (by omega) (by omega) (by omega) (by omega)).mp h
  omega
theorem iI_nin {n a : Nat} {v : Int32} (h : n < 2147483648) (ha : a < n) (e : v = iI (a : Nat)) : ¬ (v.toInt < 0 ∨ (n : Int) ≤ v.toInt) := by
  rw [e, iI_toInt (by omega) (by omega)]
  omega
theorem iI_lt6 {R : Nat} (h : R < 6) : iI (R : Nat) < 6 := by
  rw [show (6 : Int32) = iI 6 from rfl]
  exact (iI_lt (by omega) (by omega) (by omega) (by omega)).mpr (by omega)
theorem iI_cl {R : Nat} (h : R < 2147483648) : (iI (R : Nat)).toNatClampNeg = R := by
  rw [← iI_nI]; exact nI_clamp (by omega)
theorem iI_in6 {R : Nat} (h : R < 6) : vp_in (iI (R : Nat)) 6 := by
  rw [← iI_nI]; exact vp_in_nI h (by omega)
theorem iI_ne6 {R : Nat} (h : R < 6) : ¬ iI (R : Nat) = 6 := by
  rw [show (6 : Int32) = iI 6 from rfl]
  intro h9
  have := (iI_eq (by omega) (by omega) (by omega) (by omega)).mp h9
  omega
theorem iI_R1 {R : Nat} : iI (R : Nat) + 1 = iI ((R + 1 : Nat) : Int) := by
  rw [show (1 : Int32) = iI 1 from rfl, iI_add]
  exact iI_c (by omega)
theorem poC_dy {n d : Nat} {C D P T : Nat → Nat} {sz td v : Int32} {fc fd fp ft : Nat → Int32} {k : Nat} (h : poC n d C D P T sz td fc fd fp ft) (e : v = iI (k : Nat)) : poC n (d + k) C D P T sz (td + v) fc fd fp ft := by
  obtain ⟨h1, h2, h3, h4⟩ := h
  refine ⟨h1, h2, ?_, fun i hi => ?_⟩
  · rw [h3, e, iI_add]; exact iI_c (by omega)
  · obtain ⟨a1, a2, a3, a4, a5, a6⟩ := h4 i hi
    exact ⟨a1, a2, a3, a4, by omega, a6⟩
theorem mvR_V {pp ff : Nat → Nat} {ns : Nat → Nat → Nat} {N : Nat} {mu : Nat → Nat} {k : Nat} {nt : Nat → Nat → Nat} {n : Nat} {mu0 : Nat → Nat} {k0 : Nat} {x : Int32} {s : Nat → Nat → Nat} {i : Nat} {m1 : Nat → Nat} {k1 : Nat} (hs : tpV mu) (h0 : tpV mu0) (h : mvR pp ff ns N mu k nt n mu0 k0 x s i m1 k1) : tpV m1 := by
  rcases h with ⟨-, -, -, -, rfl, -⟩ | ⟨-, -, -, -, rfl, -⟩
  · exact h0
  · exact hs
theorem I1_r {cI cZ cR : ClassId} {R r : Nat} {gr : va_W} {q : Option Nat} {mp mf ml ma ms mt : Nat → Int32} (h : I1 cI cZ cR R r gr q mp mf ml ma ms mt) (hr : r < R) : ∃ (nt : Nat → Nat → Nat) (n : Nat) (mu : Nat → Nat) (k : Nat) (ad : Nat → Nat) (P F L : Nat → Int32) (sz : Int32) (He Pu Mk : Nat → Int32) (mk : Int32), moR r nt n mp mf ml ∧ tpM r mu k ma ms mt ∧ gr = w_R cI cZ cR ad P F L sz He Pu Mk mk ∧ q = some (ad 0) ∧ clR nt n sz P F L He Pu ∧ tpC mu k Mk mk ∧ tpV mu := by
  obtain ⟨nt, n, mu, k, a1, a2, a3⟩ := h
  rcases a3 with a3 | a3
  · obtain ⟨-, ad, P, F, L, sz, He, Pu, Mk, mk, b1, b2⟩ := a3
    exact ⟨nt, n, mu, k, ad, P, F, L, sz, He, Pu, Mk, mk, a1, a2, b1, b2⟩
  · exact absurd hr (Nat.not_lt.mpr a3.1)
theorem IR_all {cI cZ cR : ClassId} {R : Nat} {g : Nat → va_W} {rr : Nat → Option Nat} {mp mf ml ma ms mt : Nat → Int32} (h : IR cI cZ cR R g rr mp mf ml ma ms mt) : ∃ (nt : Nat → Nat → Nat → Nat) (n : Nat → Nat) (mu : Nat → Nat → Nat) (k : Nat → Nat), ∀ r, r < 6 → moR r (nt r) (n r) mp mf ml ∧ tpM r (mu r) (k r) ma ms mt ∧ (r < R → RO cI cZ cR (g r) (rr r) (nt r) (n r) (mu r) (k r)) := by
  have h1 : ∀ r, ∃ x : (Nat → Nat → Nat) × Nat × (Nat → Nat) × Nat, r < 6 → moR r x.1 x.2.1 mp mf ml ∧ tpM r x.2.2.1 x.2.2.2 ma ms mt ∧ (r < R → RO cI cZ cR (g r) (rr r) x.1 x.2.1 x.2.2.1 x.2.2.2) := by
    intro r
    by_cases hr : r < 6
    · obtain ⟨nt, n, mu, k, a1, a2, a3⟩ := h r hr
      refine ⟨(nt, n, mu, k), fun _ => ⟨a1, a2, fun h9 => ?_⟩⟩
      rcases a3 with a3 | a3
      · exact a3.2
      · exact absurd h9 (Nat.not_lt.mpr a3.1)
    · exact ⟨(fun _ _ => 0, 0, fun _ => 0, 0), fun h9 => absurd h9 hr⟩
  obtain ⟨f, hf⟩ := Classical.axiomOfChoice h1
  exact ⟨fun r => (f r).1, fun r => (f r).2.1, fun r => (f r).2.2.1, fun r => (f r).2.2.2, hf⟩
theorem IR_new {cI cZ cR : ClassId} {R : Nat} {g : Nat → va_W} {rr : Nat → Option Nat} {mp mf ml ma ms mt : Nat → Int32} {u : Nat → Nat} (hR : R < 6) (h : IR cI cZ cR R g rr mp mf ml ma ms mt) : IR cI cZ cR (R + 1) (nuW g R (w_R cI cZ cR u (fun _ => 0) (fun _ => 0) (fun _ => 0) 0 (fun _ => 0) (fun _ => 0) (fun _ => 0) 0)) (va_up rr (iI (R : Nat)).toNatClampNeg (some (u 0))) mp mf ml ma ms mt := by
  rw [iI_cl (by omega)]
  intro r hr
  obtain ⟨nt, n, mu, k, a1, a2, a3⟩ := h r hr
  by_cases e : r = R
  · subst e
    rw [nuW_s]
    rcases a3 with ⟨a3, -⟩ | ⟨-, -, rfl, rfl, rfl, rfl⟩
    · omega
    · exact ⟨_, _, _, _, a1, a2, Or.inl ⟨by omega, u, _, _, _, _, _, _, _, _, rfl, by simp [va_up], clR_00, tpC_00, tpV_00⟩⟩
  · rw [nuW_o e]
    have e2 : va_up rr R (some (u 0)) r = rr r := by simp [va_up, e]
    rw [e2]
    refine ⟨nt, n, mu, k, a1, a2, ?_⟩
    rcases a3 with ⟨a3, a4⟩ | ⟨a3, a4⟩
    · exact Or.inl ⟨by omega, a4⟩
    · exact Or.inr ⟨by omega, a4⟩
theorem roll_x {g : Nat → va_W} {R : Nat} {w : va_W} (hg : g R = []) (hR : R < 6) : (wRx (nuW g R w) 6).Perm (w ++ wRx g 6) := by
  have h1 := wRx_put (g := g) (x := w) hR
  rw [wRx_congr (g := nuW g R []) (g' := g) (fun i _ => by
    by_cases e : i = R
    · subst e; rw [nuW_s, hg]
    · rw [nuW_o e])] at h1
  exact h1
theorem lcmp_0 {x y : Int64} (h : x = y) : lg_cmp x y = 0 := by
  subst h
  simp [lg_cmp]
end LEM
