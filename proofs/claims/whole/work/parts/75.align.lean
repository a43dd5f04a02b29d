theorem cl_reckon {nt : Nat → Nat → Nat} {n : Nat} {pp ff : Nat → Nat} {sz : Int32} {P F L : Nat → Int32} (hv : nV nt) (hc : rcN nt n pp ff sz P F L) {m : Nat} {jp js : Nat → Nat} {cp cs : Nat → Int32} {cz : Int32} (hs : scC m jp js cp cs cz) {NP NS N C : Nat → Int32} {n0 i0 p0 q0 r0 : Int32} {post : (Nat → Int32) → (Nat → Int32) → (Nat → Int32) → (Nat → Int32) → Int32 → Int32 → Int32 → Int32 → Int32 → Prop} (k : ∀ NP NS N C, alN n pp ff NP NS → (∀ j, j < m → N j = oE (alG pp ff jp js n m j)) → C 0 = iI (eC (cst pp ff jp js) n m n m) → post NP NS N C (iI n) (iI m) (iI (ct (alA (alG pp ff jp js n m)) m)) (iI (ct (alB pp jp (alG pp ff jp js n m)) m)) (iI (ct (alB ff js (alG pp ff jp js n m)) m))) : wp_X0_reckon P F sz cp cs cz NP NS N C n0 i0 p0 q0 r0 post := by
  obtain ⟨c1, c2, c3, c4, c5⟩ := hc
  subst c2
  unfold wp_X0_reckon wp_X4_noteCount
  have key : ∀ (j i : Nat) (NP NS : Nat → Int32), i + j = n → alN i pp ff NP NS → wl_X0_reckon_10 P F (iI n) cp cs cz post (j + 1) (iI i) NP NS N C (iI n) i0 p0 q0 r0 := by
    intro j
    induction j with
    | zero =>
      intro i NP NS hi hN
      have e : i = n := by omega
      subst e
      rw [wl_X0_reckon_10]
      refine q_le i i (fun _ => ?_) (fun hq => absurd hq (by omega))
      unfold wp_X5_size
      refine cl_reckonCosts hN hs rfl hs.2.1 (fun C' hC => ?_)
      refine cl_choose hN hs hC rfl hs.2.1 (fun N' hN' => ?_)
      rw [hs.2.1]
      refine k _ _ _ _ hN hN' ?_
      have := hC 0 0 (by omega) (by omega) (by omega)
      exact this
    | succ j ih =>
      intro i NP NS hi hN
      obtain ⟨w0, w1, w2, w3⟩ := c3 i (by omega)
      have wv := hv.1 _ _ w0
      rw [wl_X0_reckon_10]
      refine q_le n i (fun hq => absurd hq (by omega)) (fun _ => ?_)
      unfold wp_X4_pitchOf wp_X4_firstStepOf
      have ci : (iI (i : Int)).toNatClampNeg = i := q_cl i
      refine q_in i ?_
      refine q_in i ?_
      rintro a1 rfl
      refine q_in i ?_
      refine q_in i ?_
      rintro a2 rfl
      rw [ci, w1, w2, i_p1]
      refine ih (i + 1) _ _ (by omega) ⟨by omega, fun x hx => ?_⟩
      by_cases e : x = i
      · rw [e, pk_us, pk_us]
        exact ⟨wv.1, by omega, rfl, rfl⟩
      · rw [pk_un e, pk_un e]
        exact hN.2 x (by omega)
  exact ⟨n + 1, key n 0 NP NS (by omega) ⟨by omega, fun x hx => absurd hx (by omega)⟩⟩
/-- what align answers -/
def alFig (pp ff jp js : Nat → Nat) (n m : Nat) (v : Int32) : Int32 := if v = 0 then iI (eC (cst pp ff jp js) n m n m) else if v = 1 then iI (ct (alA (alG pp ff jp js n m)) m) else if v = 2 then iI ((m : Int) - ct (alA (alG pp ff jp js n m)) m) else if v = 3 then iI ((n : Int) - ct (alA (alG pp ff jp js n m)) m) else if v = 4 then iI (ct (alB pp jp (alG pp ff jp js n m)) m) else iI (ct (alB ff js (alG pp ff jp js n m)) m)
def alignA (pp ff jp js : Nat → Nat) (n m : Nat) (v : Int32) : Int32 := if 0 ≤ v.toInt ∧ v.toInt ≤ 5 then alFig pp ff jp js n m v else -1
theorem cl_align {R r n : Nat} {nt : Nat → Nat → Nat} {pp ff : Nat → Nat} {rr : Nat → Option Nat} {ad : Nat → Nat} {rc v2 sz : Int32} {P F L : Nat → Int32} (hR : R ≤ 6) (er : rc = iI R) (hr : r < R) (ha : rr r = some (ad 0)) (hv : nV nt) (hc : rcN nt n pp ff sz P F L) {m : Nat} {jp js : Nat → Nat} {cp cs : Nat → Int32} {cz : Int32} (hs : scC m jp js cp cs cz) {NP NS N C : Nat → Int32} {n0 i0 p0 q0 r0 : Int32} {post : Int32 → (Nat → Int32) → (Nat → Int32) → (Nat → Int32) → (Nat → Int32) → Int32 → Int32 → Int32 → Int32 → Int32 → Prop} (k : ∀ a1 a2 a3 a4 a5 a6 a7 a8 a9, post (alignA pp ff jp js n m v2) a1 a2 a3 a4 a5 a6 a7 a8 a9) : wp_X6_align_s ad rr rc cp cs cz P F sz (iI r) v2 NP NS N C n0 i0 p0 q0 r0 post := by
  unfold wp_X6_align_s
  refine sc_rollOf_s R r hR er hr rfl ⟨ha, ?_⟩
  refine sc_within 0 5 (fun z z1 z2 ez => y10 ?_) (fun hq => y00 ?_)
  · have t2 : v2.toInt = z := by rw [ez, iI_toInt (by omega) (by omega)]
    unfold alignA at k
    rw [if_pos (by omega)] at k
    refine cl_reckon hv hc hs (fun NP' NS' N' C' g1 g2 g3 => ?_)
    unfold wp_X0_figure
    have ct0 := ct_le (alA (alG pp ff jp js n m)) m
    unfold alFig at k
    refine ⟨fun h0 => ?_, fun h0 => ⟨fun h1 => ?_, fun h1 => ⟨fun h2 => ?_, fun h2 => ⟨fun h3 => ?_, fun h3 => ⟨fun h4 => ?_, fun h4 => ⟨fun h5 => ?_, fun h5 => ?_⟩⟩⟩⟩⟩⟩
    · refine q_in 0 ?_
      rw [show (0 : Int32).toNatClampNeg = 0 from rfl, g3]
      rw [if_pos h0] at k; exact k _ _ _ _ _ _ _ _ _
    · rw [if_neg h0, if_pos h1] at k; exact k _ _ _ _ _ _ _ _ _
    · rw [if_neg h0, if_neg h1, if_pos h2] at k
      rw [iI_sub]
      exact k _ _ _ _ _ _ _ _ _
    · rw [if_neg h0, if_neg h1, if_neg h2, if_pos h3] at k
      rw [iI_sub]
      exact k _ _ _ _ _ _ _ _ _
    · rw [if_neg h0, if_neg h1, if_neg h2, if_neg h3, if_pos h4] at k; exact k _ _ _ _ _ _ _ _ _
    · rw [if_neg h0, if_neg h1, if_neg h2, if_neg h3, if_neg h4] at k; exact k _ _ _ _ _ _ _ _ _
    · exfalso
      have nz : ∀ y : Nat, y < 6 → (¬ v2 = iI y) → z ≠ y := fun y _ hy e => hy (by rw [ez, e])
      have q0 := nz 0 (by omega) h0
      have q1 := nz 1 (by omega) h1
      have q2 := nz 2 (by omega) h2
      have q3 := nz 3 (by omega) h3
      have q4 := nz 4 (by omega) h4
      have q5 := nz 5 (by omega) h5
      omega
  · unfold alignA at k
    rw [if_neg (by omega)] at k
    exact k _ _ _ _ _ _ _ _ _
theorem cl_paired {R r n : Nat} {nt : Nat → Nat → Nat} {pp ff : Nat → Nat} {rr : Nat → Option Nat} {ad : Nat → Nat} {rc v2 sz : Int32} {P F L : Nat → Int32} (hR : R ≤ 6) (er : rc = iI R) (hr : r < R) (ha : rr r = some (ad 0)) (hv : nV nt) (hc : rcN nt n pp ff sz P F L) {m : Nat} {jp js : Nat → Nat} {cp cs : Nat → Int32} {cz : Int32} (hs : scC m jp js cp cs cz) {NP NS N C : Nat → Int32} {n0 i0 p0 q0 r0 : Int32} {post : Int32 → (Nat → Int32) → (Nat → Int32) → (Nat → Int32) → (Nat → Int32) → Int32 → Int32 → Int32 → Int32 → Int32 → Prop} (k1 : ∀ j a1 a2 a3 a4 a5 a6 a7 a8 a9, j < m → v2 = iI j → post (oE (alG pp ff jp js n m j)) a1 a2 a3 a4 a5 a6 a7 a8 a9) (k0 : ∀ a1 a2 a3 a4 a5 a6 a7 a8 a9, (v2.toInt < 0 ∨ (m : Int) ≤ v2.toInt) → post (-1) a1 a2 a3 a4 a5 a6 a7 a8 a9) : wp_X6_paired_s ad rr rc cp cs cz P F sz (iI r) v2 NP NS N C n0 i0 p0 q0 r0 post := by
  have hm := hs.1
  unfold wp_X6_paired_s
  refine sc_rollOf_s R r hR er hr rfl ⟨ha, ?_⟩
  unfold wp_X5_size
  refine sc_within 0 (m - 1) (fun z z1 z2 ez => y10 ?_) (fun hq => y00 (k0 _ _ _ _ _ _ _ _ _ (by omega))) rfl (by rw [hs.2.1]; simp only [iI_lit, iI_sub])
  obtain ⟨j, hj, ej⟩ := iI_nat z1 ez
  refine cl_reckon hv hc hs (fun NP' NS' N' C' g1 g2 g3 => ?_)
  unfold wp_X0_noteOfItem
  refine q_in j ?_ ej
  rw [q_cl j ej, g2 j (by omega)]
  exact k1 j _ _ _ _ _ _ _ _ _ (by omega) ej
