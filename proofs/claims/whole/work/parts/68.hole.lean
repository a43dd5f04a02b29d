def holeA (nt : Nat → Nat → Nat) (v2 v3 : Int32) : Int32 := if 0 ≤ v2.toInt ∧ v2.toInt ≤ 23 ∧ 0 ≤ v3.toInt ∧ v3.toInt ≤ 299 then (if nPun nt v2.toInt.toNat v3.toInt.toNat then 1 else if nInn nt v2.toInt.toNat v3.toInt.toNat then 2 else 0) else -1
theorem cl_hole {R r n : Nat} {nt : Nat → Nat → Nat} {rr : Nat → Option Nat} {ad : Nat → Nat} {rc v2 v3 sz : Int32} {P F L He Pu : Nat → Int32} (hR : R ≤ 6) (er : rc = iI R) (hr : r < R) (ha : rr r = some (ad 0)) (h : clR nt n sz P F L He Pu) {post : Int32 → Prop} (k : post (holeA nt v2 v3)) : wp_X6_hole_s ad rr rc He Pu (iI r) v2 v3 post := by
  obtain ⟨-, hb, hv⟩ := h
  unfold holeA at k
  unfold wp_X6_hole_s
  refine sc_rollOf_s R r hR er hr rfl ⟨ha, ?_⟩
  refine sc_isPitch (fun p hp e2 => z10 ?_) (fun hq => z00 (by rw [if_neg (by omega)] at k; exact k))
  have t2 : v2.toInt = p := by rw [e2, tI (by omega)]
  refine sc_isStep (fun s hs e3 => y10 ?_) (fun hq => y00 (by rw [if_neg (by omega)] at k; exact k))
  have t3 : v3.toInt = s := by rw [e3, tI (by omega)]
  rw [if_pos (by omega), show v2.toInt.toNat = p by omega, show v3.toInt.toNat = s by omega] at k
  obtain ⟨m1, m2⟩ := hb s hs
  unfold wp_X4_kindOfHole
  rintro z1 rfl
  refine q_in s ?_ e3
  rw [q_cl s e3, e2]
  refine ⟨fun hq => ?_, fun hq => ?_⟩
  · rw [msk_tst m2 hp] at hq
    rw [hq] at k
    refine q_in s ?_ e3
    refine ⟨fun hq2 => ?_, fun hq2 => ?_⟩
    · rw [msk_tst m1 hp] at hq2
      rw [hq2] at k
      exact k
    · rw [msk_tst m1 hp, Bool.not_eq_false] at hq2
      rw [hq2] at k
      exact k
  · rw [msk_tst m2 hp, Bool.not_eq_false] at hq
    rw [hq] at k
    exact k
theorem mo_hole_n {R : Nat} {rolls th v1 v2 v3 : Int32} {mp mf ml : Nat → Int32} (hR : R ≤ 6) (er : rolls = iI R) (hv : v1.toInt < 0 ∨ (R : Int) ≤ v1.toInt) {post : Int32 → Int32 → Prop} (k : post (-1) 0) : wp_X7_hole rolls mp mf ml v1 v2 v3 th post := by
  unfold wp_X7_hole
  exact sp_isRoll R hR er (fun j hj ej => absurd hv (by rw [ej, tI (by omega)]; omega)) (fun _ => z00 k)
theorem mo_hole {R r n : Nat} {nt : Nat → Nat → Nat} {rolls th v2 v3 : Int32} {mp mf ml : Nat → Int32} (hR : R ≤ 6) (er : rolls = iI R) (hr : r < R) (hv : nV nt) (h : moR r nt n mp mf ml) {post : Int32 → Int32 → Prop} (k : post (holeA nt v2 v3) 0) : wp_X7_hole rolls mp mf ml (iI r) v2 v3 th post := by
  obtain ⟨pp, ff, ll, hA, hB⟩ := h
  unfold holeA at k
  unfold wp_X7_hole
  refine sp_isRoll R hR er (fun _ _ _ => z10 ?_) (fun hq => absurd hq (by rw [tI (by omega)]; omega))
  refine sp_within 0 23 (fun y1 a1 a2 e2 => z10 ?_) (fun hq => z00 (by rw [if_neg (by omega)] at k; exact k))
  have t2 : v2.toInt = y1 := by rw [e2, iI_toInt (by omega) (by omega)]
  refine sp_within 0 299 (fun y2 b1 b2 e3 => y10 ?_) (fun hq => y00 (by rw [if_neg (by omega)] at k; exact k))
  have t3 : v3.toInt = y2 := by rw [e3, iI_toInt (by omega) (by omega)]
  obtain ⟨p, hp, e2⟩ := iI_nat a1 e2
  obtain ⟨s, hs, e3⟩ := iI_nat b1 e3
  rw [if_pos (by omega), show v2.toInt.toNat = p by omega, show v3.toInt.toNat = s by omega] at k
  refine mo_at hA (by omega) (fun j j1 j2 j3 j4 j5 => ?_) (fun hq => ?_)
  · have hl := hB.1 j j1 j2
    have ep : pp j = p := by omega
    rw [ep] at hl
    refine ⟨fun _ => ?_, fun h9 => absurd h9 (oE_ne (by omega))⟩
    refine mo_isPunched hA (by omega) j1 rfl e3 (by omega) ?_
    have e9 : nPun nt p s = spu (ff j) (ll j) s := by
      rw [Bool.eq_iff_iff, nPun_iff]
      constructor
      · rintro ⟨f, f1⟩
        have := of_decide_eq_true f1
        have e := cov_one hv (p := p) (s := s) (f := f) (f' := ff j) (by omega) (by omega) (by omega) (by omega)
        rw [← hl, ← e]; exact f1
      · intro hq
        exact ⟨ff j, by rw [hl]; exact hq⟩
    have e8 : nInn nt p s = true := nInn_iff.mpr ⟨ff j, by omega, by omega⟩
    rw [e9, e8] at k
    refine bi_ne (fun hb => ?_) (fun hb => ?_)
    · rw [hb] at k; exact k
    · rw [hb] at k; exact k
  · refine ⟨fun h9 => absurd rfl h9, fun _ => ?_⟩
    have e8 : nInn nt p s = false := by
      rw [Bool.eq_false_iff]
      intro hq2
      obtain ⟨f, f1, f2⟩ := nInn_iff.mp hq2
      obtain ⟨j, j1, j2, j3, j4⟩ := hB.2.1 p f (by omega)
      have hl := hB.1 j j1 j2
      rw [j3, j4] at hl
      exact hq j j1 j2 (by omega) (by omega) (by omega)
    have e9 : nPun nt p s = false := by
      rw [Bool.eq_false_iff]
      intro hq2
      rw [nPun_inn hq2] at e8
      cases e8
    rw [e8, e9] at k
    exact k
/-- note -/
def noteV (nt : Nat → Nat → Nat) (pp ff : Nat → Nat) (i : Nat) (v3 : Int32) : Int32 := if v3 = 0 then iI (pp i) else if v3 = 1 then iI (ff i) else if v3 = 2 then iI (nt (pp i) (ff i)) else -1
theorem cl_note {R r n : Nat} {nt : Nat → Nat → Nat} {pp ff : Nat → Nat} {rr : Nat → Option Nat} {ad : Nat → Nat} {rc v2 v3 sz : Int32} {P F L : Nat → Int32} (hR : R ≤ 6) (er : rc = iI R) (hr : r < R) (ha : rr r = some (ad 0)) (h : rcN nt n pp ff sz P F L) {post : Int32 → Prop} (k1 : ∀ i, i < n → v2 = iI i → post (noteV nt pp ff i v3)) (k0 : (v2.toInt < 0 ∨ (n : Int) ≤ v2.toInt) → post (-1)) : wp_X6_note_s ad rr rc P F L sz (iI r) v2 v3 post := by
  obtain ⟨c1, c2, c3, c4, c5⟩ := h
  unfold wp_X6_note_s
  refine sc_rollOf_s R r hR er hr rfl ⟨ha, ?_⟩
  unfold wp_X4_noteCount
  refine sc_within 0 (n - 1) (fun z z1 z2 ez => y10 ?_) (fun hq => y00 (k0 (by omega))) rfl (by rw [c2]; simp only [iI_lit, iI_sub])
  obtain ⟨i, hi, ei⟩ := iI_nat z1 ez
  obtain ⟨w0, w1, w2, w3⟩ := c3 i (by omega)
  have k1 := k1 i (by omega) ei
  unfold noteV at k1
  refine ⟨fun hq => ?_, fun hq => ⟨fun hq2 => ?_, fun hq2 => ⟨fun hq3 => ?_, fun hq3 => ?_⟩⟩⟩
  · unfold wp_X4_pitchOf
    refine q_in i ?_ ei
    rw [q_cl i ei, w1]
    rw [if_pos hq] at k1; exact k1
  · unfold wp_X4_firstStepOf
    refine q_in i ?_ ei
    rw [q_cl i ei, w2]
    rw [if_neg hq, if_pos hq2] at k1; exact k1
  · unfold wp_X4_lengthOf
    refine q_in i ?_ ei
    rw [q_cl i ei, w3]
    rw [if_neg hq, if_neg hq2, if_pos hq3] at k1; exact k1
  · rw [if_neg hq, if_neg hq2, if_neg hq3] at k1; exact k1
theorem mo_note_n {R : Nat} {rolls th mm v1 v2 v3 : Int32} {mp mf ml mo : Nat → Int32} (hR : R ≤ 6) (er : rolls = iI R) (hv : v1.toInt < 0 ∨ (R : Int) ≤ v1.toInt) {post : Int32 → Int32 → (Nat → Int32) → Int32 → Prop} (k : post (-1) 0 mo mm) : wp_X7_note rolls mp mf ml v1 v2 v3 th mo mm post := by
  unfold wp_X7_note
  exact sp_isRoll R hR er (fun j hj ej => absurd hv (by rw [ej, tI (by omega)]; omega)) (fun _ => z00 k)
theorem mo_note {R r n : Nat} {nt : Nat → Nat → Nat} {pp0 ff0 : Nat → Nat} {rolls th mm v2 v3 : Int32} {mp mf ml mo : Nat → Int32} (hR : R ≤ 6) (er : rolls = iI R) (hr : r < R) (hE : nE nt n pp0 ff0) (h : moR r nt n mp mf ml) {post : Int32 → Int32 → (Nat → Int32) → Int32 → Prop} (k1 : ∀ i mo' mm', i < n → v2 = iI i → post (noteV nt pp0 ff0 i v3) 0 mo' mm') (k0 : ∀ mo' mm', (v2.toInt < 0 ∨ (n : Int) ≤ v2.toInt) → post (-1) 0 mo' mm') : wp_X7_note rolls mp mf ml (iI r) v2 v3 th mo mm post := by
  obtain ⟨pp, ff, ll, hA, hB⟩ := h
  have hn : n ≤ 60 := by rw [← hB.2.2.2]; exact ct_le _ _
  unfold wp_X7_note
  refine sp_isRoll R hR er (fun _ _ _ => z10 ?_) (fun hq => absurd hq (by rw [tI (by omega)]; omega))
  refine mo_notes hA (by omega) ?_
  rw [hB.2.2.2]
  refine sp_within 0 (n - 1) (fun z z1 z2 ez => y10 ?_) (fun hq => y00 (k0 mo mm (by omega)))
  obtain ⟨i, hi, ei⟩ := iI_nat z1 ez
  refine mo_orders hA (by omega) hB.2.2.1 (fun mo' o ho => ?_)
  rw [hB.2.2.2] at ho ⊢
  have hE2 := slB_E hB ho
  obtain ⟨e1, e2⟩ := nE_at hE hE2 i (by omega) (by omega)
  obtain ⟨o1, -, -⟩ := ho
  obtain ⟨w1, w2, w3⟩ := o1 i (by omega)
  obtain ⟨a1, a2, a3, a4, a5, a6, a7⟩ := hA (o i) w1
  have hl := hB.1 (o i) w1 w2
  have k1 := k1 i mo' (iI n) (by omega) ei
  unfold noteV at k1
  rw [e1, e2] at k1
  refine ⟨fun hq => ⟨fun hq2 => ⟨fun hq3 => ?_, fun hq3 => ?_⟩, fun hq2 => ?_⟩, fun hq => ?_⟩
  · rw [if_neg hq, if_neg hq2, if_neg hq3] at k1; exact k1
  · rw [if_neg hq, if_neg hq2, if_pos hq3] at k1
    refine q_in i ?_ ei
    rw [q_cl i ei, w3]
    refine q_in (60 * r + o i : Nat) ?_
    rw [q_cl (60 * r + o i), a7, ← hl]
    exact k1
  · rw [if_neg hq, if_pos hq2] at k1
    refine q_in i ?_ ei
    rw [q_cl i ei, w3]
    refine q_in (60 * r + o i : Nat) ?_
    rw [q_cl (60 * r + o i), a6]
    exact k1
  · rw [if_pos hq] at k1
    refine q_in i ?_ ei
    rw [q_cl i ei, w3]
    refine q_in (60 * r + o i : Nat) ?_
    rw [q_cl (60 * r + o i), a5]
    exact k1
