def sinceA (n : Nat) (C P : Nat → Nat) (B : Nat → Bool) (v1 v2 : Int32) : Int32 :=
  if 0 ≤ v1.toInt ∧ v1.toInt ≤ 23 ∧ 0 ≤ v2.toInt ∧ v2.toInt ≤ 1 ∧ spL C P B v1.toInt.toNat n ≤ spG C P B v1.toInt.toNat n then (if v2.toInt = 0 then iI (spL C P B v1.toInt.toNat n) else iI (spG C P B v1.toInt.toNat n)) else -1
theorem cl_since {n : Nat} {C P : Nat → Nat} {B : Nat → Bool} {sg : Int32} {ul ug : Nat → Int32} (h : puC n C P B sg ul ug) (hR : puR n C P) {v1 v2 : Int32} {post : Int32 → Prop} (k : post (sinceA n C P B v1 v2)) : wp_X6_since ul ug v1 v2 post := by
  obtain ⟨hn, hz, hr⟩ := h
  have hC : ∀ i, i < n → C i < 1001 := fun i hi => (hR i hi).2.1
  unfold wp_X6_since
  unfold sinceA at k
  refine sc_isPitch (fun p hp ep => z10 ?_) (fun hc => z00 (by rw [if_neg (by omega)] at k; exact k))
  have tp : v1.toInt = p := by rw [ep, tI (by omega)]
  refine sc_within 0 1 (fun z z1 z2 ez => z10 ?_) (fun hc => z00 (by rw [if_neg (by omega)] at k; exact k))
  have tz : v2.toInt = z := by rw [ez, iI_toInt (by omega) (by omega)]
  obtain ⟨q1, q2⟩ := hr p hp
  have r1 := spL_rng (P := P) (B := B) (p := p) hC n (by omega)
  have r2 := spG_rng (P := P) (B := B) (p := p) hC n (by omega)
  have tn : v1.toInt.toNat = p := by omega
  rw [tn] at k
  unfold wp_X3_canBe
  refine q_in p ?_ ep
  refine q_in p ?_ ep
  rw [q_cl p ep, q1, q2]
  refine q_lt (spG C P B p n) (spL C P B p n) (fun hc => y00 (by rw [if_neg (by omega)] at k; exact k)) (fun hc => y10 ?_)
  rw [if_pos (by omega)] at k
  refine q_ne z 0 (fun hz0 => ?_) (fun hz0 => ?_) ez
  · unfold wp_X3_greatestOf
    refine q_in p ?_ ep
    rw [q_cl p ep, q2]
    rw [if_neg (by omega)] at k; exact k
  · unfold wp_X3_leastOf
    refine q_in p ?_ ep
    rw [q_cl p ep, q1]
    rw [if_pos (by omega)] at k; exact k
theorem mo_since {n : Nat} {C P : Nat → Nat} {B : Nat → Bool} {sg th l0 g0 : Int32} {mc mp mf : Nat → Int32} (h : puM n C P B sg mc mp mf) {v1 v2 : Int32} {post : Int32 → Int32 → Int32 → Int32 → Prop} (k : ∀ l g, post (sinceA n C P B v1 v2) 0 l g) : wp_X7_since sg mc mp mf v1 v2 th l0 g0 post := by
  unfold wp_X7_since
  unfold sinceA at k
  refine sp_within 0 23 (fun z1 a1 a2 e1 => z10 ?_) (fun hc => z00 (by rw [if_neg (by omega)] at k; exact k _ _))
  have t1 : v1.toInt = z1 := by rw [e1, iI_toInt (by omega) (by omega)]
  refine sp_within 0 1 (fun z b1 b2 ez => z10 ?_) (fun hc => z00 (by rw [if_neg (by omega)] at k; exact k _ _))
  have tz : v2.toInt = z := by rw [ez, iI_toInt (by omega) (by omega)]
  obtain ⟨p, hp, ep⟩ := iI_nat a1 e1
  have tn : v1.toInt.toNat = p := by omega
  rw [tn] at k
  refine mo_spans h ep (by omega) ?_
  by_cases hc : spL C P B p n ≤ spG C P B p n
  · rw [if_pos hc]
    rw [if_pos (by omega)] at k
    refine y10 ?_
    refine q_ne z 0 (fun hz0 => ?_) (fun hz0 => ?_) ez
    · rw [if_neg (by omega)] at k; exact k _ _
    · rw [if_pos (by omega)] at k; exact k _ _
  · rw [if_neg hc]
    rw [if_neg (by omega)] at k
    exact y00 (k _ _)
def wornF (n : Nat) (C P : Nat → Nat) (B : Nat → Bool) (c : Nat) (w : Int) : Nat → Int32
  | 0 => 0
  | p + 1 => if spL C P B p n ≤ spG C P B p n ∧ (if w = 0 then spG C P B p n else spL C P B p n) ≤ c then wornF n C P B c w p ||| (1 <<< (iI p &&& 31)) else wornF n C P B c w p
def wornA (n : Nat) (C P : Nat → Nat) (B : Nat → Bool) (v1 v2 : Int32) : Int32 :=
  if 1 ≤ v1.toInt ∧ v1.toInt ≤ 1000 ∧ 0 ≤ v2.toInt ∧ v2.toInt ≤ 1 then wornF n C P B v1.toInt.toNat v2.toInt 24 else -1
theorem cl_nb_g {n : Nat} {C P : Nat → Nat} {B : Nat → Bool} {sg : Int32} {ul ug : Nat → Int32} (h : puC n C P B sg ul ug) (hR : puR n C P) {v : Int32} {c : Nat} (hc : v = iI c) (hc2 : c < 1001) {post : Int32 → Prop} (k : post (wornF n C P B c 0 24)) : wp_X3_notBehind_g ul ug v post := by
  obtain ⟨hn, hz, hr⟩ := h
  have hC : ∀ i, i < n → C i < 1001 := fun i hi => (hR i hi).2.1
  unfold wp_X3_notBehind_g
  have key : ∀ (j p : Nat), p + j = 24 → wl_X3_notBehind_g_5 ul ug v post (j + 1) (wornF n C P B c 0 p) (iI p) := by
    intro j
    induction j with
    | zero =>
      intro p hp
      have e : p = 24 := by omega
      subst e
      rw [wl_X3_notBehind_g_5]
      exact q_le 24 24 (fun _ => k) (fun hc => absurd hc (by omega))
    | succ j ih =>
      intro p hp
      obtain ⟨q1, q2⟩ := hr p (by omega)
      have r1 := spL_rng (P := P) (B := B) (p := p) hC n (by omega)
      have r2 := spG_rng (P := P) (B := B) (p := p) hC n (by omega)
      have nx := ih (p + 1) (by omega)
      have ei : iI (p : Int) + 1 = iI ((p + 1 : Nat) : Int) := by
        simp only [iI_lit, iI_add]
        exact iI_c (by omega)
      rw [wl_X3_notBehind_g_5]
      refine q_le 24 p (fun hc => absurd hc (by omega)) (fun _ => ?_)
      unfold wp_X3_canBe
      refine q_in p ?_
      refine q_in p ?_
      rw [q_cl p, q1, q2, ei]
      rw [wornF] at nx
      refine q_lt (spG C P B p n) (spL C P B p n) (fun hc => z00 (by rw [if_neg (by omega)] at nx; exact nx)) (fun hc3 => z10 ?_)
      refine q_in p ?_
      refine q_lt c (spG C P B p n) (fun hc4 => ?_) (fun hc4 => ?_) hc
      · rw [if_neg (by rw [if_pos rfl]; omega)] at nx; exact nx
      · rintro z rfl
        rw [if_pos (by rw [if_pos rfl]; omega)] at nx; exact nx
  exact ⟨25, key 24 0 (by omega)⟩
theorem cl_nb_l {n : Nat} {C P : Nat → Nat} {B : Nat → Bool} {sg : Int32} {ul ug : Nat → Int32} (h : puC n C P B sg ul ug) (hR : puR n C P) {v : Int32} {c : Nat} (hc : v = iI c) (hc2 : c < 1001) {post : Int32 → Prop} (k : post (wornF n C P B c 1 24)) : wp_X3_notBehind_l ul ug v post := by
  obtain ⟨hn, hz, hr⟩ := h
  have hC : ∀ i, i < n → C i < 1001 := fun i hi => (hR i hi).2.1
  unfold wp_X3_notBehind_l
  have key : ∀ (j p : Nat), p + j = 24 → wl_X3_notBehind_l_5 ul ug v post (j + 1) (wornF n C P B c 1 p) (iI p) := by
    intro j
    induction j with
    | zero =>
      intro p hp
      have e : p = 24 := by omega
      subst e
      rw [wl_X3_notBehind_l_5]
      exact q_le 24 24 (fun _ => k) (fun hc => absurd hc (by omega))
    | succ j ih =>
      intro p hp
      obtain ⟨q1, q2⟩ := hr p (by omega)
      have r1 := spL_rng (P := P) (B := B) (p := p) hC n (by omega)
      have r2 := spG_rng (P := P) (B := B) (p := p) hC n (by omega)
      have nx := ih (p + 1) (by omega)
      have ei : iI (p : Int) + 1 = iI ((p + 1 : Nat) : Int) := by
        simp only [iI_lit, iI_add]
        exact iI_c (by omega)
      rw [wl_X3_notBehind_l_5]
      refine q_le 24 p (fun hc => absurd hc (by omega)) (fun _ => ?_)
      unfold wp_X3_canBe
      refine q_in p ?_
      refine q_in p ?_
      rw [q_cl p, q1, q2, ei]
      rw [wornF] at nx
      refine q_lt (spG C P B p n) (spL C P B p n) (fun hc => z00 (by rw [if_neg (by omega)] at nx; exact nx)) (fun hc3 => z10 ?_)
      refine q_in p ?_
      refine q_lt c (spL C P B p n) (fun hc4 => ?_) (fun hc4 => ?_) hc
      · rw [if_neg (by rw [if_neg (by decide)]; omega)] at nx; exact nx
      · rintro z rfl
        rw [if_pos (by rw [if_neg (by decide)]; omega)] at nx; exact nx
  exact ⟨25, key 24 0 (by omega)⟩
theorem cl_worn {n : Nat} {C P : Nat → Nat} {B : Nat → Bool} {sg : Int32} {ul ug : Nat → Int32} (h : puC n C P B sg ul ug) (hR : puR n C P) {v1 v2 : Int32} {post : Int32 → Prop} (k : post (wornA n C P B v1 v2)) : wp_X6_worn ul ug v1 v2 post := by
  unfold wp_X6_worn
  unfold wornA at k
  refine sc_isCopy (fun c c1 c2 ec => z10 ?_) (fun hc => z00 (by rw [if_neg (by omega)] at k; exact k))
  have tc : v1.toInt = c := by rw [ec, tI (by omega)]
  refine sc_within 0 1 (fun z z1 z2 ez => y10 ?_) (fun hc => y00 (by rw [if_neg (by omega)] at k; exact k))
  have tz : v2.toInt = z := by rw [ez, iI_toInt (by omega) (by omega)]
  rw [if_pos (by omega), show v1.toInt.toNat = c by omega, tz] at k
  refine q_ne z 0 (fun hz0 => ?_) (fun hz0 => ?_) ez
  · unfold wp_X3_perhapsWornBy
    have e : z = 1 := by omega
    rw [e] at k
    exact cl_nb_l h hR ec c2 k
  · unfold wp_X3_surelyWornBy
    rw [hz0] at k
    exact cl_nb_g h hR ec c2 k
theorem mo_worn {n : Nat} {C P : Nat → Nat} {B : Nat → Bool} {sg th l0 g0 : Int32} {mc mp mf : Nat → Int32} (h : puM n C P B sg mc mp mf) {v1 v2 : Int32} {post : Int32 → Int32 → Int32 → Int32 → Prop} (k : ∀ l g, post (wornA n C P B v1 v2) 0 l g) : wp_X7_worn sg mc mp mf v1 v2 th l0 g0 post := by
  have hC : ∀ i, i < n → C i < 1001 := fun i hi => (h.2.2 i hi).2.1
  unfold wp_X7_worn
  unfold wornA at k
  refine sp_within 1 1000 (fun z1 a1 a2 e1 => z10 ?_) (fun hc => z00 (by rw [if_neg (by omega)] at k; exact k _ _))
  have t1 : v1.toInt = z1 := by rw [e1, iI_toInt (by omega) (by omega)]
  refine sp_within 0 1 (fun z b1 b2 ez => y10 ?_) (fun hc => y00 (by rw [if_neg (by omega)] at k; exact k _ _))
  have tz : v2.toInt = z := by rw [ez, iI_toInt (by omega) (by omega)]
  obtain ⟨c, hc, ec⟩ := iI_nat (by omega) e1
  rw [if_pos (by omega), show v1.toInt.toNat = c by omega, tz] at k
  have key : ∀ (j p : Nat) (l g : Int32), p + j = 24 → wl_X7_worn_32 sg mc mp mf v1 v2 post (j + 1) (wornF n C P B c z p) (iI p) 0 l g := by
    intro j
    induction j with
    | zero =>
      intro p l g hp
      have e : p = 24 := by omega
      subst e
      rw [wl_X7_worn_32]
      exact q_le 24 24 (fun _ => k _ _) (fun hc => absurd hc (by omega))
    | succ j ih =>
      intro p l g hp
      have r1 := spL_rng (P := P) (B := B) (p := p) hC n (by omega)
      have r2 := spG_rng (P := P) (B := B) (p := p) hC n (by omega)
      have nx := fun l g => ih (p + 1) l g (by omega)
      have ei : iI (p : Int) + 1 = iI ((p + 1 : Nat) : Int) := by
        simp only [iI_lit, iI_add]
        exact iI_c (by omega)
      rw [wl_X7_worn_32]
      refine q_le 24 p (fun hc => absurd hc (by omega)) (fun _ => ?_)
      refine mo_spans h rfl (by omega) ?_
      rw [ei]
      by_cases hs : spL C P B p n ≤ spG C P B p n
      · rw [if_pos hs]
        refine z10 ?_
        refine q_ne z 0 (fun hz0 => ?_) (fun hz0 => ?_) ez
        · unfold wl_X7_worn_63
          rw [ei]
          refine q_lt c (spL C P B p n) (fun hc4 => ?_) (fun hc4 => ?_) ec
          · have nx := nx (iI (spL C P B p n)) (iI (spG C P B p n))
            rw [wornF, if_neg (by rw [if_neg hz0]; omega)] at nx; exact nx
          · rintro z9 rfl
            have nx := nx (iI (spL C P B p n)) (iI (spG C P B p n))
            rw [wornF, if_pos (by rw [if_neg hz0]; omega)] at nx; exact nx
        · unfold wl_X7_worn_63
          rw [ei]
          refine q_lt c (spG C P B p n) (fun hc4 => ?_) (fun hc4 => ?_) ec
          · have nx := nx (iI (spL C P B p n)) (iI (spG C P B p n))
            rw [wornF, if_neg (by rw [if_pos hz0]; omega)] at nx; exact nx
          · rintro z9 rfl
            have nx := nx (iI (spL C P B p n)) (iI (spG C P B p n))
            rw [wornF, if_pos (by rw [if_pos hz0]; omega)] at nx; exact nx
      · rw [if_neg hs]
        refine z00 ?_
        have nx := nx (iI (spL C P B p n)) (iI (spG C P B p n))
        rw [wornF, if_neg (by omega)] at nx; exact nx
  exact ⟨25, key 24 0 _ _ (by omega)⟩
