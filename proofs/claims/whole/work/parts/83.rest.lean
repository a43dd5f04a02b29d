theorem cl_ticks {R r km : Nat} {mu : Nat → Nat} {rr : Nat → Option Nat} {ad : Nat → Nat} {rc mk : Int32} {Mk : Nat → Int32} (hR : R ≤ 6) (er : rc = iI R) (hr : r < R) (ha : rr r = some (ad 0)) (hv : tpV mu) (ht : tpC mu km Mk mk) {post : Int32 → Prop} (k : post (iI (tkS mu 300))) : wp_X6_ticks_s ad rr rc Mk (iI r) post := by
  unfold wp_X6_ticks_s
  refine sc_rollOf_s R r hR er hr rfl ⟨ha, ?_⟩
  exact cl_ticksAll hv ht k
theorem mo_ticks_n {R : Nat} {rolls th v1 : Int32} {ma ms mt : Nat → Int32} (hR : R ≤ 6) (er : rolls = iI R) (hv : v1.toInt < 0 ∨ (R : Int) ≤ v1.toInt) {post : Int32 → Int32 → Prop} (k : post (-1) 0) : wp_X7_ticks rolls ma ms mt v1 th post := by
  unfold wp_X7_ticks
  exact sp_isRoll R hR er (fun j hj ej => absurd hv (by rw [ej, tI (by omega)]; omega)) (fun _ => z00 k)
theorem mo_ticks {R r km : Nat} {mu : Nat → Nat} {rolls th : Int32} {ma ms mt : Nat → Int32} (hR : R ≤ 6) (er : rolls = iI R) (hr : r < R) (ht : tpM r mu km ma ms mt) {post : Int32 → Int32 → Prop} (k : post (iI (tkS mu 300)) 0) : wp_X7_ticks rolls ma ms mt (iI r) th post := by
  unfold wp_X7_ticks
  refine sp_isRoll R hR er (fun _ _ _ => z10 ?_) (fun hq => absurd hq (by rw [tI (by omega)]; omega))
  exact mo_allTicks (by omega) ht k
/-- which roll a figure of count speaks of -/
def cntOk (R : Nat) (v : Int32) (r : Nat) : Prop := r < R ∧ (v = iI ((10 + r : Nat) : Int) ∨ v = iI ((20 + r : Nat) : Int))
def cntG (R m s l d : Nat) (v : Int32) : Int32 := if v = 0 then iI R else if v = 1 then iI m else if v = 2 then iI s else if v = 3 then iI l else if v = 4 then iI d else -1
theorem i_off {v : Int32} {c k : Nat} (hc : c < 1000) (hk : k < 1000) (h : v - iI c = iI k) : v = iI ((c + k : Nat) : Int) := by
  have e : v = (v - iI c) + iI c := by simp
  rw [e, h, iI_s]
  exact iI_c (by omega)
theorem i_off2 {c k : Nat} : iI ((c + k : Nat) : Int) - iI c = iI k := by
  rw [iI_sub]; exact iI_c (by omega)
theorem cl_count_n {R m s l d : Nat} {rr : Nat → Option Nat} {rc cz us os od v : Int32} (hR : R ≤ 6) (e1 : rc = iI R) (e2 : cz = iI m) (e3 : us = iI s) (e4 : os = iI l) (e5 : od = iI d) (hv : ∀ r, ¬ cntOk R v r) {post : Int32 → Prop} (k : post (cntG R m s l d v)) : wp_X6_count_n rr rc cz us os od v post := by
  unfold cntG at k
  unfold wp_X6_count_n wp_X5_size wp_X3_sightCount wp_X2_lineCount wp_X2_today
  refine ⟨fun h0 => ?_, fun h0 => ⟨fun h1 => ?_, fun h1 => ⟨fun h2 => ?_, fun h2 => ⟨fun h3 => ?_, fun h3 => ⟨fun h4 => ?_, fun h4 => ?_⟩⟩⟩⟩⟩
  · rw [if_pos h0, ← e1] at k; exact k
  · rw [if_neg h0, if_pos h1, ← e2] at k; exact k
  · rw [if_neg h0, if_neg h1, if_pos h2, ← e3] at k; exact k
  · rw [if_neg h0, if_neg h1, if_neg h2, if_pos h3, ← e4] at k; exact k
  · rw [if_neg h0, if_neg h1, if_neg h2, if_neg h3, if_pos h4, ← e5] at k; exact k
  · rw [if_neg h0, if_neg h1, if_neg h2, if_neg h3, if_neg h4] at k
    unfold wp_X6_countOfRoll_n
    have out : ∀ (c : Nat) (z : Int), (c = 10 ∨ c = 20) → (c : Int) ≤ z → z ≤ c + 5 → v = iI z → (v - iI c).toInt < 0 ∨ (R : Int) ≤ (v - iI c).toInt := by
      intro c z hc z1 z2 ez
      have e : v - iI c = iI (z - c) := by rw [ez, iI_sub]
      rw [e, iI_toInt (by omega) (by omega)]
      rcases Int.lt_or_le (z - c) R with q | q
      · exfalso
        have ez2 : v = iI ((c + (z - c).toNat : Nat) : Int) := by rw [ez]; exact iI_c (by omega)
        refine hv (z - c).toNat ⟨by omega, ?_⟩
        rcases hc with rfl | rfl
        · exact Or.inl ez2
        · exact Or.inr ez2
      · exact Or.inr q
    refine sc_within 20 25 (fun z z1 z2 ez => z10 ?_) (fun hq => z00 ?_)
    · exact sc_rollOf_n R hR e1 (out 20 z (Or.inr rfl) (by omega) (by omega) ez) ⟨rfl, k⟩
    · refine sc_within 10 15 (fun z z1 z2 ez => z10 ?_) (fun hq2 => z00 k)
      exact sc_rollOf_n R hR e1 (out 10 z (Or.inl rfl) (by omega) (by omega) ez) ⟨rfl, k⟩
theorem cl_count_s {R r n km : Nat} {rr : Nat → Option Nat} {ad : Nat → Nat} {rc cz us os od v sz mk : Int32} (hR : R ≤ 6) (e1 : rc = iI R) (hr : r < R) (ha : rr r = some (ad 0)) (hsz : sz = iI n) (hmk : mk = iI km) {post : Int32 → Prop} (k1 : v = iI ((10 + r : Nat) : Int) → post (iI n)) (k2 : v = iI ((20 + r : Nat) : Int) → post (iI km)) (hv : cntOk R v r) : wp_X6_count_s ad rr rc cz us os od sz mk v post := by
  obtain ⟨-, hv⟩ := hv
  have tv : v.toInt = 10 + r ∨ v.toInt = 20 + r := by
    rcases hv with h | h
    · exact Or.inl (by rw [h, tI (by omega)]; omega)
    · exact Or.inr (by rw [h, tI (by omega)]; omega)
  have ne : ∀ c : Nat, c < 10 → ¬ v = iI c := fun c hc h => by
    rw [h, tI (by omega)] at tv
    omega
  unfold wp_X6_count_s
  refine ⟨fun h0 => absurd h0 (ne 0 (by omega)), fun h0 => ⟨fun h1 => absurd h1 (ne 1 (by omega)), fun h1 => ⟨fun h2 => absurd h2 (ne 2 (by omega)), fun h2 => ⟨fun h3 => absurd h3 (ne 3 (by omega)), fun h3 => ⟨fun h4 => absurd h4 (ne 4 (by omega)), fun h4 => ?_⟩⟩⟩⟩⟩
  unfold wp_X6_countOfRoll_s wp_X4_markCount wp_X4_noteCount
  rcases hv with h | h
  · have t : v.toInt = 10 + r := by rw [h, tI (by omega)]; omega
    refine sc_within 20 25 (fun z z1 z2 ez => absurd t (by rw [ez, iI_toInt (by omega) (by omega)]; omega)) (fun hq => z00 ?_)
    refine sc_within 10 15 (fun z z1 z2 ez => z10 ?_) (fun hq2 => absurd t (by omega))
    refine sc_rollOf_s R r hR e1 hr (by rw [h]; exact i_off2) ⟨ha, ?_⟩
    rw [hsz]; exact k1 h
  · have t : v.toInt = 20 + r := by rw [h, tI (by omega)]; omega
    refine sc_within 20 25 (fun z z1 z2 ez => z10 ?_) (fun hq => absurd t (by omega))
    refine sc_rollOf_s R r hR e1 hr (by rw [h]; exact i_off2) ⟨ha, ?_⟩
    rw [hmk]; exact k2 h
theorem mo_count {R m s l d : Nat} {rolls cz us os od v th : Int32} {mp mf ml ma ms mt : Nat → Int32} {nt : Nat → Nat → Nat → Nat} {n km : Nat → Nat} {mu : Nat → Nat → Nat} (hR : R ≤ 6) (e1 : rolls = iI R) (e2 : cz = iI m) (e3 : us = iI s) (e4 : os = iI l) (e5 : od = iI d) (hM : ∀ r, r < R → moR r (nt r) (n r) mp mf ml ∧ tpM r (mu r) (km r) ma ms mt) {post : Int32 → Int32 → Prop} (k0 : (∀ r, ¬ cntOk R v r) → post (cntG R m s l d v) 0) (k1 : ∀ r, r < R → v = iI ((10 + r : Nat) : Int) → post (iI (n r)) 0) (k2 : ∀ r, r < R → v = iI ((20 + r : Nat) : Int) → post (iI (km r)) 0) : wp_X7_count rolls ml ma cz us os od v th post := by
  have nc : ∀ c : Nat, c < 10 → v = iI c → ∀ r, ¬ cntOk R v r := by
    rintro c hc h r ⟨h1, h2⟩
    rw [h] at h2
    rcases h2 with h2 | h2
    · have := iI_inj (by omega) (by omega) h2; omega
    · have := iI_inj (by omega) (by omega) h2; omega
  unfold cntG at k0
  unfold wp_X7_count
  refine ⟨fun h0 => ?_, fun h0 => ⟨fun h1 => ?_, fun h1 => ⟨fun h2 => ?_, fun h2 => ⟨fun h3 => ?_, fun h3 => ⟨fun h4 => ?_, fun h4 => ?_⟩⟩⟩⟩⟩
  · rw [if_pos h0, ← e1] at k0; exact k0 (nc 0 (by omega) h0)
  · rw [if_neg h0, if_pos h1, ← e2] at k0; exact k0 (nc 1 (by omega) h1)
  · rw [if_neg h0, if_neg h1, if_pos h2, ← e3] at k0; exact k0 (nc 2 (by omega) h2)
  · rw [if_neg h0, if_neg h1, if_neg h2, if_pos h3, ← e4] at k0; exact k0 (nc 3 (by omega) h3)
  · rw [if_neg h0, if_neg h1, if_neg h2, if_neg h3, if_pos h4, ← e5] at k0; exact k0 (nc 4 (by omega) h4)
  · rw [if_neg h0, if_neg h1, if_neg h2, if_neg h3, if_neg h4] at k0
    refine sp_isRoll R hR e1 (fun r hr er => z10 ?_) (fun hq => z00 ?_)
    · have ev := i_off (c := 10) (by omega) (by omega) er
      obtain ⟨pp, ff, ll, hA, hB⟩ := (hM r hr).1
      rw [er]
      refine mo_notes hA (by omega) ?_
      rw [hB.2.2.2]
      exact k1 r hr ev
    · refine sp_isRoll R hR e1 (fun r hr er => z10 ?_) (fun hq2 => z00 (k0 ?_))
      · have ev := i_off (c := 20) (by omega) (by omega) er
        refine q_in r ?_ er
        rw [q_cl r er, (hM r hr).2.2.1]
        exact k2 r hr ev
      · rintro r ⟨h5, h6 | h6⟩
        · rw [h6, show (10 : Int32) = iI ((10 : Nat) : Int) from rfl, i_off2, tI (by omega)] at hq
          omega
        · rw [h6, show (20 : Int32) = iI ((20 : Nat) : Int) from rfl, i_off2, tI (by omega)] at hq2
          omega
/-- where, in the reference -/
theorem mo_where {n d : Nat} {C D P T : Nat → Nat} {sz td th : Int32} {fc fd fp ft : Nat → Int32} (h : poC n d C D P T sz td fc fd fp ft) (hd : d < 2147483648) {v1 v2 v3 : Int32} {post : Int32 → Int32 → Prop} (k1 : ∀ c dy kn : Nat, 1 ≤ c → c < 1001 → v1 = iI c → v2 = iI dy → v3 = iI kn → dy ≤ 100000 → kn ≤ 100000 → kn ≤ d → post (whA P (bst C D T c dy kn n)) 0) (k0 : ¬ ((1 ≤ v1.toInt ∧ v1.toInt ≤ 1000) ∧ daysOk d v2 v3) → post 0 1) : wp_X7_where sz fc fd fp ft td v1 v2 v3 th post := by
  have no : ¬ ((1 ≤ v1.toInt ∧ v1.toInt ≤ 1000) ∧ daysOk d v2 v3) → wl_X7_where_24 sz fc fd fp ft td v1 v2 v3 post th := fun hq => by
    unfold wl_X7_where_24 wl_X7_where_25
    refine z00 ?_
    unfold wl_X7_where_38
    exact z00 (k0 hq)
  unfold wp_X7_where
  refine sp_within 1 1000 (fun z z1 z2 ez => z10 ?_) (fun hq => z00 (no (fun h9 => by omega)))
  refine mo_areDays hd h.2.2.1 (fun dy kn b1 b2 e2 e3 b3 => z10 ?_) (fun hq => z00 (no (fun h9 => hq h9.2)))
  obtain ⟨c, hc, ec⟩ := iI_nat (by omega) ez
  unfold wl_X7_where_25
  refine z10 ?_
  unfold wl_X7_where_38
  refine z10 ?_
  refine mo_whereOf h hd ec e2 e3 (by omega) (by omega) (by omega) ?_
  exact k1 c dy kn (by omega) (by omega) ec e2 e3 b1 b2 b3
