theorem mo_plays {r n : Nat} {nt : Nat → Nat → Nat} {mp mf ml : Nat → Int32} {mu : Nat → Nat} {km : Nat} {ma ms mt M : Nat → Int32} {c : Nat → Nat} (hr : r < 6) (h : moR r nt n mp mf ml) (hv : tpV mu) (ht : tpM r mu km ma ms mt) (hM : simH M c) (hN : ∀ s, s < 300 → msk (M s) (fun p => nInn nt p s)) {pd : Nat} (hpd : pd ≤ 20) {v3 a1 a2 a3 : Int32} {post : Int32 → Int32 → Int32 → Prop} (kt : ∀ s i m, s < 300 → i < tk mu s → ((tkS mu s + i : Nat) : Int) = v3.toInt → post (snd (M s) (pI pd (c s) (pS pd c (tk mu) s) i)) (iI (pI pd (c s) (pS pd c (tk mu) s) i)) m) (kf : ∀ p q, (∀ s i, s < 300 → i < tk mu s → ((tkS mu s + i : Nat) : Int) ≠ v3.toInt) → post p q (iI (mS pd c (tk mu) (fun s => decide (M s ≠ 0)) 300))) : wp_X7_plays mp mf ml ma ms mt (iI r) (iI pd) v3 a1 a2 a3 post := by
  unfold wp_X7_plays
  have hr3 := iI_rng v3
  have key : ∀ (j s : Nat) (he pe : Int32), s + j = 300 → (∀ x i, x < s → i < tk mu x → ((tkS mu x + i : Nat) : Int) ≠ v3.toInt) → wl_X7_plays_15 mp mf ml ma ms mt (iI r) (iI pd) v3 post (j + 1) (iI (tkS mu s)) (iI (pS pd c (tk mu) s)) (iI s) he pe (iI (mS pd c (tk mu) (fun s => decide (M s ≠ 0)) s)) := by
    intro j
    induction j with
    | zero =>
      intro s he pe hs hx
      have e : s = 300 := by omega
      subst e
      rw [wl_X7_plays_15]
      exact q_le 300 300 (fun _ => kf _ _ hx) (fun hq => absurd hq (by omega))
    | succ j ih =>
      intro s he pe hs hx
      have t9 := tk_le hv.1 s
      have ts := tkS_le hv.1 s
      have hc := simH_le hM (show s < 300 by omega)
      have hm := mS_le (pd := pd) (c := c) (mu := mu) (z := fun s => decide (M s ≠ 0)) s
      rw [wl_X7_plays_15]
      refine q_le 300 s (fun hq => absurd hq (by omega)) (fun _ => ?_)
      refine mo_notesIn hr h (by omega) rfl (hN s (by omega)) ?_
      refine mo_ticksOf hr ht (by omega) rfl ?_
      have inner : ∀ (y i : Nat) (he pe : Int32), i + y = tk mu s → (∀ w, w < i → ((tkS mu s + w : Nat) : Int) ≠ v3.toInt) → wl_X7_plays_44 mp mf ml ma ms mt (iI r) (iI pd) v3 post (wl_X7_plays_15 mp mf ml ma ms mt (iI r) (iI pd) v3 post (j + 1)) (y + 1) (iI ((tkS mu s + i : Nat) : Int)) (iI (pI pd (c s) (pS pd c (tk mu) s) i)) (iI s) (M s) (iI (tk mu s)) (iI i) he pe (iI ((mS pd c (tk mu) (fun s => decide (M s ≠ 0)) s + mI pd (c s) (pS pd c (tk mu) s) (decide (M s ≠ 0)) i : Nat) : Int)) := by
        intro y
        induction y with
        | zero =>
          intro i he pe hi hw
          have e : i = tk mu s := by omega
          subst e
          rw [wl_X7_plays_44]
          refine q_le (tk mu s) (tk mu s) (fun _ => ?_) (fun hq => absurd hq (by omega))
          rw [show iI (s : Int) + 1 = iI ((s + 1 : Nat) : Int) by simp only [iI_lit, iI_add]; exact iI_c (by omega)]
          refine ih (s + 1) _ _ (by omega) (fun x w hx1 hw1 => ?_)
          rcases Nat.lt_or_ge x s with q | q
          · exact hx x w q hw1
          · rw [show x = s by omega] at hw1 ⊢; exact hw w hw1
        | succ y ihy =>
          intro i he pe hi hw
          have hpr := pI_le (pd := pd) (c := c s) (pS_le (pd := pd) (c := c) (t := tk mu) s) i
          have hmi := mI_le (pd := pd) (c := c s) (pr := pS pd c (tk mu) s) (z := decide (M s ≠ 0)) i
          have hnx : pI pd (c s) (pS pd c (tk mu) s) (i + 1) = nxt pd (c s) (pI pd (c s) (pS pd c (tk mu) s) i) := rfl
          have hmx : mI pd (c s) (pS pd c (tk mu) s) (decide (M s ≠ 0)) (i + 1) = mI pd (c s) (pS pd c (tk mu) s) (decide (M s ≠ 0)) i + (if pI pd (c s) (pS pd c (tk mu) s) i < 8 ∧ decide (M s ≠ 0) = true then 1 else 0) := rfl
          have kt := kt s i
          generalize hpi : pI pd (c s) (pS pd c (tk mu) s) i = pr at *
          generalize hmi9 : mI pd (c s) (pS pd c (tk mu) s) (decide (M s ≠ 0)) i = mm at *
          have f96 : ∀ (w1 w2 sl : Int32), w1 + w2 = iI ((mS pd c (tk mu) (fun s => decide (M s ≠ 0)) s + mI pd (c s) (pS pd c (tk mu) s) (decide (M s ≠ 0)) (i + 1) : Nat) : Int) → wl_X7_plays_96 mp mf ml ma ms mt (iI r) (iI pd) v3 post (wl_X7_plays_15 mp mf ml ma ms mt (iI r) (iI pd) v3 post (j + 1)) (wl_X7_plays_44 mp mf ml ma ms mt (iI r) (iI pd) v3 post (wl_X7_plays_15 mp mf ml ma ms mt (iI r) (iI pd) v3 post (j + 1)) (y + 1)) (iI ((tkS mu s + i : Nat) : Int)) (iI pr) (iI s) (M s) (iI (tk mu s)) (iI i) w1 w2 (snd (M s) pr) (iI pr) sl := by
            intro w1 w2 sl ew
            unfold wl_X7_plays_96
            rw [ew]
            refine q_ne (tkS mu s + i : Nat) v3.toInt (fun hq => ?_) (fun hq => kt _ (by omega) (by omega) hq) rfl (iI_of v3)
            refine snd_cnt hM (by omega) pr ?_
            rintro z4 rfl
            have hc9 : (if pr < 8 then 0 else c s : Nat) ≤ 24 := by split <;> omega
            have e9 : nxt pd (c s) pr = if 100 < pr + pd - (if pr < 8 then 0 else c s) then 100 else pr + pd - (if pr < 8 then 0 else c s) := rfl
            generalize (if pr < 8 then 0 else c s : Nat) = cc at hc9 e9 ⊢
            have fin : ∀ x : Int32, x = iI (nxt pd (c s) pr) → wl_X7_plays_44 mp mf ml ma ms mt (iI r) (iI pd) v3 post (wl_X7_plays_15 mp mf ml ma ms mt (iI r) (iI pd) v3 post (j + 1)) (y + 1) (iI ((tkS mu s + i : Nat) : Int) + 1) x (iI s) (M s) (iI (tk mu s)) (iI (i : Int) + 1) (snd (M s) pr) (iI pr) (iI ((mS pd c (tk mu) (fun s => decide (M s ≠ 0)) s + mI pd (c s) (pS pd c (tk mu) s) (decide (M s ≠ 0)) (i + 1) : Nat) : Int)) := by
              intro x ex
              rw [ex, ← hnx, show iI ((tkS mu s + i : Nat) : Int) + 1 = iI ((tkS mu s + (i + 1) : Nat) : Int) by simp only [iI_lit, iI_add]; exact iI_c (by omega), show iI (i : Int) + 1 = iI ((i + 1 : Nat) : Int) by simp only [iI_lit, iI_add]; exact iI_c (by omega)]
              refine ihy (i + 1) _ _ (by omega) (fun w hw1 => ?_)
              rcases Nat.lt_or_ge w i with q | q
              · exact hw w q
              · rw [show w = i by omega]; exact hq
            have e4 : iI (pr : Int) + (iI (pd : Int) - iI (cc : Int)) = iI ((pr : Int) + (pd - cc)) := by rw [iI_sub, iI_add]
            rw [e4]
            refine q_le 0 ((pr : Int) + (pd - cc)) (fun h1 => ?_) (fun h1 => ?_)
            · refine q_le ((pr : Int) + (pd - cc)) 100 (fun h2 => fin _ ?_) (fun h2 => fin _ ?_)
              · rw [e9, if_neg (by omega)]; exact iI_c (by omega)
              · rw [e9, if_pos (by omega)]; rfl
            · refine fin _ ?_
              rw [e9, if_neg (by omega), show pr + pd - cc = 0 by omega]; rfl
          have f71 : wl_X7_plays_71 mp mf ml ma ms mt (iI r) (iI pd) v3 post (wl_X7_plays_15 mp mf ml ma ms mt (iI r) (iI pd) v3 post (j + 1)) (wl_X7_plays_44 mp mf ml ma ms mt (iI r) (iI pd) v3 post (wl_X7_plays_15 mp mf ml ma ms mt (iI r) (iI pd) v3 post (j + 1)) (y + 1)) (iI ((tkS mu s + i : Nat) : Int)) (iI pr) (iI s) (M s) (iI (tk mu s)) (iI i) (snd (M s) pr) he (iI pr) (iI ((mS pd c (tk mu) (fun s => decide (M s ≠ 0)) s + mm : Nat) : Int)) := by
            unfold wl_X7_plays_71
            refine ⟨fun hz => ?_, fun hz => ⟨fun hs2 => ?_, fun hs2 => ?_⟩⟩
            · unfold wl_X7_plays_95
              refine f96 _ _ _ ?_
              rw [hmx, if_neg (fun h9 => (of_decide_eq_true h9.2) hz)]
              simp only [iI_lit, iI_add]; exact iI_c (by omega)
            · unfold wl_X7_plays_95
              refine f96 _ _ _ ?_
              rw [hmx, if_neg (fun h9 => hs2 (by unfold snd; rw [if_pos h9.1]))]
              simp only [iI_lit, iI_add]; exact iI_c (by omega)
            · have h8 : pr < 8 := by
                rcases Nat.lt_or_ge pr 8 with q | q
                · exact q
                · unfold snd at hs2
                  rw [if_neg (by omega)] at hs2
                  exact absurd hs2 hz
              have f := f96 (iI ((mS pd c (tk mu) (fun s => decide (M s ≠ 0)) s + mm : Nat) : Int)) 1 (iI ((mS pd c (tk mu) (fun s => decide (M s ≠ 0)) s + mm : Nat) : Int)) (by
                rw [hmx, if_pos ⟨h8, decide_eq_true hz⟩]
                simp only [iI_lit, iI_add]; exact iI_c (by omega))
              exact f
          rw [wl_X7_plays_44]
          refine q_le (tk mu s) i (fun hq => absurd hq (by omega)) (fun _ => ?_)
          refine q_lt pr 8 (fun hq => ?_) (fun hq => ?_)
          · rw [show snd (M s) pr = 0 by unfold snd; rw [if_pos (by omega)]] at f71; exact f71
          · rw [show snd (M s) pr = M s by unfold snd; rw [if_neg (by omega)]] at f71; exact f71
      exact ⟨tk mu s + 1, inner (tk mu s) 0 he pe (by omega) (fun w hw => absurd hw (by omega))⟩
  exact ⟨301, key 300 0 _ _ (by omega) (fun x i hx => absurd hx (by omega))⟩
/-- the tick of a number: its step and its place there -/
theorem tick_at {mu : Nat → Nat} : ∀ {n T : Nat}, T < tkS mu n → ∃ s i, s < n ∧ i < tk mu s ∧ tkS mu s + i = T
  | 0, T, h => by simp [tkS] at h
  | n + 1, T, h => by
    rcases Nat.lt_or_ge T (tkS mu n) with q | q
    · obtain ⟨s, i, h1, h2, h3⟩ := tick_at q
      exact ⟨s, i, by omega, h2, h3⟩
    · rw [tkS] at h
      exact ⟨n, T - tkS mu n, by omega, by omega, by omega⟩
theorem tkS_mono {mu : Nat → Nat} : ∀ {m n : Nat}, m ≤ n → tkS mu m ≤ tkS mu n
  | m, 0, h => by rw [show m = 0 by omega]; exact Nat.le_refl _
  | m, n + 1, h => by
    by_cases e : m = n + 1
    · rw [e]; exact Nat.le_refl _
    · have := tkS_mono (mu := mu) (show m ≤ n by omega)
      rw [tkS]; omega
theorem tick_lt {mu : Nat → Nat} {n s i : Nat} (h1 : s < n) (h2 : i < tk mu s) : tkS mu s + i < tkS mu n := by
  have : tkS mu (s + 1) ≤ tkS mu n := tkS_mono (by omega)
  rw [tkS] at this
  omega
theorem tick_one {mu : Nat → Nat} {s i s' i' : Nat} (h1 : i < tk mu s) (h2 : i' < tk mu s') (h : tkS mu s + i = tkS mu s' + i') : s = s' ∧ i = i' := by
  rcases Nat.lt_trichotomy s s' with q | q | q
  · have := tick_lt q h1; omega
  · subst q; exact ⟨rfl, by omega⟩
  · have := tick_lt q h2; omega
/-- where a tick is asked for -/
def plOk (mu : Nat → Nat) (v2 v3 : Int32) (pd s i : Nat) : Prop := pd ≤ 20 ∧ v2 = iI pd ∧ s < 300 ∧ i < tk mu s ∧ ((tkS mu s + i : Nat) : Int) = v3.toInt
theorem plOk_fun {mu : Nat → Nat} {v2 v3 : Int32} {pd s i pd' s' i' : Nat} (h : plOk mu v2 v3 pd s i) (k : plOk mu v2 v3 pd' s' i') : pd = pd' ∧ s = s' ∧ i = i' := by
  obtain ⟨h1, h2, h3, h4, h5⟩ := h
  obtain ⟨k1, k2, k3, k4, k5⟩ := k
  have e := iI_inj (by omega) (by omega) (h2.symm.trans k2)
  exact ⟨e, tick_one h4 k4 (by omega)⟩
/-- what is played: the pitches that sound, the pressure -/
def plR (mu : Nat → Nat) (M : Nat → Int32) (c : Nat → Nat) (v2 v3 so pr : Int32) : Prop := (∃ pd s i, plOk mu v2 v3 pd s i ∧ so = snd (M s) (pI pd (c s) (pS pd c (tk mu) s) i) ∧ pr = iI (pI pd (c s) (pS pd c (tk mu) s) i)) ∨ ((∀ pd s i, ¬ plOk mu v2 v3 pd s i) ∧ so = -1 ∧ pr = -1)
theorem plR_fun {mu : Nat → Nat} {M : Nat → Int32} {c : Nat → Nat} {v2 v3 a b a' b' : Int32} (h : plR mu M c v2 v3 a b) (k : plR mu M c v2 v3 a' b') : a = a' ∧ b = b' := by
  rcases h with ⟨pd, s, i, h1, h2, h3⟩ | ⟨h1, h2, h3⟩ <;> rcases k with ⟨pd', s', i', k1, k2, k3⟩ | ⟨k1, k2, k3⟩
  · obtain ⟨e1, e2, e3⟩ := plOk_fun h1 k1
    subst e1 e2 e3
    exact ⟨h2.trans k2.symm, h3.trans k3.symm⟩
  · exact absurd h1 (k1 _ _ _)
  · exact absurd k1 (h1 _ _ _)
  · exact ⟨h2.trans k2.symm, h3.trans k3.symm⟩
theorem cl_playsTo {R r km : Nat} {mu : Nat → Nat} {rr : Nat → Option Nat} {ad : Nat → Nat} {rc v2 v3 mk a1 a2 a3 : Int32} {Mk M : Nat → Int32} {c : Nat → Nat} (hR : R ≤ 6) (er : rc = iI R) (hr : r < R) (ha : rr r = some (ad 0)) (hv : tpV mu) (ht : tpC mu km Mk mk) (hM : simH M c) {post : Int32 → Int32 → Int32 → Int32 → Prop} (k1 : ∀ so pr m, plR mu M c v2 v3 so pr → (∃ pd s i, plOk mu v2 v3 pd s i) → post 1 pr so m) (k0 : ∀ p q m, (∀ pd s i, ¬ plOk mu v2 v3 pd s i) → post 0 p q m) : wp_X6_playsTo_s ad rr rc M Mk (iI r) v2 v3 a1 a2 a3 post := by
  unfold wp_X6_playsTo_s
  refine sc_rollOf_s R r hR er hr rfl ⟨ha, ?_⟩
  refine sc_isPedal (fun pd hpd e2 => z10 ?_) (fun hq => z00 (k0 _ _ _ (fun pd s i h9 => ?_)))
  · refine q_lt v3.toInt 0 (fun hq => k0 _ _ _ (fun pd s i h9 => ?_)) (fun hq => ?_) (iI_of v3) rfl (iI_rng v3).1 (iI_rng v3).2
    · have := h9.2.2.2.2; omega
    · rw [e2]
      refine cl_playTo hv ht hM (by omega) (fun s i m hs hi he => z10 ?_) (fun p q hn => z00 ?_)
      · have hO : plOk mu v2 v3 pd s i := ⟨by omega, e2, hs, hi, he⟩
        exact k1 _ _ _ (Or.inl ⟨pd, s, i, hO, rfl, rfl⟩) ⟨pd, s, i, hO⟩
      · exact k0 _ _ _ (fun pd s i h9 => hn s i h9.2.2.1 h9.2.2.2.1 h9.2.2.2.2)
  · have := h9.2.1
    rw [this, tI (by have := h9.1; omega)] at hq
    have := h9.1
    omega
theorem cl_sounds {R r km : Nat} {mu : Nat → Nat} {rr : Nat → Option Nat} {ad : Nat → Nat} {rc v2 v3 mk a1 a2 a3 : Int32} {Mk M : Nat → Int32} {c : Nat → Nat} (hR : R ≤ 6) (er : rc = iI R) (hr : r < R) (ha : rr r = some (ad 0)) (hv : tpV mu) (ht : tpC mu km Mk mk) (hM : simH M c) {post : Int32 → Int32 → Int32 → Int32 → Prop} (k : ∀ so pr a b d, plR mu M c v2 v3 so pr → post so a b d) : wp_X6_sounds_s ad rr rc M Mk (iI r) v2 v3 a1 a2 a3 post := by
  unfold wp_X6_sounds_s
  refine cl_playsTo hR er hr ha hv ht hM (fun so pr m h1 h2 => z10 ?_) (fun p q m hn => z00 ?_)
  · unfold wp_X1_soundingPitches
    exact k _ _ _ _ _ h1
  · exact k _ _ _ _ _ (Or.inr ⟨hn, rfl, rfl⟩)
theorem cl_pressure {R r km : Nat} {mu : Nat → Nat} {rr : Nat → Option Nat} {ad : Nat → Nat} {rc v2 v3 mk a1 a2 a3 : Int32} {Mk M : Nat → Int32} {c : Nat → Nat} (hR : R ≤ 6) (er : rc = iI R) (hr : r < R) (ha : rr r = some (ad 0)) (hv : tpV mu) (ht : tpC mu km Mk mk) (hM : simH M c) {post : Int32 → Int32 → Int32 → Int32 → Prop} (k : ∀ so pr a b d, plR mu M c v2 v3 so pr → post pr a b d) : wp_X6_pressure_s ad rr rc M Mk (iI r) v2 v3 a1 a2 a3 post := by
  unfold wp_X6_pressure_s
  refine cl_playsTo hR er hr ha hv ht hM (fun so pr m h1 h2 => z10 ?_) (fun p q m hn => z00 ?_)
  · unfold wp_X1_pressureNow
    exact k _ _ _ _ _ h1
  · exact k _ _ _ _ _ (Or.inr ⟨hn, rfl, rfl⟩)
/-- silent -/
def silA (mu : Nat → Nat) (M : Nat → Int32) (c : Nat → Nat) (v2 : Int32) : Int32 := if 0 ≤ v2.toInt ∧ v2.toInt ≤ 20 then iI (mS v2.toInt.toNat c (tk mu) (fun s => decide (M s ≠ 0)) 300) else -1
theorem cl_silent {R r km : Nat} {mu : Nat → Nat} {rr : Nat → Option Nat} {ad : Nat → Nat} {rc v2 mk a1 a2 a3 : Int32} {Mk M : Nat → Int32} {c : Nat → Nat} (hR : R ≤ 6) (er : rc = iI R) (hr : r < R) (ha : rr r = some (ad 0)) (hv : tpV mu) (ht : tpC mu km Mk mk) (hM : simH M c) {post : Int32 → Int32 → Int32 → Int32 → Prop} (k : ∀ a b d, post (silA mu M c v2) a b d) : wp_X6_silent_s ad rr rc M Mk (iI r) v2 a1 a2 a3 post := by
  unfold silA at k
  unfold wp_X6_silent_s
  refine sc_rollOf_s R r hR er hr rfl ⟨ha, ?_⟩
  refine sc_isPedal (fun pd hpd e2 => y10 ?_) (fun hq => y00 (by rw [if_neg (by omega)] at k; exact k _ _ _))
  have t2 : v2.toInt = pd := by rw [e2, tI (by omega)]
  rw [if_pos (by omega), show v2.toInt.toNat = pd by omega] at k
  unfold wp_X1_playAll
  rw [e2]
  have tm : (-1 : Int32).toInt = -1 := by decide
  refine cl_playTo hv ht hM (by omega) (fun s i m hs hi he => absurd he (by rw [tm]; omega)) (fun p q hn => ?_)
  unfold wp_X1_mutedTicks
  exact k _ _ _
theorem mo_isTick {R r km : Nat} {mu : Nat → Nat} {rolls v2 v3 : Int32} {ma ms mt : Nat → Int32} (hR : R ≤ 6) (er : rolls = iI R) (hr : r < R) (hv : tpV mu) (ht : tpM r mu km ma ms mt) {post : Int32 → Prop} (k1 : ∀ pd s i, plOk mu v2 v3 pd s i → post 1) (k0 : (∀ pd s i, ¬ plOk mu v2 v3 pd s i) → post 0) : wp_X7_isTick rolls ma ms mt (iI r) v2 v3 post := by
  unfold wp_X7_isTick
  have ts := tkS_le hv.1 300
  refine sp_isRoll R hR er (fun _ _ _ => z10 ?_) (fun hq => absurd hq (by rw [tI (by omega)]; omega))
  refine sp_within 0 20 (fun y1 b1 b2 e2 => z10 ?_) (fun hq => z00 (k0 (fun pd s i h9 => ?_)))
  · obtain ⟨pd, hpd, e2⟩ := iI_nat b1 e2
    refine mo_allTicks (by omega) ht ?_
    refine sp_within 0 (tkS mu 300 - 1) (fun z z1 z2 ez => z10 ?_) (fun hq => z00 (k0 (fun pd s i h9 => ?_)))
    · have tz : v3.toInt = z := by rw [ez, iI_toInt (by omega) (by omega)]
      obtain ⟨s, i, h1, h2, h3⟩ := tick_at (mu := mu) (n := 300) (T := z.toNat) (by omega)
      exact k1 pd s i ⟨by omega, e2, h1, h2, by omega⟩
    · obtain ⟨h1, h2, h3, h4, h5⟩ := h9
      have := tick_lt h3 h4
      omega
  · have := h9.2.1
    rw [this, tI (by have := h9.1; omega)] at hq
    have := h9.1
    omega
theorem mo_sounds_n {R : Nat} {rolls th h1 h2 h3 v1 v2 v3 : Int32} {mp mf ml ma ms mt : Nat → Int32} (hR : R ≤ 6) (er : rolls = iI R) (hv : v1.toInt < 0 ∨ (R : Int) ≤ v1.toInt) {post : Int32 → Int32 → Int32 → Int32 → Int32 → Prop} (k : post (-1) 0 h1 h2 h3) : wp_X7_sounds rolls mp mf ml ma ms mt v1 v2 v3 th h1 h2 h3 post := by
  unfold wp_X7_sounds wp_X7_isTick
  exact sp_isRoll R hR er (fun j hj ej => absurd hv (by rw [ej, tI (by omega)]; omega)) (fun _ => z00 (y00 k))
theorem mo_pressure_n {R : Nat} {rolls th h1 h2 h3 v1 v2 v3 : Int32} {mp mf ml ma ms mt : Nat → Int32} (hR : R ≤ 6) (er : rolls = iI R) (hv : v1.toInt < 0 ∨ (R : Int) ≤ v1.toInt) {post : Int32 → Int32 → Int32 → Int32 → Int32 → Prop} (k : post (-1) 0 h1 h2 h3) : wp_X7_pressure rolls mp mf ml ma ms mt v1 v2 v3 th h1 h2 h3 post := by
  unfold wp_X7_pressure wp_X7_isTick
  exact sp_isRoll R hR er (fun j hj ej => absurd hv (by rw [ej, tI (by omega)]; omega)) (fun _ => z00 (y00 k))
theorem mo_silent_n {R : Nat} {rolls th h1 h2 h3 v1 v2 : Int32} {mp mf ml ma ms mt : Nat → Int32} (hR : R ≤ 6) (er : rolls = iI R) (hv : v1.toInt < 0 ∨ (R : Int) ≤ v1.toInt) {post : Int32 → Int32 → Int32 → Int32 → Int32 → Prop} (k : post (-1) 0 h1 h2 h3) : wp_X7_silent rolls mp mf ml ma ms mt v1 v2 th h1 h2 h3 post := by
  unfold wp_X7_silent
  exact sp_isRoll R hR er (fun j hj ej => absurd hv (by rw [ej, tI (by omega)]; omega)) (fun _ => z00 k)
theorem mo_sounds {R r n km : Nat} {nt : Nat → Nat → Nat} {mu : Nat → Nat} {rolls th h1 h2 h3 v2 v3 : Int32} {mp mf ml ma ms mt M : Nat → Int32} {c : Nat → Nat} (hR : R ≤ 6) (er : rolls = iI R) (hr : r < R) (h : moR r nt n mp mf ml) (hv : tpV mu) (ht : tpM r mu km ma ms mt) (hM : simH M c) (hN : ∀ s, s < 300 → msk (M s) (fun p => nInn nt p s)) {post : Int32 → Int32 → Int32 → Int32 → Int32 → Prop} (k : ∀ so pr a b d, plR mu M c v2 v3 so pr → post so 0 a b d) : wp_X7_sounds rolls mp mf ml ma ms mt (iI r) v2 v3 th h1 h2 h3 post := by
  unfold wp_X7_sounds
  refine mo_isTick hR er hr hv ht (fun pd s i hO => y10 ?_) (fun hn => y00 (k _ _ _ _ _ (Or.inr ⟨hn, rfl, rfl⟩)))
  obtain ⟨o1, o2, o3, o4, o5⟩ := id hO
  rw [o2]
  refine mo_plays (by omega) h hv ht hM hN o1 (fun s' i' m hs hi he => ?_) (fun p q hn => absurd o5 (hn s i o3 o4))
  exact k _ _ _ _ _ (Or.inl ⟨pd, s', i', ⟨o1, o2, hs, hi, he⟩, rfl, rfl⟩)
theorem mo_pressure {R r n km : Nat} {nt : Nat → Nat → Nat} {mu : Nat → Nat} {rolls th h1 h2 h3 v2 v3 : Int32} {mp mf ml ma ms mt M : Nat → Int32} {c : Nat → Nat} (hR : R ≤ 6) (er : rolls = iI R) (hr : r < R) (h : moR r nt n mp mf ml) (hv : tpV mu) (ht : tpM r mu km ma ms mt) (hM : simH M c) (hN : ∀ s, s < 300 → msk (M s) (fun p => nInn nt p s)) {post : Int32 → Int32 → Int32 → Int32 → Int32 → Prop} (k : ∀ so pr a b d, plR mu M c v2 v3 so pr → post pr 0 a b d) : wp_X7_pressure rolls mp mf ml ma ms mt (iI r) v2 v3 th h1 h2 h3 post := by
  unfold wp_X7_pressure
  refine mo_isTick hR er hr hv ht (fun pd s i hO => y10 ?_) (fun hn => y00 (k _ _ _ _ _ (Or.inr ⟨hn, rfl, rfl⟩)))
  obtain ⟨o1, o2, o3, o4, o5⟩ := id hO
  rw [o2]
  refine mo_plays (by omega) h hv ht hM hN o1 (fun s' i' m hs hi he => ?_) (fun p q hn => absurd o5 (hn s i o3 o4))
  exact k _ _ _ _ _ (Or.inl ⟨pd, s', i', ⟨o1, o2, hs, hi, he⟩, rfl, rfl⟩)
theorem mo_silent {R r n km : Nat} {nt : Nat → Nat → Nat} {mu : Nat → Nat} {rolls th h1 h2 h3 v2 : Int32} {mp mf ml ma ms mt M : Nat → Int32} {c : Nat → Nat} (hR : R ≤ 6) (er : rolls = iI R) (hr : r < R) (h : moR r nt n mp mf ml) (hv : tpV mu) (ht : tpM r mu km ma ms mt) (hM : simH M c) (hN : ∀ s, s < 300 → msk (M s) (fun p => nInn nt p s)) {post : Int32 → Int32 → Int32 → Int32 → Int32 → Prop} (k : ∀ a b d, post (silA mu M c v2) 0 a b d) : wp_X7_silent rolls mp mf ml ma ms mt (iI r) v2 th h1 h2 h3 post := by
  unfold silA at k
  unfold wp_X7_silent
  refine sp_isRoll R hR er (fun _ _ _ => z10 ?_) (fun hq => absurd hq (by rw [tI (by omega)]; omega))
  refine sp_within 0 20 (fun y1 b1 b2 e2 => y10 ?_) (fun hq => y00 (by rw [if_neg (by omega)] at k; exact k _ _ _))
  obtain ⟨pd, hpd, e2⟩ := iI_nat b1 e2
  have t2 : v2.toInt = pd := by rw [e2, tI (by omega)]
  rw [if_pos (by omega), show v2.toInt.toNat = pd by omega] at k
  rw [e2]
  have tm : (-1 : Int32).toInt = -1 := by decide
  refine mo_plays (by omega) h hv ht hM hN (by omega) (fun s' i' m hs hi he => absurd he (by rw [tm]; omega)) (fun p q hn => ?_)
  exact k _ _ _
