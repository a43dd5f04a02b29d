/-! the player: pd the pedal, c the number of pitches of a step, pr the pressure -/
def nxt (pd c pr : Nat) : Nat := if 100 < pr + pd - (if pr < 8 then 0 else c) then 100 else pr + pd - (if pr < 8 then 0 else c)
theorem nxt_le (pd c pr : Nat) : nxt pd c pr ≤ 100 := by
  unfold nxt
  generalize pr + pd - (if pr < 8 then 0 else c) = x
  split <;> omega
def pI (pd c pr : Nat) : Nat → Nat
  | 0 => pr
  | i + 1 => nxt pd c (pI pd c pr i)
def pS (pd : Nat) (c t : Nat → Nat) : Nat → Nat
  | 0 => 50
  | s + 1 => pI pd (c s) (pS pd c t s) (t s)
theorem pI_le {pd c pr : Nat} (h : pr ≤ 100) : ∀ i, pI pd c pr i ≤ 100
  | 0 => h
  | i + 1 => nxt_le _ _ _
theorem pS_le {pd : Nat} {c t : Nat → Nat} : ∀ s, pS pd c t s ≤ 100
  | 0 => by simp [pS]
  | s + 1 => pI_le (pS_le s) _
/-- silent ticks: of a step, of all -/
def mI (pd c pr : Nat) (z : Bool) : Nat → Nat
  | 0 => 0
  | i + 1 => mI pd c pr z i + (if pI pd c pr i < 8 ∧ z = true then 1 else 0)
def mS (pd : Nat) (c t : Nat → Nat) (z : Nat → Bool) : Nat → Nat
  | 0 => 0
  | s + 1 => mS pd c t z s + mI pd (c s) (pS pd c t s) (z s) (t s)
theorem mI_le {pd c pr : Nat} {z : Bool} : ∀ i, mI pd c pr z i ≤ i
  | 0 => Nat.le_refl _
  | i + 1 => by
    have := mI_le (pd := pd) (c := c) (pr := pr) (z := z) i
    rw [mI]
    split <;> omega
theorem mS_le {pd : Nat} {c : Nat → Nat} {mu : Nat → Nat} {z : Nat → Bool} : ∀ s, mS pd c (tk mu) z s ≤ tkS mu s
  | 0 => by simp [mS, tkS]
  | s + 1 => by
    have := mS_le (pd := pd) (c := c) (mu := mu) (z := z) s
    have := mI_le (pd := pd) (c := c s) (pr := pS pd c (tk mu) s) (z := z s) (tk mu s)
    rw [mS, tkS]
    omega
/-- what sounds -/
def snd (M : Int32) (pr : Nat) : Int32 := if pr < 8 then 0 else M
theorem msk_c0 {M : Int32} {g : Nat → Bool} (m : msk M g) (h : M = 0) : ct g 24 = 0 := by
  have : ∀ k, k < 24 → g k = false := fun k hk => by
    have := m k (by omega)
    rw [h, b_0, decide_eq_true hk, Bool.true_and] at this
    exact this.symm
  have e : ct g 24 = ct (fun _ => false) 24 := ct_cong this
  rw [e]
  rfl
/-- the masks of the steps, and how many pitches each has -/
def simH (M : Nat → Int32) (c : Nat → Nat) : Prop := ∀ s, s < 300 → ∃ g, msk (M s) g ∧ c s = ct g 24
theorem snd_cnt {M : Nat → Int32} {c : Nat → Nat} (h : simH M c) {s : Nat} (hs : s < 300) (pr : Nat) {post : Int32 → Prop} (k : post (iI (if pr < 8 then 0 else c s : Nat))) : wp_J6_bitCount_0f7a4 (snd (M s) pr) post := by
  obtain ⟨g, g1, g2⟩ := h s hs
  unfold snd
  by_cases q : pr < 8
  · rw [if_pos q]
    rw [if_pos q] at k
    exact bitCount_ok msk_0 k
  · rw [if_neg q]
    rw [if_neg q, g2] at k
    exact bitCount_ok g1 k
theorem simH_le {M : Nat → Int32} {c : Nat → Nat} (h : simH M c) {s : Nat} (hs : s < 300) : c s ≤ 24 := by
  obtain ⟨g, g1, g2⟩ := h s hs
  rw [g2]
  exact ct_le _ _
theorem cl_playTo {mu : Nat → Nat} {km : Nat} {Mk M : Nat → Int32} {mk : Int32} {c : Nat → Nat} (hv : tpV mu) (ht : tpC mu km Mk mk) (hM : simH M c) {pd : Nat} (hpd : pd ≤ 20) {v3 a1 a2 a3 : Int32} {post : Int32 → Int32 → Int32 → Int32 → Prop} (kt : ∀ s i m, s < 300 → i < tk mu s → ((tkS mu s + i : Nat) : Int) = v3.toInt → post 1 (iI (pI pd (c s) (pS pd c (tk mu) s) i)) (snd (M s) (pI pd (c s) (pS pd c (tk mu) s) i)) m) (kf : ∀ p q, (∀ s i, s < 300 → i < tk mu s → ((tkS mu s + i : Nat) : Int) ≠ v3.toInt) → post 0 p q (iI (mS pd c (tk mu) (fun s => decide (M s ≠ 0)) 300))) : wp_X1_playTo M Mk (iI pd) v3 a1 a2 a3 post := by
  unfold wp_X1_playTo
  have hr3 := iI_rng v3
  have key : ∀ (j s : Nat) (v5 so : Int32), s + j = 300 → (s ≠ 0 → v5 = iI (tk mu (s - 1))) → (∀ x i, x < s → i < tk mu x → ((tkS mu x + i : Nat) : Int) ≠ v3.toInt) → wl_X1_playTo_20 M Mk (iI pd) v3 post (j + 1) (iI (tkS mu s)) v5 (iI s) (iI (pS pd c (tk mu) s)) so (iI (mS pd c (tk mu) (fun s => decide (M s ≠ 0)) s)) := by
    intro j
    induction j with
    | zero =>
      intro s v5 so hs _ hx
      have e : s = 300 := by omega
      subst e
      rw [wl_X1_playTo_20]
      exact q_le 300 300 (fun _ => kf _ _ hx) (fun hq => absurd hq (by omega))
    | succ j ih =>
      intro s v5 so hs e5 hx
      have t9 := tk_le hv.1 s
      have ts := tkS_le hv.1 s
      have hc := simH_le hM (show s < 300 by omega)
      have hm := mS_le (pd := pd) (c := c) (mu := mu) (z := fun s => decide (M s ≠ 0)) s
      rw [wl_X1_playTo_20]
      refine q_le 300 s (fun hq => absurd hq (by omega)) (fun _ => ?_)
      refine cl_ticksOf hv ht (by omega) rfl e5 ?_
      unfold wp_X4_pitchesIn
      refine q_in s ?_
      rw [q_cl s]
      have inner : ∀ (y i : Nat) (so : Int32), i + y = tk mu s → (∀ w, w < i → ((tkS mu s + w : Nat) : Int) ≠ v3.toInt) → wl_X1_playTo_49 M Mk (iI pd) v3 post (wl_X1_playTo_20 M Mk (iI pd) v3 post (j + 1)) (y + 1) (iI ((tkS mu s + i : Nat) : Int)) (iI (tk mu s)) (iI s) (M s) (iI i) (iI (pI pd (c s) (pS pd c (tk mu) s) i)) so (iI ((mS pd c (tk mu) (fun s => decide (M s ≠ 0)) s + mI pd (c s) (pS pd c (tk mu) s) (decide (M s ≠ 0)) i : Nat) : Int)) := by
        intro y
        induction y with
        | zero =>
          intro i so hi hw
          have e : i = tk mu s := by omega
          subst e
          rw [wl_X1_playTo_49]
          refine q_le (tk mu s) (tk mu s) (fun _ => ?_) (fun hq => absurd hq (by omega))
          rw [show iI (s : Int) + 1 = iI ((s + 1 : Nat) : Int) by simp only [iI_lit, iI_add]; exact iI_c (by omega)]
          refine ih (s + 1) _ so (by omega) (fun _ => rfl) (fun x w hx1 hw1 => ?_)
          rcases Nat.lt_or_ge x s with q | q
          · exact hx x w q hw1
          · rw [show x = s by omega] at hw1 ⊢; exact hw w hw1
        | succ y ihy =>
          intro i so hi hw
          have hpr := pI_le (pd := pd) (c := c s) (pS_le (pd := pd) (c := c) (t := tk mu) s) i
          have hmi := mI_le (pd := pd) (c := c s) (pr := pS pd c (tk mu) s) (z := decide (M s ≠ 0)) i
          have hnx : pI pd (c s) (pS pd c (tk mu) s) (i + 1) = nxt pd (c s) (pI pd (c s) (pS pd c (tk mu) s) i) := rfl
          have hmx : mI pd (c s) (pS pd c (tk mu) s) (decide (M s ≠ 0)) (i + 1) = mI pd (c s) (pS pd c (tk mu) s) (decide (M s ≠ 0)) i + (if pI pd (c s) (pS pd c (tk mu) s) i < 8 ∧ decide (M s ≠ 0) = true then 1 else 0) := rfl
          have kt := kt s i
          generalize hpi : pI pd (c s) (pS pd c (tk mu) s) i = pr at *
          generalize hmi9 : mI pd (c s) (pS pd c (tk mu) s) (decide (M s ≠ 0)) i = mm at *
          have f72 : wl_X1_playTo_72 M Mk (iI pd) v3 post (wl_X1_playTo_20 M Mk (iI pd) v3 post (j + 1)) (wl_X1_playTo_49 M Mk (iI pd) v3 post (wl_X1_playTo_20 M Mk (iI pd) v3 post (j + 1)) (y + 1)) (iI ((tkS mu s + i : Nat) : Int)) (iI (tk mu s)) (iI s) (M s) (iI i) (snd (M s) pr) (iI pr) so (iI ((mS pd c (tk mu) (fun s => decide (M s ≠ 0)) s + mm : Nat) : Int)) := by
            unfold wl_X1_playTo_72
            refine q_ne (tkS mu s + i : Nat) v3.toInt (fun hq => ?_) (fun hq => kt _ (by omega) (by omega) hq) rfl (iI_of v3)
            have f102 : ∀ m9 : Int32, m9 = iI ((mS pd c (tk mu) (fun s => decide (M s ≠ 0)) s + mI pd (c s) (pS pd c (tk mu) s) (decide (M s ≠ 0)) (i + 1) : Nat) : Int) → wl_X1_playTo_102 M Mk (iI pd) v3 post (wl_X1_playTo_20 M Mk (iI pd) v3 post (j + 1)) (wl_X1_playTo_49 M Mk (iI pd) v3 post (wl_X1_playTo_20 M Mk (iI pd) v3 post (j + 1)) (y + 1)) (iI ((tkS mu s + i : Nat) : Int)) (iI (tk mu s)) (iI s) (M s) (iI i) (iI pr) (snd (M s) pr) m9 := by
              intro m9 em9
              unfold wl_X1_playTo_102
              refine snd_cnt hM (by omega) pr ?_
              rintro z4 rfl z5 rfl z6 rfl
              have hc9 : (if pr < 8 then 0 else c s : Nat) ≤ 24 := by split <;> omega
              have e9 : nxt pd (c s) pr = if 100 < pr + pd - (if pr < 8 then 0 else c s) then 100 else pr + pd - (if pr < 8 then 0 else c s) := rfl
              generalize (if pr < 8 then 0 else c s : Nat) = cc at hc9 e9 ⊢
              have ez : (if (0 : Int32) < (if iI (pr : Int) + iI (pd : Int) - iI (cc : Int) < 100 then iI (pr : Int) + iI (pd : Int) - iI (cc : Int) else 100) then (if iI (pr : Int) + iI (pd : Int) - iI (cc : Int) < 100 then iI (pr : Int) + iI (pd : Int) - iI (cc : Int) else 100) else 0) = iI (nxt pd (c s) pr) := by
                rw [iI_add, iI_sub, show (100 : Int32) = iI 100 from rfl, show (0 : Int32) = iI 0 from rfl, e9]
                by_cases q1 : (pr : Int) + pd - cc < 100
                · rw [if_pos ((iI_lt (by omega) (by omega) (by omega) (by omega)).mpr q1)]
                  by_cases q2 : (0 : Int) < pr + pd - cc
                  · rw [if_pos ((iI_lt (by omega) (by omega) (by omega) (by omega)).mpr q2), if_neg (by omega)]
                    exact iI_c (by omega)
                  · rw [if_neg (fun h9 => q2 ((iI_lt (by omega) (by omega) (by omega) (by omega)).mp h9)), if_neg (by omega)]
                    exact iI_c (by omega)
                · rw [if_neg (fun h9 => q1 ((iI_lt (by omega) (by omega) (by omega) (by omega)).mp h9)), if_pos ((iI_lt (by omega) (by omega) (by omega) (by omega)).mpr (by omega))]
                  by_cases q3 : 100 < pr + pd - cc
                  · rw [if_pos q3]; rfl
                  · rw [if_neg q3]; exact iI_c (by omega)
              rw [ez, ← hnx, em9, show iI ((tkS mu s + i : Nat) : Int) + 1 = iI ((tkS mu s + (i + 1) : Nat) : Int) by simp only [iI_lit, iI_add]; exact iI_c (by omega), show iI (i : Int) + 1 = iI ((i + 1 : Nat) : Int) by simp only [iI_lit, iI_add]; exact iI_c (by omega)]
              refine ihy (i + 1) _ (by omega) (fun w hw1 => ?_)
              rcases Nat.lt_or_ge w i with q | q
              · exact hw w q
              · rw [show w = i by omega]; exact hq
            refine ⟨fun hq2 => f102 _ ?_, fun hq2 => f102 _ ?_⟩
            · rw [hmx, if_neg]
              · rfl
              · rintro ⟨h8, hz⟩
                have hz := of_decide_eq_true hz
                unfold snd at hq2
                rw [if_pos h8] at hq2
                exact hz hq2.symm
            · rw [hmx, if_pos]
              · simp only [iI_lit, iI_add]; exact iI_c (by omega)
              · unfold snd at hq2
                by_cases h8 : pr < 8
                · rw [if_pos h8] at hq2
                  exact ⟨h8, decide_eq_true (fun h9 => hq2 h9.symm)⟩
                · rw [if_neg h8] at hq2
                  exact absurd rfl hq2
          rw [wl_X1_playTo_49]
          refine q_le (tk mu s) i (fun hq => absurd hq (by omega)) (fun _ => ?_)
          refine q_lt pr 8 (fun hq => ?_) (fun hq => ?_)
          · rw [show snd (M s) pr = 0 by unfold snd; rw [if_pos (by omega)]] at f72; exact f72
          · rw [show snd (M s) pr = M s by unfold snd; rw [if_neg (by omega)]] at f72; exact f72
      exact ⟨tk mu s + 1, inner (tk mu s) 0 so (by omega) (fun w hw => absurd hw (by omega))⟩
  exact ⟨301, key 300 0 _ _ (by omega) (fun h9 => absurd rfl h9) (fun x i hx => absurd hx (by omega))⟩
