/-! a roll's notes: nt p f is the length of the note of pitch p that begins at step f, 0 without one -/
def setN (nt : Nat → Nat → Nat) (p a l : Nat) : Nat → Nat → Nat := fun q f => if q = p ∧ f = a then l else nt q f
theorem setN_s (nt : Nat → Nat → Nat) (p a l : Nat) : setN nt p a l p a = l := by simp [setN]
theorem setN_n (nt : Nat → Nat → Nat) {p a q f : Nat} (l : Nat) (h : ¬ (q = p ∧ f = a)) : setN nt p a l q f = nt q f := by simp only [setN, if_neg h]
theorem setN_back {nt : Nat → Nat → Nat} {p a l : Nat} (h : nt p a = l) (m : Nat) : setN (setN nt p a m) p a l = nt := by
  funext q f
  by_cases e : q = p ∧ f = a
  · rw [e.1, e.2, setN_s, h]
  · rw [setN_n _ _ e, setN_n _ _ e]
def nInn (nt : Nat → Nat → Nat) (p s : Nat) : Bool := (List.range (s + 1)).any (fun f => decide (s < f + nt p f))
def nPun (nt : Nat → Nat → Nat) (p s : Nat) : Bool := (List.range (s + 1)).any (fun f => spu f (nt p f) s)
theorem nInn_iff {nt : Nat → Nat → Nat} {p s : Nat} : nInn nt p s = true ↔ ∃ f, f ≤ s ∧ s < f + nt p f := by
  unfold nInn
  rw [List.any_eq_true]
  constructor
  · rintro ⟨f, h1, h2⟩
    have := List.mem_range.mp h1
    exact ⟨f, by omega, of_decide_eq_true h2⟩
  · rintro ⟨f, h1, h2⟩
    exact ⟨f, List.mem_range.mpr (by omega), decide_eq_true h2⟩
theorem nPun_iff {nt : Nat → Nat → Nat} {p s : Nat} : nPun nt p s = true ↔ ∃ f, spu f (nt p f) s = true := by
  unfold nPun
  rw [List.any_eq_true]
  constructor
  · rintro ⟨f, h1, h2⟩
    exact ⟨f, h2⟩
  · rintro ⟨f, h1⟩
    have := (of_decide_eq_true h1).1
    exact ⟨f, List.mem_range.mpr (by omega), h1⟩
theorem nInn_set {nt : Nat → Nat → Nat} {p a l : Nat} (h : nt p a = 0) (q s : Nat) : nInn (setN nt p a l) q s = (nInn nt q s || decide (q = p ∧ a ≤ s ∧ s < a + l)) := by
  rw [Bool.eq_iff_iff, Bool.or_eq_true, nInn_iff, nInn_iff, decide_eq_true_iff]
  constructor
  · rintro ⟨f, h1, h2⟩
    by_cases e : q = p ∧ f = a
    · rw [e.1, e.2, setN_s] at h2
      exact Or.inr ⟨e.1, by omega, by omega⟩
    · rw [setN_n _ _ e] at h2
      exact Or.inl ⟨f, h1, h2⟩
  · rintro (⟨f, h1, h2⟩ | ⟨e, h1, h2⟩)
    · refine ⟨f, h1, ?_⟩
      rw [setN_n _ _ (by rintro ⟨e1, e2⟩; rw [e1, e2, h] at h2; omega)]
      exact h2
    · exact ⟨a, h1, by rw [e, setN_s]; exact h2⟩
theorem nPun_set {nt : Nat → Nat → Nat} {p a l : Nat} (h : nt p a = 0) (q s : Nat) : nPun (setN nt p a l) q s = (nPun nt q s || (decide (q = p) && spu a l s)) := by
  rw [Bool.eq_iff_iff, Bool.or_eq_true, nPun_iff, nPun_iff, Bool.and_eq_true, decide_eq_true_iff]
  constructor
  · rintro ⟨f, h1⟩
    by_cases e : q = p ∧ f = a
    · rw [e.1, e.2, setN_s] at h1
      exact Or.inr ⟨e.1, h1⟩
    · rw [setN_n _ _ e] at h1
      exact Or.inl ⟨f, h1⟩
  · rintro (⟨f, h1⟩ | ⟨e, h1⟩)
    · refine ⟨f, ?_⟩
      rw [setN_n _ _ (by
        rintro ⟨e1, e2⟩
        rw [e1, e2, h] at h1
        have := of_decide_eq_true h1
        omega)]
      exact h1
    · exact ⟨a, by rw [e, setN_s]; exact h1⟩
theorem nPun_inn {nt : Nat → Nat → Nat} {p s : Nat} (h : nPun nt p s = true) : nInn nt p s = true := by
  obtain ⟨f, h1⟩ := nPun_iff.mp h
  have := of_decide_eq_true h1
  exact nInn_iff.mpr ⟨f, this.1, this.2.1⟩
def nearN (nt : Nat → Nat → Nat) (p a l : Nat) : Prop := ∃ f, 0 < nt p f ∧ a < f + nt p f + 1 ∧ f < a + l + 1
theorem near_0 {nt : Nat → Nat → Nat} {p a l : Nat} (h : ¬ nearN nt p a l) : nt p a = 0 := by
  rcases Nat.eq_zero_or_pos (nt p a) with q | q
  · exact q
  · exact absurd ⟨a, q, by omega, by omega⟩ h
theorem near_inn {nt : Nat → Nat → Nat} {p a l s : Nat} (h : ¬ nearN nt p a l) (h1 : a ≤ s) (h2 : s < a + l) : nInn nt p s = false := by
  rw [Bool.eq_false_iff]
  intro hq
  obtain ⟨f, q1, q2⟩ := nInn_iff.mp hq
  exact h ⟨f, by omega, by omega, by omega⟩
theorem near_pun {nt : Nat → Nat → Nat} {p a l s : Nat} (h : ¬ nearN nt p a l) (h1 : a ≤ s) (h2 : s < a + l) : nPun nt p s = false := by
  rw [Bool.eq_false_iff]
  intro hq
  have := nPun_inn hq
  rw [near_inn h h1 h2] at this
  cases this
def nV (nt : Nat → Nat → Nat) : Prop := (∀ p f, 0 < nt p f → p < 24 ∧ nt p f ≤ 60 ∧ f + nt p f ≤ 300) ∧ (∀ p f f', 0 < nt p f → 0 < nt p f' → f < f' → f + nt p f < f') ∧ (∀ s, s < 300 → bearsAt (fun p => nPun nt p s))
def bornN (nt : Nat → Nat → Nat) (p a l : Nat) : Prop := ∀ s, a ≤ s → s ≤ a + l - 1 → bearsAt (fun q => nPun (setN nt p a l) q s)
theorem run4_mono {g h : Nat → Bool} : ∀ {n : Nat}, (∀ k, k < n → g k = true → h k = true) → run4 g n ≤ run4 h n
  | 0, _ => Nat.le_refl _
  | n + 1, e => by
    have ih := run4_mono (g := g) (h := h) (n := n) (fun k hk => e k (by omega))
    rw [run4, run4]
    by_cases q : g n = true
    · rw [if_pos q, if_pos (e n (by omega) q)]; omega
    · rw [if_neg q]; omega
theorem ct_mono {g h : Nat → Bool} : ∀ {n : Nat}, (∀ k, k < n → g k = true → h k = true) → ct g n ≤ ct h n
  | 0, _ => Nat.le_refl _
  | n + 1, e => by
    have ih := ct_mono (g := g) (h := h) (n := n) (fun k hk => e k (by omega))
    rw [ct, ct]
    by_cases q : g n = true
    · rw [if_pos q, if_pos (e n (by omega) q)]; omega
    · rw [if_neg q]; omega
theorem bearsAt_mono {g h : Nat → Bool} (e : ∀ k, k < 24 → g k = true → h k = true) (hb : bearsAt h) : bearsAt g :=
  ⟨fun p hp => Nat.lt_of_le_of_lt (run4_mono (fun k hk => e k (by omega))) (hb.1 p hp), Nat.le_trans (ct_mono e) hb.2⟩
theorem nV_set {nt : Nat → Nat → Nat} (hv : nV nt) {p a l : Nat} (hp : p < 24) (h1 : 1 ≤ l) (h2 : l ≤ 60) (h3 : a + l ≤ 300) (hn : ¬ nearN nt p a l) (hb : bornN nt p a l) : nV (setN nt p a l) := by
  obtain ⟨v1, v2, v3⟩ := hv
  have h0 := near_0 hn
  refine ⟨fun q f hq => ?_, fun q f f' hf hf' hlt => ?_, fun s hs => ?_⟩
  · by_cases e : q = p ∧ f = a
    · rw [e.1, e.2, setN_s]; exact ⟨hp, h2, h3⟩
    · rw [setN_n _ _ e] at hq ⊢; exact v1 q f hq
  · by_cases e : q = p ∧ f = a
    · have e2 : ¬ (q = p ∧ f' = a) := by omega
      rw [setN_n _ _ e2] at hf'
      rw [e.1, e.2, setN_s]
      rw [e.1] at hf'
      rcases Nat.lt_or_ge (a + l) f' with q9 | q9
      · omega
      · exact absurd ⟨f', hf', by omega, by omega⟩ hn
    · rw [setN_n _ _ e] at hf ⊢
      by_cases e2 : q = p ∧ f' = a
      · rw [e2.1] at hf ⊢
        rw [e2.2]
        rcases Nat.lt_or_ge (f + nt p f) a with q9 | q9
        · exact q9
        · exact absurd ⟨f, hf, by omega, by omega⟩ hn
      · rw [setN_n _ _ e2] at hf'
        exact v2 q f f' hf hf' hlt
  · by_cases e : a ≤ s ∧ s < a + l
    · exact hb s e.1 (by omega)
    · refine bearsAt_cong (fun q hq => ?_) (v3 s hs)
      rw [nPun_set h0, show spu a l s = false from decide_eq_false (by omega)]
      simp
theorem nV_clr {nt : Nat → Nat → Nat} (hv : nV nt) (p a : Nat) : nV (setN nt p a 0) := by
  obtain ⟨v1, v2, v3⟩ := hv
  have le : ∀ q f, 0 < setN nt p a 0 q f → setN nt p a 0 q f = nt q f := by
    intro q f h
    by_cases e : q = p ∧ f = a
    · rw [e.1, e.2, setN_s] at h; omega
    · rw [setN_n _ _ e]
  refine ⟨fun q f hq => ?_, fun q f f' hf hf' hlt => ?_, fun s hs => ?_⟩
  · have e := le q f hq
    rw [e] at hq ⊢
    exact v1 q f hq
  · have e := le q f hf
    have e2 := le q f' hf'
    rw [e] at hf ⊢
    rw [e2] at hf'
    exact v2 q f f' hf hf' hlt
  · refine bearsAt_mono (fun k hk hq => ?_) (v3 s hs)
    obtain ⟨f, h1⟩ := nPun_iff.mp hq
    refine nPun_iff.mpr ⟨f, ?_⟩
    have := of_decide_eq_true h1
    rw [← le k f (by omega)]
    exact h1
/-- a note that is there isn't near to the others of its pitch -/
theorem near_clr {nt : Nat → Nat → Nat} (hv : nV nt) {p a : Nat} (h : 0 < nt p a) : ¬ nearN (setN nt p a 0) p a (nt p a) := by
  rintro ⟨f, h1, h2, h3⟩
  have e : ¬ (p = p ∧ f = a) := by
    rintro ⟨-, e⟩
    rw [e, setN_s] at h1
    omega
  rw [setN_n _ _ e] at h1 h2
  rcases Nat.lt_trichotomy f a with q | q | q
  · have := hv.2.1 p f a h1 h q; omega
  · exact e ⟨rfl, q⟩
  · have := hv.2.1 p a f h h1 q; omega
theorem born_back {nt : Nat → Nat → Nat} (hv : nV nt) {p a : Nat} (h : 0 < nt p a) : bornN (setN nt p a 0) p a (nt p a) := by
  intro s h1 h2
  rw [setN_back rfl]
  have := hv.1 p a h
  exact hv.2.2 s (by omega)
