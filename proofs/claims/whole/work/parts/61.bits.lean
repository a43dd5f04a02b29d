/-! bits of an int (the first rows begun from the kit's rows to paste) -/
def bt (x : Int32) (i : Nat) : Bool := x.toBitVec.getLsbD i
theorem b_ext {x y : Int32} (h : ∀ i, i < 32 → bt x i = bt y i) : x = y := Int32.toBitVec_inj.mp (BitVec.eq_of_getLsbD_eq (fun i hi => h i hi))
theorem b_or (x y : Int32) (i : Nat) : bt (x ||| y) i = (bt x i || bt y i) := by unfold bt; rw [Int32.toBitVec_or, BitVec.getLsbD_or]
theorem b_and (x y : Int32) (i : Nat) : bt (x &&& y) i = (bt x i && bt y i) := by unfold bt; rw [Int32.toBitVec_and, BitVec.getLsbD_and]
theorem b_xor (x y : Int32) (i : Nat) : bt (x ^^^ y) i = (bt x i ^^ bt y i) := by unfold bt; rw [Int32.toBitVec_xor, BitVec.getLsbD_xor]
theorem b_m1 : ∀ i, i < 32 → bt (-1) i = true := by decide +kernel
theorem b_0 (i : Nat) : bt 0 i = false := BitVec.getLsbD_zero
theorem s_l : ∀ n, n < 32 → ((nI n &&& 31).toBitVec.smod 32).toNat = n := by decide +kernel
theorem b_shl (n : Nat) (hn : n < 32) (x : Int32) {i : Nat} (hi : i < 32) : bt (x <<< (nI n &&& 31)) i = (decide (n ≤ i) && bt x (i - n)) := by
  unfold bt
  rw [Int32.toBitVec_shiftLeft]
  show (x.toBitVec <<< ((nI n &&& 31).toBitVec.smod 32).toNat).getLsbD i = _
  rw [s_l n hn, BitVec.getLsbD_shiftLeft]
  rcases Nat.lt_or_ge i n with h | h
  · simp [h, Nat.not_le.mpr h]
  · simp [hi, h, Nat.not_lt.mpr h]
theorem b_sshr (n : Nat) (hn : n < 32) (x : Int32) {i : Nat} (hi : i < 32) : bt (x >>> (nI n &&& 31)) i = if n + i < 32 then bt x (n + i) else bt x 31 := by
  unfold bt
  rw [Int32.toBitVec_shiftRight]
  show (x.toBitVec.sshiftRight ((nI n &&& 31).toBitVec.smod 32).toNat).getLsbD i = _
  rw [s_l n hn, BitVec.getLsbD_sshiftRight, BitVec.msb_eq_getLsbD_last]
  simp [hi]
theorem b_one : ∀ i, i < 32 → bt 1 i = decide (i = 0) := by decide +kernel
theorem b_bit {p i : Nat} (hp : p < 32) (hi : i < 32) : bt (1 <<< (iI p &&& 31)) i = decide (i = p) := by
  rw [← iI_nI, b_shl p hp 1 hi, b_one _ (by omega)]
  by_cases e : i = p
  · subst e; simp
  · rw [decide_eq_false e]
    by_cases h : p ≤ i
    · rw [decide_eq_true h, decide_eq_false (by omega)]; rfl
    · rw [decide_eq_false h]; rfl
/-- a set of pitches as bits -/
def msk (x : Int32) (g : Nat → Bool) : Prop := ∀ i, i < 32 → bt x i = (decide (i < 24) && g i)
theorem msk_0 : msk 0 (fun _ => false) := fun i _ => by rw [b_0]; simp
theorem msk_cong {x : Int32} {g h : Nat → Bool} (e : ∀ i, i < 24 → g i = h i) (m : msk x g) : msk x h := by
  intro i hi
  rw [m i hi]
  by_cases q : i < 24
  · rw [e i q]
  · simp [q]
theorem msk_eq {x y : Int32} {g : Nat → Bool} (h1 : msk x g) (h2 : msk y g) : x = y := b_ext (fun i hi => by rw [h1 i hi, h2 i hi])
theorem msk_or {x : Int32} {g : Nat → Bool} (m : msk x g) {p : Nat} (hp : p < 24) : msk (x ||| (1 <<< (iI p &&& 31))) (nu g p true) := by
  intro i hi
  rw [b_or, m i hi, b_bit (by omega) hi]
  by_cases e : i = p
  · subst e; rw [nu_s]; simp [hp]
  · rw [nu_n _ _ e, decide_eq_false e, Bool.or_false]
theorem msk_clr {x : Int32} {g : Nat → Bool} (m : msk x g) {p : Nat} (hp : p < 24) : msk (x &&& ((1 <<< (iI p &&& 31)) ^^^ (-1))) (nu g p false) := by
  intro i hi
  rw [b_and, b_xor, m i hi, b_bit (by omega) hi, b_m1 i hi]
  by_cases e : i = p
  · subst e; rw [nu_s]; simp
  · rw [nu_n _ _ e, decide_eq_false e]; simp
theorem msk_tst {x : Int32} {g : Nat → Bool} (m : msk x g) {p : Nat} (hp : p < 24) : x &&& (1 <<< (iI p &&& 31)) = 0 ↔ g p = false := by
  constructor
  · intro h
    have := congrArg (fun z => bt z p) h
    simp only [b_and, b_0, m p (by omega), b_bit (show p < 32 by omega) (show p < 32 by omega)] at this
    simpa [hp] using this
  · intro h
    refine b_ext (fun i hi => ?_)
    rw [b_and, b_0, m i hi, b_bit (by omega) hi]
    by_cases e : i = p
    · subst e; simp [h]
    · simp [e]
theorem msk_sh {x : Int32} {g : Nat → Bool} (m : msk x g) {p : Nat} (hp : p < 24) : (x >>> (iI p &&& 31)) &&& 1 = 0 ↔ g p = false := by
  constructor
  · intro h
    have := congrArg (fun z => bt z 0) h
    simp only [b_and, b_0, b_one 0 (by omega)] at this
    rw [← iI_nI, b_sshr p (by omega) x (by omega), if_pos (by omega), m _ (by omega)] at this
    simpa [hp] using this
  · intro h
    refine b_ext (fun i hi => ?_)
    rw [b_and, b_0, b_one i hi]
    by_cases e : i = 0
    · subst e
      rw [← iI_nI, b_sshr p (by omega) x (by omega), if_pos (by omega), m _ (by omega)]
      simp [h]
    · simp [e]
theorem run4_4 {g : Nat → Bool} {i : Nat} (h0 : g i = true) (h1 : g (i + 1) = true) (h2 : g (i + 2) = true) (h3 : g (i + 3) = true) : 4 ≤ run4 g (i + 4) := by
  rw [run4, if_pos h3, run4, if_pos h2, run4, if_pos h1, run4, if_pos h0]
  omega
theorem run4_of {g : Nat → Bool} : ∀ {p k : Nat}, k ≤ run4 g p → k ≤ p ∧ ∀ j, j < k → g (p - 1 - j) = true
  | 0, k, h => by
    rw [run4] at h
    exact ⟨h, fun j hj => absurd hj (by omega)⟩
  | p + 1, k, h => by
    rw [run4] at h
    by_cases hg : g p = true
    · rw [if_pos hg] at h
      obtain ⟨h1, h2⟩ := run4_of (g := g) (p := p) (k := k - 1) (by omega)
      refine ⟨by omega, fun j hj => ?_⟩
      by_cases e : j = 0
      · subst e; simpa using hg
      · have := h2 (j - 1) (by omega)
        rw [show p + 1 - 1 - j = p - 1 - (j - 1) by omega]
        exact this
    · rw [if_neg hg] at h
      exact ⟨by omega, fun j hj => absurd hj (by omega)⟩
theorem msk_four {x : Int32} {g : Nat → Bool} (m : msk x g) : ((x &&& (x >>> (1 &&& 31))) &&& (x >>> (2 &&& 31))) &&& (x >>> (3 &&& 31)) = 0 ↔ ∀ p, p ≤ 24 → run4 g p < 4 := by
  have sh : ∀ (n : Nat), n < 4 → ∀ i, i < 32 → bt (x >>> (nI n &&& 31)) i = (decide (n + i < 24) && g (n + i)) := by
    intro n hn i hi
    rw [b_sshr n (by omega) x hi]
    by_cases q : n + i < 32
    · rw [if_pos q, m _ q]
    · rw [if_neg q, m 31 (by omega)]; simp; omega
  have e1 : x >>> ((1 : Int32) &&& 31) = x >>> (nI 1 &&& 31) := rfl
  have e2 : x >>> ((2 : Int32) &&& 31) = x >>> (nI 2 &&& 31) := rfl
  have e3 : x >>> ((3 : Int32) &&& 31) = x >>> (nI 3 &&& 31) := rfl
  rw [e1, e2, e3]
  constructor
  · intro h p hp
    rcases Nat.lt_or_ge (run4 g p) 4 with q | q
    · exact q
    · exfalso
      obtain ⟨h1, h2⟩ := run4_of (g := g) (p := p) (k := 4) q
      have := congrArg (fun z => bt z (p - 4)) h
      simp only [b_and, b_0, m (p - 4) (by omega), sh 1 (by omega) (p - 4) (by omega), sh 2 (by omega) (p - 4) (by omega), sh 3 (by omega) (p - 4) (by omega)] at this
      have g0 := h2 3 (by omega)
      have g1 := h2 2 (by omega)
      have g2 := h2 1 (by omega)
      have g3 := h2 0 (by omega)
      rw [show p - 1 - 3 = p - 4 by omega] at g0
      rw [show p - 1 - 2 = 1 + (p - 4) by omega] at g1
      rw [show p - 1 - 1 = 2 + (p - 4) by omega] at g2
      rw [show p - 1 - 0 = 3 + (p - 4) by omega] at g3
      rw [g0, g1, g2, g3, decide_eq_true (show p - 4 < 24 by omega), decide_eq_true (show 1 + (p - 4) < 24 by omega), decide_eq_true (show 2 + (p - 4) < 24 by omega), decide_eq_true (show 3 + (p - 4) < 24 by omega)] at this
      cases this
  · intro h
    refine b_ext (fun i hi => ?_)
    rw [b_and, b_and, b_and, b_0, m i hi, sh 1 (by omega) i hi, sh 2 (by omega) i hi, sh 3 (by omega) i hi]
    rcases Nat.lt_or_ge (i + 3) 24 with q | q
    · rw [Bool.eq_false_iff]
      intro hq
      simp only [Bool.and_eq_true, decide_eq_true_eq] at hq
      have := h (i + 4) (by omega)
      have := run4_4 (g := g) (i := i) hq.1.1.1.2 (by rw [Nat.add_comm]; exact hq.1.1.2.2) (by rw [Nat.add_comm]; exact hq.1.2.2) (by rw [Nat.add_comm]; exact hq.2.2)
      omega
    · rw [decide_eq_false (show ¬ 3 + i < 24 by omega)]; simp
