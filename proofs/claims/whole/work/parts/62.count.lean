/-! Integer.bitCount of a set of pitches: byte by byte -/
theorem nx_and (a b : Nat) : nI a &&& nI b = nI (a &&& b) := by
  apply Int32.toBitVec_inj.1
  show BitVec.ofNat 32 a &&& BitVec.ofNat 32 b = BitVec.ofNat 32 (a &&& b)
  apply BitVec.eq_of_getLsbD_eq
  intro i hi
  simp [hi]
theorem dg_and {a u m v : Nat} (ha : a < 256) (hu : u < 256) : (256 * m + a) &&& (256 * v + u) = 256 * (m &&& v) + (a &&& u) := by
  have hau : a &&& u < 2 ^ 8 := Nat.and_lt_two_pow a (show u < 2 ^ 8 by omega)
  apply Nat.eq_of_testBit_eq
  intro j
  rw [Nat.testBit_and]
  have h1 := Nat.testBit_two_pow_mul_add m (b := a) (i := 8) (by omega) j
  have h2 := Nat.testBit_two_pow_mul_add v (b := u) (i := 8) (by omega) j
  have h3 := Nat.testBit_two_pow_mul_add (m &&& v) (b := a &&& u) (i := 8) hau j
  rw [show (256 : Nat) = 2 ^ 8 from rfl, h1, h2, h3]
  split
  · rw [Nat.testBit_and]
  · rw [Nat.testBit_and]
def c1 (a : Nat) : Nat := a / 2 &&& 85
def c2 (a : Nat) : Nat := a - c1 a
def c3 (a : Nat) : Nat := (c2 a &&& 51) + (c2 a / 4 &&& 51)
def c5 (a : Nat) : Nat := (c3 a + c3 a / 16) % 16
theorem c_1 : ∀ a, a < 256 → c1 a ≤ a ∧ c1 a < 128 ∧ (a / 2 + 128) &&& 85 = c1 a := by decide +kernel
theorem c_2 : ∀ a, a < 256 → ∀ t, t < 4 → (a / 4 + 64 * t) &&& 51 = a / 4 &&& 51 := by decide +kernel
theorem c_3 : ∀ a, a < 256 → c3 a ≤ 68 ∧ c3 a % 16 ≤ 4 ∧ (c2 a &&& 51) < 256 ∧ (c2 a / 4 &&& 51) < 256 := by decide +kernel
theorem c_5 : ∀ a, a < 256 → c5 a = ct (fun i => a.testBit i) 8 := by decide +kernel
theorem c_6 : ∀ x, x < 256 → x &&& 15 = x % 16 := by decide +kernel
theorem c_1t {a t : Nat} (ha : a < 256) (ht : t < 2) : (a / 2 + 128 * t) &&& 85 = c1 a := by
  rcases (show t = 0 ∨ t = 1 by omega) with rfl | rfl
  · rfl
  · exact (c_1 a ha).2.2
/-- the count, of the bytes a, b, c -/
theorem cnt_nat {a b c : Nat} (ha : a < 256) (hb : b < 256) (hc : c < 256) : ∀ (N z1 z2 z3 z4 z5 z6 z7 : Nat), N = 256 * (256 * c + b) + a → z1 = N / 2 &&& 1431655765 → z2 = (N - z1) / 4 &&& 858993459 → z3 = ((N - z1) &&& 858993459) + z2 → z4 = z3 + z3 / 16 → z5 = z4 &&& 252645135 → z6 = z5 + z5 / 256 → z7 = z6 + z6 / 65536 → z1 ≤ N ∧ N < 16777216 ∧ z2 < 16777216 ∧ z3 < 16777216 ∧ z4 < 33554432 ∧ z5 < 16777216 ∧ z6 < 33554432 ∧ z7 < 33554432 ∧ z7 % 64 = c5 a + c5 b + c5 c := by
  intro N z1 z2 z3 z4 z5 z6 z7 hN h1 h2 h3 h4 h5 h6 h7
  obtain ⟨p1, p2, -⟩ := c_1 a ha
  obtain ⟨p3, p4, -⟩ := c_1 b hb
  obtain ⟨p5, p6, -⟩ := c_1 c hc
  obtain ⟨r1, r2, r3, r4⟩ := c_3 a ha
  obtain ⟨r5, r6, r7, r8⟩ := c_3 b hb
  obtain ⟨r9, r10, r11, r12⟩ := c_3 c hc
  have e1 : z1 = 256 * (256 * c1 c + c1 b) + c1 a := by
    rw [h1, show N / 2 = 256 * (256 * (c / 2) + (b / 2 + 128 * (c % 2))) + (a / 2 + 128 * (b % 2)) by omega, show (1431655765 : Nat) = 256 * (256 * 21845 + 85) + 85 by omega, dg_and (by omega) (by omega), dg_and (by omega) (by omega), c_1t ha (by omega), c_1t hb (by omega)]
    have : c / 2 &&& 21845 = c1 c := by
      have := dg_and (a := c / 2) (u := 85) (m := 0) (v := 85) (by omega) (by omega)
      simp only [Nat.mul_zero, Nat.zero_add, Nat.zero_and] at this
      exact this
    rw [this]
  have d : ∀ x, c2 x = x - c1 x := fun _ => rfl
  have e0 : N - z1 = 256 * (256 * c2 c + c2 b) + c2 a := by
    rw [hN, e1, d, d, d]; omega
  have q1 : c2 a < 256 := by rw [d]; omega
  have q2 : c2 b < 256 := by rw [d]; omega
  have q3 : c2 c < 256 := by rw [d]; omega
  have e51 : ∀ x, x < 256 → x &&& 13107 = x &&& 51 := fun x hx => by
    have := dg_and (a := x) (u := 51) (m := 0) (v := 51) hx (by omega)
    simp only [Nat.mul_zero, Nat.zero_add, Nat.zero_and] at this
    exact this
  have e2 : z2 = 256 * (256 * (c2 c / 4 &&& 51) + (c2 b / 4 &&& 51)) + (c2 a / 4 &&& 51) := by
    rw [h2, e0, show (256 * (256 * c2 c + c2 b) + c2 a) / 4 = 256 * (256 * (c2 c / 4) + (c2 b / 4 + 64 * (c2 c % 4))) + (c2 a / 4 + 64 * (c2 b % 4)) by omega, show (858993459 : Nat) = 256 * (256 * 13107 + 51) + 51 by omega, dg_and (by omega) (by omega), dg_and (by omega) (by omega), c_2 _ q1 _ (by omega), c_2 _ q2 _ (by omega), e51 _ (by omega)]
  have e3 : z3 = 256 * (256 * c3 c + c3 b) + c3 a := by
    rw [h3, e0, e2, show (858993459 : Nat) = 256 * (256 * 13107 + 51) + 51 by omega, dg_and q1 (by omega), dg_and q2 (by omega), e51 _ q3]
    show _ = 256 * (256 * ((c2 c &&& 51) + (c2 c / 4 &&& 51)) + ((c2 b &&& 51) + (c2 b / 4 &&& 51))) + ((c2 a &&& 51) + (c2 a / 4 &&& 51))
    omega
  have e4 : z4 = 256 * (256 * (c3 c + c3 c / 16) + (c3 b + c3 b / 16 + 16 * (c3 c % 16))) + (c3 a + c3 a / 16 + 16 * (c3 b % 16)) := by
    rw [h4, e3]; omega
  have w : ∀ x t, x < 256 → x + 16 * t < 256 → (x + 16 * t) &&& 15 = x % 16 := fun x t hx hxt => by
    rw [c_6 _ hxt]; omega
  have e15 : ∀ x, x < 256 → x &&& 3855 = x % 16 := fun x hx => by
    have := dg_and (a := x) (u := 15) (m := 0) (v := 15) hx (by omega)
    simp only [Nat.mul_zero, Nat.zero_add, Nat.zero_and] at this
    rw [← c_6 x hx]
    exact this
  have e5 : z5 = 256 * (256 * c5 c + c5 b) + c5 a := by
    rw [h5, e4, show (252645135 : Nat) = 256 * (256 * 3855 + 15) + 15 by omega, dg_and (by omega) (by omega), dg_and (by omega) (by omega), w _ _ (by omega) (by omega), w _ _ (by omega) (by omega), e15 _ (by omega)]
    rfl
  have k1 : c5 a ≤ 8 := by rw [c_5 a ha]; exact ct_le _ 8
  have k2 : c5 b ≤ 8 := by rw [c_5 b hb]; exact ct_le _ 8
  have k3 : c5 c ≤ 8 := by rw [c_5 c hc]; exact ct_le _ 8
  refine ⟨by omega, by omega, by omega, by omega, by omega, by omega, by omega, by omega, ?_⟩
  have e6 : z6 = 65536 * c5 c + 256 * (c5 b + c5 c) + (c5 a + c5 b) := by rw [h6, e5]; omega
  have e7 : z6 / 65536 = c5 c := by omega
  rw [h7, e7, e6]
  omega
/-- a set of pitches as a number -/
def mN (g : Nat → Bool) : Nat → Nat
  | 0 => 0
  | n + 1 => mN g n + (if g n then 2 ^ n else 0)
theorem mN_lt (g : Nat → Bool) : ∀ n, mN g n < 2 ^ n
  | 0 => by simp [mN]
  | n + 1 => by
    have := mN_lt g n
    rw [mN, Nat.pow_succ]
    split <;> omega
theorem mN_bit (g : Nat → Bool) : ∀ n i, (mN g n).testBit i = (decide (i < n) && g i)
  | 0, i => by simp [mN]
  | n + 1, i => by
    have hl := mN_lt g n
    rw [mN]
    by_cases hg : g n = true
    · rw [if_pos hg, Nat.add_comm]
      have := Nat.testBit_two_pow_mul_add 1 (b := mN g n) (i := n) hl i
      rw [Nat.mul_one] at this
      rw [this]
      by_cases q : i < n
      · rw [if_pos q, mN_bit g n i, decide_eq_true q, decide_eq_true (show i < n + 1 by omega)]
      · rw [if_neg q]
        by_cases e : i = n
        · subst e; simp [hg]
        · rw [decide_eq_false (show ¬ i < n + 1 by omega), Bool.false_and, Bool.eq_false_iff]
          intro h
          rw [Nat.testBit_one_eq_true_iff_self_eq_zero] at h
          omega
    · rw [if_neg hg, Nat.add_zero, mN_bit g n i]
      by_cases q : i < n
      · rw [decide_eq_true q, decide_eq_true (show i < n + 1 by omega)]
      · rw [decide_eq_false q]
        by_cases e : i = n
        · subst e; simp [hg]
        · rw [decide_eq_false (show ¬ i < n + 1 by omega)]
theorem msk_num {x : Int32} {g : Nat → Bool} (m : msk x g) : x = nI (mN g 24) := by
  refine b_ext (fun i hi => ?_)
  rw [m i hi, ← mN_bit g 24 i]
  show _ = (BitVec.ofNat 32 (mN g 24)).getLsbD i
  rw [BitVec.getLsbD_ofNat]
  simp [hi]
theorem mN_ct {g : Nat → Bool} {k : Nat} : ct (fun i => (mN g 24 / 2 ^ k % 256).testBit i) 8 = ct (fun i => decide (k + i < 24) && g (k + i)) 8 := by
  refine ct_cong (fun i hi => ?_)
  rw [show (256 : Nat) = 2 ^ 8 from rfl, Nat.testBit_mod_two_pow, Nat.testBit_div_two_pow, mN_bit]
  simp [hi, Nat.add_comm]
theorem ct_split (p : Nat → Bool) (m : Nat) : ∀ n, ct p (m + n) = ct p m + ct (fun k => p (m + k)) n
  | 0 => rfl
  | n + 1 => by
    have h := ct_split p m n
    rw [Nat.add_succ, ct, ct, h]
    omega
theorem bitCount_ok {x : Int32} {g : Nat → Bool} (m : msk x g) {post : Int32 → Prop} (k : post (iI (ct g 24))) : wp_J6_bitCount_0f7a4 x post := by
  have hx := msk_num m
  have hl : mN g 24 < 16777216 := mN_lt g 24
  generalize hN : mN g 24 = N at hx hl
  have ha : N % 256 < 256 := Nat.mod_lt _ (by omega)
  have hb : N / 256 % 256 < 256 := Nat.mod_lt _ (by omega)
  have hc : N / 65536 < 256 := by omega
  obtain ⟨k1, k2, k3, k4, k5, k6, k7, k8, k9⟩ := cnt_nat ha hb hc N _ _ _ _ _ _ _ (by omega) rfl rfl rfl rfl rfl rfl rfl
  have ft : c5 (N % 256) + c5 (N / 256 % 256) + c5 (N / 65536) = ct g 24 := by
    have t0 := mN_ct (g := g) (k := 0)
    have t1 := mN_ct (g := g) (k := 8)
    have t2 := mN_ct (g := g) (k := 16)
    rw [hN] at t0 t1 t2
    rw [show N / 2 ^ 0 % 256 = N % 256 by omega] at t0
    rw [show N / 2 ^ 8 % 256 = N / 256 % 256 by omega] at t1
    rw [show N / 2 ^ 16 % 256 = N / 65536 by omega] at t2
    rw [c_5 _ ha, c_5 _ hb, c_5 _ hc, t0, t1, t2]
    have s1 := ct_split g 16 8
    have s2 := ct_split g 8 8
    rw [show ct g 24 = ct g (16 + 8) from rfl, s1, show ct g 16 = ct g (8 + 8) from rfl, s2]
    have u0 : ct (fun i => decide (0 + i < 24) && g (0 + i)) 8 = ct g 8 := ct_cong (fun i hi => by simp; omega)
    have u1 : ct (fun i => decide (8 + i < 24) && g (8 + i)) 8 = ct (fun i => g (8 + i)) 8 := ct_cong (fun i hi => by simp; omega)
    have u2 : ct (fun i => decide (16 + i < 24) && g (16 + i)) 8 = ct (fun i => g (16 + i)) 8 := ct_cong (fun i hi => by simp; omega)
    rw [u0, u1, u2]
  rw [hx]
  unfold wp_J6_bitCount_0f7a4
  have us : ∀ (n : Nat), n < 2 ^ 32 → ∀ (s : Int32) (q d : Nat), ((s.toUInt32 &&& Int32.toUInt32 31).toBitVec % 32).toNat = q → 2 ^ q = d → ((nI n).toUInt32 >>> (Int32.toUInt32 s &&& Int32.toUInt32 31)).toInt32 = nI (n / d) := fun n hn s q d hq hd => by
    rw [← hd]
    exact pk_ushrN hn s q hq
  rintro z1 rfl
  rw [us N (by omega) 1 1 2 (by decide) rfl, show (1431655765 : Int32) = nI 1431655765 from rfl, nx_and, pk_sub (by exact k1)]
  rintro z2 rfl
  rw [us _ (by omega) 2 2 4 (by decide) rfl, show (858993459 : Int32) = nI 858993459 from rfl, nx_and]
  rintro z3 rfl
  rw [nx_and, nI_add]
  rintro z4 rfl
  rw [us _ (by omega) 4 4 16 (by decide) rfl, nI_add]
  rintro z5 rfl
  rw [show (252645135 : Int32) = nI 252645135 from rfl, nx_and]
  rintro z6 rfl
  rw [us _ (by omega) 8 8 256 (by decide) rfl, nI_add]
  rintro z7 rfl
  rw [us _ (by omega) 16 16 65536 (by decide) rfl, nI_add, show (63 : Int32) = nI (2 ^ 6 - 1) from rfl, nx_and, Nat.and_two_pow_sub_one_eq_mod, iI_nI]
  rw [← ft, ← k9] at k
  exact k
