/-! the small tests -/
theorem i_nlt {a b : Int32} : ¬ a < b ↔ b ≤ a := by
  rw [Int32.lt_iff_toInt_lt, Int32.le_iff_toInt_le]
  omega
theorem sp_within {v lo hi : Int32} {post : Int32 → Prop} (a b : Int) (h1 : ∀ z : Int, a ≤ z → z ≤ b → v = iI z → post 1) (h0 : (v.toInt < a ∨ b < v.toInt) → post 0) (hlo : lo = iI a := by first | rfl | (simp only [iI_lit, iI_add, iI_sub, iI_mul, iI_neg]; done) | (simp only [iI_lit, iI_add, iI_sub, iI_mul, iI_neg]; exact iI_c (by omega))) (hhi : hi = iI b := by first | rfl | (simp only [iI_lit, iI_add, iI_sub, iI_mul, iI_neg]; done) | (simp only [iI_lit, iI_add, iI_sub, iI_mul, iI_neg]; exact iI_c (by omega))) (ha : -2147483648 ≤ a := by omega) (ha2 : a < 2147483648 := by omega) (hb : -2147483648 ≤ b := by omega) (hb2 : b < 2147483648 := by omega) : wp_X7_within v lo hi post := by
  have hr := iI_rng v
  have ev := iI_of v
  unfold wp_X7_within
  refine q_lt v.toInt a (fun hc => h0 (Or.inl hc)) (fun hc => ?_) ev hlo
  refine q_lt b v.toInt (fun hc2 => h0 (Or.inr hc2)) (fun hc2 => h1 v.toInt hc hc2 ev) hhi ev
theorem sc_within {v lo hi : Int32} {post : Int32 → Prop} (a b : Int) (h1 : ∀ z : Int, a ≤ z → z ≤ b → v = iI z → post 1) (h0 : (v.toInt < a ∨ b < v.toInt) → post 0) (hlo : lo = iI a := by first | rfl | (simp only [iI_lit, iI_add, iI_sub, iI_mul, iI_neg]; done) | (simp only [iI_lit, iI_add, iI_sub, iI_mul, iI_neg]; exact iI_c (by omega))) (hhi : hi = iI b := by first | rfl | (simp only [iI_lit, iI_add, iI_sub, iI_mul, iI_neg]; done) | (simp only [iI_lit, iI_add, iI_sub, iI_mul, iI_neg]; exact iI_c (by omega))) (ha : -2147483648 ≤ a := by omega) (ha2 : a < 2147483648 := by omega) (hb : -2147483648 ≤ b := by omega) (hb2 : b < 2147483648 := by omega) : wp_X6_isWithin v lo hi post := by
  have hr := iI_rng v
  have ev := iI_of v
  unfold wp_X6_isWithin
  refine q_lt v.toInt a (fun hc => h0 (Or.inl hc)) (fun hc => ?_) ev hlo
  refine q_lt b v.toInt (fun hc2 => h0 (Or.inr hc2)) (fun hc2 => h1 v.toInt hc hc2 ev) hhi ev
theorem z10 {A B : Prop} (b : B) : ((1 : Int32) = 0 → A) ∧ (¬ (1 : Int32) = 0 → B) := ⟨fun h => absurd h (by decide), fun _ => b⟩
theorem z00 {A B : Prop} (a : A) : ((0 : Int32) = 0 → A) ∧ (¬ (0 : Int32) = 0 → B) := ⟨fun _ => a, fun h => absurd rfl h⟩
theorem y10 {A B : Prop} (a : A) : (¬ (1 : Int32) = 0 → A) ∧ ((1 : Int32) = 0 → B) := ⟨fun _ => a, fun h => absurd h (by decide)⟩
theorem y00 {A B : Prop} (b : B) : (¬ (0 : Int32) = 0 → A) ∧ ((0 : Int32) = 0 → B) := ⟨fun h => absurd rfl h, fun _ => b⟩
theorem b01 {A : Prop} (a : A) : ((0 : Int32) = 0 ∨ (0 : Int32) = 1) ∧ A := ⟨Or.inl rfl, a⟩
theorem b11 {A : Prop} (a : A) : ((1 : Int32) = 0 ∨ (1 : Int32) = 1) ∧ A := ⟨Or.inr rfl, a⟩
/-- a number of a range as a natural one -/
theorem iI_nat {v : Int32} {z : Int} (h : 0 ≤ z) (e : v = iI z) : ∃ k : Nat, (k : Int) = z ∧ v = iI k := ⟨z.toNat, by omega, by rw [e]; exact iI_c (by omega)⟩
theorem sp_isRoll {rolls v : Int32} {post : Int32 → Prop} (n : Nat) (hn : n ≤ 6) (e : rolls = iI n) (h1 : ∀ k : Nat, k < n → v = iI k → post 1) (h0 : (v.toInt < 0 ∨ (n : Int) ≤ v.toInt) → post 0) : wp_X7_isRoll rolls v post := by
  unfold wp_X7_isRoll
  refine sp_within 0 (n - 1) (fun z z1 z2 ez => b11 ?_) (fun hz => b01 (h0 (by omega))) rfl (by rw [e]; simp only [iI_lit, iI_sub])
  obtain ⟨k, ek, ev⟩ := iI_nat z1 ez
  exact h1 k (by omega) ev
theorem sc_isPitch {v : Int32} {post : Int32 → Prop} (h1 : ∀ k : Nat, k < 24 → v = iI k → post 1) (h0 : (v.toInt < 0 ∨ 23 < v.toInt) → post 0) : wp_X6_isPitch v post := by
  unfold wp_X6_isPitch
  refine sc_within 0 23 (fun z z1 z2 ez => b11 ?_) (fun hz => b01 (h0 hz))
  obtain ⟨k, ek, ev⟩ := iI_nat z1 ez
  exact h1 k (by omega) ev
theorem sc_isStep {v : Int32} {post : Int32 → Prop} (h1 : ∀ k : Nat, k < 300 → v = iI k → post 1) (h0 : (v.toInt < 0 ∨ 299 < v.toInt) → post 0) : wp_X6_isStep v post := by
  unfold wp_X6_isStep
  refine sc_within 0 299 (fun z z1 z2 ez => b11 ?_) (fun hz => b01 (h0 hz))
  obtain ⟨k, ek, ev⟩ := iI_nat z1 ez
  exact h1 k (by omega) ev
theorem sc_isPedal {v : Int32} {post : Int32 → Prop} (h1 : ∀ k : Nat, k < 21 → v = iI k → post 1) (h0 : (v.toInt < 0 ∨ 20 < v.toInt) → post 0) : wp_X6_isPedal v post := by
  unfold wp_X6_isPedal
  refine sc_within 0 20 (fun z z1 z2 ez => b11 ?_) (fun hz => b01 (h0 hz))
  obtain ⟨k, ek, ev⟩ := iI_nat z1 ez
  exact h1 k (by omega) ev
theorem sc_isCopy {v : Int32} {post : Int32 → Prop} (h1 : ∀ k : Nat, 1 ≤ k → k < 1001 → v = iI k → post 1) (h0 : (v.toInt < 1 ∨ 1000 < v.toInt) → post 0) : wp_X6_isCopy v post := by
  unfold wp_X6_isCopy
  refine sc_within 1 1000 (fun z z1 z2 ez => b11 ?_) (fun hz => b01 (h0 hz))
  obtain ⟨k, ek, ev⟩ := iI_nat (by omega) ez
  exact h1 k (by omega) (by omega) ev
theorem sc_isDay {v : Int32} {post : Int32 → Prop} (h1 : ∀ k : Nat, k ≤ 100000 → v = iI k → post 1) (h0 : (v.toInt < 0 ∨ 100000 < v.toInt) → post 0) : wp_X6_isDay v post := by
  unfold wp_X6_isDay
  refine sc_within 0 100000 (fun z z1 z2 ez => b11 ?_) (fun hz => b01 (h0 hz))
  obtain ⟨k, ek, ev⟩ := iI_nat z1 ez
  exact h1 k (by omega) ev
/-- the house's rows of rolls: n of them -/
theorem sc_rollOf_n {rc v : Int32} {rr : Nat → Option Nat} {post : Option Nat → Prop} (n : Nat) (hn : n ≤ 6) (e : rc = iI n) (hv : v.toInt < 0 ∨ (n : Int) ≤ v.toInt) (h : post none) : wp_X6_rollOf rr rc v post := by
  unfold wp_X6_rollOf
  refine sc_within 0 (n - 1) (fun z z1 z2 ez => absurd hv ?_) (fun hz => z00 h) rfl (by rw [e]; simp only [iI_lit, iI_sub])
  rw [ez, iI_toInt (by omega) (by omega)]
  omega
theorem sc_rollOf_s {rc v : Int32} {rr : Nat → Option Nat} {post : Option Nat → Prop} (n k : Nat) (hn : n ≤ 6) (e : rc = iI n) (hk : k < n) (hv : v = iI k) (h : post (rr k)) : wp_X6_rollOf rr rc v post := by
  unfold wp_X6_rollOf
  have hi : v.toInt = k := by rw [hv, iI_toInt (by omega) (by omega)]
  refine sc_within 0 (n - 1) (fun z z1 z2 ez => z10 ?_) (fun hz => absurd hz (by omega)) rfl (by rw [e]; simp only [iI_lit, iI_sub])
  refine q_in k ?_ hv
  rw [q_cl k hv]
  exact h
