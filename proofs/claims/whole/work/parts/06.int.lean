/-! ints as whole numbers: iI z is z as a 32 bit int -/
def iI (z : Int) : Int32 := Int32.ofInt z
theorem iI_add (a b : Int) : iI a + iI b = iI (a + b) := (Int32.ofInt_add a b).symm
theorem iI_sub (a b : Int) : iI a - iI b = iI (a - b) := (Int32.ofInt_sub a b).symm
theorem iI_mul (a b : Int) : iI a * iI b = iI (a * b) := (Int32.ofInt_mul a b).symm
theorem iI_neg (a : Int) : -iI a = iI (-a) := (Int32.ofInt_neg a).symm
theorem iI_nI (n : Nat) : nI n = iI n := by
  first | rfl | exact Int32.ofInt_eq_ofNat.symm | simp [iI, nI]
theorem iI_lit (n : Nat) : (OfNat.ofNat n : Int32) = iI (OfNat.ofNat n) := iI_nI n
theorem iI_toInt {z : Int} (h1 : -2147483648 ≤ z) (h2 : z < 2147483648) : (iI z).toInt = z := by
  have hb : z.bmod (2 ^ 32) = z := by rw [Int.bmod_eq_of_le (by omega) (by omega)]
  unfold iI
  rw [Int32.toInt_ofInt]
  exact hb
theorem iI_of (x : Int32) : x = iI x.toInt := (Int32.ofInt_toInt x).symm
theorem iI_rng (x : Int32) : -2147483648 ≤ x.toInt ∧ x.toInt < 2147483648 := by
  have h1 := Int32.le_toInt x
  have h2 := Int32.toInt_lt x
  omega
theorem iI_le {a b : Int} (h1 : -2147483648 ≤ a) (h2 : a < 2147483648) (h3 : -2147483648 ≤ b) (h4 : b < 2147483648) : iI a ≤ iI b ↔ a ≤ b := by
  rw [Int32.le_iff_toInt_le, iI_toInt h1 h2, iI_toInt h3 h4]
theorem iI_lt {a b : Int} (h1 : -2147483648 ≤ a) (h2 : a < 2147483648) (h3 : -2147483648 ≤ b) (h4 : b < 2147483648) : iI a < iI b ↔ a < b := by
  rw [Int32.lt_iff_toInt_lt, iI_toInt h1 h2, iI_toInt h3 h4]
theorem iI_eq {a b : Int} (h1 : -2147483648 ≤ a) (h2 : a < 2147483648) (h3 : -2147483648 ≤ b) (h4 : b < 2147483648) : iI a = iI b ↔ a = b := by
  rw [← Int32.toInt_inj, iI_toInt h1 h2, iI_toInt h3 h4]
theorem iI_c {a b : Int} (h : a = b) : iI a = iI b := by rw [h]
theorem q_le {x y : Int32} {A B : Prop} (a b : Int) (f : a ≤ b → A) (g : b < a → B) (hx : x = iI a := by first | rfl | (simp only [iI_lit, iI_add, iI_sub, iI_mul, iI_neg]; done) | (simp only [iI_lit, iI_add, iI_sub, iI_mul, iI_neg]; exact iI_c (by omega))) (hy : y = iI b := by first | rfl | (simp only [iI_lit, iI_add, iI_sub, iI_mul, iI_neg]; done) | (simp only [iI_lit, iI_add, iI_sub, iI_mul, iI_neg]; exact iI_c (by omega))) (h1 : -2147483648 ≤ a := by omega) (h2 : a < 2147483648 := by omega) (h3 : -2147483648 ≤ b := by omega) (h4 : b < 2147483648 := by omega) : (x ≤ y → A) ∧ (¬ x ≤ y → B) := by
  rw [hx, hy, iI_le h1 h2 h3 h4]
  exact ⟨f, fun h => g (by omega)⟩
theorem q_lt {x y : Int32} {A B : Prop} (a b : Int) (f : a < b → A) (g : b ≤ a → B) (hx : x = iI a := by first | rfl | (simp only [iI_lit, iI_add, iI_sub, iI_mul, iI_neg]; done) | (simp only [iI_lit, iI_add, iI_sub, iI_mul, iI_neg]; exact iI_c (by omega))) (hy : y = iI b := by first | rfl | (simp only [iI_lit, iI_add, iI_sub, iI_mul, iI_neg]; done) | (simp only [iI_lit, iI_add, iI_sub, iI_mul, iI_neg]; exact iI_c (by omega))) (h1 : -2147483648 ≤ a := by omega) (h2 : a < 2147483648 := by omega) (h3 : -2147483648 ≤ b := by omega) (h4 : b < 2147483648 := by omega) : (x < y → A) ∧ (¬ x < y → B) := by
  rw [hx, hy, iI_lt h1 h2 h3 h4]
  exact ⟨f, fun h => g (by omega)⟩
theorem q_eq {x y : Int32} {A B : Prop} (a b : Int) (f : a = b → A) (g : a ≠ b → B) (hx : x = iI a := by first | rfl | (simp only [iI_lit, iI_add, iI_sub, iI_mul, iI_neg]; done) | (simp only [iI_lit, iI_add, iI_sub, iI_mul, iI_neg]; exact iI_c (by omega))) (hy : y = iI b := by first | rfl | (simp only [iI_lit, iI_add, iI_sub, iI_mul, iI_neg]; done) | (simp only [iI_lit, iI_add, iI_sub, iI_mul, iI_neg]; exact iI_c (by omega))) (h1 : -2147483648 ≤ a := by omega) (h2 : a < 2147483648 := by omega) (h3 : -2147483648 ≤ b := by omega) (h4 : b < 2147483648 := by omega) : (x = y → A) ∧ (¬ x = y → B) := by
  rw [hx, hy, iI_eq h1 h2 h3 h4]
  exact ⟨f, g⟩
theorem q_ne {x y : Int32} {A B : Prop} (a b : Int) (f : a ≠ b → A) (g : a = b → B) (hx : x = iI a := by first | rfl | (simp only [iI_lit, iI_add, iI_sub, iI_mul, iI_neg]; done) | (simp only [iI_lit, iI_add, iI_sub, iI_mul, iI_neg]; exact iI_c (by omega))) (hy : y = iI b := by first | rfl | (simp only [iI_lit, iI_add, iI_sub, iI_mul, iI_neg]; done) | (simp only [iI_lit, iI_add, iI_sub, iI_mul, iI_neg]; exact iI_c (by omega))) (h1 : -2147483648 ≤ a := by omega) (h2 : a < 2147483648 := by omega) (h3 : -2147483648 ≤ b := by omega) (h4 : b < 2147483648 := by omega) : (¬ x = y → A) ∧ (x = y → B) := by
  rw [hx, hy, iI_eq h1 h2 h3 h4]
  exact ⟨f, g⟩
theorem q_in {x : Int32} {n : Nat} {A : Prop} (z : Int) (h : A) (hx : x = iI z := by first | rfl | (simp only [iI_lit, iI_add, iI_sub, iI_mul, iI_neg]; done) | (simp only [iI_lit, iI_add, iI_sub, iI_mul, iI_neg]; exact iI_c (by omega))) (h1 : 0 ≤ z := by omega) (h2 : z < n := by omega) (h3 : z < 2147483648 := by omega) : vp_in x n ∧ A := by
  refine ⟨vp_in_iff.mpr ?_, h⟩
  rw [hx, iI_toInt (by omega) h3]
  exact ⟨h1, h2⟩
theorem q_cl {x : Int32} (k : Nat) (hx : x = iI k := by first | rfl | (simp only [iI_lit, iI_add, iI_sub, iI_mul, iI_neg]; done) | (simp only [iI_lit, iI_add, iI_sub, iI_mul, iI_neg]; exact iI_c (by omega))) (h : k < 2147483648 := by omega) : x.toNatClampNeg = k := by
  show x.toInt.toNat = k
  rw [hx, iI_toInt (by omega) (by omega)]
  omega
/-- a row of ints that stands for whole numbers below n -/
def isR (f : Nat → Int32) (g : Nat → Int) (n : Nat) : Prop := ∀ k, k < n → f k = iI (g k)
theorem isR_at {f : Nat → Int32} {g : Nat → Int} {n : Nat} (h : isR f g n) {x : Int32} (k : Nat) (hk : k < n := by omega) (hx : x = iI k := by first | rfl | (simp only [iI_lit, iI_add, iI_sub, iI_mul, iI_neg]; done) | (simp only [iI_lit, iI_add, iI_sub, iI_mul, iI_neg]; exact iI_c (by omega))) (hl : k < 2147483648 := by omega) : f x.toNatClampNeg = iI (g k) := by
  rw [q_cl k hx hl]
  exact h k hk
theorem isR_upd {f : Nat → Int32} {g : Nat → Int} {n : Nat} (h : isR f g n) {x y : Int32} (k : Nat) (z : Int) (hx : x = iI k := by first | rfl | (simp only [iI_lit, iI_add, iI_sub, iI_mul, iI_neg]; done) | (simp only [iI_lit, iI_add, iI_sub, iI_mul, iI_neg]; exact iI_c (by omega))) (hy : y = iI z := by first | rfl | (simp only [iI_lit, iI_add, iI_sub, iI_mul, iI_neg]; done) | (simp only [iI_lit, iI_add, iI_sub, iI_mul, iI_neg]; exact iI_c (by omega))) (hl : k < 2147483648 := by omega) : isR (upd f x.toNatClampNeg y) (fun j => if j = k then z else g j) n := by
  intro j hj
  rw [q_cl k hx hl]
  by_cases e : j = k
  · subst e
    simp only [if_true]
    rw [← hy]
    exact pk_us
  · simp only [if_neg e]
    rw [pk_un e]
    exact h j hj
theorem isR_nop {f : Nat → Int32} {g g' : Nat → Int} {n : Nat} (h : isR f g n) (e : ∀ k, k < n → g k = g' k) : isR f g' n := fun k hk => by rw [h k hk, e k hk]
