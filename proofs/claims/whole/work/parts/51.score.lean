theorem tI {p : Nat} (h : p < 2147483648) : (iI p).toInt = p := iI_toInt (by omega) (by omega)
def nu {α : Type} (f : Nat → α) (k : Nat) (x : α) : Nat → α := fun j => if j = k then x else f j
theorem nu_s {α : Type} (f : Nat → α) (k : Nat) (x : α) : nu f k x k = x := by simp [nu]
theorem nu_n {α : Type} (f : Nat → α) {k j : Nat} (x : α) (h : j ≠ k) : nu f k x j = f j := by simp [nu, h]
/-- the items of a score: n of them, in rows of the class or of the reference -/
def scC (n : Nat) (pp ss : Nat → Nat) (cp cs : Nat → Int32) (cz : Int32) : Prop := n ≤ 40 ∧ cz = iI n ∧ ∀ i, i < n → pp i < 24 ∧ ss i < 300 ∧ cp i = iI (pp i) ∧ cs i = iI (ss i)
def itemOk (n : Nat) (ss : Nat → Nat) (v1 v2 : Int32) : Prop := ∃ p s : Nat, p < 24 ∧ s < 300 ∧ v1 = iI p ∧ v2 = iI s ∧ n < 40 ∧ (0 < n → ss (n - 1) ≤ s)
theorem scC_add {n : Nat} {pp ss : Nat → Nat} {cp cs : Nat → Int32} {cz x : Int32} (h : scC n pp ss cp cs cz) {p s : Nat} (hp : p < 24) (hs : s < 300) (hn : n < 40) (hx : x = iI n) : scC (n + 1) (nu pp n p) (nu ss n s) (upd cp x.toNatClampNeg (iI p)) (upd cs x.toNatClampNeg (iI s)) (cz + 1) := by
  obtain ⟨h1, h2, h3⟩ := h
  refine ⟨by omega, by rw [h2]; simp only [iI_lit, iI_add]; exact iI_c (by omega), fun i hi => ?_⟩
  rw [q_cl n hx]
  by_cases e : i = n
  · subst e
    rw [nu_s, nu_s, pk_us, pk_us]
    exact ⟨hp, hs, rfl, rfl⟩
  · rw [nu_n _ _ e, nu_n _ _ e, pk_un e, pk_un e]
    exact h3 i (by omega)
theorem cl_item_y {n : Nat} {pp ss : Nat → Nat} {cp cs : Nat → Int32} {cz : Int32} (h : scC n pp ss cp cs cz) {p s : Nat} (hp : p < 24) (hs : s < 300) (hn : n < 40) (ho : 0 < n → ss (n - 1) ≤ s) {post : Int32 → (Nat → Int32) → (Nat → Int32) → Int32 → Prop} (k : ∀ cp' cs' cz', scC (n + 1) (nu pp n p) (nu ss n s) cp' cs' cz' → post (iI n) cp' cs' cz') : wp_X6_item (iI p) (iI s) cp cs cz post := by
  have hz := h.2.1
  unfold wp_X6_item
  refine sc_isPitch (fun _ _ _ => z10 ?_) (fun hc => absurd hc (by rw [tI (by omega)]; omega))
  refine sc_isStep (fun _ _ _ => y10 ?_) (fun hc => absurd hc (by rw [tI (by omega)]; omega))
  unfold wp_X5_append
  have fin : wl_X5_append_33 (iI p) (iI s) post cp cs cz := by
    unfold wl_X5_append_33
    refine q_in n ?_ hz
    rintro a1 rfl
    refine q_in n ?_ hz
    rintro a2 rfl
    rw [show cz + 1 - 1 = iI n by rw [hz]; simp only [iI_lit, iI_add, iI_sub]; exact iI_c (by omega)]
    exact k _ _ _ (scC_add h hp hs hn hz)
  refine q_le 40 n (fun hc => absurd hc (by omega)) (fun _ => ?_) rfl hz
  refine q_le n 0 (fun hc => fin) (fun hc => ?_) hz
  refine q_in (n - 1) ?_ (by rw [hz]; simp only [iI_lit, iI_sub])
  have e1 : cs (cz - 1).toNatClampNeg = iI (ss (n - 1)) := by
    rw [q_cl (n - 1) (by rw [hz]; simp only [iI_lit, iI_sub]; exact iI_c (by omega))]
    exact (h.2.2 (n - 1) (by omega)).2.2.2
  have h9 := (h.2.2 (n - 1) (by omega)).2.1
  refine q_le (ss (n - 1)) s (fun _ => fin) (fun hc => absurd (ho (by omega)) (by omega)) e1
theorem cl_item_n {n : Nat} {pp ss : Nat → Nat} {cp cs : Nat → Int32} {cz v1 v2 : Int32} (h : scC n pp ss cp cs cz) (hv : ¬ itemOk n ss v1 v2) {post : Int32 → (Nat → Int32) → (Nat → Int32) → Int32 → Prop} (k : post (-1) cp cs cz) : wp_X6_item v1 v2 cp cs cz post := by
  have hz := h.2.1
  have hn := h.1
  unfold wp_X6_item
  refine sc_isPitch (fun p hp ep => z10 ?_) (fun _ => z00 k)
  refine sc_isStep (fun s hs es => y10 ?_) (fun _ => y00 k)
  unfold wp_X5_append
  refine q_le 40 n (fun hc => k) (fun hc => ?_) rfl hz
  refine q_le n 0 (fun hc2 => absurd ⟨p, s, hp, hs, ep, es, by omega, fun h9 => absurd h9 (by omega)⟩ hv) (fun hc2 => ?_) hz
  refine q_in (n - 1) ?_ (by rw [hz]; simp only [iI_lit, iI_sub])
  have e1 : cs (cz - 1).toNatClampNeg = iI (ss (n - 1)) := by
    rw [q_cl (n - 1) (by rw [hz]; simp only [iI_lit, iI_sub]; exact iI_c (by omega))]
    exact (h.2.2 (n - 1) (by omega)).2.2.2
  have h9 := (h.2.2 (n - 1) (by omega)).2.1
  refine q_le (ss (n - 1)) s (fun hc3 => absurd ⟨p, s, hp, hs, ep, es, by omega, fun _ => by omega⟩ hv) (fun hc3 => k) e1 es
theorem mo_item_y {n : Nat} {pp ss : Nat → Nat} {cp cs : Nat → Int32} {cz th : Int32} (h : scC n pp ss cp cs cz) {p s : Nat} (hp : p < 24) (hs : s < 300) (hn : n < 40) (ho : 0 < n → ss (n - 1) ≤ s) {post : Int32 → Int32 → Int32 → (Nat → Int32) → (Nat → Int32) → Prop} (k : ∀ cp' cs' cz', scC (n + 1) (nu pp n p) (nu ss n s) cp' cs' cz' → post (iI n) 0 cz' cp' cs') : wp_X7_item (iI p) (iI s) th cz cp cs post := by
  have hz := h.2.1
  unfold wp_X7_item
  refine sp_within 0 23 (fun _ _ _ _ => z10 ?_) (fun hc => absurd hc (by rw [tI (by omega)]; omega))
  refine sp_within 0 299 (fun _ _ _ _ => z10 ?_) (fun hc => absurd hc (by rw [tI (by omega)]; omega))
  refine q_eq n 40 (fun hc => absurd hc (by omega)) (fun _ => ?_) hz
  have fin : wl_X7_item_59 (iI p) (iI s) post 0 cz cp cs := by
    unfold wl_X7_item_59
    refine q_in n ?_ hz
    rintro a1 rfl
    refine q_in n ?_ hz
    rintro a2 rfl
    rw [show cz + 1 - 1 = iI n by rw [hz]; simp only [iI_lit, iI_add, iI_sub]; exact iI_c (by omega)]
    exact k _ _ _ (scC_add h hp hs hn hz)
  refine q_le n 0 (fun hc => fin) (fun hc => ?_) hz
  refine q_in (n - 1) ?_ (by rw [hz]; simp only [iI_lit, iI_sub])
  have e1 : cs (cz - 1).toNatClampNeg = iI (ss (n - 1)) := by
    rw [q_cl (n - 1) (by rw [hz]; simp only [iI_lit, iI_sub]; exact iI_c (by omega))]
    exact (h.2.2 (n - 1) (by omega)).2.2.2
  have h9 := (h.2.2 (n - 1) (by omega)).2.1
  refine q_le (ss (n - 1)) s (fun _ => fin) (fun hc => absurd (ho (by omega)) (by omega)) e1
theorem mo_item_n {n : Nat} {pp ss : Nat → Nat} {cp cs : Nat → Int32} {cz th v1 v2 : Int32} (h : scC n pp ss cp cs cz) (hv : ¬ itemOk n ss v1 v2) {post : Int32 → Int32 → Int32 → (Nat → Int32) → (Nat → Int32) → Prop} (k : post (-1) 0 cz cp cs) : wp_X7_item v1 v2 th cz cp cs post := by
  have hz := h.2.1
  have hn := h.1
  unfold wp_X7_item
  refine sp_within 0 23 (fun z1 a1 a2 ep => z10 ?_) (fun _ => z00 k)
  refine sp_within 0 299 (fun z2 b1 b2 es => z10 ?_) (fun _ => z00 k)
  obtain ⟨p, hp, ep⟩ := iI_nat a1 ep
  obtain ⟨s, hs, es⟩ := iI_nat b1 es
  refine q_eq n 40 (fun hc => k) (fun hc => ?_) hz
  refine q_le n 0 (fun hc2 => absurd ⟨p, s, by omega, by omega, ep, es, by omega, fun h9 => absurd h9 (by omega)⟩ hv) (fun hc2 => ?_) hz
  refine q_in (n - 1) ?_ (by rw [hz]; simp only [iI_lit, iI_sub])
  have e1 : cs (cz - 1).toNatClampNeg = iI (ss (n - 1)) := by
    rw [q_cl (n - 1) (by rw [hz]; simp only [iI_lit, iI_sub]; exact iI_c (by omega))]
    exact (h.2.2 (n - 1) (by omega)).2.2.2
  have h9 := (h.2.2 (n - 1) (by omega)).2.1
  refine q_le (ss (n - 1)) s (fun hc3 => absurd ⟨p, s, by omega, by omega, ep, es, by omega, fun _ => by omega⟩ hv) (fun hc3 => k) e1 es
theorem scC_0 {pp ss : Nat → Nat} {cp cs : Nat → Int32} : scC 0 pp ss cp cs 0 := ⟨by omega, rfl, fun i hi => absurd hi (by omega)⟩
