/-! the post: n lines, the day d -/
def poC (n d : Nat) (C D P T : Nat → Nat) (sz td : Int32) (fc fd fp ft : Nat → Int32) : Prop := n ≤ 200 ∧ sz = iI n ∧ td = iI d ∧ ∀ i, i < n → 1 ≤ C i ∧ C i < 1001 ∧ D i ≤ 100000 ∧ P i < 100 ∧ T i ≤ d ∧ fc i = iI (C i) ∧ fd i = iI (D i) ∧ fp i = iI (P i) ∧ ft i = iI (T i)
def obs (D : Nat → Nat) (i : Nat) : Option Nat → Bool
  | none => true
  | some b => decide (D b ≤ D i)
def bst (C D T : Nat → Nat) (c d k : Nat) : Nat → Option Nat
  | 0 => none
  | i + 1 => if C i = c ∧ T i ≤ k ∧ D i ≤ d ∧ obs D i (bst C D T c d k i) = true then some i else bst C D T c d k i
def oE : Option Nat → Int32
  | none => -1
  | some b => iI b
def whA (P : Nat → Nat) : Option Nat → Int32
  | none => 0
  | some b => iI (P b)
theorem bst_lt {C D T : Nat → Nat} {c d k : Nat} : ∀ {i b : Nat}, bst C D T c d k i = some b → b < i ∧ C b = c
  | 0, b, h => by cases h
  | i + 1, b, h => by
    rw [bst] at h
    split at h
    · next hc => cases h; exact ⟨by omega, hc.1⟩
    · have := bst_lt h
      exact ⟨by omega, this.2⟩
theorem oE_ne {b : Nat} (h : b < 2147483648) : ¬ iI (b : Int) = -1 := by
  rw [show (-1 : Int32) = iI (-1) by decide, iI_eq (by omega) (by omega) (by omega) (by omega)]
  omega
theorem mo_whereOf {n d : Nat} {C D P T : Nat → Nat} {sz td : Int32} {fc fd fp ft : Nat → Int32} (h : poC n d C D P T sz td fc fd fp ft) (hd : d < 2147483648) {v1 v2 v3 : Int32} {c dy kn : Nat} (e1 : v1 = iI c) (e2 : v2 = iI dy) (e3 : v3 = iI kn) (b1 : c < 2147483648) (b2 : dy < 2147483648) (b3 : kn < 2147483648) {post : Int32 → Prop} (k : post (whA P (bst C D T c dy kn n))) : wp_X7_whereOf sz fc fd fp ft v1 v2 v3 post := by
  obtain ⟨hn, hz, -, hr⟩ := h
  unfold wp_X7_whereOf
  have key : ∀ (j i : Nat), i + j = n → wl_X7_whereOf_6 sz fc fd fp ft v1 v2 v3 post (j + 1) (oE (bst C D T c dy kn i)) (iI i) := by
    intro j
    induction j with
    | zero =>
      intro i hi
      have e : i = n := by omega
      subst e
      rw [wl_X7_whereOf_6]
      refine q_le i i (fun _ => ?_) (fun hc => absurd hc (by omega)) hz
      cases hb : bst C D T c dy kn i with
      | none =>
        rw [hb] at k
        exact ⟨fun hc => absurd rfl hc, fun _ => k⟩
      | some b =>
        rw [hb] at k
        have hl := (bst_lt hb).1
        refine ⟨fun _ => ?_, fun hc => absurd hc (oE_ne (by omega))⟩
        refine q_in b ?_
        rw [show oE (some b) = iI b from rfl, q_cl b, (hr b (by omega)).2.2.2.2.2.2.2.1]
        exact k
    | succ j ih =>
      intro i hi
      obtain ⟨a1, a2, a3, a4, a5, a6, a7, a8, a9⟩ := hr i (by omega)
      have nx := ih (i + 1) (by omega)
      have ei : iI (i : Int) + 1 = iI ((i + 1 : Nat) : Int) := by
        simp only [iI_lit, iI_add]
        exact iI_c (by omega)
      rw [wl_X7_whereOf_6]
      refine q_le n i (fun hc => absurd hc (by omega)) (fun _ => ?_) hz
      refine q_in i ?_
      rw [q_cl i, a6, a7, a9, ei]
      rw [bst] at nx
      refine q_ne (C i) c (fun h1 => ?_) (fun h1 => ?_) rfl e1
      · rw [if_neg (by omega)] at nx; exact nx
      refine q_in i ?_
      refine q_lt kn (T i) (fun h2 => ?_) (fun h2 => ?_) e3
      · rw [if_neg (by omega)] at nx; exact nx
      refine q_in i ?_
      refine q_le (D i) dy (fun h3 => ?_) (fun h3 => ?_) rfl e2
      · cases hb : bst C D T c dy kn i with
        | none =>
          rw [hb] at nx
          rw [if_pos ⟨by omega, by omega, by omega, rfl⟩] at nx
          exact ⟨fun _ => nx, fun hc => absurd rfl hc⟩
        | some b =>
          have hl := (bst_lt hb).1
          rw [hb] at nx
          refine ⟨fun hc => absurd hc (oE_ne (by omega)), fun _ => ?_⟩
          refine q_in i ?_
          refine q_in b ?_
          rw [show oE (some b) = iI b from rfl, q_cl b, (hr b (by omega)).2.2.2.2.2.2.1]
          have h9 := (hr b (by omega)).2.2.1
          refine q_lt (D i) (D b) (fun h4 => ?_) (fun h4 => ?_)
          · rw [if_neg (fun hq => by have := of_decide_eq_true hq.2.2.2; omega)] at nx; exact nx
          · rw [if_pos ⟨by omega, by omega, by omega, decide_eq_true (by omega)⟩] at nx; exact nx
      · rw [if_neg (by omega)] at nx; exact nx
  exact ⟨n + 1, key n 0 (by omega)⟩
theorem cl_counts {n d : Nat} {C D P T : Nat → Nat} {sz td : Int32} {fc fd fp ft : Nat → Int32} (h : poC n d C D P T sz td fc fd fp ft) (hd : d < 2147483648) {v1 v2 v3 : Int32} {i dy kn : Nat} (e1 : v1 = iI i) (e2 : v2 = iI dy) (e3 : v3 = iI kn) (hi : i < n) (b2 : dy < 2147483648) (b3 : kn < 2147483648) {post : Int32 → Prop} (k1 : T i ≤ kn → D i ≤ dy → post 1) (k0 : ¬ (T i ≤ kn ∧ D i ≤ dy) → post 0) : wp_X2_counts fd ft v1 v2 v3 post := by
  obtain ⟨hn, hz, -, hr⟩ := h
  obtain ⟨a1, a2, a3, a4, a5, a6, a7, a8, a9⟩ := hr i hi
  unfold wp_X2_counts
  refine q_in i ?_ e1
  rw [q_cl i e1, a7, a9]
  refine q_lt kn (T i) (fun h1 => k0 (by omega)) (fun h1 => ?_) e3
  refine q_in i ?_ e1
  exact q_lt dy (D i) (fun h2 => k0 (by omega)) (fun h2 => k1 (by omega) (by omega)) e2
theorem cl_stands {n d : Nat} {C D P T : Nat → Nat} {sz td : Int32} {fc fd fp ft : Nat → Int32} (h : poC n d C D P T sz td fc fd fp ft) {v1 v2 : Int32} {i : Nat} (o : Option Nat) (e1 : v1 = iI i) (e2 : v2 = oE o) (hi : i < n) (ho : ∀ b, o = some b → b < n) {post : Int32 → Prop} (k1 : obs D i o = true → post 1) (k0 : ¬ obs D i o = true → post 0) : wp_X2_standsInPlaceOf fd v1 v2 post := by
  obtain ⟨hn, hz, -, hr⟩ := h
  obtain ⟨a1, a2, a3, a4, a5, a6, a7, a8, a9⟩ := hr i hi
  unfold wp_X2_standsInPlaceOf
  rw [e2]
  cases o with
  | none => exact ⟨fun _ => k1 rfl, fun hc => absurd rfl hc⟩
  | some b =>
    have hb := ho b rfl
    have h9 := (hr b hb).2.2.1
    refine ⟨fun hc => absurd hc (oE_ne (by omega)), fun _ => ?_⟩
    refine q_in i ?_ e1
    refine q_in b ?_
    rw [q_cl i e1, show oE (some b) = iI b from rfl, q_cl b, a7, (hr b hb).2.2.2.2.2.2.1]
    refine q_lt (D i) (D b) (fun h4 => k0 (fun hq => by have := of_decide_eq_true hq; omega)) (fun h4 => k1 (decide_eq_true (by omega)))
theorem cl_placeOf {n d : Nat} {C D P T : Nat → Nat} {sz td : Int32} {fc fd fp ft : Nat → Int32} (h : poC n d C D P T sz td fc fd fp ft) (hd : d < 2147483648) {v1 v2 v3 : Int32} {c dy kn : Nat} (e1 : v1 = iI c) (e2 : v2 = iI dy) (e3 : v3 = iI kn) (b1 : c < 2147483648) (b2 : dy < 2147483648) (b3 : kn < 2147483648) {post : Int32 → Prop} (k : post (whA P (bst C D T c dy kn n))) : wp_X2_placeOf fc fd fp ft sz v1 v2 v3 post := by
  have h0 := h
  obtain ⟨hn, hz, -, hr⟩ := h
  unfold wp_X2_placeOf
  have key : ∀ (j i : Nat), i + j = n → wl_X2_placeOf_6 fc fd fp ft sz v1 v2 v3 post (j + 1) (oE (bst C D T c dy kn i)) (iI i) := by
    intro j
    induction j with
    | zero =>
      intro i hi
      have e : i = n := by omega
      subst e
      rw [wl_X2_placeOf_6]
      refine q_le i i (fun _ => ?_) (fun hc => absurd hc (by omega)) hz
      cases hb : bst C D T c dy kn i with
      | none =>
        rw [hb] at k
        exact ⟨fun hc => absurd rfl hc, fun _ => k⟩
      | some b =>
        rw [hb] at k
        have hl := (bst_lt hb).1
        refine ⟨fun _ => ?_, fun hc => absurd hc (oE_ne (by omega))⟩
        refine q_in b ?_
        rw [show oE (some b) = iI b from rfl, q_cl b, (hr b (by omega)).2.2.2.2.2.2.2.1]
        exact k
    | succ j ih =>
      intro i hi
      obtain ⟨a1, a2, a3, a4, a5, a6, a7, a8, a9⟩ := hr i (by omega)
      have nx := ih (i + 1) (by omega)
      have ei : iI (i : Int) + 1 = iI ((i + 1 : Nat) : Int) := by
        simp only [iI_lit, iI_add]
        exact iI_c (by omega)
      rw [wl_X2_placeOf_6]
      refine q_le n i (fun hc => absurd hc (by omega)) (fun _ => ?_) hz
      refine q_in i ?_
      rw [q_cl i, a6, ei]
      rw [bst] at nx
      refine q_ne (C i) c (fun h1 => ?_) (fun h1 => ?_) rfl e1
      · rw [if_neg (by omega)] at nx; exact nx
      refine cl_counts h0 hd rfl e2 e3 (by omega) b2 b3 (fun h2 h3 => z10 ?_) (fun h2 => z00 ?_)
      · refine cl_stands h0 (bst C D T c dy kn i) rfl rfl (by omega) (fun b hb => by have := (bst_lt hb).1; omega) (fun h4 => z10 ?_) (fun h4 => z00 ?_)
        · rw [if_pos ⟨by omega, h2, h3, h4⟩] at nx; exact nx
        · rw [if_neg (fun hq => h4 hq.2.2.2)] at nx; exact nx
      · rw [if_neg (fun hq => h2 ⟨hq.2.1, hq.2.2.1⟩)] at nx; exact nx
  exact ⟨n + 1, key n 0 (by omega)⟩
