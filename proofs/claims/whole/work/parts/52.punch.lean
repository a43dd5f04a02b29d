/-! the punches: what n sights (copy, pitch, faulty or not) leave of each pitch -/
def spL (C P : Nat → Nat) (B : Nat → Bool) (p : Nat) : Nat → Nat
  | 0 => 1
  | i + 1 => if P i = p ∧ B i = false ∧ spL C P B p i < C i + 1 then C i + 1 else spL C P B p i
def spG (C P : Nat → Nat) (B : Nat → Bool) (p : Nat) : Nat → Nat
  | 0 => 1001
  | i + 1 => if P i = p ∧ B i = true ∧ C i < spG C P B p i then C i else spG C P B p i
def bi (b : Bool) : Int32 := if b then 1 else 0
theorem spL_rng {C P : Nat → Nat} {B : Nat → Bool} {p n : Nat} (h : ∀ i, i < n → C i < 1001) : ∀ i, i ≤ n → spL C P B p i ≤ 1001
  | 0, _ => by simp [spL]
  | i + 1, hi => by
    have := spL_rng (P := P) (B := B) (p := p) h i (by omega)
    have := h i (by omega)
    rw [spL]
    split <;> omega
theorem spG_rng {C P : Nat → Nat} {B : Nat → Bool} {p n : Nat} (h : ∀ i, i < n → C i < 1001) : ∀ i, i ≤ n → spG C P B p i ≤ 1001
  | 0, _ => by simp [spG]
  | i + 1, hi => by
    have := spG_rng (P := P) (B := B) (p := p) h i (by omega)
    have := h i (by omega)
    rw [spG]
    split <;> omega
theorem spL_cong {C P C' P' : Nat → Nat} {B B' : Nat → Bool} {p n : Nat} (h : ∀ i, i < n → C i = C' i ∧ P i = P' i ∧ B i = B' i) : ∀ i, i ≤ n → spL C P B p i = spL C' P' B' p i
  | 0, _ => rfl
  | i + 1, hi => by
    obtain ⟨h1, h2, h3⟩ := h i (by omega)
    rw [spL, spL, spL_cong h i (by omega), h1, h2, h3]
theorem spG_cong {C P C' P' : Nat → Nat} {B B' : Nat → Bool} {p n : Nat} (h : ∀ i, i < n → C i = C' i ∧ P i = P' i ∧ B i = B' i) : ∀ i, i ≤ n → spG C P B p i = spG C' P' B' p i
  | 0, _ => rfl
  | i + 1, hi => by
    obtain ⟨h1, h2, h3⟩ := h i (by omega)
    rw [spG, spG, spG_cong h i (by omega), h1, h2, h3]
/-- the sights in the reference's rows -/
def puM (n : Nat) (C P : Nat → Nat) (B : Nat → Bool) (sg : Int32) (mc mp mf : Nat → Int32) : Prop := n ≤ 200 ∧ sg = iI n ∧ ∀ i, i < n → 1 ≤ C i ∧ C i < 1001 ∧ P i < 24 ∧ mc i = iI (C i) ∧ mp i = iI (P i) ∧ mf i = bi (B i)
/-- what is left of each pitch, in the class's rows -/
def puC (n : Nat) (C P : Nat → Nat) (B : Nat → Bool) (sg : Int32) (ul ug : Nat → Int32) : Prop := n ≤ 200 ∧ sg = iI n ∧ ∀ p, p < 24 → ul p = iI (spL C P B p n) ∧ ug p = iI (spG C P B p n)
def puR (n : Nat) (C P : Nat → Nat) : Prop := ∀ i, i < n → 1 ≤ C i ∧ C i < 1001 ∧ P i < 24
theorem mo_spans {n : Nat} {C P : Nat → Nat} {B : Nat → Bool} {sg : Int32} {mc mp mf : Nat → Int32} (h : puM n C P B sg mc mp mf) {v : Int32} {p : Nat} (hv : v = iI p) (hp : p < 24) {l0 g0 : Int32} {post : Int32 → Int32 → Int32 → Prop} (k : post (if spL C P B p n ≤ spG C P B p n then 1 else 0) (iI (spL C P B p n)) (iI (spG C P B p n))) : wp_X7_spans sg mc mp mf v l0 g0 post := by
  obtain ⟨hn, hz, hr⟩ := h
  have hC : ∀ i, i < n → C i < 1001 := fun i hi => (hr i hi).2.1
  unfold wp_X7_spans
  have key : ∀ (j i : Nat), i + j = n → wl_X7_spans_14 sg mc mp mf v post (j + 1) (iI i) (iI (spL C P B p i)) (iI (spG C P B p i)) := by
    intro j
    induction j with
    | zero =>
      intro i hi
      have e : i = n := by omega
      subst e
      have r1 := spL_rng (P := P) (B := B) (p := p) hC i (by omega)
      have r2 := spG_rng (P := P) (B := B) (p := p) hC i (by omega)
      rw [wl_X7_spans_14]
      refine q_le i i (fun _ => ?_) (fun hc => absurd hc (by omega)) hz
      refine q_lt (spG C P B p i) (spL C P B p i) (fun hc => ?_) (fun hc => ?_)
      · rw [if_neg (by omega)] at k; exact k
      · rw [if_pos (by omega)] at k; exact k
    | succ j ih =>
      intro i hi
      obtain ⟨a1, a2, a3, a4, a5, a6⟩ := hr i (by omega)
      have r1 := spL_rng (P := P) (B := B) (p := p) hC i (by omega)
      have r2 := spG_rng (P := P) (B := B) (p := p) hC i (by omega)
      have nx := ih (i + 1) (by omega)
      have ei : iI (i : Int) + 1 = iI ((i + 1 : Nat) : Int) := by
        simp only [iI_lit, iI_add]
        exact iI_c (by omega)
      rw [wl_X7_spans_14]
      refine q_le n i (fun hc => absurd hc (by omega)) (fun _ => ?_) hz
      refine q_in i ?_
      rw [q_cl i, a4, a5, a6, ei]
      have e67 : ∀ (l g : Nat), l ≤ 1001 → (B i = true → l = spL C P B p (i + 1)) → (B i = false → P i = p → (if l < C i + 1 then C i + 1 else l) = spL C P B p (i + 1)) → P i = p → g = spG C P B p (i + 1) → wl_X7_spans_67 sg mc mp mf v post (wl_X7_spans_14 sg mc mp mf v post (j + 1)) (iI i) (iI l) (iI g) := by
        intro l g hl h1 h2 hP hg
        unfold wl_X7_spans_67
        refine q_in i ?_
        rw [q_cl i, a6, a4, ei]
        cases hB : B i with
        | true =>
          refine ⟨fun _ => ?_, fun hc => absurd hc (by decide)⟩
          rw [h1 hB, hg]; exact nx
        | false =>
          refine ⟨fun hc => absurd rfl hc, fun _ => ?_⟩
          have h2 := h2 hB hP
          refine q_in i ?_
          refine q_le (C i + 1) l (fun hc => ?_) (fun hc => ?_)
          · rw [if_neg (by omega)] at h2
            rw [h2, hg]; exact nx
          · refine q_in i ?_
            rintro z rfl
            rw [if_pos (by omega)] at h2
            rw [show iI (C i : Int) + 1 = iI ((C i + 1 : Nat) : Int) by simp only [iI_lit, iI_add]; exact iI_c (by omega), h2, hg]
            exact nx
      refine q_eq (P i) p (fun hP => ?_) (fun hP => ?_) rfl hv
      · have hP : P i = p := by omega
        refine q_in i ?_
        cases hB : B i with
        | false =>
          refine ⟨fun _ => ?_, fun hc => absurd rfl hc⟩
          refine e67 _ _ (by omega) (fun h9 => by rw [hB] at h9; cases h9) (fun _ _ => ?_) hP ?_
          · rw [spL]; simp only [hP, hB, true_and]
          · rw [spG]; simp only [hP, hB, true_and]; simp
        | true =>
          refine ⟨fun hc => absurd hc (by decide), fun _ => ?_⟩
          refine q_in i ?_
          refine q_le (spG C P B p i) (C i) (fun hc => ?_) (fun hc => ?_)
          · refine e67 _ _ (by omega) (fun _ => ?_) (fun h9 => by rw [hB] at h9; cases h9) hP ?_
            · rw [spL]; simp only [hP, hB, true_and]; simp
            · rw [spG, if_neg (by omega)]
          · refine q_in i ?_
            rintro z rfl
            refine e67 _ _ (by omega) (fun _ => ?_) (fun h9 => by rw [hB] at h9; cases h9) hP ?_
            · rw [spL]; simp only [hP, hB, true_and]; simp
            · rw [spG, if_pos ⟨hP, hB, by omega⟩]
      · have hP : ¬ P i = p := by omega
        rw [spL, spG, if_neg (by omega), if_neg (by omega)] at nx
        exact nx
  exact ⟨n + 1, key n 0 (by omega)⟩
def sightOk (n : Nat) (v1 v2 : Int32) : Prop := ∃ c p : Nat, 1 ≤ c ∧ c < 1001 ∧ p < 24 ∧ v1 = iI c ∧ v2 = iI p ∧ n < 200
theorem mo_sight_n {n : Nat} {C P : Nat → Nat} {B : Nat → Bool} {sg th : Int32} {mc mp mf : Nat → Int32} (h : puM n C P B sg mc mp mf) {v1 v2 v3 : Int32} (hv : ¬ sightOk n v1 v2) {post : Int32 → Int32 → Int32 → (Nat → Int32) → (Nat → Int32) → (Nat → Int32) → Prop} (k : post (-1) 0 sg mc mp mf) : wp_X7_sight v1 v2 v3 th sg mc mp mf post := by
  obtain ⟨hn, hz, hr⟩ := h
  unfold wp_X7_sight
  refine sp_within 1 1000 (fun z1 a1 a2 e1 => z10 ?_) (fun _ => z00 k)
  refine sp_within 0 23 (fun z2 b1 b2 e2 => z10 ?_) (fun _ => z00 k)
  obtain ⟨c, hc, e1⟩ := iI_nat (by omega) e1
  obtain ⟨p, hp, e2⟩ := iI_nat b1 e2
  refine q_ne n 200 (fun h9 => absurd ⟨c, p, by omega, by omega, by omega, e1, e2, by omega⟩ hv) (fun _ => k) hz
theorem mo_sight_y {n : Nat} {C P : Nat → Nat} {B : Nat → Bool} {sg th : Int32} {mc mp mf : Nat → Int32} (h : puM n C P B sg mc mp mf) {c p : Nat} (h1 : 1 ≤ c) (h2 : c < 1001) (h3 : p < 24) (h4 : n < 200) (b : Bool) {post : Int32 → Int32 → Int32 → (Nat → Int32) → (Nat → Int32) → (Nat → Int32) → Prop} (k : ∀ sg' mc' mp' mf', puM (n + 1) (nu C n c) (nu P n p) (nu B n b) sg' mc' mp' mf' → post (iI ((n + 1 : Nat) : Int)) 0 sg' mc' mp' mf') : wp_X7_sight (iI c) (iI p) (bi b) th sg mc mp mf post := by
  obtain ⟨hn, hz, hr⟩ := h
  unfold wp_X7_sight
  refine sp_within 1 1000 (fun z1 a1 a2 e1 => z10 ?_) (fun hc => absurd hc (by rw [tI (by omega)]; omega))
  refine sp_within 0 23 (fun z2 b1 b2 e2 => z10 ?_) (fun hc => absurd hc (by rw [tI (by omega)]; omega))
  refine q_ne n 200 (fun _ => ?_) (fun h9 => absurd h9 (by omega)) hz
  refine q_in n ?_ hz
  rintro a3 rfl
  refine q_in n ?_ hz
  rintro a4 rfl
  refine q_in n ?_ hz
  rintro a5 rfl
  have e9 : sg + 1 = iI ((n + 1 : Nat) : Int) := by rw [hz]; simp only [iI_lit, iI_add]; exact iI_c (by omega)
  rw [e9]
  refine k _ _ _ _ ⟨by omega, rfl, fun i hi => ?_⟩
  rw [q_cl n hz]
  by_cases e : i = n
  · subst e
    rw [nu_s, nu_s, nu_s, pk_us, pk_us, pk_us]
    refine ⟨h1, h2, h3, rfl, rfl, ?_⟩
    cases b <;> decide
  · rw [nu_n _ _ e, nu_n _ _ e, nu_n _ _ e, pk_un e, pk_un e, pk_un e]
    exact hr i (by omega)
theorem cl_sight_n {n : Nat} {C P : Nat → Nat} {B : Nat → Bool} {sg : Int32} {ul ug : Nat → Int32} (h : puC n C P B sg ul ug) {v1 v2 v3 : Int32} (hv : ¬ sightOk n v1 v2) {post : Int32 → (Nat → Int32) → (Nat → Int32) → Int32 → Prop} (k : post (-1) ul ug sg) : wp_X6_sight v1 v2 v3 ul ug sg post := by
  obtain ⟨hn, hz, hr⟩ := h
  unfold wp_X6_sight
  refine sc_isCopy (fun c c1 c2 e1 => z10 ?_) (fun _ => z00 k)
  refine sc_isPitch (fun p p1 e2 => y10 ?_) (fun _ => y00 k)
  unfold wp_X3_see
  refine q_lt n 200 (fun h9 => absurd ⟨c, p, c1, c2, p1, e1, e2, by omega⟩ hv) (fun _ => k) hz
theorem cl_sight_y {n : Nat} {C P : Nat → Nat} {B : Nat → Bool} {sg : Int32} {ul ug : Nat → Int32} (h : puC n C P B sg ul ug) (hR : puR n C P) {c p : Nat} (h1 : 1 ≤ c) (h2 : c < 1001) (h3 : p < 24) (h4 : n < 200) (b : Bool) {post : Int32 → (Nat → Int32) → (Nat → Int32) → Int32 → Prop} (k : ∀ sg' ul' ug', puC (n + 1) (nu C n c) (nu P n p) (nu B n b) sg' ul' ug' → post (iI ((n + 1 : Nat) : Int)) ul' ug' sg') : wp_X6_sight (iI c) (iI p) (bi b) ul ug sg post := by
  obtain ⟨hn, hz, hr⟩ := h
  have hC : ∀ i, i < n → C i < 1001 := fun i hi => (hR i hi).2.1
  have cg : ∀ i, i < n → C i = nu C n c i ∧ P i = nu P n p i ∧ B i = nu B n b i := fun i hi => by
    rw [nu_n _ _ (by omega), nu_n _ _ (by omega), nu_n _ _ (by omega)]
    exact ⟨rfl, rfl, rfl⟩
  unfold wp_X6_sight
  refine sc_isCopy (fun _ _ _ _ => z10 ?_) (fun hc => absurd hc (by rw [tI (by omega)]; omega))
  refine sc_isPitch (fun _ _ _ => y10 ?_) (fun hc => absurd hc (by rw [tI (by omega)]; omega))
  unfold wp_X3_see
  obtain ⟨q1, q2⟩ := hr p h3
  have r1 := spL_rng (P := P) (B := B) (p := p) hC n (by omega)
  have r2 := spG_rng (P := P) (B := B) (p := p) hC n (by omega)
  have e9 : sg + 1 = iI ((n + 1 : Nat) : Int) := by rw [hz]; simp only [iI_lit, iI_add]; exact iI_c (by omega)
  refine q_lt n 200 (fun _ => ?_) (fun h9 => absurd h9 (by omega)) hz
  cases b with
  | false =>
    refine ⟨fun _ => ?_, fun hc => absurd rfl hc⟩
    refine q_in p ?_
    rw [q_cl p, q1]
    rintro z1 rfl
    refine q_in p ?_
    rintro a2 rfl
    unfold wl_X3_see_53
    rw [e9]
    refine k _ _ _ ⟨by omega, rfl, fun j hj => ?_⟩
    rw [spL, spG, ← spL_cong cg n (by omega), ← spG_cong cg n (by omega), nu_s, nu_s, nu_s]
    obtain ⟨w1, w2⟩ := hr j hj
    by_cases e : j = p
    · subst e
      rw [pk_us]
      refine ⟨?_, ?_⟩
      · rw [show iI (c : Int) + 1 = iI ((c + 1 : Nat) : Int) by simp only [iI_lit, iI_add]; exact iI_c (by omega)]
        by_cases hlt : spL C P B j n < c + 1
        · rw [if_pos ((iI_lt (by omega) (by omega) (by omega) (by omega)).mpr (by omega)), if_pos ⟨rfl, rfl, hlt⟩]
        · rw [if_neg (fun hc => hlt (by have := (iI_lt (by omega) (by omega) (by omega) (by omega)).mp hc; omega)), if_neg (fun hc => hlt hc.2.2)]
      · rw [if_neg (fun hc => by cases hc.2.1)]; exact w2
    · rw [pk_un e, if_neg (fun hc => e hc.1.symm), if_neg (fun hc => e hc.1.symm)]
      exact ⟨w1, w2⟩
  | true =>
    refine ⟨fun hc => absurd hc (by decide), fun _ => ?_⟩
    refine q_in p ?_
    rw [q_cl p, q2]
    rintro z1 rfl
    refine q_in p ?_
    rintro a2 rfl
    unfold wl_X3_see_53
    rw [e9]
    refine k _ _ _ ⟨by omega, rfl, fun j hj => ?_⟩
    rw [spL, spG, ← spL_cong cg n (by omega), ← spG_cong cg n (by omega), nu_s, nu_s, nu_s]
    obtain ⟨w1, w2⟩ := hr j hj
    by_cases e : j = p
    · subst e
      rw [pk_us]
      refine ⟨?_, ?_⟩
      · rw [if_neg (fun hc => by cases hc.2.1)]; exact w1
      · by_cases hlt : c < spG C P B j n
        · rw [if_pos ((iI_lt (by omega) (by omega) (by omega) (by omega)).mpr (by omega)), if_pos ⟨rfl, rfl, hlt⟩]
        · rw [if_neg (fun hc => hlt (by have := (iI_lt (by omega) (by omega) (by omega) (by omega)).mp hc; omega)), if_neg (fun hc => hlt hc.2.2)]
    · rw [pk_un e, if_neg (fun hc => e hc.1.symm), if_neg (fun hc => e hc.1.symm)]
      exact ⟨w1, w2⟩
