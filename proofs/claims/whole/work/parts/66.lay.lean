/-! the reference's places and the notes -/
def slB (nt : Nat → Nat → Nat) (n : Nat) (pp ff ll : Nat → Nat) : Prop := (∀ j, j < 60 → 0 < ll j → nt (pp j) (ff j) = ll j) ∧ (∀ p f, 0 < nt p f → ∃ j, j < 60 ∧ 0 < ll j ∧ pp j = p ∧ ff j = f) ∧ (∀ i j, i < 60 → j < 60 → 0 < ll i → 0 < ll j → pp i = pp j → ff i = ff j → i = j) ∧ ct (fun j => decide (0 < ll j)) 60 = n
def moR (r : Nat) (nt : Nat → Nat → Nat) (n : Nat) (mp mf ml : Nat → Int32) : Prop := ∃ pp ff ll, slA r pp ff ll mp mf ml ∧ slB nt n pp ff ll
def clR (nt : Nat → Nat → Nat) (n : Nat) (sz : Int32) (P F L He Pu : Nat → Int32) : Prop := (∃ pp ff, rcN nt n pp ff sz P F L) ∧ rcB nt He Pu ∧ nV nt
def nE (nt : Nat → Nat → Nat) (n : Nat) (pp ff : Nat → Nat) : Prop := (∀ i, i < n → 0 < nt (pp i) (ff i)) ∧ (∀ i j, i < j → j < n → lx pp ff i j) ∧ (∀ p f, 0 < nt p f → ∃ i, i < n ∧ pp i = p ∧ ff i = f)
theorem rcN_E {nt : Nat → Nat → Nat} {n : Nat} {pp ff : Nat → Nat} {sz : Int32} {P F L : Nat → Int32} (h : rcN nt n pp ff sz P F L) : nE nt n pp ff := ⟨fun i hi => (h.2.2.1 i hi).1, h.2.2.2.1, h.2.2.2.2⟩
theorem nE_at {nt : Nat → Nat → Nat} {n n' : Nat} {pp ff pp' ff' : Nat → Nat} (h : nE nt n pp ff) (h' : nE nt n' pp' ff') : ∀ i, i < n → i < n' → pp i = pp' i ∧ ff i = ff' i := by
  intro i
  induction i using Nat.strongRecOn with
  | _ i ih =>
    intro hi hi'
    obtain ⟨a1, a2, a3⟩ := h
    obtain ⟨b1, b2, b3⟩ := h'
    obtain ⟨j, j1, j2, j3⟩ := b3 _ _ (a1 i hi)
    obtain ⟨k, k1, k2, k3⟩ := a3 _ _ (b1 i hi')
    rcases Nat.lt_trichotomy j i with q | q | q
    · obtain ⟨e1, e2⟩ := ih j q (by omega) (by omega)
      have := a2 j i q hi
      unfold lx at this
      omega
    · subst q; exact ⟨j2.symm, j3.symm⟩
    · rcases Nat.lt_trichotomy k i with q2 | q2 | q2
      · obtain ⟨e1, e2⟩ := ih k q2 (by omega) (by omega)
        have := b2 k i q2 hi'
        unfold lx at this
        omega
      · subst q2; exact ⟨k2, k3⟩
      · have t1 := b2 i j q j1
        have t2 := a2 i k q2 k1
        unfold lx at t1 t2
        omega
theorem nE_n {nt : Nat → Nat → Nat} {n n' : Nat} {pp ff pp' ff' : Nat → Nat} (h : nE nt n pp ff) (h' : nE nt n' pp' ff') : n = n' := by
  have key : ∀ {n n' : Nat} {pp ff pp' ff' : Nat → Nat}, nE nt n pp ff → nE nt n' pp' ff' → ¬ n < n' := by
    intro n n' pp ff pp' ff' h h' hlt
    obtain ⟨i, i1, i2, i3⟩ := h.2.2 _ _ (h'.1 n hlt)
    obtain ⟨e1, e2⟩ := nE_at h h' i i1 (by omega)
    have := h'.2.1 i n i1 hlt
    unfold lx at this
    omega
  have h1 := key h h'
  have h2 := key h' h
  omega
theorem slB_E {nt : Nat → Nat → Nat} {n r : Nat} {pp ff ll o : Nat → Nat} {mo : Nat → Int32} (h : slB nt n pp ff ll) (ho : orI r pp ff ll 60 n o mo) : nE nt n (fun i => pp (o i)) (fun i => ff (o i)) := by
  obtain ⟨b1, b2, b3, b4⟩ := h
  obtain ⟨o1, o2, o3⟩ := ho
  refine ⟨fun i hi => ?_, fun i j hij hj => ?_, fun p f hp => ?_⟩
  · obtain ⟨w1, w2, -⟩ := o1 i hi
    show 0 < nt (pp (o i)) (ff (o i))
    rw [b1 _ w1 w2]; exact w2
  · have := o2 i j hij hj
    unfold lx at this ⊢
    exact this
  · obtain ⟨j, j1, j2, j3, j4⟩ := b2 p f hp
    obtain ⟨x, x1, x2⟩ := o3 j j1 j2
    exact ⟨x, x1, by show pp (o x) = p; rw [x2]; exact j3, by show ff (o x) = f; rw [x2]; exact j4⟩
theorem pnS_eq {nt : Nat → Nat → Nat} {n : Nat} {pp ff ll : Nat → Nat} (h : slB nt n pp ff ll) (p s : Nat) : pnS pp ff ll p s = nPun nt p s := by
  obtain ⟨b1, b2, b3, b4⟩ := h
  rw [Bool.eq_iff_iff, pnS_iff, nPun_iff]
  constructor
  · rintro ⟨j, j1, j2, j3⟩
    have := of_decide_eq_true j3
    refine ⟨ff j, ?_⟩
    rw [← j2, b1 j j1 (by omega)]
    exact j3
  · rintro ⟨f, f1⟩
    have := of_decide_eq_true f1
    obtain ⟨j, j1, j2, j3, j4⟩ := b2 p f (by omega)
    refine ⟨j, j1, j3, ?_⟩
    rw [← b1 j j1 j2, j3, j4]
    exact f1
theorem slB_add {nt : Nat → Nat → Nat} {n : Nat} {pp ff ll : Nat → Nat} (h : slB nt n pp ff ll) {j0 p a l : Nat} (hj : j0 < 60) (hz : ll j0 = 0) (h0 : nt p a = 0) (hl : 0 < l) : slB (setN nt p a l) (n + 1) (nu pp j0 p) (nu ff j0 a) (nu ll j0 l) := by
  obtain ⟨b1, b2, b3, b4⟩ := h
  have ne : ∀ j, j < 60 → 0 < ll j → ¬ (pp j = p ∧ ff j = a) := by
    rintro j h1 h2 ⟨e1, e2⟩
    have := b1 j h1 h2
    rw [e1, e2, h0] at this
    omega
  refine ⟨fun j h1 h2 => ?_, fun q f hq => ?_, fun i j hi hj2 li lj e1 e2 => ?_, ?_⟩
  · by_cases e : j = j0
    · subst e; rw [nu_s, nu_s, nu_s, setN_s]
    · rw [nu_n _ _ e] at h2
      rw [nu_n _ _ e, nu_n _ _ e, nu_n _ _ e, setN_n _ _ (ne j h1 h2)]
      exact b1 j h1 h2
  · by_cases e : q = p ∧ f = a
    · exact ⟨j0, hj, by rw [nu_s]; exact hl, by rw [nu_s]; exact e.1.symm, by rw [nu_s]; exact e.2.symm⟩
    · rw [setN_n _ _ e] at hq
      obtain ⟨j, j1, j2, j3, j4⟩ := b2 q f hq
      have hne : j ≠ j0 := by
        intro e9
        rw [e9] at j2
        omega
      exact ⟨j, j1, by rw [nu_n _ _ hne]; exact j2, by rw [nu_n _ _ hne]; exact j3, by rw [nu_n _ _ hne]; exact j4⟩
  · by_cases e : i = j0
    · by_cases e9 : j = j0
      · rw [e, e9]
      · subst e
        rw [nu_s, nu_n _ _ e9] at e1 e2
        rw [nu_n _ _ e9] at lj
        exact absurd ⟨e1.symm, e2.symm⟩ (ne j hj2 lj)
    · by_cases e9 : j = j0
      · subst e9
        rw [nu_s, nu_n _ _ e] at e1 e2
        rw [nu_n _ _ e] at li
        exact absurd ⟨e1, e2⟩ (ne i hi li)
      · rw [nu_n _ _ e, nu_n _ _ e9] at e1 e2
        rw [nu_n _ _ e] at li
        rw [nu_n _ _ e9] at lj
        exact b3 i j hi hj2 li lj e1 e2
  · have u := ct_upd (fun j => decide (0 < ll j)) true (i := j0) (n := 60) hj
    rw [b4] at u
    simp only [hz, Nat.lt_irrefl, decide_false, Bool.false_eq_true, if_false, if_true] at u
    have : ct (fun j => decide (0 < nu ll j0 l j)) 60 = ct (nu (fun j => decide (0 < ll j)) j0 true) 60 := ct_cong (fun j hj2 => by
      by_cases e : j = j0
      · subst e; rw [nu_s, nu_s, decide_eq_true hl]
      · rw [nu_n _ _ e, nu_n _ _ e])
    rw [this]
    omega
theorem slB_clr {nt : Nat → Nat → Nat} {n : Nat} {pp ff ll : Nat → Nat} (h : slB nt n pp ff ll) {j0 : Nat} (hj : j0 < 60) (hz : 0 < ll j0) : 1 ≤ n ∧ slB (setN nt (pp j0) (ff j0) 0) (n - 1) pp ff (nu ll j0 0) := by
  obtain ⟨b1, b2, b3, b4⟩ := h
  have u := ct_upd (fun j => decide (0 < ll j)) false (i := j0) (n := 60) hj
  rw [b4] at u
  simp only [hz, decide_true, Bool.false_eq_true, if_false, if_true] at u
  refine ⟨by omega, fun j h1 h2 => ?_, fun q f hq => ?_, fun i j hi hj2 li lj e1 e2 => ?_, ?_⟩
  · have e : j ≠ j0 := by
      intro e
      rw [e, nu_s] at h2
      omega
    rw [nu_n _ _ e] at h2 ⊢
    rw [setN_n _ _ (fun q => e (b3 j j0 h1 hj h2 hz q.1 q.2))]
    exact b1 j h1 h2
  · by_cases e : q = pp j0 ∧ f = ff j0
    · rw [e.1, e.2, setN_s] at hq; omega
    · rw [setN_n _ _ e] at hq
      obtain ⟨j, j1, j2, j3, j4⟩ := b2 q f hq
      have hne : j ≠ j0 := by
        intro e9
        rw [e9] at j3 j4
        exact e ⟨j3.symm, j4.symm⟩
      exact ⟨j, j1, by rw [nu_n _ _ hne]; exact j2, j3, j4⟩
  · have ei : i ≠ j0 := by
      intro e
      rw [e, nu_s] at li
      omega
    have ej : j ≠ j0 := by
      intro e
      rw [e, nu_s] at lj
      omega
    rw [nu_n _ _ ei] at li
    rw [nu_n _ _ ej] at lj
    exact b3 i j hi hj2 li lj e1 e2
  · have : ct (fun j => decide (0 < nu ll j0 0 j)) 60 = ct (nu (fun j => decide (0 < ll j)) j0 false) 60 := ct_cong (fun j hj2 => by
      by_cases e : j = j0
      · subst e; rw [nu_s, nu_s]; rfl
      · rw [nu_n _ _ e, nu_n _ _ e])
    rw [this]
    omega
theorem slB_keep {nt : Nat → Nat → Nat} {n : Nat} {pp ff ll : Nat → Nat} (h : slB nt n pp ff ll) {j0 : Nat} (p a : Nat) (hz : ll j0 = 0) : slB nt n (nu pp j0 p) (nu ff j0 a) ll := by
  obtain ⟨b1, b2, b3, b4⟩ := h
  have ne : ∀ j, 0 < ll j → j ≠ j0 := fun j h e => by rw [e] at h; omega
  refine ⟨fun j h1 h2 => ?_, fun q f hq => ?_, fun i j hi hj2 li lj e1 e2 => ?_, b4⟩
  · rw [nu_n _ _ (ne j h2), nu_n _ _ (ne j h2)]; exact b1 j h1 h2
  · obtain ⟨j, j1, j2, j3, j4⟩ := b2 q f hq
    exact ⟨j, j1, j2, by rw [nu_n _ _ (ne j j2)]; exact j3, by rw [nu_n _ _ (ne j j2)]; exact j4⟩
  · rw [nu_n _ _ (ne i li), nu_n _ _ (ne j lj)] at e1 e2
    exact b3 i j hi hj2 li lj e1 e2
theorem slB_free {nt : Nat → Nat → Nat} {n : Nat} {pp ff ll : Nat → Nat} (h : slB nt n pp ff ll) (hn : n < 60) : ∃ j, j < 60 ∧ ll j = 0 := by
  refine Classical.byContradiction (fun hq => ?_)
  have : ∀ m, m ≤ 60 → ct (fun j => decide (0 < ll j)) m = m := by
    intro m
    induction m with
    | zero => intro _; rfl
    | succ m ih =>
      intro hm
      rw [ct, ih (by omega), if_pos]
      refine decide_eq_true ?_
      rcases Nat.eq_zero_or_pos (ll m) with q | q
      · exact absurd ⟨m, by omega, q⟩ hq
      · exact q
  have h60 := this 60 (by omega)
  rw [h.2.2.2] at h60
  omega
theorem slB_near {nt : Nat → Nat → Nat} {n : Nat} {pp ff ll : Nat → Nat} (h : slB nt n pp ff ll) {p a l : Nat} : (∃ j, j < 60 ∧ 0 < ll j ∧ pp j = p ∧ a < ff j + ll j + 1 ∧ ff j < a + l + 1) ↔ nearN nt p a l := by
  obtain ⟨b1, b2, b3, b4⟩ := h
  constructor
  · rintro ⟨j, j1, j2, j3, j4, j5⟩
    have := b1 j j1 j2
    rw [j3] at this
    exact ⟨ff j, by omega, by omega, j5⟩
  · rintro ⟨f, f1, f2, f3⟩
    obtain ⟨j, j1, j2, j3, j4⟩ := b2 p f f1
    have := b1 j j1 j2
    rw [j3, j4] at this
    exact ⟨j, j1, j2, j3, by omega, by omega⟩
/-- laying within the reference -/
theorem mo_laysN {r : Nat} {nt : Nat → Nat → Nat} {n : Nat} {mp mf ml mt : Nat → Int32} (h : moR r nt n mp mf ml) (hr : r < 6) {p a l : Nat} (hp : p < 24) (hl1 : 1 ≤ l) (hl2 : l ≤ 60) (hal : a + l ≤ 300) (hn : n < 60) {post : Int32 → (Nat → Int32) → (Nat → Int32) → (Nat → Int32) → (Nat → Int32) → Prop}
    (kn : nearN nt p a l → post (-2) mp mf ml mt)
    (ky : ∀ mp' mf' ml' mt', ¬ nearN nt p a l → bornN nt p a l → moR r (setN nt p a l) (n + 1) mp' mf' ml' → frR r mp mp' → frR r mf mf' → frR r ml ml' → post 0 mp' mf' ml' mt')
    (kb : ∀ mp' mf' ml' mt', ¬ nearN nt p a l → ¬ bornN nt p a l → moR r nt n mp' mf' ml' → frR r mp mp' → frR r mf mf' → frR r ml ml' → post (-3) mp' mf' ml' mt') :
    wp_X7_lays (iI r) (iI p) (iI a) (iI l) mp mf ml mt post := by
  obtain ⟨pp, ff, ll, hA, hB⟩ := h
  have nn : (∀ j, j < 60 → 0 < ll j → pp j = p → ¬ (a < ff j + ll j + 1 ∧ ff j < a + l + 1)) → ¬ nearN nt p a l := fun hq hx => by
    obtain ⟨j, j1, j2, j3, j4, j5⟩ := (slB_near hB).mpr hx
    exact hq j j1 j2 j3 ⟨j4, j5⟩
  refine mo_lays hA hr hp hl1 hl2 hal (slB_free hB hn) (fun hq => kn ((slB_near hB).mp hq)) (fun j0 mp' mf' ml' mt' hj hz hq hA' f1 f2 f3 hb => ?_) (fun j0 mp' mf' ml' mt' hj hz hq hA' f1 f2 f3 hb => ?_)
  · have hB' := slB_add hB hj hz (near_0 (nn hq)) hl1
    refine ky mp' mf' ml' mt' (nn hq) (fun s s1 s2 => ?_) ⟨_, _, _, hA', hB'⟩ f1 f2 f3
    exact bearsAt_cong (fun q _ => pnS_eq hB' q s) (hb s s1 s2)
  · have hB' := slB_add hB hj hz (near_0 (nn hq)) hl1
    refine kb mp' mf' ml' mt' (nn hq) (fun hq2 => hb (fun s s1 s2 => ?_)) ⟨_, _, _, hA', slB_keep hB p a hz⟩ f1 f2 f3
    exact bearsAt_cong (fun q _ => (pnS_eq hB' q s).symm) (hq2 s s1 s2)
