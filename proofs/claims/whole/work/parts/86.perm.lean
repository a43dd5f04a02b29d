/-! worlds that differ by their order alone; calls by permutation -/
section PM
theorem pm_P {D : va_G} {w w' : va_W} {H : Heap} (hp : w.Perm w') (h : va_P D vwCl w H) : va_P D vwCl w' H := by
  intro k q hq
  have hm : q ∈ w := hp.mem_iff.mpr (List.mem_of_getElem? hq)
  obtain ⟨i, hi⟩ := List.mem_iff_getElem?.mp hm
  exact h i q hi
theorem pm_nd {ws : va_W} : (∀ (i j : Nat) (p q : Nat × va_E), ws[i]? = some p → ws[j]? = some q → p.1 = q.1 → i = j) ↔ (ws.map Prod.fst).Pairwise (fun a b => a ≠ b) := by
  rw [List.pairwise_iff_getElem]
  constructor
  · intro h i j hi hj hij e
    rw [List.length_map] at hi hj
    rw [List.getElem_map, List.getElem_map] at e
    have := h i j ws[i] ws[j] (List.getElem?_eq_getElem hi) (List.getElem?_eq_getElem hj) e
    omega
  · intro h i j p q hi hj e
    obtain ⟨hi', e1⟩ := List.getElem?_eq_some_iff.mp hi
    obtain ⟨hj', e2⟩ := List.getElem?_eq_some_iff.mp hj
    subst e1; subst e2
    rcases Nat.lt_trichotomy i j with h1 | h1 | h1
    · have := h i j (by rw [List.length_map]; exact hi') (by rw [List.length_map]; exact hj') h1
      rw [List.getElem_map, List.getElem_map] at this
      exact absurd e this
    · exact h1
    · have := h j i (by rw [List.length_map]; exact hj') (by rw [List.length_map]; exact hi') h1
      rw [List.getElem_map, List.getElem_map] at this
      exact absurd e.symm this
theorem pm_D {A : Nat → Prop} {w w' : va_W} (hp : w.Perm w') (h : va_D A w) : va_D A w' := by
  refine ⟨pm_nd.mpr (((hp.map Prod.fst).pairwise_iff (fun h => Ne.symm h)).mp (pm_nd.mp h.1)), fun k q hq => ?_⟩
  have hm : q ∈ w := hp.mem_iff.mpr (List.mem_of_getElem? hq)
  obtain ⟨i, hi⟩ := List.mem_iff_getElem?.mp hm
  exact h.2 i q hi
theorem pm_join {A0 : Nat → Prop} {D : va_G} {wc wr w1 : va_W} {H H1 : Heap} (hP : va_P D vwCl (wc ++ wr) H) (hD : va_D A0 (wc ++ wr))
    (hk : ∀ q : Nat, q < H.size → ¬ va_A wc H.size q → H1[q]? = H[q]?) (hF : ∀ q, va_A wc H.size q → A0 q) (hP1 : va_P D vwCl w1 H1) (hD1 : va_D (va_A wc H.size) w1) : va_P D vwCl (wr ++ w1) H1 ∧ va_D A0 (wr ++ w1) := by
  have key : ∀ (k : Nat) (q : Nat × va_E), wr[k]? = some q → (wc ++ wr)[wc.length + k]? = some q := by
    intro k q h
    rw [List.getElem?_append_right (Nat.le_add_right _ _), Nat.add_sub_cancel_left]
    exact h
  have hnot : ∀ (k : Nat) (q : Nat × va_E), wr[k]? = some q → ¬ va_A wc H.size q.1 := by
    intro k q h hh
    rcases hh with ⟨j, e, hj⟩ | hh
    · have hlt := (List.getElem?_eq_some_iff.mp hj).1
      have hj' : (wc ++ wr)[j]? = some (q.1, e) := by rw [List.getElem?_append_left hlt]; exact hj
      have := hD.1 _ _ _ _ hj' (key k q h) rfl
      omega
    · have := (hP _ _ (key k q h)).lt
      omega
  refine ⟨fun k q hq => ?_, va_D.app ⟨fun i j p q hi hj e => ?_, fun k q hq => hD.2 _ _ (key k q hq)⟩ (hD1.weaken (fun k q _ h => hF q.1 h)) (fun i j p q hi hj e => ?_)⟩
  · by_cases hk1 : k < wr.length
    · rw [List.getElem?_append_left hk1] at hq
      have h9 := hP _ _ (key k q hq)
      exact h9.kept (hk q.1 h9.lt (hnot k q hq))
    · rw [List.getElem?_append_right (Nat.le_of_not_lt hk1)] at hq
      exact hP1 _ _ hq
  · have := hD.1 _ _ _ _ (key i p hi) (key j q hj) e
    omega
  · exact hnot i p hi (by rw [e]; exact hD1.2 j q hj)
section GP
variable {p : Program} {l : Launch} {e : Env} {R : Room} {s : State} {m : MethodId} {args : Array Value} {below : List Frame} {meth : Method} {c : Code} {H : Heap} {locs : List Loc} {cells slots : Nat} {Q : State → Prop}
variable {pc : Nat} {ls : Array Slot} {rest st0 : List Value} {a : Array Value} {A : Nat → Prop} {H0 : Heap} {mc ms : Nat} {D : va_G} {tys : List (ClassId × FieldType)}
theorem pm_free {wc wr : va_W} (hD : va_D A (wc ++ wr)) (hS : va_S A H0 H locs) (hA : ∀ q, H0.size ≤ q → A q) : ∀ q, va_A wc H.size q → A q := by
  intro q h
  rcases h with ⟨k, e, h⟩ | h
  · exact hD.2 k (q, e) (by rw [List.getElem?_append_left (List.getElem?_eq_some_iff.mp h).1]; exact h)
  · exact hA q (Nat.le_trans hS.1 h)
theorem pm_lP {wc wr : va_W} (h : va_P D vwCl (wc ++ wr) H) : va_P D vwCl wc H := fun k q hq => h k q (by rw [List.getElem?_append_left (List.getElem?_eq_some_iff.mp hq).1]; exact hq)
theorem pm_lD {wc wr : va_W} (h : va_D A (wc ++ wr)) : va_D A wc := by
  have key : ∀ (k : Nat) (q : Nat × va_E), wc[k]? = some q → (wc ++ wr)[k]? = some q := fun k q hq => by rw [List.getElem?_append_left (List.getElem?_eq_some_iff.mp hq).1]; exact hq
  exact ⟨fun i j p q hi hj e => h.1 i j p q (key i p hi) (key j q hj) e, fun k q hq => h.2 k q (key k q hq)⟩
/-- a call whose world stands first in the caller's -/
theorem gp_calli {S : Type} {post : Int32 → S → Prop} {Wf : S → va_W} {wc wr : va_W} (hr : va_Run p l e R s m args below meth c H locs cells slots mc ms (F0 m pc ls st0) rest (va_Qi post (fun u t => gB D tys (va_A wc H.size) (Wf u) t) (va_A wc H.size) a) (va_A wc H.size)) (hP : va_P D vwCl (wc ++ wr) H) (hD : va_D A (wc ++ wr)) (hS : va_S A H0 H locs) (hA : ∀ q, H0.size ≤ q → A q)
    (kk : ∀ (r : Int32) (u : S) (H1 : Heap) (locs1 : List Loc), post r u → va_P D vwCl (wr ++ Wf u) H1 → va_D A (wr ++ Wf u) → va_S A H0 H1 locs1 → W p l e R s m args below meth c H1 locs1 (cells + mc) (slots + ms) Q (F0 m (pc + 3) ls (.int r :: rest))) : W p l e R s m args below meth c H locs cells slots Q (F0 m pc ls st0) := by
  have hF := pm_free hD hS hA
  refine va_calli hr hS (fun q _ h => hF q h) hF (fun r u t H1 locs1 ht hvm hw hB hz1 hk1 hS1 => ?_)
  obtain ⟨hP1, hK1, hD1⟩ := hB
  rw [ht] at hP1
  obtain ⟨h1, h2⟩ := pm_join hP hD hk1 hF hP1 hD1
  exact kk r u H1 locs1 hw h1 h2 hS1
theorem gp_callv {S : Type} {post : S → Prop} {Wf : S → va_W} {wc wr : va_W} (hr : va_Run p l e R s m args below meth c H locs cells slots mc ms (F0 m pc ls st0) rest (va_Qv post (fun u t => gB D tys (va_A wc H.size) (Wf u) t) (va_A wc H.size) a) (va_A wc H.size)) (hP : va_P D vwCl (wc ++ wr) H) (hD : va_D A (wc ++ wr)) (hS : va_S A H0 H locs) (hA : ∀ q, H0.size ≤ q → A q)
    (kk : ∀ (u : S) (H1 : Heap) (locs1 : List Loc), post u → va_P D vwCl (wr ++ Wf u) H1 → va_D A (wr ++ Wf u) → va_S A H0 H1 locs1 → W p l e R s m args below meth c H1 locs1 (cells + mc) (slots + ms) Q (F0 m (pc + 3) ls rest)) : W p l e R s m args below meth c H locs cells slots Q (F0 m pc ls st0) := by
  have hF := pm_free hD hS hA
  refine va_callv hr hS (fun q _ h => hF q h) hF (fun u t H1 locs1 ht hvm hw hB hz1 hk1 hS1 => ?_)
  obtain ⟨hP1, hK1, hD1⟩ := hB
  rw [ht] at hP1
  obtain ⟨h1, h2⟩ := pm_join hP hD hk1 hF hP1 hD1
  exact kk u H1 locs1 hw h1 h2 hS1
end GP
theorem pm_flat {l1 l2 : List va_W} (h : l1.Perm l2) : l1.flatten.Perm l2.flatten := by
  induction h with
  | nil => exact List.Perm.refl _
  | cons x _ ih => rw [List.flatten_cons, List.flatten_cons]; exact ih.append_left x
  | swap x y l =>
    rw [List.flatten_cons, List.flatten_cons, List.flatten_cons, List.flatten_cons, ← List.append_assoc, ← List.append_assoc]
    exact List.perm_append_comm.append_right _
  | trans _ _ i1 i2 => exact i1.trans i2
theorem pm_idx (l : List va_W) (is : List Nat) (h : is.Perm (List.range l.length)) : l.flatten.Perm (is.map (fun i => l.getD i [])).flatten := by
  refine pm_flat ?_
  have h1 : (List.range l.length).map (fun i => l.getD i []) = l := by
    refine List.ext_getElem (by simp) (fun i h1 h2 => ?_)
    rw [List.getElem_map, List.getElem_range, List.getD_eq_getElem?_getD, List.getElem?_eq_getElem h2]
    rfl
  have h2 := (h.map (fun i => l.getD i [])).symm
  rw [h1] at h2
  exact h2
/-- the rolls' worlds, one behind the other -/
def wRx (g : Nat → va_W) : Nat → va_W
  | 0 => []
  | n + 1 => wRx g n ++ g n
def nuW (g : Nat → va_W) (r : Nat) (x : va_W) : Nat → va_W := fun i => if i = r then x else g i
theorem nuW_s {g : Nat → va_W} {r : Nat} {x : va_W} : nuW g r x r = x := if_pos rfl
theorem nuW_o {g : Nat → va_W} {r i : Nat} {x : va_W} (h : i ≠ r) : nuW g r x i = g i := if_neg h
theorem nuW_n {g : Nat → va_W} {r : Nat} {x y : va_W} : nuW (nuW g r x) r y = nuW g r y := by
  funext i
  by_cases h : i = r
  · subst h; rw [nuW_s, nuW_s]
  · rw [nuW_o h, nuW_o h, nuW_o h]
theorem wRx_congr {g g' : Nat → va_W} : ∀ {n : Nat}, (∀ i, i < n → g i = g' i) → wRx g n = wRx g' n
  | 0, _ => rfl
  | n + 1, h => by
    show wRx g n ++ g n = wRx g' n ++ g' n
    rw [wRx_congr (fun i hi => h i (by omega)), h n (by omega)]
theorem wRx_cut {g : Nat → va_W} {r : Nat} : ∀ {n : Nat}, r < n → (wRx g n).Perm (g r ++ wRx (nuW g r []) n)
  | 0, h => absurd h (by omega)
  | n + 1, h => by
    show (wRx g n ++ g n).Perm (g r ++ (wRx (nuW g r []) n ++ nuW g r [] n))
    by_cases e : r = n
    · subst e
      rw [nuW_s, List.append_nil, wRx_congr (g := nuW g r []) (g' := g) (fun i hi => nuW_o (by omega))]
      exact List.perm_append_comm
    · rw [nuW_o (fun h => e h.symm), ← List.append_assoc]
      exact (wRx_cut (by omega)).append_right _
theorem wRx_put {g : Nat → va_W} {r n : Nat} {x : va_W} (h : r < n) : (wRx (nuW g r x) n).Perm (x ++ wRx (nuW g r []) n) := by
  have h1 := wRx_cut (g := nuW g r x) h
  rw [nuW_s, nuW_n] at h1
  exact h1
end PM
