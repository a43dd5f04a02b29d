/-! what class and reference have in common at the law's loop -/
section INV
def RO (cI cZ cR : ClassId) (gr : va_W) (q : Option Nat) (nt : Nat → Nat → Nat) (n : Nat) (mu : Nat → Nat) (k : Nat) : Prop := ∃ (ad : Nat → Nat) (P F L : Nat → Int32) (sz : Int32) (He Pu Mk : Nat → Int32) (mk : Int32), gr = w_R cI cZ cR ad P F L sz He Pu Mk mk ∧ q = some (ad 0) ∧ clR nt n sz P F L He Pu ∧ tpC mu k Mk mk ∧ tpV mu
def I1 (cI cZ cR : ClassId) (R r : Nat) (gr : va_W) (q : Option Nat) (mp mf ml ma ms mt : Nat → Int32) : Prop := ∃ (nt : Nat → Nat → Nat) (n : Nat) (mu : Nat → Nat) (k : Nat), moR r nt n mp mf ml ∧ tpM r mu k ma ms mt ∧ ((r < R ∧ RO cI cZ cR gr q nt n mu k) ∨ (R ≤ r ∧ gr = [] ∧ nt = (fun _ _ => 0) ∧ n = 0 ∧ mu = (fun _ => 0) ∧ k = 0))
def IR (cI cZ cR : ClassId) (R : Nat) (g : Nat → va_W) (rr : Nat → Option Nat) (mp mf ml ma ms mt : Nat → Int32) : Prop := ∀ r, r < 6 → I1 cI cZ cR R r (g r) (rr r) mp mf ml ma ms mt
theorem I1_fr {cI cZ cR : ClassId} {R r r' : Nat} {gr : va_W} {q : Option Nat} {mp mf ml ma ms mt mp' mf' ml' ma' ms' mt' : Nat → Int32} (h : I1 cI cZ cR R r' gr q mp mf ml ma ms mt) (hne : r' ≠ r) (f1 : frR r mp mp') (f2 : frR r mf mf') (f3 : frR r ml ml') (f4 : frA r ma ma') (f5 : frM r ms ms') (f6 : frM r mt mt') : I1 cI cZ cR R r' gr q mp' mf' ml' ma' ms' mt' := by
  obtain ⟨nt, n, mu, k, h1, h2, h3⟩ := h
  exact ⟨nt, n, mu, k, moR_fr h1 hne f1 f2 f3, tpM_fr h2 hne f4 f5 f6, h3⟩
theorem IR_up {cI cZ cR : ClassId} {R r : Nat} {g : Nat → va_W} {rr : Nat → Option Nat} {gr : va_W} {mp mf ml ma ms mt mp' mf' ml' ma' ms' mt' : Nat → Int32} (h : IR cI cZ cR R g rr mp mf ml ma ms mt) (h1 : I1 cI cZ cR R r gr (rr r) mp' mf' ml' ma' ms' mt') (f1 : frR r mp mp') (f2 : frR r mf mf') (f3 : frR r ml ml') (f4 : frA r ma ma') (f5 : frM r ms ms') (f6 : frM r mt mt') : IR cI cZ cR R (nuW g r gr) rr mp' mf' ml' ma' ms' mt' := by
  intro r' hr'
  by_cases e : r' = r
  · subst e
    rw [nuW_s]; exact h1
  · rw [nuW_o e]; exact I1_fr (h r' hr') e f1 f2 f3 f4 f5 f6
theorem frR_r {r : Nat} {f : Nat → Int32} : frR r f f := fun _ _ => rfl
theorem frA_r {r : Nat} {f : Nat → Int32} : frA r f f := fun _ _ => rfl
theorem frM_r {r : Nat} {f : Nat → Int32} : frM r f f := fun _ _ => rfl
def SC (cp cs : Nat → Int32) (cz : Int32) (mp ms : Nat → Int32) (mz : Int32) : Prop := ∃ (m : Nat) (jp js : Nat → Nat), scC m jp js cp cs cz ∧ scC m jp js mp ms mz
def PU (ul ug : Nat → Int32) (sg ms : Int32) (mc mp mf : Nat → Int32) : Prop := ∃ (n : Nat) (C P : Nat → Nat) (B : Nat → Bool), puC n C P B sg ul ug ∧ puM n C P B ms mc mp mf ∧ puR n C P
def PO (calls : Nat) (oc od op ot : Nat → Int32) (os td : Int32) (ml : Int32) (lc ld lp lt : Nat → Int32) (mn : Int32) : Prop := ∃ (n d : Nat) (C D P T : Nat → Nat), poC n d C D P T os td oc od op ot ∧ poC n d C D P T ml mn lc ld lp lt ∧ d ≤ 1000 * calls
theorem PO_1 {calls : Nat} {oc od op ot : Nat → Int32} {os td ml : Int32} {lc ld lp lt : Nat → Int32} {mn : Int32} (h : PO calls oc od op ot os td ml lc ld lp lt mn) : PO (calls + 1) oc od op ot os td ml lc ld lp lt mn := by
  obtain ⟨n, d, C, D, P, T, h1, h2, h3⟩ := h
  exact ⟨n, d, C, D, P, T, h1, h2, by omega⟩
theorem rcase {R : Nat} (hR : R ≤ 6) (v : Int32) : (∃ r, r < R ∧ v = iI (r : Nat)) ∨ (v.toInt < 0 ∨ (R : Int) ≤ v.toInt) := by
  by_cases h : v.toInt < 0 ∨ (R : Int) ≤ v.toInt
  · exact Or.inr h
  · refine Or.inl ⟨v.toInt.toNat, by omega, ?_⟩
    have : ((v.toInt.toNat : Nat) : Int) = v.toInt := by omega
    rw [this]
    exact iI_of v
theorem nInn_00 {p s : Nat} : nInn (fun _ _ => 0) p s = false := by
  cases h : nInn (fun _ _ => 0) p s with
  | false => rfl
  | true =>
    obtain ⟨f, h1, h2⟩ := nInn_iff.mp h
    omega
theorem nPun_00 {p s : Nat} : nPun (fun _ _ => 0) p s = false := by
  cases h : nPun (fun _ _ => 0) p s with
  | false => rfl
  | true =>
    have := nPun_inn h
    rw [nInn_00] at this
    cases this
theorem nV_00 : nV (fun _ _ => 0) := by
  refine ⟨fun p f h => absurd h (Nat.lt_irrefl 0), fun p f f' h => absurd h (Nat.lt_irrefl 0), fun s hs => ?_⟩
  refine bearsAt_cong (g := fun _ => false) (fun k _ => nPun_00.symm) ⟨fun p hp => ?_, ?_⟩
  · have : ∀ n, run4 (fun _ => false) n < 4 := by
      intro n
      cases n with
      | zero => decide
      | succ n => show (if (false = true) then _ else _) < 4; simp
    exact this p
  · have : ∀ n, ct (fun _ => false) n = 0 := by
      intro n
      induction n with
      | zero => rfl
      | succ n ih => rw [ct_f rfl, ih]
    rw [this]; omega
theorem clR_00 : clR (fun _ _ => 0) 0 0 (fun _ => 0) (fun _ => 0) (fun _ => 0) (fun _ => 0) (fun _ => 0) := by
  refine ⟨⟨fun _ => 0, fun _ => 0, by omega, rfl, fun i hi => absurd hi (by omega), fun i j _ hj => absurd hj (by omega), fun p f h => absurd h (Nat.lt_irrefl 0)⟩, fun s hs => ⟨?_, ?_⟩, nV_00⟩
  · exact msk_cong (fun i _ => nInn_00.symm) msk_0
  · exact msk_cong (fun i _ => nPun_00.symm) msk_0
theorem tpC_00 : tpC (fun _ => 0) 0 (fun _ => 0) 0 := ⟨by omega, rfl, fun _ _ => rfl⟩
theorem tpV_00 : tpV (fun _ => 0) := ⟨fun _ => Nat.zero_le _, fun _ _ => rfl⟩
end INV
