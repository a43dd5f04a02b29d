/-! new rows of ints: their kind is the one that the tables name -/
section GN
variable {p : Program} {l : Launch} {e : Env} {R : Room} {s : State} {m : MethodId} {args : Array Value} {below : List Frame} {meth : Method} {c : Code} {H : Heap} {locs : List Loc} {cells slots : Nat} {Q : State → Prop}
variable {pc : Nat} {ls : Array Slot} {rest : List Value} {A : Nat → Prop} {H0 : Heap} {D : va_G} {cc : ByteArray} {cI cZ cR : ClassId} {w : va_W}
theorem gl_newI (hx : p.tables.exec = Jvm.exec) (hb : c.code = cc) (harr : (Cond.arrayClass .int).before args s = true) (hK : va_K D vwCl (gT cI cZ cR) s) (hP : va_P D vwCl w H) (hD : va_D A w) (hS : va_S A H0 H locs) (hA : ∀ q, H0.size ≤ q → A q) (N : Nat) {n : Int32} (hn : ¬ n < 0) (hN : n.toNatClampNeg = N) (hby : N * 4 ≤ 536870912) (hc : cells + 1 ≤ R.cells) (hs : slots + N ≤ R.slots) (hdg : decode cc pc = .ok (.newarray .int, 2))
    (kk : ∀ (q : Nat) (H1 : Heap), va_P D vwCl (w ++ [(q, .inl (cI, N, .inl (fun _ => 0)))]) H1 → va_D A (w ++ [(q, .inl (cI, N, .inl (fun _ => 0)))]) → va_S A H0 H1 locs → W p l e R s m args below meth c H1 locs (cells + 1) (slots + N) Q (F0 m (pc + 2) ls (.ref q :: rest))) : W p l e R s m args below meth c H locs cells slots Q (F0 m pc ls (.int n :: rest)) := by
  refine va_newa (a0 := (N, .inl (fun _ => 0))) (atype := .int) (ty := .int) hx hb harr rfl hK hP hD hS hA (fun cA => vp_cell_i cA N (fun _ => 0)) hn hN hby hc hs hdg (fun q cA H1 hK1 hP1 hD1 hS1 => ?_)
  have e1 := (hK1.2 3 (cA, .int) rfl).2
  have e2 := (hK.2 0 (cI, .int) rfl).2
  have e3 : cA = cI := Option.some.inj (e1.symm.trans e2)
  subst e3
  exact kk q H1 hP1 hD1 hS1
theorem gl_newZ (hx : p.tables.exec = Jvm.exec) (hb : c.code = cc) (harr : (Cond.arrayClass .boolean).before args s = true) (hK : va_K D vwCl (gT cI cZ cR) s) (hP : va_P D vwCl w H) (hD : va_D A w) (hS : va_S A H0 H locs) (hA : ∀ q, H0.size ≤ q → A q) (N : Nat) {n : Int32} (hn : ¬ n < 0) (hN : n.toNatClampNeg = N) (hby : N * 1 ≤ 536870912) (hc : cells + 1 ≤ R.cells) (hs : slots + N ≤ R.slots) (hdg : decode cc pc = .ok (.newarray .boolean, 2))
    (kk : ∀ (q : Nat) (H1 : Heap), va_P D vwCl (w ++ [(q, .inl (cZ, N, .inl (fun _ => 0)))]) H1 → va_D A (w ++ [(q, .inl (cZ, N, .inl (fun _ => 0)))]) → va_S A H0 H1 locs → W p l e R s m args below meth c H1 locs (cells + 1) (slots + N) Q (F0 m (pc + 2) ls (.ref q :: rest))) : W p l e R s m args below meth c H locs cells slots Q (F0 m pc ls (.int n :: rest)) := by
  refine va_newa (a0 := (N, .inl (fun _ => 0))) (atype := .boolean) (ty := .boolean) hx hb harr rfl hK hP hD hS hA (fun cA => vp_cell_i cA N (fun _ => 0)) hn hN hby hc hs hdg (fun q cA H1 hK1 hP1 hD1 hS1 => ?_)
  have e1 := (hK1.2 3 (cA, .boolean) rfl).2
  have e2 := (hK.2 1 (cZ, .boolean) rfl).2
  have e3 : cA = cZ := Option.some.inj (e1.symm.trans e2)
  subst e3
  exact kk q H1 hP1 hD1 hS1
theorem gl_newQ (hx : p.tables.exec = Jvm.exec) (hb : c.code = cc) {own : String} {index : Nat} (hown : s.vm.findClass own = some m.cls) (hcl : (Cond.classLink own index RX4).before args s = true) (hover : va_AO RX4 s) (hK : va_K D vwCl (gT cI cZ cR) s) (hP : va_P D vwCl w H) (hD : va_D A w) (hS : va_S A H0 H locs) (hA : ∀ q, H0.size ≤ q → A q) (N : Nat) {n : Int32} (hn : ¬ n < 0) (hN : n.toNatClampNeg = N) (hby : N * 4 ≤ 536870912) (hc : cells + 1 ≤ R.cells) (hs : slots + N ≤ R.slots) (hdg : decode cc pc = .ok (.anewarray index, 3))
    (kk : ∀ (q : Nat) (H1 : Heap), va_P D vwCl (w ++ [(q, .inl (cR, N, .inr (.inr (.inr (.inr (fun _ => none))))))]) H1 → va_D A (w ++ [(q, .inl (cR, N, .inr (.inr (.inr (.inr (fun _ => none))))))]) → va_S A H0 H1 locs → W p l e R s m args below meth c H1 locs (cells + 1) (slots + N) Q (F0 m (pc + 3) ls (.ref q :: rest))) : W p l e R s m args below meth c H locs cells slots Q (F0 m pc ls (.int n :: rest)) := by
  refine va_newq hx hb hown hcl hover hK hP hD hS hA hn hN hby hc hs hdg (fun q cA H1 hK1 hP1 hD1 hS1 => ?_)
  obtain ⟨-, -, -, -, -, e1⟩ := (hK1.2 3 (cA, .object RX4) rfl).2
  obtain ⟨-, -, -, -, -, e2⟩ := (hK.2 2 (cR, .object "RollHouse$Roll") rfl).2
  have e3 : cA = cR := Option.some.inj (e1.symm.trans e2)
  subst e3
  exact kk q H1 hP1 hD1 hS1
end GN
def gPcO (D : va_G) (tys : List (ClassId × FieldType)) (w : va_W) (sz : Nat) (av : List Value) : Array Value → State → Prop := fun a U => gPc D tys w sz av a U ∧ va_AO RX4 U
theorem gl_entryO {l : Launch} {y : MethodName} {ws ws' : List Cond} {rm : Room} {D : va_G} {tys : List (ClassId × FieldType)} {w : va_W} {sz : Nat} {av : List Value} {Qc : Array Value → State → Outcome → State → Prop} {mc ms : Nat} {cc : ByteArray} {maxL : Nat} {ret : Option FieldType} (hy : plainName y.cls = true) (hw : ws = Cond.code y cc maxL ret :: ws') (hn : (lg_sl av).length ≤ maxL)
    (body : ∀ (p : Program) (e : Env) (s : State) (m : MethodId) (below : List Frame) (meth : Method) (c : Code) (ls : Array Slot), gG p s m av.toArray meth c cc ret maxL y.cls ws → meth.name = y.name → s.heap.size = sz → va_K D vwCl tys s → va_Nw gN s → va_AO RX4 s → va_P D vwCl w s.heap → va_D (va_A w sz) w → lv_has ls maxL (lv_args 0 av) → W p l e rm s m av.toArray below meth c s.heap [] 0 0 (MQ below Qc av.toArray s mc ms (va_A w sz)) (F0 m 0 ls [])) : Met l y ws rm (gPcO D tys w sz av) Qc mc ms (va_A w sz) := by
  refine Met.ofW (cc := cc) (maxL := maxL) (ret := ret) hy hw ?_
  intro p e s m args below meth c s₁ B hml hv
  obtain ⟨⟨rfl, hsz, hP, hK, hN, hD0⟩, hO⟩ := hv
  have hts := atoms_spec (ws := ws) B.pre
  rw [lg_entry_eq]
  exact body p e s m below meth c _ ⟨B.exec, B.bytes, B.returns, hml, findClass_of_methodNamed B.named, hts, B.notSynchronized⟩ (name_of_methodNamed B.named B.method).1 hsz hK hN hO hP hD0.self (lv_entry av hn)
theorem lk_X4_init_0 : (Cond.methodLink RX4 3 objectInit) ∈ wsX4_init := by decide +kernel
theorem lk_X4_init_1 : (Cond.instanceMethod objectInit) ∈ wsX4_init := by decide +kernel
theorem lk_X4_init_2 : (Cond.code objectInit ⟨#[0xb1]⟩ 1 none) ∈ wsX4_init := by decide +kernel
theorem lk_X4_init_3 : (Cond.arrayClass .int) ∈ wsX4_init := by decide +kernel
theorem lk_X4_init_4 : (Cond.fieldLink RX4 9 "RollHouse$Roll" "pitches" "[I") ∈ wsX4_init := by decide +kernel
theorem lk_X4_init_5 : (Cond.fieldLink RX4 15 "RollHouse$Roll" "firstSteps" "[I") ∈ wsX4_init := by decide +kernel
theorem lk_X4_init_6 : (Cond.fieldLink RX4 18 "RollHouse$Roll" "lengths" "[I") ∈ wsX4_init := by decide +kernel
theorem lk_X4_init_7 : (Cond.fieldLink RX4 21 "RollHouse$Roll" "size" "I") ∈ wsX4_init := by decide +kernel
theorem lk_X4_init_8 : (Cond.fieldLink RX4 25 "RollHouse$Roll" "held" "[I") ∈ wsX4_init := by decide +kernel
theorem lk_X4_init_9 : (Cond.fieldLink RX4 28 "RollHouse$Roll" "punched" "[I") ∈ wsX4_init := by decide +kernel
theorem lk_X4_init_10 : (Cond.fieldLink RX4 31 "RollHouse$Roll" "markedTicks" "[I") ∈ wsX4_init := by decide +kernel
theorem lk_X4_init_11 : (Cond.fieldLink RX4 34 "RollHouse$Roll" "marks" "I") ∈ wsX4_init := by decide +kernel
theorem us_X4_init_X4 : ∀ w ∈ u_ws RX4 TX4 8, w ∈ wsX4_init := by decide +kernel
set_option maxRecDepth 100000 in
set_option maxHeartbeats 8000000 in
theorem mt_X4_init (l : Launch) (D : va_G) (cI cZ cR : ClassId) (h0 sz : Nat) : Met l yX4_init wsX4_init ({ frames := 1, cells := 6, slots := 1080, locals := 12 }) (gPc D (gT cI cZ cR) [(h0, .inr (4, [.null, .null, .null, .int 0, .null, .null, .null, .int 0]))] sz [.ref h0]) (va_Qv (fun (u : Nat → Nat) => u 0 = h0) (fun u t => gB D (gT cI cZ cR) (va_A [(h0, .inr (4, [.null, .null, .null, .int 0, .null, .null, .null, .int 0]))] sz) (w_R cI cZ cR u (fun _ => 0) (fun _ => 0) (fun _ => 0) 0 (fun _ => 0) (fun _ => 0) (fun _ => 0) 0) t) (va_A [(h0, .inr (4, [.null, .null, .null, .int 0, .null, .null, .null, .int 0]))] sz)) 6 1080 (va_A [(h0, .inr (4, [.null, .null, .null, .int 0, .null, .null, .null, .int 0]))] sz) := by
  refine gl_entry (cc := cX4_init) (maxL := 1) (ret := none) (by decide) rfl (Nat.le_of_ble_eq_true rfl) ?_
  intro p e s m below meth c ls G hin hsz hK hN hP hD hl
  subst hsz
  obtain ⟨hx, hb, hr, hml, hown, hts, hlocks⟩ := id G
  generalize hAe : va_A [(h0, .inr (4, [.null, .null, .null, .int 0, .null, .null, .null, .int 0]))] s.heap.size = A at hD ⊢
  have hA : ∀ q : Nat, s.heap.size ≤ q → A q := fun q h => by rw [← hAe]; exact Or.inr h
  have hS : va_S A s.heap s.heap [] := va_S.rf
  have hl : lv_has ls 1 [(0, .ref h0)] := hl
  refine lv_aload_n hx hb dX4_init_0 rfl (lv_at hl 0 rfl) ?_
  refine W.objInit hx hb hown (hts (.methodLink RX4 3 objectInit) lk_X4_init_0) (hts (.instanceMethod objectInit) lk_X4_init_1) (hts (.code objectInit ⟨#[0xb1]⟩ 1 none) lk_X4_init_2) rfl (by rw [hml]; exact hl.1) rfl dX4_init_1 (Nat.le_of_ble_eq_true rfl) (Nat.le_of_ble_eq_true rfl) ?_
  refine W.eq (g2 := F0 m 4 ls []) rfl ?_
  refine lv_aload_n hx hb dX4_init_4 rfl (lv_at hl 0 rfl) ?_
  refine lv_bipush (v := 60) hx hb dX4_init_5 (by decide) ?_
  refine gl_newI hx hb (hts (.arrayClass .int) lk_X4_init_3) hK hP hD hS hA 60 (by decide) (by decide) (by decide) (Nat.le_of_ble_eq_true rfl) (Nat.le_of_ble_eq_true rfl) dX4_init_7 (fun q7 H hP hD hS => ?_)
  have hP : va_P D vwCl ([(h0, .inr (4, [.null, .null, .null, .int 0, .null, .null, .null, .int 0])), (q7, .inl (cI, 60, .inl (fun _ => 0)))]) H := hP
  have hD : va_D A ([(h0, .inr (4, [.null, .null, .null, .int 0, .null, .null, .null, .int 0])), (q7, .inl (cI, 60, .inl (fun _ => 0)))]) := hD
  refine va_putF (D := D) (ci := 4) (v := .ref (q7)) (ty := .array .int) (C := RX4) (T := TX4) (N := 8) hx hb hts us_X4_init_X4 tyX4 tyX4_ok nmX4 hown hK hP hD hS 0 rfl rfl 0 (by decide) (hts (.fieldLink RX4 9 "RollHouse$Roll" "pitches" "[I") lk_X4_init_4) (fun _ h9 => h9) rfl hin rfl (by decide +kernel) rfl rfl (Nat.le_of_ble_eq_true rfl) dX4_init_9 (fun H locs hP hD hS => ?_)
  have hP : va_P D vwCl ([(h0, .inr (4, [.ref (q7), .null, .null, .int 0, .null, .null, .null, .int 0])), (q7, .inl (cI, 60, .inl (fun _ => 0)))]) H := hP
  have hD : va_D A ([(h0, .inr (4, [.ref (q7), .null, .null, .int 0, .null, .null, .null, .int 0])), (q7, .inl (cI, 60, .inl (fun _ => 0)))]) := hD
  refine lv_aload_n hx hb dX4_init_12 rfl (lv_at hl 0 rfl) ?_
  refine lv_bipush (v := 60) hx hb dX4_init_13 (by decide) ?_
  refine gl_newI hx hb (hts (.arrayClass .int) lk_X4_init_3) hK hP hD hS hA 60 (by decide) (by decide) (by decide) (Nat.le_of_ble_eq_true rfl) (Nat.le_of_ble_eq_true rfl) dX4_init_15 (fun q15 H hP hD hS => ?_)
  have hP : va_P D vwCl ([(h0, .inr (4, [.ref (q7), .null, .null, .int 0, .null, .null, .null, .int 0])), (q7, .inl (cI, 60, .inl (fun _ => 0))), (q15, .inl (cI, 60, .inl (fun _ => 0)))]) H := hP
  have hD : va_D A ([(h0, .inr (4, [.ref (q7), .null, .null, .int 0, .null, .null, .null, .int 0])), (q7, .inl (cI, 60, .inl (fun _ => 0))), (q15, .inl (cI, 60, .inl (fun _ => 0)))]) := hD
  refine va_putF (D := D) (ci := 4) (v := .ref (q15)) (ty := .array .int) (C := RX4) (T := TX4) (N := 8) hx hb hts us_X4_init_X4 tyX4 tyX4_ok nmX4 hown hK hP hD hS 0 rfl rfl 1 (by decide) (hts (.fieldLink RX4 15 "RollHouse$Roll" "firstSteps" "[I") lk_X4_init_5) (fun _ h9 => h9) rfl hin rfl (by decide +kernel) rfl rfl (Nat.le_of_ble_eq_true rfl) dX4_init_17 (fun H locs hP hD hS => ?_)
  have hP : va_P D vwCl ([(h0, .inr (4, [.ref (q7), .ref (q15), .null, .int 0, .null, .null, .null, .int 0])), (q7, .inl (cI, 60, .inl (fun _ => 0))), (q15, .inl (cI, 60, .inl (fun _ => 0)))]) H := hP
  have hD : va_D A ([(h0, .inr (4, [.ref (q7), .ref (q15), .null, .int 0, .null, .null, .null, .int 0])), (q7, .inl (cI, 60, .inl (fun _ => 0))), (q15, .inl (cI, 60, .inl (fun _ => 0)))]) := hD
  refine lv_aload_n hx hb dX4_init_20 rfl (lv_at hl 0 rfl) ?_
  refine lv_bipush (v := 60) hx hb dX4_init_21 (by decide) ?_
  refine gl_newI hx hb (hts (.arrayClass .int) lk_X4_init_3) hK hP hD hS hA 60 (by decide) (by decide) (by decide) (Nat.le_of_ble_eq_true rfl) (Nat.le_of_ble_eq_true rfl) dX4_init_23 (fun q23 H hP hD hS => ?_)
  have hP : va_P D vwCl ([(h0, .inr (4, [.ref (q7), .ref (q15), .null, .int 0, .null, .null, .null, .int 0])), (q7, .inl (cI, 60, .inl (fun _ => 0))), (q15, .inl (cI, 60, .inl (fun _ => 0))), (q23, .inl (cI, 60, .inl (fun _ => 0)))]) H := hP
  have hD : va_D A ([(h0, .inr (4, [.ref (q7), .ref (q15), .null, .int 0, .null, .null, .null, .int 0])), (q7, .inl (cI, 60, .inl (fun _ => 0))), (q15, .inl (cI, 60, .inl (fun _ => 0))), (q23, .inl (cI, 60, .inl (fun _ => 0)))]) := hD
  refine va_putF (D := D) (ci := 4) (v := .ref (q23)) (ty := .array .int) (C := RX4) (T := TX4) (N := 8) hx hb hts us_X4_init_X4 tyX4 tyX4_ok nmX4 hown hK hP hD hS 0 rfl rfl 2 (by decide) (hts (.fieldLink RX4 18 "RollHouse$Roll" "lengths" "[I") lk_X4_init_6) (fun _ h9 => h9) rfl hin rfl (by decide +kernel) rfl rfl (Nat.le_of_ble_eq_true rfl) dX4_init_25 (fun H locs hP hD hS => ?_)
  have hP : va_P D vwCl ([(h0, .inr (4, [.ref (q7), .ref (q15), .ref (q23), .int 0, .null, .null, .null, .int 0])), (q7, .inl (cI, 60, .inl (fun _ => 0))), (q15, .inl (cI, 60, .inl (fun _ => 0))), (q23, .inl (cI, 60, .inl (fun _ => 0)))]) H := hP
  have hD : va_D A ([(h0, .inr (4, [.ref (q7), .ref (q15), .ref (q23), .int 0, .null, .null, .null, .int 0])), (q7, .inl (cI, 60, .inl (fun _ => 0))), (q15, .inl (cI, 60, .inl (fun _ => 0))), (q23, .inl (cI, 60, .inl (fun _ => 0)))]) := hD
  refine lv_aload_n hx hb dX4_init_28 rfl (lv_at hl 0 rfl) ?_
  refine lv_iconst (v := 0) hx hb dX4_init_29 (by decide) ?_
  refine va_put (D := D) (ci := 4) (v := .int 0) (ty := .int) (C := RX4) (T := TX4) (N := 8) hx hb hts us_X4_init_X4 tyX4 tyX4_ok nmX4 hown hK hP hD hS 0 rfl rfl 3 (by decide) (hts (.fieldLink RX4 21 "RollHouse$Roll" "size" "I") lk_X4_init_7) (fun _ h9 => h9) rfl (by decide +kernel) rfl rfl (Nat.le_of_ble_eq_true rfl) dX4_init_30 (fun H locs hP hD hS => ?_)
  have hP : va_P D vwCl ([(h0, .inr (4, [.ref (q7), .ref (q15), .ref (q23), .int 0, .null, .null, .null, .int 0])), (q7, .inl (cI, 60, .inl (fun _ => 0))), (q15, .inl (cI, 60, .inl (fun _ => 0))), (q23, .inl (cI, 60, .inl (fun _ => 0)))]) H := hP
  have hD : va_D A ([(h0, .inr (4, [.ref (q7), .ref (q15), .ref (q23), .int 0, .null, .null, .null, .int 0])), (q7, .inl (cI, 60, .inl (fun _ => 0))), (q15, .inl (cI, 60, .inl (fun _ => 0))), (q23, .inl (cI, 60, .inl (fun _ => 0)))]) := hD
  refine lv_aload_n hx hb dX4_init_33 rfl (lv_at hl 0 rfl) ?_
  refine lv_sipush (v := 300) hx hb dX4_init_34 (by decide) ?_
  refine gl_newI hx hb (hts (.arrayClass .int) lk_X4_init_3) hK hP hD hS hA 300 (by decide) (by decide) (by decide) (Nat.le_of_ble_eq_true rfl) (Nat.le_of_ble_eq_true rfl) dX4_init_37 (fun q37 H hP hD hS => ?_)
  have hP : va_P D vwCl ([(h0, .inr (4, [.ref (q7), .ref (q15), .ref (q23), .int 0, .null, .null, .null, .int 0])), (q7, .inl (cI, 60, .inl (fun _ => 0))), (q15, .inl (cI, 60, .inl (fun _ => 0))), (q23, .inl (cI, 60, .inl (fun _ => 0))), (q37, .inl (cI, 300, .inl (fun _ => 0)))]) H := hP
  have hD : va_D A ([(h0, .inr (4, [.ref (q7), .ref (q15), .ref (q23), .int 0, .null, .null, .null, .int 0])), (q7, .inl (cI, 60, .inl (fun _ => 0))), (q15, .inl (cI, 60, .inl (fun _ => 0))), (q23, .inl (cI, 60, .inl (fun _ => 0))), (q37, .inl (cI, 300, .inl (fun _ => 0)))]) := hD
  refine va_putF (D := D) (ci := 4) (v := .ref (q37)) (ty := .array .int) (C := RX4) (T := TX4) (N := 8) hx hb hts us_X4_init_X4 tyX4 tyX4_ok nmX4 hown hK hP hD hS 0 rfl rfl 4 (by decide) (hts (.fieldLink RX4 25 "RollHouse$Roll" "held" "[I") lk_X4_init_8) (fun _ h9 => h9) rfl hin rfl (by decide +kernel) rfl rfl (Nat.le_of_ble_eq_true rfl) dX4_init_39 (fun H locs hP hD hS => ?_)
  have hP : va_P D vwCl ([(h0, .inr (4, [.ref (q7), .ref (q15), .ref (q23), .int 0, .ref (q37), .null, .null, .int 0])), (q7, .inl (cI, 60, .inl (fun _ => 0))), (q15, .inl (cI, 60, .inl (fun _ => 0))), (q23, .inl (cI, 60, .inl (fun _ => 0))), (q37, .inl (cI, 300, .inl (fun _ => 0)))]) H := hP
  have hD : va_D A ([(h0, .inr (4, [.ref (q7), .ref (q15), .ref (q23), .int 0, .ref (q37), .null, .null, .int 0])), (q7, .inl (cI, 60, .inl (fun _ => 0))), (q15, .inl (cI, 60, .inl (fun _ => 0))), (q23, .inl (cI, 60, .inl (fun _ => 0))), (q37, .inl (cI, 300, .inl (fun _ => 0)))]) := hD
  refine lv_aload_n hx hb dX4_init_42 rfl (lv_at hl 0 rfl) ?_
  refine lv_sipush (v := 300) hx hb dX4_init_43 (by decide) ?_
  refine gl_newI hx hb (hts (.arrayClass .int) lk_X4_init_3) hK hP hD hS hA 300 (by decide) (by decide) (by decide) (Nat.le_of_ble_eq_true rfl) (Nat.le_of_ble_eq_true rfl) dX4_init_46 (fun q46 H hP hD hS => ?_)
  have hP : va_P D vwCl ([(h0, .inr (4, [.ref (q7), .ref (q15), .ref (q23), .int 0, .ref (q37), .null, .null, .int 0])), (q7, .inl (cI, 60, .inl (fun _ => 0))), (q15, .inl (cI, 60, .inl (fun _ => 0))), (q23, .inl (cI, 60, .inl (fun _ => 0))), (q37, .inl (cI, 300, .inl (fun _ => 0))), (q46, .inl (cI, 300, .inl (fun _ => 0)))]) H := hP
  have hD : va_D A ([(h0, .inr (4, [.ref (q7), .ref (q15), .ref (q23), .int 0, .ref (q37), .null, .null, .int 0])), (q7, .inl (cI, 60, .inl (fun _ => 0))), (q15, .inl (cI, 60, .inl (fun _ => 0))), (q23, .inl (cI, 60, .inl (fun _ => 0))), (q37, .inl (cI, 300, .inl (fun _ => 0))), (q46, .inl (cI, 300, .inl (fun _ => 0)))]) := hD
  refine va_putF (D := D) (ci := 4) (v := .ref (q46)) (ty := .array .int) (C := RX4) (T := TX4) (N := 8) hx hb hts us_X4_init_X4 tyX4 tyX4_ok nmX4 hown hK hP hD hS 0 rfl rfl 5 (by decide) (hts (.fieldLink RX4 28 "RollHouse$Roll" "punched" "[I") lk_X4_init_9) (fun _ h9 => h9) rfl hin rfl (by decide +kernel) rfl rfl (Nat.le_of_ble_eq_true rfl) dX4_init_48 (fun H locs hP hD hS => ?_)
  have hP : va_P D vwCl ([(h0, .inr (4, [.ref (q7), .ref (q15), .ref (q23), .int 0, .ref (q37), .ref (q46), .null, .int 0])), (q7, .inl (cI, 60, .inl (fun _ => 0))), (q15, .inl (cI, 60, .inl (fun _ => 0))), (q23, .inl (cI, 60, .inl (fun _ => 0))), (q37, .inl (cI, 300, .inl (fun _ => 0))), (q46, .inl (cI, 300, .inl (fun _ => 0)))]) H := hP
  have hD : va_D A ([(h0, .inr (4, [.ref (q7), .ref (q15), .ref (q23), .int 0, .ref (q37), .ref (q46), .null, .int 0])), (q7, .inl (cI, 60, .inl (fun _ => 0))), (q15, .inl (cI, 60, .inl (fun _ => 0))), (q23, .inl (cI, 60, .inl (fun _ => 0))), (q37, .inl (cI, 300, .inl (fun _ => 0))), (q46, .inl (cI, 300, .inl (fun _ => 0)))]) := hD
  refine lv_aload_n hx hb dX4_init_51 rfl (lv_at hl 0 rfl) ?_
  refine lv_sipush (v := 300) hx hb dX4_init_52 (by decide) ?_
  refine gl_newI hx hb (hts (.arrayClass .int) lk_X4_init_3) hK hP hD hS hA 300 (by decide) (by decide) (by decide) (Nat.le_of_ble_eq_true rfl) (Nat.le_of_ble_eq_true rfl) dX4_init_55 (fun q55 H hP hD hS => ?_)
  have hP : va_P D vwCl ([(h0, .inr (4, [.ref (q7), .ref (q15), .ref (q23), .int 0, .ref (q37), .ref (q46), .null, .int 0])), (q7, .inl (cI, 60, .inl (fun _ => 0))), (q15, .inl (cI, 60, .inl (fun _ => 0))), (q23, .inl (cI, 60, .inl (fun _ => 0))), (q37, .inl (cI, 300, .inl (fun _ => 0))), (q46, .inl (cI, 300, .inl (fun _ => 0))), (q55, .inl (cI, 300, .inl (fun _ => 0)))]) H := hP
  have hD : va_D A ([(h0, .inr (4, [.ref (q7), .ref (q15), .ref (q23), .int 0, .ref (q37), .ref (q46), .null, .int 0])), (q7, .inl (cI, 60, .inl (fun _ => 0))), (q15, .inl (cI, 60, .inl (fun _ => 0))), (q23, .inl (cI, 60, .inl (fun _ => 0))), (q37, .inl (cI, 300, .inl (fun _ => 0))), (q46, .inl (cI, 300, .inl (fun _ => 0))), (q55, .inl (cI, 300, .inl (fun _ => 0)))]) := hD
  refine va_putF (D := D) (ci := 4) (v := .ref (q55)) (ty := .array .int) (C := RX4) (T := TX4) (N := 8) hx hb hts us_X4_init_X4 tyX4 tyX4_ok nmX4 hown hK hP hD hS 0 rfl rfl 6 (by decide) (hts (.fieldLink RX4 31 "RollHouse$Roll" "markedTicks" "[I") lk_X4_init_10) (fun _ h9 => h9) rfl hin rfl (by decide +kernel) rfl rfl (Nat.le_of_ble_eq_true rfl) dX4_init_57 (fun H locs hP hD hS => ?_)
  have hP : va_P D vwCl ([(h0, .inr (4, [.ref (q7), .ref (q15), .ref (q23), .int 0, .ref (q37), .ref (q46), .ref (q55), .int 0])), (q7, .inl (cI, 60, .inl (fun _ => 0))), (q15, .inl (cI, 60, .inl (fun _ => 0))), (q23, .inl (cI, 60, .inl (fun _ => 0))), (q37, .inl (cI, 300, .inl (fun _ => 0))), (q46, .inl (cI, 300, .inl (fun _ => 0))), (q55, .inl (cI, 300, .inl (fun _ => 0)))]) H := hP
  have hD : va_D A ([(h0, .inr (4, [.ref (q7), .ref (q15), .ref (q23), .int 0, .ref (q37), .ref (q46), .ref (q55), .int 0])), (q7, .inl (cI, 60, .inl (fun _ => 0))), (q15, .inl (cI, 60, .inl (fun _ => 0))), (q23, .inl (cI, 60, .inl (fun _ => 0))), (q37, .inl (cI, 300, .inl (fun _ => 0))), (q46, .inl (cI, 300, .inl (fun _ => 0))), (q55, .inl (cI, 300, .inl (fun _ => 0)))]) := hD
  refine lv_aload_n hx hb dX4_init_60 rfl (lv_at hl 0 rfl) ?_
  refine lv_iconst (v := 0) hx hb dX4_init_61 (by decide) ?_
  refine va_put (D := D) (ci := 4) (v := .int 0) (ty := .int) (C := RX4) (T := TX4) (N := 8) hx hb hts us_X4_init_X4 tyX4 tyX4_ok nmX4 hown hK hP hD hS 0 rfl rfl 7 (by decide) (hts (.fieldLink RX4 34 "RollHouse$Roll" "marks" "I") lk_X4_init_11) (fun _ h9 => h9) rfl (by decide +kernel) rfl rfl (Nat.le_of_ble_eq_true rfl) dX4_init_62 (fun H locs hP hD hS => ?_)
  have hP : va_P D vwCl ([(h0, .inr (4, [.ref (q7), .ref (q15), .ref (q23), .int 0, .ref (q37), .ref (q46), .ref (q55), .int 0])), (q7, .inl (cI, 60, .inl (fun _ => 0))), (q15, .inl (cI, 60, .inl (fun _ => 0))), (q23, .inl (cI, 60, .inl (fun _ => 0))), (q37, .inl (cI, 300, .inl (fun _ => 0))), (q46, .inl (cI, 300, .inl (fun _ => 0))), (q55, .inl (cI, 300, .inl (fun _ => 0)))]) H := hP
  have hD : va_D A ([(h0, .inr (4, [.ref (q7), .ref (q15), .ref (q23), .int 0, .ref (q37), .ref (q46), .ref (q55), .int 0])), (q7, .inl (cI, 60, .inl (fun _ => 0))), (q15, .inl (cI, 60, .inl (fun _ => 0))), (q23, .inl (cI, 60, .inl (fun _ => 0))), (q37, .inl (cI, 300, .inl (fun _ => 0))), (q46, .inl (cI, 300, .inl (fun _ => 0))), (q55, .inl (cI, 300, .inl (fun _ => 0)))]) := hD
  exact gl_retv G hK (u := (fun k => match k with | 0 => h0 | 1 => q7 | 2 => q15 | 3 => q23 | 4 => q37 | 5 => q46 | _ => q55)) hP hD hS rfl dX4_init_65
theorem lk_X5_init_0 : (Cond.methodLink RX5 3 objectInit) ∈ wsX5_init := by decide +kernel
theorem lk_X5_init_1 : (Cond.instanceMethod objectInit) ∈ wsX5_init := by decide +kernel
theorem lk_X5_init_2 : (Cond.code objectInit ⟨#[0xb1]⟩ 1 none) ∈ wsX5_init := by decide +kernel
theorem lk_X5_init_3 : (Cond.arrayClass .int) ∈ wsX5_init := by decide +kernel
theorem lk_X5_init_4 : (Cond.fieldLink RX5 9 "RollHouse$Score" "pitches" "[I") ∈ wsX5_init := by decide +kernel
theorem lk_X5_init_5 : (Cond.fieldLink RX5 15 "RollHouse$Score" "steps" "[I") ∈ wsX5_init := by decide +kernel
theorem lk_X5_init_6 : (Cond.fieldLink RX5 18 "RollHouse$Score" "size" "I") ∈ wsX5_init := by decide +kernel
theorem us_X5_init_X5 : ∀ w ∈ u_ws RX5 TX5 3, w ∈ wsX5_init := by decide +kernel
set_option maxRecDepth 100000 in
set_option maxHeartbeats 8000000 in
theorem mt_X5_init (l : Launch) (D : va_G) (cI cZ cR : ClassId) (h0 sz : Nat) : Met l yX5_init wsX5_init ({ frames := 1, cells := 2, slots := 80, locals := 12 }) (gPc D (gT cI cZ cR) [(h0, .inr (5, [.null, .null, .int 0]))] sz [.ref h0]) (va_Qv (fun (u : Nat → Nat) => u 0 = h0) (fun u t => gB D (gT cI cZ cR) (va_A [(h0, .inr (5, [.null, .null, .int 0]))] sz) (w_S cI cZ cR u (fun _ => 0) (fun _ => 0) 0) t) (va_A [(h0, .inr (5, [.null, .null, .int 0]))] sz)) 2 80 (va_A [(h0, .inr (5, [.null, .null, .int 0]))] sz) := by
  refine gl_entry (cc := cX5_init) (maxL := 1) (ret := none) (by decide) rfl (Nat.le_of_ble_eq_true rfl) ?_
  intro p e s m below meth c ls G hin hsz hK hN hP hD hl
  subst hsz
  obtain ⟨hx, hb, hr, hml, hown, hts, hlocks⟩ := id G
  generalize hAe : va_A [(h0, .inr (5, [.null, .null, .int 0]))] s.heap.size = A at hD ⊢
  have hA : ∀ q : Nat, s.heap.size ≤ q → A q := fun q h => by rw [← hAe]; exact Or.inr h
  have hS : va_S A s.heap s.heap [] := va_S.rf
  have hl : lv_has ls 1 [(0, .ref h0)] := hl
  refine lv_aload_n hx hb dX5_init_0 rfl (lv_at hl 0 rfl) ?_
  refine W.objInit hx hb hown (hts (.methodLink RX5 3 objectInit) lk_X5_init_0) (hts (.instanceMethod objectInit) lk_X5_init_1) (hts (.code objectInit ⟨#[0xb1]⟩ 1 none) lk_X5_init_2) rfl (by rw [hml]; exact hl.1) rfl dX5_init_1 (Nat.le_of_ble_eq_true rfl) (Nat.le_of_ble_eq_true rfl) ?_
  refine W.eq (g2 := F0 m 4 ls []) rfl ?_
  refine lv_aload_n hx hb dX5_init_4 rfl (lv_at hl 0 rfl) ?_
  refine lv_bipush (v := 40) hx hb dX5_init_5 (by decide) ?_
  refine gl_newI hx hb (hts (.arrayClass .int) lk_X5_init_3) hK hP hD hS hA 40 (by decide) (by decide) (by decide) (Nat.le_of_ble_eq_true rfl) (Nat.le_of_ble_eq_true rfl) dX5_init_7 (fun q7 H hP hD hS => ?_)
  have hP : va_P D vwCl ([(h0, .inr (5, [.null, .null, .int 0])), (q7, .inl (cI, 40, .inl (fun _ => 0)))]) H := hP
  have hD : va_D A ([(h0, .inr (5, [.null, .null, .int 0])), (q7, .inl (cI, 40, .inl (fun _ => 0)))]) := hD
  refine va_putF (D := D) (ci := 5) (v := .ref (q7)) (ty := .array .int) (C := RX5) (T := TX5) (N := 3) hx hb hts us_X5_init_X5 tyX5 tyX5_ok nmX5 hown hK hP hD hS 0 rfl rfl 0 (by decide) (hts (.fieldLink RX5 9 "RollHouse$Score" "pitches" "[I") lk_X5_init_4) (fun _ h9 => h9) rfl hin rfl (by decide +kernel) rfl rfl (Nat.le_of_ble_eq_true rfl) dX5_init_9 (fun H locs hP hD hS => ?_)
  have hP : va_P D vwCl ([(h0, .inr (5, [.ref (q7), .null, .int 0])), (q7, .inl (cI, 40, .inl (fun _ => 0)))]) H := hP
  have hD : va_D A ([(h0, .inr (5, [.ref (q7), .null, .int 0])), (q7, .inl (cI, 40, .inl (fun _ => 0)))]) := hD
  refine lv_aload_n hx hb dX5_init_12 rfl (lv_at hl 0 rfl) ?_
  refine lv_bipush (v := 40) hx hb dX5_init_13 (by decide) ?_
  refine gl_newI hx hb (hts (.arrayClass .int) lk_X5_init_3) hK hP hD hS hA 40 (by decide) (by decide) (by decide) (Nat.le_of_ble_eq_true rfl) (Nat.le_of_ble_eq_true rfl) dX5_init_15 (fun q15 H hP hD hS => ?_)
  have hP : va_P D vwCl ([(h0, .inr (5, [.ref (q7), .null, .int 0])), (q7, .inl (cI, 40, .inl (fun _ => 0))), (q15, .inl (cI, 40, .inl (fun _ => 0)))]) H := hP
  have hD : va_D A ([(h0, .inr (5, [.ref (q7), .null, .int 0])), (q7, .inl (cI, 40, .inl (fun _ => 0))), (q15, .inl (cI, 40, .inl (fun _ => 0)))]) := hD
  refine va_putF (D := D) (ci := 5) (v := .ref (q15)) (ty := .array .int) (C := RX5) (T := TX5) (N := 3) hx hb hts us_X5_init_X5 tyX5 tyX5_ok nmX5 hown hK hP hD hS 0 rfl rfl 1 (by decide) (hts (.fieldLink RX5 15 "RollHouse$Score" "steps" "[I") lk_X5_init_5) (fun _ h9 => h9) rfl hin rfl (by decide +kernel) rfl rfl (Nat.le_of_ble_eq_true rfl) dX5_init_17 (fun H locs hP hD hS => ?_)
  have hP : va_P D vwCl ([(h0, .inr (5, [.ref (q7), .ref (q15), .int 0])), (q7, .inl (cI, 40, .inl (fun _ => 0))), (q15, .inl (cI, 40, .inl (fun _ => 0)))]) H := hP
  have hD : va_D A ([(h0, .inr (5, [.ref (q7), .ref (q15), .int 0])), (q7, .inl (cI, 40, .inl (fun _ => 0))), (q15, .inl (cI, 40, .inl (fun _ => 0)))]) := hD
  refine lv_aload_n hx hb dX5_init_20 rfl (lv_at hl 0 rfl) ?_
  refine lv_iconst (v := 0) hx hb dX5_init_21 (by decide) ?_
  refine va_put (D := D) (ci := 5) (v := .int 0) (ty := .int) (C := RX5) (T := TX5) (N := 3) hx hb hts us_X5_init_X5 tyX5 tyX5_ok nmX5 hown hK hP hD hS 0 rfl rfl 2 (by decide) (hts (.fieldLink RX5 18 "RollHouse$Score" "size" "I") lk_X5_init_6) (fun _ h9 => h9) rfl (by decide +kernel) rfl rfl (Nat.le_of_ble_eq_true rfl) dX5_init_22 (fun H locs hP hD hS => ?_)
  have hP : va_P D vwCl ([(h0, .inr (5, [.ref (q7), .ref (q15), .int 0])), (q7, .inl (cI, 40, .inl (fun _ => 0))), (q15, .inl (cI, 40, .inl (fun _ => 0)))]) H := hP
  have hD : va_D A ([(h0, .inr (5, [.ref (q7), .ref (q15), .int 0])), (q7, .inl (cI, 40, .inl (fun _ => 0))), (q15, .inl (cI, 40, .inl (fun _ => 0)))]) := hD
  exact gl_retv G hK (u := (fun k => match k with | 0 => h0 | 1 => q7 | _ => q15)) hP hD hS rfl dX5_init_25
theorem lk_X1_init_0 : (Cond.methodLink RX1 3 objectInit) ∈ wsX1_init := by decide +kernel
theorem lk_X1_init_1 : (Cond.instanceMethod objectInit) ∈ wsX1_init := by decide +kernel
theorem lk_X1_init_2 : (Cond.code objectInit ⟨#[0xb1]⟩ 1 none) ∈ wsX1_init := by decide +kernel
theorem lk_X1_init_3 : (Cond.fieldLink RX1 11 "RollHouse$Player" "pressure" "I") ∈ wsX1_init := by decide +kernel
theorem lk_X1_init_4 : (Cond.fieldLink RX1 15 "RollHouse$Player" "sounding" "I") ∈ wsX1_init := by decide +kernel
theorem lk_X1_init_5 : (Cond.fieldLink RX1 18 "RollHouse$Player" "muted" "I") ∈ wsX1_init := by decide +kernel
theorem us_X1_init_X1 : ∀ w ∈ u_ws RX1 TX1 3, w ∈ wsX1_init := by decide +kernel
set_option maxRecDepth 100000 in
set_option maxHeartbeats 8000000 in
theorem mt_X1_init (l : Launch) (D : va_G) (cI cZ cR : ClassId) (h0 sz : Nat) : Met l yX1_init wsX1_init ({ frames := 1, cells := 0, slots := 0, locals := 12 }) (gPc D (gT cI cZ cR) [(h0, .inr (1, [.int 0, .int 0, .int 0]))] sz [.ref h0]) (va_Qv (fun (u : Nat → Nat) => u 0 = h0) (fun u t => gB D (gT cI cZ cR) (va_A [(h0, .inr (1, [.int 0, .int 0, .int 0]))] sz) (w_P cI cZ cR u 50 0 0) t) (va_A [(h0, .inr (1, [.int 0, .int 0, .int 0]))] sz)) 0 0 (va_A [(h0, .inr (1, [.int 0, .int 0, .int 0]))] sz) := by
  refine gl_entry (cc := cX1_init) (maxL := 1) (ret := none) (by decide) rfl (Nat.le_of_ble_eq_true rfl) ?_
  intro p e s m below meth c ls G hin hsz hK hN hP hD hl
  subst hsz
  obtain ⟨hx, hb, hr, hml, hown, hts, hlocks⟩ := id G
  generalize hAe : va_A [(h0, .inr (1, [.int 0, .int 0, .int 0]))] s.heap.size = A at hD ⊢
  have hA : ∀ q : Nat, s.heap.size ≤ q → A q := fun q h => by rw [← hAe]; exact Or.inr h
  have hS : va_S A s.heap s.heap [] := va_S.rf
  have hl : lv_has ls 1 [(0, .ref h0)] := hl
  refine lv_aload_n hx hb dX1_init_0 rfl (lv_at hl 0 rfl) ?_
  refine W.objInit hx hb hown (hts (.methodLink RX1 3 objectInit) lk_X1_init_0) (hts (.instanceMethod objectInit) lk_X1_init_1) (hts (.code objectInit ⟨#[0xb1]⟩ 1 none) lk_X1_init_2) rfl (by rw [hml]; exact hl.1) rfl dX1_init_1 (Nat.le_of_ble_eq_true rfl) (Nat.le_of_ble_eq_true rfl) ?_
  refine W.eq (g2 := F0 m 4 ls []) rfl ?_
  refine lv_aload_n hx hb dX1_init_4 rfl (lv_at hl 0 rfl) ?_
  refine lv_bipush (v := 50) hx hb dX1_init_5 (by decide) ?_
  refine va_put (D := D) (ci := 1) (v := .int 50) (ty := .int) (C := RX1) (T := TX1) (N := 3) hx hb hts us_X1_init_X1 tyX1 tyX1_ok nmX1 hown hK hP hD hS 0 rfl rfl 0 (by decide) (hts (.fieldLink RX1 11 "RollHouse$Player" "pressure" "I") lk_X1_init_3) (fun _ h9 => h9) rfl (by decide +kernel) rfl rfl (Nat.le_of_ble_eq_true rfl) dX1_init_7 (fun H locs hP hD hS => ?_)
  have hP : va_P D vwCl ([(h0, .inr (1, [.int 50, .int 0, .int 0]))]) H := hP
  have hD : va_D A ([(h0, .inr (1, [.int 50, .int 0, .int 0]))]) := hD
  refine lv_aload_n hx hb dX1_init_10 rfl (lv_at hl 0 rfl) ?_
  refine lv_iconst (v := 0) hx hb dX1_init_11 (by decide) ?_
  refine va_put (D := D) (ci := 1) (v := .int 0) (ty := .int) (C := RX1) (T := TX1) (N := 3) hx hb hts us_X1_init_X1 tyX1 tyX1_ok nmX1 hown hK hP hD hS 0 rfl rfl 1 (by decide) (hts (.fieldLink RX1 15 "RollHouse$Player" "sounding" "I") lk_X1_init_4) (fun _ h9 => h9) rfl (by decide +kernel) rfl rfl (Nat.le_of_ble_eq_true rfl) dX1_init_12 (fun H locs hP hD hS => ?_)
  have hP : va_P D vwCl ([(h0, .inr (1, [.int 50, .int 0, .int 0]))]) H := hP
  have hD : va_D A ([(h0, .inr (1, [.int 50, .int 0, .int 0]))]) := hD
  refine lv_aload_n hx hb dX1_init_15 rfl (lv_at hl 0 rfl) ?_
  refine lv_iconst (v := 0) hx hb dX1_init_16 (by decide) ?_
  refine va_put (D := D) (ci := 1) (v := .int 0) (ty := .int) (C := RX1) (T := TX1) (N := 3) hx hb hts us_X1_init_X1 tyX1 tyX1_ok nmX1 hown hK hP hD hS 0 rfl rfl 2 (by decide) (hts (.fieldLink RX1 18 "RollHouse$Player" "muted" "I") lk_X1_init_5) (fun _ h9 => h9) rfl (by decide +kernel) rfl rfl (Nat.le_of_ble_eq_true rfl) dX1_init_17 (fun H locs hP hD hS => ?_)
  have hP : va_P D vwCl ([(h0, .inr (1, [.int 50, .int 0, .int 0]))]) H := hP
  have hD : va_D A ([(h0, .inr (1, [.int 50, .int 0, .int 0]))]) := hD
  exact gl_retv G hK (u := (fun _ => h0)) hP hD hS rfl dX1_init_20
theorem lk_X0_init_0 : (Cond.methodLink RX0 3 objectInit) ∈ wsX0_init := by decide +kernel
theorem lk_X0_init_1 : (Cond.instanceMethod objectInit) ∈ wsX0_init := by decide +kernel
theorem lk_X0_init_2 : (Cond.code objectInit ⟨#[0xb1]⟩ 1 none) ∈ wsX0_init := by decide +kernel
theorem lk_X0_init_3 : (Cond.arrayClass .int) ∈ wsX0_init := by decide +kernel
theorem lk_X0_init_4 : (Cond.fieldLink RX0 9 "RollHouse$Alignment" "notePitches" "[I") ∈ wsX0_init := by decide +kernel
theorem lk_X0_init_5 : (Cond.fieldLink RX0 15 "RollHouse$Alignment" "noteSteps" "[I") ∈ wsX0_init := by decide +kernel
theorem lk_X0_init_6 : (Cond.fieldLink RX0 18 "RollHouse$Alignment" "noteOfItem" "[I") ∈ wsX0_init := by decide +kernel
theorem lk_X0_init_7 : (Cond.fieldLink RX0 21 "RollHouse$Alignment" "restCost" "[I") ∈ wsX0_init := by decide +kernel
theorem us_X0_init_X0 : ∀ w ∈ u_ws RX0 TX0 9, w ∈ wsX0_init := by decide +kernel
set_option maxRecDepth 100000 in
set_option maxHeartbeats 8000000 in
theorem mt_X0_init (l : Launch) (D : va_G) (cI cZ cR : ClassId) (h0 sz : Nat) : Met l yX0_init wsX0_init ({ frames := 1, cells := 4, slots := 2661, locals := 12 }) (gPc D (gT cI cZ cR) [(h0, .inr (0, [.null, .null, .null, .null, .int 0, .int 0, .int 0, .int 0, .int 0]))] sz [.ref h0]) (va_Qv (fun (u : Nat → Nat) => u 0 = h0) (fun u t => gB D (gT cI cZ cR) (va_A [(h0, .inr (0, [.null, .null, .null, .null, .int 0, .int 0, .int 0, .int 0, .int 0]))] sz) (w_A cI cZ cR u (fun _ => 0) (fun _ => 0) (fun _ => 0) (fun _ => 0) 0 0 0 0 0) t) (va_A [(h0, .inr (0, [.null, .null, .null, .null, .int 0, .int 0, .int 0, .int 0, .int 0]))] sz)) 4 2661 (va_A [(h0, .inr (0, [.null, .null, .null, .null, .int 0, .int 0, .int 0, .int 0, .int 0]))] sz) := by
  refine gl_entry (cc := cX0_init) (maxL := 1) (ret := none) (by decide) rfl (Nat.le_of_ble_eq_true rfl) ?_
  intro p e s m below meth c ls G hin hsz hK hN hP hD hl
  subst hsz
  obtain ⟨hx, hb, hr, hml, hown, hts, hlocks⟩ := id G
  generalize hAe : va_A [(h0, .inr (0, [.null, .null, .null, .null, .int 0, .int 0, .int 0, .int 0, .int 0]))] s.heap.size = A at hD ⊢
  have hA : ∀ q : Nat, s.heap.size ≤ q → A q := fun q h => by rw [← hAe]; exact Or.inr h
  have hS : va_S A s.heap s.heap [] := va_S.rf
  have hl : lv_has ls 1 [(0, .ref h0)] := hl
  refine lv_aload_n hx hb dX0_init_0 rfl (lv_at hl 0 rfl) ?_
  refine W.objInit hx hb hown (hts (.methodLink RX0 3 objectInit) lk_X0_init_0) (hts (.instanceMethod objectInit) lk_X0_init_1) (hts (.code objectInit ⟨#[0xb1]⟩ 1 none) lk_X0_init_2) rfl (by rw [hml]; exact hl.1) rfl dX0_init_1 (Nat.le_of_ble_eq_true rfl) (Nat.le_of_ble_eq_true rfl) ?_
  refine W.eq (g2 := F0 m 4 ls []) rfl ?_
  refine lv_aload_n hx hb dX0_init_4 rfl (lv_at hl 0 rfl) ?_
  refine lv_bipush (v := 60) hx hb dX0_init_5 (by decide) ?_
  refine gl_newI hx hb (hts (.arrayClass .int) lk_X0_init_3) hK hP hD hS hA 60 (by decide) (by decide) (by decide) (Nat.le_of_ble_eq_true rfl) (Nat.le_of_ble_eq_true rfl) dX0_init_7 (fun q7 H hP hD hS => ?_)
  have hP : va_P D vwCl ([(h0, .inr (0, [.null, .null, .null, .null, .int 0, .int 0, .int 0, .int 0, .int 0])), (q7, .inl (cI, 60, .inl (fun _ => 0)))]) H := hP
  have hD : va_D A ([(h0, .inr (0, [.null, .null, .null, .null, .int 0, .int 0, .int 0, .int 0, .int 0])), (q7, .inl (cI, 60, .inl (fun _ => 0)))]) := hD
  refine va_putF (D := D) (ci := 0) (v := .ref (q7)) (ty := .array .int) (C := RX0) (T := TX0) (N := 9) hx hb hts us_X0_init_X0 tyX0 tyX0_ok nmX0 hown hK hP hD hS 0 rfl rfl 0 (by decide) (hts (.fieldLink RX0 9 "RollHouse$Alignment" "notePitches" "[I") lk_X0_init_4) (fun _ h9 => h9) rfl hin rfl (by decide +kernel) rfl rfl (Nat.le_of_ble_eq_true rfl) dX0_init_9 (fun H locs hP hD hS => ?_)
  have hP : va_P D vwCl ([(h0, .inr (0, [.ref (q7), .null, .null, .null, .int 0, .int 0, .int 0, .int 0, .int 0])), (q7, .inl (cI, 60, .inl (fun _ => 0)))]) H := hP
  have hD : va_D A ([(h0, .inr (0, [.ref (q7), .null, .null, .null, .int 0, .int 0, .int 0, .int 0, .int 0])), (q7, .inl (cI, 60, .inl (fun _ => 0)))]) := hD
  refine lv_aload_n hx hb dX0_init_12 rfl (lv_at hl 0 rfl) ?_
  refine lv_bipush (v := 60) hx hb dX0_init_13 (by decide) ?_
  refine gl_newI hx hb (hts (.arrayClass .int) lk_X0_init_3) hK hP hD hS hA 60 (by decide) (by decide) (by decide) (Nat.le_of_ble_eq_true rfl) (Nat.le_of_ble_eq_true rfl) dX0_init_15 (fun q15 H hP hD hS => ?_)
  have hP : va_P D vwCl ([(h0, .inr (0, [.ref (q7), .null, .null, .null, .int 0, .int 0, .int 0, .int 0, .int 0])), (q7, .inl (cI, 60, .inl (fun _ => 0))), (q15, .inl (cI, 60, .inl (fun _ => 0)))]) H := hP
  have hD : va_D A ([(h0, .inr (0, [.ref (q7), .null, .null, .null, .int 0, .int 0, .int 0, .int 0, .int 0])), (q7, .inl (cI, 60, .inl (fun _ => 0))), (q15, .inl (cI, 60, .inl (fun _ => 0)))]) := hD
  refine va_putF (D := D) (ci := 0) (v := .ref (q15)) (ty := .array .int) (C := RX0) (T := TX0) (N := 9) hx hb hts us_X0_init_X0 tyX0 tyX0_ok nmX0 hown hK hP hD hS 0 rfl rfl 1 (by decide) (hts (.fieldLink RX0 15 "RollHouse$Alignment" "noteSteps" "[I") lk_X0_init_5) (fun _ h9 => h9) rfl hin rfl (by decide +kernel) rfl rfl (Nat.le_of_ble_eq_true rfl) dX0_init_17 (fun H locs hP hD hS => ?_)
  have hP : va_P D vwCl ([(h0, .inr (0, [.ref (q7), .ref (q15), .null, .null, .int 0, .int 0, .int 0, .int 0, .int 0])), (q7, .inl (cI, 60, .inl (fun _ => 0))), (q15, .inl (cI, 60, .inl (fun _ => 0)))]) H := hP
  have hD : va_D A ([(h0, .inr (0, [.ref (q7), .ref (q15), .null, .null, .int 0, .int 0, .int 0, .int 0, .int 0])), (q7, .inl (cI, 60, .inl (fun _ => 0))), (q15, .inl (cI, 60, .inl (fun _ => 0)))]) := hD
  refine lv_aload_n hx hb dX0_init_20 rfl (lv_at hl 0 rfl) ?_
  refine lv_bipush (v := 40) hx hb dX0_init_21 (by decide) ?_
  refine gl_newI hx hb (hts (.arrayClass .int) lk_X0_init_3) hK hP hD hS hA 40 (by decide) (by decide) (by decide) (Nat.le_of_ble_eq_true rfl) (Nat.le_of_ble_eq_true rfl) dX0_init_23 (fun q23 H hP hD hS => ?_)
  have hP : va_P D vwCl ([(h0, .inr (0, [.ref (q7), .ref (q15), .null, .null, .int 0, .int 0, .int 0, .int 0, .int 0])), (q7, .inl (cI, 60, .inl (fun _ => 0))), (q15, .inl (cI, 60, .inl (fun _ => 0))), (q23, .inl (cI, 40, .inl (fun _ => 0)))]) H := hP
  have hD : va_D A ([(h0, .inr (0, [.ref (q7), .ref (q15), .null, .null, .int 0, .int 0, .int 0, .int 0, .int 0])), (q7, .inl (cI, 60, .inl (fun _ => 0))), (q15, .inl (cI, 60, .inl (fun _ => 0))), (q23, .inl (cI, 40, .inl (fun _ => 0)))]) := hD
  refine va_putF (D := D) (ci := 0) (v := .ref (q23)) (ty := .array .int) (C := RX0) (T := TX0) (N := 9) hx hb hts us_X0_init_X0 tyX0 tyX0_ok nmX0 hown hK hP hD hS 0 rfl rfl 2 (by decide) (hts (.fieldLink RX0 18 "RollHouse$Alignment" "noteOfItem" "[I") lk_X0_init_6) (fun _ h9 => h9) rfl hin rfl (by decide +kernel) rfl rfl (Nat.le_of_ble_eq_true rfl) dX0_init_25 (fun H locs hP hD hS => ?_)
  have hP : va_P D vwCl ([(h0, .inr (0, [.ref (q7), .ref (q15), .ref (q23), .null, .int 0, .int 0, .int 0, .int 0, .int 0])), (q7, .inl (cI, 60, .inl (fun _ => 0))), (q15, .inl (cI, 60, .inl (fun _ => 0))), (q23, .inl (cI, 40, .inl (fun _ => 0)))]) H := hP
  have hD : va_D A ([(h0, .inr (0, [.ref (q7), .ref (q15), .ref (q23), .null, .int 0, .int 0, .int 0, .int 0, .int 0])), (q7, .inl (cI, 60, .inl (fun _ => 0))), (q15, .inl (cI, 60, .inl (fun _ => 0))), (q23, .inl (cI, 40, .inl (fun _ => 0)))]) := hD
  refine lv_aload_n hx hb dX0_init_28 rfl (lv_at hl 0 rfl) ?_
  refine lv_sipush (v := 2501) hx hb dX0_init_29 (by decide) ?_
  refine gl_newI hx hb (hts (.arrayClass .int) lk_X0_init_3) hK hP hD hS hA 2501 (by decide) (by decide) (by decide) (Nat.le_of_ble_eq_true rfl) (Nat.le_of_ble_eq_true rfl) dX0_init_32 (fun q32 H hP hD hS => ?_)
  have hP : va_P D vwCl ([(h0, .inr (0, [.ref (q7), .ref (q15), .ref (q23), .null, .int 0, .int 0, .int 0, .int 0, .int 0])), (q7, .inl (cI, 60, .inl (fun _ => 0))), (q15, .inl (cI, 60, .inl (fun _ => 0))), (q23, .inl (cI, 40, .inl (fun _ => 0))), (q32, .inl (cI, 2501, .inl (fun _ => 0)))]) H := hP
  have hD : va_D A ([(h0, .inr (0, [.ref (q7), .ref (q15), .ref (q23), .null, .int 0, .int 0, .int 0, .int 0, .int 0])), (q7, .inl (cI, 60, .inl (fun _ => 0))), (q15, .inl (cI, 60, .inl (fun _ => 0))), (q23, .inl (cI, 40, .inl (fun _ => 0))), (q32, .inl (cI, 2501, .inl (fun _ => 0)))]) := hD
  refine va_putF (D := D) (ci := 0) (v := .ref (q32)) (ty := .array .int) (C := RX0) (T := TX0) (N := 9) hx hb hts us_X0_init_X0 tyX0 tyX0_ok nmX0 hown hK hP hD hS 0 rfl rfl 3 (by decide) (hts (.fieldLink RX0 21 "RollHouse$Alignment" "restCost" "[I") lk_X0_init_7) (fun _ h9 => h9) rfl hin rfl (by decide +kernel) rfl rfl (Nat.le_of_ble_eq_true rfl) dX0_init_34 (fun H locs hP hD hS => ?_)
  have hP : va_P D vwCl ([(h0, .inr (0, [.ref (q7), .ref (q15), .ref (q23), .ref (q32), .int 0, .int 0, .int 0, .int 0, .int 0])), (q7, .inl (cI, 60, .inl (fun _ => 0))), (q15, .inl (cI, 60, .inl (fun _ => 0))), (q23, .inl (cI, 40, .inl (fun _ => 0))), (q32, .inl (cI, 2501, .inl (fun _ => 0)))]) H := hP
  have hD : va_D A ([(h0, .inr (0, [.ref (q7), .ref (q15), .ref (q23), .ref (q32), .int 0, .int 0, .int 0, .int 0, .int 0])), (q7, .inl (cI, 60, .inl (fun _ => 0))), (q15, .inl (cI, 60, .inl (fun _ => 0))), (q23, .inl (cI, 40, .inl (fun _ => 0))), (q32, .inl (cI, 2501, .inl (fun _ => 0)))]) := hD
  exact gl_retv G hK (u := (fun k => match k with | 0 => h0 | 1 => q7 | 2 => q15 | 3 => q23 | _ => q32)) hP hD hS rfl dX0_init_37
theorem lk_X2_init_0 : (Cond.methodLink RX2 3 objectInit) ∈ wsX2_init := by decide +kernel
theorem lk_X2_init_1 : (Cond.instanceMethod objectInit) ∈ wsX2_init := by decide +kernel
theorem lk_X2_init_2 : (Cond.code objectInit ⟨#[0xb1]⟩ 1 none) ∈ wsX2_init := by decide +kernel
theorem lk_X2_init_3 : (Cond.arrayClass .int) ∈ wsX2_init := by decide +kernel
theorem lk_X2_init_4 : (Cond.fieldLink RX2 11 "RollHouse$Post" "copies" "[I") ∈ wsX2_init := by decide +kernel
theorem lk_X2_init_5 : (Cond.fieldLink RX2 15 "RollHouse$Post" "days" "[I") ∈ wsX2_init := by decide +kernel
theorem lk_X2_init_6 : (Cond.fieldLink RX2 18 "RollHouse$Post" "places" "[I") ∈ wsX2_init := by decide +kernel
theorem lk_X2_init_7 : (Cond.fieldLink RX2 21 "RollHouse$Post" "toldOn" "[I") ∈ wsX2_init := by decide +kernel
theorem lk_X2_init_8 : (Cond.fieldLink RX2 24 "RollHouse$Post" "size" "I") ∈ wsX2_init := by decide +kernel
theorem lk_X2_init_9 : (Cond.fieldLink RX2 28 "RollHouse$Post" "today" "I") ∈ wsX2_init := by decide +kernel
theorem lk_X2_init_10 : (Cond.fieldLink RX2 31 "RollHouse$Post" "lineOfCopy" "[I") ∈ wsX2_init := by decide +kernel
theorem us_X2_init_X2 : ∀ w ∈ u_ws RX2 TX2 7, w ∈ wsX2_init := by decide +kernel
set_option maxRecDepth 100000 in
set_option maxHeartbeats 8000000 in
theorem mt_X2_init (l : Launch) (D : va_G) (cI cZ cR : ClassId) (h0 sz : Nat) : Met l yX2_init wsX2_init ({ frames := 1, cells := 5, slots := 1801, locals := 12 }) (gPc D (gT cI cZ cR) [(h0, .inr (2, [.null, .null, .null, .null, .int 0, .int 0, .null]))] sz [.ref h0]) (va_Qv (fun (u : Nat → Nat) => u 0 = h0) (fun u t => gB D (gT cI cZ cR) (va_A [(h0, .inr (2, [.null, .null, .null, .null, .int 0, .int 0, .null]))] sz) (w_O cI cZ cR u (fun _ => 0) (fun _ => 0) (fun _ => 0) (fun _ => 0) 0 0 (fun _ => 0)) t) (va_A [(h0, .inr (2, [.null, .null, .null, .null, .int 0, .int 0, .null]))] sz)) 5 1801 (va_A [(h0, .inr (2, [.null, .null, .null, .null, .int 0, .int 0, .null]))] sz) := by
  refine gl_entry (cc := cX2_init) (maxL := 1) (ret := none) (by decide) rfl (Nat.le_of_ble_eq_true rfl) ?_
  intro p e s m below meth c ls G hin hsz hK hN hP hD hl
  subst hsz
  obtain ⟨hx, hb, hr, hml, hown, hts, hlocks⟩ := id G
  generalize hAe : va_A [(h0, .inr (2, [.null, .null, .null, .null, .int 0, .int 0, .null]))] s.heap.size = A at hD ⊢
  have hA : ∀ q : Nat, s.heap.size ≤ q → A q := fun q h => by rw [← hAe]; exact Or.inr h
  have hS : va_S A s.heap s.heap [] := va_S.rf
  have hl : lv_has ls 1 [(0, .ref h0)] := hl
  refine lv_aload_n hx hb dX2_init_0 rfl (lv_at hl 0 rfl) ?_
  refine W.objInit hx hb hown (hts (.methodLink RX2 3 objectInit) lk_X2_init_0) (hts (.instanceMethod objectInit) lk_X2_init_1) (hts (.code objectInit ⟨#[0xb1]⟩ 1 none) lk_X2_init_2) rfl (by rw [hml]; exact hl.1) rfl dX2_init_1 (Nat.le_of_ble_eq_true rfl) (Nat.le_of_ble_eq_true rfl) ?_
  refine W.eq (g2 := F0 m 4 ls []) rfl ?_
  refine lv_aload_n hx hb dX2_init_4 rfl (lv_at hl 0 rfl) ?_
  refine lv_sipush (v := 200) hx hb dX2_init_5 (by decide) ?_
  refine gl_newI hx hb (hts (.arrayClass .int) lk_X2_init_3) hK hP hD hS hA 200 (by decide) (by decide) (by decide) (Nat.le_of_ble_eq_true rfl) (Nat.le_of_ble_eq_true rfl) dX2_init_8 (fun q8 H hP hD hS => ?_)
  have hP : va_P D vwCl ([(h0, .inr (2, [.null, .null, .null, .null, .int 0, .int 0, .null])), (q8, .inl (cI, 200, .inl (fun _ => 0)))]) H := hP
  have hD : va_D A ([(h0, .inr (2, [.null, .null, .null, .null, .int 0, .int 0, .null])), (q8, .inl (cI, 200, .inl (fun _ => 0)))]) := hD
  refine va_putF (D := D) (ci := 2) (v := .ref (q8)) (ty := .array .int) (C := RX2) (T := TX2) (N := 7) hx hb hts us_X2_init_X2 tyX2 tyX2_ok nmX2 hown hK hP hD hS 0 rfl rfl 0 (by decide) (hts (.fieldLink RX2 11 "RollHouse$Post" "copies" "[I") lk_X2_init_4) (fun _ h9 => h9) rfl hin rfl (by decide +kernel) rfl rfl (Nat.le_of_ble_eq_true rfl) dX2_init_10 (fun H locs hP hD hS => ?_)
  have hP : va_P D vwCl ([(h0, .inr (2, [.ref (q8), .null, .null, .null, .int 0, .int 0, .null])), (q8, .inl (cI, 200, .inl (fun _ => 0)))]) H := hP
  have hD : va_D A ([(h0, .inr (2, [.ref (q8), .null, .null, .null, .int 0, .int 0, .null])), (q8, .inl (cI, 200, .inl (fun _ => 0)))]) := hD
  refine lv_aload_n hx hb dX2_init_13 rfl (lv_at hl 0 rfl) ?_
  refine lv_sipush (v := 200) hx hb dX2_init_14 (by decide) ?_
  refine gl_newI hx hb (hts (.arrayClass .int) lk_X2_init_3) hK hP hD hS hA 200 (by decide) (by decide) (by decide) (Nat.le_of_ble_eq_true rfl) (Nat.le_of_ble_eq_true rfl) dX2_init_17 (fun q17 H hP hD hS => ?_)
  have hP : va_P D vwCl ([(h0, .inr (2, [.ref (q8), .null, .null, .null, .int 0, .int 0, .null])), (q8, .inl (cI, 200, .inl (fun _ => 0))), (q17, .inl (cI, 200, .inl (fun _ => 0)))]) H := hP
  have hD : va_D A ([(h0, .inr (2, [.ref (q8), .null, .null, .null, .int 0, .int 0, .null])), (q8, .inl (cI, 200, .inl (fun _ => 0))), (q17, .inl (cI, 200, .inl (fun _ => 0)))]) := hD
  refine va_putF (D := D) (ci := 2) (v := .ref (q17)) (ty := .array .int) (C := RX2) (T := TX2) (N := 7) hx hb hts us_X2_init_X2 tyX2 tyX2_ok nmX2 hown hK hP hD hS 0 rfl rfl 1 (by decide) (hts (.fieldLink RX2 15 "RollHouse$Post" "days" "[I") lk_X2_init_5) (fun _ h9 => h9) rfl hin rfl (by decide +kernel) rfl rfl (Nat.le_of_ble_eq_true rfl) dX2_init_19 (fun H locs hP hD hS => ?_)
  have hP : va_P D vwCl ([(h0, .inr (2, [.ref (q8), .ref (q17), .null, .null, .int 0, .int 0, .null])), (q8, .inl (cI, 200, .inl (fun _ => 0))), (q17, .inl (cI, 200, .inl (fun _ => 0)))]) H := hP
  have hD : va_D A ([(h0, .inr (2, [.ref (q8), .ref (q17), .null, .null, .int 0, .int 0, .null])), (q8, .inl (cI, 200, .inl (fun _ => 0))), (q17, .inl (cI, 200, .inl (fun _ => 0)))]) := hD
  refine lv_aload_n hx hb dX2_init_22 rfl (lv_at hl 0 rfl) ?_
  refine lv_sipush (v := 200) hx hb dX2_init_23 (by decide) ?_
  refine gl_newI hx hb (hts (.arrayClass .int) lk_X2_init_3) hK hP hD hS hA 200 (by decide) (by decide) (by decide) (Nat.le_of_ble_eq_true rfl) (Nat.le_of_ble_eq_true rfl) dX2_init_26 (fun q26 H hP hD hS => ?_)
  have hP : va_P D vwCl ([(h0, .inr (2, [.ref (q8), .ref (q17), .null, .null, .int 0, .int 0, .null])), (q8, .inl (cI, 200, .inl (fun _ => 0))), (q17, .inl (cI, 200, .inl (fun _ => 0))), (q26, .inl (cI, 200, .inl (fun _ => 0)))]) H := hP
  have hD : va_D A ([(h0, .inr (2, [.ref (q8), .ref (q17), .null, .null, .int 0, .int 0, .null])), (q8, .inl (cI, 200, .inl (fun _ => 0))), (q17, .inl (cI, 200, .inl (fun _ => 0))), (q26, .inl (cI, 200, .inl (fun _ => 0)))]) := hD
  refine va_putF (D := D) (ci := 2) (v := .ref (q26)) (ty := .array .int) (C := RX2) (T := TX2) (N := 7) hx hb hts us_X2_init_X2 tyX2 tyX2_ok nmX2 hown hK hP hD hS 0 rfl rfl 2 (by decide) (hts (.fieldLink RX2 18 "RollHouse$Post" "places" "[I") lk_X2_init_6) (fun _ h9 => h9) rfl hin rfl (by decide +kernel) rfl rfl (Nat.le_of_ble_eq_true rfl) dX2_init_28 (fun H locs hP hD hS => ?_)
  have hP : va_P D vwCl ([(h0, .inr (2, [.ref (q8), .ref (q17), .ref (q26), .null, .int 0, .int 0, .null])), (q8, .inl (cI, 200, .inl (fun _ => 0))), (q17, .inl (cI, 200, .inl (fun _ => 0))), (q26, .inl (cI, 200, .inl (fun _ => 0)))]) H := hP
  have hD : va_D A ([(h0, .inr (2, [.ref (q8), .ref (q17), .ref (q26), .null, .int 0, .int 0, .null])), (q8, .inl (cI, 200, .inl (fun _ => 0))), (q17, .inl (cI, 200, .inl (fun _ => 0))), (q26, .inl (cI, 200, .inl (fun _ => 0)))]) := hD
  refine lv_aload_n hx hb dX2_init_31 rfl (lv_at hl 0 rfl) ?_
  refine lv_sipush (v := 200) hx hb dX2_init_32 (by decide) ?_
  refine gl_newI hx hb (hts (.arrayClass .int) lk_X2_init_3) hK hP hD hS hA 200 (by decide) (by decide) (by decide) (Nat.le_of_ble_eq_true rfl) (Nat.le_of_ble_eq_true rfl) dX2_init_35 (fun q35 H hP hD hS => ?_)
  have hP : va_P D vwCl ([(h0, .inr (2, [.ref (q8), .ref (q17), .ref (q26), .null, .int 0, .int 0, .null])), (q8, .inl (cI, 200, .inl (fun _ => 0))), (q17, .inl (cI, 200, .inl (fun _ => 0))), (q26, .inl (cI, 200, .inl (fun _ => 0))), (q35, .inl (cI, 200, .inl (fun _ => 0)))]) H := hP
  have hD : va_D A ([(h0, .inr (2, [.ref (q8), .ref (q17), .ref (q26), .null, .int 0, .int 0, .null])), (q8, .inl (cI, 200, .inl (fun _ => 0))), (q17, .inl (cI, 200, .inl (fun _ => 0))), (q26, .inl (cI, 200, .inl (fun _ => 0))), (q35, .inl (cI, 200, .inl (fun _ => 0)))]) := hD
  refine va_putF (D := D) (ci := 2) (v := .ref (q35)) (ty := .array .int) (C := RX2) (T := TX2) (N := 7) hx hb hts us_X2_init_X2 tyX2 tyX2_ok nmX2 hown hK hP hD hS 0 rfl rfl 3 (by decide) (hts (.fieldLink RX2 21 "RollHouse$Post" "toldOn" "[I") lk_X2_init_7) (fun _ h9 => h9) rfl hin rfl (by decide +kernel) rfl rfl (Nat.le_of_ble_eq_true rfl) dX2_init_37 (fun H locs hP hD hS => ?_)
  have hP : va_P D vwCl ([(h0, .inr (2, [.ref (q8), .ref (q17), .ref (q26), .ref (q35), .int 0, .int 0, .null])), (q8, .inl (cI, 200, .inl (fun _ => 0))), (q17, .inl (cI, 200, .inl (fun _ => 0))), (q26, .inl (cI, 200, .inl (fun _ => 0))), (q35, .inl (cI, 200, .inl (fun _ => 0)))]) H := hP
  have hD : va_D A ([(h0, .inr (2, [.ref (q8), .ref (q17), .ref (q26), .ref (q35), .int 0, .int 0, .null])), (q8, .inl (cI, 200, .inl (fun _ => 0))), (q17, .inl (cI, 200, .inl (fun _ => 0))), (q26, .inl (cI, 200, .inl (fun _ => 0))), (q35, .inl (cI, 200, .inl (fun _ => 0)))]) := hD
  refine lv_aload_n hx hb dX2_init_40 rfl (lv_at hl 0 rfl) ?_
  refine lv_iconst (v := 0) hx hb dX2_init_41 (by decide) ?_
  refine va_put (D := D) (ci := 2) (v := .int 0) (ty := .int) (C := RX2) (T := TX2) (N := 7) hx hb hts us_X2_init_X2 tyX2 tyX2_ok nmX2 hown hK hP hD hS 0 rfl rfl 4 (by decide) (hts (.fieldLink RX2 24 "RollHouse$Post" "size" "I") lk_X2_init_8) (fun _ h9 => h9) rfl (by decide +kernel) rfl rfl (Nat.le_of_ble_eq_true rfl) dX2_init_42 (fun H locs hP hD hS => ?_)
  have hP : va_P D vwCl ([(h0, .inr (2, [.ref (q8), .ref (q17), .ref (q26), .ref (q35), .int 0, .int 0, .null])), (q8, .inl (cI, 200, .inl (fun _ => 0))), (q17, .inl (cI, 200, .inl (fun _ => 0))), (q26, .inl (cI, 200, .inl (fun _ => 0))), (q35, .inl (cI, 200, .inl (fun _ => 0)))]) H := hP
  have hD : va_D A ([(h0, .inr (2, [.ref (q8), .ref (q17), .ref (q26), .ref (q35), .int 0, .int 0, .null])), (q8, .inl (cI, 200, .inl (fun _ => 0))), (q17, .inl (cI, 200, .inl (fun _ => 0))), (q26, .inl (cI, 200, .inl (fun _ => 0))), (q35, .inl (cI, 200, .inl (fun _ => 0)))]) := hD
  refine lv_aload_n hx hb dX2_init_45 rfl (lv_at hl 0 rfl) ?_
  refine lv_iconst (v := 0) hx hb dX2_init_46 (by decide) ?_
  refine va_put (D := D) (ci := 2) (v := .int 0) (ty := .int) (C := RX2) (T := TX2) (N := 7) hx hb hts us_X2_init_X2 tyX2 tyX2_ok nmX2 hown hK hP hD hS 0 rfl rfl 5 (by decide) (hts (.fieldLink RX2 28 "RollHouse$Post" "today" "I") lk_X2_init_9) (fun _ h9 => h9) rfl (by decide +kernel) rfl rfl (Nat.le_of_ble_eq_true rfl) dX2_init_47 (fun H locs hP hD hS => ?_)
  have hP : va_P D vwCl ([(h0, .inr (2, [.ref (q8), .ref (q17), .ref (q26), .ref (q35), .int 0, .int 0, .null])), (q8, .inl (cI, 200, .inl (fun _ => 0))), (q17, .inl (cI, 200, .inl (fun _ => 0))), (q26, .inl (cI, 200, .inl (fun _ => 0))), (q35, .inl (cI, 200, .inl (fun _ => 0)))]) H := hP
  have hD : va_D A ([(h0, .inr (2, [.ref (q8), .ref (q17), .ref (q26), .ref (q35), .int 0, .int 0, .null])), (q8, .inl (cI, 200, .inl (fun _ => 0))), (q17, .inl (cI, 200, .inl (fun _ => 0))), (q26, .inl (cI, 200, .inl (fun _ => 0))), (q35, .inl (cI, 200, .inl (fun _ => 0)))]) := hD
  refine lv_aload_n hx hb dX2_init_50 rfl (lv_at hl 0 rfl) ?_
  refine lv_sipush (v := 1001) hx hb dX2_init_51 (by decide) ?_
  refine gl_newI hx hb (hts (.arrayClass .int) lk_X2_init_3) hK hP hD hS hA 1001 (by decide) (by decide) (by decide) (Nat.le_of_ble_eq_true rfl) (Nat.le_of_ble_eq_true rfl) dX2_init_54 (fun q54 H hP hD hS => ?_)
  have hP : va_P D vwCl ([(h0, .inr (2, [.ref (q8), .ref (q17), .ref (q26), .ref (q35), .int 0, .int 0, .null])), (q8, .inl (cI, 200, .inl (fun _ => 0))), (q17, .inl (cI, 200, .inl (fun _ => 0))), (q26, .inl (cI, 200, .inl (fun _ => 0))), (q35, .inl (cI, 200, .inl (fun _ => 0))), (q54, .inl (cI, 1001, .inl (fun _ => 0)))]) H := hP
  have hD : va_D A ([(h0, .inr (2, [.ref (q8), .ref (q17), .ref (q26), .ref (q35), .int 0, .int 0, .null])), (q8, .inl (cI, 200, .inl (fun _ => 0))), (q17, .inl (cI, 200, .inl (fun _ => 0))), (q26, .inl (cI, 200, .inl (fun _ => 0))), (q35, .inl (cI, 200, .inl (fun _ => 0))), (q54, .inl (cI, 1001, .inl (fun _ => 0)))]) := hD
  refine va_putF (D := D) (ci := 2) (v := .ref (q54)) (ty := .array .int) (C := RX2) (T := TX2) (N := 7) hx hb hts us_X2_init_X2 tyX2 tyX2_ok nmX2 hown hK hP hD hS 0 rfl rfl 6 (by decide) (hts (.fieldLink RX2 31 "RollHouse$Post" "lineOfCopy" "[I") lk_X2_init_10) (fun _ h9 => h9) rfl hin rfl (by decide +kernel) rfl rfl (Nat.le_of_ble_eq_true rfl) dX2_init_56 (fun H locs hP hD hS => ?_)
  have hP : va_P D vwCl ([(h0, .inr (2, [.ref (q8), .ref (q17), .ref (q26), .ref (q35), .int 0, .int 0, .ref (q54)])), (q8, .inl (cI, 200, .inl (fun _ => 0))), (q17, .inl (cI, 200, .inl (fun _ => 0))), (q26, .inl (cI, 200, .inl (fun _ => 0))), (q35, .inl (cI, 200, .inl (fun _ => 0))), (q54, .inl (cI, 1001, .inl (fun _ => 0)))]) H := hP
  have hD : va_D A ([(h0, .inr (2, [.ref (q8), .ref (q17), .ref (q26), .ref (q35), .int 0, .int 0, .ref (q54)])), (q8, .inl (cI, 200, .inl (fun _ => 0))), (q17, .inl (cI, 200, .inl (fun _ => 0))), (q26, .inl (cI, 200, .inl (fun _ => 0))), (q35, .inl (cI, 200, .inl (fun _ => 0))), (q54, .inl (cI, 1001, .inl (fun _ => 0)))]) := hD
  exact gl_retv G hK (u := (fun k => match k with | 0 => h0 | 1 => q8 | 2 => q17 | 3 => q26 | 4 => q35 | _ => q54)) hP hD hS rfl dX2_init_59
theorem lkl_X3_init_0 : (Cond.fieldLink RX3 18 "RollHouse$Punches" "sights" "I") ∈ wsX3_init := by decide +kernel
theorem lkl_X3_init_1 : (Cond.fieldLink RX3 9 "RollHouse$Punches" "least" "[I") ∈ wsX3_init := by decide +kernel
theorem lkl_X3_init_2 : (Cond.fieldLink RX3 15 "RollHouse$Punches" "greatest" "[I") ∈ wsX3_init := by decide +kernel
theorem usl_X3_init_X3 : ∀ w ∈ u_ws RX3 TX3 3, w ∈ wsX3_init := by decide +kernel
def wl_X3_init_22  (post : (Nat → Nat) → (Nat → Int32) → (Nat → Int32) → Int32 → Prop) : Nat → (Int32) → (Nat → Nat) → (Nat → Int32) → (Nat → Int32) → (Int32) → Prop
  | 0, _, _, _, _, _ => False
  | fu + 1, v1, ad_u, u_least, u_greatest, u_sights => ((24 ≤ v1 → post ad_u u_least u_greatest 0) ∧ (¬ 24 ≤ v1 → (vp_in v1 24 ∧ (∀ a1 : Nat → Int32, a1 = upd u_least v1.toNatClampNeg 1 → (vp_in v1 24 ∧ (∀ a2 : Nat → Int32, a2 = upd u_greatest v1.toNatClampNeg 1001 → wl_X3_init_22 post fu (v1 + 1) ad_u a1 a2 u_sights))))))
set_option maxRecDepth 100000 in
set_option maxHeartbeats 4000000 in
theorem ml_X3_init_22 {p : Program} {l : Launch} {e : Env} {s : State} {m : MethodId} {args : Array Value} {below : List Frame} {meth : Method} {c : Code} {D : va_G} {cI cZ cR : ClassId} {A : Nat → Prop}  (G : gG p s m args meth c cX3_init none 2 RX3 wsX3_init) (hK : va_K D vwCl (gT cI cZ cR) s) (hN : va_Nw gN s) (hA : ∀ q, s.heap.size ≤ q → A q)  (post : (Nat → Nat) → (Nat → Int32) → (Nat → Int32) → Int32 → Prop) : ∀ (fu : Nat) (v1 : Int32) (ad_u : Nat → Nat) (u_least : Nat → Int32) (u_greatest : Nat → Int32) (u_sights : Int32), wl_X3_init_22 post fu v1 ad_u u_least u_greatest u_sights → ∀ (H : Heap) (locs : List Loc), va_P D vwCl (w_U cI cZ cR ad_u u_least u_greatest u_sights) H → va_D A (w_U cI cZ cR ad_u u_least u_greatest u_sights) → va_S A s.heap H locs → ∀ (ls : Array Slot), lv_has ls 2 [(0, .ref (ad_u 0)), (1, .int v1)] → W p l e { frames := 1, cells := 2, slots := 48, locals := 12 } s m args below meth c H locs 2 48 (MQ below (va_Qv (fun (u : (Nat → Nat) × (Nat → Int32) × (Nat → Int32) × (Int32)) => post u.1 u.2.1 u.2.2.1 u.2.2.2) (fun u t => gB D (gT cI cZ cR) A (w_U cI cZ cR u.1 u.2.1 u.2.2.1 u.2.2.2) t) A) args s 2 48 A) (F0 m 22 ls []) := by
  obtain ⟨hx, hb, hr, hml, hown, hts, hlocks⟩ := id G
  intro fu
  induction fu with
  | zero =>
    intro v1 ad_u u_least u_greatest u_sights h
    exact h.elim
  | succ fu ih =>
    intro v1 ad_u u_least u_greatest u_sights h H locs hP hD hS ls hl
    rw [wl_X3_init_22] at h
    refine lv_iload_n hx hb dX3_init_22 rfl (lv_at hl 1 rfl) ?_
    refine lv_bipush (v := 24) hx hb dX3_init_23 (by decide) ?_
    refine lv_icmp_ge (tgt := 50) hx hb dX3_init_25 (by decide) (fun hc => ?_) (fun hc => ?_)
    · have h := h.1 hc
      refine lv_aload_n hx hb dX3_init_50 rfl (lv_at hl 0 rfl) ?_
      refine lv_iconst (v := 0) hx hb dX3_init_51 (by decide) ?_
      refine va_put (D := D) (ci := 3) (v := .int 0) (ty := .int) (C := RX3) (T := TX3) (N := 3) hx hb hts usl_X3_init_X3 tyX3 tyX3_ok nmX3 hown hK hP hD hS 0 rfl rfl 2 (by decide) (hts (.fieldLink RX3 18 "RollHouse$Punches" "sights" "I") lkl_X3_init_0) (fun _ h9 => h9) rfl (by decide +kernel) rfl rfl (Nat.le_of_ble_eq_true rfl) dX3_init_52 (fun H locs hP hD hS => ?_)
      have hP : va_P D vwCl (w_U cI cZ cR ad_u u_least u_greatest 0) H := hP
      have hD : va_D A (w_U cI cZ cR ad_u u_least u_greatest 0) := hD
      exact gl_retv G hK (u := (ad_u, u_least, u_greatest, 0)) hP hD hS h dX3_init_55
    · have h := h.2 hc
      refine lv_aload_n hx hb dX3_init_28 rfl (lv_at hl 0 rfl) ?_
      refine va_get (D := D) (ci := 3) (v := .ref (ad_u 1)) (C := RX3) (T := TX3) (N := 3) hx hb hts usl_X3_init_X3 hown hK hP 0 rfl rfl 0 (by decide) (hts (.fieldLink RX3 9 "RollHouse$Punches" "least" "[I") lkl_X3_init_1) (fun _ h9 => h9) rfl dX3_init_29 ?_
      refine lv_iload_n hx hb dX3_init_32 rfl (lv_at hl 1 rfl) ?_
      refine lv_iconst (v := 1) hx hb dX3_init_33 (by decide) ?_
      obtain ⟨hin, h⟩ := h
      refine va_iast hx hb hK hP hD hS 1 0 rfl rfl hin dX3_init_34 (fun H locs hP hD hS => ?_)
      obtain ⟨a1, ea1⟩ : ∃ f, f = upd u_least v1.toNatClampNeg 1 := ⟨_, rfl⟩
      have h := h a1 ea1
      rw [← ea1] at hP hD
      have hP : va_P D vwCl (w_U cI cZ cR ad_u a1 u_greatest u_sights) H := hP
      have hD : va_D A (w_U cI cZ cR ad_u a1 u_greatest u_sights) := hD
      refine lv_aload_n hx hb dX3_init_35 rfl (lv_at hl 0 rfl) ?_
      refine va_get (D := D) (ci := 3) (v := .ref (ad_u 2)) (C := RX3) (T := TX3) (N := 3) hx hb hts usl_X3_init_X3 hown hK hP 0 rfl rfl 1 (by decide) (hts (.fieldLink RX3 15 "RollHouse$Punches" "greatest" "[I") lkl_X3_init_2) (fun _ h9 => h9) rfl dX3_init_36 ?_
      refine lv_iload_n hx hb dX3_init_39 rfl (lv_at hl 1 rfl) ?_
      refine lv_sipush (v := 1001) hx hb dX3_init_40 (by decide) ?_
      obtain ⟨hin, h⟩ := h
      refine va_iast hx hb hK hP hD hS 2 0 rfl rfl hin dX3_init_43 (fun H locs hP hD hS => ?_)
      obtain ⟨a2, ea2⟩ : ∃ f, f = upd u_greatest v1.toNatClampNeg 1001 := ⟨_, rfl⟩
      have h := h a2 ea2
      rw [← ea2] at hP hD
      have hP : va_P D vwCl (w_U cI cZ cR ad_u a1 a2 u_sights) H := hP
      have hD : va_D A (w_U cI cZ cR ad_u a1 a2 u_sights) := hD
      refine lv_iinc (v := v1 + 1) (lv' := [(1, .int (v1 + 1)), (0, .ref (ad_u 0))]) hx hb dX3_init_44 hl (k := 1) rfl rfl (by decide) rfl (fun ls hl => ?_)
      refine lv_goto (tgt := 22) hx hb dX3_init_47 (by decide) ?_
      exact ih (v1 + 1) ad_u a1 a2 u_sights h H locs hP hD hS ls (lv_sub hl [1, 0] rfl)
theorem lk_X3_init_0 : (Cond.methodLink RX3 3 objectInit) ∈ wsX3_init := by decide +kernel
theorem lk_X3_init_1 : (Cond.instanceMethod objectInit) ∈ wsX3_init := by decide +kernel
theorem lk_X3_init_2 : (Cond.code objectInit ⟨#[0xb1]⟩ 1 none) ∈ wsX3_init := by decide +kernel
theorem lk_X3_init_3 : (Cond.arrayClass .int) ∈ wsX3_init := by decide +kernel
theorem lk_X3_init_4 : (Cond.fieldLink RX3 9 "RollHouse$Punches" "least" "[I") ∈ wsX3_init := by decide +kernel
theorem lk_X3_init_5 : (Cond.fieldLink RX3 15 "RollHouse$Punches" "greatest" "[I") ∈ wsX3_init := by decide +kernel
theorem us_X3_init_X3 : ∀ w ∈ u_ws RX3 TX3 3, w ∈ wsX3_init := by decide +kernel
theorem wx_X3_init {post : (Nat → Nat) → (Nat → Int32) → (Nat → Int32) → Int32 → Prop} (ad : Nat → Nat) (h : ∀ f g : Nat → Int32, (∀ k, k < 24 → f k = 1) → (∀ k, k < 24 → g k = 1001) → post ad f g 0) : ∃ n, wl_X3_init_22 post n 0 ad (fun _ => 0) (fun _ => 0) 0 := by
  have key : ∀ (n i : Nat) (f g : Nat → Int32), i + n = 24 → (∀ k, k < i → f k = 1) → (∀ k, k < i → g k = 1001) → wl_X3_init_22 post (n + 1) (iI i) ad f g 0 := by
    intro n
    induction n with
    | zero =>
      intro i f g hi hf hg
      rw [wl_X3_init_22]
      refine q_le 24 i (fun hc => ?_) (fun hc => absurd hc (by omega))
      exact h f g (fun k hk => hf k (by omega)) (fun k hk => hg k (by omega))
    | succ n ih =>
      intro i f g hi hf hg
      rw [wl_X3_init_22]
      refine q_le 24 i (fun hc => absurd hc (by omega)) (fun hc => ?_)
      refine q_in i ?_
      rintro a1 rfl
      refine q_in i ?_
      rintro a2 rfl
      have e : iI (i : Int) + 1 = iI ((i + 1 : Nat) : Int) := by
        simp only [iI_lit, iI_add]
        exact iI_c (by omega)
      rw [e, q_cl i]
      refine ih (i + 1) _ _ (by omega) (fun k hk => ?_) (fun k hk => ?_)
      · by_cases q : k = i
        · rw [q]; exact pk_us
        · rw [pk_un q]; exact hf k (by omega)
      · by_cases q : k = i
        · rw [q]; exact pk_us
        · rw [pk_un q]; exact hg k (by omega)
  exact ⟨25, key 24 0 _ _ (by omega) (fun k hk => absurd hk (by omega)) (fun k hk => absurd hk (by omega))⟩
set_option maxRecDepth 100000 in
set_option maxHeartbeats 8000000 in
theorem mt_X3_init (l : Launch) (D : va_G) (cI cZ cR : ClassId) (h0 sz : Nat) : Met l yX3_init wsX3_init ({ frames := 1, cells := 2, slots := 48, locals := 12 }) (gPc D (gT cI cZ cR) [(h0, .inr (3, [.null, .null, .int 0]))] sz [.ref h0]) (va_Qv (fun (u : (Nat → Nat) × (Nat → Int32) × (Nat → Int32) × (Int32)) => u.1 0 = h0 ∧ (∀ k, k < 24 → u.2.1 k = 1) ∧ (∀ k, k < 24 → u.2.2.1 k = 1001) ∧ u.2.2.2 = 0) (fun u t => gB D (gT cI cZ cR) (va_A [(h0, .inr (3, [.null, .null, .int 0]))] sz) (w_U cI cZ cR u.1 u.2.1 u.2.2.1 u.2.2.2) t) (va_A [(h0, .inr (3, [.null, .null, .int 0]))] sz)) 2 48 (va_A [(h0, .inr (3, [.null, .null, .int 0]))] sz) := by
  refine gl_entry (cc := cX3_init) (maxL := 2) (ret := none) (by decide) rfl (Nat.le_of_ble_eq_true rfl) ?_
  intro p e s m below meth c ls G hin hsz hK hN hP hD hl
  subst hsz
  obtain ⟨hx, hb, hr, hml, hown, hts, hlocks⟩ := id G
  generalize hAe : va_A [(h0, .inr (3, [.null, .null, .int 0]))] s.heap.size = A at hD ⊢
  have hA : ∀ q : Nat, s.heap.size ≤ q → A q := fun q h => by rw [← hAe]; exact Or.inr h
  have hS : va_S A s.heap s.heap [] := va_S.rf
  have hl : lv_has ls 2 [(0, .ref h0)] := hl
  refine lv_aload_n hx hb dX3_init_0 rfl (lv_at hl 0 rfl) ?_
  refine W.objInit hx hb hown (hts (.methodLink RX3 3 objectInit) lk_X3_init_0) (hts (.instanceMethod objectInit) lk_X3_init_1) (hts (.code objectInit ⟨#[0xb1]⟩ 1 none) lk_X3_init_2) rfl (by rw [hml]; exact hl.1) rfl dX3_init_1 (Nat.le_of_ble_eq_true rfl) (Nat.le_of_ble_eq_true rfl) ?_
  refine W.eq (g2 := F0 m 4 ls []) rfl ?_
  refine lv_aload_n hx hb dX3_init_4 rfl (lv_at hl 0 rfl) ?_
  refine lv_bipush (v := 24) hx hb dX3_init_5 (by decide) ?_
  refine gl_newI hx hb (hts (.arrayClass .int) lk_X3_init_3) hK hP hD hS hA 24 (by decide) (by decide) (by decide) (Nat.le_of_ble_eq_true rfl) (Nat.le_of_ble_eq_true rfl) dX3_init_7 (fun q7 H hP hD hS => ?_)
  have hP : va_P D vwCl ([(h0, .inr (3, [.null, .null, .int 0])), (q7, .inl (cI, 24, .inl (fun _ => 0)))]) H := hP
  have hD : va_D A ([(h0, .inr (3, [.null, .null, .int 0])), (q7, .inl (cI, 24, .inl (fun _ => 0)))]) := hD
  refine va_putF (D := D) (ci := 3) (v := .ref (q7)) (ty := .array .int) (C := RX3) (T := TX3) (N := 3) hx hb hts us_X3_init_X3 tyX3 tyX3_ok nmX3 hown hK hP hD hS 0 rfl rfl 0 (by decide) (hts (.fieldLink RX3 9 "RollHouse$Punches" "least" "[I") lk_X3_init_4) (fun _ h9 => h9) rfl hin rfl (by decide +kernel) rfl rfl (Nat.le_of_ble_eq_true rfl) dX3_init_9 (fun H locs hP hD hS => ?_)
  have hP : va_P D vwCl ([(h0, .inr (3, [.ref (q7), .null, .int 0])), (q7, .inl (cI, 24, .inl (fun _ => 0)))]) H := hP
  have hD : va_D A ([(h0, .inr (3, [.ref (q7), .null, .int 0])), (q7, .inl (cI, 24, .inl (fun _ => 0)))]) := hD
  refine lv_aload_n hx hb dX3_init_12 rfl (lv_at hl 0 rfl) ?_
  refine lv_bipush (v := 24) hx hb dX3_init_13 (by decide) ?_
  refine gl_newI hx hb (hts (.arrayClass .int) lk_X3_init_3) hK hP hD hS hA 24 (by decide) (by decide) (by decide) (Nat.le_of_ble_eq_true rfl) (Nat.le_of_ble_eq_true rfl) dX3_init_15 (fun q15 H hP hD hS => ?_)
  have hP : va_P D vwCl ([(h0, .inr (3, [.ref (q7), .null, .int 0])), (q7, .inl (cI, 24, .inl (fun _ => 0))), (q15, .inl (cI, 24, .inl (fun _ => 0)))]) H := hP
  have hD : va_D A ([(h0, .inr (3, [.ref (q7), .null, .int 0])), (q7, .inl (cI, 24, .inl (fun _ => 0))), (q15, .inl (cI, 24, .inl (fun _ => 0)))]) := hD
  refine va_putF (D := D) (ci := 3) (v := .ref (q15)) (ty := .array .int) (C := RX3) (T := TX3) (N := 3) hx hb hts us_X3_init_X3 tyX3 tyX3_ok nmX3 hown hK hP hD hS 0 rfl rfl 1 (by decide) (hts (.fieldLink RX3 15 "RollHouse$Punches" "greatest" "[I") lk_X3_init_5) (fun _ h9 => h9) rfl hin rfl (by decide +kernel) rfl rfl (Nat.le_of_ble_eq_true rfl) dX3_init_17 (fun H locs hP hD hS => ?_)
  have hP : va_P D vwCl ([(h0, .inr (3, [.ref (q7), .ref (q15), .int 0])), (q7, .inl (cI, 24, .inl (fun _ => 0))), (q15, .inl (cI, 24, .inl (fun _ => 0)))]) H := hP
  have hD : va_D A ([(h0, .inr (3, [.ref (q7), .ref (q15), .int 0])), (q7, .inl (cI, 24, .inl (fun _ => 0))), (q15, .inl (cI, 24, .inl (fun _ => 0)))]) := hD
  refine lv_iconst (v := 0) hx hb dX3_init_20 (by decide) ?_
  refine lv_istore_n (lv' := [(1, .int 0), (0, .ref h0)]) hx hb dX3_init_21 rfl hl (by decide) rfl (fun ls hl => ?_)
  obtain ⟨nf, h⟩ := wx_X3_init (post := fun (a : Nat → Nat) (f g : Nat → Int32) (n : Int32) => a 0 = h0 ∧ (∀ k, k < 24 → f k = 1) ∧ (∀ k, k < 24 → g k = 1001) ∧ n = 0) (fun k => match k with | 0 => h0 | 1 => q7 | _ => q15) (fun f g hf hg => ⟨rfl, hf, hg, rfl⟩)
  exact ml_X3_init_22 G hK hN hA _ nf 0 (fun k => match k with | 0 => h0 | 1 => q7 | _ => q15) (fun _ => 0) (fun _ => 0) 0 h H locs hP hD hS ls (lv_sub hl [1, 0] rfl)
