section START
theorem moR_00 {r : Nat} : moR r (fun _ _ => 0) 0 (fun _ => 0) (fun _ => 0) (fun _ => 0) := by
  refine ⟨fun _ => 0, fun _ => 0, fun _ => 0, fun j hj => ⟨(by decide : (0 : Nat) < 24), (by decide : (0 : Nat) < 300), (by decide : (0 : Nat) ≤ 60), (by decide : (0 : Nat) + 0 ≤ 300), rfl, rfl, rfl⟩, fun j hj h => absurd h (Nat.lt_irrefl 0), fun p f h => absurd h (Nat.lt_irrefl 0), fun i j _ _ h => absurd h (Nat.lt_irrefl 0), ?_⟩
  have : ∀ n, ct (fun _ => decide ((0 : Nat) < 0)) n = 0 := by
    intro n
    induction n with
    | zero => rfl
    | succ n ih => rw [ct_f rfl, ih]
  exact this 60
theorem tpM_00 {r : Nat} : tpM r (fun _ => 0) 0 (fun _ => 0) (fun _ => 0) (fun _ => 0) := ⟨by omega, rfl, fun _ => 0, fun _ => 0, fun i hi => ⟨(by decide : (0 : Nat) < 300), (by decide : (0 : Nat) ≤ 9), rfl, rfl⟩, fun i hi => absurd hi (Nat.not_lt_zero i), fun s h => absurd h (Nat.lt_irrefl 0), fun i j hi => absurd hi (Nat.not_lt_zero i)⟩
theorem IR_00 {cI cZ cR : ClassId} : IR cI cZ cR 0 (fun _ => []) (fun _ => none) (fun _ => 0) (fun _ => 0) (fun _ => 0) (fun _ => 0) (fun _ => 0) (fun _ => 0) := fun r _ => ⟨_, _, _, _, moR_00, tpM_00, Or.inr ⟨by omega, rfl, rfl, rfl, rfl, rfl⟩⟩
theorem PU_00 {ul ug : Nat → Int32} (h1 : ∀ k, k < 24 → ul k = 1) (h2 : ∀ k, k < 24 → ug k = 1001) : PU ul ug 0 0 (fun _ => 0) (fun _ => 0) (fun _ => 0) := ⟨0, fun _ => 0, fun _ => 0, fun _ => false, ⟨by omega, rfl, fun p hp => ⟨h1 p hp, h2 p hp⟩⟩, ⟨by omega, rfl, fun i hi => absurd hi (by omega)⟩, fun i hi => absurd hi (by omega)⟩
theorem PO_00 : PO 0 (fun _ => 0) (fun _ => 0) (fun _ => 0) (fun _ => 0) 0 0 0 (fun _ => 0) (fun _ => 0) (fun _ => 0) (fun _ => 0) 0 := ⟨0, 0, fun _ => 0, fun _ => 0, fun _ => 0, fun _ => 0, ⟨by omega, rfl, rfl, fun i hi => absurd hi (by omega)⟩, ⟨by omega, rfl, rfl, fun i hi => absurd hi (by omega)⟩, by omega⟩
theorem SC_00 {a b c d : Nat → Int32} : SC a b 0 c d 0 := ⟨0, fun _ => 0, fun _ => 0, scC_0, scC_0⟩
theorem xs_str {args : Array Value} {s : State} {cls text : String} {index : Nat} (h : (Cond.stringRef cls index text).before args s = true) : ∃ a, vk_R cls index text a s := by
  have h0 := h
  simp only [Cond.before, Cond.holds, Cond.value] at h0
  cases hc : s.vm.findClass cls with
  | none => rw [hc] at h0; simp at h0
  | some c =>
    cases hr : s.resolvedAt? cls index with
    | none => rw [hc, hr] at h0; simp at h0
    | some r =>
      rw [hc, hr] at h0
      cases r with
      | string a =>
        refine ⟨a, vk_R.of (A := args) h ?_⟩
        simp only [State.resolvedAt?, Option.bind_eq_bind, Option.bind_eq_some_iff] at hr
        obtain ⟨c1, e1, k1, e2, e3⟩ := hr
        simp [Term.eval, e1, e2, e3]
      | _ => simp at h0
set_option maxHeartbeats 4000000 in
set_option maxRecDepth 100000 in
theorem whole_start {p : Program} {e : Env} {s : State} {m : MethodId} {below : List Frame} {meth : Method} {c : Code} (l : Launch) (hlt : l.stackTraces = false) {b L : Nat} {xs : Nat → Int32} (hL : L ≤ 2560) (C0 : lw_At p s m meth c b L xs) : W p l e room_1 s m #[Value.ref b] below meth c s.heap [] 0 0 (lw_Z below #[Value.ref b] s) (entryFrame m ([Value.ref b] : List Value).toArray 7) := by
  obtain ⟨hx, hb, hr, hml, hown, hts, hX, hbl, hlocks, hgv⟩ := id C0
  have htw : ∀ w ∈ wsL_law, w.before #[Value.ref b] s = true := fun w h => hts w (wsL_law_in w h)
  have hfl := flat_of_before _ hgv
  obtain ⟨c0, i0, k0⟩ := u_known (C := RX0) (T := TX0) (N := 9) (n := 9) hts inX0 (hts _ (st_i0))
  obtain ⟨c1, i1, k1⟩ := u_known (C := RX1) (T := TX1) (N := 3) (n := 3) hts inX1 (hts _ (st_i1))
  obtain ⟨c2, i2, k2⟩ := u_known (C := RX2) (T := TX2) (N := 7) (n := 7) hts inX2 (hts _ (st_i2))
  obtain ⟨c3, i3, k3⟩ := u_known (C := RX3) (T := TX3) (N := 3) (n := 3) hts inX3 (hts _ (st_i3))
  obtain ⟨c4, i4, k4⟩ := u_known (C := RX4) (T := TX4) (N := 8) (n := 8) hts inX4 (hts _ (st_i4))
  obtain ⟨c5, i5, k5⟩ := u_known (C := RX5) (T := TX5) (N := 3) (n := 3) hts inX5 (hts _ (st_i5))
  obtain ⟨c6, i6, k6⟩ := u_known (C := RX6) (T := TX6) (N := 7) (n := 7) hts inX6 (hts _ (st_i6))
  obtain ⟨c7, i7, k7⟩ := u_known (C := RX7) (T := TX7) (N := 34) (n := 34) hts inX7 (hts _ (st_i7))
  obtain ⟨dC, dI, hKc⟩ : ∃ (dC : Nat → ClassId) (dI : Nat → Nat → Nat), ∀ (k : Nat) (q : vw_C), vwCl[k]? = some q → u_Kn s q.1 q.2.1 q.2.2 (dC k) (dI k) := by
    refine ⟨fun k => if k = 0 then c0 else if k = 1 then c1 else if k = 2 then c2 else if k = 3 then c3 else if k = 4 then c4 else if k = 5 then c5 else if k = 6 then c6 else c7, fun k => if k = 0 then i0 else if k = 1 then i1 else if k = 2 then i2 else if k = 3 then i3 else if k = 4 then i4 else if k = 5 then i5 else if k = 6 then i6 else i7, ?_⟩
    intro k q hq
    match k, hq with
    | 0, hq => cases hq; exact k0
    | 1, hq => cases hq; exact k1
    | 2, hq => cases hq; exact k2
    | 3, hq => cases hq; exact k3
    | 4, hq => cases hq; exact k4
    | 5, hq => cases hq; exact k5
    | 6, hq => cases hq; exact k6
    | 7, hq => cases hq; exact k7
    | k + 8, hq => simp [vwCl] at hq
  obtain ⟨cI, kI, pI, f1, f2, f3⟩ := Cond.arrayClass_spec (hts (.arrayClass .int) st_aI)
  obtain ⟨cZ, kZ, pZ, g1, g2, g3⟩ := Cond.arrayClass_spec (hts (.arrayClass .boolean) st_aZ)
  have hAO : va_AO RX4 s := va_AO.of (hts (.arrayOver (.object RX4)) st_aR)
  obtain ⟨pR, cR, kR, r1, -, r2, r3, r4⟩ := Cond.arrayOver_spec (hts (.arrayOver (.object RX4)) st_aR)
  have hK : va_K (dC, dI) vwCl (gT cI cZ cR) s := by
    refine ⟨hKc, fun k q hq => ?_⟩
    match k, hq with
    | 0, hq => cases hq; exact ⟨fun n z => ⟨fun k h => (by cases h), kI, f2, pI, f3⟩, f1⟩
    | 1, hq => cases hq; exact ⟨fun n z => ⟨fun k h => (by cases h), kZ, g2, pZ, g3⟩, g1⟩
    | 2, hq => cases hq; exact ⟨fun n z => ⟨fun k h => (by cases h), kR, r2, pR, r3⟩, kR, pR, r2, r3, r1, r4⟩
    | k + 3, hq => simp at hq
  have hN : va_Nw gN s := va_tabs rfl rfl (hts gN st_N)
  have hz : xz (LA s) s s.heap := ⟨vx_Zqof (hts _ st_l1) (hts _ st_t) (hfl _ st_r1) (fun a h => Nat.not_le.mpr h), vx_Zqof (hts _ st_l2) (hts _ st_t) (hfl _ st_r2) (fun a h => Nat.not_le.mpr h), xs_str (hts _ st_s), va_tabs rfl rfl (hts _ st_d1), va_tabs rfl rfl (hts _ st_d2), va_tabs rfl rfl (hts _ st_d3), va_tabs rfl rfl (hts _ st_d4)⟩
  have hS : va_S (LA s) s.heap s.heap [] := va_S.rf
  have hA : ∀ q : Nat, s.heap.size ≤ q → LA s q := fun _ h => h
  have hP : va_P (dC, dI) vwCl [] s.heap := gl_nilP
  have hD : va_D (LA s) [] := gl_nilD
  have hl := lv_entry ([.ref b]) (n := 7) (Nat.le_of_ble_eq_true rfl)
  rw [lg_entry_eq]
  generalize (lg_sl ([.ref b]) ++ List.replicate (7 - (lg_sl ([.ref b])).length) Slot.unset).toArray = ls at hl ⊢
  have hl : lv_has ls 7 [(0, .ref b)] := hl
  refine va_new (ci := 6) (fs := [.null, .int 0, .null, .null, .null, .null, .null]) (C := RX6) (T := TX6) (N := 7) hx hb hts inX6 tyX6 tyX6_ok hown (hts (.classLink RL 8 RX6) st_c6) (hts _ st_i6) (hts (.initialized RX6) st_n6) hK hP hD hS hA rfl (fun j hj => by rcases (show j = 0 ∨ j = 1 ∨ j = 2 ∨ j = 3 ∨ j = 4 ∨ j = 5 ∨ j = 6 by omega) with rfl | rfl | rfl | rfl | rfl | rfl | rfl <;> rfl) (Nat.le_of_ble_eq_true rfl) (Nat.le_of_ble_eq_true rfl) dL_law_0 (fun qx H hP hD hS => ?_)
  have hP : va_P (dC, dI) vwCl ([(qx, .inr (6, [.null, .int 0, .null, .null, .null, .null, .null]))] ++ []) H := hP
  have hD : va_D (LA s) ([(qx, .inr (6, [.null, .int 0, .null, .null, .null, .null, .null]))] ++ []) := hD
  refine lv_dup hx hb dL_law_3 rfl ?_
  refine gp_callv (va_runI (As := []) (rest := [.ref qx]) ⟨hx, hb, hml, hown, htw⟩ (mt_X6_init l (dC, dI) cI cZ cR qx H.size) (cwI 0 htw gL_law_X6_init rfl rfl rfl (hts (.initialized RX6) st_n6) (hts (.methodLink RL 15 yX6_init) st_m6) (hts (.instanceMethod yX6_init) st_x6) rfl (by decide +kernel) ⟨Nat.le_of_ble_eq_true rfl, Nat.le_of_ble_eq_true rfl⟩) ⟨fun a U g mk q => ⟨gl_blind _ _ _ _ q.1, va_AO.moved (u := U) (U := U.calling g mk a) (Vm.Alike.refl U.vm) q.2⟩, fun U hU hW => ⟨gl_pre (pm_lP hP) hK hN (pm_lD hD) U hU hW, va_AO.moved hW.alike hAO⟩⟩ rfl rfl hl.1 rfl (lv_room (Nat.le_of_ble_eq_true rfl)) dL_law_4 ⟨Nat.le_of_ble_eq_true rfl, Nat.le_of_ble_eq_true rfl⟩) hP hD hS hA (fun u H locs h hP2 hD2 hS => ?_)
  obtain ⟨ad_h, ad_p, ad_c, ad_a, ad_u, ad_o, ul, ug⟩ := u
  obtain ⟨hu1, hu2, hu3⟩ := h
  have hu1 : ad_h 0 = qx := hu1
  have hu2 : ∀ k, k < 24 → ul k = 1 := hu2
  have hu3 : ∀ k, k < 24 → ug k = 1001 := hu3
  have hP2 : va_P (dC, dI) vwCl (w_H cI cZ cR ad_h (ad_p 0) (ad_c 0) (ad_a 0) (ad_u 0) (ad_o 0) (fun _ => none) 0 ++ w_P cI cZ cR ad_p 50 0 0 ++ w_S cI cZ cR ad_c (fun _ => 0) (fun _ => 0) 0 ++ w_A cI cZ cR ad_a (fun _ => 0) (fun _ => 0) (fun _ => 0) (fun _ => 0) 0 0 0 0 0 ++ w_U cI cZ cR ad_u ul ug 0 ++ w_O cI cZ cR ad_o (fun _ => 0) (fun _ => 0) (fun _ => 0) (fun _ => 0) 0 0 (fun _ => 0)) H := hP2
  have hD2 : va_D (LA s) (w_H cI cZ cR ad_h (ad_p 0) (ad_c 0) (ad_a 0) (ad_u 0) (ad_o 0) (fun _ => none) 0 ++ w_P cI cZ cR ad_p 50 0 0 ++ w_S cI cZ cR ad_c (fun _ => 0) (fun _ => 0) 0 ++ w_A cI cZ cR ad_a (fun _ => 0) (fun _ => 0) (fun _ => 0) (fun _ => 0) 0 0 0 0 0 ++ w_U cI cZ cR ad_u ul ug 0 ++ w_O cI cZ cR ad_o (fun _ => 0) (fun _ => 0) (fun _ => 0) (fun _ => 0) 0 0 (fun _ => 0)) := hD2
  clear hP hD
  subst hu1
  have hP := hP2
  have hD := hD2
  refine lv_astore_n (lv' := [(1, .ref (ad_h 0)), (0, .ref b)]) hx hb dL_law_7 rfl hl (by decide) rfl (fun ls hl => ?_)
  refine va_new (ci := 7) (fs := [.int 0, .int 0, .null, .null, .null, .null, .null, .null, .null, .null, .int 0, .int 0, .int 0, .int 0, .int 0, .null, .null, .null, .null, .int 0, .int 0, .null, .int 0, .null, .null, .null, .int 0, .int 0, .int 0, .null, .null, .null, .null, .int 0]) (C := RX7) (T := TX7) (N := 34) hx hb hts inX7 tyX7 tyX7_ok hown (hts (.classLink RL 16 RX7) st_c7) (hts _ st_i7) (hts (.initialized RX7) st_n7) hK hP hD hS hA rfl (fun j hj => by rcases (show j = 0 ∨ j = 1 ∨ j = 2 ∨ j = 3 ∨ j = 4 ∨ j = 5 ∨ j = 6 ∨ j = 7 ∨ j = 8 ∨ j = 9 ∨ j = 10 ∨ j = 11 ∨ j = 12 ∨ j = 13 ∨ j = 14 ∨ j = 15 ∨ j = 16 ∨ j = 17 ∨ j = 18 ∨ j = 19 ∨ j = 20 ∨ j = 21 ∨ j = 22 ∨ j = 23 ∨ j = 24 ∨ j = 25 ∨ j = 26 ∨ j = 27 ∨ j = 28 ∨ j = 29 ∨ j = 30 ∨ j = 31 ∨ j = 32 ∨ j = 33 by omega) with rfl | rfl | rfl | rfl | rfl | rfl | rfl | rfl | rfl | rfl | rfl | rfl | rfl | rfl | rfl | rfl | rfl | rfl | rfl | rfl | rfl | rfl | rfl | rfl | rfl | rfl | rfl | rfl | rfl | rfl | rfl | rfl | rfl | rfl <;> rfl) (Nat.le_of_ble_eq_true rfl) (Nat.le_of_ble_eq_true rfl) dL_law_8 (fun qm H hP hD hS => ?_)
  have hP := pm_P (List.perm_append_comm (l₂ := [(qm, .inr (7, [.int 0, .int 0, .null, .null, .null, .null, .null, .null, .null, .null, .int 0, .int 0, .int 0, .int 0, .int 0, .null, .null, .null, .null, .int 0, .int 0, .null, .int 0, .null, .null, .null, .int 0, .int 0, .int 0, .null, .null, .null, .null, .int 0]))])) hP
  have hD := pm_D (List.perm_append_comm (l₂ := [(qm, .inr (7, [.int 0, .int 0, .null, .null, .null, .null, .null, .null, .null, .null, .int 0, .int 0, .int 0, .int 0, .int 0, .null, .null, .null, .null, .int 0, .int 0, .null, .int 0, .null, .null, .null, .int 0, .int 0, .int 0, .null, .null, .null, .null, .int 0]))])) hD
  refine lv_dup hx hb dL_law_11 rfl ?_
  refine gp_callv (va_runI (As := []) (rest := [.ref qm]) ⟨hx, hb, hml, hown, htw⟩ (mt_X7_init l (dC, dI) cI cZ cR qm H.size) (cwI 0 htw gL_law_X7_init rfl rfl rfl (hts (.initialized RX7) st_n7) (hts (.methodLink RL 18 yX7_init) st_m7) (hts (.instanceMethod yX7_init) st_x7) rfl (by decide +kernel) ⟨Nat.le_of_ble_eq_true rfl, Nat.le_of_ble_eq_true rfl⟩) ⟨gl_blind, gl_pre (pm_lP hP) hK hN (pm_lD hD)⟩ rfl rfl hl.1 rfl (lv_room (Nat.le_of_ble_eq_true rfl)) dL_law_12 ⟨Nat.le_of_ble_eq_true rfl, Nat.le_of_ble_eq_true rfl⟩) hP hD hS hA (fun u H locs h hP3 hD3 hS => ?_)
  obtain ⟨ad_m, rfl⟩ : ∃ z, z = u := ⟨_, rfl⟩
  have hu1 : ad_m 0 = qm := h
  have hP3 : va_P (dC, dI) vwCl ((w_H cI cZ cR ad_h (ad_p 0) (ad_c 0) (ad_a 0) (ad_u 0) (ad_o 0) (fun _ => none) 0 ++ w_P cI cZ cR ad_p 50 0 0 ++ w_S cI cZ cR ad_c (fun _ => 0) (fun _ => 0) 0 ++ w_A cI cZ cR ad_a (fun _ => 0) (fun _ => 0) (fun _ => 0) (fun _ => 0) 0 0 0 0 0 ++ w_U cI cZ cR ad_u ul ug 0 ++ w_O cI cZ cR ad_o (fun _ => 0) (fun _ => 0) (fun _ => 0) (fun _ => 0) 0 0 (fun _ => 0)) ++ w_M cI cZ cR ad_m 0 0 (fun _ => 0) (fun _ => 0) (fun _ => 0) (fun _ => 0) (fun _ => 0) (fun _ => 0) (fun _ => 0) (fun _ => 0) 0 0 0 0 0 (fun _ => 0) (fun _ => 0) (fun _ => 0) (fun _ => 0) 0 0 (fun _ => 0) 0 (fun _ => 0) (fun _ => 0) (fun _ => 0) 0 0 0 (fun _ => 0) (fun _ => 0) (fun _ => 0) (fun _ => 0) 0) H := hP3
  have hD3 : va_D (LA s) ((w_H cI cZ cR ad_h (ad_p 0) (ad_c 0) (ad_a 0) (ad_u 0) (ad_o 0) (fun _ => none) 0 ++ w_P cI cZ cR ad_p 50 0 0 ++ w_S cI cZ cR ad_c (fun _ => 0) (fun _ => 0) 0 ++ w_A cI cZ cR ad_a (fun _ => 0) (fun _ => 0) (fun _ => 0) (fun _ => 0) 0 0 0 0 0 ++ w_U cI cZ cR ad_u ul ug 0 ++ w_O cI cZ cR ad_o (fun _ => 0) (fun _ => 0) (fun _ => 0) (fun _ => 0) 0 0 (fun _ => 0)) ++ w_M cI cZ cR ad_m 0 0 (fun _ => 0) (fun _ => 0) (fun _ => 0) (fun _ => 0) (fun _ => 0) (fun _ => 0) (fun _ => 0) (fun _ => 0) 0 0 0 0 0 (fun _ => 0) (fun _ => 0) (fun _ => 0) (fun _ => 0) 0 0 (fun _ => 0) 0 (fun _ => 0) (fun _ => 0) (fun _ => 0) 0 0 0 (fun _ => 0) (fun _ => 0) (fun _ => 0) (fun _ => 0) 0) := hD3
  clear hP hD h
  subst hu1
  have hP := hP3
  have hD := hD3
  refine lv_astore_n (lv' := [(2, .ref (ad_m 0)), (1, .ref (ad_h 0)), (0, .ref b)]) hx hb dL_law_15 rfl hl (by decide) rfl (fun ls hl => ?_)
  refine lv_iconst (v := 1) hx hb dL_law_16 (by decide) ?_
  refine va_newa (n := 1) (N' := 1) (a0 := (1, .inr (.inl (fun _ => 0)))) (atype := .long) (ty := .long) hx hb (hts (.arrayClass .long) st_aJ) rfl hK hP hD hS hA (fun cA => vp_cell_l cA 1 (fun _ => 0)) (by decide) (by decide) (by decide) (Nat.le_of_ble_eq_true rfl) (Nat.le_of_ble_eq_true rfl) dL_law_17 (fun qo cJ H hK4 hP hD hS => ?_)
  refine lv_astore_n (lv' := [(3, .ref qo), (2, .ref (ad_m 0)), (1, .ref (ad_h 0)), (0, .ref b)]) hx hb dL_law_19 rfl hl (by decide) rfl (fun ls hl => ?_)
  refine lv_iconst (v := 0) hx hb dL_law_20 (by decide) ?_
  refine lv_istore (lv' := [(4, .int 0), (3, .ref qo), (2, .ref (ad_m 0)), (1, .ref (ad_h 0)), (0, .ref b)]) hx hb dL_law_21 hl (by decide) rfl (fun ls hl => ?_)
  have C : LC p l s m meth c b L xs (dC, dI) cI cZ cR cJ := ⟨hx, hb, hr, hml, hown, htw, hX, hbl, hlocks, hK4, hN, hlt, hz⟩
  have hw : (((w_H cI cZ cR ad_h (ad_p 0) (ad_c 0) (ad_a 0) (ad_u 0) (ad_o 0) (fun _ => none) 0 ++ w_P cI cZ cR ad_p 50 0 0 ++ w_S cI cZ cR ad_c (fun _ => 0) (fun _ => 0) 0 ++ w_A cI cZ cR ad_a (fun _ => 0) (fun _ => 0) (fun _ => 0) (fun _ => 0) 0 0 0 0 0 ++ w_U cI cZ cR ad_u ul ug 0 ++ w_O cI cZ cR ad_o (fun _ => 0) (fun _ => 0) (fun _ => 0) (fun _ => 0) 0 0 (fun _ => 0)) ++ w_M cI cZ cR ad_m 0 0 (fun _ => 0) (fun _ => 0) (fun _ => 0) (fun _ => 0) (fun _ => 0) (fun _ => 0) (fun _ => 0) (fun _ => 0) 0 0 0 0 0 (fun _ => 0) (fun _ => 0) (fun _ => 0) (fun _ => 0) 0 0 (fun _ => 0) 0 (fun _ => 0) (fun _ => 0) (fun _ => 0) 0 0 0 (fun _ => 0) (fun _ => 0) (fun _ => 0) (fun _ => 0) 0) ++ w_T cJ qo (fun _ => 0)).Perm (w_H cI cZ cR ad_h (ad_p 0) (ad_c 0) (ad_a 0) (ad_u 0) (ad_o 0) (fun _ => none) 0 ++ w_P cI cZ cR ad_p 50 0 0 ++ w_S cI cZ cR ad_c (fun _ => 0) (fun _ => 0) 0 ++ w_A cI cZ cR ad_a (fun _ => 0) (fun _ => 0) (fun _ => 0) (fun _ => 0) 0 0 0 0 0 ++ w_U cI cZ cR ad_u ul ug 0 ++ w_O cI cZ cR ad_o (fun _ => 0) (fun _ => 0) (fun _ => 0) (fun _ => 0) 0 0 (fun _ => 0) ++ w_M cI cZ cR ad_m 0 0 (fun _ => 0) (fun _ => 0) (fun _ => 0) (fun _ => 0) (fun _ => 0) (fun _ => 0) (fun _ => 0) (fun _ => 0) 0 0 0 0 0 (fun _ => 0) (fun _ => 0) (fun _ => 0) (fun _ => 0) 0 0 (fun _ => 0) 0 (fun _ => 0) (fun _ => 0) (fun _ => 0) 0 0 0 (fun _ => 0) (fun _ => 0) (fun _ => 0) (fun _ => 0) 0 ++ w_T cJ qo (fun _ => 0) ++ wRx (fun _ => []) 6) := List.Perm.of_eq (List.append_nil _).symm
  have hI : Iv cI cZ cR cJ ad_h ad_p ad_c ad_a ad_u ad_o ad_m qo 0 (w_H cI cZ cR ad_h (ad_p 0) (ad_c 0) (ad_a 0) (ad_u 0) (ad_o 0) (fun _ => none) 0 ++ w_P cI cZ cR ad_p 50 0 0 ++ w_S cI cZ cR ad_c (fun _ => 0) (fun _ => 0) 0 ++ w_A cI cZ cR ad_a (fun _ => 0) (fun _ => 0) (fun _ => 0) (fun _ => 0) 0 0 0 0 0 ++ w_U cI cZ cR ad_u ul ug 0 ++ w_O cI cZ cR ad_o (fun _ => 0) (fun _ => 0) (fun _ => 0) (fun _ => 0) 0 0 (fun _ => 0) ++ w_M cI cZ cR ad_m 0 0 (fun _ => 0) (fun _ => 0) (fun _ => 0) (fun _ => 0) (fun _ => 0) (fun _ => 0) (fun _ => 0) (fun _ => 0) 0 0 0 0 0 (fun _ => 0) (fun _ => 0) (fun _ => 0) (fun _ => 0) 0 0 (fun _ => 0) 0 (fun _ => 0) (fun _ => 0) (fun _ => 0) 0 0 0 (fun _ => 0) (fun _ => 0) (fun _ => 0) (fun _ => 0) 0 ++ w_T cJ qo (fun _ => 0) ++ wRx (fun _ => []) 6) := ⟨0, fun _ => none, fun _ => [], 50, 0, 0, fun _ => 0, fun _ => 0, 0, fun _ => 0, fun _ => 0, fun _ => 0, fun _ => 0, 0, 0, 0, 0, 0, ul, ug, 0, fun _ => 0, fun _ => 0, fun _ => 0, fun _ => 0, 0, 0, fun _ => 0, 0, fun _ => 0, fun _ => 0, fun _ => 0, fun _ => 0, fun _ => 0, fun _ => 0, fun _ => 0, fun _ => 0, 0, 0, 0, 0, 0, fun _ => 0, fun _ => 0, fun _ => 0, fun _ => 0, 0, 0, fun _ => 0, 0, fun _ => 0, fun _ => 0, fun _ => 0, 0, 0, 0, fun _ => 0, fun _ => 0, fun _ => 0, fun _ => 0, 0, fun _ => 0, by omega, IR_00, SC_00, PU_00 hu2 hu3, PO_00, rfl⟩
  exact law_loop C hL (L + 1) 0 0 rfl (by omega) (by omega) _ H locs ls hI (pm_P hw hP) (pm_D hw hD) hS (lv_sub hl [4, 3, 2, 1, 0] rfl)
end START
