section LOOP
variable {p : Program} {l : Launch} {e : Env} {s : State} {m : MethodId} {below : List Frame} {meth : Method} {c : Code} {b L : Nat} {xs : Nat → Int32} {D : va_G} {cI cZ cR cJ : ClassId} {ad_h ad_p ad_c ad_a ad_u ad_o ad_m : Nat → Nat} {ad_q : Nat}
set_option maxHeartbeats 1000000 in
set_option maxRecDepth 100000 in
theorem law_loop (C : LC p l s m meth c b L xs D cI cZ cR cJ) (hL : L ≤ 2560) : ∀ (n i calls : Nat), i = 5 * calls → i ≤ L → L < i + 5 * n → ∀ (w : va_W) (H : Heap) (locs : List Loc) (ls : Array Slot), Iv cI cZ cR cJ ad_h ad_p ad_c ad_a ad_u ad_o ad_m ad_q calls w → va_P D vwCl w H → va_D (LA s) w → va_S (LA s) s.heap H locs → lv_has ls 7 [(0, .ref b), (1, .ref (ad_h 0)), (2, .ref (ad_m 0)), (3, .ref ad_q), (4, .int (nI i))] → W p l e room_1 s m #[Value.ref b] below meth c H locs (42 + 8 * calls) (17190 + 1200 * calls) (lw_Z below #[Value.ref b] s) (F0 m 23 ls []) := by
  obtain ⟨hx, hb, hr9, hml, hown, hts, hX, hbl, hlocks, hK, hN, hlt, hz⟩ := id C
  intro n
  induction n with
  | zero =>
    intro i calls h0 h1 h2
    exact absurd h2 (by omega)
  | succ n ih =>
    intro i calls h0 h1 h2 w H locs ls hI hP hD hS hl
    refine lv_iload hx hb dL_law_23 (lv_at hl 4 rfl) ?_
    refine lv_aload_n hx hb dL_law_25 rfl (lv_at hl 0 rfl) ?_
    refine va_slen hx hb hX hbl (Nat.not_le.mpr hbl) hS dL_law_26 ?_
    refine lv_iconst (v := 5) hx hb dL_law_27 (by decide) ?_
    refine lv_isub hx hb dL_law_28 ?_
    have hcmp : Int32.ofNat L - 5 < nI i ↔ (L : Int) - 5 < i := by
      rw [show Int32.ofNat L = iI (L : Nat) from iI_nI L, show (5 : Int32) = iI 5 from rfl, iI_sub, iI_nI]
      exact iI_lt (by omega) (by omega) (by omega) (by omega)
    refine lv_icmp_gt (tgt := 1135) hx hb dL_law_29 (by decide) (fun hc => ?_) (fun hc => ?_)
    · refine lv_iconst (v := 1) hx hb dL_law_1135 (by decide) ?_
      refine va_forget (fun q hq => hS.2.2 q hq) ?_
      refine W.widen (k := 601024) (n := 7293034) (by omega) (by omega) ?_
      exact lw_ret hx hb hr9 hlocks dL_law_1136
    · have hi : i + 5 ≤ L := by
        have h9 : ¬ ((L : Int) - 5 < (i : Int)) := fun h => hc (hcmp.mpr h)
        omega
      have hca : calls ≤ 512 := by omega
      refine lv_aload_n hx hb dL_law_32 rfl (lv_at hl 0 rfl) ?_
      refine lv_iload hx hb dL_law_33 (lv_at hl 4 rfl) ?_
      refine va_sld hx hb hX hbl (Nat.not_le.mpr hbl) hS (vp_in_nI (by omega) (by omega)) dL_law_35 ?_
      refine lv_bipush (v := 31) hx hb dL_law_36 (by decide) ?_
      refine lv_iand hx hb dL_law_38 ?_
      have K : LK p l e s m below meth c (lw_Z below #[Value.ref b] s) b D cI cZ cR cJ ad_h ad_p ad_c ad_a ad_u ad_o ad_m ad_q calls i (42 + 8 * calls) (17190 + 1200 * calls) := by
        intro w H locs ls hI hP hD hS hl
        refine lv_iinc (v := nI (i + 5)) (lv' := [(4, .int (nI (i + 5))), (0, .ref b), (1, .ref (ad_h 0)), (2, .ref (ad_m 0)), (3, .ref ad_q)]) hx hb dL_law_1129 hl (k := 4) rfl (by rw [← nI_add]; rfl) (by decide) rfl (fun ls hl => ?_)
        refine lv_goto hx hb dL_law_1132 (tgt := 23) (by decide) ?_
        exact ih (i + 5) (calls + 1) (by omega) (by omega) (by omega) w H locs ls hI hP hD hS (lv_sub hl [1, 2, 3, 4, 0] rfl)
      have hc1 : 42 + 8 * calls + 8 ≤ 601024 := by omega
      have hs1 : 17190 + 1200 * calls + 1200 ≤ 7293034 := by omega
      generalize (xs (nI i).toNatClampNeg &&& 31) = x
      by_cases h09 : x.toInt = 0
      · exact lv_tableIn (tgt := 148) hx hb dL_law_39 (by omega) (by omega) (by rw [h09]; rfl) (by decide) (cs_roll C hi hL hca K hc1 hs1 hI hP hD hS hl)
      by_cases h19 : x.toInt = 1
      · exact lv_tableIn (tgt := 161) hx hb dL_law_39 (by omega) (by omega) (by rw [h19]; rfl) (by decide) (cs_lay C hi hL hca K hc1 hs1 hI hP hD hS hl)
      by_cases h29 : x.toInt = 2
      · exact lv_tableIn (tgt := 222) hx hb dL_law_39 (by omega) (by omega) (by rw [h29]; rfl) (by decide) (cs_lift C hi hL hca K hc1 hs1 hI hP hD hS hl)
      by_cases h39 : x.toInt = 3
      · exact lv_tableIn (tgt := 271) hx hb dL_law_39 (by omega) (by omega) (by rw [h39]; rfl) (by decide) (cs_hole C hi hL hca K hc1 hs1 hI hP hD hS hl)
      by_cases h49 : x.toInt = 4
      · exact lv_tableIn (tgt := 320) hx hb dL_law_39 (by omega) (by omega) (by rw [h49]; rfl) (by decide) (cs_note C hi hL hca K hc1 hs1 hI hP hD hS hl)
      by_cases h59 : x.toInt = 5
      · exact lv_tableIn (tgt := 369) hx hb dL_law_39 (by omega) (by omega) (by rw [h59]; rfl) (by decide) (cs_tempo C hi hL hca K hc1 hs1 hI hP hD hS hl)
      by_cases h69 : x.toInt = 6
      · exact lv_tableIn (tgt := 418) hx hb dL_law_39 (by omega) (by omega) (by rw [h69]; rfl) (by decide) (cs_sounds C hi hL hca K hc1 hs1 hI hP hD hS hl)
      by_cases h79 : x.toInt = 7
      · exact lv_tableIn (tgt := 467) hx hb dL_law_39 (by omega) (by omega) (by rw [h79]; rfl) (by decide) (cs_pressure C hi hL hca K hc1 hs1 hI hP hD hS hl)
      by_cases h89 : x.toInt = 8
      · exact lv_tableIn (tgt := 516) hx hb dL_law_39 (by omega) (by omega) (by rw [h89]; rfl) (by decide) (cs_silent C hi hL hca K hc1 hs1 hI hP hD hS hl)
      by_cases h99 : x.toInt = 9
      · exact lv_tableIn (tgt := 553) hx hb dL_law_39 (by omega) (by omega) (by rw [h99]; rfl) (by decide) (cs_ticks C hi hL hca K hc1 hs1 hI hP hD hS hl)
      by_cases h109 : x.toInt = 10
      · exact lv_tableIn (tgt := 578) hx hb dL_law_39 (by omega) (by omega) (by rw [h109]; rfl) (by decide) (cs_move C hi hL hca K hc1 hs1 hI hP hD hS hl)
      by_cases h119 : x.toInt = 11
      · exact lv_tableIn (tgt := 615) hx hb dL_law_39 (by omega) (by omega) (by rw [h119]; rfl) (by decide) (cs_item C hi hL hca K hc1 hs1 hI hP hD hS hl)
      by_cases h129 : x.toInt = 12
      · exact lv_tableIn (tgt := 652) hx hb dL_law_39 (by omega) (by omega) (by rw [h129]; rfl) (by decide) (cs_clear C hi hL hca K hc1 hs1 hI hP hD hS hl)
      by_cases h139 : x.toInt = 13
      · exact lv_tableIn (tgt := 663) hx hb dL_law_39 (by omega) (by omega) (by rw [h139]; rfl) (by decide) (cs_align C hi hL hca K hc1 hs1 hI hP hD hS hl)
      by_cases h149 : x.toInt = 14
      · exact lv_tableIn (tgt := 700) hx hb dL_law_39 (by omega) (by omega) (by rw [h149]; rfl) (by decide) (cs_paired C hi hL hca K hc1 hs1 hI hP hD hS hl)
      by_cases h159 : x.toInt = 15
      · exact lv_tableIn (tgt := 737) hx hb dL_law_39 (by omega) (by omega) (by rw [h159]; rfl) (by decide) (cs_mend C hi hL hca K hc1 hs1 hI hP hD hS hl)
      by_cases h169 : x.toInt = 16
      · exact lv_tableIn (tgt := 762) hx hb dL_law_39 (by omega) (by omega) (by rw [h169]; rfl) (by decide) (cs_sight C hi hL hca K hc1 hs1 hI hP hD hS hl)
      by_cases h179 : x.toInt = 17
      · exact lv_tableIn (tgt := 827) hx hb dL_law_39 (by omega) (by omega) (by rw [h179]; rfl) (by decide) (cs_since C hi hL hca K hc1 hs1 hI hP hD hS hl)
      by_cases h189 : x.toInt = 18
      · exact lv_tableIn (tgt := 864) hx hb dL_law_39 (by omega) (by omega) (by rw [h189]; rfl) (by decide) (cs_worn C hi hL hca K hc1 hs1 hI hP hD hS hl)
      by_cases h199 : x.toInt = 19
      · exact lv_tableIn (tgt := 901) hx hb dL_law_39 (by omega) (by omega) (by rw [h199]; rfl) (by decide) (cs_line C hi hL hca K hc1 hs1 hI hP hD hS hl)
      by_cases h209 : x.toInt = 20
      · exact lv_tableIn (tgt := 950) hx hb dL_law_39 (by omega) (by omega) (by rw [h209]; rfl) (by decide) (cs_day C hi hL hca K hc1 hs1 hI hP hD hS hl)
      by_cases h219 : x.toInt = 21
      · exact lv_tableIn (tgt := 975) hx hb dL_law_39 (by omega) (by omega) (by rw [h219]; rfl) (by decide) (cs_where C hi hL hca K hc1 hs1 hI hP hD hS hl)
      by_cases h229 : x.toInt = 22
      · exact lv_tableIn (tgt := 1055) hx hb dL_law_39 (by omega) (by omega) (by rw [h229]; rfl) (by decide) (cs_there C hi hL hca K hc1 hs1 hI hP hD hS hl)
      by_cases h239 : x.toInt = 23
      · exact lv_tableIn (tgt := 1104) hx hb dL_law_39 (by omega) (by omega) (by rw [h239]; rfl) (by decide) (cs_count C hi hL hca K hc1 hs1 hI hP hD hS hl)
      exact lv_tableOut (tgt := 1129) hx hb dL_law_39 (by omega) (by decide) (W.widen (by omega) (by omega) (K w H locs ls (Iv_1 hI) hP hD hS hl))
end LOOP
