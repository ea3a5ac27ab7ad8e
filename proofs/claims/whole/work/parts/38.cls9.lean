/-! addTown -/
set_option maxHeartbeats 4000000 in
set_option maxRecDepth 100000 in
theorem c_X5_addTown (l : Launch) (D : va_G) (ct : Nat → ClassId) (Z : Nat → Prop) (dc : Nat) (σ : Stt) (ad : Nat → Nat) (hst : l.stackTraces = false) (hI : Inv σ) : vx_Met l yX5_addTown (.code yX5_addTown cX5_addTown 1 (some .int) :: GW) ({ frames := 6, cells := 1, slots := 6, locals := 82 } : Room) (va_Pc [.ref (ad 0)] (fun U => GF D ct Z dc U U.heap ∧ Pic D ct Z dc σ ad U.heap)) (qS1 Z (fun x h => (o_addTown σ).1 = 0 ∧ x = .int (o_addTown σ).2.1 ∧ ∃ (σ1 : Stt) (ad1 : Nat → Nat), SC (o_addTown σ).2.2 σ1 ∧ ad1 0 = ad 0 ∧ Pic D ct Z dc σ1 ad1 h)) (xK (fun E => exn ["java/lang/IllegalStateException"] (o_addTown σ).1 E)) 1 6 (nZ Z) := by
  refine mx_in (cc := cX5_addTown) [.ref (ad 0)] "RumourCustoms" rfl (by decide) (Nat.le_of_ble_eq_true rfl) ?_
  intro pg e s m args below meth cd ls hx hb hml hown hts hr hlocks hnt hPr hl
  obtain ⟨hG, hP⟩ := hPr
  have hl : lv_has ls 1 [(0, .ref (ad 0))] := hl
  have hS : va_S (nZ Z) s.heap s.heap [] := va_S.rf
  have hn := hP.2.2.2.1
  have hnC := hP.2.2.2.2
  have hT1 := hI.1.1
  have hT10 := hI.1.2
  have hR1 := hI.2.1.1
  have hC1 := hI.2.2.1.1
  have hH : ∀ i, i < nR σ → σ 1 (7 * i + 6) = 0 ∨ σ 1 (7 * i + 6) = 1 := fun i hi => (hI.2.2.2.1 i hi).2.2.2.2.2
  refine lv_aload_n hx hb dX5_addTown_0 rfl (lv_at hl 0 rfl) ?_
  refine k_get (C := RX5) (T := TX5) (N := 11) hx hb hts inGX5 hown (hG.2.1).1 hP.o0 rfl 4 (by decide) (hts _ w_151) (fun _ h9 => h9) (v := .int (σ 0 1)) rfl dX5_addTown_1 ?_
  refine lv_bipush (v := 10) hx hb dX5_addTown_4 (by decide) ?_
  refine lv_icmp_lt (tgt := 19) hx hb dX5_addTown_6 (by decide) (fun c_6 => ?_) (fun c_6 => ?_)
  · -- taken
    refine lv_aload_n hx hb dX5_addTown_19 rfl (lv_at hl 0 rfl) ?_
    refine lv_dup hx hb dX5_addTown_20 rfl ?_
    refine k_get (C := RX5) (T := TX5) (N := 11) hx hb hts inGX5 hown (hG.2.1).1 hP.o0 rfl 4 (by decide) (hts _ w_151) (fun _ h9 => h9) (v := .int (σ 0 1)) rfl dX5_addTown_21 ?_
    refine lv_iconst (v := 1) hx hb dX5_addTown_24 (by decide) ?_
    refine lv_iadd hx hb dX5_addTown_25 ?_
    refine k_put (C := RX5) (T := TX5) (N := 11) hx hb hts inGX5 tyX5 tyX5_ok nmX5 hown (hG.2.1).1 hP.o0 hS (hP.nz (us_lt (by decide))) rfl 4 (Nat.le_of_ble_eq_true rfl) (hts _ w_151) (fun _ h9 => h9) rfl (ty := .int) (v := .int ((σ 0 1) + 1)) (by decide +kernel) rfl rfl (Nat.le_of_ble_eq_true rfl) dX5_addTown_26 (fun H26 locs26 hO26 hz26 hq26 hS26 => ?_)
    have hO26 : Ob D (ad 0) 6 [.ref (ad 1), .ref (ad 3), .ref (ad 6), .ref (ad 7), .int ((σ 0 1) + 1), .int (σ 0 2), .int (σ 0 0), .int (σ 0 5), .int (σ 0 6), .int (σ 0 7), .int (σ 0 8)] H26 := hO26
    have hP26 : Pic D ct Z dc (su σ 0 1 ((σ 0 1) + 1)) ad H26 := hP.t1 ((σ 0 1) + 1) hO26 hq26
    obtain ⟨τ26, hτ26⟩ : ∃ τ : Stt, τ = su σ 0 1 ((σ 0 1) + 1) := ⟨_, rfl⟩
    rw [← hτ26] at hP26
    have er26 : nR τ26 = nR σ := by rw [hτ26]; exact nR_eq (su_j (by decide))
    have ec26 : nC τ26 = nC σ := by rw [hτ26]; exact nC_eq (su_j (by decide))
    refine lv_aload_n hx hb dX5_addTown_29 rfl (lv_at hl 0 rfl) ?_
    refine k_get (C := RX5) (T := TX5) (N := 11) hx hb hts inGX5 hown (hG.2.1).1 hP26.o0 rfl 4 (by decide) (hts _ w_151) (fun _ h9 => h9) (v := .int (τ26 0 1)) rfl dX5_addTown_30 ?_
    have hv26 : τ26 0 1 = σ 0 1 + 1 := by rw [hτ26]; exact su_s _ _ _ _
    rw [hv26]
    refine lv_iconst (v := 1) hx hb dX5_addTown_33 (by decide) ?_
    refine lv_isub hx hb dX5_addTown_34 ?_
    refine vx_ret ?_
    refine W.widen (k := 1) (n := 6) (Nat.le_of_ble_eq_true rfl) (Nat.le_of_ble_eq_true rfl) ?_
    have ho : o_addTown σ = (0, (σ 0 1 + 1) - 1, su σ 0 1 (σ 0 1 + 1)) := by simp [o_addTown, c_6]
    exact W.iret (v := (σ 0 1 + 1) - 1) hx hb hr (fun t ht hW => ⟨_, rfl, by rw [ht]; exact ⟨by rw [ho], by rw [ho], τ26, ad, by rw [ho]; exact (by rw [hτ26]; exact SC.rf), rfl, hP26⟩, hS26.F ht⟩) (fun z h => hS26.2.2 z h) dX5_addTown_35
  · -- not taken
    obtain ⟨sa, hsa⟩ := hG.2.1.2.1 (41, "there are 10 towns") (by simp [strs])
    exact vx_throwS (names := nm2) hx hb hst hown fitS fitn (hts _ w_290) (hts _ w_69) hsa (hatS hts hG.2.1) hgoS hG.2.2.1 hG.2.2.2.1 hS (hl.1.trans hml.symm) dX5_addTown_9 dX5_addTown_12 dX5_addTown_13 dX5_addTown_15 dX5_addTown_18 (fun x h => (hnt x h).elim) (Nat.le_of_ble_eq_true rfl) (Nat.le_of_ble_eq_true rfl) (Nat.le_of_ble_eq_true rfl) (Nat.le_of_ble_eq_true rfl) hlocks (fun t _ h1 h2 => ⟨(by rw [show o_addTown σ = (1, 0, σ) from by simp [o_addTown, c_6]]; exact ⟨Nat.le_of_ble_eq_true rfl, rfl⟩), h1, h2⟩) (fun z hz => nomatch hz) (Nat.le_of_ble_eq_true rfl) (Nat.le_of_ble_eq_true rfl)

/-! road -/
set_option maxHeartbeats 4000000 in
set_option maxRecDepth 100000 in
theorem c_X5_road (l : Launch) (D : va_G) (ct : Nat → ClassId) (Z : Nat → Prop) (dc : Nat) (σ : Stt) (ad : Nat → Nat) (hst : l.stackTraces = false) (a b w : Int32) (hI : Inv σ) : vx_Met l yX5_road (.code yX5_road cX5_road 5 (some .int) :: GW) ({ frames := 7, cells := 3, slots := 18, locals := 103 } : Room) (va_Pc [.ref (ad 0), .int a, .int b, .int w] (fun U => GF D ct Z dc U U.heap ∧ Pic D ct Z dc σ ad U.heap)) (qS1 Z (fun x h => (o_road σ a b w).1 = 0 ∧ x = .int (o_road σ a b w).2.1 ∧ ∃ (σ1 : Stt) (ad1 : Nat → Nat), SC (o_road σ a b w).2.2 σ1 ∧ ad1 0 = ad 0 ∧ Pic D ct Z dc σ1 ad1 h)) (xK (fun E => exn ["java/lang/IndexOutOfBoundsException"] (o_road σ a b w).1 E)) 3 18 (nZ Z) := by
  refine mx_in (cc := cX5_road) [.ref (ad 0), .int a, .int b, .int w] "RumourCustoms" rfl (by decide) (Nat.le_of_ble_eq_true rfl) ?_
  intro pg e s m args below meth cd ls hx hb hml hown hts hr hlocks hnt hPr hl
  obtain ⟨hG, hP⟩ := hPr
  have hl : lv_has ls 5 [(0, .ref (ad 0)), (1, .int a), (2, .int b), (3, .int w)] := hl
  have hS : va_S (nZ Z) s.heap s.heap [] := va_S.rf
  have hn := hP.2.2.2.1
  have hnC := hP.2.2.2.2
  have hT1 := hI.1.1
  have hT10 := hI.1.2
  have hR1 := hI.2.1.1
  have hC1 := hI.2.2.1.1
  have hH : ∀ i, i < nR σ → σ 1 (7 * i + 6) = 0 ∨ σ 1 (7 * i + 6) = 1 := fun i hi => (hI.2.2.2.1 i hi).2.2.2.2.2
  refine lv_aload_n hx hb dX5_road_0 rfl (lv_at hl 0 rfl) ?_
  refine lv_iload_n hx hb dX5_road_1 rfl (lv_at hl 1 rfl) ?_
  refine c_x0C (vx_runV (As := [.int a]) (rest := []) ⟨hx, hb, hml, hown, hts⟩ (c_X5_requireTown l D ct Z dc σ ad hst a) (cwV 1 hts (GG w_367 w_369 w_10 w_59 w_370) rfl rfl rfl (by decide) ⟨Nat.le_of_ble_eq_true rfl, Nat.le_of_ble_eq_true rfl⟩) ⟨(blindF fun _ _ _ _ h => h), Ob.recv (hG.2.1).1 hP.o0 rfl, fun U hU hW => ⟨rfl, hG.up hW hS hU, by rw [hU]; exact hP⟩⟩ rfl rfl hl.1 rfl (lv_room (Nat.le_of_ble_eq_true rfl)) dX5_road_2 ⟨Nat.le_of_ble_eq_true rfl, Nat.le_of_ble_eq_true rfl⟩) hS (fun E ce q9 H1 hp hk hS1 hce hcv hcl => vx_widen (k := 3) (n := 18) (Nat.le_of_ble_eq_true rfl) (Nat.le_of_ble_eq_true rfl) (vx_out (fun x h => (hnt x h).elim) hlocks hce hcv hcl (fun t ht _ => ⟨(by obtain ⟨rfl, hf⟩ := hp; rw [show o_road σ a b w = (1, 0, σ) from by simp [o_road, figDS, hf]]; exact ⟨Nat.le_of_ble_eq_true rfl, rfl⟩), by rw [ht]; exact hk⟩) (fun z hz => nomatch hz) (Nat.le_refl _) (Nat.le_refl _))) (fun hc_2 => ?_)
  obtain ⟨t2, ht2, hv2⟩ := okT hT1 hT10 hc_2
  subst hv2
  have ix2 : ix (nI t2) = t2 := ix_n (by omega)
  refine lv_aload_n hx hb dX5_road_5 rfl (lv_at hl 0 rfl) ?_
  refine lv_iload_n hx hb dX5_road_6 rfl (lv_at hl 2 rfl) ?_
  refine c_x0C (vx_runV (As := [.int b]) (rest := []) ⟨hx, hb, hml, hown, hts⟩ (c_X5_requireTown l D ct Z dc σ ad hst b) (cwV 1 hts (GG w_367 w_369 w_10 w_59 w_370) rfl rfl rfl (by decide) ⟨Nat.le_of_ble_eq_true rfl, Nat.le_of_ble_eq_true rfl⟩) ⟨(blindF fun _ _ _ _ h => h), Ob.recv (hG.2.1).1 hP.o0 rfl, fun U hU hW => ⟨rfl, hG.up hW hS hU, by rw [hU]; exact hP⟩⟩ rfl rfl hl.1 rfl (lv_room (Nat.le_of_ble_eq_true rfl)) dX5_road_7 ⟨Nat.le_of_ble_eq_true rfl, Nat.le_of_ble_eq_true rfl⟩) hS (fun E ce q9 H1 hp hk hS1 hce hcv hcl => vx_widen (k := 3) (n := 18) (Nat.le_of_ble_eq_true rfl) (Nat.le_of_ble_eq_true rfl) (vx_out (fun x h => (hnt x h).elim) hlocks hce hcv hcl (fun t ht _ => ⟨(by obtain ⟨rfl, hf⟩ := hp; rw [show o_road σ (nI t2) b w = (1, 0, σ) from by simp [o_road, figDS, hc_2, ix2, hf]]; exact ⟨Nat.le_of_ble_eq_true rfl, rfl⟩), by rw [ht]; exact hk⟩) (fun z hz => nomatch hz) (Nat.le_refl _) (Nat.le_refl _))) (fun hc_7 => ?_)
  obtain ⟨t7, ht7, hv7⟩ := okT hT1 hT10 hc_7
  subst hv7
  have ix7 : ix (nI t7) = t7 := ix_n (by omega)
  refine lv_iload_n hx hb dX5_road_10 rfl (lv_at hl 3 rfl) ?_
  refine lv_bipush (v := 6) hx hb dX5_road_11 (by decide) ?_
  refine c_x0C (vx_runS (As := [.int w, .int 6]) (rest := []) ⟨hx, hb, hml, hown, hts⟩ (c_X5_requireWhat l D ct Z dc σ ad hst w 6) (k_cwS 2 hts w_448 w_449 w_59 w_450 rfl rfl (by decide) ⟨Nat.le_of_ble_eq_true rfl, Nat.le_of_ble_eq_true rfl⟩) ⟨(blindF fun _ _ _ _ h => h), fun U hU hW => ⟨rfl, hG.up hW hS hU, by rw [hU]; exact hP⟩⟩ rfl rfl hl.1 rfl (lv_room (Nat.le_of_ble_eq_true rfl)) dX5_road_13 ⟨Nat.le_of_ble_eq_true rfl, Nat.le_of_ble_eq_true rfl⟩) hS (fun E ce q9 H1 hp hk hS1 hce hcv hcl => vx_widen (k := 3) (n := 18) (Nat.le_of_ble_eq_true rfl) (Nat.le_of_ble_eq_true rfl) (vx_out (fun x h => (hnt x h).elim) hlocks hce hcv hcl (fun t ht _ => ⟨(by obtain ⟨rfl, hf⟩ := hp; rw [show o_road σ (nI t2) (nI t7) w = (1, 0, σ) from by simp [o_road, figDS, hc_2, ix2, hc_7, ix7, hf]]; exact ⟨Nat.le_of_ble_eq_true rfl, rfl⟩), by rw [ht]; exact hk⟩) (fun z hz => nomatch hz) (Nat.le_refl _) (Nat.le_refl _))) (fun hc_13 => ?_)
  refine lv_aload_n hx hb dX5_road_16 rfl (lv_at hl 0 rfl) ?_
  refine k_get (C := RX5) (T := TX5) (N := 11) hx hb hts inGX5 hown (hG.2.1).1 hP.o0 rfl 0 (by decide) (hts _ w_147) (fun _ h9 => h9) (v := .ref (ad 1)) rfl dX5_road_17 ?_
  refine lv_iload_n hx hb dX5_road_20 rfl (lv_at hl 1 rfl) ?_
  refine lv_iload_n hx hb dX5_road_21 rfl (lv_at hl 2 rfl) ?_
  refine c_p1 (va_runV (As := [.int (nI t2), .int (nI t7)]) (rest := []) ⟨hx, hb, hml, hown, hts⟩ (c_X2_between l D ct Z dc σ ad t2 t7 (by omega) (by omega)) (cwV 2 hts (GG w_235 w_236 w_237 w_60 w_238) rfl rfl rfl (by decide) ⟨Nat.le_of_ble_eq_true rfl, Nat.le_of_ble_eq_true rfl⟩) ⟨(blindT fun _ _ _ _ h => h), Ob.recv (hG.2.1).1 hP.o1 rfl, fun U hU hW => ⟨rfl, hG.2.1.warm hW, by rw [hU]; exact hP⟩⟩ rfl rfl hl.1 rfl (lv_room (Nat.le_of_ble_eq_true rfl)) dX5_road_22 ⟨Nat.le_of_ble_eq_true rfl, Nat.le_of_ble_eq_true rfl⟩) ?_
  have hkd : rk t2 t7 < 100 := rk_lt (by omega) (by omega)
  by_cases hrd : σ 3 (7 * rk t2 t7) = 1
  · -- road
    rw [show va_rf (rdb σ ad t2 t7) = .ref (ad (300 + rk t2 t7)) from by rw [rdb, if_pos hrd]; rfl]
    refine lv_astore (lv' := [(4, .ref (ad (300 + rk t2 t7))), (0, .ref (ad 0)), (1, .int (nI t2)), (2, .int (nI t7)), (3, .int w)]) hx hb dX5_road_25 hl (by decide) rfl (fun ls hl => ?_)
    refine lv_aload hx hb dX5_road_27 (lv_at hl 0 rfl) ?_
    refine lv_ifnonnull (tgt := 36) hx hb dX5_road_29 (by decide) ?_
    refine lv_aload hx hb dX5_road_36 (lv_at hl 0 rfl) ?_
    refine lv_iload_n hx hb dX5_road_38 rfl (lv_at hl 4 rfl) ?_
    refine c_p1 (va_runV (As := [.int w]) (rest := []) ⟨hx, hb, hml, hown, hts⟩ (c_X1_figure l D ct (ad (300 + rk t2 t7)) (σ 3 (7 * (rk t2 t7) + 1)) (σ 3 (7 * (rk t2 t7) + 2)) (σ 3 (7 * (rk t2 t7) + 3)) (σ 3 (7 * (rk t2 t7) + 4)) (σ 3 (7 * (rk t2 t7) + 5)) (σ 3 (7 * (rk t2 t7) + 6)) w) (cwV 1 hts (GG w_245 w_246 w_247 w_72 w_248) rfl rfl rfl (by decide) ⟨Nat.le_of_ble_eq_true rfl, Nat.le_of_ble_eq_true rfl⟩) ⟨(blindT fun _ _ _ _ h => h), Ob.recv (hG.2.1).1 (hP.d hkd hrd) rfl, fun U hU hW => ⟨rfl, hG.2.1.warm hW, by rw [hU]; exact (hP.d hkd hrd)⟩⟩ rfl rfl hl.1 rfl (lv_room (Nat.le_of_ble_eq_true rfl)) dX5_road_39 ⟨Nat.le_of_ble_eq_true rfl, Nat.le_of_ble_eq_true rfl⟩) ?_
    refine vx_ret ?_
    refine W.widen (k := 3) (n := 18) (Nat.le_of_ble_eq_true rfl) (Nat.le_of_ble_eq_true rfl) ?_
    have ho : o_road σ (nI t2) (nI t7) w = (0, figD w (σ 3 (7 * (rk t2 t7) + 1)) (σ 3 (7 * (rk t2 t7) + 2)) (σ 3 (7 * (rk t2 t7) + 3)) (σ 3 (7 * (rk t2 t7) + 4)) (σ 3 (7 * (rk t2 t7) + 5)) (σ 3 (7 * (rk t2 t7) + 6)), σ) := by simp [o_road, figDS, hc_2, ix2, hc_7, ix7, hc_13, hrd]
    exact W.iret (v := figD w (σ 3 (7 * (rk t2 t7) + 1)) (σ 3 (7 * (rk t2 t7) + 2)) (σ 3 (7 * (rk t2 t7) + 3)) (σ 3 (7 * (rk t2 t7) + 4)) (σ 3 (7 * (rk t2 t7) + 5)) (σ 3 (7 * (rk t2 t7) + 6))) hx hb hr (fun t ht hW => ⟨_, rfl, by rw [ht]; exact ⟨by rw [ho], by rw [ho], σ, ad, by rw [ho]; exact SC.rf, rfl, hP⟩, hS.F ht⟩) (fun z h => hS.2.2 z h) dX5_road_42
  · -- none
    rw [show va_rf (rdb σ ad t2 t7) = .null from by rw [rdb, if_neg hrd]; rfl]
    refine lv_astoreN (lv' := [(4, .null), (0, .ref (ad 0)), (1, .int (nI t2)), (2, .int (nI t7)), (3, .int w)]) hx hb dX5_road_25 hl (by decide) rfl (fun ls hl => ?_)
    refine lv_aloadN hx hb dX5_road_27 (lv_at hl 0 rfl) ?_
    refine lv_ifnonnullN hx hb dX5_road_29 ?_
    refine lv_iconst (v := 0) hx hb dX5_road_32 (by decide) ?_
    refine lv_goto (tgt := 42) hx hb dX5_road_33 (by decide) ?_
    refine vx_ret ?_
    refine W.widen (k := 3) (n := 18) (Nat.le_of_ble_eq_true rfl) (Nat.le_of_ble_eq_true rfl) ?_
    have ho : o_road σ (nI t2) (nI t7) w = (0, 0, σ) := by simp [o_road, figDS, hc_2, ix2, hc_7, ix7, hc_13, hrd]
    exact W.iret (v := 0) hx hb hr (fun t ht hW => ⟨_, rfl, by rw [ht]; exact ⟨by rw [ho], by rw [ho], σ, ad, by rw [ho]; exact SC.rf, rfl, hP⟩, hS.F ht⟩) (fun z h => hS.2.2 z h) dX5_road_42

/-! rumour -/
set_option maxHeartbeats 4000000 in
set_option maxRecDepth 100000 in
theorem c_X5_rumour (l : Launch) (D : va_G) (ct : Nat → ClassId) (Z : Nat → Prop) (dc : Nat) (σ : Stt) (ad : Nat → Nat) (hst : l.stackTraces = false) (r w : Int32) (hI : Inv σ) : vx_Met l yX5_rumour (.code yX5_rumour cX5_rumour 4 (some .int) :: GW) ({ frames := 7, cells := 2, slots := 12, locals := 103 } : Room) (va_Pc [.ref (ad 0), .int r, .int w] (fun U => GF D ct Z dc U U.heap ∧ Pic D ct Z dc σ ad U.heap)) (qS1 Z (fun x h => (o_rumour σ r w).1 = 0 ∧ x = .int (o_rumour σ r w).2.1 ∧ ∃ (σ1 : Stt) (ad1 : Nat → Nat), SC (o_rumour σ r w).2.2 σ1 ∧ ad1 0 = ad 0 ∧ Pic D ct Z dc σ1 ad1 h)) (xK (fun E => exn ["java/lang/IndexOutOfBoundsException"] (o_rumour σ r w).1 E)) 2 12 (nZ Z) := by
  refine mx_in (cc := cX5_rumour) [.ref (ad 0), .int r, .int w] "RumourCustoms" rfl (by decide) (Nat.le_of_ble_eq_true rfl) ?_
  intro pg e s m args below meth cd ls hx hb hml hown hts hr hlocks hnt hPr hl
  obtain ⟨hG, hP⟩ := hPr
  have hl : lv_has ls 4 [(0, .ref (ad 0)), (1, .int r), (2, .int w)] := hl
  have hS : va_S (nZ Z) s.heap s.heap [] := va_S.rf
  have hn := hP.2.2.2.1
  have hnC := hP.2.2.2.2
  have hT1 := hI.1.1
  have hT10 := hI.1.2
  have hR1 := hI.2.1.1
  have hC1 := hI.2.2.1.1
  have hH : ∀ i, i < nR σ → σ 1 (7 * i + 6) = 0 ∨ σ 1 (7 * i + 6) = 1 := fun i hi => (hI.2.2.2.1 i hi).2.2.2.2.2
  refine lv_aload_n hx hb dX5_rumour_0 rfl (lv_at hl 0 rfl) ?_
  refine lv_iload_n hx hb dX5_rumour_1 rfl (lv_at hl 1 rfl) ?_
  refine c_x1R (vx_runV (As := [.int r]) (rest := []) ⟨hx, hb, hml, hown, hts⟩ (c_X5_rumourAt l D ct Z dc σ ad hst r hR1) (cwV 1 hts (GG w_565 w_567 w_14 w_59 w_568) rfl rfl rfl (by decide) ⟨Nat.le_of_ble_eq_true rfl, Nat.le_of_ble_eq_true rfl⟩) ⟨(blindF fun _ _ _ _ h => h), Ob.recv (hG.2.1).1 hP.o0 rfl, fun U hU hW => ⟨rfl, hG.up hW hS hU, by rw [hU]; exact hP⟩⟩ rfl rfl hl.1 rfl (lv_room (Nat.le_of_ble_eq_true rfl)) dX5_rumour_2 ⟨Nat.le_of_ble_eq_true rfl, Nat.le_of_ble_eq_true rfl⟩) hS (fun E ce q9 H1 hp hk hS1 hce hcv hcl => vx_widen (k := 2) (n := 12) (Nat.le_of_ble_eq_true rfl) (Nat.le_of_ble_eq_true rfl) (vx_out (fun x h => (hnt x h).elim) hlocks hce hcv hcl (fun t ht _ => ⟨(by obtain ⟨rfl, hf⟩ := hp; rw [show o_rumour σ r w = (1, 0, σ) from by simp [o_rumour, figRS, hf]]; exact ⟨Nat.le_of_ble_eq_true rfl, rfl⟩), by rw [ht]; exact hk⟩) (fun z hz => nomatch hz) (Nat.le_refl _) (Nat.le_refl _))) (fun x hc_2 => ?_)
  obtain ⟨k_2, hk_2, hv_2, rfl⟩ := hc_2
  subst hv_2
  have ok2 : rOK σ (nI k_2) = true := okR2 hR1 (by omega) hk_2
  have ix2 : ix (nI k_2) = k_2 := ix_n (by omega)
  refine lv_astore_n (lv' := [(3, .ref (ad (100 + k_2))), (0, .ref (ad 0)), (1, .int (nI k_2)), (2, .int w)]) hx hb dX5_rumour_5 rfl hl (by decide) rfl (fun ls hl => ?_)
  refine lv_iload_n hx hb dX5_rumour_6 rfl (lv_at hl 3 rfl) ?_
  refine lv_bipush (v := 6) hx hb dX5_rumour_7 (by decide) ?_
  refine c_x0C (vx_runS (As := [.int w, .int 6]) (rest := []) ⟨hx, hb, hml, hown, hts⟩ (c_X5_requireWhat l D ct Z dc σ ad hst w 6) (k_cwS 2 hts w_448 w_449 w_59 w_450 rfl rfl (by decide) ⟨Nat.le_of_ble_eq_true rfl, Nat.le_of_ble_eq_true rfl⟩) ⟨(blindF fun _ _ _ _ h => h), fun U hU hW => ⟨rfl, hG.up hW hS hU, by rw [hU]; exact hP⟩⟩ rfl rfl hl.1 rfl (lv_room (Nat.le_of_ble_eq_true rfl)) dX5_rumour_9 ⟨Nat.le_of_ble_eq_true rfl, Nat.le_of_ble_eq_true rfl⟩) hS (fun E ce q9 H1 hp hk hS1 hce hcv hcl => vx_widen (k := 2) (n := 12) (Nat.le_of_ble_eq_true rfl) (Nat.le_of_ble_eq_true rfl) (vx_out (fun x h => (hnt x h).elim) hlocks hce hcv hcl (fun t ht _ => ⟨(by obtain ⟨rfl, hf⟩ := hp; rw [show o_rumour σ (nI k_2) w = (1, 0, σ) from by simp [o_rumour, figRS, ok2, ix2, hf]]; exact ⟨Nat.le_of_ble_eq_true rfl, rfl⟩), by rw [ht]; exact hk⟩) (fun z hz => nomatch hz) (Nat.le_refl _) (Nat.le_refl _))) (fun hc_9 => ?_)
  refine lv_aload_n hx hb dX5_rumour_12 rfl (lv_at hl 0 rfl) ?_
  refine lv_iload_n hx hb dX5_rumour_13 rfl (lv_at hl 3 rfl) ?_
  refine c_p1 (va_runV (As := [.int w]) (rest := []) ⟨hx, hb, hml, hown, hts⟩ (c_X3_figure l D ct (ad (100 + k_2)) (nI k_2) (σ 1 (7 * k_2 + 3)) (σ 1 (7 * k_2)) (σ 1 (7 * k_2 + 1)) (σ 1 (7 * k_2 + 2)) (σ 1 (7 * k_2 + 4)) (σ 1 (7 * k_2 + 5)) (σ 1 (7 * k_2 + 6)) w (hH _ hk_2)) (cwV 1 hts (GG w_253 w_254 w_255 w_75 w_256) rfl rfl rfl (by decide) ⟨Nat.le_of_ble_eq_true rfl, Nat.le_of_ble_eq_true rfl⟩) ⟨(blindT fun _ _ _ _ h => h), Ob.recv (hG.2.1).1 (hP.r hk_2) rfl, fun U hU hW => ⟨rfl, hG.2.1.warm hW, by rw [hU]; exact (hP.r hk_2)⟩⟩ rfl rfl hl.1 rfl (lv_room (Nat.le_of_ble_eq_true rfl)) dX5_rumour_14 ⟨Nat.le_of_ble_eq_true rfl, Nat.le_of_ble_eq_true rfl⟩) ?_
  refine vx_ret ?_
  refine W.widen (k := 2) (n := 12) (Nat.le_of_ble_eq_true rfl) (Nat.le_of_ble_eq_true rfl) ?_
  have ho : o_rumour σ (nI k_2) w = (0, figR w (σ 1 (7 * k_2 + 3)) (σ 1 (7 * k_2)) (σ 1 (7 * k_2 + 1)) (σ 1 (7 * k_2 + 2)) (σ 1 (7 * k_2 + 4)) (σ 1 (7 * k_2 + 5)) (σ 1 (7 * k_2 + 6)), σ) := by simp [o_rumour, figRS, ok2, ix2, hc_9]
  exact W.iret (v := figR w (σ 1 (7 * k_2 + 3)) (σ 1 (7 * k_2)) (σ 1 (7 * k_2 + 1)) (σ 1 (7 * k_2 + 2)) (σ 1 (7 * k_2 + 4)) (σ 1 (7 * k_2 + 5)) (σ 1 (7 * k_2 + 6))) hx hb hr (fun t ht hW => ⟨_, rfl, by rw [ht]; exact ⟨by rw [ho], by rw [ho], σ, ad, by rw [ho]; exact SC.rf, rfl, hP⟩, hS.F ht⟩) (fun z h => hS.2.2 z h) dX5_rumour_17

/-! carrier -/
set_option maxHeartbeats 4000000 in
set_option maxRecDepth 100000 in
theorem c_X5_carrier (l : Launch) (D : va_G) (ct : Nat → ClassId) (Z : Nat → Prop) (dc : Nat) (σ : Stt) (ad : Nat → Nat) (hst : l.stackTraces = false) (c w : Int32) (hI : Inv σ) : vx_Met l yX5_carrier (.code yX5_carrier cX5_carrier 4 (some .int) :: GW) ({ frames := 7, cells := 2, slots := 12, locals := 109 } : Room) (va_Pc [.ref (ad 0), .int c, .int w] (fun U => GF D ct Z dc U U.heap ∧ Pic D ct Z dc σ ad U.heap)) (qS1 Z (fun x h => (o_carrier σ c w).1 = 0 ∧ x = .int (o_carrier σ c w).2.1 ∧ ∃ (σ1 : Stt) (ad1 : Nat → Nat), SC (o_carrier σ c w).2.2 σ1 ∧ ad1 0 = ad 0 ∧ Pic D ct Z dc σ1 ad1 h)) (xK (fun E => exn ["java/lang/IndexOutOfBoundsException"] (o_carrier σ c w).1 E)) 2 12 (nZ Z) := by
  refine mx_in (cc := cX5_carrier) [.ref (ad 0), .int c, .int w] "RumourCustoms" rfl (by decide) (Nat.le_of_ble_eq_true rfl) ?_
  intro pg e s m args below meth cd ls hx hb hml hown hts hr hlocks hnt hPr hl
  obtain ⟨hG, hP⟩ := hPr
  have hl : lv_has ls 4 [(0, .ref (ad 0)), (1, .int c), (2, .int w)] := hl
  have hS : va_S (nZ Z) s.heap s.heap [] := va_S.rf
  have hn := hP.2.2.2.1
  have hnC := hP.2.2.2.2
  have hT1 := hI.1.1
  have hT10 := hI.1.2
  have hR1 := hI.2.1.1
  have hC1 := hI.2.2.1.1
  have hH : ∀ i, i < nR σ → σ 1 (7 * i + 6) = 0 ∨ σ 1 (7 * i + 6) = 1 := fun i hi => (hI.2.2.2.1 i hi).2.2.2.2.2
  refine lv_aload_n hx hb dX5_carrier_0 rfl (lv_at hl 0 rfl) ?_
  refine lv_iload_n hx hb dX5_carrier_1 rfl (lv_at hl 1 rfl) ?_
  refine c_x1R (vx_runV (As := [.int c]) (rest := []) ⟨hx, hb, hml, hown, hts⟩ (c_X5_carrierAt l D ct Z dc σ ad hst c hC1) (cwV 1 hts (GG w_652 w_654 w_20 w_59 w_655) rfl rfl rfl (by decide) ⟨Nat.le_of_ble_eq_true rfl, Nat.le_of_ble_eq_true rfl⟩) ⟨(blindF fun _ _ _ _ h => h), Ob.recv (hG.2.1).1 hP.o0 rfl, fun U hU hW => ⟨rfl, hG.up hW hS hU, by rw [hU]; exact hP⟩⟩ rfl rfl hl.1 rfl (lv_room (Nat.le_of_ble_eq_true rfl)) dX5_carrier_2 ⟨Nat.le_of_ble_eq_true rfl, Nat.le_of_ble_eq_true rfl⟩) hS (fun E ce q9 H1 hp hk hS1 hce hcv hcl => vx_widen (k := 2) (n := 12) (Nat.le_of_ble_eq_true rfl) (Nat.le_of_ble_eq_true rfl) (vx_out (fun x h => (hnt x h).elim) hlocks hce hcv hcl (fun t ht _ => ⟨(by obtain ⟨rfl, hf⟩ := hp; rw [show o_carrier σ c w = (1, 0, σ) from by simp [o_carrier, hf]]; exact ⟨Nat.le_of_ble_eq_true rfl, rfl⟩), by rw [ht]; exact hk⟩) (fun z hz => nomatch hz) (Nat.le_refl _) (Nat.le_refl _))) (fun x hc_2 => ?_)
  obtain ⟨k_2, hk_2, hv_2, rfl⟩ := hc_2
  subst hv_2
  have ok2 : cOK σ (nI k_2) = true := okC2 hC1 (by omega) hk_2
  have ix2 : ix (nI k_2) = k_2 := ix_n (by omega)
  refine lv_astore_n (lv' := [(3, .ref (ad (200 + k_2))), (0, .ref (ad 0)), (1, .int (nI k_2)), (2, .int w)]) hx hb dX5_carrier_5 rfl hl (by decide) rfl (fun ls hl => ?_)
  refine lv_iload_n hx hb dX5_carrier_6 rfl (lv_at hl 3 rfl) ?_
  refine lv_iconst (v := 5) hx hb dX5_carrier_7 (by decide) ?_
  refine c_x0C (vx_runS (As := [.int w, .int 5]) (rest := []) ⟨hx, hb, hml, hown, hts⟩ (c_X5_requireWhat l D ct Z dc σ ad hst w 5) (k_cwS 2 hts w_448 w_449 w_59 w_450 rfl rfl (by decide) ⟨Nat.le_of_ble_eq_true rfl, Nat.le_of_ble_eq_true rfl⟩) ⟨(blindF fun _ _ _ _ h => h), fun U hU hW => ⟨rfl, hG.up hW hS hU, by rw [hU]; exact hP⟩⟩ rfl rfl hl.1 rfl (lv_room (Nat.le_of_ble_eq_true rfl)) dX5_carrier_8 ⟨Nat.le_of_ble_eq_true rfl, Nat.le_of_ble_eq_true rfl⟩) hS (fun E ce q9 H1 hp hk hS1 hce hcv hcl => vx_widen (k := 2) (n := 12) (Nat.le_of_ble_eq_true rfl) (Nat.le_of_ble_eq_true rfl) (vx_out (fun x h => (hnt x h).elim) hlocks hce hcv hcl (fun t ht _ => ⟨(by obtain ⟨rfl, hf⟩ := hp; rw [show o_carrier σ (nI k_2) w = (1, 0, σ) from by simp [o_carrier, ok2, ix2, hf]]; exact ⟨Nat.le_of_ble_eq_true rfl, rfl⟩), by rw [ht]; exact hk⟩) (fun z hz => nomatch hz) (Nat.le_refl _) (Nat.le_refl _))) (fun hc_8 => ?_)
  refine lv_aload_n hx hb dX5_carrier_11 rfl (lv_at hl 1 rfl) ?_
  refine lv_aload_n hx hb dX5_carrier_12 rfl (lv_at hl 0 rfl) ?_
  refine lv_iload_n hx hb dX5_carrier_13 rfl (lv_at hl 3 rfl) ?_
  refine c_p1 (va_runV (As := [.ref (ad (200 + k_2)), .int w]) (rest := []) ⟨hx, hb, hml, hown, hts⟩ (c_X5_figureOf l D ct Z dc σ ad k_2 w hk_2 hH) (cwV 2 hts (GG w_261 w_263 w_6 w_59 w_264) rfl rfl rfl (by decide) ⟨Nat.le_of_ble_eq_true rfl, Nat.le_of_ble_eq_true rfl⟩) ⟨(blindT fun _ _ _ _ h => h), Ob.recv (hG.2.1).1 hP.o0 rfl, fun U hU hW => ⟨rfl, hG.2.1.warm hW, by rw [hU]; exact hP⟩⟩ rfl rfl hl.1 rfl (lv_room (Nat.le_of_ble_eq_true rfl)) dX5_carrier_14 ⟨Nat.le_of_ble_eq_true rfl, Nat.le_of_ble_eq_true rfl⟩) ?_
  refine vx_ret ?_
  refine W.widen (k := 2) (n := 12) (Nat.le_of_ble_eq_true rfl) (Nat.le_of_ble_eq_true rfl) ?_
  have ho : o_carrier σ (nI k_2) w = (0, figC σ k_2 w, σ) := by simp [o_carrier, ok2, ix2, hc_8]
  exact W.iret (v := figC σ k_2 w) hx hb hr (fun t ht hW => ⟨_, rfl, by rw [ht]; exact ⟨by rw [ho], by rw [ho], σ, ad, by rw [ho]; exact SC.rf, rfl, hP⟩, hS.F ht⟩) (fun z h => hS.2.2 z h) dX5_carrier_17

/-! count -/
set_option maxHeartbeats 4000000 in
set_option maxRecDepth 100000 in
theorem c_X5_count (l : Launch) (D : va_G) (ct : Nat → ClassId) (Z : Nat → Prop) (dc : Nat) (σ : Stt) (ad : Nat → Nat) (hst : l.stackTraces = false) (w : Int32) (hI : Inv σ) : vx_Met l yX5_count (.code yX5_count cX5_count 2 (some .int) :: GW) ({ frames := 7, cells := 1, slots := 6, locals := 107 } : Room) (va_Pc [.ref (ad 0), .int w] (fun U => GF D ct Z dc U U.heap ∧ Pic D ct Z dc σ ad U.heap)) (qS1 Z (fun x h => (o_count σ w).1 = 0 ∧ x = .int (o_count σ w).2.1 ∧ ∃ (σ1 : Stt) (ad1 : Nat → Nat), SC (o_count σ w).2.2 σ1 ∧ ad1 0 = ad 0 ∧ Pic D ct Z dc σ1 ad1 h)) (xK (fun E => exn ["java/lang/IndexOutOfBoundsException"] (o_count σ w).1 E)) 1 6 (nZ Z) := by
  refine mx_in (cc := cX5_count) [.ref (ad 0), .int w] "RumourCustoms" rfl (by decide) (Nat.le_of_ble_eq_true rfl) ?_
  intro pg e s m args below meth cd ls hx hb hml hown hts hr hlocks hnt hPr hl
  obtain ⟨hG, hP⟩ := hPr
  have hl : lv_has ls 2 [(0, .ref (ad 0)), (1, .int w)] := hl
  have hS : va_S (nZ Z) s.heap s.heap [] := va_S.rf
  have hn := hP.2.2.2.1
  have hnC := hP.2.2.2.2
  have hT1 := hI.1.1
  have hT10 := hI.1.2
  have hR1 := hI.2.1.1
  have hC1 := hI.2.2.1.1
  have hH : ∀ i, i < nR σ → σ 1 (7 * i + 6) = 0 ∨ σ 1 (7 * i + 6) = 1 := fun i hi => (hI.2.2.2.1 i hi).2.2.2.2.2
  refine lv_iload_n hx hb dX5_count_0 rfl (lv_at hl 1 rfl) ?_
  refine lv_bipush (v := 10) hx hb dX5_count_1 (by decide) ?_
  refine c_x0C (vx_runS (As := [.int w, .int 10]) (rest := []) ⟨hx, hb, hml, hown, hts⟩ (c_X5_requireWhat l D ct Z dc σ ad hst w 10) (k_cwS 2 hts w_448 w_449 w_59 w_450 rfl rfl (by decide) ⟨Nat.le_of_ble_eq_true rfl, Nat.le_of_ble_eq_true rfl⟩) ⟨(blindF fun _ _ _ _ h => h), fun U hU hW => ⟨rfl, hG.up hW hS hU, by rw [hU]; exact hP⟩⟩ rfl rfl hl.1 rfl (lv_room (Nat.le_of_ble_eq_true rfl)) dX5_count_3 ⟨Nat.le_of_ble_eq_true rfl, Nat.le_of_ble_eq_true rfl⟩) hS (fun E ce q9 H1 hp hk hS1 hce hcv hcl => vx_widen (k := 1) (n := 6) (Nat.le_of_ble_eq_true rfl) (Nat.le_of_ble_eq_true rfl) (vx_out (fun x h => (hnt x h).elim) hlocks hce hcv hcl (fun t ht _ => ⟨(by obtain ⟨rfl, hf⟩ := hp; rw [show o_count σ w = (1, 0, σ) from by simp [o_count, hf]]; exact ⟨Nat.le_of_ble_eq_true rfl, rfl⟩), by rw [ht]; exact hk⟩) (fun z hz => nomatch hz) (Nat.le_refl _) (Nat.le_refl _))) (fun hc_3 => ?_)
  refine lv_aload_n hx hb dX5_count_6 rfl (lv_at hl 0 rfl) ?_
  refine lv_iload_n hx hb dX5_count_7 rfl (lv_at hl 1 rfl) ?_
  refine c_p1 (va_runV (As := [.int w]) (rest := []) ⟨hx, hb, hml, hown, hts⟩ (c_X5_figureOfLand l D ct Z dc σ ad w) (cwV 1 hts (GG w_210 w_212 w_0 w_59 w_213) rfl rfl rfl (by decide) ⟨Nat.le_of_ble_eq_true rfl, Nat.le_of_ble_eq_true rfl⟩) ⟨(blindT fun _ _ _ _ h => h), Ob.recv (hG.2.1).1 hP.o0 rfl, fun U hU hW => ⟨rfl, hG.2.1.warm hW, by rw [hU]; exact hP⟩⟩ rfl rfl hl.1 rfl (lv_room (Nat.le_of_ble_eq_true rfl)) dX5_count_8 ⟨Nat.le_of_ble_eq_true rfl, Nat.le_of_ble_eq_true rfl⟩) ?_
  refine vx_ret ?_
  refine W.widen (k := 1) (n := 6) (Nat.le_of_ble_eq_true rfl) (Nat.le_of_ble_eq_true rfl) ?_
  have ho : o_count σ w = (0, figL σ w, σ) := by simp [o_count, hc_3]
  exact W.iret (v := figL σ w) hx hb hr (fun t ht hW => ⟨_, rfl, by rw [ht]; exact ⟨by rw [ho], by rw [ho], σ, ad, by rw [ho]; exact SC.rf, rfl, hP⟩, hS.F ht⟩) (fun z h => hS.2.2 z h) dX5_count_11
