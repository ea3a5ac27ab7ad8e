theorem wi_2 {w : Int32} (h : wi 0 w 2 = true) (h0 : ¬ w = 0) (h1 : ¬ w = 1) : w = 2 := by
  obtain ⟨a, b⟩ := of_decide_eq_true h
  obtain ⟨n, hn, rfl⟩ := nI_of (x := w) (Int32.not_lt.mpr a)
  have h2 : n ≤ 2 := (nI_leI hn (by decide : 2 < 2 ^ 31)).mp b
  have e0 : n ≠ 0 := fun z => h0 (by rw [z]; rfl)
  have e1 : n ≠ 1 := fun z => h1 (by rw [z]; rfl)
  rw [show n = 2 by omega]
  rfl


/-! town -/
set_option maxHeartbeats 4000000 in
set_option maxRecDepth 100000 in
theorem c_X5_town (l : Launch) (D : va_G) (ct : Nat → ClassId) (Z : Nat → Prop) (dc : Nat) (σ : Stt) (ad : Nat → Nat) (hst : l.stackTraces = false) (tn w : Int32) (hI : Inv σ) : vx_Met l yX5_town (.code yX5_town cX5_town 3 (some .int) :: GW) ({ frames := 7, cells := 2, slots := 12, locals := 103 } : Room) (va_Pc [.ref (ad 0), .int tn, .int w] (fun U => GF D ct Z dc U U.heap ∧ Pic D ct Z dc σ ad U.heap)) (qS1 Z (fun x h => (o_town σ tn w).1 = 0 ∧ x = .int (o_town σ tn w).2.1 ∧ ∃ (σ1 : Stt) (ad1 : Nat → Nat), SC (o_town σ tn w).2.2 σ1 ∧ ad1 0 = ad 0 ∧ Pic D ct Z dc σ1 ad1 h)) (xK (fun E => exn ["java/lang/IndexOutOfBoundsException"] (o_town σ tn w).1 E)) 2 12 (nZ Z) := by
  refine mx_in (cc := cX5_town) [.ref (ad 0), .int tn, .int w] "RumourCustoms" rfl (by decide) (Nat.le_of_ble_eq_true rfl) ?_
  intro pg e s m args below meth cd ls hx hb hml hown hts hr hlocks hnt hPr hl
  obtain ⟨hG, hP⟩ := hPr
  have hl : lv_has ls 3 [(0, .ref (ad 0)), (1, .int tn), (2, .int w)] := hl
  have hS : va_S (nZ Z) s.heap s.heap [] := va_S.rf
  have hn := hP.2.2.2.1
  have hnC := hP.2.2.2.2
  have hT1 := hI.1.1
  have hT10 := hI.1.2
  have hR1 := hI.2.1.1
  have hC1 := hI.2.2.1.1
  have hH : ∀ i, i < nR σ → σ 1 (7 * i + 6) = 0 ∨ σ 1 (7 * i + 6) = 1 := fun i hi => (hI.2.2.2.1 i hi).2.2.2.2.2
  refine lv_aload_n hx hb dX5_town_0 rfl (lv_at hl 0 rfl) ?_
  refine lv_iload_n hx hb dX5_town_1 rfl (lv_at hl 1 rfl) ?_
  refine c_x0C (vx_runV (As := [.int tn]) (rest := []) ⟨hx, hb, hml, hown, hts⟩ (c_X5_requireTown l D ct Z dc σ ad hst tn) (cwV 1 hts (GG w_367 w_369 w_10 w_59 w_370) rfl rfl rfl (by decide) ⟨Nat.le_of_ble_eq_true rfl, Nat.le_of_ble_eq_true rfl⟩) ⟨(blindF fun _ _ _ _ h => h), Ob.recv (hG.2.1).1 hP.o0 rfl, fun U hU hW => ⟨rfl, hG.up hW hS hU, by rw [hU]; exact hP⟩⟩ rfl rfl hl.1 rfl (lv_room (Nat.le_of_ble_eq_true rfl)) dX5_town_2 ⟨Nat.le_of_ble_eq_true rfl, Nat.le_of_ble_eq_true rfl⟩) hS (fun E ce q9 H1 hp hk hS1 hce hcv hcl => vx_widen (k := 2) (n := 12) (Nat.le_of_ble_eq_true rfl) (Nat.le_of_ble_eq_true rfl) (vx_out (fun x h => (hnt x h).elim) hlocks hce hcv hcl (fun t ht _ => ⟨(by obtain ⟨rfl, hf⟩ := hp; rw [show o_town σ tn w = (1, 0, σ) from by simp [o_town, twn, hf]]; exact ⟨Nat.le_of_ble_eq_true rfl, rfl⟩), by rw [ht]; exact hk⟩) (fun z hz => nomatch hz) (Nat.le_refl _) (Nat.le_refl _))) (fun hc_2 => ?_)
  obtain ⟨t2, ht2, hv2⟩ := okT hT1 hT10 hc_2
  subst hv2
  have ix2 : ix (nI t2) = t2 := ix_n (by omega)
  refine lv_iload_n hx hb dX5_town_5 rfl (lv_at hl 2 rfl) ?_
  refine lv_iconst (v := 3) hx hb dX5_town_6 (by decide) ?_
  refine c_x0C (vx_runS (As := [.int w, .int 3]) (rest := []) ⟨hx, hb, hml, hown, hts⟩ (c_X5_requireWhat l D ct Z dc σ ad hst w 3) (k_cwS 2 hts w_448 w_449 w_59 w_450 rfl rfl (by decide) ⟨Nat.le_of_ble_eq_true rfl, Nat.le_of_ble_eq_true rfl⟩) ⟨(blindF fun _ _ _ _ h => h), fun U hU hW => ⟨rfl, hG.up hW hS hU, by rw [hU]; exact hP⟩⟩ rfl rfl hl.1 rfl (lv_room (Nat.le_of_ble_eq_true rfl)) dX5_town_7 ⟨Nat.le_of_ble_eq_true rfl, Nat.le_of_ble_eq_true rfl⟩) hS (fun E ce q9 H1 hp hk hS1 hce hcv hcl => vx_widen (k := 2) (n := 12) (Nat.le_of_ble_eq_true rfl) (Nat.le_of_ble_eq_true rfl) (vx_out (fun x h => (hnt x h).elim) hlocks hce hcv hcl (fun t ht _ => ⟨(by obtain ⟨rfl, hf⟩ := hp; rw [show o_town σ (nI t2) w = (1, 0, σ) from by simp [o_town, twn, hc_2, ix2, hf]]; exact ⟨Nat.le_of_ble_eq_true rfl, rfl⟩), by rw [ht]; exact hk⟩) (fun z hz => nomatch hz) (Nat.le_refl _) (Nat.le_refl _))) (fun hc_7 => ?_)
  refine lv_iload_n hx hb dX5_town_10 rfl (lv_at hl 2 rfl) ?_
  by_cases e11_0 : w = 0
  · -- case 0
    subst e11_0
    refine lv_tableIn (off := 25) (tgt := 36) hx hb dX5_town_11 (by decide) (by decide) rfl (by decide) ?_
    refine lv_aload_n hx hb dX5_town_36 rfl (lv_at hl 0 rfl) ?_
    refine lv_iload_n hx hb dX5_town_37 rfl (lv_at hl 1 rfl) ?_
    refine c_p1 (va_runV (As := [.int (nI t2)]) (rest := []) ⟨hx, hb, hml, hown, hts⟩ (c_X5_rumoursIn l D ct Z dc σ ad (nI t2)) (cwV 1 hts (GG w_577 w_579 w_15 w_59 w_580) rfl rfl rfl (by decide) ⟨Nat.le_of_ble_eq_true rfl, Nat.le_of_ble_eq_true rfl⟩) ⟨(blindT fun _ _ _ _ h => h), Ob.recv (hG.2.1).1 hP.o0 rfl, fun U hU hW => ⟨rfl, hG.2.1.warm hW, by rw [hU]; exact hP⟩⟩ rfl rfl hl.1 rfl (lv_room (Nat.le_of_ble_eq_true rfl)) dX5_town_38 ⟨Nat.le_of_ble_eq_true rfl, Nat.le_of_ble_eq_true rfl⟩) ?_
    refine vx_ret ?_
    refine W.widen (k := 2) (n := 12) (Nat.le_of_ble_eq_true rfl) (Nat.le_of_ble_eq_true rfl) ?_
    have ho : o_town σ (nI t2) 0 = (0, rin σ (nI t2), σ) := by simp [o_town, twn, hc_2, ix2, hc_7]
    exact W.iret (v := rin σ (nI t2)) hx hb hr (fun t ht hW => ⟨_, rfl, by rw [ht]; exact ⟨by rw [ho], by rw [ho], σ, ad, by rw [ho]; exact SC.rf, rfl, hP⟩, hS.F ht⟩) (fun z h => hS.2.2 z h) dX5_town_41
  by_cases e11_1 : w = 1
  · -- case 1
    subst e11_1
    refine lv_tableIn (off := 31) (tgt := 42) hx hb dX5_town_11 (by decide) (by decide) rfl (by decide) ?_
    refine lv_aload_n hx hb dX5_town_42 rfl (lv_at hl 0 rfl) ?_
    refine lv_iload_n hx hb dX5_town_43 rfl (lv_at hl 1 rfl) ?_
    refine c_p1 (va_runV (As := [.int (nI t2)]) (rest := []) ⟨hx, hb, hml, hown, hts⟩ (c_X5_familiesIn l D ct Z dc σ ad (nI t2)) (cwV 1 hts (GG w_581 w_583 w_16 w_59 w_584) rfl rfl rfl (by decide) ⟨Nat.le_of_ble_eq_true rfl, Nat.le_of_ble_eq_true rfl⟩) ⟨(blindT fun _ _ _ _ h => h), Ob.recv (hG.2.1).1 hP.o0 rfl, fun U hU hW => ⟨rfl, hG.2.1.warm hW, by rw [hU]; exact hP⟩⟩ rfl rfl hl.1 rfl (lv_room (Nat.le_of_ble_eq_true rfl)) dX5_town_44 ⟨Nat.le_of_ble_eq_true rfl, Nat.le_of_ble_eq_true rfl⟩) ?_
    refine vx_ret ?_
    refine W.widen (k := 2) (n := 12) (Nat.le_of_ble_eq_true rfl) (Nat.le_of_ble_eq_true rfl) ?_
    have ho : o_town σ (nI t2) 1 = (0, bcL (fmb σ (nI t2) (nR σ)), σ) := by simp [o_town, twn, hc_2, ix2, hc_7]
    exact W.iret (v := bcL (fmb σ (nI t2) (nR σ))) hx hb hr (fun t ht hW => ⟨_, rfl, by rw [ht]; exact ⟨by rw [ho], by rw [ho], σ, ad, by rw [ho]; exact SC.rf, rfl, hP⟩, hS.F ht⟩) (fun z h => hS.2.2 z h) dX5_town_47
  by_cases e11_2 : w = 2
  · -- case 2
    subst e11_2
    refine lv_tableIn (off := 37) (tgt := 48) hx hb dX5_town_11 (by decide) (by decide) rfl (by decide) ?_
    refine lv_aload_n hx hb dX5_town_48 rfl (lv_at hl 0 rfl) ?_
    refine lv_iload_n hx hb dX5_town_49 rfl (lv_at hl 1 rfl) ?_
    refine c_p1 (va_runV (As := [.int (nI t2)]) (rest := []) ⟨hx, hb, hml, hown, hts⟩ (c_X5_deepestIn l D ct Z dc σ ad (nI t2)) (cwV 1 hts (GG w_591 w_593 w_17 w_59 w_594) rfl rfl rfl (by decide) ⟨Nat.le_of_ble_eq_true rfl, Nat.le_of_ble_eq_true rfl⟩) ⟨(blindT fun _ _ _ _ h => h), Ob.recv (hG.2.1).1 hP.o0 rfl, fun U hU hW => ⟨rfl, hG.2.1.warm hW, by rw [hU]; exact hP⟩⟩ rfl rfl hl.1 rfl (lv_room (Nat.le_of_ble_eq_true rfl)) dX5_town_50 ⟨Nat.le_of_ble_eq_true rfl, Nat.le_of_ble_eq_true rfl⟩) ?_
    refine vx_ret ?_
    refine W.widen (k := 2) (n := 12) (Nat.le_of_ble_eq_true rfl) (Nat.le_of_ble_eq_true rfl) ?_
    have ho : o_town σ (nI t2) 2 = (0, (dps σ (nI t2) (nR σ)).1, σ) := by simp [o_town, twn, hc_2, ix2, hc_7]
    exact W.iret (v := (dps σ (nI t2) (nR σ)).1) hx hb hr (fun t ht hW => ⟨_, rfl, by rw [ht]; exact ⟨by rw [ho], by rw [ho], σ, ad, by rw [ho]; exact SC.rf, rfl, hP⟩, hS.F ht⟩) (fun z h => hS.2.2 z h) dX5_town_53
  have t11 : w.toInt < 0 ∨ 2 < w.toInt := by
    have z := And.intro (lv_neT (a := 0) e11_0 rfl) (And.intro (lv_neT (a := 1) e11_1 rfl) (And.intro (lv_neT (a := 2) e11_2 rfl) trivial))
    omega
  refine lv_tableOut (tgt := 54) hx hb dX5_town_11 t11 (by decide) ?_
  refine lv_aload_n hx hb dX5_town_54 rfl (lv_at hl 0 rfl) ?_
  refine lv_iload_n hx hb dX5_town_55 rfl (lv_at hl 1 rfl) ?_
  refine c_p1 (va_runV (As := [.int (nI t2)]) (rest := []) ⟨hx, hb, hml, hown, hts⟩ (c_X5_carriersIn l D ct Z dc σ ad (nI t2)) (cwV 1 hts (GG w_595 w_597 w_18 w_59 w_598) rfl rfl rfl (by decide) ⟨Nat.le_of_ble_eq_true rfl, Nat.le_of_ble_eq_true rfl⟩) ⟨(blindT fun _ _ _ _ h => h), Ob.recv (hG.2.1).1 hP.o0 rfl, fun U hU hW => ⟨rfl, hG.2.1.warm hW, by rw [hU]; exact hP⟩⟩ rfl rfl hl.1 rfl (lv_room (Nat.le_of_ble_eq_true rfl)) dX5_town_56 ⟨Nat.le_of_ble_eq_true rfl, Nat.le_of_ble_eq_true rfl⟩) ?_
  refine vx_ret ?_
  refine W.widen (k := 2) (n := 12) (Nat.le_of_ble_eq_true rfl) (Nat.le_of_ble_eq_true rfl) ?_
  have ho : o_town σ (nI t2) w = (0, cin σ (nI t2), σ) := by simp [o_town, twn, hc_2, ix2, hc_7, e11_0, e11_1, e11_2]
  exact W.iret (v := cin σ (nI t2)) hx hb hr (fun t ht hW => ⟨_, rfl, by rw [ht]; exact ⟨by rw [ho], by rw [ho], σ, ad, by rw [ho]; exact SC.rf, rfl, hP⟩, hS.F ht⟩) (fun z h => hS.2.2 z h) dX5_town_59

/-! heard -/
set_option maxHeartbeats 4000000 in
set_option maxRecDepth 100000 in
theorem c_X5_heard (l : Launch) (D : va_G) (ct : Nat → ClassId) (Z : Nat → Prop) (dc : Nat) (σ : Stt) (ad : Nat → Nat) (hst : l.stackTraces = false) (tn r : Int32) (hI : Inv σ) : vx_Met l yX5_heard (.code yX5_heard cX5_heard 4 (some .int) :: GW) ({ frames := 7, cells := 2, slots := 12, locals := 103 } : Room) (va_Pc [.ref (ad 0), .int tn, .int r] (fun U => GF D ct Z dc U U.heap ∧ Pic D ct Z dc σ ad U.heap)) (qS1 Z (fun x h => (o_heard σ tn r).1 = 0 ∧ x = .int (o_heard σ tn r).2.1 ∧ ∃ (σ1 : Stt) (ad1 : Nat → Nat), SC (o_heard σ tn r).2.2 σ1 ∧ ad1 0 = ad 0 ∧ Pic D ct Z dc σ1 ad1 h)) (xK (fun E => exn ["java/lang/IndexOutOfBoundsException"] (o_heard σ tn r).1 E)) 2 12 (nZ Z) := by
  refine mx_in (cc := cX5_heard) [.ref (ad 0), .int tn, .int r] "RumourCustoms" rfl (by decide) (Nat.le_of_ble_eq_true rfl) ?_
  intro pg e s m args below meth cd ls hx hb hml hown hts hr hlocks hnt hPr hl
  obtain ⟨hG, hP⟩ := hPr
  have hl : lv_has ls 4 [(0, .ref (ad 0)), (1, .int tn), (2, .int r)] := hl
  have hS : va_S (nZ Z) s.heap s.heap [] := va_S.rf
  have hn := hP.2.2.2.1
  have hnC := hP.2.2.2.2
  have hT1 := hI.1.1
  have hT10 := hI.1.2
  have hR1 := hI.2.1.1
  have hC1 := hI.2.2.1.1
  have hH : ∀ i, i < nR σ → σ 1 (7 * i + 6) = 0 ∨ σ 1 (7 * i + 6) = 1 := fun i hi => (hI.2.2.2.1 i hi).2.2.2.2.2
  refine lv_aload_n hx hb dX5_heard_0 rfl (lv_at hl 0 rfl) ?_
  refine lv_iload_n hx hb dX5_heard_1 rfl (lv_at hl 1 rfl) ?_
  refine c_x0C (vx_runV (As := [.int tn]) (rest := []) ⟨hx, hb, hml, hown, hts⟩ (c_X5_requireTown l D ct Z dc σ ad hst tn) (cwV 1 hts (GG w_367 w_369 w_10 w_59 w_370) rfl rfl rfl (by decide) ⟨Nat.le_of_ble_eq_true rfl, Nat.le_of_ble_eq_true rfl⟩) ⟨(blindF fun _ _ _ _ h => h), Ob.recv (hG.2.1).1 hP.o0 rfl, fun U hU hW => ⟨rfl, hG.up hW hS hU, by rw [hU]; exact hP⟩⟩ rfl rfl hl.1 rfl (lv_room (Nat.le_of_ble_eq_true rfl)) dX5_heard_2 ⟨Nat.le_of_ble_eq_true rfl, Nat.le_of_ble_eq_true rfl⟩) hS (fun E ce q9 H1 hp hk hS1 hce hcv hcl => vx_widen (k := 2) (n := 12) (Nat.le_of_ble_eq_true rfl) (Nat.le_of_ble_eq_true rfl) (vx_out (fun x h => (hnt x h).elim) hlocks hce hcv hcl (fun t ht _ => ⟨(by obtain ⟨rfl, hf⟩ := hp; rw [show o_heard σ tn r = (1, 0, σ) from by simp [o_heard, opI, hf]]; exact ⟨Nat.le_of_ble_eq_true rfl, rfl⟩), by rw [ht]; exact hk⟩) (fun z hz => nomatch hz) (Nat.le_refl _) (Nat.le_refl _))) (fun hc_2 => ?_)
  obtain ⟨t2, ht2, hv2⟩ := okT hT1 hT10 hc_2
  subst hv2
  have ix2 : ix (nI t2) = t2 := ix_n (by omega)
  refine lv_aload_n hx hb dX5_heard_5 rfl (lv_at hl 0 rfl) ?_
  refine lv_iload_n hx hb dX5_heard_6 rfl (lv_at hl 1 rfl) ?_
  refine lv_aload_n hx hb dX5_heard_7 rfl (lv_at hl 0 rfl) ?_
  refine lv_iload_n hx hb dX5_heard_8 rfl (lv_at hl 2 rfl) ?_
  refine c_x1R (vx_runV (As := [.int r]) (rest := [.int (nI t2), .ref (ad 0)]) ⟨hx, hb, hml, hown, hts⟩ (c_X5_rumourAt l D ct Z dc σ ad hst r hR1) (cwV 1 hts (GG w_565 w_567 w_14 w_59 w_568) rfl rfl rfl (by decide) ⟨Nat.le_of_ble_eq_true rfl, Nat.le_of_ble_eq_true rfl⟩) ⟨(blindF fun _ _ _ _ h => h), Ob.recv (hG.2.1).1 hP.o0 rfl, fun U hU hW => ⟨rfl, hG.up hW hS hU, by rw [hU]; exact hP⟩⟩ rfl rfl hl.1 rfl (lv_room (Nat.le_of_ble_eq_true rfl)) dX5_heard_9 ⟨Nat.le_of_ble_eq_true rfl, Nat.le_of_ble_eq_true rfl⟩) hS (fun E ce q9 H1 hp hk hS1 hce hcv hcl => vx_widen (k := 2) (n := 12) (Nat.le_of_ble_eq_true rfl) (Nat.le_of_ble_eq_true rfl) (vx_out (fun x h => (hnt x h).elim) hlocks hce hcv hcl (fun t ht _ => ⟨(by obtain ⟨rfl, hf⟩ := hp; rw [show o_heard σ (nI t2) r = (1, 0, σ) from by simp [o_heard, opI, hc_2, ix2, hf]]; exact ⟨Nat.le_of_ble_eq_true rfl, rfl⟩), by rw [ht]; exact hk⟩) (fun z hz => nomatch hz) (Nat.le_refl _) (Nat.le_refl _))) (fun x hc_9 => ?_)
  obtain ⟨k_9, hk_9, hv_9, rfl⟩ := hc_9
  subst hv_9
  have ok9 : rOK σ (nI k_9) = true := okR2 hR1 (by omega) hk_9
  have ix9 : ix (nI k_9) = k_9 := ix_n (by omega)
  refine k_get (C := RX3) (T := TX3) (N := 8) hx hb hts inGX3 hown (hG.2.1).1 (hP.r hk_9) rfl 1 (by decide) (hts _ w_468) (fun _ h9 => h9) (v := .int (σ 1 (7 * k_9 + 3))) rfl dX5_heard_12 ?_
  refine c_p1 (va_runV (As := [.int (nI t2), .int (σ 1 (7 * k_9 + 3))]) (rest := []) ⟨hx, hb, hml, hown, hts⟩ (c_X5_leastDeepIn l D ct Z dc σ ad (nI t2) (σ 1 (7 * k_9 + 3))) (cwV 2 hts (GG w_606 w_608 w_19 w_59 w_609) rfl rfl rfl (by decide) ⟨Nat.le_of_ble_eq_true rfl, Nat.le_of_ble_eq_true rfl⟩) ⟨(blindT fun _ _ _ _ h => h), Ob.recv (hG.2.1).1 hP.o0 rfl, fun U hU hW => ⟨rfl, hG.2.1.warm hW, by rw [hU]; exact hP⟩⟩ rfl rfl hl.1 rfl (lv_room (Nat.le_of_ble_eq_true rfl)) dX5_heard_15 ⟨Nat.le_of_ble_eq_true rfl, Nat.le_of_ble_eq_true rfl⟩) ?_
  rcases hld : ldp σ (nI t2) (σ 1 (7 * k_9 + 3)) (nR σ) with _ | k0
  · -- none
    rw [show va_rf (Option.map (fun k => ad (100 + k)) none) = .null from rfl]
    refine lv_astore_nN (lv' := [(3, .null), (0, .ref (ad 0)), (1, .int (nI t2)), (2, .int (nI k_9))]) hx hb dX5_heard_18 rfl hl (by decide) rfl (fun ls hl => ?_)
    refine lv_aload_nN hx hb dX5_heard_19 rfl (lv_at hl 0 rfl) ?_
    refine lv_ifnonnullN hx hb dX5_heard_20 ?_
    refine lv_iconst (v := (-1)) hx hb dX5_heard_23 (by decide) ?_
    refine lv_goto (tgt := 31) hx hb dX5_heard_24 (by decide) ?_
    refine vx_ret ?_
    refine W.widen (k := 2) (n := 12) (Nat.le_of_ble_eq_true rfl) (Nat.le_of_ble_eq_true rfl) ?_
    have ho : o_heard σ (nI t2) (nI k_9) = (0, (-1), σ) := by simp [o_heard, opI, hc_2, ix2, ok9, ix9, hld]
    exact W.iret (v := (-1)) hx hb hr (fun t ht hW => ⟨_, rfl, by rw [ht]; exact ⟨by rw [ho], by rw [ho], σ, ad, by rw [ho]; exact SC.rf, rfl, hP⟩, hS.F ht⟩) (fun z h => hS.2.2 z h) dX5_heard_31
  · -- some
    have hk0 := (ldp_lt hld).1
    rw [show va_rf (Option.map (fun k => ad (100 + k)) (some k0)) = .ref (ad (100 + k0)) from rfl]
    refine lv_astore_n (lv' := [(3, .ref (ad (100 + k0))), (0, .ref (ad 0)), (1, .int (nI t2)), (2, .int (nI k_9))]) hx hb dX5_heard_18 rfl hl (by decide) rfl (fun ls hl => ?_)
    refine lv_aload_n hx hb dX5_heard_19 rfl (lv_at hl 0 rfl) ?_
    refine lv_ifnonnull (tgt := 27) hx hb dX5_heard_20 (by decide) ?_
    refine lv_aload_n hx hb dX5_heard_27 rfl (lv_at hl 0 rfl) ?_
    refine k_get (C := RX3) (T := TX3) (N := 8) hx hb hts inGX3 hown (hG.2.1).1 (hP.r hk0) rfl 0 (by decide) (hts _ w_466) (fun _ h9 => h9) (v := .int (nI k0)) rfl dX5_heard_28 ?_
    refine vx_ret ?_
    refine W.widen (k := 2) (n := 12) (Nat.le_of_ble_eq_true rfl) (Nat.le_of_ble_eq_true rfl) ?_
    have ho : o_heard σ (nI t2) (nI k_9) = (0, nI k0, σ) := by simp [o_heard, opI, hc_2, ix2, ok9, ix9, hld]
    exact W.iret (v := nI k0) hx hb hr (fun t ht hW => ⟨_, rfl, by rw [ht]; exact ⟨by rw [ho], by rw [ho], σ, ad, by rw [ho]; exact SC.rf, rfl, hP⟩, hS.F ht⟩) (fun z h => hS.2.2 z h) dX5_heard_31

/-! spread -/
set_option maxHeartbeats 4000000 in
set_option maxRecDepth 100000 in
theorem c_X5_spread (l : Launch) (D : va_G) (ct : Nat → ClassId) (Z : Nat → Prop) (dc : Nat) (σ : Stt) (ad : Nat → Nat) (hst : l.stackTraces = false) (r w : Int32) (hI : Inv σ) : vx_Met l yX5_spread (.code yX5_spread cX5_spread 4 (some .int) :: GW) ({ frames := 7, cells := 2, slots := 12, locals := 103 } : Room) (va_Pc [.ref (ad 0), .int r, .int w] (fun U => GF D ct Z dc U U.heap ∧ Pic D ct Z dc σ ad U.heap)) (qS1 Z (fun x h => (o_spread σ r w).1 = 0 ∧ x = .int (o_spread σ r w).2.1 ∧ ∃ (σ1 : Stt) (ad1 : Nat → Nat), SC (o_spread σ r w).2.2 σ1 ∧ ad1 0 = ad 0 ∧ Pic D ct Z dc σ1 ad1 h)) (xK (fun E => exn ["java/lang/IndexOutOfBoundsException"] (o_spread σ r w).1 E)) 2 12 (nZ Z) := by
  refine mx_in (cc := cX5_spread) [.ref (ad 0), .int r, .int w] "RumourCustoms" rfl (by decide) (Nat.le_of_ble_eq_true rfl) ?_
  intro pg e s m args below meth cd ls hx hb hml hown hts hr hlocks hnt hPr hl
  obtain ⟨hG, hP⟩ := hPr
  have hl : lv_has ls 4 [(0, .ref (ad 0)), (1, .int r), (2, .int w)] := hl
  have hS : va_S (nZ Z) s.heap s.heap [] := va_S.rf
  have hn := hP.2.2.2.1
  have hnC := hP.2.2.2.2
  have hT1 := hI.1.1
  have hT10 := hI.1.2
  have hR1 := hI.2.1.1
  have hC1 := hI.2.2.1.1
  have hH : ∀ i, i < nR σ → σ 1 (7 * i + 6) = 0 ∨ σ 1 (7 * i + 6) = 1 := fun i hi => (hI.2.2.2.1 i hi).2.2.2.2.2
  refine lv_aload_n hx hb dX5_spread_0 rfl (lv_at hl 0 rfl) ?_
  refine lv_iload_n hx hb dX5_spread_1 rfl (lv_at hl 1 rfl) ?_
  refine c_x1R (vx_runV (As := [.int r]) (rest := []) ⟨hx, hb, hml, hown, hts⟩ (c_X5_rumourAt l D ct Z dc σ ad hst r hR1) (cwV 1 hts (GG w_565 w_567 w_14 w_59 w_568) rfl rfl rfl (by decide) ⟨Nat.le_of_ble_eq_true rfl, Nat.le_of_ble_eq_true rfl⟩) ⟨(blindF fun _ _ _ _ h => h), Ob.recv (hG.2.1).1 hP.o0 rfl, fun U hU hW => ⟨rfl, hG.up hW hS hU, by rw [hU]; exact hP⟩⟩ rfl rfl hl.1 rfl (lv_room (Nat.le_of_ble_eq_true rfl)) dX5_spread_2 ⟨Nat.le_of_ble_eq_true rfl, Nat.le_of_ble_eq_true rfl⟩) hS (fun E ce q9 H1 hp hk hS1 hce hcv hcl => vx_widen (k := 2) (n := 12) (Nat.le_of_ble_eq_true rfl) (Nat.le_of_ble_eq_true rfl) (vx_out (fun x h => (hnt x h).elim) hlocks hce hcv hcl (fun t ht _ => ⟨(by obtain ⟨rfl, hf⟩ := hp; rw [show o_spread σ r w = (1, 0, σ) from by simp [o_spread, spr, hf]]; exact ⟨Nat.le_of_ble_eq_true rfl, rfl⟩), by rw [ht]; exact hk⟩) (fun z hz => nomatch hz) (Nat.le_refl _) (Nat.le_refl _))) (fun x hc_2 => ?_)
  obtain ⟨k_2, hk_2, hv_2, rfl⟩ := hc_2
  subst hv_2
  have ok2 : rOK σ (nI k_2) = true := okR2 hR1 (by omega) hk_2
  have ix2 : ix (nI k_2) = k_2 := ix_n (by omega)
  refine k_get (C := RX3) (T := TX3) (N := 8) hx hb hts inGX3 hown (hG.2.1).1 (hP.r hk_2) rfl 1 (by decide) (hts _ w_468) (fun _ h9 => h9) (v := .int (σ 1 (7 * k_2 + 3))) rfl dX5_spread_5 ?_
  refine lv_istore_n (lv' := [(3, .int (σ 1 (7 * k_2 + 3))), (0, .ref (ad 0)), (1, .int (nI k_2)), (2, .int w)]) hx hb dX5_spread_8 rfl hl (by decide) rfl (fun ls hl => ?_)
  refine lv_iload_n hx hb dX5_spread_9 rfl (lv_at hl 3 rfl) ?_
  refine lv_iconst (v := 2) hx hb dX5_spread_10 (by decide) ?_
  refine c_x0C (vx_runS (As := [.int w, .int 2]) (rest := []) ⟨hx, hb, hml, hown, hts⟩ (c_X5_requireWhat l D ct Z dc σ ad hst w 2) (k_cwS 2 hts w_448 w_449 w_59 w_450 rfl rfl (by decide) ⟨Nat.le_of_ble_eq_true rfl, Nat.le_of_ble_eq_true rfl⟩) ⟨(blindF fun _ _ _ _ h => h), fun U hU hW => ⟨rfl, hG.up hW hS hU, by rw [hU]; exact hP⟩⟩ rfl rfl hl.1 rfl (lv_room (Nat.le_of_ble_eq_true rfl)) dX5_spread_11 ⟨Nat.le_of_ble_eq_true rfl, Nat.le_of_ble_eq_true rfl⟩) hS (fun E ce q9 H1 hp hk hS1 hce hcv hcl => vx_widen (k := 2) (n := 12) (Nat.le_of_ble_eq_true rfl) (Nat.le_of_ble_eq_true rfl) (vx_out (fun x h => (hnt x h).elim) hlocks hce hcv hcl (fun t ht _ => ⟨(by obtain ⟨rfl, hf⟩ := hp; rw [show o_spread σ (nI k_2) w = (1, 0, σ) from by simp [o_spread, spr, ok2, ix2, hf]]; exact ⟨Nat.le_of_ble_eq_true rfl, rfl⟩), by rw [ht]; exact hk⟩) (fun z hz => nomatch hz) (Nat.le_refl _) (Nat.le_refl _))) (fun hc_11 => ?_)
  refine lv_iload_n hx hb dX5_spread_14 rfl (lv_at hl 3 rfl) ?_
  by_cases e15_0 : w = 0
  · -- case 0
    subst e15_0
    refine lv_lookup (off := 25) (tgt := 40) hx hb dX5_spread_15 (by decide) (by decide) (by decide) ?_
    refine lv_aload_n hx hb dX5_spread_40 rfl (lv_at hl 1 rfl) ?_
    refine lv_iload_n hx hb dX5_spread_41 rfl (lv_at hl 0 rfl) ?_
    refine c_p1 (va_runV (As := [.int (σ 1 (7 * k_2 + 3))]) (rest := []) ⟨hx, hb, hml, hown, hts⟩ (c_X5_townsThatKnow l D ct Z dc σ ad (σ 1 (7 * k_2 + 3))) (cwV 1 hts (GG w_848 w_850 w_32 w_59 w_851) rfl rfl rfl (by decide) ⟨Nat.le_of_ble_eq_true rfl, Nat.le_of_ble_eq_true rfl⟩) ⟨(blindT fun _ _ _ _ h => h), Ob.recv (hG.2.1).1 hP.o0 rfl, fun U hU hW => ⟨rfl, hG.2.1.warm hW, by rw [hU]; exact hP⟩⟩ rfl rfl hl.1 rfl (lv_room (Nat.le_of_ble_eq_true rfl)) dX5_spread_42 ⟨Nat.le_of_ble_eq_true rfl, Nat.le_of_ble_eq_true rfl⟩) ?_
    refine vx_ret ?_
    refine W.widen (k := 2) (n := 12) (Nat.le_of_ble_eq_true rfl) (Nat.le_of_ble_eq_true rfl) ?_
    have ho : o_spread σ (nI k_2) 0 = (0, bcI (tmb σ (σ 1 (7 * k_2 + 3)) (nR σ)), σ) := by simp [o_spread, spr, ok2, ix2, hc_11]
    exact W.iret (v := bcI (tmb σ (σ 1 (7 * k_2 + 3)) (nR σ))) hx hb hr (fun t ht hW => ⟨_, rfl, by rw [ht]; exact ⟨by rw [ho], by rw [ho], σ, ad, by rw [ho]; exact SC.rf, rfl, hP⟩, hS.F ht⟩) (fun z h => hS.2.2 z h) dX5_spread_45
  by_cases e15_1 : w = 1
  · -- case 1
    subst e15_1
    refine lv_lookup (off := 31) (tgt := 46) hx hb dX5_spread_15 (by decide) (by decide) (by decide) ?_
    refine lv_aload_n hx hb dX5_spread_46 rfl (lv_at hl 1 rfl) ?_
    refine lv_iload_n hx hb dX5_spread_47 rfl (lv_at hl 0 rfl) ?_
    refine c_p1 (va_runV (As := [.int (σ 1 (7 * k_2 + 3))]) (rest := []) ⟨hx, hb, hml, hown, hts⟩ (c_X5_greatestDepthInTowns l D ct Z dc σ ad (σ 1 (7 * k_2 + 3))) (cwV 1 hts (GG w_858 w_860 w_33 w_59 w_861) rfl rfl rfl (by decide) ⟨Nat.le_of_ble_eq_true rfl, Nat.le_of_ble_eq_true rfl⟩) ⟨(blindT fun _ _ _ _ h => h), Ob.recv (hG.2.1).1 hP.o0 rfl, fun U hU hW => ⟨rfl, hG.2.1.warm hW, by rw [hU]; exact hP⟩⟩ rfl rfl hl.1 rfl (lv_room (Nat.le_of_ble_eq_true rfl)) dX5_spread_48 ⟨Nat.le_of_ble_eq_true rfl, Nat.le_of_ble_eq_true rfl⟩) ?_
    refine vx_ret ?_
    refine W.widen (k := 2) (n := 12) (Nat.le_of_ble_eq_true rfl) (Nat.le_of_ble_eq_true rfl) ?_
    have ho : o_spread σ (nI k_2) 1 = (0, gdp σ (σ 1 (7 * k_2 + 3)) (nR σ), σ) := by simp [o_spread, spr, ok2, ix2, hc_11]
    exact W.iret (v := gdp σ (σ 1 (7 * k_2 + 3)) (nR σ)) hx hb hr (fun t ht hW => ⟨_, rfl, by rw [ht]; exact ⟨by rw [ho], by rw [ho], σ, ad, by rw [ho]; exact SC.rf, rfl, hP⟩, hS.F ht⟩) (fun z h => hS.2.2 z h) dX5_spread_51
  have e2 := wi_2 hc_11 e15_0 e15_1
  subst e2
  refine lv_lookup (off := 37) (tgt := 52) hx hb dX5_spread_15 (by decide) (by decide) (by decide) ?_
  refine lv_aload_n hx hb dX5_spread_52 rfl (lv_at hl 1 rfl) ?_
  refine lv_iload_n hx hb dX5_spread_53 rfl (lv_at hl 0 rfl) ?_
  refine c_p1 (va_runV (As := [.int (σ 1 (7 * k_2 + 3))]) (rest := []) ⟨hx, hb, hml, hown, hts⟩ (c_X5_notGoneOf l D ct Z dc σ ad (σ 1 (7 * k_2 + 3))) (cwV 1 hts (GG w_862 w_864 w_34 w_59 w_865) rfl rfl rfl (by decide) ⟨Nat.le_of_ble_eq_true rfl, Nat.le_of_ble_eq_true rfl⟩) ⟨(blindT fun _ _ _ _ h => h), Ob.recv (hG.2.1).1 hP.o0 rfl, fun U hU hW => ⟨rfl, hG.2.1.warm hW, by rw [hU]; exact hP⟩⟩ rfl rfl hl.1 rfl (lv_room (Nat.le_of_ble_eq_true rfl)) dX5_spread_54 ⟨Nat.le_of_ble_eq_true rfl, Nat.le_of_ble_eq_true rfl⟩) ?_
  refine vx_ret ?_
  refine W.widen (k := 2) (n := 12) (Nat.le_of_ble_eq_true rfl) (Nat.le_of_ble_eq_true rfl) ?_
  have ho : o_spread σ (nI k_2) 2 = (0, ngS σ (σ 1 (7 * k_2 + 3)), σ) := by simp [o_spread, spr, ok2, ix2, hc_11]
  exact W.iret (v := ngS σ (σ 1 (7 * k_2 + 3))) hx hb hr (fun t ht hW => ⟨_, rfl, by rw [ht]; exact ⟨by rw [ho], by rw [ho], σ, ad, by rw [ho]; exact SC.rf, rfl, hP⟩, hS.F ht⟩) (fun z h => hS.2.2 z h) dX5_spread_57

/-! take -/
set_option maxHeartbeats 4000000 in
set_option maxRecDepth 100000 in
theorem c_X5_take (l : Launch) (D : va_G) (ct : Nat → ClassId) (Z : Nat → Prop) (dc : Nat) (σ : Stt) (ad : Nat → Nat) (hst : l.stackTraces = false) (c r : Int32) (hI : Inv σ) : vx_Met l yX5_take (.code yX5_take cX5_take 5 (some .int) :: GW) ({ frames := 7, cells := 4, slots := 24, locals := 103 } : Room) (va_Pc [.ref (ad 0), .int c, .int r] (fun U => GF D ct Z dc U U.heap ∧ Pic D ct Z dc σ ad U.heap)) (qS1 Z (fun x h => (o_take σ c r).1 = 0 ∧ x = .int (o_take σ c r).2.1 ∧ ∃ (σ1 : Stt) (ad1 : Nat → Nat), SC (o_take σ c r).2.2 σ1 ∧ ad1 0 = ad 0 ∧ Pic D ct Z dc σ1 ad1 h)) (xK (fun E => exn ["java/lang/IndexOutOfBoundsException", "java/lang/IllegalStateException"] (o_take σ c r).1 E)) 4 24 (nZ Z) := by
  refine mx_in (cc := cX5_take) [.ref (ad 0), .int c, .int r] "RumourCustoms" rfl (by decide) (Nat.le_of_ble_eq_true rfl) ?_
  intro pg e s m args below meth cd ls hx hb hml hown hts hr hlocks hnt hPr hl
  obtain ⟨hG, hP⟩ := hPr
  have hl : lv_has ls 5 [(0, .ref (ad 0)), (1, .int c), (2, .int r)] := hl
  have hS : va_S (nZ Z) s.heap s.heap [] := va_S.rf
  have hn := hP.2.2.2.1
  have hnC := hP.2.2.2.2
  have hT1 := hI.1.1
  have hT10 := hI.1.2
  have hR1 := hI.2.1.1
  have hC1 := hI.2.2.1.1
  have hH : ∀ i, i < nR σ → σ 1 (7 * i + 6) = 0 ∨ σ 1 (7 * i + 6) = 1 := fun i hi => (hI.2.2.2.1 i hi).2.2.2.2.2
  refine lv_aload_n hx hb dX5_take_0 rfl (lv_at hl 0 rfl) ?_
  refine lv_iload_n hx hb dX5_take_1 rfl (lv_at hl 1 rfl) ?_
  refine c_x1R (vx_runV (As := [.int c]) (rest := []) ⟨hx, hb, hml, hown, hts⟩ (c_X5_carrierAt l D ct Z dc σ ad hst c hC1) (cwV 1 hts (GG w_652 w_654 w_20 w_59 w_655) rfl rfl rfl (by decide) ⟨Nat.le_of_ble_eq_true rfl, Nat.le_of_ble_eq_true rfl⟩) ⟨(blindF fun _ _ _ _ h => h), Ob.recv (hG.2.1).1 hP.o0 rfl, fun U hU hW => ⟨rfl, hG.up hW hS hU, by rw [hU]; exact hP⟩⟩ rfl rfl hl.1 rfl (lv_room (Nat.le_of_ble_eq_true rfl)) dX5_take_2 ⟨Nat.le_of_ble_eq_true rfl, Nat.le_of_ble_eq_true rfl⟩) hS (fun E ce q9 H1 hp hk hS1 hce hcv hcl => vx_widen (k := 4) (n := 24) (Nat.le_of_ble_eq_true rfl) (Nat.le_of_ble_eq_true rfl) (vx_out (fun x h => (hnt x h).elim) hlocks hce hcv hcl (fun t ht _ => ⟨(by obtain ⟨rfl, hf⟩ := hp; rw [show o_take σ c r = (1, 0, σ) from by simp [o_take, hf]]; exact ⟨Nat.le_of_ble_eq_true rfl, rfl⟩), by rw [ht]; exact hk⟩) (fun z hz => nomatch hz) (Nat.le_refl _) (Nat.le_refl _))) (fun x hc_2 => ?_)
  obtain ⟨k_2, hk_2, hv_2, rfl⟩ := hc_2
  subst hv_2
  have ok2 : cOK σ (nI k_2) = true := okC2 hC1 (by omega) hk_2
  have ix2 : ix (nI k_2) = k_2 := ix_n (by omega)
  refine lv_astore_n (lv' := [(3, .ref (ad (200 + k_2))), (0, .ref (ad 0)), (1, .int (nI k_2)), (2, .int r)]) hx hb dX5_take_5 rfl hl (by decide) rfl (fun ls hl => ?_)
  refine lv_aload_n hx hb dX5_take_6 rfl (lv_at hl 1 rfl) ?_
  refine lv_iload_n hx hb dX5_take_7 rfl (lv_at hl 3 rfl) ?_
  refine c_x1R (vx_runV (As := [.int r]) (rest := []) ⟨hx, hb, hml, hown, hts⟩ (c_X5_rumourAt l D ct Z dc σ ad hst r hR1) (cwV 1 hts (GG w_565 w_567 w_14 w_59 w_568) rfl rfl rfl (by decide) ⟨Nat.le_of_ble_eq_true rfl, Nat.le_of_ble_eq_true rfl⟩) ⟨(blindF fun _ _ _ _ h => h), Ob.recv (hG.2.1).1 hP.o0 rfl, fun U hU hW => ⟨rfl, hG.up hW hS hU, by rw [hU]; exact hP⟩⟩ rfl rfl hl.1 rfl (lv_room (Nat.le_of_ble_eq_true rfl)) dX5_take_8 ⟨Nat.le_of_ble_eq_true rfl, Nat.le_of_ble_eq_true rfl⟩) hS (fun E ce q9 H1 hp hk hS1 hce hcv hcl => vx_widen (k := 4) (n := 24) (Nat.le_of_ble_eq_true rfl) (Nat.le_of_ble_eq_true rfl) (vx_out (fun x h => (hnt x h).elim) hlocks hce hcv hcl (fun t ht _ => ⟨(by obtain ⟨rfl, hf⟩ := hp; rw [show o_take σ (nI k_2) r = (1, 0, σ) from by simp [o_take, ok2, ix2, hf]]; exact ⟨Nat.le_of_ble_eq_true rfl, rfl⟩), by rw [ht]; exact hk⟩) (fun z hz => nomatch hz) (Nat.le_refl _) (Nat.le_refl _))) (fun x hc_8 => ?_)
  obtain ⟨k_8, hk_8, hv_8, rfl⟩ := hc_8
  subst hv_8
  have ok8 : rOK σ (nI k_8) = true := okR2 hR1 (by omega) hk_8
  have ix8 : ix (nI k_8) = k_8 := ix_n (by omega)
  refine lv_astore (lv' := [(4, .ref (ad (100 + k_8))), (3, .ref (ad (200 + k_2))), (0, .ref (ad 0)), (1, .int (nI k_2)), (2, .int (nI k_8))]) hx hb dX5_take_11 hl (by decide) rfl (fun ls hl => ?_)
  refine lv_aload_n hx hb dX5_take_13 rfl (lv_at hl 1 rfl) ?_
  refine c_x0C (vx_runS (As := [.ref (ad (200 + k_2))]) (rest := []) ⟨hx, hb, hml, hown, hts⟩ (c_X5_requireInTown l D ct Z dc σ ad hst k_2 hk_2) (k_cwS 1 hts w_657 w_658 w_59 w_659 rfl rfl (by decide) ⟨Nat.le_of_ble_eq_true rfl, Nat.le_of_ble_eq_true rfl⟩) ⟨(blindF fun _ _ _ _ h => h), fun U hU hW => ⟨rfl, hG.up hW hS hU, by rw [hU]; exact hP⟩⟩ rfl rfl hl.1 rfl (lv_room (Nat.le_of_ble_eq_true rfl)) dX5_take_14 ⟨Nat.le_of_ble_eq_true rfl, Nat.le_of_ble_eq_true rfl⟩) hS (fun E ce q9 H1 hp hk hS1 hce hcv hcl => vx_widen (k := 4) (n := 24) (Nat.le_of_ble_eq_true rfl) (Nat.le_of_ble_eq_true rfl) (vx_out (fun x h => (hnt x h).elim) hlocks hce hcv hcl (fun t ht _ => ⟨(by obtain ⟨rfl, hf⟩ := hp; rw [show o_take σ (nI k_2) (nI k_8) = (2, 0, σ) from by simp [o_take, ok2, ix2, ok8, ix8, hf]]; exact ⟨Nat.le_of_ble_eq_true rfl, rfl⟩), by rw [ht]; exact hk⟩) (fun z hz => nomatch hz) (Nat.le_refl _) (Nat.le_refl _))) (fun hc_14 => ?_)
  refine lv_aload hx hb dX5_take_17 (lv_at hl 0 rfl) ?_
  refine k_get (C := RX3) (T := TX3) (N := 8) hx hb hts inGX3 hown (hG.2.1).1 (hP.r hk_8) rfl 5 (by decide) (hts _ w_479) (fun _ h9 => h9) (v := .int (σ 1 (7 * k_8 + 4))) rfl dX5_take_19 ?_
  refine lv_aload_n hx hb dX5_take_22 rfl (lv_at hl 1 rfl) ?_
  refine k_get (C := RX0) (T := TX0) (N := 5) hx hb hts inGX0 hown (hG.2.1).1 (hP.c hk_2) rfl 1 (by decide) (hts _ w_627) (fun _ h9 => h9) (v := .int (σ 2 (4 * k_2))) rfl dX5_take_23 ?_
  refine lv_icmp_eq (tgt := 39) hx hb dX5_take_26 (by decide) (fun c_26 => ?_) (fun c_26 => ?_)
  · -- taken
    refine lv_aload_n hx hb dX5_take_39 rfl (lv_at hl 2 rfl) ?_
    refine lv_aload_n hx hb dX5_take_40 rfl (lv_at hl 1 rfl) ?_
    refine c_p1 (va_runV (As := [.ref (ad (200 + k_2))]) (rest := []) ⟨hx, hb, hml, hown, hts⟩ (c_X5_inBag l D ct Z dc σ ad k_2 hk_2) (cwV 1 hts (GG w_265 w_267 w_7 w_59 w_268) rfl rfl rfl (by decide) ⟨Nat.le_of_ble_eq_true rfl, Nat.le_of_ble_eq_true rfl⟩) ⟨(blindT fun _ _ _ _ h => h), Ob.recv (hG.2.1).1 hP.o0 rfl, fun U hU hW => ⟨rfl, hG.2.1.warm hW, by rw [hU]; exact hP⟩⟩ rfl rfl hl.1 rfl (lv_room (Nat.le_of_ble_eq_true rfl)) dX5_take_41 ⟨Nat.le_of_ble_eq_true rfl, Nat.le_of_ble_eq_true rfl⟩) ?_
    refine lv_bipush (v := 6) hx hb dX5_take_44 (by decide) ?_
    refine lv_icmp_lt (tgt := 59) hx hb dX5_take_46 (by decide) (fun c_46 => ?_) (fun c_46 => ?_)
    · -- taken
      refine lv_aload hx hb dX5_take_59 (lv_at hl 0 rfl) ?_
      refine lv_aload_n hx hb dX5_take_61 rfl (lv_at hl 1 rfl) ?_
      refine c_w0 (va_runV (As := [.ref (ad (200 + k_2))]) (rest := []) ⟨hx, hb, hml, hown, hts⟩ (c_X3_putIntoBag l D ct (ad (100 + k_8)) (nI k_8) (σ 1 (7 * k_8 + 3)) (σ 1 (7 * k_8)) (σ 1 (7 * k_8 + 1)) (σ 1 (7 * k_8 + 2)) (σ 1 (7 * k_8 + 4)) (σ 1 (7 * k_8 + 5)) (σ 1 (7 * k_8 + 6)) (ad (200 + k_2)) (nI k_2) (σ 2 (4 * k_2)) (σ 2 (4 * k_2 + 1)) (σ 2 (4 * k_2 + 2)) (σ 2 (4 * k_2 + 3))) (cwV 1 hts (GG w_663 w_664 w_665 w_75 w_666) rfl rfl rfl (by decide) ⟨Nat.le_of_ble_eq_true rfl, Nat.le_of_ble_eq_true rfl⟩) ⟨(blindT fun _ _ _ _ h => h), Ob.recv (hG.2.1).1 (hP.r hk_8) rfl, fun U hU hW => ⟨rfl, hG.2.1.warm hW, by rw [hU]; exact ⟨(hP.r hk_8), (hP.c hk_2)⟩⟩⟩ rfl rfl hl.1 rfl (lv_room (Nat.le_of_ble_eq_true rfl)) dX5_take_62 ⟨Nat.le_of_ble_eq_true rfl, Nat.le_of_ble_eq_true rfl⟩) hS (hP.nz (us_r hP.2.2.2.1 hk_8)) (fun _ h => Ob.lt h) (fun H62 locs62 hO62 hq62 hS62 => ?_)
      have hP62 : Pic D ct Z dc (lay σ k_8 (-1) (nI k_2)) ad H62 := hP.layd hk_8 (-1) (nI k_2) hO62 hq62
      obtain ⟨τ62, hτ62⟩ : ∃ τ : Stt, τ = lay σ k_8 (-1) (nI k_2) := ⟨_, rfl⟩
      rw [← hτ62] at hP62
      have er62 : nR τ62 = nR σ := by rw [hτ62]; exact lay_nR
      have ec62 : nC τ62 = nC σ := by rw [hτ62]; exact lay_nC
      have hp62_k_2 : k_2 < nC τ62 := Nat.lt_of_lt_of_eq hk_2 ec62.symm
      have hp62_k_8 : k_8 < nR τ62 := Nat.lt_of_lt_of_eq hk_8 er62.symm
      refine lv_aload_n hx hb dX5_take_65 rfl (lv_at hl 2 rfl) ?_
      refine lv_aload_n hx hb dX5_take_66 rfl (lv_at hl 1 rfl) ?_
      refine c_p1 (va_runV (As := [.ref (ad (200 + k_2))]) (rest := []) ⟨hx, hb, hml, hown, hts⟩ (c_X5_inBag l D ct Z dc τ62 ad k_2 hp62_k_2) (cwV 1 hts (GG w_265 w_267 w_7 w_59 w_268) rfl rfl rfl (by decide) ⟨Nat.le_of_ble_eq_true rfl, Nat.le_of_ble_eq_true rfl⟩) ⟨(blindT fun _ _ _ _ h => h), Ob.recv (hG.2.1).1 hP62.o0 rfl, fun U hU hW => ⟨rfl, hG.2.1.warm hW, by rw [hU]; exact hP62⟩⟩ rfl rfl hl.1 rfl (lv_room (Nat.le_of_ble_eq_true rfl)) dX5_take_67 ⟨Nat.le_of_ble_eq_true rfl, Nat.le_of_ble_eq_true rfl⟩) ?_
      refine vx_ret ?_
      refine W.widen (k := 4) (n := 24) (Nat.le_of_ble_eq_true rfl) (Nat.le_of_ble_eq_true rfl) ?_
      have ho : o_take σ (nI k_2) (nI k_8) = (0, inB τ62 (nI k_2), lay σ k_8 (-1) (nI k_2)) := by simp [o_take, ok2, ix2, ok8, ix8, hc_14, c_26, c_46, hτ62]
      exact W.iret (v := inB τ62 (nI k_2)) hx hb hr (fun t ht hW => ⟨_, rfl, by rw [ht]; exact ⟨by rw [ho], by rw [ho], τ62, ad, by rw [ho]; exact (by rw [hτ62]; exact SC.rf), rfl, hP62⟩, hS62.F ht⟩) (fun z h => hS62.2.2 z h) dX5_take_70
    · -- not taken
      obtain ⟨sa, hsa⟩ := hG.2.1.2.1 (152, "6 rumours are in the bag") (by simp [strs])
      exact vx_throwS (names := nm2) hx hb hst hown fitS fitn (hts _ w_290) (hts _ w_69) hsa (hatS hts hG.2.1) hgoS hG.2.2.1 hG.2.2.2.1 hS (hl.1.trans hml.symm) dX5_take_49 dX5_take_52 dX5_take_53 dX5_take_55 dX5_take_58 (fun x h => (hnt x h).elim) (Nat.le_of_ble_eq_true rfl) (Nat.le_of_ble_eq_true rfl) (Nat.le_of_ble_eq_true rfl) (Nat.le_of_ble_eq_true rfl) hlocks (fun t _ h1 h2 => ⟨(by rw [show o_take σ (nI k_2) (nI k_8) = (2, 0, σ) from by simp [o_take, ok2, ix2, ok8, ix8, hc_14, c_26, c_46]]; exact ⟨Nat.le_of_ble_eq_true rfl, rfl⟩), h1, h2⟩) (fun z hz => nomatch hz) (Nat.le_of_ble_eq_true rfl) (Nat.le_of_ble_eq_true rfl)
  · -- not taken
    obtain ⟨sa, hsa⟩ := hG.2.1.2.1 (146, "the rumour is not in the same town") (by simp [strs])
    exact vx_throwS (names := nm2) hx hb hst hown fitS fitn (hts _ w_290) (hts _ w_69) hsa (hatS hts hG.2.1) hgoS hG.2.2.1 hG.2.2.2.1 hS (hl.1.trans hml.symm) dX5_take_29 dX5_take_32 dX5_take_33 dX5_take_35 dX5_take_38 (fun x h => (hnt x h).elim) (Nat.le_of_ble_eq_true rfl) (Nat.le_of_ble_eq_true rfl) (Nat.le_of_ble_eq_true rfl) (Nat.le_of_ble_eq_true rfl) hlocks (fun t _ h1 h2 => ⟨(by rw [show o_take σ (nI k_2) (nI k_8) = (2, 0, σ) from by simp [o_take, ok2, ix2, ok8, ix8, hc_14, c_26]]; exact ⟨Nat.le_of_ble_eq_true rfl, rfl⟩), h1, h2⟩) (fun z hz => nomatch hz) (Nat.le_of_ble_eq_true rfl) (Nat.le_of_ble_eq_true rfl)

/-! leave -/
set_option maxHeartbeats 4000000 in
set_option maxRecDepth 100000 in
theorem c_X5_leave (l : Launch) (D : va_G) (ct : Nat → ClassId) (Z : Nat → Prop) (dc : Nat) (σ : Stt) (ad : Nat → Nat) (hst : l.stackTraces = false) (c r : Int32) (hI : Inv σ) : vx_Met l yX5_leave (.code yX5_leave cX5_leave 5 (some .int) :: GW) ({ frames := 7, cells := 4, slots := 24, locals := 103 } : Room) (va_Pc [.ref (ad 0), .int c, .int r] (fun U => GF D ct Z dc U U.heap ∧ Pic D ct Z dc σ ad U.heap)) (qS1 Z (fun x h => (o_leave σ c r).1 = 0 ∧ x = .int (o_leave σ c r).2.1 ∧ ∃ (σ1 : Stt) (ad1 : Nat → Nat), SC (o_leave σ c r).2.2 σ1 ∧ ad1 0 = ad 0 ∧ Pic D ct Z dc σ1 ad1 h)) (xK (fun E => exn ["java/lang/IndexOutOfBoundsException", "java/lang/IllegalStateException"] (o_leave σ c r).1 E)) 4 24 (nZ Z) := by
  refine mx_in (cc := cX5_leave) [.ref (ad 0), .int c, .int r] "RumourCustoms" rfl (by decide) (Nat.le_of_ble_eq_true rfl) ?_
  intro pg e s m args below meth cd ls hx hb hml hown hts hr hlocks hnt hPr hl
  obtain ⟨hG, hP⟩ := hPr
  have hl : lv_has ls 5 [(0, .ref (ad 0)), (1, .int c), (2, .int r)] := hl
  have hS : va_S (nZ Z) s.heap s.heap [] := va_S.rf
  have hn := hP.2.2.2.1
  have hnC := hP.2.2.2.2
  have hT1 := hI.1.1
  have hT10 := hI.1.2
  have hR1 := hI.2.1.1
  have hC1 := hI.2.2.1.1
  have hH : ∀ i, i < nR σ → σ 1 (7 * i + 6) = 0 ∨ σ 1 (7 * i + 6) = 1 := fun i hi => (hI.2.2.2.1 i hi).2.2.2.2.2
  refine lv_aload_n hx hb dX5_leave_0 rfl (lv_at hl 0 rfl) ?_
  refine lv_iload_n hx hb dX5_leave_1 rfl (lv_at hl 1 rfl) ?_
  refine c_x1R (vx_runV (As := [.int c]) (rest := []) ⟨hx, hb, hml, hown, hts⟩ (c_X5_carrierAt l D ct Z dc σ ad hst c hC1) (cwV 1 hts (GG w_652 w_654 w_20 w_59 w_655) rfl rfl rfl (by decide) ⟨Nat.le_of_ble_eq_true rfl, Nat.le_of_ble_eq_true rfl⟩) ⟨(blindF fun _ _ _ _ h => h), Ob.recv (hG.2.1).1 hP.o0 rfl, fun U hU hW => ⟨rfl, hG.up hW hS hU, by rw [hU]; exact hP⟩⟩ rfl rfl hl.1 rfl (lv_room (Nat.le_of_ble_eq_true rfl)) dX5_leave_2 ⟨Nat.le_of_ble_eq_true rfl, Nat.le_of_ble_eq_true rfl⟩) hS (fun E ce q9 H1 hp hk hS1 hce hcv hcl => vx_widen (k := 4) (n := 24) (Nat.le_of_ble_eq_true rfl) (Nat.le_of_ble_eq_true rfl) (vx_out (fun x h => (hnt x h).elim) hlocks hce hcv hcl (fun t ht _ => ⟨(by obtain ⟨rfl, hf⟩ := hp; rw [show o_leave σ c r = (1, 0, σ) from by simp [o_leave, hf]]; exact ⟨Nat.le_of_ble_eq_true rfl, rfl⟩), by rw [ht]; exact hk⟩) (fun z hz => nomatch hz) (Nat.le_refl _) (Nat.le_refl _))) (fun x hc_2 => ?_)
  obtain ⟨k_2, hk_2, hv_2, rfl⟩ := hc_2
  subst hv_2
  have ok2 : cOK σ (nI k_2) = true := okC2 hC1 (by omega) hk_2
  have ix2 : ix (nI k_2) = k_2 := ix_n (by omega)
  refine lv_astore_n (lv' := [(3, .ref (ad (200 + k_2))), (0, .ref (ad 0)), (1, .int (nI k_2)), (2, .int r)]) hx hb dX5_leave_5 rfl hl (by decide) rfl (fun ls hl => ?_)
  refine lv_aload_n hx hb dX5_leave_6 rfl (lv_at hl 1 rfl) ?_
  refine lv_iload_n hx hb dX5_leave_7 rfl (lv_at hl 3 rfl) ?_
  refine c_x1R (vx_runV (As := [.int r]) (rest := []) ⟨hx, hb, hml, hown, hts⟩ (c_X5_rumourAt l D ct Z dc σ ad hst r hR1) (cwV 1 hts (GG w_565 w_567 w_14 w_59 w_568) rfl rfl rfl (by decide) ⟨Nat.le_of_ble_eq_true rfl, Nat.le_of_ble_eq_true rfl⟩) ⟨(blindF fun _ _ _ _ h => h), Ob.recv (hG.2.1).1 hP.o0 rfl, fun U hU hW => ⟨rfl, hG.up hW hS hU, by rw [hU]; exact hP⟩⟩ rfl rfl hl.1 rfl (lv_room (Nat.le_of_ble_eq_true rfl)) dX5_leave_8 ⟨Nat.le_of_ble_eq_true rfl, Nat.le_of_ble_eq_true rfl⟩) hS (fun E ce q9 H1 hp hk hS1 hce hcv hcl => vx_widen (k := 4) (n := 24) (Nat.le_of_ble_eq_true rfl) (Nat.le_of_ble_eq_true rfl) (vx_out (fun x h => (hnt x h).elim) hlocks hce hcv hcl (fun t ht _ => ⟨(by obtain ⟨rfl, hf⟩ := hp; rw [show o_leave σ (nI k_2) r = (1, 0, σ) from by simp [o_leave, ok2, ix2, hf]]; exact ⟨Nat.le_of_ble_eq_true rfl, rfl⟩), by rw [ht]; exact hk⟩) (fun z hz => nomatch hz) (Nat.le_refl _) (Nat.le_refl _))) (fun x hc_8 => ?_)
  obtain ⟨k_8, hk_8, hv_8, rfl⟩ := hc_8
  subst hv_8
  have ok8 : rOK σ (nI k_8) = true := okR2 hR1 (by omega) hk_8
  have ix8 : ix (nI k_8) = k_8 := ix_n (by omega)
  refine lv_astore (lv' := [(4, .ref (ad (100 + k_8))), (3, .ref (ad (200 + k_2))), (0, .ref (ad 0)), (1, .int (nI k_2)), (2, .int (nI k_8))]) hx hb dX5_leave_11 hl (by decide) rfl (fun ls hl => ?_)
  refine lv_aload_n hx hb dX5_leave_13 rfl (lv_at hl 1 rfl) ?_
  refine c_x0C (vx_runS (As := [.ref (ad (200 + k_2))]) (rest := []) ⟨hx, hb, hml, hown, hts⟩ (c_X5_requireInTown l D ct Z dc σ ad hst k_2 hk_2) (k_cwS 1 hts w_657 w_658 w_59 w_659 rfl rfl (by decide) ⟨Nat.le_of_ble_eq_true rfl, Nat.le_of_ble_eq_true rfl⟩) ⟨(blindF fun _ _ _ _ h => h), fun U hU hW => ⟨rfl, hG.up hW hS hU, by rw [hU]; exact hP⟩⟩ rfl rfl hl.1 rfl (lv_room (Nat.le_of_ble_eq_true rfl)) dX5_leave_14 ⟨Nat.le_of_ble_eq_true rfl, Nat.le_of_ble_eq_true rfl⟩) hS (fun E ce q9 H1 hp hk hS1 hce hcv hcl => vx_widen (k := 4) (n := 24) (Nat.le_of_ble_eq_true rfl) (Nat.le_of_ble_eq_true rfl) (vx_out (fun x h => (hnt x h).elim) hlocks hce hcv hcl (fun t ht _ => ⟨(by obtain ⟨rfl, hf⟩ := hp; rw [show o_leave σ (nI k_2) (nI k_8) = (2, 0, σ) from by simp [o_leave, ok2, ix2, ok8, ix8, hf]]; exact ⟨Nat.le_of_ble_eq_true rfl, rfl⟩), by rw [ht]; exact hk⟩) (fun z hz => nomatch hz) (Nat.le_refl _) (Nat.le_refl _))) (fun hc_14 => ?_)
  refine lv_aload_n hx hb dX5_leave_17 rfl (lv_at hl 1 rfl) ?_
  refine lv_aload hx hb dX5_leave_18 (lv_at hl 0 rfl) ?_
  refine c_x0C (vx_runS (As := [.ref (ad (200 + k_2)), .ref (ad (100 + k_8))]) (rest := []) ⟨hx, hb, hml, hown, hts⟩ (c_X5_requireHas l D ct Z dc σ ad hst k_2 k_8 hk_2 hk_8) (k_cwS 2 hts w_678 w_679 w_59 w_680 rfl rfl (by decide) ⟨Nat.le_of_ble_eq_true rfl, Nat.le_of_ble_eq_true rfl⟩) ⟨(blindF fun _ _ _ _ h => h), fun U hU hW => ⟨rfl, hG.up hW hS hU, by rw [hU]; exact hP⟩⟩ rfl rfl hl.1 rfl (lv_room (Nat.le_of_ble_eq_true rfl)) dX5_leave_20 ⟨Nat.le_of_ble_eq_true rfl, Nat.le_of_ble_eq_true rfl⟩) hS (fun E ce q9 H1 hp hk hS1 hce hcv hcl => vx_widen (k := 4) (n := 24) (Nat.le_of_ble_eq_true rfl) (Nat.le_of_ble_eq_true rfl) (vx_out (fun x h => (hnt x h).elim) hlocks hce hcv hcl (fun t ht _ => ⟨(by obtain ⟨rfl, hf⟩ := hp; rw [show o_leave σ (nI k_2) (nI k_8) = (2, 0, σ) from by simp [o_leave, ok2, ix2, ok8, ix8, hc_14, hf]]; exact ⟨Nat.le_of_ble_eq_true rfl, rfl⟩), by rw [ht]; exact hk⟩) (fun z hz => nomatch hz) (Nat.le_refl _) (Nat.le_refl _))) (fun hc_20 => ?_)
  refine lv_aload hx hb dX5_leave_23 (lv_at hl 0 rfl) ?_
  refine lv_aload_n hx hb dX5_leave_25 rfl (lv_at hl 1 rfl) ?_
  refine k_get (C := RX0) (T := TX0) (N := 5) hx hb hts inGX0 hown (hG.2.1).1 (hP.c hk_2) rfl 1 (by decide) (hts _ w_627) (fun _ h9 => h9) (v := .int (σ 2 (4 * k_2))) rfl dX5_leave_26 ?_
  refine c_w0 (va_runV (As := [.int (σ 2 (4 * k_2))]) (rest := []) ⟨hx, hb, hml, hown, hts⟩ (c_X3_putIntoTown l D ct (ad (100 + k_8)) (nI k_8) (σ 1 (7 * k_8 + 3)) (σ 1 (7 * k_8)) (σ 1 (7 * k_8 + 1)) (σ 1 (7 * k_8 + 2)) (σ 1 (7 * k_8 + 4)) (σ 1 (7 * k_8 + 5)) (σ 1 (7 * k_8 + 6)) (σ 2 (4 * k_2))) (cwV 1 hts (GG w_682 w_683 w_684 w_75 w_685) rfl rfl rfl (by decide) ⟨Nat.le_of_ble_eq_true rfl, Nat.le_of_ble_eq_true rfl⟩) ⟨(blindT fun _ _ _ _ h => h), Ob.recv (hG.2.1).1 (hP.r hk_8) rfl, fun U hU hW => ⟨rfl, hG.2.1.warm hW, by rw [hU]; exact (hP.r hk_8)⟩⟩ rfl rfl hl.1 rfl (lv_room (Nat.le_of_ble_eq_true rfl)) dX5_leave_29 ⟨Nat.le_of_ble_eq_true rfl, Nat.le_of_ble_eq_true rfl⟩) hS (hP.nz (us_r hP.2.2.2.1 hk_8)) (fun _ h => Ob.lt h) (fun H29 locs29 hO29 hq29 hS29 => ?_)
  have hP29 : Pic D ct Z dc (lay σ k_8 (σ 2 (4 * k_2)) (-1)) ad H29 := hP.layd hk_8 (σ 2 (4 * k_2)) (-1) hO29 hq29
  obtain ⟨τ29, hτ29⟩ : ∃ τ : Stt, τ = lay σ k_8 (σ 2 (4 * k_2)) (-1) := ⟨_, rfl⟩
  rw [← hτ29] at hP29
  have er29 : nR τ29 = nR σ := by rw [hτ29]; exact lay_nR
  have ec29 : nC τ29 = nC σ := by rw [hτ29]; exact lay_nC
  have hp29_k_2 : k_2 < nC τ29 := Nat.lt_of_lt_of_eq hk_2 ec29.symm
  have hp29_k_8 : k_8 < nR τ29 := Nat.lt_of_lt_of_eq hk_8 er29.symm
  refine lv_aload_n hx hb dX5_leave_32 rfl (lv_at hl 2 rfl) ?_
  refine lv_aload_n hx hb dX5_leave_33 rfl (lv_at hl 1 rfl) ?_
  refine c_p1 (va_runV (As := [.ref (ad (200 + k_2))]) (rest := []) ⟨hx, hb, hml, hown, hts⟩ (c_X5_inBag l D ct Z dc τ29 ad k_2 hp29_k_2) (cwV 1 hts (GG w_265 w_267 w_7 w_59 w_268) rfl rfl rfl (by decide) ⟨Nat.le_of_ble_eq_true rfl, Nat.le_of_ble_eq_true rfl⟩) ⟨(blindT fun _ _ _ _ h => h), Ob.recv (hG.2.1).1 hP29.o0 rfl, fun U hU hW => ⟨rfl, hG.2.1.warm hW, by rw [hU]; exact hP29⟩⟩ rfl rfl hl.1 rfl (lv_room (Nat.le_of_ble_eq_true rfl)) dX5_leave_34 ⟨Nat.le_of_ble_eq_true rfl, Nat.le_of_ble_eq_true rfl⟩) ?_
  refine vx_ret ?_
  refine W.widen (k := 4) (n := 24) (Nat.le_of_ble_eq_true rfl) (Nat.le_of_ble_eq_true rfl) ?_
  have ho : o_leave σ (nI k_2) (nI k_8) = (0, inB τ29 (nI k_2), lay σ k_8 (σ 2 (4 * k_2)) (-1)) := by simp [o_leave, ok2, ix2, ok8, ix8, hc_14, hc_20, hτ29]
  exact W.iret (v := inB τ29 (nI k_2)) hx hb hr (fun t ht hW => ⟨_, rfl, by rw [ht]; exact ⟨by rw [ho], by rw [ho], τ29, ad, by rw [ho]; exact (by rw [hτ29]; exact SC.rf), rfl, hP29⟩, hS29.F ht⟩) (fun z h => hS29.2.2 z h) dX5_leave_37

/-! hide -/
set_option maxHeartbeats 4000000 in
set_option maxRecDepth 100000 in
theorem c_X5_hide (l : Launch) (D : va_G) (ct : Nat → ClassId) (Z : Nat → Prop) (dc : Nat) (σ : Stt) (ad : Nat → Nat) (hst : l.stackTraces = false) (c r b : Int32) (hb01 : b = 0 ∨ b = 1) (hI : Inv σ) : vx_Met l yX5_hide (.code yX5_hide cX5_hide 6 (some .int) :: GW) ({ frames := 7, cells := 3, slots := 18, locals := 103 } : Room) (va_Pc [.ref (ad 0), .int c, .int r, .int b] (fun U => GF D ct Z dc U U.heap ∧ Pic D ct Z dc σ ad U.heap)) (qS1 Z (fun x h => (o_hide σ c r b).1 = 0 ∧ x = .int (o_hide σ c r b).2.1 ∧ ∃ (σ1 : Stt) (ad1 : Nat → Nat), SC (o_hide σ c r b).2.2 σ1 ∧ ad1 0 = ad 0 ∧ Pic D ct Z dc σ1 ad1 h)) (xK (fun E => exn ["java/lang/IndexOutOfBoundsException", "java/lang/IllegalStateException"] (o_hide σ c r b).1 E)) 3 18 (nZ Z) := by
  refine mx_in (cc := cX5_hide) [.ref (ad 0), .int c, .int r, .int b] "RumourCustoms" rfl (by decide) (Nat.le_of_ble_eq_true rfl) ?_
  intro pg e s m args below meth cd ls hx hb hml hown hts hr hlocks hnt hPr hl
  obtain ⟨hG, hP⟩ := hPr
  have hl : lv_has ls 6 [(0, .ref (ad 0)), (1, .int c), (2, .int r), (3, .int b)] := hl
  have hS : va_S (nZ Z) s.heap s.heap [] := va_S.rf
  have hn := hP.2.2.2.1
  have hnC := hP.2.2.2.2
  have hT1 := hI.1.1
  have hT10 := hI.1.2
  have hR1 := hI.2.1.1
  have hC1 := hI.2.2.1.1
  have hH : ∀ i, i < nR σ → σ 1 (7 * i + 6) = 0 ∨ σ 1 (7 * i + 6) = 1 := fun i hi => (hI.2.2.2.1 i hi).2.2.2.2.2
  refine lv_aload_n hx hb dX5_hide_0 rfl (lv_at hl 0 rfl) ?_
  refine lv_iload_n hx hb dX5_hide_1 rfl (lv_at hl 1 rfl) ?_
  refine c_x1R (vx_runV (As := [.int c]) (rest := []) ⟨hx, hb, hml, hown, hts⟩ (c_X5_carrierAt l D ct Z dc σ ad hst c hC1) (cwV 1 hts (GG w_652 w_654 w_20 w_59 w_655) rfl rfl rfl (by decide) ⟨Nat.le_of_ble_eq_true rfl, Nat.le_of_ble_eq_true rfl⟩) ⟨(blindF fun _ _ _ _ h => h), Ob.recv (hG.2.1).1 hP.o0 rfl, fun U hU hW => ⟨rfl, hG.up hW hS hU, by rw [hU]; exact hP⟩⟩ rfl rfl hl.1 rfl (lv_room (Nat.le_of_ble_eq_true rfl)) dX5_hide_2 ⟨Nat.le_of_ble_eq_true rfl, Nat.le_of_ble_eq_true rfl⟩) hS (fun E ce q9 H1 hp hk hS1 hce hcv hcl => vx_widen (k := 3) (n := 18) (Nat.le_of_ble_eq_true rfl) (Nat.le_of_ble_eq_true rfl) (vx_out (fun x h => (hnt x h).elim) hlocks hce hcv hcl (fun t ht _ => ⟨(by obtain ⟨rfl, hf⟩ := hp; rw [show o_hide σ c r b = (1, 0, σ) from by simp [o_hide, hf]]; exact ⟨Nat.le_of_ble_eq_true rfl, rfl⟩), by rw [ht]; exact hk⟩) (fun z hz => nomatch hz) (Nat.le_refl _) (Nat.le_refl _))) (fun x hc_2 => ?_)
  obtain ⟨k_2, hk_2, hv_2, rfl⟩ := hc_2
  subst hv_2
  have ok2 : cOK σ (nI k_2) = true := okC2 hC1 (by omega) hk_2
  have ix2 : ix (nI k_2) = k_2 := ix_n (by omega)
  refine lv_astore (lv' := [(4, .ref (ad (200 + k_2))), (0, .ref (ad 0)), (1, .int (nI k_2)), (2, .int r), (3, .int b)]) hx hb dX5_hide_5 hl (by decide) rfl (fun ls hl => ?_)
  refine lv_aload_n hx hb dX5_hide_7 rfl (lv_at hl 1 rfl) ?_
  refine lv_iload_n hx hb dX5_hide_8 rfl (lv_at hl 3 rfl) ?_
  refine c_x1R (vx_runV (As := [.int r]) (rest := []) ⟨hx, hb, hml, hown, hts⟩ (c_X5_rumourAt l D ct Z dc σ ad hst r hR1) (cwV 1 hts (GG w_565 w_567 w_14 w_59 w_568) rfl rfl rfl (by decide) ⟨Nat.le_of_ble_eq_true rfl, Nat.le_of_ble_eq_true rfl⟩) ⟨(blindF fun _ _ _ _ h => h), Ob.recv (hG.2.1).1 hP.o0 rfl, fun U hU hW => ⟨rfl, hG.up hW hS hU, by rw [hU]; exact hP⟩⟩ rfl rfl hl.1 rfl (lv_room (Nat.le_of_ble_eq_true rfl)) dX5_hide_9 ⟨Nat.le_of_ble_eq_true rfl, Nat.le_of_ble_eq_true rfl⟩) hS (fun E ce q9 H1 hp hk hS1 hce hcv hcl => vx_widen (k := 3) (n := 18) (Nat.le_of_ble_eq_true rfl) (Nat.le_of_ble_eq_true rfl) (vx_out (fun x h => (hnt x h).elim) hlocks hce hcv hcl (fun t ht _ => ⟨(by obtain ⟨rfl, hf⟩ := hp; rw [show o_hide σ (nI k_2) r b = (1, 0, σ) from by simp [o_hide, ok2, ix2, hf]]; exact ⟨Nat.le_of_ble_eq_true rfl, rfl⟩), by rw [ht]; exact hk⟩) (fun z hz => nomatch hz) (Nat.le_refl _) (Nat.le_refl _))) (fun x hc_9 => ?_)
  obtain ⟨k_9, hk_9, hv_9, rfl⟩ := hc_9
  subst hv_9
  have ok9 : rOK σ (nI k_9) = true := okR2 hR1 (by omega) hk_9
  have ix9 : ix (nI k_9) = k_9 := ix_n (by omega)
  refine lv_astore (lv' := [(5, .ref (ad (100 + k_9))), (4, .ref (ad (200 + k_2))), (0, .ref (ad 0)), (1, .int (nI k_2)), (2, .int (nI k_9)), (3, .int b)]) hx hb dX5_hide_12 hl (by decide) rfl (fun ls hl => ?_)
  refine lv_aload hx hb dX5_hide_14 (lv_at hl 1 rfl) ?_
  refine lv_aload hx hb dX5_hide_16 (lv_at hl 0 rfl) ?_
  refine c_x0C (vx_runS (As := [.ref (ad (200 + k_2)), .ref (ad (100 + k_9))]) (rest := []) ⟨hx, hb, hml, hown, hts⟩ (c_X5_requireHas l D ct Z dc σ ad hst k_2 k_9 hk_2 hk_9) (k_cwS 2 hts w_678 w_679 w_59 w_680 rfl rfl (by decide) ⟨Nat.le_of_ble_eq_true rfl, Nat.le_of_ble_eq_true rfl⟩) ⟨(blindF fun _ _ _ _ h => h), fun U hU hW => ⟨rfl, hG.up hW hS hU, by rw [hU]; exact hP⟩⟩ rfl rfl hl.1 rfl (lv_room (Nat.le_of_ble_eq_true rfl)) dX5_hide_18 ⟨Nat.le_of_ble_eq_true rfl, Nat.le_of_ble_eq_true rfl⟩) hS (fun E ce q9 H1 hp hk hS1 hce hcv hcl => vx_widen (k := 3) (n := 18) (Nat.le_of_ble_eq_true rfl) (Nat.le_of_ble_eq_true rfl) (vx_out (fun x h => (hnt x h).elim) hlocks hce hcv hcl (fun t ht _ => ⟨(by obtain ⟨rfl, hf⟩ := hp; rw [show o_hide σ (nI k_2) (nI k_9) b = (2, 0, σ) from by simp [o_hide, ok2, ix2, ok9, ix9, hf]]; exact ⟨Nat.le_of_ble_eq_true rfl, rfl⟩), by rw [ht]; exact hk⟩) (fun z hz => nomatch hz) (Nat.le_refl _) (Nat.le_refl _))) (fun hc_18 => ?_)
  refine lv_aload hx hb dX5_hide_21 (lv_at hl 0 rfl) ?_
  refine lv_iload_n hx hb dX5_hide_23 rfl (lv_at hl 5 rfl) ?_
  refine k_put (C := RX3) (T := TX3) (N := 8) hx hb hts inGX3 tyX3 tyX3_ok nmX3 hown (hG.2.1).1 (hP.r hk_9) hS (hP.nz (us_r hP.2.2.2.1 hk_9)) rfl 7 (Nat.le_of_ble_eq_true rfl) (hts _ w_482) (fun _ h9 => h9) rfl (ty := .boolean) (v := .int b) (by decide +kernel) (nar_01 hb01) (fit_01 hb01) (Nat.le_of_ble_eq_true rfl) dX5_hide_24 (fun H24 locs24 hO24 hz24 hq24 hS24 => ?_)
  have hO24 : Ob D (ad (100 + k_9)) 4 [.int (nI k_9), .int (σ 1 (7 * k_9 + 3)), .int (σ 1 (7 * k_9)), .int (σ 1 (7 * k_9 + 1)), .int (σ 1 (7 * k_9 + 2)), .int (σ 1 (7 * k_9 + 4)), .int (σ 1 (7 * k_9 + 5)), .int b] H24 := hO24
  have hP24 : Pic D ct Z dc (su σ 1 (7 * k_9 + 6) b) ad H24 := hP.r6 hk_9 b hO24 hq24
  obtain ⟨τ24, hτ24⟩ : ∃ τ : Stt, τ = su σ 1 (7 * k_9 + 6) b := ⟨_, rfl⟩
  rw [← hτ24] at hP24
  have er24 : nR τ24 = nR σ := by rw [hτ24]; exact nR_eq (su_k (by decide))
  have ec24 : nC τ24 = nC σ := by rw [hτ24]; exact nC_eq (su_k (by decide))
  have hp24_k_2 : k_2 < nC τ24 := Nat.lt_of_lt_of_eq hk_2 ec24.symm
  have hp24_k_9 : k_9 < nR τ24 := Nat.lt_of_lt_of_eq hk_9 er24.symm
  refine lv_aload_n hx hb dX5_hide_27 rfl (lv_at hl 2 rfl) ?_
  refine lv_aload hx hb dX5_hide_28 (lv_at hl 1 rfl) ?_
  refine c_p1 (va_runV (As := [.ref (ad (200 + k_2))]) (rest := []) ⟨hx, hb, hml, hown, hts⟩ (c_X5_hiddenInBag l D ct Z dc τ24 ad k_2 hp24_k_2 (fun i hi => by rw [hτ24]; exact if z : i = k_9 then (by subst z; rw [su_s]; exact hb01) else (by rw [su_j (by omega)]; exact hH i (by omega)))) (cwV 1 hts (GG w_273 w_275 w_8 w_59 w_276) rfl rfl rfl (by decide) ⟨Nat.le_of_ble_eq_true rfl, Nat.le_of_ble_eq_true rfl⟩) ⟨(blindT fun _ _ _ _ h => h), Ob.recv (hG.2.1).1 hP24.o0 rfl, fun U hU hW => ⟨rfl, hG.2.1.warm hW, by rw [hU]; exact hP24⟩⟩ rfl rfl hl.1 rfl (lv_room (Nat.le_of_ble_eq_true rfl)) dX5_hide_30 ⟨Nat.le_of_ble_eq_true rfl, Nat.le_of_ble_eq_true rfl⟩) ?_
  refine vx_ret ?_
  refine W.widen (k := 3) (n := 18) (Nat.le_of_ble_eq_true rfl) (Nat.le_of_ble_eq_true rfl) ?_
  have ho : o_hide σ (nI k_2) (nI k_9) b = (0, hidB τ24 (nI k_2), su σ 1 (7 * k_9 + 6) b) := by simp [o_hide, ok2, ix2, ok9, ix9, hc_18, hτ24]
  exact W.iret (v := hidB τ24 (nI k_2)) hx hb hr (fun t ht hW => ⟨_, rfl, by rw [ht]; exact ⟨by rw [ho], by rw [ho], τ24, ad, by rw [ho]; exact (by rw [hτ24]; exact SC.rf), rfl, hP24⟩, hS24.F ht⟩) (fun z h => hS24.2.2 z h) dX5_hide_33

/-! wouldPay -/
set_option maxHeartbeats 4000000 in
set_option maxRecDepth 100000 in
theorem c_X5_wouldPay (l : Launch) (D : va_G) (ct : Nat → ClassId) (Z : Nat → Prop) (dc : Nat) (σ : Stt) (ad : Nat → Nat) (hst : l.stackTraces = false) (c tn b : Int32) (hI : Inv σ) : vx_Met l yX5_wouldPay (.code yX5_wouldPay cX5_wouldPay 7 (some .int) :: GW) ({ frames := 7, cells := 4, slots := 24, locals := 113 } : Room) (va_Pc [.ref (ad 0), .int c, .int tn, .int b] (fun U => GF D ct Z dc U U.heap ∧ Pic D ct Z dc σ ad U.heap)) (qS1 Z (fun x h => (o_wouldPay σ c tn b).1 = 0 ∧ x = .int (o_wouldPay σ c tn b).2.1 ∧ ∃ (σ1 : Stt) (ad1 : Nat → Nat), SC (o_wouldPay σ c tn b).2.2 σ1 ∧ ad1 0 = ad 0 ∧ Pic D ct Z dc σ1 ad1 h)) (xK (fun E => exn ["java/lang/IndexOutOfBoundsException", "java/lang/IllegalArgumentException", "java/lang/IllegalStateException"] (o_wouldPay σ c tn b).1 E)) 4 24 (nZ Z) := by
  refine mx_in (cc := cX5_wouldPay) [.ref (ad 0), .int c, .int tn, .int b] "RumourCustoms" rfl (by decide) (Nat.le_of_ble_eq_true rfl) ?_
  intro pg e s m args below meth cd ls hx hb hml hown hts hr hlocks hnt hPr hl
  obtain ⟨hG, hP⟩ := hPr
  have hl : lv_has ls 7 [(0, .ref (ad 0)), (1, .int c), (2, .int tn), (3, .int b)] := hl
  have hS : va_S (nZ Z) s.heap s.heap [] := va_S.rf
  have hn := hP.2.2.2.1
  have hnC := hP.2.2.2.2
  have hT1 := hI.1.1
  have hT10 := hI.1.2
  have hR1 := hI.2.1.1
  have hC1 := hI.2.2.1.1
  have hH : ∀ i, i < nR σ → σ 1 (7 * i + 6) = 0 ∨ σ 1 (7 * i + 6) = 1 := fun i hi => (hI.2.2.2.1 i hi).2.2.2.2.2
  refine lv_aload_n hx hb dX5_wouldPay_0 rfl (lv_at hl 0 rfl) ?_
  refine lv_iload_n hx hb dX5_wouldPay_1 rfl (lv_at hl 1 rfl) ?_
  refine c_x1R (vx_runV (As := [.int c]) (rest := []) ⟨hx, hb, hml, hown, hts⟩ (c_X5_carrierAt l D ct Z dc σ ad hst c hC1) (cwV 1 hts (GG w_652 w_654 w_20 w_59 w_655) rfl rfl rfl (by decide) ⟨Nat.le_of_ble_eq_true rfl, Nat.le_of_ble_eq_true rfl⟩) ⟨(blindF fun _ _ _ _ h => h), Ob.recv (hG.2.1).1 hP.o0 rfl, fun U hU hW => ⟨rfl, hG.up hW hS hU, by rw [hU]; exact hP⟩⟩ rfl rfl hl.1 rfl (lv_room (Nat.le_of_ble_eq_true rfl)) dX5_wouldPay_2 ⟨Nat.le_of_ble_eq_true rfl, Nat.le_of_ble_eq_true rfl⟩) hS (fun E ce q9 H1 hp hk hS1 hce hcv hcl => vx_widen (k := 4) (n := 24) (Nat.le_of_ble_eq_true rfl) (Nat.le_of_ble_eq_true rfl) (vx_out (fun x h => (hnt x h).elim) hlocks hce hcv hcl (fun t ht _ => ⟨(by obtain ⟨rfl, hf⟩ := hp; rw [show o_wouldPay σ c tn b = (1, 0, σ) from by simp [o_wouldPay, gow, gfi, gk, hf]]; exact ⟨Nat.le_of_ble_eq_true rfl, rfl⟩), by rw [ht]; exact hk⟩) (fun z hz => nomatch hz) (Nat.le_refl _) (Nat.le_refl _))) (fun x hc_2 => ?_)
  obtain ⟨k_2, hk_2, hv_2, rfl⟩ := hc_2
  subst hv_2
  have ok2 : cOK σ (nI k_2) = true := okC2 hC1 (by omega) hk_2
  have ix2 : ix (nI k_2) = k_2 := ix_n (by omega)
  refine lv_astore (lv' := [(4, .ref (ad (200 + k_2))), (0, .ref (ad 0)), (1, .int (nI k_2)), (2, .int tn), (3, .int b)]) hx hb dX5_wouldPay_5 hl (by decide) rfl (fun ls hl => ?_)
  refine lv_aload_n hx hb dX5_wouldPay_7 rfl (lv_at hl 1 rfl) ?_
  refine lv_iload_n hx hb dX5_wouldPay_8 rfl (lv_at hl 3 rfl) ?_
  refine c_x0C (vx_runV (As := [.int tn]) (rest := []) ⟨hx, hb, hml, hown, hts⟩ (c_X5_requireTown l D ct Z dc σ ad hst tn) (cwV 1 hts (GG w_367 w_369 w_10 w_59 w_370) rfl rfl rfl (by decide) ⟨Nat.le_of_ble_eq_true rfl, Nat.le_of_ble_eq_true rfl⟩) ⟨(blindF fun _ _ _ _ h => h), Ob.recv (hG.2.1).1 hP.o0 rfl, fun U hU hW => ⟨rfl, hG.up hW hS hU, by rw [hU]; exact hP⟩⟩ rfl rfl hl.1 rfl (lv_room (Nat.le_of_ble_eq_true rfl)) dX5_wouldPay_9 ⟨Nat.le_of_ble_eq_true rfl, Nat.le_of_ble_eq_true rfl⟩) hS (fun E ce q9 H1 hp hk hS1 hce hcv hcl => vx_widen (k := 4) (n := 24) (Nat.le_of_ble_eq_true rfl) (Nat.le_of_ble_eq_true rfl) (vx_out (fun x h => (hnt x h).elim) hlocks hce hcv hcl (fun t ht _ => ⟨(by obtain ⟨rfl, hf⟩ := hp; rw [show o_wouldPay σ (nI k_2) tn b = (1, 0, σ) from by simp [o_wouldPay, gow, gfi, gk, ok2, ix2, hf]]; exact ⟨Nat.le_of_ble_eq_true rfl, rfl⟩), by rw [ht]; exact hk⟩) (fun z hz => nomatch hz) (Nat.le_refl _) (Nat.le_refl _))) (fun hc_9 => ?_)
  obtain ⟨t9, ht9, hv9⟩ := okT hT1 hT10 hc_9
  subst hv9
  have ix9 : ix (nI t9) = t9 := ix_n (by omega)
  refine lv_iload_n hx hb dX5_wouldPay_12 rfl (lv_at hl 4 rfl) ?_
  refine lv_iconst (v := 0) hx hb dX5_wouldPay_13 (by decide) ?_
  refine lv_iconst (v := 5) hx hb dX5_wouldPay_14 (by decide) ?_
  refine c_x0C (vx_runS (As := [.int b, .int 0, .int 5]) (rest := []) ⟨hx, hb, hml, hown, hts⟩ (c_X5_requireWithin l D ct Z dc σ ad hst b 0 5) (k_cwS 3 hts w_403 w_404 w_59 w_405 rfl rfl (by decide) ⟨Nat.le_of_ble_eq_true rfl, Nat.le_of_ble_eq_true rfl⟩) ⟨(blindF fun _ _ _ _ h => h), fun U hU hW => ⟨rfl, hG.up hW hS hU, by rw [hU]; exact hP⟩⟩ rfl rfl hl.1 rfl (lv_room (Nat.le_of_ble_eq_true rfl)) dX5_wouldPay_15 ⟨Nat.le_of_ble_eq_true rfl, Nat.le_of_ble_eq_true rfl⟩) hS (fun E ce q9 H1 hp hk hS1 hce hcv hcl => vx_widen (k := 4) (n := 24) (Nat.le_of_ble_eq_true rfl) (Nat.le_of_ble_eq_true rfl) (vx_out (fun x h => (hnt x h).elim) hlocks hce hcv hcl (fun t ht _ => ⟨(by obtain ⟨rfl, hf⟩ := hp; rw [show o_wouldPay σ (nI k_2) (nI t9) b = (2, 0, σ) from by simp [o_wouldPay, gow, gfi, gk, ok2, ix2, hc_9, ix9, hf]]; exact ⟨Nat.le_of_ble_eq_true rfl, rfl⟩), by rw [ht]; exact hk⟩) (fun z hz => nomatch hz) (Nat.le_refl _) (Nat.le_refl _))) (fun hc_15 => ?_)
  refine lv_aload hx hb dX5_wouldPay_18 (lv_at hl 0 rfl) ?_
  refine c_x0C (vx_runS (As := [.ref (ad (200 + k_2))]) (rest := []) ⟨hx, hb, hml, hown, hts⟩ (c_X5_requireInTown l D ct Z dc σ ad hst k_2 hk_2) (k_cwS 1 hts w_657 w_658 w_59 w_659 rfl rfl (by decide) ⟨Nat.le_of_ble_eq_true rfl, Nat.le_of_ble_eq_true rfl⟩) ⟨(blindF fun _ _ _ _ h => h), fun U hU hW => ⟨rfl, hG.up hW hS hU, by rw [hU]; exact hP⟩⟩ rfl rfl hl.1 rfl (lv_room (Nat.le_of_ble_eq_true rfl)) dX5_wouldPay_20 ⟨Nat.le_of_ble_eq_true rfl, Nat.le_of_ble_eq_true rfl⟩) hS (fun E ce q9 H1 hp hk hS1 hce hcv hcl => vx_widen (k := 4) (n := 24) (Nat.le_of_ble_eq_true rfl) (Nat.le_of_ble_eq_true rfl) (vx_out (fun x h => (hnt x h).elim) hlocks hce hcv hcl (fun t ht _ => ⟨(by obtain ⟨rfl, hf⟩ := hp; rw [show o_wouldPay σ (nI k_2) (nI t9) b = (3, 0, σ) from by simp [o_wouldPay, gow, gfi, gk, ok2, ix2, hc_9, ix9, hc_15, hf]]; exact ⟨Nat.le_of_ble_eq_true rfl, rfl⟩), by rw [ht]; exact hk⟩) (fun z hz => nomatch hz) (Nat.le_refl _) (Nat.le_refl _))) (fun hc_20 => ?_)
  refine lv_aload_n hx hb dX5_wouldPay_23 rfl (lv_at hl 1 rfl) ?_
  refine k_get (C := RX5) (T := TX5) (N := 11) hx hb hts inGX5 hown (hG.2.1).1 hP.o0 rfl 0 (by decide) (hts _ w_147) (fun _ h9 => h9) (v := .ref (ad 1)) rfl dX5_wouldPay_24 ?_
  refine lv_aload hx hb dX5_wouldPay_27 (lv_at hl 0 rfl) ?_
  refine k_get (C := RX0) (T := TX0) (N := 5) hx hb hts inGX0 hown (hG.2.1).1 (hP.c hk_2) rfl 1 (by decide) (hts _ w_627) (fun _ h9 => h9) (v := .int (σ 2 (4 * k_2))) rfl dX5_wouldPay_29 ?_
  refine lv_iload_n hx hb dX5_wouldPay_32 rfl (lv_at hl 3 rfl) ?_
  obtain ⟨n33, hn33, hcn⟩ := (hI.2.2.2.2.1 k_2 hk_2).1
  rw [hcn]
  have ixn : ix (nI n33) = n33 := ix_n (by omega)
  refine c_p1 (va_runV (As := [.int (nI n33), .int (nI t9)]) (rest := []) ⟨hx, hb, hml, hown, hts⟩ (c_X2_between l D ct Z dc σ ad n33 t9 (by omega) (by omega)) (cwV 2 hts (GG w_235 w_236 w_237 w_60 w_238) rfl rfl rfl (by decide) ⟨Nat.le_of_ble_eq_true rfl, Nat.le_of_ble_eq_true rfl⟩) ⟨(blindT fun _ _ _ _ h => h), Ob.recv (hG.2.1).1 hP.o1 rfl, fun U hU hW => ⟨rfl, hG.2.1.warm hW, by rw [hU]; exact hP⟩⟩ rfl rfl hl.1 rfl (lv_room (Nat.le_of_ble_eq_true rfl)) dX5_wouldPay_33 ⟨Nat.le_of_ble_eq_true rfl, Nat.le_of_ble_eq_true rfl⟩) ?_
  have hkd : rk n33 t9 < 100 := rk_lt (by omega) (by omega)
  by_cases hrd : σ 3 (7 * rk n33 t9) = 1
  · -- road
    rw [show va_rf (rdb σ ad n33 t9) = .ref (ad (300 + rk n33 t9)) from by rw [rdb, if_pos hrd]; rfl]
    refine lv_astore (lv' := [(5, .ref (ad (300 + rk n33 t9))), (4, .ref (ad (200 + k_2))), (0, .ref (ad 0)), (1, .int (nI k_2)), (2, .int (nI t9)), (3, .int b)]) hx hb dX5_wouldPay_36 hl (by decide) rfl (fun ls hl => ?_)
    refine lv_aload hx hb dX5_wouldPay_38 (lv_at hl 0 rfl) ?_
    refine lv_ifnonnull (tgt := 45) hx hb dX5_wouldPay_40 (by decide) ?_
    refine lv_aload_n hx hb dX5_wouldPay_45 rfl (lv_at hl 2 rfl) ?_
    refine lv_aload hx hb dX5_wouldPay_46 (lv_at hl 1 rfl) ?_
    refine lv_aload hx hb dX5_wouldPay_48 (lv_at hl 0 rfl) ?_
    refine lv_iload_n hx hb dX5_wouldPay_50 rfl (lv_at hl 5 rfl) ?_
    refine c_p1 (va_runV (As := [.ref (ad (200 + k_2)), .ref (ad (300 + rk n33 t9)), .int b]) (rest := []) ⟨hx, hb, hml, hown, hts⟩ (c_X5_owedBy l D ct Z dc σ ad k_2 (rk n33 t9) b hk_2 hkd hrd) (cwV 3 hts (GG w_709 w_711 w_22 w_59 w_712) rfl rfl rfl (by decide) ⟨Nat.le_of_ble_eq_true rfl, Nat.le_of_ble_eq_true rfl⟩) ⟨(blindT fun _ _ _ _ h => h), Ob.recv (hG.2.1).1 hP.o0 rfl, fun U hU hW => ⟨rfl, hG.2.1.warm hW, by rw [hU]; exact hP⟩⟩ rfl rfl hl.1 rfl (lv_room (Nat.le_of_ble_eq_true rfl)) dX5_wouldPay_51 ⟨Nat.le_of_ble_eq_true rfl, Nat.le_of_ble_eq_true rfl⟩) ?_
    refine lv_istore (lv' := [(6, .int (owedS σ (nI k_2) (rk n33 t9) b)), (5, .ref (ad (300 + rk n33 t9))), (4, .ref (ad (200 + k_2))), (0, .ref (ad 0)), (1, .int (nI k_2)), (2, .int (nI t9)), (3, .int b)]) hx hb dX5_wouldPay_54 hl (by decide) rfl (fun ls hl => ?_)
    refine lv_iload hx hb dX5_wouldPay_56 (lv_at hl 0 rfl) ?_
    refine lv_aload_n hx hb dX5_wouldPay_58 rfl (lv_at hl 3 rfl) ?_
    refine lv_aload hx hb dX5_wouldPay_59 (lv_at hl 2 rfl) ?_
    refine lv_aload hx hb dX5_wouldPay_61 (lv_at hl 1 rfl) ?_
    refine lv_aload hx hb dX5_wouldPay_63 (lv_at hl 2 rfl) ?_
    refine k_get (C := RX0) (T := TX0) (N := 5) hx hb hts inGX0 hown (hG.2.1).1 (hP.c hk_2) rfl 3 (by decide) (hts _ w_631) (fun _ h9 => h9) (v := .int (σ 2 (4 * k_2 + 2))) rfl dX5_wouldPay_65 ?_
    refine lv_iload hx hb dX5_wouldPay_68 (lv_at hl 0 rfl) ?_
    refine lv_isub hx hb dX5_wouldPay_70 ?_
    refine c_p1 (va_runV (As := [.ref (ad (200 + k_2)), .ref (ad (300 + rk n33 t9)), .int ((σ 2 (4 * k_2 + 2)) - (owedS σ (nI k_2) (rk n33 t9) b))]) (rest := [.int (owedS σ (nI k_2) (rk n33 t9) b)]) ⟨hx, hb, hml, hown, hts⟩ (c_X5_fineOf l D ct Z dc σ ad k_2 (rk n33 t9) ((σ 2 (4 * k_2 + 2)) - (owedS σ (nI k_2) (rk n33 t9) b)) hk_2 hkd hrd hH) (cwV 3 hts (GG w_727 w_729 w_23 w_59 w_730) rfl rfl rfl (by decide) ⟨Nat.le_of_ble_eq_true rfl, Nat.le_of_ble_eq_true rfl⟩) ⟨(blindT fun _ _ _ _ h => h), Ob.recv (hG.2.1).1 hP.o0 rfl, fun U hU hW => ⟨rfl, hG.2.1.warm hW, by rw [hU]; exact hP⟩⟩ rfl rfl hl.1 rfl (lv_room (Nat.le_of_ble_eq_true rfl)) dX5_wouldPay_71 ⟨Nat.le_of_ble_eq_true rfl, Nat.le_of_ble_eq_true rfl⟩) ?_
    refine lv_iadd hx hb dX5_wouldPay_74 ?_
    refine vx_ret ?_
    refine W.widen (k := 4) (n := 24) (Nat.le_of_ble_eq_true rfl) (Nat.le_of_ble_eq_true rfl) ?_
    have ho : o_wouldPay σ (nI k_2) (nI t9) b = (0, (owedS σ (nI k_2) (rk n33 t9) b) + (fineS σ (nI k_2) (rk n33 t9) ((σ 2 (4 * k_2 + 2)) - (owedS σ (nI k_2) (rk n33 t9) b))), σ) := by simp [o_wouldPay, gow, gfi, gk, ok2, ix2, hc_9, ix9, hc_15, hc_20, hcn, ixn, hrd]
    exact W.iret (v := (owedS σ (nI k_2) (rk n33 t9) b) + (fineS σ (nI k_2) (rk n33 t9) ((σ 2 (4 * k_2 + 2)) - (owedS σ (nI k_2) (rk n33 t9) b)))) hx hb hr (fun t ht hW => ⟨_, rfl, by rw [ht]; exact ⟨by rw [ho], by rw [ho], σ, ad, by rw [ho]; exact SC.rf, rfl, hP⟩, hS.F ht⟩) (fun z h => hS.2.2 z h) dX5_wouldPay_75
  · -- none
    rw [show va_rf (rdb σ ad n33 t9) = .null from by rw [rdb, if_neg hrd]; rfl]
    refine lv_astoreN (lv' := [(5, .null), (4, .ref (ad (200 + k_2))), (0, .ref (ad 0)), (1, .int (nI k_2)), (2, .int (nI t9)), (3, .int b)]) hx hb dX5_wouldPay_36 hl (by decide) rfl (fun ls hl => ?_)
    refine lv_aloadN hx hb dX5_wouldPay_38 (lv_at hl 0 rfl) ?_
    refine lv_ifnonnullN hx hb dX5_wouldPay_40 ?_
    refine lv_iconst (v := (-1)) hx hb dX5_wouldPay_43 (by decide) ?_
    refine vx_ret ?_
    refine W.widen (k := 4) (n := 24) (Nat.le_of_ble_eq_true rfl) (Nat.le_of_ble_eq_true rfl) ?_
    have ho : o_wouldPay σ (nI k_2) (nI t9) b = (0, (-1), σ) := by simp [o_wouldPay, gow, gfi, gk, ok2, ix2, hc_9, ix9, hc_15, hc_20, hcn, ixn, hrd]
    exact W.iret (v := (-1)) hx hb hr (fun t ht hW => ⟨_, rfl, by rw [ht]; exact ⟨by rw [ho], by rw [ho], σ, ad, by rw [ho]; exact SC.rf, rfl, hP⟩, hS.F ht⟩) (fun z h => hS.2.2 z h) dX5_wouldPay_44
