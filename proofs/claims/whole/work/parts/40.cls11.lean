
/-! makeUp -/
set_option maxHeartbeats 4000000 in
set_option maxRecDepth 100000 in
theorem c_X5_makeUp (l : Launch) (D : va_G) (ct : Nat → ClassId) (Z : Nat → Prop) (dc : Nat) (σ : Stt) (ad : Nat → Nat) (hst : l.stackTraces = false) (tn len prf : Int32) (hI : Inv σ) : vx_Met l yX5_makeUp (.code yX5_makeUp cX5_makeUp 5 (some .int) :: GW) ({ frames := 7, cells := 5, slots := 1026, locals := 171 } : Room) (va_Pc [.ref (ad 0), .int tn, .int len, .int prf] (fun U => GF D ct Z dc U U.heap ∧ Pic D ct Z dc σ ad U.heap)) (qS1 Z (fun x h => (o_makeUp σ tn len prf).1 = 0 ∧ x = .int (o_makeUp σ tn len prf).2.1 ∧ ∃ (σ1 : Stt) (ad1 : Nat → Nat), SC (o_makeUp σ tn len prf).2.2 σ1 ∧ ad1 0 = ad 0 ∧ Pic D ct Z dc σ1 ad1 h)) (xK (fun E => exn ["java/lang/IndexOutOfBoundsException", "java/lang/IllegalArgumentException", "java/lang/IllegalStateException"] (o_makeUp σ tn len prf).1 E)) 5 1026 (nZ Z) := by
  refine mx_in (cc := cX5_makeUp) [.ref (ad 0), .int tn, .int len, .int prf] "RumourCustoms" rfl (by decide) (Nat.le_of_ble_eq_true rfl) ?_
  intro pg e s m args below meth cd ls hx hb hml hown hts hr hlocks hnt hPr hl
  obtain ⟨hG, hP⟩ := hPr
  have hl : lv_has ls 5 [(0, .ref (ad 0)), (1, .int tn), (2, .int len), (3, .int prf)] := hl
  have hS : va_S (nZ Z) s.heap s.heap [] := va_S.rf
  have hn := hP.2.2.2.1
  have hnC := hP.2.2.2.2
  have hT1 := hI.1.1
  have hT10 := hI.1.2
  have hR1 := hI.2.1.1
  have hC1 := hI.2.2.1.1
  have hH : ∀ i, i < nR σ → σ 1 (7 * i + 6) = 0 ∨ σ 1 (7 * i + 6) = 1 := fun i hi => (hI.2.2.2.1 i hi).2.2.2.2.2
  refine lv_aload_n hx hb dX5_makeUp_0 rfl (lv_at hl 0 rfl) ?_
  refine lv_iload_n hx hb dX5_makeUp_1 rfl (lv_at hl 1 rfl) ?_
  refine c_x0C (vx_runV (As := [.int tn]) (rest := []) ⟨hx, hb, hml, hown, hts⟩ (c_X5_requireTown l D ct Z dc σ ad hst tn) (cwV 1 hts (GG w_367 w_369 w_10 w_59 w_370) rfl rfl rfl (by decide) ⟨Nat.le_of_ble_eq_true rfl, Nat.le_of_ble_eq_true rfl⟩) ⟨(blindF fun _ _ _ _ h => h), Ob.recv (hG.2.1).1 hP.o0 rfl, fun U hU hW => ⟨rfl, hG.up hW hS hU, by rw [hU]; exact hP⟩⟩ rfl rfl hl.1 rfl (lv_room (Nat.le_of_ble_eq_true rfl)) dX5_makeUp_2 ⟨Nat.le_of_ble_eq_true rfl, Nat.le_of_ble_eq_true rfl⟩) hS (fun E ce q9 H1 hp hk hS1 hce hcv hcl => vx_widen (k := 5) (n := 1026) (Nat.le_of_ble_eq_true rfl) (Nat.le_of_ble_eq_true rfl) (vx_out (fun x h => (hnt x h).elim) hlocks hce hcv hcl (fun t ht _ => ⟨(by obtain ⟨rfl, hf⟩ := hp; rw [show o_makeUp σ tn len prf = (1, 0, σ) from by simp [o_makeUp, hf]]; exact ⟨Nat.le_of_ble_eq_true rfl, rfl⟩), by rw [ht]; exact hk⟩) (fun z hz => nomatch hz) (Nat.le_refl _) (Nat.le_refl _))) (fun hc_2 => ?_)
  obtain ⟨t2, ht2, hv2⟩ := okT hT1 hT10 hc_2
  subst hv2
  have ix2 : ix (nI t2) = t2 := ix_n (by omega)
  refine lv_iload_n hx hb dX5_makeUp_5 rfl (lv_at hl 2 rfl) ?_
  refine lv_iconst (v := 1) hx hb dX5_makeUp_6 (by decide) ?_
  refine lv_bipush (v := 30) hx hb dX5_makeUp_7 (by decide) ?_
  refine c_x0C (vx_runS (As := [.int len, .int 1, .int 30]) (rest := []) ⟨hx, hb, hml, hown, hts⟩ (c_X5_requireWithin l D ct Z dc σ ad hst len 1 30) (k_cwS 3 hts w_403 w_404 w_59 w_405 rfl rfl (by decide) ⟨Nat.le_of_ble_eq_true rfl, Nat.le_of_ble_eq_true rfl⟩) ⟨(blindF fun _ _ _ _ h => h), fun U hU hW => ⟨rfl, hG.up hW hS hU, by rw [hU]; exact hP⟩⟩ rfl rfl hl.1 rfl (lv_room (Nat.le_of_ble_eq_true rfl)) dX5_makeUp_9 ⟨Nat.le_of_ble_eq_true rfl, Nat.le_of_ble_eq_true rfl⟩) hS (fun E ce q9 H1 hp hk hS1 hce hcv hcl => vx_widen (k := 5) (n := 1026) (Nat.le_of_ble_eq_true rfl) (Nat.le_of_ble_eq_true rfl) (vx_out (fun x h => (hnt x h).elim) hlocks hce hcv hcl (fun t ht _ => ⟨(by obtain ⟨rfl, hf⟩ := hp; rw [show o_makeUp σ (nI t2) len prf = (2, 0, σ) from by simp [o_makeUp, hc_2, ix2, hf]]; exact ⟨Nat.le_of_ble_eq_true rfl, rfl⟩), by rw [ht]; exact hk⟩) (fun z hz => nomatch hz) (Nat.le_refl _) (Nat.le_refl _))) (fun hc_9 => ?_)
  refine lv_iload_n hx hb dX5_makeUp_12 rfl (lv_at hl 3 rfl) ?_
  refine lv_iconst (v := 0) hx hb dX5_makeUp_13 (by decide) ?_
  refine lv_iconst (v := 5) hx hb dX5_makeUp_14 (by decide) ?_
  refine c_x0C (vx_runS (As := [.int prf, .int 0, .int 5]) (rest := []) ⟨hx, hb, hml, hown, hts⟩ (c_X5_requireWithin l D ct Z dc σ ad hst prf 0 5) (k_cwS 3 hts w_403 w_404 w_59 w_405 rfl rfl (by decide) ⟨Nat.le_of_ble_eq_true rfl, Nat.le_of_ble_eq_true rfl⟩) ⟨(blindF fun _ _ _ _ h => h), fun U hU hW => ⟨rfl, hG.up hW hS hU, by rw [hU]; exact hP⟩⟩ rfl rfl hl.1 rfl (lv_room (Nat.le_of_ble_eq_true rfl)) dX5_makeUp_15 ⟨Nat.le_of_ble_eq_true rfl, Nat.le_of_ble_eq_true rfl⟩) hS (fun E ce q9 H1 hp hk hS1 hce hcv hcl => vx_widen (k := 5) (n := 1026) (Nat.le_of_ble_eq_true rfl) (Nat.le_of_ble_eq_true rfl) (vx_out (fun x h => (hnt x h).elim) hlocks hce hcv hcl (fun t ht _ => ⟨(by obtain ⟨rfl, hf⟩ := hp; rw [show o_makeUp σ (nI t2) len prf = (2, 0, σ) from by simp [o_makeUp, hc_2, ix2, hc_9, hf]]; exact ⟨Nat.le_of_ble_eq_true rfl, rfl⟩), by rw [ht]; exact hk⟩) (fun z hz => nomatch hz) (Nat.le_refl _) (Nat.le_refl _))) (fun hc_15 => ?_)
  refine lv_aload_n hx hb dX5_makeUp_18 rfl (lv_at hl 0 rfl) ?_
  refine k_get (C := RX5) (T := TX5) (N := 11) hx hb hts inGX5 hown (hG.2.1).1 hP.o0 rfl 2 (by decide) (hts _ w_149) (fun _ h9 => h9) (v := .ref (ad 6)) rfl dX5_makeUp_19 ?_
  refine c_p1 (va_runV (As := []) (rest := []) ⟨hx, hb, hml, hown, hts⟩ (c_Jx4a65c_size_8abf5 l D ct (ad 6) (σ 6 0) (ad 8) (nI (nR σ))) (cwV 0 hts (GG w_185 w_186 w_187 w_64 w_188) rfl rfl rfl (by decide) ⟨Nat.le_of_ble_eq_true rfl, Nat.le_of_ble_eq_true rfl⟩) ⟨(blindT fun _ _ _ _ h => h), Ob.recv (hG.2.1).1 hP.o6 rfl, fun U hU hW => ⟨rfl, hG.2.1.warm hW, by rw [hU]; exact hP.o6⟩⟩ rfl rfl hl.1 rfl (lv_room (Nat.le_of_ble_eq_true rfl)) dX5_makeUp_22 ⟨Nat.le_of_ble_eq_true rfl, Nat.le_of_ble_eq_true rfl⟩) ?_
  refine lv_bipush (v := 60) hx hb dX5_makeUp_25 (by decide) ?_
  refine lv_icmp_lt (tgt := 40) hx hb dX5_makeUp_27 (by decide) (fun c_27 => ?_) (fun c_27 => ?_)
  · -- taken
    have nc_27 : (nR σ) < 60 := (nI_ltI (a := (nR σ)) (b := 60) (by omega) (by omega)).mp c_27
    refine lv_aload_n hx hb dX5_makeUp_40 rfl (lv_at hl 0 rfl) ?_
    refine k_get (C := RX5) (T := TX5) (N := 11) hx hb hts inGX5 hown (hG.2.1).1 hP.o0 rfl 2 (by decide) (hts _ w_149) (fun _ h9 => h9) (v := .ref (ad 6)) rfl dX5_makeUp_41 ?_
    refine c_p1 (va_runV (As := []) (rest := []) ⟨hx, hb, hml, hown, hts⟩ (c_Jx4a65c_size_8abf5 l D ct (ad 6) (σ 6 0) (ad 8) (nI (nR σ))) (cwV 0 hts (GG w_185 w_186 w_187 w_64 w_188) rfl rfl rfl (by decide) ⟨Nat.le_of_ble_eq_true rfl, Nat.le_of_ble_eq_true rfl⟩) ⟨(blindT fun _ _ _ _ h => h), Ob.recv (hG.2.1).1 hP.o6 rfl, fun U hU hW => ⟨rfl, hG.2.1.warm hW, by rw [hU]; exact hP.o6⟩⟩ rfl rfl hl.1 rfl (lv_room (Nat.le_of_ble_eq_true rfl)) dX5_makeUp_44 ⟨Nat.le_of_ble_eq_true rfl, Nat.le_of_ble_eq_true rfl⟩) ?_
    refine lv_istore (lv' := [(4, .int (nI (nR σ))), (0, .ref (ad 0)), (1, .int (nI t2)), (2, .int len), (3, .int prf)]) hx hb dX5_makeUp_47 hl (by decide) rfl (fun ls hl => ?_)
    refine lv_aload_n hx hb dX5_makeUp_49 rfl (lv_at hl 1 rfl) ?_
    refine k_get (C := RX5) (T := TX5) (N := 11) hx hb hts inGX5 hown (hG.2.1).1 hP.o0 rfl 2 (by decide) (hts _ w_149) (fun _ h9 => h9) (v := .ref (ad 6)) rfl dX5_makeUp_50 ?_
    refine k_new (C := RX3) (T := TX3) (N := 8) (ci := 4) hx hb hts inGX3 tyX3 tyX3_ok hown (hts _ w_203) (hts _ w_460) (hts _ w_75) (hG.2.1).1 hS rfl (fs := [.int 0, .int 0, .int 0, .int 0, .int 0, .int 0, .int 0, .int 0]) (fun j hj => match j, hj with | 0, _ => rfl | 1, _ => rfl | 2, _ => rfl | 3, _ => rfl | 4, _ => rfl | 5, _ => rfl | 6, _ => rfl | 7, _ => rfl | (j + 8), h => absurd h (by omega)) (Nat.le_of_ble_eq_true rfl) (Nat.le_of_ble_eq_true rfl) dX5_makeUp_53 (fun H53 hN53 hz53 hq53 hS53 => ?_)
    refine W.widen (k := 4) (n := 26) (Nat.le_of_ble_eq_true rfl) (Nat.le_of_ble_eq_true rfl) ?_
    have hP53 := hP.kept hq53
    refine lv_dup hx hb dX5_makeUp_56 rfl ?_
    refine lv_iload hx hb dX5_makeUp_57 (lv_at hl 0 rfl) ?_
    refine lv_iload hx hb dX5_makeUp_59 (lv_at hl 0 rfl) ?_
    refine lv_iload_n hx hb dX5_makeUp_61 rfl (lv_at hl 3 rfl) ?_
    refine lv_iconst (v := 0) hx hb dX5_makeUp_62 (by decide) ?_
    refine lv_iload_n hx hb dX5_makeUp_63 rfl (lv_at hl 4 rfl) ?_
    refine lv_iload_n hx hb dX5_makeUp_64 rfl (lv_at hl 2 rfl) ?_
    refine c_w0 (va_runI (As := [.int (nI (nR σ)), .int (nI (nR σ)), .int len, .int 0, .int prf, .int (nI t2)]) (rest := [.ref s.heap.size, .ref (ad 6)]) ⟨hx, hb, hml, hown, hts⟩ (c_X3_init l D ct s.heap.size 0 0 0 0 0 0 0 0 (nI (nR σ)) (nI (nR σ)) len 0 prf (nI t2)) (cwI 6 hts (GGS (own := "RumourCustoms") (idx := 93) w_463) rfl rfl rfl (hts _ w_75) (hts _ w_461) (hts _ w_462) rfl (by decide) ⟨Nat.le_of_ble_eq_true rfl, Nat.le_of_ble_eq_true rfl⟩) ⟨(blindT fun _ _ _ _ h => h), fun U hU hW => ⟨rfl, hG.2.1.warm hW, by rw [hU]; exact hN53⟩⟩ rfl rfl hl.1 rfl (lv_room (Nat.le_of_ble_eq_true rfl)) dX5_makeUp_65 ⟨Nat.le_of_ble_eq_true rfl, Nat.le_of_ble_eq_true rfl⟩) hS53 (fun z => absurd (hG.1 _ z) (by omega)) (fun _ h => Ob.lt h) (fun H65 locs65 hO65 hq65 hS65 => ?_)
    have hb65 : ∀ q : Nat, q < s.heap.size → H65[q]? = s.heap[q]? := fun q h => (hq65 q (Nat.ne_of_lt h)).trans (hq53 q h)
    have hP65 := hP.kept hb65
    have hZd : Z dc := hG.2.2.2.2.2.1
    obtain ⟨p1, p2, p3, p4, p5, p6, p7⟩ := hP65.preR hZd
    have hy : ∀ i, us σ i → ad i ≠ s.heap.size := fun i hi => Nat.ne_of_lt (va_at.lt (hP.1 i hi).1)
    have hyz : ¬ Z s.heap.size := (fun z => absurd (hG.1 _ z) (by omega))
    refine c_s1 (va_runV (As := [.ref s.heap.size]) (rest := []) ⟨hx, hb, hml, hown, hts⟩ (c_add l D ct Z dc H65 (ad 6) (σ 6 0) (nR σ) (ad 20) (ad 8) 4 s.heap.size ([.int (nI (nR σ)), .int (nI (nR σ)), .int len, .int 0, .int prf, .int (nI t2), .int (-1), .int 0]) (lq ad 100 (nR σ)) hP65.2.2.1.1.1 hP65.2.2.1.1.2.1 (by omega) p1 p2 p3 (hP65.nz (us_lt (by decide))) p4 (Or.inl rfl) p5 (fun j h => lq_none j h) (fun z => hy 6 (us_lt (by decide)) z.symm) p6) (cwV 1 hts (GG w_500 w_501 w_502 w_64 w_503) rfl rfl rfl (by decide) ⟨Nat.le_of_ble_eq_true rfl, Nat.le_of_ble_eq_true rfl⟩) ⟨(blindF fun _ _ _ _ h => h), Ob.recv (hG.2.1).1 hP65.o6 rfl, fun U hU hW => ⟨rfl, hG.up hW hS65 hU, ⟨hU, by rw [hU]; exact ⟨hP65.o6, hP65.a8 (hG.dcA hS65), hO65⟩⟩⟩⟩ rfl rfl hl.1 rfl (lv_room (Nat.le_of_ble_eq_true rfl)) dX5_makeUp_68 ⟨Nat.le_of_ble_eq_true rfl, Nat.le_of_ble_eq_true rfl⟩) hS65 (fun x68 H68 locs68 hR68 hzz68 hS68 => ?_)
    obtain ⟨rfl, hR68⟩ := hR68
    obtain ⟨ad68, had68, hP68⟩ := hP65.makeR hZd (fun q hq => Nat.lt_of_lt_of_le (hG.1 q hq) hS65.1) nc_27 hy hyz (l := len) (d := 0) (p := prf) (f := nI (nR σ)) (t := nI t2) hO65 hR68
    refine W.widen (k := 5) (n := 1026) (Nat.le_of_ble_eq_true rfl) (Nat.le_of_ble_eq_true rfl) ?_
    refine lv_pop hx hb dX5_makeUp_71 rfl ?_
    refine lv_iload hx hb dX5_makeUp_72 (lv_at hl 0 rfl) ?_
    refine vx_ret ?_
    refine W.widen (k := 5) (n := 1026) (Nat.le_of_ble_eq_true rfl) (Nat.le_of_ble_eq_true rfl) ?_
    have ho : o_makeUp σ (nI t2) len prf = (0, nI (nR σ), addRm σ len 0 prf (nI (nR σ)) (nI t2)) := by simp [o_makeUp, hc_2, ix2, hc_9, hc_15, c_27, nc_27]
    exact W.iret (v := nI (nR σ)) hx hb hr (fun t ht hW => ⟨_, rfl, by rw [ht]; exact ⟨by rw [ho], by rw [ho], (su (addRm σ len 0 prf (nI (nR σ)) (nI t2)) 6 0 (σ 6 0 + 1)), ad68, by rw [ho]; exact (fun a ha => by funext j; exact su_k (by omega)), had68, hP68⟩, hS68.F ht⟩) (fun z h => hS68.2.2 z h) dX5_makeUp_74
  · -- not taken
    have nc_27 : ¬ (nR σ) < 60 := fun z => c_27 ((nI_ltI (a := (nR σ)) (b := 60) (by omega) (by omega)).mpr z)
    obtain ⟨sa, hsa⟩ := hG.2.1.2.1 (89, "there are 60 rumours") (by simp [strs])
    exact vx_throwS (names := nm2) hx hb hst hown fitS fitn (hts _ w_290) (hts _ w_69) hsa (hatS hts hG.2.1) hgoS hG.2.2.1 hG.2.2.2.1 hS (hl.1.trans hml.symm) dX5_makeUp_30 dX5_makeUp_33 dX5_makeUp_34 dX5_makeUp_36 dX5_makeUp_39 (fun x h => (hnt x h).elim) (Nat.le_of_ble_eq_true rfl) (Nat.le_of_ble_eq_true rfl) (Nat.le_of_ble_eq_true rfl) (Nat.le_of_ble_eq_true rfl) hlocks (fun t _ h1 h2 => ⟨(by rw [show o_makeUp σ (nI t2) len prf = (3, 0, σ) from by simp [o_makeUp, hc_2, ix2, hc_9, hc_15, c_27, nc_27]]; exact ⟨Nat.le_of_ble_eq_true rfl, rfl⟩), h1, h2⟩) (fun z hz => nomatch hz) (Nat.le_of_ble_eq_true rfl) (Nat.le_of_ble_eq_true rfl)

/-! addCarrier -/
set_option maxHeartbeats 4000000 in
set_option maxRecDepth 100000 in
theorem c_X5_addCarrier (l : Launch) (D : va_G) (ct : Nat → ClassId) (Z : Nat → Prop) (dc : Nat) (σ : Stt) (ad : Nat → Nat) (hst : l.stackTraces = false) (tn prs : Int32) (hI : Inv σ) : vx_Met l yX5_addCarrier (.code yX5_addCarrier cX5_addCarrier 4 (some .int) :: GW) ({ frames := 7, cells := 4, slots := 1017, locals := 171 } : Room) (va_Pc [.ref (ad 0), .int tn, .int prs] (fun U => GF D ct Z dc U U.heap ∧ Pic D ct Z dc σ ad U.heap)) (qS1 Z (fun x h => (o_addCarrier σ tn prs).1 = 0 ∧ x = .int (o_addCarrier σ tn prs).2.1 ∧ ∃ (σ1 : Stt) (ad1 : Nat → Nat), SC (o_addCarrier σ tn prs).2.2 σ1 ∧ ad1 0 = ad 0 ∧ Pic D ct Z dc σ1 ad1 h)) (xK (fun E => exn ["java/lang/IndexOutOfBoundsException", "java/lang/IllegalArgumentException", "java/lang/IllegalStateException"] (o_addCarrier σ tn prs).1 E)) 4 1017 (nZ Z) := by
  refine mx_in (cc := cX5_addCarrier) [.ref (ad 0), .int tn, .int prs] "RumourCustoms" rfl (by decide) (Nat.le_of_ble_eq_true rfl) ?_
  intro pg e s m args below meth cd ls hx hb hml hown hts hr hlocks hnt hPr hl
  obtain ⟨hG, hP⟩ := hPr
  have hl : lv_has ls 4 [(0, .ref (ad 0)), (1, .int tn), (2, .int prs)] := hl
  have hS : va_S (nZ Z) s.heap s.heap [] := va_S.rf
  have hn := hP.2.2.2.1
  have hnC := hP.2.2.2.2
  have hT1 := hI.1.1
  have hT10 := hI.1.2
  have hR1 := hI.2.1.1
  have hC1 := hI.2.2.1.1
  have hH : ∀ i, i < nR σ → σ 1 (7 * i + 6) = 0 ∨ σ 1 (7 * i + 6) = 1 := fun i hi => (hI.2.2.2.1 i hi).2.2.2.2.2
  refine lv_aload_n hx hb dX5_addCarrier_0 rfl (lv_at hl 0 rfl) ?_
  refine lv_iload_n hx hb dX5_addCarrier_1 rfl (lv_at hl 1 rfl) ?_
  refine c_x0C (vx_runV (As := [.int tn]) (rest := []) ⟨hx, hb, hml, hown, hts⟩ (c_X5_requireTown l D ct Z dc σ ad hst tn) (cwV 1 hts (GG w_367 w_369 w_10 w_59 w_370) rfl rfl rfl (by decide) ⟨Nat.le_of_ble_eq_true rfl, Nat.le_of_ble_eq_true rfl⟩) ⟨(blindF fun _ _ _ _ h => h), Ob.recv (hG.2.1).1 hP.o0 rfl, fun U hU hW => ⟨rfl, hG.up hW hS hU, by rw [hU]; exact hP⟩⟩ rfl rfl hl.1 rfl (lv_room (Nat.le_of_ble_eq_true rfl)) dX5_addCarrier_2 ⟨Nat.le_of_ble_eq_true rfl, Nat.le_of_ble_eq_true rfl⟩) hS (fun E ce q9 H1 hp hk hS1 hce hcv hcl => vx_widen (k := 4) (n := 1017) (Nat.le_of_ble_eq_true rfl) (Nat.le_of_ble_eq_true rfl) (vx_out (fun x h => (hnt x h).elim) hlocks hce hcv hcl (fun t ht _ => ⟨(by obtain ⟨rfl, hf⟩ := hp; rw [show o_addCarrier σ tn prs = (1, 0, σ) from by simp [o_addCarrier, hf]]; exact ⟨Nat.le_of_ble_eq_true rfl, rfl⟩), by rw [ht]; exact hk⟩) (fun z hz => nomatch hz) (Nat.le_refl _) (Nat.le_refl _))) (fun hc_2 => ?_)
  obtain ⟨t2, ht2, hv2⟩ := okT hT1 hT10 hc_2
  subst hv2
  have ix2 : ix (nI t2) = t2 := ix_n (by omega)
  refine lv_iload_n hx hb dX5_addCarrier_5 rfl (lv_at hl 2 rfl) ?_
  refine lv_iconst (v := 0) hx hb dX5_addCarrier_6 (by decide) ?_
  refine lv_ldc (v := 1000000) hx hb hown (hts _ w_617) dX5_addCarrier_7 ?_
  refine c_x0C (vx_runS (As := [.int prs, .int 0, .int 1000000]) (rest := []) ⟨hx, hb, hml, hown, hts⟩ (c_X5_requireWithin l D ct Z dc σ ad hst prs 0 1000000) (k_cwS 3 hts w_403 w_404 w_59 w_405 rfl rfl (by decide) ⟨Nat.le_of_ble_eq_true rfl, Nat.le_of_ble_eq_true rfl⟩) ⟨(blindF fun _ _ _ _ h => h), fun U hU hW => ⟨rfl, hG.up hW hS hU, by rw [hU]; exact hP⟩⟩ rfl rfl hl.1 rfl (lv_room (Nat.le_of_ble_eq_true rfl)) dX5_addCarrier_9 ⟨Nat.le_of_ble_eq_true rfl, Nat.le_of_ble_eq_true rfl⟩) hS (fun E ce q9 H1 hp hk hS1 hce hcv hcl => vx_widen (k := 4) (n := 1017) (Nat.le_of_ble_eq_true rfl) (Nat.le_of_ble_eq_true rfl) (vx_out (fun x h => (hnt x h).elim) hlocks hce hcv hcl (fun t ht _ => ⟨(by obtain ⟨rfl, hf⟩ := hp; rw [show o_addCarrier σ (nI t2) prs = (2, 0, σ) from by simp [o_addCarrier, hc_2, ix2, hf]]; exact ⟨Nat.le_of_ble_eq_true rfl, rfl⟩), by rw [ht]; exact hk⟩) (fun z hz => nomatch hz) (Nat.le_refl _) (Nat.le_refl _))) (fun hc_9 => ?_)
  refine lv_aload_n hx hb dX5_addCarrier_12 rfl (lv_at hl 0 rfl) ?_
  refine k_get (C := RX5) (T := TX5) (N := 11) hx hb hts inGX5 hown (hG.2.1).1 hP.o0 rfl 3 (by decide) (hts _ w_150) (fun _ h9 => h9) (v := .ref (ad 7)) rfl dX5_addCarrier_13 ?_
  refine c_p1 (va_runV (As := []) (rest := []) ⟨hx, hb, hml, hown, hts⟩ (c_Jx4a65c_size_8abf5 l D ct (ad 7) (σ 6 1) (ad 9) (nI (nC σ))) (cwV 0 hts (GG w_185 w_186 w_187 w_64 w_188) rfl rfl rfl (by decide) ⟨Nat.le_of_ble_eq_true rfl, Nat.le_of_ble_eq_true rfl⟩) ⟨(blindT fun _ _ _ _ h => h), Ob.recv (hG.2.1).1 hP.o7 rfl, fun U hU hW => ⟨rfl, hG.2.1.warm hW, by rw [hU]; exact hP.o7⟩⟩ rfl rfl hl.1 rfl (lv_room (Nat.le_of_ble_eq_true rfl)) dX5_addCarrier_16 ⟨Nat.le_of_ble_eq_true rfl, Nat.le_of_ble_eq_true rfl⟩) ?_
  refine lv_bipush (v := 8) hx hb dX5_addCarrier_19 (by decide) ?_
  refine lv_icmp_lt (tgt := 34) hx hb dX5_addCarrier_21 (by decide) (fun c_21 => ?_) (fun c_21 => ?_)
  · -- taken
    have nc_21 : (nC σ) < 8 := (nI_ltI (a := (nC σ)) (b := 8) (by omega) (by omega)).mp c_21
    refine lv_aload_n hx hb dX5_addCarrier_34 rfl (lv_at hl 0 rfl) ?_
    refine k_get (C := RX5) (T := TX5) (N := 11) hx hb hts inGX5 hown (hG.2.1).1 hP.o0 rfl 3 (by decide) (hts _ w_150) (fun _ h9 => h9) (v := .ref (ad 7)) rfl dX5_addCarrier_35 ?_
    refine c_p1 (va_runV (As := []) (rest := []) ⟨hx, hb, hml, hown, hts⟩ (c_Jx4a65c_size_8abf5 l D ct (ad 7) (σ 6 1) (ad 9) (nI (nC σ))) (cwV 0 hts (GG w_185 w_186 w_187 w_64 w_188) rfl rfl rfl (by decide) ⟨Nat.le_of_ble_eq_true rfl, Nat.le_of_ble_eq_true rfl⟩) ⟨(blindT fun _ _ _ _ h => h), Ob.recv (hG.2.1).1 hP.o7 rfl, fun U hU hW => ⟨rfl, hG.2.1.warm hW, by rw [hU]; exact hP.o7⟩⟩ rfl rfl hl.1 rfl (lv_room (Nat.le_of_ble_eq_true rfl)) dX5_addCarrier_38 ⟨Nat.le_of_ble_eq_true rfl, Nat.le_of_ble_eq_true rfl⟩) ?_
    refine lv_istore_n (lv' := [(3, .int (nI (nC σ))), (0, .ref (ad 0)), (1, .int (nI t2)), (2, .int prs)]) hx hb dX5_addCarrier_41 rfl hl (by decide) rfl (fun ls hl => ?_)
    refine lv_aload_n hx hb dX5_addCarrier_42 rfl (lv_at hl 1 rfl) ?_
    refine k_get (C := RX5) (T := TX5) (N := 11) hx hb hts inGX5 hown (hG.2.1).1 hP.o0 rfl 3 (by decide) (hts _ w_150) (fun _ h9 => h9) (v := .ref (ad 7)) rfl dX5_addCarrier_43 ?_
    refine k_new (C := RX0) (T := TX0) (N := 5) (ci := 1) hx hb hts inGX0 tyX0 tyX0_ok hown (hts _ w_226) (hts _ w_619) (hts _ w_81) (hG.2.1).1 hS rfl (fs := [.int 0, .int 0, .int 0, .int 0, .int 0]) (fun j hj => match j, hj with | 0, _ => rfl | 1, _ => rfl | 2, _ => rfl | 3, _ => rfl | 4, _ => rfl | (j + 5), h => absurd h (by omega)) (Nat.le_of_ble_eq_true rfl) (Nat.le_of_ble_eq_true rfl) dX5_addCarrier_46 (fun H46 hN46 hz46 hq46 hS46 => ?_)
    refine W.widen (k := 3) (n := 17) (Nat.le_of_ble_eq_true rfl) (Nat.le_of_ble_eq_true rfl) ?_
    have hP46 := hP.kept hq46
    refine lv_dup hx hb dX5_addCarrier_49 rfl ?_
    refine lv_iload_n hx hb dX5_addCarrier_50 rfl (lv_at hl 0 rfl) ?_
    refine lv_iload_n hx hb dX5_addCarrier_51 rfl (lv_at hl 2 rfl) ?_
    refine lv_iload_n hx hb dX5_addCarrier_52 rfl (lv_at hl 3 rfl) ?_
    refine c_w0 (va_runI (As := [.int (nI (nC σ)), .int (nI t2), .int prs]) (rest := [.ref s.heap.size, .ref (ad 7)]) ⟨hx, hb, hml, hown, hts⟩ (c_X0_init l D ct s.heap.size 0 0 0 0 0 (nI (nC σ)) (nI t2) prs) (cwI 3 hts (GGS (own := "RumourCustoms") (idx := 132) w_622) rfl rfl rfl (hts _ w_81) (hts _ w_620) (hts _ w_621) rfl (by decide) ⟨Nat.le_of_ble_eq_true rfl, Nat.le_of_ble_eq_true rfl⟩) ⟨(blindT fun _ _ _ _ h => h), fun U hU hW => ⟨rfl, hG.2.1.warm hW, by rw [hU]; exact hN46⟩⟩ rfl rfl hl.1 rfl (lv_room (Nat.le_of_ble_eq_true rfl)) dX5_addCarrier_53 ⟨Nat.le_of_ble_eq_true rfl, Nat.le_of_ble_eq_true rfl⟩) hS46 (fun z => absurd (hG.1 _ z) (by omega)) (fun _ h => Ob.lt h) (fun H53 locs53 hO53 hq53 hS53 => ?_)
    have hb53 : ∀ q : Nat, q < s.heap.size → H53[q]? = s.heap[q]? := fun q h => (hq53 q (Nat.ne_of_lt h)).trans (hq46 q h)
    have hP53 := hP.kept hb53
    have hZd : Z dc := hG.2.2.2.2.2.1
    obtain ⟨p1, p2, p3, p4, p5, p6, p7⟩ := hP53.preC hZd
    have hy : ∀ i, us σ i → ad i ≠ s.heap.size := fun i hi => Nat.ne_of_lt (va_at.lt (hP.1 i hi).1)
    have hyz : ¬ Z s.heap.size := (fun z => absurd (hG.1 _ z) (by omega))
    refine c_s1 (va_runV (As := [.ref s.heap.size]) (rest := []) ⟨hx, hb, hml, hown, hts⟩ (c_add l D ct Z dc H53 (ad 7) (σ 6 1) (nC σ) (ad 21) (ad 9) 1 s.heap.size ([.int (nI (nC σ)), .int (nI t2), .int 0, .int prs, .int 0]) (lq ad 200 (nC σ)) hP53.2.2.1.2.1 hP53.2.2.1.2.2.1 (by omega) p1 p2 p3 (hP53.nz (us_lt (by decide))) p4 (Or.inr rfl) p5 (fun j h => lq_none j h) (fun z => hy 7 (us_lt (by decide)) z.symm) p6) (cwV 1 hts (GG w_500 w_501 w_502 w_64 w_503) rfl rfl rfl (by decide) ⟨Nat.le_of_ble_eq_true rfl, Nat.le_of_ble_eq_true rfl⟩) ⟨(blindF fun _ _ _ _ h => h), Ob.recv (hG.2.1).1 hP53.o7 rfl, fun U hU hW => ⟨rfl, hG.up hW hS53 hU, ⟨hU, by rw [hU]; exact ⟨hP53.o7, hP53.a9 (hG.dcA hS53), hO53⟩⟩⟩⟩ rfl rfl hl.1 rfl (lv_room (Nat.le_of_ble_eq_true rfl)) dX5_addCarrier_56 ⟨Nat.le_of_ble_eq_true rfl, Nat.le_of_ble_eq_true rfl⟩) hS53 (fun x56 H56 locs56 hR56 hzz56 hS56 => ?_)
    obtain ⟨rfl, hR56⟩ := hR56
    obtain ⟨ad56, had56, hP56⟩ := hP53.makeC hZd (fun q hq => Nat.lt_of_lt_of_le (hG.1 q hq) hS53.1) nc_21 hy hyz (t := nI t2) (p := prs) hO53 hR56
    refine W.widen (k := 4) (n := 1017) (Nat.le_of_ble_eq_true rfl) (Nat.le_of_ble_eq_true rfl) ?_
    refine lv_pop hx hb dX5_addCarrier_59 rfl ?_
    refine lv_iload_n hx hb dX5_addCarrier_60 rfl (lv_at hl 0 rfl) ?_
    refine vx_ret ?_
    refine W.widen (k := 4) (n := 1017) (Nat.le_of_ble_eq_true rfl) (Nat.le_of_ble_eq_true rfl) ?_
    have ho : o_addCarrier σ (nI t2) prs = (0, nI (nC σ), addCr σ (nI t2) prs) := by simp [o_addCarrier, hc_2, ix2, hc_9, c_21, nc_21]
    exact W.iret (v := nI (nC σ)) hx hb hr (fun t ht hW => ⟨_, rfl, by rw [ht]; exact ⟨by rw [ho], by rw [ho], (su (addCr σ (nI t2) prs) 6 1 (σ 6 1 + 1)), ad56, by rw [ho]; exact (fun a ha => by funext j; exact su_k (by omega)), had56, hP56⟩, hS56.F ht⟩) (fun z h => hS56.2.2 z h) dX5_addCarrier_61
  · -- not taken
    have nc_21 : ¬ (nC σ) < 8 := fun z => c_21 ((nI_ltI (a := (nC σ)) (b := 8) (by omega) (by omega)).mpr z)
    obtain ⟨sa, hsa⟩ := hG.2.1.2.1 (128, "there are 8 carriers") (by simp [strs])
    exact vx_throwS (names := nm2) hx hb hst hown fitS fitn (hts _ w_290) (hts _ w_69) hsa (hatS hts hG.2.1) hgoS hG.2.2.1 hG.2.2.2.1 hS (hl.1.trans hml.symm) dX5_addCarrier_24 dX5_addCarrier_27 dX5_addCarrier_28 dX5_addCarrier_30 dX5_addCarrier_33 (fun x h => (hnt x h).elim) (Nat.le_of_ble_eq_true rfl) (Nat.le_of_ble_eq_true rfl) (Nat.le_of_ble_eq_true rfl) (Nat.le_of_ble_eq_true rfl) hlocks (fun t _ h1 h2 => ⟨(by rw [show o_addCarrier σ (nI t2) prs = (3, 0, σ) from by simp [o_addCarrier, hc_2, ix2, hc_9, c_21, nc_21]]; exact ⟨Nat.le_of_ble_eq_true rfl, rfl⟩), h1, h2⟩) (fun z hz => nomatch hz) (Nat.le_of_ble_eq_true rfl) (Nat.le_of_ble_eq_true rfl)

/-! tell -/
set_option maxHeartbeats 4000000 in
set_option maxRecDepth 100000 in
theorem c_X5_tell (l : Launch) (D : va_G) (ct : Nat → ClassId) (Z : Nat → Prop) (dc : Nat) (σ : Stt) (ad : Nat → Nat) (hst : l.stackTraces = false) (c r : Int32) (hI : Inv σ) : vx_Met l yX5_tell (.code yX5_tell cX5_tell 8 (some .int) :: GW) ({ frames := 7, cells := 6, slots := 1032, locals := 171 } : Room) (va_Pc [.ref (ad 0), .int c, .int r] (fun U => GF D ct Z dc U U.heap ∧ Pic D ct Z dc σ ad U.heap)) (qS1 Z (fun x h => (o_tell σ c r).1 = 0 ∧ x = .int (o_tell σ c r).2.1 ∧ ∃ (σ1 : Stt) (ad1 : Nat → Nat), SC (o_tell σ c r).2.2 σ1 ∧ ad1 0 = ad 0 ∧ Pic D ct Z dc σ1 ad1 h)) (xK (fun E => exn ["java/lang/IndexOutOfBoundsException", "java/lang/IllegalStateException"] (o_tell σ c r).1 E)) 6 1032 (nZ Z) := by
  refine mx_in (cc := cX5_tell) [.ref (ad 0), .int c, .int r] "RumourCustoms" rfl (by decide) (Nat.le_of_ble_eq_true rfl) ?_
  intro pg e s m args below meth cd ls hx hb hml hown hts hr hlocks hnt hPr hl
  obtain ⟨hG, hP⟩ := hPr
  have hl : lv_has ls 8 [(0, .ref (ad 0)), (1, .int c), (2, .int r)] := hl
  have hS : va_S (nZ Z) s.heap s.heap [] := va_S.rf
  have hn := hP.2.2.2.1
  have hnC := hP.2.2.2.2
  have hT1 := hI.1.1
  have hT10 := hI.1.2
  have hR1 := hI.2.1.1
  have hC1 := hI.2.2.1.1
  have hH : ∀ i, i < nR σ → σ 1 (7 * i + 6) = 0 ∨ σ 1 (7 * i + 6) = 1 := fun i hi => (hI.2.2.2.1 i hi).2.2.2.2.2
  refine lv_aload_n hx hb dX5_tell_0 rfl (lv_at hl 0 rfl) ?_
  refine lv_iload_n hx hb dX5_tell_1 rfl (lv_at hl 1 rfl) ?_
  refine c_x1R (vx_runV (As := [.int c]) (rest := []) ⟨hx, hb, hml, hown, hts⟩ (c_X5_carrierAt l D ct Z dc σ ad hst c hC1) (cwV 1 hts (GG w_652 w_654 w_20 w_59 w_655) rfl rfl rfl (by decide) ⟨Nat.le_of_ble_eq_true rfl, Nat.le_of_ble_eq_true rfl⟩) ⟨(blindF fun _ _ _ _ h => h), Ob.recv (hG.2.1).1 hP.o0 rfl, fun U hU hW => ⟨rfl, hG.up hW hS hU, by rw [hU]; exact hP⟩⟩ rfl rfl hl.1 rfl (lv_room (Nat.le_of_ble_eq_true rfl)) dX5_tell_2 ⟨Nat.le_of_ble_eq_true rfl, Nat.le_of_ble_eq_true rfl⟩) hS (fun E ce q9 H1 hp hk hS1 hce hcv hcl => vx_widen (k := 6) (n := 1032) (Nat.le_of_ble_eq_true rfl) (Nat.le_of_ble_eq_true rfl) (vx_out (fun x h => (hnt x h).elim) hlocks hce hcv hcl (fun t ht _ => ⟨(by obtain ⟨rfl, hf⟩ := hp; rw [show o_tell σ c r = (1, 0, σ) from by simp [o_tell, kno, hf]]; exact ⟨Nat.le_of_ble_eq_true rfl, rfl⟩), by rw [ht]; exact hk⟩) (fun z hz => nomatch hz) (Nat.le_refl _) (Nat.le_refl _))) (fun x hc_2 => ?_)
  obtain ⟨k_2, hk_2, hv_2, rfl⟩ := hc_2
  subst hv_2
  have ok2 : cOK σ (nI k_2) = true := okC2 hC1 (by omega) hk_2
  have ix2 : ix (nI k_2) = k_2 := ix_n (by omega)
  refine lv_astore_n (lv' := [(3, .ref (ad (200 + k_2))), (0, .ref (ad 0)), (1, .int (nI k_2)), (2, .int r)]) hx hb dX5_tell_5 rfl hl (by decide) rfl (fun ls hl => ?_)
  refine lv_aload_n hx hb dX5_tell_6 rfl (lv_at hl 1 rfl) ?_
  refine lv_iload_n hx hb dX5_tell_7 rfl (lv_at hl 3 rfl) ?_
  refine c_x1R (vx_runV (As := [.int r]) (rest := []) ⟨hx, hb, hml, hown, hts⟩ (c_X5_rumourAt l D ct Z dc σ ad hst r hR1) (cwV 1 hts (GG w_565 w_567 w_14 w_59 w_568) rfl rfl rfl (by decide) ⟨Nat.le_of_ble_eq_true rfl, Nat.le_of_ble_eq_true rfl⟩) ⟨(blindF fun _ _ _ _ h => h), Ob.recv (hG.2.1).1 hP.o0 rfl, fun U hU hW => ⟨rfl, hG.up hW hS hU, by rw [hU]; exact hP⟩⟩ rfl rfl hl.1 rfl (lv_room (Nat.le_of_ble_eq_true rfl)) dX5_tell_8 ⟨Nat.le_of_ble_eq_true rfl, Nat.le_of_ble_eq_true rfl⟩) hS (fun E ce q9 H1 hp hk hS1 hce hcv hcl => vx_widen (k := 6) (n := 1032) (Nat.le_of_ble_eq_true rfl) (Nat.le_of_ble_eq_true rfl) (vx_out (fun x h => (hnt x h).elim) hlocks hce hcv hcl (fun t ht _ => ⟨(by obtain ⟨rfl, hf⟩ := hp; rw [show o_tell σ (nI k_2) r = (1, 0, σ) from by simp [o_tell, kno, ok2, ix2, hf]]; exact ⟨Nat.le_of_ble_eq_true rfl, rfl⟩), by rw [ht]; exact hk⟩) (fun z hz => nomatch hz) (Nat.le_refl _) (Nat.le_refl _))) (fun x hc_8 => ?_)
  obtain ⟨k_8, hk_8, hv_8, rfl⟩ := hc_8
  subst hv_8
  have ok8 : rOK σ (nI k_8) = true := okR2 hR1 (by omega) hk_8
  have ix8 : ix (nI k_8) = k_8 := ix_n (by omega)
  refine lv_astore (lv' := [(4, .ref (ad (100 + k_8))), (3, .ref (ad (200 + k_2))), (0, .ref (ad 0)), (1, .int (nI k_2)), (2, .int (nI k_8))]) hx hb dX5_tell_11 hl (by decide) rfl (fun ls hl => ?_)
  refine lv_aload_n hx hb dX5_tell_13 rfl (lv_at hl 1 rfl) ?_
  refine c_x0C (vx_runS (As := [.ref (ad (200 + k_2))]) (rest := []) ⟨hx, hb, hml, hown, hts⟩ (c_X5_requireInTown l D ct Z dc σ ad hst k_2 hk_2) (k_cwS 1 hts w_657 w_658 w_59 w_659 rfl rfl (by decide) ⟨Nat.le_of_ble_eq_true rfl, Nat.le_of_ble_eq_true rfl⟩) ⟨(blindF fun _ _ _ _ h => h), fun U hU hW => ⟨rfl, hG.up hW hS hU, by rw [hU]; exact hP⟩⟩ rfl rfl hl.1 rfl (lv_room (Nat.le_of_ble_eq_true rfl)) dX5_tell_14 ⟨Nat.le_of_ble_eq_true rfl, Nat.le_of_ble_eq_true rfl⟩) hS (fun E ce q9 H1 hp hk hS1 hce hcv hcl => vx_widen (k := 6) (n := 1032) (Nat.le_of_ble_eq_true rfl) (Nat.le_of_ble_eq_true rfl) (vx_out (fun x h => (hnt x h).elim) hlocks hce hcv hcl (fun t ht _ => ⟨(by obtain ⟨rfl, hf⟩ := hp; rw [show o_tell σ (nI k_2) (nI k_8) = (2, 0, σ) from by simp [o_tell, kno, ok2, ix2, ok8, ix8, hf]]; exact ⟨Nat.le_of_ble_eq_true rfl, rfl⟩), by rw [ht]; exact hk⟩) (fun z hz => nomatch hz) (Nat.le_refl _) (Nat.le_refl _))) (fun hc_14 => ?_)
  refine lv_aload_n hx hb dX5_tell_17 rfl (lv_at hl 1 rfl) ?_
  refine lv_aload hx hb dX5_tell_18 (lv_at hl 0 rfl) ?_
  refine c_x0C (vx_runS (As := [.ref (ad (200 + k_2)), .ref (ad (100 + k_8))]) (rest := []) ⟨hx, hb, hml, hown, hts⟩ (c_X5_requireHas l D ct Z dc σ ad hst k_2 k_8 hk_2 hk_8) (k_cwS 2 hts w_678 w_679 w_59 w_680 rfl rfl (by decide) ⟨Nat.le_of_ble_eq_true rfl, Nat.le_of_ble_eq_true rfl⟩) ⟨(blindF fun _ _ _ _ h => h), fun U hU hW => ⟨rfl, hG.up hW hS hU, by rw [hU]; exact hP⟩⟩ rfl rfl hl.1 rfl (lv_room (Nat.le_of_ble_eq_true rfl)) dX5_tell_20 ⟨Nat.le_of_ble_eq_true rfl, Nat.le_of_ble_eq_true rfl⟩) hS (fun E ce q9 H1 hp hk hS1 hce hcv hcl => vx_widen (k := 6) (n := 1032) (Nat.le_of_ble_eq_true rfl) (Nat.le_of_ble_eq_true rfl) (vx_out (fun x h => (hnt x h).elim) hlocks hce hcv hcl (fun t ht _ => ⟨(by obtain ⟨rfl, hf⟩ := hp; rw [show o_tell σ (nI k_2) (nI k_8) = (2, 0, σ) from by simp [o_tell, kno, ok2, ix2, ok8, ix8, hc_14, hf]]; exact ⟨Nat.le_of_ble_eq_true rfl, rfl⟩), by rw [ht]; exact hk⟩) (fun z hz => nomatch hz) (Nat.le_refl _) (Nat.le_refl _))) (fun hc_20 => ?_)
  refine lv_aload hx hb dX5_tell_23 (lv_at hl 0 rfl) ?_
  refine k_get (C := RX3) (T := TX3) (N := 8) hx hb hts inGX3 hown (hG.2.1).1 (hP.r hk_8) rfl 3 (by decide) (hts _ w_474) (fun _ h9 => h9) (v := .int (σ 1 (7 * k_8 + 1))) rfl dX5_tell_25 ?_
  refine lv_iconst (v := 1) hx hb dX5_tell_28 (by decide) ?_
  refine lv_iadd hx hb dX5_tell_29 ?_
  refine lv_istore (lv' := [(5, .int ((σ 1 (7 * k_8 + 1)) + 1)), (4, .ref (ad (100 + k_8))), (3, .ref (ad (200 + k_2))), (0, .ref (ad 0)), (1, .int (nI k_2)), (2, .int (nI k_8))]) hx hb dX5_tell_30 hl (by decide) rfl (fun ls hl => ?_)
  refine lv_aload_n hx hb dX5_tell_32 rfl (lv_at hl 3 rfl) ?_
  refine lv_aload_n hx hb dX5_tell_33 rfl (lv_at hl 2 rfl) ?_
  refine k_get (C := RX0) (T := TX0) (N := 5) hx hb hts inGX0 hown (hG.2.1).1 (hP.c hk_2) rfl 1 (by decide) (hts _ w_627) (fun _ h9 => h9) (v := .int (σ 2 (4 * k_2))) rfl dX5_tell_34 ?_
  refine lv_aload hx hb dX5_tell_37 (lv_at hl 1 rfl) ?_
  refine k_get (C := RX3) (T := TX3) (N := 8) hx hb hts inGX3 hown (hG.2.1).1 (hP.r hk_8) rfl 1 (by decide) (hts _ w_468) (fun _ h9 => h9) (v := .int (σ 1 (7 * k_8 + 3))) rfl dX5_tell_39 ?_
  refine c_p1 (va_runV (As := [.int (σ 2 (4 * k_2)), .int (σ 1 (7 * k_8 + 3))]) (rest := []) ⟨hx, hb, hml, hown, hts⟩ (c_X5_leastDeepIn l D ct Z dc σ ad (σ 2 (4 * k_2)) (σ 1 (7 * k_8 + 3))) (cwV 2 hts (GG w_606 w_608 w_19 w_59 w_609) rfl rfl rfl (by decide) ⟨Nat.le_of_ble_eq_true rfl, Nat.le_of_ble_eq_true rfl⟩) ⟨(blindT fun _ _ _ _ h => h), Ob.recv (hG.2.1).1 hP.o0 rfl, fun U hU hW => ⟨rfl, hG.2.1.warm hW, by rw [hU]; exact hP⟩⟩ rfl rfl hl.1 rfl (lv_room (Nat.le_of_ble_eq_true rfl)) dX5_tell_42 ⟨Nat.le_of_ble_eq_true rfl, Nat.le_of_ble_eq_true rfl⟩) ?_
  rcases hld : ldp σ (σ 2 (4 * k_2)) (σ 1 (7 * k_8 + 3)) (nR σ) with _ | k0
  · -- none
    rw [show va_rf (Option.map (fun k => ad (100 + k)) none) = .null from rfl]
    refine lv_astoreN (lv' := [(6, .null), (5, .int ((σ 1 (7 * k_8 + 1)) + 1)), (4, .ref (ad (100 + k_8))), (3, .ref (ad (200 + k_2))), (0, .ref (ad 0)), (1, .int (nI k_2)), (2, .int (nI k_8))]) hx hb dX5_tell_45 hl (by decide) rfl (fun ls hl => ?_)
    refine lv_aloadN hx hb dX5_tell_47 (lv_at hl 0 rfl) ?_
    refine lv_ifnullN (tgt := 64) hx hb dX5_tell_49 (by decide) ?_
    refine lv_aload_n hx hb dX5_tell_64 rfl (lv_at hl 4 rfl) ?_
    refine k_get (C := RX5) (T := TX5) (N := 11) hx hb hts inGX5 hown (hG.2.1).1 hP.o0 rfl 2 (by decide) (hts _ w_149) (fun _ h9 => h9) (v := .ref (ad 6)) rfl dX5_tell_65 ?_
    refine c_p1 (va_runV (As := []) (rest := []) ⟨hx, hb, hml, hown, hts⟩ (c_Jx4a65c_size_8abf5 l D ct (ad 6) (σ 6 0) (ad 8) (nI (nR σ))) (cwV 0 hts (GG w_185 w_186 w_187 w_64 w_188) rfl rfl rfl (by decide) ⟨Nat.le_of_ble_eq_true rfl, Nat.le_of_ble_eq_true rfl⟩) ⟨(blindT fun _ _ _ _ h => h), Ob.recv (hG.2.1).1 hP.o6 rfl, fun U hU hW => ⟨rfl, hG.2.1.warm hW, by rw [hU]; exact hP.o6⟩⟩ rfl rfl hl.1 rfl (lv_room (Nat.le_of_ble_eq_true rfl)) dX5_tell_68 ⟨Nat.le_of_ble_eq_true rfl, Nat.le_of_ble_eq_true rfl⟩) ?_
    refine lv_bipush (v := 60) hx hb dX5_tell_71 (by decide) ?_
    refine lv_icmp_lt (tgt := 86) hx hb dX5_tell_73 (by decide) (fun c_73 => ?_) (fun c_73 => ?_)
    · -- taken
      have nc_73 : (nR σ) < 60 := (nI_ltI (a := (nR σ)) (b := 60) (by omega) (by omega)).mp c_73
      refine lv_iload hx hb dX5_tell_86 (lv_at hl 1 rfl) ?_
      refine lv_bipush (v := 99) hx hb dX5_tell_88 (by decide) ?_
      refine lv_icmp_le (tgt := 103) hx hb dX5_tell_90 (by decide) (fun c_90 => ?_) (fun c_90 => ?_)
      · -- taken
        refine lv_aload_n hx hb dX5_tell_103 rfl (lv_at hl 4 rfl) ?_
        refine k_get (C := RX5) (T := TX5) (N := 11) hx hb hts inGX5 hown (hG.2.1).1 hP.o0 rfl 2 (by decide) (hts _ w_149) (fun _ h9 => h9) (v := .ref (ad 6)) rfl dX5_tell_104 ?_
        refine c_p1 (va_runV (As := []) (rest := []) ⟨hx, hb, hml, hown, hts⟩ (c_Jx4a65c_size_8abf5 l D ct (ad 6) (σ 6 0) (ad 8) (nI (nR σ))) (cwV 0 hts (GG w_185 w_186 w_187 w_64 w_188) rfl rfl rfl (by decide) ⟨Nat.le_of_ble_eq_true rfl, Nat.le_of_ble_eq_true rfl⟩) ⟨(blindT fun _ _ _ _ h => h), Ob.recv (hG.2.1).1 hP.o6 rfl, fun U hU hW => ⟨rfl, hG.2.1.warm hW, by rw [hU]; exact hP.o6⟩⟩ rfl rfl hl.1 rfl (lv_room (Nat.le_of_ble_eq_true rfl)) dX5_tell_107 ⟨Nat.le_of_ble_eq_true rfl, Nat.le_of_ble_eq_true rfl⟩) ?_
        refine lv_istore (lv' := [(7, .int (nI (nR σ))), (6, .null), (5, .int ((σ 1 (7 * k_8 + 1)) + 1)), (4, .ref (ad (100 + k_8))), (3, .ref (ad (200 + k_2))), (0, .ref (ad 0)), (1, .int (nI k_2)), (2, .int (nI k_8))]) hx hb dX5_tell_110 hl (by decide) rfl (fun ls hl => ?_)
        refine lv_aload_n hx hb dX5_tell_112 rfl (lv_at hl 5 rfl) ?_
        refine k_get (C := RX5) (T := TX5) (N := 11) hx hb hts inGX5 hown (hG.2.1).1 hP.o0 rfl 2 (by decide) (hts _ w_149) (fun _ h9 => h9) (v := .ref (ad 6)) rfl dX5_tell_113 ?_
        refine k_new (C := RX3) (T := TX3) (N := 8) (ci := 4) hx hb hts inGX3 tyX3 tyX3_ok hown (hts _ w_203) (hts _ w_460) (hts _ w_75) (hG.2.1).1 hS rfl (fs := [.int 0, .int 0, .int 0, .int 0, .int 0, .int 0, .int 0, .int 0]) (fun j hj => match j, hj with | 0, _ => rfl | 1, _ => rfl | 2, _ => rfl | 3, _ => rfl | 4, _ => rfl | 5, _ => rfl | 6, _ => rfl | 7, _ => rfl | (j + 8), h => absurd h (by omega)) (Nat.le_of_ble_eq_true rfl) (Nat.le_of_ble_eq_true rfl) dX5_tell_116 (fun H116 hN116 hz116 hq116 hS116 => ?_)
        refine W.widen (k := 5) (n := 32) (Nat.le_of_ble_eq_true rfl) (Nat.le_of_ble_eq_true rfl) ?_
        have hP116 := hP.kept hq116
        refine lv_dup hx hb dX5_tell_119 rfl ?_
        refine lv_iload hx hb dX5_tell_120 (lv_at hl 0 rfl) ?_
        refine lv_aload hx hb dX5_tell_122 (lv_at hl 3 rfl) ?_
        refine k_get (C := RX3) (T := TX3) (N := 8) hx hb hts inGX3 hown (hG.2.1).1 (hP116.r hk_8) rfl 1 (by decide) (hts _ w_468) (fun _ h9 => h9) (v := .int (σ 1 (7 * k_8 + 3))) rfl dX5_tell_124 ?_
        refine lv_aload hx hb dX5_tell_127 (lv_at hl 3 rfl) ?_
        refine k_get (C := RX3) (T := TX3) (N := 8) hx hb hts inGX3 hown (hG.2.1).1 (hP116.r hk_8) rfl 2 (by decide) (hts _ w_471) (fun _ h9 => h9) (v := .int (σ 1 (7 * k_8))) rfl dX5_tell_129 ?_
        refine lv_iload hx hb dX5_tell_132 (lv_at hl 2 rfl) ?_
        refine lv_aload hx hb dX5_tell_134 (lv_at hl 3 rfl) ?_
        refine k_get (C := RX3) (T := TX3) (N := 8) hx hb hts inGX3 hown (hG.2.1).1 (hP116.r hk_8) rfl 4 (by decide) (hts _ w_477) (fun _ h9 => h9) (v := .int (σ 1 (7 * k_8 + 2))) rfl dX5_tell_136 ?_
        refine lv_aload_n hx hb dX5_tell_139 rfl (lv_at hl 4 rfl) ?_
        refine k_get (C := RX0) (T := TX0) (N := 5) hx hb hts inGX0 hown (hG.2.1).1 (hP116.c hk_2) rfl 1 (by decide) (hts _ w_627) (fun _ h9 => h9) (v := .int (σ 2 (4 * k_2))) rfl dX5_tell_140 ?_
        refine c_w0 (va_runI (As := [.int (nI (nR σ)), .int (σ 1 (7 * k_8 + 3)), .int (σ 1 (7 * k_8)), .int ((σ 1 (7 * k_8 + 1)) + 1), .int (σ 1 (7 * k_8 + 2)), .int (σ 2 (4 * k_2))]) (rest := [.ref s.heap.size, .ref (ad 6)]) ⟨hx, hb, hml, hown, hts⟩ (c_X3_init l D ct s.heap.size 0 0 0 0 0 0 0 0 (nI (nR σ)) (σ 1 (7 * k_8 + 3)) (σ 1 (7 * k_8)) ((σ 1 (7 * k_8 + 1)) + 1) (σ 1 (7 * k_8 + 2)) (σ 2 (4 * k_2))) (cwI 6 hts (GGS (own := "RumourCustoms") (idx := 93) w_463) rfl rfl rfl (hts _ w_75) (hts _ w_461) (hts _ w_462) rfl (by decide) ⟨Nat.le_of_ble_eq_true rfl, Nat.le_of_ble_eq_true rfl⟩) ⟨(blindT fun _ _ _ _ h => h), fun U hU hW => ⟨rfl, hG.2.1.warm hW, by rw [hU]; exact hN116⟩⟩ rfl rfl hl.1 rfl (lv_room (Nat.le_of_ble_eq_true rfl)) dX5_tell_143 ⟨Nat.le_of_ble_eq_true rfl, Nat.le_of_ble_eq_true rfl⟩) hS116 (fun z => absurd (hG.1 _ z) (by omega)) (fun _ h => Ob.lt h) (fun H143 locs143 hO143 hq143 hS143 => ?_)
        have hb143 : ∀ q : Nat, q < s.heap.size → H143[q]? = s.heap[q]? := fun q h => (hq143 q (Nat.ne_of_lt h)).trans (hq116 q h)
        have hP143 := hP.kept hb143
        have hZd : Z dc := hG.2.2.2.2.2.1
        obtain ⟨p1, p2, p3, p4, p5, p6, p7⟩ := hP143.preR hZd
        have hy : ∀ i, us σ i → ad i ≠ s.heap.size := fun i hi => Nat.ne_of_lt (va_at.lt (hP.1 i hi).1)
        have hyz : ¬ Z s.heap.size := (fun z => absurd (hG.1 _ z) (by omega))
        refine c_s1 (va_runV (As := [.ref s.heap.size]) (rest := []) ⟨hx, hb, hml, hown, hts⟩ (c_add l D ct Z dc H143 (ad 6) (σ 6 0) (nR σ) (ad 20) (ad 8) 4 s.heap.size ([.int (nI (nR σ)), .int (σ 1 (7 * k_8 + 3)), .int (σ 1 (7 * k_8)), .int ((σ 1 (7 * k_8 + 1)) + 1), .int (σ 1 (7 * k_8 + 2)), .int (σ 2 (4 * k_2)), .int (-1), .int 0]) (lq ad 100 (nR σ)) hP143.2.2.1.1.1 hP143.2.2.1.1.2.1 (by omega) p1 p2 p3 (hP143.nz (us_lt (by decide))) p4 (Or.inl rfl) p5 (fun j h => lq_none j h) (fun z => hy 6 (us_lt (by decide)) z.symm) p6) (cwV 1 hts (GG w_500 w_501 w_502 w_64 w_503) rfl rfl rfl (by decide) ⟨Nat.le_of_ble_eq_true rfl, Nat.le_of_ble_eq_true rfl⟩) ⟨(blindF fun _ _ _ _ h => h), Ob.recv (hG.2.1).1 hP143.o6 rfl, fun U hU hW => ⟨rfl, hG.up hW hS143 hU, ⟨hU, by rw [hU]; exact ⟨hP143.o6, hP143.a8 (hG.dcA hS143), hO143⟩⟩⟩⟩ rfl rfl hl.1 rfl (lv_room (Nat.le_of_ble_eq_true rfl)) dX5_tell_146 ⟨Nat.le_of_ble_eq_true rfl, Nat.le_of_ble_eq_true rfl⟩) hS143 (fun x146 H146 locs146 hR146 hzz146 hS146 => ?_)
        obtain ⟨rfl, hR146⟩ := hR146
        obtain ⟨ad146, had146, hP146⟩ := hP143.makeR hZd (fun q hq => Nat.lt_of_lt_of_le (hG.1 q hq) hS143.1) nc_73 hy hyz (l := σ 1 (7 * k_8)) (d := σ 1 (7 * k_8 + 1) + 1) (p := σ 1 (7 * k_8 + 2)) (f := σ 1 (7 * k_8 + 3)) (t := σ 2 (4 * k_2)) hO143 hR146
        refine W.widen (k := 6) (n := 1032) (Nat.le_of_ble_eq_true rfl) (Nat.le_of_ble_eq_true rfl) ?_
        refine lv_pop hx hb dX5_tell_149 rfl ?_
        refine lv_iload hx hb dX5_tell_150 (lv_at hl 0 rfl) ?_
        refine vx_ret ?_
        refine W.widen (k := 6) (n := 1032) (Nat.le_of_ble_eq_true rfl) (Nat.le_of_ble_eq_true rfl) ?_
        have ho : o_tell σ (nI k_2) (nI k_8) = (0, nI (nR σ), addRm σ (σ 1 (7 * k_8)) (σ 1 (7 * k_8 + 1) + 1) (σ 1 (7 * k_8 + 2)) (σ 1 (7 * k_8 + 3)) (σ 2 (4 * k_2))) := by simp [o_tell, kno, ok2, ix2, ok8, ix8, hc_14, hc_20, hld, c_73, nc_73, c_90]
        exact W.iret (v := nI (nR σ)) hx hb hr (fun t ht hW => ⟨_, rfl, by rw [ht]; exact ⟨by rw [ho], by rw [ho], (su (addRm σ (σ 1 (7 * k_8)) (σ 1 (7 * k_8 + 1) + 1) (σ 1 (7 * k_8 + 2)) (σ 1 (7 * k_8 + 3)) (σ 2 (4 * k_2))) 6 0 (σ 6 0 + 1)), ad146, by rw [ho]; exact (fun a ha => by funext j; exact su_k (by omega)), had146, hP146⟩, hS146.F ht⟩) (fun z h => hS146.2.2 z h) dX5_tell_152
      · -- not taken
        obtain ⟨sa, hsa⟩ := hG.2.1.2.1 (174, "the depth would be 100") (by simp [strs])
        exact vx_throwS (names := nm2) hx hb hst hown fitS fitn (hts _ w_290) (hts _ w_69) hsa (hatS hts hG.2.1) hgoS hG.2.2.1 hG.2.2.2.1 hS (hl.1.trans hml.symm) dX5_tell_93 dX5_tell_96 dX5_tell_97 dX5_tell_99 dX5_tell_102 (fun x h => (hnt x h).elim) (Nat.le_of_ble_eq_true rfl) (Nat.le_of_ble_eq_true rfl) (Nat.le_of_ble_eq_true rfl) (Nat.le_of_ble_eq_true rfl) hlocks (fun t _ h1 h2 => ⟨(by rw [show o_tell σ (nI k_2) (nI k_8) = (2, 0, σ) from by simp [o_tell, kno, ok2, ix2, ok8, ix8, hc_14, hc_20, hld, c_73, nc_73, c_90]]; exact ⟨Nat.le_of_ble_eq_true rfl, rfl⟩), h1, h2⟩) (fun z hz => nomatch hz) (Nat.le_of_ble_eq_true rfl) (Nat.le_of_ble_eq_true rfl)
    · -- not taken
      have nc_73 : ¬ (nR σ) < 60 := fun z => c_73 ((nI_ltI (a := (nR σ)) (b := 60) (by omega) (by omega)).mpr z)
      obtain ⟨sa, hsa⟩ := hG.2.1.2.1 (89, "there are 60 rumours") (by simp [strs])
      exact vx_throwS (names := nm2) hx hb hst hown fitS fitn (hts _ w_290) (hts _ w_69) hsa (hatS hts hG.2.1) hgoS hG.2.2.1 hG.2.2.2.1 hS (hl.1.trans hml.symm) dX5_tell_76 dX5_tell_79 dX5_tell_80 dX5_tell_82 dX5_tell_85 (fun x h => (hnt x h).elim) (Nat.le_of_ble_eq_true rfl) (Nat.le_of_ble_eq_true rfl) (Nat.le_of_ble_eq_true rfl) (Nat.le_of_ble_eq_true rfl) hlocks (fun t _ h1 h2 => ⟨(by rw [show o_tell σ (nI k_2) (nI k_8) = (2, 0, σ) from by simp [o_tell, kno, ok2, ix2, ok8, ix8, hc_14, hc_20, hld, c_73, nc_73]]; exact ⟨Nat.le_of_ble_eq_true rfl, rfl⟩), h1, h2⟩) (fun z hz => nomatch hz) (Nat.le_of_ble_eq_true rfl) (Nat.le_of_ble_eq_true rfl)
  · -- some
    have hk0 := (ldp_lt hld).1
    rw [show va_rf (Option.map (fun k => ad (100 + k)) (some k0)) = .ref (ad (100 + k0)) from rfl]
    refine lv_astore (lv' := [(6, .ref (ad (100 + k0))), (5, .int ((σ 1 (7 * k_8 + 1)) + 1)), (4, .ref (ad (100 + k_8))), (3, .ref (ad (200 + k_2))), (0, .ref (ad 0)), (1, .int (nI k_2)), (2, .int (nI k_8))]) hx hb dX5_tell_45 hl (by decide) rfl (fun ls hl => ?_)
    refine lv_aload hx hb dX5_tell_47 (lv_at hl 0 rfl) ?_
    refine lv_ifnull hx hb dX5_tell_49 ?_
    refine lv_aload hx hb dX5_tell_52 (lv_at hl 0 rfl) ?_
    refine k_get (C := RX3) (T := TX3) (N := 8) hx hb hts inGX3 hown (hG.2.1).1 (hP.r hk0) rfl 3 (by decide) (hts _ w_474) (fun _ h9 => h9) (v := .int (σ 1 (7 * k0 + 1))) rfl dX5_tell_54 ?_
    refine lv_iload hx hb dX5_tell_57 (lv_at hl 1 rfl) ?_
    refine lv_icmp_gt (tgt := 64) hx hb dX5_tell_59 (by decide) (fun c_59 => ?_) (fun c_59 => ?_)
    · -- taken
      have hk59 : ¬ σ 1 (7 * k0 + 1) ≤ σ 1 (7 * k_8 + 1) + 1 := Int32.not_le.mpr c_59
      refine lv_aload_n hx hb dX5_tell_64 rfl (lv_at hl 4 rfl) ?_
      refine k_get (C := RX5) (T := TX5) (N := 11) hx hb hts inGX5 hown (hG.2.1).1 hP.o0 rfl 2 (by decide) (hts _ w_149) (fun _ h9 => h9) (v := .ref (ad 6)) rfl dX5_tell_65 ?_
      refine c_p1 (va_runV (As := []) (rest := []) ⟨hx, hb, hml, hown, hts⟩ (c_Jx4a65c_size_8abf5 l D ct (ad 6) (σ 6 0) (ad 8) (nI (nR σ))) (cwV 0 hts (GG w_185 w_186 w_187 w_64 w_188) rfl rfl rfl (by decide) ⟨Nat.le_of_ble_eq_true rfl, Nat.le_of_ble_eq_true rfl⟩) ⟨(blindT fun _ _ _ _ h => h), Ob.recv (hG.2.1).1 hP.o6 rfl, fun U hU hW => ⟨rfl, hG.2.1.warm hW, by rw [hU]; exact hP.o6⟩⟩ rfl rfl hl.1 rfl (lv_room (Nat.le_of_ble_eq_true rfl)) dX5_tell_68 ⟨Nat.le_of_ble_eq_true rfl, Nat.le_of_ble_eq_true rfl⟩) ?_
      refine lv_bipush (v := 60) hx hb dX5_tell_71 (by decide) ?_
      refine lv_icmp_lt (tgt := 86) hx hb dX5_tell_73 (by decide) (fun c_73 => ?_) (fun c_73 => ?_)
      · -- taken
        have nc_73 : (nR σ) < 60 := (nI_ltI (a := (nR σ)) (b := 60) (by omega) (by omega)).mp c_73
        refine lv_iload hx hb dX5_tell_86 (lv_at hl 1 rfl) ?_
        refine lv_bipush (v := 99) hx hb dX5_tell_88 (by decide) ?_
        refine lv_icmp_le (tgt := 103) hx hb dX5_tell_90 (by decide) (fun c_90 => ?_) (fun c_90 => ?_)
        · -- taken
          refine lv_aload_n hx hb dX5_tell_103 rfl (lv_at hl 4 rfl) ?_
          refine k_get (C := RX5) (T := TX5) (N := 11) hx hb hts inGX5 hown (hG.2.1).1 hP.o0 rfl 2 (by decide) (hts _ w_149) (fun _ h9 => h9) (v := .ref (ad 6)) rfl dX5_tell_104 ?_
          refine c_p1 (va_runV (As := []) (rest := []) ⟨hx, hb, hml, hown, hts⟩ (c_Jx4a65c_size_8abf5 l D ct (ad 6) (σ 6 0) (ad 8) (nI (nR σ))) (cwV 0 hts (GG w_185 w_186 w_187 w_64 w_188) rfl rfl rfl (by decide) ⟨Nat.le_of_ble_eq_true rfl, Nat.le_of_ble_eq_true rfl⟩) ⟨(blindT fun _ _ _ _ h => h), Ob.recv (hG.2.1).1 hP.o6 rfl, fun U hU hW => ⟨rfl, hG.2.1.warm hW, by rw [hU]; exact hP.o6⟩⟩ rfl rfl hl.1 rfl (lv_room (Nat.le_of_ble_eq_true rfl)) dX5_tell_107 ⟨Nat.le_of_ble_eq_true rfl, Nat.le_of_ble_eq_true rfl⟩) ?_
          refine lv_istore (lv' := [(7, .int (nI (nR σ))), (6, .ref (ad (100 + k0))), (5, .int ((σ 1 (7 * k_8 + 1)) + 1)), (4, .ref (ad (100 + k_8))), (3, .ref (ad (200 + k_2))), (0, .ref (ad 0)), (1, .int (nI k_2)), (2, .int (nI k_8))]) hx hb dX5_tell_110 hl (by decide) rfl (fun ls hl => ?_)
          refine lv_aload_n hx hb dX5_tell_112 rfl (lv_at hl 5 rfl) ?_
          refine k_get (C := RX5) (T := TX5) (N := 11) hx hb hts inGX5 hown (hG.2.1).1 hP.o0 rfl 2 (by decide) (hts _ w_149) (fun _ h9 => h9) (v := .ref (ad 6)) rfl dX5_tell_113 ?_
          refine k_new (C := RX3) (T := TX3) (N := 8) (ci := 4) hx hb hts inGX3 tyX3 tyX3_ok hown (hts _ w_203) (hts _ w_460) (hts _ w_75) (hG.2.1).1 hS rfl (fs := [.int 0, .int 0, .int 0, .int 0, .int 0, .int 0, .int 0, .int 0]) (fun j hj => match j, hj with | 0, _ => rfl | 1, _ => rfl | 2, _ => rfl | 3, _ => rfl | 4, _ => rfl | 5, _ => rfl | 6, _ => rfl | 7, _ => rfl | (j + 8), h => absurd h (by omega)) (Nat.le_of_ble_eq_true rfl) (Nat.le_of_ble_eq_true rfl) dX5_tell_116 (fun H116 hN116 hz116 hq116 hS116 => ?_)
          refine W.widen (k := 5) (n := 32) (Nat.le_of_ble_eq_true rfl) (Nat.le_of_ble_eq_true rfl) ?_
          have hP116 := hP.kept hq116
          refine lv_dup hx hb dX5_tell_119 rfl ?_
          refine lv_iload hx hb dX5_tell_120 (lv_at hl 0 rfl) ?_
          refine lv_aload hx hb dX5_tell_122 (lv_at hl 3 rfl) ?_
          refine k_get (C := RX3) (T := TX3) (N := 8) hx hb hts inGX3 hown (hG.2.1).1 (hP116.r hk_8) rfl 1 (by decide) (hts _ w_468) (fun _ h9 => h9) (v := .int (σ 1 (7 * k_8 + 3))) rfl dX5_tell_124 ?_
          refine lv_aload hx hb dX5_tell_127 (lv_at hl 3 rfl) ?_
          refine k_get (C := RX3) (T := TX3) (N := 8) hx hb hts inGX3 hown (hG.2.1).1 (hP116.r hk_8) rfl 2 (by decide) (hts _ w_471) (fun _ h9 => h9) (v := .int (σ 1 (7 * k_8))) rfl dX5_tell_129 ?_
          refine lv_iload hx hb dX5_tell_132 (lv_at hl 2 rfl) ?_
          refine lv_aload hx hb dX5_tell_134 (lv_at hl 3 rfl) ?_
          refine k_get (C := RX3) (T := TX3) (N := 8) hx hb hts inGX3 hown (hG.2.1).1 (hP116.r hk_8) rfl 4 (by decide) (hts _ w_477) (fun _ h9 => h9) (v := .int (σ 1 (7 * k_8 + 2))) rfl dX5_tell_136 ?_
          refine lv_aload_n hx hb dX5_tell_139 rfl (lv_at hl 4 rfl) ?_
          refine k_get (C := RX0) (T := TX0) (N := 5) hx hb hts inGX0 hown (hG.2.1).1 (hP116.c hk_2) rfl 1 (by decide) (hts _ w_627) (fun _ h9 => h9) (v := .int (σ 2 (4 * k_2))) rfl dX5_tell_140 ?_
          refine c_w0 (va_runI (As := [.int (nI (nR σ)), .int (σ 1 (7 * k_8 + 3)), .int (σ 1 (7 * k_8)), .int ((σ 1 (7 * k_8 + 1)) + 1), .int (σ 1 (7 * k_8 + 2)), .int (σ 2 (4 * k_2))]) (rest := [.ref s.heap.size, .ref (ad 6)]) ⟨hx, hb, hml, hown, hts⟩ (c_X3_init l D ct s.heap.size 0 0 0 0 0 0 0 0 (nI (nR σ)) (σ 1 (7 * k_8 + 3)) (σ 1 (7 * k_8)) ((σ 1 (7 * k_8 + 1)) + 1) (σ 1 (7 * k_8 + 2)) (σ 2 (4 * k_2))) (cwI 6 hts (GGS (own := "RumourCustoms") (idx := 93) w_463) rfl rfl rfl (hts _ w_75) (hts _ w_461) (hts _ w_462) rfl (by decide) ⟨Nat.le_of_ble_eq_true rfl, Nat.le_of_ble_eq_true rfl⟩) ⟨(blindT fun _ _ _ _ h => h), fun U hU hW => ⟨rfl, hG.2.1.warm hW, by rw [hU]; exact hN116⟩⟩ rfl rfl hl.1 rfl (lv_room (Nat.le_of_ble_eq_true rfl)) dX5_tell_143 ⟨Nat.le_of_ble_eq_true rfl, Nat.le_of_ble_eq_true rfl⟩) hS116 (fun z => absurd (hG.1 _ z) (by omega)) (fun _ h => Ob.lt h) (fun H143 locs143 hO143 hq143 hS143 => ?_)
          have hb143 : ∀ q : Nat, q < s.heap.size → H143[q]? = s.heap[q]? := fun q h => (hq143 q (Nat.ne_of_lt h)).trans (hq116 q h)
          have hP143 := hP.kept hb143
          have hZd : Z dc := hG.2.2.2.2.2.1
          obtain ⟨p1, p2, p3, p4, p5, p6, p7⟩ := hP143.preR hZd
          have hy : ∀ i, us σ i → ad i ≠ s.heap.size := fun i hi => Nat.ne_of_lt (va_at.lt (hP.1 i hi).1)
          have hyz : ¬ Z s.heap.size := (fun z => absurd (hG.1 _ z) (by omega))
          refine c_s1 (va_runV (As := [.ref s.heap.size]) (rest := []) ⟨hx, hb, hml, hown, hts⟩ (c_add l D ct Z dc H143 (ad 6) (σ 6 0) (nR σ) (ad 20) (ad 8) 4 s.heap.size ([.int (nI (nR σ)), .int (σ 1 (7 * k_8 + 3)), .int (σ 1 (7 * k_8)), .int ((σ 1 (7 * k_8 + 1)) + 1), .int (σ 1 (7 * k_8 + 2)), .int (σ 2 (4 * k_2)), .int (-1), .int 0]) (lq ad 100 (nR σ)) hP143.2.2.1.1.1 hP143.2.2.1.1.2.1 (by omega) p1 p2 p3 (hP143.nz (us_lt (by decide))) p4 (Or.inl rfl) p5 (fun j h => lq_none j h) (fun z => hy 6 (us_lt (by decide)) z.symm) p6) (cwV 1 hts (GG w_500 w_501 w_502 w_64 w_503) rfl rfl rfl (by decide) ⟨Nat.le_of_ble_eq_true rfl, Nat.le_of_ble_eq_true rfl⟩) ⟨(blindF fun _ _ _ _ h => h), Ob.recv (hG.2.1).1 hP143.o6 rfl, fun U hU hW => ⟨rfl, hG.up hW hS143 hU, ⟨hU, by rw [hU]; exact ⟨hP143.o6, hP143.a8 (hG.dcA hS143), hO143⟩⟩⟩⟩ rfl rfl hl.1 rfl (lv_room (Nat.le_of_ble_eq_true rfl)) dX5_tell_146 ⟨Nat.le_of_ble_eq_true rfl, Nat.le_of_ble_eq_true rfl⟩) hS143 (fun x146 H146 locs146 hR146 hzz146 hS146 => ?_)
          obtain ⟨rfl, hR146⟩ := hR146
          obtain ⟨ad146, had146, hP146⟩ := hP143.makeR hZd (fun q hq => Nat.lt_of_lt_of_le (hG.1 q hq) hS143.1) nc_73 hy hyz (l := σ 1 (7 * k_8)) (d := σ 1 (7 * k_8 + 1) + 1) (p := σ 1 (7 * k_8 + 2)) (f := σ 1 (7 * k_8 + 3)) (t := σ 2 (4 * k_2)) hO143 hR146
          refine W.widen (k := 6) (n := 1032) (Nat.le_of_ble_eq_true rfl) (Nat.le_of_ble_eq_true rfl) ?_
          refine lv_pop hx hb dX5_tell_149 rfl ?_
          refine lv_iload hx hb dX5_tell_150 (lv_at hl 0 rfl) ?_
          refine vx_ret ?_
          refine W.widen (k := 6) (n := 1032) (Nat.le_of_ble_eq_true rfl) (Nat.le_of_ble_eq_true rfl) ?_
          have ho : o_tell σ (nI k_2) (nI k_8) = (0, nI (nR σ), addRm σ (σ 1 (7 * k_8)) (σ 1 (7 * k_8 + 1) + 1) (σ 1 (7 * k_8 + 2)) (σ 1 (7 * k_8 + 3)) (σ 2 (4 * k_2))) := by simp [o_tell, kno, ok2, ix2, ok8, ix8, hc_14, hc_20, hld, hk59, c_73, nc_73, c_90]
          exact W.iret (v := nI (nR σ)) hx hb hr (fun t ht hW => ⟨_, rfl, by rw [ht]; exact ⟨by rw [ho], by rw [ho], (su (addRm σ (σ 1 (7 * k_8)) (σ 1 (7 * k_8 + 1) + 1) (σ 1 (7 * k_8 + 2)) (σ 1 (7 * k_8 + 3)) (σ 2 (4 * k_2))) 6 0 (σ 6 0 + 1)), ad146, by rw [ho]; exact (fun a ha => by funext j; exact su_k (by omega)), had146, hP146⟩, hS146.F ht⟩) (fun z h => hS146.2.2 z h) dX5_tell_152
        · -- not taken
          obtain ⟨sa, hsa⟩ := hG.2.1.2.1 (174, "the depth would be 100") (by simp [strs])
          exact vx_throwS (names := nm2) hx hb hst hown fitS fitn (hts _ w_290) (hts _ w_69) hsa (hatS hts hG.2.1) hgoS hG.2.2.1 hG.2.2.2.1 hS (hl.1.trans hml.symm) dX5_tell_93 dX5_tell_96 dX5_tell_97 dX5_tell_99 dX5_tell_102 (fun x h => (hnt x h).elim) (Nat.le_of_ble_eq_true rfl) (Nat.le_of_ble_eq_true rfl) (Nat.le_of_ble_eq_true rfl) (Nat.le_of_ble_eq_true rfl) hlocks (fun t _ h1 h2 => ⟨(by rw [show o_tell σ (nI k_2) (nI k_8) = (2, 0, σ) from by simp [o_tell, kno, ok2, ix2, ok8, ix8, hc_14, hc_20, hld, hk59, c_73, nc_73, c_90]]; exact ⟨Nat.le_of_ble_eq_true rfl, rfl⟩), h1, h2⟩) (fun z hz => nomatch hz) (Nat.le_of_ble_eq_true rfl) (Nat.le_of_ble_eq_true rfl)
      · -- not taken
        have nc_73 : ¬ (nR σ) < 60 := fun z => c_73 ((nI_ltI (a := (nR σ)) (b := 60) (by omega) (by omega)).mpr z)
        obtain ⟨sa, hsa⟩ := hG.2.1.2.1 (89, "there are 60 rumours") (by simp [strs])
        exact vx_throwS (names := nm2) hx hb hst hown fitS fitn (hts _ w_290) (hts _ w_69) hsa (hatS hts hG.2.1) hgoS hG.2.2.1 hG.2.2.2.1 hS (hl.1.trans hml.symm) dX5_tell_76 dX5_tell_79 dX5_tell_80 dX5_tell_82 dX5_tell_85 (fun x h => (hnt x h).elim) (Nat.le_of_ble_eq_true rfl) (Nat.le_of_ble_eq_true rfl) (Nat.le_of_ble_eq_true rfl) (Nat.le_of_ble_eq_true rfl) hlocks (fun t _ h1 h2 => ⟨(by rw [show o_tell σ (nI k_2) (nI k_8) = (2, 0, σ) from by simp [o_tell, kno, ok2, ix2, ok8, ix8, hc_14, hc_20, hld, hk59, c_73, nc_73]]; exact ⟨Nat.le_of_ble_eq_true rfl, rfl⟩), h1, h2⟩) (fun z hz => nomatch hz) (Nat.le_of_ble_eq_true rfl) (Nat.le_of_ble_eq_true rfl)
    · -- not taken
      have hk59 : σ 1 (7 * k0 + 1) ≤ σ 1 (7 * k_8 + 1) + 1 := Int32.not_lt.mp c_59
      refine lv_iconst (v := (-1)) hx hb dX5_tell_62 (by decide) ?_
      refine vx_ret ?_
      refine W.widen (k := 6) (n := 1032) (Nat.le_of_ble_eq_true rfl) (Nat.le_of_ble_eq_true rfl) ?_
      have ho : o_tell σ (nI k_2) (nI k_8) = (0, (-1), σ) := by simp [o_tell, kno, ok2, ix2, ok8, ix8, hc_14, hc_20, hld, hk59]
      exact W.iret (v := (-1)) hx hb hr (fun t ht hW => ⟨_, rfl, by rw [ht]; exact ⟨by rw [ho], by rw [ho], σ, ad, by rw [ho]; exact SC.rf, rfl, hP⟩, hS.F ht⟩) (fun z h => hS.2.2 z h) dX5_tell_63

/-! build -/
set_option maxHeartbeats 4000000 in
set_option maxRecDepth 100000 in
theorem c_X5_build (l : Launch) (D : va_G) (ct : Nat → ClassId) (Z : Nat → Prop) (dc : Nat) (σ : Stt) (ad : Nat → Nat) (hst : l.stackTraces = false) (a b hrs trf srg stc : Int32) (hI : Inv σ) : vx_Met l yX5_build (.code yX5_build cX5_build 7 (some .int) :: GW) ({ frames := 7, cells := 7, slots := 42, locals := 104 } : Room) (va_Pc [.ref (ad 0), .int a, .int b, .int hrs, .int trf, .int srg, .int stc] (fun U => GF D ct Z dc U U.heap ∧ Pic D ct Z dc σ ad U.heap)) (qS1 Z (fun x h => (o_build σ a b hrs trf srg stc).1 = 0 ∧ x = .int (o_build σ a b hrs trf srg stc).2.1 ∧ ∃ (σ1 : Stt) (ad1 : Nat → Nat), SC (o_build σ a b hrs trf srg stc).2.2 σ1 ∧ ad1 0 = ad 0 ∧ Pic D ct Z dc σ1 ad1 h)) (xK (fun E => exn ["java/lang/IndexOutOfBoundsException", "java/lang/IllegalArgumentException", "java/lang/IllegalStateException"] (o_build σ a b hrs trf srg stc).1 E)) 7 42 (nZ Z) := by
  refine mx_in (cc := cX5_build) [.ref (ad 0), .int a, .int b, .int hrs, .int trf, .int srg, .int stc] "RumourCustoms" rfl (by decide) (Nat.le_of_ble_eq_true rfl) ?_
  intro pg e s m args below meth cd ls hx hb hml hown hts hr hlocks hnt hPr hl
  obtain ⟨hG, hP⟩ := hPr
  have hl : lv_has ls 7 [(0, .ref (ad 0)), (1, .int a), (2, .int b), (3, .int hrs), (4, .int trf), (5, .int srg), (6, .int stc)] := hl
  have hS : va_S (nZ Z) s.heap s.heap [] := va_S.rf
  have hn := hP.2.2.2.1
  have hnC := hP.2.2.2.2
  have hT1 := hI.1.1
  have hT10 := hI.1.2
  have hR1 := hI.2.1.1
  have hC1 := hI.2.2.1.1
  have hH : ∀ i, i < nR σ → σ 1 (7 * i + 6) = 0 ∨ σ 1 (7 * i + 6) = 1 := fun i hi => (hI.2.2.2.1 i hi).2.2.2.2.2
  refine lv_aload_n hx hb dX5_build_0 rfl (lv_at hl 0 rfl) ?_
  refine lv_iload_n hx hb dX5_build_1 rfl (lv_at hl 1 rfl) ?_
  refine c_x0C (vx_runV (As := [.int a]) (rest := []) ⟨hx, hb, hml, hown, hts⟩ (c_X5_requireTown l D ct Z dc σ ad hst a) (cwV 1 hts (GG w_367 w_369 w_10 w_59 w_370) rfl rfl rfl (by decide) ⟨Nat.le_of_ble_eq_true rfl, Nat.le_of_ble_eq_true rfl⟩) ⟨(blindF fun _ _ _ _ h => h), Ob.recv (hG.2.1).1 hP.o0 rfl, fun U hU hW => ⟨rfl, hG.up hW hS hU, by rw [hU]; exact hP⟩⟩ rfl rfl hl.1 rfl (lv_room (Nat.le_of_ble_eq_true rfl)) dX5_build_2 ⟨Nat.le_of_ble_eq_true rfl, Nat.le_of_ble_eq_true rfl⟩) hS (fun E ce q9 H1 hp hk hS1 hce hcv hcl => vx_widen (k := 7) (n := 42) (Nat.le_of_ble_eq_true rfl) (Nat.le_of_ble_eq_true rfl) (vx_out (fun x h => (hnt x h).elim) hlocks hce hcv hcl (fun t ht _ => ⟨(by obtain ⟨rfl, hf⟩ := hp; rw [show o_build σ a b hrs trf srg stc = (1, 0, σ) from by simp [o_build, hf]]; exact ⟨Nat.le_of_ble_eq_true rfl, rfl⟩), by rw [ht]; exact hk⟩) (fun z hz => nomatch hz) (Nat.le_refl _) (Nat.le_refl _))) (fun hc_2 => ?_)
  obtain ⟨t2, ht2, hv2⟩ := okT hT1 hT10 hc_2
  subst hv2
  have ix2 : ix (nI t2) = t2 := ix_n (by omega)
  refine lv_aload_n hx hb dX5_build_5 rfl (lv_at hl 0 rfl) ?_
  refine lv_iload_n hx hb dX5_build_6 rfl (lv_at hl 2 rfl) ?_
  refine c_x0C (vx_runV (As := [.int b]) (rest := []) ⟨hx, hb, hml, hown, hts⟩ (c_X5_requireTown l D ct Z dc σ ad hst b) (cwV 1 hts (GG w_367 w_369 w_10 w_59 w_370) rfl rfl rfl (by decide) ⟨Nat.le_of_ble_eq_true rfl, Nat.le_of_ble_eq_true rfl⟩) ⟨(blindF fun _ _ _ _ h => h), Ob.recv (hG.2.1).1 hP.o0 rfl, fun U hU hW => ⟨rfl, hG.up hW hS hU, by rw [hU]; exact hP⟩⟩ rfl rfl hl.1 rfl (lv_room (Nat.le_of_ble_eq_true rfl)) dX5_build_7 ⟨Nat.le_of_ble_eq_true rfl, Nat.le_of_ble_eq_true rfl⟩) hS (fun E ce q9 H1 hp hk hS1 hce hcv hcl => vx_widen (k := 7) (n := 42) (Nat.le_of_ble_eq_true rfl) (Nat.le_of_ble_eq_true rfl) (vx_out (fun x h => (hnt x h).elim) hlocks hce hcv hcl (fun t ht _ => ⟨(by obtain ⟨rfl, hf⟩ := hp; rw [show o_build σ (nI t2) b hrs trf srg stc = (1, 0, σ) from by simp [o_build, hc_2, ix2, hf]]; exact ⟨Nat.le_of_ble_eq_true rfl, rfl⟩), by rw [ht]; exact hk⟩) (fun z hz => nomatch hz) (Nat.le_refl _) (Nat.le_refl _))) (fun hc_7 => ?_)
  obtain ⟨t7, ht7, hv7⟩ := okT hT1 hT10 hc_7
  subst hv7
  have ix7 : ix (nI t7) = t7 := ix_n (by omega)
  refine lv_iload_n hx hb dX5_build_10 rfl (lv_at hl 1 rfl) ?_
  refine lv_iload_n hx hb dX5_build_11 rfl (lv_at hl 2 rfl) ?_
  refine lv_icmp_ne (tgt := 25) hx hb dX5_build_12 (by decide) (fun c_12 => ?_) (fun c_12 => ?_)
  · -- taken
    have nc_12 : ¬ t2 = t7 := fun z => c_12 ((nI_eq (a := t2) (b := t7) (by omega) (by omega)).mpr z)
    refine lv_iload_n hx hb dX5_build_25 rfl (lv_at hl 3 rfl) ?_
    refine lv_iconst (v := 1) hx hb dX5_build_26 (by decide) ?_
    refine lv_bipush (v := 9) hx hb dX5_build_27 (by decide) ?_
    refine c_x0C (vx_runS (As := [.int hrs, .int 1, .int 9]) (rest := []) ⟨hx, hb, hml, hown, hts⟩ (c_X5_requireWithin l D ct Z dc σ ad hst hrs 1 9) (k_cwS 3 hts w_403 w_404 w_59 w_405 rfl rfl (by decide) ⟨Nat.le_of_ble_eq_true rfl, Nat.le_of_ble_eq_true rfl⟩) ⟨(blindF fun _ _ _ _ h => h), fun U hU hW => ⟨rfl, hG.up hW hS hU, by rw [hU]; exact hP⟩⟩ rfl rfl hl.1 rfl (lv_room (Nat.le_of_ble_eq_true rfl)) dX5_build_29 ⟨Nat.le_of_ble_eq_true rfl, Nat.le_of_ble_eq_true rfl⟩) hS (fun E ce q9 H1 hp hk hS1 hce hcv hcl => vx_widen (k := 7) (n := 42) (Nat.le_of_ble_eq_true rfl) (Nat.le_of_ble_eq_true rfl) (vx_out (fun x h => (hnt x h).elim) hlocks hce hcv hcl (fun t ht _ => ⟨(by obtain ⟨rfl, hf⟩ := hp; rw [show o_build σ (nI t2) (nI t7) hrs trf srg stc = (2, 0, σ) from by simp [o_build, hc_2, ix2, hc_7, ix7, c_12, nc_12, hf]]; exact ⟨Nat.le_of_ble_eq_true rfl, rfl⟩), by rw [ht]; exact hk⟩) (fun z hz => nomatch hz) (Nat.le_refl _) (Nat.le_refl _))) (fun hc_29 => ?_)
    refine lv_iload hx hb dX5_build_32 (lv_at hl 4 rfl) ?_
    refine lv_iconst (v := 0) hx hb dX5_build_34 (by decide) ?_
    refine lv_bipush (v := 20) hx hb dX5_build_35 (by decide) ?_
    refine c_x0C (vx_runS (As := [.int trf, .int 0, .int 20]) (rest := []) ⟨hx, hb, hml, hown, hts⟩ (c_X5_requireWithin l D ct Z dc σ ad hst trf 0 20) (k_cwS 3 hts w_403 w_404 w_59 w_405 rfl rfl (by decide) ⟨Nat.le_of_ble_eq_true rfl, Nat.le_of_ble_eq_true rfl⟩) ⟨(blindF fun _ _ _ _ h => h), fun U hU hW => ⟨rfl, hG.up hW hS hU, by rw [hU]; exact hP⟩⟩ rfl rfl hl.1 rfl (lv_room (Nat.le_of_ble_eq_true rfl)) dX5_build_37 ⟨Nat.le_of_ble_eq_true rfl, Nat.le_of_ble_eq_true rfl⟩) hS (fun E ce q9 H1 hp hk hS1 hce hcv hcl => vx_widen (k := 7) (n := 42) (Nat.le_of_ble_eq_true rfl) (Nat.le_of_ble_eq_true rfl) (vx_out (fun x h => (hnt x h).elim) hlocks hce hcv hcl (fun t ht _ => ⟨(by obtain ⟨rfl, hf⟩ := hp; rw [show o_build σ (nI t2) (nI t7) hrs trf srg stc = (2, 0, σ) from by simp [o_build, hc_2, ix2, hc_7, ix7, c_12, nc_12, hc_29, hf]]; exact ⟨Nat.le_of_ble_eq_true rfl, rfl⟩), by rw [ht]; exact hk⟩) (fun z hz => nomatch hz) (Nat.le_refl _) (Nat.le_refl _))) (fun hc_37 => ?_)
    refine lv_iload hx hb dX5_build_40 (lv_at hl 5 rfl) ?_
    refine lv_iconst (v := 0) hx hb dX5_build_42 (by decide) ?_
    refine lv_bipush (v := 30) hx hb dX5_build_43 (by decide) ?_
    refine c_x0C (vx_runS (As := [.int srg, .int 0, .int 30]) (rest := []) ⟨hx, hb, hml, hown, hts⟩ (c_X5_requireWithin l D ct Z dc σ ad hst srg 0 30) (k_cwS 3 hts w_403 w_404 w_59 w_405 rfl rfl (by decide) ⟨Nat.le_of_ble_eq_true rfl, Nat.le_of_ble_eq_true rfl⟩) ⟨(blindF fun _ _ _ _ h => h), fun U hU hW => ⟨rfl, hG.up hW hS hU, by rw [hU]; exact hP⟩⟩ rfl rfl hl.1 rfl (lv_room (Nat.le_of_ble_eq_true rfl)) dX5_build_45 ⟨Nat.le_of_ble_eq_true rfl, Nat.le_of_ble_eq_true rfl⟩) hS (fun E ce q9 H1 hp hk hS1 hce hcv hcl => vx_widen (k := 7) (n := 42) (Nat.le_of_ble_eq_true rfl) (Nat.le_of_ble_eq_true rfl) (vx_out (fun x h => (hnt x h).elim) hlocks hce hcv hcl (fun t ht _ => ⟨(by obtain ⟨rfl, hf⟩ := hp; rw [show o_build σ (nI t2) (nI t7) hrs trf srg stc = (2, 0, σ) from by simp [o_build, hc_2, ix2, hc_7, ix7, c_12, nc_12, hc_29, hc_37, hf]]; exact ⟨Nat.le_of_ble_eq_true rfl, rfl⟩), by rw [ht]; exact hk⟩) (fun z hz => nomatch hz) (Nat.le_refl _) (Nat.le_refl _))) (fun hc_45 => ?_)
    refine lv_iload hx hb dX5_build_48 (lv_at hl 6 rfl) ?_
    refine lv_iconst (v := 0) hx hb dX5_build_50 (by decide) ?_
    refine lv_bipush (v := 9) hx hb dX5_build_51 (by decide) ?_
    refine c_x0C (vx_runS (As := [.int stc, .int 0, .int 9]) (rest := []) ⟨hx, hb, hml, hown, hts⟩ (c_X5_requireWithin l D ct Z dc σ ad hst stc 0 9) (k_cwS 3 hts w_403 w_404 w_59 w_405 rfl rfl (by decide) ⟨Nat.le_of_ble_eq_true rfl, Nat.le_of_ble_eq_true rfl⟩) ⟨(blindF fun _ _ _ _ h => h), fun U hU hW => ⟨rfl, hG.up hW hS hU, by rw [hU]; exact hP⟩⟩ rfl rfl hl.1 rfl (lv_room (Nat.le_of_ble_eq_true rfl)) dX5_build_53 ⟨Nat.le_of_ble_eq_true rfl, Nat.le_of_ble_eq_true rfl⟩) hS (fun E ce q9 H1 hp hk hS1 hce hcv hcl => vx_widen (k := 7) (n := 42) (Nat.le_of_ble_eq_true rfl) (Nat.le_of_ble_eq_true rfl) (vx_out (fun x h => (hnt x h).elim) hlocks hce hcv hcl (fun t ht _ => ⟨(by obtain ⟨rfl, hf⟩ := hp; rw [show o_build σ (nI t2) (nI t7) hrs trf srg stc = (2, 0, σ) from by simp [o_build, hc_2, ix2, hc_7, ix7, c_12, nc_12, hc_29, hc_37, hc_45, hf]]; exact ⟨Nat.le_of_ble_eq_true rfl, rfl⟩), by rw [ht]; exact hk⟩) (fun z hz => nomatch hz) (Nat.le_refl _) (Nat.le_refl _))) (fun hc_53 => ?_)
    refine lv_aload_n hx hb dX5_build_56 rfl (lv_at hl 0 rfl) ?_
    refine k_get (C := RX5) (T := TX5) (N := 11) hx hb hts inGX5 hown (hG.2.1).1 hP.o0 rfl 0 (by decide) (hts _ w_147) (fun _ h9 => h9) (v := .ref (ad 1)) rfl dX5_build_57 ?_
    refine lv_iload_n hx hb dX5_build_60 rfl (lv_at hl 1 rfl) ?_
    refine lv_iload_n hx hb dX5_build_61 rfl (lv_at hl 2 rfl) ?_
    refine c_p1 (va_runV (As := [.int (nI t2), .int (nI t7)]) (rest := []) ⟨hx, hb, hml, hown, hts⟩ (c_X2_between l D ct Z dc σ ad t2 t7 (by omega) (by omega)) (cwV 2 hts (GG w_235 w_236 w_237 w_60 w_238) rfl rfl rfl (by decide) ⟨Nat.le_of_ble_eq_true rfl, Nat.le_of_ble_eq_true rfl⟩) ⟨(blindT fun _ _ _ _ h => h), Ob.recv (hG.2.1).1 hP.o1 rfl, fun U hU hW => ⟨rfl, hG.2.1.warm hW, by rw [hU]; exact hP⟩⟩ rfl rfl hl.1 rfl (lv_room (Nat.le_of_ble_eq_true rfl)) dX5_build_62 ⟨Nat.le_of_ble_eq_true rfl, Nat.le_of_ble_eq_true rfl⟩) ?_
    have hkd : rk t2 t7 < 100 := rk_lt (by omega) (by omega)
    by_cases hrd : σ 3 (7 * rk t2 t7) = 1
    · -- road
      rw [show va_rf (rdb σ ad t2 t7) = .ref (ad (300 + rk t2 t7)) from by rw [rdb, if_pos hrd]; rfl]
      refine lv_ifnull hx hb dX5_build_65 ?_
      obtain ⟨sa, hsa⟩ := hG.2.1.2.1 (63, "there is a road between them") (by simp [strs])
      exact vx_throwS (names := nm2) hx hb hst hown fitS fitn (hts _ w_290) (hts _ w_69) hsa (hatS hts hG.2.1) hgoS hG.2.2.1 hG.2.2.2.1 hS (hl.1.trans hml.symm) dX5_build_68 dX5_build_71 dX5_build_72 dX5_build_74 dX5_build_77 (fun x h => (hnt x h).elim) (Nat.le_of_ble_eq_true rfl) (Nat.le_of_ble_eq_true rfl) (Nat.le_of_ble_eq_true rfl) (Nat.le_of_ble_eq_true rfl) hlocks (fun t _ h1 h2 => ⟨(by rw [show o_build σ (nI t2) (nI t7) hrs trf srg stc = (3, 0, σ) from by simp [o_build, hc_2, ix2, hc_7, ix7, c_12, nc_12, hc_29, hc_37, hc_45, hc_53, hrd]]; exact ⟨Nat.le_of_ble_eq_true rfl, rfl⟩), h1, h2⟩) (fun z hz => nomatch hz) (Nat.le_of_ble_eq_true rfl) (Nat.le_of_ble_eq_true rfl)
    · -- none
      rw [show va_rf (rdb σ ad t2 t7) = .null from by rw [rdb, if_neg hrd]; rfl]
      refine lv_ifnullN (tgt := 78) hx hb dX5_build_65 (by decide) ?_
      refine lv_aload_n hx hb dX5_build_78 rfl (lv_at hl 0 rfl) ?_
      refine k_get (C := RX5) (T := TX5) (N := 11) hx hb hts inGX5 hown (hG.2.1).1 hP.o0 rfl 0 (by decide) (hts _ w_147) (fun _ h9 => h9) (v := .ref (ad 1)) rfl dX5_build_79 ?_
      refine lv_iload_n hx hb dX5_build_82 rfl (lv_at hl 1 rfl) ?_
      refine lv_iload_n hx hb dX5_build_83 rfl (lv_at hl 2 rfl) ?_
      refine k_new (C := RX1) (T := TX1) (N := 6) (ci := 2) hx hb hts inGX1 tyX1 tyX1_ok hown (hts _ w_408) (hts _ w_409) (hts _ w_72) (hG.2.1).1 hS rfl (fs := [.int 0, .int 0, .int 0, .int 0, .int 0, .int 0]) (fun j hj => match j, hj with | 0, _ => rfl | 1, _ => rfl | 2, _ => rfl | 3, _ => rfl | 4, _ => rfl | 5, _ => rfl | (j + 6), h => absurd h (by omega)) (Nat.le_of_ble_eq_true rfl) (Nat.le_of_ble_eq_true rfl) dX5_build_84 (fun H84 hN84 hz84 hq84 hS84 => ?_)
      refine W.widen (k := 7) (n := 42) (Nat.le_of_ble_eq_true rfl) (Nat.le_of_ble_eq_true rfl) ?_
      have hP84 := hP.kept hq84
      refine lv_dup hx hb dX5_build_87 rfl ?_
      refine lv_iload_n hx hb dX5_build_88 rfl (lv_at hl 3 rfl) ?_
      refine lv_iload hx hb dX5_build_89 (lv_at hl 4 rfl) ?_
      refine lv_iload hx hb dX5_build_91 (lv_at hl 5 rfl) ?_
      refine lv_iload hx hb dX5_build_93 (lv_at hl 6 rfl) ?_
      refine c_w0 (va_runI (As := [.int hrs, .int trf, .int srg, .int stc]) (rest := [.ref s.heap.size, .int (nI t7), .int (nI t2), .ref (ad 1)]) ⟨hx, hb, hml, hown, hts⟩ (c_X1_init l D ct s.heap.size 0 0 0 0 0 0 hrs trf srg stc) (cwI 4 hts (GGS (own := "RumourCustoms") (idx := 67) w_412) rfl rfl rfl (hts _ w_72) (hts _ w_410) (hts _ w_411) rfl (by decide) ⟨Nat.le_of_ble_eq_true rfl, Nat.le_of_ble_eq_true rfl⟩) ⟨(blindT fun _ _ _ _ h => h), fun U hU hW => ⟨rfl, hG.2.1.warm hW, by rw [hU]; exact hN84⟩⟩ rfl rfl hl.1 rfl (lv_room (Nat.le_of_ble_eq_true rfl)) dX5_build_95 ⟨Nat.le_of_ble_eq_true rfl, Nat.le_of_ble_eq_true rfl⟩) hS84 (fun z => absurd (hG.1 _ z) (by omega)) (fun _ h => Ob.lt h) (fun H95 locs95 hO95 hq95 hS95 => ?_)
      have hb95 : ∀ q : Nat, q < s.heap.size → H95[q]? = s.heap[q]? := fun q h => (hq95 q (Nat.ne_of_lt h)).trans (hq84 q h)
      have hP95 := hP.kept hb95
      have hy : ∀ i, us σ i → ad i ≠ s.heap.size := fun i hi => Nat.ne_of_lt (va_at.lt (hP.1 i hi).1)
      have hyz : ¬ Z s.heap.size := (fun z => absurd (hG.1 _ z) (by omega))
      have h12 : ad 1 ≠ ad 2 := fun z => absurd (hP.2.1 1 2 (us_lt (by decide)) (us_lt (by decide)) z) (by decide)
      refine c_s0 (va_runV (As := [.int (nI t2), .int (nI t7), .ref s.heap.size]) (rest := []) ⟨hx, hb, hml, hown, hts⟩ (c_X2_put l D ct Z dc H95 (ad 1) (ad 2) s.heap.size t2 t7 ([.int hrs, .int trf, .int srg, .int stc, .int 0, .int 0]) (rdq σ ad) (by omega) (by omega) (hP95.nz (us_lt (by decide))) (fun z => hy 2 (us_lt (by decide)) z.symm) h12) (cwV 3 hts (GG w_437 w_438 w_439 w_60 w_440) rfl rfl rfl (by decide) ⟨Nat.le_of_ble_eq_true rfl, Nat.le_of_ble_eq_true rfl⟩) ⟨(blindF fun _ _ _ _ h => h), Ob.recv (hG.2.1).1 hP95.o1 rfl, fun U hU hW => ⟨rfl, hG.up hW hS95 hU, ⟨hU, by rw [hU]; exact ⟨hP95.o1, hP95.o2, hO95⟩⟩⟩⟩ rfl rfl hl.1 rfl (lv_room (Nat.le_of_ble_eq_true rfl)) dX5_build_98 ⟨Nat.le_of_ble_eq_true rfl, Nat.le_of_ble_eq_true rfl⟩) hS95 (fun H98 locs98 hR98 hzz98 hS98 => ?_)
      obtain ⟨hA98, hz98, hq98⟩ := hR98
      have hY98 : Ob D s.heap.size 2 [.int hrs, .int trf, .int srg, .int stc, .int 0, .int 0] H98 := hO95.kept (hq98 _ (fun z => hy 2 (us_lt (by decide)) z.symm))
      obtain ⟨ad98, had98, hP98⟩ := hP95.makeD (by omega) (by omega) hrd hy hyz hY98 hA98 (fun i hi h2 => hq98 _ (fun z => h2 (hP.2.1 i 2 hi (us_lt (by decide)) z)))
      rw [← had98] at hl
      refine lv_aload_n hx hb dX5_build_101 rfl (lv_at hl 0 rfl) ?_
      refine lv_dup hx hb dX5_build_102 rfl ?_
      refine k_get (C := RX5) (T := TX5) (N := 11) hx hb hts inGX5 hown (hG.2.1).1 hP98.o0 rfl 5 (by decide) (hts _ w_152) (fun _ h9 => h9) (v := .int ((bldR σ (rk t2 t7) hrs trf srg stc) 0 2)) rfl dX5_build_103 ?_
      have hv106 : bldR σ (rk t2 t7) hrs trf srg stc 0 2 = σ 0 2 := bldR_n (by decide)
      rw [hv106]
      refine lv_iconst (v := 1) hx hb dX5_build_106 (by decide) ?_
      refine lv_iadd hx hb dX5_build_107 ?_
      refine k_put (C := RX5) (T := TX5) (N := 11) hx hb hts inGX5 tyX5 tyX5_ok nmX5 hown (hG.2.1).1 hP98.o0 hS98 (hP98.nz (us_lt (by decide))) rfl 5 (Nat.le_of_ble_eq_true rfl) (hts _ w_152) (fun _ h9 => h9) rfl (ty := .int) (v := .int ((σ 0 2) + 1)) (by decide +kernel) rfl rfl (Nat.le_of_ble_eq_true rfl) dX5_build_108 (fun H108 locs108 hO108 hz108 hq108 hS108 => ?_)
      have hO108 : Ob D (ad98 0) 6 [.ref (ad98 1), .ref (ad98 3), .ref (ad98 6), .ref (ad98 7), .int ((bldR σ (rk t2 t7) hrs trf srg stc) 0 1), .int ((σ 0 2) + 1), .int ((bldR σ (rk t2 t7) hrs trf srg stc) 0 0), .int ((bldR σ (rk t2 t7) hrs trf srg stc) 0 5), .int ((bldR σ (rk t2 t7) hrs trf srg stc) 0 6), .int ((bldR σ (rk t2 t7) hrs trf srg stc) 0 7), .int ((bldR σ (rk t2 t7) hrs trf srg stc) 0 8)] H108 := hO108
      have hP108 : Pic D ct Z dc (su (bldR σ (rk t2 t7) hrs trf srg stc) 0 2 ((σ 0 2) + 1)) ad98 H108 := hP98.t2 ((σ 0 2) + 1) hO108 hq108
      obtain ⟨τ108, hτ108⟩ : ∃ τ : Stt, τ = su (bldR σ (rk t2 t7) hrs trf srg stc) 0 2 ((σ 0 2) + 1) := ⟨_, rfl⟩
      rw [← hτ108] at hP108
      have er108 : nR τ108 = nR (bldR σ (rk t2 t7) hrs trf srg stc) := by rw [hτ108]; exact nR_eq (su_j (by decide))
      have ec108 : nC τ108 = nC (bldR σ (rk t2 t7) hrs trf srg stc) := by rw [hτ108]; exact nC_eq (su_j (by decide))
      refine lv_aload_n hx hb dX5_build_111 rfl (lv_at hl 0 rfl) ?_
      refine k_get (C := RX5) (T := TX5) (N := 11) hx hb hts inGX5 hown (hG.2.1).1 hP108.o0 rfl 5 (by decide) (hts _ w_152) (fun _ h9 => h9) (v := .int (τ108 0 2)) rfl dX5_build_112 ?_
      have hv115 : τ108 0 2 = σ 0 2 + 1 := by rw [hτ108]; exact su_s _ _ _ _
      rw [hv115]
      refine vx_ret ?_
      refine W.widen (k := 7) (n := 42) (Nat.le_of_ble_eq_true rfl) (Nat.le_of_ble_eq_true rfl) ?_
      have ho : o_build σ (nI t2) (nI t7) hrs trf srg stc = (0, σ 0 2 + 1, bld σ (rk t2 t7) hrs trf srg stc) := by simp [o_build, hc_2, ix2, hc_7, ix7, c_12, nc_12, hc_29, hc_37, hc_45, hc_53, hrd]
      exact W.iret (v := σ 0 2 + 1) hx hb hr (fun t ht hW => ⟨_, rfl, by rw [ht]; exact ⟨by rw [ho], by rw [ho], τ108, ad98, by rw [ho]; exact (by rw [hτ108]; exact SC.rf), had98, hP108⟩, hS108.F ht⟩) (fun z h => hS108.2.2 z h) dX5_build_115
  · -- not taken
    have nc_12 : t2 = t7 := (nI_eq (a := t2) (b := t7) (by omega) (by omega)).mp c_12
    obtain ⟨sa, hsa⟩ := hG.2.1.2.1 (52, "a road is between two towns") (by simp [strs])
    exact vx_throwS (names := nm2) hx hb hst hown fitA fitn (hts _ w_387) (hts _ w_71) hsa (hatA hts hG.2.1) hgoA hG.2.2.1 hG.2.2.2.1 hS (hl.1.trans hml.symm) dX5_build_15 dX5_build_18 dX5_build_19 dX5_build_21 dX5_build_24 (fun x h => (hnt x h).elim) (Nat.le_of_ble_eq_true rfl) (Nat.le_of_ble_eq_true rfl) (Nat.le_of_ble_eq_true rfl) (Nat.le_of_ble_eq_true rfl) hlocks (fun t _ h1 h2 => ⟨(by rw [show o_build σ (nI t2) (nI t7) hrs trf srg stc = (2, 0, σ) from by simp [o_build, hc_2, ix2, hc_7, ix7, c_12, nc_12]]; exact ⟨Nat.le_of_ble_eq_true rfl, rfl⟩), h1, h2⟩) (fun z hz => nomatch hz) (Nat.le_of_ble_eq_true rfl) (Nat.le_of_ble_eq_true rfl)

theorem payS_o {σ : Stt} {i k j : Nat} {d f : Int32} (h : j ≠ 7 * k + 6) : payS σ i k d f 3 j = σ 3 j := by unfold payS; rw [su_k (by decide), su_k (by decide), su_j h, su_k (by decide), su_k (by decide)]

/-! go -/
set_option maxHeartbeats 4000000 in
set_option maxRecDepth 100000 in
theorem c_X5_go (l : Launch) (D : va_G) (ct : Nat → ClassId) (Z : Nat → Prop) (dc : Nat) (σ : Stt) (ad : Nat → Nat) (hst : l.stackTraces = false) (c tn b : Int32) (hI : Inv σ) : vx_Met l yX5_go (.code yX5_go cX5_go 8 (some .int) :: GW) ({ frames := 7, cells := 5, slots := 30, locals := 113 } : Room) (va_Pc [.ref (ad 0), .int c, .int tn, .int b] (fun U => GF D ct Z dc U U.heap ∧ Pic D ct Z dc σ ad U.heap)) (qS1 Z (fun x h => (o_go σ c tn b).1 = 0 ∧ x = .int (o_go σ c tn b).2.1 ∧ ∃ (σ1 : Stt) (ad1 : Nat → Nat), SC (o_go σ c tn b).2.2 σ1 ∧ ad1 0 = ad 0 ∧ Pic D ct Z dc σ1 ad1 h)) (xK (fun E => exn ["java/lang/IndexOutOfBoundsException", "java/lang/IllegalArgumentException", "java/lang/IllegalStateException"] (o_go σ c tn b).1 E)) 5 30 (nZ Z) := by
  refine mx_in (cc := cX5_go) [.ref (ad 0), .int c, .int tn, .int b] "RumourCustoms" rfl (by decide) (Nat.le_of_ble_eq_true rfl) ?_
  intro pg e s m args below meth cd ls hx hb hml hown hts hr hlocks hnt hPr hl
  obtain ⟨hG, hP⟩ := hPr
  have hl : lv_has ls 8 [(0, .ref (ad 0)), (1, .int c), (2, .int tn), (3, .int b)] := hl
  have hS : va_S (nZ Z) s.heap s.heap [] := va_S.rf
  have hn := hP.2.2.2.1
  have hnC := hP.2.2.2.2
  have hT1 := hI.1.1
  have hT10 := hI.1.2
  have hR1 := hI.2.1.1
  have hC1 := hI.2.2.1.1
  have hH : ∀ i, i < nR σ → σ 1 (7 * i + 6) = 0 ∨ σ 1 (7 * i + 6) = 1 := fun i hi => (hI.2.2.2.1 i hi).2.2.2.2.2
  refine lv_aload_n hx hb dX5_go_0 rfl (lv_at hl 0 rfl) ?_
  refine lv_iload_n hx hb dX5_go_1 rfl (lv_at hl 1 rfl) ?_
  refine c_x1R (vx_runV (As := [.int c]) (rest := []) ⟨hx, hb, hml, hown, hts⟩ (c_X5_carrierAt l D ct Z dc σ ad hst c hC1) (cwV 1 hts (GG w_652 w_654 w_20 w_59 w_655) rfl rfl rfl (by decide) ⟨Nat.le_of_ble_eq_true rfl, Nat.le_of_ble_eq_true rfl⟩) ⟨(blindF fun _ _ _ _ h => h), Ob.recv (hG.2.1).1 hP.o0 rfl, fun U hU hW => ⟨rfl, hG.up hW hS hU, by rw [hU]; exact hP⟩⟩ rfl rfl hl.1 rfl (lv_room (Nat.le_of_ble_eq_true rfl)) dX5_go_2 ⟨Nat.le_of_ble_eq_true rfl, Nat.le_of_ble_eq_true rfl⟩) hS (fun E ce q9 H1 hp hk hS1 hce hcv hcl => vx_widen (k := 5) (n := 30) (Nat.le_of_ble_eq_true rfl) (Nat.le_of_ble_eq_true rfl) (vx_out (fun x h => (hnt x h).elim) hlocks hce hcv hcl (fun t ht _ => ⟨(by obtain ⟨rfl, hf⟩ := hp; rw [show o_go σ c tn b = (1, 0, σ) from by simp [o_go, gow, gfi, gk, hf]]; exact ⟨Nat.le_of_ble_eq_true rfl, rfl⟩), by rw [ht]; exact hk⟩) (fun z hz => nomatch hz) (Nat.le_refl _) (Nat.le_refl _))) (fun x hc_2 => ?_)
  obtain ⟨k_2, hk_2, hv_2, rfl⟩ := hc_2
  subst hv_2
  have ok2 : cOK σ (nI k_2) = true := okC2 hC1 (by omega) hk_2
  have ix2 : ix (nI k_2) = k_2 := ix_n (by omega)
  refine lv_astore (lv' := [(4, .ref (ad (200 + k_2))), (0, .ref (ad 0)), (1, .int (nI k_2)), (2, .int tn), (3, .int b)]) hx hb dX5_go_5 hl (by decide) rfl (fun ls hl => ?_)
  refine lv_aload_n hx hb dX5_go_7 rfl (lv_at hl 1 rfl) ?_
  refine lv_iload_n hx hb dX5_go_8 rfl (lv_at hl 3 rfl) ?_
  refine c_x0C (vx_runV (As := [.int tn]) (rest := []) ⟨hx, hb, hml, hown, hts⟩ (c_X5_requireTown l D ct Z dc σ ad hst tn) (cwV 1 hts (GG w_367 w_369 w_10 w_59 w_370) rfl rfl rfl (by decide) ⟨Nat.le_of_ble_eq_true rfl, Nat.le_of_ble_eq_true rfl⟩) ⟨(blindF fun _ _ _ _ h => h), Ob.recv (hG.2.1).1 hP.o0 rfl, fun U hU hW => ⟨rfl, hG.up hW hS hU, by rw [hU]; exact hP⟩⟩ rfl rfl hl.1 rfl (lv_room (Nat.le_of_ble_eq_true rfl)) dX5_go_9 ⟨Nat.le_of_ble_eq_true rfl, Nat.le_of_ble_eq_true rfl⟩) hS (fun E ce q9 H1 hp hk hS1 hce hcv hcl => vx_widen (k := 5) (n := 30) (Nat.le_of_ble_eq_true rfl) (Nat.le_of_ble_eq_true rfl) (vx_out (fun x h => (hnt x h).elim) hlocks hce hcv hcl (fun t ht _ => ⟨(by obtain ⟨rfl, hf⟩ := hp; rw [show o_go σ (nI k_2) tn b = (1, 0, σ) from by simp [o_go, gow, gfi, gk, ok2, ix2, hf]]; exact ⟨Nat.le_of_ble_eq_true rfl, rfl⟩), by rw [ht]; exact hk⟩) (fun z hz => nomatch hz) (Nat.le_refl _) (Nat.le_refl _))) (fun hc_9 => ?_)
  obtain ⟨t9, ht9, hv9⟩ := okT hT1 hT10 hc_9
  subst hv9
  have ix9 : ix (nI t9) = t9 := ix_n (by omega)
  refine lv_iload_n hx hb dX5_go_12 rfl (lv_at hl 4 rfl) ?_
  refine lv_iconst (v := 0) hx hb dX5_go_13 (by decide) ?_
  refine lv_iconst (v := 5) hx hb dX5_go_14 (by decide) ?_
  refine c_x0C (vx_runS (As := [.int b, .int 0, .int 5]) (rest := []) ⟨hx, hb, hml, hown, hts⟩ (c_X5_requireWithin l D ct Z dc σ ad hst b 0 5) (k_cwS 3 hts w_403 w_404 w_59 w_405 rfl rfl (by decide) ⟨Nat.le_of_ble_eq_true rfl, Nat.le_of_ble_eq_true rfl⟩) ⟨(blindF fun _ _ _ _ h => h), fun U hU hW => ⟨rfl, hG.up hW hS hU, by rw [hU]; exact hP⟩⟩ rfl rfl hl.1 rfl (lv_room (Nat.le_of_ble_eq_true rfl)) dX5_go_15 ⟨Nat.le_of_ble_eq_true rfl, Nat.le_of_ble_eq_true rfl⟩) hS (fun E ce q9 H1 hp hk hS1 hce hcv hcl => vx_widen (k := 5) (n := 30) (Nat.le_of_ble_eq_true rfl) (Nat.le_of_ble_eq_true rfl) (vx_out (fun x h => (hnt x h).elim) hlocks hce hcv hcl (fun t ht _ => ⟨(by obtain ⟨rfl, hf⟩ := hp; rw [show o_go σ (nI k_2) (nI t9) b = (2, 0, σ) from by simp [o_go, gow, gfi, gk, ok2, ix2, hc_9, ix9, hf]]; exact ⟨Nat.le_of_ble_eq_true rfl, rfl⟩), by rw [ht]; exact hk⟩) (fun z hz => nomatch hz) (Nat.le_refl _) (Nat.le_refl _))) (fun hc_15 => ?_)
  refine lv_aload hx hb dX5_go_18 (lv_at hl 0 rfl) ?_
  refine c_x0C (vx_runS (As := [.ref (ad (200 + k_2))]) (rest := []) ⟨hx, hb, hml, hown, hts⟩ (c_X5_requireInTown l D ct Z dc σ ad hst k_2 hk_2) (k_cwS 1 hts w_657 w_658 w_59 w_659 rfl rfl (by decide) ⟨Nat.le_of_ble_eq_true rfl, Nat.le_of_ble_eq_true rfl⟩) ⟨(blindF fun _ _ _ _ h => h), fun U hU hW => ⟨rfl, hG.up hW hS hU, by rw [hU]; exact hP⟩⟩ rfl rfl hl.1 rfl (lv_room (Nat.le_of_ble_eq_true rfl)) dX5_go_20 ⟨Nat.le_of_ble_eq_true rfl, Nat.le_of_ble_eq_true rfl⟩) hS (fun E ce q9 H1 hp hk hS1 hce hcv hcl => vx_widen (k := 5) (n := 30) (Nat.le_of_ble_eq_true rfl) (Nat.le_of_ble_eq_true rfl) (vx_out (fun x h => (hnt x h).elim) hlocks hce hcv hcl (fun t ht _ => ⟨(by obtain ⟨rfl, hf⟩ := hp; rw [show o_go σ (nI k_2) (nI t9) b = (3, 0, σ) from by simp [o_go, gow, gfi, gk, ok2, ix2, hc_9, ix9, hc_15, hf]]; exact ⟨Nat.le_of_ble_eq_true rfl, rfl⟩), by rw [ht]; exact hk⟩) (fun z hz => nomatch hz) (Nat.le_refl _) (Nat.le_refl _))) (fun hc_20 => ?_)
  refine lv_aload_n hx hb dX5_go_23 rfl (lv_at hl 1 rfl) ?_
  refine k_get (C := RX5) (T := TX5) (N := 11) hx hb hts inGX5 hown (hG.2.1).1 hP.o0 rfl 0 (by decide) (hts _ w_147) (fun _ h9 => h9) (v := .ref (ad 1)) rfl dX5_go_24 ?_
  refine lv_aload hx hb dX5_go_27 (lv_at hl 0 rfl) ?_
  refine k_get (C := RX0) (T := TX0) (N := 5) hx hb hts inGX0 hown (hG.2.1).1 (hP.c hk_2) rfl 1 (by decide) (hts _ w_627) (fun _ h9 => h9) (v := .int (σ 2 (4 * k_2))) rfl dX5_go_29 ?_
  refine lv_iload_n hx hb dX5_go_32 rfl (lv_at hl 3 rfl) ?_
  obtain ⟨n33, hn33, hcn⟩ := (hI.2.2.2.2.1 k_2 hk_2).1
  rw [hcn]
  have ixn : ix (nI n33) = n33 := ix_n (by omega)
  refine c_p1 (va_runV (As := [.int (nI n33), .int (nI t9)]) (rest := []) ⟨hx, hb, hml, hown, hts⟩ (c_X2_between l D ct Z dc σ ad n33 t9 (by omega) (by omega)) (cwV 2 hts (GG w_235 w_236 w_237 w_60 w_238) rfl rfl rfl (by decide) ⟨Nat.le_of_ble_eq_true rfl, Nat.le_of_ble_eq_true rfl⟩) ⟨(blindT fun _ _ _ _ h => h), Ob.recv (hG.2.1).1 hP.o1 rfl, fun U hU hW => ⟨rfl, hG.2.1.warm hW, by rw [hU]; exact hP⟩⟩ rfl rfl hl.1 rfl (lv_room (Nat.le_of_ble_eq_true rfl)) dX5_go_33 ⟨Nat.le_of_ble_eq_true rfl, Nat.le_of_ble_eq_true rfl⟩) ?_
  have hkd : rk n33 t9 < 100 := rk_lt (by omega) (by omega)
  by_cases hrd : σ 3 (7 * rk n33 t9) = 1
  · -- road
    rw [show va_rf (rdb σ ad n33 t9) = .ref (ad (300 + rk n33 t9)) from by rw [rdb, if_pos hrd]; rfl]
    refine lv_astore (lv' := [(5, .ref (ad (300 + rk n33 t9))), (4, .ref (ad (200 + k_2))), (0, .ref (ad 0)), (1, .int (nI k_2)), (2, .int (nI t9)), (3, .int b)]) hx hb dX5_go_36 hl (by decide) rfl (fun ls hl => ?_)
    refine lv_aload hx hb dX5_go_38 (lv_at hl 0 rfl) ?_
    refine lv_ifnonnull (tgt := 53) hx hb dX5_go_40 (by decide) ?_
    refine lv_aload_n hx hb dX5_go_53 rfl (lv_at hl 2 rfl) ?_
    refine lv_aload hx hb dX5_go_54 (lv_at hl 1 rfl) ?_
    refine lv_aload hx hb dX5_go_56 (lv_at hl 0 rfl) ?_
    refine lv_iload_n hx hb dX5_go_58 rfl (lv_at hl 5 rfl) ?_
    refine c_p1 (va_runV (As := [.ref (ad (200 + k_2)), .ref (ad (300 + rk n33 t9)), .int b]) (rest := []) ⟨hx, hb, hml, hown, hts⟩ (c_X5_owedBy l D ct Z dc σ ad k_2 (rk n33 t9) b hk_2 hkd hrd) (cwV 3 hts (GG w_709 w_711 w_22 w_59 w_712) rfl rfl rfl (by decide) ⟨Nat.le_of_ble_eq_true rfl, Nat.le_of_ble_eq_true rfl⟩) ⟨(blindT fun _ _ _ _ h => h), Ob.recv (hG.2.1).1 hP.o0 rfl, fun U hU hW => ⟨rfl, hG.2.1.warm hW, by rw [hU]; exact hP⟩⟩ rfl rfl hl.1 rfl (lv_room (Nat.le_of_ble_eq_true rfl)) dX5_go_59 ⟨Nat.le_of_ble_eq_true rfl, Nat.le_of_ble_eq_true rfl⟩) ?_
    refine lv_istore (lv' := [(6, .int (owedS σ (nI k_2) (rk n33 t9) b)), (5, .ref (ad (300 + rk n33 t9))), (4, .ref (ad (200 + k_2))), (0, .ref (ad 0)), (1, .int (nI k_2)), (2, .int (nI t9)), (3, .int b)]) hx hb dX5_go_62 hl (by decide) rfl (fun ls hl => ?_)
    refine lv_iload hx hb dX5_go_64 (lv_at hl 0 rfl) ?_
    refine lv_aload hx hb dX5_go_66 (lv_at hl 2 rfl) ?_
    refine k_get (C := RX0) (T := TX0) (N := 5) hx hb hts inGX0 hown (hG.2.1).1 (hP.c hk_2) rfl 3 (by decide) (hts _ w_631) (fun _ h9 => h9) (v := .int (σ 2 (4 * k_2 + 2))) rfl dX5_go_68 ?_
    refine lv_icmp_le (tgt := 84) hx hb dX5_go_71 (by decide) (fun c_71 => ?_) (fun c_71 => ?_)
    · -- taken
      refine lv_aload_n hx hb dX5_go_84 rfl (lv_at hl 3 rfl) ?_
      refine lv_aload hx hb dX5_go_85 (lv_at hl 2 rfl) ?_
      refine lv_aload hx hb dX5_go_87 (lv_at hl 1 rfl) ?_
      refine lv_aload hx hb dX5_go_89 (lv_at hl 2 rfl) ?_
      refine k_get (C := RX0) (T := TX0) (N := 5) hx hb hts inGX0 hown (hG.2.1).1 (hP.c hk_2) rfl 3 (by decide) (hts _ w_631) (fun _ h9 => h9) (v := .int (σ 2 (4 * k_2 + 2))) rfl dX5_go_91 ?_
      refine lv_iload hx hb dX5_go_94 (lv_at hl 0 rfl) ?_
      refine lv_isub hx hb dX5_go_96 ?_
      refine c_p1 (va_runV (As := [.ref (ad (200 + k_2)), .ref (ad (300 + rk n33 t9)), .int ((σ 2 (4 * k_2 + 2)) - (owedS σ (nI k_2) (rk n33 t9) b))]) (rest := []) ⟨hx, hb, hml, hown, hts⟩ (c_X5_fineOf l D ct Z dc σ ad k_2 (rk n33 t9) ((σ 2 (4 * k_2 + 2)) - (owedS σ (nI k_2) (rk n33 t9) b)) hk_2 hkd hrd hH) (cwV 3 hts (GG w_727 w_729 w_23 w_59 w_730) rfl rfl rfl (by decide) ⟨Nat.le_of_ble_eq_true rfl, Nat.le_of_ble_eq_true rfl⟩) ⟨(blindT fun _ _ _ _ h => h), Ob.recv (hG.2.1).1 hP.o0 rfl, fun U hU hW => ⟨rfl, hG.2.1.warm hW, by rw [hU]; exact hP⟩⟩ rfl rfl hl.1 rfl (lv_room (Nat.le_of_ble_eq_true rfl)) dX5_go_97 ⟨Nat.le_of_ble_eq_true rfl, Nat.le_of_ble_eq_true rfl⟩) ?_
      refine lv_istore (lv' := [(7, .int (fineS σ (nI k_2) (rk n33 t9) ((σ 2 (4 * k_2 + 2)) - (owedS σ (nI k_2) (rk n33 t9) b)))), (6, .int (owedS σ (nI k_2) (rk n33 t9) b)), (5, .ref (ad (300 + rk n33 t9))), (4, .ref (ad (200 + k_2))), (0, .ref (ad 0)), (1, .int (nI k_2)), (2, .int (nI t9)), (3, .int b)]) hx hb dX5_go_100 hl (by decide) rfl (fun ls hl => ?_)
      refine lv_aload_n hx hb dX5_go_102 rfl (lv_at hl 4 rfl) ?_
      refine lv_aload hx hb dX5_go_103 (lv_at hl 3 rfl) ?_
      refine lv_iload_n hx hb dX5_go_105 rfl (lv_at hl 7 rfl) ?_
      refine c_s0 (va_runV (As := [.ref (ad (200 + k_2)), .int b]) (rest := []) ⟨hx, hb, hml, hown, hts⟩ (c_X5_burnProofs l D ct Z dc σ ad k_2 b hk_2) (cwV 2 hts (GG w_737 w_739 w_24 w_59 w_740) rfl rfl rfl (by decide) ⟨Nat.le_of_ble_eq_true rfl, Nat.le_of_ble_eq_true rfl⟩) ⟨(blindF fun _ _ _ _ h => h), Ob.recv (hG.2.1).1 hP.o0 rfl, fun U hU hW => ⟨rfl, hG.up hW hS hU, by rw [hU]; exact hP⟩⟩ rfl rfl hl.1 rfl (lv_room (Nat.le_of_ble_eq_true rfl)) dX5_go_106 ⟨Nat.le_of_ble_eq_true rfl, Nat.le_of_ble_eq_true rfl⟩) hS (fun H106 locs106 hR106 hzz106 hS106 => ?_)
      have hP106 : Pic D ct Z dc (burnN σ (nI k_2) b (nR σ)) ad H106 := hR106
      obtain ⟨τ106, hτ106⟩ : ∃ τ : Stt, τ = burnN σ (nI k_2) b (nR σ) := ⟨_, rfl⟩
      rw [← hτ106] at hP106
      have er106 : nR τ106 = nR σ := by rw [hτ106]; exact burnN_nR _ _ _ _
      have ec106 : nC τ106 = nC σ := by rw [hτ106]; exact burnN_nC _ _ _ _
      have hp106_k_2 : k_2 < nC τ106 := Nat.lt_of_lt_of_eq hk_2 ec106.symm
      have hd106_rkn33t9 : τ106 3 (7 * (rk n33 t9)) = 1 := by rw [hτ106]; exact (congrFun (burnN_3 _ _ _ _ _ (by decide) (by decide)) _).trans hrd
      refine lv_aload_n hx hb dX5_go_109 rfl (lv_at hl 4 rfl) ?_
      refine lv_aload hx hb dX5_go_110 (lv_at hl 3 rfl) ?_
      refine lv_aload hx hb dX5_go_112 (lv_at hl 2 rfl) ?_
      refine c_s0 (va_runV (As := [.ref (ad (200 + k_2)), .ref (ad (300 + rk n33 t9))]) (rest := []) ⟨hx, hb, hml, hown, hts⟩ (c_X5_inspect l D ct Z dc τ106 ad k_2 (rk n33 t9) hp106_k_2 hkd hd106_rkn33t9 (fun i hi => by rw [hτ106, burnN_hid]; exact hH i (by omega))) (cwV 2 hts (GG w_741 w_743 w_25 w_59 w_744) rfl rfl rfl (by decide) ⟨Nat.le_of_ble_eq_true rfl, Nat.le_of_ble_eq_true rfl⟩) ⟨(blindF fun _ _ _ _ h => h), Ob.recv (hG.2.1).1 hP106.o0 rfl, fun U hU hW => ⟨rfl, hG.up hW hS106 hU, by rw [hU]; exact hP106⟩⟩ rfl rfl hl.1 rfl (lv_room (Nat.le_of_ble_eq_true rfl)) dX5_go_114 ⟨Nat.le_of_ble_eq_true rfl, Nat.le_of_ble_eq_true rfl⟩) hS106 (fun H114 locs114 hR114 hzz114 hS114 => ?_)
      have hP114 : Pic D ct Z dc (insp τ106 (nI k_2) (rk n33 t9)) ad H114 := hR114
      obtain ⟨τ114, hτ114⟩ : ∃ τ : Stt, τ = insp τ106 (nI k_2) (rk n33 t9) := ⟨_, rfl⟩
      rw [← hτ114] at hP114
      have er114 : nR τ114 = nR τ106 := by rw [hτ114]; exact insp_nR
      have ec114 : nC τ114 = nC τ106 := by rw [hτ114]; exact insp_nC
      have hp114_k_2 : k_2 < nC τ114 := Nat.lt_of_lt_of_eq hp106_k_2 ec114.symm
      have hd114_rkn33t9 : τ114 3 (7 * (rk n33 t9)) = 1 := by rw [hτ114]; exact (insp_d).trans hd106_rkn33t9
      refine lv_aload_n hx hb dX5_go_117 rfl (lv_at hl 4 rfl) ?_
      refine lv_aload hx hb dX5_go_118 (lv_at hl 3 rfl) ?_
      refine lv_aload hx hb dX5_go_120 (lv_at hl 2 rfl) ?_
      refine lv_iload hx hb dX5_go_122 (lv_at hl 1 rfl) ?_
      refine lv_iload hx hb dX5_go_124 (lv_at hl 0 rfl) ?_
      refine c_s0 (va_runV (As := [.ref (ad (200 + k_2)), .ref (ad (300 + rk n33 t9)), .int (owedS σ (nI k_2) (rk n33 t9) b), .int (fineS σ (nI k_2) (rk n33 t9) ((σ 2 (4 * k_2 + 2)) - (owedS σ (nI k_2) (rk n33 t9) b)))]) (rest := []) ⟨hx, hb, hml, hown, hts⟩ (c_X5_pay l D ct Z dc τ114 ad k_2 (rk n33 t9) (owedS σ (nI k_2) (rk n33 t9) b) (fineS σ (nI k_2) (rk n33 t9) ((σ 2 (4 * k_2 + 2)) - (owedS σ (nI k_2) (rk n33 t9) b))) hp114_k_2 hkd hd114_rkn33t9) (cwV 4 hts (GG w_753 w_755 w_27 w_59 w_756) rfl rfl rfl (by decide) ⟨Nat.le_of_ble_eq_true rfl, Nat.le_of_ble_eq_true rfl⟩) ⟨(blindF fun _ _ _ _ h => h), Ob.recv (hG.2.1).1 hP114.o0 rfl, fun U hU hW => ⟨rfl, hG.up hW hS114 hU, by rw [hU]; exact hP114⟩⟩ rfl rfl hl.1 rfl (lv_room (Nat.le_of_ble_eq_true rfl)) dX5_go_126 ⟨Nat.le_of_ble_eq_true rfl, Nat.le_of_ble_eq_true rfl⟩) hS114 (fun H126 locs126 hR126 hzz126 hS126 => ?_)
      have hP126 : Pic D ct Z dc (payS τ114 k_2 (rk n33 t9) (owedS σ (nI k_2) (rk n33 t9) b) (fineS σ (nI k_2) (rk n33 t9) ((σ 2 (4 * k_2 + 2)) - (owedS σ (nI k_2) (rk n33 t9) b)))) ad H126 := hR126
      obtain ⟨τ126, hτ126⟩ : ∃ τ : Stt, τ = payS τ114 k_2 (rk n33 t9) (owedS σ (nI k_2) (rk n33 t9) b) (fineS σ (nI k_2) (rk n33 t9) ((σ 2 (4 * k_2 + 2)) - (owedS σ (nI k_2) (rk n33 t9) b))) := ⟨_, rfl⟩
      rw [← hτ126] at hP126
      have er126 : nR τ126 = nR τ114 := by rw [hτ126]; exact payS_nR
      have ec126 : nC τ126 = nC τ114 := by rw [hτ126]; exact payS_nC
      have hp126_k_2 : k_2 < nC τ126 := Nat.lt_of_lt_of_eq hp114_k_2 ec126.symm
      have hd126_rkn33t9 : τ126 3 (7 * (rk n33 t9)) = 1 := by rw [hτ126]; exact (payS_d).trans hd114_rkn33t9
      refine lv_aload hx hb dX5_go_129 (lv_at hl 3 rfl) ?_
      refine lv_iload_n hx hb dX5_go_131 rfl (lv_at hl 6 rfl) ?_
      refine lv_aload hx hb dX5_go_132 (lv_at hl 2 rfl) ?_
      refine k_get (C := RX1) (T := TX1) (N := 6) hx hb hts inGX1 hown (hG.2.1).1 (hP126.d hkd hd126_rkn33t9) rfl 0 (by decide) (hts _ w_416) (fun _ h9 => h9) (v := .int (τ126 3 (7 * (rk n33 t9) + 1))) rfl dX5_go_134 ?_
      have hv134 : τ126 3 (7 * rk n33 t9 + 1) = σ 3 (7 * rk n33 t9 + 1) := by
        rw [hτ126, payS_o (by omega), hτ114, insp_3 (by omega), hτ106, burnN_3 _ _ _ _ _ (by decide) (by decide)]
      rw [hv134]
      refine c_w0 (va_runV (As := [.int (nI t9), .int (σ 3 (7 * rk n33 t9 + 1))]) (rest := []) ⟨hx, hb, hml, hown, hts⟩ (c_X0_setOut l D ct (ad (200 + k_2)) (nI k_2) (τ126 2 (4 * k_2)) (τ126 2 (4 * k_2 + 1)) (τ126 2 (4 * k_2 + 2)) (τ126 2 (4 * k_2 + 3)) (nI t9) (σ 3 (7 * rk n33 t9 + 1))) (cwV 2 hts (GG w_761 w_762 w_763 w_81 w_764) rfl rfl rfl (by decide) ⟨Nat.le_of_ble_eq_true rfl, Nat.le_of_ble_eq_true rfl⟩) ⟨(blindT fun _ _ _ _ h => h), Ob.recv (hG.2.1).1 (hP126.c hp126_k_2) rfl, fun U hU hW => ⟨rfl, hG.2.1.warm hW, by rw [hU]; exact (hP126.c hp126_k_2)⟩⟩ rfl rfl hl.1 rfl (lv_room (Nat.le_of_ble_eq_true rfl)) dX5_go_137 ⟨Nat.le_of_ble_eq_true rfl, Nat.le_of_ble_eq_true rfl⟩) hS126 (hP126.nz (us_c hP126.2.2.2.2 hp126_k_2)) (fun _ h => Ob.lt h) (fun H137 locs137 hO137 hq137 hS137 => ?_)
      have hP137 : Pic D ct Z dc (setO τ126 k_2 (nI t9) (σ 3 (7 * rk n33 t9 + 1))) ad H137 := hP126.cset hp126_k_2 (nI t9) (σ 3 (7 * rk n33 t9 + 1)) hO137 hq137
      obtain ⟨τ137, hτ137⟩ : ∃ τ : Stt, τ = setO τ126 k_2 (nI t9) (σ 3 (7 * rk n33 t9 + 1)) := ⟨_, rfl⟩
      rw [← hτ137] at hP137
      have er137 : nR τ137 = nR τ126 := by rw [hτ137]; exact nR_eq (by rfl)
      have ec137 : nC τ137 = nC τ126 := by rw [hτ137]; exact nC_eq (by rfl)
      have hp137_k_2 : k_2 < nC τ137 := Nat.lt_of_lt_of_eq hp126_k_2 ec137.symm
      have hd137_rkn33t9 : τ137 3 (7 * (rk n33 t9)) = 1 := by rw [hτ137]; exact (setO_3).trans hd126_rkn33t9
      refine lv_iload hx hb dX5_go_140 (lv_at hl 1 rfl) ?_
      refine lv_iload hx hb dX5_go_142 (lv_at hl 0 rfl) ?_
      refine lv_iadd hx hb dX5_go_144 ?_
      refine vx_ret ?_
      refine W.widen (k := 5) (n := 30) (Nat.le_of_ble_eq_true rfl) (Nat.le_of_ble_eq_true rfl) ?_
      have ho : o_go σ (nI k_2) (nI t9) b = (0, (owedS σ (nI k_2) (rk n33 t9) b) + (fineS σ (nI k_2) (rk n33 t9) ((σ 2 (4 * k_2 + 2)) - (owedS σ (nI k_2) (rk n33 t9) b))), goS σ (nI k_2) (nI t9) b) := by simp [o_go, gow, gfi, gk, ok2, ix2, hc_9, ix9, hc_15, hc_20, hcn, ixn, hrd, c_71]
      exact W.iret (v := (owedS σ (nI k_2) (rk n33 t9) b) + (fineS σ (nI k_2) (rk n33 t9) ((σ 2 (4 * k_2 + 2)) - (owedS σ (nI k_2) (rk n33 t9) b)))) hx hb hr (fun t ht hW => ⟨_, rfl, by rw [ht]; exact ⟨by rw [ho], by rw [ho], τ137, ad, by rw [ho]; exact (by unfold goS gfi gow gk; rw [ix2, ix9, hcn, ixn, ← hτ106, ← hτ114, ← hτ126, ← hτ137]; exact SC.rf), rfl, hP137⟩, hS137.F ht⟩) (fun z h => hS137.2.2 z h) dX5_go_145
    · -- not taken
      obtain ⟨sa, hsa⟩ := hG.2.1.2.1 (191, "the purse does not hold what is owed") (by simp [strs])
      exact vx_throwS (names := nm2) hx hb hst hown fitS fitn (hts _ w_290) (hts _ w_69) hsa (hatS hts hG.2.1) hgoS hG.2.2.1 hG.2.2.2.1 hS (hl.1.trans hml.symm) dX5_go_74 dX5_go_77 dX5_go_78 dX5_go_80 dX5_go_83 (fun x h => (hnt x h).elim) (Nat.le_of_ble_eq_true rfl) (Nat.le_of_ble_eq_true rfl) (Nat.le_of_ble_eq_true rfl) (Nat.le_of_ble_eq_true rfl) hlocks (fun t _ h1 h2 => ⟨(by rw [show o_go σ (nI k_2) (nI t9) b = (3, 0, σ) from by simp [o_go, gow, gfi, gk, ok2, ix2, hc_9, ix9, hc_15, hc_20, hcn, ixn, hrd, c_71]]; exact ⟨Nat.le_of_ble_eq_true rfl, rfl⟩), h1, h2⟩) (fun z hz => nomatch hz) (Nat.le_of_ble_eq_true rfl) (Nat.le_of_ble_eq_true rfl)
  · -- none
    rw [show va_rf (rdb σ ad n33 t9) = .null from by rw [rdb, if_neg hrd]; rfl]
    refine lv_astoreN (lv' := [(5, .null), (4, .ref (ad (200 + k_2))), (0, .ref (ad 0)), (1, .int (nI k_2)), (2, .int (nI t9)), (3, .int b)]) hx hb dX5_go_36 hl (by decide) rfl (fun ls hl => ?_)
    refine lv_aloadN hx hb dX5_go_38 (lv_at hl 0 rfl) ?_
    refine lv_ifnonnullN hx hb dX5_go_40 ?_
    obtain ⟨sa, hsa⟩ := hG.2.1.2.1 (182, "there is no road") (by simp [strs])
    exact vx_throwS (names := nm2) hx hb hst hown fitS fitn (hts _ w_290) (hts _ w_69) hsa (hatS hts hG.2.1) hgoS hG.2.2.1 hG.2.2.2.1 hS (hl.1.trans hml.symm) dX5_go_43 dX5_go_46 dX5_go_47 dX5_go_49 dX5_go_52 (fun x h => (hnt x h).elim) (Nat.le_of_ble_eq_true rfl) (Nat.le_of_ble_eq_true rfl) (Nat.le_of_ble_eq_true rfl) (Nat.le_of_ble_eq_true rfl) hlocks (fun t _ h1 h2 => ⟨(by rw [show o_go σ (nI k_2) (nI t9) b = (3, 0, σ) from by simp [o_go, gow, gfi, gk, ok2, ix2, hc_9, ix9, hc_15, hc_20, hcn, ixn, hrd]]; exact ⟨Nat.le_of_ble_eq_true rfl, rfl⟩), h1, h2⟩) (fun z hz => nomatch hz) (Nat.le_of_ble_eq_true rfl) (Nat.le_of_ble_eq_true rfl)

/-! pass -/
set_option maxHeartbeats 4000000 in
set_option maxRecDepth 100000 in
theorem c_X5_pass (l : Launch) (D : va_G) (ct : Nat → ClassId) (Z : Nat → Prop) (dc : Nat) (σ : Stt) (ad : Nat → Nat) (hst : l.stackTraces = false) (h0 : Int32) (hI : Inv σ) : vx_Met l yX5_pass (.code yX5_pass cX5_pass 4 (some .int) :: GW) ({ frames := 7, cells := 1, slots := 6, locals := 104 } : Room) (va_Pc [.ref (ad 0), .int h0] (fun U => GF D ct Z dc U U.heap ∧ Pic D ct Z dc σ ad U.heap)) (qS1 Z (fun x h => (o_pass σ h0).1 = 0 ∧ x = .int (o_pass σ h0).2.1 ∧ ∃ (σ1 : Stt) (ad1 : Nat → Nat), SC (o_pass σ h0).2.2 σ1 ∧ ad1 0 = ad 0 ∧ Pic D ct Z dc σ1 ad1 h)) (xK (fun E => exn ["java/lang/IllegalArgumentException"] (o_pass σ h0).1 E)) 1 6 (nZ Z) := by
  refine mx_in (cc := cX5_pass) [.ref (ad 0), .int h0] "RumourCustoms" rfl (by decide) (Nat.le_of_ble_eq_true rfl) ?_
  intro pg e s m args below meth cd ls hx hb hml hown hts hr hlocks hnt hPr hl
  obtain ⟨hG, hP⟩ := hPr
  have hl : lv_has ls 4 [(0, .ref (ad 0)), (1, .int h0)] := hl
  have hS : va_S (nZ Z) s.heap s.heap [] := va_S.rf
  have hn := hP.2.2.2.1
  have hnC := hP.2.2.2.2
  have hT1 := hI.1.1
  have hT10 := hI.1.2
  have hR1 := hI.2.1.1
  have hC1 := hI.2.2.1.1
  have hH : ∀ i, i < nR σ → σ 1 (7 * i + 6) = 0 ∨ σ 1 (7 * i + 6) = 1 := fun i hi => (hI.2.2.2.1 i hi).2.2.2.2.2
  refine lv_iload_n hx hb dX5_pass_0 rfl (lv_at hl 1 rfl) ?_
  refine lv_iconst (v := 1) hx hb dX5_pass_1 (by decide) ?_
  refine lv_bipush (v := 100) hx hb dX5_pass_2 (by decide) ?_
  refine c_x0C (vx_runS (As := [.int h0, .int 1, .int 100]) (rest := []) ⟨hx, hb, hml, hown, hts⟩ (c_X5_requireWithin l D ct Z dc σ ad hst h0 1 100) (k_cwS 3 hts w_403 w_404 w_59 w_405 rfl rfl (by decide) ⟨Nat.le_of_ble_eq_true rfl, Nat.le_of_ble_eq_true rfl⟩) ⟨(blindF fun _ _ _ _ h => h), fun U hU hW => ⟨rfl, hG.up hW hS hU, by rw [hU]; exact hP⟩⟩ rfl rfl hl.1 rfl (lv_room (Nat.le_of_ble_eq_true rfl)) dX5_pass_4 ⟨Nat.le_of_ble_eq_true rfl, Nat.le_of_ble_eq_true rfl⟩) hS (fun E ce q9 H1 hp hk hS1 hce hcv hcl => vx_widen (k := 1) (n := 6) (Nat.le_of_ble_eq_true rfl) (Nat.le_of_ble_eq_true rfl) (vx_out (fun x h => (hnt x h).elim) hlocks hce hcv hcl (fun t ht _ => ⟨(by obtain ⟨rfl, hf⟩ := hp; rw [show o_pass σ h0 = (1, 0, σ) from by simp [o_pass, hf]]; exact ⟨Nat.le_of_ble_eq_true rfl, rfl⟩), by rw [ht]; exact hk⟩) (fun z hz => nomatch hz) (Nat.le_refl _) (Nat.le_refl _))) (fun hc_4 => ?_)
  refine lv_aload_n hx hb dX5_pass_7 rfl (lv_at hl 0 rfl) ?_
  refine lv_dup hx hb dX5_pass_8 rfl ?_
  refine k_get (C := RX5) (T := TX5) (N := 11) hx hb hts inGX5 hown (hG.2.1).1 hP.o0 rfl 6 (by decide) (hts _ w_153) (fun _ h9 => h9) (v := .int (σ 0 0)) rfl dX5_pass_9 ?_
  refine lv_iload_n hx hb dX5_pass_12 rfl (lv_at hl 1 rfl) ?_
  refine lv_iadd hx hb dX5_pass_13 ?_
  refine k_put (C := RX5) (T := TX5) (N := 11) hx hb hts inGX5 tyX5 tyX5_ok nmX5 hown (hG.2.1).1 hP.o0 hS (hP.nz (us_lt (by decide))) rfl 6 (Nat.le_of_ble_eq_true rfl) (hts _ w_153) (fun _ h9 => h9) rfl (ty := .int) (v := .int ((σ 0 0) + h0)) (by decide +kernel) rfl rfl (Nat.le_of_ble_eq_true rfl) dX5_pass_14 (fun H14 locs14 hO14 hz14 hq14 hS14 => ?_)
  have hO14 : Ob D (ad 0) 6 [.ref (ad 1), .ref (ad 3), .ref (ad 6), .ref (ad 7), .int (σ 0 1), .int (σ 0 2), .int ((σ 0 0) + h0), .int (σ 0 5), .int (σ 0 6), .int (σ 0 7), .int (σ 0 8)] H14 := hO14
  have hP14 : Pic D ct Z dc (su σ 0 0 ((σ 0 0) + h0)) ad H14 := hP.t0 ((σ 0 0) + h0) hO14 hq14
  obtain ⟨τ14, hτ14⟩ : ∃ τ : Stt, τ = su σ 0 0 ((σ 0 0) + h0) := ⟨_, rfl⟩
  rw [← hτ14] at hP14
  have er14 : nR τ14 = nR σ := by rw [hτ14]; exact nR_eq (su_j (by decide))
  have ec14 : nC τ14 = nC σ := by rw [hτ14]; exact nC_eq (su_j (by decide))
  refine lv_iconst (v := 0) hx hb dX5_pass_17 (by decide) ?_
  refine lv_istore_n (lv' := [(2, .int 0), (0, .ref (ad 0)), (1, .int h0)]) hx hb dX5_pass_18 rfl hl (by decide) rfl (fun ls hl => ?_)
  refine lv_iconst (v := 0) hx hb dX5_pass_19 (by decide) ?_
  refine lv_istore_n (lv' := [(3, .int 0), (2, .int 0), (0, .ref (ad 0)), (1, .int h0)]) hx hb dX5_pass_20 rfl hl (by decide) rfl (fun ls hl => ?_)
  have loop21 : ∀ (n21 i : Nat) (H : Heap) (locs : List Loc) (acc : Int32), i ≤ nC σ → nC σ - i < n21 → Pic D ct Z dc (passN τ14 h0 i) ad H → va_S (nZ Z) s.heap H locs → acc = come σ h0 i → ∀ ls, lv_has ls 4 [(0, .ref (ad 0)), (1, .int h0), (3, .int (nI i)), (2, .int acc)] → W pg l e ({ frames := 7, cells := 1, slots := 6, locals := 104 } : Room) s m args below meth cd H locs 1 6 (vx_MQ below (qS1 Z (fun x h => (o_pass σ h0).1 = 0 ∧ x = .int (o_pass σ h0).2.1 ∧ ∃ (σ1 : Stt) (ad1 : Nat → Nat), SC (o_pass σ h0).2.2 σ1 ∧ ad1 0 = ad 0 ∧ Pic D ct Z dc σ1 ad1 h)) (xK (fun E => exn ["java/lang/IllegalArgumentException"] (o_pass σ h0).1 E)) args s 1 6 (nZ Z)) (F0 m 21 ls []) := by
    intro n21
    induction n21 with
    | zero => intro i H locs acc _ z; omega
    | succ n21 ih21 =>
      intro i H21 locs21 acc hi21 hn21 hP21 hS21 haacc ls hl
      obtain ⟨τ21, hτ21⟩ : ∃ τ : Stt, τ = passN τ14 h0 i := ⟨_, rfl⟩
      rw [← hτ21] at hP21
      have er21 : nR τ21 = nR τ14 := by rw [hτ21]; exact passN_nR τ14 h0 i
      have ec21 : nC τ21 = nC τ14 := by rw [hτ21]; exact passN_nC τ14 h0 i
      refine lv_iload_n hx hb dX5_pass_21 rfl (lv_at hl 2 rfl) ?_
      refine lv_aload_n hx hb dX5_pass_22 rfl (lv_at hl 0 rfl) ?_
      refine k_get (C := RX5) (T := TX5) (N := 11) hx hb hts inGX5 hown (hG.2.1).1 hP21.o0 rfl 3 (by decide) (hts _ w_150) (fun _ h9 => h9) (v := .ref (ad 7)) rfl dX5_pass_23 ?_
      refine c_p1 (va_runV (As := []) (rest := [.int (nI i)]) ⟨hx, hb, hml, hown, hts⟩ (c_Jx4a65c_size_8abf5 l D ct (ad 7) (τ21 6 1) (ad 9) (nI (nC τ21))) (cwV 0 hts (GG w_185 w_186 w_187 w_64 w_188) rfl rfl rfl (by decide) ⟨Nat.le_of_ble_eq_true rfl, Nat.le_of_ble_eq_true rfl⟩) ⟨(blindT fun _ _ _ _ h => h), Ob.recv (hG.2.1).1 hP21.o7 rfl, fun U hU hW => ⟨rfl, hG.2.1.warm hW, by rw [hU]; exact hP21.o7⟩⟩ rfl rfl hl.1 rfl (lv_room (Nat.le_of_ble_eq_true rfl)) dX5_pass_26 ⟨Nat.le_of_ble_eq_true rfl, Nat.le_of_ble_eq_true rfl⟩) ?_
      refine lv_icmp_ge (tgt := 59) hx hb dX5_pass_29 (by decide) (fun c_29 => ?_) (fun c_29 => ?_)
      · -- taken
        have nc_29 : (nC τ21) ≤ i := (nI_leI (a := (nC τ21)) (b := i) (by omega) (by omega)).mp c_29
        have he21 : i = nC τ21 := by omega
        refine lv_iload_n hx hb dX5_pass_59 rfl (lv_at hl 3 rfl) ?_
        have hcc : nC τ21 = nC σ := ec21.trans ec14
        have hii : i = nC σ := by omega
        rw [hii] at haacc
        rw [haacc]
        refine vx_ret ?_
        refine W.widen (k := 1) (n := 6) (Nat.le_of_ble_eq_true rfl) (Nat.le_of_ble_eq_true rfl) ?_
        have ho : o_pass σ h0 = (0, come σ h0 (nC σ), passN (su σ 0 0 (σ 0 0 + h0)) h0 (nC σ)) := by simp [o_pass, hc_4]
        exact W.iret (v := come σ h0 (nC σ)) hx hb hr (fun t ht hW => ⟨_, rfl, by rw [ht]; exact ⟨by rw [ho], by rw [ho], τ21, ad, by rw [ho]; exact (by rw [hτ21, hii, hτ14]; exact SC.rf), rfl, hP21⟩, hS21.F ht⟩) (fun z h => hS21.2.2 z h) dX5_pass_60
      · -- not taken
        have nc_29 : ¬ (nC τ21) ≤ i := fun z => c_29 ((nI_leI (a := (nC τ21)) (b := i) (by omega) (by omega)).mpr z)
        have hlt21 : i < nC τ21 := by omega
        refine lv_aload_n hx hb dX5_pass_32 rfl (lv_at hl 0 rfl) ?_
        refine k_get (C := RX5) (T := TX5) (N := 11) hx hb hts inGX5 hown (hG.2.1).1 hP21.o0 rfl 3 (by decide) (hts _ w_150) (fun _ h9 => h9) (v := .ref (ad 7)) rfl dX5_pass_33 ?_
        refine lv_iload_n hx hb dX5_pass_36 rfl (lv_at hl 2 rfl) ?_
        refine c_p1 (va_runV (As := [.int (nI i)]) (rest := []) ⟨hx, hb, hml, hown, hts⟩ (c_Jx4a65c_get_915e3 l D ct (ad 7) (τ21 6 1) (ad 9) (nI (nC τ21)) (nI i) (nC τ21) i (ad 21) (lq ad 200 (nC τ21)) (ad (200 + i)) rfl rfl hlt21 hP21.2.2.1.2.1 (by have := hP21.2.2.1.2.2.1; omega) (if_pos hlt21)) (cwV 1 hts (GG w_189 w_190 w_191 w_64 w_192) rfl rfl rfl (by decide) ⟨Nat.le_of_ble_eq_true rfl, Nat.le_of_ble_eq_true rfl⟩) ⟨(blindT fun _ _ _ _ h => h), Ob.recv (hG.2.1).1 hP21.o7 rfl, fun U hU hW => ⟨rfl, hG.2.1.warm hW, by rw [hU]; exact ⟨hP21.o7, (hP21.o9 (by omega))⟩⟩⟩ rfl rfl hl.1 rfl (lv_room (Nat.le_of_ble_eq_true rfl)) dX5_pass_37 ⟨Nat.le_of_ble_eq_true rfl, Nat.le_of_ble_eq_true rfl⟩) ?_
        refine va_castS hx hb hown (hts _ w_226) ((hG.2.1).1.1 1 _ rfl).2 (Ob.recv (hG.2.1).1 (hP21.c hlt21) rfl) dX5_pass_40 ?_
        refine lv_iload_n hx hb dX5_pass_43 rfl (lv_at hl 1 rfl) ?_
        refine c_w1 (va_runV (As := [.int h0]) (rest := []) ⟨hx, hb, hml, hown, hts⟩ (c_X0_comesWithin l D ct (ad (200 + i)) (nI i) (τ21 2 (4 * i)) (τ21 2 (4 * i + 1)) (τ21 2 (4 * i + 2)) (τ21 2 (4 * i + 3)) h0) (cwV 1 hts (GG w_786 w_787 w_788 w_81 w_789) rfl rfl rfl (by decide) ⟨Nat.le_of_ble_eq_true rfl, Nat.le_of_ble_eq_true rfl⟩) ⟨(blindT fun _ _ _ _ h => h), Ob.recv (hG.2.1).1 (hP21.c hlt21) rfl, fun U hU hW => ⟨rfl, hG.2.1.warm hW, by rw [hU]; exact (hP21.c hlt21)⟩⟩ rfl rfl hl.1 rfl (lv_room (Nat.le_of_ble_eq_true rfl)) dX5_pass_44 ⟨Nat.le_of_ble_eq_true rfl, Nat.le_of_ble_eq_true rfl⟩) hS21 (hP21.nz (us_c hP21.2.2.2.2 hlt21)) (fun _ h => Ob.lt h) (fun H44 locs44 hO44 hq44 hS44 => ?_)
        have hP44 : Pic D ct Z dc (su τ21 2 (4 * i + 1) (leftF (τ21 2 (4 * i + 1)) h0)) ad H44 := hP21.c1 hlt21 (leftF (τ21 2 (4 * i + 1)) h0) hO44 hq44
        obtain ⟨τ44, hτ44⟩ : ∃ τ : Stt, τ = su τ21 2 (4 * i + 1) (leftF (τ21 2 (4 * i + 1)) h0) := ⟨_, rfl⟩
        rw [← hτ44] at hP44
        have er44 : nR τ44 = nR τ21 := by rw [hτ44]; exact nR_eq (by rfl)
        have ec44 : nC τ44 = nC τ21 := by rw [hτ44]; exact nC_eq (by rfl)
        have hp44_i : i < nC τ44 := Nat.lt_of_lt_of_eq hlt21 ec44.symm
        have hrow : τ21 2 (4 * i + 1) = σ 2 (4 * i + 1) := by rw [hτ21, passN_row τ14 h0 i _ (by omega), hτ14, su_k (by decide)]
        rw [hrow]
        refine lv_if_eq (tgt := 53) hx hb dX5_pass_47 (by decide) (fun c_47 => ?_) (fun c_47 => ?_)
        · -- taken
          replace c_47 := b2_z c_47
          refine lv_iinc (v := nI (i + 1)) (lv' := [(3, .int (nI (i + 1))), (0, .ref (ad 0)), (1, .int h0), (2, .int acc)]) hx hb dX5_pass_53 hl (k := 2) rfl (nI_1 i) (by decide) rfl (fun ls hl => ?_)
          refine lv_goto (tgt := 21) hx hb dX5_pass_56 (by decide) ?_
          exact ih21 (i + 1) _ _ acc (by omega) (by omega) (show Pic D ct Z dc (passS (passN τ14 h0 i) h0 i) ad H44 by unfold passS; rw [← hτ21, ← hτ44]; exact hP44) hS44 (sm_z haacc (b2_f c_47)) ls (lv_sub hl [1, 2, 0, 3] rfl)
        · -- not taken
          replace c_47 := b2_nz c_47
          refine lv_iinc (v := acc + 1) (lv' := [(2, .int (acc + 1)), (0, .ref (ad 0)), (1, .int h0), (3, .int (nI i))]) hx hb dX5_pass_50 hl (k := 3) rfl rfl (by decide) rfl (fun ls hl => ?_)
          refine lv_iinc (v := nI (i + 1)) (lv' := [(3, .int (nI (i + 1))), (2, .int (acc + 1)), (0, .ref (ad 0)), (1, .int h0)]) hx hb dX5_pass_53 hl (k := 3) rfl (nI_1 i) (by decide) rfl (fun ls hl => ?_)
          refine lv_goto (tgt := 21) hx hb dX5_pass_56 (by decide) ?_
          exact ih21 (i + 1) _ _ (acc + 1) (by omega) (by omega) (show Pic D ct Z dc (passS (passN τ14 h0 i) h0 i) ad H44 by unfold passS; rw [← hτ21, ← hτ44]; exact hP44) hS44 (sm_t haacc (b2_t c_47)) ls (lv_sub hl [2, 3, 0, 1] rfl)
  exact loop21 (nC σ + 1 - 0) 0 _ _ 0 (Nat.zero_le _) (by omega) hP14 hS14 rfl ls (lv_sub hl [2, 3, 0, 1] rfl)
