/-! requireWithin -/
set_option maxHeartbeats 4000000 in
set_option maxRecDepth 100000 in
theorem c_X5_requireWithin (l : Launch) (D : va_G) (ct : Nat → ClassId) (Z : Nat → Prop) (dc : Nat) (σ : Stt) (ad : Nat → Nat) (hst : l.stackTraces = false) (v lo hi : Int32) : vx_Met l yX5_requireWithin (.code yX5_requireWithin cX5_requireWithin 3 none :: GW) ({ frames := 6, cells := 1, slots := 6, locals := 82 } : Room) (va_Pc [.int v, .int lo, .int hi] (fun U => GF D ct Z dc U U.heap ∧ Pic D ct Z dc σ ad U.heap)) (qPC none (wi lo v hi = true)) (xK (fun E => E = "java/lang/IllegalArgumentException" ∧ wi lo v hi = false)) 1 6 nF := by
  refine mx_in (cc := cX5_requireWithin) [.int v, .int lo, .int hi] "RumourCustoms" rfl (by decide) (Nat.le_of_ble_eq_true rfl) ?_
  intro pg e s m args below meth cd ls hx hb hml hown hts hr hlocks hnt hPr hl
  obtain ⟨hG, hP⟩ := hPr
  have hl : lv_has ls 3 [(0, .int v), (1, .int lo), (2, .int hi)] := hl
  have hS : va_S (nZ Z) s.heap s.heap [] := va_S.rf
  have hn := hP.2.2.2.1
  have hnC := hP.2.2.2.2
  refine lv_iload_n hx hb dX5_requireWithin_0 rfl (lv_at hl 0 rfl) ?_
  refine lv_iload_n hx hb dX5_requireWithin_1 rfl (lv_at hl 1 rfl) ?_
  refine lv_icmp_lt (tgt := 10) hx hb dX5_requireWithin_2 (by decide) (fun c_2 => ?_) (fun c_2 => ?_)
  · -- taken
    obtain ⟨sa, hsa⟩ := hG.2.1.2.1 (265, "a number is out of its limits") (by simp [strs])
    exact vx_throwSW (names := nm2) hx hb hst hown fitA fitn (hts _ w_387) (hts _ w_71) hsa (hatA hts hG.2.1) hgoA hG.2.2.1 hG.2.2.2.1 hS (hl.1.trans hml.symm) dX5_requireWithin_10 dX5_requireWithin_13 dX5_requireWithin_14 dX5_requireWithin_17 dX5_requireWithin_20 (fun x h => (hnt x h).elim) (Nat.le_of_ble_eq_true rfl) (Nat.le_of_ble_eq_true rfl) (Nat.le_of_ble_eq_true rfl) (Nat.le_of_ble_eq_true rfl) hlocks (fun t _ h1 h2 => ⟨⟨rfl, decide_eq_false (fun z => by first | exact absurd z.1 (Int32.not_le.mpr c_2) | exact c_7 z.2)⟩, h1, h2⟩) (fun z hz => nomatch hz) (Nat.le_of_ble_eq_true rfl) (Nat.le_of_ble_eq_true rfl)
  · -- not taken
    refine lv_iload_n hx hb dX5_requireWithin_5 rfl (lv_at hl 0 rfl) ?_
    refine lv_iload_n hx hb dX5_requireWithin_6 rfl (lv_at hl 2 rfl) ?_
    refine lv_icmp_le (tgt := 21) hx hb dX5_requireWithin_7 (by decide) (fun c_7 => ?_) (fun c_7 => ?_)
    · -- taken
      refine vx_ret ?_
      refine W.widen (k := 1) (n := 6) (Nat.le_of_ble_eq_true rfl) (Nat.le_of_ble_eq_true rfl) ?_
      exact W.vret hx hb hr (fun t ht hW => ⟨rfl, ht, decide_eq_true ⟨i32_nlt c_2, c_7⟩⟩) (fun q h => nomatch h) dX5_requireWithin_21
    · -- not taken
      obtain ⟨sa, hsa⟩ := hG.2.1.2.1 (265, "a number is out of its limits") (by simp [strs])
      exact vx_throwSW (names := nm2) hx hb hst hown fitA fitn (hts _ w_387) (hts _ w_71) hsa (hatA hts hG.2.1) hgoA hG.2.2.1 hG.2.2.2.1 hS (hl.1.trans hml.symm) dX5_requireWithin_10 dX5_requireWithin_13 dX5_requireWithin_14 dX5_requireWithin_17 dX5_requireWithin_20 (fun x h => (hnt x h).elim) (Nat.le_of_ble_eq_true rfl) (Nat.le_of_ble_eq_true rfl) (Nat.le_of_ble_eq_true rfl) (Nat.le_of_ble_eq_true rfl) hlocks (fun t _ h1 h2 => ⟨⟨rfl, decide_eq_false (fun z => by first | exact absurd z.1 (Int32.not_le.mpr c_2) | exact c_7 z.2)⟩, h1, h2⟩) (fun z hz => nomatch hz) (Nat.le_of_ble_eq_true rfl) (Nat.le_of_ble_eq_true rfl)

/-! requireWhat -/
set_option maxHeartbeats 4000000 in
set_option maxRecDepth 100000 in
theorem c_X5_requireWhat (l : Launch) (D : va_G) (ct : Nat → ClassId) (Z : Nat → Prop) (dc : Nat) (σ : Stt) (ad : Nat → Nat) (hst : l.stackTraces = false) (v hi : Int32) : vx_Met l yX5_requireWhat (.code yX5_requireWhat cX5_requireWhat 2 none :: GW) ({ frames := 6, cells := 1, slots := 6, locals := 82 } : Room) (va_Pc [.int v, .int hi] (fun U => GF D ct Z dc U U.heap ∧ Pic D ct Z dc σ ad U.heap)) (qPC none (wi 0 v hi = true)) (xK (fun E => E = "java/lang/IndexOutOfBoundsException" ∧ wi 0 v hi = false)) 1 6 nF := by
  refine mx_in (cc := cX5_requireWhat) [.int v, .int hi] "RumourCustoms" rfl (by decide) (Nat.le_of_ble_eq_true rfl) ?_
  intro pg e s m args below meth cd ls hx hb hml hown hts hr hlocks hnt hPr hl
  obtain ⟨hG, hP⟩ := hPr
  have hl : lv_has ls 2 [(0, .int v), (1, .int hi)] := hl
  have hS : va_S (nZ Z) s.heap s.heap [] := va_S.rf
  have hn := hP.2.2.2.1
  have hnC := hP.2.2.2.2
  refine lv_iload_n hx hb dX5_requireWhat_0 rfl (lv_at hl 0 rfl) ?_
  refine lv_if_lt (tgt := 9) hx hb dX5_requireWhat_1 (by decide) (fun c_1 => ?_) (fun c_1 => ?_)
  · -- taken
    obtain ⟨sa, hsa⟩ := hG.2.1.2.1 (269, "there is no such thing to tell") (by simp [strs])
    exact vx_throwSW (names := nm2) hx hb hst hown fitI fitn (hts _ w_371) (hts _ w_70) hsa (hatI hts hG.2.1) hgoI hG.2.2.1 hG.2.2.2.1 hS (hl.1.trans hml.symm) dX5_requireWhat_9 dX5_requireWhat_12 dX5_requireWhat_13 dX5_requireWhat_16 dX5_requireWhat_19 (fun x h => (hnt x h).elim) (Nat.le_of_ble_eq_true rfl) (Nat.le_of_ble_eq_true rfl) (Nat.le_of_ble_eq_true rfl) (Nat.le_of_ble_eq_true rfl) hlocks (fun t _ h1 h2 => ⟨⟨rfl, decide_eq_false (fun z => by first | exact absurd z.1 (Int32.not_le.mpr c_1) | exact c_6 z.2)⟩, h1, h2⟩) (fun z hz => nomatch hz) (Nat.le_of_ble_eq_true rfl) (Nat.le_of_ble_eq_true rfl)
  · -- not taken
    refine lv_iload_n hx hb dX5_requireWhat_4 rfl (lv_at hl 0 rfl) ?_
    refine lv_iload_n hx hb dX5_requireWhat_5 rfl (lv_at hl 1 rfl) ?_
    refine lv_icmp_le (tgt := 20) hx hb dX5_requireWhat_6 (by decide) (fun c_6 => ?_) (fun c_6 => ?_)
    · -- taken
      refine vx_ret ?_
      refine W.widen (k := 1) (n := 6) (Nat.le_of_ble_eq_true rfl) (Nat.le_of_ble_eq_true rfl) ?_
      exact W.vret hx hb hr (fun t ht hW => ⟨rfl, ht, decide_eq_true ⟨i32_nlt c_1, c_6⟩⟩) (fun q h => nomatch h) dX5_requireWhat_20
    · -- not taken
      obtain ⟨sa, hsa⟩ := hG.2.1.2.1 (269, "there is no such thing to tell") (by simp [strs])
      exact vx_throwSW (names := nm2) hx hb hst hown fitI fitn (hts _ w_371) (hts _ w_70) hsa (hatI hts hG.2.1) hgoI hG.2.2.1 hG.2.2.2.1 hS (hl.1.trans hml.symm) dX5_requireWhat_9 dX5_requireWhat_12 dX5_requireWhat_13 dX5_requireWhat_16 dX5_requireWhat_19 (fun x h => (hnt x h).elim) (Nat.le_of_ble_eq_true rfl) (Nat.le_of_ble_eq_true rfl) (Nat.le_of_ble_eq_true rfl) (Nat.le_of_ble_eq_true rfl) hlocks (fun t _ h1 h2 => ⟨⟨rfl, decide_eq_false (fun z => by first | exact absurd z.1 (Int32.not_le.mpr c_1) | exact c_6 z.2)⟩, h1, h2⟩) (fun z hz => nomatch hz) (Nat.le_of_ble_eq_true rfl) (Nat.le_of_ble_eq_true rfl)

/-! requireTown -/
set_option maxHeartbeats 4000000 in
set_option maxRecDepth 100000 in
theorem c_X5_requireTown (l : Launch) (D : va_G) (ct : Nat → ClassId) (Z : Nat → Prop) (dc : Nat) (σ : Stt) (ad : Nat → Nat) (hst : l.stackTraces = false) (v : Int32) : vx_Met l yX5_requireTown (.code yX5_requireTown cX5_requireTown 2 none :: GW) ({ frames := 6, cells := 1, slots := 6, locals := 82 } : Room) (va_Pc [.ref (ad 0), .int v] (fun U => GF D ct Z dc U U.heap ∧ Pic D ct Z dc σ ad U.heap)) (qPC none (tOK σ v = true)) (xK (fun E => E = "java/lang/IndexOutOfBoundsException" ∧ tOK σ v = false)) 1 6 nF := by
  refine mx_in (cc := cX5_requireTown) [.ref (ad 0), .int v] "RumourCustoms" rfl (by decide) (Nat.le_of_ble_eq_true rfl) ?_
  intro pg e s m args below meth cd ls hx hb hml hown hts hr hlocks hnt hPr hl
  obtain ⟨hG, hP⟩ := hPr
  have hl : lv_has ls 2 [(0, .ref (ad 0)), (1, .int v)] := hl
  have hS : va_S (nZ Z) s.heap s.heap [] := va_S.rf
  have hn := hP.2.2.2.1
  have hnC := hP.2.2.2.2
  refine lv_iload_n hx hb dX5_requireTown_0 rfl (lv_at hl 1 rfl) ?_
  refine lv_if_lt (tgt := 12) hx hb dX5_requireTown_1 (by decide) (fun c_1 => ?_) (fun c_1 => ?_)
  · -- taken
    obtain ⟨sa, hsa⟩ := hG.2.1.2.1 (272, "there is no such town") (by simp [strs])
    exact vx_throwSW (names := nm2) hx hb hst hown fitI fitn (hts _ w_371) (hts _ w_70) hsa (hatI hts hG.2.1) hgoI hG.2.2.1 hG.2.2.2.1 hS (hl.1.trans hml.symm) dX5_requireTown_12 dX5_requireTown_15 dX5_requireTown_16 dX5_requireTown_19 dX5_requireTown_22 (fun x h => (hnt x h).elim) (Nat.le_of_ble_eq_true rfl) (Nat.le_of_ble_eq_true rfl) (Nat.le_of_ble_eq_true rfl) (Nat.le_of_ble_eq_true rfl) hlocks (fun t _ h1 h2 => ⟨⟨rfl, decide_eq_false (fun z => by first | exact absurd z.1 (Int32.not_le.mpr c_1) | exact c_9 z.2)⟩, h1, h2⟩) (fun z hz => nomatch hz) (Nat.le_of_ble_eq_true rfl) (Nat.le_of_ble_eq_true rfl)
  · -- not taken
    refine lv_iload_n hx hb dX5_requireTown_4 rfl (lv_at hl 1 rfl) ?_
    refine lv_aload_n hx hb dX5_requireTown_5 rfl (lv_at hl 0 rfl) ?_
    refine k_get (C := RX5) (T := TX5) (N := 11) hx hb hts inGX5 hown (hG.2.1).1 hP.o0 rfl 4 (by decide) (hts _ w_151) (fun _ h9 => h9) (v := .int (σ 0 1)) rfl dX5_requireTown_6 ?_
    refine lv_icmp_lt (tgt := 23) hx hb dX5_requireTown_9 (by decide) (fun c_9 => ?_) (fun c_9 => ?_)
    · -- taken
      refine vx_ret ?_
      refine W.widen (k := 1) (n := 6) (Nat.le_of_ble_eq_true rfl) (Nat.le_of_ble_eq_true rfl) ?_
      exact W.vret hx hb hr (fun t ht hW => ⟨rfl, ht, decide_eq_true ⟨i32_nlt c_1, c_9⟩⟩) (fun q h => nomatch h) dX5_requireTown_23
    · -- not taken
      obtain ⟨sa, hsa⟩ := hG.2.1.2.1 (272, "there is no such town") (by simp [strs])
      exact vx_throwSW (names := nm2) hx hb hst hown fitI fitn (hts _ w_371) (hts _ w_70) hsa (hatI hts hG.2.1) hgoI hG.2.2.1 hG.2.2.2.1 hS (hl.1.trans hml.symm) dX5_requireTown_12 dX5_requireTown_15 dX5_requireTown_16 dX5_requireTown_19 dX5_requireTown_22 (fun x h => (hnt x h).elim) (Nat.le_of_ble_eq_true rfl) (Nat.le_of_ble_eq_true rfl) (Nat.le_of_ble_eq_true rfl) (Nat.le_of_ble_eq_true rfl) hlocks (fun t _ h1 h2 => ⟨⟨rfl, decide_eq_false (fun z => by first | exact absurd z.1 (Int32.not_le.mpr c_1) | exact c_9 z.2)⟩, h1, h2⟩) (fun z hz => nomatch hz) (Nat.le_of_ble_eq_true rfl) (Nat.le_of_ble_eq_true rfl)

/-! X5_rumourAt -/
set_option maxHeartbeats 4000000 in
set_option maxRecDepth 100000 in
theorem c_X5_rumourAt (l : Launch) (D : va_G) (ct : Nat → ClassId) (Z : Nat → Prop) (dc : Nat) (σ : Stt) (ad : Nat → Nat) (hst : l.stackTraces = false) (v : Int32) (h03 : σ 0 3 = nI (nR σ)) : vx_Met l yX5_rumourAt (.code yX5_rumourAt cX5_rumourAt 2 (some (.object "RumourCustoms$Rumour")) :: GW) ({ frames := 6, cells := 1, slots := 6, locals := 82 } : Room) (va_Pc [.ref (ad 0), .int v] (fun U => GF D ct Z dc U U.heap ∧ Pic D ct Z dc σ ad U.heap)) (qPR (fun x => ∃ k, k < nR σ ∧ v = nI k ∧ x = .ref (ad (100 + k)))) (xK (fun E => E = "java/lang/IndexOutOfBoundsException" ∧ rOK σ v = false)) 1 6 nF := by
  refine mx_in (cc := cX5_rumourAt) [.ref (ad 0), .int v] "RumourCustoms" rfl (by decide) (Nat.le_of_ble_eq_true rfl) ?_
  intro pg e s m args below meth cd ls hx hb hml hown hts hr hlocks hnt hPr hl
  obtain ⟨hG, hP⟩ := hPr
  have hl : lv_has ls 2 [(0, .ref (ad 0)), (1, .int v)] := hl
  have hS : va_S (nZ Z) s.heap s.heap [] := va_S.rf
  have hn := hP.2.2.2.1
  have hnC := hP.2.2.2.2
  refine lv_iload_n hx hb dX5_rumourAt_0 rfl (lv_at hl 1 rfl) ?_
  refine lv_if_lt (tgt := 15) hx hb dX5_rumourAt_1 (by decide) (fun c_1 => ?_) (fun c_1 => ?_)
  · -- taken
    obtain ⟨sa, hsa⟩ := hG.2.1.2.1 (274, "there is no such rumour") (by simp [strs])
    exact vx_throwSW (names := nm2) hx hb hst hown fitI fitn (hts _ w_371) (hts _ w_70) hsa (hatI hts hG.2.1) hgoI hG.2.2.1 hG.2.2.2.1 hS (hl.1.trans hml.symm) dX5_rumourAt_15 dX5_rumourAt_18 dX5_rumourAt_19 dX5_rumourAt_22 dX5_rumourAt_25 (fun x h => (hnt x h).elim) (Nat.le_of_ble_eq_true rfl) (Nat.le_of_ble_eq_true rfl) (Nat.le_of_ble_eq_true rfl) (Nat.le_of_ble_eq_true rfl) hlocks (fun t _ h1 h2 => ⟨⟨rfl, decide_eq_false (fun z => by rw [h03] at z; first | exact absurd z.1 (Int32.not_le.mpr c_1) | exact c_12 z.2)⟩, h1, h2⟩) (fun z hz => nomatch hz) (Nat.le_of_ble_eq_true rfl) (Nat.le_of_ble_eq_true rfl)
  · -- not taken
    refine lv_iload_n hx hb dX5_rumourAt_4 rfl (lv_at hl 1 rfl) ?_
    refine lv_aload_n hx hb dX5_rumourAt_5 rfl (lv_at hl 0 rfl) ?_
    refine k_get (C := RX5) (T := TX5) (N := 11) hx hb hts inGX5 hown (hG.2.1).1 hP.o0 rfl 2 (by decide) (hts _ w_149) (fun _ h9 => h9) (v := .ref (ad 6)) rfl dX5_rumourAt_6 ?_
    refine c_p1 (va_runV (As := []) (rest := [.int v]) ⟨hx, hb, hml, hown, hts⟩ (c_Jx4a65c_size_8abf5 l D ct (ad 6) (σ 6 0) (ad 8) (nI (nR σ))) (cwV 0 hts (GG w_185 w_186 w_187 w_64 w_188) rfl rfl rfl (by decide) ⟨Nat.le_of_ble_eq_true rfl, Nat.le_of_ble_eq_true rfl⟩) ⟨(blindT fun _ _ _ _ h => h), Ob.recv (hG.2.1).1 hP.o6 rfl, fun U hU hW => ⟨rfl, hG.2.1.warm hW, by rw [hU]; exact hP.o6⟩⟩ rfl rfl hl.1 rfl (lv_room (Nat.le_of_ble_eq_true rfl)) dX5_rumourAt_9 ⟨Nat.le_of_ble_eq_true rfl, Nat.le_of_ble_eq_true rfl⟩) ?_
    refine lv_icmp_lt (tgt := 26) hx hb dX5_rumourAt_12 (by decide) (fun c_12 => ?_) (fun c_12 => ?_)
    · -- taken
      obtain ⟨k, hk31, hvk⟩ := nI_of c_1
      subst hvk
      have hkn : k < nR σ := (nI_ltI hk31 (by omega)).mp c_12
      refine lv_aload_n hx hb dX5_rumourAt_26 rfl (lv_at hl 0 rfl) ?_
      refine k_get (C := RX5) (T := TX5) (N := 11) hx hb hts inGX5 hown (hG.2.1).1 hP.o0 rfl 2 (by decide) (hts _ w_149) (fun _ h9 => h9) (v := .ref (ad 6)) rfl dX5_rumourAt_27 ?_
      refine lv_iload_n hx hb dX5_rumourAt_30 rfl (lv_at hl 1 rfl) ?_
      refine c_p1 (va_runV (As := [.int (nI k)]) (rest := []) ⟨hx, hb, hml, hown, hts⟩ (c_Jx4a65c_get_915e3 l D ct (ad 6) (σ 6 0) (ad 8) (nI (nR σ)) (nI k) (nR σ) k (ad 20) (lq ad 100 (nR σ)) (ad (100 + k)) rfl rfl hkn hP.2.2.1.1.1 (by have := hP.2.2.1.1.2.1; omega) (if_pos hkn)) (cwV 1 hts (GG w_189 w_190 w_191 w_64 w_192) rfl rfl rfl (by decide) ⟨Nat.le_of_ble_eq_true rfl, Nat.le_of_ble_eq_true rfl⟩) ⟨(blindT fun _ _ _ _ h => h), Ob.recv (hG.2.1).1 hP.o6 rfl, fun U hU hW => ⟨rfl, hG.2.1.warm hW, by rw [hU]; exact ⟨hP.o6, (hP.o8 (by omega))⟩⟩⟩ rfl rfl hl.1 rfl (lv_room (Nat.le_of_ble_eq_true rfl)) dX5_rumourAt_31 ⟨Nat.le_of_ble_eq_true rfl, Nat.le_of_ble_eq_true rfl⟩) ?_
      refine va_castS hx hb hown (hts _ w_203) ((hG.2.1).1.1 4 _ rfl).2 (Ob.recv (hG.2.1).1 (hP.r hkn) rfl) dX5_rumourAt_34 ?_
      refine vx_ret ?_
      refine W.widen (k := 1) (n := 6) (Nat.le_of_ble_eq_true rfl) (Nat.le_of_ble_eq_true rfl) ?_
      exact W.aret (v := .ref (ad (100 + k))) hx hb hr (Or.inl ⟨_, rfl⟩) (Or.inr ⟨_, rfl⟩) (fun t ht hW => ⟨_, rfl, ht, ⟨k, hkn, rfl, rfl⟩⟩) (fun q h => nomatch h) dX5_rumourAt_37
    · -- not taken
      obtain ⟨sa, hsa⟩ := hG.2.1.2.1 (274, "there is no such rumour") (by simp [strs])
      exact vx_throwSW (names := nm2) hx hb hst hown fitI fitn (hts _ w_371) (hts _ w_70) hsa (hatI hts hG.2.1) hgoI hG.2.2.1 hG.2.2.2.1 hS (hl.1.trans hml.symm) dX5_rumourAt_15 dX5_rumourAt_18 dX5_rumourAt_19 dX5_rumourAt_22 dX5_rumourAt_25 (fun x h => (hnt x h).elim) (Nat.le_of_ble_eq_true rfl) (Nat.le_of_ble_eq_true rfl) (Nat.le_of_ble_eq_true rfl) (Nat.le_of_ble_eq_true rfl) hlocks (fun t _ h1 h2 => ⟨⟨rfl, decide_eq_false (fun z => by rw [h03] at z; first | exact absurd z.1 (Int32.not_le.mpr c_1) | exact c_12 z.2)⟩, h1, h2⟩) (fun z hz => nomatch hz) (Nat.le_of_ble_eq_true rfl) (Nat.le_of_ble_eq_true rfl)

/-! X5_carrierAt -/
set_option maxHeartbeats 4000000 in
set_option maxRecDepth 100000 in
theorem c_X5_carrierAt (l : Launch) (D : va_G) (ct : Nat → ClassId) (Z : Nat → Prop) (dc : Nat) (σ : Stt) (ad : Nat → Nat) (hst : l.stackTraces = false) (v : Int32) (h04 : σ 0 4 = nI (nC σ)) : vx_Met l yX5_carrierAt (.code yX5_carrierAt cX5_carrierAt 2 (some (.object "RumourCustoms$Carrier")) :: GW) ({ frames := 6, cells := 1, slots := 6, locals := 82 } : Room) (va_Pc [.ref (ad 0), .int v] (fun U => GF D ct Z dc U U.heap ∧ Pic D ct Z dc σ ad U.heap)) (qPR (fun x => ∃ k, k < nC σ ∧ v = nI k ∧ x = .ref (ad (200 + k)))) (xK (fun E => E = "java/lang/IndexOutOfBoundsException" ∧ cOK σ v = false)) 1 6 nF := by
  refine mx_in (cc := cX5_carrierAt) [.ref (ad 0), .int v] "RumourCustoms" rfl (by decide) (Nat.le_of_ble_eq_true rfl) ?_
  intro pg e s m args below meth cd ls hx hb hml hown hts hr hlocks hnt hPr hl
  obtain ⟨hG, hP⟩ := hPr
  have hl : lv_has ls 2 [(0, .ref (ad 0)), (1, .int v)] := hl
  have hS : va_S (nZ Z) s.heap s.heap [] := va_S.rf
  have hn := hP.2.2.2.1
  have hnC := hP.2.2.2.2
  refine lv_iload_n hx hb dX5_carrierAt_0 rfl (lv_at hl 1 rfl) ?_
  refine lv_if_lt (tgt := 15) hx hb dX5_carrierAt_1 (by decide) (fun c_1 => ?_) (fun c_1 => ?_)
  · -- taken
    obtain ⟨sa, hsa⟩ := hG.2.1.2.1 (276, "there is no such carrier") (by simp [strs])
    exact vx_throwSW (names := nm2) hx hb hst hown fitI fitn (hts _ w_371) (hts _ w_70) hsa (hatI hts hG.2.1) hgoI hG.2.2.1 hG.2.2.2.1 hS (hl.1.trans hml.symm) dX5_carrierAt_15 dX5_carrierAt_18 dX5_carrierAt_19 dX5_carrierAt_22 dX5_carrierAt_25 (fun x h => (hnt x h).elim) (Nat.le_of_ble_eq_true rfl) (Nat.le_of_ble_eq_true rfl) (Nat.le_of_ble_eq_true rfl) (Nat.le_of_ble_eq_true rfl) hlocks (fun t _ h1 h2 => ⟨⟨rfl, decide_eq_false (fun z => by rw [h04] at z; first | exact absurd z.1 (Int32.not_le.mpr c_1) | exact c_12 z.2)⟩, h1, h2⟩) (fun z hz => nomatch hz) (Nat.le_of_ble_eq_true rfl) (Nat.le_of_ble_eq_true rfl)
  · -- not taken
    refine lv_iload_n hx hb dX5_carrierAt_4 rfl (lv_at hl 1 rfl) ?_
    refine lv_aload_n hx hb dX5_carrierAt_5 rfl (lv_at hl 0 rfl) ?_
    refine k_get (C := RX5) (T := TX5) (N := 11) hx hb hts inGX5 hown (hG.2.1).1 hP.o0 rfl 3 (by decide) (hts _ w_150) (fun _ h9 => h9) (v := .ref (ad 7)) rfl dX5_carrierAt_6 ?_
    refine c_p1 (va_runV (As := []) (rest := [.int v]) ⟨hx, hb, hml, hown, hts⟩ (c_Jx4a65c_size_8abf5 l D ct (ad 7) (σ 6 1) (ad 9) (nI (nC σ))) (cwV 0 hts (GG w_185 w_186 w_187 w_64 w_188) rfl rfl rfl (by decide) ⟨Nat.le_of_ble_eq_true rfl, Nat.le_of_ble_eq_true rfl⟩) ⟨(blindT fun _ _ _ _ h => h), Ob.recv (hG.2.1).1 hP.o7 rfl, fun U hU hW => ⟨rfl, hG.2.1.warm hW, by rw [hU]; exact hP.o7⟩⟩ rfl rfl hl.1 rfl (lv_room (Nat.le_of_ble_eq_true rfl)) dX5_carrierAt_9 ⟨Nat.le_of_ble_eq_true rfl, Nat.le_of_ble_eq_true rfl⟩) ?_
    refine lv_icmp_lt (tgt := 26) hx hb dX5_carrierAt_12 (by decide) (fun c_12 => ?_) (fun c_12 => ?_)
    · -- taken
      obtain ⟨k, hk31, hvk⟩ := nI_of c_1
      subst hvk
      have hkn : k < nC σ := (nI_ltI hk31 (by omega)).mp c_12
      refine lv_aload_n hx hb dX5_carrierAt_26 rfl (lv_at hl 0 rfl) ?_
      refine k_get (C := RX5) (T := TX5) (N := 11) hx hb hts inGX5 hown (hG.2.1).1 hP.o0 rfl 3 (by decide) (hts _ w_150) (fun _ h9 => h9) (v := .ref (ad 7)) rfl dX5_carrierAt_27 ?_
      refine lv_iload_n hx hb dX5_carrierAt_30 rfl (lv_at hl 1 rfl) ?_
      refine c_p1 (va_runV (As := [.int (nI k)]) (rest := []) ⟨hx, hb, hml, hown, hts⟩ (c_Jx4a65c_get_915e3 l D ct (ad 7) (σ 6 1) (ad 9) (nI (nC σ)) (nI k) (nC σ) k (ad 21) (lq ad 200 (nC σ)) (ad (200 + k)) rfl rfl hkn hP.2.2.1.2.1 (by have := hP.2.2.1.2.2.1; omega) (if_pos hkn)) (cwV 1 hts (GG w_189 w_190 w_191 w_64 w_192) rfl rfl rfl (by decide) ⟨Nat.le_of_ble_eq_true rfl, Nat.le_of_ble_eq_true rfl⟩) ⟨(blindT fun _ _ _ _ h => h), Ob.recv (hG.2.1).1 hP.o7 rfl, fun U hU hW => ⟨rfl, hG.2.1.warm hW, by rw [hU]; exact ⟨hP.o7, (hP.o9 (by omega))⟩⟩⟩ rfl rfl hl.1 rfl (lv_room (Nat.le_of_ble_eq_true rfl)) dX5_carrierAt_31 ⟨Nat.le_of_ble_eq_true rfl, Nat.le_of_ble_eq_true rfl⟩) ?_
      refine va_castS hx hb hown (hts _ w_226) ((hG.2.1).1.1 1 _ rfl).2 (Ob.recv (hG.2.1).1 (hP.c hkn) rfl) dX5_carrierAt_34 ?_
      refine vx_ret ?_
      refine W.widen (k := 1) (n := 6) (Nat.le_of_ble_eq_true rfl) (Nat.le_of_ble_eq_true rfl) ?_
      exact W.aret (v := .ref (ad (200 + k))) hx hb hr (Or.inl ⟨_, rfl⟩) (Or.inr ⟨_, rfl⟩) (fun t ht hW => ⟨_, rfl, ht, ⟨k, hkn, rfl, rfl⟩⟩) (fun q h => nomatch h) dX5_carrierAt_37
    · -- not taken
      obtain ⟨sa, hsa⟩ := hG.2.1.2.1 (276, "there is no such carrier") (by simp [strs])
      exact vx_throwSW (names := nm2) hx hb hst hown fitI fitn (hts _ w_371) (hts _ w_70) hsa (hatI hts hG.2.1) hgoI hG.2.2.1 hG.2.2.2.1 hS (hl.1.trans hml.symm) dX5_carrierAt_15 dX5_carrierAt_18 dX5_carrierAt_19 dX5_carrierAt_22 dX5_carrierAt_25 (fun x h => (hnt x h).elim) (Nat.le_of_ble_eq_true rfl) (Nat.le_of_ble_eq_true rfl) (Nat.le_of_ble_eq_true rfl) (Nat.le_of_ble_eq_true rfl) hlocks (fun t _ h1 h2 => ⟨⟨rfl, decide_eq_false (fun z => by rw [h04] at z; first | exact absurd z.1 (Int32.not_le.mpr c_1) | exact c_12 z.2)⟩, h1, h2⟩) (fun z hz => nomatch hz) (Nat.le_of_ble_eq_true rfl) (Nat.le_of_ble_eq_true rfl)

/-! requireInTown -/
set_option maxHeartbeats 4000000 in
set_option maxRecDepth 100000 in
theorem c_X5_requireInTown (l : Launch) (D : va_G) (ct : Nat → ClassId) (Z : Nat → Prop) (dc : Nat) (σ : Stt) (ad : Nat → Nat) (hst : l.stackTraces = false) (k : Nat) (hk : k < nC σ) : vx_Met l yX5_requireInTown (.code yX5_requireInTown cX5_requireInTown 1 none :: GW) ({ frames := 6, cells := 1, slots := 6, locals := 82 } : Room) (va_Pc [.ref (ad (200 + k))] (fun U => GF D ct Z dc U U.heap ∧ Pic D ct Z dc σ ad U.heap)) (qPC none (onW σ k = false)) (xK (fun E => E = "java/lang/IllegalStateException" ∧ onW σ k = true)) 1 6 nF := by
  refine mx_in (cc := cX5_requireInTown) [.ref (ad (200 + k))] "RumourCustoms" rfl (by decide) (Nat.le_of_ble_eq_true rfl) ?_
  intro pg e s m args below meth cd ls hx hb hml hown hts hr hlocks hnt hPr hl
  obtain ⟨hG, hP⟩ := hPr
  have hl : lv_has ls 1 [(0, .ref (ad (200 + k)))] := hl
  have hS : va_S (nZ Z) s.heap s.heap [] := va_S.rf
  have hn := hP.2.2.2.1
  have hnC := hP.2.2.2.2
  refine lv_aload_n hx hb dX5_requireInTown_0 rfl (lv_at hl 0 rfl) ?_
  refine c_p1 (va_runV (As := []) (rest := []) ⟨hx, hb, hml, hown, hts⟩ (c_X0_isOnTheWay l D ct (ad (200 + k)) (nI k) (σ 2 (4 * k)) (σ 2 (4 * k + 1)) (σ 2 (4 * k + 2)) (σ 2 (4 * k + 3))) (cwV 0 hts (GG w_227 w_228 w_229 w_81 w_230) rfl rfl rfl (by decide) ⟨Nat.le_of_ble_eq_true rfl, Nat.le_of_ble_eq_true rfl⟩) ⟨(blindT fun _ _ _ _ h => h), Ob.recv (hG.2.1).1 (hP.c hk) rfl, fun U hU hW => ⟨rfl, hG.2.1.warm hW, by rw [hU]; exact (hP.c hk)⟩⟩ rfl rfl hl.1 rfl (lv_room (Nat.le_of_ble_eq_true rfl)) dX5_requireInTown_1 ⟨Nat.le_of_ble_eq_true rfl, Nat.le_of_ble_eq_true rfl⟩) ?_
  refine lv_if_eq (tgt := 18) hx hb dX5_requireInTown_4 (by decide) (fun c_4 => ?_) (fun c_4 => ?_)
  · -- taken
    replace c_4 := b2_z c_4
    refine vx_ret ?_
    refine W.widen (k := 1) (n := 6) (Nat.le_of_ble_eq_true rfl) (Nat.le_of_ble_eq_true rfl) ?_
    exact W.vret hx hb hr (fun t ht hW => ⟨rfl, ht, decide_eq_false c_4⟩) (fun q h => nomatch h) dX5_requireInTown_18
  · -- not taken
    replace c_4 := b2_nz c_4
    obtain ⟨sa, hsa⟩ := hG.2.1.2.1 (282, "the carrier is on the way") (by simp [strs])
    exact vx_throwSW (names := nm2) hx hb hst hown fitS fitn (hts _ w_290) (hts _ w_69) hsa (hatS hts hG.2.1) hgoS hG.2.2.1 hG.2.2.2.1 hS (hl.1.trans hml.symm) dX5_requireInTown_7 dX5_requireInTown_10 dX5_requireInTown_11 dX5_requireInTown_14 dX5_requireInTown_17 (fun x h => (hnt x h).elim) (Nat.le_of_ble_eq_true rfl) (Nat.le_of_ble_eq_true rfl) (Nat.le_of_ble_eq_true rfl) (Nat.le_of_ble_eq_true rfl) hlocks (fun t _ h1 h2 => ⟨⟨rfl, decide_eq_true c_4⟩, h1, h2⟩) (fun z hz => nomatch hz) (Nat.le_of_ble_eq_true rfl) (Nat.le_of_ble_eq_true rfl)

/-! requireHas -/
set_option maxHeartbeats 4000000 in
set_option maxRecDepth 100000 in
theorem c_X5_requireHas (l : Launch) (D : va_G) (ct : Nat → ClassId) (Z : Nat → Prop) (dc : Nat) (σ : Stt) (ad : Nat → Nat) (hst : l.stackTraces = false) (k i : Nat) (hk : k < nC σ) (hi : i < nR σ) : vx_Met l yX5_requireHas (.code yX5_requireHas cX5_requireHas 2 none :: GW) ({ frames := 6, cells := 1, slots := 6, locals := 82 } : Room) (va_Pc [.ref (ad (200 + k)), .ref (ad (100 + i))] (fun U => GF D ct Z dc U U.heap ∧ Pic D ct Z dc σ ad U.heap)) (qPC none (has σ k i = true)) (xK (fun E => E = "java/lang/IllegalStateException" ∧ has σ k i = false)) 1 6 nF := by
  refine mx_in (cc := cX5_requireHas) [.ref (ad (200 + k)), .ref (ad (100 + i))] "RumourCustoms" rfl (by decide) (Nat.le_of_ble_eq_true rfl) ?_
  intro pg e s m args below meth cd ls hx hb hml hown hts hr hlocks hnt hPr hl
  obtain ⟨hG, hP⟩ := hPr
  have hl : lv_has ls 2 [(0, .ref (ad (200 + k))), (1, .ref (ad (100 + i)))] := hl
  have hS : va_S (nZ Z) s.heap s.heap [] := va_S.rf
  have hn := hP.2.2.2.1
  have hnC := hP.2.2.2.2
  refine lv_aload_n hx hb dX5_requireHas_0 rfl (lv_at hl 1 rfl) ?_
  refine lv_aload_n hx hb dX5_requireHas_1 rfl (lv_at hl 0 rfl) ?_
  refine c_p1 (va_runV (As := [.ref (ad (200 + k))]) (rest := []) ⟨hx, hb, hml, hown, hts⟩ (c_X3_isInBagOf l D ct (ad (100 + i)) (nI i) (σ 1 (7 * i + 3)) (σ 1 (7 * i)) (σ 1 (7 * i + 1)) (σ 1 (7 * i + 2)) (σ 1 (7 * i + 4)) (σ 1 (7 * i + 5)) (σ 1 (7 * i + 6)) (ad (200 + k)) (nI k) (σ 2 (4 * k)) (σ 2 (4 * k + 1)) (σ 2 (4 * k + 2)) (σ 2 (4 * k + 3))) (cwV 1 hts (GG w_269 w_270 w_271 w_75 w_272) rfl rfl rfl (by decide) ⟨Nat.le_of_ble_eq_true rfl, Nat.le_of_ble_eq_true rfl⟩) ⟨(blindT fun _ _ _ _ h => h), Ob.recv (hG.2.1).1 (hP.r hi) rfl, fun U hU hW => ⟨rfl, hG.2.1.warm hW, by rw [hU]; exact ⟨(hP.r hi), (hP.c hk)⟩⟩⟩ rfl rfl hl.1 rfl (lv_room (Nat.le_of_ble_eq_true rfl)) dX5_requireHas_2 ⟨Nat.le_of_ble_eq_true rfl, Nat.le_of_ble_eq_true rfl⟩) ?_
  refine lv_if_ne (tgt := 19) hx hb dX5_requireHas_5 (by decide) (fun c_5 => ?_) (fun c_5 => ?_)
  · -- taken
    replace c_5 := b2_nz c_5
    refine vx_ret ?_
    refine W.widen (k := 1) (n := 6) (Nat.le_of_ble_eq_true rfl) (Nat.le_of_ble_eq_true rfl) ?_
    exact W.vret hx hb hr (fun t ht hW => ⟨rfl, ht, decide_eq_true c_5⟩) (fun q h => nomatch h) dX5_requireHas_19
  · -- not taken
    replace c_5 := b2_z c_5
    obtain ⟨sa, hsa⟩ := hG.2.1.2.1 (288, "the carrier does not have the rumour") (by simp [strs])
    exact vx_throwSW (names := nm2) hx hb hst hown fitS fitn (hts _ w_290) (hts _ w_69) hsa (hatS hts hG.2.1) hgoS hG.2.2.1 hG.2.2.2.1 hS (hl.1.trans hml.symm) dX5_requireHas_8 dX5_requireHas_11 dX5_requireHas_12 dX5_requireHas_15 dX5_requireHas_18 (fun x h => (hnt x h).elim) (Nat.le_of_ble_eq_true rfl) (Nat.le_of_ble_eq_true rfl) (Nat.le_of_ble_eq_true rfl) (Nat.le_of_ble_eq_true rfl) hlocks (fun t _ h1 h2 => ⟨⟨rfl, decide_eq_false c_5⟩, h1, h2⟩) (fun z hz => nomatch hz) (Nat.le_of_ble_eq_true rfl) (Nat.le_of_ble_eq_true rfl)
