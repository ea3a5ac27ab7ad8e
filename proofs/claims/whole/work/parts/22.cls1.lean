/-! inBag -/
set_option maxHeartbeats 4000000 in
set_option maxRecDepth 100000 in
theorem c_X5_inBag (l : Launch) (D : va_G) (ct : Nat → ClassId) (Z : Nat → Prop) (dc : Nat) (σ : Stt) (ad : Nat → Nat) (k : Nat) (hk : k < nC σ) : Met l yX5_inBag (.code yX5_inBag cX5_inBag 4 (some .int) :: GW) ({ frames := 3, cells := 0, slots := 0, locals := 64 } : Room) (va_Pc [.ref (ad 0), .ref (ad (200 + k))] (fun U => GT D ct U ∧ Pic D ct Z dc σ ad U.heap)) (qP (some (.int (inB σ (nI k))))) 0 0 nF := by
  refine m_in (cc := cX5_inBag) [.ref (ad 0), .ref (ad (200 + k))] "RumourCustoms" rfl (by decide) (Nat.le_of_ble_eq_true rfl) ?_
  intro pg e s m args below meth cd ls hx hb hml hown hts hr hlocks hin hPr hl
  obtain ⟨hT, hP⟩ := hPr
  have hl : lv_has ls 4 [(0, .ref (ad 0)), (1, .ref (ad (200 + k)))] := hl
  have hn := hP.2.2.2.1
  have hnC := hP.2.2.2.2
  refine lv_iconst (v := 0) hx hb dX5_inBag_0 (by decide) ?_
  refine lv_istore_n (lv' := [(2, .int 0), (0, .ref (ad 0)), (1, .ref (ad (200 + k)))]) hx hb dX5_inBag_1 rfl hl (by decide) rfl (fun ls hl => ?_)
  refine lv_iconst (v := 0) hx hb dX5_inBag_2 (by decide) ?_
  refine lv_istore_n (lv' := [(3, .int 0), (2, .int 0), (0, .ref (ad 0)), (1, .ref (ad (200 + k)))]) hx hb dX5_inBag_3 rfl hl (by decide) rfl (fun ls hl => ?_)
  have loop4 : ∀ (n4 i : Nat) (acc : Int32), i ≤ nR σ → nR σ - i < n4 → acc = sm (fun r => b2 (σ 1 (7 * r + 5) = nI k)) i → ∀ ls, lv_has ls 4 [(0, .ref (ad 0)), (1, .ref (ad (200 + k))), (3, .int (nI i)), (2, .int acc)] → W pg l e ({ frames := 3, cells := 0, slots := 0, locals := 64 } : Room) s m args below meth cd s.heap [] 0 0 (MQ below (qP (some (.int (inB σ (nI k))))) args s 0 0 nF) (F0 m 4 ls []) := by
    intro n4
    induction n4 with
    | zero => intro i acc _ z; omega
    | succ n4 ih4 =>
      intro i acc hi4 hn4 haacc ls hl
      refine lv_iload_n hx hb dX5_inBag_4 rfl (lv_at hl 2 rfl) ?_
      refine lv_aload_n hx hb dX5_inBag_5 rfl (lv_at hl 0 rfl) ?_
      refine k_get (C := RX5) (T := TX5) (N := 11) hx hb hts inGX5 hown (hT).1 hP.o0 rfl 2 (by decide) (hts _ w_149) (fun _ h9 => h9) (v := .ref (ad 6)) rfl dX5_inBag_6 ?_
      refine c_p1 (va_runV (As := []) (rest := [.int (nI i)]) ⟨hx, hb, hml, hown, hts⟩ (c_Jx4a65c_size_8abf5 l D ct (ad 6) (σ 6 0) (ad 8) (nI (nR σ))) (cwV 0 hts (GG w_185 w_186 w_187 w_64 w_188) rfl rfl rfl (by decide) ⟨Nat.le_of_ble_eq_true rfl, Nat.le_of_ble_eq_true rfl⟩) ⟨(blindT fun _ _ _ _ h => h), Ob.recv (hT).1 hP.o6 rfl, fun U hU hW => ⟨rfl, hT.warm hW, by rw [hU]; exact hP.o6⟩⟩ rfl rfl hl.1 rfl (lv_room (Nat.le_of_ble_eq_true rfl)) dX5_inBag_9 ⟨Nat.le_of_ble_eq_true rfl, Nat.le_of_ble_eq_true rfl⟩) ?_
      refine lv_icmp_ge (tgt := 42) hx hb dX5_inBag_12 (by decide) (fun c_12 => ?_) (fun c_12 => ?_)
      · -- taken
        have nc_12 : (nR σ) ≤ i := (nI_leI (a := (nR σ)) (b := i) (by omega) (by omega)).mp c_12
        have he4 : i = nR σ := by omega
        refine lv_iload_n hx hb dX5_inBag_42 rfl (lv_at hl 3 rfl) ?_
        exact W.iret (v := acc) hx hb hr (fun t ht hW => ⟨rvi (by rw [haacc, he4]; rfl), ht⟩) (fun q h => nomatch h) dX5_inBag_43
      · -- not taken
        have nc_12 : ¬ (nR σ) ≤ i := fun z => c_12 ((nI_leI (a := (nR σ)) (b := i) (by omega) (by omega)).mpr z)
        have hlt4 : i < nR σ := by omega
        refine lv_aload_n hx hb dX5_inBag_15 rfl (lv_at hl 0 rfl) ?_
        refine k_get (C := RX5) (T := TX5) (N := 11) hx hb hts inGX5 hown (hT).1 hP.o0 rfl 2 (by decide) (hts _ w_149) (fun _ h9 => h9) (v := .ref (ad 6)) rfl dX5_inBag_16 ?_
        refine lv_iload_n hx hb dX5_inBag_19 rfl (lv_at hl 2 rfl) ?_
        refine c_p1 (va_runV (As := [.int (nI i)]) (rest := []) ⟨hx, hb, hml, hown, hts⟩ (c_Jx4a65c_get_915e3 l D ct (ad 6) (σ 6 0) (ad 8) (nI (nR σ)) (nI i) (nR σ) i (ad 20) (lq ad 100 (nR σ)) (ad (100 + i)) rfl rfl hlt4 hP.2.2.1.1.1 (by have := hP.2.2.1.1.2.1; omega) (if_pos hlt4)) (cwV 1 hts (GG w_189 w_190 w_191 w_64 w_192) rfl rfl rfl (by decide) ⟨Nat.le_of_ble_eq_true rfl, Nat.le_of_ble_eq_true rfl⟩) ⟨(blindT fun _ _ _ _ h => h), Ob.recv (hT).1 hP.o6 rfl, fun U hU hW => ⟨rfl, hT.warm hW, by rw [hU]; exact ⟨hP.o6, (hP.o8 (by omega))⟩⟩⟩ rfl rfl hl.1 rfl (lv_room (Nat.le_of_ble_eq_true rfl)) dX5_inBag_20 ⟨Nat.le_of_ble_eq_true rfl, Nat.le_of_ble_eq_true rfl⟩) ?_
        refine va_castS hx hb hown (hts _ w_203) ((hT).1.1 4 _ rfl).2 (Ob.recv (hT).1 (hP.r hlt4) rfl) dX5_inBag_23 ?_
        refine lv_aload_n hx hb dX5_inBag_26 rfl (lv_at hl 1 rfl) ?_
        refine c_p1 (va_runV (As := [.ref (ad (200 + k))]) (rest := []) ⟨hx, hb, hml, hown, hts⟩ (c_X3_isInBagOf l D ct (ad (100 + i)) (nI i) (σ 1 (7 * i + 3)) (σ 1 (7 * i)) (σ 1 (7 * i + 1)) (σ 1 (7 * i + 2)) (σ 1 (7 * i + 4)) (σ 1 (7 * i + 5)) (σ 1 (7 * i + 6)) (ad (200 + k)) (nI k) (σ 2 (4 * k)) (σ 2 (4 * k + 1)) (σ 2 (4 * k + 2)) (σ 2 (4 * k + 3))) (cwV 1 hts (GG w_269 w_270 w_271 w_75 w_272) rfl rfl rfl (by decide) ⟨Nat.le_of_ble_eq_true rfl, Nat.le_of_ble_eq_true rfl⟩) ⟨(blindT fun _ _ _ _ h => h), Ob.recv (hT).1 (hP.r hlt4) rfl, fun U hU hW => ⟨rfl, hT.warm hW, by rw [hU]; exact ⟨(hP.r hlt4), (hP.c hk)⟩⟩⟩ rfl rfl hl.1 rfl (lv_room (Nat.le_of_ble_eq_true rfl)) dX5_inBag_27 ⟨Nat.le_of_ble_eq_true rfl, Nat.le_of_ble_eq_true rfl⟩) ?_
        refine lv_if_eq (tgt := 36) hx hb dX5_inBag_30 (by decide) (fun c_30 => ?_) (fun c_30 => ?_)
        · -- taken
          replace c_30 := b2_z c_30
          refine lv_iinc (v := nI (i + 1)) (lv' := [(3, .int (nI (i + 1))), (0, .ref (ad 0)), (1, .ref (ad (200 + k))), (2, .int acc)]) hx hb dX5_inBag_36 hl (k := 2) rfl (nI_1 i) (by decide) rfl (fun ls hl => ?_)
          refine lv_goto (tgt := 4) hx hb dX5_inBag_39 (by decide) ?_
          exact ih4 (i + 1) acc (by omega) (by omega) (sm_z haacc (b2_f c_30)) ls (lv_sub hl [1, 2, 0, 3] rfl)
        · -- not taken
          replace c_30 := b2_nz c_30
          refine lv_iinc (v := acc + 1) (lv' := [(2, .int (acc + 1)), (0, .ref (ad 0)), (1, .ref (ad (200 + k))), (3, .int (nI i))]) hx hb dX5_inBag_33 hl (k := 3) rfl rfl (by decide) rfl (fun ls hl => ?_)
          refine lv_iinc (v := nI (i + 1)) (lv' := [(3, .int (nI (i + 1))), (2, .int (acc + 1)), (0, .ref (ad 0)), (1, .ref (ad (200 + k)))]) hx hb dX5_inBag_36 hl (k := 3) rfl (nI_1 i) (by decide) rfl (fun ls hl => ?_)
          refine lv_goto (tgt := 4) hx hb dX5_inBag_39 (by decide) ?_
          exact ih4 (i + 1) (acc + 1) (by omega) (by omega) (sm_t haacc (b2_t c_30)) ls (lv_sub hl [2, 3, 0, 1] rfl)
  exact loop4 (nR σ + 1 - 0) 0 0 (by omega) (by omega) rfl ls (lv_sub hl [2, 3, 0, 1] rfl)

/-! hiddenInBag -/
set_option maxHeartbeats 4000000 in
set_option maxRecDepth 100000 in
theorem c_X5_hiddenInBag (l : Launch) (D : va_G) (ct : Nat → ClassId) (Z : Nat → Prop) (dc : Nat) (σ : Stt) (ad : Nat → Nat) (k : Nat) (hk : k < nC σ) (hH : ∀ i, i < nR σ → σ 1 (7 * i + 6) = 0 ∨ σ 1 (7 * i + 6) = 1) : Met l yX5_hiddenInBag (.code yX5_hiddenInBag cX5_hiddenInBag 4 (some .int) :: GW) ({ frames := 3, cells := 0, slots := 0, locals := 64 } : Room) (va_Pc [.ref (ad 0), .ref (ad (200 + k))] (fun U => GT D ct U ∧ Pic D ct Z dc σ ad U.heap)) (qP (some (.int (hidB σ (nI k))))) 0 0 nF := by
  refine m_in (cc := cX5_hiddenInBag) [.ref (ad 0), .ref (ad (200 + k))] "RumourCustoms" rfl (by decide) (Nat.le_of_ble_eq_true rfl) ?_
  intro pg e s m args below meth cd ls hx hb hml hown hts hr hlocks hin hPr hl
  obtain ⟨hT, hP⟩ := hPr
  have hl : lv_has ls 4 [(0, .ref (ad 0)), (1, .ref (ad (200 + k)))] := hl
  have hn := hP.2.2.2.1
  have hnC := hP.2.2.2.2
  refine lv_iconst (v := 0) hx hb dX5_hiddenInBag_0 (by decide) ?_
  refine lv_istore_n (lv' := [(2, .int 0), (0, .ref (ad 0)), (1, .ref (ad (200 + k)))]) hx hb dX5_hiddenInBag_1 rfl hl (by decide) rfl (fun ls hl => ?_)
  refine lv_iconst (v := 0) hx hb dX5_hiddenInBag_2 (by decide) ?_
  refine lv_istore_n (lv' := [(3, .int 0), (2, .int 0), (0, .ref (ad 0)), (1, .ref (ad (200 + k)))]) hx hb dX5_hiddenInBag_3 rfl hl (by decide) rfl (fun ls hl => ?_)
  have loop4 : ∀ (n4 i : Nat) (acc : Int32), i ≤ nR σ → nR σ - i < n4 → acc = sm (fun r => b2 (σ 1 (7 * r + 6) = 1 ∧ σ 1 (7 * r + 5) = nI k)) i → ∀ ls, lv_has ls 4 [(0, .ref (ad 0)), (1, .ref (ad (200 + k))), (3, .int (nI i)), (2, .int acc)] → W pg l e ({ frames := 3, cells := 0, slots := 0, locals := 64 } : Room) s m args below meth cd s.heap [] 0 0 (MQ below (qP (some (.int (hidB σ (nI k))))) args s 0 0 nF) (F0 m 4 ls []) := by
    intro n4
    induction n4 with
    | zero => intro i acc _ z; omega
    | succ n4 ih4 =>
      intro i acc hi4 hn4 haacc ls hl
      refine lv_iload_n hx hb dX5_hiddenInBag_4 rfl (lv_at hl 2 rfl) ?_
      refine lv_aload_n hx hb dX5_hiddenInBag_5 rfl (lv_at hl 0 rfl) ?_
      refine k_get (C := RX5) (T := TX5) (N := 11) hx hb hts inGX5 hown (hT).1 hP.o0 rfl 2 (by decide) (hts _ w_149) (fun _ h9 => h9) (v := .ref (ad 6)) rfl dX5_hiddenInBag_6 ?_
      refine c_p1 (va_runV (As := []) (rest := [.int (nI i)]) ⟨hx, hb, hml, hown, hts⟩ (c_Jx4a65c_size_8abf5 l D ct (ad 6) (σ 6 0) (ad 8) (nI (nR σ))) (cwV 0 hts (GG w_185 w_186 w_187 w_64 w_188) rfl rfl rfl (by decide) ⟨Nat.le_of_ble_eq_true rfl, Nat.le_of_ble_eq_true rfl⟩) ⟨(blindT fun _ _ _ _ h => h), Ob.recv (hT).1 hP.o6 rfl, fun U hU hW => ⟨rfl, hT.warm hW, by rw [hU]; exact hP.o6⟩⟩ rfl rfl hl.1 rfl (lv_room (Nat.le_of_ble_eq_true rfl)) dX5_hiddenInBag_9 ⟨Nat.le_of_ble_eq_true rfl, Nat.le_of_ble_eq_true rfl⟩) ?_
      refine lv_icmp_ge (tgt := 42) hx hb dX5_hiddenInBag_12 (by decide) (fun c_12 => ?_) (fun c_12 => ?_)
      · -- taken
        have nc_12 : (nR σ) ≤ i := (nI_leI (a := (nR σ)) (b := i) (by omega) (by omega)).mp c_12
        have he4 : i = nR σ := by omega
        refine lv_iload_n hx hb dX5_hiddenInBag_42 rfl (lv_at hl 3 rfl) ?_
        exact W.iret (v := acc) hx hb hr (fun t ht hW => ⟨rvi (by rw [haacc, he4]; rfl), ht⟩) (fun q h => nomatch h) dX5_hiddenInBag_43
      · -- not taken
        have nc_12 : ¬ (nR σ) ≤ i := fun z => c_12 ((nI_leI (a := (nR σ)) (b := i) (by omega) (by omega)).mpr z)
        have hlt4 : i < nR σ := by omega
        refine lv_aload_n hx hb dX5_hiddenInBag_15 rfl (lv_at hl 0 rfl) ?_
        refine k_get (C := RX5) (T := TX5) (N := 11) hx hb hts inGX5 hown (hT).1 hP.o0 rfl 2 (by decide) (hts _ w_149) (fun _ h9 => h9) (v := .ref (ad 6)) rfl dX5_hiddenInBag_16 ?_
        refine lv_iload_n hx hb dX5_hiddenInBag_19 rfl (lv_at hl 2 rfl) ?_
        refine c_p1 (va_runV (As := [.int (nI i)]) (rest := []) ⟨hx, hb, hml, hown, hts⟩ (c_Jx4a65c_get_915e3 l D ct (ad 6) (σ 6 0) (ad 8) (nI (nR σ)) (nI i) (nR σ) i (ad 20) (lq ad 100 (nR σ)) (ad (100 + i)) rfl rfl hlt4 hP.2.2.1.1.1 (by have := hP.2.2.1.1.2.1; omega) (if_pos hlt4)) (cwV 1 hts (GG w_189 w_190 w_191 w_64 w_192) rfl rfl rfl (by decide) ⟨Nat.le_of_ble_eq_true rfl, Nat.le_of_ble_eq_true rfl⟩) ⟨(blindT fun _ _ _ _ h => h), Ob.recv (hT).1 hP.o6 rfl, fun U hU hW => ⟨rfl, hT.warm hW, by rw [hU]; exact ⟨hP.o6, (hP.o8 (by omega))⟩⟩⟩ rfl rfl hl.1 rfl (lv_room (Nat.le_of_ble_eq_true rfl)) dX5_hiddenInBag_20 ⟨Nat.le_of_ble_eq_true rfl, Nat.le_of_ble_eq_true rfl⟩) ?_
        refine va_castS hx hb hown (hts _ w_203) ((hT).1.1 4 _ rfl).2 (Ob.recv (hT).1 (hP.r hlt4) rfl) dX5_hiddenInBag_23 ?_
        refine lv_aload_n hx hb dX5_hiddenInBag_26 rfl (lv_at hl 1 rfl) ?_
        refine c_p1 (va_runV (As := [.ref (ad (200 + k))]) (rest := []) ⟨hx, hb, hml, hown, hts⟩ (c_X3_isHiddenBy l D ct (ad (100 + i)) (nI i) (σ 1 (7 * i + 3)) (σ 1 (7 * i)) (σ 1 (7 * i + 1)) (σ 1 (7 * i + 2)) (σ 1 (7 * i + 4)) (σ 1 (7 * i + 5)) (σ 1 (7 * i + 6)) (ad (200 + k)) (nI k) (σ 2 (4 * k)) (σ 2 (4 * k + 1)) (σ 2 (4 * k + 2)) (σ 2 (4 * k + 3)) (hH i hlt4)) (cwV 1 hts (GG w_277 w_278 w_279 w_75 w_280) rfl rfl rfl (by decide) ⟨Nat.le_of_ble_eq_true rfl, Nat.le_of_ble_eq_true rfl⟩) ⟨(blindT fun _ _ _ _ h => h), Ob.recv (hT).1 (hP.r hlt4) rfl, fun U hU hW => ⟨rfl, hT.warm hW, by rw [hU]; exact ⟨(hP.r hlt4), (hP.c hk)⟩⟩⟩ rfl rfl hl.1 rfl (lv_room (Nat.le_of_ble_eq_true rfl)) dX5_hiddenInBag_27 ⟨Nat.le_of_ble_eq_true rfl, Nat.le_of_ble_eq_true rfl⟩) ?_
        refine lv_if_eq (tgt := 36) hx hb dX5_hiddenInBag_30 (by decide) (fun c_30 => ?_) (fun c_30 => ?_)
        · -- taken
          replace c_30 := b2_z c_30
          refine lv_iinc (v := nI (i + 1)) (lv' := [(3, .int (nI (i + 1))), (0, .ref (ad 0)), (1, .ref (ad (200 + k))), (2, .int acc)]) hx hb dX5_hiddenInBag_36 hl (k := 2) rfl (nI_1 i) (by decide) rfl (fun ls hl => ?_)
          refine lv_goto (tgt := 4) hx hb dX5_hiddenInBag_39 (by decide) ?_
          exact ih4 (i + 1) acc (by omega) (by omega) (sm_z haacc (b2_f c_30)) ls (lv_sub hl [1, 2, 0, 3] rfl)
        · -- not taken
          replace c_30 := b2_nz c_30
          refine lv_iinc (v := acc + 1) (lv' := [(2, .int (acc + 1)), (0, .ref (ad 0)), (1, .ref (ad (200 + k))), (3, .int (nI i))]) hx hb dX5_hiddenInBag_33 hl (k := 3) rfl rfl (by decide) rfl (fun ls hl => ?_)
          refine lv_iinc (v := nI (i + 1)) (lv' := [(3, .int (nI (i + 1))), (2, .int (acc + 1)), (0, .ref (ad 0)), (1, .ref (ad (200 + k)))]) hx hb dX5_hiddenInBag_36 hl (k := 3) rfl (nI_1 i) (by decide) rfl (fun ls hl => ?_)
          refine lv_goto (tgt := 4) hx hb dX5_hiddenInBag_39 (by decide) ?_
          exact ih4 (i + 1) (acc + 1) (by omega) (by omega) (sm_t haacc (b2_t c_30)) ls (lv_sub hl [2, 3, 0, 1] rfl)
  exact loop4 (nR σ + 1 - 0) 0 0 (by omega) (by omega) rfl ls (lv_sub hl [2, 3, 0, 1] rfl)

/-! rumoursIn -/
set_option maxHeartbeats 4000000 in
set_option maxRecDepth 100000 in
theorem c_X5_rumoursIn (l : Launch) (D : va_G) (ct : Nat → ClassId) (Z : Nat → Prop) (dc : Nat) (σ : Stt) (ad : Nat → Nat) (t : Int32) : Met l yX5_rumoursIn (.code yX5_rumoursIn cX5_rumoursIn 4 (some .int) :: GW) ({ frames := 3, cells := 0, slots := 0, locals := 64 } : Room) (va_Pc [.ref (ad 0), .int t] (fun U => GT D ct U ∧ Pic D ct Z dc σ ad U.heap)) (qP (some (.int (rin σ t)))) 0 0 nF := by
  refine m_in (cc := cX5_rumoursIn) [.ref (ad 0), .int t] "RumourCustoms" rfl (by decide) (Nat.le_of_ble_eq_true rfl) ?_
  intro pg e s m args below meth cd ls hx hb hml hown hts hr hlocks hin hPr hl
  obtain ⟨hT, hP⟩ := hPr
  have hl : lv_has ls 4 [(0, .ref (ad 0)), (1, .int t)] := hl
  have hn := hP.2.2.2.1
  have hnC := hP.2.2.2.2
  refine lv_iconst (v := 0) hx hb dX5_rumoursIn_0 (by decide) ?_
  refine lv_istore_n (lv' := [(2, .int 0), (0, .ref (ad 0)), (1, .int t)]) hx hb dX5_rumoursIn_1 rfl hl (by decide) rfl (fun ls hl => ?_)
  refine lv_iconst (v := 0) hx hb dX5_rumoursIn_2 (by decide) ?_
  refine lv_istore_n (lv' := [(3, .int 0), (2, .int 0), (0, .ref (ad 0)), (1, .int t)]) hx hb dX5_rumoursIn_3 rfl hl (by decide) rfl (fun ls hl => ?_)
  have loop4 : ∀ (n4 i : Nat) (acc : Int32), i ≤ nR σ → nR σ - i < n4 → acc = sm (fun r => b2 (σ 1 (7 * r + 4) = t)) i → ∀ ls, lv_has ls 4 [(0, .ref (ad 0)), (1, .int t), (3, .int (nI i)), (2, .int acc)] → W pg l e ({ frames := 3, cells := 0, slots := 0, locals := 64 } : Room) s m args below meth cd s.heap [] 0 0 (MQ below (qP (some (.int (rin σ t)))) args s 0 0 nF) (F0 m 4 ls []) := by
    intro n4
    induction n4 with
    | zero => intro i acc _ z; omega
    | succ n4 ih4 =>
      intro i acc hi4 hn4 haacc ls hl
      refine lv_iload_n hx hb dX5_rumoursIn_4 rfl (lv_at hl 2 rfl) ?_
      refine lv_aload_n hx hb dX5_rumoursIn_5 rfl (lv_at hl 0 rfl) ?_
      refine k_get (C := RX5) (T := TX5) (N := 11) hx hb hts inGX5 hown (hT).1 hP.o0 rfl 2 (by decide) (hts _ w_149) (fun _ h9 => h9) (v := .ref (ad 6)) rfl dX5_rumoursIn_6 ?_
      refine c_p1 (va_runV (As := []) (rest := [.int (nI i)]) ⟨hx, hb, hml, hown, hts⟩ (c_Jx4a65c_size_8abf5 l D ct (ad 6) (σ 6 0) (ad 8) (nI (nR σ))) (cwV 0 hts (GG w_185 w_186 w_187 w_64 w_188) rfl rfl rfl (by decide) ⟨Nat.le_of_ble_eq_true rfl, Nat.le_of_ble_eq_true rfl⟩) ⟨(blindT fun _ _ _ _ h => h), Ob.recv (hT).1 hP.o6 rfl, fun U hU hW => ⟨rfl, hT.warm hW, by rw [hU]; exact hP.o6⟩⟩ rfl rfl hl.1 rfl (lv_room (Nat.le_of_ble_eq_true rfl)) dX5_rumoursIn_9 ⟨Nat.le_of_ble_eq_true rfl, Nat.le_of_ble_eq_true rfl⟩) ?_
      refine lv_icmp_ge (tgt := 42) hx hb dX5_rumoursIn_12 (by decide) (fun c_12 => ?_) (fun c_12 => ?_)
      · -- taken
        have nc_12 : (nR σ) ≤ i := (nI_leI (a := (nR σ)) (b := i) (by omega) (by omega)).mp c_12
        have he4 : i = nR σ := by omega
        refine lv_iload_n hx hb dX5_rumoursIn_42 rfl (lv_at hl 3 rfl) ?_
        exact W.iret (v := acc) hx hb hr (fun t ht hW => ⟨rvi (by rw [haacc, he4]; rfl), ht⟩) (fun q h => nomatch h) dX5_rumoursIn_43
      · -- not taken
        have nc_12 : ¬ (nR σ) ≤ i := fun z => c_12 ((nI_leI (a := (nR σ)) (b := i) (by omega) (by omega)).mpr z)
        have hlt4 : i < nR σ := by omega
        refine lv_aload_n hx hb dX5_rumoursIn_15 rfl (lv_at hl 0 rfl) ?_
        refine k_get (C := RX5) (T := TX5) (N := 11) hx hb hts inGX5 hown (hT).1 hP.o0 rfl 2 (by decide) (hts _ w_149) (fun _ h9 => h9) (v := .ref (ad 6)) rfl dX5_rumoursIn_16 ?_
        refine lv_iload_n hx hb dX5_rumoursIn_19 rfl (lv_at hl 2 rfl) ?_
        refine c_p1 (va_runV (As := [.int (nI i)]) (rest := []) ⟨hx, hb, hml, hown, hts⟩ (c_Jx4a65c_get_915e3 l D ct (ad 6) (σ 6 0) (ad 8) (nI (nR σ)) (nI i) (nR σ) i (ad 20) (lq ad 100 (nR σ)) (ad (100 + i)) rfl rfl hlt4 hP.2.2.1.1.1 (by have := hP.2.2.1.1.2.1; omega) (if_pos hlt4)) (cwV 1 hts (GG w_189 w_190 w_191 w_64 w_192) rfl rfl rfl (by decide) ⟨Nat.le_of_ble_eq_true rfl, Nat.le_of_ble_eq_true rfl⟩) ⟨(blindT fun _ _ _ _ h => h), Ob.recv (hT).1 hP.o6 rfl, fun U hU hW => ⟨rfl, hT.warm hW, by rw [hU]; exact ⟨hP.o6, (hP.o8 (by omega))⟩⟩⟩ rfl rfl hl.1 rfl (lv_room (Nat.le_of_ble_eq_true rfl)) dX5_rumoursIn_20 ⟨Nat.le_of_ble_eq_true rfl, Nat.le_of_ble_eq_true rfl⟩) ?_
        refine va_castS hx hb hown (hts _ w_203) ((hT).1.1 4 _ rfl).2 (Ob.recv (hT).1 (hP.r hlt4) rfl) dX5_rumoursIn_23 ?_
        refine k_get (C := RX3) (T := TX3) (N := 8) hx hb hts inGX3 hown (hT).1 (hP.r hlt4) rfl 5 (by decide) (hts _ w_479) (fun _ h9 => h9) (v := .int (σ 1 (7 * i + 4))) rfl dX5_rumoursIn_26 ?_
        refine lv_iload_n hx hb dX5_rumoursIn_29 rfl (lv_at hl 1 rfl) ?_
        refine lv_icmp_ne (tgt := 36) hx hb dX5_rumoursIn_30 (by decide) (fun c_30 => ?_) (fun c_30 => ?_)
        · -- taken
          refine lv_iinc (v := nI (i + 1)) (lv' := [(3, .int (nI (i + 1))), (0, .ref (ad 0)), (1, .int t), (2, .int acc)]) hx hb dX5_rumoursIn_36 hl (k := 2) rfl (nI_1 i) (by decide) rfl (fun ls hl => ?_)
          refine lv_goto (tgt := 4) hx hb dX5_rumoursIn_39 (by decide) ?_
          exact ih4 (i + 1) acc (by omega) (by omega) (sm_z haacc (b2_f c_30)) ls (lv_sub hl [1, 2, 0, 3] rfl)
        · -- not taken
          refine lv_iinc (v := acc + 1) (lv' := [(2, .int (acc + 1)), (0, .ref (ad 0)), (1, .int t), (3, .int (nI i))]) hx hb dX5_rumoursIn_33 hl (k := 3) rfl rfl (by decide) rfl (fun ls hl => ?_)
          refine lv_iinc (v := nI (i + 1)) (lv' := [(3, .int (nI (i + 1))), (2, .int (acc + 1)), (0, .ref (ad 0)), (1, .int t)]) hx hb dX5_rumoursIn_36 hl (k := 3) rfl (nI_1 i) (by decide) rfl (fun ls hl => ?_)
          refine lv_goto (tgt := 4) hx hb dX5_rumoursIn_39 (by decide) ?_
          exact ih4 (i + 1) (acc + 1) (by omega) (by omega) (sm_t haacc (b2_t c_30)) ls (lv_sub hl [2, 3, 0, 1] rfl)
  exact loop4 (nR σ + 1 - 0) 0 0 (by omega) (by omega) rfl ls (lv_sub hl [2, 3, 0, 1] rfl)

/-! goneRumours -/
set_option maxHeartbeats 4000000 in
set_option maxRecDepth 100000 in
theorem c_X5_goneRumours (l : Launch) (D : va_G) (ct : Nat → ClassId) (Z : Nat → Prop) (dc : Nat) (σ : Stt) (ad : Nat → Nat) : Met l yX5_goneRumours (.code yX5_goneRumours cX5_goneRumours 3 (some .int) :: GW) ({ frames := 3, cells := 0, slots := 0, locals := 64 } : Room) (va_Pc [.ref (ad 0)] (fun U => GT D ct U ∧ Pic D ct Z dc σ ad U.heap)) (qP (some (.int (goneS σ)))) 0 0 nF := by
  refine m_in (cc := cX5_goneRumours) [.ref (ad 0)] "RumourCustoms" rfl (by decide) (Nat.le_of_ble_eq_true rfl) ?_
  intro pg e s m args below meth cd ls hx hb hml hown hts hr hlocks hin hPr hl
  obtain ⟨hT, hP⟩ := hPr
  have hl : lv_has ls 3 [(0, .ref (ad 0))] := hl
  have hn := hP.2.2.2.1
  have hnC := hP.2.2.2.2
  refine lv_iconst (v := 0) hx hb dX5_goneRumours_0 (by decide) ?_
  refine lv_istore_n (lv' := [(1, .int 0), (0, .ref (ad 0))]) hx hb dX5_goneRumours_1 rfl hl (by decide) rfl (fun ls hl => ?_)
  refine lv_iconst (v := 0) hx hb dX5_goneRumours_2 (by decide) ?_
  refine lv_istore_n (lv' := [(2, .int 0), (1, .int 0), (0, .ref (ad 0))]) hx hb dX5_goneRumours_3 rfl hl (by decide) rfl (fun ls hl => ?_)
  have loop4 : ∀ (n4 i : Nat) (acc : Int32), i ≤ nR σ → nR σ - i < n4 → acc = sm (fun r => b2 (σ 1 (7 * r + 4) = -1 ∧ σ 1 (7 * r + 5) = -1)) i → ∀ ls, lv_has ls 3 [(0, .ref (ad 0)), (2, .int (nI i)), (1, .int acc)] → W pg l e ({ frames := 3, cells := 0, slots := 0, locals := 64 } : Room) s m args below meth cd s.heap [] 0 0 (MQ below (qP (some (.int (goneS σ)))) args s 0 0 nF) (F0 m 4 ls []) := by
    intro n4
    induction n4 with
    | zero => intro i acc _ z; omega
    | succ n4 ih4 =>
      intro i acc hi4 hn4 haacc ls hl
      refine lv_iload_n hx hb dX5_goneRumours_4 rfl (lv_at hl 1 rfl) ?_
      refine lv_aload_n hx hb dX5_goneRumours_5 rfl (lv_at hl 0 rfl) ?_
      refine k_get (C := RX5) (T := TX5) (N := 11) hx hb hts inGX5 hown (hT).1 hP.o0 rfl 2 (by decide) (hts _ w_149) (fun _ h9 => h9) (v := .ref (ad 6)) rfl dX5_goneRumours_6 ?_
      refine c_p1 (va_runV (As := []) (rest := [.int (nI i)]) ⟨hx, hb, hml, hown, hts⟩ (c_Jx4a65c_size_8abf5 l D ct (ad 6) (σ 6 0) (ad 8) (nI (nR σ))) (cwV 0 hts (GG w_185 w_186 w_187 w_64 w_188) rfl rfl rfl (by decide) ⟨Nat.le_of_ble_eq_true rfl, Nat.le_of_ble_eq_true rfl⟩) ⟨(blindT fun _ _ _ _ h => h), Ob.recv (hT).1 hP.o6 rfl, fun U hU hW => ⟨rfl, hT.warm hW, by rw [hU]; exact hP.o6⟩⟩ rfl rfl hl.1 rfl (lv_room (Nat.le_of_ble_eq_true rfl)) dX5_goneRumours_9 ⟨Nat.le_of_ble_eq_true rfl, Nat.le_of_ble_eq_true rfl⟩) ?_
      refine lv_icmp_ge (tgt := 41) hx hb dX5_goneRumours_12 (by decide) (fun c_12 => ?_) (fun c_12 => ?_)
      · -- taken
        have nc_12 : (nR σ) ≤ i := (nI_leI (a := (nR σ)) (b := i) (by omega) (by omega)).mp c_12
        have he4 : i = nR σ := by omega
        refine lv_iload_n hx hb dX5_goneRumours_41 rfl (lv_at hl 2 rfl) ?_
        exact W.iret (v := acc) hx hb hr (fun t ht hW => ⟨rvi (by rw [haacc, he4]; rfl), ht⟩) (fun q h => nomatch h) dX5_goneRumours_42
      · -- not taken
        have nc_12 : ¬ (nR σ) ≤ i := fun z => c_12 ((nI_leI (a := (nR σ)) (b := i) (by omega) (by omega)).mpr z)
        have hlt4 : i < nR σ := by omega
        refine lv_aload_n hx hb dX5_goneRumours_15 rfl (lv_at hl 0 rfl) ?_
        refine k_get (C := RX5) (T := TX5) (N := 11) hx hb hts inGX5 hown (hT).1 hP.o0 rfl 2 (by decide) (hts _ w_149) (fun _ h9 => h9) (v := .ref (ad 6)) rfl dX5_goneRumours_16 ?_
        refine lv_iload_n hx hb dX5_goneRumours_19 rfl (lv_at hl 1 rfl) ?_
        refine c_p1 (va_runV (As := [.int (nI i)]) (rest := []) ⟨hx, hb, hml, hown, hts⟩ (c_Jx4a65c_get_915e3 l D ct (ad 6) (σ 6 0) (ad 8) (nI (nR σ)) (nI i) (nR σ) i (ad 20) (lq ad 100 (nR σ)) (ad (100 + i)) rfl rfl hlt4 hP.2.2.1.1.1 (by have := hP.2.2.1.1.2.1; omega) (if_pos hlt4)) (cwV 1 hts (GG w_189 w_190 w_191 w_64 w_192) rfl rfl rfl (by decide) ⟨Nat.le_of_ble_eq_true rfl, Nat.le_of_ble_eq_true rfl⟩) ⟨(blindT fun _ _ _ _ h => h), Ob.recv (hT).1 hP.o6 rfl, fun U hU hW => ⟨rfl, hT.warm hW, by rw [hU]; exact ⟨hP.o6, (hP.o8 (by omega))⟩⟩⟩ rfl rfl hl.1 rfl (lv_room (Nat.le_of_ble_eq_true rfl)) dX5_goneRumours_20 ⟨Nat.le_of_ble_eq_true rfl, Nat.le_of_ble_eq_true rfl⟩) ?_
        refine va_castS hx hb hown (hts _ w_203) ((hT).1.1 4 _ rfl).2 (Ob.recv (hT).1 (hP.r hlt4) rfl) dX5_goneRumours_23 ?_
        refine c_p1 (va_runV (As := []) (rest := []) ⟨hx, hb, hml, hown, hts⟩ (c_X3_isGone l D ct (ad (100 + i)) (nI i) (σ 1 (7 * i + 3)) (σ 1 (7 * i)) (σ 1 (7 * i + 1)) (σ 1 (7 * i + 2)) (σ 1 (7 * i + 4)) (σ 1 (7 * i + 5)) (σ 1 (7 * i + 6))) (cwV 0 hts (GG w_218 w_219 w_220 w_75 w_221) rfl rfl rfl (by decide) ⟨Nat.le_of_ble_eq_true rfl, Nat.le_of_ble_eq_true rfl⟩) ⟨(blindT fun _ _ _ _ h => h), Ob.recv (hT).1 (hP.r hlt4) rfl, fun U hU hW => ⟨rfl, hT.warm hW, by rw [hU]; exact (hP.r hlt4)⟩⟩ rfl rfl hl.1 rfl (lv_room (Nat.le_of_ble_eq_true rfl)) dX5_goneRumours_26 ⟨Nat.le_of_ble_eq_true rfl, Nat.le_of_ble_eq_true rfl⟩) ?_
        refine lv_if_eq (tgt := 35) hx hb dX5_goneRumours_29 (by decide) (fun c_29 => ?_) (fun c_29 => ?_)
        · -- taken
          replace c_29 := b2_z c_29
          refine lv_iinc (v := nI (i + 1)) (lv' := [(2, .int (nI (i + 1))), (0, .ref (ad 0)), (1, .int acc)]) hx hb dX5_goneRumours_35 hl (k := 1) rfl (nI_1 i) (by decide) rfl (fun ls hl => ?_)
          refine lv_goto (tgt := 4) hx hb dX5_goneRumours_38 (by decide) ?_
          exact ih4 (i + 1) acc (by omega) (by omega) (sm_z haacc (b2_f c_29)) ls (lv_sub hl [1, 0, 2] rfl)
        · -- not taken
          replace c_29 := b2_nz c_29
          refine lv_iinc (v := acc + 1) (lv' := [(1, .int (acc + 1)), (0, .ref (ad 0)), (2, .int (nI i))]) hx hb dX5_goneRumours_32 hl (k := 2) rfl rfl (by decide) rfl (fun ls hl => ?_)
          refine lv_iinc (v := nI (i + 1)) (lv' := [(2, .int (nI (i + 1))), (1, .int (acc + 1)), (0, .ref (ad 0))]) hx hb dX5_goneRumours_35 hl (k := 2) rfl (nI_1 i) (by decide) rfl (fun ls hl => ?_)
          refine lv_goto (tgt := 4) hx hb dX5_goneRumours_38 (by decide) ?_
          exact ih4 (i + 1) (acc + 1) (by omega) (by omega) (sm_t haacc (b2_t c_29)) ls (lv_sub hl [2, 0, 1] rfl)
  exact loop4 (nR σ + 1 - 0) 0 0 (by omega) (by omega) rfl ls (lv_sub hl [2, 0, 1] rfl)

/-! carriersOnTheWay -/
set_option maxHeartbeats 4000000 in
set_option maxRecDepth 100000 in
theorem c_X5_carriersOnTheWay (l : Launch) (D : va_G) (ct : Nat → ClassId) (Z : Nat → Prop) (dc : Nat) (σ : Stt) (ad : Nat → Nat) : Met l yX5_carriersOnTheWay (.code yX5_carriersOnTheWay cX5_carriersOnTheWay 3 (some .int) :: GW) ({ frames := 3, cells := 0, slots := 0, locals := 64 } : Room) (va_Pc [.ref (ad 0)] (fun U => GT D ct U ∧ Pic D ct Z dc σ ad U.heap)) (qP (some (.int (wayS σ)))) 0 0 nF := by
  refine m_in (cc := cX5_carriersOnTheWay) [.ref (ad 0)] "RumourCustoms" rfl (by decide) (Nat.le_of_ble_eq_true rfl) ?_
  intro pg e s m args below meth cd ls hx hb hml hown hts hr hlocks hin hPr hl
  obtain ⟨hT, hP⟩ := hPr
  have hl : lv_has ls 3 [(0, .ref (ad 0))] := hl
  have hn := hP.2.2.2.1
  have hnC := hP.2.2.2.2
  refine lv_iconst (v := 0) hx hb dX5_carriersOnTheWay_0 (by decide) ?_
  refine lv_istore_n (lv' := [(1, .int 0), (0, .ref (ad 0))]) hx hb dX5_carriersOnTheWay_1 rfl hl (by decide) rfl (fun ls hl => ?_)
  refine lv_iconst (v := 0) hx hb dX5_carriersOnTheWay_2 (by decide) ?_
  refine lv_istore_n (lv' := [(2, .int 0), (1, .int 0), (0, .ref (ad 0))]) hx hb dX5_carriersOnTheWay_3 rfl hl (by decide) rfl (fun ls hl => ?_)
  have loop4 : ∀ (n4 i : Nat) (acc : Int32), i ≤ nC σ → nC σ - i < n4 → acc = sm (fun k => b2 (0 < σ 2 (4 * k + 1))) i → ∀ ls, lv_has ls 3 [(0, .ref (ad 0)), (2, .int (nI i)), (1, .int acc)] → W pg l e ({ frames := 3, cells := 0, slots := 0, locals := 64 } : Room) s m args below meth cd s.heap [] 0 0 (MQ below (qP (some (.int (wayS σ)))) args s 0 0 nF) (F0 m 4 ls []) := by
    intro n4
    induction n4 with
    | zero => intro i acc _ z; omega
    | succ n4 ih4 =>
      intro i acc hi4 hn4 haacc ls hl
      refine lv_iload_n hx hb dX5_carriersOnTheWay_4 rfl (lv_at hl 1 rfl) ?_
      refine lv_aload_n hx hb dX5_carriersOnTheWay_5 rfl (lv_at hl 0 rfl) ?_
      refine k_get (C := RX5) (T := TX5) (N := 11) hx hb hts inGX5 hown (hT).1 hP.o0 rfl 3 (by decide) (hts _ w_150) (fun _ h9 => h9) (v := .ref (ad 7)) rfl dX5_carriersOnTheWay_6 ?_
      refine c_p1 (va_runV (As := []) (rest := [.int (nI i)]) ⟨hx, hb, hml, hown, hts⟩ (c_Jx4a65c_size_8abf5 l D ct (ad 7) (σ 6 1) (ad 9) (nI (nC σ))) (cwV 0 hts (GG w_185 w_186 w_187 w_64 w_188) rfl rfl rfl (by decide) ⟨Nat.le_of_ble_eq_true rfl, Nat.le_of_ble_eq_true rfl⟩) ⟨(blindT fun _ _ _ _ h => h), Ob.recv (hT).1 hP.o7 rfl, fun U hU hW => ⟨rfl, hT.warm hW, by rw [hU]; exact hP.o7⟩⟩ rfl rfl hl.1 rfl (lv_room (Nat.le_of_ble_eq_true rfl)) dX5_carriersOnTheWay_9 ⟨Nat.le_of_ble_eq_true rfl, Nat.le_of_ble_eq_true rfl⟩) ?_
      refine lv_icmp_ge (tgt := 41) hx hb dX5_carriersOnTheWay_12 (by decide) (fun c_12 => ?_) (fun c_12 => ?_)
      · -- taken
        have nc_12 : (nC σ) ≤ i := (nI_leI (a := (nC σ)) (b := i) (by omega) (by omega)).mp c_12
        have he4 : i = nC σ := by omega
        refine lv_iload_n hx hb dX5_carriersOnTheWay_41 rfl (lv_at hl 2 rfl) ?_
        exact W.iret (v := acc) hx hb hr (fun t ht hW => ⟨rvi (by rw [haacc, he4]; rfl), ht⟩) (fun q h => nomatch h) dX5_carriersOnTheWay_42
      · -- not taken
        have nc_12 : ¬ (nC σ) ≤ i := fun z => c_12 ((nI_leI (a := (nC σ)) (b := i) (by omega) (by omega)).mpr z)
        have hlt4 : i < nC σ := by omega
        refine lv_aload_n hx hb dX5_carriersOnTheWay_15 rfl (lv_at hl 0 rfl) ?_
        refine k_get (C := RX5) (T := TX5) (N := 11) hx hb hts inGX5 hown (hT).1 hP.o0 rfl 3 (by decide) (hts _ w_150) (fun _ h9 => h9) (v := .ref (ad 7)) rfl dX5_carriersOnTheWay_16 ?_
        refine lv_iload_n hx hb dX5_carriersOnTheWay_19 rfl (lv_at hl 1 rfl) ?_
        refine c_p1 (va_runV (As := [.int (nI i)]) (rest := []) ⟨hx, hb, hml, hown, hts⟩ (c_Jx4a65c_get_915e3 l D ct (ad 7) (σ 6 1) (ad 9) (nI (nC σ)) (nI i) (nC σ) i (ad 21) (lq ad 200 (nC σ)) (ad (200 + i)) rfl rfl hlt4 hP.2.2.1.2.1 (by have := hP.2.2.1.2.2.1; omega) (if_pos hlt4)) (cwV 1 hts (GG w_189 w_190 w_191 w_64 w_192) rfl rfl rfl (by decide) ⟨Nat.le_of_ble_eq_true rfl, Nat.le_of_ble_eq_true rfl⟩) ⟨(blindT fun _ _ _ _ h => h), Ob.recv (hT).1 hP.o7 rfl, fun U hU hW => ⟨rfl, hT.warm hW, by rw [hU]; exact ⟨hP.o7, (hP.o9 (by omega))⟩⟩⟩ rfl rfl hl.1 rfl (lv_room (Nat.le_of_ble_eq_true rfl)) dX5_carriersOnTheWay_20 ⟨Nat.le_of_ble_eq_true rfl, Nat.le_of_ble_eq_true rfl⟩) ?_
        refine va_castS hx hb hown (hts _ w_226) ((hT).1.1 1 _ rfl).2 (Ob.recv (hT).1 (hP.c hlt4) rfl) dX5_carriersOnTheWay_23 ?_
        refine c_p1 (va_runV (As := []) (rest := []) ⟨hx, hb, hml, hown, hts⟩ (c_X0_isOnTheWay l D ct (ad (200 + i)) (nI i) (σ 2 (4 * i)) (σ 2 (4 * i + 1)) (σ 2 (4 * i + 2)) (σ 2 (4 * i + 3))) (cwV 0 hts (GG w_227 w_228 w_229 w_81 w_230) rfl rfl rfl (by decide) ⟨Nat.le_of_ble_eq_true rfl, Nat.le_of_ble_eq_true rfl⟩) ⟨(blindT fun _ _ _ _ h => h), Ob.recv (hT).1 (hP.c hlt4) rfl, fun U hU hW => ⟨rfl, hT.warm hW, by rw [hU]; exact (hP.c hlt4)⟩⟩ rfl rfl hl.1 rfl (lv_room (Nat.le_of_ble_eq_true rfl)) dX5_carriersOnTheWay_26 ⟨Nat.le_of_ble_eq_true rfl, Nat.le_of_ble_eq_true rfl⟩) ?_
        refine lv_if_eq (tgt := 35) hx hb dX5_carriersOnTheWay_29 (by decide) (fun c_29 => ?_) (fun c_29 => ?_)
        · -- taken
          replace c_29 := b2_z c_29
          refine lv_iinc (v := nI (i + 1)) (lv' := [(2, .int (nI (i + 1))), (0, .ref (ad 0)), (1, .int acc)]) hx hb dX5_carriersOnTheWay_35 hl (k := 1) rfl (nI_1 i) (by decide) rfl (fun ls hl => ?_)
          refine lv_goto (tgt := 4) hx hb dX5_carriersOnTheWay_38 (by decide) ?_
          exact ih4 (i + 1) acc (by omega) (by omega) (sm_z haacc (b2_f c_29)) ls (lv_sub hl [1, 0, 2] rfl)
        · -- not taken
          replace c_29 := b2_nz c_29
          refine lv_iinc (v := acc + 1) (lv' := [(1, .int (acc + 1)), (0, .ref (ad 0)), (2, .int (nI i))]) hx hb dX5_carriersOnTheWay_32 hl (k := 2) rfl rfl (by decide) rfl (fun ls hl => ?_)
          refine lv_iinc (v := nI (i + 1)) (lv' := [(2, .int (nI (i + 1))), (1, .int (acc + 1)), (0, .ref (ad 0))]) hx hb dX5_carriersOnTheWay_35 hl (k := 2) rfl (nI_1 i) (by decide) rfl (fun ls hl => ?_)
          refine lv_goto (tgt := 4) hx hb dX5_carriersOnTheWay_38 (by decide) ?_
          exact ih4 (i + 1) (acc + 1) (by omega) (by omega) (sm_t haacc (b2_t c_29)) ls (lv_sub hl [2, 0, 1] rfl)
  exact loop4 (nC σ + 1 - 0) 0 0 (by omega) (by omega) rfl ls (lv_sub hl [2, 0, 1] rfl)

/-! carriersIn -/
set_option maxHeartbeats 4000000 in
set_option maxRecDepth 100000 in
theorem c_X5_carriersIn (l : Launch) (D : va_G) (ct : Nat → ClassId) (Z : Nat → Prop) (dc : Nat) (σ : Stt) (ad : Nat → Nat) (t : Int32) : Met l yX5_carriersIn (.code yX5_carriersIn cX5_carriersIn 5 (some .int) :: GW) ({ frames := 3, cells := 0, slots := 0, locals := 64 } : Room) (va_Pc [.ref (ad 0), .int t] (fun U => GT D ct U ∧ Pic D ct Z dc σ ad U.heap)) (qP (some (.int (cin σ t)))) 0 0 nF := by
  refine m_in (cc := cX5_carriersIn) [.ref (ad 0), .int t] "RumourCustoms" rfl (by decide) (Nat.le_of_ble_eq_true rfl) ?_
  intro pg e s m args below meth cd ls hx hb hml hown hts hr hlocks hin hPr hl
  obtain ⟨hT, hP⟩ := hPr
  have hl : lv_has ls 5 [(0, .ref (ad 0)), (1, .int t)] := hl
  have hn := hP.2.2.2.1
  have hnC := hP.2.2.2.2
  refine lv_iconst (v := 0) hx hb dX5_carriersIn_0 (by decide) ?_
  refine lv_istore_n (lv' := [(2, .int 0), (0, .ref (ad 0)), (1, .int t)]) hx hb dX5_carriersIn_1 rfl hl (by decide) rfl (fun ls hl => ?_)
  refine lv_iconst (v := 0) hx hb dX5_carriersIn_2 (by decide) ?_
  refine lv_istore_n (lv' := [(3, .int 0), (2, .int 0), (0, .ref (ad 0)), (1, .int t)]) hx hb dX5_carriersIn_3 rfl hl (by decide) rfl (fun ls hl => ?_)
  have loop4 : ∀ (n4 i : Nat) (acc : Int32), i ≤ nC σ → nC σ - i < n4 → acc = sm (fun k => b2 (σ 2 (4 * k) = t ∧ ¬ 0 < σ 2 (4 * k + 1))) i → ∀ ls, lv_has ls 5 [(0, .ref (ad 0)), (1, .int t), (3, .int (nI i)), (2, .int acc)] → W pg l e ({ frames := 3, cells := 0, slots := 0, locals := 64 } : Room) s m args below meth cd s.heap [] 0 0 (MQ below (qP (some (.int (cin σ t)))) args s 0 0 nF) (F0 m 4 ls []) := by
    intro n4
    induction n4 with
    | zero => intro i acc _ z; omega
    | succ n4 ih4 =>
      intro i acc hi4 hn4 haacc ls hl
      refine lv_iload_n hx hb dX5_carriersIn_4 rfl (lv_at hl 2 rfl) ?_
      refine lv_aload_n hx hb dX5_carriersIn_5 rfl (lv_at hl 0 rfl) ?_
      refine k_get (C := RX5) (T := TX5) (N := 11) hx hb hts inGX5 hown (hT).1 hP.o0 rfl 3 (by decide) (hts _ w_150) (fun _ h9 => h9) (v := .ref (ad 7)) rfl dX5_carriersIn_6 ?_
      refine c_p1 (va_runV (As := []) (rest := [.int (nI i)]) ⟨hx, hb, hml, hown, hts⟩ (c_Jx4a65c_size_8abf5 l D ct (ad 7) (σ 6 1) (ad 9) (nI (nC σ))) (cwV 0 hts (GG w_185 w_186 w_187 w_64 w_188) rfl rfl rfl (by decide) ⟨Nat.le_of_ble_eq_true rfl, Nat.le_of_ble_eq_true rfl⟩) ⟨(blindT fun _ _ _ _ h => h), Ob.recv (hT).1 hP.o7 rfl, fun U hU hW => ⟨rfl, hT.warm hW, by rw [hU]; exact hP.o7⟩⟩ rfl rfl hl.1 rfl (lv_room (Nat.le_of_ble_eq_true rfl)) dX5_carriersIn_9 ⟨Nat.le_of_ble_eq_true rfl, Nat.le_of_ble_eq_true rfl⟩) ?_
      refine lv_icmp_ge (tgt := 54) hx hb dX5_carriersIn_12 (by decide) (fun c_12 => ?_) (fun c_12 => ?_)
      · -- taken
        have nc_12 : (nC σ) ≤ i := (nI_leI (a := (nC σ)) (b := i) (by omega) (by omega)).mp c_12
        have he4 : i = nC σ := by omega
        refine lv_iload_n hx hb dX5_carriersIn_54 rfl (lv_at hl 3 rfl) ?_
        exact W.iret (v := acc) hx hb hr (fun t ht hW => ⟨rvi (by rw [haacc, he4]; rfl), ht⟩) (fun q h => nomatch h) dX5_carriersIn_55
      · -- not taken
        have nc_12 : ¬ (nC σ) ≤ i := fun z => c_12 ((nI_leI (a := (nC σ)) (b := i) (by omega) (by omega)).mpr z)
        have hlt4 : i < nC σ := by omega
        refine lv_aload_n hx hb dX5_carriersIn_15 rfl (lv_at hl 0 rfl) ?_
        refine k_get (C := RX5) (T := TX5) (N := 11) hx hb hts inGX5 hown (hT).1 hP.o0 rfl 3 (by decide) (hts _ w_150) (fun _ h9 => h9) (v := .ref (ad 7)) rfl dX5_carriersIn_16 ?_
        refine lv_iload_n hx hb dX5_carriersIn_19 rfl (lv_at hl 2 rfl) ?_
        refine c_p1 (va_runV (As := [.int (nI i)]) (rest := []) ⟨hx, hb, hml, hown, hts⟩ (c_Jx4a65c_get_915e3 l D ct (ad 7) (σ 6 1) (ad 9) (nI (nC σ)) (nI i) (nC σ) i (ad 21) (lq ad 200 (nC σ)) (ad (200 + i)) rfl rfl hlt4 hP.2.2.1.2.1 (by have := hP.2.2.1.2.2.1; omega) (if_pos hlt4)) (cwV 1 hts (GG w_189 w_190 w_191 w_64 w_192) rfl rfl rfl (by decide) ⟨Nat.le_of_ble_eq_true rfl, Nat.le_of_ble_eq_true rfl⟩) ⟨(blindT fun _ _ _ _ h => h), Ob.recv (hT).1 hP.o7 rfl, fun U hU hW => ⟨rfl, hT.warm hW, by rw [hU]; exact ⟨hP.o7, (hP.o9 (by omega))⟩⟩⟩ rfl rfl hl.1 rfl (lv_room (Nat.le_of_ble_eq_true rfl)) dX5_carriersIn_20 ⟨Nat.le_of_ble_eq_true rfl, Nat.le_of_ble_eq_true rfl⟩) ?_
        refine va_castS hx hb hown (hts _ w_226) ((hT).1.1 1 _ rfl).2 (Ob.recv (hT).1 (hP.c hlt4) rfl) dX5_carriersIn_23 ?_
        refine lv_astore (lv' := [(4, .ref (ad (200 + i))), (0, .ref (ad 0)), (1, .int t), (3, .int (nI i)), (2, .int acc)]) hx hb dX5_carriersIn_26 hl (by decide) rfl (fun ls hl => ?_)
        refine lv_aload hx hb dX5_carriersIn_28 (lv_at hl 0 rfl) ?_
        refine k_get (C := RX0) (T := TX0) (N := 5) hx hb hts inGX0 hown (hT).1 (hP.c hlt4) rfl 1 (by decide) (hts _ w_627) (fun _ h9 => h9) (v := .int (σ 2 (4 * i))) rfl dX5_carriersIn_30 ?_
        refine lv_iload_n hx hb dX5_carriersIn_33 rfl (lv_at hl 2 rfl) ?_
        refine lv_icmp_ne (tgt := 48) hx hb dX5_carriersIn_34 (by decide) (fun c_34 => ?_) (fun c_34 => ?_)
        · -- taken
          refine lv_iinc (v := nI (i + 1)) (lv' := [(3, .int (nI (i + 1))), (4, .ref (ad (200 + i))), (0, .ref (ad 0)), (1, .int t), (2, .int acc)]) hx hb dX5_carriersIn_48 hl (k := 3) rfl (nI_1 i) (by decide) rfl (fun ls hl => ?_)
          refine lv_goto (tgt := 4) hx hb dX5_carriersIn_51 (by decide) ?_
          exact ih4 (i + 1) acc (by omega) (by omega) (sm_z haacc (b2_f (fun z => c_34 z.1))) ls (lv_sub hl [2, 3, 0, 4] rfl)
        · -- not taken
          refine lv_aload hx hb dX5_carriersIn_37 (lv_at hl 0 rfl) ?_
          refine c_p1 (va_runV (As := []) (rest := []) ⟨hx, hb, hml, hown, hts⟩ (c_X0_isOnTheWay l D ct (ad (200 + i)) (nI i) (σ 2 (4 * i)) (σ 2 (4 * i + 1)) (σ 2 (4 * i + 2)) (σ 2 (4 * i + 3))) (cwV 0 hts (GG w_227 w_228 w_229 w_81 w_230) rfl rfl rfl (by decide) ⟨Nat.le_of_ble_eq_true rfl, Nat.le_of_ble_eq_true rfl⟩) ⟨(blindT fun _ _ _ _ h => h), Ob.recv (hT).1 (hP.c hlt4) rfl, fun U hU hW => ⟨rfl, hT.warm hW, by rw [hU]; exact (hP.c hlt4)⟩⟩ rfl rfl hl.1 rfl (lv_room (Nat.le_of_ble_eq_true rfl)) dX5_carriersIn_39 ⟨Nat.le_of_ble_eq_true rfl, Nat.le_of_ble_eq_true rfl⟩) ?_
          refine lv_if_ne (tgt := 48) hx hb dX5_carriersIn_42 (by decide) (fun c_42 => ?_) (fun c_42 => ?_)
          · -- taken
            replace c_42 := b2_nz c_42
            refine lv_iinc (v := nI (i + 1)) (lv' := [(3, .int (nI (i + 1))), (4, .ref (ad (200 + i))), (0, .ref (ad 0)), (1, .int t), (2, .int acc)]) hx hb dX5_carriersIn_48 hl (k := 3) rfl (nI_1 i) (by decide) rfl (fun ls hl => ?_)
            refine lv_goto (tgt := 4) hx hb dX5_carriersIn_51 (by decide) ?_
            exact ih4 (i + 1) acc (by omega) (by omega) (sm_z haacc (b2_f (fun z => z.2 c_42))) ls (lv_sub hl [2, 3, 0, 4] rfl)
          · -- not taken
            replace c_42 := b2_z c_42
            refine lv_iinc (v := acc + 1) (lv' := [(2, .int (acc + 1)), (4, .ref (ad (200 + i))), (0, .ref (ad 0)), (1, .int t), (3, .int (nI i))]) hx hb dX5_carriersIn_45 hl (k := 4) rfl rfl (by decide) rfl (fun ls hl => ?_)
            refine lv_iinc (v := nI (i + 1)) (lv' := [(3, .int (nI (i + 1))), (2, .int (acc + 1)), (4, .ref (ad (200 + i))), (0, .ref (ad 0)), (1, .int t)]) hx hb dX5_carriersIn_48 hl (k := 4) rfl (nI_1 i) (by decide) rfl (fun ls hl => ?_)
            refine lv_goto (tgt := 4) hx hb dX5_carriersIn_51 (by decide) ?_
            exact ih4 (i + 1) (acc + 1) (by omega) (by omega) (sm_t haacc (b2_t ⟨c_34, c_42⟩)) ls (lv_sub hl [3, 4, 0, 1] rfl)
  exact loop4 (nC σ + 1 - 0) 0 0 (by omega) (by omega) rfl ls (lv_sub hl [2, 3, 0, 1] rfl)

/-! notGoneOf -/
set_option maxHeartbeats 4000000 in
set_option maxRecDepth 100000 in
theorem c_X5_notGoneOf (l : Launch) (D : va_G) (ct : Nat → ClassId) (Z : Nat → Prop) (dc : Nat) (σ : Stt) (ad : Nat → Nat) (t : Int32) : Met l yX5_notGoneOf (.code yX5_notGoneOf cX5_notGoneOf 5 (some .int) :: GW) ({ frames := 3, cells := 0, slots := 0, locals := 64 } : Room) (va_Pc [.ref (ad 0), .int t] (fun U => GT D ct U ∧ Pic D ct Z dc σ ad U.heap)) (qP (some (.int (ngS σ t)))) 0 0 nF := by
  refine m_in (cc := cX5_notGoneOf) [.ref (ad 0), .int t] "RumourCustoms" rfl (by decide) (Nat.le_of_ble_eq_true rfl) ?_
  intro pg e s m args below meth cd ls hx hb hml hown hts hr hlocks hin hPr hl
  obtain ⟨hT, hP⟩ := hPr
  have hl : lv_has ls 5 [(0, .ref (ad 0)), (1, .int t)] := hl
  have hn := hP.2.2.2.1
  have hnC := hP.2.2.2.2
  refine lv_iconst (v := 0) hx hb dX5_notGoneOf_0 (by decide) ?_
  refine lv_istore_n (lv' := [(2, .int 0), (0, .ref (ad 0)), (1, .int t)]) hx hb dX5_notGoneOf_1 rfl hl (by decide) rfl (fun ls hl => ?_)
  refine lv_iconst (v := 0) hx hb dX5_notGoneOf_2 (by decide) ?_
  refine lv_istore_n (lv' := [(3, .int 0), (2, .int 0), (0, .ref (ad 0)), (1, .int t)]) hx hb dX5_notGoneOf_3 rfl hl (by decide) rfl (fun ls hl => ?_)
  have loop4 : ∀ (n4 i : Nat) (acc : Int32), i ≤ nR σ → nR σ - i < n4 → acc = sm (fun r => b2 (σ 1 (7 * r + 3) = t ∧ ¬ (σ 1 (7 * r + 4) = -1 ∧ σ 1 (7 * r + 5) = -1))) i → ∀ ls, lv_has ls 5 [(0, .ref (ad 0)), (1, .int t), (3, .int (nI i)), (2, .int acc)] → W pg l e ({ frames := 3, cells := 0, slots := 0, locals := 64 } : Room) s m args below meth cd s.heap [] 0 0 (MQ below (qP (some (.int (ngS σ t)))) args s 0 0 nF) (F0 m 4 ls []) := by
    intro n4
    induction n4 with
    | zero => intro i acc _ z; omega
    | succ n4 ih4 =>
      intro i acc hi4 hn4 haacc ls hl
      refine lv_iload_n hx hb dX5_notGoneOf_4 rfl (lv_at hl 2 rfl) ?_
      refine lv_aload_n hx hb dX5_notGoneOf_5 rfl (lv_at hl 0 rfl) ?_
      refine k_get (C := RX5) (T := TX5) (N := 11) hx hb hts inGX5 hown (hT).1 hP.o0 rfl 2 (by decide) (hts _ w_149) (fun _ h9 => h9) (v := .ref (ad 6)) rfl dX5_notGoneOf_6 ?_
      refine c_p1 (va_runV (As := []) (rest := [.int (nI i)]) ⟨hx, hb, hml, hown, hts⟩ (c_Jx4a65c_size_8abf5 l D ct (ad 6) (σ 6 0) (ad 8) (nI (nR σ))) (cwV 0 hts (GG w_185 w_186 w_187 w_64 w_188) rfl rfl rfl (by decide) ⟨Nat.le_of_ble_eq_true rfl, Nat.le_of_ble_eq_true rfl⟩) ⟨(blindT fun _ _ _ _ h => h), Ob.recv (hT).1 hP.o6 rfl, fun U hU hW => ⟨rfl, hT.warm hW, by rw [hU]; exact hP.o6⟩⟩ rfl rfl hl.1 rfl (lv_room (Nat.le_of_ble_eq_true rfl)) dX5_notGoneOf_9 ⟨Nat.le_of_ble_eq_true rfl, Nat.le_of_ble_eq_true rfl⟩) ?_
      refine lv_icmp_ge (tgt := 54) hx hb dX5_notGoneOf_12 (by decide) (fun c_12 => ?_) (fun c_12 => ?_)
      · -- taken
        have nc_12 : (nR σ) ≤ i := (nI_leI (a := (nR σ)) (b := i) (by omega) (by omega)).mp c_12
        have he4 : i = nR σ := by omega
        refine lv_iload_n hx hb dX5_notGoneOf_54 rfl (lv_at hl 3 rfl) ?_
        exact W.iret (v := acc) hx hb hr (fun t ht hW => ⟨rvi (by rw [haacc, he4]; rfl), ht⟩) (fun q h => nomatch h) dX5_notGoneOf_55
      · -- not taken
        have nc_12 : ¬ (nR σ) ≤ i := fun z => c_12 ((nI_leI (a := (nR σ)) (b := i) (by omega) (by omega)).mpr z)
        have hlt4 : i < nR σ := by omega
        refine lv_aload_n hx hb dX5_notGoneOf_15 rfl (lv_at hl 0 rfl) ?_
        refine k_get (C := RX5) (T := TX5) (N := 11) hx hb hts inGX5 hown (hT).1 hP.o0 rfl 2 (by decide) (hts _ w_149) (fun _ h9 => h9) (v := .ref (ad 6)) rfl dX5_notGoneOf_16 ?_
        refine lv_iload_n hx hb dX5_notGoneOf_19 rfl (lv_at hl 2 rfl) ?_
        refine c_p1 (va_runV (As := [.int (nI i)]) (rest := []) ⟨hx, hb, hml, hown, hts⟩ (c_Jx4a65c_get_915e3 l D ct (ad 6) (σ 6 0) (ad 8) (nI (nR σ)) (nI i) (nR σ) i (ad 20) (lq ad 100 (nR σ)) (ad (100 + i)) rfl rfl hlt4 hP.2.2.1.1.1 (by have := hP.2.2.1.1.2.1; omega) (if_pos hlt4)) (cwV 1 hts (GG w_189 w_190 w_191 w_64 w_192) rfl rfl rfl (by decide) ⟨Nat.le_of_ble_eq_true rfl, Nat.le_of_ble_eq_true rfl⟩) ⟨(blindT fun _ _ _ _ h => h), Ob.recv (hT).1 hP.o6 rfl, fun U hU hW => ⟨rfl, hT.warm hW, by rw [hU]; exact ⟨hP.o6, (hP.o8 (by omega))⟩⟩⟩ rfl rfl hl.1 rfl (lv_room (Nat.le_of_ble_eq_true rfl)) dX5_notGoneOf_20 ⟨Nat.le_of_ble_eq_true rfl, Nat.le_of_ble_eq_true rfl⟩) ?_
        refine va_castS hx hb hown (hts _ w_203) ((hT).1.1 4 _ rfl).2 (Ob.recv (hT).1 (hP.r hlt4) rfl) dX5_notGoneOf_23 ?_
        refine lv_astore (lv' := [(4, .ref (ad (100 + i))), (0, .ref (ad 0)), (1, .int t), (3, .int (nI i)), (2, .int acc)]) hx hb dX5_notGoneOf_26 hl (by decide) rfl (fun ls hl => ?_)
        refine lv_aload hx hb dX5_notGoneOf_28 (lv_at hl 0 rfl) ?_
        refine k_get (C := RX3) (T := TX3) (N := 8) hx hb hts inGX3 hown (hT).1 (hP.r hlt4) rfl 1 (by decide) (hts _ w_468) (fun _ h9 => h9) (v := .int (σ 1 (7 * i + 3))) rfl dX5_notGoneOf_30 ?_
        refine lv_iload_n hx hb dX5_notGoneOf_33 rfl (lv_at hl 2 rfl) ?_
        refine lv_icmp_ne (tgt := 48) hx hb dX5_notGoneOf_34 (by decide) (fun c_34 => ?_) (fun c_34 => ?_)
        · -- taken
          refine lv_iinc (v := nI (i + 1)) (lv' := [(3, .int (nI (i + 1))), (4, .ref (ad (100 + i))), (0, .ref (ad 0)), (1, .int t), (2, .int acc)]) hx hb dX5_notGoneOf_48 hl (k := 3) rfl (nI_1 i) (by decide) rfl (fun ls hl => ?_)
          refine lv_goto (tgt := 4) hx hb dX5_notGoneOf_51 (by decide) ?_
          exact ih4 (i + 1) acc (by omega) (by omega) (sm_z haacc (b2_f (fun z => c_34 z.1))) ls (lv_sub hl [2, 3, 0, 4] rfl)
        · -- not taken
          refine lv_aload hx hb dX5_notGoneOf_37 (lv_at hl 0 rfl) ?_
          refine c_p1 (va_runV (As := []) (rest := []) ⟨hx, hb, hml, hown, hts⟩ (c_X3_isGone l D ct (ad (100 + i)) (nI i) (σ 1 (7 * i + 3)) (σ 1 (7 * i)) (σ 1 (7 * i + 1)) (σ 1 (7 * i + 2)) (σ 1 (7 * i + 4)) (σ 1 (7 * i + 5)) (σ 1 (7 * i + 6))) (cwV 0 hts (GG w_218 w_219 w_220 w_75 w_221) rfl rfl rfl (by decide) ⟨Nat.le_of_ble_eq_true rfl, Nat.le_of_ble_eq_true rfl⟩) ⟨(blindT fun _ _ _ _ h => h), Ob.recv (hT).1 (hP.r hlt4) rfl, fun U hU hW => ⟨rfl, hT.warm hW, by rw [hU]; exact (hP.r hlt4)⟩⟩ rfl rfl hl.1 rfl (lv_room (Nat.le_of_ble_eq_true rfl)) dX5_notGoneOf_39 ⟨Nat.le_of_ble_eq_true rfl, Nat.le_of_ble_eq_true rfl⟩) ?_
          refine lv_if_ne (tgt := 48) hx hb dX5_notGoneOf_42 (by decide) (fun c_42 => ?_) (fun c_42 => ?_)
          · -- taken
            replace c_42 := b2_nz c_42
            refine lv_iinc (v := nI (i + 1)) (lv' := [(3, .int (nI (i + 1))), (4, .ref (ad (100 + i))), (0, .ref (ad 0)), (1, .int t), (2, .int acc)]) hx hb dX5_notGoneOf_48 hl (k := 3) rfl (nI_1 i) (by decide) rfl (fun ls hl => ?_)
            refine lv_goto (tgt := 4) hx hb dX5_notGoneOf_51 (by decide) ?_
            exact ih4 (i + 1) acc (by omega) (by omega) (sm_z haacc (b2_f (fun z => z.2 c_42))) ls (lv_sub hl [2, 3, 0, 4] rfl)
          · -- not taken
            replace c_42 := b2_z c_42
            refine lv_iinc (v := acc + 1) (lv' := [(2, .int (acc + 1)), (4, .ref (ad (100 + i))), (0, .ref (ad 0)), (1, .int t), (3, .int (nI i))]) hx hb dX5_notGoneOf_45 hl (k := 4) rfl rfl (by decide) rfl (fun ls hl => ?_)
            refine lv_iinc (v := nI (i + 1)) (lv' := [(3, .int (nI (i + 1))), (2, .int (acc + 1)), (4, .ref (ad (100 + i))), (0, .ref (ad 0)), (1, .int t)]) hx hb dX5_notGoneOf_48 hl (k := 4) rfl (nI_1 i) (by decide) rfl (fun ls hl => ?_)
            refine lv_goto (tgt := 4) hx hb dX5_notGoneOf_51 (by decide) ?_
            exact ih4 (i + 1) (acc + 1) (by omega) (by omega) (sm_t haacc (b2_t ⟨c_34, c_42⟩)) ls (lv_sub hl [3, 4, 0, 1] rfl)
  exact loop4 (nR σ + 1 - 0) 0 0 (by omega) (by omega) rfl ls (lv_sub hl [2, 3, 0, 1] rfl)

/-! owedBy -/
set_option maxHeartbeats 4000000 in
set_option maxRecDepth 100000 in
theorem c_X5_owedBy (l : Launch) (D : va_G) (ct : Nat → ClassId) (Z : Nat → Prop) (dc : Nat) (σ : Stt) (ad : Nat → Nat) (k kd : Nat) (b : Int32) (hk : k < nC σ) (hkd : kd < 100) (gkd : σ 3 (7 * kd) = 1) : Met l yX5_owedBy (.code yX5_owedBy cX5_owedBy 7 (some .int) :: GW) ({ frames := 3, cells := 0, slots := 0, locals := 64 } : Room) (va_Pc [.ref (ad 0), .ref (ad (200 + k)), .ref (ad (300 + kd)), .int b] (fun U => GT D ct U ∧ Pic D ct Z dc σ ad U.heap)) (qP (some (.int (owedS σ (nI k) kd b)))) 0 0 nF := by
  refine m_in (cc := cX5_owedBy) [.ref (ad 0), .ref (ad (200 + k)), .ref (ad (300 + kd)), .int b] "RumourCustoms" rfl (by decide) (Nat.le_of_ble_eq_true rfl) ?_
  intro pg e s m args below meth cd ls hx hb hml hown hts hr hlocks hin hPr hl
  obtain ⟨hT, hP⟩ := hPr
  have hl : lv_has ls 7 [(0, .ref (ad 0)), (1, .ref (ad (200 + k))), (2, .ref (ad (300 + kd))), (3, .int b)] := hl
  have hn := hP.2.2.2.1
  have hnC := hP.2.2.2.2
  refine lv_iconst (v := 0) hx hb dX5_owedBy_0 (by decide) ?_
  refine lv_istore (lv' := [(4, .int 0), (0, .ref (ad 0)), (1, .ref (ad (200 + k))), (2, .ref (ad (300 + kd))), (3, .int b)]) hx hb dX5_owedBy_1 hl (by decide) rfl (fun ls hl => ?_)
  refine lv_iconst (v := 0) hx hb dX5_owedBy_3 (by decide) ?_
  refine lv_istore (lv' := [(5, .int 0), (4, .int 0), (0, .ref (ad 0)), (1, .ref (ad (200 + k))), (2, .ref (ad (300 + kd))), (3, .int b)]) hx hb dX5_owedBy_4 hl (by decide) rfl (fun ls hl => ?_)
  have loop6 : ∀ (n6 i : Nat) (acc : Int32), i ≤ nR σ → nR σ - i < n6 → acc = sm (owedF σ (nI k) kd b) i → ∀ ls, lv_has ls 7 [(0, .ref (ad 0)), (1, .ref (ad (200 + k))), (2, .ref (ad (300 + kd))), (3, .int b), (5, .int (nI i)), (4, .int acc)] → W pg l e ({ frames := 3, cells := 0, slots := 0, locals := 64 } : Room) s m args below meth cd s.heap [] 0 0 (MQ below (qP (some (.int (owedS σ (nI k) kd b)))) args s 0 0 nF) (F0 m 6 ls []) := by
    intro n6
    induction n6 with
    | zero => intro i acc _ z; omega
    | succ n6 ih6 =>
      intro i acc hi6 hn6 haacc ls hl
      refine lv_iload hx hb dX5_owedBy_6 (lv_at hl 4 rfl) ?_
      refine lv_aload_n hx hb dX5_owedBy_8 rfl (lv_at hl 0 rfl) ?_
      refine k_get (C := RX5) (T := TX5) (N := 11) hx hb hts inGX5 hown (hT).1 hP.o0 rfl 2 (by decide) (hts _ w_149) (fun _ h9 => h9) (v := .ref (ad 6)) rfl dX5_owedBy_9 ?_
      refine c_p1 (va_runV (As := []) (rest := [.int (nI i)]) ⟨hx, hb, hml, hown, hts⟩ (c_Jx4a65c_size_8abf5 l D ct (ad 6) (σ 6 0) (ad 8) (nI (nR σ))) (cwV 0 hts (GG w_185 w_186 w_187 w_64 w_188) rfl rfl rfl (by decide) ⟨Nat.le_of_ble_eq_true rfl, Nat.le_of_ble_eq_true rfl⟩) ⟨(blindT fun _ _ _ _ h => h), Ob.recv (hT).1 hP.o6 rfl, fun U hU hW => ⟨rfl, hT.warm hW, by rw [hU]; exact hP.o6⟩⟩ rfl rfl hl.1 rfl (lv_room (Nat.le_of_ble_eq_true rfl)) dX5_owedBy_12 ⟨Nat.le_of_ble_eq_true rfl, Nat.le_of_ble_eq_true rfl⟩) ?_
      refine lv_icmp_ge (tgt := 64) hx hb dX5_owedBy_15 (by decide) (fun c_15 => ?_) (fun c_15 => ?_)
      · -- taken
        have nc_15 : (nR σ) ≤ i := (nI_leI (a := (nR σ)) (b := i) (by omega) (by omega)).mp c_15
        have he6 : i = nR σ := by omega
        refine lv_iload hx hb dX5_owedBy_64 (lv_at hl 5 rfl) ?_
        exact W.iret (v := acc) hx hb hr (fun t ht hW => ⟨rvi (by rw [haacc, he6]; rfl), ht⟩) (fun q h => nomatch h) dX5_owedBy_66
      · -- not taken
        have nc_15 : ¬ (nR σ) ≤ i := fun z => c_15 ((nI_leI (a := (nR σ)) (b := i) (by omega) (by omega)).mpr z)
        have hlt6 : i < nR σ := by omega
        refine lv_aload_n hx hb dX5_owedBy_18 rfl (lv_at hl 0 rfl) ?_
        refine k_get (C := RX5) (T := TX5) (N := 11) hx hb hts inGX5 hown (hT).1 hP.o0 rfl 2 (by decide) (hts _ w_149) (fun _ h9 => h9) (v := .ref (ad 6)) rfl dX5_owedBy_19 ?_
        refine lv_iload hx hb dX5_owedBy_22 (lv_at hl 4 rfl) ?_
        refine c_p1 (va_runV (As := [.int (nI i)]) (rest := []) ⟨hx, hb, hml, hown, hts⟩ (c_Jx4a65c_get_915e3 l D ct (ad 6) (σ 6 0) (ad 8) (nI (nR σ)) (nI i) (nR σ) i (ad 20) (lq ad 100 (nR σ)) (ad (100 + i)) rfl rfl hlt6 hP.2.2.1.1.1 (by have := hP.2.2.1.1.2.1; omega) (if_pos hlt6)) (cwV 1 hts (GG w_189 w_190 w_191 w_64 w_192) rfl rfl rfl (by decide) ⟨Nat.le_of_ble_eq_true rfl, Nat.le_of_ble_eq_true rfl⟩) ⟨(blindT fun _ _ _ _ h => h), Ob.recv (hT).1 hP.o6 rfl, fun U hU hW => ⟨rfl, hT.warm hW, by rw [hU]; exact ⟨hP.o6, (hP.o8 (by omega))⟩⟩⟩ rfl rfl hl.1 rfl (lv_room (Nat.le_of_ble_eq_true rfl)) dX5_owedBy_24 ⟨Nat.le_of_ble_eq_true rfl, Nat.le_of_ble_eq_true rfl⟩) ?_
        refine va_castS hx hb hown (hts _ w_203) ((hT).1.1 4 _ rfl).2 (Ob.recv (hT).1 (hP.r hlt6) rfl) dX5_owedBy_27 ?_
        refine lv_astore (lv' := [(6, .ref (ad (100 + i))), (0, .ref (ad 0)), (1, .ref (ad (200 + k))), (2, .ref (ad (300 + kd))), (3, .int b), (5, .int (nI i)), (4, .int acc)]) hx hb dX5_owedBy_30 hl (by decide) rfl (fun ls hl => ?_)
        refine lv_aload hx hb dX5_owedBy_32 (lv_at hl 0 rfl) ?_
        refine lv_aload_n hx hb dX5_owedBy_34 rfl (lv_at hl 2 rfl) ?_
        refine c_p1 (va_runV (As := [.ref (ad (200 + k))]) (rest := []) ⟨hx, hb, hml, hown, hts⟩ (c_X3_isShownBy l D ct (ad (100 + i)) (nI i) (σ 1 (7 * i + 3)) (σ 1 (7 * i)) (σ 1 (7 * i + 1)) (σ 1 (7 * i + 2)) (σ 1 (7 * i + 4)) (σ 1 (7 * i + 5)) (σ 1 (7 * i + 6)) (ad (200 + k)) (nI k) (σ 2 (4 * k)) (σ 2 (4 * k + 1)) (σ 2 (4 * k + 2)) (σ 2 (4 * k + 3))) (cwV 1 hts (GG w_713 w_714 w_715 w_75 w_716) rfl rfl rfl (by decide) ⟨Nat.le_of_ble_eq_true rfl, Nat.le_of_ble_eq_true rfl⟩) ⟨(blindT fun _ _ _ _ h => h), Ob.recv (hT).1 (hP.r hlt6) rfl, fun U hU hW => ⟨rfl, hT.warm hW, by rw [hU]; exact ⟨(hP.r hlt6), (hP.c hk)⟩⟩⟩ rfl rfl hl.1 rfl (lv_room (Nat.le_of_ble_eq_true rfl)) dX5_owedBy_35 ⟨Nat.le_of_ble_eq_true rfl, Nat.le_of_ble_eq_true rfl⟩) ?_
        refine lv_if_eq (tgt := 58) hx hb dX5_owedBy_38 (by decide) (fun c_38 => ?_) (fun c_38 => ?_)
        · -- taken
          replace c_38 := b2_z c_38
          refine lv_iinc (v := nI (i + 1)) (lv' := [(5, .int (nI (i + 1))), (6, .ref (ad (100 + i))), (0, .ref (ad 0)), (1, .ref (ad (200 + k))), (2, .ref (ad (300 + kd))), (3, .int b), (4, .int acc)]) hx hb dX5_owedBy_58 hl (k := 5) rfl (nI_1 i) (by decide) rfl (fun ls hl => ?_)
          refine lv_goto (tgt := 6) hx hb dX5_owedBy_61 (by decide) ?_
          exact ih6 (i + 1) acc (by omega) (by omega) (sm_z haacc (if_neg c_38)) ls (lv_sub hl [2, 3, 4, 5, 0, 6] rfl)
        · -- not taken
          replace c_38 := b2_nz c_38
          refine lv_iload hx hb dX5_owedBy_41 (lv_at hl 6 rfl) ?_
          refine lv_aload_n hx hb dX5_owedBy_43 rfl (lv_at hl 3 rfl) ?_
          refine lv_aload hx hb dX5_owedBy_44 (lv_at hl 0 rfl) ?_
          refine lv_aload hx hb dX5_owedBy_46 (lv_at hl 0 rfl) ?_
          refine lv_iload_n hx hb dX5_owedBy_48 rfl (lv_at hl 4 rfl) ?_
          refine c_p1 (va_runV (As := [.int b]) (rest := [.ref (ad (100 + i)), .ref (ad (300 + kd)), .int acc]) ⟨hx, hb, hml, hown, hts⟩ (c_X3_burnable l D ct (ad (100 + i)) (nI i) (σ 1 (7 * i + 3)) (σ 1 (7 * i)) (σ 1 (7 * i + 1)) (σ 1 (7 * i + 2)) (σ 1 (7 * i + 4)) (σ 1 (7 * i + 5)) (σ 1 (7 * i + 6)) b) (cwV 1 hts (GG w_717 w_718 w_719 w_75 w_720) rfl rfl rfl (by decide) ⟨Nat.le_of_ble_eq_true rfl, Nat.le_of_ble_eq_true rfl⟩) ⟨(blindT fun _ _ _ _ h => h), Ob.recv (hT).1 (hP.r hlt6) rfl, fun U hU hW => ⟨rfl, hT.warm hW, by rw [hU]; exact (hP.r hlt6)⟩⟩ rfl rfl hl.1 rfl (lv_room (Nat.le_of_ble_eq_true rfl)) dX5_owedBy_49 ⟨Nat.le_of_ble_eq_true rfl, Nat.le_of_ble_eq_true rfl⟩) ?_
          refine c_p1 (va_runV (As := [.ref (ad (100 + i)), .int (if (σ 1 (7 * i + 2)) < b then σ 1 (7 * i + 2) else b)]) (rest := [.int acc]) ⟨hx, hb, hml, hown, hts⟩ (c_X1_dutyOf l D ct (ad (300 + kd)) (σ 3 (7 * kd + 1)) (σ 3 (7 * kd + 2)) (σ 3 (7 * kd + 3)) (σ 3 (7 * kd + 4)) (σ 3 (7 * kd + 5)) (σ 3 (7 * kd + 6)) (ad (100 + i)) (nI i) (σ 1 (7 * i + 3)) (σ 1 (7 * i)) (σ 1 (7 * i + 1)) (σ 1 (7 * i + 2)) (σ 1 (7 * i + 4)) (σ 1 (7 * i + 5)) (σ 1 (7 * i + 6)) (if (σ 1 (7 * i + 2)) < b then σ 1 (7 * i + 2) else b)) (cwV 2 hts (GG w_722 w_723 w_724 w_72 w_725) rfl rfl rfl (by decide) ⟨Nat.le_of_ble_eq_true rfl, Nat.le_of_ble_eq_true rfl⟩) ⟨(blindT fun _ _ _ _ h => h), Ob.recv (hT).1 (hP.d hkd gkd) rfl, fun U hU hW => ⟨rfl, hT.warm hW, by rw [hU]; exact ⟨(hP.d hkd gkd), (hP.r hlt6)⟩⟩⟩ rfl rfl hl.1 rfl (lv_room (Nat.le_of_ble_eq_true rfl)) dX5_owedBy_52 ⟨Nat.le_of_ble_eq_true rfl, Nat.le_of_ble_eq_true rfl⟩) ?_
          refine lv_iadd hx hb dX5_owedBy_55 ?_
          refine lv_istore (lv' := [(4, .int (acc + ((((σ 3 (7 * kd + 2)) * (σ 1 (7 * i))) + ((σ 3 (7 * kd + 3)) * (σ 1 (7 * i + 1)))) >>> ((if (σ 1 (7 * i + 2)) < b then σ 1 (7 * i + 2) else b) &&& 31)))), (6, .ref (ad (100 + i))), (0, .ref (ad 0)), (1, .ref (ad (200 + k))), (2, .ref (ad (300 + kd))), (3, .int b), (5, .int (nI i))]) hx hb dX5_owedBy_56 hl (by decide) rfl (fun ls hl => ?_)
          refine lv_iinc (v := nI (i + 1)) (lv' := [(5, .int (nI (i + 1))), (4, .int (acc + ((((σ 3 (7 * kd + 2)) * (σ 1 (7 * i))) + ((σ 3 (7 * kd + 3)) * (σ 1 (7 * i + 1)))) >>> ((if (σ 1 (7 * i + 2)) < b then σ 1 (7 * i + 2) else b) &&& 31)))), (6, .ref (ad (100 + i))), (0, .ref (ad 0)), (1, .ref (ad (200 + k))), (2, .ref (ad (300 + kd))), (3, .int b)]) hx hb dX5_owedBy_58 hl (k := 6) rfl (nI_1 i) (by decide) rfl (fun ls hl => ?_)
          refine lv_goto (tgt := 6) hx hb dX5_owedBy_61 (by decide) ?_
          exact ih6 (i + 1) (acc + ((((σ 3 (7 * kd + 2)) * (σ 1 (7 * i))) + ((σ 3 (7 * kd + 3)) * (σ 1 (7 * i + 1)))) >>> ((if (σ 1 (7 * i + 2)) < b then σ 1 (7 * i + 2) else b) &&& 31))) (by omega) (by omega) (sm_t haacc (if_pos c_38)) ls (lv_sub hl [3, 4, 5, 6, 0, 1] rfl)
  exact loop6 (nR σ + 1 - 0) 0 0 (by omega) (by omega) rfl ls (lv_sub hl [2, 3, 4, 5, 0, 1] rfl)

/-! fineOf -/
set_option maxHeartbeats 4000000 in
set_option maxRecDepth 100000 in
theorem c_X5_fineOf (l : Launch) (D : va_G) (ct : Nat → ClassId) (Z : Nat → Prop) (dc : Nat) (σ : Stt) (ad : Nat → Nat) (k kd : Nat) (lft : Int32) (hk : k < nC σ) (hkd : kd < 100) (gkd : σ 3 (7 * kd) = 1) (hH : ∀ i, i < nR σ → σ 1 (7 * i + 6) = 0 ∨ σ 1 (7 * i + 6) = 1) : Met l yX5_fineOf (.code yX5_fineOf cX5_fineOf 7 (some .int) :: GW) ({ frames := 4, cells := 0, slots := 0, locals := 87 } : Room) (va_Pc [.ref (ad 0), .ref (ad (200 + k)), .ref (ad (300 + kd)), .int lft] (fun U => GT D ct U ∧ Pic D ct Z dc σ ad U.heap)) (qP (some (.int (fineS σ (nI k) kd lft)))) 0 0 nF := by
  refine m_in (cc := cX5_fineOf) [.ref (ad 0), .ref (ad (200 + k)), .ref (ad (300 + kd)), .int lft] "RumourCustoms" rfl (by decide) (Nat.le_of_ble_eq_true rfl) ?_
  intro pg e s m args below meth cd ls hx hb hml hown hts hr hlocks hin hPr hl
  obtain ⟨hT, hP⟩ := hPr
  have hl : lv_has ls 7 [(0, .ref (ad 0)), (1, .ref (ad (200 + k))), (2, .ref (ad (300 + kd))), (3, .int lft)] := hl
  have hn := hP.2.2.2.1
  have hnC := hP.2.2.2.2
  refine lv_aload_n hx hb dX5_fineOf_0 rfl (lv_at hl 2 rfl) ?_
  refine lv_aload_n hx hb dX5_fineOf_1 rfl (lv_at hl 0 rfl) ?_
  refine lv_aload_n hx hb dX5_fineOf_2 rfl (lv_at hl 1 rfl) ?_
  refine c_p1 (va_runV (As := [.ref (ad (200 + k))]) (rest := [.ref (ad (300 + kd))]) ⟨hx, hb, hml, hown, hts⟩ (c_X5_hiddenInBag l D ct Z dc σ ad k hk hH) (cwV 1 hts (GG w_273 w_275 w_8 w_59 w_276) rfl rfl rfl (by decide) ⟨Nat.le_of_ble_eq_true rfl, Nat.le_of_ble_eq_true rfl⟩) ⟨(blindT fun _ _ _ _ h => h), Ob.recv (hT).1 hP.o0 rfl, fun U hU hW => ⟨rfl, hT.warm hW, by rw [hU]; exact hP⟩⟩ rfl rfl hl.1 rfl (lv_room (Nat.le_of_ble_eq_true rfl)) dX5_fineOf_3 ⟨Nat.le_of_ble_eq_true rfl, Nat.le_of_ble_eq_true rfl⟩) ?_
  refine c_p1 (va_runV (As := [.int (hidB σ (nI k))]) (rest := []) ⟨hx, hb, hml, hown, hts⟩ (c_X1_attentionBehind l D ct (ad (300 + kd)) (σ 3 (7 * kd + 1)) (σ 3 (7 * kd + 2)) (σ 3 (7 * kd + 3)) (σ 3 (7 * kd + 4)) (σ 3 (7 * kd + 5)) (σ 3 (7 * kd + 6)) (hidB σ (nI k))) (cwV 1 hts (GG w_731 w_732 w_733 w_72 w_734) rfl rfl rfl (by decide) ⟨Nat.le_of_ble_eq_true rfl, Nat.le_of_ble_eq_true rfl⟩) ⟨(blindT fun _ _ _ _ h => h), Ob.recv (hT).1 (hP.d hkd gkd) rfl, fun U hU hW => ⟨rfl, hT.warm hW, by rw [hU]; exact (hP.d hkd gkd)⟩⟩ rfl rfl hl.1 rfl (lv_room (Nat.le_of_ble_eq_true rfl)) dX5_fineOf_6 ⟨Nat.le_of_ble_eq_true rfl, Nat.le_of_ble_eq_true rfl⟩) ?_
  refine lv_bipush (v := 10) hx hb dX5_fineOf_9 (by decide) ?_
  refine lv_icmp_ge (tgt := 16) hx hb dX5_fineOf_11 (by decide) (fun c_11 => ?_) (fun c_11 => ?_)
  · -- taken
    refine lv_iconst (v := 0) hx hb dX5_fineOf_16 (by decide) ?_
    refine lv_istore (lv' := [(4, .int 0), (0, .ref (ad 0)), (1, .ref (ad (200 + k))), (2, .ref (ad (300 + kd))), (3, .int lft)]) hx hb dX5_fineOf_17 hl (by decide) rfl (fun ls hl => ?_)
    refine lv_iconst (v := 0) hx hb dX5_fineOf_19 (by decide) ?_
    refine lv_istore (lv' := [(5, .int 0), (4, .int 0), (0, .ref (ad 0)), (1, .ref (ad (200 + k))), (2, .ref (ad (300 + kd))), (3, .int lft)]) hx hb dX5_fineOf_20 hl (by decide) rfl (fun ls hl => ?_)
    have loop22 : ∀ (n22 i : Nat) (acc : Int32), i ≤ nR σ → nR σ - i < n22 → acc = sm (hdutF σ (nI k) kd) i → ∀ ls, lv_has ls 7 [(0, .ref (ad 0)), (1, .ref (ad (200 + k))), (2, .ref (ad (300 + kd))), (3, .int lft), (5, .int (nI i)), (4, .int acc)] → W pg l e ({ frames := 4, cells := 0, slots := 0, locals := 87 } : Room) s m args below meth cd s.heap [] 0 0 (MQ below (qP (some (.int (fineS σ (nI k) kd lft)))) args s 0 0 nF) (F0 m 22 ls []) := by
      intro n22
      induction n22 with
      | zero => intro i acc _ z; omega
      | succ n22 ih22 =>
        intro i acc hi22 hn22 haacc ls hl
        refine lv_iload hx hb dX5_fineOf_22 (lv_at hl 4 rfl) ?_
        refine lv_aload_n hx hb dX5_fineOf_24 rfl (lv_at hl 0 rfl) ?_
        refine k_get (C := RX5) (T := TX5) (N := 11) hx hb hts inGX5 hown (hT).1 hP.o0 rfl 2 (by decide) (hts _ w_149) (fun _ h9 => h9) (v := .ref (ad 6)) rfl dX5_fineOf_25 ?_
        refine c_p1 (va_runV (As := []) (rest := [.int (nI i)]) ⟨hx, hb, hml, hown, hts⟩ (c_Jx4a65c_size_8abf5 l D ct (ad 6) (σ 6 0) (ad 8) (nI (nR σ))) (cwV 0 hts (GG w_185 w_186 w_187 w_64 w_188) rfl rfl rfl (by decide) ⟨Nat.le_of_ble_eq_true rfl, Nat.le_of_ble_eq_true rfl⟩) ⟨(blindT fun _ _ _ _ h => h), Ob.recv (hT).1 hP.o6 rfl, fun U hU hW => ⟨rfl, hT.warm hW, by rw [hU]; exact hP.o6⟩⟩ rfl rfl hl.1 rfl (lv_room (Nat.le_of_ble_eq_true rfl)) dX5_fineOf_28 ⟨Nat.le_of_ble_eq_true rfl, Nat.le_of_ble_eq_true rfl⟩) ?_
        refine lv_icmp_ge (tgt := 75) hx hb dX5_fineOf_31 (by decide) (fun c_31 => ?_) (fun c_31 => ?_)
        · -- taken
          have nc_31 : (nR σ) ≤ i := (nI_leI (a := (nR σ)) (b := i) (by omega) (by omega)).mp c_31
          have he22 : i = nR σ := by omega
          refine lv_iconst (v := 0) hx hb dX5_fineOf_75 (by decide) ?_
          refine lv_iconst (v := 3) hx hb dX5_fineOf_76 (by decide) ?_
          refine lv_iload hx hb dX5_fineOf_77 (lv_at hl 5 rfl) ?_
          refine lv_imul hx hb dX5_fineOf_79 ?_
          refine lv_iload_n hx hb dX5_fineOf_80 rfl (lv_at hl 3 rfl) ?_
          refine va_mmin hx hb (hml.trans hl.1.symm) hown (hts _ w_735) (hts _ w_551) (hts _ w_73) (hts _ w_552) (Nat.le_of_ble_eq_true rfl) (Nat.le_of_ble_eq_true rfl) (Nat.le_of_ble_eq_true rfl) (Nat.le_of_ble_eq_true rfl) dX5_fineOf_81 ?_
          refine va_mmax hx hb (hml.trans hl.1.symm) hown (hts _ w_736) (hts _ w_520) (hts _ w_73) (hts _ w_521) (Nat.le_of_ble_eq_true rfl) (Nat.le_of_ble_eq_true rfl) (Nat.le_of_ble_eq_true rfl) (Nat.le_of_ble_eq_true rfl) dX5_fineOf_84 ?_
          exact W.iret (v := if 0 < (if lft < (3 * acc) then lft else 3 * acc) then if lft < (3 * acc) then lft else 3 * acc else 0) hx hb hr (fun t ht hW => ⟨rvi (by rw [haacc, he22]; exact (if_neg (Int32.not_lt.mpr c_11)).symm), ht⟩) (fun q h => nomatch h) dX5_fineOf_87
        · -- not taken
          have nc_31 : ¬ (nR σ) ≤ i := fun z => c_31 ((nI_leI (a := (nR σ)) (b := i) (by omega) (by omega)).mpr z)
          have hlt22 : i < nR σ := by omega
          refine lv_aload_n hx hb dX5_fineOf_34 rfl (lv_at hl 0 rfl) ?_
          refine k_get (C := RX5) (T := TX5) (N := 11) hx hb hts inGX5 hown (hT).1 hP.o0 rfl 2 (by decide) (hts _ w_149) (fun _ h9 => h9) (v := .ref (ad 6)) rfl dX5_fineOf_35 ?_
          refine lv_iload hx hb dX5_fineOf_38 (lv_at hl 4 rfl) ?_
          refine c_p1 (va_runV (As := [.int (nI i)]) (rest := []) ⟨hx, hb, hml, hown, hts⟩ (c_Jx4a65c_get_915e3 l D ct (ad 6) (σ 6 0) (ad 8) (nI (nR σ)) (nI i) (nR σ) i (ad 20) (lq ad 100 (nR σ)) (ad (100 + i)) rfl rfl hlt22 hP.2.2.1.1.1 (by have := hP.2.2.1.1.2.1; omega) (if_pos hlt22)) (cwV 1 hts (GG w_189 w_190 w_191 w_64 w_192) rfl rfl rfl (by decide) ⟨Nat.le_of_ble_eq_true rfl, Nat.le_of_ble_eq_true rfl⟩) ⟨(blindT fun _ _ _ _ h => h), Ob.recv (hT).1 hP.o6 rfl, fun U hU hW => ⟨rfl, hT.warm hW, by rw [hU]; exact ⟨hP.o6, (hP.o8 (by omega))⟩⟩⟩ rfl rfl hl.1 rfl (lv_room (Nat.le_of_ble_eq_true rfl)) dX5_fineOf_40 ⟨Nat.le_of_ble_eq_true rfl, Nat.le_of_ble_eq_true rfl⟩) ?_
          refine va_castS hx hb hown (hts _ w_203) ((hT).1.1 4 _ rfl).2 (Ob.recv (hT).1 (hP.r hlt22) rfl) dX5_fineOf_43 ?_
          refine lv_astore (lv' := [(6, .ref (ad (100 + i))), (0, .ref (ad 0)), (1, .ref (ad (200 + k))), (2, .ref (ad (300 + kd))), (3, .int lft), (5, .int (nI i)), (4, .int acc)]) hx hb dX5_fineOf_46 hl (by decide) rfl (fun ls hl => ?_)
          refine lv_aload hx hb dX5_fineOf_48 (lv_at hl 0 rfl) ?_
          refine lv_aload_n hx hb dX5_fineOf_50 rfl (lv_at hl 2 rfl) ?_
          refine c_p1 (va_runV (As := [.ref (ad (200 + k))]) (rest := []) ⟨hx, hb, hml, hown, hts⟩ (c_X3_isHiddenBy l D ct (ad (100 + i)) (nI i) (σ 1 (7 * i + 3)) (σ 1 (7 * i)) (σ 1 (7 * i + 1)) (σ 1 (7 * i + 2)) (σ 1 (7 * i + 4)) (σ 1 (7 * i + 5)) (σ 1 (7 * i + 6)) (ad (200 + k)) (nI k) (σ 2 (4 * k)) (σ 2 (4 * k + 1)) (σ 2 (4 * k + 2)) (σ 2 (4 * k + 3)) (hH i hlt22)) (cwV 1 hts (GG w_277 w_278 w_279 w_75 w_280) rfl rfl rfl (by decide) ⟨Nat.le_of_ble_eq_true rfl, Nat.le_of_ble_eq_true rfl⟩) ⟨(blindT fun _ _ _ _ h => h), Ob.recv (hT).1 (hP.r hlt22) rfl, fun U hU hW => ⟨rfl, hT.warm hW, by rw [hU]; exact ⟨(hP.r hlt22), (hP.c hk)⟩⟩⟩ rfl rfl hl.1 rfl (lv_room (Nat.le_of_ble_eq_true rfl)) dX5_fineOf_51 ⟨Nat.le_of_ble_eq_true rfl, Nat.le_of_ble_eq_true rfl⟩) ?_
          refine lv_if_eq (tgt := 69) hx hb dX5_fineOf_54 (by decide) (fun c_54 => ?_) (fun c_54 => ?_)
          · -- taken
            replace c_54 := b2_z c_54
            refine lv_iinc (v := nI (i + 1)) (lv' := [(5, .int (nI (i + 1))), (6, .ref (ad (100 + i))), (0, .ref (ad 0)), (1, .ref (ad (200 + k))), (2, .ref (ad (300 + kd))), (3, .int lft), (4, .int acc)]) hx hb dX5_fineOf_69 hl (k := 5) rfl (nI_1 i) (by decide) rfl (fun ls hl => ?_)
            refine lv_goto (tgt := 22) hx hb dX5_fineOf_72 (by decide) ?_
            exact ih22 (i + 1) acc (by omega) (by omega) (sm_z haacc (if_neg c_54)) ls (lv_sub hl [2, 3, 4, 5, 0, 6] rfl)
          · -- not taken
            replace c_54 := b2_nz c_54
            refine lv_iload hx hb dX5_fineOf_57 (lv_at hl 6 rfl) ?_
            refine lv_aload_n hx hb dX5_fineOf_59 rfl (lv_at hl 3 rfl) ?_
            refine lv_aload hx hb dX5_fineOf_60 (lv_at hl 0 rfl) ?_
            refine lv_iconst (v := 0) hx hb dX5_fineOf_62 (by decide) ?_
            refine c_p1 (va_runV (As := [.ref (ad (100 + i)), .int 0]) (rest := [.int acc]) ⟨hx, hb, hml, hown, hts⟩ (c_X1_dutyOf l D ct (ad (300 + kd)) (σ 3 (7 * kd + 1)) (σ 3 (7 * kd + 2)) (σ 3 (7 * kd + 3)) (σ 3 (7 * kd + 4)) (σ 3 (7 * kd + 5)) (σ 3 (7 * kd + 6)) (ad (100 + i)) (nI i) (σ 1 (7 * i + 3)) (σ 1 (7 * i)) (σ 1 (7 * i + 1)) (σ 1 (7 * i + 2)) (σ 1 (7 * i + 4)) (σ 1 (7 * i + 5)) (σ 1 (7 * i + 6)) 0) (cwV 2 hts (GG w_722 w_723 w_724 w_72 w_725) rfl rfl rfl (by decide) ⟨Nat.le_of_ble_eq_true rfl, Nat.le_of_ble_eq_true rfl⟩) ⟨(blindT fun _ _ _ _ h => h), Ob.recv (hT).1 (hP.d hkd gkd) rfl, fun U hU hW => ⟨rfl, hT.warm hW, by rw [hU]; exact ⟨(hP.d hkd gkd), (hP.r hlt22)⟩⟩⟩ rfl rfl hl.1 rfl (lv_room (Nat.le_of_ble_eq_true rfl)) dX5_fineOf_63 ⟨Nat.le_of_ble_eq_true rfl, Nat.le_of_ble_eq_true rfl⟩) ?_
            refine lv_iadd hx hb dX5_fineOf_66 ?_
            refine lv_istore (lv' := [(4, .int (acc + ((((σ 3 (7 * kd + 2)) * (σ 1 (7 * i))) + ((σ 3 (7 * kd + 3)) * (σ 1 (7 * i + 1)))) >>> (0 &&& 31)))), (6, .ref (ad (100 + i))), (0, .ref (ad 0)), (1, .ref (ad (200 + k))), (2, .ref (ad (300 + kd))), (3, .int lft), (5, .int (nI i))]) hx hb dX5_fineOf_67 hl (by decide) rfl (fun ls hl => ?_)
            refine lv_iinc (v := nI (i + 1)) (lv' := [(5, .int (nI (i + 1))), (4, .int (acc + ((((σ 3 (7 * kd + 2)) * (σ 1 (7 * i))) + ((σ 3 (7 * kd + 3)) * (σ 1 (7 * i + 1)))) >>> (0 &&& 31)))), (6, .ref (ad (100 + i))), (0, .ref (ad 0)), (1, .ref (ad (200 + k))), (2, .ref (ad (300 + kd))), (3, .int lft)]) hx hb dX5_fineOf_69 hl (k := 6) rfl (nI_1 i) (by decide) rfl (fun ls hl => ?_)
            refine lv_goto (tgt := 22) hx hb dX5_fineOf_72 (by decide) ?_
            exact ih22 (i + 1) (acc + ((((σ 3 (7 * kd + 2)) * (σ 1 (7 * i))) + ((σ 3 (7 * kd + 3)) * (σ 1 (7 * i + 1)))) >>> (0 &&& 31))) (by omega) (by omega) (sm_t haacc (if_pos c_54)) ls (lv_sub hl [3, 4, 5, 6, 0, 1] rfl)
    exact loop22 (nR σ + 1 - 0) 0 0 (by omega) (by omega) rfl ls (lv_sub hl [2, 3, 4, 5, 0, 1] rfl)
  · -- not taken
    refine lv_iconst (v := 0) hx hb dX5_fineOf_14 (by decide) ?_
    exact W.iret (v := 0) hx hb hr (fun t ht hW => ⟨rvi ((show fineS σ (nI k) kd lft = 0 from if_pos (i32_nle c_11)).symm), ht⟩) (fun q h => nomatch h) dX5_fineOf_15

/-! greatestDepthInTowns -/
set_option maxHeartbeats 4000000 in
set_option maxRecDepth 100000 in
theorem c_X5_greatestDepthInTowns (l : Launch) (D : va_G) (ct : Nat → ClassId) (Z : Nat → Prop) (dc : Nat) (σ : Stt) (ad : Nat → Nat) (t : Int32) : Met l yX5_greatestDepthInTowns (.code yX5_greatestDepthInTowns cX5_greatestDepthInTowns 5 (some .int) :: GW) ({ frames := 3, cells := 0, slots := 0, locals := 64 } : Room) (va_Pc [.ref (ad 0), .int t] (fun U => GT D ct U ∧ Pic D ct Z dc σ ad U.heap)) (qP (some (.int (gdp σ t (nR σ))))) 0 0 nF := by
  refine m_in (cc := cX5_greatestDepthInTowns) [.ref (ad 0), .int t] "RumourCustoms" rfl (by decide) (Nat.le_of_ble_eq_true rfl) ?_
  intro pg e s m args below meth cd ls hx hb hml hown hts hr hlocks hin hPr hl
  obtain ⟨hT, hP⟩ := hPr
  have hl : lv_has ls 5 [(0, .ref (ad 0)), (1, .int t)] := hl
  have hn := hP.2.2.2.1
  have hnC := hP.2.2.2.2
  refine lv_iconst (v := (-1)) hx hb dX5_greatestDepthInTowns_0 (by decide) ?_
  refine lv_istore_n (lv' := [(2, .int (-1)), (0, .ref (ad 0)), (1, .int t)]) hx hb dX5_greatestDepthInTowns_1 rfl hl (by decide) rfl (fun ls hl => ?_)
  refine lv_iconst (v := 0) hx hb dX5_greatestDepthInTowns_2 (by decide) ?_
  refine lv_istore_n (lv' := [(3, .int 0), (2, .int (-1)), (0, .ref (ad 0)), (1, .int t)]) hx hb dX5_greatestDepthInTowns_3 rfl hl (by decide) rfl (fun ls hl => ?_)
  have loop4 : ∀ (n4 i : Nat) (acc : Int32), i ≤ nR σ → nR σ - i < n4 → acc = gdp σ t i → ∀ ls, lv_has ls 5 [(0, .ref (ad 0)), (1, .int t), (3, .int (nI i)), (2, .int acc)] → W pg l e ({ frames := 3, cells := 0, slots := 0, locals := 64 } : Room) s m args below meth cd s.heap [] 0 0 (MQ below (qP (some (.int (gdp σ t (nR σ))))) args s 0 0 nF) (F0 m 4 ls []) := by
    intro n4
    induction n4 with
    | zero => intro i acc _ z; omega
    | succ n4 ih4 =>
      intro i acc hi4 hn4 haacc ls hl
      refine lv_iload_n hx hb dX5_greatestDepthInTowns_4 rfl (lv_at hl 2 rfl) ?_
      refine lv_aload_n hx hb dX5_greatestDepthInTowns_5 rfl (lv_at hl 0 rfl) ?_
      refine k_get (C := RX5) (T := TX5) (N := 11) hx hb hts inGX5 hown (hT).1 hP.o0 rfl 2 (by decide) (hts _ w_149) (fun _ h9 => h9) (v := .ref (ad 6)) rfl dX5_greatestDepthInTowns_6 ?_
      refine c_p1 (va_runV (As := []) (rest := [.int (nI i)]) ⟨hx, hb, hml, hown, hts⟩ (c_Jx4a65c_size_8abf5 l D ct (ad 6) (σ 6 0) (ad 8) (nI (nR σ))) (cwV 0 hts (GG w_185 w_186 w_187 w_64 w_188) rfl rfl rfl (by decide) ⟨Nat.le_of_ble_eq_true rfl, Nat.le_of_ble_eq_true rfl⟩) ⟨(blindT fun _ _ _ _ h => h), Ob.recv (hT).1 hP.o6 rfl, fun U hU hW => ⟨rfl, hT.warm hW, by rw [hU]; exact hP.o6⟩⟩ rfl rfl hl.1 rfl (lv_room (Nat.le_of_ble_eq_true rfl)) dX5_greatestDepthInTowns_9 ⟨Nat.le_of_ble_eq_true rfl, Nat.le_of_ble_eq_true rfl⟩) ?_
      refine lv_icmp_ge (tgt := 62) hx hb dX5_greatestDepthInTowns_12 (by decide) (fun c_12 => ?_) (fun c_12 => ?_)
      · -- taken
        have nc_12 : (nR σ) ≤ i := (nI_leI (a := (nR σ)) (b := i) (by omega) (by omega)).mp c_12
        have he4 : i = nR σ := by omega
        refine lv_iload_n hx hb dX5_greatestDepthInTowns_62 rfl (lv_at hl 3 rfl) ?_
        exact W.iret (v := acc) hx hb hr (fun t ht hW => ⟨rvi (by rw [haacc, he4]), ht⟩) (fun q h => nomatch h) dX5_greatestDepthInTowns_63
      · -- not taken
        have nc_12 : ¬ (nR σ) ≤ i := fun z => c_12 ((nI_leI (a := (nR σ)) (b := i) (by omega) (by omega)).mpr z)
        have hlt4 : i < nR σ := by omega
        refine lv_aload_n hx hb dX5_greatestDepthInTowns_15 rfl (lv_at hl 0 rfl) ?_
        refine k_get (C := RX5) (T := TX5) (N := 11) hx hb hts inGX5 hown (hT).1 hP.o0 rfl 2 (by decide) (hts _ w_149) (fun _ h9 => h9) (v := .ref (ad 6)) rfl dX5_greatestDepthInTowns_16 ?_
        refine lv_iload_n hx hb dX5_greatestDepthInTowns_19 rfl (lv_at hl 2 rfl) ?_
        refine c_p1 (va_runV (As := [.int (nI i)]) (rest := []) ⟨hx, hb, hml, hown, hts⟩ (c_Jx4a65c_get_915e3 l D ct (ad 6) (σ 6 0) (ad 8) (nI (nR σ)) (nI i) (nR σ) i (ad 20) (lq ad 100 (nR σ)) (ad (100 + i)) rfl rfl hlt4 hP.2.2.1.1.1 (by have := hP.2.2.1.1.2.1; omega) (if_pos hlt4)) (cwV 1 hts (GG w_189 w_190 w_191 w_64 w_192) rfl rfl rfl (by decide) ⟨Nat.le_of_ble_eq_true rfl, Nat.le_of_ble_eq_true rfl⟩) ⟨(blindT fun _ _ _ _ h => h), Ob.recv (hT).1 hP.o6 rfl, fun U hU hW => ⟨rfl, hT.warm hW, by rw [hU]; exact ⟨hP.o6, (hP.o8 (by omega))⟩⟩⟩ rfl rfl hl.1 rfl (lv_room (Nat.le_of_ble_eq_true rfl)) dX5_greatestDepthInTowns_20 ⟨Nat.le_of_ble_eq_true rfl, Nat.le_of_ble_eq_true rfl⟩) ?_
        refine va_castS hx hb hown (hts _ w_203) ((hT).1.1 4 _ rfl).2 (Ob.recv (hT).1 (hP.r hlt4) rfl) dX5_greatestDepthInTowns_23 ?_
        refine lv_astore (lv' := [(4, .ref (ad (100 + i))), (0, .ref (ad 0)), (1, .int t), (3, .int (nI i)), (2, .int acc)]) hx hb dX5_greatestDepthInTowns_26 hl (by decide) rfl (fun ls hl => ?_)
        refine lv_aload hx hb dX5_greatestDepthInTowns_28 (lv_at hl 0 rfl) ?_
        refine k_get (C := RX3) (T := TX3) (N := 8) hx hb hts inGX3 hown (hT).1 (hP.r hlt4) rfl 1 (by decide) (hts _ w_468) (fun _ h9 => h9) (v := .int (σ 1 (7 * i + 3))) rfl dX5_greatestDepthInTowns_30 ?_
        refine lv_iload_n hx hb dX5_greatestDepthInTowns_33 rfl (lv_at hl 2 rfl) ?_
        refine lv_icmp_ne (tgt := 56) hx hb dX5_greatestDepthInTowns_34 (by decide) (fun c_34 => ?_) (fun c_34 => ?_)
        · -- taken
          refine lv_iinc (v := nI (i + 1)) (lv' := [(3, .int (nI (i + 1))), (4, .ref (ad (100 + i))), (0, .ref (ad 0)), (1, .int t), (2, .int acc)]) hx hb dX5_greatestDepthInTowns_56 hl (k := 3) rfl (nI_1 i) (by decide) rfl (fun ls hl => ?_)
          refine lv_goto (tgt := 4) hx hb dX5_greatestDepthInTowns_59 (by decide) ?_
          exact ih4 (i + 1) acc (by omega) (by omega) (by rw [haacc]; exact (if_neg (fun z => c_34 z.1)).symm) ls (lv_sub hl [2, 3, 0, 4] rfl)
        · -- not taken
          refine lv_aload hx hb dX5_greatestDepthInTowns_37 (lv_at hl 0 rfl) ?_
          refine k_get (C := RX3) (T := TX3) (N := 8) hx hb hts inGX3 hown (hT).1 (hP.r hlt4) rfl 5 (by decide) (hts _ w_479) (fun _ h9 => h9) (v := .int (σ 1 (7 * i + 4))) rfl dX5_greatestDepthInTowns_39 ?_
          refine lv_iconst (v := (-1)) hx hb dX5_greatestDepthInTowns_42 (by decide) ?_
          refine lv_icmp_eq (tgt := 56) hx hb dX5_greatestDepthInTowns_43 (by decide) (fun c_43 => ?_) (fun c_43 => ?_)
          · -- taken
            refine lv_iinc (v := nI (i + 1)) (lv' := [(3, .int (nI (i + 1))), (4, .ref (ad (100 + i))), (0, .ref (ad 0)), (1, .int t), (2, .int acc)]) hx hb dX5_greatestDepthInTowns_56 hl (k := 3) rfl (nI_1 i) (by decide) rfl (fun ls hl => ?_)
            refine lv_goto (tgt := 4) hx hb dX5_greatestDepthInTowns_59 (by decide) ?_
            exact ih4 (i + 1) acc (by omega) (by omega) (by rw [haacc]; exact (if_neg (fun z => z.2 c_43)).symm) ls (lv_sub hl [2, 3, 0, 4] rfl)
          · -- not taken
            refine lv_iload_n hx hb dX5_greatestDepthInTowns_46 rfl (lv_at hl 4 rfl) ?_
            refine lv_aload hx hb dX5_greatestDepthInTowns_47 (lv_at hl 0 rfl) ?_
            refine k_get (C := RX3) (T := TX3) (N := 8) hx hb hts inGX3 hown (hT).1 (hP.r hlt4) rfl 3 (by decide) (hts _ w_474) (fun _ h9 => h9) (v := .int (σ 1 (7 * i + 1))) rfl dX5_greatestDepthInTowns_49 ?_
            refine va_mmax hx hb (hml.trans hl.1.symm) hown (hts _ w_736) (hts _ w_520) (hts _ w_73) (hts _ w_521) (Nat.le_of_ble_eq_true rfl) (Nat.le_of_ble_eq_true rfl) (Nat.le_of_ble_eq_true rfl) (Nat.le_of_ble_eq_true rfl) dX5_greatestDepthInTowns_52 ?_
            refine lv_istore_n (lv' := [(2, .int (if acc < (σ 1 (7 * i + 1)) then σ 1 (7 * i + 1) else acc)), (4, .ref (ad (100 + i))), (0, .ref (ad 0)), (1, .int t), (3, .int (nI i))]) hx hb dX5_greatestDepthInTowns_55 rfl hl (by decide) rfl (fun ls hl => ?_)
            refine lv_iinc (v := nI (i + 1)) (lv' := [(3, .int (nI (i + 1))), (2, .int (if acc < (σ 1 (7 * i + 1)) then σ 1 (7 * i + 1) else acc)), (4, .ref (ad (100 + i))), (0, .ref (ad 0)), (1, .int t)]) hx hb dX5_greatestDepthInTowns_56 hl (k := 4) rfl (nI_1 i) (by decide) rfl (fun ls hl => ?_)
            refine lv_goto (tgt := 4) hx hb dX5_greatestDepthInTowns_59 (by decide) ?_
            exact ih4 (i + 1) (if acc < (σ 1 (7 * i + 1)) then σ 1 (7 * i + 1) else acc) (by omega) (by omega) (by rw [haacc]; exact (if_pos ⟨c_34, c_43⟩).symm) ls (lv_sub hl [3, 4, 0, 1] rfl)
  exact loop4 (nR σ + 1 - 0) 0 (-1) (by omega) (by omega) rfl ls (lv_sub hl [2, 3, 0, 1] rfl)
