/-! RoadMap.between -/
set_option maxHeartbeats 4000000 in
set_option maxRecDepth 100000 in
theorem c_X2_between (l : Launch) (D : va_G) (ct : Nat → ClassId) (Z : Nat → Prop) (dc : Nat) (σ : Stt) (ad : Nat → Nat) (a b : Nat) (ha : a < 10) (hb10 : b < 10) : Met l yX2_between (.code yX2_between cX2_between 3 (some (.object "RumourCustoms$Road")) :: GW) ({ frames := 1, cells := 0, slots := 0, locals := 20 } : Room) (va_Pc [.ref (ad 1), .int (nI a), .int (nI b)] (fun U => GT D ct U ∧ Pic D ct Z dc σ ad U.heap)) (qP (some (va_rf (rdb σ ad a b)))) 0 0 nF := by
  refine m_in (cc := cX2_between) [.ref (ad 1), .int (nI a), .int (nI b)] "RumourCustoms$RoadMap" rfl (by decide) (Nat.le_of_ble_eq_true rfl) ?_
  intro pg e s m args below meth cd ls hx hb hml hown hts hr hlocks hin hPr hl
  obtain ⟨hT, hP⟩ := hPr
  have hl : lv_has ls 3 [(0, .ref (ad 1)), (1, .int (nI a)), (2, .int (nI b))] := hl
  have hn := hP.2.2.2.1
  have hnC := hP.2.2.2.2
  refine lv_iload_n hx hb dX2_between_0 rfl (lv_at hl 1 rfl) ?_
  refine c_p1 (va_runS (As := [.int (nI a)]) (rest := []) ⟨hx, hb, hml, hown, hts⟩ (c_X2_isOnMap l D ct (nI a)) (k_cwS 1 hts w_239 w_240 w_60 w_241 rfl rfl (by decide) ⟨Nat.le_of_ble_eq_true rfl, Nat.le_of_ble_eq_true rfl⟩) ⟨(blindT fun _ _ _ _ h => h), fun U hU hW => ⟨rfl, hT.warm hW, trivial⟩⟩ rfl rfl hl.1 rfl (lv_room (Nat.le_of_ble_eq_true rfl)) dX2_between_1 ⟨Nat.le_of_ble_eq_true rfl, Nat.le_of_ble_eq_true rfl⟩) ?_
  refine lv_if_eq (tgt := 28) hx hb dX2_between_4 (by decide) (fun c_4 => ?_) (fun c_4 => ?_)
  · -- taken
    replace c_4 := b2_z c_4
    exact absurd (show (0 : Int32) ≤ nI a ∧ nI a < 10 from ⟨nI_pos' (by omega), nI_lt ha (by decide)⟩) c_4
  · -- not taken
    replace c_4 := b2_nz c_4
    refine lv_iload_n hx hb dX2_between_7 rfl (lv_at hl 2 rfl) ?_
    refine c_p1 (va_runS (As := [.int (nI b)]) (rest := []) ⟨hx, hb, hml, hown, hts⟩ (c_X2_isOnMap l D ct (nI b)) (k_cwS 1 hts w_239 w_240 w_60 w_241 rfl rfl (by decide) ⟨Nat.le_of_ble_eq_true rfl, Nat.le_of_ble_eq_true rfl⟩) ⟨(blindT fun _ _ _ _ h => h), fun U hU hW => ⟨rfl, hT.warm hW, trivial⟩⟩ rfl rfl hl.1 rfl (lv_room (Nat.le_of_ble_eq_true rfl)) dX2_between_8 ⟨Nat.le_of_ble_eq_true rfl, Nat.le_of_ble_eq_true rfl⟩) ?_
    refine lv_if_eq (tgt := 28) hx hb dX2_between_11 (by decide) (fun c_11 => ?_) (fun c_11 => ?_)
    · -- taken
      replace c_11 := b2_z c_11
      exact absurd (show (0 : Int32) ≤ nI b ∧ nI b < 10 from ⟨nI_pos' (by omega), nI_lt hb10 (by decide)⟩) c_11
    · -- not taken
      replace c_11 := b2_nz c_11
      refine lv_aload_n hx hb dX2_between_14 rfl (lv_at hl 0 rfl) ?_
      refine k_get (C := RX2) (T := TX2) (N := 1) hx hb hts inGX2 hown (hT).1 hP.o1 rfl 0 (by decide) (hts _ w_99) (fun _ h9 => h9) (v := .ref (ad 2)) rfl dX2_between_15 ?_
      refine lv_iload_n hx hb dX2_between_18 rfl (lv_at hl 1 rfl) ?_
      refine lv_bipush (v := 10) hx hb dX2_between_19 (by decide) ?_
      refine lv_imul hx hb dX2_between_21 ?_
      refine lv_iload_n hx hb dX2_between_22 rfl (lv_at hl 2 rfl) ?_
      refine lv_iadd hx hb dX2_between_23 ?_
      refine k_aald2 hx hb (hT).1 hP.o2 (by rw [show nI a * 10 + nI b = nI (10 * a + b) from by rw [show (10 : Int32) = nI 10 from rfl, pk_mul, nI_add, Nat.mul_comm]]; exact vp_in_nI (by omega) (by decide)) dX2_between_24 ?_
      rw [show (((nI a) * 10) + (nI b) : Int32).toNatClampNeg = 10 * a + b from (by rw [show nI a * 10 + nI b = nI (10 * a + b) from by rw [show (10 : Int32) = nI 10 from rfl, pk_mul, nI_add, Nat.mul_comm]]; exact nI_clamp (by omega))]
      refine lv_goto (tgt := 29) hx hb dX2_between_25 (by decide) ?_
      rw [rdq_ab hb10]
      by_cases hrd : σ 3 (7 * rk a b) = 1
      · -- road
        rw [show va_rf (rdb σ ad a b) = .ref (ad (300 + rk a b)) from by rw [rdb, if_pos hrd]; rfl]
        exact W.aret (v := .ref (ad (300 + rk a b))) hx hb hr (Or.inl ⟨_, rfl⟩) (Or.inr ⟨_, rfl⟩) (fun t ht hW => ⟨rva rfl, ht⟩) (fun q h => nomatch h) dX2_between_29
      · -- none
        rw [show va_rf (rdb σ ad a b) = .null from by rw [rdb, if_neg hrd]; rfl]
        exact W.aret (v := .null) hx hb hr (Or.inl ⟨_, rfl⟩) (Or.inl rfl) (fun t ht hW => ⟨rva rfl, ht⟩) (fun q h => nomatch h) dX2_between_29

/-! digestRoad -/
set_option maxHeartbeats 4000000 in
set_option maxRecDepth 100000 in
theorem c_X5_digestRoad (l : Launch) (D : va_G) (ct : Nat → ClassId) (Z : Nat → Prop) (dc : Nat) (σ : Stt) (ad : Nat → Nat) (d : Int64) (k : Nat) (hk : k < 100) (gk : σ 3 (7 * k) = 1) : Met l yX5_digestRoad (.code yX5_digestRoad cX5_digestRoad 6 (some .long) :: GW) ({ frames := 1, cells := 0, slots := 0, locals := 21 } : Room) (va_Pc [.long d, .ref (ad (300 + k))] (fun U => GT D ct U ∧ Pic D ct Z dc σ ad U.heap)) (qP (some (.long (dfo d (fun w => figDS σ k (nI w)) 7)))) 0 0 nF := by
  refine m_in (cc := cX5_digestRoad) [.long d, .ref (ad (300 + k))] "RumourCustoms" rfl (by decide) (Nat.le_of_ble_eq_true rfl) ?_
  intro pg e s m args below meth cd ls hx hb hml hown hts hr hlocks hin hPr hl
  obtain ⟨hT, hP⟩ := hPr
  have hl : lv_has ls 6 [(0, .long d), (2, .ref (ad (300 + k)))] := hl
  have hn := hP.2.2.2.1
  have hnC := hP.2.2.2.2
  refine lv_lload_n hx hb dX5_digestRoad_0 rfl (lv_at hl 0 rfl) ?_
  refine lv_lstore_n (lv' := [(3, .long d), (0, .long d), (2, .ref (ad (300 + k)))]) hx hb dX5_digestRoad_1 rfl hl (by decide) rfl (fun ls hl => ?_)
  refine lv_iconst (v := 0) hx hb dX5_digestRoad_2 (by decide) ?_
  refine lv_istore (lv' := [(5, .int 0), (3, .long d), (0, .long d), (2, .ref (ad (300 + k)))]) hx hb dX5_digestRoad_3 hl (by decide) rfl (fun ls hl => ?_)
  have loop5 : ∀ (n5 w : Nat) (acc : Int64), w ≤ 7 → 7 - w < n5 → acc = dfo d (fun w => figDS σ k (nI w)) w → ∀ ls, lv_has ls 6 [(0, .long d), (2, .ref (ad (300 + k))), (5, .int (nI w)), (3, .long acc)] → W pg l e ({ frames := 1, cells := 0, slots := 0, locals := 21 } : Room) s m args below meth cd s.heap [] 0 0 (MQ below (qP (some (.long (dfo d (fun w => figDS σ k (nI w)) 7)))) args s 0 0 nF) (F0 m 5 ls []) := by
    intro n5
    induction n5 with
    | zero => intro w acc _ z; omega
    | succ n5 ih5 =>
      intro w acc hi5 hn5 haacc ls hl
      refine lv_iload hx hb dX5_digestRoad_5 (lv_at hl 2 rfl) ?_
      refine lv_bipush (v := 6) hx hb dX5_digestRoad_7 (by decide) ?_
      refine lv_icmp_gt (tgt := 32) hx hb dX5_digestRoad_9 (by decide) (fun c_9 => ?_) (fun c_9 => ?_)
      · -- taken
        have nc_9 : 6 < w := (nI_ltI (a := 6) (b := w) (by omega) (by omega)).mp c_9
        have he5 : w = 7 := by omega
        refine lv_lload_n hx hb dX5_digestRoad_32 rfl (lv_at hl 3 rfl) ?_
        exact W.lret (v := acc) hx hb hr (fun t ht hW => ⟨rvl (by rw [haacc, he5]), ht⟩) (fun q h => nomatch h) dX5_digestRoad_33
      · -- not taken
        have nc_9 : ¬ 6 < w := fun z => c_9 ((nI_ltI (a := 6) (b := w) (by omega) (by omega)).mpr z)
        have hlt5 : w < 7 := by omega
        refine lv_lload_n hx hb dX5_digestRoad_12 rfl (lv_at hl 3 rfl) ?_
        refine lv_ldc2 (v := 31) hx hb hown (hts _ w_209) dX5_digestRoad_13 ?_
        refine lv_lmul hx hb dX5_digestRoad_16 ?_
        refine lv_aload_n hx hb dX5_digestRoad_17 rfl (lv_at hl 1 rfl) ?_
        refine lv_iload hx hb dX5_digestRoad_18 (lv_at hl 2 rfl) ?_
        refine c_p1 (va_runV (As := [.int (nI w)]) (rest := [.long (acc * 31)]) ⟨hx, hb, hml, hown, hts⟩ (c_X1_figure l D ct (ad (300 + k)) (σ 3 (7 * k + 1)) (σ 3 (7 * k + 2)) (σ 3 (7 * k + 3)) (σ 3 (7 * k + 4)) (σ 3 (7 * k + 5)) (σ 3 (7 * k + 6)) (nI w)) (cwV 1 hts (GG w_245 w_246 w_247 w_72 w_248) rfl rfl rfl (by decide) ⟨Nat.le_of_ble_eq_true rfl, Nat.le_of_ble_eq_true rfl⟩) ⟨(blindT fun _ _ _ _ h => h), Ob.recv (hT).1 (hP.d hk gk) rfl, fun U hU hW => ⟨rfl, hT.warm hW, by rw [hU]; exact (hP.d hk gk)⟩⟩ rfl rfl hl.1 rfl (lv_room (Nat.le_of_ble_eq_true rfl)) dX5_digestRoad_20 ⟨Nat.le_of_ble_eq_true rfl, Nat.le_of_ble_eq_true rfl⟩) ?_
        refine lv_i2l (v := (figD (nI w) (σ 3 (7 * k + 1)) (σ 3 (7 * k + 2)) (σ 3 (7 * k + 3)) (σ 3 (7 * k + 4)) (σ 3 (7 * k + 5)) (σ 3 (7 * k + 6)) : Int32).toInt64) hx hb dX5_digestRoad_23 rfl ?_
        refine lv_ladd hx hb dX5_digestRoad_24 ?_
        refine lv_lstore_n (lv' := [(3, .long ((acc * 31) + ((figD (nI w) (σ 3 (7 * k + 1)) (σ 3 (7 * k + 2)) (σ 3 (7 * k + 3)) (σ 3 (7 * k + 4)) (σ 3 (7 * k + 5)) (σ 3 (7 * k + 6)) : Int32).toInt64))), (0, .long d), (2, .ref (ad (300 + k))), (5, .int (nI w))]) hx hb dX5_digestRoad_25 rfl hl (by decide) rfl (fun ls hl => ?_)
        refine lv_iinc (v := nI (w + 1)) (lv' := [(5, .int (nI (w + 1))), (3, .long ((acc * 31) + ((figD (nI w) (σ 3 (7 * k + 1)) (σ 3 (7 * k + 2)) (σ 3 (7 * k + 3)) (σ 3 (7 * k + 4)) (σ 3 (7 * k + 5)) (σ 3 (7 * k + 6)) : Int32).toInt64))), (0, .long d), (2, .ref (ad (300 + k)))]) hx hb dX5_digestRoad_26 hl (k := 3) rfl (nI_1 w) (by decide) rfl (fun ls hl => ?_)
        refine lv_goto (tgt := 5) hx hb dX5_digestRoad_29 (by decide) ?_
        exact ih5 (w + 1) ((acc * 31) + ((figD (nI w) (σ 3 (7 * k + 1)) (σ 3 (7 * k + 2)) (σ 3 (7 * k + 3)) (σ 3 (7 * k + 4)) (σ 3 (7 * k + 5)) (σ 3 (7 * k + 6)) : Int32).toInt64)) (by omega) (by omega) (by rw [haacc]; rfl) ls (lv_sub hl [2, 3, 0, 1] rfl)
  exact loop5 (7 + 1 - 0) 0 d (by omega) (by omega) rfl ls (lv_sub hl [2, 3, 0, 1] rfl)

/-! digestRumours -/
set_option maxHeartbeats 4000000 in
set_option maxRecDepth 100000 in
theorem c_X5_digestRumours (l : Launch) (D : va_G) (ct : Nat → ClassId) (Z : Nat → Prop) (dc : Nat) (σ : Stt) (ad : Nat → Nat) (d : Int64) (hH : ∀ i, i < nR σ → σ 1 (7 * i + 6) = 0 ∨ σ 1 (7 * i + 6) = 1) : Met l yX5_digestRumours (.code yX5_digestRumours cX5_digestRumours 8 (some .long) :: GW) ({ frames := 3, cells := 0, slots := 0, locals := 64 } : Room) (va_Pc [.ref (ad 0), .long d] (fun U => GT D ct U ∧ Pic D ct Z dc σ ad U.heap)) (qP (some (.long (dgR σ d (nR σ))))) 0 0 nF := by
  refine m_in (cc := cX5_digestRumours) [.ref (ad 0), .long d] "RumourCustoms" rfl (by decide) (Nat.le_of_ble_eq_true rfl) ?_
  intro pg e s m args below meth cd ls hx hb hml hown hts hr hlocks hin hPr hl
  obtain ⟨hT, hP⟩ := hPr
  have hl : lv_has ls 8 [(0, .ref (ad 0)), (1, .long d)] := hl
  have hn := hP.2.2.2.1
  have hnC := hP.2.2.2.2
  refine lv_lload_n hx hb dX5_digestRumours_0 rfl (lv_at hl 1 rfl) ?_
  refine lv_lstore_n (lv' := [(3, .long d), (0, .ref (ad 0)), (1, .long d)]) hx hb dX5_digestRumours_1 rfl hl (by decide) rfl (fun ls hl => ?_)
  refine lv_iconst (v := 0) hx hb dX5_digestRumours_2 (by decide) ?_
  refine lv_istore (lv' := [(5, .int 0), (3, .long d), (0, .ref (ad 0)), (1, .long d)]) hx hb dX5_digestRumours_3 hl (by decide) rfl (fun ls hl => ?_)
  have loop5 : ∀ (n5 i : Nat) (acc : Int64), i ≤ nR σ → nR σ - i < n5 → acc = dgR σ d i → ∀ ls, lv_has ls 8 [(0, .ref (ad 0)), (1, .long d), (5, .int (nI i)), (3, .long acc)] → W pg l e ({ frames := 3, cells := 0, slots := 0, locals := 64 } : Room) s m args below meth cd s.heap [] 0 0 (MQ below (qP (some (.long (dgR σ d (nR σ))))) args s 0 0 nF) (F0 m 5 ls []) := by
    intro n5
    induction n5 with
    | zero => intro i acc _ z; omega
    | succ n5 ih5 =>
      intro i acc hi5 hn5 haacc ls hl
      refine lv_iload hx hb dX5_digestRumours_5 (lv_at hl 2 rfl) ?_
      refine lv_aload_n hx hb dX5_digestRumours_7 rfl (lv_at hl 0 rfl) ?_
      refine k_get (C := RX5) (T := TX5) (N := 11) hx hb hts inGX5 hown (hT).1 hP.o0 rfl 2 (by decide) (hts _ w_149) (fun _ h9 => h9) (v := .ref (ad 6)) rfl dX5_digestRumours_8 ?_
      refine c_p1 (va_runV (As := []) (rest := [.int (nI i)]) ⟨hx, hb, hml, hown, hts⟩ (c_Jx4a65c_size_8abf5 l D ct (ad 6) (σ 6 0) (ad 8) (nI (nR σ))) (cwV 0 hts (GG w_185 w_186 w_187 w_64 w_188) rfl rfl rfl (by decide) ⟨Nat.le_of_ble_eq_true rfl, Nat.le_of_ble_eq_true rfl⟩) ⟨(blindT fun _ _ _ _ h => h), Ob.recv (hT).1 hP.o6 rfl, fun U hU hW => ⟨rfl, hT.warm hW, by rw [hU]; exact hP.o6⟩⟩ rfl rfl hl.1 rfl (lv_room (Nat.le_of_ble_eq_true rfl)) dX5_digestRumours_11 ⟨Nat.le_of_ble_eq_true rfl, Nat.le_of_ble_eq_true rfl⟩) ?_
      refine lv_icmp_ge (tgt := 68) hx hb dX5_digestRumours_14 (by decide) (fun c_14 => ?_) (fun c_14 => ?_)
      · -- taken
        have nc_14 : (nR σ) ≤ i := (nI_leI (a := (nR σ)) (b := i) (by omega) (by omega)).mp c_14
        have he5 : i = nR σ := by omega
        refine lv_lload_n hx hb dX5_digestRumours_68 rfl (lv_at hl 3 rfl) ?_
        exact W.lret (v := acc) hx hb hr (fun t ht hW => ⟨rvl (by rw [haacc, he5]), ht⟩) (fun q h => nomatch h) dX5_digestRumours_69
      · -- not taken
        have nc_14 : ¬ (nR σ) ≤ i := fun z => c_14 ((nI_leI (a := (nR σ)) (b := i) (by omega) (by omega)).mpr z)
        have hlt5 : i < nR σ := by omega
        refine lv_aload_n hx hb dX5_digestRumours_17 rfl (lv_at hl 0 rfl) ?_
        refine k_get (C := RX5) (T := TX5) (N := 11) hx hb hts inGX5 hown (hT).1 hP.o0 rfl 2 (by decide) (hts _ w_149) (fun _ h9 => h9) (v := .ref (ad 6)) rfl dX5_digestRumours_18 ?_
        refine lv_iload hx hb dX5_digestRumours_21 (lv_at hl 2 rfl) ?_
        refine c_p1 (va_runV (As := [.int (nI i)]) (rest := []) ⟨hx, hb, hml, hown, hts⟩ (c_Jx4a65c_get_915e3 l D ct (ad 6) (σ 6 0) (ad 8) (nI (nR σ)) (nI i) (nR σ) i (ad 20) (lq ad 100 (nR σ)) (ad (100 + i)) rfl rfl hlt5 hP.2.2.1.1.1 (by have := hP.2.2.1.1.2.1; omega) (if_pos hlt5)) (cwV 1 hts (GG w_189 w_190 w_191 w_64 w_192) rfl rfl rfl (by decide) ⟨Nat.le_of_ble_eq_true rfl, Nat.le_of_ble_eq_true rfl⟩) ⟨(blindT fun _ _ _ _ h => h), Ob.recv (hT).1 hP.o6 rfl, fun U hU hW => ⟨rfl, hT.warm hW, by rw [hU]; exact ⟨hP.o6, (hP.o8 (by omega))⟩⟩⟩ rfl rfl hl.1 rfl (lv_room (Nat.le_of_ble_eq_true rfl)) dX5_digestRumours_23 ⟨Nat.le_of_ble_eq_true rfl, Nat.le_of_ble_eq_true rfl⟩) ?_
        refine va_castS hx hb hown (hts _ w_203) ((hT).1.1 4 _ rfl).2 (Ob.recv (hT).1 (hP.r hlt5) rfl) dX5_digestRumours_26 ?_
        refine lv_astore (lv' := [(6, .ref (ad (100 + i))), (0, .ref (ad 0)), (1, .long d), (5, .int (nI i)), (3, .long acc)]) hx hb dX5_digestRumours_29 hl (by decide) rfl (fun ls hl => ?_)
        refine lv_iconst (v := 0) hx hb dX5_digestRumours_31 (by decide) ?_
        refine lv_istore (lv' := [(7, .int 0), (6, .ref (ad (100 + i))), (0, .ref (ad 0)), (1, .long d), (5, .int (nI i)), (3, .long acc)]) hx hb dX5_digestRumours_32 hl (by decide) rfl (fun ls hl => ?_)
        have loop34 : ∀ (n34 w : Nat) (ac2 : Int64), w ≤ 7 → 7 - w < n34 → ac2 = dfo (dgR σ d i) (fun w => figRS σ i (nI w)) w → ∀ ls, lv_has ls 8 [(0, .ref (ad 0)), (1, .long d), (5, .int (nI i)), (6, .ref (ad (100 + i))), (7, .int (nI w)), (3, .long ac2)] → W pg l e ({ frames := 3, cells := 0, slots := 0, locals := 64 } : Room) s m args below meth cd s.heap [] 0 0 (MQ below (qP (some (.long (dgR σ d (nR σ))))) args s 0 0 nF) (F0 m 34 ls []) := by
          intro n34
          induction n34 with
          | zero => intro w ac2 _ z; omega
          | succ n34 ih34 =>
            intro w ac2 hi34 hn34 haac2 ls hl
            refine lv_iload hx hb dX5_digestRumours_34 (lv_at hl 4 rfl) ?_
            refine lv_bipush (v := 6) hx hb dX5_digestRumours_36 (by decide) ?_
            refine lv_icmp_gt (tgt := 62) hx hb dX5_digestRumours_38 (by decide) (fun c_38 => ?_) (fun c_38 => ?_)
            · -- taken
              have nc_38 : 6 < w := (nI_ltI (a := 6) (b := w) (by omega) (by omega)).mp c_38
              have he34 : w = 7 := by omega
              refine lv_iinc (v := nI (i + 1)) (lv' := [(5, .int (nI (i + 1))), (0, .ref (ad 0)), (1, .long d), (6, .ref (ad (100 + i))), (7, .int (nI w)), (3, .long ac2)]) hx hb dX5_digestRumours_62 hl (k := 2) rfl (nI_1 i) (by decide) rfl (fun ls hl => ?_)
              refine lv_goto (tgt := 5) hx hb dX5_digestRumours_65 (by decide) ?_
              exact ih5 (i + 1) ac2 (by omega) (by omega) (by rw [haac2, he34]; rfl) ls (lv_sub hl [1, 2, 0, 5] rfl)
            · -- not taken
              have nc_38 : ¬ 6 < w := fun z => c_38 ((nI_ltI (a := 6) (b := w) (by omega) (by omega)).mpr z)
              have hlt34 : w < 7 := by omega
              refine lv_lload_n hx hb dX5_digestRumours_41 rfl (lv_at hl 5 rfl) ?_
              refine lv_ldc2 (v := 31) hx hb hown (hts _ w_209) dX5_digestRumours_42 ?_
              refine lv_lmul hx hb dX5_digestRumours_45 ?_
              refine lv_aload hx hb dX5_digestRumours_46 (lv_at hl 3 rfl) ?_
              refine lv_iload hx hb dX5_digestRumours_48 (lv_at hl 4 rfl) ?_
              refine c_p1 (va_runV (As := [.int (nI w)]) (rest := [.long (ac2 * 31)]) ⟨hx, hb, hml, hown, hts⟩ (c_X3_figure l D ct (ad (100 + i)) (nI i) (σ 1 (7 * i + 3)) (σ 1 (7 * i)) (σ 1 (7 * i + 1)) (σ 1 (7 * i + 2)) (σ 1 (7 * i + 4)) (σ 1 (7 * i + 5)) (σ 1 (7 * i + 6)) (nI w) (hH i hlt5)) (cwV 1 hts (GG w_253 w_254 w_255 w_75 w_256) rfl rfl rfl (by decide) ⟨Nat.le_of_ble_eq_true rfl, Nat.le_of_ble_eq_true rfl⟩) ⟨(blindT fun _ _ _ _ h => h), Ob.recv (hT).1 (hP.r hlt5) rfl, fun U hU hW => ⟨rfl, hT.warm hW, by rw [hU]; exact (hP.r hlt5)⟩⟩ rfl rfl hl.1 rfl (lv_room (Nat.le_of_ble_eq_true rfl)) dX5_digestRumours_50 ⟨Nat.le_of_ble_eq_true rfl, Nat.le_of_ble_eq_true rfl⟩) ?_
              refine lv_i2l (v := (figR (nI w) (σ 1 (7 * i + 3)) (σ 1 (7 * i)) (σ 1 (7 * i + 1)) (σ 1 (7 * i + 2)) (σ 1 (7 * i + 4)) (σ 1 (7 * i + 5)) (σ 1 (7 * i + 6)) : Int32).toInt64) hx hb dX5_digestRumours_53 rfl ?_
              refine lv_ladd hx hb dX5_digestRumours_54 ?_
              refine lv_lstore_n (lv' := [(3, .long ((ac2 * 31) + ((figR (nI w) (σ 1 (7 * i + 3)) (σ 1 (7 * i)) (σ 1 (7 * i + 1)) (σ 1 (7 * i + 2)) (σ 1 (7 * i + 4)) (σ 1 (7 * i + 5)) (σ 1 (7 * i + 6)) : Int32).toInt64))), (0, .ref (ad 0)), (1, .long d), (5, .int (nI i)), (6, .ref (ad (100 + i))), (7, .int (nI w))]) hx hb dX5_digestRumours_55 rfl hl (by decide) rfl (fun ls hl => ?_)
              refine lv_iinc (v := nI (w + 1)) (lv' := [(7, .int (nI (w + 1))), (3, .long ((ac2 * 31) + ((figR (nI w) (σ 1 (7 * i + 3)) (σ 1 (7 * i)) (σ 1 (7 * i + 1)) (σ 1 (7 * i + 2)) (σ 1 (7 * i + 4)) (σ 1 (7 * i + 5)) (σ 1 (7 * i + 6)) : Int32).toInt64))), (0, .ref (ad 0)), (1, .long d), (5, .int (nI i)), (6, .ref (ad (100 + i)))]) hx hb dX5_digestRumours_56 hl (k := 5) rfl (nI_1 w) (by decide) rfl (fun ls hl => ?_)
              refine lv_goto (tgt := 34) hx hb dX5_digestRumours_59 (by decide) ?_
              exact ih34 (w + 1) ((ac2 * 31) + ((figR (nI w) (σ 1 (7 * i + 3)) (σ 1 (7 * i)) (σ 1 (7 * i + 1)) (σ 1 (7 * i + 2)) (σ 1 (7 * i + 4)) (σ 1 (7 * i + 5)) (σ 1 (7 * i + 6)) : Int32).toInt64)) (by omega) (by omega) (by rw [haac2]; rfl) ls (lv_sub hl [2, 3, 4, 5, 0, 1] rfl)
        exact loop34 (7 + 1 - 0) 0 acc (by omega) (by omega) haacc ls (lv_sub hl [2, 3, 4, 1, 0, 5] rfl)
  exact loop5 (nR σ + 1 - 0) 0 d (by omega) (by omega) rfl ls (lv_sub hl [2, 3, 0, 1] rfl)

/-! digestCarriers -/
set_option maxHeartbeats 4000000 in
set_option maxRecDepth 100000 in
theorem c_X5_digestCarriers (l : Launch) (D : va_G) (ct : Nat → ClassId) (Z : Nat → Prop) (dc : Nat) (σ : Stt) (ad : Nat → Nat) (d : Int64) (hH : ∀ i, i < nR σ → σ 1 (7 * i + 6) = 0 ∨ σ 1 (7 * i + 6) = 1) : Met l yX5_digestCarriers (.code yX5_digestCarriers cX5_digestCarriers 8 (some .long) :: GW) ({ frames := 5, cells := 0, slots := 0, locals := 109 } : Room) (va_Pc [.ref (ad 0), .long d] (fun U => GT D ct U ∧ Pic D ct Z dc σ ad U.heap)) (qP (some (.long (dgC σ d (nC σ))))) 0 0 nF := by
  refine m_in (cc := cX5_digestCarriers) [.ref (ad 0), .long d] "RumourCustoms" rfl (by decide) (Nat.le_of_ble_eq_true rfl) ?_
  intro pg e s m args below meth cd ls hx hb hml hown hts hr hlocks hin hPr hl
  obtain ⟨hT, hP⟩ := hPr
  have hl : lv_has ls 8 [(0, .ref (ad 0)), (1, .long d)] := hl
  have hn := hP.2.2.2.1
  have hnC := hP.2.2.2.2
  refine lv_lload_n hx hb dX5_digestCarriers_0 rfl (lv_at hl 1 rfl) ?_
  refine lv_lstore_n (lv' := [(3, .long d), (0, .ref (ad 0)), (1, .long d)]) hx hb dX5_digestCarriers_1 rfl hl (by decide) rfl (fun ls hl => ?_)
  refine lv_iconst (v := 0) hx hb dX5_digestCarriers_2 (by decide) ?_
  refine lv_istore (lv' := [(5, .int 0), (3, .long d), (0, .ref (ad 0)), (1, .long d)]) hx hb dX5_digestCarriers_3 hl (by decide) rfl (fun ls hl => ?_)
  have loop5 : ∀ (n5 i : Nat) (acc : Int64), i ≤ nC σ → nC σ - i < n5 → acc = dgC σ d i → ∀ ls, lv_has ls 8 [(0, .ref (ad 0)), (1, .long d), (5, .int (nI i)), (3, .long acc)] → W pg l e ({ frames := 5, cells := 0, slots := 0, locals := 109 } : Room) s m args below meth cd s.heap [] 0 0 (MQ below (qP (some (.long (dgC σ d (nC σ))))) args s 0 0 nF) (F0 m 5 ls []) := by
    intro n5
    induction n5 with
    | zero => intro i acc _ z; omega
    | succ n5 ih5 =>
      intro i acc hi5 hn5 haacc ls hl
      refine lv_iload hx hb dX5_digestCarriers_5 (lv_at hl 2 rfl) ?_
      refine lv_aload_n hx hb dX5_digestCarriers_7 rfl (lv_at hl 0 rfl) ?_
      refine k_get (C := RX5) (T := TX5) (N := 11) hx hb hts inGX5 hown (hT).1 hP.o0 rfl 3 (by decide) (hts _ w_150) (fun _ h9 => h9) (v := .ref (ad 7)) rfl dX5_digestCarriers_8 ?_
      refine c_p1 (va_runV (As := []) (rest := [.int (nI i)]) ⟨hx, hb, hml, hown, hts⟩ (c_Jx4a65c_size_8abf5 l D ct (ad 7) (σ 6 1) (ad 9) (nI (nC σ))) (cwV 0 hts (GG w_185 w_186 w_187 w_64 w_188) rfl rfl rfl (by decide) ⟨Nat.le_of_ble_eq_true rfl, Nat.le_of_ble_eq_true rfl⟩) ⟨(blindT fun _ _ _ _ h => h), Ob.recv (hT).1 hP.o7 rfl, fun U hU hW => ⟨rfl, hT.warm hW, by rw [hU]; exact hP.o7⟩⟩ rfl rfl hl.1 rfl (lv_room (Nat.le_of_ble_eq_true rfl)) dX5_digestCarriers_11 ⟨Nat.le_of_ble_eq_true rfl, Nat.le_of_ble_eq_true rfl⟩) ?_
      refine lv_icmp_ge (tgt := 68) hx hb dX5_digestCarriers_14 (by decide) (fun c_14 => ?_) (fun c_14 => ?_)
      · -- taken
        have nc_14 : (nC σ) ≤ i := (nI_leI (a := (nC σ)) (b := i) (by omega) (by omega)).mp c_14
        have he5 : i = nC σ := by omega
        refine lv_lload_n hx hb dX5_digestCarriers_68 rfl (lv_at hl 3 rfl) ?_
        exact W.lret (v := acc) hx hb hr (fun t ht hW => ⟨rvl (by rw [haacc, he5]), ht⟩) (fun q h => nomatch h) dX5_digestCarriers_69
      · -- not taken
        have nc_14 : ¬ (nC σ) ≤ i := fun z => c_14 ((nI_leI (a := (nC σ)) (b := i) (by omega) (by omega)).mpr z)
        have hlt5 : i < nC σ := by omega
        refine lv_aload_n hx hb dX5_digestCarriers_17 rfl (lv_at hl 0 rfl) ?_
        refine k_get (C := RX5) (T := TX5) (N := 11) hx hb hts inGX5 hown (hT).1 hP.o0 rfl 3 (by decide) (hts _ w_150) (fun _ h9 => h9) (v := .ref (ad 7)) rfl dX5_digestCarriers_18 ?_
        refine lv_iload hx hb dX5_digestCarriers_21 (lv_at hl 2 rfl) ?_
        refine c_p1 (va_runV (As := [.int (nI i)]) (rest := []) ⟨hx, hb, hml, hown, hts⟩ (c_Jx4a65c_get_915e3 l D ct (ad 7) (σ 6 1) (ad 9) (nI (nC σ)) (nI i) (nC σ) i (ad 21) (lq ad 200 (nC σ)) (ad (200 + i)) rfl rfl hlt5 hP.2.2.1.2.1 (by have := hP.2.2.1.2.2.1; omega) (if_pos hlt5)) (cwV 1 hts (GG w_189 w_190 w_191 w_64 w_192) rfl rfl rfl (by decide) ⟨Nat.le_of_ble_eq_true rfl, Nat.le_of_ble_eq_true rfl⟩) ⟨(blindT fun _ _ _ _ h => h), Ob.recv (hT).1 hP.o7 rfl, fun U hU hW => ⟨rfl, hT.warm hW, by rw [hU]; exact ⟨hP.o7, (hP.o9 (by omega))⟩⟩⟩ rfl rfl hl.1 rfl (lv_room (Nat.le_of_ble_eq_true rfl)) dX5_digestCarriers_23 ⟨Nat.le_of_ble_eq_true rfl, Nat.le_of_ble_eq_true rfl⟩) ?_
        refine va_castS hx hb hown (hts _ w_226) ((hT).1.1 1 _ rfl).2 (Ob.recv (hT).1 (hP.c hlt5) rfl) dX5_digestCarriers_26 ?_
        refine lv_astore (lv' := [(6, .ref (ad (200 + i))), (0, .ref (ad 0)), (1, .long d), (5, .int (nI i)), (3, .long acc)]) hx hb dX5_digestCarriers_29 hl (by decide) rfl (fun ls hl => ?_)
        refine lv_iconst (v := 0) hx hb dX5_digestCarriers_31 (by decide) ?_
        refine lv_istore (lv' := [(7, .int 0), (6, .ref (ad (200 + i))), (0, .ref (ad 0)), (1, .long d), (5, .int (nI i)), (3, .long acc)]) hx hb dX5_digestCarriers_32 hl (by decide) rfl (fun ls hl => ?_)
        have loop34 : ∀ (n34 w : Nat) (ac2 : Int64), w ≤ 6 → 6 - w < n34 → ac2 = dfo (dgC σ d i) (fun w => figC σ i (nI w)) w → ∀ ls, lv_has ls 8 [(0, .ref (ad 0)), (1, .long d), (5, .int (nI i)), (6, .ref (ad (200 + i))), (7, .int (nI w)), (3, .long ac2)] → W pg l e ({ frames := 5, cells := 0, slots := 0, locals := 109 } : Room) s m args below meth cd s.heap [] 0 0 (MQ below (qP (some (.long (dgC σ d (nC σ))))) args s 0 0 nF) (F0 m 34 ls []) := by
          intro n34
          induction n34 with
          | zero => intro w ac2 _ z; omega
          | succ n34 ih34 =>
            intro w ac2 hi34 hn34 haac2 ls hl
            refine lv_iload hx hb dX5_digestCarriers_34 (lv_at hl 4 rfl) ?_
            refine lv_iconst (v := 5) hx hb dX5_digestCarriers_36 (by decide) ?_
            refine lv_icmp_gt (tgt := 62) hx hb dX5_digestCarriers_37 (by decide) (fun c_37 => ?_) (fun c_37 => ?_)
            · -- taken
              have nc_37 : 5 < w := (nI_ltI (a := 5) (b := w) (by omega) (by omega)).mp c_37
              have he34 : w = 6 := by omega
              refine lv_iinc (v := nI (i + 1)) (lv' := [(5, .int (nI (i + 1))), (0, .ref (ad 0)), (1, .long d), (6, .ref (ad (200 + i))), (7, .int (nI w)), (3, .long ac2)]) hx hb dX5_digestCarriers_62 hl (k := 2) rfl (nI_1 i) (by decide) rfl (fun ls hl => ?_)
              refine lv_goto (tgt := 5) hx hb dX5_digestCarriers_65 (by decide) ?_
              exact ih5 (i + 1) ac2 (by omega) (by omega) (by rw [haac2, he34]; rfl) ls (lv_sub hl [1, 2, 0, 5] rfl)
            · -- not taken
              have nc_37 : ¬ 5 < w := fun z => c_37 ((nI_ltI (a := 5) (b := w) (by omega) (by omega)).mpr z)
              have hlt34 : w < 6 := by omega
              refine lv_lload_n hx hb dX5_digestCarriers_40 rfl (lv_at hl 5 rfl) ?_
              refine lv_ldc2 (v := 31) hx hb hown (hts _ w_209) dX5_digestCarriers_41 ?_
              refine lv_lmul hx hb dX5_digestCarriers_44 ?_
              refine lv_aload_n hx hb dX5_digestCarriers_45 rfl (lv_at hl 0 rfl) ?_
              refine lv_aload hx hb dX5_digestCarriers_46 (lv_at hl 3 rfl) ?_
              refine lv_iload hx hb dX5_digestCarriers_48 (lv_at hl 4 rfl) ?_
              refine c_p1 (va_runV (As := [.ref (ad (200 + i)), .int (nI w)]) (rest := [.long (ac2 * 31)]) ⟨hx, hb, hml, hown, hts⟩ (c_X5_figureOf l D ct Z dc σ ad i (nI w) hlt5 hH) (cwV 2 hts (GG w_261 w_263 w_6 w_59 w_264) rfl rfl rfl (by decide) ⟨Nat.le_of_ble_eq_true rfl, Nat.le_of_ble_eq_true rfl⟩) ⟨(blindT fun _ _ _ _ h => h), Ob.recv (hT).1 hP.o0 rfl, fun U hU hW => ⟨rfl, hT.warm hW, by rw [hU]; exact hP⟩⟩ rfl rfl hl.1 rfl (lv_room (Nat.le_of_ble_eq_true rfl)) dX5_digestCarriers_50 ⟨Nat.le_of_ble_eq_true rfl, Nat.le_of_ble_eq_true rfl⟩) ?_
              refine lv_i2l (v := (figC σ i (nI w) : Int32).toInt64) hx hb dX5_digestCarriers_53 rfl ?_
              refine lv_ladd hx hb dX5_digestCarriers_54 ?_
              refine lv_lstore_n (lv' := [(3, .long ((ac2 * 31) + ((figC σ i (nI w) : Int32).toInt64))), (0, .ref (ad 0)), (1, .long d), (5, .int (nI i)), (6, .ref (ad (200 + i))), (7, .int (nI w))]) hx hb dX5_digestCarriers_55 rfl hl (by decide) rfl (fun ls hl => ?_)
              refine lv_iinc (v := nI (w + 1)) (lv' := [(7, .int (nI (w + 1))), (3, .long ((ac2 * 31) + ((figC σ i (nI w) : Int32).toInt64))), (0, .ref (ad 0)), (1, .long d), (5, .int (nI i)), (6, .ref (ad (200 + i)))]) hx hb dX5_digestCarriers_56 hl (k := 5) rfl (nI_1 w) (by decide) rfl (fun ls hl => ?_)
              refine lv_goto (tgt := 34) hx hb dX5_digestCarriers_59 (by decide) ?_
              exact ih34 (w + 1) ((ac2 * 31) + ((figC σ i (nI w) : Int32).toInt64)) (by omega) (by omega) (by rw [haac2]; rfl) ls (lv_sub hl [2, 3, 4, 5, 0, 1] rfl)
        exact loop34 (6 + 1 - 0) 0 acc (by omega) (by omega) haacc ls (lv_sub hl [2, 3, 4, 1, 0, 5] rfl)
  exact loop5 (nC σ + 1 - 0) 0 d (by omega) (by omega) rfl ls (lv_sub hl [2, 3, 0, 1] rfl)

theorem dgD1_0 {σ : Stt} {a : Nat} {d : Int64} : ∀ {n : Nat}, n ≤ a + 1 → dgD1 σ a d n = d
  | 0, _ => rfl
  | n + 1, h => by
    show (if _ then _ else _) = _
    rw [if_neg (fun z => absurd z.1 (by omega))]
    exact dgD1_0 (by omega)

/-! digestRoads -/
set_option maxHeartbeats 4000000 in
set_option maxRecDepth 100000 in
theorem c_X5_digestRoads (l : Launch) (D : va_G) (ct : Nat → ClassId) (Z : Nat → Prop) (dc : Nat) (σ : Stt) (ad : Nat → Nat) (d : Int64) (hT1 : σ 0 1 = nI (nT σ)) (hT10 : nT σ ≤ 10) : Met l yX5_digestRoads (.code yX5_digestRoads cX5_digestRoads 8 (some .long) :: GW) ({ frames := 2, cells := 0, slots := 0, locals := 46 } : Room) (va_Pc [.ref (ad 0), .long d] (fun U => GT D ct U ∧ Pic D ct Z dc σ ad U.heap)) (qP (some (.long (dgD σ (nT σ) d (nT σ))))) 0 0 nF := by
  refine m_in (cc := cX5_digestRoads) [.ref (ad 0), .long d] "RumourCustoms" rfl (by decide) (Nat.le_of_ble_eq_true rfl) ?_
  intro pg e s m args below meth cd ls hx hb hml hown hts hr hlocks hin hPr hl
  obtain ⟨hT, hP⟩ := hPr
  have hl : lv_has ls 8 [(0, .ref (ad 0)), (1, .long d)] := hl
  have hn := hP.2.2.2.1
  have hnC := hP.2.2.2.2
  refine lv_lload_n hx hb dX5_digestRoads_0 rfl (lv_at hl 1 rfl) ?_
  refine lv_lstore_n (lv' := [(3, .long d), (0, .ref (ad 0)), (1, .long d)]) hx hb dX5_digestRoads_1 rfl hl (by decide) rfl (fun ls hl => ?_)
  refine lv_iconst (v := 0) hx hb dX5_digestRoads_2 (by decide) ?_
  refine lv_istore (lv' := [(5, .int 0), (3, .long d), (0, .ref (ad 0)), (1, .long d)]) hx hb dX5_digestRoads_3 hl (by decide) rfl (fun ls hl => ?_)
  have loop5 : ∀ (n5 a : Nat) (acc : Int64), a ≤ nT σ → nT σ - a < n5 → acc = dgD σ (nT σ) d a → ∀ ls, lv_has ls 8 [(0, .ref (ad 0)), (1, .long d), (5, .int (nI a)), (3, .long acc)] → W pg l e ({ frames := 2, cells := 0, slots := 0, locals := 46 } : Room) s m args below meth cd s.heap [] 0 0 (MQ below (qP (some (.long (dgD σ (nT σ) d (nT σ))))) args s 0 0 nF) (F0 m 5 ls []) := by
    intro n5
    induction n5 with
    | zero => intro a acc _ z; omega
    | succ n5 ih5 =>
      intro a acc hi5 hn5 haacc ls hl
      refine lv_iload hx hb dX5_digestRoads_5 (lv_at hl 2 rfl) ?_
      refine lv_aload_n hx hb dX5_digestRoads_7 rfl (lv_at hl 0 rfl) ?_
      refine k_get (C := RX5) (T := TX5) (N := 11) hx hb hts inGX5 hown (hT).1 hP.o0 rfl 4 (by decide) (hts _ w_151) (fun _ h9 => h9) (v := .int (σ 0 1)) rfl dX5_digestRoads_8 ?_
      rw [hT1]
      refine lv_icmp_ge (tgt := 66) hx hb dX5_digestRoads_11 (by decide) (fun c_11 => ?_) (fun c_11 => ?_)
      · -- taken
        have nc_11 : (nT σ) ≤ a := (nI_leI (a := (nT σ)) (b := a) (by omega) (by omega)).mp c_11
        have he5 : a = nT σ := by omega
        refine lv_lload_n hx hb dX5_digestRoads_66 rfl (lv_at hl 3 rfl) ?_
        exact W.lret (v := acc) hx hb hr (fun t ht hW => ⟨rvl (by rw [haacc, he5]), ht⟩) (fun q h => nomatch h) dX5_digestRoads_67
      · -- not taken
        have nc_11 : ¬ (nT σ) ≤ a := fun z => c_11 ((nI_leI (a := (nT σ)) (b := a) (by omega) (by omega)).mpr z)
        have hlt5 : a < nT σ := by omega
        refine lv_iload hx hb dX5_digestRoads_14 (lv_at hl 2 rfl) ?_
        refine lv_iconst (v := 1) hx hb dX5_digestRoads_16 (by decide) ?_
        refine lv_iadd hx hb dX5_digestRoads_17 ?_
        rw [nI_1]
        refine lv_istore (lv' := [(6, .int (nI (a + 1))), (0, .ref (ad 0)), (1, .long d), (5, .int (nI a)), (3, .long acc)]) hx hb dX5_digestRoads_18 hl (by decide) rfl (fun ls hl => ?_)
        have loop20 : ∀ (n20 b : Nat) (ac2 : Int64), b ≤ nT σ → nT σ - b < n20 → a < b → ac2 = dgD1 σ a (dgD σ (nT σ) d a) b → ∀ ls, lv_has ls 8 [(0, .ref (ad 0)), (1, .long d), (5, .int (nI a)), (6, .int (nI b)), (3, .long ac2)] → W pg l e ({ frames := 2, cells := 0, slots := 0, locals := 46 } : Room) s m args below meth cd s.heap [] 0 0 (MQ below (qP (some (.long (dgD σ (nT σ) d (nT σ))))) args s 0 0 nF) (F0 m 20 ls []) := by
          intro n20
          induction n20 with
          | zero => intro b ac2 _ z; omega
          | succ n20 ih20 =>
            intro b ac2 hi20 hn20 hab haac2 ls hl
            refine lv_iload hx hb dX5_digestRoads_20 (lv_at hl 3 rfl) ?_
            refine lv_aload_n hx hb dX5_digestRoads_22 rfl (lv_at hl 0 rfl) ?_
            refine k_get (C := RX5) (T := TX5) (N := 11) hx hb hts inGX5 hown (hT).1 hP.o0 rfl 4 (by decide) (hts _ w_151) (fun _ h9 => h9) (v := .int (σ 0 1)) rfl dX5_digestRoads_23 ?_
            rw [hT1]
            refine lv_icmp_ge (tgt := 60) hx hb dX5_digestRoads_26 (by decide) (fun c_26 => ?_) (fun c_26 => ?_)
            · -- taken
              have nc_26 : (nT σ) ≤ b := (nI_leI (a := (nT σ)) (b := b) (by omega) (by omega)).mp c_26
              have he20 : b = nT σ := by omega
              refine lv_iinc (v := nI (a + 1)) (lv' := [(5, .int (nI (a + 1))), (0, .ref (ad 0)), (1, .long d), (6, .int (nI b)), (3, .long ac2)]) hx hb dX5_digestRoads_60 hl (k := 2) rfl (nI_1 a) (by decide) rfl (fun ls hl => ?_)
              refine lv_goto (tgt := 5) hx hb dX5_digestRoads_63 (by decide) ?_
              exact ih5 (a + 1) ac2 (by omega) (by omega) (by rw [haac2, he20]; rfl) ls (lv_sub hl [1, 2, 0, 4] rfl)
            · -- not taken
              have nc_26 : ¬ (nT σ) ≤ b := fun z => c_26 ((nI_leI (a := (nT σ)) (b := b) (by omega) (by omega)).mpr z)
              have hlt20 : b < nT σ := by omega
              refine lv_aload_n hx hb dX5_digestRoads_29 rfl (lv_at hl 0 rfl) ?_
              refine k_get (C := RX5) (T := TX5) (N := 11) hx hb hts inGX5 hown (hT).1 hP.o0 rfl 0 (by decide) (hts _ w_147) (fun _ h9 => h9) (v := .ref (ad 1)) rfl dX5_digestRoads_30 ?_
              refine lv_iload hx hb dX5_digestRoads_33 (lv_at hl 2 rfl) ?_
              refine lv_iload hx hb dX5_digestRoads_35 (lv_at hl 3 rfl) ?_
              refine c_p1 (va_runV (As := [.int (nI a), .int (nI b)]) (rest := []) ⟨hx, hb, hml, hown, hts⟩ (c_X2_between l D ct Z dc σ ad a b (by omega) (by omega)) (cwV 2 hts (GG w_235 w_236 w_237 w_60 w_238) rfl rfl rfl (by decide) ⟨Nat.le_of_ble_eq_true rfl, Nat.le_of_ble_eq_true rfl⟩) ⟨(blindT fun _ _ _ _ h => h), Ob.recv (hT).1 hP.o1 rfl, fun U hU hW => ⟨rfl, hT.warm hW, by rw [hU]; exact hP⟩⟩ rfl rfl hl.1 rfl (lv_room (Nat.le_of_ble_eq_true rfl)) dX5_digestRoads_37 ⟨Nat.le_of_ble_eq_true rfl, Nat.le_of_ble_eq_true rfl⟩) ?_
              have hkd : rk a b < 100 := rk_lt (by omega) (by omega)
              by_cases hrd : σ 3 (7 * rk a b) = 1
              · -- road
                rw [show va_rf (rdb σ ad a b) = .ref (ad (300 + rk a b)) from by rw [rdb, if_pos hrd]; rfl]
                refine lv_astore (lv' := [(7, .ref (ad (300 + rk a b))), (0, .ref (ad 0)), (1, .long d), (5, .int (nI a)), (6, .int (nI b)), (3, .long ac2)]) hx hb dX5_digestRoads_40 hl (by decide) rfl (fun ls hl => ?_)
                refine lv_aload hx hb dX5_digestRoads_42 (lv_at hl 0 rfl) ?_
                refine lv_ifnull hx hb dX5_digestRoads_44 ?_
                refine lv_lload_n hx hb dX5_digestRoads_47 rfl (lv_at hl 5 rfl) ?_
                refine lv_aload hx hb dX5_digestRoads_48 (lv_at hl 0 rfl) ?_
                refine c_p1 (va_runS (As := [.long ac2, .ref (ad (300 + rk a b))]) (rest := []) ⟨hx, hb, hml, hown, hts⟩ (c_X5_digestRoad l D ct Z dc σ ad ac2 (rk a b) hkd hrd) (k_cwS 2 hts w_242 w_243 w_59 w_244 rfl rfl (by decide) ⟨Nat.le_of_ble_eq_true rfl, Nat.le_of_ble_eq_true rfl⟩) ⟨(blindT fun _ _ _ _ h => h), fun U hU hW => ⟨rfl, hT.warm hW, by rw [hU]; exact hP⟩⟩ rfl rfl hl.1 rfl (lv_room (Nat.le_of_ble_eq_true rfl)) dX5_digestRoads_50 ⟨Nat.le_of_ble_eq_true rfl, Nat.le_of_ble_eq_true rfl⟩) ?_
                refine lv_lstore_n (lv' := [(3, .long (dfo ac2 (fun w => figDS σ (rk a b) (nI w)) 7)), (7, .ref (ad (300 + rk a b))), (0, .ref (ad 0)), (1, .long d), (5, .int (nI a)), (6, .int (nI b))]) hx hb dX5_digestRoads_53 rfl hl (by decide) rfl (fun ls hl => ?_)
                refine lv_iinc (v := nI (b + 1)) (lv' := [(6, .int (nI (b + 1))), (3, .long (dfo ac2 (fun w => figDS σ (rk a b) (nI w)) 7)), (7, .ref (ad (300 + rk a b))), (0, .ref (ad 0)), (1, .long d), (5, .int (nI a))]) hx hb dX5_digestRoads_54 hl (k := 5) rfl (nI_1 b) (by decide) rfl (fun ls hl => ?_)
                refine lv_goto (tgt := 20) hx hb dX5_digestRoads_57 (by decide) ?_
                exact ih20 (b + 1) (dfo ac2 (fun w => figDS σ (rk a b) (nI w)) 7) (by omega) (by omega) (by omega) (by rw [haac2]; exact (if_pos ⟨hab, hrd⟩).symm) ls (lv_sub hl [3, 4, 5, 0, 1] rfl)
              · -- none
                rw [show va_rf (rdb σ ad a b) = .null from by rw [rdb, if_neg hrd]; rfl]
                refine lv_astoreN (lv' := [(7, .null), (0, .ref (ad 0)), (1, .long d), (5, .int (nI a)), (6, .int (nI b)), (3, .long ac2)]) hx hb dX5_digestRoads_40 hl (by decide) rfl (fun ls hl => ?_)
                refine lv_aloadN hx hb dX5_digestRoads_42 (lv_at hl 0 rfl) ?_
                refine lv_ifnullN (tgt := 54) hx hb dX5_digestRoads_44 (by decide) ?_
                refine lv_iinc (v := nI (b + 1)) (lv' := [(6, .int (nI (b + 1))), (7, .null), (0, .ref (ad 0)), (1, .long d), (5, .int (nI a)), (3, .long ac2)]) hx hb dX5_digestRoads_54 hl (k := 4) rfl (nI_1 b) (by decide) rfl (fun ls hl => ?_)
                refine lv_goto (tgt := 20) hx hb dX5_digestRoads_57 (by decide) ?_
                exact ih20 (b + 1) ac2 (by omega) (by omega) (by omega) (by rw [haac2]; exact (if_neg (fun z => hrd z.2)).symm) ls (lv_sub hl [2, 3, 4, 0, 5] rfl)
        exact loop20 (nT σ + 1 - (a + 1)) (a + 1) acc (by omega) (by omega) (by omega) (by rw [haacc]; exact (dgD1_0 (by omega)).symm) ls (lv_sub hl [1, 2, 3, 0, 4] rfl)
  exact loop5 (nT σ + 1 - 0) 0 d (by omega) (by omega) rfl ls (lv_sub hl [2, 3, 0, 1] rfl)

/-! digest -/
set_option maxHeartbeats 4000000 in
set_option maxRecDepth 100000 in
theorem c_X5_digest (l : Launch) (D : va_G) (ct : Nat → ClassId) (Z : Nat → Prop) (dc : Nat) (σ : Stt) (ad : Nat → Nat) (hH : ∀ i, i < nR σ → σ 1 (7 * i + 6) = 0 ∨ σ 1 (7 * i + 6) = 1) (hT1 : σ 0 1 = nI (nT σ)) (hT10 : nT σ ≤ 10) : Met l yX5_digest (.code yX5_digest cX5_digest 4 (some .long) :: GW) ({ frames := 6, cells := 0, slots := 0, locals := 136 } : Room) (va_Pc [.ref (ad 0)] (fun U => GT D ct U ∧ Pic D ct Z dc σ ad U.heap)) (qP (some (.long (digS σ)))) 0 0 nF := by
  refine m_in (cc := cX5_digest) [.ref (ad 0)] "RumourCustoms" rfl (by decide) (Nat.le_of_ble_eq_true rfl) ?_
  intro pg e s m args below meth cd ls hx hb hml hown hts hr hlocks hin hPr hl
  obtain ⟨hT, hP⟩ := hPr
  have hl : lv_has ls 4 [(0, .ref (ad 0))] := hl
  have hn := hP.2.2.2.1
  have hnC := hP.2.2.2.2
  refine lv_ldc2 (v := 499) hx hb hown (hts _ w_208) dX5_digest_0 ?_
  refine lv_lstore_n (lv' := [(1, .long 499), (0, .ref (ad 0))]) hx hb dX5_digest_3 rfl hl (by decide) rfl (fun ls hl => ?_)
  refine lv_iconst (v := 0) hx hb dX5_digest_4 (by decide) ?_
  refine lv_istore_n (lv' := [(3, .int 0), (1, .long 499), (0, .ref (ad 0))]) hx hb dX5_digest_5 rfl hl (by decide) rfl (fun ls hl => ?_)
  have loop6 : ∀ (n6 w : Nat) (acc : Int64), w ≤ 11 → 11 - w < n6 → acc = dfo 499 (fun w => figL σ (nI w)) w → ∀ ls, lv_has ls 4 [(0, .ref (ad 0)), (3, .int (nI w)), (1, .long acc)] → W pg l e ({ frames := 6, cells := 0, slots := 0, locals := 136 } : Room) s m args below meth cd s.heap [] 0 0 (MQ below (qP (some (.long (digS σ)))) args s 0 0 nF) (F0 m 6 ls []) := by
    intro n6
    induction n6 with
    | zero => intro w acc _ z; omega
    | succ n6 ih6 =>
      intro w acc hi6 hn6 haacc ls hl
      refine lv_iload_n hx hb dX5_digest_6 rfl (lv_at hl 1 rfl) ?_
      refine lv_bipush (v := 10) hx hb dX5_digest_7 (by decide) ?_
      refine lv_icmp_gt (tgt := 31) hx hb dX5_digest_9 (by decide) (fun c_9 => ?_) (fun c_9 => ?_)
      · -- taken
        have nc_9 : 10 < w := (nI_ltI (a := 10) (b := w) (by omega) (by omega)).mp c_9
        have he6 : w = 11 := by omega
        refine lv_aload_n hx hb dX5_digest_31 rfl (lv_at hl 0 rfl) ?_
        refine lv_lload_n hx hb dX5_digest_32 rfl (lv_at hl 2 rfl) ?_
        refine c_p1 (va_runV (As := [.long acc]) (rest := []) ⟨hx, hb, hml, hown, hts⟩ (c_X5_digestRoads l D ct Z dc σ ad acc hT1 hT10) (cwV 1 hts (GG w_231 w_233 w_3 w_59 w_234) rfl rfl rfl (by decide) ⟨Nat.le_of_ble_eq_true rfl, Nat.le_of_ble_eq_true rfl⟩) ⟨(blindT fun _ _ _ _ h => h), Ob.recv (hT).1 hP.o0 rfl, fun U hU hW => ⟨rfl, hT.warm hW, by rw [hU]; exact hP⟩⟩ rfl rfl hl.1 rfl (lv_room (Nat.le_of_ble_eq_true rfl)) dX5_digest_33 ⟨Nat.le_of_ble_eq_true rfl, Nat.le_of_ble_eq_true rfl⟩) ?_
        refine lv_lstore_n (lv' := [(1, .long (dgD σ (nT σ) acc (nT σ))), (0, .ref (ad 0)), (3, .int (nI w))]) hx hb dX5_digest_36 rfl hl (by decide) rfl (fun ls hl => ?_)
        refine lv_aload_n hx hb dX5_digest_37 rfl (lv_at hl 1 rfl) ?_
        refine lv_lload_n hx hb dX5_digest_38 rfl (lv_at hl 0 rfl) ?_
        refine c_p1 (va_runV (As := [.long (dgD σ (nT σ) acc (nT σ))]) (rest := []) ⟨hx, hb, hml, hown, hts⟩ (c_X5_digestRumours l D ct Z dc σ ad (dgD σ (nT σ) acc (nT σ)) hH) (cwV 1 hts (GG w_249 w_251 w_4 w_59 w_252) rfl rfl rfl (by decide) ⟨Nat.le_of_ble_eq_true rfl, Nat.le_of_ble_eq_true rfl⟩) ⟨(blindT fun _ _ _ _ h => h), Ob.recv (hT).1 hP.o0 rfl, fun U hU hW => ⟨rfl, hT.warm hW, by rw [hU]; exact hP⟩⟩ rfl rfl hl.1 rfl (lv_room (Nat.le_of_ble_eq_true rfl)) dX5_digest_39 ⟨Nat.le_of_ble_eq_true rfl, Nat.le_of_ble_eq_true rfl⟩) ?_
        refine lv_lstore_n (lv' := [(1, .long (dgR σ (dgD σ (nT σ) acc (nT σ)) (nR σ))), (0, .ref (ad 0)), (3, .int (nI w))]) hx hb dX5_digest_42 rfl hl (by decide) rfl (fun ls hl => ?_)
        refine lv_aload_n hx hb dX5_digest_43 rfl (lv_at hl 1 rfl) ?_
        refine lv_lload_n hx hb dX5_digest_44 rfl (lv_at hl 0 rfl) ?_
        refine c_p1 (va_runV (As := [.long (dgR σ (dgD σ (nT σ) acc (nT σ)) (nR σ))]) (rest := []) ⟨hx, hb, hml, hown, hts⟩ (c_X5_digestCarriers l D ct Z dc σ ad (dgR σ (dgD σ (nT σ) acc (nT σ)) (nR σ)) hH) (cwV 1 hts (GG w_257 w_259 w_5 w_59 w_260) rfl rfl rfl (by decide) ⟨Nat.le_of_ble_eq_true rfl, Nat.le_of_ble_eq_true rfl⟩) ⟨(blindT fun _ _ _ _ h => h), Ob.recv (hT).1 hP.o0 rfl, fun U hU hW => ⟨rfl, hT.warm hW, by rw [hU]; exact hP⟩⟩ rfl rfl hl.1 rfl (lv_room (Nat.le_of_ble_eq_true rfl)) dX5_digest_45 ⟨Nat.le_of_ble_eq_true rfl, Nat.le_of_ble_eq_true rfl⟩) ?_
        exact W.lret (v := dgC σ (dgR σ (dgD σ (nT σ) acc (nT σ)) (nR σ)) (nC σ)) hx hb hr (fun t ht hW => ⟨rvl (by rw [haacc, he6]; rfl), ht⟩) (fun q h => nomatch h) dX5_digest_48
      · -- not taken
        have nc_9 : ¬ 10 < w := fun z => c_9 ((nI_ltI (a := 10) (b := w) (by omega) (by omega)).mpr z)
        have hlt6 : w < 11 := by omega
        refine lv_lload_n hx hb dX5_digest_12 rfl (lv_at hl 2 rfl) ?_
        refine lv_ldc2 (v := 31) hx hb hown (hts _ w_209) dX5_digest_13 ?_
        refine lv_lmul hx hb dX5_digest_16 ?_
        refine lv_aload_n hx hb dX5_digest_17 rfl (lv_at hl 0 rfl) ?_
        refine lv_iload_n hx hb dX5_digest_18 rfl (lv_at hl 1 rfl) ?_
        refine c_p1 (va_runV (As := [.int (nI w)]) (rest := [.long (acc * 31)]) ⟨hx, hb, hml, hown, hts⟩ (c_X5_figureOfLand l D ct Z dc σ ad (nI w)) (cwV 1 hts (GG w_210 w_212 w_0 w_59 w_213) rfl rfl rfl (by decide) ⟨Nat.le_of_ble_eq_true rfl, Nat.le_of_ble_eq_true rfl⟩) ⟨(blindT fun _ _ _ _ h => h), Ob.recv (hT).1 hP.o0 rfl, fun U hU hW => ⟨rfl, hT.warm hW, by rw [hU]; exact hP⟩⟩ rfl rfl hl.1 rfl (lv_room (Nat.le_of_ble_eq_true rfl)) dX5_digest_19 ⟨Nat.le_of_ble_eq_true rfl, Nat.le_of_ble_eq_true rfl⟩) ?_
        refine lv_i2l (v := (figL σ (nI w) : Int32).toInt64) hx hb dX5_digest_22 rfl ?_
        refine lv_ladd hx hb dX5_digest_23 ?_
        refine lv_lstore_n (lv' := [(1, .long ((acc * 31) + ((figL σ (nI w) : Int32).toInt64))), (0, .ref (ad 0)), (3, .int (nI w))]) hx hb dX5_digest_24 rfl hl (by decide) rfl (fun ls hl => ?_)
        refine lv_iinc (v := nI (w + 1)) (lv' := [(3, .int (nI (w + 1))), (1, .long ((acc * 31) + ((figL σ (nI w) : Int32).toInt64))), (0, .ref (ad 0))]) hx hb dX5_digest_25 hl (k := 2) rfl (nI_1 w) (by decide) rfl (fun ls hl => ?_)
        refine lv_goto (tgt := 6) hx hb dX5_digest_28 (by decide) ?_
        exact ih6 (w + 1) ((acc * 31) + ((figL σ (nI w) : Int32).toInt64)) (by omega) (by omega) (by rw [haacc]; rfl) ls (lv_sub hl [2, 0, 1] rfl)
  exact loop6 (11 + 1 - 0) 0 499 (by omega) (by omega) rfl ls (lv_sub hl [2, 0, 1] rfl)
