theorem lay_nR {σ : Stt} {i : Nat} {t b : Int32} : nR (lay σ i t b) = nR σ := nR_eq (by unfold lay; rw [su_k (by decide), su_k (by decide), su_k (by decide)])
theorem lay_nC {σ : Stt} {i : Nat} {t b : Int32} : nC (lay σ i t b) = nC σ := nC_eq (by unfold lay; rw [su_k (by decide), su_k (by decide), su_k (by decide)])
theorem setO_3 {σ : Stt} {i j : Nat} {t h : Int32} : setO σ i t h 3 j = σ 3 j := by unfold setO; rw [su_k (by decide), su_k (by decide)]
theorem lay_3 {σ : Stt} {i a j : Nat} {t b : Int32} (h : a ≠ 1) : lay σ i t b a j = σ a j := by unfold lay; rw [su_k h, su_k h, su_k h]

/-! burnProofs -/
set_option maxHeartbeats 4000000 in
set_option maxRecDepth 100000 in
theorem c_X5_burnProofs (l : Launch) (D : va_G) (ct : Nat → ClassId) (Z : Nat → Prop) (dc : Nat) (σ : Stt) (ad : Nat → Nat) (k : Nat) (b : Int32) (hk : k < nC σ) : Met l yX5_burnProofs (.code yX5_burnProofs cX5_burnProofs 6 none :: GW) ({ frames := 3, cells := 0, slots := 0, locals := 64 } : Room) (va_Pc [.ref (ad 0), .ref (ad (200 + k)), .int b] (fun U => GF D ct Z dc U U.heap ∧ Pic D ct Z dc σ ad U.heap)) (qS0 Z (fun h => Pic D ct Z dc (burnN σ (nI k) b (nR σ)) ad h)) 0 0 (nZ Z) := by
  refine m_in (cc := cX5_burnProofs) [.ref (ad 0), .ref (ad (200 + k)), .int b] "RumourCustoms" rfl (by decide) (Nat.le_of_ble_eq_true rfl) ?_
  intro pg e s m args below meth cd ls hx hb hml hown hts hr hlocks hin hPr hl
  obtain ⟨hG, hP⟩ := hPr
  have hl : lv_has ls 6 [(0, .ref (ad 0)), (1, .ref (ad (200 + k))), (2, .int b)] := hl
  have hS : va_S (nZ Z) s.heap s.heap [] := va_S.rf
  have hn := hP.2.2.2.1
  have hnC := hP.2.2.2.2
  refine lv_iconst (v := 0) hx hb dX5_burnProofs_0 (by decide) ?_
  refine lv_istore_n (lv' := [(3, .int 0), (0, .ref (ad 0)), (1, .ref (ad (200 + k))), (2, .int b)]) hx hb dX5_burnProofs_1 rfl hl (by decide) rfl (fun ls hl => ?_)
  have loop2 : ∀ (n2 i : Nat) (H : Heap) (locs : List Loc), i ≤ nR σ → nR σ - i < n2 → Pic D ct Z dc (burnN σ (nI k) b i) ad H → va_S (nZ Z) s.heap H locs → ∀ ls, lv_has ls 6 [(0, .ref (ad 0)), (1, .ref (ad (200 + k))), (2, .int b), (3, .int (nI i))] → W pg l e ({ frames := 3, cells := 0, slots := 0, locals := 64 } : Room) s m args below meth cd H locs 0 0 (MQ below (qS0 Z (fun h => Pic D ct Z dc (burnN σ (nI k) b (nR σ)) ad h)) args s 0 0 (nZ Z)) (F0 m 2 ls []) := by
    intro n2
    induction n2 with
    | zero => intro i H locs  _ z; omega
    | succ n2 ih2 =>
      intro i H2 locs2  hi2 hn2 hP2 hS2 ls hl
      obtain ⟨τ2, hτ2⟩ : ∃ τ : Stt, τ = burnN σ (nI k) b i := ⟨_, rfl⟩
      rw [← hτ2] at hP2
      have er2 : nR τ2 = nR σ := by rw [hτ2]; exact burnN_nR σ (nI k) b i
      have ec2 : nC τ2 = nC σ := by rw [hτ2]; exact burnN_nC σ (nI k) b i
      have hp2_k : k < nC τ2 := Nat.lt_of_lt_of_eq hk ec2.symm
      refine lv_iload_n hx hb dX5_burnProofs_2 rfl (lv_at hl 3 rfl) ?_
      refine lv_aload_n hx hb dX5_burnProofs_3 rfl (lv_at hl 0 rfl) ?_
      refine k_get (C := RX5) (T := TX5) (N := 11) hx hb hts inGX5 hown (hG.2.1).1 hP2.o0 rfl 2 (by decide) (hts _ w_149) (fun _ h9 => h9) (v := .ref (ad 6)) rfl dX5_burnProofs_4 ?_
      refine c_p1 (va_runV (As := []) (rest := [.int (nI i)]) ⟨hx, hb, hml, hown, hts⟩ (c_Jx4a65c_size_8abf5 l D ct (ad 6) (τ2 6 0) (ad 8) (nI (nR τ2))) (cwV 0 hts (GG w_185 w_186 w_187 w_64 w_188) rfl rfl rfl (by decide) ⟨Nat.le_of_ble_eq_true rfl, Nat.le_of_ble_eq_true rfl⟩) ⟨(blindT fun _ _ _ _ h => h), Ob.recv (hG.2.1).1 hP2.o6 rfl, fun U hU hW => ⟨rfl, hG.2.1.warm hW, by rw [hU]; exact hP2.o6⟩⟩ rfl rfl hl.1 rfl (lv_room (Nat.le_of_ble_eq_true rfl)) dX5_burnProofs_7 ⟨Nat.le_of_ble_eq_true rfl, Nat.le_of_ble_eq_true rfl⟩) ?_
      refine lv_icmp_ge (tgt := 72) hx hb dX5_burnProofs_10 (by decide) (fun c_10 => ?_) (fun c_10 => ?_)
      · -- taken
        have nc_10 : (nR τ2) ≤ i := (nI_leI (a := (nR τ2)) (b := i) (by omega) (by omega)).mp c_10
        have he2 : i = nR τ2 := by omega
        exact W.vret hx hb hr (fun t ht hW => ⟨rfl, by rw [ht]; exact (by rw [he2, er2] at hτ2; rw [← hτ2]; exact hP2), hS2.F ht⟩) (fun z h => hS2.2.2 z h) dX5_burnProofs_72
      · -- not taken
        have nc_10 : ¬ (nR τ2) ≤ i := fun z => c_10 ((nI_leI (a := (nR τ2)) (b := i) (by omega) (by omega)).mpr z)
        have hlt2 : i < nR τ2 := by omega
        refine lv_aload_n hx hb dX5_burnProofs_13 rfl (lv_at hl 0 rfl) ?_
        refine k_get (C := RX5) (T := TX5) (N := 11) hx hb hts inGX5 hown (hG.2.1).1 hP2.o0 rfl 2 (by decide) (hts _ w_149) (fun _ h9 => h9) (v := .ref (ad 6)) rfl dX5_burnProofs_14 ?_
        refine lv_iload_n hx hb dX5_burnProofs_17 rfl (lv_at hl 3 rfl) ?_
        refine c_p1 (va_runV (As := [.int (nI i)]) (rest := []) ⟨hx, hb, hml, hown, hts⟩ (c_Jx4a65c_get_915e3 l D ct (ad 6) (τ2 6 0) (ad 8) (nI (nR τ2)) (nI i) (nR τ2) i (ad 20) (lq ad 100 (nR τ2)) (ad (100 + i)) rfl rfl hlt2 hP2.2.2.1.1.1 (by have := hP2.2.2.1.1.2.1; omega) (if_pos hlt2)) (cwV 1 hts (GG w_189 w_190 w_191 w_64 w_192) rfl rfl rfl (by decide) ⟨Nat.le_of_ble_eq_true rfl, Nat.le_of_ble_eq_true rfl⟩) ⟨(blindT fun _ _ _ _ h => h), Ob.recv (hG.2.1).1 hP2.o6 rfl, fun U hU hW => ⟨rfl, hG.2.1.warm hW, by rw [hU]; exact ⟨hP2.o6, (hP2.o8 (by omega))⟩⟩⟩ rfl rfl hl.1 rfl (lv_room (Nat.le_of_ble_eq_true rfl)) dX5_burnProofs_18 ⟨Nat.le_of_ble_eq_true rfl, Nat.le_of_ble_eq_true rfl⟩) ?_
        refine va_castS hx hb hown (hts _ w_203) ((hG.2.1).1.1 4 _ rfl).2 (Ob.recv (hG.2.1).1 (hP2.r hlt2) rfl) dX5_burnProofs_21 ?_
        refine lv_astore (lv' := [(4, .ref (ad (100 + i))), (0, .ref (ad 0)), (1, .ref (ad (200 + k))), (2, .int b), (3, .int (nI i))]) hx hb dX5_burnProofs_24 hl (by decide) rfl (fun ls hl => ?_)
        refine lv_aload hx hb dX5_burnProofs_26 (lv_at hl 0 rfl) ?_
        refine lv_aload_n hx hb dX5_burnProofs_28 rfl (lv_at hl 2 rfl) ?_
        refine c_p1 (va_runV (As := [.ref (ad (200 + k))]) (rest := []) ⟨hx, hb, hml, hown, hts⟩ (c_X3_isShownBy l D ct (ad (100 + i)) (nI i) (τ2 1 (7 * i + 3)) (τ2 1 (7 * i)) (τ2 1 (7 * i + 1)) (τ2 1 (7 * i + 2)) (τ2 1 (7 * i + 4)) (τ2 1 (7 * i + 5)) (τ2 1 (7 * i + 6)) (ad (200 + k)) (nI k) (τ2 2 (4 * k)) (τ2 2 (4 * k + 1)) (τ2 2 (4 * k + 2)) (τ2 2 (4 * k + 3))) (cwV 1 hts (GG w_713 w_714 w_715 w_75 w_716) rfl rfl rfl (by decide) ⟨Nat.le_of_ble_eq_true rfl, Nat.le_of_ble_eq_true rfl⟩) ⟨(blindT fun _ _ _ _ h => h), Ob.recv (hG.2.1).1 (hP2.r hlt2) rfl, fun U hU hW => ⟨rfl, hG.2.1.warm hW, by rw [hU]; exact ⟨(hP2.r hlt2), (hP2.c hp2_k)⟩⟩⟩ rfl rfl hl.1 rfl (lv_room (Nat.le_of_ble_eq_true rfl)) dX5_burnProofs_29 ⟨Nat.le_of_ble_eq_true rfl, Nat.le_of_ble_eq_true rfl⟩) ?_
        refine lv_if_eq (tgt := 66) hx hb dX5_burnProofs_32 (by decide) (fun c_32 => ?_) (fun c_32 => ?_)
        · -- taken
          replace c_32 := b2_z c_32
          refine lv_iinc (v := nI (i + 1)) (lv' := [(3, .int (nI (i + 1))), (4, .ref (ad (100 + i))), (0, .ref (ad 0)), (1, .ref (ad (200 + k))), (2, .int b)]) hx hb dX5_burnProofs_66 hl (k := 4) rfl (nI_1 i) (by decide) rfl (fun ls hl => ?_)
          refine lv_goto (tgt := 2) hx hb dX5_burnProofs_69 (by decide) ?_
          exact ih2 (i + 1) _ _ (by omega) (by omega) (show Pic D ct Z dc (burnS (burnN σ (nI k) b i) (nI k) b i) ad H2 by unfold burnS; rw [← hτ2, if_neg c_32]; exact hP2) hS2 ls (lv_sub hl [2, 3, 4, 0] rfl)
        · -- not taken
          replace c_32 := b2_nz c_32
          refine lv_aload hx hb dX5_burnProofs_35 (lv_at hl 0 rfl) ?_
          refine lv_iload_n hx hb dX5_burnProofs_37 rfl (lv_at hl 3 rfl) ?_
          refine c_p1 (va_runV (As := [.int b]) (rest := []) ⟨hx, hb, hml, hown, hts⟩ (c_X3_burnable l D ct (ad (100 + i)) (nI i) (τ2 1 (7 * i + 3)) (τ2 1 (7 * i)) (τ2 1 (7 * i + 1)) (τ2 1 (7 * i + 2)) (τ2 1 (7 * i + 4)) (τ2 1 (7 * i + 5)) (τ2 1 (7 * i + 6)) b) (cwV 1 hts (GG w_717 w_718 w_719 w_75 w_720) rfl rfl rfl (by decide) ⟨Nat.le_of_ble_eq_true rfl, Nat.le_of_ble_eq_true rfl⟩) ⟨(blindT fun _ _ _ _ h => h), Ob.recv (hG.2.1).1 (hP2.r hlt2) rfl, fun U hU hW => ⟨rfl, hG.2.1.warm hW, by rw [hU]; exact (hP2.r hlt2)⟩⟩ rfl rfl hl.1 rfl (lv_room (Nat.le_of_ble_eq_true rfl)) dX5_burnProofs_38 ⟨Nat.le_of_ble_eq_true rfl, Nat.le_of_ble_eq_true rfl⟩) ?_
          refine lv_istore (lv' := [(5, .int (if (τ2 1 (7 * i + 2)) < b then τ2 1 (7 * i + 2) else b)), (4, .ref (ad (100 + i))), (0, .ref (ad 0)), (1, .ref (ad (200 + k))), (2, .int b), (3, .int (nI i))]) hx hb dX5_burnProofs_41 hl (by decide) rfl (fun ls hl => ?_)
          refine lv_aload hx hb dX5_burnProofs_43 (lv_at hl 1 rfl) ?_
          refine lv_dup hx hb dX5_burnProofs_45 rfl ?_
          refine k_get (C := RX3) (T := TX3) (N := 8) hx hb hts inGX3 hown (hG.2.1).1 (hP2.r hlt2) rfl 4 (by decide) (hts _ w_477) (fun _ h9 => h9) (v := .int (τ2 1 (7 * i + 2))) rfl dX5_burnProofs_46 ?_
          refine lv_iload hx hb dX5_burnProofs_49 (lv_at hl 0 rfl) ?_
          refine lv_isub hx hb dX5_burnProofs_51 ?_
          refine k_put (C := RX3) (T := TX3) (N := 8) hx hb hts inGX3 tyX3 tyX3_ok nmX3 hown (hG.2.1).1 (hP2.r hlt2) hS2 (hP2.nz (us_r hP2.2.2.2.1 hlt2)) rfl 4 (Nat.le_of_ble_eq_true rfl) (hts _ w_477) (fun _ h9 => h9) rfl (ty := .int) (v := .int ((τ2 1 (7 * i + 2)) - (if (τ2 1 (7 * i + 2)) < b then τ2 1 (7 * i + 2) else b))) (by decide +kernel) rfl rfl (Nat.le_of_ble_eq_true rfl) dX5_burnProofs_52 (fun H52 locs52 hO52 hz52 hq52 hS52 => ?_)
          have hO52 : Ob D (ad (100 + i)) 4 [.int (nI i), .int (τ2 1 (7 * i + 3)), .int (τ2 1 (7 * i)), .int (τ2 1 (7 * i + 1)), .int ((τ2 1 (7 * i + 2)) - (if (τ2 1 (7 * i + 2)) < b then τ2 1 (7 * i + 2) else b)), .int (τ2 1 (7 * i + 4)), .int (τ2 1 (7 * i + 5)), .int (τ2 1 (7 * i + 6))] H52 := hO52
          have hP52 : Pic D ct Z dc (su τ2 1 (7 * i + 2) ((τ2 1 (7 * i + 2)) - (if (τ2 1 (7 * i + 2)) < b then τ2 1 (7 * i + 2) else b))) ad H52 := hP2.r2 hlt2 ((τ2 1 (7 * i + 2)) - (if (τ2 1 (7 * i + 2)) < b then τ2 1 (7 * i + 2) else b)) hO52 hq52
          obtain ⟨τ52, hτ52⟩ : ∃ τ : Stt, τ = su τ2 1 (7 * i + 2) ((τ2 1 (7 * i + 2)) - (if (τ2 1 (7 * i + 2)) < b then τ2 1 (7 * i + 2) else b)) := ⟨_, rfl⟩
          rw [← hτ52] at hP52
          have er52 : nR τ52 = nR τ2 := by rw [hτ52]; exact nR_eq (su_k (by decide))
          have ec52 : nC τ52 = nC τ2 := by rw [hτ52]; exact nC_eq (su_k (by decide))
          have hp52_k : k < nC τ52 := Nat.lt_of_lt_of_eq hp2_k ec52.symm
          have hp52_i : i < nR τ52 := Nat.lt_of_lt_of_eq hlt2 er52.symm
          refine lv_aload_n hx hb dX5_burnProofs_55 rfl (lv_at hl 2 rfl) ?_
          refine lv_dup hx hb dX5_burnProofs_56 rfl ?_
          refine k_get (C := RX5) (T := TX5) (N := 11) hx hb hts inGX5 hown (hG.2.1).1 hP52.o0 rfl 7 (by decide) (hts _ w_154) (fun _ h9 => h9) (v := .int (τ52 0 5)) rfl dX5_burnProofs_57 ?_
          refine lv_iload hx hb dX5_burnProofs_60 (lv_at hl 0 rfl) ?_
          refine lv_iadd hx hb dX5_burnProofs_62 ?_
          refine k_put (C := RX5) (T := TX5) (N := 11) hx hb hts inGX5 tyX5 tyX5_ok nmX5 hown (hG.2.1).1 hP52.o0 hS52 (hP52.nz (us_lt (by decide))) rfl 7 (Nat.le_of_ble_eq_true rfl) (hts _ w_154) (fun _ h9 => h9) rfl (ty := .int) (v := .int ((τ52 0 5) + (if (τ2 1 (7 * i + 2)) < b then τ2 1 (7 * i + 2) else b))) (by decide +kernel) rfl rfl (Nat.le_of_ble_eq_true rfl) dX5_burnProofs_63 (fun H63 locs63 hO63 hz63 hq63 hS63 => ?_)
          have hO63 : Ob D (ad 0) 6 [.ref (ad 1), .ref (ad 3), .ref (ad 6), .ref (ad 7), .int (τ52 0 1), .int (τ52 0 2), .int (τ52 0 0), .int ((τ52 0 5) + (if (τ2 1 (7 * i + 2)) < b then τ2 1 (7 * i + 2) else b)), .int (τ52 0 6), .int (τ52 0 7), .int (τ52 0 8)] H63 := hO63
          have hP63 : Pic D ct Z dc (su τ52 0 5 ((τ52 0 5) + (if (τ2 1 (7 * i + 2)) < b then τ2 1 (7 * i + 2) else b))) ad H63 := hP52.t5 ((τ52 0 5) + (if (τ2 1 (7 * i + 2)) < b then τ2 1 (7 * i + 2) else b)) hO63 hq63
          obtain ⟨τ63, hτ63⟩ : ∃ τ : Stt, τ = su τ52 0 5 ((τ52 0 5) + (if (τ2 1 (7 * i + 2)) < b then τ2 1 (7 * i + 2) else b)) := ⟨_, rfl⟩
          rw [← hτ63] at hP63
          have er63 : nR τ63 = nR τ52 := by rw [hτ63]; exact nR_eq (su_j (by decide))
          have ec63 : nC τ63 = nC τ52 := by rw [hτ63]; exact nC_eq (su_j (by decide))
          have hp63_k : k < nC τ63 := Nat.lt_of_lt_of_eq hp52_k ec63.symm
          have hp63_i : i < nR τ63 := Nat.lt_of_lt_of_eq hp52_i er63.symm
          refine lv_iinc (v := nI (i + 1)) (lv' := [(3, .int (nI (i + 1))), (5, .int (if (τ2 1 (7 * i + 2)) < b then τ2 1 (7 * i + 2) else b)), (4, .ref (ad (100 + i))), (0, .ref (ad 0)), (1, .ref (ad (200 + k))), (2, .int b)]) hx hb dX5_burnProofs_66 hl (k := 5) rfl (nI_1 i) (by decide) rfl (fun ls hl => ?_)
          refine lv_goto (tgt := 2) hx hb dX5_burnProofs_69 (by decide) ?_
          exact ih2 (i + 1) _ _ (by omega) (by omega) (show Pic D ct Z dc (burnS (burnN σ (nI k) b i) (nI k) b i) ad H63 by unfold burnS burn1; rw [← hτ2, if_pos c_32]; subst hτ63 hτ52; exact hP63) hS63 ls (lv_sub hl [3, 4, 5, 0] rfl)
  exact loop2 (nR σ + 1 - 0) 0 _ _ (Nat.zero_le _) (by omega) hP hS ls (lv_sub hl [1, 2, 3, 0] rfl)

/-! takeHidden -/
set_option maxHeartbeats 4000000 in
set_option maxRecDepth 100000 in
theorem c_X5_takeHidden (l : Launch) (D : va_G) (ct : Nat → ClassId) (Z : Nat → Prop) (dc : Nat) (σ : Stt) (ad : Nat → Nat) (k : Nat) (hk : k < nC σ) (hH : ∀ i, i < nR σ → σ 1 (7 * i + 6) = 0 ∨ σ 1 (7 * i + 6) = 1) : Met l yX5_takeHidden (.code yX5_takeHidden cX5_takeHidden 4 none :: GW) ({ frames := 3, cells := 0, slots := 0, locals := 64 } : Room) (va_Pc [.ref (ad 0), .ref (ad (200 + k))] (fun U => GF D ct Z dc U U.heap ∧ Pic D ct Z dc σ ad U.heap)) (qS0 Z (fun h => Pic D ct Z dc (takeN σ (nI k) (nR σ)) ad h)) 0 0 (nZ Z) := by
  refine m_in (cc := cX5_takeHidden) [.ref (ad 0), .ref (ad (200 + k))] "RumourCustoms" rfl (by decide) (Nat.le_of_ble_eq_true rfl) ?_
  intro pg e s m args below meth cd ls hx hb hml hown hts hr hlocks hin hPr hl
  obtain ⟨hG, hP⟩ := hPr
  have hl : lv_has ls 4 [(0, .ref (ad 0)), (1, .ref (ad (200 + k)))] := hl
  have hS : va_S (nZ Z) s.heap s.heap [] := va_S.rf
  have hn := hP.2.2.2.1
  have hnC := hP.2.2.2.2
  refine lv_iconst (v := 0) hx hb dX5_takeHidden_0 (by decide) ?_
  refine lv_istore_n (lv' := [(2, .int 0), (0, .ref (ad 0)), (1, .ref (ad (200 + k)))]) hx hb dX5_takeHidden_1 rfl hl (by decide) rfl (fun ls hl => ?_)
  have loop2 : ∀ (n2 i : Nat) (H : Heap) (locs : List Loc), i ≤ nR σ → nR σ - i < n2 → Pic D ct Z dc (takeN σ (nI k) i) ad H → va_S (nZ Z) s.heap H locs → ∀ ls, lv_has ls 4 [(0, .ref (ad 0)), (1, .ref (ad (200 + k))), (2, .int (nI i))] → W pg l e ({ frames := 3, cells := 0, slots := 0, locals := 64 } : Room) s m args below meth cd H locs 0 0 (MQ below (qS0 Z (fun h => Pic D ct Z dc (takeN σ (nI k) (nR σ)) ad h)) args s 0 0 (nZ Z)) (F0 m 2 ls []) := by
    intro n2
    induction n2 with
    | zero => intro i H locs  _ z; omega
    | succ n2 ih2 =>
      intro i H2 locs2  hi2 hn2 hP2 hS2 ls hl
      obtain ⟨τ2, hτ2⟩ : ∃ τ : Stt, τ = takeN σ (nI k) i := ⟨_, rfl⟩
      rw [← hτ2] at hP2
      have er2 : nR τ2 = nR σ := by rw [hτ2]; exact takeN_nR σ (nI k) i
      have ec2 : nC τ2 = nC σ := by rw [hτ2]; exact takeN_nC σ (nI k) i
      have hp2_k : k < nC τ2 := Nat.lt_of_lt_of_eq hk ec2.symm
      refine lv_iload_n hx hb dX5_takeHidden_2 rfl (lv_at hl 2 rfl) ?_
      refine lv_aload_n hx hb dX5_takeHidden_3 rfl (lv_at hl 0 rfl) ?_
      refine k_get (C := RX5) (T := TX5) (N := 11) hx hb hts inGX5 hown (hG.2.1).1 hP2.o0 rfl 2 (by decide) (hts _ w_149) (fun _ h9 => h9) (v := .ref (ad 6)) rfl dX5_takeHidden_4 ?_
      refine c_p1 (va_runV (As := []) (rest := [.int (nI i)]) ⟨hx, hb, hml, hown, hts⟩ (c_Jx4a65c_size_8abf5 l D ct (ad 6) (τ2 6 0) (ad 8) (nI (nR τ2))) (cwV 0 hts (GG w_185 w_186 w_187 w_64 w_188) rfl rfl rfl (by decide) ⟨Nat.le_of_ble_eq_true rfl, Nat.le_of_ble_eq_true rfl⟩) ⟨(blindT fun _ _ _ _ h => h), Ob.recv (hG.2.1).1 hP2.o6 rfl, fun U hU hW => ⟨rfl, hG.2.1.warm hW, by rw [hU]; exact hP2.o6⟩⟩ rfl rfl hl.1 rfl (lv_room (Nat.le_of_ble_eq_true rfl)) dX5_takeHidden_7 ⟨Nat.le_of_ble_eq_true rfl, Nat.le_of_ble_eq_true rfl⟩) ?_
      refine lv_icmp_ge (tgt := 43) hx hb dX5_takeHidden_10 (by decide) (fun c_10 => ?_) (fun c_10 => ?_)
      · -- taken
        have nc_10 : (nR τ2) ≤ i := (nI_leI (a := (nR τ2)) (b := i) (by omega) (by omega)).mp c_10
        have he2 : i = nR τ2 := by omega
        exact W.vret hx hb hr (fun t ht hW => ⟨rfl, by rw [ht]; exact (by rw [he2, er2] at hτ2; rw [← hτ2]; exact hP2), hS2.F ht⟩) (fun z h => hS2.2.2 z h) dX5_takeHidden_43
      · -- not taken
        have nc_10 : ¬ (nR τ2) ≤ i := fun z => c_10 ((nI_leI (a := (nR τ2)) (b := i) (by omega) (by omega)).mpr z)
        have hlt2 : i < nR τ2 := by omega
        refine lv_aload_n hx hb dX5_takeHidden_13 rfl (lv_at hl 0 rfl) ?_
        refine k_get (C := RX5) (T := TX5) (N := 11) hx hb hts inGX5 hown (hG.2.1).1 hP2.o0 rfl 2 (by decide) (hts _ w_149) (fun _ h9 => h9) (v := .ref (ad 6)) rfl dX5_takeHidden_14 ?_
        refine lv_iload_n hx hb dX5_takeHidden_17 rfl (lv_at hl 2 rfl) ?_
        refine c_p1 (va_runV (As := [.int (nI i)]) (rest := []) ⟨hx, hb, hml, hown, hts⟩ (c_Jx4a65c_get_915e3 l D ct (ad 6) (τ2 6 0) (ad 8) (nI (nR τ2)) (nI i) (nR τ2) i (ad 20) (lq ad 100 (nR τ2)) (ad (100 + i)) rfl rfl hlt2 hP2.2.2.1.1.1 (by have := hP2.2.2.1.1.2.1; omega) (if_pos hlt2)) (cwV 1 hts (GG w_189 w_190 w_191 w_64 w_192) rfl rfl rfl (by decide) ⟨Nat.le_of_ble_eq_true rfl, Nat.le_of_ble_eq_true rfl⟩) ⟨(blindT fun _ _ _ _ h => h), Ob.recv (hG.2.1).1 hP2.o6 rfl, fun U hU hW => ⟨rfl, hG.2.1.warm hW, by rw [hU]; exact ⟨hP2.o6, (hP2.o8 (by omega))⟩⟩⟩ rfl rfl hl.1 rfl (lv_room (Nat.le_of_ble_eq_true rfl)) dX5_takeHidden_18 ⟨Nat.le_of_ble_eq_true rfl, Nat.le_of_ble_eq_true rfl⟩) ?_
        refine va_castS hx hb hown (hts _ w_203) ((hG.2.1).1.1 4 _ rfl).2 (Ob.recv (hG.2.1).1 (hP2.r hlt2) rfl) dX5_takeHidden_21 ?_
        refine lv_astore_n (lv' := [(3, .ref (ad (100 + i))), (0, .ref (ad 0)), (1, .ref (ad (200 + k))), (2, .int (nI i))]) hx hb dX5_takeHidden_24 rfl hl (by decide) rfl (fun ls hl => ?_)
        refine lv_aload_n hx hb dX5_takeHidden_25 rfl (lv_at hl 0 rfl) ?_
        refine lv_aload_n hx hb dX5_takeHidden_26 rfl (lv_at hl 2 rfl) ?_
        refine c_p1 (va_runV (As := [.ref (ad (200 + k))]) (rest := []) ⟨hx, hb, hml, hown, hts⟩ (c_X3_isHiddenBy l D ct (ad (100 + i)) (nI i) (τ2 1 (7 * i + 3)) (τ2 1 (7 * i)) (τ2 1 (7 * i + 1)) (τ2 1 (7 * i + 2)) (τ2 1 (7 * i + 4)) (τ2 1 (7 * i + 5)) (τ2 1 (7 * i + 6)) (ad (200 + k)) (nI k) (τ2 2 (4 * k)) (τ2 2 (4 * k + 1)) (τ2 2 (4 * k + 2)) (τ2 2 (4 * k + 3)) (by rw [hτ2, takeN_row σ (nI k) i _ (by omega)]; exact hH i (by omega))) (cwV 1 hts (GG w_277 w_278 w_279 w_75 w_280) rfl rfl rfl (by decide) ⟨Nat.le_of_ble_eq_true rfl, Nat.le_of_ble_eq_true rfl⟩) ⟨(blindT fun _ _ _ _ h => h), Ob.recv (hG.2.1).1 (hP2.r hlt2) rfl, fun U hU hW => ⟨rfl, hG.2.1.warm hW, by rw [hU]; exact ⟨(hP2.r hlt2), (hP2.c hp2_k)⟩⟩⟩ rfl rfl hl.1 rfl (lv_room (Nat.le_of_ble_eq_true rfl)) dX5_takeHidden_27 ⟨Nat.le_of_ble_eq_true rfl, Nat.le_of_ble_eq_true rfl⟩) ?_
        refine lv_if_eq (tgt := 37) hx hb dX5_takeHidden_30 (by decide) (fun c_30 => ?_) (fun c_30 => ?_)
        · -- taken
          replace c_30 := b2_z c_30
          refine lv_iinc (v := nI (i + 1)) (lv' := [(2, .int (nI (i + 1))), (3, .ref (ad (100 + i))), (0, .ref (ad 0)), (1, .ref (ad (200 + k)))]) hx hb dX5_takeHidden_37 hl (k := 3) rfl (nI_1 i) (by decide) rfl (fun ls hl => ?_)
          refine lv_goto (tgt := 2) hx hb dX5_takeHidden_40 (by decide) ?_
          exact ih2 (i + 1) _ _ (by omega) (by omega) (show Pic D ct Z dc (takeS (takeN σ (nI k) i) (nI k) i) ad H2 by unfold takeS; rw [← hτ2, if_neg c_30]; exact hP2) hS2 ls (lv_sub hl [2, 3, 0] rfl)
        · -- not taken
          replace c_30 := b2_nz c_30
          refine lv_aload_n hx hb dX5_takeHidden_33 rfl (lv_at hl 0 rfl) ?_
          refine c_w0 (va_runV (As := []) (rest := []) ⟨hx, hb, hml, hown, hts⟩ (c_X3_vanish l D ct (ad (100 + i)) (nI i) (τ2 1 (7 * i + 3)) (τ2 1 (7 * i)) (τ2 1 (7 * i + 1)) (τ2 1 (7 * i + 2)) (τ2 1 (7 * i + 4)) (τ2 1 (7 * i + 5)) (τ2 1 (7 * i + 6))) (cwV 0 hts (GG w_749 w_750 w_751 w_75 w_752) rfl rfl rfl (by decide) ⟨Nat.le_of_ble_eq_true rfl, Nat.le_of_ble_eq_true rfl⟩) ⟨(blindT fun _ _ _ _ h => h), Ob.recv (hG.2.1).1 (hP2.r hlt2) rfl, fun U hU hW => ⟨rfl, hG.2.1.warm hW, by rw [hU]; exact (hP2.r hlt2)⟩⟩ rfl rfl hl.1 rfl (lv_room (Nat.le_of_ble_eq_true rfl)) dX5_takeHidden_34 ⟨Nat.le_of_ble_eq_true rfl, Nat.le_of_ble_eq_true rfl⟩) hS2 (hP2.nz (us_r hP2.2.2.2.1 hlt2)) (fun _ h => Ob.lt h) (fun H34 locs34 hO34 hq34 hS34 => ?_)
          have hP34 : Pic D ct Z dc (lay τ2 i (-1) (-1)) ad H34 := hP2.layd hlt2 (-1) (-1) hO34 hq34
          obtain ⟨τ34, hτ34⟩ : ∃ τ : Stt, τ = lay τ2 i (-1) (-1) := ⟨_, rfl⟩
          rw [← hτ34] at hP34
          have er34 : nR τ34 = nR τ2 := by rw [hτ34]; exact lay_nR
          have ec34 : nC τ34 = nC τ2 := by rw [hτ34]; exact lay_nC
          have hp34_k : k < nC τ34 := Nat.lt_of_lt_of_eq hp2_k ec34.symm
          have hp34_i : i < nR τ34 := Nat.lt_of_lt_of_eq hlt2 er34.symm
          refine lv_iinc (v := nI (i + 1)) (lv' := [(2, .int (nI (i + 1))), (3, .ref (ad (100 + i))), (0, .ref (ad 0)), (1, .ref (ad (200 + k)))]) hx hb dX5_takeHidden_37 hl (k := 3) rfl (nI_1 i) (by decide) rfl (fun ls hl => ?_)
          refine lv_goto (tgt := 2) hx hb dX5_takeHidden_40 (by decide) ?_
          exact ih2 (i + 1) _ _ (by omega) (by omega) (show Pic D ct Z dc (takeS (takeN σ (nI k) i) (nI k) i) ad H34 by unfold takeS; rw [← hτ2, if_pos c_30]; subst hτ34; exact hP34) hS34 ls (lv_sub hl [2, 3, 0] rfl)
  exact loop2 (nR σ + 1 - 0) 0 _ _ (Nat.zero_le _) (by omega) hP hS ls (lv_sub hl [1, 2, 0] rfl)

theorem insp_nR {σ : Stt} {c : Int32} {k : Nat} : nR (insp σ c k) = nR σ := by
  unfold insp
  split
  · exact nR_eq (su_k (by decide))
  · rw [takeN_nR]
    exact nR_eq (by rw [su_j (by decide), su_k (by decide), su_k (by decide)])
theorem insp_nC {σ : Stt} {c : Int32} {k : Nat} : nC (insp σ c k) = nC σ := by
  unfold insp
  split
  · exact nC_eq (su_k (by decide))
  · rw [takeN_nC]
    exact nC_eq (by rw [su_j (by decide), su_k (by decide), su_k (by decide)])
theorem insp_3 {σ : Stt} {c : Int32} {k j : Nat} (h : j ≠ 7 * k + 5) : insp σ c k 3 j = σ 3 j := by
  unfold insp
  split
  · exact su_j h
  · rw [takeN_3 _ _ _ _ (by decide), su_k (by decide), su_j h, su_j h]
theorem insp_d {σ : Stt} {c : Int32} {k k2 : Nat} : insp σ c k 3 (7 * k2) = σ 3 (7 * k2) := insp_3 (by omega)
theorem insp_2 {σ : Stt} {c : Int32} {k : Nat} : insp σ c k 2 = σ 2 := by
  funext j
  unfold insp
  split
  · exact su_k (by decide)
  · rw [takeN_3 _ _ _ _ (by decide), su_k (by decide), su_k (by decide), su_k (by decide)]

/-! inspect -/
set_option maxHeartbeats 4000000 in
set_option maxRecDepth 100000 in
theorem c_X5_inspect (l : Launch) (D : va_G) (ct : Nat → ClassId) (Z : Nat → Prop) (dc : Nat) (σ : Stt) (ad : Nat → Nat) (k kd : Nat) (hk : k < nC σ) (hkd : kd < 100) (gkd : σ 3 (7 * kd) = 1) (hH : ∀ i, i < nR σ → σ 1 (7 * i + 6) = 0 ∨ σ 1 (7 * i + 6) = 1) : Met l yX5_inspect (.code yX5_inspect cX5_inspect 3 none :: GW) ({ frames := 4, cells := 0, slots := 0, locals := 87 } : Room) (va_Pc [.ref (ad 0), .ref (ad (200 + k)), .ref (ad (300 + kd))] (fun U => GF D ct Z dc U U.heap ∧ Pic D ct Z dc σ ad U.heap)) (qS0 Z (fun h => Pic D ct Z dc (insp σ (nI k) kd) ad h)) 0 0 (nZ Z) := by
  refine m_in (cc := cX5_inspect) [.ref (ad 0), .ref (ad (200 + k)), .ref (ad (300 + kd))] "RumourCustoms" rfl (by decide) (Nat.le_of_ble_eq_true rfl) ?_
  intro pg e s m args below meth cd ls hx hb hml hown hts hr hlocks hin hPr hl
  obtain ⟨hG, hP⟩ := hPr
  have hl : lv_has ls 3 [(0, .ref (ad 0)), (1, .ref (ad (200 + k))), (2, .ref (ad (300 + kd)))] := hl
  have hS : va_S (nZ Z) s.heap s.heap [] := va_S.rf
  have hn := hP.2.2.2.1
  have hnC := hP.2.2.2.2
  refine lv_aload_n hx hb dX5_inspect_0 rfl (lv_at hl 2 rfl) ?_
  refine lv_aload_n hx hb dX5_inspect_1 rfl (lv_at hl 2 rfl) ?_
  refine lv_aload_n hx hb dX5_inspect_2 rfl (lv_at hl 0 rfl) ?_
  refine lv_aload_n hx hb dX5_inspect_3 rfl (lv_at hl 1 rfl) ?_
  refine c_p1 (va_runV (As := [.ref (ad (200 + k))]) (rest := [.ref (ad (300 + kd)), .ref (ad (300 + kd))]) ⟨hx, hb, hml, hown, hts⟩ (c_X5_hiddenInBag l D ct Z dc σ ad k hk hH) (cwV 1 hts (GG w_273 w_275 w_8 w_59 w_276) rfl rfl rfl (by decide) ⟨Nat.le_of_ble_eq_true rfl, Nat.le_of_ble_eq_true rfl⟩) ⟨(blindT fun _ _ _ _ h => h), Ob.recv (hG.2.1).1 hP.o0 rfl, fun U hU hW => ⟨rfl, hG.2.1.warm hW, by rw [hU]; exact hP⟩⟩ rfl rfl hl.1 rfl (lv_room (Nat.le_of_ble_eq_true rfl)) dX5_inspect_4 ⟨Nat.le_of_ble_eq_true rfl, Nat.le_of_ble_eq_true rfl⟩) ?_
  refine c_p1 (va_runV (As := [.int (hidB σ (nI k))]) (rest := [.ref (ad (300 + kd))]) ⟨hx, hb, hml, hown, hts⟩ (c_X1_attentionBehind l D ct (ad (300 + kd)) (σ 3 (7 * kd + 1)) (σ 3 (7 * kd + 2)) (σ 3 (7 * kd + 3)) (σ 3 (7 * kd + 4)) (σ 3 (7 * kd + 5)) (σ 3 (7 * kd + 6)) (hidB σ (nI k))) (cwV 1 hts (GG w_731 w_732 w_733 w_72 w_734) rfl rfl rfl (by decide) ⟨Nat.le_of_ble_eq_true rfl, Nat.le_of_ble_eq_true rfl⟩) ⟨(blindT fun _ _ _ _ h => h), Ob.recv (hG.2.1).1 (hP.d hkd gkd) rfl, fun U hU hW => ⟨rfl, hG.2.1.warm hW, by rw [hU]; exact (hP.d hkd gkd)⟩⟩ rfl rfl hl.1 rfl (lv_room (Nat.le_of_ble_eq_true rfl)) dX5_inspect_7 ⟨Nat.le_of_ble_eq_true rfl, Nat.le_of_ble_eq_true rfl⟩) ?_
  refine k_put (C := RX1) (T := TX1) (N := 6) hx hb hts inGX1 tyX1 tyX1_ok nmX1 hown (hG.2.1).1 (hP.d hkd gkd) hS (hP.nz (us_d hkd gkd)) rfl 4 (Nat.le_of_ble_eq_true rfl) (hts _ w_421) (fun _ h9 => h9) rfl (ty := .int) (v := .int (((σ 3 (7 * kd + 5)) + (σ 3 (7 * kd + 4))) + (hidB σ (nI k)))) (by decide +kernel) rfl rfl (Nat.le_of_ble_eq_true rfl) dX5_inspect_10 (fun H10 locs10 hO10 hz10 hq10 hS10 => ?_)
  have hO10 : Ob D (ad (300 + kd)) 2 [.int (σ 3 (7 * kd + 1)), .int (σ 3 (7 * kd + 2)), .int (σ 3 (7 * kd + 3)), .int (σ 3 (7 * kd + 4)), .int (((σ 3 (7 * kd + 5)) + (σ 3 (7 * kd + 4))) + (hidB σ (nI k))), .int (σ 3 (7 * kd + 6))] H10 := hO10
  have hP10 : Pic D ct Z dc (su σ 3 (7 * kd + 5) (((σ 3 (7 * kd + 5)) + (σ 3 (7 * kd + 4))) + (hidB σ (nI k)))) ad H10 := hP.d5 hkd gkd (((σ 3 (7 * kd + 5)) + (σ 3 (7 * kd + 4))) + (hidB σ (nI k))) hO10 hq10
  obtain ⟨τ10, hτ10⟩ : ∃ τ : Stt, τ = su σ 3 (7 * kd + 5) (((σ 3 (7 * kd + 5)) + (σ 3 (7 * kd + 4))) + (hidB σ (nI k))) := ⟨_, rfl⟩
  rw [← hτ10] at hP10
  have er10 : nR τ10 = nR σ := by rw [hτ10]; exact nR_eq (su_k (by decide))
  have ec10 : nC τ10 = nC σ := by rw [hτ10]; exact nC_eq (su_k (by decide))
  have hp10_k : k < nC τ10 := Nat.lt_of_lt_of_eq hk ec10.symm
  have hd10_kd : τ10 3 (7 * kd) = 1 := by rw [hτ10]; exact (su_j (by omega)).trans gkd
  refine lv_aload_n hx hb dX5_inspect_13 rfl (lv_at hl 2 rfl) ?_
  refine k_get (C := RX1) (T := TX1) (N := 6) hx hb hts inGX1 hown (hG.2.1).1 (hP10.d hkd hd10_kd) rfl 4 (by decide) (hts _ w_421) (fun _ h9 => h9) (v := .int (τ10 3 (7 * kd + 5))) rfl dX5_inspect_14 ?_
  have hat : τ10 3 (7 * kd + 5) = attn σ (nI k) kd := by rw [hτ10]; exact su_s _ _ _ _
  rw [hat]
  refine lv_bipush (v := 10) hx hb dX5_inspect_17 (by decide) ?_
  refine lv_icmp_lt (tgt := 48) hx hb dX5_inspect_19 (by decide) (fun c_19 => ?_) (fun c_19 => ?_)
  · -- taken
    have c_19i := c_19
    exact W.vret hx hb hr (fun t ht hW => ⟨rfl, by rw [ht]; exact (by unfold insp; rw [if_pos c_19i]; subst hτ10; exact hP10), hS10.F ht⟩) (fun z h => hS10.2.2 z h) dX5_inspect_48
  · -- not taken
    have c_19i := c_19
    refine lv_aload_n hx hb dX5_inspect_22 rfl (lv_at hl 2 rfl) ?_
    refine lv_dup hx hb dX5_inspect_23 rfl ?_
    refine k_get (C := RX1) (T := TX1) (N := 6) hx hb hts inGX1 hown (hG.2.1).1 (hP10.d hkd hd10_kd) rfl 4 (by decide) (hts _ w_421) (fun _ h9 => h9) (v := .int (τ10 3 (7 * kd + 5))) rfl dX5_inspect_24 ?_
    rw [hat]
    refine lv_bipush (v := 10) hx hb dX5_inspect_27 (by decide) ?_
    refine lv_isub hx hb dX5_inspect_29 ?_
    refine k_put (C := RX1) (T := TX1) (N := 6) hx hb hts inGX1 tyX1 tyX1_ok nmX1 hown (hG.2.1).1 (hP10.d hkd hd10_kd) hS10 (hP10.nz (us_d hkd hd10_kd)) rfl 4 (Nat.le_of_ble_eq_true rfl) (hts _ w_421) (fun _ h9 => h9) rfl (ty := .int) (v := .int ((attn σ (nI k) kd) - 10)) (by decide +kernel) rfl rfl (Nat.le_of_ble_eq_true rfl) dX5_inspect_30 (fun H30 locs30 hO30 hz30 hq30 hS30 => ?_)
    have hO30 : Ob D (ad (300 + kd)) 2 [.int (τ10 3 (7 * kd + 1)), .int (τ10 3 (7 * kd + 2)), .int (τ10 3 (7 * kd + 3)), .int (τ10 3 (7 * kd + 4)), .int ((attn σ (nI k) kd) - 10), .int (τ10 3 (7 * kd + 6))] H30 := hO30
    have hP30 : Pic D ct Z dc (su τ10 3 (7 * kd + 5) ((attn σ (nI k) kd) - 10)) ad H30 := hP10.d5 hkd hd10_kd ((attn σ (nI k) kd) - 10) hO30 hq30
    obtain ⟨τ30, hτ30⟩ : ∃ τ : Stt, τ = su τ10 3 (7 * kd + 5) ((attn σ (nI k) kd) - 10) := ⟨_, rfl⟩
    rw [← hτ30] at hP30
    have er30 : nR τ30 = nR τ10 := by rw [hτ30]; exact nR_eq (su_k (by decide))
    have ec30 : nC τ30 = nC τ10 := by rw [hτ30]; exact nC_eq (su_k (by decide))
    have hp30_k : k < nC τ30 := Nat.lt_of_lt_of_eq hp10_k ec30.symm
    have hd30_kd : τ30 3 (7 * kd) = 1 := by rw [hτ30]; exact (su_j (by omega)).trans hd10_kd
    refine lv_aload_n hx hb dX5_inspect_33 rfl (lv_at hl 0 rfl) ?_
    refine lv_dup hx hb dX5_inspect_34 rfl ?_
    refine k_get (C := RX5) (T := TX5) (N := 11) hx hb hts inGX5 hown (hG.2.1).1 hP30.o0 rfl 10 (by decide) (hts _ w_157) (fun _ h9 => h9) (v := .int (τ30 0 8)) rfl dX5_inspect_35 ?_
    have hs8 : τ30 0 8 = σ 0 8 := by rw [hτ30, su_k (by decide), hτ10, su_k (by decide)]
    rw [hs8]
    refine lv_iconst (v := 1) hx hb dX5_inspect_38 (by decide) ?_
    refine lv_iadd hx hb dX5_inspect_39 ?_
    refine k_put (C := RX5) (T := TX5) (N := 11) hx hb hts inGX5 tyX5 tyX5_ok nmX5 hown (hG.2.1).1 hP30.o0 hS30 (hP30.nz (us_lt (by decide))) rfl 10 (Nat.le_of_ble_eq_true rfl) (hts _ w_157) (fun _ h9 => h9) rfl (ty := .int) (v := .int ((σ 0 8) + 1)) (by decide +kernel) rfl rfl (Nat.le_of_ble_eq_true rfl) dX5_inspect_40 (fun H40 locs40 hO40 hz40 hq40 hS40 => ?_)
    have hO40 : Ob D (ad 0) 6 [.ref (ad 1), .ref (ad 3), .ref (ad 6), .ref (ad 7), .int (τ30 0 1), .int (τ30 0 2), .int (τ30 0 0), .int (τ30 0 5), .int (τ30 0 6), .int (τ30 0 7), .int ((σ 0 8) + 1)] H40 := hO40
    have hP40 : Pic D ct Z dc (su τ30 0 8 ((σ 0 8) + 1)) ad H40 := hP30.t8 ((σ 0 8) + 1) hO40 hq40
    obtain ⟨τ40, hτ40⟩ : ∃ τ : Stt, τ = su τ30 0 8 ((σ 0 8) + 1) := ⟨_, rfl⟩
    rw [← hτ40] at hP40
    have er40 : nR τ40 = nR τ30 := by rw [hτ40]; exact nR_eq (su_j (by decide))
    have ec40 : nC τ40 = nC τ30 := by rw [hτ40]; exact nC_eq (su_j (by decide))
    have hp40_k : k < nC τ40 := Nat.lt_of_lt_of_eq hp30_k ec40.symm
    have hd40_kd : τ40 3 (7 * kd) = 1 := by rw [hτ40]; exact (su_k (by decide)).trans hd30_kd
    refine lv_aload_n hx hb dX5_inspect_43 rfl (lv_at hl 0 rfl) ?_
    refine lv_aload_n hx hb dX5_inspect_44 rfl (lv_at hl 1 rfl) ?_
    refine c_s0 (va_runV (As := [.ref (ad (200 + k))]) (rest := []) ⟨hx, hb, hml, hown, hts⟩ (c_X5_takeHidden l D ct Z dc τ40 ad k hp40_k (fun i hi => by rw [hτ40, su_k (by decide), hτ30, su_k (by decide), hτ10, su_k (by decide)]; exact hH i (by omega))) (cwV 1 hts (GG w_745 w_747 w_26 w_59 w_748) rfl rfl rfl (by decide) ⟨Nat.le_of_ble_eq_true rfl, Nat.le_of_ble_eq_true rfl⟩) ⟨(blindF fun _ _ _ _ h => h), Ob.recv (hG.2.1).1 hP40.o0 rfl, fun U hU hW => ⟨rfl, hG.up hW hS40 hU, by rw [hU]; exact hP40⟩⟩ rfl rfl hl.1 rfl (lv_room (Nat.le_of_ble_eq_true rfl)) dX5_inspect_45 ⟨Nat.le_of_ble_eq_true rfl, Nat.le_of_ble_eq_true rfl⟩) hS40 (fun H45 locs45 hR45 hzz45 hS45 => ?_)
    have hP45 : Pic D ct Z dc (takeN τ40 (nI k) (nR τ40)) ad H45 := hR45
    obtain ⟨τ45, hτ45⟩ : ∃ τ : Stt, τ = takeN τ40 (nI k) (nR τ40) := ⟨_, rfl⟩
    rw [← hτ45] at hP45
    have er45 : nR τ45 = nR τ40 := by rw [hτ45]; exact takeN_nR _ _ _
    have ec45 : nC τ45 = nC τ40 := by rw [hτ45]; exact takeN_nC _ _ _
    have hp45_k : k < nC τ45 := Nat.lt_of_lt_of_eq hp40_k ec45.symm
    have hd45_kd : τ45 3 (7 * kd) = 1 := by rw [hτ45]; exact (congrFun (takeN_3 _ _ _ _ (by decide)) _).trans hd40_kd
    have hPend : Pic D ct Z dc (takeN (su (su (su σ 3 (7 * kd + 5) (attn σ (nI k) kd)) 3 (7 * kd + 5) (attn σ (nI k) kd - 10)) 0 8 (σ 0 8 + 1)) (nI k) (nR σ)) ad H45 := by
      have en : nR τ40 = nR σ := er40.trans (er30.trans er10)
      have z := hP45
      rw [hτ45, en, hτ40, hτ30, hτ10] at z
      exact z
    exact W.vret hx hb hr (fun t ht hW => ⟨rfl, by rw [ht]; exact (by unfold insp; rw [if_neg c_19i]; exact hPend), hS45.F ht⟩) (fun z h => hS45.2.2 z h) dX5_inspect_48

theorem payS_nR {σ : Stt} {i k : Nat} {d f : Int32} : nR (payS σ i k d f) = nR σ := nR_eq (by unfold payS; rw [su_j (by decide), su_j (by decide), su_k (by decide), su_k (by decide), su_k (by decide)])
theorem payS_nC {σ : Stt} {i k : Nat} {d f : Int32} : nC (payS σ i k d f) = nC σ := nC_eq (by unfold payS; rw [su_j (by decide), su_j (by decide), su_k (by decide), su_k (by decide), su_k (by decide)])
theorem payS_d {σ : Stt} {i k k2 : Nat} {d f : Int32} : payS σ i k d f 3 (7 * k2) = σ 3 (7 * k2) := by unfold payS; rw [su_k (by decide), su_k (by decide), su_j (by omega), su_k (by decide), su_k (by decide)]

/-! pay -/
set_option maxHeartbeats 4000000 in
set_option maxRecDepth 100000 in
theorem c_X5_pay (l : Launch) (D : va_G) (ct : Nat → ClassId) (Z : Nat → Prop) (dc : Nat) (σ : Stt) (ad : Nat → Nat) (k kd : Nat) (d f : Int32) (hk : k < nC σ) (hkd : kd < 100) (gkd : σ 3 (7 * kd) = 1) : Met l yX5_pay (.code yX5_pay cX5_pay 5 none :: GW) ({ frames := 1, cells := 0, slots := 0, locals := 21 } : Room) (va_Pc [.ref (ad 0), .ref (ad (200 + k)), .ref (ad (300 + kd)), .int d, .int f] (fun U => GF D ct Z dc U U.heap ∧ Pic D ct Z dc σ ad U.heap)) (qS0 Z (fun h => Pic D ct Z dc (payS σ k kd d f) ad h)) 0 0 (nZ Z) := by
  refine m_in (cc := cX5_pay) [.ref (ad 0), .ref (ad (200 + k)), .ref (ad (300 + kd)), .int d, .int f] "RumourCustoms" rfl (by decide) (Nat.le_of_ble_eq_true rfl) ?_
  intro pg e s m args below meth cd ls hx hb hml hown hts hr hlocks hin hPr hl
  obtain ⟨hG, hP⟩ := hPr
  have hl : lv_has ls 5 [(0, .ref (ad 0)), (1, .ref (ad (200 + k))), (2, .ref (ad (300 + kd))), (3, .int d), (4, .int f)] := hl
  have hS : va_S (nZ Z) s.heap s.heap [] := va_S.rf
  have hn := hP.2.2.2.1
  have hnC := hP.2.2.2.2
  refine lv_aload_n hx hb dX5_pay_0 rfl (lv_at hl 1 rfl) ?_
  refine lv_iload_n hx hb dX5_pay_1 rfl (lv_at hl 3 rfl) ?_
  refine lv_iload hx hb dX5_pay_2 (lv_at hl 4 rfl) ?_
  refine lv_iadd hx hb dX5_pay_4 ?_
  refine c_w0 (va_runV (As := [.int (d + f)]) (rest := []) ⟨hx, hb, hml, hown, hts⟩ (c_X0_pay l D ct (ad (200 + k)) (nI k) (σ 2 (4 * k)) (σ 2 (4 * k + 1)) (σ 2 (4 * k + 2)) (σ 2 (4 * k + 3)) (d + f)) (cwV 1 hts (GG w_757 w_758 w_759 w_81 w_760) rfl rfl rfl (by decide) ⟨Nat.le_of_ble_eq_true rfl, Nat.le_of_ble_eq_true rfl⟩) ⟨(blindT fun _ _ _ _ h => h), Ob.recv (hG.2.1).1 (hP.c hk) rfl, fun U hU hW => ⟨rfl, hG.2.1.warm hW, by rw [hU]; exact (hP.c hk)⟩⟩ rfl rfl hl.1 rfl (lv_room (Nat.le_of_ble_eq_true rfl)) dX5_pay_5 ⟨Nat.le_of_ble_eq_true rfl, Nat.le_of_ble_eq_true rfl⟩) hS (hP.nz (us_c hP.2.2.2.2 hk)) (fun _ h => Ob.lt h) (fun H5 locs5 hO5 hq5 hS5 => ?_)
  have hP5 : Pic D ct Z dc (su (su σ 2 (4 * k + 2) ((σ 2 (4 * k + 2)) - (d + f))) 2 (4 * k + 3) ((σ 2 (4 * k + 3)) + (d + f))) ad H5 := hP.cpay hk ((σ 2 (4 * k + 2)) - (d + f)) ((σ 2 (4 * k + 3)) + (d + f)) hO5 hq5
  obtain ⟨τ5, hτ5⟩ : ∃ τ : Stt, τ = su (su σ 2 (4 * k + 2) ((σ 2 (4 * k + 2)) - (d + f))) 2 (4 * k + 3) ((σ 2 (4 * k + 3)) + (d + f)) := ⟨_, rfl⟩
  rw [← hτ5] at hP5
  have er5 : nR τ5 = nR σ := by rw [hτ5]; exact nR_eq (by rfl)
  have ec5 : nC τ5 = nC σ := by rw [hτ5]; exact nC_eq (by rfl)
  have hp5_k : k < nC τ5 := Nat.lt_of_lt_of_eq hk ec5.symm
  have hd5_kd : τ5 3 (7 * kd) = 1 := by rw [hτ5]; exact ((su_k (by decide)).trans (su_k (by decide))).trans gkd
  refine lv_aload_n hx hb dX5_pay_8 rfl (lv_at hl 2 rfl) ?_
  refine lv_dup hx hb dX5_pay_9 rfl ?_
  refine k_get (C := RX1) (T := TX1) (N := 6) hx hb hts inGX1 hown (hG.2.1).1 (hP5.d hkd hd5_kd) rfl 5 (by decide) (hts _ w_423) (fun _ h9 => h9) (v := .int (τ5 3 (7 * kd + 6))) rfl dX5_pay_10 ?_
  have h6 : τ5 3 (7 * kd + 6) = σ 3 (7 * kd + 6) := by rw [hτ5, su_k (by decide), su_k (by decide)]
  rw [h6]
  refine lv_iload_n hx hb dX5_pay_13 rfl (lv_at hl 3 rfl) ?_
  refine lv_iload hx hb dX5_pay_14 (lv_at hl 4 rfl) ?_
  refine lv_iadd hx hb dX5_pay_16 ?_
  refine lv_iadd hx hb dX5_pay_17 ?_
  refine k_put (C := RX1) (T := TX1) (N := 6) hx hb hts inGX1 tyX1 tyX1_ok nmX1 hown (hG.2.1).1 (hP5.d hkd hd5_kd) hS5 (hP5.nz (us_d hkd hd5_kd)) rfl 5 (Nat.le_of_ble_eq_true rfl) (hts _ w_423) (fun _ h9 => h9) rfl (ty := .int) (v := .int ((σ 3 (7 * kd + 6)) + (d + f))) (by decide +kernel) rfl rfl (Nat.le_of_ble_eq_true rfl) dX5_pay_18 (fun H18 locs18 hO18 hz18 hq18 hS18 => ?_)
  have hO18 : Ob D (ad (300 + kd)) 2 [.int (τ5 3 (7 * kd + 1)), .int (τ5 3 (7 * kd + 2)), .int (τ5 3 (7 * kd + 3)), .int (τ5 3 (7 * kd + 4)), .int (τ5 3 (7 * kd + 5)), .int ((σ 3 (7 * kd + 6)) + (d + f))] H18 := hO18
  have hP18 : Pic D ct Z dc (su τ5 3 (7 * kd + 6) ((σ 3 (7 * kd + 6)) + (d + f))) ad H18 := hP5.d6 hkd hd5_kd ((σ 3 (7 * kd + 6)) + (d + f)) hO18 hq18
  obtain ⟨τ18, hτ18⟩ : ∃ τ : Stt, τ = su τ5 3 (7 * kd + 6) ((σ 3 (7 * kd + 6)) + (d + f)) := ⟨_, rfl⟩
  rw [← hτ18] at hP18
  have er18 : nR τ18 = nR τ5 := by rw [hτ18]; exact nR_eq (su_k (by decide))
  have ec18 : nC τ18 = nC τ5 := by rw [hτ18]; exact nC_eq (su_k (by decide))
  have hp18_k : k < nC τ18 := Nat.lt_of_lt_of_eq hp5_k ec18.symm
  have hd18_kd : τ18 3 (7 * kd) = 1 := by rw [hτ18]; exact (su_j (by omega)).trans hd5_kd
  refine lv_aload_n hx hb dX5_pay_21 rfl (lv_at hl 0 rfl) ?_
  refine lv_dup hx hb dX5_pay_22 rfl ?_
  refine k_get (C := RX5) (T := TX5) (N := 11) hx hb hts inGX5 hown (hG.2.1).1 hP18.o0 rfl 8 (by decide) (hts _ w_155) (fun _ h9 => h9) (v := .int (τ18 0 6)) rfl dX5_pay_23 ?_
  have h06 : τ18 0 6 = σ 0 6 := by rw [hτ18, su_k (by decide), hτ5, su_k (by decide), su_k (by decide)]
  rw [h06]
  refine lv_iload_n hx hb dX5_pay_26 rfl (lv_at hl 3 rfl) ?_
  refine lv_iadd hx hb dX5_pay_27 ?_
  refine k_put (C := RX5) (T := TX5) (N := 11) hx hb hts inGX5 tyX5 tyX5_ok nmX5 hown (hG.2.1).1 hP18.o0 hS18 (hP18.nz (us_lt (by decide))) rfl 8 (Nat.le_of_ble_eq_true rfl) (hts _ w_155) (fun _ h9 => h9) rfl (ty := .int) (v := .int ((σ 0 6) + d)) (by decide +kernel) rfl rfl (Nat.le_of_ble_eq_true rfl) dX5_pay_28 (fun H28 locs28 hO28 hz28 hq28 hS28 => ?_)
  have hO28 : Ob D (ad 0) 6 [.ref (ad 1), .ref (ad 3), .ref (ad 6), .ref (ad 7), .int (τ18 0 1), .int (τ18 0 2), .int (τ18 0 0), .int (τ18 0 5), .int ((σ 0 6) + d), .int (τ18 0 7), .int (τ18 0 8)] H28 := hO28
  have hP28 : Pic D ct Z dc (su τ18 0 6 ((σ 0 6) + d)) ad H28 := hP18.t6 ((σ 0 6) + d) hO28 hq28
  obtain ⟨τ28, hτ28⟩ : ∃ τ : Stt, τ = su τ18 0 6 ((σ 0 6) + d) := ⟨_, rfl⟩
  rw [← hτ28] at hP28
  have er28 : nR τ28 = nR τ18 := by rw [hτ28]; exact nR_eq (su_j (by decide))
  have ec28 : nC τ28 = nC τ18 := by rw [hτ28]; exact nC_eq (su_j (by decide))
  have hp28_k : k < nC τ28 := Nat.lt_of_lt_of_eq hp18_k ec28.symm
  have hd28_kd : τ28 3 (7 * kd) = 1 := by rw [hτ28]; exact (su_k (by decide)).trans hd18_kd
  refine lv_aload_n hx hb dX5_pay_31 rfl (lv_at hl 0 rfl) ?_
  refine lv_dup hx hb dX5_pay_32 rfl ?_
  refine k_get (C := RX5) (T := TX5) (N := 11) hx hb hts inGX5 hown (hG.2.1).1 hP28.o0 rfl 9 (by decide) (hts _ w_156) (fun _ h9 => h9) (v := .int (τ28 0 7)) rfl dX5_pay_33 ?_
  have h07 : τ28 0 7 = σ 0 7 := by rw [hτ28, su_j (by decide), hτ18, su_k (by decide), hτ5, su_k (by decide), su_k (by decide)]
  rw [h07]
  refine lv_iload hx hb dX5_pay_36 (lv_at hl 4 rfl) ?_
  refine lv_iadd hx hb dX5_pay_38 ?_
  refine k_put (C := RX5) (T := TX5) (N := 11) hx hb hts inGX5 tyX5 tyX5_ok nmX5 hown (hG.2.1).1 hP28.o0 hS28 (hP28.nz (us_lt (by decide))) rfl 9 (Nat.le_of_ble_eq_true rfl) (hts _ w_156) (fun _ h9 => h9) rfl (ty := .int) (v := .int ((σ 0 7) + f)) (by decide +kernel) rfl rfl (Nat.le_of_ble_eq_true rfl) dX5_pay_39 (fun H39 locs39 hO39 hz39 hq39 hS39 => ?_)
  have hO39 : Ob D (ad 0) 6 [.ref (ad 1), .ref (ad 3), .ref (ad 6), .ref (ad 7), .int (τ28 0 1), .int (τ28 0 2), .int (τ28 0 0), .int (τ28 0 5), .int (τ28 0 6), .int ((σ 0 7) + f), .int (τ28 0 8)] H39 := hO39
  have hP39 : Pic D ct Z dc (su τ28 0 7 ((σ 0 7) + f)) ad H39 := hP28.t7 ((σ 0 7) + f) hO39 hq39
  obtain ⟨τ39, hτ39⟩ : ∃ τ : Stt, τ = su τ28 0 7 ((σ 0 7) + f) := ⟨_, rfl⟩
  rw [← hτ39] at hP39
  have er39 : nR τ39 = nR τ28 := by rw [hτ39]; exact nR_eq (su_j (by decide))
  have ec39 : nC τ39 = nC τ28 := by rw [hτ39]; exact nC_eq (su_j (by decide))
  have hp39_k : k < nC τ39 := Nat.lt_of_lt_of_eq hp28_k ec39.symm
  have hd39_kd : τ39 3 (7 * kd) = 1 := by rw [hτ39]; exact (su_k (by decide)).trans hd28_kd
  exact W.vret hx hb hr (fun t ht hW => ⟨rfl, by rw [ht]; exact (by unfold payS; subst hτ39 hτ28 hτ18 hτ5; exact hP39), hS39.F ht⟩) (fun z h => hS39.2.2 z h) dX5_pay_42
