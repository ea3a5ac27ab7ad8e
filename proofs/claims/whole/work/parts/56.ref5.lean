/-! pass -/
set_option maxHeartbeats 4000000 in
set_option maxRecDepth 100000 in
theorem c_X6_pass (l : Launch) (D : va_G) (ct : Nat → ClassId) (Z : Nat → Prop) (σ : Stt) (th : Int32) (bst : Nat → Int64) (rf : Nat → Nat) (h0 : Int32) (hI : Inv σ) : Met l yX6_pass (.code yX6_pass cX6_pass 4 (some .int) :: GW) ({ frames := 1, cells := 0, slots := 0, locals := 23 } : Room) (va_Pc [.ref (rf 0), .int h0] (fun U => GT D ct U ∧ (∀ q, Z q → q < U.heap.size) ∧ RP D ct Z σ th bst rf U.heap)) (qS1 Z (fun x h => x = .int (o_pass σ h0).2.1 ∧ ∃ b1, RP D ct Z (o_pass σ h0).2.2 (nI (o_pass σ h0).1) b1 rf h)) 0 0 (nZ Z) := by
  refine m_in (cc := cX6_pass) [.ref (rf 0), .int h0] "RumourCustomsModel" rfl (by decide) (Nat.le_of_ble_eq_true rfl) ?_
  intro pg e s m args below meth cd ls hx hb hml hown hts hr hlocks hin hPr hl
  obtain ⟨hT, hZs, hP⟩ := hPr
  have hl : lv_has ls 4 [(0, .ref (rf 0)), (1, .int h0)] := hl
  have hS : va_S (nZ Z) s.heap s.heap [] := va_S.rf
  have hT1 := hI.1.1
  have hT10 := hI.1.2
  have hR1 := hI.2.1.1
  have hR60 := hI.2.1.2
  have hC1 := hI.2.2.1.1
  have hC8 := hI.2.2.1.2
  refine lv_aload_n hx hb dX6_pass_0 rfl (lv_at hl 0 rfl) ?_
  refine lv_iconst (v := 0) hx hb dX6_pass_1 (by decide) ?_
  refine k_put (C := RX6) (T := TX6) (N := 14) hx hb hts inGX6 tyX6 tyX6_ok nmX6 hown (hT).1 hP.o hS (hP.nz (by decide)) rfl 0 (Nat.le_of_ble_eq_true rfl) (hts _ w_872) (fun _ h9 => h9) rfl (ty := .int) (v := .int 0) (by decide +kernel) rfl rfl (Nat.le_of_ble_eq_true rfl) dX6_pass_2 (fun H2 locs2 hO2 hz2 hq2 hS2 => ?_)
  have hO2 : Ob D (rf 0) 7 [.int 0, .int (σ 0 0), .int (σ 0 1), .int (σ 0 2), .int (σ 0 3), .int (σ 0 4), .int (σ 0 5), .int (σ 0 6), .int (σ 0 7), .int (σ 0 8), .ref (rf 1), .ref (rf 2), .ref (rf 3), .ref (rf 4)] H2 := hO2
  have hP2 : RP D ct Z (σ) (0) bst rf H2 := hP.st 0 hO2 hq2
  refine lv_iload_n hx hb dX6_pass_5 rfl (lv_at hl 1 rfl) ?_
  refine lv_iconst (v := 1) hx hb dX6_pass_6 (by decide) ?_
  refine lv_bipush (v := 100) hx hb dX6_pass_7 (by decide) ?_
  refine c_p1 (va_runS (As := [.int h0, .int 1, .int 100]) (rest := []) ⟨hx, hb, hml, hown, hts⟩ (c_X6_isIn l D ct h0 1 100) (k_cwS 3 hts w_936 w_937 w_65 w_938 rfl rfl (by decide) ⟨Nat.le_of_ble_eq_true rfl, Nat.le_of_ble_eq_true rfl⟩) ⟨(blindT fun _ _ _ _ h => h), fun U hU hW => ⟨rfl, hT.warm hW, trivial⟩⟩ rfl rfl hl.1 rfl (lv_room (Nat.le_of_ble_eq_true rfl)) dX6_pass_9 ⟨Nat.le_of_ble_eq_true rfl, Nat.le_of_ble_eq_true rfl⟩) ?_
  refine lv_if_ne (tgt := 21) hx hb dX6_pass_12 (by decide) (fun c_12 => ?_) (fun c_12 => ?_)
  · -- taken
    replace c_12 := b2_nz c_12
    refine lv_iconst (v := 0) hx hb dX6_pass_21 (by decide) ?_
    refine lv_istore_n (lv' := [(2, .int 0), (0, .ref (rf 0)), (1, .int h0)]) hx hb dX6_pass_22 rfl hl (by decide) rfl (fun ls hl => ?_)
    refine lv_iconst (v := 0) hx hb dX6_pass_23 (by decide) ?_
    refine lv_istore_n (lv' := [(3, .int 0), (2, .int 0), (0, .ref (rf 0)), (1, .int h0)]) hx hb dX6_pass_24 rfl hl (by decide) rfl (fun ls hl => ?_)
    have loop25 : ∀ (n25 i : Nat) (H : Heap) (locs : List Loc) (acc : Int32), i ≤ nC σ → nC σ - i < n25 → RP D ct Z (passN σ h0 i) 0 bst rf H → va_S (nZ Z) s.heap H locs → acc = come σ h0 i → ∀ ls, lv_has ls 4 [(0, .ref (rf 0)), (1, .int h0), (3, .int (nI i)), (2, .int acc)] → W pg l e ({ frames := 1, cells := 0, slots := 0, locals := 23 } : Room) s m args below meth cd H locs 0 0 (MQ below (qS1 Z (fun x h => x = .int (o_pass σ h0).2.1 ∧ ∃ b1, RP D ct Z (o_pass σ h0).2.2 (nI (o_pass σ h0).1) b1 rf h)) args s 0 0 (nZ Z)) (F0 m 25 ls []) := by
      intro n25
      induction n25 with
      | zero => intro i H locs acc _ z; omega
      | succ n25 ih25 =>
        intro i H25 locs25 acc hi25 hn25 hP25 hS25 haacc ls hl
        obtain ⟨τ25, hτ25⟩ : ∃ τ : Stt, τ = passN σ h0 i := ⟨_, rfl⟩
        rw [← hτ25] at hP25
        refine lv_iload_n hx hb dX6_pass_25 rfl (lv_at hl 2 rfl) ?_
        refine lv_aload_n hx hb dX6_pass_26 rfl (lv_at hl 0 rfl) ?_
        refine k_get (C := RX6) (T := TX6) (N := 14) hx hb hts inGX6 hown (hT).1 hP25.o rfl 5 (by decide) (hts _ w_877) (fun _ h9 => h9) (v := .int (τ25 0 4)) rfl dX6_pass_27 ?_
        have hv30 : τ25 0 4 = nI (nC σ) := by rw [hτ25, passN_o _ _ _ _ _ (by decide)]; exact hC1
        rw [hv30]
        refine lv_icmp_ge (tgt := 79) hx hb dX6_pass_30 (by decide) (fun c_30 => ?_) (fun c_30 => ?_)
        · -- taken
          have nc_30 : (nC σ) ≤ i := (nI_leI (a := (nC σ)) (b := i) (by omega) (by omega)).mp c_30
          have he25 : i = nC σ := by omega
          refine lv_aload_n hx hb dX6_pass_79 rfl (lv_at hl 0 rfl) ?_
          refine lv_dup hx hb dX6_pass_80 rfl ?_
          refine k_get (C := RX6) (T := TX6) (N := 14) hx hb hts inGX6 hown (hT).1 hP25.o rfl 1 (by decide) (hts _ w_873) (fun _ h9 => h9) (v := .int (τ25 0 0)) rfl dX6_pass_81 ?_
          have hv84 : τ25 0 0 = σ 0 0 := by rw [hτ25, passN_o _ _ _ _ _ (by decide)]
          rw [hv84]
          refine lv_iload_n hx hb dX6_pass_84 rfl (lv_at hl 1 rfl) ?_
          refine lv_iadd hx hb dX6_pass_85 ?_
          refine k_put (C := RX6) (T := TX6) (N := 14) hx hb hts inGX6 tyX6 tyX6_ok nmX6 hown (hT).1 hP25.o hS25 (hP25.nz (by decide)) rfl 1 (Nat.le_of_ble_eq_true rfl) (hts _ w_873) (fun _ h9 => h9) rfl (ty := .int) (v := .int ((σ 0 0) + h0)) (by decide +kernel) rfl rfl (Nat.le_of_ble_eq_true rfl) dX6_pass_86 (fun H86 locs86 hO86 hz86 hq86 hS86 => ?_)
          have hO86 : Ob D (rf 0) 7 [.int 0, .int ((σ 0 0) + h0), .int (τ25 0 1), .int (τ25 0 2), .int (τ25 0 3), .int (τ25 0 4), .int (τ25 0 5), .int (τ25 0 6), .int (τ25 0 7), .int (τ25 0 8), .ref (rf 1), .ref (rf 2), .ref (rf 3), .ref (rf 4)] H86 := hO86
          have hP86 : RP D ct Z (su τ25 0 0 ((σ 0 0) + h0)) (0) bst rf H86 := hP25.s0 0 ((σ 0 0) + h0) hO86 hq86
          obtain ⟨τ86, hτ86⟩ : ∃ τ : Stt, τ = su τ25 0 0 ((σ 0 0) + h0) := ⟨_, rfl⟩
          rw [← hτ86] at hP86
          refine lv_iload_n hx hb dX6_pass_89 rfl (lv_at hl 3 rfl) ?_
          have hv90 : acc = come σ h0 (nC σ) := by rw [haacc, he25]
          rw [hv90]
          have hfin : τ86 = passN (su σ 0 0 (σ 0 0 + h0)) h0 (nC σ) := by rw [hτ86, hτ25, he25]; exact pass_comm σ h0 _ _
          have ho : o_pass σ h0 = (0, come σ h0 (nC σ), τ86) := by simp [o_pass, c_12, hfin]
          exact W.iret (v := come σ h0 (nC σ)) hx hb hr (fun t ht hW => ⟨_, rfl, by rw [ht]; exact ⟨by rw [ho], bst, by rw [ho]; exact hP86⟩, hS86.F ht⟩) (fun z h => hS86.2.2 z h) dX6_pass_90
        · -- not taken
          have nc_30 : ¬ (nC σ) ≤ i := fun z => c_30 ((nI_leI (a := (nC σ)) (b := i) (by omega) (by omega)).mpr z)
          have hlt25 : i < nC σ := by omega
          refine lv_iload_n hx hb dX6_pass_33 rfl (lv_at hl 3 rfl) ?_
          refine lv_aload_n hx hb dX6_pass_34 rfl (lv_at hl 0 rfl) ?_
          refine lv_iload_n hx hb dX6_pass_35 rfl (lv_at hl 2 rfl) ?_
          refine lv_iconst (v := 1) hx hb dX6_pass_36 (by decide) ?_
          refine c_p1 (va_runV (As := [.int (nI i), .int 1]) (rest := [.int acc]) ⟨hx, hb, hml, hown, hts⟩ (c_X6_man l D ct Z τ25 0 bst rf i 1 1 (by omega) rfl (by decide)) (cwV 2 hts (GG w_985 w_987 w_43 w_65 w_988) rfl rfl rfl (by decide) ⟨Nat.le_of_ble_eq_true rfl, Nat.le_of_ble_eq_true rfl⟩) ⟨(blindT fun _ _ _ _ h => h), Ob.recv (hT).1 hP25.o rfl, fun U hU hW => ⟨rfl, hT.warm hW, by rw [hU]; exact hP25⟩⟩ rfl rfl hl.1 rfl (lv_room (Nat.le_of_ble_eq_true rfl)) dX6_pass_37 ⟨Nat.le_of_ble_eq_true rfl, Nat.le_of_ble_eq_true rfl⟩) ?_
          have hv40 : τ25 2 (4 * i + 1) = σ 2 (4 * i + 1) := by rw [hτ25, passN_row σ h0 i _ (by omega)]
          rw [hv40]
          refine lv_iconst (v := 1) hx hb dX6_pass_40 (by decide) ?_
          refine lv_iload_n hx hb dX6_pass_41 rfl (lv_at hl 1 rfl) ?_
          refine c_p1 (va_runS (As := [.int (σ 2 (4 * i + 1)), .int 1, .int h0]) (rest := [.int acc]) ⟨hx, hb, hml, hown, hts⟩ (c_X6_isIn l D ct (σ 2 (4 * i + 1)) 1 h0) (k_cwS 3 hts w_936 w_937 w_65 w_938 rfl rfl (by decide) ⟨Nat.le_of_ble_eq_true rfl, Nat.le_of_ble_eq_true rfl⟩) ⟨(blindT fun _ _ _ _ h => h), fun U hU hW => ⟨rfl, hT.warm hW, trivial⟩⟩ rfl rfl hl.1 rfl (lv_room (Nat.le_of_ble_eq_true rfl)) dX6_pass_42 ⟨Nat.le_of_ble_eq_true rfl, Nat.le_of_ble_eq_true rfl⟩) ?_
          refine lv_if_eq (tgt := 52) hx hb dX6_pass_45 (by decide) (fun c_45 => ?_) (fun c_45 => ?_)
          · -- taken
            replace c_45 := b2_z c_45
            refine lv_iconst (v := 0) hx hb dX6_pass_52 (by decide) ?_
            refine lv_iadd hx hb dX6_pass_53 ?_
            refine lv_istore_n (lv' := [(2, .int (acc + 0)), (0, .ref (rf 0)), (1, .int h0), (3, .int (nI i))]) hx hb dX6_pass_54 rfl hl (by decide) rfl (fun ls hl => ?_)
            refine lv_aload_n hx hb dX6_pass_55 rfl (lv_at hl 1 rfl) ?_
            refine lv_iload_n hx hb dX6_pass_56 rfl (lv_at hl 3 rfl) ?_
            refine lv_iconst (v := 1) hx hb dX6_pass_57 (by decide) ?_
            refine lv_iconst (v := 0) hx hb dX6_pass_58 (by decide) ?_
            refine lv_aload_n hx hb dX6_pass_59 rfl (lv_at hl 1 rfl) ?_
            refine lv_iload_n hx hb dX6_pass_60 rfl (lv_at hl 3 rfl) ?_
            refine lv_iconst (v := 1) hx hb dX6_pass_61 (by decide) ?_
            refine c_p1 (va_runV (As := [.int (nI i), .int 1]) (rest := [.int 0, .int 1, .int (nI i), .ref (rf 0)]) ⟨hx, hb, hml, hown, hts⟩ (c_X6_man l D ct Z τ25 0 bst rf i 1 1 (by omega) rfl (by decide)) (cwV 2 hts (GG w_985 w_987 w_43 w_65 w_988) rfl rfl rfl (by decide) ⟨Nat.le_of_ble_eq_true rfl, Nat.le_of_ble_eq_true rfl⟩) ⟨(blindT fun _ _ _ _ h => h), Ob.recv (hT).1 hP25.o rfl, fun U hU hW => ⟨rfl, hT.warm hW, by rw [hU]; exact hP25⟩⟩ rfl rfl hl.1 rfl (lv_room (Nat.le_of_ble_eq_true rfl)) dX6_pass_62 ⟨Nat.le_of_ble_eq_true rfl, Nat.le_of_ble_eq_true rfl⟩) ?_
            have hv65 : τ25 2 (4 * i + 1) = σ 2 (4 * i + 1) := by rw [hτ25, passN_row σ h0 i _ (by omega)]
            rw [hv65]
            refine lv_iload_n hx hb dX6_pass_65 rfl (lv_at hl 2 rfl) ?_
            refine lv_isub hx hb dX6_pass_66 ?_
            refine va_mmax hx hb (hml.trans hl.1.symm) hown (hts _ w_943) (hts _ w_520) (hts _ w_73) (hts _ w_521) (Nat.le_of_ble_eq_true rfl) (Nat.le_of_ble_eq_true rfl) (Nat.le_of_ble_eq_true rfl) (Nat.le_of_ble_eq_true rfl) dX6_pass_67 ?_
            refine c_s0 (va_runV (As := [.int (nI i), .int 1, .int (if 0 < ((σ 2 (4 * i + 1)) - h0) then (σ 2 (4 * i + 1)) - h0 else 0)]) (rest := []) ⟨hx, hb, hml, hown, hts⟩ (c_X6_setMan l D ct Z τ25 0 bst rf i 1 (if 0 < ((σ 2 (4 * i + 1)) - h0) then (σ 2 (4 * i + 1)) - h0 else 0) 1 (by omega) rfl (by decide)) (cwV 3 hts (GG w_1054 w_1056 w_53 w_65 w_1057) rfl rfl rfl (by decide) ⟨Nat.le_of_ble_eq_true rfl, Nat.le_of_ble_eq_true rfl⟩) ⟨(blindT fun _ _ _ _ h => h), Ob.recv (hT).1 hP25.o rfl, fun U hU hW => ⟨rfl, hT.warm hW, by rw [hU]; exact ⟨fun q hq => Nat.lt_of_lt_of_le (hZs q hq) hS25.1, hP25⟩⟩⟩ rfl rfl hl.1 rfl (lv_room (Nat.le_of_ble_eq_true rfl)) dX6_pass_70 ⟨Nat.le_of_ble_eq_true rfl, Nat.le_of_ble_eq_true rfl⟩) hS25 (fun H70 locs70 hRr70 hzz70 hS70 => ?_)
            have hP70 : RP D ct Z (su τ25 2 (4 * i + 1) (if 0 < ((σ 2 (4 * i + 1)) - h0) then (σ 2 (4 * i + 1)) - h0 else 0)) (0) bst rf H70 := hRr70
            obtain ⟨τ70, hτ70⟩ : ∃ τ : Stt, τ = su τ25 2 (4 * i + 1) (if 0 < ((σ 2 (4 * i + 1)) - h0) then (σ 2 (4 * i + 1)) - h0 else 0) := ⟨_, rfl⟩
            rw [← hτ70] at hP70
            refine lv_iinc (v := nI (i + 1)) (lv' := [(3, .int (nI (i + 1))), (2, .int (acc + 0)), (0, .ref (rf 0)), (1, .int h0)]) hx hb dX6_pass_73 hl (k := 3) rfl (nI_1 i) (by decide) rfl (fun ls hl => ?_)
            refine lv_goto (tgt := 25) hx hb dX6_pass_76 (by decide) ?_
            exact ih25 (i + 1) _ _ (acc + 0) (by omega) (by omega) (by rw [show passN σ h0 (i + 1) = τ70 from by rw [hτ70, hτ25]; exact pass_st hI hlt25 c_12]; exact hP70) hS70 (sm_t haacc (b2_f (fun z => c_45 ((come_iff hI hlt25 c_12).mpr z)))) ls (lv_sub hl [2, 3, 0, 1] rfl)
          · -- not taken
            replace c_45 := b2_nz c_45
            refine lv_iconst (v := 1) hx hb dX6_pass_48 (by decide) ?_
            refine lv_goto (tgt := 53) hx hb dX6_pass_49 (by decide) ?_
            refine lv_iadd hx hb dX6_pass_53 ?_
            refine lv_istore_n (lv' := [(2, .int (acc + 1)), (0, .ref (rf 0)), (1, .int h0), (3, .int (nI i))]) hx hb dX6_pass_54 rfl hl (by decide) rfl (fun ls hl => ?_)
            refine lv_aload_n hx hb dX6_pass_55 rfl (lv_at hl 1 rfl) ?_
            refine lv_iload_n hx hb dX6_pass_56 rfl (lv_at hl 3 rfl) ?_
            refine lv_iconst (v := 1) hx hb dX6_pass_57 (by decide) ?_
            refine lv_iconst (v := 0) hx hb dX6_pass_58 (by decide) ?_
            refine lv_aload_n hx hb dX6_pass_59 rfl (lv_at hl 1 rfl) ?_
            refine lv_iload_n hx hb dX6_pass_60 rfl (lv_at hl 3 rfl) ?_
            refine lv_iconst (v := 1) hx hb dX6_pass_61 (by decide) ?_
            refine c_p1 (va_runV (As := [.int (nI i), .int 1]) (rest := [.int 0, .int 1, .int (nI i), .ref (rf 0)]) ⟨hx, hb, hml, hown, hts⟩ (c_X6_man l D ct Z τ25 0 bst rf i 1 1 (by omega) rfl (by decide)) (cwV 2 hts (GG w_985 w_987 w_43 w_65 w_988) rfl rfl rfl (by decide) ⟨Nat.le_of_ble_eq_true rfl, Nat.le_of_ble_eq_true rfl⟩) ⟨(blindT fun _ _ _ _ h => h), Ob.recv (hT).1 hP25.o rfl, fun U hU hW => ⟨rfl, hT.warm hW, by rw [hU]; exact hP25⟩⟩ rfl rfl hl.1 rfl (lv_room (Nat.le_of_ble_eq_true rfl)) dX6_pass_62 ⟨Nat.le_of_ble_eq_true rfl, Nat.le_of_ble_eq_true rfl⟩) ?_
            have hv65 : τ25 2 (4 * i + 1) = σ 2 (4 * i + 1) := by rw [hτ25, passN_row σ h0 i _ (by omega)]
            rw [hv65]
            refine lv_iload_n hx hb dX6_pass_65 rfl (lv_at hl 2 rfl) ?_
            refine lv_isub hx hb dX6_pass_66 ?_
            refine va_mmax hx hb (hml.trans hl.1.symm) hown (hts _ w_943) (hts _ w_520) (hts _ w_73) (hts _ w_521) (Nat.le_of_ble_eq_true rfl) (Nat.le_of_ble_eq_true rfl) (Nat.le_of_ble_eq_true rfl) (Nat.le_of_ble_eq_true rfl) dX6_pass_67 ?_
            refine c_s0 (va_runV (As := [.int (nI i), .int 1, .int (if 0 < ((σ 2 (4 * i + 1)) - h0) then (σ 2 (4 * i + 1)) - h0 else 0)]) (rest := []) ⟨hx, hb, hml, hown, hts⟩ (c_X6_setMan l D ct Z τ25 0 bst rf i 1 (if 0 < ((σ 2 (4 * i + 1)) - h0) then (σ 2 (4 * i + 1)) - h0 else 0) 1 (by omega) rfl (by decide)) (cwV 3 hts (GG w_1054 w_1056 w_53 w_65 w_1057) rfl rfl rfl (by decide) ⟨Nat.le_of_ble_eq_true rfl, Nat.le_of_ble_eq_true rfl⟩) ⟨(blindT fun _ _ _ _ h => h), Ob.recv (hT).1 hP25.o rfl, fun U hU hW => ⟨rfl, hT.warm hW, by rw [hU]; exact ⟨fun q hq => Nat.lt_of_lt_of_le (hZs q hq) hS25.1, hP25⟩⟩⟩ rfl rfl hl.1 rfl (lv_room (Nat.le_of_ble_eq_true rfl)) dX6_pass_70 ⟨Nat.le_of_ble_eq_true rfl, Nat.le_of_ble_eq_true rfl⟩) hS25 (fun H70 locs70 hRr70 hzz70 hS70 => ?_)
            have hP70 : RP D ct Z (su τ25 2 (4 * i + 1) (if 0 < ((σ 2 (4 * i + 1)) - h0) then (σ 2 (4 * i + 1)) - h0 else 0)) (0) bst rf H70 := hRr70
            obtain ⟨τ70, hτ70⟩ : ∃ τ : Stt, τ = su τ25 2 (4 * i + 1) (if 0 < ((σ 2 (4 * i + 1)) - h0) then (σ 2 (4 * i + 1)) - h0 else 0) := ⟨_, rfl⟩
            rw [← hτ70] at hP70
            refine lv_iinc (v := nI (i + 1)) (lv' := [(3, .int (nI (i + 1))), (2, .int (acc + 1)), (0, .ref (rf 0)), (1, .int h0)]) hx hb dX6_pass_73 hl (k := 3) rfl (nI_1 i) (by decide) rfl (fun ls hl => ?_)
            refine lv_goto (tgt := 25) hx hb dX6_pass_76 (by decide) ?_
            exact ih25 (i + 1) _ _ (acc + 1) (by omega) (by omega) (by rw [show passN σ h0 (i + 1) = τ70 from by rw [hτ70, hτ25]; exact pass_st hI hlt25 c_12]; exact hP70) hS70 (sm_t haacc (b2_t ((come_iff hI hlt25 c_12).mp c_45))) ls (lv_sub hl [2, 3, 0, 1] rfl)
    exact loop25 (nC σ + 1 - 0) 0 _ _ 0 (Nat.zero_le _) (by omega) hP2 hS2 rfl ls (lv_sub hl [2, 3, 0, 1] rfl)
  · -- not taken
    replace c_12 := b2_z c_12
    refine lv_aload_n hx hb dX6_pass_15 rfl (lv_at hl 0 rfl) ?_
    refine lv_iconst (v := 1) hx hb dX6_pass_16 (by decide) ?_
    refine c_s1 (va_runV (As := [.int 1]) (rest := []) ⟨hx, hb, hml, hown, hts⟩ (c_X6_fail l D ct Z σ 0 bst rf 1) (cwV 1 hts (GG w_924 w_926 w_35 w_65 w_927) rfl rfl rfl (by decide) ⟨Nat.le_of_ble_eq_true rfl, Nat.le_of_ble_eq_true rfl⟩) ⟨(blindT fun _ _ _ _ h => h), Ob.recv (hT).1 hP2.o rfl, fun U hU hW => ⟨rfl, hT.warm hW, by rw [hU]; exact ⟨fun q hq => Nat.lt_of_lt_of_le (hZs q hq) hS2.1, hP2⟩⟩⟩ rfl rfl hl.1 rfl (lv_room (Nat.le_of_ble_eq_true rfl)) dX6_pass_17 ⟨Nat.le_of_ble_eq_true rfl, Nat.le_of_ble_eq_true rfl⟩) hS2 (fun x17 H17 locs17 hRr17 hzz17 hS17 => ?_)
    obtain ⟨rfl, hRr17⟩ := hRr17
    have hP17 : RP D ct Z (σ) (1) bst rf H17 := hRr17
    have ho : o_pass σ h0 = (1, 0, σ) := by simp [o_pass, c_12]
    exact W.iret (v := 0) hx hb hr (fun t ht hW => ⟨_, rfl, by rw [ht]; exact ⟨by rw [ho], bst, by rw [ho]; exact hP17⟩, hS17.F ht⟩) (fun z h => hS17.2.2 z h) dX6_pass_20

/-! go -/
set_option maxHeartbeats 4000000 in
set_option maxRecDepth 100000 in
theorem c_X6_go (l : Launch) (D : va_G) (ct : Nat → ClassId) (Z : Nat → Prop) (σ : Stt) (th : Int32) (bst : Nat → Int64) (rf : Nat → Nat) (c tn b : Int32) (hI : Inv σ) : Met l yX6_go (.code yX6_go cX6_go 10 (some .int) :: GW) ({ frames := 4, cells := 0, slots := 0, locals := 93 } : Room) (va_Pc [.ref (rf 0), .int c, .int tn, .int b] (fun U => GT D ct U ∧ (∀ q, Z q → q < U.heap.size) ∧ RP D ct Z σ th bst rf U.heap)) (qS1 Z (fun x h => x = .int (o_go σ c tn b).2.1 ∧ ∃ b1, RP D ct Z (o_go σ c tn b).2.2 (nI (o_go σ c tn b).1) b1 rf h)) 0 0 (nZ Z) := by
  refine m_in (cc := cX6_go) [.ref (rf 0), .int c, .int tn, .int b] "RumourCustomsModel" rfl (by decide) (Nat.le_of_ble_eq_true rfl) ?_
  intro pg e s m args below meth cd ls hx hb hml hown hts hr hlocks hin hPr hl
  obtain ⟨hT, hZs, hP⟩ := hPr
  have hl : lv_has ls 10 [(0, .ref (rf 0)), (1, .int c), (2, .int tn), (3, .int b)] := hl
  have hS : va_S (nZ Z) s.heap s.heap [] := va_S.rf
  have hT1 := hI.1.1
  have hT10 := hI.1.2
  have hR1 := hI.2.1.1
  have hR60 := hI.2.1.2
  have hC1 := hI.2.2.1.1
  have hC8 := hI.2.2.1.2
  refine lv_aload_n hx hb dX6_go_0 rfl (lv_at hl 0 rfl) ?_
  refine lv_iconst (v := 0) hx hb dX6_go_1 (by decide) ?_
  refine k_put (C := RX6) (T := TX6) (N := 14) hx hb hts inGX6 tyX6 tyX6_ok nmX6 hown (hT).1 hP.o hS (hP.nz (by decide)) rfl 0 (Nat.le_of_ble_eq_true rfl) (hts _ w_872) (fun _ h9 => h9) rfl (ty := .int) (v := .int 0) (by decide +kernel) rfl rfl (Nat.le_of_ble_eq_true rfl) dX6_go_2 (fun H2 locs2 hO2 hz2 hq2 hS2 => ?_)
  have hO2 : Ob D (rf 0) 7 [.int 0, .int (σ 0 0), .int (σ 0 1), .int (σ 0 2), .int (σ 0 3), .int (σ 0 4), .int (σ 0 5), .int (σ 0 6), .int (σ 0 7), .int (σ 0 8), .ref (rf 1), .ref (rf 2), .ref (rf 3), .ref (rf 4)] H2 := hO2
  have hP2 : RP D ct Z (σ) (0) bst rf H2 := hP.st 0 hO2 hq2
  refine lv_aload_n hx hb dX6_go_5 rfl (lv_at hl 0 rfl) ?_
  refine lv_iload_n hx hb dX6_go_6 rfl (lv_at hl 1 rfl) ?_
  refine c_p1 (va_runV (As := [.int c]) (rest := []) ⟨hx, hb, hml, hown, hts⟩ (c_X6_isCarrier l D ct Z σ 0 bst rf c hC1 (by omega)) (cwV 1 hts (GG w_1002 w_1004 w_44 w_65 w_1005) rfl rfl rfl (by decide) ⟨Nat.le_of_ble_eq_true rfl, Nat.le_of_ble_eq_true rfl⟩) ⟨(blindT fun _ _ _ _ h => h), Ob.recv (hT).1 hP2.o rfl, fun U hU hW => ⟨rfl, hT.warm hW, by rw [hU]; exact hP2⟩⟩ rfl rfl hl.1 rfl (lv_room (Nat.le_of_ble_eq_true rfl)) dX6_go_7 ⟨Nat.le_of_ble_eq_true rfl, Nat.le_of_ble_eq_true rfl⟩) ?_
  refine lv_if_eq (tgt := 21) hx hb dX6_go_10 (by decide) (fun c_10 => ?_) (fun c_10 => ?_)
  · -- taken
    replace c_10 := b2_z c_10
    refine lv_aload_n hx hb dX6_go_21 rfl (lv_at hl 0 rfl) ?_
    refine lv_iconst (v := 1) hx hb dX6_go_22 (by decide) ?_
    refine c_s1 (va_runV (As := [.int 1]) (rest := []) ⟨hx, hb, hml, hown, hts⟩ (c_X6_fail l D ct Z σ 0 bst rf 1) (cwV 1 hts (GG w_924 w_926 w_35 w_65 w_927) rfl rfl rfl (by decide) ⟨Nat.le_of_ble_eq_true rfl, Nat.le_of_ble_eq_true rfl⟩) ⟨(blindT fun _ _ _ _ h => h), Ob.recv (hT).1 hP2.o rfl, fun U hU hW => ⟨rfl, hT.warm hW, by rw [hU]; exact ⟨fun q hq => Nat.lt_of_lt_of_le (hZs q hq) hS2.1, hP2⟩⟩⟩ rfl rfl hl.1 rfl (lv_room (Nat.le_of_ble_eq_true rfl)) dX6_go_23 ⟨Nat.le_of_ble_eq_true rfl, Nat.le_of_ble_eq_true rfl⟩) hS2 (fun x23 H23 locs23 hRr23 hzz23 hS23 => ?_)
    obtain ⟨rfl, hRr23⟩ := hRr23
    have hP23 : RP D ct Z (σ) (1) bst rf H23 := hRr23
    have ho : o_go σ c tn b = (1, 0, σ) := by simp [o_go, gow, gfi, gk, onW, c_10]
    exact W.iret (v := 0) hx hb hr (fun t ht hW => ⟨_, rfl, by rw [ht]; exact ⟨by rw [ho], bst, by rw [ho]; exact hP23⟩, hS23.F ht⟩) (fun z h => hS23.2.2 z h) dX6_go_26
  · -- not taken
    replace c_10 := b2_nz c_10
    obtain ⟨k10, ht10, hv10⟩ := okC hC1 hC8 c_10
    subst hv10
    have ix10 : ix (nI k10) = k10 := ix_n (by omega)
    refine lv_aload_n hx hb dX6_go_13 rfl (lv_at hl 0 rfl) ?_
    refine lv_iload_n hx hb dX6_go_14 rfl (lv_at hl 2 rfl) ?_
    refine c_p1 (va_runV (As := [.int tn]) (rest := []) ⟨hx, hb, hml, hown, hts⟩ (c_X6_isTown l D ct Z σ 0 bst rf tn hT1 (by omega)) (cwV 1 hts (GG w_932 w_934 w_36 w_65 w_935) rfl rfl rfl (by decide) ⟨Nat.le_of_ble_eq_true rfl, Nat.le_of_ble_eq_true rfl⟩) ⟨(blindT fun _ _ _ _ h => h), Ob.recv (hT).1 hP2.o rfl, fun U hU hW => ⟨rfl, hT.warm hW, by rw [hU]; exact hP2⟩⟩ rfl rfl hl.1 rfl (lv_room (Nat.le_of_ble_eq_true rfl)) dX6_go_15 ⟨Nat.le_of_ble_eq_true rfl, Nat.le_of_ble_eq_true rfl⟩) ?_
    refine lv_if_ne (tgt := 27) hx hb dX6_go_18 (by decide) (fun c_18 => ?_) (fun c_18 => ?_)
    · -- taken
      replace c_18 := b2_nz c_18
      obtain ⟨t18, ht18, hv18⟩ := okT hT1 hT10 c_18
      subst hv18
      have ix18 : ix (nI t18) = t18 := ix_n (by omega)
      refine lv_iload_n hx hb dX6_go_27 rfl (lv_at hl 3 rfl) ?_
      refine lv_iconst (v := 0) hx hb dX6_go_28 (by decide) ?_
      refine lv_iconst (v := 5) hx hb dX6_go_29 (by decide) ?_
      refine c_p1 (va_runS (As := [.int b, .int 0, .int 5]) (rest := []) ⟨hx, hb, hml, hown, hts⟩ (c_X6_isIn l D ct b 0 5) (k_cwS 3 hts w_936 w_937 w_65 w_938 rfl rfl (by decide) ⟨Nat.le_of_ble_eq_true rfl, Nat.le_of_ble_eq_true rfl⟩) ⟨(blindT fun _ _ _ _ h => h), fun U hU hW => ⟨rfl, hT.warm hW, trivial⟩⟩ rfl rfl hl.1 rfl (lv_room (Nat.le_of_ble_eq_true rfl)) dX6_go_30 ⟨Nat.le_of_ble_eq_true rfl, Nat.le_of_ble_eq_true rfl⟩) ?_
      refine lv_if_ne (tgt := 42) hx hb dX6_go_33 (by decide) (fun c_33 => ?_) (fun c_33 => ?_)
      · -- taken
        replace c_33 := b2_nz c_33
        refine lv_aload_n hx hb dX6_go_42 rfl (lv_at hl 0 rfl) ?_
        refine lv_iload_n hx hb dX6_go_43 rfl (lv_at hl 1 rfl) ?_
        refine lv_iconst (v := 0) hx hb dX6_go_44 (by decide) ?_
        refine c_p1 (va_runV (As := [.int (nI k10), .int 0]) (rest := []) ⟨hx, hb, hml, hown, hts⟩ (c_X6_man l D ct Z σ 0 bst rf k10 0 0 (by omega) rfl (by decide)) (cwV 2 hts (GG w_985 w_987 w_43 w_65 w_988) rfl rfl rfl (by decide) ⟨Nat.le_of_ble_eq_true rfl, Nat.le_of_ble_eq_true rfl⟩) ⟨(blindT fun _ _ _ _ h => h), Ob.recv (hT).1 hP2.o rfl, fun U hU hW => ⟨rfl, hT.warm hW, by rw [hU]; exact hP2⟩⟩ rfl rfl hl.1 rfl (lv_room (Nat.le_of_ble_eq_true rfl)) dX6_go_45 ⟨Nat.le_of_ble_eq_true rfl, Nat.le_of_ble_eq_true rfl⟩) ?_
        rw [Nat.add_zero (4 * k10)]
        obtain ⟨nn, hnn, hcnn⟩ := (hI.2.2.2.2.1 k10 ht10).1
        have ixnn : ix (nI nn) = nn := ix_n (by omega)
        rw [hcnn]
        refine lv_iload_n hx hb dX6_go_48 rfl (lv_at hl 2 rfl) ?_
        refine c_p1 (va_runS (As := [.int (nI nn), .int (nI t18)]) (rest := []) ⟨hx, hb, hml, hown, hts⟩ (c_X6_base l D ct (nI nn) (nI t18) nn t18 rfl rfl (by omega) (by omega)) (k_cwS 2 hts w_939 w_940 w_65 w_941 rfl rfl (by decide) ⟨Nat.le_of_ble_eq_true rfl, Nat.le_of_ble_eq_true rfl⟩) ⟨(blindT fun _ _ _ _ h => h), fun U hU hW => ⟨rfl, hT.warm hW, trivial⟩⟩ rfl rfl hl.1 rfl (lv_room (Nat.le_of_ble_eq_true rfl)) dX6_go_49 ⟨Nat.le_of_ble_eq_true rfl, Nat.le_of_ble_eq_true rfl⟩) ?_
        have hk_49 : rk nn t18 < 100 := rk_lt (by omega) (by omega)
        refine lv_istore (lv' := [(4, .int (nI (7 * rk nn t18))), (0, .ref (rf 0)), (1, .int (nI k10)), (2, .int (nI t18)), (3, .int b)]) hx hb dX6_go_52 hl (by decide) rfl (fun ls hl => ?_)
        refine lv_aload_n hx hb dX6_go_54 rfl (lv_at hl 1 rfl) ?_
        refine lv_iload_n hx hb dX6_go_55 rfl (lv_at hl 2 rfl) ?_
        refine lv_iconst (v := 1) hx hb dX6_go_56 (by decide) ?_
        refine c_p1 (va_runV (As := [.int (nI k10), .int 1]) (rest := []) ⟨hx, hb, hml, hown, hts⟩ (c_X6_man l D ct Z σ 0 bst rf k10 1 1 (by omega) rfl (by decide)) (cwV 2 hts (GG w_985 w_987 w_43 w_65 w_988) rfl rfl rfl (by decide) ⟨Nat.le_of_ble_eq_true rfl, Nat.le_of_ble_eq_true rfl⟩) ⟨(blindT fun _ _ _ _ h => h), Ob.recv (hT).1 hP2.o rfl, fun U hU hW => ⟨rfl, hT.warm hW, by rw [hU]; exact hP2⟩⟩ rfl rfl hl.1 rfl (lv_room (Nat.le_of_ble_eq_true rfl)) dX6_go_57 ⟨Nat.le_of_ble_eq_true rfl, Nat.le_of_ble_eq_true rfl⟩) ?_
        refine lv_if_gt (tgt := 83) hx hb dX6_go_60 (by decide) (fun c_60 => ?_) (fun c_60 => ?_)
        · -- taken
          refine lv_aload_n hx hb dX6_go_83 rfl (lv_at hl 1 rfl) ?_
          refine lv_iconst (v := 3) hx hb dX6_go_84 (by decide) ?_
          refine c_s1 (va_runV (As := [.int 3]) (rest := []) ⟨hx, hb, hml, hown, hts⟩ (c_X6_fail l D ct Z σ 0 bst rf 3) (cwV 1 hts (GG w_924 w_926 w_35 w_65 w_927) rfl rfl rfl (by decide) ⟨Nat.le_of_ble_eq_true rfl, Nat.le_of_ble_eq_true rfl⟩) ⟨(blindT fun _ _ _ _ h => h), Ob.recv (hT).1 hP2.o rfl, fun U hU hW => ⟨rfl, hT.warm hW, by rw [hU]; exact ⟨fun q hq => Nat.lt_of_lt_of_le (hZs q hq) hS2.1, hP2⟩⟩⟩ rfl rfl hl.1 rfl (lv_room (Nat.le_of_ble_eq_true rfl)) dX6_go_85 ⟨Nat.le_of_ble_eq_true rfl, Nat.le_of_ble_eq_true rfl⟩) hS2 (fun x85 H85 locs85 hRr85 hzz85 hS85 => ?_)
          obtain ⟨rfl, hRr85⟩ := hRr85
          have hP85 : RP D ct Z (σ) (3) bst rf H85 := hRr85
          have ho : o_go σ (nI k10) (nI t18) b = (3, 0, σ) := by simp [o_go, gow, gfi, gk, onW, c_10, ix10, c_18, ix18, c_33, hcnn, ixnn, c_60]
          exact W.iret (v := 0) hx hb hr (fun t ht hW => ⟨_, rfl, by rw [ht]; exact ⟨by rw [ho], bst, by rw [ho]; exact hP85⟩, hS85.F ht⟩) (fun z h => hS85.2.2 z h) dX6_go_88
        · -- not taken
          refine lv_aload_n hx hb dX6_go_63 rfl (lv_at hl 1 rfl) ?_
          refine lv_iload_n hx hb dX6_go_64 rfl (lv_at hl 2 rfl) ?_
          refine lv_iconst (v := 0) hx hb dX6_go_65 (by decide) ?_
          refine c_p1 (va_runV (As := [.int (nI k10), .int 0]) (rest := []) ⟨hx, hb, hml, hown, hts⟩ (c_X6_man l D ct Z σ 0 bst rf k10 0 0 (by omega) rfl (by decide)) (cwV 2 hts (GG w_985 w_987 w_43 w_65 w_988) rfl rfl rfl (by decide) ⟨Nat.le_of_ble_eq_true rfl, Nat.le_of_ble_eq_true rfl⟩) ⟨(blindT fun _ _ _ _ h => h), Ob.recv (hT).1 hP2.o rfl, fun U hU hW => ⟨rfl, hT.warm hW, by rw [hU]; exact hP2⟩⟩ rfl rfl hl.1 rfl (lv_room (Nat.le_of_ble_eq_true rfl)) dX6_go_66 ⟨Nat.le_of_ble_eq_true rfl, Nat.le_of_ble_eq_true rfl⟩) ?_
          rw [Nat.add_zero (4 * k10)]
          rw [hcnn]
          refine lv_iload_n hx hb dX6_go_69 rfl (lv_at hl 3 rfl) ?_
          refine lv_icmp_eq (tgt := 83) hx hb dX6_go_70 (by decide) (fun c_70 => ?_) (fun c_70 => ?_)
          · -- taken
            have nc_70 : nn = t18 := (nI_eq (a := nn) (b := t18) (by omega) (by omega)).mp c_70
            have hrs : ¬ σ 3 (7 * rk nn t18) = 1 := by rw [nc_70]; exact rd_self hI (by omega)
            refine lv_aload_n hx hb dX6_go_83 rfl (lv_at hl 1 rfl) ?_
            refine lv_iconst (v := 3) hx hb dX6_go_84 (by decide) ?_
            refine c_s1 (va_runV (As := [.int 3]) (rest := []) ⟨hx, hb, hml, hown, hts⟩ (c_X6_fail l D ct Z σ 0 bst rf 3) (cwV 1 hts (GG w_924 w_926 w_35 w_65 w_927) rfl rfl rfl (by decide) ⟨Nat.le_of_ble_eq_true rfl, Nat.le_of_ble_eq_true rfl⟩) ⟨(blindT fun _ _ _ _ h => h), Ob.recv (hT).1 hP2.o rfl, fun U hU hW => ⟨rfl, hT.warm hW, by rw [hU]; exact ⟨fun q hq => Nat.lt_of_lt_of_le (hZs q hq) hS2.1, hP2⟩⟩⟩ rfl rfl hl.1 rfl (lv_room (Nat.le_of_ble_eq_true rfl)) dX6_go_85 ⟨Nat.le_of_ble_eq_true rfl, Nat.le_of_ble_eq_true rfl⟩) hS2 (fun x85 H85 locs85 hRr85 hzz85 hS85 => ?_)
            obtain ⟨rfl, hRr85⟩ := hRr85
            have hP85 : RP D ct Z (σ) (3) bst rf H85 := hRr85
            have ho : o_go σ (nI k10) (nI t18) b = (3, 0, σ) := by simp [o_go, gow, gfi, gk, onW, c_10, ix10, c_18, ix18, c_33, hcnn, ixnn, c_60, hrs]
            exact W.iret (v := 0) hx hb hr (fun t ht hW => ⟨_, rfl, by rw [ht]; exact ⟨by rw [ho], bst, by rw [ho]; exact hP85⟩, hS85.F ht⟩) (fun z h => hS85.2.2 z h) dX6_go_88
          · -- not taken
            have nc_70 : ¬ nn = t18 := fun z => c_70 ((nI_eq (a := nn) (b := t18) (by omega) (by omega)).mpr z)
            refine lv_aload_n hx hb dX6_go_73 rfl (lv_at hl 1 rfl) ?_
            refine k_get (C := RX6) (T := TX6) (N := 14) hx hb hts inGX6 hown (hT).1 hP2.o rfl 10 (by decide) (hts _ w_882) (fun _ h9 => h9) (v := .ref (rf 1)) rfl dX6_go_74 ?_
            refine lv_iload hx hb dX6_go_77 (lv_at hl 0 rfl) ?_
            refine k_iald hx hb (hT).1 hP2.a1 (by rw [(rfl : nI (7 * rk nn t18) = nI (7 * rk nn t18))]; exact vp_in_nI (by omega : 7 * rk nn t18 < 700) (by decide)) dX6_go_79 ?_
            rw [show (nI (7 * rk nn t18) : Int32).toNatClampNeg = 7 * rk nn t18 from (congrArg Int32.toNatClampNeg (rfl : nI (7 * rk nn t18) = nI (7 * rk nn t18))).trans (nI_clamp (by omega : 7 * rk nn t18 < 2 ^ 31))]
            refine lv_if_ne (tgt := 89) hx hb dX6_go_80 (by decide) (fun c_80 => ?_) (fun c_80 => ?_)
            · -- taken
              have hrs : σ 3 (7 * rk nn t18) = 1 := Classical.byContradiction (fun z => c_80 (rd_one hI hk_49 z))
              refine lv_aload_n hx hb dX6_go_89 rfl (lv_at hl 1 rfl) ?_
              refine lv_iload_n hx hb dX6_go_90 rfl (lv_at hl 2 rfl) ?_
              refine lv_iload hx hb dX6_go_91 (lv_at hl 0 rfl) ?_
              refine lv_iload_n hx hb dX6_go_93 rfl (lv_at hl 4 rfl) ?_
              refine c_p1 (va_runV (As := [.int (nI k10), .int (nI (7 * rk nn t18)), .int b]) (rest := []) ⟨hx, hb, hml, hown, hts⟩ (c_X6_owed l D ct Z σ 0 bst rf (nI k10) (7 * rk nn t18) b (rk nn t18) hR1 hR60 (by omega) rfl) (cwV 3 hts (GG w_1038 w_1040 w_49 w_65 w_1041) rfl rfl rfl (by decide) ⟨Nat.le_of_ble_eq_true rfl, Nat.le_of_ble_eq_true rfl⟩) ⟨(blindT fun _ _ _ _ h => h), Ob.recv (hT).1 hP2.o rfl, fun U hU hW => ⟨rfl, hT.warm hW, by rw [hU]; exact hP2⟩⟩ rfl rfl hl.1 rfl (lv_room (Nat.le_of_ble_eq_true rfl)) dX6_go_94 ⟨Nat.le_of_ble_eq_true rfl, Nat.le_of_ble_eq_true rfl⟩) ?_
              obtain ⟨dt, hdt⟩ : ∃ x, x = owedS σ (nI k10) (rk nn t18) b := ⟨_, rfl⟩
              rw [← hdt]
              refine lv_istore (lv' := [(5, .int dt), (4, .int (nI (7 * rk nn t18))), (0, .ref (rf 0)), (1, .int (nI k10)), (2, .int (nI t18)), (3, .int b)]) hx hb dX6_go_97 hl (by decide) rfl (fun ls hl => ?_)
              refine lv_iload hx hb dX6_go_99 (lv_at hl 0 rfl) ?_
              refine lv_aload_n hx hb dX6_go_101 rfl (lv_at hl 2 rfl) ?_
              refine lv_iload_n hx hb dX6_go_102 rfl (lv_at hl 3 rfl) ?_
              refine lv_iconst (v := 2) hx hb dX6_go_103 (by decide) ?_
              have h3 := h3_pos hI (nI k10) hk_49 hrs
              refine c_p1 (va_runV (As := [.int (nI k10), .int 2]) (rest := [.int dt]) ⟨hx, hb, hml, hown, hts⟩ (c_X6_man l D ct Z σ 0 bst rf k10 2 2 (by omega) rfl (by decide)) (cwV 2 hts (GG w_985 w_987 w_43 w_65 w_988) rfl rfl rfl (by decide) ⟨Nat.le_of_ble_eq_true rfl, Nat.le_of_ble_eq_true rfl⟩) ⟨(blindT fun _ _ _ _ h => h), Ob.recv (hT).1 hP2.o rfl, fun U hU hW => ⟨rfl, hT.warm hW, by rw [hU]; exact hP2⟩⟩ rfl rfl hl.1 rfl (lv_room (Nat.le_of_ble_eq_true rfl)) dX6_go_104 ⟨Nat.le_of_ble_eq_true rfl, Nat.le_of_ble_eq_true rfl⟩) ?_
              refine lv_icmp_le (tgt := 116) hx hb dX6_go_107 (by decide) (fun c_107 => ?_) (fun c_107 => ?_)
              · -- taken
                have hpu : dt ≤ σ 2 (4 * k10 + 2) := c_107
                refine lv_aload_n hx hb dX6_go_116 rfl (lv_at hl 2 rfl) ?_
                refine lv_iload_n hx hb dX6_go_117 rfl (lv_at hl 3 rfl) ?_
                refine lv_iload hx hb dX6_go_118 (lv_at hl 1 rfl) ?_
                refine lv_aload_n hx hb dX6_go_120 rfl (lv_at hl 2 rfl) ?_
                refine lv_iload_n hx hb dX6_go_121 rfl (lv_at hl 3 rfl) ?_
                refine lv_iconst (v := 2) hx hb dX6_go_122 (by decide) ?_
                refine c_p1 (va_runV (As := [.int (nI k10), .int 2]) (rest := [.int (nI (7 * rk nn t18)), .int (nI k10), .ref (rf 0)]) ⟨hx, hb, hml, hown, hts⟩ (c_X6_man l D ct Z σ 0 bst rf k10 2 2 (by omega) rfl (by decide)) (cwV 2 hts (GG w_985 w_987 w_43 w_65 w_988) rfl rfl rfl (by decide) ⟨Nat.le_of_ble_eq_true rfl, Nat.le_of_ble_eq_true rfl⟩) ⟨(blindT fun _ _ _ _ h => h), Ob.recv (hT).1 hP2.o rfl, fun U hU hW => ⟨rfl, hT.warm hW, by rw [hU]; exact hP2⟩⟩ rfl rfl hl.1 rfl (lv_room (Nat.le_of_ble_eq_true rfl)) dX6_go_123 ⟨Nat.le_of_ble_eq_true rfl, Nat.le_of_ble_eq_true rfl⟩) ?_
                refine lv_iload hx hb dX6_go_126 (lv_at hl 0 rfl) ?_
                refine lv_isub hx hb dX6_go_128 ?_
                refine c_p1 (va_runV (As := [.int (nI k10), .int (nI (7 * rk nn t18)), .int ((σ 2 (4 * k10 + 2)) - dt)]) (rest := []) ⟨hx, hb, hml, hown, hts⟩ (c_X6_fine l D ct Z σ 0 bst rf (nI k10) (7 * rk nn t18) ((σ 2 (4 * k10 + 2)) - dt) (rk nn t18) hR1 hR60 (by omega) rfl h3) (cwV 3 hts (GG w_1046 w_1048 w_51 w_65 w_1049) rfl rfl rfl (by decide) ⟨Nat.le_of_ble_eq_true rfl, Nat.le_of_ble_eq_true rfl⟩) ⟨(blindT fun _ _ _ _ h => h), Ob.recv (hT).1 hP2.o rfl, fun U hU hW => ⟨rfl, hT.warm hW, by rw [hU]; exact hP2⟩⟩ rfl rfl hl.1 rfl (lv_room (Nat.le_of_ble_eq_true rfl)) dX6_go_129 ⟨Nat.le_of_ble_eq_true rfl, Nat.le_of_ble_eq_true rfl⟩) ?_
                obtain ⟨fn, hfn⟩ : ∃ x, x = fineS σ (nI k10) (rk nn t18) ((σ 2 (4 * k10 + 2)) - dt) := ⟨_, rfl⟩
                rw [← hfn]
                refine lv_istore (lv' := [(6, .int fn), (5, .int dt), (4, .int (nI (7 * rk nn t18))), (0, .ref (rf 0)), (1, .int (nI k10)), (2, .int (nI t18)), (3, .int b)]) hx hb dX6_go_132 hl (by decide) rfl (fun ls hl => ?_)
                refine lv_aload_n hx hb dX6_go_134 rfl (lv_at hl 3 rfl) ?_
                refine lv_iload_n hx hb dX6_go_135 rfl (lv_at hl 4 rfl) ?_
                refine lv_iload hx hb dX6_go_136 (lv_at hl 2 rfl) ?_
                refine c_p1 (va_runV (As := [.int (nI k10), .int (nI (7 * rk nn t18))]) (rest := []) ⟨hx, hb, hml, hown, hts⟩ (c_X6_isSearched l D ct Z σ 0 bst rf (nI k10) (7 * rk nn t18) (rk nn t18) hR1 hR60 (by omega) rfl) (cwV 2 hts (GG w_1050 w_1052 w_52 w_65 w_1053) rfl rfl rfl (by decide) ⟨Nat.le_of_ble_eq_true rfl, Nat.le_of_ble_eq_true rfl⟩) ⟨(blindT fun _ _ _ _ h => h), Ob.recv (hT).1 hP2.o rfl, fun U hU hW => ⟨rfl, hT.warm hW, by rw [hU]; exact hP2⟩⟩ rfl rfl hl.1 rfl (lv_room (Nat.le_of_ble_eq_true rfl)) dX6_go_138 ⟨Nat.le_of_ble_eq_true rfl, Nat.le_of_ble_eq_true rfl⟩) ?_
                by_cases hat : attn σ (nI k10) (rk nn t18) < 10
                · -- found 0
                  rw [b2_f (fun z => z hat)]
                  refine lv_istore (lv' := [(7, .int 0), (6, .int fn), (5, .int dt), (4, .int (nI (7 * rk nn t18))), (0, .ref (rf 0)), (1, .int (nI k10)), (2, .int (nI t18)), (3, .int b)]) hx hb dX6_go_141 hl (by decide) rfl (fun ls hl => ?_)
                  refine lv_aload_n hx hb dX6_go_143 rfl (lv_at hl 4 rfl) ?_
                  refine k_get (C := RX6) (T := TX6) (N := 14) hx hb hts inGX6 hown (hT).1 hP2.o rfl 10 (by decide) (hts _ w_882) (fun _ h9 => h9) (v := .ref (rf 1)) rfl dX6_go_144 ?_
                  refine lv_iload hx hb dX6_go_147 (lv_at hl 3 rfl) ?_
                  refine lv_iconst (v := 5) hx hb dX6_go_149 (by decide) ?_
                  refine lv_iadd hx hb dX6_go_150 ?_
                  refine lv_dup2_11 hx hb dX6_go_151 rfl rfl ?_
                  refine k_iald hx hb (hT).1 hP2.a1 (by rw [(ix_add (rfl : nI (7 * rk nn t18) = nI (7 * rk nn t18)) (rfl : (5 : Int32) = nI 5))]; exact vp_in_nI (by omega : (7 * rk nn t18) + 5 < 700) (by decide)) dX6_go_152 ?_
                  rw [show ((nI (7 * rk nn t18)) + 5 : Int32).toNatClampNeg = (7 * rk nn t18) + 5 from (congrArg Int32.toNatClampNeg (ix_add (rfl : nI (7 * rk nn t18) = nI (7 * rk nn t18)) (rfl : (5 : Int32) = nI 5))).trans (nI_clamp (by omega : (7 * rk nn t18) + 5 < 2 ^ 31))]
                  refine lv_aload_n hx hb dX6_go_153 rfl (lv_at hl 4 rfl) ?_
                  refine k_get (C := RX6) (T := TX6) (N := 14) hx hb hts inGX6 hown (hT).1 hP2.o rfl 10 (by decide) (hts _ w_882) (fun _ h9 => h9) (v := .ref (rf 1)) rfl dX6_go_154 ?_
                  refine lv_iload hx hb dX6_go_157 (lv_at hl 3 rfl) ?_
                  refine lv_iconst (v := 4) hx hb dX6_go_159 (by decide) ?_
                  refine lv_iadd hx hb dX6_go_160 ?_
                  refine k_iald hx hb (hT).1 hP2.a1 (by rw [(ix_add (rfl : nI (7 * rk nn t18) = nI (7 * rk nn t18)) (rfl : (4 : Int32) = nI 4))]; exact vp_in_nI (by omega : (7 * rk nn t18) + 4 < 700) (by decide)) dX6_go_161 ?_
                  rw [show ((nI (7 * rk nn t18)) + 4 : Int32).toNatClampNeg = (7 * rk nn t18) + 4 from (congrArg Int32.toNatClampNeg (ix_add (rfl : nI (7 * rk nn t18) = nI (7 * rk nn t18)) (rfl : (4 : Int32) = nI 4))).trans (nI_clamp (by omega : (7 * rk nn t18) + 4 < 2 ^ 31))]
                  refine lv_aload_n hx hb dX6_go_162 rfl (lv_at hl 4 rfl) ?_
                  refine lv_iload_n hx hb dX6_go_163 rfl (lv_at hl 5 rfl) ?_
                  refine lv_iconst (v := 1) hx hb dX6_go_164 (by decide) ?_
                  refine c_p1 (va_runV (As := [.int (nI k10), .int 1]) (rest := [.int (σ 3 ((7 * rk nn t18) + 4)), .int (σ 3 ((7 * rk nn t18) + 5)), .int ((nI (7 * rk nn t18)) + 5), .ref (rf 1)]) ⟨hx, hb, hml, hown, hts⟩ (c_X6_inBag1 l D ct Z σ 0 bst rf (nI k10) hR1 hR60) (cwV 2 hts (GG w_1006 w_1008 w_45 w_65 w_1009) rfl rfl rfl (by decide) ⟨Nat.le_of_ble_eq_true rfl, Nat.le_of_ble_eq_true rfl⟩) ⟨(blindT fun _ _ _ _ h => h), Ob.recv (hT).1 hP2.o rfl, fun U hU hW => ⟨rfl, hT.warm hW, by rw [hU]; exact hP2⟩⟩ rfl rfl hl.1 rfl (lv_room (Nat.le_of_ble_eq_true rfl)) dX6_go_165 ⟨Nat.le_of_ble_eq_true rfl, Nat.le_of_ble_eq_true rfl⟩) ?_
                  refine lv_iadd hx hb dX6_go_168 ?_
                  refine lv_iload hx hb dX6_go_169 (lv_at hl 0 rfl) ?_
                  refine lv_if_eq (tgt := 179) hx hb dX6_go_171 (by decide) (fun _ => ?_) (fun c_ => absurd (by decide) c_)
                  refine lv_iconst (v := 0) hx hb dX6_go_179 (by decide) ?_
                  refine lv_isub hx hb dX6_go_180 ?_
                  refine lv_iadd hx hb dX6_go_181 ?_
                  refine k_iast hx hb (hT).1 hS2 (hP2.nz (i := 1) (by decide)) hP2.a1 (by rw [(ix_add (rfl : nI (7 * rk nn t18) = nI (7 * rk nn t18)) (rfl : (5 : Int32) = nI 5))]; exact vp_in_nI (by omega : (7 * rk nn t18) + 5 < 700) (by decide)) dX6_go_182 (fun H182 locs182 hA182 hz182 hq182 hS182 => ?_)
                  rw [show ((nI (7 * rk nn t18)) + 5 : Int32).toNatClampNeg = (7 * rk nn t18) + 5 from (congrArg Int32.toNatClampNeg (ix_add (rfl : nI (7 * rk nn t18) = nI (7 * rk nn t18)) (rfl : (5 : Int32) = nI 5))).trans (nI_clamp (by omega : (7 * rk nn t18) + 5 < 2 ^ 31))] at hA182
                  have hP182 : RP D ct Z (su σ 3 ((7 * rk nn t18) + 5) ((σ 3 ((7 * rk nn t18) + 5)) + (((σ 3 ((7 * rk nn t18) + 4)) + (hidB σ (nI k10))) - 0))) (0) bst rf H182 := hP2.s3 ((7 * rk nn t18) + 5) ((σ 3 ((7 * rk nn t18) + 5)) + (((σ 3 ((7 * rk nn t18) + 4)) + (hidB σ (nI k10))) - 0)) hA182 hq182
                  obtain ⟨τ182, hτ182⟩ : ∃ τ : Stt, τ = su σ 3 ((7 * rk nn t18) + 5) ((σ 3 ((7 * rk nn t18) + 5)) + (((σ 3 ((7 * rk nn t18) + 4)) + (hidB σ (nI k10))) - 0)) := ⟨_, rfl⟩
                  rw [← hτ182] at hP182
                  refine lv_aload_n hx hb dX6_go_183 rfl (lv_at hl 4 rfl) ?_
                  refine lv_dup hx hb dX6_go_184 rfl ?_
                  refine k_get (C := RX6) (T := TX6) (N := 14) hx hb hts inGX6 hown (hT).1 hP182.o rfl 9 (by decide) (hts _ w_881) (fun _ h9 => h9) (v := .int (τ182 0 8)) rfl dX6_go_185 ?_
                  refine lv_iload hx hb dX6_go_188 (lv_at hl 0 rfl) ?_
                  refine lv_if_eq (tgt := 197) hx hb dX6_go_190 (by decide) (fun _ => ?_) (fun c_ => absurd (by decide) c_)
                  refine lv_iconst (v := 0) hx hb dX6_go_197 (by decide) ?_
                  refine lv_iadd hx hb dX6_go_198 ?_
                  refine k_put (C := RX6) (T := TX6) (N := 14) hx hb hts inGX6 tyX6 tyX6_ok nmX6 hown (hT).1 hP182.o hS182 (hP182.nz (by decide)) rfl 9 (Nat.le_of_ble_eq_true rfl) (hts _ w_881) (fun _ h9 => h9) rfl (ty := .int) (v := .int ((τ182 0 8) + 0)) (by decide +kernel) rfl rfl (Nat.le_of_ble_eq_true rfl) dX6_go_199 (fun H199 locs199 hO199 hz199 hq199 hS199 => ?_)
                  have hO199 : Ob D (rf 0) 7 [.int 0, .int (τ182 0 0), .int (τ182 0 1), .int (τ182 0 2), .int (τ182 0 3), .int (τ182 0 4), .int (τ182 0 5), .int (τ182 0 6), .int (τ182 0 7), .int ((τ182 0 8) + 0), .ref (rf 1), .ref (rf 2), .ref (rf 3), .ref (rf 4)] H199 := hO199
                  have hP199 : RP D ct Z (su τ182 0 8 ((τ182 0 8) + 0)) (0) bst rf H199 := hP182.s0 8 ((τ182 0 8) + 0) hO199 hq199
                  obtain ⟨τ199, hτ199⟩ : ∃ τ : Stt, τ = su τ182 0 8 ((τ182 0 8) + 0) := ⟨_, rfl⟩
                  rw [← hτ199] at hP199
                  refine lv_iconst (v := 0) hx hb dX6_go_202 (by decide) ?_
                  refine lv_istore (lv' := [(8, .int 0), (7, .int 0), (6, .int fn), (5, .int dt), (4, .int (nI (7 * rk nn t18))), (0, .ref (rf 0)), (1, .int (nI k10)), (2, .int (nI t18)), (3, .int b)]) hx hb dX6_go_203 hl (by decide) rfl (fun ls hl => ?_)
                  have loop205 : ∀ (n205 i : Nat) (H : Heap) (locs : List Loc), i ≤ nR σ → nR σ - i < n205 → RP D ct Z (goRN τ199 (nI k10) b false i) 0 bst rf H → va_S (nZ Z) s.heap H locs → ∀ ls, lv_has ls 10 [(0, .ref (rf 0)), (1, .int (nI k10)), (2, .int (nI t18)), (3, .int b), (4, .int (nI (7 * rk nn t18))), (5, .int dt), (6, .int fn), (7, .int 0), (8, .int (nI i))] → W pg l e ({ frames := 4, cells := 0, slots := 0, locals := 93 } : Room) s m args below meth cd H locs 0 0 (MQ below (qS1 Z (fun x h => x = .int (o_go σ (nI k10) (nI t18) b).2.1 ∧ ∃ b1, RP D ct Z (o_go σ (nI k10) (nI t18) b).2.2 (nI (o_go σ (nI k10) (nI t18) b).1) b1 rf h)) args s 0 0 (nZ Z)) (F0 m 205 ls []) := by
                    intro n205
                    induction n205 with
                    | zero => intro i H locs  _ z; omega
                    | succ n205 ih205 =>
                      intro i H205 locs205  hi205 hn205 hP205 hS205 ls hl
                      obtain ⟨τ205, hτ205⟩ : ∃ τ : Stt, τ = goRN τ199 (nI k10) b false i := ⟨_, rfl⟩
                      rw [← hτ205] at hP205
                      refine lv_iload hx hb dX6_go_205 (lv_at hl 8 rfl) ?_
                      refine lv_aload_n hx hb dX6_go_207 rfl (lv_at hl 0 rfl) ?_
                      refine k_get (C := RX6) (T := TX6) (N := 14) hx hb hts inGX6 hown (hT).1 hP205.o rfl 4 (by decide) (hts _ w_876) (fun _ h9 => h9) (v := .int (τ205 0 3)) rfl dX6_go_208 ?_
                      have hv211 : τ205 0 3 = nI (nR σ) := by rw [hτ205, goRN_o _ _ _ _ _ (by decide) (by decide), hτ199, su_j (by decide), hτ182, su_k (by decide)]; exact hR1
                      rw [hv211]
                      refine lv_icmp_ge (tgt := 302) hx hb dX6_go_211 (by decide) (fun c_211 => ?_) (fun c_211 => ?_)
                      · -- taken
                        have nc_211 : (nR σ) ≤ i := (nI_leI (a := (nR σ)) (b := i) (by omega) (by omega)).mp c_211
                        have he205 : i = nR σ := by omega
                        refine lv_aload_n hx hb dX6_go_302 rfl (lv_at hl 0 rfl) ?_
                        refine k_get (C := RX6) (T := TX6) (N := 14) hx hb hts inGX6 hown (hT).1 hP205.o rfl 10 (by decide) (hts _ w_882) (fun _ h9 => h9) (v := .ref (rf 1)) rfl dX6_go_303 ?_
                        refine lv_iload hx hb dX6_go_306 (lv_at hl 4 rfl) ?_
                        refine lv_bipush (v := 6) hx hb dX6_go_308 (by decide) ?_
                        refine lv_iadd hx hb dX6_go_310 ?_
                        refine lv_dup2_11 hx hb dX6_go_311 rfl rfl ?_
                        refine k_iald hx hb (hT).1 hP205.a1 (by rw [(ix_add (rfl : nI (7 * rk nn t18) = nI (7 * rk nn t18)) (rfl : (6 : Int32) = nI 6))]; exact vp_in_nI (by omega : (7 * rk nn t18) + 6 < 700) (by decide)) dX6_go_312 ?_
                        rw [show ((nI (7 * rk nn t18)) + 6 : Int32).toNatClampNeg = (7 * rk nn t18) + 6 from (congrArg Int32.toNatClampNeg (ix_add (rfl : nI (7 * rk nn t18) = nI (7 * rk nn t18)) (rfl : (6 : Int32) = nI 6))).trans (nI_clamp (by omega : (7 * rk nn t18) + 6 < 2 ^ 31))]
                        refine lv_iload hx hb dX6_go_313 (lv_at hl 5 rfl) ?_
                        refine lv_iload hx hb dX6_go_315 (lv_at hl 6 rfl) ?_
                        refine lv_iadd hx hb dX6_go_317 ?_
                        refine lv_iadd hx hb dX6_go_318 ?_
                        refine k_iast hx hb (hT).1 hS205 (hP205.nz (i := 1) (by decide)) hP205.a1 (by rw [(ix_add (rfl : nI (7 * rk nn t18) = nI (7 * rk nn t18)) (rfl : (6 : Int32) = nI 6))]; exact vp_in_nI (by omega : (7 * rk nn t18) + 6 < 700) (by decide)) dX6_go_319 (fun H319 locs319 hA319 hz319 hq319 hS319 => ?_)
                        rw [show ((nI (7 * rk nn t18)) + 6 : Int32).toNatClampNeg = (7 * rk nn t18) + 6 from (congrArg Int32.toNatClampNeg (ix_add (rfl : nI (7 * rk nn t18) = nI (7 * rk nn t18)) (rfl : (6 : Int32) = nI 6))).trans (nI_clamp (by omega : (7 * rk nn t18) + 6 < 2 ^ 31))] at hA319
                        have hP319 : RP D ct Z (su τ205 3 ((7 * rk nn t18) + 6) ((τ205 3 ((7 * rk nn t18) + 6)) + (dt + fn))) (0) bst rf H319 := hP205.s3 ((7 * rk nn t18) + 6) ((τ205 3 ((7 * rk nn t18) + 6)) + (dt + fn)) hA319 hq319
                        obtain ⟨τ319, hτ319⟩ : ∃ τ : Stt, τ = su τ205 3 ((7 * rk nn t18) + 6) ((τ205 3 ((7 * rk nn t18) + 6)) + (dt + fn)) := ⟨_, rfl⟩
                        rw [← hτ319] at hP319
                        refine lv_aload_n hx hb dX6_go_320 rfl (lv_at hl 0 rfl) ?_
                        refine lv_dup hx hb dX6_go_321 rfl ?_
                        refine k_get (C := RX6) (T := TX6) (N := 14) hx hb hts inGX6 hown (hT).1 hP319.o rfl 7 (by decide) (hts _ w_879) (fun _ h9 => h9) (v := .int (τ319 0 6)) rfl dX6_go_322 ?_
                        refine lv_iload hx hb dX6_go_325 (lv_at hl 5 rfl) ?_
                        refine lv_iadd hx hb dX6_go_327 ?_
                        refine k_put (C := RX6) (T := TX6) (N := 14) hx hb hts inGX6 tyX6 tyX6_ok nmX6 hown (hT).1 hP319.o hS319 (hP319.nz (by decide)) rfl 7 (Nat.le_of_ble_eq_true rfl) (hts _ w_879) (fun _ h9 => h9) rfl (ty := .int) (v := .int ((τ319 0 6) + dt)) (by decide +kernel) rfl rfl (Nat.le_of_ble_eq_true rfl) dX6_go_328 (fun H328 locs328 hO328 hz328 hq328 hS328 => ?_)
                        have hO328 : Ob D (rf 0) 7 [.int 0, .int (τ319 0 0), .int (τ319 0 1), .int (τ319 0 2), .int (τ319 0 3), .int (τ319 0 4), .int (τ319 0 5), .int ((τ319 0 6) + dt), .int (τ319 0 7), .int (τ319 0 8), .ref (rf 1), .ref (rf 2), .ref (rf 3), .ref (rf 4)] H328 := hO328
                        have hP328 : RP D ct Z (su τ319 0 6 ((τ319 0 6) + dt)) (0) bst rf H328 := hP319.s0 6 ((τ319 0 6) + dt) hO328 hq328
                        obtain ⟨τ328, hτ328⟩ : ∃ τ : Stt, τ = su τ319 0 6 ((τ319 0 6) + dt) := ⟨_, rfl⟩
                        rw [← hτ328] at hP328
                        refine lv_aload_n hx hb dX6_go_331 rfl (lv_at hl 0 rfl) ?_
                        refine lv_dup hx hb dX6_go_332 rfl ?_
                        refine k_get (C := RX6) (T := TX6) (N := 14) hx hb hts inGX6 hown (hT).1 hP328.o rfl 8 (by decide) (hts _ w_880) (fun _ h9 => h9) (v := .int (τ328 0 7)) rfl dX6_go_333 ?_
                        refine lv_iload hx hb dX6_go_336 (lv_at hl 6 rfl) ?_
                        refine lv_iadd hx hb dX6_go_338 ?_
                        refine k_put (C := RX6) (T := TX6) (N := 14) hx hb hts inGX6 tyX6 tyX6_ok nmX6 hown (hT).1 hP328.o hS328 (hP328.nz (by decide)) rfl 8 (Nat.le_of_ble_eq_true rfl) (hts _ w_880) (fun _ h9 => h9) rfl (ty := .int) (v := .int ((τ328 0 7) + fn)) (by decide +kernel) rfl rfl (Nat.le_of_ble_eq_true rfl) dX6_go_339 (fun H339 locs339 hO339 hz339 hq339 hS339 => ?_)
                        have hO339 : Ob D (rf 0) 7 [.int 0, .int (τ328 0 0), .int (τ328 0 1), .int (τ328 0 2), .int (τ328 0 3), .int (τ328 0 4), .int (τ328 0 5), .int (τ328 0 6), .int ((τ328 0 7) + fn), .int (τ328 0 8), .ref (rf 1), .ref (rf 2), .ref (rf 3), .ref (rf 4)] H339 := hO339
                        have hP339 : RP D ct Z (su τ328 0 7 ((τ328 0 7) + fn)) (0) bst rf H339 := hP328.s0 7 ((τ328 0 7) + fn) hO339 hq339
                        obtain ⟨τ339, hτ339⟩ : ∃ τ : Stt, τ = su τ328 0 7 ((τ328 0 7) + fn) := ⟨_, rfl⟩
                        rw [← hτ339] at hP339
                        refine lv_aload_n hx hb dX6_go_342 rfl (lv_at hl 0 rfl) ?_
                        refine lv_iload_n hx hb dX6_go_343 rfl (lv_at hl 1 rfl) ?_
                        refine lv_iconst (v := 2) hx hb dX6_go_344 (by decide) ?_
                        refine lv_aload_n hx hb dX6_go_345 rfl (lv_at hl 0 rfl) ?_
                        refine lv_iload_n hx hb dX6_go_346 rfl (lv_at hl 1 rfl) ?_
                        refine lv_iconst (v := 2) hx hb dX6_go_347 (by decide) ?_
                        refine c_p1 (va_runV (As := [.int (nI k10), .int 2]) (rest := [.int 2, .int (nI k10), .ref (rf 0)]) ⟨hx, hb, hml, hown, hts⟩ (c_X6_man l D ct Z τ339 0 bst rf k10 2 2 (by omega) rfl (by decide)) (cwV 2 hts (GG w_985 w_987 w_43 w_65 w_988) rfl rfl rfl (by decide) ⟨Nat.le_of_ble_eq_true rfl, Nat.le_of_ble_eq_true rfl⟩) ⟨(blindT fun _ _ _ _ h => h), Ob.recv (hT).1 hP339.o rfl, fun U hU hW => ⟨rfl, hT.warm hW, by rw [hU]; exact hP339⟩⟩ rfl rfl hl.1 rfl (lv_room (Nat.le_of_ble_eq_true rfl)) dX6_go_348 ⟨Nat.le_of_ble_eq_true rfl, Nat.le_of_ble_eq_true rfl⟩) ?_
                        refine lv_iload hx hb dX6_go_351 (lv_at hl 5 rfl) ?_
                        refine lv_isub hx hb dX6_go_353 ?_
                        refine lv_iload hx hb dX6_go_354 (lv_at hl 6 rfl) ?_
                        refine lv_isub hx hb dX6_go_356 ?_
                        refine c_s0 (va_runV (As := [.int (nI k10), .int 2, .int (((τ339 2 (4 * k10 + 2)) - dt) - fn)]) (rest := []) ⟨hx, hb, hml, hown, hts⟩ (c_X6_setMan l D ct Z τ339 0 bst rf k10 2 (((τ339 2 (4 * k10 + 2)) - dt) - fn) 2 (by omega) rfl (by decide)) (cwV 3 hts (GG w_1054 w_1056 w_53 w_65 w_1057) rfl rfl rfl (by decide) ⟨Nat.le_of_ble_eq_true rfl, Nat.le_of_ble_eq_true rfl⟩) ⟨(blindT fun _ _ _ _ h => h), Ob.recv (hT).1 hP339.o rfl, fun U hU hW => ⟨rfl, hT.warm hW, by rw [hU]; exact ⟨fun q hq => Nat.lt_of_lt_of_le (hZs q hq) hS339.1, hP339⟩⟩⟩ rfl rfl hl.1 rfl (lv_room (Nat.le_of_ble_eq_true rfl)) dX6_go_357 ⟨Nat.le_of_ble_eq_true rfl, Nat.le_of_ble_eq_true rfl⟩) hS339 (fun H357 locs357 hRr357 hzz357 hS357 => ?_)
                        have hP357 : RP D ct Z (su τ339 2 (4 * k10 + 2) (((τ339 2 (4 * k10 + 2)) - dt) - fn)) (0) bst rf H357 := hRr357
                        obtain ⟨τ357, hτ357⟩ : ∃ τ : Stt, τ = su τ339 2 (4 * k10 + 2) (((τ339 2 (4 * k10 + 2)) - dt) - fn) := ⟨_, rfl⟩
                        rw [← hτ357] at hP357
                        refine lv_aload_n hx hb dX6_go_360 rfl (lv_at hl 0 rfl) ?_
                        refine lv_iload_n hx hb dX6_go_361 rfl (lv_at hl 1 rfl) ?_
                        refine lv_iconst (v := 3) hx hb dX6_go_362 (by decide) ?_
                        refine lv_aload_n hx hb dX6_go_363 rfl (lv_at hl 0 rfl) ?_
                        refine lv_iload_n hx hb dX6_go_364 rfl (lv_at hl 1 rfl) ?_
                        refine lv_iconst (v := 3) hx hb dX6_go_365 (by decide) ?_
                        refine c_p1 (va_runV (As := [.int (nI k10), .int 3]) (rest := [.int 3, .int (nI k10), .ref (rf 0)]) ⟨hx, hb, hml, hown, hts⟩ (c_X6_man l D ct Z τ357 0 bst rf k10 3 3 (by omega) rfl (by decide)) (cwV 2 hts (GG w_985 w_987 w_43 w_65 w_988) rfl rfl rfl (by decide) ⟨Nat.le_of_ble_eq_true rfl, Nat.le_of_ble_eq_true rfl⟩) ⟨(blindT fun _ _ _ _ h => h), Ob.recv (hT).1 hP357.o rfl, fun U hU hW => ⟨rfl, hT.warm hW, by rw [hU]; exact hP357⟩⟩ rfl rfl hl.1 rfl (lv_room (Nat.le_of_ble_eq_true rfl)) dX6_go_366 ⟨Nat.le_of_ble_eq_true rfl, Nat.le_of_ble_eq_true rfl⟩) ?_
                        refine lv_iload hx hb dX6_go_369 (lv_at hl 5 rfl) ?_
                        refine lv_iadd hx hb dX6_go_371 ?_
                        refine lv_iload hx hb dX6_go_372 (lv_at hl 6 rfl) ?_
                        refine lv_iadd hx hb dX6_go_374 ?_
                        refine c_s0 (va_runV (As := [.int (nI k10), .int 3, .int (((τ357 2 (4 * k10 + 3)) + dt) + fn)]) (rest := []) ⟨hx, hb, hml, hown, hts⟩ (c_X6_setMan l D ct Z τ357 0 bst rf k10 3 (((τ357 2 (4 * k10 + 3)) + dt) + fn) 3 (by omega) rfl (by decide)) (cwV 3 hts (GG w_1054 w_1056 w_53 w_65 w_1057) rfl rfl rfl (by decide) ⟨Nat.le_of_ble_eq_true rfl, Nat.le_of_ble_eq_true rfl⟩) ⟨(blindT fun _ _ _ _ h => h), Ob.recv (hT).1 hP357.o rfl, fun U hU hW => ⟨rfl, hT.warm hW, by rw [hU]; exact ⟨fun q hq => Nat.lt_of_lt_of_le (hZs q hq) hS357.1, hP357⟩⟩⟩ rfl rfl hl.1 rfl (lv_room (Nat.le_of_ble_eq_true rfl)) dX6_go_375 ⟨Nat.le_of_ble_eq_true rfl, Nat.le_of_ble_eq_true rfl⟩) hS357 (fun H375 locs375 hRr375 hzz375 hS375 => ?_)
                        have hP375 : RP D ct Z (su τ357 2 (4 * k10 + 3) (((τ357 2 (4 * k10 + 3)) + dt) + fn)) (0) bst rf H375 := hRr375
                        obtain ⟨τ375, hτ375⟩ : ∃ τ : Stt, τ = su τ357 2 (4 * k10 + 3) (((τ357 2 (4 * k10 + 3)) + dt) + fn) := ⟨_, rfl⟩
                        rw [← hτ375] at hP375
                        refine lv_aload_n hx hb dX6_go_378 rfl (lv_at hl 0 rfl) ?_
                        refine lv_iload_n hx hb dX6_go_379 rfl (lv_at hl 1 rfl) ?_
                        refine lv_iconst (v := 0) hx hb dX6_go_380 (by decide) ?_
                        refine lv_iload_n hx hb dX6_go_381 rfl (lv_at hl 2 rfl) ?_
                        refine c_s0 (va_runV (As := [.int (nI k10), .int 0, .int (nI t18)]) (rest := []) ⟨hx, hb, hml, hown, hts⟩ (c_X6_setMan l D ct Z τ375 0 bst rf k10 0 (nI t18) 0 (by omega) rfl (by decide)) (cwV 3 hts (GG w_1054 w_1056 w_53 w_65 w_1057) rfl rfl rfl (by decide) ⟨Nat.le_of_ble_eq_true rfl, Nat.le_of_ble_eq_true rfl⟩) ⟨(blindT fun _ _ _ _ h => h), Ob.recv (hT).1 hP375.o rfl, fun U hU hW => ⟨rfl, hT.warm hW, by rw [hU]; exact ⟨fun q hq => Nat.lt_of_lt_of_le (hZs q hq) hS375.1, hP375⟩⟩⟩ rfl rfl hl.1 rfl (lv_room (Nat.le_of_ble_eq_true rfl)) dX6_go_382 ⟨Nat.le_of_ble_eq_true rfl, Nat.le_of_ble_eq_true rfl⟩) hS375 (fun H382 locs382 hRr382 hzz382 hS382 => ?_)
                        have hP382 : RP D ct Z (su τ375 2 (4 * k10) (nI t18)) (0) bst rf H382 := hRr382
                        obtain ⟨τ382, hτ382⟩ : ∃ τ : Stt, τ = su τ375 2 (4 * k10) (nI t18) := ⟨_, rfl⟩
                        rw [← hτ382] at hP382
                        refine lv_aload_n hx hb dX6_go_385 rfl (lv_at hl 0 rfl) ?_
                        refine lv_iload_n hx hb dX6_go_386 rfl (lv_at hl 1 rfl) ?_
                        refine lv_iconst (v := 1) hx hb dX6_go_387 (by decide) ?_
                        refine lv_aload_n hx hb dX6_go_388 rfl (lv_at hl 0 rfl) ?_
                        refine k_get (C := RX6) (T := TX6) (N := 14) hx hb hts inGX6 hown (hT).1 hP382.o rfl 10 (by decide) (hts _ w_882) (fun _ h9 => h9) (v := .ref (rf 1)) rfl dX6_go_389 ?_
                        refine lv_iload hx hb dX6_go_392 (lv_at hl 4 rfl) ?_
                        refine lv_iconst (v := 1) hx hb dX6_go_394 (by decide) ?_
                        refine lv_iadd hx hb dX6_go_395 ?_
                        refine k_iald hx hb (hT).1 hP382.a1 (by rw [(ix_add (rfl : nI (7 * rk nn t18) = nI (7 * rk nn t18)) (rfl : (1 : Int32) = nI 1))]; exact vp_in_nI (by omega : (7 * rk nn t18) + 1 < 700) (by decide)) dX6_go_396 ?_
                        rw [show ((nI (7 * rk nn t18)) + 1 : Int32).toNatClampNeg = (7 * rk nn t18) + 1 from (congrArg Int32.toNatClampNeg (ix_add (rfl : nI (7 * rk nn t18) = nI (7 * rk nn t18)) (rfl : (1 : Int32) = nI 1))).trans (nI_clamp (by omega : (7 * rk nn t18) + 1 < 2 ^ 31))]
                        refine c_s0 (va_runV (As := [.int (nI k10), .int 1, .int (τ382 3 ((7 * rk nn t18) + 1))]) (rest := []) ⟨hx, hb, hml, hown, hts⟩ (c_X6_setMan l D ct Z τ382 0 bst rf k10 1 (τ382 3 ((7 * rk nn t18) + 1)) 1 (by omega) rfl (by decide)) (cwV 3 hts (GG w_1054 w_1056 w_53 w_65 w_1057) rfl rfl rfl (by decide) ⟨Nat.le_of_ble_eq_true rfl, Nat.le_of_ble_eq_true rfl⟩) ⟨(blindT fun _ _ _ _ h => h), Ob.recv (hT).1 hP382.o rfl, fun U hU hW => ⟨rfl, hT.warm hW, by rw [hU]; exact ⟨fun q hq => Nat.lt_of_lt_of_le (hZs q hq) hS382.1, hP382⟩⟩⟩ rfl rfl hl.1 rfl (lv_room (Nat.le_of_ble_eq_true rfl)) dX6_go_397 ⟨Nat.le_of_ble_eq_true rfl, Nat.le_of_ble_eq_true rfl⟩) hS382 (fun H397 locs397 hRr397 hzz397 hS397 => ?_)
                        have hP397 : RP D ct Z (su τ382 2 (4 * k10 + 1) (τ382 3 ((7 * rk nn t18) + 1))) (0) bst rf H397 := hRr397
                        obtain ⟨τ397, hτ397⟩ : ∃ τ : Stt, τ = su τ382 2 (4 * k10 + 1) (τ382 3 ((7 * rk nn t18) + 1)) := ⟨_, rfl⟩
                        rw [← hτ397] at hP397
                        refine lv_iload hx hb dX6_go_400 (lv_at hl 5 rfl) ?_
                        refine lv_iload hx hb dX6_go_402 (lv_at hl 6 rfl) ?_
                        refine lv_iadd hx hb dX6_go_404 ?_
                        have hg := go_eq (σ := σ) (k := k10) (kd := rk nn t18) (c := nI k10) (t := nI t18) (b := b) (dt := dt) (fn := fn) (z := 0) (u := 0) (fun i hi => (hI.2.2.2.1 i hi).2.2.2.2.2) false (Or.inr ⟨rfl, hat, rfl, rfl⟩) hτ182 hτ199 (by rw [hτ205, he205]) hτ319 hτ328 hτ339 hτ357 hτ375 hτ382 hτ397
                        have hfin : τ397 = goS σ (nI k10) (nI t18) b := by
                          unfold goS gfi gow gk
                          rw [ix10, hcnn, ixnn, ix18, ← hdt, ← hfn]
                          exact hg
                        have ho : o_go σ (nI k10) (nI t18) b = (0, dt + fn, τ397) := by simp [o_go, gow, gfi, gk, onW, c_10, ix10, c_18, ix18, c_33, hcnn, ixnn, c_60, hrs, ← hdt, hpu, ← hfn, hfin]
                        exact W.iret (v := dt + fn) hx hb hr (fun t ht hW => ⟨_, rfl, by rw [ht]; exact ⟨by rw [ho], bst, by rw [ho]; exact hP397⟩, hS397.F ht⟩) (fun z h => hS397.2.2 z h) dX6_go_405
                      · -- not taken
                        have nc_211 : ¬ (nR σ) ≤ i := fun z => c_211 ((nI_leI (a := (nR σ)) (b := i) (by omega) (by omega)).mpr z)
                        have hlt205 : i < nR σ := by omega
                        refine lv_aload_n hx hb dX6_go_214 rfl (lv_at hl 0 rfl) ?_
                        refine lv_iload_n hx hb dX6_go_215 rfl (lv_at hl 1 rfl) ?_
                        refine lv_iload hx hb dX6_go_216 (lv_at hl 8 rfl) ?_
                        refine c_p1 (va_runV (As := [.int (nI k10), .int (nI i)]) (rest := []) ⟨hx, hb, hml, hown, hts⟩ (c_X6_has l D ct Z τ205 0 bst rf (nI k10) i (by omega)) (cwV 2 hts (GG w_1022 w_1024 w_48 w_65 w_1025) rfl rfl rfl (by decide) ⟨Nat.le_of_ble_eq_true rfl, Nat.le_of_ble_eq_true rfl⟩) ⟨(blindT fun _ _ _ _ h => h), Ob.recv (hT).1 hP205.o rfl, fun U hU hW => ⟨rfl, hT.warm hW, by rw [hU]; exact hP205⟩⟩ rfl rfl hl.1 rfl (lv_room (Nat.le_of_ble_eq_true rfl)) dX6_go_218 ⟨Nat.le_of_ble_eq_true rfl, Nat.le_of_ble_eq_true rfl⟩) ?_
                        refine lv_if_ne (tgt := 227) hx hb dX6_go_221 (by decide) (fun c_221 => ?_) (fun c_221 => ?_)
                        · -- taken
                          replace c_221 := b2_nz c_221
                          refine lv_aload_n hx hb dX6_go_227 rfl (lv_at hl 0 rfl) ?_
                          refine lv_iload hx hb dX6_go_228 (lv_at hl 8 rfl) ?_
                          refine lv_bipush (v := 6) hx hb dX6_go_230 (by decide) ?_
                          refine c_p1 (va_runV (As := [.int (nI i), .int 6]) (rest := []) ⟨hx, hb, hml, hown, hts⟩ (c_X6_get l D ct Z τ205 0 bst rf i 6 6 (by omega) rfl (by decide)) (cwV 2 hts (GG w_965 w_967 w_39 w_65 w_968) rfl rfl rfl (by decide) ⟨Nat.le_of_ble_eq_true rfl, Nat.le_of_ble_eq_true rfl⟩) ⟨(blindT fun _ _ _ _ h => h), Ob.recv (hT).1 hP205.o rfl, fun U hU hW => ⟨rfl, hT.warm hW, by rw [hU]; exact hP205⟩⟩ rfl rfl hl.1 rfl (lv_room (Nat.le_of_ble_eq_true rfl)) dX6_go_232 ⟨Nat.le_of_ble_eq_true rfl, Nat.le_of_ble_eq_true rfl⟩) ?_
                          refine lv_iconst (v := 1) hx hb dX6_go_235 (by decide) ?_
                          refine lv_icmp_ne (tgt := 255) hx hb dX6_go_236 (by decide) (fun c_236 => ?_) (fun c_236 => ?_)
                          · -- taken
                            refine lv_iload_n hx hb dX6_go_255 rfl (lv_at hl 3 rfl) ?_
                            refine lv_aload_n hx hb dX6_go_256 rfl (lv_at hl 0 rfl) ?_
                            refine lv_iload hx hb dX6_go_257 (lv_at hl 8 rfl) ?_
                            refine lv_iconst (v := 2) hx hb dX6_go_259 (by decide) ?_
                            refine c_p1 (va_runV (As := [.int (nI i), .int 2]) (rest := [.int b]) ⟨hx, hb, hml, hown, hts⟩ (c_X6_get l D ct Z τ205 0 bst rf i 2 2 (by omega) rfl (by decide)) (cwV 2 hts (GG w_965 w_967 w_39 w_65 w_968) rfl rfl rfl (by decide) ⟨Nat.le_of_ble_eq_true rfl, Nat.le_of_ble_eq_true rfl⟩) ⟨(blindT fun _ _ _ _ h => h), Ob.recv (hT).1 hP205.o rfl, fun U hU hW => ⟨rfl, hT.warm hW, by rw [hU]; exact hP205⟩⟩ rfl rfl hl.1 rfl (lv_room (Nat.le_of_ble_eq_true rfl)) dX6_go_260 ⟨Nat.le_of_ble_eq_true rfl, Nat.le_of_ble_eq_true rfl⟩) ?_
                            refine va_mmin hx hb (hml.trans hl.1.symm) hown (hts _ w_942) (hts _ w_551) (hts _ w_73) (hts _ w_552) (Nat.le_of_ble_eq_true rfl) (Nat.le_of_ble_eq_true rfl) (Nat.le_of_ble_eq_true rfl) (Nat.le_of_ble_eq_true rfl) dX6_go_263 ?_
                            refine lv_istore (lv' := [(9, .int (if (τ205 1 (7 * i + 2)) < b then τ205 1 (7 * i + 2) else b)), (0, .ref (rf 0)), (1, .int (nI k10)), (2, .int (nI t18)), (3, .int b), (4, .int (nI (7 * rk nn t18))), (5, .int dt), (6, .int fn), (7, .int 0), (8, .int (nI i))]) hx hb dX6_go_266 hl (by decide) rfl (fun ls hl => ?_)
                            refine lv_aload_n hx hb dX6_go_268 rfl (lv_at hl 1 rfl) ?_
                            refine lv_iload hx hb dX6_go_269 (lv_at hl 9 rfl) ?_
                            refine lv_iconst (v := 2) hx hb dX6_go_271 (by decide) ?_
                            refine lv_aload_n hx hb dX6_go_272 rfl (lv_at hl 1 rfl) ?_
                            refine lv_iload hx hb dX6_go_273 (lv_at hl 9 rfl) ?_
                            refine lv_iconst (v := 2) hx hb dX6_go_275 (by decide) ?_
                            refine c_p1 (va_runV (As := [.int (nI i), .int 2]) (rest := [.int 2, .int (nI i), .ref (rf 0)]) ⟨hx, hb, hml, hown, hts⟩ (c_X6_get l D ct Z τ205 0 bst rf i 2 2 (by omega) rfl (by decide)) (cwV 2 hts (GG w_965 w_967 w_39 w_65 w_968) rfl rfl rfl (by decide) ⟨Nat.le_of_ble_eq_true rfl, Nat.le_of_ble_eq_true rfl⟩) ⟨(blindT fun _ _ _ _ h => h), Ob.recv (hT).1 hP205.o rfl, fun U hU hW => ⟨rfl, hT.warm hW, by rw [hU]; exact hP205⟩⟩ rfl rfl hl.1 rfl (lv_room (Nat.le_of_ble_eq_true rfl)) dX6_go_276 ⟨Nat.le_of_ble_eq_true rfl, Nat.le_of_ble_eq_true rfl⟩) ?_
                            refine lv_iload hx hb dX6_go_279 (lv_at hl 0 rfl) ?_
                            refine lv_isub hx hb dX6_go_281 ?_
                            refine c_s0 (va_runV (As := [.int (nI i), .int 2, .int ((τ205 1 (7 * i + 2)) - (if (τ205 1 (7 * i + 2)) < b then τ205 1 (7 * i + 2) else b))]) (rest := []) ⟨hx, hb, hml, hown, hts⟩ (c_X6_set l D ct Z τ205 0 bst rf i 2 ((τ205 1 (7 * i + 2)) - (if (τ205 1 (7 * i + 2)) < b then τ205 1 (7 * i + 2) else b)) 2 (by omega) rfl (by decide)) (cwV 3 hts (GG w_1014 w_1016 w_47 w_65 w_1017) rfl rfl rfl (by decide) ⟨Nat.le_of_ble_eq_true rfl, Nat.le_of_ble_eq_true rfl⟩) ⟨(blindT fun _ _ _ _ h => h), Ob.recv (hT).1 hP205.o rfl, fun U hU hW => ⟨rfl, hT.warm hW, by rw [hU]; exact ⟨fun q hq => Nat.lt_of_lt_of_le (hZs q hq) hS205.1, hP205⟩⟩⟩ rfl rfl hl.1 rfl (lv_room (Nat.le_of_ble_eq_true rfl)) dX6_go_282 ⟨Nat.le_of_ble_eq_true rfl, Nat.le_of_ble_eq_true rfl⟩) hS205 (fun H282 locs282 hRr282 hzz282 hS282 => ?_)
                            have hP282 : RP D ct Z (su τ205 1 (7 * i + 2) ((τ205 1 (7 * i + 2)) - (if (τ205 1 (7 * i + 2)) < b then τ205 1 (7 * i + 2) else b))) (0) bst rf H282 := hRr282
                            obtain ⟨τ282, hτ282⟩ : ∃ τ : Stt, τ = su τ205 1 (7 * i + 2) ((τ205 1 (7 * i + 2)) - (if (τ205 1 (7 * i + 2)) < b then τ205 1 (7 * i + 2) else b)) := ⟨_, rfl⟩
                            rw [← hτ282] at hP282
                            refine lv_aload_n hx hb dX6_go_285 rfl (lv_at hl 1 rfl) ?_
                            refine lv_dup hx hb dX6_go_286 rfl ?_
                            refine k_get (C := RX6) (T := TX6) (N := 14) hx hb hts inGX6 hown (hT).1 hP282.o rfl 6 (by decide) (hts _ w_878) (fun _ h9 => h9) (v := .int (τ282 0 5)) rfl dX6_go_287 ?_
                            have hv290 : τ282 0 5 = τ205 0 5 := by rw [hτ282, su_k (by decide)]
                            rw [hv290]
                            refine lv_iload hx hb dX6_go_290 (lv_at hl 0 rfl) ?_
                            refine lv_iadd hx hb dX6_go_292 ?_
                            refine k_put (C := RX6) (T := TX6) (N := 14) hx hb hts inGX6 tyX6 tyX6_ok nmX6 hown (hT).1 hP282.o hS282 (hP282.nz (by decide)) rfl 6 (Nat.le_of_ble_eq_true rfl) (hts _ w_878) (fun _ h9 => h9) rfl (ty := .int) (v := .int ((τ205 0 5) + (if (τ205 1 (7 * i + 2)) < b then τ205 1 (7 * i + 2) else b))) (by decide +kernel) rfl rfl (Nat.le_of_ble_eq_true rfl) dX6_go_293 (fun H293 locs293 hO293 hz293 hq293 hS293 => ?_)
                            have hO293 : Ob D (rf 0) 7 [.int 0, .int (τ282 0 0), .int (τ282 0 1), .int (τ282 0 2), .int (τ282 0 3), .int (τ282 0 4), .int ((τ205 0 5) + (if (τ205 1 (7 * i + 2)) < b then τ205 1 (7 * i + 2) else b)), .int (τ282 0 6), .int (τ282 0 7), .int (τ282 0 8), .ref (rf 1), .ref (rf 2), .ref (rf 3), .ref (rf 4)] H293 := hO293
                            have hP293 : RP D ct Z (su τ282 0 5 ((τ205 0 5) + (if (τ205 1 (7 * i + 2)) < b then τ205 1 (7 * i + 2) else b))) (0) bst rf H293 := hP282.s0 5 ((τ205 0 5) + (if (τ205 1 (7 * i + 2)) < b then τ205 1 (7 * i + 2) else b)) hO293 hq293
                            obtain ⟨τ293, hτ293⟩ : ∃ τ : Stt, τ = su τ282 0 5 ((τ205 0 5) + (if (τ205 1 (7 * i + 2)) < b then τ205 1 (7 * i + 2) else b)) := ⟨_, rfl⟩
                            rw [← hτ293] at hP293
                            refine lv_iinc (v := nI (i + 1)) (lv' := [(8, .int (nI (i + 1))), (9, .int (if (τ205 1 (7 * i + 2)) < b then τ205 1 (7 * i + 2) else b)), (0, .ref (rf 0)), (1, .int (nI k10)), (2, .int (nI t18)), (3, .int b), (4, .int (nI (7 * rk nn t18))), (5, .int dt), (6, .int fn), (7, .int 0)]) hx hb dX6_go_296 hl (k := 9) rfl (nI_1 i) (by decide) rfl (fun ls hl => ?_)
                            refine lv_goto (tgt := 205) hx hb dX6_go_299 (by decide) ?_
                            exact ih205 (i + 1) _ _ (by omega) (by omega) (by rw [show goRN τ199 (nI k10) b false (i + 1) = τ293 from (show goR1 (goRN τ199 (nI k10) b false i) (nI k10) b false i = _ from by unfold goR1 burn1; rw [← hτ205, if_pos c_221, if_neg c_236]; rw [hτ293, hτ282]; rfl)]; exact hP293) hS293 ls (lv_sub hl [2, 3, 4, 5, 6, 7, 8, 9, 0] rfl)
                          · -- not taken
                            refine lv_iload hx hb dX6_go_239 (lv_at hl 7 rfl) ?_
                            refine lv_if_eq (tgt := 296) hx hb dX6_go_241 (by decide) (fun _ => ?_) (fun c_ => absurd (by decide) c_)
                            refine lv_iinc (v := nI (i + 1)) (lv' := [(8, .int (nI (i + 1))), (0, .ref (rf 0)), (1, .int (nI k10)), (2, .int (nI t18)), (3, .int b), (4, .int (nI (7 * rk nn t18))), (5, .int dt), (6, .int fn), (7, .int 0)]) hx hb dX6_go_296 hl (k := 8) rfl (nI_1 i) (by decide) rfl (fun ls hl => ?_)
                            refine lv_goto (tgt := 205) hx hb dX6_go_299 (by decide) ?_
                            exact ih205 (i + 1) _ _ (by omega) (by omega) (by rw [show goRN τ199 (nI k10) b false (i + 1) = τ205 from (show goR1 (goRN τ199 (nI k10) b false i) (nI k10) b false i = _ from by unfold goR1; rw [← hτ205, if_pos c_221, if_pos c_236, if_neg (by decide)])]; exact hP205) hS205 ls (lv_sub hl [1, 2, 3, 4, 5, 6, 7, 8, 0] rfl)
                        · -- not taken
                          replace c_221 := b2_z c_221
                          refine lv_goto (tgt := 296) hx hb dX6_go_224 (by decide) ?_
                          refine lv_iinc (v := nI (i + 1)) (lv' := [(8, .int (nI (i + 1))), (0, .ref (rf 0)), (1, .int (nI k10)), (2, .int (nI t18)), (3, .int b), (4, .int (nI (7 * rk nn t18))), (5, .int dt), (6, .int fn), (7, .int 0)]) hx hb dX6_go_296 hl (k := 8) rfl (nI_1 i) (by decide) rfl (fun ls hl => ?_)
                          refine lv_goto (tgt := 205) hx hb dX6_go_299 (by decide) ?_
                          exact ih205 (i + 1) _ _ (by omega) (by omega) (by rw [show goRN τ199 (nI k10) b false (i + 1) = τ205 from (show goR1 (goRN τ199 (nI k10) b false i) (nI k10) b false i = _ from by unfold goR1; rw [← hτ205, if_neg c_221])]; exact hP205) hS205 ls (lv_sub hl [1, 2, 3, 4, 5, 6, 7, 8, 0] rfl)
                  exact loop205 (nR σ + 1 - 0) 0 _ _ (Nat.zero_le _) (by omega) hP199 hS199 ls (lv_sub hl [5, 6, 7, 8, 4, 3, 2, 1, 0] rfl)
                · -- found 1
                  rw [b2_t hat]
                  refine lv_istore (lv' := [(7, .int 1), (6, .int fn), (5, .int dt), (4, .int (nI (7 * rk nn t18))), (0, .ref (rf 0)), (1, .int (nI k10)), (2, .int (nI t18)), (3, .int b)]) hx hb dX6_go_141 hl (by decide) rfl (fun ls hl => ?_)
                  refine lv_aload_n hx hb dX6_go_143 rfl (lv_at hl 4 rfl) ?_
                  refine k_get (C := RX6) (T := TX6) (N := 14) hx hb hts inGX6 hown (hT).1 hP2.o rfl 10 (by decide) (hts _ w_882) (fun _ h9 => h9) (v := .ref (rf 1)) rfl dX6_go_144 ?_
                  refine lv_iload hx hb dX6_go_147 (lv_at hl 3 rfl) ?_
                  refine lv_iconst (v := 5) hx hb dX6_go_149 (by decide) ?_
                  refine lv_iadd hx hb dX6_go_150 ?_
                  refine lv_dup2_11 hx hb dX6_go_151 rfl rfl ?_
                  refine k_iald hx hb (hT).1 hP2.a1 (by rw [(ix_add (rfl : nI (7 * rk nn t18) = nI (7 * rk nn t18)) (rfl : (5 : Int32) = nI 5))]; exact vp_in_nI (by omega : (7 * rk nn t18) + 5 < 700) (by decide)) dX6_go_152 ?_
                  rw [show ((nI (7 * rk nn t18)) + 5 : Int32).toNatClampNeg = (7 * rk nn t18) + 5 from (congrArg Int32.toNatClampNeg (ix_add (rfl : nI (7 * rk nn t18) = nI (7 * rk nn t18)) (rfl : (5 : Int32) = nI 5))).trans (nI_clamp (by omega : (7 * rk nn t18) + 5 < 2 ^ 31))]
                  refine lv_aload_n hx hb dX6_go_153 rfl (lv_at hl 4 rfl) ?_
                  refine k_get (C := RX6) (T := TX6) (N := 14) hx hb hts inGX6 hown (hT).1 hP2.o rfl 10 (by decide) (hts _ w_882) (fun _ h9 => h9) (v := .ref (rf 1)) rfl dX6_go_154 ?_
                  refine lv_iload hx hb dX6_go_157 (lv_at hl 3 rfl) ?_
                  refine lv_iconst (v := 4) hx hb dX6_go_159 (by decide) ?_
                  refine lv_iadd hx hb dX6_go_160 ?_
                  refine k_iald hx hb (hT).1 hP2.a1 (by rw [(ix_add (rfl : nI (7 * rk nn t18) = nI (7 * rk nn t18)) (rfl : (4 : Int32) = nI 4))]; exact vp_in_nI (by omega : (7 * rk nn t18) + 4 < 700) (by decide)) dX6_go_161 ?_
                  rw [show ((nI (7 * rk nn t18)) + 4 : Int32).toNatClampNeg = (7 * rk nn t18) + 4 from (congrArg Int32.toNatClampNeg (ix_add (rfl : nI (7 * rk nn t18) = nI (7 * rk nn t18)) (rfl : (4 : Int32) = nI 4))).trans (nI_clamp (by omega : (7 * rk nn t18) + 4 < 2 ^ 31))]
                  refine lv_aload_n hx hb dX6_go_162 rfl (lv_at hl 4 rfl) ?_
                  refine lv_iload_n hx hb dX6_go_163 rfl (lv_at hl 5 rfl) ?_
                  refine lv_iconst (v := 1) hx hb dX6_go_164 (by decide) ?_
                  refine c_p1 (va_runV (As := [.int (nI k10), .int 1]) (rest := [.int (σ 3 ((7 * rk nn t18) + 4)), .int (σ 3 ((7 * rk nn t18) + 5)), .int ((nI (7 * rk nn t18)) + 5), .ref (rf 1)]) ⟨hx, hb, hml, hown, hts⟩ (c_X6_inBag1 l D ct Z σ 0 bst rf (nI k10) hR1 hR60) (cwV 2 hts (GG w_1006 w_1008 w_45 w_65 w_1009) rfl rfl rfl (by decide) ⟨Nat.le_of_ble_eq_true rfl, Nat.le_of_ble_eq_true rfl⟩) ⟨(blindT fun _ _ _ _ h => h), Ob.recv (hT).1 hP2.o rfl, fun U hU hW => ⟨rfl, hT.warm hW, by rw [hU]; exact hP2⟩⟩ rfl rfl hl.1 rfl (lv_room (Nat.le_of_ble_eq_true rfl)) dX6_go_165 ⟨Nat.le_of_ble_eq_true rfl, Nat.le_of_ble_eq_true rfl⟩) ?_
                  refine lv_iadd hx hb dX6_go_168 ?_
                  refine lv_iload hx hb dX6_go_169 (lv_at hl 0 rfl) ?_
                  refine lv_if_eq (tgt := 179) hx hb dX6_go_171 (by decide) (fun c_ => absurd c_ (by decide)) (fun _ => ?_)
                  refine lv_bipush (v := 10) hx hb dX6_go_174 (by decide) ?_
                  refine lv_goto (tgt := 180) hx hb dX6_go_176 (by decide) ?_
                  refine lv_isub hx hb dX6_go_180 ?_
                  refine lv_iadd hx hb dX6_go_181 ?_
                  refine k_iast hx hb (hT).1 hS2 (hP2.nz (i := 1) (by decide)) hP2.a1 (by rw [(ix_add (rfl : nI (7 * rk nn t18) = nI (7 * rk nn t18)) (rfl : (5 : Int32) = nI 5))]; exact vp_in_nI (by omega : (7 * rk nn t18) + 5 < 700) (by decide)) dX6_go_182 (fun H182 locs182 hA182 hz182 hq182 hS182 => ?_)
                  rw [show ((nI (7 * rk nn t18)) + 5 : Int32).toNatClampNeg = (7 * rk nn t18) + 5 from (congrArg Int32.toNatClampNeg (ix_add (rfl : nI (7 * rk nn t18) = nI (7 * rk nn t18)) (rfl : (5 : Int32) = nI 5))).trans (nI_clamp (by omega : (7 * rk nn t18) + 5 < 2 ^ 31))] at hA182
                  have hP182 : RP D ct Z (su σ 3 ((7 * rk nn t18) + 5) ((σ 3 ((7 * rk nn t18) + 5)) + (((σ 3 ((7 * rk nn t18) + 4)) + (hidB σ (nI k10))) - 10))) (0) bst rf H182 := hP2.s3 ((7 * rk nn t18) + 5) ((σ 3 ((7 * rk nn t18) + 5)) + (((σ 3 ((7 * rk nn t18) + 4)) + (hidB σ (nI k10))) - 10)) hA182 hq182
                  obtain ⟨τ182, hτ182⟩ : ∃ τ : Stt, τ = su σ 3 ((7 * rk nn t18) + 5) ((σ 3 ((7 * rk nn t18) + 5)) + (((σ 3 ((7 * rk nn t18) + 4)) + (hidB σ (nI k10))) - 10)) := ⟨_, rfl⟩
                  rw [← hτ182] at hP182
                  refine lv_aload_n hx hb dX6_go_183 rfl (lv_at hl 4 rfl) ?_
                  refine lv_dup hx hb dX6_go_184 rfl ?_
                  refine k_get (C := RX6) (T := TX6) (N := 14) hx hb hts inGX6 hown (hT).1 hP182.o rfl 9 (by decide) (hts _ w_881) (fun _ h9 => h9) (v := .int (τ182 0 8)) rfl dX6_go_185 ?_
                  refine lv_iload hx hb dX6_go_188 (lv_at hl 0 rfl) ?_
                  refine lv_if_eq (tgt := 197) hx hb dX6_go_190 (by decide) (fun c_ => absurd c_ (by decide)) (fun _ => ?_)
                  refine lv_iconst (v := 1) hx hb dX6_go_193 (by decide) ?_
                  refine lv_goto (tgt := 198) hx hb dX6_go_194 (by decide) ?_
                  refine lv_iadd hx hb dX6_go_198 ?_
                  refine k_put (C := RX6) (T := TX6) (N := 14) hx hb hts inGX6 tyX6 tyX6_ok nmX6 hown (hT).1 hP182.o hS182 (hP182.nz (by decide)) rfl 9 (Nat.le_of_ble_eq_true rfl) (hts _ w_881) (fun _ h9 => h9) rfl (ty := .int) (v := .int ((τ182 0 8) + 1)) (by decide +kernel) rfl rfl (Nat.le_of_ble_eq_true rfl) dX6_go_199 (fun H199 locs199 hO199 hz199 hq199 hS199 => ?_)
                  have hO199 : Ob D (rf 0) 7 [.int 0, .int (τ182 0 0), .int (τ182 0 1), .int (τ182 0 2), .int (τ182 0 3), .int (τ182 0 4), .int (τ182 0 5), .int (τ182 0 6), .int (τ182 0 7), .int ((τ182 0 8) + 1), .ref (rf 1), .ref (rf 2), .ref (rf 3), .ref (rf 4)] H199 := hO199
                  have hP199 : RP D ct Z (su τ182 0 8 ((τ182 0 8) + 1)) (0) bst rf H199 := hP182.s0 8 ((τ182 0 8) + 1) hO199 hq199
                  obtain ⟨τ199, hτ199⟩ : ∃ τ : Stt, τ = su τ182 0 8 ((τ182 0 8) + 1) := ⟨_, rfl⟩
                  rw [← hτ199] at hP199
                  refine lv_iconst (v := 0) hx hb dX6_go_202 (by decide) ?_
                  refine lv_istore (lv' := [(8, .int 0), (7, .int 1), (6, .int fn), (5, .int dt), (4, .int (nI (7 * rk nn t18))), (0, .ref (rf 0)), (1, .int (nI k10)), (2, .int (nI t18)), (3, .int b)]) hx hb dX6_go_203 hl (by decide) rfl (fun ls hl => ?_)
                  have loop205 : ∀ (n205 i : Nat) (H : Heap) (locs : List Loc), i ≤ nR σ → nR σ - i < n205 → RP D ct Z (goRN τ199 (nI k10) b true i) 0 bst rf H → va_S (nZ Z) s.heap H locs → ∀ ls, lv_has ls 10 [(0, .ref (rf 0)), (1, .int (nI k10)), (2, .int (nI t18)), (3, .int b), (4, .int (nI (7 * rk nn t18))), (5, .int dt), (6, .int fn), (7, .int 1), (8, .int (nI i))] → W pg l e ({ frames := 4, cells := 0, slots := 0, locals := 93 } : Room) s m args below meth cd H locs 0 0 (MQ below (qS1 Z (fun x h => x = .int (o_go σ (nI k10) (nI t18) b).2.1 ∧ ∃ b1, RP D ct Z (o_go σ (nI k10) (nI t18) b).2.2 (nI (o_go σ (nI k10) (nI t18) b).1) b1 rf h)) args s 0 0 (nZ Z)) (F0 m 205 ls []) := by
                    intro n205
                    induction n205 with
                    | zero => intro i H locs  _ z; omega
                    | succ n205 ih205 =>
                      intro i H205 locs205  hi205 hn205 hP205 hS205 ls hl
                      obtain ⟨τ205, hτ205⟩ : ∃ τ : Stt, τ = goRN τ199 (nI k10) b true i := ⟨_, rfl⟩
                      rw [← hτ205] at hP205
                      refine lv_iload hx hb dX6_go_205 (lv_at hl 8 rfl) ?_
                      refine lv_aload_n hx hb dX6_go_207 rfl (lv_at hl 0 rfl) ?_
                      refine k_get (C := RX6) (T := TX6) (N := 14) hx hb hts inGX6 hown (hT).1 hP205.o rfl 4 (by decide) (hts _ w_876) (fun _ h9 => h9) (v := .int (τ205 0 3)) rfl dX6_go_208 ?_
                      have hv211 : τ205 0 3 = nI (nR σ) := by rw [hτ205, goRN_o _ _ _ _ _ (by decide) (by decide), hτ199, su_j (by decide), hτ182, su_k (by decide)]; exact hR1
                      rw [hv211]
                      refine lv_icmp_ge (tgt := 302) hx hb dX6_go_211 (by decide) (fun c_211 => ?_) (fun c_211 => ?_)
                      · -- taken
                        have nc_211 : (nR σ) ≤ i := (nI_leI (a := (nR σ)) (b := i) (by omega) (by omega)).mp c_211
                        have he205 : i = nR σ := by omega
                        refine lv_aload_n hx hb dX6_go_302 rfl (lv_at hl 0 rfl) ?_
                        refine k_get (C := RX6) (T := TX6) (N := 14) hx hb hts inGX6 hown (hT).1 hP205.o rfl 10 (by decide) (hts _ w_882) (fun _ h9 => h9) (v := .ref (rf 1)) rfl dX6_go_303 ?_
                        refine lv_iload hx hb dX6_go_306 (lv_at hl 4 rfl) ?_
                        refine lv_bipush (v := 6) hx hb dX6_go_308 (by decide) ?_
                        refine lv_iadd hx hb dX6_go_310 ?_
                        refine lv_dup2_11 hx hb dX6_go_311 rfl rfl ?_
                        refine k_iald hx hb (hT).1 hP205.a1 (by rw [(ix_add (rfl : nI (7 * rk nn t18) = nI (7 * rk nn t18)) (rfl : (6 : Int32) = nI 6))]; exact vp_in_nI (by omega : (7 * rk nn t18) + 6 < 700) (by decide)) dX6_go_312 ?_
                        rw [show ((nI (7 * rk nn t18)) + 6 : Int32).toNatClampNeg = (7 * rk nn t18) + 6 from (congrArg Int32.toNatClampNeg (ix_add (rfl : nI (7 * rk nn t18) = nI (7 * rk nn t18)) (rfl : (6 : Int32) = nI 6))).trans (nI_clamp (by omega : (7 * rk nn t18) + 6 < 2 ^ 31))]
                        refine lv_iload hx hb dX6_go_313 (lv_at hl 5 rfl) ?_
                        refine lv_iload hx hb dX6_go_315 (lv_at hl 6 rfl) ?_
                        refine lv_iadd hx hb dX6_go_317 ?_
                        refine lv_iadd hx hb dX6_go_318 ?_
                        refine k_iast hx hb (hT).1 hS205 (hP205.nz (i := 1) (by decide)) hP205.a1 (by rw [(ix_add (rfl : nI (7 * rk nn t18) = nI (7 * rk nn t18)) (rfl : (6 : Int32) = nI 6))]; exact vp_in_nI (by omega : (7 * rk nn t18) + 6 < 700) (by decide)) dX6_go_319 (fun H319 locs319 hA319 hz319 hq319 hS319 => ?_)
                        rw [show ((nI (7 * rk nn t18)) + 6 : Int32).toNatClampNeg = (7 * rk nn t18) + 6 from (congrArg Int32.toNatClampNeg (ix_add (rfl : nI (7 * rk nn t18) = nI (7 * rk nn t18)) (rfl : (6 : Int32) = nI 6))).trans (nI_clamp (by omega : (7 * rk nn t18) + 6 < 2 ^ 31))] at hA319
                        have hP319 : RP D ct Z (su τ205 3 ((7 * rk nn t18) + 6) ((τ205 3 ((7 * rk nn t18) + 6)) + (dt + fn))) (0) bst rf H319 := hP205.s3 ((7 * rk nn t18) + 6) ((τ205 3 ((7 * rk nn t18) + 6)) + (dt + fn)) hA319 hq319
                        obtain ⟨τ319, hτ319⟩ : ∃ τ : Stt, τ = su τ205 3 ((7 * rk nn t18) + 6) ((τ205 3 ((7 * rk nn t18) + 6)) + (dt + fn)) := ⟨_, rfl⟩
                        rw [← hτ319] at hP319
                        refine lv_aload_n hx hb dX6_go_320 rfl (lv_at hl 0 rfl) ?_
                        refine lv_dup hx hb dX6_go_321 rfl ?_
                        refine k_get (C := RX6) (T := TX6) (N := 14) hx hb hts inGX6 hown (hT).1 hP319.o rfl 7 (by decide) (hts _ w_879) (fun _ h9 => h9) (v := .int (τ319 0 6)) rfl dX6_go_322 ?_
                        refine lv_iload hx hb dX6_go_325 (lv_at hl 5 rfl) ?_
                        refine lv_iadd hx hb dX6_go_327 ?_
                        refine k_put (C := RX6) (T := TX6) (N := 14) hx hb hts inGX6 tyX6 tyX6_ok nmX6 hown (hT).1 hP319.o hS319 (hP319.nz (by decide)) rfl 7 (Nat.le_of_ble_eq_true rfl) (hts _ w_879) (fun _ h9 => h9) rfl (ty := .int) (v := .int ((τ319 0 6) + dt)) (by decide +kernel) rfl rfl (Nat.le_of_ble_eq_true rfl) dX6_go_328 (fun H328 locs328 hO328 hz328 hq328 hS328 => ?_)
                        have hO328 : Ob D (rf 0) 7 [.int 0, .int (τ319 0 0), .int (τ319 0 1), .int (τ319 0 2), .int (τ319 0 3), .int (τ319 0 4), .int (τ319 0 5), .int ((τ319 0 6) + dt), .int (τ319 0 7), .int (τ319 0 8), .ref (rf 1), .ref (rf 2), .ref (rf 3), .ref (rf 4)] H328 := hO328
                        have hP328 : RP D ct Z (su τ319 0 6 ((τ319 0 6) + dt)) (0) bst rf H328 := hP319.s0 6 ((τ319 0 6) + dt) hO328 hq328
                        obtain ⟨τ328, hτ328⟩ : ∃ τ : Stt, τ = su τ319 0 6 ((τ319 0 6) + dt) := ⟨_, rfl⟩
                        rw [← hτ328] at hP328
                        refine lv_aload_n hx hb dX6_go_331 rfl (lv_at hl 0 rfl) ?_
                        refine lv_dup hx hb dX6_go_332 rfl ?_
                        refine k_get (C := RX6) (T := TX6) (N := 14) hx hb hts inGX6 hown (hT).1 hP328.o rfl 8 (by decide) (hts _ w_880) (fun _ h9 => h9) (v := .int (τ328 0 7)) rfl dX6_go_333 ?_
                        refine lv_iload hx hb dX6_go_336 (lv_at hl 6 rfl) ?_
                        refine lv_iadd hx hb dX6_go_338 ?_
                        refine k_put (C := RX6) (T := TX6) (N := 14) hx hb hts inGX6 tyX6 tyX6_ok nmX6 hown (hT).1 hP328.o hS328 (hP328.nz (by decide)) rfl 8 (Nat.le_of_ble_eq_true rfl) (hts _ w_880) (fun _ h9 => h9) rfl (ty := .int) (v := .int ((τ328 0 7) + fn)) (by decide +kernel) rfl rfl (Nat.le_of_ble_eq_true rfl) dX6_go_339 (fun H339 locs339 hO339 hz339 hq339 hS339 => ?_)
                        have hO339 : Ob D (rf 0) 7 [.int 0, .int (τ328 0 0), .int (τ328 0 1), .int (τ328 0 2), .int (τ328 0 3), .int (τ328 0 4), .int (τ328 0 5), .int (τ328 0 6), .int ((τ328 0 7) + fn), .int (τ328 0 8), .ref (rf 1), .ref (rf 2), .ref (rf 3), .ref (rf 4)] H339 := hO339
                        have hP339 : RP D ct Z (su τ328 0 7 ((τ328 0 7) + fn)) (0) bst rf H339 := hP328.s0 7 ((τ328 0 7) + fn) hO339 hq339
                        obtain ⟨τ339, hτ339⟩ : ∃ τ : Stt, τ = su τ328 0 7 ((τ328 0 7) + fn) := ⟨_, rfl⟩
                        rw [← hτ339] at hP339
                        refine lv_aload_n hx hb dX6_go_342 rfl (lv_at hl 0 rfl) ?_
                        refine lv_iload_n hx hb dX6_go_343 rfl (lv_at hl 1 rfl) ?_
                        refine lv_iconst (v := 2) hx hb dX6_go_344 (by decide) ?_
                        refine lv_aload_n hx hb dX6_go_345 rfl (lv_at hl 0 rfl) ?_
                        refine lv_iload_n hx hb dX6_go_346 rfl (lv_at hl 1 rfl) ?_
                        refine lv_iconst (v := 2) hx hb dX6_go_347 (by decide) ?_
                        refine c_p1 (va_runV (As := [.int (nI k10), .int 2]) (rest := [.int 2, .int (nI k10), .ref (rf 0)]) ⟨hx, hb, hml, hown, hts⟩ (c_X6_man l D ct Z τ339 0 bst rf k10 2 2 (by omega) rfl (by decide)) (cwV 2 hts (GG w_985 w_987 w_43 w_65 w_988) rfl rfl rfl (by decide) ⟨Nat.le_of_ble_eq_true rfl, Nat.le_of_ble_eq_true rfl⟩) ⟨(blindT fun _ _ _ _ h => h), Ob.recv (hT).1 hP339.o rfl, fun U hU hW => ⟨rfl, hT.warm hW, by rw [hU]; exact hP339⟩⟩ rfl rfl hl.1 rfl (lv_room (Nat.le_of_ble_eq_true rfl)) dX6_go_348 ⟨Nat.le_of_ble_eq_true rfl, Nat.le_of_ble_eq_true rfl⟩) ?_
                        refine lv_iload hx hb dX6_go_351 (lv_at hl 5 rfl) ?_
                        refine lv_isub hx hb dX6_go_353 ?_
                        refine lv_iload hx hb dX6_go_354 (lv_at hl 6 rfl) ?_
                        refine lv_isub hx hb dX6_go_356 ?_
                        refine c_s0 (va_runV (As := [.int (nI k10), .int 2, .int (((τ339 2 (4 * k10 + 2)) - dt) - fn)]) (rest := []) ⟨hx, hb, hml, hown, hts⟩ (c_X6_setMan l D ct Z τ339 0 bst rf k10 2 (((τ339 2 (4 * k10 + 2)) - dt) - fn) 2 (by omega) rfl (by decide)) (cwV 3 hts (GG w_1054 w_1056 w_53 w_65 w_1057) rfl rfl rfl (by decide) ⟨Nat.le_of_ble_eq_true rfl, Nat.le_of_ble_eq_true rfl⟩) ⟨(blindT fun _ _ _ _ h => h), Ob.recv (hT).1 hP339.o rfl, fun U hU hW => ⟨rfl, hT.warm hW, by rw [hU]; exact ⟨fun q hq => Nat.lt_of_lt_of_le (hZs q hq) hS339.1, hP339⟩⟩⟩ rfl rfl hl.1 rfl (lv_room (Nat.le_of_ble_eq_true rfl)) dX6_go_357 ⟨Nat.le_of_ble_eq_true rfl, Nat.le_of_ble_eq_true rfl⟩) hS339 (fun H357 locs357 hRr357 hzz357 hS357 => ?_)
                        have hP357 : RP D ct Z (su τ339 2 (4 * k10 + 2) (((τ339 2 (4 * k10 + 2)) - dt) - fn)) (0) bst rf H357 := hRr357
                        obtain ⟨τ357, hτ357⟩ : ∃ τ : Stt, τ = su τ339 2 (4 * k10 + 2) (((τ339 2 (4 * k10 + 2)) - dt) - fn) := ⟨_, rfl⟩
                        rw [← hτ357] at hP357
                        refine lv_aload_n hx hb dX6_go_360 rfl (lv_at hl 0 rfl) ?_
                        refine lv_iload_n hx hb dX6_go_361 rfl (lv_at hl 1 rfl) ?_
                        refine lv_iconst (v := 3) hx hb dX6_go_362 (by decide) ?_
                        refine lv_aload_n hx hb dX6_go_363 rfl (lv_at hl 0 rfl) ?_
                        refine lv_iload_n hx hb dX6_go_364 rfl (lv_at hl 1 rfl) ?_
                        refine lv_iconst (v := 3) hx hb dX6_go_365 (by decide) ?_
                        refine c_p1 (va_runV (As := [.int (nI k10), .int 3]) (rest := [.int 3, .int (nI k10), .ref (rf 0)]) ⟨hx, hb, hml, hown, hts⟩ (c_X6_man l D ct Z τ357 0 bst rf k10 3 3 (by omega) rfl (by decide)) (cwV 2 hts (GG w_985 w_987 w_43 w_65 w_988) rfl rfl rfl (by decide) ⟨Nat.le_of_ble_eq_true rfl, Nat.le_of_ble_eq_true rfl⟩) ⟨(blindT fun _ _ _ _ h => h), Ob.recv (hT).1 hP357.o rfl, fun U hU hW => ⟨rfl, hT.warm hW, by rw [hU]; exact hP357⟩⟩ rfl rfl hl.1 rfl (lv_room (Nat.le_of_ble_eq_true rfl)) dX6_go_366 ⟨Nat.le_of_ble_eq_true rfl, Nat.le_of_ble_eq_true rfl⟩) ?_
                        refine lv_iload hx hb dX6_go_369 (lv_at hl 5 rfl) ?_
                        refine lv_iadd hx hb dX6_go_371 ?_
                        refine lv_iload hx hb dX6_go_372 (lv_at hl 6 rfl) ?_
                        refine lv_iadd hx hb dX6_go_374 ?_
                        refine c_s0 (va_runV (As := [.int (nI k10), .int 3, .int (((τ357 2 (4 * k10 + 3)) + dt) + fn)]) (rest := []) ⟨hx, hb, hml, hown, hts⟩ (c_X6_setMan l D ct Z τ357 0 bst rf k10 3 (((τ357 2 (4 * k10 + 3)) + dt) + fn) 3 (by omega) rfl (by decide)) (cwV 3 hts (GG w_1054 w_1056 w_53 w_65 w_1057) rfl rfl rfl (by decide) ⟨Nat.le_of_ble_eq_true rfl, Nat.le_of_ble_eq_true rfl⟩) ⟨(blindT fun _ _ _ _ h => h), Ob.recv (hT).1 hP357.o rfl, fun U hU hW => ⟨rfl, hT.warm hW, by rw [hU]; exact ⟨fun q hq => Nat.lt_of_lt_of_le (hZs q hq) hS357.1, hP357⟩⟩⟩ rfl rfl hl.1 rfl (lv_room (Nat.le_of_ble_eq_true rfl)) dX6_go_375 ⟨Nat.le_of_ble_eq_true rfl, Nat.le_of_ble_eq_true rfl⟩) hS357 (fun H375 locs375 hRr375 hzz375 hS375 => ?_)
                        have hP375 : RP D ct Z (su τ357 2 (4 * k10 + 3) (((τ357 2 (4 * k10 + 3)) + dt) + fn)) (0) bst rf H375 := hRr375
                        obtain ⟨τ375, hτ375⟩ : ∃ τ : Stt, τ = su τ357 2 (4 * k10 + 3) (((τ357 2 (4 * k10 + 3)) + dt) + fn) := ⟨_, rfl⟩
                        rw [← hτ375] at hP375
                        refine lv_aload_n hx hb dX6_go_378 rfl (lv_at hl 0 rfl) ?_
                        refine lv_iload_n hx hb dX6_go_379 rfl (lv_at hl 1 rfl) ?_
                        refine lv_iconst (v := 0) hx hb dX6_go_380 (by decide) ?_
                        refine lv_iload_n hx hb dX6_go_381 rfl (lv_at hl 2 rfl) ?_
                        refine c_s0 (va_runV (As := [.int (nI k10), .int 0, .int (nI t18)]) (rest := []) ⟨hx, hb, hml, hown, hts⟩ (c_X6_setMan l D ct Z τ375 0 bst rf k10 0 (nI t18) 0 (by omega) rfl (by decide)) (cwV 3 hts (GG w_1054 w_1056 w_53 w_65 w_1057) rfl rfl rfl (by decide) ⟨Nat.le_of_ble_eq_true rfl, Nat.le_of_ble_eq_true rfl⟩) ⟨(blindT fun _ _ _ _ h => h), Ob.recv (hT).1 hP375.o rfl, fun U hU hW => ⟨rfl, hT.warm hW, by rw [hU]; exact ⟨fun q hq => Nat.lt_of_lt_of_le (hZs q hq) hS375.1, hP375⟩⟩⟩ rfl rfl hl.1 rfl (lv_room (Nat.le_of_ble_eq_true rfl)) dX6_go_382 ⟨Nat.le_of_ble_eq_true rfl, Nat.le_of_ble_eq_true rfl⟩) hS375 (fun H382 locs382 hRr382 hzz382 hS382 => ?_)
                        have hP382 : RP D ct Z (su τ375 2 (4 * k10) (nI t18)) (0) bst rf H382 := hRr382
                        obtain ⟨τ382, hτ382⟩ : ∃ τ : Stt, τ = su τ375 2 (4 * k10) (nI t18) := ⟨_, rfl⟩
                        rw [← hτ382] at hP382
                        refine lv_aload_n hx hb dX6_go_385 rfl (lv_at hl 0 rfl) ?_
                        refine lv_iload_n hx hb dX6_go_386 rfl (lv_at hl 1 rfl) ?_
                        refine lv_iconst (v := 1) hx hb dX6_go_387 (by decide) ?_
                        refine lv_aload_n hx hb dX6_go_388 rfl (lv_at hl 0 rfl) ?_
                        refine k_get (C := RX6) (T := TX6) (N := 14) hx hb hts inGX6 hown (hT).1 hP382.o rfl 10 (by decide) (hts _ w_882) (fun _ h9 => h9) (v := .ref (rf 1)) rfl dX6_go_389 ?_
                        refine lv_iload hx hb dX6_go_392 (lv_at hl 4 rfl) ?_
                        refine lv_iconst (v := 1) hx hb dX6_go_394 (by decide) ?_
                        refine lv_iadd hx hb dX6_go_395 ?_
                        refine k_iald hx hb (hT).1 hP382.a1 (by rw [(ix_add (rfl : nI (7 * rk nn t18) = nI (7 * rk nn t18)) (rfl : (1 : Int32) = nI 1))]; exact vp_in_nI (by omega : (7 * rk nn t18) + 1 < 700) (by decide)) dX6_go_396 ?_
                        rw [show ((nI (7 * rk nn t18)) + 1 : Int32).toNatClampNeg = (7 * rk nn t18) + 1 from (congrArg Int32.toNatClampNeg (ix_add (rfl : nI (7 * rk nn t18) = nI (7 * rk nn t18)) (rfl : (1 : Int32) = nI 1))).trans (nI_clamp (by omega : (7 * rk nn t18) + 1 < 2 ^ 31))]
                        refine c_s0 (va_runV (As := [.int (nI k10), .int 1, .int (τ382 3 ((7 * rk nn t18) + 1))]) (rest := []) ⟨hx, hb, hml, hown, hts⟩ (c_X6_setMan l D ct Z τ382 0 bst rf k10 1 (τ382 3 ((7 * rk nn t18) + 1)) 1 (by omega) rfl (by decide)) (cwV 3 hts (GG w_1054 w_1056 w_53 w_65 w_1057) rfl rfl rfl (by decide) ⟨Nat.le_of_ble_eq_true rfl, Nat.le_of_ble_eq_true rfl⟩) ⟨(blindT fun _ _ _ _ h => h), Ob.recv (hT).1 hP382.o rfl, fun U hU hW => ⟨rfl, hT.warm hW, by rw [hU]; exact ⟨fun q hq => Nat.lt_of_lt_of_le (hZs q hq) hS382.1, hP382⟩⟩⟩ rfl rfl hl.1 rfl (lv_room (Nat.le_of_ble_eq_true rfl)) dX6_go_397 ⟨Nat.le_of_ble_eq_true rfl, Nat.le_of_ble_eq_true rfl⟩) hS382 (fun H397 locs397 hRr397 hzz397 hS397 => ?_)
                        have hP397 : RP D ct Z (su τ382 2 (4 * k10 + 1) (τ382 3 ((7 * rk nn t18) + 1))) (0) bst rf H397 := hRr397
                        obtain ⟨τ397, hτ397⟩ : ∃ τ : Stt, τ = su τ382 2 (4 * k10 + 1) (τ382 3 ((7 * rk nn t18) + 1)) := ⟨_, rfl⟩
                        rw [← hτ397] at hP397
                        refine lv_iload hx hb dX6_go_400 (lv_at hl 5 rfl) ?_
                        refine lv_iload hx hb dX6_go_402 (lv_at hl 6 rfl) ?_
                        refine lv_iadd hx hb dX6_go_404 ?_
                        have hg := go_eq (σ := σ) (k := k10) (kd := rk nn t18) (c := nI k10) (t := nI t18) (b := b) (dt := dt) (fn := fn) (z := 10) (u := 1) (fun i hi => (hI.2.2.2.1 i hi).2.2.2.2.2) true (Or.inl ⟨rfl, hat, rfl, rfl⟩) hτ182 hτ199 (by rw [hτ205, he205]) hτ319 hτ328 hτ339 hτ357 hτ375 hτ382 hτ397
                        have hfin : τ397 = goS σ (nI k10) (nI t18) b := by
                          unfold goS gfi gow gk
                          rw [ix10, hcnn, ixnn, ix18, ← hdt, ← hfn]
                          exact hg
                        have ho : o_go σ (nI k10) (nI t18) b = (0, dt + fn, τ397) := by simp [o_go, gow, gfi, gk, onW, c_10, ix10, c_18, ix18, c_33, hcnn, ixnn, c_60, hrs, ← hdt, hpu, ← hfn, hfin]
                        exact W.iret (v := dt + fn) hx hb hr (fun t ht hW => ⟨_, rfl, by rw [ht]; exact ⟨by rw [ho], bst, by rw [ho]; exact hP397⟩, hS397.F ht⟩) (fun z h => hS397.2.2 z h) dX6_go_405
                      · -- not taken
                        have nc_211 : ¬ (nR σ) ≤ i := fun z => c_211 ((nI_leI (a := (nR σ)) (b := i) (by omega) (by omega)).mpr z)
                        have hlt205 : i < nR σ := by omega
                        refine lv_aload_n hx hb dX6_go_214 rfl (lv_at hl 0 rfl) ?_
                        refine lv_iload_n hx hb dX6_go_215 rfl (lv_at hl 1 rfl) ?_
                        refine lv_iload hx hb dX6_go_216 (lv_at hl 8 rfl) ?_
                        refine c_p1 (va_runV (As := [.int (nI k10), .int (nI i)]) (rest := []) ⟨hx, hb, hml, hown, hts⟩ (c_X6_has l D ct Z τ205 0 bst rf (nI k10) i (by omega)) (cwV 2 hts (GG w_1022 w_1024 w_48 w_65 w_1025) rfl rfl rfl (by decide) ⟨Nat.le_of_ble_eq_true rfl, Nat.le_of_ble_eq_true rfl⟩) ⟨(blindT fun _ _ _ _ h => h), Ob.recv (hT).1 hP205.o rfl, fun U hU hW => ⟨rfl, hT.warm hW, by rw [hU]; exact hP205⟩⟩ rfl rfl hl.1 rfl (lv_room (Nat.le_of_ble_eq_true rfl)) dX6_go_218 ⟨Nat.le_of_ble_eq_true rfl, Nat.le_of_ble_eq_true rfl⟩) ?_
                        refine lv_if_ne (tgt := 227) hx hb dX6_go_221 (by decide) (fun c_221 => ?_) (fun c_221 => ?_)
                        · -- taken
                          replace c_221 := b2_nz c_221
                          refine lv_aload_n hx hb dX6_go_227 rfl (lv_at hl 0 rfl) ?_
                          refine lv_iload hx hb dX6_go_228 (lv_at hl 8 rfl) ?_
                          refine lv_bipush (v := 6) hx hb dX6_go_230 (by decide) ?_
                          refine c_p1 (va_runV (As := [.int (nI i), .int 6]) (rest := []) ⟨hx, hb, hml, hown, hts⟩ (c_X6_get l D ct Z τ205 0 bst rf i 6 6 (by omega) rfl (by decide)) (cwV 2 hts (GG w_965 w_967 w_39 w_65 w_968) rfl rfl rfl (by decide) ⟨Nat.le_of_ble_eq_true rfl, Nat.le_of_ble_eq_true rfl⟩) ⟨(blindT fun _ _ _ _ h => h), Ob.recv (hT).1 hP205.o rfl, fun U hU hW => ⟨rfl, hT.warm hW, by rw [hU]; exact hP205⟩⟩ rfl rfl hl.1 rfl (lv_room (Nat.le_of_ble_eq_true rfl)) dX6_go_232 ⟨Nat.le_of_ble_eq_true rfl, Nat.le_of_ble_eq_true rfl⟩) ?_
                          refine lv_iconst (v := 1) hx hb dX6_go_235 (by decide) ?_
                          refine lv_icmp_ne (tgt := 255) hx hb dX6_go_236 (by decide) (fun c_236 => ?_) (fun c_236 => ?_)
                          · -- taken
                            refine lv_iload_n hx hb dX6_go_255 rfl (lv_at hl 3 rfl) ?_
                            refine lv_aload_n hx hb dX6_go_256 rfl (lv_at hl 0 rfl) ?_
                            refine lv_iload hx hb dX6_go_257 (lv_at hl 8 rfl) ?_
                            refine lv_iconst (v := 2) hx hb dX6_go_259 (by decide) ?_
                            refine c_p1 (va_runV (As := [.int (nI i), .int 2]) (rest := [.int b]) ⟨hx, hb, hml, hown, hts⟩ (c_X6_get l D ct Z τ205 0 bst rf i 2 2 (by omega) rfl (by decide)) (cwV 2 hts (GG w_965 w_967 w_39 w_65 w_968) rfl rfl rfl (by decide) ⟨Nat.le_of_ble_eq_true rfl, Nat.le_of_ble_eq_true rfl⟩) ⟨(blindT fun _ _ _ _ h => h), Ob.recv (hT).1 hP205.o rfl, fun U hU hW => ⟨rfl, hT.warm hW, by rw [hU]; exact hP205⟩⟩ rfl rfl hl.1 rfl (lv_room (Nat.le_of_ble_eq_true rfl)) dX6_go_260 ⟨Nat.le_of_ble_eq_true rfl, Nat.le_of_ble_eq_true rfl⟩) ?_
                            refine va_mmin hx hb (hml.trans hl.1.symm) hown (hts _ w_942) (hts _ w_551) (hts _ w_73) (hts _ w_552) (Nat.le_of_ble_eq_true rfl) (Nat.le_of_ble_eq_true rfl) (Nat.le_of_ble_eq_true rfl) (Nat.le_of_ble_eq_true rfl) dX6_go_263 ?_
                            refine lv_istore (lv' := [(9, .int (if (τ205 1 (7 * i + 2)) < b then τ205 1 (7 * i + 2) else b)), (0, .ref (rf 0)), (1, .int (nI k10)), (2, .int (nI t18)), (3, .int b), (4, .int (nI (7 * rk nn t18))), (5, .int dt), (6, .int fn), (7, .int 1), (8, .int (nI i))]) hx hb dX6_go_266 hl (by decide) rfl (fun ls hl => ?_)
                            refine lv_aload_n hx hb dX6_go_268 rfl (lv_at hl 1 rfl) ?_
                            refine lv_iload hx hb dX6_go_269 (lv_at hl 9 rfl) ?_
                            refine lv_iconst (v := 2) hx hb dX6_go_271 (by decide) ?_
                            refine lv_aload_n hx hb dX6_go_272 rfl (lv_at hl 1 rfl) ?_
                            refine lv_iload hx hb dX6_go_273 (lv_at hl 9 rfl) ?_
                            refine lv_iconst (v := 2) hx hb dX6_go_275 (by decide) ?_
                            refine c_p1 (va_runV (As := [.int (nI i), .int 2]) (rest := [.int 2, .int (nI i), .ref (rf 0)]) ⟨hx, hb, hml, hown, hts⟩ (c_X6_get l D ct Z τ205 0 bst rf i 2 2 (by omega) rfl (by decide)) (cwV 2 hts (GG w_965 w_967 w_39 w_65 w_968) rfl rfl rfl (by decide) ⟨Nat.le_of_ble_eq_true rfl, Nat.le_of_ble_eq_true rfl⟩) ⟨(blindT fun _ _ _ _ h => h), Ob.recv (hT).1 hP205.o rfl, fun U hU hW => ⟨rfl, hT.warm hW, by rw [hU]; exact hP205⟩⟩ rfl rfl hl.1 rfl (lv_room (Nat.le_of_ble_eq_true rfl)) dX6_go_276 ⟨Nat.le_of_ble_eq_true rfl, Nat.le_of_ble_eq_true rfl⟩) ?_
                            refine lv_iload hx hb dX6_go_279 (lv_at hl 0 rfl) ?_
                            refine lv_isub hx hb dX6_go_281 ?_
                            refine c_s0 (va_runV (As := [.int (nI i), .int 2, .int ((τ205 1 (7 * i + 2)) - (if (τ205 1 (7 * i + 2)) < b then τ205 1 (7 * i + 2) else b))]) (rest := []) ⟨hx, hb, hml, hown, hts⟩ (c_X6_set l D ct Z τ205 0 bst rf i 2 ((τ205 1 (7 * i + 2)) - (if (τ205 1 (7 * i + 2)) < b then τ205 1 (7 * i + 2) else b)) 2 (by omega) rfl (by decide)) (cwV 3 hts (GG w_1014 w_1016 w_47 w_65 w_1017) rfl rfl rfl (by decide) ⟨Nat.le_of_ble_eq_true rfl, Nat.le_of_ble_eq_true rfl⟩) ⟨(blindT fun _ _ _ _ h => h), Ob.recv (hT).1 hP205.o rfl, fun U hU hW => ⟨rfl, hT.warm hW, by rw [hU]; exact ⟨fun q hq => Nat.lt_of_lt_of_le (hZs q hq) hS205.1, hP205⟩⟩⟩ rfl rfl hl.1 rfl (lv_room (Nat.le_of_ble_eq_true rfl)) dX6_go_282 ⟨Nat.le_of_ble_eq_true rfl, Nat.le_of_ble_eq_true rfl⟩) hS205 (fun H282 locs282 hRr282 hzz282 hS282 => ?_)
                            have hP282 : RP D ct Z (su τ205 1 (7 * i + 2) ((τ205 1 (7 * i + 2)) - (if (τ205 1 (7 * i + 2)) < b then τ205 1 (7 * i + 2) else b))) (0) bst rf H282 := hRr282
                            obtain ⟨τ282, hτ282⟩ : ∃ τ : Stt, τ = su τ205 1 (7 * i + 2) ((τ205 1 (7 * i + 2)) - (if (τ205 1 (7 * i + 2)) < b then τ205 1 (7 * i + 2) else b)) := ⟨_, rfl⟩
                            rw [← hτ282] at hP282
                            refine lv_aload_n hx hb dX6_go_285 rfl (lv_at hl 1 rfl) ?_
                            refine lv_dup hx hb dX6_go_286 rfl ?_
                            refine k_get (C := RX6) (T := TX6) (N := 14) hx hb hts inGX6 hown (hT).1 hP282.o rfl 6 (by decide) (hts _ w_878) (fun _ h9 => h9) (v := .int (τ282 0 5)) rfl dX6_go_287 ?_
                            have hv290 : τ282 0 5 = τ205 0 5 := by rw [hτ282, su_k (by decide)]
                            rw [hv290]
                            refine lv_iload hx hb dX6_go_290 (lv_at hl 0 rfl) ?_
                            refine lv_iadd hx hb dX6_go_292 ?_
                            refine k_put (C := RX6) (T := TX6) (N := 14) hx hb hts inGX6 tyX6 tyX6_ok nmX6 hown (hT).1 hP282.o hS282 (hP282.nz (by decide)) rfl 6 (Nat.le_of_ble_eq_true rfl) (hts _ w_878) (fun _ h9 => h9) rfl (ty := .int) (v := .int ((τ205 0 5) + (if (τ205 1 (7 * i + 2)) < b then τ205 1 (7 * i + 2) else b))) (by decide +kernel) rfl rfl (Nat.le_of_ble_eq_true rfl) dX6_go_293 (fun H293 locs293 hO293 hz293 hq293 hS293 => ?_)
                            have hO293 : Ob D (rf 0) 7 [.int 0, .int (τ282 0 0), .int (τ282 0 1), .int (τ282 0 2), .int (τ282 0 3), .int (τ282 0 4), .int ((τ205 0 5) + (if (τ205 1 (7 * i + 2)) < b then τ205 1 (7 * i + 2) else b)), .int (τ282 0 6), .int (τ282 0 7), .int (τ282 0 8), .ref (rf 1), .ref (rf 2), .ref (rf 3), .ref (rf 4)] H293 := hO293
                            have hP293 : RP D ct Z (su τ282 0 5 ((τ205 0 5) + (if (τ205 1 (7 * i + 2)) < b then τ205 1 (7 * i + 2) else b))) (0) bst rf H293 := hP282.s0 5 ((τ205 0 5) + (if (τ205 1 (7 * i + 2)) < b then τ205 1 (7 * i + 2) else b)) hO293 hq293
                            obtain ⟨τ293, hτ293⟩ : ∃ τ : Stt, τ = su τ282 0 5 ((τ205 0 5) + (if (τ205 1 (7 * i + 2)) < b then τ205 1 (7 * i + 2) else b)) := ⟨_, rfl⟩
                            rw [← hτ293] at hP293
                            refine lv_iinc (v := nI (i + 1)) (lv' := [(8, .int (nI (i + 1))), (9, .int (if (τ205 1 (7 * i + 2)) < b then τ205 1 (7 * i + 2) else b)), (0, .ref (rf 0)), (1, .int (nI k10)), (2, .int (nI t18)), (3, .int b), (4, .int (nI (7 * rk nn t18))), (5, .int dt), (6, .int fn), (7, .int 1)]) hx hb dX6_go_296 hl (k := 9) rfl (nI_1 i) (by decide) rfl (fun ls hl => ?_)
                            refine lv_goto (tgt := 205) hx hb dX6_go_299 (by decide) ?_
                            exact ih205 (i + 1) _ _ (by omega) (by omega) (by rw [show goRN τ199 (nI k10) b true (i + 1) = τ293 from (show goR1 (goRN τ199 (nI k10) b true i) (nI k10) b true i = _ from by unfold goR1 burn1; rw [← hτ205, if_pos c_221, if_neg c_236]; rw [hτ293, hτ282]; rfl)]; exact hP293) hS293 ls (lv_sub hl [2, 3, 4, 5, 6, 7, 8, 9, 0] rfl)
                          · -- not taken
                            refine lv_iload hx hb dX6_go_239 (lv_at hl 7 rfl) ?_
                            refine lv_if_eq (tgt := 296) hx hb dX6_go_241 (by decide) (fun c_ => absurd c_ (by decide)) (fun _ => ?_)
                            refine lv_aload_n hx hb dX6_go_244 rfl (lv_at hl 0 rfl) ?_
                            refine lv_iload hx hb dX6_go_245 (lv_at hl 8 rfl) ?_
                            refine lv_iconst (v := (-1)) hx hb dX6_go_247 (by decide) ?_
                            refine lv_iconst (v := (-1)) hx hb dX6_go_248 (by decide) ?_
                            refine c_s0 (va_runV (As := [.int (nI i), .int (-1), .int (-1)]) (rest := []) ⟨hx, hb, hml, hown, hts⟩ (c_X6_lay l D ct Z τ205 0 bst rf i (-1) (-1) (by omega)) (cwV 3 hts (GG w_1010 w_1012 w_46 w_65 w_1013) rfl rfl rfl (by decide) ⟨Nat.le_of_ble_eq_true rfl, Nat.le_of_ble_eq_true rfl⟩) ⟨(blindT fun _ _ _ _ h => h), Ob.recv (hT).1 hP205.o rfl, fun U hU hW => ⟨rfl, hT.warm hW, by rw [hU]; exact ⟨fun q hq => Nat.lt_of_lt_of_le (hZs q hq) hS205.1, hP205⟩⟩⟩ rfl rfl hl.1 rfl (lv_room (Nat.le_of_ble_eq_true rfl)) dX6_go_249 ⟨Nat.le_of_ble_eq_true rfl, Nat.le_of_ble_eq_true rfl⟩) hS205 (fun H249 locs249 hRr249 hzz249 hS249 => ?_)
                            have hP249 : RP D ct Z (lay τ205 i (-1) (-1)) (0) bst rf H249 := hRr249
                            obtain ⟨τ249, hτ249⟩ : ∃ τ : Stt, τ = lay τ205 i (-1) (-1) := ⟨_, rfl⟩
                            rw [← hτ249] at hP249
                            refine lv_goto (tgt := 296) hx hb dX6_go_252 (by decide) ?_
                            refine lv_iinc (v := nI (i + 1)) (lv' := [(8, .int (nI (i + 1))), (0, .ref (rf 0)), (1, .int (nI k10)), (2, .int (nI t18)), (3, .int b), (4, .int (nI (7 * rk nn t18))), (5, .int dt), (6, .int fn), (7, .int 1)]) hx hb dX6_go_296 hl (k := 8) rfl (nI_1 i) (by decide) rfl (fun ls hl => ?_)
                            refine lv_goto (tgt := 205) hx hb dX6_go_299 (by decide) ?_
                            exact ih205 (i + 1) _ _ (by omega) (by omega) (by rw [show goRN τ199 (nI k10) b true (i + 1) = τ249 from (show goR1 (goRN τ199 (nI k10) b true i) (nI k10) b true i = _ from by unfold goR1; rw [← hτ205, if_pos c_221, if_pos c_236, if_pos rfl, ← hτ249])]; exact hP249) hS249 ls (lv_sub hl [1, 2, 3, 4, 5, 6, 7, 8, 0] rfl)
                        · -- not taken
                          replace c_221 := b2_z c_221
                          refine lv_goto (tgt := 296) hx hb dX6_go_224 (by decide) ?_
                          refine lv_iinc (v := nI (i + 1)) (lv' := [(8, .int (nI (i + 1))), (0, .ref (rf 0)), (1, .int (nI k10)), (2, .int (nI t18)), (3, .int b), (4, .int (nI (7 * rk nn t18))), (5, .int dt), (6, .int fn), (7, .int 1)]) hx hb dX6_go_296 hl (k := 8) rfl (nI_1 i) (by decide) rfl (fun ls hl => ?_)
                          refine lv_goto (tgt := 205) hx hb dX6_go_299 (by decide) ?_
                          exact ih205 (i + 1) _ _ (by omega) (by omega) (by rw [show goRN τ199 (nI k10) b true (i + 1) = τ205 from (show goR1 (goRN τ199 (nI k10) b true i) (nI k10) b true i = _ from by unfold goR1; rw [← hτ205, if_neg c_221])]; exact hP205) hS205 ls (lv_sub hl [1, 2, 3, 4, 5, 6, 7, 8, 0] rfl)
                  exact loop205 (nR σ + 1 - 0) 0 _ _ (Nat.zero_le _) (by omega) hP199 hS199 ls (lv_sub hl [5, 6, 7, 8, 4, 3, 2, 1, 0] rfl)
              · -- not taken
                have hpu : ¬ dt ≤ σ 2 (4 * k10 + 2) := c_107
                refine lv_aload_n hx hb dX6_go_110 rfl (lv_at hl 2 rfl) ?_
                refine lv_iconst (v := 3) hx hb dX6_go_111 (by decide) ?_
                refine c_s1 (va_runV (As := [.int 3]) (rest := []) ⟨hx, hb, hml, hown, hts⟩ (c_X6_fail l D ct Z σ 0 bst rf 3) (cwV 1 hts (GG w_924 w_926 w_35 w_65 w_927) rfl rfl rfl (by decide) ⟨Nat.le_of_ble_eq_true rfl, Nat.le_of_ble_eq_true rfl⟩) ⟨(blindT fun _ _ _ _ h => h), Ob.recv (hT).1 hP2.o rfl, fun U hU hW => ⟨rfl, hT.warm hW, by rw [hU]; exact ⟨fun q hq => Nat.lt_of_lt_of_le (hZs q hq) hS2.1, hP2⟩⟩⟩ rfl rfl hl.1 rfl (lv_room (Nat.le_of_ble_eq_true rfl)) dX6_go_112 ⟨Nat.le_of_ble_eq_true rfl, Nat.le_of_ble_eq_true rfl⟩) hS2 (fun x112 H112 locs112 hRr112 hzz112 hS112 => ?_)
                obtain ⟨rfl, hRr112⟩ := hRr112
                have hP112 : RP D ct Z (σ) (3) bst rf H112 := hRr112
                have ho : o_go σ (nI k10) (nI t18) b = (3, 0, σ) := by simp [o_go, gow, gfi, gk, onW, c_10, ix10, c_18, ix18, c_33, hcnn, ixnn, c_60, hrs, ← hdt, hpu]
                exact W.iret (v := 0) hx hb hr (fun t ht hW => ⟨_, rfl, by rw [ht]; exact ⟨by rw [ho], bst, by rw [ho]; exact hP112⟩, hS112.F ht⟩) (fun z h => hS112.2.2 z h) dX6_go_115
            · -- not taken
              have hrs : ¬ σ 3 (7 * rk nn t18) = 1 := by rw [c_80]; decide
              refine lv_aload_n hx hb dX6_go_83 rfl (lv_at hl 1 rfl) ?_
              refine lv_iconst (v := 3) hx hb dX6_go_84 (by decide) ?_
              refine c_s1 (va_runV (As := [.int 3]) (rest := []) ⟨hx, hb, hml, hown, hts⟩ (c_X6_fail l D ct Z σ 0 bst rf 3) (cwV 1 hts (GG w_924 w_926 w_35 w_65 w_927) rfl rfl rfl (by decide) ⟨Nat.le_of_ble_eq_true rfl, Nat.le_of_ble_eq_true rfl⟩) ⟨(blindT fun _ _ _ _ h => h), Ob.recv (hT).1 hP2.o rfl, fun U hU hW => ⟨rfl, hT.warm hW, by rw [hU]; exact ⟨fun q hq => Nat.lt_of_lt_of_le (hZs q hq) hS2.1, hP2⟩⟩⟩ rfl rfl hl.1 rfl (lv_room (Nat.le_of_ble_eq_true rfl)) dX6_go_85 ⟨Nat.le_of_ble_eq_true rfl, Nat.le_of_ble_eq_true rfl⟩) hS2 (fun x85 H85 locs85 hRr85 hzz85 hS85 => ?_)
              obtain ⟨rfl, hRr85⟩ := hRr85
              have hP85 : RP D ct Z (σ) (3) bst rf H85 := hRr85
              have ho : o_go σ (nI k10) (nI t18) b = (3, 0, σ) := by simp [o_go, gow, gfi, gk, onW, c_10, ix10, c_18, ix18, c_33, hcnn, ixnn, c_60, hrs]
              exact W.iret (v := 0) hx hb hr (fun t ht hW => ⟨_, rfl, by rw [ht]; exact ⟨by rw [ho], bst, by rw [ho]; exact hP85⟩, hS85.F ht⟩) (fun z h => hS85.2.2 z h) dX6_go_88
      · -- not taken
        replace c_33 := b2_z c_33
        refine lv_aload_n hx hb dX6_go_36 rfl (lv_at hl 0 rfl) ?_
        refine lv_iconst (v := 2) hx hb dX6_go_37 (by decide) ?_
        refine c_s1 (va_runV (As := [.int 2]) (rest := []) ⟨hx, hb, hml, hown, hts⟩ (c_X6_fail l D ct Z σ 0 bst rf 2) (cwV 1 hts (GG w_924 w_926 w_35 w_65 w_927) rfl rfl rfl (by decide) ⟨Nat.le_of_ble_eq_true rfl, Nat.le_of_ble_eq_true rfl⟩) ⟨(blindT fun _ _ _ _ h => h), Ob.recv (hT).1 hP2.o rfl, fun U hU hW => ⟨rfl, hT.warm hW, by rw [hU]; exact ⟨fun q hq => Nat.lt_of_lt_of_le (hZs q hq) hS2.1, hP2⟩⟩⟩ rfl rfl hl.1 rfl (lv_room (Nat.le_of_ble_eq_true rfl)) dX6_go_38 ⟨Nat.le_of_ble_eq_true rfl, Nat.le_of_ble_eq_true rfl⟩) hS2 (fun x38 H38 locs38 hRr38 hzz38 hS38 => ?_)
        obtain ⟨rfl, hRr38⟩ := hRr38
        have hP38 : RP D ct Z (σ) (2) bst rf H38 := hRr38
        have ho : o_go σ (nI k10) (nI t18) b = (2, 0, σ) := by simp [o_go, gow, gfi, gk, onW, c_10, ix10, c_18, ix18, c_33]
        exact W.iret (v := 0) hx hb hr (fun t ht hW => ⟨_, rfl, by rw [ht]; exact ⟨by rw [ho], bst, by rw [ho]; exact hP38⟩, hS38.F ht⟩) (fun z h => hS38.2.2 z h) dX6_go_41
    · -- not taken
      replace c_18 := b2_z c_18
      refine lv_aload_n hx hb dX6_go_21 rfl (lv_at hl 0 rfl) ?_
      refine lv_iconst (v := 1) hx hb dX6_go_22 (by decide) ?_
      refine c_s1 (va_runV (As := [.int 1]) (rest := []) ⟨hx, hb, hml, hown, hts⟩ (c_X6_fail l D ct Z σ 0 bst rf 1) (cwV 1 hts (GG w_924 w_926 w_35 w_65 w_927) rfl rfl rfl (by decide) ⟨Nat.le_of_ble_eq_true rfl, Nat.le_of_ble_eq_true rfl⟩) ⟨(blindT fun _ _ _ _ h => h), Ob.recv (hT).1 hP2.o rfl, fun U hU hW => ⟨rfl, hT.warm hW, by rw [hU]; exact ⟨fun q hq => Nat.lt_of_lt_of_le (hZs q hq) hS2.1, hP2⟩⟩⟩ rfl rfl hl.1 rfl (lv_room (Nat.le_of_ble_eq_true rfl)) dX6_go_23 ⟨Nat.le_of_ble_eq_true rfl, Nat.le_of_ble_eq_true rfl⟩) hS2 (fun x23 H23 locs23 hRr23 hzz23 hS23 => ?_)
      obtain ⟨rfl, hRr23⟩ := hRr23
      have hP23 : RP D ct Z (σ) (1) bst rf H23 := hRr23
      have ho : o_go σ (nI k10) tn b = (1, 0, σ) := by simp [o_go, gow, gfi, gk, onW, c_10, ix10, c_18]
      exact W.iret (v := 0) hx hb hr (fun t ht hW => ⟨_, rfl, by rw [ht]; exact ⟨by rw [ho], bst, by rw [ho]; exact hP23⟩, hS23.F ht⟩) (fun z h => hS23.2.2 z h) dX6_go_26
