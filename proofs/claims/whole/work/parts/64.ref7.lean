/-! goOn -/
set_option maxHeartbeats 4000000 in
set_option maxRecDepth 100000 in
theorem c_X6_goOn (l : Launch) (D : va_G) (ct : Nat → ClassId) (Z : Nat → Prop) (σ : Stt) (th : Int32) (bst : Nat → Int64) (rf : Nat → Nat) (u ta tb P fr : Nat) (hI : Inv σ) (hu : u < nR σ) (hP5 : P ≤ 5) (hrd : isR σ ta tb) (hBI : BI σ u P fr bst) : Met l yX6_goOn (.code yX6_goOn cX6_goOn 13 (some .boolean) :: GW) ({ frames := 2, cells := 0, slots := 0, locals := 45 } : Room) (va_Pc [.ref (rf 0), .int (nI u), .int (nI ta), .int (nI tb)] (fun U => GT D ct U ∧ (∀ q, Z q → q < U.heap.size) ∧ RP D ct Z σ th bst rf U.heap)) (qS1 Z (fun x h => ∃ (f1 : Int32) (b1 : Nat → Int64), x = .int f1 ∧ GI σ u P fr ta tb bst b1 f1 (fun _ _ => True) ∧ RP D ct Z σ th b1 rf h)) 0 0 (nZ Z) := by
  refine m_in (cc := cX6_goOn) [.ref (rf 0), .int (nI u), .int (nI ta), .int (nI tb)] "RumourCustomsModel" rfl (by decide) (Nat.le_of_ble_eq_true rfl) ?_
  intro pg e s m args below meth cd ls hx hb hml hown hts hr hlocks hin hPr hl
  obtain ⟨hT, hZs, hP⟩ := hPr
  have hl : lv_has ls 13 [(0, .ref (rf 0)), (1, .int (nI u)), (2, .int (nI ta)), (3, .int (nI tb))] := hl
  have hS : va_S (nZ Z) s.heap s.heap [] := va_S.rf
  have hT1 := hI.1.1
  have hT10 := hI.1.2
  have hR1 := hI.2.1.1
  have hR60 := hI.2.1.2
  have hC1 := hI.2.2.1.1
  have hC8 := hI.2.2.1.2
  have ht1 := hrd.1
  have ht2 := hrd.2.1
  refine lv_iload_n hx hb dX6_goOn_0 rfl (lv_at hl 2 rfl) ?_
  refine lv_iload_n hx hb dX6_goOn_1 rfl (lv_at hl 3 rfl) ?_
  refine c_p1 (va_runS (As := [.int (nI ta), .int (nI tb)]) (rest := []) ⟨hx, hb, hml, hown, hts⟩ (c_X6_base l D ct (nI ta) (nI tb) ta tb rfl rfl (by omega) (by omega)) (k_cwS 2 hts w_939 w_940 w_65 w_941 rfl rfl (by decide) ⟨Nat.le_of_ble_eq_true rfl, Nat.le_of_ble_eq_true rfl⟩) ⟨(blindT fun _ _ _ _ h => h), fun U hU hW => ⟨rfl, hT.warm hW, trivial⟩⟩ rfl rfl hl.1 rfl (lv_room (Nat.le_of_ble_eq_true rfl)) dX6_goOn_2 ⟨Nat.le_of_ble_eq_true rfl, Nat.le_of_ble_eq_true rfl⟩) ?_
  have hk_2 : rk ta tb < 100 := rk_lt (by omega) (by omega)
  refine lv_istore (lv' := [(4, .int (nI (7 * rk ta tb))), (0, .ref (rf 0)), (1, .int (nI u)), (2, .int (nI ta)), (3, .int (nI tb))]) hx hb dX6_goOn_5 hl (by decide) rfl (fun ls hl => ?_)
  refine lv_iconst (v := 0) hx hb dX6_goOn_7 (by decide) ?_
  refine lv_istore (lv' := [(5, .int 0), (4, .int (nI (7 * rk ta tb))), (0, .ref (rf 0)), (1, .int (nI u)), (2, .int (nI ta)), (3, .int (nI tb))]) hx hb dX6_goOn_8 hl (by decide) rfl (fun ls hl => ?_)
  refine lv_iconst (v := 0) hx hb dX6_goOn_10 (by decide) ?_
  refine lv_istore (lv' := [(6, .int 0), (5, .int 0), (4, .int (nI (7 * rk ta tb))), (0, .ref (rf 0)), (1, .int (nI u)), (2, .int (nI ta)), (3, .int (nI tb))]) hx hb dX6_goOn_11 hl (by decide) rfl (fun ls hl => ?_)
  have loop13 : ∀ (n13 : Nat) (i : Nat) (cur : Nat → Int64) (fl : Int32) (H13 : Heap) (locs13 : List Loc), i ≤ 6 → 6 - i < n13 → RP D ct Z σ th cur rf H13 → GI σ u P fr ta tb bst cur fl (fun i' _ => i' < i) → va_S (nZ Z) s.heap H13 locs13 → ∀ ls, lv_has ls 13 [(0, .ref (rf 0)), (1, .int (nI u)), (2, .int (nI ta)), (3, .int (nI tb)), (4, .int (nI (7 * rk ta tb))), (5, .int fl), (6, .int (nI i))] → W pg l e ({ frames := 2, cells := 0, slots := 0, locals := 45 } : Room) s m args below meth cd H13 locs13 0 0 (MQ below (qS1 Z (fun x h => ∃ (f1 : Int32) (b1 : Nat → Int64), x = .int f1 ∧ GI σ u P fr ta tb bst b1 f1 (fun _ _ => True) ∧ RP D ct Z σ th b1 rf h)) args s 0 0 (nZ Z)) (F0 m 13 ls []) := by
    intro n13
    induction n13 with
    | zero => intro i cur fl H13 locs13 z_0 z_1 z_2 z_3; omega
    | succ n13 ih13 =>
      intro i cur fl H13 locs13 hi13 hn13 hP13 hG13 hS13 ls hl
      refine lv_iload hx hb dX6_goOn_13 (lv_at hl 6 rfl) ?_
      refine lv_bipush (v := 6) hx hb dX6_goOn_15 (by decide) ?_
      refine lv_icmp_ge (tgt := 149) hx hb dX6_goOn_17 (by decide) (fun c_17 => ?_) (fun c_17 => ?_)
      · -- taken
        have nc_17 : 6 ≤ i := (nI_leI (a := 6) (b := i) (by omega) (by omega)).mp c_17
        have he13 : i = 6 := by omega
        refine lv_iload hx hb dX6_goOn_149 (lv_at hl 5 rfl) ?_
        have h01 : fl = 0 ∨ fl = 1 := hG13.2.imp (fun z => z.1) (fun z => z.1)
        exact W.zret (v := fl) hx hb hr (nar_01 h01) (fun t ht hW => ⟨_, rfl, by rw [ht]; exact ⟨_, _, rfl, hG13.mono (fun i' j' _ hi' _ => Or.inl (by omega)), hP13⟩, hS13.F ht⟩) (fun z h => hS13.2.2 z h) dX6_goOn_151
      · -- not taken
        have nc_17 : ¬ 6 ≤ i := fun z => c_17 ((nI_leI (a := 6) (b := i) (by omega) (by omega)).mpr z)
        have hlt13 : i < 6 := by omega
        refine lv_aload_n hx hb dX6_goOn_20 rfl (lv_at hl 0 rfl) ?_
        refine k_get (C := RX6) (T := TX6) (N := 14) hx hb hts inGX6 hown (hT).1 hP13.o rfl 13 (by decide) (hts _ w_885) (fun _ h9 => h9) (v := .ref (rf 4)) rfl dX6_goOn_21 ?_
        refine lv_bipush (v := 6) hx hb dX6_goOn_24 (by decide) ?_
        refine lv_iload_n hx hb dX6_goOn_26 rfl (lv_at hl 2 rfl) ?_
        refine lv_imul hx hb dX6_goOn_27 ?_
        refine lv_iload hx hb dX6_goOn_28 (lv_at hl 6 rfl) ?_
        refine lv_iadd hx hb dX6_goOn_30 ?_
        refine k_lald hx hb (hT).1 hP13.a4 (by rw [(ix_add (ix_mul (rfl : (6 : Int32) = nI 6) (rfl : nI ta = nI ta)) (rfl : nI i = nI i))]; exact vp_in_nI (by omega : 6 * ta + i < 60) (by decide)) dX6_goOn_31 ?_
        rw [show ((6 * (nI ta)) + (nI i) : Int32).toNatClampNeg = 6 * ta + i from (congrArg Int32.toNatClampNeg (ix_add (ix_mul (rfl : (6 : Int32) = nI 6) (rfl : nI ta = nI ta)) (rfl : nI i = nI i))).trans (nI_clamp (by omega : 6 * ta + i < 2 ^ 31))]
        obtain ⟨so, hso⟩ : ∃ x, x = cur (6 * ta + i) := ⟨_, rfl⟩
        rw [← hso]
        refine lv_lstore (lv' := [(7, .long so), (0, .ref (rf 0)), (1, .int (nI u)), (2, .int (nI ta)), (3, .int (nI tb)), (4, .int (nI (7 * rk ta tb))), (5, .int fl), (6, .int (nI i))]) hx hb dX6_goOn_32 hl (by decide) rfl (fun ls hl => ?_)
        refine lv_iconst (v := 0) hx hb dX6_goOn_34 (by decide) ?_
        refine lv_istore (lv' := [(9, .int 0), (7, .long so), (0, .ref (rf 0)), (1, .int (nI u)), (2, .int (nI ta)), (3, .int (nI tb)), (4, .int (nI (7 * rk ta tb))), (5, .int fl), (6, .int (nI i))]) hx hb dX6_goOn_35 hl (by decide) rfl (fun ls hl => ?_)
        have loop37 : ∀ (n37 : Nat) (j : Nat) (cu2 : Nat → Int64) (f2 : Int32) (H37 : Heap) (locs37 : List Loc), j ≤ i + 1 → i + 1 - j < n37 → RP D ct Z σ th cu2 rf H37 → GI σ u P fr ta tb bst cu2 f2 (fun i' j' => i' < i ∨ (i' = i ∧ j' < j)) → cu2 (6 * ta + i) = so → va_S (nZ Z) s.heap H37 locs37 → ∀ ls, lv_has ls 13 [(0, .ref (rf 0)), (1, .int (nI u)), (2, .int (nI ta)), (3, .int (nI tb)), (4, .int (nI (7 * rk ta tb))), (5, .int f2), (6, .int (nI i)), (7, .long so), (9, .int (nI j))] → W pg l e ({ frames := 2, cells := 0, slots := 0, locals := 45 } : Room) s m args below meth cd H37 locs37 0 0 (MQ below (qS1 Z (fun x h => ∃ (f1 : Int32) (b1 : Nat → Int64), x = .int f1 ∧ GI σ u P fr ta tb bst b1 f1 (fun _ _ => True) ∧ RP D ct Z σ th b1 rf h)) args s 0 0 (nZ Z)) (F0 m 37 ls []) := by
          intro n37
          induction n37 with
          | zero => intro j cu2 f2 H37 locs37 z_0 z_1 z_2 z_3 z_4; omega
          | succ n37 ih37 =>
            intro j cu2 f2 H37 locs37 hi37 hn37 hP37 hG37 hso37 hS37 ls hl
            refine lv_iload hx hb dX6_goOn_37 (lv_at hl 8 rfl) ?_
            refine lv_iload hx hb dX6_goOn_39 (lv_at hl 6 rfl) ?_
            refine lv_icmp_gt (tgt := 143) hx hb dX6_goOn_41 (by decide) (fun c_41 => ?_) (fun c_41 => ?_)
            · -- taken
              have nc_41 : i < j := (nI_ltI (a := i) (b := j) (by omega) (by omega)).mp c_41
              refine lv_iinc (v := nI (i + 1)) (lv' := [(6, .int (nI (i + 1))), (0, .ref (rf 0)), (1, .int (nI u)), (2, .int (nI ta)), (3, .int (nI tb)), (4, .int (nI (7 * rk ta tb))), (5, .int f2), (7, .long so), (9, .int (nI j))]) hx hb dX6_goOn_143 hl (k := 6) rfl (nI_1 i) (by decide) rfl (fun ls hl => ?_)
              refine lv_goto (tgt := 13) hx hb dX6_goOn_146 (by decide) ?_
              exact ih13 (i + 1) _ _ _ _ (by omega) (by omega) hP37 (hG37.next (Or.inl nc_41)) hS37 ls (lv_sub hl [1, 2, 3, 4, 5, 6, 0] rfl)
            · -- not taken
              have nc_41 : ¬ i < j := fun z => c_41 ((nI_ltI (a := i) (b := j) (by omega) (by omega)).mpr z)
              refine lv_lload hx hb dX6_goOn_44 (lv_at hl 7 rfl) ?_
              refine lv_ldc2 (v := (-1)) hx hb hown (hts _ w_1090) dX6_goOn_46 ?_
              refine W.lcmp hx hb dX6_goOn_49 ?_
              refine lv_if_eq (tgt := 143) hx hb dX6_goOn_50 (by decide) (fun c_50 => ?_) (fun c_50 => ?_)
              · -- taken
                refine lv_iinc (v := nI (i + 1)) (lv' := [(6, .int (nI (i + 1))), (0, .ref (rf 0)), (1, .int (nI u)), (2, .int (nI ta)), (3, .int (nI tb)), (4, .int (nI (7 * rk ta tb))), (5, .int f2), (7, .long so), (9, .int (nI j))]) hx hb dX6_goOn_143 hl (k := 6) rfl (nI_1 i) (by decide) rfl (fun ls hl => ?_)
                refine lv_goto (tgt := 13) hx hb dX6_goOn_146 (by decide) ?_
                exact ih13 (i + 1) _ _ _ _ (by omega) (by omega) hP37 (hG37.next (Or.inr (hso37.trans ((lg_cmp_eq _ _).mp c_50)))) hS37 ls (lv_sub hl [1, 2, 3, 4, 5, 6, 0] rfl)
              · -- not taken
                have hso1 : ¬ so = -1 := fun z => c_50 ((lg_cmp_eq _ _).mpr z)
                refine lv_lload hx hb dX6_goOn_53 (lv_at hl 7 rfl) ?_
                refine lv_ldc2 (v := 1000000) hx hb hown (hts _ w_1095) dX6_goOn_55 ?_
                refine lv_aload_n hx hb dX6_goOn_58 rfl (lv_at hl 0 rfl) ?_
                refine lv_iload hx hb dX6_goOn_59 (lv_at hl 4 rfl) ?_
                refine lv_iload_n hx hb dX6_goOn_61 rfl (lv_at hl 1 rfl) ?_
                refine lv_iload hx hb dX6_goOn_62 (lv_at hl 8 rfl) ?_
                refine c_p1 (va_runV (As := [.int (nI (7 * rk ta tb)), .int (nI u), .int (nI j)]) (rest := [.long 1000000, .long so]) ⟨hx, hb, hml, hown, hts⟩ (c_X6_dutyAt l D ct Z σ th cu2 rf (nI (7 * rk ta tb)) u (nI j) (rk ta tb) rfl (by omega) (by omega)) (cwV 3 hts (GG w_1042 w_1044 w_50 w_65 w_1045) rfl rfl rfl (by decide) ⟨Nat.le_of_ble_eq_true rfl, Nat.le_of_ble_eq_true rfl⟩) ⟨(blindT fun _ _ _ _ h => h), Ob.recv (hT).1 hP37.o rfl, fun U hU hW => ⟨rfl, hT.warm hW, by rw [hU]; exact hP37⟩⟩ rfl rfl hl.1 rfl (lv_room (Nat.le_of_ble_eq_true rfl)) dX6_goOn_64 ⟨Nat.le_of_ble_eq_true rfl, Nat.le_of_ble_eq_true rfl⟩) ?_
                refine lv_i2l (v := (duty σ (rk ta tb) u (nI j) : Int32).toInt64) hx hb dX6_goOn_67 rfl ?_
                refine lv_lmul hx hb dX6_goOn_68 ?_
                refine lv_ladd hx hb dX6_goOn_69 ?_
                refine lv_aload_n hx hb dX6_goOn_70 rfl (lv_at hl 0 rfl) ?_
                refine k_get (C := RX6) (T := TX6) (N := 14) hx hb hts inGX6 hown (hT).1 hP37.o rfl 10 (by decide) (hts _ w_882) (fun _ h9 => h9) (v := .ref (rf 1)) rfl dX6_goOn_71 ?_
                refine lv_iload hx hb dX6_goOn_74 (lv_at hl 4 rfl) ?_
                refine lv_iconst (v := 1) hx hb dX6_goOn_76 (by decide) ?_
                refine lv_iadd hx hb dX6_goOn_77 ?_
                refine k_iald hx hb (hT).1 hP37.a1 (by rw [(ix_add (rfl : nI (7 * rk ta tb) = nI (7 * rk ta tb)) (rfl : (1 : Int32) = nI 1))]; exact vp_in_nI (by omega : (7 * rk ta tb) + 1 < 700) (by decide)) dX6_goOn_78 ?_
                rw [show ((nI (7 * rk ta tb)) + 1 : Int32).toNatClampNeg = (7 * rk ta tb) + 1 from (congrArg Int32.toNatClampNeg (ix_add (rfl : nI (7 * rk ta tb) = nI (7 * rk ta tb)) (rfl : (1 : Int32) = nI 1))).trans (nI_clamp (by omega : (7 * rk ta tb) + 1 < 2 ^ 31))]
                refine lv_i2l (v := (σ 3 ((7 * rk ta tb) + 1) : Int32).toInt64) hx hb dX6_goOn_79 rfl ?_
                refine lv_ladd hx hb dX6_goOn_80 ?_
                obtain ⟨it, hit⟩ : ∃ x, x = itsV σ u ta tb j so := ⟨_, rfl⟩
                rw [show ((so + (1000000 * ((duty σ (rk ta tb) u (nI j) : Int32).toInt64))) + ((σ 3 ((7 * rk ta tb) + 1) : Int32).toInt64) : Int64) = it from hit.symm]
                refine lv_lstore (lv' := [(10, .long it), (0, .ref (rf 0)), (1, .int (nI u)), (2, .int (nI ta)), (3, .int (nI tb)), (4, .int (nI (7 * rk ta tb))), (5, .int f2), (6, .int (nI i)), (7, .long so), (9, .int (nI j))]) hx hb dX6_goOn_81 hl (by decide) rfl (fun ls hl => ?_)
                refine lv_bipush (v := 6) hx hb dX6_goOn_83 (by decide) ?_
                refine lv_iload_n hx hb dX6_goOn_85 rfl (lv_at hl 4 rfl) ?_
                refine lv_imul hx hb dX6_goOn_86 ?_
                refine lv_iload hx hb dX6_goOn_87 (lv_at hl 7 rfl) ?_
                refine lv_iadd hx hb dX6_goOn_89 ?_
                refine lv_iload hx hb dX6_goOn_90 (lv_at hl 9 rfl) ?_
                refine lv_isub hx hb dX6_goOn_92 ?_
                rw [show (((6 * (nI tb)) + (nI i)) - (nI j) : Int32) = nI (6 * tb + i - j) from (ix_sub (ix_add (ix_mul (rfl : (6 : Int32) = nI 6) (rfl : nI tb = nI tb)) (rfl : nI i = nI i)) (rfl : nI j = nI j) (by omega))]
                refine lv_istore (lv' := [(12, .int (nI (6 * tb + i - j))), (10, .long it), (0, .ref (rf 0)), (1, .int (nI u)), (2, .int (nI ta)), (3, .int (nI tb)), (4, .int (nI (7 * rk ta tb))), (5, .int f2), (6, .int (nI i)), (7, .long so), (9, .int (nI j))]) hx hb dX6_goOn_93 hl (by decide) rfl (fun ls hl => ?_)
                refine lv_aload_n hx hb dX6_goOn_95 rfl (lv_at hl 2 rfl) ?_
                refine k_get (C := RX6) (T := TX6) (N := 14) hx hb hts inGX6 hown (hT).1 hP37.o rfl 13 (by decide) (hts _ w_885) (fun _ h9 => h9) (v := .ref (rf 4)) rfl dX6_goOn_96 ?_
                refine lv_iload hx hb dX6_goOn_99 (lv_at hl 0 rfl) ?_
                refine k_lald hx hb (hT).1 hP37.a4 (by rw [(rfl : nI (6 * tb + i - j) = nI (6 * tb + i - j))]; exact vp_in_nI (by omega : 6 * tb + i - j < 60) (by decide)) dX6_goOn_101 ?_
                rw [show (nI (6 * tb + i - j) : Int32).toNatClampNeg = 6 * tb + i - j from (congrArg Int32.toNatClampNeg (rfl : nI (6 * tb + i - j) = nI (6 * tb + i - j))).trans (nI_clamp (by omega : 6 * tb + i - j < 2 ^ 31))]
                refine lv_ldc2 (v := (-1)) hx hb hown (hts _ w_1090) dX6_goOn_102 ?_
                refine W.lcmp hx hb dX6_goOn_105 ?_
                refine lv_if_eq (tgt := 125) hx hb dX6_goOn_106 (by decide) (fun c_106 => ?_) (fun c_106 => ?_)
                · -- taken
                  refine lv_aload_n hx hb dX6_goOn_125 rfl (lv_at hl 2 rfl) ?_
                  refine k_get (C := RX6) (T := TX6) (N := 14) hx hb hts inGX6 hown (hT).1 hP37.o rfl 13 (by decide) (hts _ w_885) (fun _ h9 => h9) (v := .ref (rf 4)) rfl dX6_goOn_126 ?_
                  refine lv_iload hx hb dX6_goOn_129 (lv_at hl 0 rfl) ?_
                  refine lv_lload hx hb dX6_goOn_131 (lv_at hl 1 rfl) ?_
                  refine k_last hx hb (hT).1 hS37 (hP37.nz (i := 4) (by decide)) hP37.a4 (by rw [(rfl : nI (6 * tb + i - j) = nI (6 * tb + i - j))]; exact vp_in_nI (by omega : 6 * tb + i - j < 60) (by decide)) dX6_goOn_133 (fun H133 locs133 hA133 hz133 hq133 hS133 => ?_)
                  rw [show (nI (6 * tb + i - j) : Int32).toNatClampNeg = 6 * tb + i - j from (congrArg Int32.toNatClampNeg (rfl : nI (6 * tb + i - j) = nI (6 * tb + i - j))).trans (nI_clamp (by omega : 6 * tb + i - j < 2 ^ 31))] at hA133
                  have hP133 : RP D ct Z (σ) (th) (vp_updL cu2 (6 * tb + i - j) it) rf H133 := hP37.s4 (6 * tb + i - j) it hA133 hq133
                  refine lv_iconst (v := 1) hx hb dX6_goOn_134 (by decide) ?_
                  refine lv_istore (lv' := [(5, .int 1), (12, .int (nI (6 * tb + i - j))), (10, .long it), (0, .ref (rf 0)), (1, .int (nI u)), (2, .int (nI ta)), (3, .int (nI tb)), (4, .int (nI (7 * rk ta tb))), (6, .int (nI i)), (7, .long so), (9, .int (nI j))]) hx hb dX6_goOn_135 hl (by decide) rfl (fun ls hl => ?_)
                  refine lv_iinc (v := nI (j + 1)) (lv' := [(9, .int (nI (j + 1))), (5, .int 1), (12, .int (nI (6 * tb + i - j))), (10, .long it), (0, .ref (rf 0)), (1, .int (nI u)), (2, .int (nI ta)), (3, .int (nI tb)), (4, .int (nI (7 * rk ta tb))), (6, .int (nI i)), (7, .long so)]) hx hb dX6_goOn_137 hl (k := 10) rfl (nI_1 j) (by decide) rfl (fun ls hl => ?_)
                  refine lv_goto (tgt := 37) hx hb dX6_goOn_140 (by decide) ?_
                  have hup : cu2 (6 * tb + i - j) = -1 ∨ itsV σ u ta tb j (cu2 (6 * ta + i)) < cu2 (6 * tb + i - j) := Or.inl ((lg_cmp_eq _ _).mp c_106)
                  have hg := GI.upd hI hu hP5 hrd hlt13 (by omega : j ≤ i) hG37 (by rw [hso37]; exact hso1) hup (fun i' j' => i' < i ∨ (i' = i ∧ j' < j + 1))
                  rw [hso37, ← hit] at hg
                  exact ih37 (j + 1) _ _ _ _ (by omega) (by omega) hP133 hg.1 hg.2 hS133 ls (lv_sub hl [4, 5, 6, 7, 8, 1, 9, 10, 0] rfl)
                · -- not taken
                  refine lv_aload_n hx hb dX6_goOn_109 rfl (lv_at hl 2 rfl) ?_
                  refine k_get (C := RX6) (T := TX6) (N := 14) hx hb hts inGX6 hown (hT).1 hP37.o rfl 13 (by decide) (hts _ w_885) (fun _ h9 => h9) (v := .ref (rf 4)) rfl dX6_goOn_110 ?_
                  refine lv_iload hx hb dX6_goOn_113 (lv_at hl 0 rfl) ?_
                  refine k_lald hx hb (hT).1 hP37.a4 (by rw [(rfl : nI (6 * tb + i - j) = nI (6 * tb + i - j))]; exact vp_in_nI (by omega : 6 * tb + i - j < 60) (by decide)) dX6_goOn_115 ?_
                  rw [show (nI (6 * tb + i - j) : Int32).toNatClampNeg = 6 * tb + i - j from (congrArg Int32.toNatClampNeg (rfl : nI (6 * tb + i - j) = nI (6 * tb + i - j))).trans (nI_clamp (by omega : 6 * tb + i - j < 2 ^ 31))]
                  refine lv_lload hx hb dX6_goOn_116 (lv_at hl 1 rfl) ?_
                  refine W.lcmp hx hb dX6_goOn_118 ?_
                  refine lv_if_gt (tgt := 125) hx hb dX6_goOn_119 (by decide) (fun c_119 => ?_) (fun c_119 => ?_)
                  · -- taken
                    refine lv_aload_n hx hb dX6_goOn_125 rfl (lv_at hl 2 rfl) ?_
                    refine k_get (C := RX6) (T := TX6) (N := 14) hx hb hts inGX6 hown (hT).1 hP37.o rfl 13 (by decide) (hts _ w_885) (fun _ h9 => h9) (v := .ref (rf 4)) rfl dX6_goOn_126 ?_
                    refine lv_iload hx hb dX6_goOn_129 (lv_at hl 0 rfl) ?_
                    refine lv_lload hx hb dX6_goOn_131 (lv_at hl 1 rfl) ?_
                    refine k_last hx hb (hT).1 hS37 (hP37.nz (i := 4) (by decide)) hP37.a4 (by rw [(rfl : nI (6 * tb + i - j) = nI (6 * tb + i - j))]; exact vp_in_nI (by omega : 6 * tb + i - j < 60) (by decide)) dX6_goOn_133 (fun H133 locs133 hA133 hz133 hq133 hS133 => ?_)
                    rw [show (nI (6 * tb + i - j) : Int32).toNatClampNeg = 6 * tb + i - j from (congrArg Int32.toNatClampNeg (rfl : nI (6 * tb + i - j) = nI (6 * tb + i - j))).trans (nI_clamp (by omega : 6 * tb + i - j < 2 ^ 31))] at hA133
                    have hP133 : RP D ct Z (σ) (th) (vp_updL cu2 (6 * tb + i - j) it) rf H133 := hP37.s4 (6 * tb + i - j) it hA133 hq133
                    refine lv_iconst (v := 1) hx hb dX6_goOn_134 (by decide) ?_
                    refine lv_istore (lv' := [(5, .int 1), (12, .int (nI (6 * tb + i - j))), (10, .long it), (0, .ref (rf 0)), (1, .int (nI u)), (2, .int (nI ta)), (3, .int (nI tb)), (4, .int (nI (7 * rk ta tb))), (6, .int (nI i)), (7, .long so), (9, .int (nI j))]) hx hb dX6_goOn_135 hl (by decide) rfl (fun ls hl => ?_)
                    refine lv_iinc (v := nI (j + 1)) (lv' := [(9, .int (nI (j + 1))), (5, .int 1), (12, .int (nI (6 * tb + i - j))), (10, .long it), (0, .ref (rf 0)), (1, .int (nI u)), (2, .int (nI ta)), (3, .int (nI tb)), (4, .int (nI (7 * rk ta tb))), (6, .int (nI i)), (7, .long so)]) hx hb dX6_goOn_137 hl (k := 10) rfl (nI_1 j) (by decide) rfl (fun ls hl => ?_)
                    refine lv_goto (tgt := 37) hx hb dX6_goOn_140 (by decide) ?_
                    have hup : cu2 (6 * tb + i - j) = -1 ∨ itsV σ u ta tb j (cu2 (6 * ta + i)) < cu2 (6 * tb + i - j) := Or.inr (by rw [hso37, ← hit]; exact (lg_cmp_gt _ _).mp c_119)
                    have hg := GI.upd hI hu hP5 hrd hlt13 (by omega : j ≤ i) hG37 (by rw [hso37]; exact hso1) hup (fun i' j' => i' < i ∨ (i' = i ∧ j' < j + 1))
                    rw [hso37, ← hit] at hg
                    exact ih37 (j + 1) _ _ _ _ (by omega) (by omega) hP133 hg.1 hg.2 hS133 ls (lv_sub hl [4, 5, 6, 7, 8, 1, 9, 10, 0] rfl)
                  · -- not taken
                    refine lv_goto (tgt := 137) hx hb dX6_goOn_122 (by decide) ?_
                    refine lv_iinc (v := nI (j + 1)) (lv' := [(9, .int (nI (j + 1))), (12, .int (nI (6 * tb + i - j))), (10, .long it), (0, .ref (rf 0)), (1, .int (nI u)), (2, .int (nI ta)), (3, .int (nI tb)), (4, .int (nI (7 * rk ta tb))), (5, .int f2), (6, .int (nI i)), (7, .long so)]) hx hb dX6_goOn_137 hl (k := 10) rfl (nI_1 j) (by decide) rfl (fun ls hl => ?_)
                    refine lv_goto (tgt := 37) hx hb dX6_goOn_140 (by decide) ?_
                    exact ih37 (j + 1) _ _ _ _ (by omega) (by omega) hP37 (hG37.skip hI hu hrd hlt13 (by omega) (fun z => c_106 ((lg_cmp_eq _ _).mpr z)) (by rw [hso37, ← hit]; exact Int64.not_lt.mp (fun z => c_119 ((lg_cmp_gt _ _).mpr z)))) hso37 hS37 ls (lv_sub hl [3, 4, 5, 6, 7, 8, 9, 10, 0] rfl)
        exact loop37 (i + 1 + 1 - 0) 0 _ _ _ _ (by omega) (by omega) hP13 (hG13.mono (fun i' j' q _ _ => by rcases q with q | ⟨_, q⟩; exact Or.inl q; exact absurd q (Nat.not_lt_zero _))) hso.symm hS13 ls (lv_sub hl [2, 3, 4, 5, 6, 7, 8, 1, 0] rfl)
  exact loop13 (6 + 1 - 0) 0 _ _ _ _ (by omega) (by omega) hP ⟨hBI, Or.inl ⟨rfl, rfl, fun i' j' z => absurd z (Nat.not_lt_zero _)⟩⟩ hS ls (lv_sub hl [3, 4, 5, 6, 2, 1, 0] rfl)

/-! cheapest -/
set_option maxHeartbeats 4000000 in
set_option maxRecDepth 100000 in
theorem c_X6_cheapest (l : Launch) (D : va_G) (ct : Nat → ClassId) (Z : Nat → Prop) (σ : Stt) (th : Int32) (bst : Nat → Int64) (rf : Nat → Nat) (r fw tw w : Int32) (hI : Inv σ) : Met l yX6_cheapest (.code yX6_cheapest cX6_cheapest 11 (some .int) :: GW) ({ frames := 3, cells := 0, slots := 0, locals := 77 } : Room) (va_Pc [.ref (rf 0), .int r, .int fw, .int tw, .int w] (fun U => GT D ct U ∧ (∀ q, Z q → q < U.heap.size) ∧ RP D ct Z σ th bst rf U.heap)) (qS1 Z (fun x h => x = .int (o_cheapest σ r fw tw w).2.1 ∧ ∃ b1, RP D ct Z (o_cheapest σ r fw tw w).2.2 (nI (o_cheapest σ r fw tw w).1) b1 rf h)) 0 0 (nZ Z) := by
  refine m_in (cc := cX6_cheapest) [.ref (rf 0), .int r, .int fw, .int tw, .int w] "RumourCustomsModel" rfl (by decide) (Nat.le_of_ble_eq_true rfl) ?_
  intro pg e s m args below meth cd ls hx hb hml hown hts hr hlocks hin hPr hl
  obtain ⟨hT, hZs, hP⟩ := hPr
  have hl : lv_has ls 11 [(0, .ref (rf 0)), (1, .int r), (2, .int fw), (3, .int tw), (4, .int w)] := hl
  have hS : va_S (nZ Z) s.heap s.heap [] := va_S.rf
  have hT1 := hI.1.1
  have hT10 := hI.1.2
  have hR1 := hI.2.1.1
  have hR60 := hI.2.1.2
  have hC1 := hI.2.2.1.1
  have hC8 := hI.2.2.1.2
  refine lv_aload_n hx hb dX6_cheapest_0 rfl (lv_at hl 0 rfl) ?_
  refine lv_iconst (v := 0) hx hb dX6_cheapest_1 (by decide) ?_
  refine k_put (C := RX6) (T := TX6) (N := 14) hx hb hts inGX6 tyX6 tyX6_ok nmX6 hown (hT).1 hP.o hS (hP.nz (by decide)) rfl 0 (Nat.le_of_ble_eq_true rfl) (hts _ w_872) (fun _ h9 => h9) rfl (ty := .int) (v := .int 0) (by decide +kernel) rfl rfl (Nat.le_of_ble_eq_true rfl) dX6_cheapest_2 (fun H2 locs2 hO2 hz2 hq2 hS2 => ?_)
  have hO2 : Ob D (rf 0) 7 [.int 0, .int (σ 0 0), .int (σ 0 1), .int (σ 0 2), .int (σ 0 3), .int (σ 0 4), .int (σ 0 5), .int (σ 0 6), .int (σ 0 7), .int (σ 0 8), .ref (rf 1), .ref (rf 2), .ref (rf 3), .ref (rf 4)] H2 := hO2
  have hP2 : RP D ct Z (σ) (0) bst rf H2 := hP.st 0 hO2 hq2
  refine lv_aload_n hx hb dX6_cheapest_5 rfl (lv_at hl 0 rfl) ?_
  refine lv_iload_n hx hb dX6_cheapest_6 rfl (lv_at hl 1 rfl) ?_
  refine c_p1 (va_runV (As := [.int r]) (rest := []) ⟨hx, hb, hml, hown, hts⟩ (c_X6_isRumour l D ct Z σ 0 bst rf r hR1 (by omega)) (cwV 1 hts (GG w_961 w_963 w_38 w_65 w_964) rfl rfl rfl (by decide) ⟨Nat.le_of_ble_eq_true rfl, Nat.le_of_ble_eq_true rfl⟩) ⟨(blindT fun _ _ _ _ h => h), Ob.recv (hT).1 hP2.o rfl, fun U hU hW => ⟨rfl, hT.warm hW, by rw [hU]; exact hP2⟩⟩ rfl rfl hl.1 rfl (lv_room (Nat.le_of_ble_eq_true rfl)) dX6_cheapest_7 ⟨Nat.le_of_ble_eq_true rfl, Nat.le_of_ble_eq_true rfl⟩) ?_
  refine lv_if_eq (tgt := 39) hx hb dX6_cheapest_10 (by decide) (fun c_10 => ?_) (fun c_10 => ?_)
  · -- taken
    replace c_10 := b2_z c_10
    refine lv_aload_n hx hb dX6_cheapest_39 rfl (lv_at hl 0 rfl) ?_
    refine lv_iconst (v := 1) hx hb dX6_cheapest_40 (by decide) ?_
    refine c_s1 (va_runV (As := [.int 1]) (rest := []) ⟨hx, hb, hml, hown, hts⟩ (c_X6_fail l D ct Z σ 0 bst rf 1) (cwV 1 hts (GG w_924 w_926 w_35 w_65 w_927) rfl rfl rfl (by decide) ⟨Nat.le_of_ble_eq_true rfl, Nat.le_of_ble_eq_true rfl⟩) ⟨(blindT fun _ _ _ _ h => h), Ob.recv (hT).1 hP2.o rfl, fun U hU hW => ⟨rfl, hT.warm hW, by rw [hU]; exact ⟨fun q hq => Nat.lt_of_lt_of_le (hZs q hq) hS2.1, hP2⟩⟩⟩ rfl rfl hl.1 rfl (lv_room (Nat.le_of_ble_eq_true rfl)) dX6_cheapest_41 ⟨Nat.le_of_ble_eq_true rfl, Nat.le_of_ble_eq_true rfl⟩) hS2 (fun x41 H41 locs41 hRr41 hzz41 hS41 => ?_)
    obtain ⟨rfl, hRr41⟩ := hRr41
    have hP41 : RP D ct Z (σ) (1) bst rf H41 := hRr41
    have ho : o_cheapest σ r fw tw w = (1, 0, σ) := by simp [o_cheapest, chpA, wi001, c_10]
    exact W.iret (v := 0) hx hb hr (fun t ht hW => ⟨_, rfl, by rw [ht]; exact ⟨by rw [ho], bst, by rw [ho]; exact hP41⟩, hS41.F ht⟩) (fun z h => hS41.2.2 z h) dX6_cheapest_44
  · -- not taken
    replace c_10 := b2_nz c_10
    obtain ⟨r10, ht10, hv10⟩ := okR hR1 hR60 c_10
    subst hv10
    have ix10 : ix (nI r10) = r10 := ix_n (by omega)
    refine lv_aload_n hx hb dX6_cheapest_13 rfl (lv_at hl 0 rfl) ?_
    refine lv_iload_n hx hb dX6_cheapest_14 rfl (lv_at hl 2 rfl) ?_
    refine c_p1 (va_runV (As := [.int fw]) (rest := []) ⟨hx, hb, hml, hown, hts⟩ (c_X6_isTown l D ct Z σ 0 bst rf fw hT1 (by omega)) (cwV 1 hts (GG w_932 w_934 w_36 w_65 w_935) rfl rfl rfl (by decide) ⟨Nat.le_of_ble_eq_true rfl, Nat.le_of_ble_eq_true rfl⟩) ⟨(blindT fun _ _ _ _ h => h), Ob.recv (hT).1 hP2.o rfl, fun U hU hW => ⟨rfl, hT.warm hW, by rw [hU]; exact hP2⟩⟩ rfl rfl hl.1 rfl (lv_room (Nat.le_of_ble_eq_true rfl)) dX6_cheapest_15 ⟨Nat.le_of_ble_eq_true rfl, Nat.le_of_ble_eq_true rfl⟩) ?_
    refine lv_if_eq (tgt := 39) hx hb dX6_cheapest_18 (by decide) (fun c_18 => ?_) (fun c_18 => ?_)
    · -- taken
      replace c_18 := b2_z c_18
      refine lv_aload_n hx hb dX6_cheapest_39 rfl (lv_at hl 0 rfl) ?_
      refine lv_iconst (v := 1) hx hb dX6_cheapest_40 (by decide) ?_
      refine c_s1 (va_runV (As := [.int 1]) (rest := []) ⟨hx, hb, hml, hown, hts⟩ (c_X6_fail l D ct Z σ 0 bst rf 1) (cwV 1 hts (GG w_924 w_926 w_35 w_65 w_927) rfl rfl rfl (by decide) ⟨Nat.le_of_ble_eq_true rfl, Nat.le_of_ble_eq_true rfl⟩) ⟨(blindT fun _ _ _ _ h => h), Ob.recv (hT).1 hP2.o rfl, fun U hU hW => ⟨rfl, hT.warm hW, by rw [hU]; exact ⟨fun q hq => Nat.lt_of_lt_of_le (hZs q hq) hS2.1, hP2⟩⟩⟩ rfl rfl hl.1 rfl (lv_room (Nat.le_of_ble_eq_true rfl)) dX6_cheapest_41 ⟨Nat.le_of_ble_eq_true rfl, Nat.le_of_ble_eq_true rfl⟩) hS2 (fun x41 H41 locs41 hRr41 hzz41 hS41 => ?_)
      obtain ⟨rfl, hRr41⟩ := hRr41
      have hP41 : RP D ct Z (σ) (1) bst rf H41 := hRr41
      have ho : o_cheapest σ (nI r10) fw tw w = (1, 0, σ) := by simp [o_cheapest, chpA, wi001, c_10, ix10, c_18]
      exact W.iret (v := 0) hx hb hr (fun t ht hW => ⟨_, rfl, by rw [ht]; exact ⟨by rw [ho], bst, by rw [ho]; exact hP41⟩, hS41.F ht⟩) (fun z h => hS41.2.2 z h) dX6_cheapest_44
    · -- not taken
      replace c_18 := b2_nz c_18
      obtain ⟨t18, ht18, hv18⟩ := okT hT1 hT10 c_18
      subst hv18
      have ix18 : ix (nI t18) = t18 := ix_n (by omega)
      refine lv_aload_n hx hb dX6_cheapest_21 rfl (lv_at hl 0 rfl) ?_
      refine lv_iload_n hx hb dX6_cheapest_22 rfl (lv_at hl 3 rfl) ?_
      refine c_p1 (va_runV (As := [.int tw]) (rest := []) ⟨hx, hb, hml, hown, hts⟩ (c_X6_isTown l D ct Z σ 0 bst rf tw hT1 (by omega)) (cwV 1 hts (GG w_932 w_934 w_36 w_65 w_935) rfl rfl rfl (by decide) ⟨Nat.le_of_ble_eq_true rfl, Nat.le_of_ble_eq_true rfl⟩) ⟨(blindT fun _ _ _ _ h => h), Ob.recv (hT).1 hP2.o rfl, fun U hU hW => ⟨rfl, hT.warm hW, by rw [hU]; exact hP2⟩⟩ rfl rfl hl.1 rfl (lv_room (Nat.le_of_ble_eq_true rfl)) dX6_cheapest_23 ⟨Nat.le_of_ble_eq_true rfl, Nat.le_of_ble_eq_true rfl⟩) ?_
      refine lv_if_eq (tgt := 39) hx hb dX6_cheapest_26 (by decide) (fun c_26 => ?_) (fun c_26 => ?_)
      · -- taken
        replace c_26 := b2_z c_26
        refine lv_aload_n hx hb dX6_cheapest_39 rfl (lv_at hl 0 rfl) ?_
        refine lv_iconst (v := 1) hx hb dX6_cheapest_40 (by decide) ?_
        refine c_s1 (va_runV (As := [.int 1]) (rest := []) ⟨hx, hb, hml, hown, hts⟩ (c_X6_fail l D ct Z σ 0 bst rf 1) (cwV 1 hts (GG w_924 w_926 w_35 w_65 w_927) rfl rfl rfl (by decide) ⟨Nat.le_of_ble_eq_true rfl, Nat.le_of_ble_eq_true rfl⟩) ⟨(blindT fun _ _ _ _ h => h), Ob.recv (hT).1 hP2.o rfl, fun U hU hW => ⟨rfl, hT.warm hW, by rw [hU]; exact ⟨fun q hq => Nat.lt_of_lt_of_le (hZs q hq) hS2.1, hP2⟩⟩⟩ rfl rfl hl.1 rfl (lv_room (Nat.le_of_ble_eq_true rfl)) dX6_cheapest_41 ⟨Nat.le_of_ble_eq_true rfl, Nat.le_of_ble_eq_true rfl⟩) hS2 (fun x41 H41 locs41 hRr41 hzz41 hS41 => ?_)
        obtain ⟨rfl, hRr41⟩ := hRr41
        have hP41 : RP D ct Z (σ) (1) bst rf H41 := hRr41
        have ho : o_cheapest σ (nI r10) (nI t18) tw w = (1, 0, σ) := by simp [o_cheapest, chpA, wi001, c_10, ix10, c_18, ix18, c_26]
        exact W.iret (v := 0) hx hb hr (fun t ht hW => ⟨_, rfl, by rw [ht]; exact ⟨by rw [ho], bst, by rw [ho]; exact hP41⟩, hS41.F ht⟩) (fun z h => hS41.2.2 z h) dX6_cheapest_44
      · -- not taken
        replace c_26 := b2_nz c_26
        obtain ⟨t26, ht26, hv26⟩ := okT hT1 hT10 c_26
        subst hv26
        have ix26 : ix (nI t26) = t26 := ix_n (by omega)
        refine lv_iload hx hb dX6_cheapest_29 (lv_at hl 4 rfl) ?_
        refine lv_iconst (v := 0) hx hb dX6_cheapest_31 (by decide) ?_
        refine lv_iconst (v := 1) hx hb dX6_cheapest_32 (by decide) ?_
        refine c_p1 (va_runS (As := [.int w, .int 0, .int 1]) (rest := []) ⟨hx, hb, hml, hown, hts⟩ (c_X6_isIn l D ct w 0 1) (k_cwS 3 hts w_936 w_937 w_65 w_938 rfl rfl (by decide) ⟨Nat.le_of_ble_eq_true rfl, Nat.le_of_ble_eq_true rfl⟩) ⟨(blindT fun _ _ _ _ h => h), fun U hU hW => ⟨rfl, hT.warm hW, trivial⟩⟩ rfl rfl hl.1 rfl (lv_room (Nat.le_of_ble_eq_true rfl)) dX6_cheapest_33 ⟨Nat.le_of_ble_eq_true rfl, Nat.le_of_ble_eq_true rfl⟩) ?_
        refine lv_if_ne (tgt := 45) hx hb dX6_cheapest_36 (by decide) (fun c_36 => ?_) (fun c_36 => ?_)
        · -- taken
          replace c_36 := b2_nz c_36
          refine lv_iconst (v := 0) hx hb dX6_cheapest_45 (by decide) ?_
          refine lv_istore (lv' := [(5, .int 0), (0, .ref (rf 0)), (1, .int (nI r10)), (2, .int (nI t18)), (3, .int (nI t26)), (4, .int w)]) hx hb dX6_cheapest_46 hl (by decide) rfl (fun ls hl => ?_)
          have loop48 : ∀ (n48 : Nat) (i : Nat) (H48 : Heap) (locs48 : List Loc), i ≤ 60 → 60 - i < n48 → RP D ct Z σ 0 (flB bst i) rf H48 → va_S (nZ Z) s.heap H48 locs48 → ∀ ls, lv_has ls 11 [(0, .ref (rf 0)), (1, .int (nI r10)), (2, .int (nI t18)), (3, .int (nI t26)), (4, .int w), (5, .int (nI i))] → W pg l e ({ frames := 3, cells := 0, slots := 0, locals := 77 } : Room) s m args below meth cd H48 locs48 0 0 (MQ below (qS1 Z (fun x h => x = .int (o_cheapest σ (nI r10) (nI t18) (nI t26) w).2.1 ∧ ∃ b1, RP D ct Z (o_cheapest σ (nI r10) (nI t18) (nI t26) w).2.2 (nI (o_cheapest σ (nI r10) (nI t18) (nI t26) w).1) b1 rf h)) args s 0 0 (nZ Z)) (F0 m 48 ls []) := by
            intro n48
            induction n48 with
            | zero => intro i H48 locs48 z_0 z_1 z_2; omega
            | succ n48 ih48 =>
              intro i H48 locs48 hi48 hn48 hP48 hS48 ls hl
              refine lv_iload hx hb dX6_cheapest_48 (lv_at hl 5 rfl) ?_
              refine lv_bipush (v := 60) hx hb dX6_cheapest_50 (by decide) ?_
              refine lv_icmp_ge (tgt := 71) hx hb dX6_cheapest_52 (by decide) (fun c_52 => ?_) (fun c_52 => ?_)
              · -- taken
                have nc_52 : 60 ≤ i := (nI_leI (a := 60) (b := i) (by omega) (by omega)).mp c_52
                have he48 : i = 60 := by omega
                subst he48
                refine lv_aload_n hx hb dX6_cheapest_71 rfl (lv_at hl 0 rfl) ?_
                refine k_get (C := RX6) (T := TX6) (N := 14) hx hb hts inGX6 hown (hT).1 hP48.o rfl 13 (by decide) (hts _ w_885) (fun _ h9 => h9) (v := .ref (rf 4)) rfl dX6_cheapest_72 ?_
                refine lv_bipush (v := 6) hx hb dX6_cheapest_75 (by decide) ?_
                refine lv_iload_n hx hb dX6_cheapest_77 rfl (lv_at hl 2 rfl) ?_
                refine lv_imul hx hb dX6_cheapest_78 ?_
                refine lv_aload_n hx hb dX6_cheapest_79 rfl (lv_at hl 0 rfl) ?_
                refine lv_iload_n hx hb dX6_cheapest_80 rfl (lv_at hl 1 rfl) ?_
                refine lv_iconst (v := 2) hx hb dX6_cheapest_81 (by decide) ?_
                refine c_p1 (va_runV (As := [.int (nI r10), .int 2]) (rest := [.int (6 * (nI t18)), .ref (rf 4)]) ⟨hx, hb, hml, hown, hts⟩ (c_X6_get l D ct Z σ 0 (flB bst 60) rf r10 2 2 (by omega) rfl (by decide)) (cwV 2 hts (GG w_965 w_967 w_39 w_65 w_968) rfl rfl rfl (by decide) ⟨Nat.le_of_ble_eq_true rfl, Nat.le_of_ble_eq_true rfl⟩) ⟨(blindT fun _ _ _ _ h => h), Ob.recv (hT).1 hP48.o rfl, fun U hU hW => ⟨rfl, hT.warm hW, by rw [hU]; exact hP48⟩⟩ rfl rfl hl.1 rfl (lv_room (Nat.le_of_ble_eq_true rfl)) dX6_cheapest_82 ⟨Nat.le_of_ble_eq_true rfl, Nat.le_of_ble_eq_true rfl⟩) ?_
                obtain ⟨P, hP5, hPr⟩ := (hI.2.2.2.1 r10 ht10).2.2.1
                have hixP : ix (σ 1 (7 * r10 + 2)) = P := by rw [hPr]; exact ix_n (by omega)
                rw [hPr]
                refine lv_iadd hx hb dX6_cheapest_85 ?_
                refine lv_lconst (v := 0) hx hb dX6_cheapest_86 (by decide) ?_
                refine k_last hx hb (hT).1 hS48 (hP48.nz (i := 4) (by decide)) hP48.a4 (by rw [(ix_add (ix_mul (rfl : (6 : Int32) = nI 6) (rfl : nI t18 = nI t18)) (rfl : nI P = nI P))]; exact vp_in_nI (by omega : 6 * t18 + P < 60) (by decide)) dX6_cheapest_87 (fun H87 locs87 hA87 hz87 hq87 hS87 => ?_)
                rw [show ((6 * (nI t18)) + (nI P) : Int32).toNatClampNeg = 6 * t18 + P from (congrArg Int32.toNatClampNeg (ix_add (ix_mul (rfl : (6 : Int32) = nI 6) (rfl : nI t18 = nI t18)) (rfl : nI P = nI P))).trans (nI_clamp (by omega : 6 * t18 + P < 2 ^ 31))] at hA87
                have hP87 : RP D ct Z (σ) (0) (vp_updL (flB bst 60) (6 * t18 + P) 0) rf H87 := hP48.s4 (6 * t18 + P) 0 hA87 hq87
                obtain ⟨β0, hβ0⟩ : ∃ x, x = vp_updL (flB bst 60) (6 * t18 + P) 0 := ⟨_, rfl⟩
                rw [← hβ0] at hP87
                have hBI0 : BI σ r10 P t18 β0 := by rw [hβ0]; exact BI_0 hI ht18 hP5
                refine lv_iconst (v := 1) hx hb dX6_cheapest_88 (by decide) ?_
                refine lv_istore (lv' := [(5, .int 1), (0, .ref (rf 0)), (1, .int (nI r10)), (2, .int (nI t18)), (3, .int (nI t26)), (4, .int w)]) hx hb dX6_cheapest_89 hl (by decide) rfl (fun ls hl => ?_)
                have hex91 : ∀ (cur : Nat → Int64) (H91 : Heap) (locs91 : List Loc), BI σ r10 P t18 cur → RLA σ r10 cur → RP D ct Z σ 0 cur rf H91 → va_S (nZ Z) s.heap H91 locs91 → ∀ ls, lv_has ls 11 [(0, .ref (rf 0)), (1, .int (nI r10)), (2, .int (nI t18)), (3, .int (nI t26)), (4, .int w), (5, .int 0)] → W pg l e ({ frames := 3, cells := 0, slots := 0, locals := 77 } : Room) s m args below meth cd H91 locs91 0 0 (MQ below (qS1 Z (fun x h => x = .int (o_cheapest σ (nI r10) (nI t18) (nI t26) w).2.1 ∧ ∃ b1, RP D ct Z (o_cheapest σ (nI r10) (nI t18) (nI t26) w).2.2 (nI (o_cheapest σ (nI r10) (nI t18) (nI t26) w).1) b1 rf h)) args s 0 0 (nZ Z)) (F0 m 91 ls []) := by
                  intro cur H91 locs91 hB91 hR91 hP91 hS91 ls hl
                  refine lv_iload hx hb dX6_cheapest_91 (lv_at hl 5 rfl) ?_
                  refine lv_if_eq (tgt := 185) hx hb dX6_cheapest_93 (by decide) (fun _ => ?_) (fun c_ => absurd (by decide) c_)
                  refine lv_ldc2 (v := (-1)) hx hb hown (hts _ w_1090) dX6_cheapest_185 ?_
                  refine lv_lstore (lv' := [(6, .long (-1)), (0, .ref (rf 0)), (1, .int (nI r10)), (2, .int (nI t18)), (3, .int (nI t26)), (4, .int w), (5, .int 0)]) hx hb dX6_cheapest_188 hl (by decide) rfl (fun ls hl => ?_)
                  refine lv_iconst (v := 0) hx hb dX6_cheapest_190 (by decide) ?_
                  refine lv_istore (lv' := [(8, .int 0), (6, .long (-1)), (0, .ref (rf 0)), (1, .int (nI r10)), (2, .int (nI t18)), (3, .int (nI t26)), (4, .int w), (5, .int 0)]) hx hb dX6_cheapest_191 hl (by decide) rfl (fun ls hl => ?_)
                  have loop193 : ∀ (n193 i : Nat) (lst : Int64), i ≤ 6 → 6 - i < n193 → lst = lsF cur t26 i → ∀ ls, lv_has ls 11 [(0, .ref (rf 0)), (1, .int (nI r10)), (2, .int (nI t18)), (3, .int (nI t26)), (4, .int w), (5, .int 0), (8, .int (nI i)), (6, .long lst)] → W pg l e ({ frames := 3, cells := 0, slots := 0, locals := 77 } : Room) s m args below meth cd H91 locs91 0 0 (MQ below (qS1 Z (fun x h => x = .int (o_cheapest σ (nI r10) (nI t18) (nI t26) w).2.1 ∧ ∃ b1, RP D ct Z (o_cheapest σ (nI r10) (nI t18) (nI t26) w).2.2 (nI (o_cheapest σ (nI r10) (nI t18) (nI t26) w).1) b1 rf h)) args s 0 0 (nZ Z)) (F0 m 193 ls []) := by
                    intro n193
                    induction n193 with
                    | zero => intro i lst _ z; omega
                    | succ n193 ih193 =>
                      intro i lst hi193 hn193 halst ls hl
                      refine lv_iload hx hb dX6_cheapest_193 (lv_at hl 6 rfl) ?_
                      refine lv_bipush (v := 6) hx hb dX6_cheapest_195 (by decide) ?_
                      refine lv_icmp_ge (tgt := 250) hx hb dX6_cheapest_197 (by decide) (fun c_197 => ?_) (fun c_197 => ?_)
                      · -- taken
                        have nc_197 : 6 ≤ i := (nI_leI (a := 6) (b := i) (by omega) (by omega)).mp c_197
                        have he193 : i = 6 := by omega
                        have hlst : lst = lsF cur t26 6 := by rw [halst, he193]
                        clear halst
                        rcases bf_best hI ht18 (by omega : t26 < 10) hP5 hB91 hR91 with ⟨q1, hbo⟩ | ⟨v, hv, q1, hbo⟩
                        · -- none
                          have hl0 : lst = (-1) := hlst.trans q1
                          subst hl0
                          refine lv_lload hx hb dX6_cheapest_250 (lv_at hl 7 rfl) ?_
                          refine lv_ldc2 (v := (-1)) hx hb hown (hts _ w_1090) dX6_cheapest_252 ?_
                          refine W.lcmp hx hb dX6_cheapest_255 ?_
                          rw [show lg_cmp (-1) (-1) = 0 from by decide]
                          refine lv_if_ne (tgt := 263) hx hb dX6_cheapest_256 (by decide) (fun c_ => absurd (by decide) c_) (fun _ => ?_)
                          refine lv_iconst (v := (-1)) hx hb dX6_cheapest_259 (by decide) ?_
                          refine lv_goto (tgt := 284) hx hb dX6_cheapest_260 (by decide) ?_
                          have ho : o_cheapest σ (nI r10) (nI t18) (nI t26) w = (0, (-1), σ) := by simp [o_cheapest, chpA, wi001, c_10, ix10, c_18, ix18, c_26, ix26, c_36, hixP, hbo]
                          exact W.iret (v := (-1)) hx hb hr (fun t ht hW => ⟨_, rfl, by rw [ht]; exact ⟨by rw [ho], cur, by rw [ho]; exact hP91⟩, hS91.F ht⟩) (fun z h => hS91.2.2 z h) dX6_cheapest_284
                        · -- some
                          have hl0 : lst = lN v := hlst.trans q1
                          subst hl0
                          refine lv_lload hx hb dX6_cheapest_250 (lv_at hl 7 rfl) ?_
                          refine lv_ldc2 (v := (-1)) hx hb hown (hts _ w_1090) dX6_cheapest_252 ?_
                          refine W.lcmp hx hb dX6_cheapest_255 ?_
                          refine lv_if_ne (tgt := 263) hx hb dX6_cheapest_256 (by decide) (fun c_256 => ?_) (fun c_256 => ?_)
                          · -- taken
                            refine lv_iload hx hb dX6_cheapest_263 (lv_at hl 4 rfl) ?_
                            refine lv_if_ne (tgt := 277) hx hb dX6_cheapest_265 (by decide) (fun c_265 => ?_) (fun c_265 => ?_)
                            · -- taken
                              refine lv_lload hx hb dX6_cheapest_277 (lv_at hl 7 rfl) ?_
                              refine lv_ldc2 (v := 1000000) hx hb hown (hts _ w_1095) dX6_cheapest_279 ?_
                              refine lv_lrem hx hb dX6_cheapest_282 (by decide) ?_
                              refine lv_l2i (v := ((lN v) - (lN v) / 1000000 * 1000000 : Int64).toInt32) hx hb dX6_cheapest_283 rfl ?_
                              rw [show (((lN v) - (lN v) / 1000000 * 1000000 : Int64).toInt32 : Int32) = nI (v % 1000000) from by rw [show (1000000 : Int64) = lN 1000000 from rfl, pk_lRem (by omega) (by decide) (by decide), lN_i]]
                              have ho : o_cheapest σ (nI r10) (nI t18) (nI t26) w = (0, nI (v % 1000000), σ) := by simp [o_cheapest, chpA, wi001, c_10, ix10, c_18, ix18, c_26, ix26, c_36, hixP, hbo, c_265]
                              exact W.iret (v := nI (v % 1000000)) hx hb hr (fun t ht hW => ⟨_, rfl, by rw [ht]; exact ⟨by rw [ho], cur, by rw [ho]; exact hP91⟩, hS91.F ht⟩) (fun z h => hS91.2.2 z h) dX6_cheapest_284
                            · -- not taken
                              refine lv_lload hx hb dX6_cheapest_268 (lv_at hl 7 rfl) ?_
                              refine lv_ldc2 (v := 1000000) hx hb hown (hts _ w_1095) dX6_cheapest_270 ?_
                              refine lv_ldiv hx hb dX6_cheapest_273 (by decide) ?_
                              refine lv_goto (tgt := 283) hx hb dX6_cheapest_274 (by decide) ?_
                              refine lv_l2i (v := ((lN v) / 1000000 : Int64).toInt32) hx hb dX6_cheapest_283 rfl ?_
                              rw [show (((lN v) / 1000000 : Int64).toInt32 : Int32) = nI (v / 1000000) from by rw [show (1000000 : Int64) = lN 1000000 from rfl, pk_lDiv (by omega) (by decide) (by decide), lN_i]]
                              have ho : o_cheapest σ (nI r10) (nI t18) (nI t26) w = (0, nI (v / 1000000), σ) := by simp [o_cheapest, chpA, wi001, c_10, ix10, c_18, ix18, c_26, ix26, c_36, hixP, hbo, c_265]
                              exact W.iret (v := nI (v / 1000000)) hx hb hr (fun t ht hW => ⟨_, rfl, by rw [ht]; exact ⟨by rw [ho], cur, by rw [ho]; exact hP91⟩, hS91.F ht⟩) (fun z h => hS91.2.2 z h) dX6_cheapest_284
                          · -- not taken
                            exact absurd ((lg_cmp_eq _ _).mp c_256) (lN_m1 hv)
                      · -- not taken
                        have nc_197 : ¬ 6 ≤ i := fun z => c_197 ((nI_leI (a := 6) (b := i) (by omega) (by omega)).mpr z)
                        have hlt193 : i < 6 := by omega
                        refine lv_aload_n hx hb dX6_cheapest_200 rfl (lv_at hl 0 rfl) ?_
                        refine k_get (C := RX6) (T := TX6) (N := 14) hx hb hts inGX6 hown (hT).1 hP91.o rfl 13 (by decide) (hts _ w_885) (fun _ h9 => h9) (v := .ref (rf 4)) rfl dX6_cheapest_201 ?_
                        refine lv_bipush (v := 6) hx hb dX6_cheapest_204 (by decide) ?_
                        refine lv_iload_n hx hb dX6_cheapest_206 rfl (lv_at hl 3 rfl) ?_
                        refine lv_imul hx hb dX6_cheapest_207 ?_
                        refine lv_iload hx hb dX6_cheapest_208 (lv_at hl 6 rfl) ?_
                        refine lv_iadd hx hb dX6_cheapest_210 ?_
                        refine k_lald hx hb (hT).1 hP91.a4 (by rw [(ix_add (ix_mul (rfl : (6 : Int32) = nI 6) (rfl : nI t26 = nI t26)) (rfl : nI i = nI i))]; exact vp_in_nI (by omega : 6 * t26 + i < 60) (by decide)) dX6_cheapest_211 ?_
                        rw [show ((6 * (nI t26)) + (nI i) : Int32).toNatClampNeg = 6 * t26 + i from (congrArg Int32.toNatClampNeg (ix_add (ix_mul (rfl : (6 : Int32) = nI 6) (rfl : nI t26 = nI t26)) (rfl : nI i = nI i))).trans (nI_clamp (by omega : 6 * t26 + i < 2 ^ 31))]
                        refine lv_lstore (lv' := [(9, .long (cur (6 * t26 + i))), (0, .ref (rf 0)), (1, .int (nI r10)), (2, .int (nI t18)), (3, .int (nI t26)), (4, .int w), (5, .int 0), (8, .int (nI i)), (6, .long lst)]) hx hb dX6_cheapest_212 hl (by decide) rfl (fun ls hl => ?_)
                        refine lv_lload hx hb dX6_cheapest_214 (lv_at hl 0 rfl) ?_
                        refine lv_ldc2 (v := (-1)) hx hb hown (hts _ w_1090) dX6_cheapest_216 ?_
                        refine W.lcmp hx hb dX6_cheapest_219 ?_
                        refine lv_if_eq (tgt := 244) hx hb dX6_cheapest_220 (by decide) (fun c_220 => ?_) (fun c_220 => ?_)
                        · -- taken
                          refine lv_iinc (v := nI (i + 1)) (lv' := [(8, .int (nI (i + 1))), (9, .long (cur (6 * t26 + i))), (0, .ref (rf 0)), (1, .int (nI r10)), (2, .int (nI t18)), (3, .int (nI t26)), (4, .int w), (5, .int 0), (6, .long lst)]) hx hb dX6_cheapest_244 hl (k := 7) rfl (nI_1 i) (by decide) rfl (fun ls hl => ?_)
                          refine lv_goto (tgt := 193) hx hb dX6_cheapest_247 (by decide) ?_
                          exact ih193 (i + 1) lst (by omega) (by omega) (by rw [halst]; exact (if_neg (fun z => z.1 ((lg_cmp_eq _ _).mp c_220))).symm) ls (lv_sub hl [2, 3, 4, 5, 6, 7, 0, 8] rfl)
                        · -- not taken
                          refine lv_lload hx hb dX6_cheapest_223 (lv_at hl 8 rfl) ?_
                          refine lv_ldc2 (v := (-1)) hx hb hown (hts _ w_1090) dX6_cheapest_225 ?_
                          refine W.lcmp hx hb dX6_cheapest_228 ?_
                          refine lv_if_eq (tgt := 240) hx hb dX6_cheapest_229 (by decide) (fun c_229 => ?_) (fun c_229 => ?_)
                          · -- taken
                            refine lv_lload hx hb dX6_cheapest_240 (lv_at hl 0 rfl) ?_
                            refine lv_lstore (lv' := [(6, .long (cur (6 * t26 + i))), (9, .long (cur (6 * t26 + i))), (0, .ref (rf 0)), (1, .int (nI r10)), (2, .int (nI t18)), (3, .int (nI t26)), (4, .int w), (5, .int 0), (8, .int (nI i))]) hx hb dX6_cheapest_242 hl (by decide) rfl (fun ls hl => ?_)
                            refine lv_iinc (v := nI (i + 1)) (lv' := [(8, .int (nI (i + 1))), (6, .long (cur (6 * t26 + i))), (9, .long (cur (6 * t26 + i))), (0, .ref (rf 0)), (1, .int (nI r10)), (2, .int (nI t18)), (3, .int (nI t26)), (4, .int w), (5, .int 0)]) hx hb dX6_cheapest_244 hl (k := 8) rfl (nI_1 i) (by decide) rfl (fun ls hl => ?_)
                            refine lv_goto (tgt := 193) hx hb dX6_cheapest_247 (by decide) ?_
                            exact ih193 (i + 1) (cur (6 * t26 + i)) (by omega) (by omega) (if_pos ⟨fun z => c_220 ((lg_cmp_eq _ _).mpr z), Or.inl (halst.symm.trans ((lg_cmp_eq _ _).mp c_229))⟩).symm ls (lv_sub hl [3, 4, 5, 6, 7, 8, 0, 1] rfl)
                          · -- not taken
                            refine lv_lload hx hb dX6_cheapest_232 (lv_at hl 0 rfl) ?_
                            refine lv_lload hx hb dX6_cheapest_234 (lv_at hl 8 rfl) ?_
                            refine W.lcmp hx hb dX6_cheapest_236 ?_
                            refine lv_if_ge (tgt := 244) hx hb dX6_cheapest_237 (by decide) (fun c_237 => ?_) (fun c_237 => ?_)
                            · -- taken
                              refine lv_iinc (v := nI (i + 1)) (lv' := [(8, .int (nI (i + 1))), (9, .long (cur (6 * t26 + i))), (0, .ref (rf 0)), (1, .int (nI r10)), (2, .int (nI t18)), (3, .int (nI t26)), (4, .int w), (5, .int 0), (6, .long lst)]) hx hb dX6_cheapest_244 hl (k := 7) rfl (nI_1 i) (by decide) rfl (fun ls hl => ?_)
                              refine lv_goto (tgt := 193) hx hb dX6_cheapest_247 (by decide) ?_
                              exact ih193 (i + 1) lst (by omega) (by omega) (by rw [halst]; exact (if_neg (fun z => z.2.elim (fun y => c_229 ((lg_cmp_eq _ _).mpr (halst.trans y))) (fun y => absurd ((lg_cmp_ge _ _).mp c_237) (Int64.not_le.mpr (by rw [halst]; exact y))))).symm) ls (lv_sub hl [2, 3, 4, 5, 6, 7, 0, 8] rfl)
                            · -- not taken
                              refine lv_lload hx hb dX6_cheapest_240 (lv_at hl 0 rfl) ?_
                              refine lv_lstore (lv' := [(6, .long (cur (6 * t26 + i))), (9, .long (cur (6 * t26 + i))), (0, .ref (rf 0)), (1, .int (nI r10)), (2, .int (nI t18)), (3, .int (nI t26)), (4, .int w), (5, .int 0), (8, .int (nI i))]) hx hb dX6_cheapest_242 hl (by decide) rfl (fun ls hl => ?_)
                              refine lv_iinc (v := nI (i + 1)) (lv' := [(8, .int (nI (i + 1))), (6, .long (cur (6 * t26 + i))), (9, .long (cur (6 * t26 + i))), (0, .ref (rf 0)), (1, .int (nI r10)), (2, .int (nI t18)), (3, .int (nI t26)), (4, .int w), (5, .int 0)]) hx hb dX6_cheapest_244 hl (k := 8) rfl (nI_1 i) (by decide) rfl (fun ls hl => ?_)
                              refine lv_goto (tgt := 193) hx hb dX6_cheapest_247 (by decide) ?_
                              exact ih193 (i + 1) (cur (6 * t26 + i)) (by omega) (by omega) (if_pos ⟨fun z => c_220 ((lg_cmp_eq _ _).mpr z), Or.inr (by rw [← halst]; exact Int64.not_le.mp (fun z => c_237 ((lg_cmp_ge _ _).mpr z)))⟩).symm ls (lv_sub hl [3, 4, 5, 6, 7, 8, 0, 1] rfl)
                  exact loop193 (6 + 1 - 0) 0 (-1) (by omega) (by omega) rfl ls (lv_sub hl [2, 3, 4, 5, 6, 7, 0, 1] rfl)
                have loop91 : ∀ (n91 : Nat) (cur : Nat → Int64) (H91 : Heap) (locs91 : List Loc), BI σ r10 P t18 cur → mu cur < n91 → RP D ct Z σ 0 cur rf H91 → va_S (nZ Z) s.heap H91 locs91 → ∀ ls, lv_has ls 11 [(0, .ref (rf 0)), (1, .int (nI r10)), (2, .int (nI t18)), (3, .int (nI t26)), (4, .int w), (5, .int 1)] → W pg l e ({ frames := 3, cells := 0, slots := 0, locals := 77 } : Room) s m args below meth cd H91 locs91 0 0 (MQ below (qS1 Z (fun x h => x = .int (o_cheapest σ (nI r10) (nI t18) (nI t26) w).2.1 ∧ ∃ b1, RP D ct Z (o_cheapest σ (nI r10) (nI t18) (nI t26) w).2.2 (nI (o_cheapest σ (nI r10) (nI t18) (nI t26) w).1) b1 rf h)) args s 0 0 (nZ Z)) (F0 m 91 ls []) := by
                  intro n91
                  induction n91 with
                  | zero => intro cur H91 locs91 z_0 z_1 z_2; omega
                  | succ n91 ih91 =>
                    intro cur H91 locs91 hB91 hm91 hP91 hS91 ls hl
                    refine lv_iload hx hb dX6_cheapest_91 (lv_at hl 5 rfl) ?_
                    refine lv_if_eq (tgt := 185) hx hb dX6_cheapest_93 (by decide) (fun c_ => absurd c_ (by decide)) (fun _ => ?_)
                    refine lv_iconst (v := 0) hx hb dX6_cheapest_96 (by decide) ?_
                    refine lv_istore (lv' := [(5, .int 0), (0, .ref (rf 0)), (1, .int (nI r10)), (2, .int (nI t18)), (3, .int (nI t26)), (4, .int w)]) hx hb dX6_cheapest_97 hl (by decide) rfl (fun ls hl => ?_)
                    refine lv_iconst (v := 0) hx hb dX6_cheapest_99 (by decide) ?_
                    refine lv_istore (lv' := [(6, .int 0), (5, .int 0), (0, .ref (rf 0)), (1, .int (nI r10)), (2, .int (nI t18)), (3, .int (nI t26)), (4, .int w)]) hx hb dX6_cheapest_100 hl (by decide) rfl (fun ls hl => ?_)
                    have loop102 : ∀ (n102 : Nat) (i : Nat) (cua : Nat → Int64) (fa : Int32) (H102 : Heap) (locs102 : List Loc), i ≤ nT σ → nT σ - i < n102 → RP D ct Z σ 0 cua rf H102 → PA σ r10 P t18 cur cua fa (fun a b => a < i) → va_S (nZ Z) s.heap H102 locs102 → ∀ ls, lv_has ls 11 [(0, .ref (rf 0)), (1, .int (nI r10)), (2, .int (nI t18)), (3, .int (nI t26)), (4, .int w), (5, .int fa), (6, .int (nI i))] → W pg l e ({ frames := 3, cells := 0, slots := 0, locals := 77 } : Room) s m args below meth cd H102 locs102 0 0 (MQ below (qS1 Z (fun x h => x = .int (o_cheapest σ (nI r10) (nI t18) (nI t26) w).2.1 ∧ ∃ b1, RP D ct Z (o_cheapest σ (nI r10) (nI t18) (nI t26) w).2.2 (nI (o_cheapest σ (nI r10) (nI t18) (nI t26) w).1) b1 rf h)) args s 0 0 (nZ Z)) (F0 m 102 ls []) := by
                      intro n102
                      induction n102 with
                      | zero => intro i cua fa H102 locs102 z_0 z_1 z_2 z_3; omega
                      | succ n102 ih102 =>
                        intro i cua fa H102 locs102 hi102 hn102 hP102 hPA102 hS102 ls hl
                        refine lv_iload hx hb dX6_cheapest_102 (lv_at hl 6 rfl) ?_
                        refine lv_aload_n hx hb dX6_cheapest_104 rfl (lv_at hl 0 rfl) ?_
                        refine k_get (C := RX6) (T := TX6) (N := 14) hx hb hts inGX6 hown (hT).1 hP102.o rfl 2 (by decide) (hts _ w_874) (fun _ h9 => h9) (v := .int (σ 0 1)) rfl dX6_cheapest_105 ?_
                        rw [hT1]
                        refine lv_icmp_ge (tgt := 182) hx hb dX6_cheapest_108 (by decide) (fun c_108 => ?_) (fun c_108 => ?_)
                        · -- taken
                          have nc_108 : (nT σ) ≤ i := (nI_leI (a := (nT σ)) (b := i) (by omega) (by omega)).mp c_108
                          have he102 : i = nT σ := by omega
                          refine lv_goto (tgt := 91) hx hb dX6_cheapest_182 (by decide) ?_
                          have hall := hPA102
                          rcases hPA102.2 with ⟨e1, e2, hal⟩ | ⟨e1, hmu⟩
                          · subst e1
                            subst e2
                            exact hex91 _ _ _ hPA102.1 (fun a b hr => hal a b (by have := hr.1; omega) hr) hP102 hS102 ls (lv_sub hl [0, 1, 2, 3, 4, 5] rfl)
                          · subst e1
                            exact ih91 _ _ _ hPA102.1 (by omega) hP102 hS102 ls (lv_sub hl [0, 1, 2, 3, 4, 5] rfl)
                        · -- not taken
                          have nc_108 : ¬ (nT σ) ≤ i := fun z => c_108 ((nI_leI (a := (nT σ)) (b := i) (by omega) (by omega)).mpr z)
                          have hlt102 : i < nT σ := by omega
                          refine lv_iconst (v := 0) hx hb dX6_cheapest_111 (by decide) ?_
                          refine lv_istore (lv' := [(7, .int 0), (0, .ref (rf 0)), (1, .int (nI r10)), (2, .int (nI t18)), (3, .int (nI t26)), (4, .int w), (5, .int fa), (6, .int (nI i))]) hx hb dX6_cheapest_112 hl (by decide) rfl (fun ls hl => ?_)
                          have loop114 : ∀ (n114 : Nat) (j : Nat) (cub : Nat → Int64) (fb : Int32) (H114 : Heap) (locs114 : List Loc), j ≤ nT σ → nT σ - j < n114 → RP D ct Z σ 0 cub rf H114 → PA σ r10 P t18 cur cub fb (fun a b => a < i ∨ (a = i ∧ b < j)) → va_S (nZ Z) s.heap H114 locs114 → ∀ ls, lv_has ls 11 [(0, .ref (rf 0)), (1, .int (nI r10)), (2, .int (nI t18)), (3, .int (nI t26)), (4, .int w), (5, .int fb), (6, .int (nI i)), (7, .int (nI j))] → W pg l e ({ frames := 3, cells := 0, slots := 0, locals := 77 } : Room) s m args below meth cd H114 locs114 0 0 (MQ below (qS1 Z (fun x h => x = .int (o_cheapest σ (nI r10) (nI t18) (nI t26) w).2.1 ∧ ∃ b1, RP D ct Z (o_cheapest σ (nI r10) (nI t18) (nI t26) w).2.2 (nI (o_cheapest σ (nI r10) (nI t18) (nI t26) w).1) b1 rf h)) args s 0 0 (nZ Z)) (F0 m 114 ls []) := by
                            intro n114
                            induction n114 with
                            | zero => intro j cub fb H114 locs114 z_0 z_1 z_2 z_3; omega
                            | succ n114 ih114 =>
                              intro j cub fb H114 locs114 hi114 hn114 hP114 hPA114 hS114 ls hl
                              refine lv_iload hx hb dX6_cheapest_114 (lv_at hl 7 rfl) ?_
                              refine lv_aload_n hx hb dX6_cheapest_116 rfl (lv_at hl 0 rfl) ?_
                              refine k_get (C := RX6) (T := TX6) (N := 14) hx hb hts inGX6 hown (hT).1 hP114.o rfl 2 (by decide) (hts _ w_874) (fun _ h9 => h9) (v := .int (σ 0 1)) rfl dX6_cheapest_117 ?_
                              rw [hT1]
                              refine lv_icmp_ge (tgt := 176) hx hb dX6_cheapest_120 (by decide) (fun c_120 => ?_) (fun c_120 => ?_)
                              · -- taken
                                have nc_120 : (nT σ) ≤ j := (nI_leI (a := (nT σ)) (b := j) (by omega) (by omega)).mp c_120
                                have he114 : j = nT σ := by omega
                                refine lv_iinc (v := nI (i + 1)) (lv' := [(6, .int (nI (i + 1))), (0, .ref (rf 0)), (1, .int (nI r10)), (2, .int (nI t18)), (3, .int (nI t26)), (4, .int w), (5, .int fb), (7, .int (nI j))]) hx hb dX6_cheapest_176 hl (k := 6) rfl (nI_1 i) (by decide) rfl (fun ls hl => ?_)
                                refine lv_goto (tgt := 102) hx hb dX6_cheapest_179 (by decide) ?_
                                exact ih102 (i + 1) _ _ _ _ (by omega) (by omega) hP114 (hPA114.mono (fun a b q hr => by have := hr.2.1; omega)) hS114 ls (lv_sub hl [1, 2, 3, 4, 5, 6, 0] rfl)
                              · -- not taken
                                have nc_120 : ¬ (nT σ) ≤ j := fun z => c_120 ((nI_leI (a := (nT σ)) (b := j) (by omega) (by omega)).mpr z)
                                have hlt114 : j < nT σ := by omega
                                refine lv_iload hx hb dX6_cheapest_123 (lv_at hl 6 rfl) ?_
                                refine lv_iload hx hb dX6_cheapest_125 (lv_at hl 7 rfl) ?_
                                refine lv_icmp_eq (tgt := 170) hx hb dX6_cheapest_127 (by decide) (fun c_127 => ?_) (fun c_127 => ?_)
                                · -- taken
                                  have nc_127 : i = j := (nI_eq (a := i) (b := j) (by omega) (by omega)).mp c_127
                                  refine lv_iinc (v := nI (j + 1)) (lv' := [(7, .int (nI (j + 1))), (0, .ref (rf 0)), (1, .int (nI r10)), (2, .int (nI t18)), (3, .int (nI t26)), (4, .int w), (5, .int fb), (6, .int (nI i))]) hx hb dX6_cheapest_170 hl (k := 7) rfl (nI_1 j) (by decide) rfl (fun ls hl => ?_)
                                  refine lv_goto (tgt := 114) hx hb dX6_cheapest_173 (by decide) ?_
                                  exact ih114 (j + 1) _ _ _ _ (by omega) (by omega) hP114 (hPA114.mono (fun a b q hr => by rcases q with q | ⟨q1, q2⟩; exact Or.inl q; rcases Nat.lt_or_ge b j with z | z; exact Or.inr ⟨q1, z⟩; exact absurd (by omega : a = b) (edge hI ht10 hr).2.2.2.2)) hS114 ls (lv_sub hl [1, 2, 3, 4, 5, 6, 7, 0] rfl)
                                · -- not taken
                                  have nc_127 : ¬ i = j := fun z => c_127 ((nI_eq (a := i) (b := j) (by omega) (by omega)).mpr z)
                                  refine lv_aload_n hx hb dX6_cheapest_130 rfl (lv_at hl 0 rfl) ?_
                                  refine k_get (C := RX6) (T := TX6) (N := 14) hx hb hts inGX6 hown (hT).1 hP114.o rfl 10 (by decide) (hts _ w_882) (fun _ h9 => h9) (v := .ref (rf 1)) rfl dX6_cheapest_131 ?_
                                  refine lv_iload hx hb dX6_cheapest_134 (lv_at hl 6 rfl) ?_
                                  refine lv_iload hx hb dX6_cheapest_136 (lv_at hl 7 rfl) ?_
                                  refine c_p1 (va_runS (As := [.int (nI i), .int (nI j)]) (rest := [.ref (rf 1)]) ⟨hx, hb, hml, hown, hts⟩ (c_X6_base l D ct (nI i) (nI j) i j rfl rfl (by omega) (by omega)) (k_cwS 2 hts w_939 w_940 w_65 w_941 rfl rfl (by decide) ⟨Nat.le_of_ble_eq_true rfl, Nat.le_of_ble_eq_true rfl⟩) ⟨(blindT fun _ _ _ _ h => h), fun U hU hW => ⟨rfl, hT.warm hW, trivial⟩⟩ rfl rfl hl.1 rfl (lv_room (Nat.le_of_ble_eq_true rfl)) dX6_cheapest_138 ⟨Nat.le_of_ble_eq_true rfl, Nat.le_of_ble_eq_true rfl⟩) ?_
                                  have hk_138 : rk i j < 100 := rk_lt (by omega) (by omega)
                                  refine k_iald hx hb (hT).1 hP114.a1 (by rw [(rfl : nI (7 * rk i j) = nI (7 * rk i j))]; exact vp_in_nI (by omega : 7 * rk i j < 700) (by decide)) dX6_cheapest_141 ?_
                                  rw [show (nI (7 * rk i j) : Int32).toNatClampNeg = 7 * rk i j from (congrArg Int32.toNatClampNeg (rfl : nI (7 * rk i j) = nI (7 * rk i j))).trans (nI_clamp (by omega : 7 * rk i j < 2 ^ 31))]
                                  refine lv_iconst (v := 1) hx hb dX6_cheapest_142 (by decide) ?_
                                  refine lv_icmp_ne (tgt := 170) hx hb dX6_cheapest_143 (by decide) (fun c_143 => ?_) (fun c_143 => ?_)
                                  · -- taken
                                    refine lv_iinc (v := nI (j + 1)) (lv' := [(7, .int (nI (j + 1))), (0, .ref (rf 0)), (1, .int (nI r10)), (2, .int (nI t18)), (3, .int (nI t26)), (4, .int w), (5, .int fb), (6, .int (nI i))]) hx hb dX6_cheapest_170 hl (k := 7) rfl (nI_1 j) (by decide) rfl (fun ls hl => ?_)
                                    refine lv_goto (tgt := 114) hx hb dX6_cheapest_173 (by decide) ?_
                                    exact ih114 (j + 1) _ _ _ _ (by omega) (by omega) hP114 (hPA114.mono (fun a b q hr => by rcases q with q | ⟨q1, q2⟩; exact Or.inl q; rcases Nat.lt_or_ge b j with z | z; exact Or.inr ⟨q1, z⟩; exact absurd (by rw [show i = a by omega, show j = b by omega]; exact hr.2.2) c_143)) hS114 ls (lv_sub hl [1, 2, 3, 4, 5, 6, 7, 0] rfl)
                                  · -- not taken
                                    have hij : isR σ i j := ⟨hlt102, hlt114, c_143⟩
                                    refine lv_aload_n hx hb dX6_cheapest_146 rfl (lv_at hl 0 rfl) ?_
                                    refine lv_iload_n hx hb dX6_cheapest_147 rfl (lv_at hl 1 rfl) ?_
                                    refine lv_iload hx hb dX6_cheapest_148 (lv_at hl 6 rfl) ?_
                                    refine lv_iload hx hb dX6_cheapest_150 (lv_at hl 7 rfl) ?_
                                    refine c_s1 (va_runV (As := [.int (nI r10), .int (nI i), .int (nI j)]) (rest := []) ⟨hx, hb, hml, hown, hts⟩ (c_X6_goOn l D ct Z σ 0 cub rf r10 i j P t18 hI ht10 hP5 hij hPA114.1) (cwV 3 hts (GG w_1091 w_1093 w_57 w_65 w_1094) rfl rfl rfl (by decide) ⟨Nat.le_of_ble_eq_true rfl, Nat.le_of_ble_eq_true rfl⟩) ⟨(blindT fun _ _ _ _ h => h), Ob.recv (hT).1 hP114.o rfl, fun U hU hW => ⟨rfl, hT.warm hW, by rw [hU]; exact ⟨fun q hq => Nat.lt_of_lt_of_le (hZs q hq) hS114.1, hP114⟩⟩⟩ rfl rfl hl.1 rfl (lv_room (Nat.le_of_ble_eq_true rfl)) dX6_cheapest_152 ⟨Nat.le_of_ble_eq_true rfl, Nat.le_of_ble_eq_true rfl⟩) hS114 (fun x152 H152 locs152 hR152 hzz152 hS152 => ?_)
                                    obtain ⟨f2, b2, rfl, hGI, hP152⟩ := hR152
                                    rcases hGI.2 with ⟨e1, e2, hal⟩ | ⟨e1, hmu⟩
                                    · -- same
                                      subst e1
                                      subst e2
                                      clear hGI
                                      refine lv_if_ne (tgt := 163) hx hb dX6_cheapest_155 (by decide) (fun c_ => absurd (by decide) c_) (fun _ => ?_)
                                      refine lv_iload hx hb dX6_cheapest_158 (lv_at hl 5 rfl) ?_
                                      refine lv_if_eq (tgt := 167) hx hb dX6_cheapest_160 (by decide) (fun c_160 => ?_) (fun c_160 => ?_)
                                      · -- taken
                                        subst c_160
                                        refine lv_iconst (v := 0) hx hb dX6_cheapest_167 (by decide) ?_
                                        refine lv_istore (lv' := [(5, .int 0), (0, .ref (rf 0)), (1, .int (nI r10)), (2, .int (nI t18)), (3, .int (nI t26)), (4, .int w), (6, .int (nI i)), (7, .int (nI j))]) hx hb dX6_cheapest_168 hl (by decide) rfl (fun ls hl => ?_)
                                        refine lv_iinc (v := nI (j + 1)) (lv' := [(7, .int (nI (j + 1))), (5, .int 0), (0, .ref (rf 0)), (1, .int (nI r10)), (2, .int (nI t18)), (3, .int (nI t26)), (4, .int w), (6, .int (nI i))]) hx hb dX6_cheapest_170 hl (k := 7) rfl (nI_1 j) (by decide) rfl (fun ls hl => ?_)
                                        refine lv_goto (tgt := 114) hx hb dX6_cheapest_173 (by decide) ?_
                                        exact ih114 (j + 1) _ _ _ _ (by omega) (by omega) hP152 (PA.same hPA114 (fun i' j' h1 h2 => hal i' j' trivial h1 h2)) hS152 ls (lv_sub hl [2, 3, 4, 5, 6, 1, 7, 0] rfl)
                                      · -- not taken
                                        have hfb : fb = 1 := hPA114.2.elim (fun z => absurd z.1 c_160) (fun z => z.1)
                                        subst hfb
                                        refine lv_iconst (v := 1) hx hb dX6_cheapest_163 (by decide) ?_
                                        refine lv_goto (tgt := 168) hx hb dX6_cheapest_164 (by decide) ?_
                                        refine lv_istore (lv' := [(5, .int 1), (0, .ref (rf 0)), (1, .int (nI r10)), (2, .int (nI t18)), (3, .int (nI t26)), (4, .int w), (6, .int (nI i)), (7, .int (nI j))]) hx hb dX6_cheapest_168 hl (by decide) rfl (fun ls hl => ?_)
                                        refine lv_iinc (v := nI (j + 1)) (lv' := [(7, .int (nI (j + 1))), (5, .int 1), (0, .ref (rf 0)), (1, .int (nI r10)), (2, .int (nI t18)), (3, .int (nI t26)), (4, .int w), (6, .int (nI i))]) hx hb dX6_cheapest_170 hl (k := 7) rfl (nI_1 j) (by decide) rfl (fun ls hl => ?_)
                                        refine lv_goto (tgt := 114) hx hb dX6_cheapest_173 (by decide) ?_
                                        exact ih114 (j + 1) _ _ _ _ (by omega) (by omega) hP152 (PA.same hPA114 (fun i' j' h1 h2 => hal i' j' trivial h1 h2)) hS152 ls (lv_sub hl [2, 3, 4, 5, 6, 1, 7, 0] rfl)
                                    · -- better
                                      subst e1
                                      refine lv_if_ne (tgt := 163) hx hb dX6_cheapest_155 (by decide) (fun _ => ?_) (fun c_ => absurd c_ (by decide))
                                      refine lv_iconst (v := 1) hx hb dX6_cheapest_163 (by decide) ?_
                                      refine lv_goto (tgt := 168) hx hb dX6_cheapest_164 (by decide) ?_
                                      refine lv_istore (lv' := [(5, .int 1), (0, .ref (rf 0)), (1, .int (nI r10)), (2, .int (nI t18)), (3, .int (nI t26)), (4, .int w), (6, .int (nI i)), (7, .int (nI j))]) hx hb dX6_cheapest_168 hl (by decide) rfl (fun ls hl => ?_)
                                      refine lv_iinc (v := nI (j + 1)) (lv' := [(7, .int (nI (j + 1))), (5, .int 1), (0, .ref (rf 0)), (1, .int (nI r10)), (2, .int (nI t18)), (3, .int (nI t26)), (4, .int w), (6, .int (nI i))]) hx hb dX6_cheapest_170 hl (k := 7) rfl (nI_1 j) (by decide) rfl (fun ls hl => ?_)
                                      refine lv_goto (tgt := 114) hx hb dX6_cheapest_173 (by decide) ?_
                                      exact ih114 (j + 1) _ _ _ _ (by omega) (by omega) hP152 (PA.better hPA114 hGI.1 hmu _) hS152 ls (lv_sub hl [2, 3, 4, 5, 6, 1, 7, 0] rfl)
                          exact loop114 (nT σ + 1 - 0) 0 _ _ _ _ (by omega) (by omega) hP102 (hPA102.mono (fun a b q _ => by rcases q with q | ⟨_, q⟩; exact q; exact absurd q (Nat.not_lt_zero _))) hS102 ls (lv_sub hl [1, 2, 3, 4, 5, 6, 7, 0] rfl)
                    exact loop102 (nT σ + 1 - 0) 0 _ _ _ _ (by omega) (by omega) hP91 ⟨hB91, Or.inl ⟨rfl, rfl, fun a b z => absurd z (Nat.not_lt_zero _)⟩⟩ hS91 ls (lv_sub hl [2, 3, 4, 5, 6, 1, 0] rfl)
                exact loop91 (mu β0 + 1) β0 _ _ hBI0 (by omega) hP87 hS87 ls (lv_sub hl [1, 2, 3, 4, 5, 0] rfl)
              · -- not taken
                have nc_52 : ¬ 60 ≤ i := fun z => c_52 ((nI_leI (a := 60) (b := i) (by omega) (by omega)).mpr z)
                have hlt48 : i < 60 := by omega
                refine lv_aload_n hx hb dX6_cheapest_55 rfl (lv_at hl 0 rfl) ?_
                refine k_get (C := RX6) (T := TX6) (N := 14) hx hb hts inGX6 hown (hT).1 hP48.o rfl 13 (by decide) (hts _ w_885) (fun _ h9 => h9) (v := .ref (rf 4)) rfl dX6_cheapest_56 ?_
                refine lv_iload hx hb dX6_cheapest_59 (lv_at hl 5 rfl) ?_
                refine lv_ldc2 (v := (-1)) hx hb hown (hts _ w_1090) dX6_cheapest_61 ?_
                refine k_last hx hb (hT).1 hS48 (hP48.nz (i := 4) (by decide)) hP48.a4 (by rw [(rfl : nI i = nI i)]; exact vp_in_nI (by omega : i < 60) (by decide)) dX6_cheapest_64 (fun H64 locs64 hA64 hz64 hq64 hS64 => ?_)
                rw [show (nI i : Int32).toNatClampNeg = i from (congrArg Int32.toNatClampNeg (rfl : nI i = nI i)).trans (nI_clamp (by omega : i < 2 ^ 31))] at hA64
                have hP64 : RP D ct Z (σ) (0) (vp_updL (flB bst i) i (-1)) rf H64 := hP48.s4 i (-1) hA64 hq64
                refine lv_iinc (v := nI (i + 1)) (lv' := [(5, .int (nI (i + 1))), (0, .ref (rf 0)), (1, .int (nI r10)), (2, .int (nI t18)), (3, .int (nI t26)), (4, .int w)]) hx hb dX6_cheapest_65 hl (k := 5) rfl (nI_1 i) (by decide) rfl (fun ls hl => ?_)
                refine lv_goto (tgt := 48) hx hb dX6_cheapest_68 (by decide) ?_
                exact ih48 (i + 1) _ _ (by omega) (by omega) (by rw [← flB_1]; exact hP64) hS64 ls (lv_sub hl [1, 2, 3, 4, 5, 0] rfl)
          exact loop48 (60 + 1 - 0) 0 _ _ (by omega) (by omega) (by rw [flB_0]; exact hP2) hS2 ls (lv_sub hl [1, 2, 3, 4, 5, 0] rfl)
        · -- not taken
          replace c_36 := b2_z c_36
          refine lv_aload_n hx hb dX6_cheapest_39 rfl (lv_at hl 0 rfl) ?_
          refine lv_iconst (v := 1) hx hb dX6_cheapest_40 (by decide) ?_
          refine c_s1 (va_runV (As := [.int 1]) (rest := []) ⟨hx, hb, hml, hown, hts⟩ (c_X6_fail l D ct Z σ 0 bst rf 1) (cwV 1 hts (GG w_924 w_926 w_35 w_65 w_927) rfl rfl rfl (by decide) ⟨Nat.le_of_ble_eq_true rfl, Nat.le_of_ble_eq_true rfl⟩) ⟨(blindT fun _ _ _ _ h => h), Ob.recv (hT).1 hP2.o rfl, fun U hU hW => ⟨rfl, hT.warm hW, by rw [hU]; exact ⟨fun q hq => Nat.lt_of_lt_of_le (hZs q hq) hS2.1, hP2⟩⟩⟩ rfl rfl hl.1 rfl (lv_room (Nat.le_of_ble_eq_true rfl)) dX6_cheapest_41 ⟨Nat.le_of_ble_eq_true rfl, Nat.le_of_ble_eq_true rfl⟩) hS2 (fun x41 H41 locs41 hRr41 hzz41 hS41 => ?_)
          obtain ⟨rfl, hRr41⟩ := hRr41
          have hP41 : RP D ct Z (σ) (1) bst rf H41 := hRr41
          have ho : o_cheapest σ (nI r10) (nI t18) (nI t26) w = (1, 0, σ) := by simp [o_cheapest, chpA, wi001, c_10, ix10, c_18, ix18, c_26, ix26, c_36]
          exact W.iret (v := 0) hx hb hr (fun t ht hW => ⟨_, rfl, by rw [ht]; exact ⟨by rw [ho], bst, by rw [ho]; exact hP41⟩, hS41.F ht⟩) (fun z h => hS41.2.2 z h) dX6_cheapest_44
