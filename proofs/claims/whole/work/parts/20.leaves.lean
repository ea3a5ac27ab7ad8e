theorem rvi {x y : Int32} (h : x = y) : Outcome.returned (some (.int x)) = .returned (some (.int y)) := by rw [h]
theorem rvl {x y : Int64} (h : x = y) : Outcome.returned (some (.long x)) = .returned (some (.long y)) := by rw [h]
theorem rva {x y : Value} (h : x = y) : Outcome.returned (some x) = .returned (some y) := by rw [h]
theorem nar_b2 (P : Prop) [Decidable P] : narrow .boolean (.int (b2 P)) = .int (b2 P) := by
  by_cases h : P
  · rw [b2_t h]; rfl
  · rw [b2_f h]; rfl
theorem nar_01 {x : Int32} (h : x = 0 ∨ x = 1) : narrow .boolean (.int x) = .int x := by
  rcases h with rfl | rfl <;> rfl
theorem i32_nle {a b : Int32} (h : ¬ a ≤ b) : b < a := Int32.not_le.mp h
theorem i32_nlt {a b : Int32} (h : ¬ a < b) : b ≤ a := Int32.not_lt.mp h

/-! Carrier.isOnTheWay -/
set_option maxHeartbeats 4000000 in
set_option maxRecDepth 100000 in
theorem c_X0_isOnTheWay (l : Launch) (D : va_G) (ct : Nat → ClassId) (c : Nat) (c0 c1 c2 c3 c4 : Int32) : Met l yX0_isOnTheWay (.code yX0_isOnTheWay cX0_isOnTheWay 1 (some .boolean) :: GW) ({ frames := 0, cells := 0, slots := 0, locals := 0 } : Room) (va_Pc [.ref c] (fun U => GT D ct U ∧ Ob D c 1 [.int c0, .int c1, .int c2, .int c3, .int c4] U.heap)) (qP (some (.int (b2 (0 < c2))))) 0 0 nF := by
  refine m_in (cc := cX0_isOnTheWay) [.ref c] "RumourCustoms$Carrier" rfl (by decide) (Nat.le_of_ble_eq_true rfl) ?_
  intro pg e s m args below meth cd ls hx hb hml hown hts hr hlocks hin hPr hl
  obtain ⟨hT, hOc⟩ := hPr
  have hl : lv_has ls 1 [(0, .ref c)] := hl
  refine lv_aload_n hx hb dX0_isOnTheWay_0 rfl (lv_at hl 0 rfl) ?_
  refine k_get (C := RX0) (T := TX0) (N := 5) hx hb hts inGX0 hown (hT).1 hOc rfl 2 (by decide) (hts _ w_628) (fun _ h9 => h9) (v := .int c2) rfl dX0_isOnTheWay_1 ?_
  refine lv_if_le (tgt := 11) hx hb dX0_isOnTheWay_4 (by decide) (fun c_4 => ?_) (fun c_4 => ?_)
  · -- taken
    refine lv_iconst (v := 0) hx hb dX0_isOnTheWay_11 (by decide) ?_
    exact W.zret (v := 0) hx hb hr rfl (fun t ht hW => ⟨rvi ((b2_f (Int32.not_lt.mpr c_4)).symm), ht⟩) (fun q h => nomatch h) dX0_isOnTheWay_12
  · -- not taken
    refine lv_iconst (v := 1) hx hb dX0_isOnTheWay_7 (by decide) ?_
    refine lv_goto (tgt := 12) hx hb dX0_isOnTheWay_8 (by decide) ?_
    exact W.zret (v := 1) hx hb hr rfl (fun t ht hW => ⟨rvi ((b2_t (i32_nle c_4)).symm), ht⟩) (fun q h => nomatch h) dX0_isOnTheWay_12

/-! Road.dutyOf -/
set_option maxHeartbeats 4000000 in
set_option maxRecDepth 100000 in
theorem c_X1_dutyOf (l : Launch) (D : va_G) (ct : Nat → ClassId) (d : Nat) (d0 d1 d2 d3 d4 d5 : Int32) (r : Nat) (r0 r1 r2 r3 r4 r5 r6 r7 p : Int32) : Met l yX1_dutyOf (.code yX1_dutyOf cX1_dutyOf 3 (some .int) :: GW) ({ frames := 0, cells := 0, slots := 0, locals := 0 } : Room) (va_Pc [.ref d, .ref r, .int p] (fun U => GT D ct U ∧ Ob D d 2 [.int d0, .int d1, .int d2, .int d3, .int d4, .int d5] U.heap ∧ Ob D r 4 [.int r0, .int r1, .int r2, .int r3, .int r4, .int r5, .int r6, .int r7] U.heap)) (qP (some (.int (((d1 * r2) + (d2 * r3)) >>> (p &&& 31))))) 0 0 nF := by
  refine m_in (cc := cX1_dutyOf) [.ref d, .ref r, .int p] "RumourCustoms$Road" rfl (by decide) (Nat.le_of_ble_eq_true rfl) ?_
  intro pg e s m args below meth cd ls hx hb hml hown hts hr hlocks hin hPr hl
  obtain ⟨hT, hOd, hOr⟩ := hPr
  have hl : lv_has ls 3 [(0, .ref d), (1, .ref r), (2, .int p)] := hl
  refine lv_aload_n hx hb dX1_dutyOf_0 rfl (lv_at hl 0 rfl) ?_
  refine k_get (C := RX1) (T := TX1) (N := 6) hx hb hts inGX1 hown (hT).1 hOd rfl 1 (by decide) (hts _ w_417) (fun _ h9 => h9) (v := .int d1) rfl dX1_dutyOf_1 ?_
  refine lv_aload_n hx hb dX1_dutyOf_4 rfl (lv_at hl 1 rfl) ?_
  refine k_get (C := RX3) (T := TX3) (N := 8) hx hb hts inGX3 hown (hT).1 hOr rfl 2 (by decide) (hts _ w_470) (fun _ h9 => h9) (v := .int r2) rfl dX1_dutyOf_5 ?_
  refine lv_imul hx hb dX1_dutyOf_8 ?_
  refine lv_aload_n hx hb dX1_dutyOf_9 rfl (lv_at hl 0 rfl) ?_
  refine k_get (C := RX1) (T := TX1) (N := 6) hx hb hts inGX1 hown (hT).1 hOd rfl 2 (by decide) (hts _ w_418) (fun _ h9 => h9) (v := .int d2) rfl dX1_dutyOf_10 ?_
  refine lv_aload_n hx hb dX1_dutyOf_13 rfl (lv_at hl 1 rfl) ?_
  refine k_get (C := RX3) (T := TX3) (N := 8) hx hb hts inGX3 hown (hT).1 hOr rfl 3 (by decide) (hts _ w_473) (fun _ h9 => h9) (v := .int r3) rfl dX1_dutyOf_14 ?_
  refine lv_imul hx hb dX1_dutyOf_17 ?_
  refine lv_iadd hx hb dX1_dutyOf_18 ?_
  refine lv_iload_n hx hb dX1_dutyOf_19 rfl (lv_at hl 2 rfl) ?_
  refine lv_ishr hx hb dX1_dutyOf_20 ?_
  exact W.iret (v := ((d1 * r2) + (d2 * r3)) >>> (p &&& 31)) hx hb hr (fun t ht hW => ⟨rvi rfl, ht⟩) (fun q h => nomatch h) dX1_dutyOf_21

/-! Road.attentionBehind -/
set_option maxHeartbeats 4000000 in
set_option maxRecDepth 100000 in
theorem c_X1_attentionBehind (l : Launch) (D : va_G) (ct : Nat → ClassId) (d : Nat) (d0 d1 d2 d3 d4 d5 p : Int32) : Met l yX1_attentionBehind (.code yX1_attentionBehind cX1_attentionBehind 2 (some .int) :: GW) ({ frames := 0, cells := 0, slots := 0, locals := 0 } : Room) (va_Pc [.ref d, .int p] (fun U => GT D ct U ∧ Ob D d 2 [.int d0, .int d1, .int d2, .int d3, .int d4, .int d5] U.heap)) (qP (some (.int ((d4 + d3) + p)))) 0 0 nF := by
  refine m_in (cc := cX1_attentionBehind) [.ref d, .int p] "RumourCustoms$Road" rfl (by decide) (Nat.le_of_ble_eq_true rfl) ?_
  intro pg e s m args below meth cd ls hx hb hml hown hts hr hlocks hin hPr hl
  obtain ⟨hT, hOd⟩ := hPr
  have hl : lv_has ls 2 [(0, .ref d), (1, .int p)] := hl
  refine lv_aload_n hx hb dX1_attentionBehind_0 rfl (lv_at hl 0 rfl) ?_
  refine k_get (C := RX1) (T := TX1) (N := 6) hx hb hts inGX1 hown (hT).1 hOd rfl 4 (by decide) (hts _ w_420) (fun _ h9 => h9) (v := .int d4) rfl dX1_attentionBehind_1 ?_
  refine lv_aload_n hx hb dX1_attentionBehind_4 rfl (lv_at hl 0 rfl) ?_
  refine k_get (C := RX1) (T := TX1) (N := 6) hx hb hts inGX1 hown (hT).1 hOd rfl 3 (by decide) (hts _ w_419) (fun _ h9 => h9) (v := .int d3) rfl dX1_attentionBehind_5 ?_
  refine lv_iadd hx hb dX1_attentionBehind_8 ?_
  refine lv_iload_n hx hb dX1_attentionBehind_9 rfl (lv_at hl 1 rfl) ?_
  refine lv_iadd hx hb dX1_attentionBehind_10 ?_
  exact W.iret (v := (d4 + d3) + p) hx hb hr (fun t ht hW => ⟨rvi rfl, ht⟩) (fun q h => nomatch h) dX1_attentionBehind_11

/-! Road.figure -/
set_option maxHeartbeats 4000000 in
set_option maxRecDepth 100000 in
theorem c_X1_figure (l : Launch) (D : va_G) (ct : Nat → ClassId) (d : Nat) (d0 d1 d2 d3 d4 d5 p : Int32) : Met l yX1_figure (.code yX1_figure cX1_figure 2 (some .int) :: GW) ({ frames := 0, cells := 0, slots := 0, locals := 0 } : Room) (va_Pc [.ref d, .int p] (fun U => GT D ct U ∧ Ob D d 2 [.int d0, .int d1, .int d2, .int d3, .int d4, .int d5] U.heap)) (qP (some (.int (figD p d0 d1 d2 d3 d4 d5)))) 0 0 nF := by
  refine m_in (cc := cX1_figure) [.ref d, .int p] "RumourCustoms$Road" rfl (by decide) (Nat.le_of_ble_eq_true rfl) ?_
  intro pg e s m args below meth cd ls hx hb hml hown hts hr hlocks hin hPr hl
  obtain ⟨hT, hOd⟩ := hPr
  have hl : lv_has ls 2 [(0, .ref d), (1, .int p)] := hl
  refine lv_iload_n hx hb dX1_figure_0 rfl (lv_at hl 1 rfl) ?_
  by_cases e1_0 : p = 0
  · -- case 0
    subst e1_0
    refine lv_tableIn (off := 39) (tgt := 40) hx hb dX1_figure_1 (by decide) (by decide) rfl (by decide) ?_
    refine lv_iconst (v := 1) hx hb dX1_figure_40 (by decide) ?_
    exact W.iret (v := 1) hx hb hr (fun t ht hW => ⟨rvi rfl, ht⟩) (fun q h => nomatch h) dX1_figure_41
  by_cases e1_1 : p = 1
  · -- case 1
    subst e1_1
    refine lv_tableIn (off := 41) (tgt := 42) hx hb dX1_figure_1 (by decide) (by decide) rfl (by decide) ?_
    refine lv_aload_n hx hb dX1_figure_42 rfl (lv_at hl 0 rfl) ?_
    refine k_get (C := RX1) (T := TX1) (N := 6) hx hb hts inGX1 hown (hT).1 hOd rfl 0 (by decide) (hts _ w_414) (fun _ h9 => h9) (v := .int d0) rfl dX1_figure_43 ?_
    exact W.iret (v := d0) hx hb hr (fun t ht hW => ⟨rvi rfl, ht⟩) (fun q h => nomatch h) dX1_figure_46
  by_cases e1_2 : p = 2
  · -- case 2
    subst e1_2
    refine lv_tableIn (off := 46) (tgt := 47) hx hb dX1_figure_1 (by decide) (by decide) rfl (by decide) ?_
    refine lv_aload_n hx hb dX1_figure_47 rfl (lv_at hl 0 rfl) ?_
    refine k_get (C := RX1) (T := TX1) (N := 6) hx hb hts inGX1 hown (hT).1 hOd rfl 1 (by decide) (hts _ w_417) (fun _ h9 => h9) (v := .int d1) rfl dX1_figure_48 ?_
    exact W.iret (v := d1) hx hb hr (fun t ht hW => ⟨rvi rfl, ht⟩) (fun q h => nomatch h) dX1_figure_51
  by_cases e1_3 : p = 3
  · -- case 3
    subst e1_3
    refine lv_tableIn (off := 51) (tgt := 52) hx hb dX1_figure_1 (by decide) (by decide) rfl (by decide) ?_
    refine lv_aload_n hx hb dX1_figure_52 rfl (lv_at hl 0 rfl) ?_
    refine k_get (C := RX1) (T := TX1) (N := 6) hx hb hts inGX1 hown (hT).1 hOd rfl 2 (by decide) (hts _ w_418) (fun _ h9 => h9) (v := .int d2) rfl dX1_figure_53 ?_
    exact W.iret (v := d2) hx hb hr (fun t ht hW => ⟨rvi rfl, ht⟩) (fun q h => nomatch h) dX1_figure_56
  by_cases e1_4 : p = 4
  · -- case 4
    subst e1_4
    refine lv_tableIn (off := 56) (tgt := 57) hx hb dX1_figure_1 (by decide) (by decide) rfl (by decide) ?_
    refine lv_aload_n hx hb dX1_figure_57 rfl (lv_at hl 0 rfl) ?_
    refine k_get (C := RX1) (T := TX1) (N := 6) hx hb hts inGX1 hown (hT).1 hOd rfl 3 (by decide) (hts _ w_419) (fun _ h9 => h9) (v := .int d3) rfl dX1_figure_58 ?_
    exact W.iret (v := d3) hx hb hr (fun t ht hW => ⟨rvi rfl, ht⟩) (fun q h => nomatch h) dX1_figure_61
  by_cases e1_5 : p = 5
  · -- case 5
    subst e1_5
    refine lv_tableIn (off := 61) (tgt := 62) hx hb dX1_figure_1 (by decide) (by decide) rfl (by decide) ?_
    refine lv_aload_n hx hb dX1_figure_62 rfl (lv_at hl 0 rfl) ?_
    refine k_get (C := RX1) (T := TX1) (N := 6) hx hb hts inGX1 hown (hT).1 hOd rfl 4 (by decide) (hts _ w_420) (fun _ h9 => h9) (v := .int d4) rfl dX1_figure_63 ?_
    exact W.iret (v := d4) hx hb hr (fun t ht hW => ⟨rvi rfl, ht⟩) (fun q h => nomatch h) dX1_figure_66
  have t1 : p.toInt < 0 ∨ 5 < p.toInt := by
    have z := And.intro (lv_neT (a := 0) e1_0 rfl) (And.intro (lv_neT (a := 1) e1_1 rfl) (And.intro (lv_neT (a := 2) e1_2 rfl) (And.intro (lv_neT (a := 3) e1_3 rfl) (And.intro (lv_neT (a := 4) e1_4 rfl) (And.intro (lv_neT (a := 5) e1_5 rfl) trivial)))))
    omega
  refine lv_tableOut (tgt := 67) hx hb dX1_figure_1 t1 (by decide) ?_
  refine lv_aload_n hx hb dX1_figure_67 rfl (lv_at hl 0 rfl) ?_
  refine k_get (C := RX1) (T := TX1) (N := 6) hx hb hts inGX1 hown (hT).1 hOd rfl 5 (by decide) (hts _ w_422) (fun _ h9 => h9) (v := .int d5) rfl dX1_figure_68 ?_
  exact W.iret (v := d5) hx hb hr (fun t ht hW => ⟨rvi (by simp [figD, e1_0, e1_1, e1_2, e1_3, e1_4, e1_5]), ht⟩) (fun q h => nomatch h) dX1_figure_71

/-! Rumour.isGone -/
set_option maxHeartbeats 4000000 in
set_option maxRecDepth 100000 in
theorem c_X3_isGone (l : Launch) (D : va_G) (ct : Nat → ClassId) (r : Nat) (r0 r1 r2 r3 r4 r5 r6 r7 : Int32) : Met l yX3_isGone (.code yX3_isGone cX3_isGone 1 (some .boolean) :: GW) ({ frames := 0, cells := 0, slots := 0, locals := 0 } : Room) (va_Pc [.ref r] (fun U => GT D ct U ∧ Ob D r 4 [.int r0, .int r1, .int r2, .int r3, .int r4, .int r5, .int r6, .int r7] U.heap)) (qP (some (.int (b2 (r5 = -1 ∧ r6 = -1))))) 0 0 nF := by
  refine m_in (cc := cX3_isGone) [.ref r] "RumourCustoms$Rumour" rfl (by decide) (Nat.le_of_ble_eq_true rfl) ?_
  intro pg e s m args below meth cd ls hx hb hml hown hts hr hlocks hin hPr hl
  obtain ⟨hT, hOr⟩ := hPr
  have hl : lv_has ls 1 [(0, .ref r)] := hl
  refine lv_aload_n hx hb dX3_isGone_0 rfl (lv_at hl 0 rfl) ?_
  refine k_get (C := RX3) (T := TX3) (N := 8) hx hb hts inGX3 hown (hT).1 hOr rfl 5 (by decide) (hts _ w_478) (fun _ h9 => h9) (v := .int r5) rfl dX3_isGone_1 ?_
  refine lv_iconst (v := (-1)) hx hb dX3_isGone_4 (by decide) ?_
  refine lv_icmp_ne (tgt := 20) hx hb dX3_isGone_5 (by decide) (fun c_5 => ?_) (fun c_5 => ?_)
  · -- taken
    refine lv_iconst (v := 0) hx hb dX3_isGone_20 (by decide) ?_
    exact W.zret (v := 0) hx hb hr rfl (fun t ht hW => ⟨rvi ((b2_f (fun z => by first | exact c_5 z.1 | exact c_13 z.2)).symm), ht⟩) (fun q h => nomatch h) dX3_isGone_21
  · -- not taken
    refine lv_aload_n hx hb dX3_isGone_8 rfl (lv_at hl 0 rfl) ?_
    refine k_get (C := RX3) (T := TX3) (N := 8) hx hb hts inGX3 hown (hT).1 hOr rfl 6 (by decide) (hts _ w_480) (fun _ h9 => h9) (v := .int r6) rfl dX3_isGone_9 ?_
    refine lv_iconst (v := (-1)) hx hb dX3_isGone_12 (by decide) ?_
    refine lv_icmp_ne (tgt := 20) hx hb dX3_isGone_13 (by decide) (fun c_13 => ?_) (fun c_13 => ?_)
    · -- taken
      refine lv_iconst (v := 0) hx hb dX3_isGone_20 (by decide) ?_
      exact W.zret (v := 0) hx hb hr rfl (fun t ht hW => ⟨rvi ((b2_f (fun z => by first | exact c_5 z.1 | exact c_13 z.2)).symm), ht⟩) (fun q h => nomatch h) dX3_isGone_21
    · -- not taken
      refine lv_iconst (v := 1) hx hb dX3_isGone_16 (by decide) ?_
      refine lv_goto (tgt := 21) hx hb dX3_isGone_17 (by decide) ?_
      exact W.zret (v := 1) hx hb hr rfl (fun t ht hW => ⟨rvi ((b2_t ⟨c_5, c_13⟩).symm), ht⟩) (fun q h => nomatch h) dX3_isGone_21

/-! Rumour.isInBagOf -/
set_option maxHeartbeats 4000000 in
set_option maxRecDepth 100000 in
theorem c_X3_isInBagOf (l : Launch) (D : va_G) (ct : Nat → ClassId) (r : Nat) (r0 r1 r2 r3 r4 r5 r6 r7 : Int32) (c : Nat) (c0 c1 c2 c3 c4 : Int32) : Met l yX3_isInBagOf (.code yX3_isInBagOf cX3_isInBagOf 2 (some .boolean) :: GW) ({ frames := 0, cells := 0, slots := 0, locals := 0 } : Room) (va_Pc [.ref r, .ref c] (fun U => GT D ct U ∧ Ob D r 4 [.int r0, .int r1, .int r2, .int r3, .int r4, .int r5, .int r6, .int r7] U.heap ∧ Ob D c 1 [.int c0, .int c1, .int c2, .int c3, .int c4] U.heap)) (qP (some (.int (b2 (r6 = c0))))) 0 0 nF := by
  refine m_in (cc := cX3_isInBagOf) [.ref r, .ref c] "RumourCustoms$Rumour" rfl (by decide) (Nat.le_of_ble_eq_true rfl) ?_
  intro pg e s m args below meth cd ls hx hb hml hown hts hr hlocks hin hPr hl
  obtain ⟨hT, hOr, hOc⟩ := hPr
  have hl : lv_has ls 2 [(0, .ref r), (1, .ref c)] := hl
  refine lv_aload_n hx hb dX3_isInBagOf_0 rfl (lv_at hl 0 rfl) ?_
  refine k_get (C := RX3) (T := TX3) (N := 8) hx hb hts inGX3 hown (hT).1 hOr rfl 6 (by decide) (hts _ w_480) (fun _ h9 => h9) (v := .int r6) rfl dX3_isInBagOf_1 ?_
  refine lv_aload_n hx hb dX3_isInBagOf_4 rfl (lv_at hl 1 rfl) ?_
  refine k_get (C := RX0) (T := TX0) (N := 5) hx hb hts inGX0 hown (hT).1 hOc rfl 0 (by decide) (hts _ w_625) (fun _ h9 => h9) (v := .int c0) rfl dX3_isInBagOf_5 ?_
  refine lv_icmp_ne (tgt := 15) hx hb dX3_isInBagOf_8 (by decide) (fun c_8 => ?_) (fun c_8 => ?_)
  · -- taken
    refine lv_iconst (v := 0) hx hb dX3_isInBagOf_15 (by decide) ?_
    exact W.zret (v := 0) hx hb hr rfl (fun t ht hW => ⟨rvi ((b2_f c_8).symm), ht⟩) (fun q h => nomatch h) dX3_isInBagOf_16
  · -- not taken
    refine lv_iconst (v := 1) hx hb dX3_isInBagOf_11 (by decide) ?_
    refine lv_goto (tgt := 16) hx hb dX3_isInBagOf_12 (by decide) ?_
    exact W.zret (v := 1) hx hb hr rfl (fun t ht hW => ⟨rvi ((b2_t c_8).symm), ht⟩) (fun q h => nomatch h) dX3_isInBagOf_16

/-! Rumour.isHiddenBy -/
set_option maxHeartbeats 4000000 in
set_option maxRecDepth 100000 in
theorem c_X3_isHiddenBy (l : Launch) (D : va_G) (ct : Nat → ClassId) (r : Nat) (r0 r1 r2 r3 r4 r5 r6 r7 : Int32) (c : Nat) (c0 c1 c2 c3 c4 : Int32) (hh : r7 = 0 ∨ r7 = 1) : Met l yX3_isHiddenBy (.code yX3_isHiddenBy cX3_isHiddenBy 2 (some .boolean) :: GW) ({ frames := 1, cells := 0, slots := 0, locals := 21 } : Room) (va_Pc [.ref r, .ref c] (fun U => GT D ct U ∧ Ob D r 4 [.int r0, .int r1, .int r2, .int r3, .int r4, .int r5, .int r6, .int r7] U.heap ∧ Ob D c 1 [.int c0, .int c1, .int c2, .int c3, .int c4] U.heap)) (qP (some (.int (b2 (r7 = 1 ∧ r6 = c0))))) 0 0 nF := by
  refine m_in (cc := cX3_isHiddenBy) [.ref r, .ref c] "RumourCustoms$Rumour" rfl (by decide) (Nat.le_of_ble_eq_true rfl) ?_
  intro pg e s m args below meth cd ls hx hb hml hown hts hr hlocks hin hPr hl
  obtain ⟨hT, hOr, hOc⟩ := hPr
  have hl : lv_has ls 2 [(0, .ref r), (1, .ref c)] := hl
  refine lv_aload_n hx hb dX3_isHiddenBy_0 rfl (lv_at hl 0 rfl) ?_
  refine k_get (C := RX3) (T := TX3) (N := 8) hx hb hts inGX3 hown (hT).1 hOr rfl 7 (by decide) (hts _ w_481) (fun _ h9 => h9) (v := .int r7) rfl dX3_isHiddenBy_1 ?_
  refine lv_if_eq (tgt := 19) hx hb dX3_isHiddenBy_4 (by decide) (fun c_4 => ?_) (fun c_4 => ?_)
  · -- taken
    refine lv_iconst (v := 0) hx hb dX3_isHiddenBy_19 (by decide) ?_
    exact W.zret (v := 0) hx hb hr rfl (fun t ht hW => ⟨rvi ((b2_f (fun z => by first | exact c_12 z.2 | (rw [z.1] at c_4; exact absurd c_4 (by decide)) | exact c_4 z.1)).symm), ht⟩) (fun q h => nomatch h) dX3_isHiddenBy_20
  · -- not taken
    refine lv_aload_n hx hb dX3_isHiddenBy_7 rfl (lv_at hl 0 rfl) ?_
    refine lv_aload_n hx hb dX3_isHiddenBy_8 rfl (lv_at hl 1 rfl) ?_
    refine c_p1 (va_runV (As := [.ref c]) (rest := []) ⟨hx, hb, hml, hown, hts⟩ (c_X3_isInBagOf l D ct r r0 r1 r2 r3 r4 r5 r6 r7 c c0 c1 c2 c3 c4) (cwV 1 hts (GG w_281 w_270 w_271 w_75 w_272) rfl rfl rfl (by decide) ⟨Nat.le_of_ble_eq_true rfl, Nat.le_of_ble_eq_true rfl⟩) ⟨(blindT fun _ _ _ _ h => h), Ob.recv (hT).1 hOr rfl, fun U hU hW => ⟨rfl, hT.warm hW, by rw [hU]; exact ⟨hOr, hOc⟩⟩⟩ rfl rfl hl.1 rfl (lv_room (Nat.le_of_ble_eq_true rfl)) dX3_isHiddenBy_9 ⟨Nat.le_of_ble_eq_true rfl, Nat.le_of_ble_eq_true rfl⟩) ?_
    refine lv_if_eq (tgt := 19) hx hb dX3_isHiddenBy_12 (by decide) (fun c_12 => ?_) (fun c_12 => ?_)
    · -- taken
      replace c_12 := b2_z c_12
      refine lv_iconst (v := 0) hx hb dX3_isHiddenBy_19 (by decide) ?_
      exact W.zret (v := 0) hx hb hr rfl (fun t ht hW => ⟨rvi ((b2_f (fun z => by first | exact c_12 z.2 | (rw [z.1] at c_4; exact absurd c_4 (by decide)) | exact c_4 z.1)).symm), ht⟩) (fun q h => nomatch h) dX3_isHiddenBy_20
    · -- not taken
      replace c_12 := b2_nz c_12
      refine lv_iconst (v := 1) hx hb dX3_isHiddenBy_15 (by decide) ?_
      refine lv_goto (tgt := 20) hx hb dX3_isHiddenBy_16 (by decide) ?_
      exact W.zret (v := 1) hx hb hr rfl (fun t ht hW => ⟨rvi ((b2_t ⟨by first | exact c_4 | (rcases hh with h | h; exact absurd h c_4; exact h), c_12⟩).symm), ht⟩) (fun q h => nomatch h) dX3_isHiddenBy_20

/-! Rumour.isShownBy -/
set_option maxHeartbeats 4000000 in
set_option maxRecDepth 100000 in
theorem c_X3_isShownBy (l : Launch) (D : va_G) (ct : Nat → ClassId) (r : Nat) (r0 r1 r2 r3 r4 r5 r6 r7 : Int32) (c : Nat) (c0 c1 c2 c3 c4 : Int32) : Met l yX3_isShownBy (.code yX3_isShownBy cX3_isShownBy 2 (some .boolean) :: GW) ({ frames := 1, cells := 0, slots := 0, locals := 21 } : Room) (va_Pc [.ref r, .ref c] (fun U => GT D ct U ∧ Ob D r 4 [.int r0, .int r1, .int r2, .int r3, .int r4, .int r5, .int r6, .int r7] U.heap ∧ Ob D c 1 [.int c0, .int c1, .int c2, .int c3, .int c4] U.heap)) (qP (some (.int (b2 (r7 = 0 ∧ r6 = c0))))) 0 0 nF := by
  refine m_in (cc := cX3_isShownBy) [.ref r, .ref c] "RumourCustoms$Rumour" rfl (by decide) (Nat.le_of_ble_eq_true rfl) ?_
  intro pg e s m args below meth cd ls hx hb hml hown hts hr hlocks hin hPr hl
  obtain ⟨hT, hOr, hOc⟩ := hPr
  have hl : lv_has ls 2 [(0, .ref r), (1, .ref c)] := hl
  refine lv_aload_n hx hb dX3_isShownBy_0 rfl (lv_at hl 0 rfl) ?_
  refine k_get (C := RX3) (T := TX3) (N := 8) hx hb hts inGX3 hown (hT).1 hOr rfl 7 (by decide) (hts _ w_481) (fun _ h9 => h9) (v := .int r7) rfl dX3_isShownBy_1 ?_
  refine lv_if_ne (tgt := 19) hx hb dX3_isShownBy_4 (by decide) (fun c_4 => ?_) (fun c_4 => ?_)
  · -- taken
    refine lv_iconst (v := 0) hx hb dX3_isShownBy_19 (by decide) ?_
    exact W.zret (v := 0) hx hb hr rfl (fun t ht hW => ⟨rvi ((b2_f (fun z => by first | exact c_12 z.2 | exact c_4 z.1)).symm), ht⟩) (fun q h => nomatch h) dX3_isShownBy_20
  · -- not taken
    refine lv_aload_n hx hb dX3_isShownBy_7 rfl (lv_at hl 0 rfl) ?_
    refine lv_aload_n hx hb dX3_isShownBy_8 rfl (lv_at hl 1 rfl) ?_
    refine c_p1 (va_runV (As := [.ref c]) (rest := []) ⟨hx, hb, hml, hown, hts⟩ (c_X3_isInBagOf l D ct r r0 r1 r2 r3 r4 r5 r6 r7 c c0 c1 c2 c3 c4) (cwV 1 hts (GG w_281 w_270 w_271 w_75 w_272) rfl rfl rfl (by decide) ⟨Nat.le_of_ble_eq_true rfl, Nat.le_of_ble_eq_true rfl⟩) ⟨(blindT fun _ _ _ _ h => h), Ob.recv (hT).1 hOr rfl, fun U hU hW => ⟨rfl, hT.warm hW, by rw [hU]; exact ⟨hOr, hOc⟩⟩⟩ rfl rfl hl.1 rfl (lv_room (Nat.le_of_ble_eq_true rfl)) dX3_isShownBy_9 ⟨Nat.le_of_ble_eq_true rfl, Nat.le_of_ble_eq_true rfl⟩) ?_
    refine lv_if_eq (tgt := 19) hx hb dX3_isShownBy_12 (by decide) (fun c_12 => ?_) (fun c_12 => ?_)
    · -- taken
      replace c_12 := b2_z c_12
      refine lv_iconst (v := 0) hx hb dX3_isShownBy_19 (by decide) ?_
      exact W.zret (v := 0) hx hb hr rfl (fun t ht hW => ⟨rvi ((b2_f (fun z => by first | exact c_12 z.2 | exact c_4 z.1)).symm), ht⟩) (fun q h => nomatch h) dX3_isShownBy_20
    · -- not taken
      replace c_12 := b2_nz c_12
      refine lv_iconst (v := 1) hx hb dX3_isShownBy_15 (by decide) ?_
      refine lv_goto (tgt := 20) hx hb dX3_isShownBy_16 (by decide) ?_
      exact W.zret (v := 1) hx hb hr rfl (fun t ht hW => ⟨rvi ((b2_t ⟨c_4, c_12⟩).symm), ht⟩) (fun q h => nomatch h) dX3_isShownBy_20

/-! Rumour.burnable -/
set_option maxHeartbeats 4000000 in
set_option maxRecDepth 100000 in
theorem c_X3_burnable (l : Launch) (D : va_G) (ct : Nat → ClassId) (r : Nat) (r0 r1 r2 r3 r4 r5 r6 r7 p : Int32) : Met l yX3_burnable (.code yX3_burnable cX3_burnable 2 (some .int) :: GW) ({ frames := 1, cells := 0, slots := 0, locals := 21 } : Room) (va_Pc [.ref r, .int p] (fun U => GT D ct U ∧ Ob D r 4 [.int r0, .int r1, .int r2, .int r3, .int r4, .int r5, .int r6, .int r7] U.heap)) (qP (some (.int (if r4 < p then r4 else p)))) 0 0 nF := by
  refine m_in (cc := cX3_burnable) [.ref r, .int p] "RumourCustoms$Rumour" rfl (by decide) (Nat.le_of_ble_eq_true rfl) ?_
  intro pg e s m args below meth cd ls hx hb hml hown hts hr hlocks hin hPr hl
  obtain ⟨hT, hOr⟩ := hPr
  have hl : lv_has ls 2 [(0, .ref r), (1, .int p)] := hl
  refine lv_iload_n hx hb dX3_burnable_0 rfl (lv_at hl 1 rfl) ?_
  refine lv_aload_n hx hb dX3_burnable_1 rfl (lv_at hl 0 rfl) ?_
  refine k_get (C := RX3) (T := TX3) (N := 8) hx hb hts inGX3 hown (hT).1 hOr rfl 4 (by decide) (hts _ w_475) (fun _ h9 => h9) (v := .int r4) rfl dX3_burnable_2 ?_
  refine va_mmin hx hb (hml.trans hl.1.symm) hown (hts _ w_721) (hts _ w_551) (hts _ w_73) (hts _ w_552) (Nat.le_of_ble_eq_true rfl) (Nat.le_of_ble_eq_true rfl) (Nat.le_of_ble_eq_true rfl) (Nat.le_of_ble_eq_true rfl) dX3_burnable_5 ?_
  exact W.iret (v := if r4 < p then r4 else p) hx hb hr (fun t ht hW => ⟨rvi rfl, ht⟩) (fun q h => nomatch h) dX3_burnable_8

/-! Rumour.figure -/
set_option maxHeartbeats 4000000 in
set_option maxRecDepth 100000 in
theorem c_X3_figure (l : Launch) (D : va_G) (ct : Nat → ClassId) (r : Nat) (r0 r1 r2 r3 r4 r5 r6 r7 p : Int32) (hh : r7 = 0 ∨ r7 = 1) : Met l yX3_figure (.code yX3_figure cX3_figure 2 (some .int) :: GW) ({ frames := 0, cells := 0, slots := 0, locals := 0 } : Room) (va_Pc [.ref r, .int p] (fun U => GT D ct U ∧ Ob D r 4 [.int r0, .int r1, .int r2, .int r3, .int r4, .int r5, .int r6, .int r7] U.heap)) (qP (some (.int (figR p r1 r2 r3 r4 r5 r6 r7)))) 0 0 nF := by
  refine m_in (cc := cX3_figure) [.ref r, .int p] "RumourCustoms$Rumour" rfl (by decide) (Nat.le_of_ble_eq_true rfl) ?_
  intro pg e s m args below meth cd ls hx hb hml hown hts hr hlocks hin hPr hl
  obtain ⟨hT, hOr⟩ := hPr
  have hl : lv_has ls 2 [(0, .ref r), (1, .int p)] := hl
  refine lv_iload_n hx hb dX3_figure_0 rfl (lv_at hl 1 rfl) ?_
  by_cases e1_0 : p = 0
  · -- case 0
    subst e1_0
    refine lv_tableIn (off := 39) (tgt := 40) hx hb dX3_figure_1 (by decide) (by decide) rfl (by decide) ?_
    refine lv_aload_n hx hb dX3_figure_40 rfl (lv_at hl 0 rfl) ?_
    refine k_get (C := RX3) (T := TX3) (N := 8) hx hb hts inGX3 hown (hT).1 hOr rfl 2 (by decide) (hts _ w_469) (fun _ h9 => h9) (v := .int r2) rfl dX3_figure_41 ?_
    exact W.iret (v := r2) hx hb hr (fun t ht hW => ⟨rvi rfl, ht⟩) (fun q h => nomatch h) dX3_figure_44
  by_cases e1_1 : p = 1
  · -- case 1
    subst e1_1
    refine lv_tableIn (off := 44) (tgt := 45) hx hb dX3_figure_1 (by decide) (by decide) rfl (by decide) ?_
    refine lv_aload_n hx hb dX3_figure_45 rfl (lv_at hl 0 rfl) ?_
    refine k_get (C := RX3) (T := TX3) (N := 8) hx hb hts inGX3 hown (hT).1 hOr rfl 3 (by decide) (hts _ w_472) (fun _ h9 => h9) (v := .int r3) rfl dX3_figure_46 ?_
    exact W.iret (v := r3) hx hb hr (fun t ht hW => ⟨rvi rfl, ht⟩) (fun q h => nomatch h) dX3_figure_49
  by_cases e1_2 : p = 2
  · -- case 2
    subst e1_2
    refine lv_tableIn (off := 49) (tgt := 50) hx hb dX3_figure_1 (by decide) (by decide) rfl (by decide) ?_
    refine lv_aload_n hx hb dX3_figure_50 rfl (lv_at hl 0 rfl) ?_
    refine k_get (C := RX3) (T := TX3) (N := 8) hx hb hts inGX3 hown (hT).1 hOr rfl 4 (by decide) (hts _ w_475) (fun _ h9 => h9) (v := .int r4) rfl dX3_figure_51 ?_
    exact W.iret (v := r4) hx hb hr (fun t ht hW => ⟨rvi rfl, ht⟩) (fun q h => nomatch h) dX3_figure_54
  by_cases e1_3 : p = 3
  · -- case 3
    subst e1_3
    refine lv_tableIn (off := 54) (tgt := 55) hx hb dX3_figure_1 (by decide) (by decide) rfl (by decide) ?_
    refine lv_aload_n hx hb dX3_figure_55 rfl (lv_at hl 0 rfl) ?_
    refine k_get (C := RX3) (T := TX3) (N := 8) hx hb hts inGX3 hown (hT).1 hOr rfl 1 (by decide) (hts _ w_467) (fun _ h9 => h9) (v := .int r1) rfl dX3_figure_56 ?_
    exact W.iret (v := r1) hx hb hr (fun t ht hW => ⟨rvi rfl, ht⟩) (fun q h => nomatch h) dX3_figure_59
  by_cases e1_4 : p = 4
  · -- case 4
    subst e1_4
    refine lv_tableIn (off := 59) (tgt := 60) hx hb dX3_figure_1 (by decide) (by decide) rfl (by decide) ?_
    refine lv_aload_n hx hb dX3_figure_60 rfl (lv_at hl 0 rfl) ?_
    refine k_get (C := RX3) (T := TX3) (N := 8) hx hb hts inGX3 hown (hT).1 hOr rfl 5 (by decide) (hts _ w_478) (fun _ h9 => h9) (v := .int r5) rfl dX3_figure_61 ?_
    exact W.iret (v := r5) hx hb hr (fun t ht hW => ⟨rvi rfl, ht⟩) (fun q h => nomatch h) dX3_figure_64
  by_cases e1_5 : p = 5
  · -- case 5
    subst e1_5
    refine lv_tableIn (off := 64) (tgt := 65) hx hb dX3_figure_1 (by decide) (by decide) rfl (by decide) ?_
    refine lv_aload_n hx hb dX3_figure_65 rfl (lv_at hl 0 rfl) ?_
    refine k_get (C := RX3) (T := TX3) (N := 8) hx hb hts inGX3 hown (hT).1 hOr rfl 6 (by decide) (hts _ w_480) (fun _ h9 => h9) (v := .int r6) rfl dX3_figure_66 ?_
    exact W.iret (v := r6) hx hb hr (fun t ht hW => ⟨rvi rfl, ht⟩) (fun q h => nomatch h) dX3_figure_69
  have t1 : p.toInt < 0 ∨ 5 < p.toInt := by
    have z := And.intro (lv_neT (a := 0) e1_0 rfl) (And.intro (lv_neT (a := 1) e1_1 rfl) (And.intro (lv_neT (a := 2) e1_2 rfl) (And.intro (lv_neT (a := 3) e1_3 rfl) (And.intro (lv_neT (a := 4) e1_4 rfl) (And.intro (lv_neT (a := 5) e1_5 rfl) trivial)))))
    omega
  refine lv_tableOut (tgt := 70) hx hb dX3_figure_1 t1 (by decide) ?_
  refine lv_aload_n hx hb dX3_figure_70 rfl (lv_at hl 0 rfl) ?_
  refine k_get (C := RX3) (T := TX3) (N := 8) hx hb hts inGX3 hown (hT).1 hOr rfl 7 (by decide) (hts _ w_481) (fun _ h9 => h9) (v := .int r7) rfl dX3_figure_71 ?_
  refine lv_if_eq (tgt := 81) hx hb dX3_figure_74 (by decide) (fun c_74 => ?_) (fun c_74 => ?_)
  · -- taken
    refine lv_iconst (v := 0) hx hb dX3_figure_81 (by decide) ?_
    exact W.iret (v := 0) hx hb hr (fun t ht hW => ⟨rvi (by simp only [figR, e1_0, e1_1, e1_2, e1_3, e1_4, e1_5, if_false]; rcases hh with h | h <;> first | exact h.symm | (rw [h] at c_74; exact absurd rfl c_74) | (rw [c_74] at h; exact absurd h (by decide))), ht⟩) (fun q h => nomatch h) dX3_figure_82
  · -- not taken
    refine lv_iconst (v := 1) hx hb dX3_figure_77 (by decide) ?_
    refine lv_goto (tgt := 82) hx hb dX3_figure_78 (by decide) ?_
    exact W.iret (v := 1) hx hb hr (fun t ht hW => ⟨rvi (by simp only [figR, e1_0, e1_1, e1_2, e1_3, e1_4, e1_5, if_false]; rcases hh with h | h <;> first | exact h.symm | (rw [h] at c_74; exact absurd rfl c_74) | (rw [c_74] at h; exact absurd h (by decide))), ht⟩) (fun q h => nomatch h) dX3_figure_82

/-! RoadMap.isOnMap -/
set_option maxHeartbeats 4000000 in
set_option maxRecDepth 100000 in
theorem c_X2_isOnMap (l : Launch) (D : va_G) (ct : Nat → ClassId) (p : Int32) : Met l yX2_isOnMap (.code yX2_isOnMap cX2_isOnMap 1 (some .boolean) :: GW) ({ frames := 0, cells := 0, slots := 0, locals := 0 } : Room) (va_Pc [.int p] (fun U => GT D ct U ∧ True)) (qP (some (.int (b2 (0 ≤ p ∧ p < 10))))) 0 0 nF := by
  refine m_in (cc := cX2_isOnMap) [.int p] "RumourCustoms$RoadMap" rfl (by decide) (Nat.le_of_ble_eq_true rfl) ?_
  intro pg e s m args below meth cd ls hx hb hml hown hts hr hlocks hin hPr hl
  obtain ⟨hT, _⟩ := hPr
  have hl : lv_has ls 1 [(0, .int p)] := hl
  refine lv_iload_n hx hb dX2_isOnMap_0 rfl (lv_at hl 0 rfl) ?_
  refine lv_if_lt (tgt := 14) hx hb dX2_isOnMap_1 (by decide) (fun c_1 => ?_) (fun c_1 => ?_)
  · -- taken
    refine lv_iconst (v := 0) hx hb dX2_isOnMap_14 (by decide) ?_
    exact W.zret (v := 0) hx hb hr rfl (fun t ht hW => ⟨rvi ((b2_f (fun z => by first | exact absurd c_1 (Int32.not_lt.mpr z.1) | exact absurd c_7 (Int32.not_le.mpr z.2))).symm), ht⟩) (fun q h => nomatch h) dX2_isOnMap_15
  · -- not taken
    refine lv_iload_n hx hb dX2_isOnMap_4 rfl (lv_at hl 0 rfl) ?_
    refine lv_bipush (v := 10) hx hb dX2_isOnMap_5 (by decide) ?_
    refine lv_icmp_ge (tgt := 14) hx hb dX2_isOnMap_7 (by decide) (fun c_7 => ?_) (fun c_7 => ?_)
    · -- taken
      refine lv_iconst (v := 0) hx hb dX2_isOnMap_14 (by decide) ?_
      exact W.zret (v := 0) hx hb hr rfl (fun t ht hW => ⟨rvi ((b2_f (fun z => by first | exact absurd c_1 (Int32.not_lt.mpr z.1) | exact absurd c_7 (Int32.not_le.mpr z.2))).symm), ht⟩) (fun q h => nomatch h) dX2_isOnMap_15
    · -- not taken
      refine lv_iconst (v := 1) hx hb dX2_isOnMap_10 (by decide) ?_
      refine lv_goto (tgt := 15) hx hb dX2_isOnMap_11 (by decide) ?_
      exact W.zret (v := 1) hx hb hr rfl (fun t ht hW => ⟨rvi ((b2_t ⟨by simpa using c_1, by simpa using c_7⟩).symm), ht⟩) (fun q h => nomatch h) dX2_isOnMap_15

/-! ArrayList.size -/
set_option maxHeartbeats 4000000 in
set_option maxRecDepth 100000 in
theorem c_Jx4a65c_size_8abf5 (l : Launch) (D : va_G) (ct : Nat → ClassId) (a : Nat) (a0 : Int32) (a1 : Nat) (a2 : Int32) : Met l yJx4a65c_size_8abf5 (.code yJx4a65c_size_8abf5 cJx4a65c_size_8abf5 1 (some .int) :: GW) ({ frames := 0, cells := 0, slots := 0, locals := 0 } : Room) (va_Pc [.ref a] (fun U => GT D ct U ∧ Ob D a 0 [.int a0, .ref a1, .int a2] U.heap)) (qP (some (.int a2))) 0 0 nF := by
  refine m_in (cc := cJx4a65c_size_8abf5) [.ref a] "java/util/ArrayList" rfl (by decide) (Nat.le_of_ble_eq_true rfl) ?_
  intro pg e s m args below meth cd ls hx hb hml hown hts hr hlocks hin hPr hl
  obtain ⟨hT, hOa⟩ := hPr
  have hl : lv_has ls 1 [(0, .ref a)] := hl
  refine lv_aload_n hx hb dJx4a65c_size_8abf5_0 rfl (lv_at hl 0 rfl) ?_
  refine k_get (C := RJx4a65c) (T := TJx4a65c) (N := 3) hx hb hts inGJx4a65c hown (hT).1 hOa rfl 2 (by decide) (hts _ w_136) (fun _ h9 => h9) (v := .int a2) rfl dJx4a65c_size_8abf5_1 ?_
  exact W.iret (v := a2) hx hb hr (fun t ht hW => ⟨rvi rfl, ht⟩) (fun q h => nomatch h) dJx4a65c_size_8abf5_4
