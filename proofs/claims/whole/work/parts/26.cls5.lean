/-! Carrier() -/
set_option maxHeartbeats 4000000 in
set_option maxRecDepth 100000 in
theorem c_X0_init (l : Launch) (D : va_G) (ct : Nat → ClassId) (c : Nat) (c0 c1 c2 c3 c4 p q u : Int32) : Met l yX0_init (.code yX0_init cX0_init 4 none :: GW) ({ frames := 1, cells := 0, slots := 0, locals := 20 } : Room) (va_Pc [.ref c, .int p, .int q, .int u] (fun U => GT D ct U ∧ Ob D c 1 [.int c0, .int c1, .int c2, .int c3, .int c4] U.heap)) (qW0 c (fun h => Ob D c 1 [.int p, .int q, .int c2, .int u, .int c4] h)) 0 0 (fun q => q = c) := by
  refine m_in (cc := cX0_init) [.ref c, .int p, .int q, .int u] "RumourCustoms$Carrier" rfl (by decide) (Nat.le_of_ble_eq_true rfl) ?_
  intro pg e s m args below meth cd ls hx hb hml hown hts hr hlocks hin hPr hl
  obtain ⟨hT, hOc⟩ := hPr
  have hl : lv_has ls 4 [(0, .ref c), (1, .int p), (2, .int q), (3, .int u)] := hl
  have hS : va_S (nZ (fun q => q ≠ c)) s.heap s.heap [] := va_S.rf
  have hQ : ∀ q : Nat, q ≠ c → s.heap[q]? = s.heap[q]? := fun _ _ => rfl
  refine lv_aload_n hx hb dX0_init_0 rfl (lv_at hl 0 rfl) ?_
  refine W.objInit hx hb hown (hts _ w_623) (hts _ w_89) (hts _ w_90) rfl (hl.1.trans hml.symm) rfl dX0_init_1 (Nat.le_of_ble_eq_true rfl) (Nat.le_of_ble_eq_true rfl) ?_
  refine W.eq (g2 := F0 m 4 ls []) rfl ?_
  refine lv_aload_n hx hb dX0_init_4 rfl (lv_at hl 0 rfl) ?_
  refine lv_iload_n hx hb dX0_init_5 rfl (lv_at hl 1 rfl) ?_
  refine k_putF (C := RX0) (T := TX0) (N := 5) hx hb hts inGX0 tyX0 tyX0_ok nmX0 hown (hT).1 hOc hS (fun h => h rfl) rfl 0 (Nat.le_of_ble_eq_true rfl) (hts _ w_624) (fun _ h9 => h9) rfl hin rfl (ty := .int) (v := .int p) (by decide +kernel) rfl rfl (Nat.le_of_ble_eq_true rfl) dX0_init_6 (fun H6 locs6 hO6 hz6 hq6 hS6 => ?_)
  have hO6 : Ob D c 1 [.int p, .int c1, .int c2, .int c3, .int c4] H6 := hO6
  have hQ6 : ∀ q : Nat, q ≠ c → H6[q]? = s.heap[q]? := fun q h => (hq6 q h).trans (hQ q h)
  refine lv_aload_n hx hb dX0_init_9 rfl (lv_at hl 0 rfl) ?_
  refine lv_iload_n hx hb dX0_init_10 rfl (lv_at hl 2 rfl) ?_
  refine k_put (C := RX0) (T := TX0) (N := 5) hx hb hts inGX0 tyX0 tyX0_ok nmX0 hown (hT).1 hO6 hS6 (fun h => h rfl) rfl 1 (Nat.le_of_ble_eq_true rfl) (hts _ w_626) (fun _ h9 => h9) rfl (ty := .int) (v := .int q) (by decide +kernel) rfl rfl (Nat.le_of_ble_eq_true rfl) dX0_init_11 (fun H11 locs11 hO11 hz11 hq11 hS11 => ?_)
  have hO11 : Ob D c 1 [.int p, .int q, .int c2, .int c3, .int c4] H11 := hO11
  have hQ11 : ∀ q : Nat, q ≠ c → H11[q]? = s.heap[q]? := fun q h => (hq11 q h).trans (hQ6 q h)
  refine lv_aload_n hx hb dX0_init_14 rfl (lv_at hl 0 rfl) ?_
  refine lv_iload_n hx hb dX0_init_15 rfl (lv_at hl 3 rfl) ?_
  refine k_put (C := RX0) (T := TX0) (N := 5) hx hb hts inGX0 tyX0 tyX0_ok nmX0 hown (hT).1 hO11 hS11 (fun h => h rfl) rfl 3 (Nat.le_of_ble_eq_true rfl) (hts _ w_630) (fun _ h9 => h9) rfl (ty := .int) (v := .int u) (by decide +kernel) rfl rfl (Nat.le_of_ble_eq_true rfl) dX0_init_16 (fun H16 locs16 hO16 hz16 hq16 hS16 => ?_)
  have hO16 : Ob D c 1 [.int p, .int q, .int c2, .int u, .int c4] H16 := hO16
  have hQ16 : ∀ q : Nat, q ≠ c → H16[q]? = s.heap[q]? := fun q h => (hq16 q h).trans (hQ11 q h)
  exact W.vret hx hb hr (fun t ht hW => ⟨rfl, by rw [ht]; exact hO16, by rw [ht]; exact hQ16⟩) (fun z h => Classical.byContradiction (fun y => hS16.2.2 z h y)) dX0_init_19

/-! Road() -/
set_option maxHeartbeats 4000000 in
set_option maxRecDepth 100000 in
theorem c_X1_init (l : Launch) (D : va_G) (ct : Nat → ClassId) (d : Nat) (d0 d1 d2 d3 d4 d5 p q u v : Int32) : Met l yX1_init (.code yX1_init cX1_init 5 none :: GW) ({ frames := 1, cells := 0, slots := 0, locals := 20 } : Room) (va_Pc [.ref d, .int p, .int q, .int u, .int v] (fun U => GT D ct U ∧ Ob D d 2 [.int d0, .int d1, .int d2, .int d3, .int d4, .int d5] U.heap)) (qW0 d (fun h => Ob D d 2 [.int p, .int q, .int u, .int v, .int d4, .int d5] h)) 0 0 (fun q => q = d) := by
  refine m_in (cc := cX1_init) [.ref d, .int p, .int q, .int u, .int v] "RumourCustoms$Road" rfl (by decide) (Nat.le_of_ble_eq_true rfl) ?_
  intro pg e s m args below meth cd ls hx hb hml hown hts hr hlocks hin hPr hl
  obtain ⟨hT, hOd⟩ := hPr
  have hl : lv_has ls 5 [(0, .ref d), (1, .int p), (2, .int q), (3, .int u), (4, .int v)] := hl
  have hS : va_S (nZ (fun q => q ≠ d)) s.heap s.heap [] := va_S.rf
  have hQ : ∀ q : Nat, q ≠ d → s.heap[q]? = s.heap[q]? := fun _ _ => rfl
  refine lv_aload_n hx hb dX1_init_0 rfl (lv_at hl 0 rfl) ?_
  refine W.objInit hx hb hown (hts _ w_413) (hts _ w_89) (hts _ w_90) rfl (hl.1.trans hml.symm) rfl dX1_init_1 (Nat.le_of_ble_eq_true rfl) (Nat.le_of_ble_eq_true rfl) ?_
  refine W.eq (g2 := F0 m 4 ls []) rfl ?_
  refine lv_aload_n hx hb dX1_init_4 rfl (lv_at hl 0 rfl) ?_
  refine lv_iload_n hx hb dX1_init_5 rfl (lv_at hl 1 rfl) ?_
  refine k_putF (C := RX1) (T := TX1) (N := 6) hx hb hts inGX1 tyX1 tyX1_ok nmX1 hown (hT).1 hOd hS (fun h => h rfl) rfl 0 (Nat.le_of_ble_eq_true rfl) (hts _ w_414) (fun _ h9 => h9) rfl hin rfl (ty := .int) (v := .int p) (by decide +kernel) rfl rfl (Nat.le_of_ble_eq_true rfl) dX1_init_6 (fun H6 locs6 hO6 hz6 hq6 hS6 => ?_)
  have hO6 : Ob D d 2 [.int p, .int d1, .int d2, .int d3, .int d4, .int d5] H6 := hO6
  have hQ6 : ∀ q : Nat, q ≠ d → H6[q]? = s.heap[q]? := fun q h => (hq6 q h).trans (hQ q h)
  refine lv_aload_n hx hb dX1_init_9 rfl (lv_at hl 0 rfl) ?_
  refine lv_iload_n hx hb dX1_init_10 rfl (lv_at hl 2 rfl) ?_
  refine k_putF (C := RX1) (T := TX1) (N := 6) hx hb hts inGX1 tyX1 tyX1_ok nmX1 hown (hT).1 hO6 hS6 (fun h => h rfl) rfl 1 (Nat.le_of_ble_eq_true rfl) (hts _ w_417) (fun _ h9 => h9) rfl hin rfl (ty := .int) (v := .int q) (by decide +kernel) rfl rfl (Nat.le_of_ble_eq_true rfl) dX1_init_11 (fun H11 locs11 hO11 hz11 hq11 hS11 => ?_)
  have hO11 : Ob D d 2 [.int p, .int q, .int d2, .int d3, .int d4, .int d5] H11 := hO11
  have hQ11 : ∀ q : Nat, q ≠ d → H11[q]? = s.heap[q]? := fun q h => (hq11 q h).trans (hQ6 q h)
  refine lv_aload_n hx hb dX1_init_14 rfl (lv_at hl 0 rfl) ?_
  refine lv_iload_n hx hb dX1_init_15 rfl (lv_at hl 3 rfl) ?_
  refine k_putF (C := RX1) (T := TX1) (N := 6) hx hb hts inGX1 tyX1 tyX1_ok nmX1 hown (hT).1 hO11 hS11 (fun h => h rfl) rfl 2 (Nat.le_of_ble_eq_true rfl) (hts _ w_418) (fun _ h9 => h9) rfl hin rfl (ty := .int) (v := .int u) (by decide +kernel) rfl rfl (Nat.le_of_ble_eq_true rfl) dX1_init_16 (fun H16 locs16 hO16 hz16 hq16 hS16 => ?_)
  have hO16 : Ob D d 2 [.int p, .int q, .int u, .int d3, .int d4, .int d5] H16 := hO16
  have hQ16 : ∀ q : Nat, q ≠ d → H16[q]? = s.heap[q]? := fun q h => (hq16 q h).trans (hQ11 q h)
  refine lv_aload_n hx hb dX1_init_19 rfl (lv_at hl 0 rfl) ?_
  refine lv_iload hx hb dX1_init_20 (lv_at hl 4 rfl) ?_
  refine k_putF (C := RX1) (T := TX1) (N := 6) hx hb hts inGX1 tyX1 tyX1_ok nmX1 hown (hT).1 hO16 hS16 (fun h => h rfl) rfl 3 (Nat.le_of_ble_eq_true rfl) (hts _ w_419) (fun _ h9 => h9) rfl hin rfl (ty := .int) (v := .int v) (by decide +kernel) rfl rfl (Nat.le_of_ble_eq_true rfl) dX1_init_22 (fun H22 locs22 hO22 hz22 hq22 hS22 => ?_)
  have hO22 : Ob D d 2 [.int p, .int q, .int u, .int v, .int d4, .int d5] H22 := hO22
  have hQ22 : ∀ q : Nat, q ≠ d → H22[q]? = s.heap[q]? := fun q h => (hq22 q h).trans (hQ16 q h)
  exact W.vret hx hb hr (fun t ht hW => ⟨rfl, by rw [ht]; exact hO22, by rw [ht]; exact hQ22⟩) (fun z h => Classical.byContradiction (fun y => hS22.2.2 z h y)) dX1_init_25

/-! Rumour() -/
set_option maxHeartbeats 4000000 in
set_option maxRecDepth 100000 in
theorem c_X3_init (l : Launch) (D : va_G) (ct : Nat → ClassId) (r : Nat) (r0 r1 r2 r3 r4 r5 r6 r7 p1 p2 p3 p4 p5 p6 : Int32) : Met l yX3_init (.code yX3_init cX3_init 7 none :: GW) ({ frames := 1, cells := 0, slots := 0, locals := 20 } : Room) (va_Pc [.ref r, .int p1, .int p2, .int p3, .int p4, .int p5, .int p6] (fun U => GT D ct U ∧ Ob D r 4 [.int r0, .int r1, .int r2, .int r3, .int r4, .int r5, .int r6, .int r7] U.heap)) (qW0 r (fun h => Ob D r 4 [.int p1, .int p2, .int p3, .int p4, .int p5, .int p6, .int (-1), .int r7] h)) 0 0 (fun q => q = r) := by
  refine m_in (cc := cX3_init) [.ref r, .int p1, .int p2, .int p3, .int p4, .int p5, .int p6] "RumourCustoms$Rumour" rfl (by decide) (Nat.le_of_ble_eq_true rfl) ?_
  intro pg e s m args below meth cd ls hx hb hml hown hts hr hlocks hin hPr hl
  obtain ⟨hT, hOr⟩ := hPr
  have hl : lv_has ls 7 [(0, .ref r), (1, .int p1), (2, .int p2), (3, .int p3), (4, .int p4), (5, .int p5), (6, .int p6)] := hl
  have hS : va_S (nZ (fun q => q ≠ r)) s.heap s.heap [] := va_S.rf
  have hQ : ∀ q : Nat, q ≠ r → s.heap[q]? = s.heap[q]? := fun _ _ => rfl
  refine lv_aload_n hx hb dX3_init_0 rfl (lv_at hl 0 rfl) ?_
  refine W.objInit hx hb hown (hts _ w_464) (hts _ w_89) (hts _ w_90) rfl (hl.1.trans hml.symm) rfl dX3_init_1 (Nat.le_of_ble_eq_true rfl) (Nat.le_of_ble_eq_true rfl) ?_
  refine W.eq (g2 := F0 m 4 ls []) rfl ?_
  refine lv_aload_n hx hb dX3_init_4 rfl (lv_at hl 0 rfl) ?_
  refine lv_iload_n hx hb dX3_init_5 rfl (lv_at hl 1 rfl) ?_
  refine k_putF (C := RX3) (T := TX3) (N := 8) hx hb hts inGX3 tyX3 tyX3_ok nmX3 hown (hT).1 hOr hS (fun h => h rfl) rfl 0 (Nat.le_of_ble_eq_true rfl) (hts _ w_465) (fun _ h9 => h9) rfl hin rfl (ty := .int) (v := .int p1) (by decide +kernel) rfl rfl (Nat.le_of_ble_eq_true rfl) dX3_init_6 (fun H6 locs6 hO6 hz6 hq6 hS6 => ?_)
  have hO6 : Ob D r 4 [.int p1, .int r1, .int r2, .int r3, .int r4, .int r5, .int r6, .int r7] H6 := hO6
  have hQ6 : ∀ q : Nat, q ≠ r → H6[q]? = s.heap[q]? := fun q h => (hq6 q h).trans (hQ q h)
  refine lv_aload_n hx hb dX3_init_9 rfl (lv_at hl 0 rfl) ?_
  refine lv_iload_n hx hb dX3_init_10 rfl (lv_at hl 2 rfl) ?_
  refine k_putF (C := RX3) (T := TX3) (N := 8) hx hb hts inGX3 tyX3 tyX3_ok nmX3 hown (hT).1 hO6 hS6 (fun h => h rfl) rfl 1 (Nat.le_of_ble_eq_true rfl) (hts _ w_467) (fun _ h9 => h9) rfl hin rfl (ty := .int) (v := .int p2) (by decide +kernel) rfl rfl (Nat.le_of_ble_eq_true rfl) dX3_init_11 (fun H11 locs11 hO11 hz11 hq11 hS11 => ?_)
  have hO11 : Ob D r 4 [.int p1, .int p2, .int r2, .int r3, .int r4, .int r5, .int r6, .int r7] H11 := hO11
  have hQ11 : ∀ q : Nat, q ≠ r → H11[q]? = s.heap[q]? := fun q h => (hq11 q h).trans (hQ6 q h)
  refine lv_aload_n hx hb dX3_init_14 rfl (lv_at hl 0 rfl) ?_
  refine lv_iload_n hx hb dX3_init_15 rfl (lv_at hl 3 rfl) ?_
  refine k_putF (C := RX3) (T := TX3) (N := 8) hx hb hts inGX3 tyX3 tyX3_ok nmX3 hown (hT).1 hO11 hS11 (fun h => h rfl) rfl 2 (Nat.le_of_ble_eq_true rfl) (hts _ w_469) (fun _ h9 => h9) rfl hin rfl (ty := .int) (v := .int p3) (by decide +kernel) rfl rfl (Nat.le_of_ble_eq_true rfl) dX3_init_16 (fun H16 locs16 hO16 hz16 hq16 hS16 => ?_)
  have hO16 : Ob D r 4 [.int p1, .int p2, .int p3, .int r3, .int r4, .int r5, .int r6, .int r7] H16 := hO16
  have hQ16 : ∀ q : Nat, q ≠ r → H16[q]? = s.heap[q]? := fun q h => (hq16 q h).trans (hQ11 q h)
  refine lv_aload_n hx hb dX3_init_19 rfl (lv_at hl 0 rfl) ?_
  refine lv_iload hx hb dX3_init_20 (lv_at hl 4 rfl) ?_
  refine k_putF (C := RX3) (T := TX3) (N := 8) hx hb hts inGX3 tyX3 tyX3_ok nmX3 hown (hT).1 hO16 hS16 (fun h => h rfl) rfl 3 (Nat.le_of_ble_eq_true rfl) (hts _ w_472) (fun _ h9 => h9) rfl hin rfl (ty := .int) (v := .int p4) (by decide +kernel) rfl rfl (Nat.le_of_ble_eq_true rfl) dX3_init_22 (fun H22 locs22 hO22 hz22 hq22 hS22 => ?_)
  have hO22 : Ob D r 4 [.int p1, .int p2, .int p3, .int p4, .int r4, .int r5, .int r6, .int r7] H22 := hO22
  have hQ22 : ∀ q : Nat, q ≠ r → H22[q]? = s.heap[q]? := fun q h => (hq22 q h).trans (hQ16 q h)
  refine lv_aload_n hx hb dX3_init_25 rfl (lv_at hl 0 rfl) ?_
  refine lv_iload hx hb dX3_init_26 (lv_at hl 5 rfl) ?_
  refine k_put (C := RX3) (T := TX3) (N := 8) hx hb hts inGX3 tyX3 tyX3_ok nmX3 hown (hT).1 hO22 hS22 (fun h => h rfl) rfl 4 (Nat.le_of_ble_eq_true rfl) (hts _ w_475) (fun _ h9 => h9) rfl (ty := .int) (v := .int p5) (by decide +kernel) rfl rfl (Nat.le_of_ble_eq_true rfl) dX3_init_28 (fun H28 locs28 hO28 hz28 hq28 hS28 => ?_)
  have hO28 : Ob D r 4 [.int p1, .int p2, .int p3, .int p4, .int p5, .int r5, .int r6, .int r7] H28 := hO28
  have hQ28 : ∀ q : Nat, q ≠ r → H28[q]? = s.heap[q]? := fun q h => (hq28 q h).trans (hQ22 q h)
  refine lv_aload_n hx hb dX3_init_31 rfl (lv_at hl 0 rfl) ?_
  refine lv_iload hx hb dX3_init_32 (lv_at hl 6 rfl) ?_
  refine k_put (C := RX3) (T := TX3) (N := 8) hx hb hts inGX3 tyX3 tyX3_ok nmX3 hown (hT).1 hO28 hS28 (fun h => h rfl) rfl 5 (Nat.le_of_ble_eq_true rfl) (hts _ w_478) (fun _ h9 => h9) rfl (ty := .int) (v := .int p6) (by decide +kernel) rfl rfl (Nat.le_of_ble_eq_true rfl) dX3_init_34 (fun H34 locs34 hO34 hz34 hq34 hS34 => ?_)
  have hO34 : Ob D r 4 [.int p1, .int p2, .int p3, .int p4, .int p5, .int p6, .int r6, .int r7] H34 := hO34
  have hQ34 : ∀ q : Nat, q ≠ r → H34[q]? = s.heap[q]? := fun q h => (hq34 q h).trans (hQ28 q h)
  refine lv_aload_n hx hb dX3_init_37 rfl (lv_at hl 0 rfl) ?_
  refine lv_iconst (v := (-1)) hx hb dX3_init_38 (by decide) ?_
  refine k_put (C := RX3) (T := TX3) (N := 8) hx hb hts inGX3 tyX3 tyX3_ok nmX3 hown (hT).1 hO34 hS34 (fun h => h rfl) rfl 6 (Nat.le_of_ble_eq_true rfl) (hts _ w_480) (fun _ h9 => h9) rfl (ty := .int) (v := .int (-1)) (by decide +kernel) rfl rfl (Nat.le_of_ble_eq_true rfl) dX3_init_39 (fun H39 locs39 hO39 hz39 hq39 hS39 => ?_)
  have hO39 : Ob D r 4 [.int p1, .int p2, .int p3, .int p4, .int p5, .int p6, .int (-1), .int r7] H39 := hO39
  have hQ39 : ∀ q : Nat, q ≠ r → H39[q]? = s.heap[q]? := fun q h => (hq39 q h).trans (hQ34 q h)
  exact W.vret hx hb hr (fun t ht hW => ⟨rfl, by rw [ht]; exact hO39, by rw [ht]; exact hQ39⟩) (fun z h => Classical.byContradiction (fun y => hS39.2.2 z h y)) dX3_init_42

/-! Rumour.move -/
set_option maxHeartbeats 4000000 in
set_option maxRecDepth 100000 in
theorem c_X3_move (l : Launch) (D : va_G) (ct : Nat → ClassId) (r : Nat) (r0 r1 r2 r3 r4 r5 r6 r7 p q : Int32) : Met l yX3_move (.code yX3_move cX3_move 3 none :: GW) ({ frames := 0, cells := 0, slots := 0, locals := 0 } : Room) (va_Pc [.ref r, .int p, .int q] (fun U => GT D ct U ∧ Ob D r 4 [.int r0, .int r1, .int r2, .int r3, .int r4, .int r5, .int r6, .int r7] U.heap)) (qW0 r (fun h => Ob D r 4 [.int r0, .int r1, .int r2, .int r3, .int r4, .int p, .int q, .int 0] h)) 0 0 (fun q => q = r) := by
  refine m_in (cc := cX3_move) [.ref r, .int p, .int q] "RumourCustoms$Rumour" rfl (by decide) (Nat.le_of_ble_eq_true rfl) ?_
  intro pg e s m args below meth cd ls hx hb hml hown hts hr hlocks hin hPr hl
  obtain ⟨hT, hOr⟩ := hPr
  have hl : lv_has ls 3 [(0, .ref r), (1, .int p), (2, .int q)] := hl
  have hS : va_S (nZ (fun q => q ≠ r)) s.heap s.heap [] := va_S.rf
  have hQ : ∀ q : Nat, q ≠ r → s.heap[q]? = s.heap[q]? := fun _ _ => rfl
  refine lv_aload_n hx hb dX3_move_0 rfl (lv_at hl 0 rfl) ?_
  refine lv_iload_n hx hb dX3_move_1 rfl (lv_at hl 1 rfl) ?_
  refine k_put (C := RX3) (T := TX3) (N := 8) hx hb hts inGX3 tyX3 tyX3_ok nmX3 hown (hT).1 hOr hS (fun h => h rfl) rfl 5 (Nat.le_of_ble_eq_true rfl) (hts _ w_478) (fun _ h9 => h9) rfl (ty := .int) (v := .int p) (by decide +kernel) rfl rfl (Nat.le_of_ble_eq_true rfl) dX3_move_2 (fun H2 locs2 hO2 hz2 hq2 hS2 => ?_)
  have hO2 : Ob D r 4 [.int r0, .int r1, .int r2, .int r3, .int r4, .int p, .int r6, .int r7] H2 := hO2
  have hQ2 : ∀ q : Nat, q ≠ r → H2[q]? = s.heap[q]? := fun q h => (hq2 q h).trans (hQ q h)
  refine lv_aload_n hx hb dX3_move_5 rfl (lv_at hl 0 rfl) ?_
  refine lv_iload_n hx hb dX3_move_6 rfl (lv_at hl 2 rfl) ?_
  refine k_put (C := RX3) (T := TX3) (N := 8) hx hb hts inGX3 tyX3 tyX3_ok nmX3 hown (hT).1 hO2 hS2 (fun h => h rfl) rfl 6 (Nat.le_of_ble_eq_true rfl) (hts _ w_480) (fun _ h9 => h9) rfl (ty := .int) (v := .int q) (by decide +kernel) rfl rfl (Nat.le_of_ble_eq_true rfl) dX3_move_7 (fun H7 locs7 hO7 hz7 hq7 hS7 => ?_)
  have hO7 : Ob D r 4 [.int r0, .int r1, .int r2, .int r3, .int r4, .int p, .int q, .int r7] H7 := hO7
  have hQ7 : ∀ q : Nat, q ≠ r → H7[q]? = s.heap[q]? := fun q h => (hq7 q h).trans (hQ2 q h)
  refine lv_aload_n hx hb dX3_move_10 rfl (lv_at hl 0 rfl) ?_
  refine lv_iconst (v := 0) hx hb dX3_move_11 (by decide) ?_
  refine k_put (C := RX3) (T := TX3) (N := 8) hx hb hts inGX3 tyX3 tyX3_ok nmX3 hown (hT).1 hO7 hS7 (fun h => h rfl) rfl 7 (Nat.le_of_ble_eq_true rfl) (hts _ w_481) (fun _ h9 => h9) rfl (ty := .boolean) (v := .int 0) (by decide +kernel) rfl rfl (Nat.le_of_ble_eq_true rfl) dX3_move_12 (fun H12 locs12 hO12 hz12 hq12 hS12 => ?_)
  have hO12 : Ob D r 4 [.int r0, .int r1, .int r2, .int r3, .int r4, .int p, .int q, .int 0] H12 := hO12
  have hQ12 : ∀ q : Nat, q ≠ r → H12[q]? = s.heap[q]? := fun q h => (hq12 q h).trans (hQ7 q h)
  exact W.vret hx hb hr (fun t ht hW => ⟨rfl, by rw [ht]; exact hO12, by rw [ht]; exact hQ12⟩) (fun z h => Classical.byContradiction (fun y => hS12.2.2 z h y)) dX3_move_15

/-! Rumour.putIntoBag -/
set_option maxHeartbeats 4000000 in
set_option maxRecDepth 100000 in
theorem c_X3_putIntoBag (l : Launch) (D : va_G) (ct : Nat → ClassId) (r : Nat) (r0 r1 r2 r3 r4 r5 r6 r7 : Int32) (c : Nat) (c0 c1 c2 c3 c4 : Int32) : Met l yX3_putIntoBag (.code yX3_putIntoBag cX3_putIntoBag 2 none :: GW) ({ frames := 1, cells := 0, slots := 0, locals := 22 } : Room) (va_Pc [.ref r, .ref c] (fun U => GT D ct U ∧ Ob D r 4 [.int r0, .int r1, .int r2, .int r3, .int r4, .int r5, .int r6, .int r7] U.heap ∧ Ob D c 1 [.int c0, .int c1, .int c2, .int c3, .int c4] U.heap)) (qW0 r (fun h => Ob D r 4 [.int r0, .int r1, .int r2, .int r3, .int r4, .int (-1), .int c0, .int 0] h)) 0 0 (fun q => q = r) := by
  refine m_in (cc := cX3_putIntoBag) [.ref r, .ref c] "RumourCustoms$Rumour" rfl (by decide) (Nat.le_of_ble_eq_true rfl) ?_
  intro pg e s m args below meth cd ls hx hb hml hown hts hr hlocks hin hPr hl
  obtain ⟨hT, hOr, hOc⟩ := hPr
  have hl : lv_has ls 2 [(0, .ref r), (1, .ref c)] := hl
  have hS : va_S (nZ (fun q => q ≠ r)) s.heap s.heap [] := va_S.rf
  have hQ : ∀ q : Nat, q ≠ r → s.heap[q]? = s.heap[q]? := fun _ _ => rfl
  refine lv_aload_n hx hb dX3_putIntoBag_0 rfl (lv_at hl 0 rfl) ?_
  refine lv_iconst (v := (-1)) hx hb dX3_putIntoBag_1 (by decide) ?_
  refine lv_aload_n hx hb dX3_putIntoBag_2 rfl (lv_at hl 1 rfl) ?_
  refine k_get (C := RX0) (T := TX0) (N := 5) hx hb hts inGX0 hown (hT).1 hOc rfl 0 (by decide) (hts _ w_625) (fun _ h9 => h9) (v := .int c0) rfl dX3_putIntoBag_3 ?_
  refine c_w0 (va_runV (As := [.int (-1), .int c0]) (rest := []) ⟨hx, hb, hml, hown, hts⟩ (c_X3_move l D ct r r0 r1 r2 r3 r4 r5 r6 r7 (-1) c0) (cwV 2 hts (GG w_667 w_669 w_21 w_75 w_670) rfl rfl rfl (by decide) ⟨Nat.le_of_ble_eq_true rfl, Nat.le_of_ble_eq_true rfl⟩) ⟨(blindT fun _ _ _ _ h => h), Ob.recv (hT).1 hOr rfl, fun U hU hW => ⟨rfl, hT.warm hW, by rw [hU]; exact hOr⟩⟩ rfl rfl hl.1 rfl (lv_room (Nat.le_of_ble_eq_true rfl)) dX3_putIntoBag_6 ⟨Nat.le_of_ble_eq_true rfl, Nat.le_of_ble_eq_true rfl⟩) hS (fun h => h rfl) (fun _ h => Ob.lt h) (fun H6 locs6 hO6 hq6 hS6 => ?_)
  have hQ6 : ∀ q : Nat, q ≠ r → H6[q]? = s.heap[q]? := fun q h => (hq6 q h).trans (hQ q h)
  exact W.vret hx hb hr (fun t ht hW => ⟨rfl, by rw [ht]; exact hO6, by rw [ht]; exact hQ6⟩) (fun z h => Classical.byContradiction (fun y => hS6.2.2 z h y)) dX3_putIntoBag_9

/-! Rumour.putIntoTown -/
set_option maxHeartbeats 4000000 in
set_option maxRecDepth 100000 in
theorem c_X3_putIntoTown (l : Launch) (D : va_G) (ct : Nat → ClassId) (r : Nat) (r0 r1 r2 r3 r4 r5 r6 r7 p : Int32) : Met l yX3_putIntoTown (.code yX3_putIntoTown cX3_putIntoTown 2 none :: GW) ({ frames := 1, cells := 0, slots := 0, locals := 22 } : Room) (va_Pc [.ref r, .int p] (fun U => GT D ct U ∧ Ob D r 4 [.int r0, .int r1, .int r2, .int r3, .int r4, .int r5, .int r6, .int r7] U.heap)) (qW0 r (fun h => Ob D r 4 [.int r0, .int r1, .int r2, .int r3, .int r4, .int p, .int (-1), .int 0] h)) 0 0 (fun q => q = r) := by
  refine m_in (cc := cX3_putIntoTown) [.ref r, .int p] "RumourCustoms$Rumour" rfl (by decide) (Nat.le_of_ble_eq_true rfl) ?_
  intro pg e s m args below meth cd ls hx hb hml hown hts hr hlocks hin hPr hl
  obtain ⟨hT, hOr⟩ := hPr
  have hl : lv_has ls 2 [(0, .ref r), (1, .int p)] := hl
  have hS : va_S (nZ (fun q => q ≠ r)) s.heap s.heap [] := va_S.rf
  have hQ : ∀ q : Nat, q ≠ r → s.heap[q]? = s.heap[q]? := fun _ _ => rfl
  refine lv_aload_n hx hb dX3_putIntoTown_0 rfl (lv_at hl 0 rfl) ?_
  refine lv_iload_n hx hb dX3_putIntoTown_1 rfl (lv_at hl 1 rfl) ?_
  refine lv_iconst (v := (-1)) hx hb dX3_putIntoTown_2 (by decide) ?_
  refine c_w0 (va_runV (As := [.int p, .int (-1)]) (rest := []) ⟨hx, hb, hml, hown, hts⟩ (c_X3_move l D ct r r0 r1 r2 r3 r4 r5 r6 r7 p (-1)) (cwV 2 hts (GG w_667 w_669 w_21 w_75 w_670) rfl rfl rfl (by decide) ⟨Nat.le_of_ble_eq_true rfl, Nat.le_of_ble_eq_true rfl⟩) ⟨(blindT fun _ _ _ _ h => h), Ob.recv (hT).1 hOr rfl, fun U hU hW => ⟨rfl, hT.warm hW, by rw [hU]; exact hOr⟩⟩ rfl rfl hl.1 rfl (lv_room (Nat.le_of_ble_eq_true rfl)) dX3_putIntoTown_3 ⟨Nat.le_of_ble_eq_true rfl, Nat.le_of_ble_eq_true rfl⟩) hS (fun h => h rfl) (fun _ h => Ob.lt h) (fun H3 locs3 hO3 hq3 hS3 => ?_)
  have hQ3 : ∀ q : Nat, q ≠ r → H3[q]? = s.heap[q]? := fun q h => (hq3 q h).trans (hQ q h)
  exact W.vret hx hb hr (fun t ht hW => ⟨rfl, by rw [ht]; exact hO3, by rw [ht]; exact hQ3⟩) (fun z h => Classical.byContradiction (fun y => hS3.2.2 z h y)) dX3_putIntoTown_6

/-! Rumour.vanish -/
set_option maxHeartbeats 4000000 in
set_option maxRecDepth 100000 in
theorem c_X3_vanish (l : Launch) (D : va_G) (ct : Nat → ClassId) (r : Nat) (r0 r1 r2 r3 r4 r5 r6 r7 : Int32) : Met l yX3_vanish (.code yX3_vanish cX3_vanish 1 none :: GW) ({ frames := 1, cells := 0, slots := 0, locals := 22 } : Room) (va_Pc [.ref r] (fun U => GT D ct U ∧ Ob D r 4 [.int r0, .int r1, .int r2, .int r3, .int r4, .int r5, .int r6, .int r7] U.heap)) (qW0 r (fun h => Ob D r 4 [.int r0, .int r1, .int r2, .int r3, .int r4, .int (-1), .int (-1), .int 0] h)) 0 0 (fun q => q = r) := by
  refine m_in (cc := cX3_vanish) [.ref r] "RumourCustoms$Rumour" rfl (by decide) (Nat.le_of_ble_eq_true rfl) ?_
  intro pg e s m args below meth cd ls hx hb hml hown hts hr hlocks hin hPr hl
  obtain ⟨hT, hOr⟩ := hPr
  have hl : lv_has ls 1 [(0, .ref r)] := hl
  have hS : va_S (nZ (fun q => q ≠ r)) s.heap s.heap [] := va_S.rf
  have hQ : ∀ q : Nat, q ≠ r → s.heap[q]? = s.heap[q]? := fun _ _ => rfl
  refine lv_aload_n hx hb dX3_vanish_0 rfl (lv_at hl 0 rfl) ?_
  refine lv_iconst (v := (-1)) hx hb dX3_vanish_1 (by decide) ?_
  refine lv_iconst (v := (-1)) hx hb dX3_vanish_2 (by decide) ?_
  refine c_w0 (va_runV (As := [.int (-1), .int (-1)]) (rest := []) ⟨hx, hb, hml, hown, hts⟩ (c_X3_move l D ct r r0 r1 r2 r3 r4 r5 r6 r7 (-1) (-1)) (cwV 2 hts (GG w_667 w_669 w_21 w_75 w_670) rfl rfl rfl (by decide) ⟨Nat.le_of_ble_eq_true rfl, Nat.le_of_ble_eq_true rfl⟩) ⟨(blindT fun _ _ _ _ h => h), Ob.recv (hT).1 hOr rfl, fun U hU hW => ⟨rfl, hT.warm hW, by rw [hU]; exact hOr⟩⟩ rfl rfl hl.1 rfl (lv_room (Nat.le_of_ble_eq_true rfl)) dX3_vanish_3 ⟨Nat.le_of_ble_eq_true rfl, Nat.le_of_ble_eq_true rfl⟩) hS (fun h => h rfl) (fun _ h => Ob.lt h) (fun H3 locs3 hO3 hq3 hS3 => ?_)
  have hQ3 : ∀ q : Nat, q ≠ r → H3[q]? = s.heap[q]? := fun q h => (hq3 q h).trans (hQ q h)
  exact W.vret hx hb hr (fun t ht hW => ⟨rfl, by rw [ht]; exact hO3, by rw [ht]; exact hQ3⟩) (fun z h => Classical.byContradiction (fun y => hS3.2.2 z h y)) dX3_vanish_6

/-! Carrier.pay -/
set_option maxHeartbeats 4000000 in
set_option maxRecDepth 100000 in
theorem c_X0_pay (l : Launch) (D : va_G) (ct : Nat → ClassId) (c : Nat) (c0 c1 c2 c3 c4 p : Int32) : Met l yX0_pay (.code yX0_pay cX0_pay 2 none :: GW) ({ frames := 0, cells := 0, slots := 0, locals := 0 } : Room) (va_Pc [.ref c, .int p] (fun U => GT D ct U ∧ Ob D c 1 [.int c0, .int c1, .int c2, .int c3, .int c4] U.heap)) (qW0 c (fun h => Ob D c 1 [.int c0, .int c1, .int c2, .int (c3 - p), .int (c4 + p)] h)) 0 0 (fun q => q = c) := by
  refine m_in (cc := cX0_pay) [.ref c, .int p] "RumourCustoms$Carrier" rfl (by decide) (Nat.le_of_ble_eq_true rfl) ?_
  intro pg e s m args below meth cd ls hx hb hml hown hts hr hlocks hin hPr hl
  obtain ⟨hT, hOc⟩ := hPr
  have hl : lv_has ls 2 [(0, .ref c), (1, .int p)] := hl
  have hS : va_S (nZ (fun q => q ≠ c)) s.heap s.heap [] := va_S.rf
  have hQ : ∀ q : Nat, q ≠ c → s.heap[q]? = s.heap[q]? := fun _ _ => rfl
  refine lv_aload_n hx hb dX0_pay_0 rfl (lv_at hl 0 rfl) ?_
  refine lv_dup hx hb dX0_pay_1 rfl ?_
  refine k_get (C := RX0) (T := TX0) (N := 5) hx hb hts inGX0 hown (hT).1 hOc rfl 3 (by decide) (hts _ w_630) (fun _ h9 => h9) (v := .int c3) rfl dX0_pay_2 ?_
  refine lv_iload_n hx hb dX0_pay_5 rfl (lv_at hl 1 rfl) ?_
  refine lv_isub hx hb dX0_pay_6 ?_
  refine k_put (C := RX0) (T := TX0) (N := 5) hx hb hts inGX0 tyX0 tyX0_ok nmX0 hown (hT).1 hOc hS (fun h => h rfl) rfl 3 (Nat.le_of_ble_eq_true rfl) (hts _ w_630) (fun _ h9 => h9) rfl (ty := .int) (v := .int (c3 - p)) (by decide +kernel) rfl rfl (Nat.le_of_ble_eq_true rfl) dX0_pay_7 (fun H7 locs7 hO7 hz7 hq7 hS7 => ?_)
  have hO7 : Ob D c 1 [.int c0, .int c1, .int c2, .int (c3 - p), .int c4] H7 := hO7
  have hQ7 : ∀ q : Nat, q ≠ c → H7[q]? = s.heap[q]? := fun q h => (hq7 q h).trans (hQ q h)
  refine lv_aload_n hx hb dX0_pay_10 rfl (lv_at hl 0 rfl) ?_
  refine lv_dup hx hb dX0_pay_11 rfl ?_
  refine k_get (C := RX0) (T := TX0) (N := 5) hx hb hts inGX0 hown (hT).1 hO7 rfl 4 (by decide) (hts _ w_632) (fun _ h9 => h9) (v := .int c4) rfl dX0_pay_12 ?_
  refine lv_iload_n hx hb dX0_pay_15 rfl (lv_at hl 1 rfl) ?_
  refine lv_iadd hx hb dX0_pay_16 ?_
  refine k_put (C := RX0) (T := TX0) (N := 5) hx hb hts inGX0 tyX0 tyX0_ok nmX0 hown (hT).1 hO7 hS7 (fun h => h rfl) rfl 4 (Nat.le_of_ble_eq_true rfl) (hts _ w_632) (fun _ h9 => h9) rfl (ty := .int) (v := .int (c4 + p)) (by decide +kernel) rfl rfl (Nat.le_of_ble_eq_true rfl) dX0_pay_17 (fun H17 locs17 hO17 hz17 hq17 hS17 => ?_)
  have hO17 : Ob D c 1 [.int c0, .int c1, .int c2, .int (c3 - p), .int (c4 + p)] H17 := hO17
  have hQ17 : ∀ q : Nat, q ≠ c → H17[q]? = s.heap[q]? := fun q h => (hq17 q h).trans (hQ7 q h)
  exact W.vret hx hb hr (fun t ht hW => ⟨rfl, by rw [ht]; exact hO17, by rw [ht]; exact hQ17⟩) (fun z h => Classical.byContradiction (fun y => hS17.2.2 z h y)) dX0_pay_20

/-! Carrier.setOut -/
set_option maxHeartbeats 4000000 in
set_option maxRecDepth 100000 in
theorem c_X0_setOut (l : Launch) (D : va_G) (ct : Nat → ClassId) (c : Nat) (c0 c1 c2 c3 c4 p q : Int32) : Met l yX0_setOut (.code yX0_setOut cX0_setOut 3 none :: GW) ({ frames := 0, cells := 0, slots := 0, locals := 0 } : Room) (va_Pc [.ref c, .int p, .int q] (fun U => GT D ct U ∧ Ob D c 1 [.int c0, .int c1, .int c2, .int c3, .int c4] U.heap)) (qW0 c (fun h => Ob D c 1 [.int c0, .int p, .int q, .int c3, .int c4] h)) 0 0 (fun q => q = c) := by
  refine m_in (cc := cX0_setOut) [.ref c, .int p, .int q] "RumourCustoms$Carrier" rfl (by decide) (Nat.le_of_ble_eq_true rfl) ?_
  intro pg e s m args below meth cd ls hx hb hml hown hts hr hlocks hin hPr hl
  obtain ⟨hT, hOc⟩ := hPr
  have hl : lv_has ls 3 [(0, .ref c), (1, .int p), (2, .int q)] := hl
  have hS : va_S (nZ (fun q => q ≠ c)) s.heap s.heap [] := va_S.rf
  have hQ : ∀ q : Nat, q ≠ c → s.heap[q]? = s.heap[q]? := fun _ _ => rfl
  refine lv_aload_n hx hb dX0_setOut_0 rfl (lv_at hl 0 rfl) ?_
  refine lv_iload_n hx hb dX0_setOut_1 rfl (lv_at hl 1 rfl) ?_
  refine k_put (C := RX0) (T := TX0) (N := 5) hx hb hts inGX0 tyX0 tyX0_ok nmX0 hown (hT).1 hOc hS (fun h => h rfl) rfl 1 (Nat.le_of_ble_eq_true rfl) (hts _ w_626) (fun _ h9 => h9) rfl (ty := .int) (v := .int p) (by decide +kernel) rfl rfl (Nat.le_of_ble_eq_true rfl) dX0_setOut_2 (fun H2 locs2 hO2 hz2 hq2 hS2 => ?_)
  have hO2 : Ob D c 1 [.int c0, .int p, .int c2, .int c3, .int c4] H2 := hO2
  have hQ2 : ∀ q : Nat, q ≠ c → H2[q]? = s.heap[q]? := fun q h => (hq2 q h).trans (hQ q h)
  refine lv_aload_n hx hb dX0_setOut_5 rfl (lv_at hl 0 rfl) ?_
  refine lv_iload_n hx hb dX0_setOut_6 rfl (lv_at hl 2 rfl) ?_
  refine k_put (C := RX0) (T := TX0) (N := 5) hx hb hts inGX0 tyX0 tyX0_ok nmX0 hown (hT).1 hO2 hS2 (fun h => h rfl) rfl 2 (Nat.le_of_ble_eq_true rfl) (hts _ w_628) (fun _ h9 => h9) rfl (ty := .int) (v := .int q) (by decide +kernel) rfl rfl (Nat.le_of_ble_eq_true rfl) dX0_setOut_7 (fun H7 locs7 hO7 hz7 hq7 hS7 => ?_)
  have hO7 : Ob D c 1 [.int c0, .int p, .int q, .int c3, .int c4] H7 := hO7
  have hQ7 : ∀ q : Nat, q ≠ c → H7[q]? = s.heap[q]? := fun q h => (hq7 q h).trans (hQ2 q h)
  exact W.vret hx hb hr (fun t ht hW => ⟨rfl, by rw [ht]; exact hO7, by rw [ht]; exact hQ7⟩) (fun z h => Classical.byContradiction (fun y => hS7.2.2 z h y)) dX0_setOut_10

/-! Carrier.comesWithin -/
set_option maxHeartbeats 4000000 in
set_option maxRecDepth 100000 in
theorem c_X0_comesWithin (l : Launch) (D : va_G) (ct : Nat → ClassId) (c : Nat) (c0 c1 c2 c3 c4 p : Int32) : Met l yX0_comesWithin (.code yX0_comesWithin cX0_comesWithin 2 (some .boolean) :: GW) ({ frames := 1, cells := 0, slots := 0, locals := 21 } : Room) (va_Pc [.ref c, .int p] (fun U => GT D ct U ∧ Ob D c 1 [.int c0, .int c1, .int c2, .int c3, .int c4] U.heap)) (qW1 c (.int (b2 (0 < c2 ∧ mx 0 (c2 - p) = 0))) (fun h => Ob D c 1 [.int c0, .int c1, .int (if 0 < c2 then mx 0 (c2 - p) else c2), .int c3, .int c4] h)) 0 0 (fun q => q = c) := by
  refine m_in (cc := cX0_comesWithin) [.ref c, .int p] "RumourCustoms$Carrier" rfl (by decide) (Nat.le_of_ble_eq_true rfl) ?_
  intro pg e s m args below meth cd ls hx hb hml hown hts hr hlocks hin hPr hl
  obtain ⟨hT, hOc⟩ := hPr
  have hl : lv_has ls 2 [(0, .ref c), (1, .int p)] := hl
  have hS : va_S (nZ (fun q => q ≠ c)) s.heap s.heap [] := va_S.rf
  have hQ : ∀ q : Nat, q ≠ c → s.heap[q]? = s.heap[q]? := fun _ _ => rfl
  refine lv_aload_n hx hb dX0_comesWithin_0 rfl (lv_at hl 0 rfl) ?_
  refine c_p1 (va_runV (As := []) (rest := []) ⟨hx, hb, hml, hown, hts⟩ (c_X0_isOnTheWay l D ct c c0 c1 c2 c3 c4) (cwV 0 hts (GG w_790 w_228 w_229 w_81 w_230) rfl rfl rfl (by decide) ⟨Nat.le_of_ble_eq_true rfl, Nat.le_of_ble_eq_true rfl⟩) ⟨(blindT fun _ _ _ _ h => h), Ob.recv (hT).1 hOc rfl, fun U hU hW => ⟨rfl, hT.warm hW, by rw [hU]; exact hOc⟩⟩ rfl rfl hl.1 rfl (lv_room (Nat.le_of_ble_eq_true rfl)) dX0_comesWithin_1 ⟨Nat.le_of_ble_eq_true rfl, Nat.le_of_ble_eq_true rfl⟩) ?_
  refine lv_if_ne (tgt := 9) hx hb dX0_comesWithin_4 (by decide) (fun c_4 => ?_) (fun c_4 => ?_)
  · -- taken
    replace c_4 := b2_nz c_4
    refine lv_aload_n hx hb dX0_comesWithin_9 rfl (lv_at hl 0 rfl) ?_
    refine lv_iconst (v := 0) hx hb dX0_comesWithin_10 (by decide) ?_
    refine lv_aload_n hx hb dX0_comesWithin_11 rfl (lv_at hl 0 rfl) ?_
    refine k_get (C := RX0) (T := TX0) (N := 5) hx hb hts inGX0 hown (hT).1 hOc rfl 2 (by decide) (hts _ w_628) (fun _ h9 => h9) (v := .int c2) rfl dX0_comesWithin_12 ?_
    refine lv_iload_n hx hb dX0_comesWithin_15 rfl (lv_at hl 1 rfl) ?_
    refine lv_isub hx hb dX0_comesWithin_16 ?_
    refine va_mmax hx hb (hml.trans hl.1.symm) hown (hts _ w_791) (hts _ w_520) (hts _ w_73) (hts _ w_521) (Nat.le_of_ble_eq_true rfl) (Nat.le_of_ble_eq_true rfl) (Nat.le_of_ble_eq_true rfl) (Nat.le_of_ble_eq_true rfl) dX0_comesWithin_17 ?_
    refine k_put (C := RX0) (T := TX0) (N := 5) hx hb hts inGX0 tyX0 tyX0_ok nmX0 hown (hT).1 hOc hS (fun h => h rfl) rfl 2 (Nat.le_of_ble_eq_true rfl) (hts _ w_628) (fun _ h9 => h9) rfl (ty := .int) (v := .int (if 0 < (c2 - p) then c2 - p else 0)) (by decide +kernel) rfl rfl (Nat.le_of_ble_eq_true rfl) dX0_comesWithin_20 (fun H20 locs20 hO20 hz20 hq20 hS20 => ?_)
    have hO20 : Ob D c 1 [.int c0, .int c1, .int (if 0 < (c2 - p) then c2 - p else 0), .int c3, .int c4] H20 := hO20
    have hQ20 : ∀ q : Nat, q ≠ c → H20[q]? = s.heap[q]? := fun q h => (hq20 q h).trans (hQ q h)
    refine lv_aload_n hx hb dX0_comesWithin_23 rfl (lv_at hl 0 rfl) ?_
    refine k_get (C := RX0) (T := TX0) (N := 5) hx hb hts inGX0 hown (hT).1 hO20 rfl 2 (by decide) (hts _ w_628) (fun _ h9 => h9) (v := .int (if 0 < (c2 - p) then c2 - p else 0)) rfl dX0_comesWithin_24 ?_
    refine lv_if_ne (tgt := 34) hx hb dX0_comesWithin_27 (by decide) (fun c_27 => ?_) (fun c_27 => ?_)
    · -- taken
      refine lv_iconst (v := 0) hx hb dX0_comesWithin_34 (by decide) ?_
      exact W.zret (v := 0) hx hb hr rfl (fun t ht hW => ⟨rvi (b2_f (fun z => c_27 z.2)).symm, by rw [ht]; rw [if_pos c_4]; exact hO20, by rw [ht]; exact hQ20⟩) (fun z h => Classical.byContradiction (fun y => hS20.2.2 z h y)) dX0_comesWithin_35
    · -- not taken
      refine lv_iconst (v := 1) hx hb dX0_comesWithin_30 (by decide) ?_
      refine lv_goto (tgt := 35) hx hb dX0_comesWithin_31 (by decide) ?_
      exact W.zret (v := 1) hx hb hr rfl (fun t ht hW => ⟨rvi (b2_t ⟨c_4, c_27⟩).symm, by rw [ht]; rw [if_pos c_4]; exact hO20, by rw [ht]; exact hQ20⟩) (fun z h => Classical.byContradiction (fun y => hS20.2.2 z h y)) dX0_comesWithin_35
  · -- not taken
    replace c_4 := b2_z c_4
    refine lv_iconst (v := 0) hx hb dX0_comesWithin_7 (by decide) ?_
    exact W.zret (v := 0) hx hb hr rfl (fun t ht hW => ⟨rvi (b2_f (fun z => c_4 z.1)).symm, by rw [ht]; rw [if_neg c_4]; exact hOc, by rw [ht]; exact hQ⟩) (fun z h => Classical.byContradiction (fun y => hS.2.2 z h y)) dX0_comesWithin_8
