theorem Ar.cong {cA : ClassId} {a n : Nat} {f g : Nat → Option Nat} {H : Heap} (h : Ar cA a (rQ n f) H) (hfg : ∀ j, j < n → f j = g j) : Ar cA a (rQ n g) H := by
  have e : vp_cell cA (rQ n f) = vp_cell cA (rQ n g) := by
    rw [vp_cell_q, vp_cell_q]
    unfold arrV
    congr 2
    funext j
    show va_rf (f j.val) = va_rf (g j.val)
    rw [hfg j.val j.isLt]
  show H[a]? = some (vp_cell cA (rQ n g))
  rw [← e]
  exact h
def σ0 : Stt := fun _ _ => 0
theorem nR_0 : nR σ0 = 0 := rfl
theorem nC_0 : nC σ0 = 0 := rfl
theorem nT_0 : nT σ0 = 0 := rfl

/-! AbstractCollection() -/
set_option maxHeartbeats 4000000 in
set_option maxRecDepth 100000 in
theorem c_acinit (l : Launch) (D : va_G) (ct : Nat → ClassId) (Z : Nat → Prop) (dc : Nat) (Hh : Heap) (a : Nat) : Met l yJxa1e45_init_da8c8 (.code yJxa1e45_init_da8c8 cJxa1e45_init_da8c8 1 none :: GW) ({ frames := 1, cells := 0, slots := 0, locals := 20 } : Room) (va_Pc [.ref a] (fun U => GF D ct Z dc U U.heap ∧ U.heap = Hh)) (qS0 Z (fun h => h = Hh)) 0 0 (nZ Z) := by
  refine m_in (cc := cJxa1e45_init_da8c8) [.ref a] "java/util/AbstractCollection" rfl (by decide) (Nat.le_of_ble_eq_true rfl) ?_
  intro pg e s m args below meth cd ls hx hb hml hown hts hr hlocks hin hPr hl
  obtain ⟨hG, hH⟩ := hPr
  subst hH
  have hl : lv_has ls 1 [(0, .ref a)] := hl
  have hS : va_S (nZ Z) s.heap s.heap [] := va_S.rf
  refine lv_aload_n hx hb dJxa1e45_init_da8c8_0 rfl (lv_at hl 0 rfl) ?_
  refine W.objInit hx hb hown (hts _ w_132) (hts _ w_89) (hts _ w_90) rfl (hl.1.trans hml.symm) rfl dJxa1e45_init_da8c8_1 (Nat.le_of_ble_eq_true rfl) (Nat.le_of_ble_eq_true rfl) ?_
  refine W.eq (g2 := F0 m 4 ls []) rfl ?_
  refine W.widen (k := 0) (n := 0) (Nat.le_of_ble_eq_true rfl) (Nat.le_of_ble_eq_true rfl) ?_
  exact W.vret hx hb hr (fun t ht hW => ⟨rfl, ht, hS.F ht⟩) (fun z h => hS.2.2 z h) dJxa1e45_init_da8c8_4

/-! AbstractList() -/
set_option maxHeartbeats 4000000 in
set_option maxRecDepth 100000 in
theorem c_alinit0 (l : Launch) (D : va_G) (ct : Nat → ClassId) (Z : Nat → Prop) (dc : Nat) (Hh : Heap) (a : Nat) (x : Int32) (u w : Value) (hza : ¬ Z a) : Met l yJxc12de_init_da8c8 (.code yJxc12de_init_da8c8 cJxc12de_init_da8c8 1 none :: GW) ({ frames := 2, cells := 0, slots := 0, locals := 40 } : Room) (va_Pc [.ref a] (fun U => GF D ct Z dc U U.heap ∧ U.heap = Hh ∧ Ob D a 0 [.int x, u, w] U.heap)) (qS0 Z (fun h => Ob D a 0 [.int 0, u, w] h ∧ h.size = Hh.size ∧ ∀ q : Nat, q ≠ a → h[q]? = Hh[q]?)) 0 0 (nZ Z) := by
  refine m_in (cc := cJxc12de_init_da8c8) [.ref a] "java/util/AbstractList" rfl (by decide) (Nat.le_of_ble_eq_true rfl) ?_
  intro pg e s m args below meth cd ls hx hb hml hown hts hr hlocks hin hPr hl
  obtain ⟨hG, hH, hO⟩ := hPr
  subst hH
  have hl : lv_has ls 1 [(0, .ref a)] := hl
  have hS : va_S (nZ Z) s.heap s.heap [] := va_S.rf
  refine lv_aload_n hx hb dJxc12de_init_da8c8_0 rfl (lv_at hl 0 rfl) ?_
  refine c_s0 (va_runI (As := []) (rest := []) ⟨hx, hb, hml, hown, hts⟩ (c_acinit l D ct Z dc s.heap a) (cwI 0 hts (GGS (own := "java/util/AbstractList") (idx := 1) w_131) rfl rfl rfl (hts _ w_62) (hts _ w_129) (hts _ w_130) rfl (by decide) ⟨Nat.le_of_ble_eq_true rfl, Nat.le_of_ble_eq_true rfl⟩) ⟨(blindF fun _ _ _ _ h => h), fun U hU hW => ⟨rfl, hG.up hW hS hU, hU⟩⟩ rfl rfl hl.1 rfl (lv_room (Nat.le_of_ble_eq_true rfl)) dJxc12de_init_da8c8_1 ⟨Nat.le_of_ble_eq_true rfl, Nat.le_of_ble_eq_true rfl⟩) hS (fun H1 locs1 hR1 hz1 hS1 => ?_)
  subst hR1
  refine lv_aload_n hx hb dJxc12de_init_da8c8_4 rfl (lv_at hl 0 rfl) ?_
  refine lv_iconst (v := 0) hx hb dJxc12de_init_da8c8_5 (by decide) ?_
  refine k_put (C := RJx4a65c) (T := TJx4a65c) (N := 3) hx hb hts inGJx4a65c tyJx4a65c tyJx4a65c_ok nmJx4a65c hown (hG.2.1).1 hO hS1 hza rfl 0 (Nat.le_of_ble_eq_true rfl) (hts _ w_137) (fun _ h9 => h9) rfl (ty := .int) (v := .int 0) (by decide +kernel) rfl rfl (Nat.le_of_ble_eq_true rfl) dJxc12de_init_da8c8_6 (fun H6 locs6 hO6 hz6 hq6 hS6 => ?_)
  have hO6 : Ob D a 0 [.int 0, u, w] H6 := hO6
  refine W.widen (k := 0) (n := 0) (Nat.le_of_ble_eq_true rfl) (Nat.le_of_ble_eq_true rfl) ?_
  exact W.vret hx hb hr (fun t ht hW => ⟨rfl, by rw [ht]; exact ⟨hO6, hz6, hq6⟩, hS6.F ht⟩) (fun z h => hS6.2.2 z h) dJxc12de_init_da8c8_9

/-! ArrayList() -/
set_option maxHeartbeats 4000000 in
set_option maxRecDepth 100000 in
theorem c_alinit (l : Launch) (D : va_G) (ct : Nat → ClassId) (Z : Nat → Prop) (dc : Nat) (Hh : Heap) (a : Nat) (x : Int32) (u w : Value) (hza : ¬ Z a) : Met l yJx4a65c_init_da8c8 (.code yJx4a65c_init_da8c8 cJx4a65c_init_da8c8 1 none :: GW) ({ frames := 3, cells := 0, slots := 0, locals := 60 } : Room) (va_Pc [.ref a] (fun U => GF D ct Z dc U U.heap ∧ U.heap = Hh ∧ Ob D a 0 [.int x, u, w] U.heap)) (qS0 Z (fun h => Ob D a 0 [.int 0, .ref dc, w] h ∧ h.size = Hh.size ∧ ∀ q : Nat, q ≠ a → h[q]? = Hh[q]?)) 0 0 (nZ Z) := by
  refine m_in (cc := cJx4a65c_init_da8c8) [.ref a] "java/util/ArrayList" rfl (by decide) (Nat.le_of_ble_eq_true rfl) ?_
  intro pg e s m args below meth cd ls hx hb hml hown hts hr hlocks hin hPr hl
  obtain ⟨hG, hH, hO⟩ := hPr
  subst hH
  have hl : lv_has ls 1 [(0, .ref a)] := hl
  have hS : va_S (nZ Z) s.heap s.heap [] := va_S.rf
  refine lv_aload_n hx hb dJx4a65c_init_da8c8_0 rfl (lv_at hl 0 rfl) ?_
  refine c_s0 (va_runI (As := []) (rest := []) ⟨hx, hb, hml, hown, hts⟩ (c_alinit0 l D ct Z dc s.heap a x u w hza) (cwI 0 hts (GGS (own := "java/util/ArrayList") (idx := 1) w_128) rfl rfl rfl (hts _ w_63) (hts _ w_126) (hts _ w_127) rfl (by decide) ⟨Nat.le_of_ble_eq_true rfl, Nat.le_of_ble_eq_true rfl⟩) ⟨(blindF fun _ _ _ _ h => h), fun U hU hW => ⟨rfl, hG.up hW hS hU, ⟨hU, by rw [hU]; exact hO⟩⟩⟩ rfl rfl hl.1 rfl (lv_room (Nat.le_of_ble_eq_true rfl)) dJx4a65c_init_da8c8_1 ⟨Nat.le_of_ble_eq_true rfl, Nat.le_of_ble_eq_true rfl⟩) hS (fun H1 locs1 hR1 hzz1 hS1 => ?_)
  obtain ⟨hO1, hz1, hq1⟩ := hR1
  refine lv_aload_n hx hb dJx4a65c_init_da8c8_4 rfl (lv_at hl 0 rfl) ?_
  refine va_gets hx hb hG.2.2.2.2.1 hS1 hown (hts _ w_133) (fun _ h => h) dJx4a65c_init_da8c8_5 ?_
  refine k_put (C := RJx4a65c) (T := TJx4a65c) (N := 3) hx hb hts inGJx4a65c tyJx4a65c tyJx4a65c_ok nmJx4a65c hown (hG.2.1).1 hO1 hS1 hza rfl 1 (Nat.le_of_ble_eq_true rfl) (hts _ w_135) (fun _ h9 => h9) rfl (ty := .array (.object "java/lang/Object")) (v := .ref dc) (by decide +kernel) rfl rfl (Nat.le_of_ble_eq_true rfl) dJx4a65c_init_da8c8_8 (fun H8 locs8 hO8 hz8 hq8 hS8 => ?_)
  have hO8 : Ob D a 0 [.int 0, .ref dc, w] H8 := hO8
  refine W.widen (k := 0) (n := 0) (Nat.le_of_ble_eq_true rfl) (Nat.le_of_ble_eq_true rfl) ?_
  exact W.vret hx hb hr (fun t ht hW => ⟨rfl, by rw [ht]; exact ⟨hO8, hz8.trans hz1, fun q h => (hq8 q h).trans (hq1 q h)⟩, hS8.F ht⟩) (fun z h => hS8.2.2 z h) dJx4a65c_init_da8c8_11

/-! RoadMap() -/
set_option maxHeartbeats 4000000 in
set_option maxRecDepth 100000 in
theorem c_X2_init (l : Launch) (D : va_G) (ct : Nat → ClassId) (Z : Nat → Prop) (dc : Nat) (Hh : Heap) (a : Nat) (u : Value) (hza : ¬ Z a) : Met l yX2_init (.code yX2_init cX2_init 1 none :: GW) ({ frames := 1, cells := 1, slots := 100, locals := 20 } : Room) (va_Pc [.ref a] (fun U => GF D ct Z dc U U.heap ∧ U.heap = Hh ∧ Ob D a 3 [u] U.heap)) (qS0 Z (fun h => Ob D a 3 [.ref Hh.size] h ∧ Ar (ct 2) Hh.size (rQ 100 (fun _ => none)) h ∧ h.size = Hh.size + 1 ∧ ∀ q : Nat, q < Hh.size → q ≠ a → h[q]? = Hh[q]?)) 1 100 (nZ Z) := by
  refine m_in (cc := cX2_init) [.ref a] "RumourCustoms$RoadMap" rfl (by decide) (Nat.le_of_ble_eq_true rfl) ?_
  intro pg e s m args below meth cd ls hx hb hml hown hts hr hlocks hin hPr hl
  obtain ⟨hG, hH, hO⟩ := hPr
  subst hH
  have hl : lv_has ls 1 [(0, .ref a)] := hl
  have hS : va_S (nZ Z) s.heap s.heap [] := va_S.rf
  refine lv_aload_n hx hb dX2_init_0 rfl (lv_at hl 0 rfl) ?_
  refine W.objInit hx hb hown (hts _ w_96) (hts _ w_89) (hts _ w_90) rfl (hl.1.trans hml.symm) rfl dX2_init_1 (Nat.le_of_ble_eq_true rfl) (Nat.le_of_ble_eq_true rfl) ?_
  refine W.eq (g2 := F0 m 4 ls []) rfl ?_
  refine lv_aload_n hx hb dX2_init_4 rfl (lv_at hl 0 rfl) ?_
  refine lv_bipush (v := 100) hx hb dX2_init_5 (by decide) ?_
  refine k_newQ 2 hx hb hown (hts _ w_97) hG.2.1.ar hG.2.1.1 rfl hS (N := 100) (by decide) (by decide) (by decide) (Nat.le_of_ble_eq_true rfl) (Nat.le_of_ble_eq_true rfl) dX2_init_7 (fun H7 hA7 hz7 hq7 hS7 => ?_)
  refine W.widen (k := 1) (n := 100) (Nat.le_of_ble_eq_true rfl) (Nat.le_of_ble_eq_true rfl) ?_
  have hO_7 := hO.kept (hq7 _ hO.lt)
  refine k_putF (C := RX2) (T := TX2) (N := 1) hx hb hts inGX2 tyX2 tyX2_ok nmX2 hown (hG.2.1).1 hO_7 hS7 hza rfl 0 (Nat.le_of_ble_eq_true rfl) (hts _ w_99) (fun _ h9 => h9) rfl hin rfl (ty := .array (.object "RumourCustoms$Road")) (v := .ref s.heap.size) (by decide +kernel) rfl rfl (Nat.le_of_ble_eq_true rfl) dX2_init_10 (fun H10 locs10 hO10 hz10 hq10 hS10 => ?_)
  have hO10 : Ob D a 3 [.ref s.heap.size] H10 := hO10
  have hA7_10 := hA7.kept (hq10 _ (Nat.ne_of_gt hO.lt))
  refine W.widen (k := 1) (n := 100) (Nat.le_of_ble_eq_true rfl) (Nat.le_of_ble_eq_true rfl) ?_
  exact W.vret hx hb hr (fun t ht hW => ⟨rfl, by rw [ht]; exact ⟨hO10, hA7_10, by omega, fun q h1 h2 => (hq10 q h2).trans (hq7 q h1)⟩, hS10.F ht⟩) (fun z h => hS10.2.2 z h) dX2_init_13

/-! WaySearch() -/
set_option maxHeartbeats 4000000 in
set_option maxRecDepth 100000 in
theorem c_X4_init (l : Launch) (D : va_G) (ct : Nat → ClassId) (Z : Nat → Prop) (dc : Nat) (Hh : Heap) (a m0 : Nat) (u v w : Value) (hza : ¬ Z a) : Met l yX4_init (.code yX4_init cX4_init 2 none :: GW) ({ frames := 1, cells := 2, slots := 120, locals := 20 } : Room) (va_Pc [.ref a, .ref m0] (fun U => GF D ct Z dc U U.heap ∧ U.heap = Hh ∧ Ob D a 5 [u, v, w] U.heap)) (qS0 Z (fun h => Ob D a 5 [.ref m0, .ref Hh.size, .ref (Hh.size + 1)] h ∧ Ar (ct 0) Hh.size (rI 60 (fun _ => 0)) h ∧ Ar (ct 1) (Hh.size + 1) (rI 60 (fun _ => 0)) h ∧ h.size = Hh.size + 2 ∧ ∀ q : Nat, q < Hh.size → q ≠ a → h[q]? = Hh[q]?)) 2 120 (nZ Z) := by
  refine m_in (cc := cX4_init) [.ref a, .ref m0] "RumourCustoms$WaySearch" rfl (by decide) (Nat.le_of_ble_eq_true rfl) ?_
  intro pg e s m args below meth cd ls hx hb hml hown hts hr hlocks hin hPr hl
  obtain ⟨hG, hH, hO⟩ := hPr
  subst hH
  have hl : lv_has ls 2 [(0, .ref a), (1, .ref m0)] := hl
  have hS : va_S (nZ Z) s.heap s.heap [] := va_S.rf
  refine lv_aload_n hx hb dX4_init_0 rfl (lv_at hl 0 rfl) ?_
  refine W.objInit hx hb hown (hts _ w_108) (hts _ w_89) (hts _ w_90) rfl (hl.1.trans hml.symm) rfl dX4_init_1 (Nat.le_of_ble_eq_true rfl) (Nat.le_of_ble_eq_true rfl) ?_
  refine W.eq (g2 := F0 m 4 ls []) rfl ?_
  refine lv_aload_n hx hb dX4_init_4 rfl (lv_at hl 0 rfl) ?_
  refine lv_aload_n hx hb dX4_init_5 rfl (lv_at hl 1 rfl) ?_
  refine k_putF (C := RX4) (T := TX4) (N := 3) hx hb hts inGX4 tyX4 tyX4_ok nmX4 hown (hG.2.1).1 hO hS hza rfl 0 (Nat.le_of_ble_eq_true rfl) (hts _ w_109) (fun _ h9 => h9) rfl hin rfl (ty := .object "RumourCustoms$RoadMap") (v := .ref m0) (by decide +kernel) rfl rfl (Nat.le_of_ble_eq_true rfl) dX4_init_6 (fun H6 locs6 hO6 hz6 hq6 hS6 => ?_)
  have hO6 : Ob D a 5 [.ref m0, v, w] H6 := hO6
  refine lv_aload_n hx hb dX4_init_9 rfl (lv_at hl 0 rfl) ?_
  refine lv_bipush (v := 60) hx hb dX4_init_10 (by decide) ?_
  refine k_newI hx hb (hts _ w_119) hG.2.1.1 hS6 (N := 60) (by decide) (by decide) (by decide) (Nat.le_of_ble_eq_true rfl) (Nat.le_of_ble_eq_true rfl) dX4_init_12 (fun H12 hA12 hz12 hq12 hS12 => ?_)
  refine W.widen (k := 1) (n := 60) (Nat.le_of_ble_eq_true rfl) (Nat.le_of_ble_eq_true rfl) ?_
  have hO6_12 := hO6.kept (hq12 _ hO6.lt)
  refine k_putF (C := RX4) (T := TX4) (N := 3) hx hb hts inGX4 tyX4 tyX4_ok nmX4 hown (hG.2.1).1 hO6_12 hS12 hza rfl 1 (Nat.le_of_ble_eq_true rfl) (hts _ w_110) (fun _ h9 => h9) rfl hin rfl (ty := .array .int) (v := .ref H6.size) (by decide +kernel) rfl rfl (Nat.le_of_ble_eq_true rfl) dX4_init_14 (fun H14 locs14 hO14 hz14 hq14 hS14 => ?_)
  have hO14 : Ob D a 5 [.ref m0, .ref H6.size, w] H14 := hO14
  have hA12_14 := hA12.kept (hq14 _ (by have := hO6.lt; omega))
  refine lv_aload_n hx hb dX4_init_17 rfl (lv_at hl 0 rfl) ?_
  refine lv_bipush (v := 60) hx hb dX4_init_18 (by decide) ?_
  refine k_newZ hx hb (hts _ w_120) hG.2.1.1 hS14 (N := 60) (by decide) (by decide) (by decide) (Nat.le_of_ble_eq_true rfl) (Nat.le_of_ble_eq_true rfl) dX4_init_20 (fun H20 hA20 hz20 hq20 hS20 => ?_)
  refine W.widen (k := 2) (n := 120) (Nat.le_of_ble_eq_true rfl) (Nat.le_of_ble_eq_true rfl) ?_
  have hO14_20 := hO14.kept (hq20 _ hO14.lt)
  have hA12_20 := hA12_14.kept (hq20 _ hA12_14.lt)
  refine k_putF (C := RX4) (T := TX4) (N := 3) hx hb hts inGX4 tyX4 tyX4_ok nmX4 hown (hG.2.1).1 hO14_20 hS20 hza rfl 2 (Nat.le_of_ble_eq_true rfl) (hts _ w_111) (fun _ h9 => h9) rfl hin rfl (ty := .array .boolean) (v := .ref H14.size) (by decide +kernel) rfl rfl (Nat.le_of_ble_eq_true rfl) dX4_init_22 (fun H22 locs22 hO22 hz22 hq22 hS22 => ?_)
  have hO22 : Ob D a 5 [.ref m0, .ref H6.size, .ref H14.size] H22 := hO22
  have hA12_22 := hA12_20.kept (hq22 _ (by have := hO6.lt; omega))
  have hA20_22 := hA20.kept (hq22 _ (by have := hO14.lt; omega))
  refine W.widen (k := 2) (n := 120) (Nat.le_of_ble_eq_true rfl) (Nat.le_of_ble_eq_true rfl) ?_
  exact W.vret hx hb hr (fun t ht hW => ⟨rfl, by rw [ht]; exact (by rw [show s.heap.size + 1 = H14.size from by omega]; rw [show s.heap.size = H6.size from hz6.symm]; exact ⟨hO22, hA12_22, hA20_22, by omega, fun q h1 h2 => (hq22 q h2).trans ((hq20 q (by omega)).trans ((hq14 q h2).trans ((hq12 q h1).trans (hq6 q h2))))⟩), hS22.F ht⟩) (fun z h => hS22.2.2 z h) dX4_init_25

/-! RoadMap.put -/
set_option maxHeartbeats 4000000 in
set_option maxRecDepth 100000 in
theorem c_X2_put (l : Launch) (D : va_G) (ct : Nat → ClassId) (Z : Nat → Prop) (dc : Nat) (Hh : Heap) (a m0 y a1 b1 : Nat) (vs : List Value) (f : Nat → Option Nat) (ha1 : a1 < 10) (hb1 : b1 < 10) (hzm : ¬ Z m0) (hym : y ≠ m0) (ham : a ≠ m0) : Met l yX2_put (.code yX2_put cX2_put 4 none :: GW) ({ frames := 1, cells := 0, slots := 0, locals := 20 } : Room) (va_Pc [.ref a, .int (nI a1), .int (nI b1), .ref y] (fun U => GF D ct Z dc U U.heap ∧ U.heap = Hh ∧ Ob D a 3 [.ref m0] U.heap ∧ Ar (ct 2) m0 (rQ 100 f) U.heap ∧ Ob D y 2 vs U.heap)) (qS0 Z (fun h => Ar (ct 2) m0 (rQ 100 (va_up (va_up f (10 * a1 + b1) (some y)) (10 * b1 + a1) (some y))) h ∧ h.size = Hh.size ∧ ∀ q : Nat, q ≠ m0 → h[q]? = Hh[q]?)) 0 0 (nZ Z) := by
  refine m_in (cc := cX2_put) [.ref a, .int (nI a1), .int (nI b1), .ref y] "RumourCustoms$RoadMap" rfl (by decide) (Nat.le_of_ble_eq_true rfl) ?_
  intro pg e s m args below meth cd ls hx hb hml hown hts hr hlocks hin hPr hl
  obtain ⟨hG, hH, hO, hA, hV⟩ := hPr
  subst hH
  have hl : lv_has ls 4 [(0, .ref a), (1, .int (nI a1)), (2, .int (nI b1)), (3, .ref y)] := hl
  have hS : va_S (nZ Z) s.heap s.heap [] := va_S.rf
  refine lv_iload_n hx hb dX2_put_0 rfl (lv_at hl 1 rfl) ?_
  refine c_p1 (va_runS (As := [.int (nI a1)]) (rest := []) ⟨hx, hb, hml, hown, hts⟩ (c_X2_isOnMap l D ct (nI a1)) (k_cwS 1 hts w_239 w_240 w_60 w_241 rfl rfl (by decide) ⟨Nat.le_of_ble_eq_true rfl, Nat.le_of_ble_eq_true rfl⟩) ⟨(blindT fun _ _ _ _ h => h), fun U hU hW => ⟨rfl, hG.2.1.warm hW, trivial⟩⟩ rfl rfl hl.1 rfl (lv_room (Nat.le_of_ble_eq_true rfl)) dX2_put_1 ⟨Nat.le_of_ble_eq_true rfl, Nat.le_of_ble_eq_true rfl⟩) ?_
  refine lv_if_eq (tgt := 38) hx hb dX2_put_4 (by decide) (fun c_4 => ?_) (fun c_4 => ?_)
  · -- taken
    replace c_4 := b2_z c_4
    exact absurd (show (0 : Int32) ≤ nI a1 ∧ nI a1 < 10 from ⟨nI_pos' (by omega), nI_lt ha1 (by decide)⟩) c_4
  · -- not taken
    replace c_4 := b2_nz c_4
    refine lv_iload_n hx hb dX2_put_7 rfl (lv_at hl 2 rfl) ?_
    refine c_p1 (va_runS (As := [.int (nI b1)]) (rest := []) ⟨hx, hb, hml, hown, hts⟩ (c_X2_isOnMap l D ct (nI b1)) (k_cwS 1 hts w_239 w_240 w_60 w_241 rfl rfl (by decide) ⟨Nat.le_of_ble_eq_true rfl, Nat.le_of_ble_eq_true rfl⟩) ⟨(blindT fun _ _ _ _ h => h), fun U hU hW => ⟨rfl, hG.2.1.warm hW, trivial⟩⟩ rfl rfl hl.1 rfl (lv_room (Nat.le_of_ble_eq_true rfl)) dX2_put_8 ⟨Nat.le_of_ble_eq_true rfl, Nat.le_of_ble_eq_true rfl⟩) ?_
    refine lv_if_eq (tgt := 38) hx hb dX2_put_11 (by decide) (fun c_11 => ?_) (fun c_11 => ?_)
    · -- taken
      replace c_11 := b2_z c_11
      exact absurd (show (0 : Int32) ≤ nI b1 ∧ nI b1 < 10 from ⟨nI_pos' (by omega), nI_lt hb1 (by decide)⟩) c_11
    · -- not taken
      replace c_11 := b2_nz c_11
      refine lv_aload_n hx hb dX2_put_14 rfl (lv_at hl 0 rfl) ?_
      refine k_get (C := RX2) (T := TX2) (N := 1) hx hb hts inGX2 hown (hG.2.1).1 hO rfl 0 (by decide) (hts _ w_99) (fun _ h9 => h9) (v := .ref m0) rfl dX2_put_15 ?_
      refine lv_iload_n hx hb dX2_put_18 rfl (lv_at hl 1 rfl) ?_
      refine lv_bipush (v := 10) hx hb dX2_put_19 (by decide) ?_
      refine lv_imul hx hb dX2_put_21 ?_
      refine lv_iload_n hx hb dX2_put_22 rfl (lv_at hl 2 rfl) ?_
      refine lv_iadd hx hb dX2_put_23 ?_
      refine lv_aload_n hx hb dX2_put_24 rfl (lv_at hl 3 rfl) ?_
      rw [show nI a1 * 10 + nI b1 = nI (10 * a1 + b1) from by rw [show (10 : Int32) = nI 10 from rfl, pk_mul, nI_add, Nat.mul_comm]]
      refine k_aast 2 hx hb hG.2.1.1 hS hzm hA rfl (Ob.recv hG.2.1.1 hV rfl) vb_asgS (vp_in_nI (by omega) (by omega)) dX2_put_25 (fun H25 locs25 hA25 hz25 hq25 hS25 => ?_)
      rw [nI_clamp (by omega : 10 * a1 + b1 < 2 ^ 31)] at hA25
      have hV25 : Ob D y 2 vs H25 := hV.kept (hq25 _ hym)
      have hO25 : Ob D a 3 [.ref m0] H25 := hO.kept (hq25 _ ham)
      refine lv_aload_n hx hb dX2_put_26 rfl (lv_at hl 0 rfl) ?_
      refine k_get (C := RX2) (T := TX2) (N := 1) hx hb hts inGX2 hown (hG.2.1).1 hO25 rfl 0 (by decide) (hts _ w_99) (fun _ h9 => h9) (v := .ref m0) rfl dX2_put_27 ?_
      refine lv_iload_n hx hb dX2_put_30 rfl (lv_at hl 2 rfl) ?_
      refine lv_bipush (v := 10) hx hb dX2_put_31 (by decide) ?_
      refine lv_imul hx hb dX2_put_33 ?_
      refine lv_iload_n hx hb dX2_put_34 rfl (lv_at hl 1 rfl) ?_
      refine lv_iadd hx hb dX2_put_35 ?_
      refine lv_aload_n hx hb dX2_put_36 rfl (lv_at hl 3 rfl) ?_
      rw [show nI b1 * 10 + nI a1 = nI (10 * b1 + a1) from by rw [show (10 : Int32) = nI 10 from rfl, pk_mul, nI_add, Nat.mul_comm]]
      refine k_aast 2 hx hb hG.2.1.1 hS25 hzm hA25 rfl (Ob.recv hG.2.1.1 hV25 rfl) vb_asgS (vp_in_nI (by omega) (by omega)) dX2_put_37 (fun H37 locs37 hA37 hz37 hq37 hS37 => ?_)
      rw [nI_clamp (by omega : 10 * b1 + a1 < 2 ^ 31)] at hA37
      refine W.widen (k := 0) (n := 0) (Nat.le_of_ble_eq_true rfl) (Nat.le_of_ble_eq_true rfl) ?_
      exact W.vret hx hb hr (fun t ht hW => ⟨rfl, by rw [ht]; exact ⟨hA37, hz37.trans hz25, fun q h => (hq37 q h).trans (hq25 q h)⟩, hS37.F ht⟩) (fun z h => hS37.2.2 z h) dX2_put_38

/-! RumourCustoms() -/
set_option maxHeartbeats 4000000 in
set_option maxRecDepth 100000 in
theorem c_X5_init (l : Launch) (D : va_G) (ct : Nat → ClassId) (Z : Nat → Prop) (dc : Nat) (Hh : Heap) (x : Nat) (hzx : ¬ Z x) : Met l yX5_init (.code yX5_init cX5_init 1 none :: GW) ({ frames := 4, cells := 7, slots := 230, locals := 80 } : Room) (va_Pc [.ref x] (fun U => GF D ct Z dc U U.heap ∧ U.heap = Hh ∧ Ob D x 6 [.null, .null, .null, .null, .int 0, .int 0, .int 0, .int 0, .int 0, .int 0, .int 0] U.heap)) (qS0 Z (fun h => ∃ ad : Nat → Nat, ad 0 = x ∧ Pic D ct Z dc σ0 ad h ∧ Hh.size ≤ h.size ∧ ∀ q : Nat, q < Hh.size → q ≠ x → h[q]? = Hh[q]?)) 7 230 (nZ Z) := by
  refine m_in (cc := cX5_init) [.ref x] "RumourCustoms" rfl (by decide) (Nat.le_of_ble_eq_true rfl) ?_
  intro pg e s m args below meth cd ls hx hb hml hown hts hr hlocks hin hPr hl
  obtain ⟨hG, hH, hO⟩ := hPr
  subst hH
  have hl : lv_has ls 1 [(0, .ref x)] := hl
  have hS : va_S (nZ Z) s.heap s.heap [] := va_S.rf
  have hxl := hO.lt
  refine lv_aload_n hx hb dX5_init_0 rfl (lv_at hl 0 rfl) ?_
  refine W.objInit hx hb hown (hts _ w_88) (hts _ w_89) (hts _ w_90) rfl (hl.1.trans hml.symm) rfl dX5_init_1 (Nat.le_of_ble_eq_true rfl) (Nat.le_of_ble_eq_true rfl) ?_
  refine W.eq (g2 := F0 m 4 ls []) rfl ?_
  refine lv_aload_n hx hb dX5_init_4 rfl (lv_at hl 0 rfl) ?_
  refine k_new (C := RX2) (T := TX2) (N := 1) (ci := 3) hx hb hts inGX2 tyX2 tyX2_ok hown (hts _ w_91) (hts _ w_92) (hts _ w_60) (hG.2.1).1 hS rfl (fs := [.null]) (fun j hj => match j, hj with | 0, _ => rfl | (j + 1), h => absurd h (by omega)) (Nat.le_of_ble_eq_true rfl) (Nat.le_of_ble_eq_true rfl) dX5_init_5 (fun H5 hN5 hz5 hq5 hS5 => ?_)
  refine W.widen (k := 1) (n := 1) (Nat.le_of_ble_eq_true rfl) (Nat.le_of_ble_eq_true rfl) ?_
  have hO_5 := hO.kept (hq5 _ hO.lt)
  refine lv_dup hx hb dX5_init_8 rfl ?_
  refine c_s0 (va_runI (As := []) (rest := [.ref s.heap.size, .ref x]) ⟨hx, hb, hml, hown, hts⟩ (c_X2_init l D ct Z dc H5 s.heap.size .null (fun z => absurd (hG.1 _ z) (by omega))) (cwI 0 hts (GGS (own := "RumourCustoms") (idx := 9) w_95) rfl rfl rfl (hts _ w_60) (hts _ w_93) (hts _ w_94) rfl (by decide) ⟨Nat.le_of_ble_eq_true rfl, Nat.le_of_ble_eq_true rfl⟩) ⟨(blindF fun _ _ _ _ h => h), fun U hU hW => ⟨rfl, hG.up hW hS5 hU, ⟨hU, by rw [hU]; exact hN5⟩⟩⟩ rfl rfl hl.1 rfl (lv_room (Nat.le_of_ble_eq_true rfl)) dX5_init_9 ⟨Nat.le_of_ble_eq_true rfl, Nat.le_of_ble_eq_true rfl⟩) hS5 (fun H9 locs9 hR9 hzz9 hS9 => ?_)
  refine W.widen (k := 2) (n := 101) (Nat.le_of_ble_eq_true rfl) (Nat.le_of_ble_eq_true rfl) ?_
  obtain ⟨hO9, hA9, hz9, hq9⟩ := hR9
  have hO_9 := hO_5.kept (hq9 _ hO_5.lt (by have := hO_5.lt; omega))
  refine k_putF (C := RX5) (T := TX5) (N := 11) hx hb hts inGX5 tyX5 tyX5_ok nmX5 hown (hG.2.1).1 hO_9 hS9 hzx rfl 0 (Nat.le_of_ble_eq_true rfl) (hts _ w_147) (fun _ h9 => h9) rfl hin rfl (ty := .object "RumourCustoms$RoadMap") (v := .ref s.heap.size) (by decide +kernel) rfl rfl (Nat.le_of_ble_eq_true rfl) dX5_init_12 (fun H12 locs12 hO12 hz12 hq12 hS12 => ?_)
  have hO12 : Ob D x 6 [.ref s.heap.size, .null, .null, .null, .int 0, .int 0, .int 0, .int 0, .int 0, .int 0, .int 0] H12 := hO12
  have hO9_12 := hO9.kept (hq12 _ (by have := hO.lt; omega))
  have hA9_12 := hA9.kept (hq12 _ (by have := hO.lt; omega))
  refine lv_aload_n hx hb dX5_init_15 rfl (lv_at hl 0 rfl) ?_
  refine k_new (C := RX4) (T := TX4) (N := 3) (ci := 5) hx hb hts inGX4 tyX4 tyX4_ok hown (hts _ w_103) (hts _ w_104) (hts _ w_61) (hG.2.1).1 hS12 rfl (fs := [.null, .null, .null]) (fun j hj => match j, hj with | 0, _ => rfl | 1, _ => rfl | 2, _ => rfl | (j + 3), h => absurd h (by omega)) (Nat.le_of_ble_eq_true rfl) (Nat.le_of_ble_eq_true rfl) dX5_init_16 (fun H16 hN16 hz16 hq16 hS16 => ?_)
  refine W.widen (k := 3) (n := 104) (Nat.le_of_ble_eq_true rfl) (Nat.le_of_ble_eq_true rfl) ?_
  have hO12_16 := hO12.kept (hq16 _ hO12.lt)
  have hO9_16 := hO9_12.kept (hq16 _ hO9_12.lt)
  have hA9_16 := hA9_12.kept (hq16 _ hA9_12.lt)
  refine lv_dup hx hb dX5_init_19 rfl ?_
  refine lv_aload_n hx hb dX5_init_20 rfl (lv_at hl 0 rfl) ?_
  refine k_get (C := RX5) (T := TX5) (N := 11) hx hb hts inGX5 hown (hG.2.1).1 hO12_16 rfl 0 (by decide) (hts _ w_147) (fun _ h9 => h9) (v := .ref s.heap.size) rfl dX5_init_21 ?_
  refine c_s0 (va_runI (As := [.ref s.heap.size]) (rest := [.ref H12.size, .ref x]) ⟨hx, hb, hml, hown, hts⟩ (c_X4_init l D ct Z dc H16 H12.size s.heap.size .null .null .null (fun z => absurd (hG.1 _ z) (by omega))) (cwI 1 hts (GGS (own := "RumourCustoms") (idx := 18) w_107) rfl rfl rfl (hts _ w_61) (hts _ w_105) (hts _ w_106) rfl (by decide) ⟨Nat.le_of_ble_eq_true rfl, Nat.le_of_ble_eq_true rfl⟩) ⟨(blindF fun _ _ _ _ h => h), fun U hU hW => ⟨rfl, hG.up hW hS16 hU, ⟨hU, by rw [hU]; exact hN16⟩⟩⟩ rfl rfl hl.1 rfl (lv_room (Nat.le_of_ble_eq_true rfl)) dX5_init_24 ⟨Nat.le_of_ble_eq_true rfl, Nat.le_of_ble_eq_true rfl⟩) hS16 (fun H24 locs24 hR24 hzz24 hS24 => ?_)
  refine W.widen (k := 5) (n := 224) (Nat.le_of_ble_eq_true rfl) (Nat.le_of_ble_eq_true rfl) ?_
  obtain ⟨hO24, hA24, hB24, hz24, hq24⟩ := hR24
  have hO12_24 := hO12_16.kept (hq24 _ hO12_16.lt (by have := hO12_16.lt; omega))
  have hO9_24 := hO9_16.kept (hq24 _ hO9_16.lt (by have := hO9_16.lt; omega))
  have hA9_24 := hA9_16.kept (hq24 _ hA9_16.lt (by have := hA9_16.lt; omega))
  refine k_putF (C := RX5) (T := TX5) (N := 11) hx hb hts inGX5 tyX5 tyX5_ok nmX5 hown (hG.2.1).1 hO12_24 hS24 hzx rfl 1 (Nat.le_of_ble_eq_true rfl) (hts _ w_148) (fun _ h9 => h9) rfl hin rfl (ty := .object "RumourCustoms$WaySearch") (v := .ref H12.size) (by decide +kernel) rfl rfl (Nat.le_of_ble_eq_true rfl) dX5_init_27 (fun H27 locs27 hO27 hz27 hq27 hS27 => ?_)
  have hO27 : Ob D x 6 [.ref s.heap.size, .ref H12.size, .null, .null, .int 0, .int 0, .int 0, .int 0, .int 0, .int 0, .int 0] H27 := hO27
  have hO9_27 := hO9_24.kept (hq27 _ (by have := hO.lt; omega))
  have hO24_27 := hO24.kept (hq27 _ (by have := hO.lt; omega))
  have hA9_27 := hA9_24.kept (hq27 _ (by have := hO.lt; omega))
  have hA24_27 := hA24.kept (hq27 _ (by have := hO.lt; omega))
  have hB24_27 := hB24.kept (hq27 _ (by have := hO.lt; omega))
  refine lv_aload_n hx hb dX5_init_30 rfl (lv_at hl 0 rfl) ?_
  refine k_new (C := RJx4a65c) (T := TJx4a65c) (N := 3) (ci := 0) hx hb hts inGJx4a65c tyJx4a65c tyJx4a65c_ok hown (hts _ w_121) (hts _ w_122) (hts _ w_64) (hG.2.1).1 hS27 rfl (fs := [.int 0, .null, .int 0]) (fun j hj => match j, hj with | 0, _ => rfl | 1, _ => rfl | 2, _ => rfl | (j + 3), h => absurd h (by omega)) (Nat.le_of_ble_eq_true rfl) (Nat.le_of_ble_eq_true rfl) dX5_init_31 (fun H31 hN31 hz31 hq31 hS31 => ?_)
  refine W.widen (k := 6) (n := 227) (Nat.le_of_ble_eq_true rfl) (Nat.le_of_ble_eq_true rfl) ?_
  have hO27_31 := hO27.kept (hq31 _ hO27.lt)
  have hO9_31 := hO9_27.kept (hq31 _ hO9_27.lt)
  have hO24_31 := hO24_27.kept (hq31 _ hO24_27.lt)
  have hA9_31 := hA9_27.kept (hq31 _ hA9_27.lt)
  have hA24_31 := hA24_27.kept (hq31 _ hA24_27.lt)
  have hB24_31 := hB24_27.kept (hq31 _ hB24_27.lt)
  refine lv_dup hx hb dX5_init_34 rfl ?_
  refine c_s0 (va_runI (As := []) (rest := [.ref H27.size, .ref x]) ⟨hx, hb, hml, hown, hts⟩ (c_alinit l D ct Z dc H31 H27.size 0 .null (.int 0) (fun z => absurd (hG.1 _ z) (by omega))) (cwI 0 hts (GGS (own := "RumourCustoms") (idx := 27) w_125) rfl rfl rfl (hts _ w_64) (hts _ w_123) (hts _ w_124) rfl (by decide) ⟨Nat.le_of_ble_eq_true rfl, Nat.le_of_ble_eq_true rfl⟩) ⟨(blindF fun _ _ _ _ h => h), fun U hU hW => ⟨rfl, hG.up hW hS31 hU, ⟨hU, by rw [hU]; exact hN31⟩⟩⟩ rfl rfl hl.1 rfl (lv_room (Nat.le_of_ble_eq_true rfl)) dX5_init_35 ⟨Nat.le_of_ble_eq_true rfl, Nat.le_of_ble_eq_true rfl⟩) hS31 (fun H35 locs35 hR35 hzz35 hS35 => ?_)
  refine W.widen (k := 6) (n := 227) (Nat.le_of_ble_eq_true rfl) (Nat.le_of_ble_eq_true rfl) ?_
  obtain ⟨hO35, hz35, hq35⟩ := hR35
  have hO27_35 := hO27_31.kept (hq35 _ (by have := hO27_31.lt; omega))
  have hO9_35 := hO9_31.kept (hq35 _ (by have := hO9_31.lt; omega))
  have hO24_35 := hO24_31.kept (hq35 _ (by have := hO24_31.lt; omega))
  have hA9_35 := hA9_31.kept (hq35 _ (by have := hA9_31.lt; omega))
  have hA24_35 := hA24_31.kept (hq35 _ (by have := hA24_31.lt; omega))
  have hB24_35 := hB24_31.kept (hq35 _ (by have := hB24_31.lt; omega))
  refine k_putF (C := RX5) (T := TX5) (N := 11) hx hb hts inGX5 tyX5 tyX5_ok nmX5 hown (hG.2.1).1 hO27_35 hS35 hzx rfl 2 (Nat.le_of_ble_eq_true rfl) (hts _ w_149) (fun _ h9 => h9) rfl hin rfl (ty := .object "java/util/ArrayList") (v := .ref H27.size) (by decide +kernel) rfl rfl (Nat.le_of_ble_eq_true rfl) dX5_init_38 (fun H38 locs38 hO38 hz38 hq38 hS38 => ?_)
  have hO38 : Ob D x 6 [.ref s.heap.size, .ref H12.size, .ref H27.size, .null, .int 0, .int 0, .int 0, .int 0, .int 0, .int 0, .int 0] H38 := hO38
  have hO9_38 := hO9_35.kept (hq38 _ (by have := hO.lt; omega))
  have hO24_38 := hO24_35.kept (hq38 _ (by have := hO.lt; omega))
  have hO35_38 := hO35.kept (hq38 _ (by have := hO.lt; omega))
  have hA9_38 := hA9_35.kept (hq38 _ (by have := hO.lt; omega))
  have hA24_38 := hA24_35.kept (hq38 _ (by have := hO.lt; omega))
  have hB24_38 := hB24_35.kept (hq38 _ (by have := hO.lt; omega))
  refine lv_aload_n hx hb dX5_init_41 rfl (lv_at hl 0 rfl) ?_
  refine k_new (C := RJx4a65c) (T := TJx4a65c) (N := 3) (ci := 0) hx hb hts inGJx4a65c tyJx4a65c tyJx4a65c_ok hown (hts _ w_121) (hts _ w_122) (hts _ w_64) (hG.2.1).1 hS38 rfl (fs := [.int 0, .null, .int 0]) (fun j hj => match j, hj with | 0, _ => rfl | 1, _ => rfl | 2, _ => rfl | (j + 3), h => absurd h (by omega)) (Nat.le_of_ble_eq_true rfl) (Nat.le_of_ble_eq_true rfl) dX5_init_42 (fun H42 hN42 hz42 hq42 hS42 => ?_)
  refine W.widen (k := 7) (n := 230) (Nat.le_of_ble_eq_true rfl) (Nat.le_of_ble_eq_true rfl) ?_
  have hO38_42 := hO38.kept (hq42 _ hO38.lt)
  have hO9_42 := hO9_38.kept (hq42 _ hO9_38.lt)
  have hO24_42 := hO24_38.kept (hq42 _ hO24_38.lt)
  have hO35_42 := hO35_38.kept (hq42 _ hO35_38.lt)
  have hA9_42 := hA9_38.kept (hq42 _ hA9_38.lt)
  have hA24_42 := hA24_38.kept (hq42 _ hA24_38.lt)
  have hB24_42 := hB24_38.kept (hq42 _ hB24_38.lt)
  refine lv_dup hx hb dX5_init_45 rfl ?_
  refine c_s0 (va_runI (As := []) (rest := [.ref H38.size, .ref x]) ⟨hx, hb, hml, hown, hts⟩ (c_alinit l D ct Z dc H42 H38.size 0 .null (.int 0) (fun z => absurd (hG.1 _ z) (by omega))) (cwI 0 hts (GGS (own := "RumourCustoms") (idx := 27) w_125) rfl rfl rfl (hts _ w_64) (hts _ w_123) (hts _ w_124) rfl (by decide) ⟨Nat.le_of_ble_eq_true rfl, Nat.le_of_ble_eq_true rfl⟩) ⟨(blindF fun _ _ _ _ h => h), fun U hU hW => ⟨rfl, hG.up hW hS42 hU, ⟨hU, by rw [hU]; exact hN42⟩⟩⟩ rfl rfl hl.1 rfl (lv_room (Nat.le_of_ble_eq_true rfl)) dX5_init_46 ⟨Nat.le_of_ble_eq_true rfl, Nat.le_of_ble_eq_true rfl⟩) hS42 (fun H46 locs46 hR46 hzz46 hS46 => ?_)
  refine W.widen (k := 7) (n := 230) (Nat.le_of_ble_eq_true rfl) (Nat.le_of_ble_eq_true rfl) ?_
  obtain ⟨hO46, hz46, hq46⟩ := hR46
  have hO38_46 := hO38_42.kept (hq46 _ (by have := hO38_42.lt; omega))
  have hO9_46 := hO9_42.kept (hq46 _ (by have := hO9_42.lt; omega))
  have hO24_46 := hO24_42.kept (hq46 _ (by have := hO24_42.lt; omega))
  have hO35_46 := hO35_42.kept (hq46 _ (by have := hO35_42.lt; omega))
  have hA9_46 := hA9_42.kept (hq46 _ (by have := hA9_42.lt; omega))
  have hA24_46 := hA24_42.kept (hq46 _ (by have := hA24_42.lt; omega))
  have hB24_46 := hB24_42.kept (hq46 _ (by have := hB24_42.lt; omega))
  refine k_putF (C := RX5) (T := TX5) (N := 11) hx hb hts inGX5 tyX5 tyX5_ok nmX5 hown (hG.2.1).1 hO38_46 hS46 hzx rfl 3 (Nat.le_of_ble_eq_true rfl) (hts _ w_150) (fun _ h9 => h9) rfl hin rfl (ty := .object "java/util/ArrayList") (v := .ref H38.size) (by decide +kernel) rfl rfl (Nat.le_of_ble_eq_true rfl) dX5_init_49 (fun H49 locs49 hO49 hz49 hq49 hS49 => ?_)
  have hO49 : Ob D x 6 [.ref s.heap.size, .ref H12.size, .ref H27.size, .ref H38.size, .int 0, .int 0, .int 0, .int 0, .int 0, .int 0, .int 0] H49 := hO49
  have hO9_49 := hO9_46.kept (hq49 _ (by have := hO.lt; omega))
  have hO24_49 := hO24_46.kept (hq49 _ (by have := hO.lt; omega))
  have hO35_49 := hO35_46.kept (hq49 _ (by have := hO.lt; omega))
  have hO46_49 := hO46.kept (hq49 _ (by have := hO.lt; omega))
  have hA9_49 := hA9_46.kept (hq49 _ (by have := hO.lt; omega))
  have hA24_49 := hA24_46.kept (hq49 _ (by have := hO.lt; omega))
  have hB24_49 := hB24_46.kept (hq49 _ (by have := hO.lt; omega))
  refine W.widen (k := 7) (n := 230) (Nat.le_of_ble_eq_true rfl) (Nat.le_of_ble_eq_true rfl) ?_
  let ad : Nat → Nat := fun i => if i = 0 then x else if i = 1 then s.heap.size else if i = 2 then H5.size else if i = 3 then H12.size else if i = 4 then H16.size else if i = 5 then H16.size + 1 else if i = 6 then H27.size else if i = 7 then H38.size else if i = 8 then dc else if i = 9 then dc else 0
  have hu : ∀ i, us σ0 i → i = 0 ∨ i = 1 ∨ i = 2 ∨ i = 3 ∨ i = 4 ∨ i = 5 ∨ i = 6 ∨ i = 7 := fun i hi => by
    rcases hi with q | q | q | q | q | q
    · omega
    · rw [nR_0] at q; omega
    · rw [nC_0] at q; omega
    · rw [nR_0] at q; omega
    · rw [nC_0] at q; omega
    · exact absurd q.2.2 (show ¬ (0 : Int32) = 1 by decide)
  have erd : rdq σ0 ad = fun _ => none := by funext k; unfold rdq; exact if_neg (show ¬ (0 : Int32) = 1 by decide)
  have hP : Pic D ct Z dc σ0 ad H49 := by
    refine ⟨fun i hi => ?_, fun i j hi hj hij => ?_, ⟨⟨(show (0 : Nat) ≤ 0 from Nat.le_refl 0), (show (0 : Nat) ≤ 1000 from by decide), fun z => absurd z (by decide), fun _ => ⟨rfl, rfl⟩⟩, ⟨(show (0 : Nat) ≤ 0 from Nat.le_refl 0), (show (0 : Nat) ≤ 1000 from by decide), fun z => absurd z (by decide), fun _ => ⟨rfl, rfl⟩⟩⟩, by decide, by decide⟩
    · rcases hu i hi with rfl | rfl | rfl | rfl | rfl | rfl | rfl | rfl
      · exact ⟨hO49, hzx⟩
      · exact ⟨hO9_49, fun z => absurd (hG.1 _ z) (by have : ad 1 = s.heap.size := rfl; omega)⟩
      · exact ⟨by show Ar (ct 2) H5.size (rQ 100 (rdq σ0 ad)) H49; rw [erd]; exact hA9_49, fun z => absurd (hG.1 _ z) (by have : ad 2 = H5.size := rfl; omega)⟩
      · exact ⟨hO24_49, fun z => absurd (hG.1 _ z) (by have : ad 3 = H12.size := rfl; omega)⟩
      · exact ⟨hA24_49, fun z => absurd (hG.1 _ z) (by have : ad 4 = H16.size := rfl; omega)⟩
      · exact ⟨hB24_49, fun z => absurd (hG.1 _ z) (by have : ad 5 = H16.size + 1 := rfl; omega)⟩
      · exact ⟨hO35_49, fun z => absurd (hG.1 _ z) (by have : ad 6 = H27.size := rfl; omega)⟩
      · exact ⟨hO46_49, fun z => absurd (hG.1 _ z) (by have : ad 7 = H38.size := rfl; omega)⟩
    · rcases hu i hi with rfl | rfl | rfl | rfl | rfl | rfl | rfl | rfl <;> rcases hu j hj with rfl | rfl | rfl | rfl | rfl | rfl | rfl | rfl <;> first | rfl | (exfalso; simp only [ad] at hij; simp at hij <;> omega)
  have hrest : ∀ q : Nat, q < s.heap.size → q ≠ x → H49[q]? = s.heap[q]? := fun q h1 h2 => (hq49 q h2).trans ((hq46 q (by omega)).trans ((hq42 q (by omega)).trans ((hq38 q h2).trans ((hq35 q (by omega)).trans ((hq31 q (by omega)).trans ((hq27 q h2).trans ((hq24 q (by omega) (by omega)).trans ((hq16 q (by omega)).trans ((hq12 q h2).trans ((hq9 q (by omega) (by omega)).trans (hq5 q (by omega))))))))))))
  exact W.vret hx hb hr (fun t ht hW => ⟨rfl, by rw [ht]; exact ⟨ad, rfl, hP, by omega, hrest⟩, hS49.F ht⟩) (fun z h => hS49.2.2 z h) dX5_init_52

/-! RumourCustomsModel() -/
set_option maxHeartbeats 4000000 in
set_option maxRecDepth 100000 in
theorem c_X6_init (l : Launch) (D : va_G) (ct : Nat → ClassId) (Z : Nat → Prop) (dc : Nat) (Hh : Heap) (x : Nat) (hzx : ¬ Z x) : Met l yX6_init (.code yX6_init cX6_init 1 none :: GW) ({ frames := 1, cells := 4, slots := 1212, locals := 20 } : Room) (va_Pc [.ref x] (fun U => GF D ct Z dc U U.heap ∧ U.heap = Hh ∧ Ob D x 7 [.int 0, .int 0, .int 0, .int 0, .int 0, .int 0, .int 0, .int 0, .int 0, .int 0, .null, .null, .null, .null] U.heap)) (qS0 Z (fun h => ∃ rf : Nat → Nat, rf 0 = x ∧ RP D ct Z σ0 0 (fun _ => 0) rf h ∧ Hh.size ≤ h.size ∧ ∀ q : Nat, q < Hh.size → q ≠ x → h[q]? = Hh[q]?)) 4 1212 (nZ Z) := by
  refine m_in (cc := cX6_init) [.ref x] "RumourCustomsModel" rfl (by decide) (Nat.le_of_ble_eq_true rfl) ?_
  intro pg e s m args below meth cd ls hx hb hml hown hts hr hlocks hin hPr hl
  obtain ⟨hG, hH, hO⟩ := hPr
  subst hH
  have hl : lv_has ls 1 [(0, .ref x)] := hl
  have hS : va_S (nZ Z) s.heap s.heap [] := va_S.rf
  have hxl := hO.lt
  refine lv_aload_n hx hb dX6_init_0 rfl (lv_at hl 0 rfl) ?_
  refine W.objInit hx hb hown (hts _ w_871) (hts _ w_89) (hts _ w_90) rfl (hl.1.trans hml.symm) rfl dX6_init_1 (Nat.le_of_ble_eq_true rfl) (Nat.le_of_ble_eq_true rfl) ?_
  refine W.eq (g2 := F0 m 4 ls []) rfl ?_
  refine lv_aload_n hx hb dX6_init_4 rfl (lv_at hl 0 rfl) ?_
  refine lv_sipush (v := 700) hx hb dX6_init_5 (by decide) ?_
  refine k_newI hx hb (hts _ w_119) hG.2.1.1 hS (N := 700) (by decide) (by decide) (by decide) (Nat.le_of_ble_eq_true rfl) (Nat.le_of_ble_eq_true rfl) dX6_init_8 (fun H8 hA8 hz8 hq8 hS8 => ?_)
  refine W.widen (k := 1) (n := 700) (Nat.le_of_ble_eq_true rfl) (Nat.le_of_ble_eq_true rfl) ?_
  have hO_8 := hO.kept (hq8 _ hO.lt)
  refine k_putF (C := RX6) (T := TX6) (N := 14) hx hb hts inGX6 tyX6 tyX6_ok nmX6 hown (hG.2.1).1 hO_8 hS8 hzx rfl 10 (Nat.le_of_ble_eq_true rfl) (hts _ w_882) (fun _ h9 => h9) rfl hin rfl (ty := .array .int) (v := .ref s.heap.size) (by decide +kernel) rfl rfl (Nat.le_of_ble_eq_true rfl) dX6_init_10 (fun H10 locs10 hO10 hz10 hq10 hS10 => ?_)
  have hO10 : Ob D x 7 [.int 0, .int 0, .int 0, .int 0, .int 0, .int 0, .int 0, .int 0, .int 0, .int 0, .ref s.heap.size, .null, .null, .null] H10 := hO10
  have hA8_10 := hA8.kept (hq10 _ (by have := hO.lt; omega))
  refine lv_aload_n hx hb dX6_init_13 rfl (lv_at hl 0 rfl) ?_
  refine lv_sipush (v := 420) hx hb dX6_init_14 (by decide) ?_
  refine k_newI hx hb (hts _ w_119) hG.2.1.1 hS10 (N := 420) (by decide) (by decide) (by decide) (Nat.le_of_ble_eq_true rfl) (Nat.le_of_ble_eq_true rfl) dX6_init_17 (fun H17 hA17 hz17 hq17 hS17 => ?_)
  refine W.widen (k := 2) (n := 1120) (Nat.le_of_ble_eq_true rfl) (Nat.le_of_ble_eq_true rfl) ?_
  have hO10_17 := hO10.kept (hq17 _ hO10.lt)
  have hA8_17 := hA8_10.kept (hq17 _ hA8_10.lt)
  refine k_putF (C := RX6) (T := TX6) (N := 14) hx hb hts inGX6 tyX6 tyX6_ok nmX6 hown (hG.2.1).1 hO10_17 hS17 hzx rfl 11 (Nat.le_of_ble_eq_true rfl) (hts _ w_883) (fun _ h9 => h9) rfl hin rfl (ty := .array .int) (v := .ref H10.size) (by decide +kernel) rfl rfl (Nat.le_of_ble_eq_true rfl) dX6_init_19 (fun H19 locs19 hO19 hz19 hq19 hS19 => ?_)
  have hO19 : Ob D x 7 [.int 0, .int 0, .int 0, .int 0, .int 0, .int 0, .int 0, .int 0, .int 0, .int 0, .ref s.heap.size, .ref H10.size, .null, .null] H19 := hO19
  have hA8_19 := hA8_17.kept (hq19 _ (by have := hO.lt; omega))
  have hA17_19 := hA17.kept (hq19 _ (by have := hO.lt; omega))
  refine lv_aload_n hx hb dX6_init_22 rfl (lv_at hl 0 rfl) ?_
  refine lv_bipush (v := 32) hx hb dX6_init_23 (by decide) ?_
  refine k_newI hx hb (hts _ w_119) hG.2.1.1 hS19 (N := 32) (by decide) (by decide) (by decide) (Nat.le_of_ble_eq_true rfl) (Nat.le_of_ble_eq_true rfl) dX6_init_25 (fun H25 hA25 hz25 hq25 hS25 => ?_)
  refine W.widen (k := 3) (n := 1152) (Nat.le_of_ble_eq_true rfl) (Nat.le_of_ble_eq_true rfl) ?_
  have hO19_25 := hO19.kept (hq25 _ hO19.lt)
  have hA8_25 := hA8_19.kept (hq25 _ hA8_19.lt)
  have hA17_25 := hA17_19.kept (hq25 _ hA17_19.lt)
  refine k_putF (C := RX6) (T := TX6) (N := 14) hx hb hts inGX6 tyX6 tyX6_ok nmX6 hown (hG.2.1).1 hO19_25 hS25 hzx rfl 12 (Nat.le_of_ble_eq_true rfl) (hts _ w_884) (fun _ h9 => h9) rfl hin rfl (ty := .array .int) (v := .ref H19.size) (by decide +kernel) rfl rfl (Nat.le_of_ble_eq_true rfl) dX6_init_27 (fun H27 locs27 hO27 hz27 hq27 hS27 => ?_)
  have hO27 : Ob D x 7 [.int 0, .int 0, .int 0, .int 0, .int 0, .int 0, .int 0, .int 0, .int 0, .int 0, .ref s.heap.size, .ref H10.size, .ref H19.size, .null] H27 := hO27
  have hA8_27 := hA8_25.kept (hq27 _ (by have := hO.lt; omega))
  have hA17_27 := hA17_25.kept (hq27 _ (by have := hO.lt; omega))
  have hA25_27 := hA25.kept (hq27 _ (by have := hO.lt; omega))
  refine lv_aload_n hx hb dX6_init_30 rfl (lv_at hl 0 rfl) ?_
  refine lv_bipush (v := 60) hx hb dX6_init_31 (by decide) ?_
  refine k_newJ hx hb (hts _ w_915) hG.2.1.1 hS27 (N := 60) (by decide) (by decide) (by decide) (Nat.le_of_ble_eq_true rfl) (Nat.le_of_ble_eq_true rfl) dX6_init_33 (fun H33 hA33 hz33 hq33 hS33 => ?_)
  refine W.widen (k := 4) (n := 1212) (Nat.le_of_ble_eq_true rfl) (Nat.le_of_ble_eq_true rfl) ?_
  have hO27_33 := hO27.kept (hq33 _ hO27.lt)
  have hA8_33 := hA8_27.kept (hq33 _ hA8_27.lt)
  have hA17_33 := hA17_27.kept (hq33 _ hA17_27.lt)
  have hA25_33 := hA25_27.kept (hq33 _ hA25_27.lt)
  refine k_putF (C := RX6) (T := TX6) (N := 14) hx hb hts inGX6 tyX6 tyX6_ok nmX6 hown (hG.2.1).1 hO27_33 hS33 hzx rfl 13 (Nat.le_of_ble_eq_true rfl) (hts _ w_885) (fun _ h9 => h9) rfl hin rfl (ty := .array .long) (v := .ref H27.size) (by decide +kernel) rfl rfl (Nat.le_of_ble_eq_true rfl) dX6_init_35 (fun H35 locs35 hO35 hz35 hq35 hS35 => ?_)
  have hO35 : Ob D x 7 [.int 0, .int 0, .int 0, .int 0, .int 0, .int 0, .int 0, .int 0, .int 0, .int 0, .ref s.heap.size, .ref H10.size, .ref H19.size, .ref H27.size] H35 := hO35
  have hA8_35 := hA8_33.kept (hq35 _ (by have := hO.lt; omega))
  have hA17_35 := hA17_33.kept (hq35 _ (by have := hO.lt; omega))
  have hA25_35 := hA25_33.kept (hq35 _ (by have := hO.lt; omega))
  have hA33_35 := hA33.kept (hq35 _ (by have := hO.lt; omega))
  refine W.widen (k := 4) (n := 1212) (Nat.le_of_ble_eq_true rfl) (Nat.le_of_ble_eq_true rfl) ?_
  let rf : Nat → Nat := fun i => if i = 0 then x else if i = 1 then s.heap.size else if i = 2 then H10.size else if i = 3 then H19.size else H27.size
  have hR : RP D ct Z σ0 0 (fun _ => 0) rf H35 := by
    refine ⟨fun i hi => ?_, fun i j hi hj hij => ?_⟩
    · rcases lt5 hi with rfl | rfl | rfl | rfl | rfl
      · exact ⟨hO35, hzx⟩
      · exact ⟨hA8_35, fun z => absurd (hG.1 _ z) (by have : rf 1 = s.heap.size := rfl; omega)⟩
      · exact ⟨hA17_35, fun z => absurd (hG.1 _ z) (by have : rf 2 = H10.size := rfl; omega)⟩
      · exact ⟨hA25_35, fun z => absurd (hG.1 _ z) (by have : rf 3 = H19.size := rfl; omega)⟩
      · exact ⟨hA33_35, fun z => absurd (hG.1 _ z) (by have : rf 4 = H27.size := rfl; omega)⟩
    · rcases lt5 hi with rfl | rfl | rfl | rfl | rfl <;> rcases lt5 hj with rfl | rfl | rfl | rfl | rfl <;> first | rfl | (exfalso; simp only [rf] at hij; simp at hij <;> omega)
  have hrest : ∀ q : Nat, q < s.heap.size → q ≠ x → H35[q]? = s.heap[q]? := fun q h1 h2 => (hq35 q h2).trans ((hq33 q (by omega)).trans ((hq27 q h2).trans ((hq25 q (by omega)).trans ((hq19 q h2).trans ((hq17 q (by omega)).trans ((hq10 q h2).trans (hq8 q (by omega))))))))
  exact W.vret hx hb hr (fun t ht hW => ⟨rfl, by rw [ht]; exact ⟨rf, rfl, hR, by omega, hrest⟩, hS35.F ht⟩) (fun z h => hS35.2.2 z h) dX6_init_38
