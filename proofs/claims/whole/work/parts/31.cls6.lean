theorem GT.mi {D : va_G} {ct : Nat → ClassId} {U : State} (h : GT D ct U) : ∃ mi : Nat, va_Mi "[Ljava/lang/Object;" mi U := h.2.2.2.2.2.2.2.2.2.2
theorem GT.dcl {D : va_G} {ct : Nat → ClassId} {U : State} (h : GT D ct U) : va_Dc U := h.2.2.2.2.2.2.2.1
theorem GT.ao {D : va_G} {ct : Nat → ClassId} {U : State} (h : GT D ct U) : va_AO "java/lang/Object" U := h.2.2.2.2.2.2.2.2.1
theorem GT.ar {D : va_G} {ct : Nat → ClassId} {U : State} (h : GT D ct U) : va_AO "RumourCustoms$Road" U := h.2.2.2.2.2.2.2.2.2.1
theorem GT.cas {D : va_G} {ct : Nat → ClassId} {U : State} (h : GT D ct U) {ci : Nat} (hc : ci = 4 ∨ ci = 1) : ∃ q : vw_C, vwCl[ci]? = some q ∧ va_Nw (.castable q.1 "java/lang/Object") U := by
  rcases hc with rfl | rfl
  · exact ⟨_, rfl, h.2.2.1⟩
  · exact ⟨_, rfl, h.2.2.2.1⟩
theorem Ar.recvQ {D : va_G} {ct : Nat → ClassId} {U : State} {H : Heap} {a : Nat} {x : vp_A} (h : GT D ct U) (hA : Ar (ct 3) a x H) (hx : (vp_cell (ct 3) x).vm.isStatics = false) (hc : (vp_cell (ct 3) x).cls = ct 3) : ∃ cell : Cell, H[a]? = some cell ∧ cell.vm.isStatics = false ∧ U.vm.findClass "[Ljava/lang/Object;" = some cell.cls :=
  ⟨_, hA, hx, by rw [hc]; exact va_nmO (h.1.2 3 _ rfl).2 rfl⟩
theorem va_cpy0 {f : Nat → Option Nat} {n : Nat} (h : ∀ j, n ≤ j → f j = none) : va_cpy f (fun _ => none) 0 0 n = f := by
  funext k
  unfold va_cpy
  by_cases z : k < 0 + n
  · rw [if_pos ⟨Nat.zero_le _, z⟩, Nat.sub_zero, Nat.zero_add]
  · rw [if_neg (fun y => z y.2), h k (by omega)]

/-! ArraysSupport.newLength -/
set_option maxHeartbeats 4000000 in
set_option maxRecDepth 100000 in
theorem c_J8_newLength_cabcc (l : Launch) (D : va_G) (ct : Nat → ClassId) (p q u : Int32) (h1 : 0 < p + (if q < u then u else q)) (h2 : p + (if q < u then u else q) ≤ 2147483639) : Met l yJ8_newLength_cabcc (.code yJ8_newLength_cabcc cJ8_newLength_cabcc 4 (some .int) :: GW) ({ frames := 1, cells := 0, slots := 0, locals := 21 } : Room) (va_Pc [.int p, .int q, .int u] (fun U => GT D ct U ∧ True)) (qP (some (.int (p + (if q < u then u else q))))) 0 0 nF := by
  refine m_in (cc := cJ8_newLength_cabcc) [.int p, .int q, .int u] "jdk/internal/util/ArraysSupport" rfl (by decide) (Nat.le_of_ble_eq_true rfl) ?_
  intro pg e s m args below meth cd ls hx hb hml hown hts hr hlocks hin hPr hl
  obtain ⟨hT, _⟩ := hPr
  have hl : lv_has ls 4 [(0, .int p), (1, .int q), (2, .int u)] := hl
  refine lv_iload_n hx hb dJ8_newLength_cabcc_0 rfl (lv_at hl 0 rfl) ?_
  refine lv_iload_n hx hb dJ8_newLength_cabcc_1 rfl (lv_at hl 1 rfl) ?_
  refine lv_iload_n hx hb dJ8_newLength_cabcc_2 rfl (lv_at hl 2 rfl) ?_
  refine va_mmax hx hb (hml.trans hl.1.symm) hown (hts _ w_519) (hts _ w_520) (hts _ w_73) (hts _ w_521) (Nat.le_of_ble_eq_true rfl) (Nat.le_of_ble_eq_true rfl) (Nat.le_of_ble_eq_true rfl) (Nat.le_of_ble_eq_true rfl) dJ8_newLength_cabcc_3 ?_
  refine lv_iadd hx hb dJ8_newLength_cabcc_6 ?_
  refine lv_istore_n (lv' := [(3, .int (p + (if q < u then u else q))), (0, .int p), (1, .int q), (2, .int u)]) hx hb dJ8_newLength_cabcc_7 rfl hl (by decide) rfl (fun ls hl => ?_)
  refine lv_iconst (v := 0) hx hb dJ8_newLength_cabcc_8 (by decide) ?_
  refine lv_iload_n hx hb dJ8_newLength_cabcc_9 rfl (lv_at hl 0 rfl) ?_
  refine lv_icmp_ge (tgt := 21) hx hb dJ8_newLength_cabcc_10 (by decide) (fun c_10 => ?_) (fun c_10 => ?_)
  · -- taken
    exact absurd h1 (Int32.not_lt.mpr c_10)
  · -- not taken
    refine lv_iload_n hx hb dJ8_newLength_cabcc_13 rfl (lv_at hl 0 rfl) ?_
    refine lv_ldc (v := 2147483639) hx hb hown (hts _ w_522) dJ8_newLength_cabcc_14 ?_
    refine lv_icmp_gt (tgt := 21) hx hb dJ8_newLength_cabcc_16 (by decide) (fun c_16 => ?_) (fun c_16 => ?_)
    · -- taken
      exact absurd c_16 (Int32.not_lt.mpr h2)
    · -- not taken
      refine lv_iload_n hx hb dJ8_newLength_cabcc_19 rfl (lv_at hl 0 rfl) ?_
      exact W.iret (v := p + (if q < u then u else q)) hx hb hr (fun t ht hW => ⟨rvi rfl, ht⟩) (fun q h => nomatch h) dJ8_newLength_cabcc_20

/-! Arrays.copyOf with a class -/
set_option maxHeartbeats 4000000 in
set_option maxRecDepth 100000 in
theorem c_copy3 (l : Launch) (D : va_G) (ct : Nat → ClassId) (Z : Nat → Prop) (dc : Nat) (Hh : Heap) (a0 N0 N1 mi ci : Nat) (f : Nat → Option Nat) (hN : N0 ≤ N1) (hN1 : N1 ≤ 1000) (hz0 : ¬ Z a0) (hci : ci = 4 ∨ ci = 1) (hel : ∀ j y, f j = some y → ∃ vs, Ob D y ci vs Hh) (hf0 : ∀ j, N0 ≤ j → f j = none) : Met l yJ7_copyOf_6403c (.code yJ7_copyOf_6403c cJ7_copyOf_6403c 4 (some (.array (.object "java/lang/Object"))) :: GW) ({ frames := 1, cells := 1, slots := 1000, locals := 40 } : Room) (va_Pc [.ref a0, .int (nI N1), .ref mi] (fun U => GF D ct Z dc U U.heap ∧ U.heap = Hh ∧ Ar (ct 3) a0 (rQ N0 f) U.heap ∧ va_Mi "[Ljava/lang/Object;" mi U)) (qS1 Z (fun x h => x = .ref Hh.size ∧ Ar (ct 3) Hh.size (rQ N1 f) h ∧ KA Hh h)) 1 1000 (nZ Z) := by
  refine m_in (cc := cJ7_copyOf_6403c) [.ref a0, .int (nI N1), .ref mi] "java/util/Arrays" rfl (by decide) (Nat.le_of_ble_eq_true rfl) ?_
  intro pg e s m args below meth cd ls hx hb hml hown hts hr hlocks hin hPr hl
  obtain ⟨hG, hH, hA, hM⟩ := hPr
  subst hH
  have hl : lv_has ls 4 [(0, .ref a0), (1, .int (nI N1)), (2, .ref mi)] := hl
  have hS : va_S (nZ Z) s.heap s.heap [] := va_S.rf
  refine lv_aload_n hx hb dJ7_copyOf_6403c_0 rfl (lv_at hl 2 rfl) ?_
  refine va_ldcM hx hb hown (hts _ w_547) hM dJ7_copyOf_6403c_1 ?_
  refine lv_acmp_ne (rx := some mi) (ry := some mi) (tgt := 13) hx hb dJ7_copyOf_6403c_3 (by decide) (fun c_ => absurd rfl c_) (fun _ => ?_)
  refine lv_iload_n hx hb dJ7_copyOf_6403c_6 rfl (lv_at hl 1 rfl) ?_
  refine k_newQ 3 hx hb hown (hts _ w_549) hG.2.1.ao hG.2.1.1 rfl hS (nI_pos (by omega)) (nI_clamp (by omega)) (by omega) (Nat.le_of_ble_eq_true rfl) (Nat.le_trans (by omega : 0 + N1 ≤ 1000) (Nat.le_of_ble_eq_true rfl)) dJ7_copyOf_6403c_7 (fun H7 hA7 hz7 hq7 hS7 => ?_)
  refine W.widen (k := 1) (n := 1000) (by omega) (by omega) ?_
  have hA0 : Ar (ct 3) a0 (rQ N0 f) H7 := hA.kept (hq7 _ hA.lt)
  have hne : a0 ≠ s.heap.size := Nat.ne_of_lt hA.lt
  have hzn : ¬ Z s.heap.size := fun z => absurd (hG.1 _ z) (Nat.lt_irrefl _)
  refine lv_goto (tgt := 24) hx hb dJ7_copyOf_6403c_10 (by decide) ?_
  refine lv_astore_n (lv' := [(3, .ref s.heap.size), (0, .ref a0), (1, .int (nI N1)), (2, .ref mi)]) hx hb dJ7_copyOf_6403c_24 rfl hl (by decide) rfl (fun ls hl => ?_)
  refine lv_aload_n hx hb dJ7_copyOf_6403c_25 rfl (lv_at hl 1 rfl) ?_
  refine lv_iconst (v := 0) hx hb dJ7_copyOf_6403c_26 (by decide) ?_
  refine lv_aload_n hx hb dJ7_copyOf_6403c_27 rfl (lv_at hl 0 rfl) ?_
  refine lv_iconst (v := 0) hx hb dJ7_copyOf_6403c_28 (by decide) ?_
  refine lv_aload_n hx hb dJ7_copyOf_6403c_29 rfl (lv_at hl 1 rfl) ?_
  refine k_alen hx hb (hG.2.1).1 3 hA0 rfl dJ7_copyOf_6403c_30 ?_
  refine lv_iload_n hx hb dJ7_copyOf_6403c_31 rfl (lv_at hl 2 rfl) ?_
  refine va_mmin hx hb (hml.trans hl.1.symm) hown (hts _ w_550) (hts _ w_551) (hts _ w_73) (hts _ w_552) (Nat.le_of_ble_eq_true rfl) (Nat.le_of_ble_eq_true rfl) (Nat.le_of_ble_eq_true rfl) (Nat.le_of_ble_eq_true rfl) dJ7_copyOf_6403c_32 ?_
  rw [show (if nI N1 < nI N0 then nI N1 else nI N0) = nI N0 from if_neg (nI_nlt hN (by omega))]
  obtain ⟨q0, hq0, hca⟩ := hG.2.1.cas hci
  refine k_copyq hx hb (hml.trans hl.1.symm) hown (hts _ w_553) (hts _ w_555) (hts _ w_554) (hts _ w_74) hG.2.1.1 hS7 hq0 hca hA0 hA7 hne hz0 hzn (fun j y hy => (hel j y hy).imp fun vs h => h.kept (hq7 _ h.lt)) (by decide) (by decide) (nI_pos (by omega)) (by rw [nI_clamp (by omega)]; show 0 + N0 ≤ N0; omega) (by rw [nI_clamp (by omega)]; show 0 + N0 ≤ N1; omega) (Nat.le_of_ble_eq_true rfl) (Nat.le_of_ble_eq_true rfl) dJ7_copyOf_6403c_35 (fun H35 locs35 hA35 hz35 hq35 hS35 => ?_)
  rw [nI_clamp (by omega : N0 < 2 ^ 31)] at hA35
  replace hA35 : Ar (ct 3) s.heap.size (rQ N1 (va_cpy f (fun _ => none) 0 0 N0)) H35 := hA35
  rw [va_cpy0 hf0] at hA35
  refine lv_aload_n hx hb dJ7_copyOf_6403c_38 rfl (lv_at hl 0 rfl) ?_
  refine W.widen (k := 1) (n := 1000) (Nat.le_of_ble_eq_true rfl) (Nat.le_of_ble_eq_true rfl) ?_
  exact W.aret (v := .ref s.heap.size) hx hb hr (by first | exact Or.inl ⟨_, rfl⟩ | exact Or.inr ⟨_, rfl⟩) (by first | exact Or.inl rfl | exact Or.inr ⟨_, rfl⟩) (fun t ht hW => ⟨_, rfl, by rw [ht]; exact ⟨rfl, hA35, ⟨by omega, fun q h => (hq35 q (by omega) (Nat.ne_of_lt h)).trans (hq7 q h)⟩⟩, hS35.F ht⟩) (fun z h => hS35.2.2 z h) dJ7_copyOf_6403c_39

/-! Arrays.copyOf -/
set_option maxHeartbeats 4000000 in
set_option maxRecDepth 100000 in
theorem c_copy2 (l : Launch) (D : va_G) (ct : Nat → ClassId) (Z : Nat → Prop) (dc : Nat) (Hh : Heap) (a0 N0 N1 ci : Nat) (f : Nat → Option Nat) (hN : N0 ≤ N1) (hN1 : N1 ≤ 1000) (hz0 : ¬ Z a0) (hci : ci = 4 ∨ ci = 1) (hel : ∀ j y, f j = some y → ∃ vs, Ob D y ci vs Hh) (hf0 : ∀ j, N0 ≤ j → f j = none) : Met l yJ7_copyOf_1904c (.code yJ7_copyOf_1904c cJ7_copyOf_1904c 2 (some (.array (.object "java/lang/Object"))) :: GW) ({ frames := 2, cells := 1, slots := 1000, locals := 63 } : Room) (va_Pc [.ref a0, .int (nI N1)] (fun U => GF D ct Z dc U U.heap ∧ U.heap = Hh ∧ Ar (ct 3) a0 (rQ N0 f) U.heap)) (qS1 Z (fun x h => x = .ref Hh.size ∧ Ar (ct 3) Hh.size (rQ N1 f) h ∧ KA Hh h)) 1 1000 (nZ Z) := by
  refine m_in (cc := cJ7_copyOf_1904c) [.ref a0, .int (nI N1)] "java/util/Arrays" rfl (by decide) (Nat.le_of_ble_eq_true rfl) ?_
  intro pg e s m args below meth cd ls hx hb hml hown hts hr hlocks hin hPr hl
  obtain ⟨hG, hH, hA⟩ := hPr
  subst hH
  have hl : lv_has ls 2 [(0, .ref a0), (1, .int (nI N1))] := hl
  have hS : va_S (nZ Z) s.heap s.heap [] := va_S.rf
  refine lv_aload_n hx hb dJ7_copyOf_1904c_0 rfl (lv_at hl 0 rfl) ?_
  refine lv_iload_n hx hb dJ7_copyOf_1904c_1 rfl (lv_at hl 1 rfl) ?_
  refine lv_aload_n hx hb dJ7_copyOf_1904c_2 rfl (lv_at hl 0 rfl) ?_
  obtain ⟨mi, hM⟩ := hG.2.1.mi
  refine va_getC hx hb (hml.trans hl.1.symm) hown (hts _ w_529) (va_Dc.use hG.2.1.dcl) (hts _ w_1125) (hts _ w_530) (hts _ w_543) hM (Ar.recvQ hG.2.1 hA rfl rfl) (Nat.le_of_ble_eq_true rfl) (Nat.le_of_ble_eq_true rfl) dJ7_copyOf_1904c_3 ?_
  refine c_s1 (va_runS (As := [.ref a0, .int (nI N1), .ref mi]) (rest := []) ⟨hx, hb, hml, hown, hts⟩ (c_copy3 l D ct Z dc s.heap a0 N0 N1 mi ci f hN hN1 hz0 hci hel hf0) (k_cwS 3 hts w_544 w_545 w_77 w_546 rfl rfl (by decide) ⟨Nat.le_of_ble_eq_true rfl, Nat.le_of_ble_eq_true rfl⟩) ⟨(blindF fun _ _ _ _ h => h), fun U hU hW => ⟨rfl, hG.up hW hS hU, ⟨hU, by rw [hU]; exact hA, hM.moved hW.alike⟩⟩⟩ rfl rfl hl.1 rfl (lv_room (Nat.le_of_ble_eq_true rfl)) dJ7_copyOf_1904c_6 ⟨Nat.le_of_ble_eq_true rfl, Nat.le_of_ble_eq_true rfl⟩) hS (fun x H6 locs6 hR6 hz6 hS6 => ?_)
  obtain ⟨rfl, hR6⟩ := hR6
  refine W.widen (k := 1) (n := 1000) (Nat.le_of_ble_eq_true rfl) (Nat.le_of_ble_eq_true rfl) ?_
  exact W.aret (v := .ref s.heap.size) hx hb hr (by first | exact Or.inl ⟨_, rfl⟩ | exact Or.inr ⟨_, rfl⟩) (by first | exact Or.inl rfl | exact Or.inr ⟨_, rfl⟩) (fun t ht hW => ⟨_, rfl, by rw [ht]; exact ⟨rfl, hR6⟩, hS6.F ht⟩) (fun z h => hS6.2.2 z h) dJ7_copyOf_1904c_9

theorem gcap_i {cap : Nat} (h : 10 ≤ cap) (hc : cap ≤ 600) : nI cap + (if nI (cap + 1) - nI cap < nI cap >>> ((1 : Int32) &&& 31) then nI cap >>> ((1 : Int32) &&& 31) else nI (cap + 1) - nI cap) = nI (gcap cap) := by
  have e1 : nI (cap + 1) - nI cap = nI 1 := by rw [← nI_1, Int32.add_comm, Int32.add_sub_cancel]; rfl
  have e2 : nI cap >>> ((1 : Int32) &&& 31) = nI (cap / 2) := pk_shrN (by omega) _ 1 (by decide)
  rw [e1, e2, if_pos (nI_lt (by omega) (by omega)), nI_add]
  unfold gcap
  rw [if_neg (by omega)]
theorem gcap_b {cap : Nat} (h10 : cap = 0 ∨ 10 ≤ cap) (hc : cap ≤ 600) : cap < gcap cap ∧ gcap cap ≤ 1000 := by
  unfold gcap
  split <;> omega

/-! ArrayList.grow -/
set_option maxHeartbeats 4000000 in
set_option maxRecDepth 100000 in
theorem c_grow2 (l : Launch) (D : va_G) (ct : Nat → ClassId) (Z : Nat → Prop) (dc : Nat) (Hh : Heap) (a : Nat) (mv : Int32) (cap ed ci : Nat) (f : Nat → Option Nat) (hc : cap ≤ 600) (h10 : cap = 0 ∨ 10 ≤ cap) (hdc : cap = 0 → ed = dc) (hze : 0 < cap → ¬ Z ed) (hza : ¬ Z a) (hea : ed ≠ a) (hci : ci = 4 ∨ ci = 1) (hel : ∀ j y, f j = some y → ∃ vs, Ob D y ci vs Hh) (hf0 : ∀ j, cap ≤ j → f j = none) : Met l yJx4a65c_grow_92f84 (.code yJx4a65c_grow_92f84 cJx4a65c_grow_92f84 4 (some (.array (.object "java/lang/Object"))) :: GW) ({ frames := 3, cells := 1, slots := 1000, locals := 84 } : Room) (va_Pc [.ref a, .int (nI (cap + 1))] (fun U => GF D ct Z dc U U.heap ∧ U.heap = Hh ∧ Ob D a 0 [.int mv, .ref ed, .int (nI cap)] U.heap ∧ Aq (ct 3) ed cap f U.heap)) (qS1 Z (fun x h => x = .ref Hh.size ∧ Ob D a 0 [.int mv, .ref Hh.size, .int (nI cap)] h ∧ Ar (ct 3) Hh.size (rQ (gcap cap) f) h ∧ Hh.size ≤ h.size ∧ ∀ q : Nat, q < Hh.size → q ≠ a → h[q]? = Hh[q]?)) 1 1000 (nZ Z) := by
  refine m_in (cc := cJx4a65c_grow_92f84) [.ref a, .int (nI (cap + 1))] "java/util/ArrayList" rfl (by decide) (Nat.le_of_ble_eq_true rfl) ?_
  intro pg e s m args below meth cd ls hx hb hml hown hts hr hlocks hin hPr hl
  obtain ⟨hG, hH, hO, hA⟩ := hPr
  subst hH
  have hl : lv_has ls 4 [(0, .ref a), (1, .int (nI (cap + 1)))] := hl
  have hS : va_S (nZ Z) s.heap s.heap [] := va_S.rf
  refine lv_aload_n hx hb dJx4a65c_grow_92f84_0 rfl (lv_at hl 0 rfl) ?_
  refine k_get (C := RJx4a65c) (T := TJx4a65c) (N := 3) hx hb hts inGJx4a65c hown (hG.2.1).1 hO rfl 1 (by decide) (hts _ w_135) (fun _ h9 => h9) (v := .ref ed) rfl dJx4a65c_grow_92f84_1 ?_
  refine k_alenq hx hb (hG.2.1).1 hA dJx4a65c_grow_92f84_4 ?_
  refine lv_istore_n (lv' := [(2, .int (nI cap)), (0, .ref a), (1, .int (nI (cap + 1)))]) hx hb dJx4a65c_grow_92f84_5 rfl hl (by decide) rfl (fun ls hl => ?_)
  refine lv_iload_n hx hb dJx4a65c_grow_92f84_6 rfl (lv_at hl 0 rfl) ?_
  refine lv_if_gt (tgt := 20) hx hb dJx4a65c_grow_92f84_7 (by decide) (fun c_7 => ?_) (fun c_7 => ?_)
  · -- taken
    refine lv_iload_n hx hb dJx4a65c_grow_92f84_20 rfl (lv_at hl 0 rfl) ?_
    refine lv_iload_n hx hb dJx4a65c_grow_92f84_21 rfl (lv_at hl 2 rfl) ?_
    refine lv_iload_n hx hb dJx4a65c_grow_92f84_22 rfl (lv_at hl 0 rfl) ?_
    refine lv_isub hx hb dJx4a65c_grow_92f84_23 ?_
    refine lv_iload_n hx hb dJx4a65c_grow_92f84_24 rfl (lv_at hl 0 rfl) ?_
    refine lv_iconst (v := 1) hx hb dJx4a65c_grow_92f84_25 (by decide) ?_
    refine lv_ishr hx hb dJx4a65c_grow_92f84_26 ?_
    have h10c : 10 ≤ cap := by rcases h10 with z | z; (rw [z] at c_7; exact absurd c_7 (by decide)); exact z
    have hgi := gcap_i h10c hc
    have hgb := gcap_b h10 hc
    refine c_p1 (va_runS (As := [.int (nI cap), .int ((nI (cap + 1)) - (nI cap)), .int ((nI cap) >>> (1 &&& 31))]) (rest := []) ⟨hx, hb, hml, hown, hts⟩ (c_J8_newLength_cabcc l D ct (nI cap) ((nI (cap + 1)) - (nI cap)) ((nI cap) >>> (1 &&& 31)) (by rw [hgi]; exact nI_lt (a := 0) (by omega) (by omega)) (by rw [hgi]; exact nI_le (b := 2147483639) (by omega) (by omega))) (k_cwS 3 hts w_516 w_517 w_76 w_518 rfl rfl (by decide) ⟨Nat.le_of_ble_eq_true rfl, Nat.le_of_ble_eq_true rfl⟩) ⟨(blindT fun _ _ _ _ h => h), fun U hU hW => ⟨rfl, hG.2.1.warm hW, trivial⟩⟩ rfl rfl hl.1 rfl (lv_room (Nat.le_of_ble_eq_true rfl)) dJx4a65c_grow_92f84_27 ⟨Nat.le_of_ble_eq_true rfl, Nat.le_of_ble_eq_true rfl⟩) ?_
    have h10c : 10 ≤ cap := by rcases h10 with z | z; (rw [z] at c_7; exact absurd c_7 (by decide)); exact z
    rw [gcap_i h10c hc]
    refine lv_istore_n (lv' := [(3, .int (nI (gcap cap))), (2, .int (nI cap)), (0, .ref a), (1, .int (nI (cap + 1)))]) hx hb dJx4a65c_grow_92f84_30 rfl hl (by decide) rfl (fun ls hl => ?_)
    refine lv_aload_n hx hb dJx4a65c_grow_92f84_31 rfl (lv_at hl 2 rfl) ?_
    refine lv_aload_n hx hb dJx4a65c_grow_92f84_32 rfl (lv_at hl 2 rfl) ?_
    refine k_get (C := RJx4a65c) (T := TJx4a65c) (N := 3) hx hb hts inGJx4a65c hown (hG.2.1).1 hO rfl 1 (by decide) (hts _ w_135) (fun _ h9 => h9) (v := .ref ed) rfl dJx4a65c_grow_92f84_33 ?_
    refine lv_iload_n hx hb dJx4a65c_grow_92f84_36 rfl (lv_at hl 0 rfl) ?_
    refine c_s1 (va_runS (As := [.ref ed, .int (nI (gcap cap))]) (rest := [.ref a]) ⟨hx, hb, hml, hown, hts⟩ (c_copy2 l D ct Z dc s.heap ed cap (gcap cap) ci f (Nat.le_of_lt hgb.1) hgb.2 (hze (by omega)) hci hel hf0) (k_cwS 2 hts w_526 w_527 w_77 w_528 rfl rfl (by decide) ⟨Nat.le_of_ble_eq_true rfl, Nat.le_of_ble_eq_true rfl⟩) ⟨(blindF fun _ _ _ _ h => h), fun U hU hW => ⟨rfl, hG.up hW hS hU, ⟨hU, by rw [hU]; exact hA.ar (by omega)⟩⟩⟩ rfl rfl hl.1 rfl (lv_room (Nat.le_of_ble_eq_true rfl)) dJx4a65c_grow_92f84_37 ⟨Nat.le_of_ble_eq_true rfl, Nat.le_of_ble_eq_true rfl⟩) hS (fun x H37 locs37 hR37 hz37 hS37 => ?_)
    obtain ⟨rfl, hAN, hKN⟩ := hR37
    have hON : Ob D a 0 [.int mv, .ref ed, .int (nI cap)] H37 := hO.kept (hKN.2 _ hO.lt)
    refine lv_dup_x1 hx hb dJx4a65c_grow_92f84_40 rfl rfl ?_
    refine k_put (C := RJx4a65c) (T := TJx4a65c) (N := 3) hx hb hts inGJx4a65c tyJx4a65c tyJx4a65c_ok nmJx4a65c hown (hG.2.1).1 hON hS37 hza rfl 1 (Nat.le_of_ble_eq_true rfl) (hts _ w_135) (fun _ h9 => h9) rfl (ty := .array (.object "java/lang/Object")) (v := .ref s.heap.size) (by decide +kernel) rfl rfl (Nat.le_of_ble_eq_true rfl) dJx4a65c_grow_92f84_41 (fun H41 locs41 hO41 hz41 hq41 hS41 => ?_)
    have hO41 : Ob D a 0 [.int mv, .ref s.heap.size, .int (nI cap)] H41 := hO41
    refine W.widen (k := 1) (n := 1000) (Nat.le_of_ble_eq_true rfl) (Nat.le_of_ble_eq_true rfl) ?_
    exact W.aret (v := .ref s.heap.size) hx hb hr (by first | exact Or.inl ⟨_, rfl⟩ | exact Or.inr ⟨_, rfl⟩) (by first | exact Or.inl rfl | exact Or.inr ⟨_, rfl⟩) (fun t ht hW => ⟨_, rfl, by rw [ht]; exact ⟨rfl, hO41, hAN.kept (hq41 _ (Nat.ne_of_gt hO.lt)), by have := hKN.1; omega, fun q h1 h2 => (hq41 q h2).trans (hKN.2 q h1)⟩, hS41.F ht⟩) (fun z h => hS41.2.2 z h) dJx4a65c_grow_92f84_44
  · -- not taken
    refine lv_aload_n hx hb dJx4a65c_grow_92f84_10 rfl (lv_at hl 1 rfl) ?_
    refine k_get (C := RJx4a65c) (T := TJx4a65c) (N := 3) hx hb hts inGJx4a65c hown (hG.2.1).1 hO rfl 1 (by decide) (hts _ w_135) (fun _ h9 => h9) (v := .ref ed) rfl dJx4a65c_grow_92f84_11 ?_
    have hc0 : cap = 0 := by rcases h10 with z | z; exact z; exact absurd (show nI 0 < nI cap from nI_lt (by omega) (by omega)) c_7
    have hed := hdc hc0
    refine va_gets hx hb hG.2.2.2.2.1 hS hown (hts _ w_133) (fun _ h => h) dJx4a65c_grow_92f84_14 ?_
    refine lv_acmp_eq (rx := some ed) (ry := some dc) (tgt := 45) hx hb dJx4a65c_grow_92f84_17 (by decide) (fun _ => ?_) (fun c_ => absurd (congrArg some hed) c_)
    refine lv_aload_n hx hb dJx4a65c_grow_92f84_45 rfl (lv_at hl 1 rfl) ?_
    refine lv_bipush (v := 10) hx hb dJx4a65c_grow_92f84_46 (by decide) ?_
    refine lv_iload_n hx hb dJx4a65c_grow_92f84_48 rfl (lv_at hl 2 rfl) ?_
    refine va_mmax hx hb (hml.trans hl.1.symm) hown (hts _ w_556) (hts _ w_520) (hts _ w_73) (hts _ w_521) (Nat.le_of_ble_eq_true rfl) (Nat.le_of_ble_eq_true rfl) (Nat.le_of_ble_eq_true rfl) (Nat.le_of_ble_eq_true rfl) dJx4a65c_grow_92f84_49 ?_
    rw [show (if (10 : Int32) < nI (cap + 1) then nI (cap + 1) else 10) = nI 10 from by rw [hc0]; rfl]
    refine k_newQ 3 hx hb hown (hts _ w_557) hG.2.1.ao hG.2.1.1 rfl hS (nI_pos (by omega)) (nI_clamp (by omega)) (by omega) (Nat.le_of_ble_eq_true rfl) (Nat.le_of_ble_eq_true rfl) dJx4a65c_grow_92f84_52 (fun H52 hA52 hz52 hq52 hS52 => ?_)
    refine W.widen (k := 1) (n := 1000) (by omega) (by omega) ?_
    have hON : Ob D a 0 [.int mv, .ref ed, .int (nI cap)] H52 := hO.kept (hq52 _ hO.lt)
    replace hA52 : Ar (ct 3) s.heap.size (rQ (gcap cap) f) H52 := by rw [show gcap cap = 10 from by rw [hc0]; rfl, show f = fun _ => none from funext fun j => hf0 j (by omega)]; exact hA52
    have hKN : KA s.heap H52 := ⟨by omega, hq52⟩
    have hAN := hA52
    refine lv_dup_x1 hx hb dJx4a65c_grow_92f84_55 rfl rfl ?_
    refine k_put (C := RJx4a65c) (T := TJx4a65c) (N := 3) hx hb hts inGJx4a65c tyJx4a65c tyJx4a65c_ok nmJx4a65c hown (hG.2.1).1 hON hS52 hza rfl 1 (Nat.le_of_ble_eq_true rfl) (hts _ w_135) (fun _ h9 => h9) rfl (ty := .array (.object "java/lang/Object")) (v := .ref s.heap.size) (by decide +kernel) rfl rfl (Nat.le_of_ble_eq_true rfl) dJx4a65c_grow_92f84_56 (fun H56 locs56 hO56 hz56 hq56 hS56 => ?_)
    have hO56 : Ob D a 0 [.int mv, .ref s.heap.size, .int (nI cap)] H56 := hO56
    refine W.widen (k := 1) (n := 1000) (Nat.le_of_ble_eq_true rfl) (Nat.le_of_ble_eq_true rfl) ?_
    exact W.aret (v := .ref s.heap.size) hx hb hr (by first | exact Or.inl ⟨_, rfl⟩ | exact Or.inr ⟨_, rfl⟩) (by first | exact Or.inl rfl | exact Or.inr ⟨_, rfl⟩) (fun t ht hW => ⟨_, rfl, by rw [ht]; exact ⟨rfl, hO56, hAN.kept (hq56 _ (Nat.ne_of_gt hO.lt)), by have := hKN.1; omega, fun q h1 h2 => (hq56 q h2).trans (hKN.2 q h1)⟩, hS56.F ht⟩) (fun z h => hS56.2.2 z h) dJx4a65c_grow_92f84_59

/-! ArrayList.grow() -/
set_option maxHeartbeats 4000000 in
set_option maxRecDepth 100000 in
theorem c_grow1 (l : Launch) (D : va_G) (ct : Nat → ClassId) (Z : Nat → Prop) (dc : Nat) (Hh : Heap) (a : Nat) (mv : Int32) (cap ed ci : Nat) (f : Nat → Option Nat) (hc : cap ≤ 600) (h10 : cap = 0 ∨ 10 ≤ cap) (hdc : cap = 0 → ed = dc) (hze : 0 < cap → ¬ Z ed) (hza : ¬ Z a) (hea : ed ≠ a) (hci : ci = 4 ∨ ci = 1) (hel : ∀ j y, f j = some y → ∃ vs, Ob D y ci vs Hh) (hf0 : ∀ j, cap ≤ j → f j = none) : Met l yJx4a65c_grow_d5877 (.code yJx4a65c_grow_d5877 cJx4a65c_grow_d5877 1 (some (.array (.object "java/lang/Object"))) :: GW) ({ frames := 4, cells := 1, slots := 1000, locals := 107 } : Room) (va_Pc [.ref a] (fun U => GF D ct Z dc U U.heap ∧ U.heap = Hh ∧ Ob D a 0 [.int mv, .ref ed, .int (nI cap)] U.heap ∧ Aq (ct 3) ed cap f U.heap)) (qS1 Z (fun x h => x = .ref Hh.size ∧ Ob D a 0 [.int mv, .ref Hh.size, .int (nI cap)] h ∧ Ar (ct 3) Hh.size (rQ (gcap cap) f) h ∧ Hh.size ≤ h.size ∧ ∀ q : Nat, q < Hh.size → q ≠ a → h[q]? = Hh[q]?)) 1 1000 (nZ Z) := by
  refine m_in (cc := cJx4a65c_grow_d5877) [.ref a] "java/util/ArrayList" rfl (by decide) (Nat.le_of_ble_eq_true rfl) ?_
  intro pg e s m args below meth cd ls hx hb hml hown hts hr hlocks hin hPr hl
  obtain ⟨hG, hH, hO, hA⟩ := hPr
  subst hH
  have hl : lv_has ls 1 [(0, .ref a)] := hl
  have hS : va_S (nZ Z) s.heap s.heap [] := va_S.rf
  refine lv_aload_n hx hb dJx4a65c_grow_d5877_0 rfl (lv_at hl 0 rfl) ?_
  refine lv_aload_n hx hb dJx4a65c_grow_d5877_1 rfl (lv_at hl 0 rfl) ?_
  refine k_get (C := RJx4a65c) (T := TJx4a65c) (N := 3) hx hb hts inGJx4a65c hown (hG.2.1).1 hO rfl 2 (by decide) (hts _ w_136) (fun _ h9 => h9) (v := .int (nI cap)) rfl dJx4a65c_grow_d5877_2 ?_
  refine lv_iconst (v := 1) hx hb dJx4a65c_grow_d5877_5 (by decide) ?_
  refine lv_iadd hx hb dJx4a65c_grow_d5877_6 ?_
  rw [nI_1]
  refine c_s1 (va_runV (As := [.int (nI (cap + 1))]) (rest := []) ⟨hx, hb, hml, hown, hts⟩ (c_grow2 l D ct Z dc s.heap a mv cap ed ci f hc h10 hdc hze hza hea hci hel hf0) (cwV 1 hts (GG w_512 w_514 w_13 w_64 w_515) rfl rfl rfl (by decide) ⟨Nat.le_of_ble_eq_true rfl, Nat.le_of_ble_eq_true rfl⟩) ⟨(blindF fun _ _ _ _ h => h), Ob.recv (hG.2.1).1 hO rfl, fun U hU hW => ⟨rfl, hG.up hW hS hU, ⟨hU, by rw [hU]; exact ⟨hO, hA⟩⟩⟩⟩ rfl rfl hl.1 rfl (lv_room (Nat.le_of_ble_eq_true rfl)) dJx4a65c_grow_d5877_7 ⟨Nat.le_of_ble_eq_true rfl, Nat.le_of_ble_eq_true rfl⟩) hS (fun x H7 locs7 hR7 hz7 hS7 => ?_)
  obtain ⟨rfl, hR7⟩ := hR7
  refine W.widen (k := 1) (n := 1000) (Nat.le_of_ble_eq_true rfl) (Nat.le_of_ble_eq_true rfl) ?_
  exact W.aret (v := .ref s.heap.size) hx hb hr (by first | exact Or.inl ⟨_, rfl⟩ | exact Or.inr ⟨_, rfl⟩) (by first | exact Or.inl rfl | exact Or.inr ⟨_, rfl⟩) (fun t ht hW => ⟨_, rfl, by rw [ht]; exact ⟨rfl, hR7⟩, hS7.F ht⟩) (fun z h => hS7.2.2 z h) dJx4a65c_grow_d5877_10

/-! ArrayList.add in its array -/
set_option maxHeartbeats 4000000 in
set_option maxRecDepth 100000 in
theorem c_add3 (l : Launch) (D : va_G) (ct : Nat → ClassId) (Z : Nat → Prop) (dc : Nat) (Hh : Heap) (a : Nat) (mv : Int32) (n cap ed ci v : Nat) (vs : List Value) (f : Nat → Option Nat) (hn : n ≤ cap) (hc : cap ≤ 1000) (hn6 : n ≤ 600) (h10 : cap = 0 ∨ 10 ≤ cap) (hdc : cap = 0 → ed = dc) (hze : 0 < cap → ¬ Z ed) (hza : ¬ Z a) (hea : ed ≠ a) (hci : ci = 4 ∨ ci = 1) (hel : ∀ j y, f j = some y → ∃ vs, Ob D y ci vs Hh) (hf0 : ∀ j, n ≤ j → f j = none) (hva : v ≠ a) : Met l yJx4a65c_add_72be8 (.code yJx4a65c_add_72be8 cJx4a65c_add_72be8 4 none :: GW) ({ frames := 5, cells := 1, slots := 1000, locals := 127 } : Room) (va_Pc [.ref a, .ref v, .ref ed, .int (nI n)] (fun U => GF D ct Z dc U U.heap ∧ U.heap = Hh ∧ Ob D a 0 [.int mv, .ref ed, .int (nI n)] U.heap ∧ Aq (ct 3) ed cap f U.heap ∧ Ob D v ci vs U.heap)) (qS0 Z (addRel D ct Hh a mv n f v cap ed)) 1 1000 (nZ Z) := by
  refine m_in (cc := cJx4a65c_add_72be8) [.ref a, .ref v, .ref ed, .int (nI n)] "java/util/ArrayList" rfl (by decide) (Nat.le_of_ble_eq_true rfl) ?_
  intro pg e s m args below meth cd ls hx hb hml hown hts hr hlocks hin hPr hl
  obtain ⟨hG, hH, hO, hA, hV⟩ := hPr
  subst hH
  have hl : lv_has ls 4 [(0, .ref a), (1, .ref v), (2, .ref ed), (3, .int (nI n))] := hl
  have hS : va_S (nZ Z) s.heap s.heap [] := va_S.rf
  refine lv_iload_n hx hb dJx4a65c_add_72be8_0 rfl (lv_at hl 3 rfl) ?_
  refine lv_aload_n hx hb dJx4a65c_add_72be8_1 rfl (lv_at hl 2 rfl) ?_
  refine k_alenq hx hb (hG.2.1).1 hA dJx4a65c_add_72be8_2 ?_
  refine lv_icmp_ne (tgt := 11) hx hb dJx4a65c_add_72be8_3 (by decide) (fun c_3 => ?_) (fun c_3 => ?_)
  · -- taken
    have nc_3 : ¬ n = cap := fun z => c_3 ((nI_eq (a := n) (b := cap) (by omega) (by omega)).mpr z)
    refine lv_aload_n hx hb dJx4a65c_add_72be8_11 rfl (lv_at hl 2 rfl) ?_
    refine lv_iload_n hx hb dJx4a65c_add_72be8_12 rfl (lv_at hl 3 rfl) ?_
    refine lv_aload_n hx hb dJx4a65c_add_72be8_13 rfl (lv_at hl 1 rfl) ?_
    obtain ⟨q0, hq0, hca⟩ := hG.2.1.cas hci
    refine k_aast 3 hx hb hG.2.1.1 hS (hze (by omega)) (hA.ar (by omega)) rfl (Ob.recv hG.2.1.1 hV hq0) (vb_asgC hca) (vp_in_nI (by omega) (by omega)) dJx4a65c_add_72be8_14 (fun H14 locs14 hA14 hz14 hq14 hS14 => ?_)
    rw [nI_clamp (by omega : n < 2 ^ 31)] at hA14
    have hO14 : Ob D a 0 [.int mv, .ref ed, .int (nI n)] H14 := hO.kept (hq14 _ (Ne.symm hea))
    refine lv_aload_n hx hb dJx4a65c_add_72be8_15 rfl (lv_at hl 0 rfl) ?_
    refine lv_iload_n hx hb dJx4a65c_add_72be8_16 rfl (lv_at hl 3 rfl) ?_
    refine lv_iconst (v := 1) hx hb dJx4a65c_add_72be8_17 (by decide) ?_
    refine lv_iadd hx hb dJx4a65c_add_72be8_18 ?_
    rw [nI_1]
    refine k_put (C := RJx4a65c) (T := TJx4a65c) (N := 3) hx hb hts inGJx4a65c tyJx4a65c tyJx4a65c_ok nmJx4a65c hown (hG.2.1).1 hO14 hS14 hza rfl 2 (Nat.le_of_ble_eq_true rfl) (hts _ w_136) (fun _ h9 => h9) rfl (ty := .int) (v := .int (nI (n + 1))) (by decide +kernel) rfl rfl (Nat.le_of_ble_eq_true rfl) dJx4a65c_add_72be8_19 (fun H19 locs19 hO19 hz19 hq19 hS19 => ?_)
    have hO19 : Ob D a 0 [.int mv, .ref ed, .int (nI (n + 1))] H19 := hO19
    refine W.widen (k := 1) (n := 1000) (Nat.le_of_ble_eq_true rfl) (Nat.le_of_ble_eq_true rfl) ?_
    exact W.vret hx hb hr (fun t ht hW => ⟨rfl, by rw [ht]; exact ⟨ed, cap, hO19, hA14.kept (hq19 _ hea), Or.inl ⟨rfl, rfl, by omega⟩, by omega, fun q h1 h2 h3 => (hq19 q h2).trans (hq14 q (by omega))⟩, hS19.F ht⟩) (fun z h => hS19.2.2 z h) dJx4a65c_add_72be8_22
  · -- not taken
    have nc_3 : n = cap := (nI_eq (a := n) (b := cap) (by omega) (by omega)).mp c_3
    refine lv_aload_n hx hb dJx4a65c_add_72be8_6 rfl (lv_at hl 0 rfl) ?_
    have hfull : n = cap := nc_3
    subst hfull
    refine c_s1 (va_runV (As := []) (rest := []) ⟨hx, hb, hml, hown, hts⟩ (c_grow1 l D ct Z dc s.heap a mv n ed ci f hn6 h10 hdc hze hza hea hci hel hf0) (cwV 0 hts (GG w_508 w_510 w_12 w_64 w_511) rfl rfl rfl (by decide) ⟨Nat.le_of_ble_eq_true rfl, Nat.le_of_ble_eq_true rfl⟩) ⟨(blindF fun _ _ _ _ h => h), Ob.recv (hG.2.1).1 hO rfl, fun U hU hW => ⟨rfl, hG.up hW hS hU, ⟨hU, by rw [hU]; exact ⟨hO, hA⟩⟩⟩⟩ rfl rfl hl.1 rfl (lv_room (Nat.le_of_ble_eq_true rfl)) dJx4a65c_add_72be8_7 ⟨Nat.le_of_ble_eq_true rfl, Nat.le_of_ble_eq_true rfl⟩) hS (fun x H7 locs7 hR7 hz7 hS7 => ?_)
    obtain ⟨rfl, hO7, hA7, hz7, hq7⟩ := hR7
    have hv7 : Ob D v ci vs H7 := hV.kept (hq7 _ hV.lt hva)
    have hgb := gcap_b h10 hn6
    have hzn : ¬ Z s.heap.size := fun z => absurd (hG.1 _ z) (Nat.lt_irrefl _)
    refine lv_astore_n (lv' := [(2, .ref s.heap.size), (0, .ref a), (1, .ref v), (3, .int (nI n))]) hx hb dJx4a65c_add_72be8_10 rfl hl (by decide) rfl (fun ls hl => ?_)
    refine lv_aload_n hx hb dJx4a65c_add_72be8_11 rfl (lv_at hl 0 rfl) ?_
    refine lv_iload_n hx hb dJx4a65c_add_72be8_12 rfl (lv_at hl 3 rfl) ?_
    refine lv_aload_n hx hb dJx4a65c_add_72be8_13 rfl (lv_at hl 2 rfl) ?_
    obtain ⟨q0, hq0, hca⟩ := hG.2.1.cas hci
    refine k_aast 3 hx hb hG.2.1.1 hS7 hzn hA7 rfl (Ob.recv hG.2.1.1 hv7 hq0) (vb_asgC hca) (vp_in_nI (by omega) (by omega)) dJx4a65c_add_72be8_14 (fun H14 locs14 hA14 hz14 hq14 hS14 => ?_)
    rw [nI_clamp (by omega : n < 2 ^ 31)] at hA14
    have hO14 : Ob D a 0 [.int mv, .ref s.heap.size, .int (nI n)] H14 := hO7.kept (hq14 _ (Nat.ne_of_lt hO.lt))
    refine lv_aload_n hx hb dJx4a65c_add_72be8_15 rfl (lv_at hl 1 rfl) ?_
    refine lv_iload_n hx hb dJx4a65c_add_72be8_16 rfl (lv_at hl 3 rfl) ?_
    refine lv_iconst (v := 1) hx hb dJx4a65c_add_72be8_17 (by decide) ?_
    refine lv_iadd hx hb dJx4a65c_add_72be8_18 ?_
    rw [nI_1]
    refine k_put (C := RJx4a65c) (T := TJx4a65c) (N := 3) hx hb hts inGJx4a65c tyJx4a65c tyJx4a65c_ok nmJx4a65c hown (hG.2.1).1 hO14 hS14 hza rfl 2 (Nat.le_of_ble_eq_true rfl) (hts _ w_136) (fun _ h9 => h9) rfl (ty := .int) (v := .int (nI (n + 1))) (by decide +kernel) rfl rfl (Nat.le_of_ble_eq_true rfl) dJx4a65c_add_72be8_19 (fun H19 locs19 hO19 hz19 hq19 hS19 => ?_)
    have hO19 : Ob D a 0 [.int mv, .ref s.heap.size, .int (nI (n + 1))] H19 := hO19
    refine W.widen (k := 1) (n := 1000) (Nat.le_of_ble_eq_true rfl) (Nat.le_of_ble_eq_true rfl) ?_
    exact W.vret hx hb hr (fun t ht hW => ⟨rfl, by rw [ht]; exact ⟨s.heap.size, gcap n, hO19, hA14.kept (hq19 _ (Nat.ne_of_gt hO.lt)), Or.inr ⟨rfl, rfl, rfl⟩, by omega, fun q h1 h2 _ => ((hq19 q h2).trans (hq14 q (Nat.ne_of_lt h1))).trans (hq7 q h1 h2)⟩, hS19.F ht⟩) (fun z h => hS19.2.2 z h) dJx4a65c_add_72be8_22

/-! ArrayList.add -/
set_option maxHeartbeats 4000000 in
set_option maxRecDepth 100000 in
theorem c_add (l : Launch) (D : va_G) (ct : Nat → ClassId) (Z : Nat → Prop) (dc : Nat) (Hh : Heap) (a : Nat) (mv : Int32) (n cap ed ci v : Nat) (vs : List Value) (f : Nat → Option Nat) (hn : n ≤ cap) (hc : cap ≤ 1000) (hn6 : n ≤ 600) (h10 : cap = 0 ∨ 10 ≤ cap) (hdc : cap = 0 → ed = dc) (hze : 0 < cap → ¬ Z ed) (hza : ¬ Z a) (hea : ed ≠ a) (hci : ci = 4 ∨ ci = 1) (hel : ∀ j y, f j = some y → ∃ vs, Ob D y ci vs Hh) (hf0 : ∀ j, n ≤ j → f j = none) (hva : v ≠ a) (hya : ∀ j y, f j = some y → y ≠ a) : Met l yJx4a65c_add_9ea2d (.code yJx4a65c_add_9ea2d cJx4a65c_add_9ea2d 2 (some .boolean) :: GW) ({ frames := 6, cells := 1, slots := 1000, locals := 150 } : Room) (va_Pc [.ref a, .ref v] (fun U => GF D ct Z dc U U.heap ∧ U.heap = Hh ∧ Ob D a 0 [.int mv, .ref ed, .int (nI n)] U.heap ∧ Aq (ct 3) ed cap f U.heap ∧ Ob D v ci vs U.heap)) (qS1 Z (fun x h => x = .int 1 ∧ addRel D ct Hh a (mv + 1) n f v cap ed h)) 1 1000 (nZ Z) := by
  refine m_in (cc := cJx4a65c_add_9ea2d) [.ref a, .ref v] "java/util/ArrayList" rfl (by decide) (Nat.le_of_ble_eq_true rfl) ?_
  intro pg e s m args below meth cd ls hx hb hml hown hts hr hlocks hin hPr hl
  obtain ⟨hG, hH, hO, hA, hV⟩ := hPr
  subst hH
  have hl : lv_has ls 2 [(0, .ref a), (1, .ref v)] := hl
  have hS : va_S (nZ Z) s.heap s.heap [] := va_S.rf
  refine lv_aload_n hx hb dJx4a65c_add_9ea2d_0 rfl (lv_at hl 0 rfl) ?_
  refine lv_dup hx hb dJx4a65c_add_9ea2d_1 rfl ?_
  refine k_get (C := RJx4a65c) (T := TJx4a65c) (N := 3) hx hb hts inGJx4a65c hown (hG.2.1).1 hO rfl 0 (by decide) (hts _ w_138) (u_same (hts _ w_139)) (v := .int mv) rfl dJx4a65c_add_9ea2d_2 ?_
  refine lv_iconst (v := 1) hx hb dJx4a65c_add_9ea2d_5 (by decide) ?_
  refine lv_iadd hx hb dJx4a65c_add_9ea2d_6 ?_
  refine k_put (C := RJx4a65c) (T := TJx4a65c) (N := 3) hx hb hts inGJx4a65c tyJx4a65c tyJx4a65c_ok nmJx4a65c hown (hG.2.1).1 hO hS hza rfl 0 (Nat.le_of_ble_eq_true rfl) (hts _ w_138) (u_same (hts _ w_139)) rfl (ty := .int) (v := .int (mv + 1)) (by decide +kernel) rfl rfl (Nat.le_of_ble_eq_true rfl) dJx4a65c_add_9ea2d_7 (fun H7 locs7 hO7 hz7 hq7 hS7 => ?_)
  have hO7 : Ob D a 0 [.int (mv + 1), .ref ed, .int (nI n)] H7 := hO7
  refine lv_aload_n hx hb dJx4a65c_add_9ea2d_10 rfl (lv_at hl 0 rfl) ?_
  refine lv_aload_n hx hb dJx4a65c_add_9ea2d_11 rfl (lv_at hl 1 rfl) ?_
  refine lv_aload_n hx hb dJx4a65c_add_9ea2d_12 rfl (lv_at hl 0 rfl) ?_
  refine k_get (C := RJx4a65c) (T := TJx4a65c) (N := 3) hx hb hts inGJx4a65c hown (hG.2.1).1 hO7 rfl 1 (by decide) (hts _ w_135) (fun _ h9 => h9) (v := .ref ed) rfl dJx4a65c_add_9ea2d_13 ?_
  refine lv_aload_n hx hb dJx4a65c_add_9ea2d_16 rfl (lv_at hl 0 rfl) ?_
  refine k_get (C := RJx4a65c) (T := TJx4a65c) (N := 3) hx hb hts inGJx4a65c hown (hG.2.1).1 hO7 rfl 2 (by decide) (hts _ w_136) (fun _ h9 => h9) (v := .int (nI n)) rfl dJx4a65c_add_9ea2d_17 ?_
  have hA7 : Aq (ct 3) ed cap f H7 := hA.kept (hq7 _ hea)
  have hV7 : Ob D v ci vs H7 := hV.kept (hq7 _ hva)
  have hel7 : ∀ j y, f j = some y → ∃ vs, Ob D y ci vs H7 := fun j y hy => (hel j y hy).imp fun vs h => h.kept (hq7 _ (hya j y hy))
  refine c_s0 (va_runV (As := [.ref v, .ref ed, .int (nI n)]) (rest := []) ⟨hx, hb, hml, hown, hts⟩ (c_add3 l D ct Z dc H7 a (mv + 1) n cap ed ci v vs f hn hc hn6 h10 hdc hze hza hea hci hel7 hf0 hva) (cwV 3 hts (GG w_504 w_506 w_11 w_64 w_507) rfl rfl rfl (by decide) ⟨Nat.le_of_ble_eq_true rfl, Nat.le_of_ble_eq_true rfl⟩) ⟨(blindF fun _ _ _ _ h => h), Ob.recv (hG.2.1).1 hO7 rfl, fun U hU hW => ⟨rfl, hG.up hW hS7 hU, ⟨hU, by rw [hU]; exact ⟨hO7, hA7, hV7⟩⟩⟩⟩ rfl rfl hl.1 rfl (lv_room (Nat.le_of_ble_eq_true rfl)) dJx4a65c_add_9ea2d_20 ⟨Nat.le_of_ble_eq_true rfl, Nat.le_of_ble_eq_true rfl⟩) hS7 (fun H20 locs20 hR20 hz20 hS20 => ?_)
  refine lv_iconst (v := 1) hx hb dJx4a65c_add_9ea2d_23 (by decide) ?_
  refine W.widen (k := 1) (n := 1000) (Nat.le_of_ble_eq_true rfl) (Nat.le_of_ble_eq_true rfl) ?_
  exact W.zret (v := 1) hx hb hr rfl (fun t ht hW => ⟨_, rfl, by rw [ht]; exact ⟨rfl, (by obtain ⟨e1, c1, r1, r2, r3, r4, r5⟩ := hR20; exact ⟨e1, c1, r1, r2, by rw [← hz7]; exact r3, by rw [← hz7]; exact r4, fun q h1 h2 h3 => (r5 q (by rw [hz7]; exact h1) h2 h3).trans (hq7 q h2)⟩)⟩, hS20.F ht⟩) (fun z h => hS20.2.2 z h) dJx4a65c_add_9ea2d_24
