/-! Preconditions.checkIndex -/
set_option maxHeartbeats 4000000 in
set_option maxRecDepth 100000 in
theorem c_J3_checkIndex_8e157 (l : Launch) (D : va_G) (ct : Nat → ClassId) (p q : Int32) (h1 : 0 ≤ p) (h2 : p < q) : Met l yJ3_checkIndex_8e157 (.code yJ3_checkIndex_8e157 cJ3_checkIndex_8e157 3 (some .int) :: GW) ({ frames := 0, cells := 0, slots := 0, locals := 0 } : Room) (va_Pc [.int p, .int q, .null] (fun U => GT D ct U ∧ True)) (qP (some (.int p))) 0 0 nF := by
  refine m_in (cc := cJ3_checkIndex_8e157) [.int p, .int q, .null] "jdk/internal/util/Preconditions" rfl (by decide) (Nat.le_of_ble_eq_true rfl) ?_
  intro pg e s m args below meth cd ls hx hb hml hown hts hr hlocks hin hPr hl
  obtain ⟨hT, _⟩ := hPr
  have hl : lv_has ls 3 [(0, .int p), (1, .int q), (2, .null)] := hl
  refine lv_iload_n hx hb dJ3_checkIndex_8e157_0 rfl (lv_at hl 0 rfl) ?_
  refine lv_if_lt (tgt := 9) hx hb dJ3_checkIndex_8e157_1 (by decide) (fun c_1 => ?_) (fun c_1 => ?_)
  · -- taken
    exact absurd c_1 (Int32.not_lt.mpr h1)
  · -- not taken
    refine lv_iload_n hx hb dJ3_checkIndex_8e157_4 rfl (lv_at hl 0 rfl) ?_
    refine lv_iload_n hx hb dJ3_checkIndex_8e157_5 rfl (lv_at hl 1 rfl) ?_
    refine lv_icmp_lt (tgt := 16) hx hb dJ3_checkIndex_8e157_6 (by decide) (fun c_6 => ?_) (fun c_6 => ?_)
    · -- taken
      refine lv_iload_n hx hb dJ3_checkIndex_8e157_16 rfl (lv_at hl 0 rfl) ?_
      exact W.iret (v := p) hx hb hr (fun t ht hW => ⟨rvi rfl, ht⟩) (fun q h => nomatch h) dJ3_checkIndex_8e157_17
    · -- not taken
      exact absurd h2 c_6

/-! Objects.checkIndex -/
set_option maxHeartbeats 4000000 in
set_option maxRecDepth 100000 in
theorem c_J15_checkIndex_7cf53 (l : Launch) (D : va_G) (ct : Nat → ClassId) (p q : Int32) (h1 : 0 ≤ p) (h2 : p < q) : Met l yJ15_checkIndex_7cf53 (.code yJ15_checkIndex_7cf53 cJ15_checkIndex_7cf53 2 (some .int) :: GW) ({ frames := 1, cells := 0, slots := 0, locals := 22 } : Room) (va_Pc [.int p, .int q] (fun U => GT D ct U ∧ True)) (qP (some (.int p))) 0 0 nF := by
  refine m_in (cc := cJ15_checkIndex_7cf53) [.int p, .int q] "java/util/Objects" rfl (by decide) (Nat.le_of_ble_eq_true rfl) ?_
  intro pg e s m args below meth cd ls hx hb hml hown hts hr hlocks hin hPr hl
  obtain ⟨hT, _⟩ := hPr
  have hl : lv_has ls 2 [(0, .int p), (1, .int q)] := hl
  refine lv_iload_n hx hb dJ15_checkIndex_7cf53_0 rfl (lv_at hl 0 rfl) ?_
  refine lv_iload_n hx hb dJ15_checkIndex_7cf53_1 rfl (lv_at hl 1 rfl) ?_
  refine lv_null hx hb dJ15_checkIndex_7cf53_2 ?_
  refine c_p1 (va_runS (As := [.int p, .int q, .null]) (rest := []) ⟨hx, hb, hml, hown, hts⟩ (c_J3_checkIndex_8e157 l D ct p q h1 h2) (k_cwS 3 hts w_196 w_197 w_79 w_198 rfl rfl (by decide) ⟨Nat.le_of_ble_eq_true rfl, Nat.le_of_ble_eq_true rfl⟩) ⟨(blindT fun _ _ _ _ h => h), fun U hU hW => ⟨rfl, hT.warm hW, trivial⟩⟩ rfl rfl hl.1 rfl (lv_room (Nat.le_of_ble_eq_true rfl)) dJ15_checkIndex_7cf53_3 ⟨Nat.le_of_ble_eq_true rfl, Nat.le_of_ble_eq_true rfl⟩) ?_
  exact W.iret (v := p) hx hb hr (fun t ht hW => ⟨rvi rfl, ht⟩) (fun q h => nomatch h) dJ15_checkIndex_7cf53_6

/-! ArrayList.elementData -/
set_option maxHeartbeats 4000000 in
set_option maxRecDepth 100000 in
theorem c_Jx4a65c_elementData_915e3 (l : Launch) (D : va_G) (ct : Nat → ClassId) (a : Nat) (a0 : Int32) (a1 : Nat) (a2 p : Int32) (n i cap : Nat) (f : Nat → Option Nat) (y : Nat) (ha : a2 = nI n) (hp : p = nI i) (hi : i < n) (hn : n ≤ cap) (hc : cap < 2 ^ 31) (hf : f i = some y) : Met l yJx4a65c_elementData_915e3 (.code yJx4a65c_elementData_915e3 cJx4a65c_elementData_915e3 2 (some (.object "java/lang/Object")) :: GW) ({ frames := 0, cells := 0, slots := 0, locals := 0 } : Room) (va_Pc [.ref a, .int p] (fun U => GT D ct U ∧ Ob D a 0 [.int a0, .ref a1, .int a2] U.heap ∧ Ar (ct 3) a1 (rQ cap f) U.heap)) (qP (some (.ref y))) 0 0 nF := by
  refine m_in (cc := cJx4a65c_elementData_915e3) [.ref a, .int p] "java/util/ArrayList" rfl (by decide) (Nat.le_of_ble_eq_true rfl) ?_
  intro pg e s m args below meth cd ls hx hb hml hown hts hr hlocks hin hPr hl
  obtain ⟨hT, hOa, hF0⟩ := hPr
  have hl : lv_has ls 2 [(0, .ref a), (1, .int p)] := hl
  refine lv_aload_n hx hb dJx4a65c_elementData_915e3_0 rfl (lv_at hl 0 rfl) ?_
  refine k_get (C := RJx4a65c) (T := TJx4a65c) (N := 3) hx hb hts inGJx4a65c hown (hT).1 hOa rfl 1 (by decide) (hts _ w_135) (fun _ h9 => h9) (v := .ref a1) rfl dJx4a65c_elementData_915e3_1 ?_
  refine lv_iload_n hx hb dJx4a65c_elementData_915e3_4 rfl (lv_at hl 1 rfl) ?_
  refine k_aald3 hx hb (hT).1 hF0 (by rw [hp]; exact vp_in_nI (by omega) (by omega)) dJx4a65c_elementData_915e3_5 ?_
  rw [show (p : Int32).toNatClampNeg = i from (by rw [hp]; exact nI_clamp (by omega))]
  rw [show va_rf (f i) = .ref y from by rw [hf]; rfl]
  exact W.aret (v := .ref y) hx hb hr (Or.inl ⟨_, rfl⟩) (Or.inr ⟨_, rfl⟩) (fun t ht hW => ⟨rfl, ht⟩) (fun q h => nomatch h) dJx4a65c_elementData_915e3_6

/-! ArrayList.get -/
set_option maxHeartbeats 4000000 in
set_option maxRecDepth 100000 in
theorem c_Jx4a65c_get_915e3 (l : Launch) (D : va_G) (ct : Nat → ClassId) (a : Nat) (a0 : Int32) (a1 : Nat) (a2 p : Int32) (n i cap : Nat) (f : Nat → Option Nat) (y : Nat) (ha : a2 = nI n) (hp : p = nI i) (hi : i < n) (hn : n ≤ cap) (hc : cap < 2 ^ 31) (hf : f i = some y) : Met l yJx4a65c_get_915e3 (.code yJx4a65c_get_915e3 cJx4a65c_get_915e3 2 (some (.object "java/lang/Object")) :: GW) ({ frames := 2, cells := 0, slots := 0, locals := 43 } : Room) (va_Pc [.ref a, .int p] (fun U => GT D ct U ∧ Ob D a 0 [.int a0, .ref a1, .int a2] U.heap ∧ Ar (ct 3) a1 (rQ cap f) U.heap)) (qP (some (.ref y))) 0 0 nF := by
  refine m_in (cc := cJx4a65c_get_915e3) [.ref a, .int p] "java/util/ArrayList" rfl (by decide) (Nat.le_of_ble_eq_true rfl) ?_
  intro pg e s m args below meth cd ls hx hb hml hown hts hr hlocks hin hPr hl
  obtain ⟨hT, hOa, hF0⟩ := hPr
  have hl : lv_has ls 2 [(0, .ref a), (1, .int p)] := hl
  refine lv_iload_n hx hb dJx4a65c_get_915e3_0 rfl (lv_at hl 1 rfl) ?_
  refine lv_aload_n hx hb dJx4a65c_get_915e3_1 rfl (lv_at hl 0 rfl) ?_
  refine k_get (C := RJx4a65c) (T := TJx4a65c) (N := 3) hx hb hts inGJx4a65c hown (hT).1 hOa rfl 2 (by decide) (hts _ w_136) (fun _ h9 => h9) (v := .int a2) rfl dJx4a65c_get_915e3_2 ?_
  refine c_p1 (va_runS (As := [.int p, .int a2]) (rest := []) ⟨hx, hb, hml, hown, hts⟩ (c_J15_checkIndex_7cf53 l D ct p a2 (by rw [hp]; exact nI_pos' (by omega)) (by rw [hp, ha]; exact nI_lt hi (by omega))) (k_cwS 2 hts w_193 w_194 w_78 w_195 rfl rfl (by decide) ⟨Nat.le_of_ble_eq_true rfl, Nat.le_of_ble_eq_true rfl⟩) ⟨(blindT fun _ _ _ _ h => h), fun U hU hW => ⟨rfl, hT.warm hW, trivial⟩⟩ rfl rfl hl.1 rfl (lv_room (Nat.le_of_ble_eq_true rfl)) dJx4a65c_get_915e3_5 ⟨Nat.le_of_ble_eq_true rfl, Nat.le_of_ble_eq_true rfl⟩) ?_
  refine lv_pop hx hb dJx4a65c_get_915e3_8 rfl ?_
  refine lv_aload_n hx hb dJx4a65c_get_915e3_9 rfl (lv_at hl 0 rfl) ?_
  refine lv_iload_n hx hb dJx4a65c_get_915e3_10 rfl (lv_at hl 1 rfl) ?_
  refine c_p1 (va_runV (As := [.int p]) (rest := []) ⟨hx, hb, hml, hown, hts⟩ (c_Jx4a65c_elementData_915e3 l D ct a a0 a1 a2 p n i cap f y ha hp hi hn hc hf) (cwV 1 hts (GG w_199 w_200 w_201 w_64 w_202) rfl rfl rfl (by decide) ⟨Nat.le_of_ble_eq_true rfl, Nat.le_of_ble_eq_true rfl⟩) ⟨(blindT fun _ _ _ _ h => h), Ob.recv (hT).1 hOa rfl, fun U hU hW => ⟨rfl, hT.warm hW, by rw [hU]; exact ⟨hOa, hF0⟩⟩⟩ rfl rfl hl.1 rfl (lv_room (Nat.le_of_ble_eq_true rfl)) dJx4a65c_get_915e3_11 ⟨Nat.le_of_ble_eq_true rfl, Nat.le_of_ble_eq_true rfl⟩) ?_
  exact W.aret (v := .ref y) hx hb hr (Or.inl ⟨_, rfl⟩) (Or.inr ⟨_, rfl⟩) (fun t ht hW => ⟨rfl, ht⟩) (fun q h => nomatch h) dJx4a65c_get_915e3_14
