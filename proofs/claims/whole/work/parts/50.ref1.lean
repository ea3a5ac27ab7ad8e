theorem ix_mul {x y : Int32} {a b : Nat} (h1 : x = nI a) (h2 : y = nI b) : x * y = nI (a * b) := by rw [h1, h2, pk_mul]
theorem ix_add {x y : Int32} {a b : Nat} (h1 : x = nI a) (h2 : y = nI b) : x + y = nI (a + b) := by rw [h1, h2, nI_add]
theorem ix_sub {x y : Int32} {a b : Nat} (h1 : x = nI a) (h2 : y = nI b) (h : b ≤ a) : x - y = nI (a - b) := by
  rw [h1, h2]
  obtain ⟨c, rfl⟩ : ∃ c, a = b + c := ⟨a - b, by omega⟩
  rw [show b + c - b = c by omega, ← nI_add, Int32.add_comm, Int32.add_sub_cancel]
theorem nI_m1 {n : Nat} (h : n < 2 ^ 31) : ¬ nI n = -1 := fun z => by
  have q := congrArg Int32.toInt z
  rw [nI_toInt h] at q
  have : (-1 : Int32).toInt = -1 := by decide
  omega
theorem wi_tOK {t x : Int32} {n : Nat} (hx : x = nI n) (hn : n < 2 ^ 31) : wi 0 t (x - 1) = decide (0 ≤ t ∧ t < x) := by
  unfold wi
  refine decide_eq_decide.mpr ⟨fun z => ⟨z.1, ?_⟩, fun z => ⟨z.1, ?_⟩⟩
  · obtain ⟨a, b⟩ := z
    obtain ⟨k, hk, rfl⟩ := nI_of (x := t) (Int32.not_lt.mpr a)
    subst hx
    rcases Nat.eq_zero_or_pos n with q | q
    · subst q
      have h1 := Int32.le_iff_toInt_le.mp b
      rw [nI_toInt hk] at h1
      have : (nI 0 - 1 : Int32).toInt = -1 := by decide
      omega
    · obtain ⟨n', rfl⟩ : ∃ n', n = n' + 1 := ⟨n - 1, by omega⟩
      rw [nI_pred] at b
      have := (nI_leI hk (by omega)).mp b
      exact nI_lt (by omega) hn
  · obtain ⟨a, b⟩ := z
    obtain ⟨k, hk, rfl⟩ := nI_of (x := t) (Int32.not_lt.mpr a)
    subst hx
    have h1 := (nI_ltI hk hn).mp b
    obtain ⟨n', rfl⟩ : ∃ n', n = n' + 1 := ⟨n - 1, by omega⟩
    rw [nI_pred]
    exact nI_le (by omega) (by omega)
theorem RP.keptN {D : va_G} {ct : Nat → ClassId} {Z : Nat → Prop} {σ : Stt} {th : Int32} {bst : Nat → Int64} {rf : Nat → Nat} {H H1 : Heap} (h : RP D ct Z σ th bst rf H) (hq : ∀ i, i < 5 → H1[rf i]? = H[rf i]?) : RP D ct Z σ th bst rf H1 :=
  ⟨fun i hi => ⟨va_at.kept (h.1 i hi).1 (hq i hi), (h.1 i hi).2⟩, h.2⟩

/-! isIn -/
set_option maxHeartbeats 4000000 in
set_option maxRecDepth 100000 in
theorem c_X6_isIn (l : Launch) (D : va_G) (ct : Nat → ClassId) (v lo hi : Int32) : Met l yX6_isIn (.code yX6_isIn cX6_isIn 3 (some .boolean) :: GW) ({ frames := 0, cells := 0, slots := 0, locals := 0 } : Room) (va_Pc [.int v, .int lo, .int hi] (fun U => GT D ct U ∧ True)) (qP (some (.int (b2 (wi lo v hi = true))))) 0 0 nF := by
  refine m_in (cc := cX6_isIn) [.int v, .int lo, .int hi] "RumourCustomsModel" rfl (by decide) (Nat.le_of_ble_eq_true rfl) ?_
  intro pg e s m args below meth cd ls hx hb hml hown hts hr hlocks hin hPr hl
  obtain ⟨hT, _⟩ := hPr
  have hl : lv_has ls 3 [(0, .int v), (1, .int lo), (2, .int hi)] := hl
  refine lv_iload_n hx hb dX6_isIn_0 rfl (lv_at hl 0 rfl) ?_
  refine lv_iload_n hx hb dX6_isIn_1 rfl (lv_at hl 1 rfl) ?_
  refine lv_icmp_lt (tgt := 14) hx hb dX6_isIn_2 (by decide) (fun c_2 => ?_) (fun c_2 => ?_)
  · -- taken
    refine lv_iconst (v := 0) hx hb dX6_isIn_14 (by decide) ?_
    exact W.zret (v := 0) hx hb hr rfl (fun t ht hW => ⟨rvi ((b2_f (fun z => by have y := of_decide_eq_true z; first | exact absurd y.1 (Int32.not_le.mpr c_2) | exact absurd y.2 (Int32.not_le.mpr c_7))).symm), ht⟩) (fun q h => nomatch h) dX6_isIn_15
  · -- not taken
    refine lv_iload_n hx hb dX6_isIn_5 rfl (lv_at hl 0 rfl) ?_
    refine lv_iload_n hx hb dX6_isIn_6 rfl (lv_at hl 2 rfl) ?_
    refine lv_icmp_gt (tgt := 14) hx hb dX6_isIn_7 (by decide) (fun c_7 => ?_) (fun c_7 => ?_)
    · -- taken
      refine lv_iconst (v := 0) hx hb dX6_isIn_14 (by decide) ?_
      exact W.zret (v := 0) hx hb hr rfl (fun t ht hW => ⟨rvi ((b2_f (fun z => by have y := of_decide_eq_true z; first | exact absurd y.1 (Int32.not_le.mpr c_2) | exact absurd y.2 (Int32.not_le.mpr c_7))).symm), ht⟩) (fun q h => nomatch h) dX6_isIn_15
    · -- not taken
      refine lv_iconst (v := 1) hx hb dX6_isIn_10 (by decide) ?_
      refine lv_goto (tgt := 15) hx hb dX6_isIn_11 (by decide) ?_
      exact W.zret (v := 1) hx hb hr rfl (fun t ht hW => ⟨rvi ((b2_t (decide_eq_true ⟨i32_nlt c_2, i32_nlt c_7⟩)).symm), ht⟩) (fun q h => nomatch h) dX6_isIn_15

theorem base_i {p q : Int32} {a b : Nat} (hp : p = nI a) (hq : q = nI b) (ha : a < 10) (hb : b < 10) : (7 : Int32) * (10 * (if q < p then q else p) + (if p < q then q else p)) = nI (7 * rk a b) := by
  subst hp
  subst hq
  have e1 : (if nI b < nI a then nI b else nI a) = nI (min a b) := by
    by_cases h : b < a
    · rw [if_pos (nI_lt h (by omega)), Nat.min_eq_right (by omega)]
    · rw [if_neg (nI_nlt (by omega) (by omega)), Nat.min_eq_left (by omega)]
  have e2 : (if nI a < nI b then nI b else nI a) = nI (max a b) := by
    by_cases h : a < b
    · rw [if_pos (nI_lt h (by omega)), Nat.max_eq_right (by omega)]
    · rw [if_neg (nI_nlt (by omega) (by omega)), Nat.max_eq_left (by omega)]
  rw [e1, e2]
  exact ix_mul rfl (ix_add (ix_mul rfl rfl) rfl)

/-! base -/
set_option maxHeartbeats 4000000 in
set_option maxRecDepth 100000 in
theorem c_X6_base (l : Launch) (D : va_G) (ct : Nat → ClassId) (p q : Int32) (a b : Nat) (hp : p = nI a) (hq : q = nI b) (ha : a < 10) (hb10 : b < 10) : Met l yX6_base (.code yX6_base cX6_base 2 (some .int) :: GW) ({ frames := 1, cells := 0, slots := 0, locals := 21 } : Room) (va_Pc [.int p, .int q] (fun U => GT D ct U ∧ True)) (qP (some (.int (nI (7 * rk a b))))) 0 0 nF := by
  refine m_in (cc := cX6_base) [.int p, .int q] "RumourCustomsModel" rfl (by decide) (Nat.le_of_ble_eq_true rfl) ?_
  intro pg e s m args below meth cd ls hx hb hml hown hts hr hlocks hin hPr hl
  obtain ⟨hT, _⟩ := hPr
  have hl : lv_has ls 2 [(0, .int p), (1, .int q)] := hl
  refine lv_bipush (v := 7) hx hb dX6_base_0 (by decide) ?_
  refine lv_bipush (v := 10) hx hb dX6_base_2 (by decide) ?_
  refine lv_iload_n hx hb dX6_base_4 rfl (lv_at hl 0 rfl) ?_
  refine lv_iload_n hx hb dX6_base_5 rfl (lv_at hl 1 rfl) ?_
  refine va_mmin hx hb (hml.trans hl.1.symm) hown (hts _ w_942) (hts _ w_551) (hts _ w_73) (hts _ w_552) (Nat.le_of_ble_eq_true rfl) (Nat.le_of_ble_eq_true rfl) (Nat.le_of_ble_eq_true rfl) (Nat.le_of_ble_eq_true rfl) dX6_base_6 ?_
  refine lv_imul hx hb dX6_base_9 ?_
  refine lv_iload_n hx hb dX6_base_10 rfl (lv_at hl 0 rfl) ?_
  refine lv_iload_n hx hb dX6_base_11 rfl (lv_at hl 1 rfl) ?_
  refine va_mmax hx hb (hml.trans hl.1.symm) hown (hts _ w_943) (hts _ w_520) (hts _ w_73) (hts _ w_521) (Nat.le_of_ble_eq_true rfl) (Nat.le_of_ble_eq_true rfl) (Nat.le_of_ble_eq_true rfl) (Nat.le_of_ble_eq_true rfl) dX6_base_12 ?_
  refine lv_iadd hx hb dX6_base_15 ?_
  refine lv_imul hx hb dX6_base_16 ?_
  exact W.iret (v := 7 * ((10 * (if q < p then q else p)) + (if p < q then q else p))) hx hb hr (fun t ht hW => ⟨rvi (base_i hp hq ha hb10), ht⟩) (fun q h => nomatch h) dX6_base_17

/-! get -/
set_option maxHeartbeats 4000000 in
set_option maxRecDepth 100000 in
theorem c_X6_get (l : Launch) (D : va_G) (ct : Nat → ClassId) (Z : Nat → Prop) (σ : Stt) (th : Int32) (bst : Nat → Int64) (rf : Nat → Nat) (r : Nat) (w : Int32) (k : Nat) (hrn : r < 60) (hw : w = nI k) (hk : k < 7) : Met l yX6_get (.code yX6_get cX6_get 3 (some .int) :: GW) ({ frames := 0, cells := 0, slots := 0, locals := 0 } : Room) (va_Pc [.ref (rf 0), .int (nI r), .int w] (fun U => GT D ct U ∧ RP D ct Z σ th bst rf U.heap)) (qP (some (.int (σ 1 (7 * r + k))))) 0 0 nF := by
  refine m_in (cc := cX6_get) [.ref (rf 0), .int (nI r), .int w] "RumourCustomsModel" rfl (by decide) (Nat.le_of_ble_eq_true rfl) ?_
  intro pg e s m args below meth cd ls hx hb hml hown hts hr hlocks hin hPr hl
  obtain ⟨hT, hP⟩ := hPr
  have hl : lv_has ls 3 [(0, .ref (rf 0)), (1, .int (nI r)), (2, .int w)] := hl
  refine lv_aload_n hx hb dX6_get_0 rfl (lv_at hl 0 rfl) ?_
  refine k_get (C := RX6) (T := TX6) (N := 14) hx hb hts inGX6 hown (hT).1 hP.o rfl 11 (by decide) (hts _ w_883) (fun _ h9 => h9) (v := .ref (rf 2)) rfl dX6_get_1 ?_
  refine lv_bipush (v := 7) hx hb dX6_get_4 (by decide) ?_
  refine lv_iload_n hx hb dX6_get_6 rfl (lv_at hl 1 rfl) ?_
  refine lv_imul hx hb dX6_get_7 ?_
  refine lv_iload_n hx hb dX6_get_8 rfl (lv_at hl 2 rfl) ?_
  rw [hw]
  refine lv_iadd hx hb dX6_get_9 ?_
  refine k_iald hx hb (hT).1 hP.a2 (by rw [(ix_add (ix_mul (rfl : (7 : Int32) = nI 7) (rfl : nI r = nI r)) (rfl : nI k = nI k))]; exact vp_in_nI (by omega : 7 * r + k < 420) (by decide)) dX6_get_10 ?_
  rw [show ((7 * (nI r)) + (nI k) : Int32).toNatClampNeg = 7 * r + k from (congrArg Int32.toNatClampNeg (ix_add (ix_mul (rfl : (7 : Int32) = nI 7) (rfl : nI r = nI r)) (rfl : nI k = nI k))).trans (nI_clamp (by omega : 7 * r + k < 2 ^ 31))]
  exact W.iret (v := σ 1 (7 * r + k)) hx hb hr (fun t ht hW => ⟨rvi rfl, ht⟩) (fun q h => nomatch h) dX6_get_11

/-! man -/
set_option maxHeartbeats 4000000 in
set_option maxRecDepth 100000 in
theorem c_X6_man (l : Launch) (D : va_G) (ct : Nat → ClassId) (Z : Nat → Prop) (σ : Stt) (th : Int32) (bst : Nat → Int64) (rf : Nat → Nat) (r : Nat) (w : Int32) (k : Nat) (hrn : r < 8) (hw : w = nI k) (hk : k < 4) : Met l yX6_man (.code yX6_man cX6_man 3 (some .int) :: GW) ({ frames := 0, cells := 0, slots := 0, locals := 0 } : Room) (va_Pc [.ref (rf 0), .int (nI r), .int w] (fun U => GT D ct U ∧ RP D ct Z σ th bst rf U.heap)) (qP (some (.int (σ 2 (4 * r + k))))) 0 0 nF := by
  refine m_in (cc := cX6_man) [.ref (rf 0), .int (nI r), .int w] "RumourCustomsModel" rfl (by decide) (Nat.le_of_ble_eq_true rfl) ?_
  intro pg e s m args below meth cd ls hx hb hml hown hts hr hlocks hin hPr hl
  obtain ⟨hT, hP⟩ := hPr
  have hl : lv_has ls 3 [(0, .ref (rf 0)), (1, .int (nI r)), (2, .int w)] := hl
  refine lv_aload_n hx hb dX6_man_0 rfl (lv_at hl 0 rfl) ?_
  refine k_get (C := RX6) (T := TX6) (N := 14) hx hb hts inGX6 hown (hT).1 hP.o rfl 12 (by decide) (hts _ w_884) (fun _ h9 => h9) (v := .ref (rf 3)) rfl dX6_man_1 ?_
  refine lv_iconst (v := 4) hx hb dX6_man_4 (by decide) ?_
  refine lv_iload_n hx hb dX6_man_5 rfl (lv_at hl 1 rfl) ?_
  refine lv_imul hx hb dX6_man_6 ?_
  refine lv_iload_n hx hb dX6_man_7 rfl (lv_at hl 2 rfl) ?_
  rw [hw]
  refine lv_iadd hx hb dX6_man_8 ?_
  refine k_iald hx hb (hT).1 hP.a3 (by rw [(ix_add (ix_mul (rfl : (4 : Int32) = nI 4) (rfl : nI r = nI r)) (rfl : nI k = nI k))]; exact vp_in_nI (by omega : 4 * r + k < 32) (by decide)) dX6_man_9 ?_
  rw [show ((4 * (nI r)) + (nI k) : Int32).toNatClampNeg = 4 * r + k from (congrArg Int32.toNatClampNeg (ix_add (ix_mul (rfl : (4 : Int32) = nI 4) (rfl : nI r = nI r)) (rfl : nI k = nI k))).trans (nI_clamp (by omega : 4 * r + k < 2 ^ 31))]
  exact W.iret (v := σ 2 (4 * r + k)) hx hb hr (fun t ht hW => ⟨rvi rfl, ht⟩) (fun q h => nomatch h) dX6_man_10

/-! set -/
set_option maxHeartbeats 4000000 in
set_option maxRecDepth 100000 in
theorem c_X6_set (l : Launch) (D : va_G) (ct : Nat → ClassId) (Z : Nat → Prop) (σ : Stt) (th : Int32) (bst : Nat → Int64) (rf : Nat → Nat) (r : Nat) (w v : Int32) (k : Nat) (hrn : r < 60) (hw : w = nI k) (hk : k < 7) : Met l yX6_set (.code yX6_set cX6_set 4 none :: GW) ({ frames := 0, cells := 0, slots := 0, locals := 0 } : Room) (va_Pc [.ref (rf 0), .int (nI r), .int w, .int v] (fun U => GT D ct U ∧ (∀ q, Z q → q < U.heap.size) ∧ RP D ct Z σ th bst rf U.heap)) (qS0 Z (fun h => RP D ct Z (su σ 1 (7 * r + k) v) (th) bst rf h)) 0 0 (nZ Z) := by
  refine m_in (cc := cX6_set) [.ref (rf 0), .int (nI r), .int w, .int v] "RumourCustomsModel" rfl (by decide) (Nat.le_of_ble_eq_true rfl) ?_
  intro pg e s m args below meth cd ls hx hb hml hown hts hr hlocks hin hPr hl
  obtain ⟨hT, hZs, hP⟩ := hPr
  have hl : lv_has ls 4 [(0, .ref (rf 0)), (1, .int (nI r)), (2, .int w), (3, .int v)] := hl
  have hS : va_S (nZ Z) s.heap s.heap [] := va_S.rf
  refine lv_aload_n hx hb dX6_set_0 rfl (lv_at hl 0 rfl) ?_
  refine k_get (C := RX6) (T := TX6) (N := 14) hx hb hts inGX6 hown (hT).1 hP.o rfl 11 (by decide) (hts _ w_883) (fun _ h9 => h9) (v := .ref (rf 2)) rfl dX6_set_1 ?_
  refine lv_bipush (v := 7) hx hb dX6_set_4 (by decide) ?_
  refine lv_iload_n hx hb dX6_set_6 rfl (lv_at hl 1 rfl) ?_
  refine lv_imul hx hb dX6_set_7 ?_
  refine lv_iload_n hx hb dX6_set_8 rfl (lv_at hl 2 rfl) ?_
  rw [hw]
  refine lv_iadd hx hb dX6_set_9 ?_
  refine lv_iload_n hx hb dX6_set_10 rfl (lv_at hl 3 rfl) ?_
  refine k_iast hx hb (hT).1 hS (hP.nz (i := 2) (by decide)) hP.a2 (by rw [(ix_add (ix_mul (rfl : (7 : Int32) = nI 7) (rfl : nI r = nI r)) (rfl : nI k = nI k))]; exact vp_in_nI (by omega : 7 * r + k < 420) (by decide)) dX6_set_11 (fun H11 locs11 hA11 hz11 hq11 hS11 => ?_)
  rw [show ((7 * (nI r)) + (nI k) : Int32).toNatClampNeg = 7 * r + k from (congrArg Int32.toNatClampNeg (ix_add (ix_mul (rfl : (7 : Int32) = nI 7) (rfl : nI r = nI r)) (rfl : nI k = nI k))).trans (nI_clamp (by omega : 7 * r + k < 2 ^ 31))] at hA11
  have hP11 : RP D ct Z (su σ 1 (7 * r + k) v) (th) bst rf H11 := hP.s1 (7 * r + k) v hA11 hq11
  obtain ⟨τ11, hτ11⟩ : ∃ τ : Stt, τ = su σ 1 (7 * r + k) v := ⟨_, rfl⟩
  rw [← hτ11] at hP11
  exact W.vret hx hb hr (fun t ht hW => ⟨rfl, by rw [ht]; exact (by subst hτ11; exact hP11), hS11.F ht⟩) (fun z h => hS11.2.2 z h) dX6_set_12

/-! setMan -/
set_option maxHeartbeats 4000000 in
set_option maxRecDepth 100000 in
theorem c_X6_setMan (l : Launch) (D : va_G) (ct : Nat → ClassId) (Z : Nat → Prop) (σ : Stt) (th : Int32) (bst : Nat → Int64) (rf : Nat → Nat) (r : Nat) (w v : Int32) (k : Nat) (hrn : r < 8) (hw : w = nI k) (hk : k < 4) : Met l yX6_setMan (.code yX6_setMan cX6_setMan 4 none :: GW) ({ frames := 0, cells := 0, slots := 0, locals := 0 } : Room) (va_Pc [.ref (rf 0), .int (nI r), .int w, .int v] (fun U => GT D ct U ∧ (∀ q, Z q → q < U.heap.size) ∧ RP D ct Z σ th bst rf U.heap)) (qS0 Z (fun h => RP D ct Z (su σ 2 (4 * r + k) v) (th) bst rf h)) 0 0 (nZ Z) := by
  refine m_in (cc := cX6_setMan) [.ref (rf 0), .int (nI r), .int w, .int v] "RumourCustomsModel" rfl (by decide) (Nat.le_of_ble_eq_true rfl) ?_
  intro pg e s m args below meth cd ls hx hb hml hown hts hr hlocks hin hPr hl
  obtain ⟨hT, hZs, hP⟩ := hPr
  have hl : lv_has ls 4 [(0, .ref (rf 0)), (1, .int (nI r)), (2, .int w), (3, .int v)] := hl
  have hS : va_S (nZ Z) s.heap s.heap [] := va_S.rf
  refine lv_aload_n hx hb dX6_setMan_0 rfl (lv_at hl 0 rfl) ?_
  refine k_get (C := RX6) (T := TX6) (N := 14) hx hb hts inGX6 hown (hT).1 hP.o rfl 12 (by decide) (hts _ w_884) (fun _ h9 => h9) (v := .ref (rf 3)) rfl dX6_setMan_1 ?_
  refine lv_iconst (v := 4) hx hb dX6_setMan_4 (by decide) ?_
  refine lv_iload_n hx hb dX6_setMan_5 rfl (lv_at hl 1 rfl) ?_
  refine lv_imul hx hb dX6_setMan_6 ?_
  refine lv_iload_n hx hb dX6_setMan_7 rfl (lv_at hl 2 rfl) ?_
  rw [hw]
  refine lv_iadd hx hb dX6_setMan_8 ?_
  refine lv_iload_n hx hb dX6_setMan_9 rfl (lv_at hl 3 rfl) ?_
  refine k_iast hx hb (hT).1 hS (hP.nz (i := 3) (by decide)) hP.a3 (by rw [(ix_add (ix_mul (rfl : (4 : Int32) = nI 4) (rfl : nI r = nI r)) (rfl : nI k = nI k))]; exact vp_in_nI (by omega : 4 * r + k < 32) (by decide)) dX6_setMan_10 (fun H10 locs10 hA10 hz10 hq10 hS10 => ?_)
  rw [show ((4 * (nI r)) + (nI k) : Int32).toNatClampNeg = 4 * r + k from (congrArg Int32.toNatClampNeg (ix_add (ix_mul (rfl : (4 : Int32) = nI 4) (rfl : nI r = nI r)) (rfl : nI k = nI k))).trans (nI_clamp (by omega : 4 * r + k < 2 ^ 31))] at hA10
  have hP10 : RP D ct Z (su σ 2 (4 * r + k) v) (th) bst rf H10 := hP.s2 (4 * r + k) v hA10 hq10
  obtain ⟨τ10, hτ10⟩ : ∃ τ : Stt, τ = su σ 2 (4 * r + k) v := ⟨_, rfl⟩
  rw [← hτ10] at hP10
  exact W.vret hx hb hr (fun t ht hW => ⟨rfl, by rw [ht]; exact (by subst hτ10; exact hP10), hS10.F ht⟩) (fun z h => hS10.2.2 z h) dX6_setMan_11

/-! fail -/
set_option maxHeartbeats 4000000 in
set_option maxRecDepth 100000 in
theorem c_X6_fail (l : Launch) (D : va_G) (ct : Nat → ClassId) (Z : Nat → Prop) (σ : Stt) (th : Int32) (bst : Nat → Int64) (rf : Nat → Nat) (v : Int32) : Met l yX6_fail (.code yX6_fail cX6_fail 2 (some .int) :: GW) ({ frames := 0, cells := 0, slots := 0, locals := 0 } : Room) (va_Pc [.ref (rf 0), .int v] (fun U => GT D ct U ∧ (∀ q, Z q → q < U.heap.size) ∧ RP D ct Z σ th bst rf U.heap)) (qS1 Z (fun x h => x = .int 0 ∧ RP D ct Z (σ) (v) bst rf h)) 0 0 (nZ Z) := by
  refine m_in (cc := cX6_fail) [.ref (rf 0), .int v] "RumourCustomsModel" rfl (by decide) (Nat.le_of_ble_eq_true rfl) ?_
  intro pg e s m args below meth cd ls hx hb hml hown hts hr hlocks hin hPr hl
  obtain ⟨hT, hZs, hP⟩ := hPr
  have hl : lv_has ls 2 [(0, .ref (rf 0)), (1, .int v)] := hl
  have hS : va_S (nZ Z) s.heap s.heap [] := va_S.rf
  refine lv_aload_n hx hb dX6_fail_0 rfl (lv_at hl 0 rfl) ?_
  refine lv_iload_n hx hb dX6_fail_1 rfl (lv_at hl 1 rfl) ?_
  refine k_put (C := RX6) (T := TX6) (N := 14) hx hb hts inGX6 tyX6 tyX6_ok nmX6 hown (hT).1 hP.o hS (hP.nz (by decide)) rfl 0 (Nat.le_of_ble_eq_true rfl) (hts _ w_872) (fun _ h9 => h9) rfl (ty := .int) (v := .int v) (by decide +kernel) rfl rfl (Nat.le_of_ble_eq_true rfl) dX6_fail_2 (fun H2 locs2 hO2 hz2 hq2 hS2 => ?_)
  have hO2 : Ob D (rf 0) 7 [.int v, .int (σ 0 0), .int (σ 0 1), .int (σ 0 2), .int (σ 0 3), .int (σ 0 4), .int (σ 0 5), .int (σ 0 6), .int (σ 0 7), .int (σ 0 8), .ref (rf 1), .ref (rf 2), .ref (rf 3), .ref (rf 4)] H2 := hO2
  have hP2 : RP D ct Z (σ) (v) bst rf H2 := hP.st v hO2 hq2
  refine lv_iconst (v := 0) hx hb dX6_fail_5 (by decide) ?_
  exact W.iret (v := 0) hx hb hr (fun t ht hW => ⟨_, rfl, by rw [ht]; exact ⟨rfl, hP2⟩, hS2.F ht⟩) (fun z h => hS2.2.2 z h) dX6_fail_6

/-! X6_isTown -/
set_option maxHeartbeats 4000000 in
set_option maxRecDepth 100000 in
theorem c_X6_isTown (l : Launch) (D : va_G) (ct : Nat → ClassId) (Z : Nat → Prop) (σ : Stt) (th : Int32) (bst : Nat → Int64) (rf : Nat → Nat) (v : Int32) (h1 : σ 0 1 = nI (nT σ)) (h2 : nT σ < 2 ^ 31) : Met l yX6_isTown (.code yX6_isTown cX6_isTown 2 (some .boolean) :: GW) ({ frames := 1, cells := 0, slots := 0, locals := 22 } : Room) (va_Pc [.ref (rf 0), .int v] (fun U => GT D ct U ∧ RP D ct Z σ th bst rf U.heap)) (qP (some (.int (b2 (tOK σ v = true))))) 0 0 nF := by
  refine m_in (cc := cX6_isTown) [.ref (rf 0), .int v] "RumourCustomsModel" rfl (by decide) (Nat.le_of_ble_eq_true rfl) ?_
  intro pg e s m args below meth cd ls hx hb hml hown hts hr hlocks hin hPr hl
  obtain ⟨hT, hP⟩ := hPr
  have hl : lv_has ls 2 [(0, .ref (rf 0)), (1, .int v)] := hl
  refine lv_iload_n hx hb dX6_isTown_0 rfl (lv_at hl 1 rfl) ?_
  refine lv_iconst (v := 0) hx hb dX6_isTown_1 (by decide) ?_
  refine lv_aload_n hx hb dX6_isTown_2 rfl (lv_at hl 0 rfl) ?_
  refine k_get (C := RX6) (T := TX6) (N := 14) hx hb hts inGX6 hown (hT).1 hP.o rfl 2 (by decide) (hts _ w_874) (fun _ h9 => h9) (v := .int (σ 0 1)) rfl dX6_isTown_3 ?_
  refine lv_iconst (v := 1) hx hb dX6_isTown_6 (by decide) ?_
  refine lv_isub hx hb dX6_isTown_7 ?_
  refine c_p1 (va_runS (As := [.int v, .int 0, .int ((σ 0 1) - 1)]) (rest := []) ⟨hx, hb, hml, hown, hts⟩ (c_X6_isIn l D ct v 0 ((σ 0 1) - 1)) (k_cwS 3 hts w_936 w_937 w_65 w_938 rfl rfl (by decide) ⟨Nat.le_of_ble_eq_true rfl, Nat.le_of_ble_eq_true rfl⟩) ⟨(blindT fun _ _ _ _ h => h), fun U hU hW => ⟨rfl, hT.warm hW, trivial⟩⟩ rfl rfl hl.1 rfl (lv_room (Nat.le_of_ble_eq_true rfl)) dX6_isTown_8 ⟨Nat.le_of_ble_eq_true rfl, Nat.le_of_ble_eq_true rfl⟩) ?_
  exact W.zret (v := b2 (wi 0 v ((σ 0 1) - 1) = true)) hx hb hr (nar_b2 _) (fun t ht hW => ⟨rvi (b2_iff (by rw [wi_tOK h1 h2]; exact Iff.rfl)), ht⟩) (fun q h => nomatch h) dX6_isTown_11

/-! X6_isRumour -/
set_option maxHeartbeats 4000000 in
set_option maxRecDepth 100000 in
theorem c_X6_isRumour (l : Launch) (D : va_G) (ct : Nat → ClassId) (Z : Nat → Prop) (σ : Stt) (th : Int32) (bst : Nat → Int64) (rf : Nat → Nat) (v : Int32) (h1 : σ 0 3 = nI (nR σ)) (h2 : nR σ < 2 ^ 31) : Met l yX6_isRumour (.code yX6_isRumour cX6_isRumour 2 (some .boolean) :: GW) ({ frames := 1, cells := 0, slots := 0, locals := 22 } : Room) (va_Pc [.ref (rf 0), .int v] (fun U => GT D ct U ∧ RP D ct Z σ th bst rf U.heap)) (qP (some (.int (b2 (rOK σ v = true))))) 0 0 nF := by
  refine m_in (cc := cX6_isRumour) [.ref (rf 0), .int v] "RumourCustomsModel" rfl (by decide) (Nat.le_of_ble_eq_true rfl) ?_
  intro pg e s m args below meth cd ls hx hb hml hown hts hr hlocks hin hPr hl
  obtain ⟨hT, hP⟩ := hPr
  have hl : lv_has ls 2 [(0, .ref (rf 0)), (1, .int v)] := hl
  refine lv_iload_n hx hb dX6_isRumour_0 rfl (lv_at hl 1 rfl) ?_
  refine lv_iconst (v := 0) hx hb dX6_isRumour_1 (by decide) ?_
  refine lv_aload_n hx hb dX6_isRumour_2 rfl (lv_at hl 0 rfl) ?_
  refine k_get (C := RX6) (T := TX6) (N := 14) hx hb hts inGX6 hown (hT).1 hP.o rfl 4 (by decide) (hts _ w_876) (fun _ h9 => h9) (v := .int (σ 0 3)) rfl dX6_isRumour_3 ?_
  refine lv_iconst (v := 1) hx hb dX6_isRumour_6 (by decide) ?_
  refine lv_isub hx hb dX6_isRumour_7 ?_
  refine c_p1 (va_runS (As := [.int v, .int 0, .int ((σ 0 3) - 1)]) (rest := []) ⟨hx, hb, hml, hown, hts⟩ (c_X6_isIn l D ct v 0 ((σ 0 3) - 1)) (k_cwS 3 hts w_936 w_937 w_65 w_938 rfl rfl (by decide) ⟨Nat.le_of_ble_eq_true rfl, Nat.le_of_ble_eq_true rfl⟩) ⟨(blindT fun _ _ _ _ h => h), fun U hU hW => ⟨rfl, hT.warm hW, trivial⟩⟩ rfl rfl hl.1 rfl (lv_room (Nat.le_of_ble_eq_true rfl)) dX6_isRumour_8 ⟨Nat.le_of_ble_eq_true rfl, Nat.le_of_ble_eq_true rfl⟩) ?_
  exact W.zret (v := b2 (wi 0 v ((σ 0 3) - 1) = true)) hx hb hr (nar_b2 _) (fun t ht hW => ⟨rvi (b2_iff (by rw [wi_tOK h1 h2]; exact Iff.rfl)), ht⟩) (fun q h => nomatch h) dX6_isRumour_11

/-! X6_isCarrier -/
set_option maxHeartbeats 4000000 in
set_option maxRecDepth 100000 in
theorem c_X6_isCarrier (l : Launch) (D : va_G) (ct : Nat → ClassId) (Z : Nat → Prop) (σ : Stt) (th : Int32) (bst : Nat → Int64) (rf : Nat → Nat) (v : Int32) (h1 : σ 0 4 = nI (nC σ)) (h2 : nC σ < 2 ^ 31) : Met l yX6_isCarrier (.code yX6_isCarrier cX6_isCarrier 2 (some .boolean) :: GW) ({ frames := 1, cells := 0, slots := 0, locals := 22 } : Room) (va_Pc [.ref (rf 0), .int v] (fun U => GT D ct U ∧ RP D ct Z σ th bst rf U.heap)) (qP (some (.int (b2 (cOK σ v = true))))) 0 0 nF := by
  refine m_in (cc := cX6_isCarrier) [.ref (rf 0), .int v] "RumourCustomsModel" rfl (by decide) (Nat.le_of_ble_eq_true rfl) ?_
  intro pg e s m args below meth cd ls hx hb hml hown hts hr hlocks hin hPr hl
  obtain ⟨hT, hP⟩ := hPr
  have hl : lv_has ls 2 [(0, .ref (rf 0)), (1, .int v)] := hl
  refine lv_iload_n hx hb dX6_isCarrier_0 rfl (lv_at hl 1 rfl) ?_
  refine lv_iconst (v := 0) hx hb dX6_isCarrier_1 (by decide) ?_
  refine lv_aload_n hx hb dX6_isCarrier_2 rfl (lv_at hl 0 rfl) ?_
  refine k_get (C := RX6) (T := TX6) (N := 14) hx hb hts inGX6 hown (hT).1 hP.o rfl 5 (by decide) (hts _ w_877) (fun _ h9 => h9) (v := .int (σ 0 4)) rfl dX6_isCarrier_3 ?_
  refine lv_iconst (v := 1) hx hb dX6_isCarrier_6 (by decide) ?_
  refine lv_isub hx hb dX6_isCarrier_7 ?_
  refine c_p1 (va_runS (As := [.int v, .int 0, .int ((σ 0 4) - 1)]) (rest := []) ⟨hx, hb, hml, hown, hts⟩ (c_X6_isIn l D ct v 0 ((σ 0 4) - 1)) (k_cwS 3 hts w_936 w_937 w_65 w_938 rfl rfl (by decide) ⟨Nat.le_of_ble_eq_true rfl, Nat.le_of_ble_eq_true rfl⟩) ⟨(blindT fun _ _ _ _ h => h), fun U hU hW => ⟨rfl, hT.warm hW, trivial⟩⟩ rfl rfl hl.1 rfl (lv_room (Nat.le_of_ble_eq_true rfl)) dX6_isCarrier_8 ⟨Nat.le_of_ble_eq_true rfl, Nat.le_of_ble_eq_true rfl⟩) ?_
  exact W.zret (v := b2 (wi 0 v ((σ 0 4) - 1) = true)) hx hb hr (nar_b2 _) (fun t ht hW => ⟨rvi (b2_iff (by rw [wi_tOK h1 h2]; exact Iff.rfl)), ht⟩) (fun q h => nomatch h) dX6_isCarrier_11

/-! thrown -/
set_option maxHeartbeats 4000000 in
set_option maxRecDepth 100000 in
theorem c_X6_thrown (l : Launch) (D : va_G) (ct : Nat → ClassId) (Z : Nat → Prop) (σ : Stt) (th : Int32) (bst : Nat → Int64) (rf : Nat → Nat) : Met l yX6_thrown (.code yX6_thrown cX6_thrown 1 (some .int) :: GW) ({ frames := 0, cells := 0, slots := 0, locals := 0 } : Room) (va_Pc [.ref (rf 0)] (fun U => GT D ct U ∧ RP D ct Z σ th bst rf U.heap)) (qP (some (.int th))) 0 0 nF := by
  refine m_in (cc := cX6_thrown) [.ref (rf 0)] "RumourCustomsModel" rfl (by decide) (Nat.le_of_ble_eq_true rfl) ?_
  intro pg e s m args below meth cd ls hx hb hml hown hts hr hlocks hin hPr hl
  obtain ⟨hT, hP⟩ := hPr
  have hl : lv_has ls 1 [(0, .ref (rf 0))] := hl
  refine lv_aload_n hx hb dX6_thrown_0 rfl (lv_at hl 0 rfl) ?_
  refine k_get (C := RX6) (T := TX6) (N := 14) hx hb hts inGX6 hown (hT).1 hP.o rfl 0 (by decide) (hts _ w_872) (fun _ h9 => h9) (v := .int th) rfl dX6_thrown_1 ?_
  exact W.iret (v := th) hx hb hr (fun t ht hW => ⟨rvi rfl, ht⟩) (fun q h => nomatch h) dX6_thrown_4
