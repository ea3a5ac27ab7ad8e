theorem okR {σ : Stt} {t : Int32} (h1 : σ 0 3 = nI (nR σ)) (h10 : nR σ ≤ 60) (h : rOK σ t = true) : ∃ a, a < nR σ ∧ t = nI a := by
  obtain ⟨h2, h3⟩ := of_decide_eq_true h
  obtain ⟨a, ha, rfl⟩ := nI_of (x := t) (Int32.not_lt.mpr h2)
  rw [h1] at h3
  exact ⟨a, (nI_ltI ha (by omega)).mp h3, rfl⟩
theorem okC {σ : Stt} {t : Int32} (h1 : σ 0 4 = nI (nC σ)) (h10 : nC σ ≤ 8) (h : cOK σ t = true) : ∃ a, a < nC σ ∧ t = nI a := by
  obtain ⟨h2, h3⟩ := of_decide_eq_true h
  obtain ⟨a, ha, rfl⟩ := nI_of (x := t) (Int32.not_lt.mpr h2)
  rw [h1] at h3
  exact ⟨a, (nI_ltI ha (by omega)).mp h3, rfl⟩
theorem wiN {lo hi : Nat} {v : Int32} (hb : lo < 2 ^ 31 ∧ hi < 2 ^ 31) (h : wi (nI lo) v (nI hi) = true) : ∃ n, lo ≤ n ∧ n ≤ hi ∧ v = nI n := by
  obtain ⟨a, b⟩ := of_decide_eq_true h
  have a0 : (0 : Int32) ≤ v := Int32.le_trans (nI_pos' hb.1) a
  obtain ⟨n, hn, rfl⟩ := nI_of (x := v) (Int32.not_lt.mpr a0)
  exact ⟨n, (nI_leI hb.1 hn).mp a, (nI_leI hn hb.2).mp b, rfl⟩
theorem lt7 {n : Nat} (h : n < 7) : n = 0 ∨ n = 1 ∨ n = 2 ∨ n = 3 ∨ n = 4 ∨ n = 5 ∨ n = 6 := by omega
theorem figRS_n {σ : Stt} {r n : Nat} (h : n < 7) : figRS σ r (nI n) = σ 1 (7 * r + n) := by
  rcases lt7 h with rfl | rfl | rfl | rfl | rfl | rfl | rfl <;> rfl
theorem figDS_n {σ : Stt} {k n : Nat} (h : n < 7) : figDS σ k (nI n) = if n = 0 then 1 else σ 3 (7 * k + n) := by
  rcases lt7 h with rfl | rfl | rfl | rfl | rfl | rfl | rfl <;> rfl
theorem rd_one {σ : Stt} (hI : Inv σ) {k : Nat} (hk : k < 100) : ¬ σ 3 (7 * k) = 1 → σ 3 (7 * k) = 0 := fun h => by
  rcases hI.2.2.2.2.2 k hk with z | z
  · exact absurd z.1 h
  · exact z 0 (by decide)
theorem rdt {σ : Stt} (hI : Inv σ) {k n : Nat} (hk : k < 100) (hn : n < 7) : σ 3 (7 * k + n) = if σ 3 (7 * k) = 1 then figDS σ k (nI n) else 0 := by
  rw [figDS_n hn]
  rcases hI.2.2.2.2.2 k hk with z | z
  · rw [if_pos z.1]
    by_cases h0 : n = 0
    · subst h0; exact z.1
    · rw [if_neg h0]
  · rw [if_neg (by rw [show σ 3 (7 * k) = 0 from z 0 (by decide)]; decide)]
    exact z n hn
theorem rd_self {σ : Stt} (hI : Inv σ) {a : Nat} (ha : a < 10) : ¬ σ 3 (7 * rk a a) = 1 := fun h => by
  have e : rk a a = 11 * a := by unfold rk; omega
  rcases hI.2.2.2.2.2 (rk a a) (rk_lt ha ha) with z | z
  · have := z.2.1
    rw [e] at this
    omega
  · rw [show σ 3 (7 * rk a a) = 0 from z 0 (by decide)] at h
    exact absurd h (by decide)
theorem dps_inv (σ : Stt) (t : Int32) : ∀ n, dps σ t n = (-1, -1) ∨ ∃ k, k < n ∧ dps σ t n = (nI k, σ 1 (7 * k + 1))
  | 0 => Or.inl rfl
  | n + 1 => by
    by_cases h : σ 1 (7 * n + 4) = t ∧ (dps σ t n).2 < σ 1 (7 * n + 1)
    · exact Or.inr ⟨n, by omega, dps_t h⟩
    · rw [dps_f h]
      exact (dps_inv σ t n).imp id (fun ⟨k, hk, e⟩ => ⟨k, by omega, e⟩)
theorem dep_pos {σ : Stt} (hI : Inv σ) {i : Nat} (hi : i < nR σ) : (-1 : Int32) < σ 1 (7 * i + 1) := by
  obtain ⟨n, hn, e⟩ := (hI.2.2.2.1 i hi).2.1
  rw [e]
  refine Int32.lt_iff_toInt_lt.mpr ?_
  rw [nI_toInt (by omega)]
  have : (-1 : Int32).toInt = -1 := by decide
  omega
theorem left_0 {σ : Stt} (hI : Inv σ) {i : Nat} (hi : i < nC σ) : σ 2 (4 * i + 1) = 0 ↔ ¬ 0 < σ 2 (4 * i + 1) := by
  obtain ⟨n, hn, e⟩ := (hI.2.2.2.2.1 i hi).2
  rw [e]
  refine ⟨fun h => ?_, fun h => ?_⟩
  · rw [h]; decide
  · have h2 : ¬ 0 < n := fun z => h (nI_lt z (by omega))
    rw [show n = 0 by omega]; rfl

/-! heardOf -/
set_option maxHeartbeats 4000000 in
set_option maxRecDepth 100000 in
theorem c_X6_heardOf (l : Launch) (D : va_G) (ct : Nat → ClassId) (Z : Nat → Prop) (σ : Stt) (th : Int32) (bst : Nat → Int64) (rf : Nat → Nat) (t f : Int32) (hR1 : σ 0 3 = nI (nR σ)) (hR60 : nR σ ≤ 60) : Met l yX6_heardOf (.code yX6_heardOf cX6_heardOf 5 (some .int) :: GW) ({ frames := 1, cells := 0, slots := 0, locals := 22 } : Room) (va_Pc [.ref (rf 0), .int t, .int f] (fun U => GT D ct U ∧ RP D ct Z σ th bst rf U.heap)) (qP (some (.int (opI (ldp σ t f (nR σ)))))) 0 0 nF := by
  refine m_in (cc := cX6_heardOf) [.ref (rf 0), .int t, .int f] "RumourCustomsModel" rfl (by decide) (Nat.le_of_ble_eq_true rfl) ?_
  intro pg e s m args below meth cd ls hx hb hml hown hts hr hlocks hin hPr hl
  obtain ⟨hT, hP⟩ := hPr
  have hl : lv_has ls 5 [(0, .ref (rf 0)), (1, .int t), (2, .int f)] := hl
  refine lv_iconst (v := (-1)) hx hb dX6_heardOf_0 (by decide) ?_
  refine lv_istore_n (lv' := [(3, .int (-1)), (0, .ref (rf 0)), (1, .int t), (2, .int f)]) hx hb dX6_heardOf_1 rfl hl (by decide) rfl (fun ls hl => ?_)
  refine lv_iconst (v := 0) hx hb dX6_heardOf_2 (by decide) ?_
  refine lv_istore (lv' := [(4, .int 0), (3, .int (-1)), (0, .ref (rf 0)), (1, .int t), (2, .int f)]) hx hb dX6_heardOf_3 hl (by decide) rfl (fun ls hl => ?_)
  have loop5 : ∀ (n5 i : Nat), i ≤ nR σ → nR σ - i < n5 → ∀ ls, lv_has ls 5 [(0, .ref (rf 0)), (1, .int t), (2, .int f), (4, .int (nI i)), (3, .int (opI (ldp σ t f i)))] → W pg l e ({ frames := 1, cells := 0, slots := 0, locals := 22 } : Room) s m args below meth cd s.heap [] 0 0 (MQ below (qP (some (.int (opI (ldp σ t f (nR σ)))))) args s 0 0 nF) (F0 m 5 ls []) := by
    intro n5
    induction n5 with
    | zero => intro i _ z; omega
    | succ n5 ih5 =>
      intro i hi5 hn5 ls hl
      rcases ho : ldp σ t f i with _ | k0
      · -- none
        rw [ho] at hl
        have hl : lv_has ls 5 [(0, .ref (rf 0)), (1, .int t), (2, .int f), (4, .int (nI i)), (3, .int (-1))] := hl
        refine lv_iload hx hb dX6_heardOf_5 (lv_at hl 3 rfl) ?_
        refine lv_aload_n hx hb dX6_heardOf_7 rfl (lv_at hl 0 rfl) ?_
        refine k_get (C := RX6) (T := TX6) (N := 14) hx hb hts inGX6 hown (hT).1 hP.o rfl 4 (by decide) (hts _ w_876) (fun _ h9 => h9) (v := .int (σ 0 3)) rfl dX6_heardOf_8 ?_
        rw [hR1]
        refine lv_icmp_ge (tgt := 66) hx hb dX6_heardOf_11 (by decide) (fun c_11 => ?_) (fun c_11 => ?_)
        · -- taken
          have nc_11 : (nR σ) ≤ i := (nI_leI (a := (nR σ)) (b := i) (by omega) (by omega)).mp c_11
          have he5 : i = nR σ := by omega
          rw [he5] at ho
          refine lv_iload_n hx hb dX6_heardOf_66 rfl (lv_at hl 4 rfl) ?_
          exact W.iret (v := (-1)) hx hb hr (fun t ht hW => ⟨rvi (by rw [ho]; rfl), ht⟩) (fun q h => nomatch h) dX6_heardOf_67
        · -- not taken
          have nc_11 : ¬ (nR σ) ≤ i := fun z => c_11 ((nI_leI (a := (nR σ)) (b := i) (by omega) (by omega)).mpr z)
          have hlt5 : i < nR σ := by omega
          refine lv_aload_n hx hb dX6_heardOf_14 rfl (lv_at hl 0 rfl) ?_
          refine lv_iload hx hb dX6_heardOf_15 (lv_at hl 3 rfl) ?_
          refine lv_iconst (v := 4) hx hb dX6_heardOf_17 (by decide) ?_
          refine c_p1 (va_runV (As := [.int (nI i), .int 4]) (rest := []) ⟨hx, hb, hml, hown, hts⟩ (c_X6_get l D ct Z σ th bst rf i 4 4 (by omega) rfl (by decide)) (cwV 2 hts (GG w_965 w_967 w_39 w_65 w_968) rfl rfl rfl (by decide) ⟨Nat.le_of_ble_eq_true rfl, Nat.le_of_ble_eq_true rfl⟩) ⟨(blindT fun _ _ _ _ h => h), Ob.recv (hT).1 hP.o rfl, fun U hU hW => ⟨rfl, hT.warm hW, by rw [hU]; exact hP⟩⟩ rfl rfl hl.1 rfl (lv_room (Nat.le_of_ble_eq_true rfl)) dX6_heardOf_18 ⟨Nat.le_of_ble_eq_true rfl, Nat.le_of_ble_eq_true rfl⟩) ?_
          refine lv_iload_n hx hb dX6_heardOf_21 rfl (lv_at hl 1 rfl) ?_
          refine lv_icmp_ne (tgt := 60) hx hb dX6_heardOf_22 (by decide) (fun c_22 => ?_) (fun c_22 => ?_)
          · -- taken
            refine lv_iinc (v := nI (i + 1)) (lv' := [(4, .int (nI (i + 1))), (0, .ref (rf 0)), (1, .int t), (2, .int f), (3, .int (-1))]) hx hb dX6_heardOf_60 hl (k := 3) rfl (nI_1 i) (by decide) rfl (fun ls hl => ?_)
            refine lv_goto (tgt := 5) hx hb dX6_heardOf_63 (by decide) ?_
            refine ih5 (i + 1) (by omega) (by omega) ls ?_
            rw [show ldp σ t f (i + 1) = _ from ldp_f (fun z => c_22 z.1), ho]
            exact (lv_sub hl [1, 2, 3, 0, 4] rfl)
          · -- not taken
            refine lv_aload_n hx hb dX6_heardOf_25 rfl (lv_at hl 0 rfl) ?_
            refine lv_iload hx hb dX6_heardOf_26 (lv_at hl 3 rfl) ?_
            refine lv_iconst (v := 3) hx hb dX6_heardOf_28 (by decide) ?_
            refine c_p1 (va_runV (As := [.int (nI i), .int 3]) (rest := []) ⟨hx, hb, hml, hown, hts⟩ (c_X6_get l D ct Z σ th bst rf i 3 3 (by omega) rfl (by decide)) (cwV 2 hts (GG w_965 w_967 w_39 w_65 w_968) rfl rfl rfl (by decide) ⟨Nat.le_of_ble_eq_true rfl, Nat.le_of_ble_eq_true rfl⟩) ⟨(blindT fun _ _ _ _ h => h), Ob.recv (hT).1 hP.o rfl, fun U hU hW => ⟨rfl, hT.warm hW, by rw [hU]; exact hP⟩⟩ rfl rfl hl.1 rfl (lv_room (Nat.le_of_ble_eq_true rfl)) dX6_heardOf_29 ⟨Nat.le_of_ble_eq_true rfl, Nat.le_of_ble_eq_true rfl⟩) ?_
            refine lv_iload_n hx hb dX6_heardOf_32 rfl (lv_at hl 2 rfl) ?_
            refine lv_icmp_ne (tgt := 60) hx hb dX6_heardOf_33 (by decide) (fun c_33 => ?_) (fun c_33 => ?_)
            · -- taken
              refine lv_iinc (v := nI (i + 1)) (lv' := [(4, .int (nI (i + 1))), (0, .ref (rf 0)), (1, .int t), (2, .int f), (3, .int (-1))]) hx hb dX6_heardOf_60 hl (k := 3) rfl (nI_1 i) (by decide) rfl (fun ls hl => ?_)
              refine lv_goto (tgt := 5) hx hb dX6_heardOf_63 (by decide) ?_
              refine ih5 (i + 1) (by omega) (by omega) ls ?_
              rw [show ldp σ t f (i + 1) = _ from ldp_f (fun z => c_33 z.2), ho]
              exact (lv_sub hl [1, 2, 3, 0, 4] rfl)
            · -- not taken
              refine lv_iload_n hx hb dX6_heardOf_36 rfl (lv_at hl 4 rfl) ?_
              refine lv_iconst (v := (-1)) hx hb dX6_heardOf_37 (by decide) ?_
              refine lv_icmp_eq (tgt := 57) hx hb dX6_heardOf_38 (by decide) (fun _ => ?_) (fun c_ => absurd (by decide) c_)
              refine lv_iload hx hb dX6_heardOf_57 (lv_at hl 3 rfl) ?_
              refine lv_istore_n (lv' := [(3, .int (nI i)), (0, .ref (rf 0)), (1, .int t), (2, .int f), (4, .int (nI i))]) hx hb dX6_heardOf_59 rfl hl (by decide) rfl (fun ls hl => ?_)
              refine lv_iinc (v := nI (i + 1)) (lv' := [(4, .int (nI (i + 1))), (3, .int (nI i)), (0, .ref (rf 0)), (1, .int t), (2, .int f)]) hx hb dX6_heardOf_60 hl (k := 4) rfl (nI_1 i) (by decide) rfl (fun ls hl => ?_)
              refine lv_goto (tgt := 5) hx hb dX6_heardOf_63 (by decide) ?_
              refine ih5 (i + 1) (by omega) (by omega) ls ?_
              rw [show ldp σ t f (i + 1) = _ from ldp_n ⟨c_22, c_33⟩ ho]
              exact (lv_sub hl [2, 3, 4, 0, 1] rfl)
      · -- some
        rw [ho] at hl
        have hl : lv_has ls 5 [(0, .ref (rf 0)), (1, .int t), (2, .int f), (4, .int (nI i)), (3, .int (nI k0))] := hl
        have hk0 := ldp_lt ho
        have hk1 : k0 < nR σ := by omega
        refine lv_iload hx hb dX6_heardOf_5 (lv_at hl 3 rfl) ?_
        refine lv_aload_n hx hb dX6_heardOf_7 rfl (lv_at hl 0 rfl) ?_
        refine k_get (C := RX6) (T := TX6) (N := 14) hx hb hts inGX6 hown (hT).1 hP.o rfl 4 (by decide) (hts _ w_876) (fun _ h9 => h9) (v := .int (σ 0 3)) rfl dX6_heardOf_8 ?_
        rw [hR1]
        refine lv_icmp_ge (tgt := 66) hx hb dX6_heardOf_11 (by decide) (fun c_11 => ?_) (fun c_11 => ?_)
        · -- taken
          have nc_11 : (nR σ) ≤ i := (nI_leI (a := (nR σ)) (b := i) (by omega) (by omega)).mp c_11
          have he5 : i = nR σ := by omega
          rw [he5] at ho
          refine lv_iload_n hx hb dX6_heardOf_66 rfl (lv_at hl 4 rfl) ?_
          exact W.iret (v := nI k0) hx hb hr (fun t ht hW => ⟨rvi (by rw [ho]; rfl), ht⟩) (fun q h => nomatch h) dX6_heardOf_67
        · -- not taken
          have nc_11 : ¬ (nR σ) ≤ i := fun z => c_11 ((nI_leI (a := (nR σ)) (b := i) (by omega) (by omega)).mpr z)
          have hlt5 : i < nR σ := by omega
          refine lv_aload_n hx hb dX6_heardOf_14 rfl (lv_at hl 0 rfl) ?_
          refine lv_iload hx hb dX6_heardOf_15 (lv_at hl 3 rfl) ?_
          refine lv_iconst (v := 4) hx hb dX6_heardOf_17 (by decide) ?_
          refine c_p1 (va_runV (As := [.int (nI i), .int 4]) (rest := []) ⟨hx, hb, hml, hown, hts⟩ (c_X6_get l D ct Z σ th bst rf i 4 4 (by omega) rfl (by decide)) (cwV 2 hts (GG w_965 w_967 w_39 w_65 w_968) rfl rfl rfl (by decide) ⟨Nat.le_of_ble_eq_true rfl, Nat.le_of_ble_eq_true rfl⟩) ⟨(blindT fun _ _ _ _ h => h), Ob.recv (hT).1 hP.o rfl, fun U hU hW => ⟨rfl, hT.warm hW, by rw [hU]; exact hP⟩⟩ rfl rfl hl.1 rfl (lv_room (Nat.le_of_ble_eq_true rfl)) dX6_heardOf_18 ⟨Nat.le_of_ble_eq_true rfl, Nat.le_of_ble_eq_true rfl⟩) ?_
          refine lv_iload_n hx hb dX6_heardOf_21 rfl (lv_at hl 1 rfl) ?_
          refine lv_icmp_ne (tgt := 60) hx hb dX6_heardOf_22 (by decide) (fun c_22 => ?_) (fun c_22 => ?_)
          · -- taken
            refine lv_iinc (v := nI (i + 1)) (lv' := [(4, .int (nI (i + 1))), (0, .ref (rf 0)), (1, .int t), (2, .int f), (3, .int (nI k0))]) hx hb dX6_heardOf_60 hl (k := 3) rfl (nI_1 i) (by decide) rfl (fun ls hl => ?_)
            refine lv_goto (tgt := 5) hx hb dX6_heardOf_63 (by decide) ?_
            refine ih5 (i + 1) (by omega) (by omega) ls ?_
            rw [show ldp σ t f (i + 1) = _ from ldp_f (fun z => c_22 z.1), ho]
            exact (lv_sub hl [1, 2, 3, 0, 4] rfl)
          · -- not taken
            refine lv_aload_n hx hb dX6_heardOf_25 rfl (lv_at hl 0 rfl) ?_
            refine lv_iload hx hb dX6_heardOf_26 (lv_at hl 3 rfl) ?_
            refine lv_iconst (v := 3) hx hb dX6_heardOf_28 (by decide) ?_
            refine c_p1 (va_runV (As := [.int (nI i), .int 3]) (rest := []) ⟨hx, hb, hml, hown, hts⟩ (c_X6_get l D ct Z σ th bst rf i 3 3 (by omega) rfl (by decide)) (cwV 2 hts (GG w_965 w_967 w_39 w_65 w_968) rfl rfl rfl (by decide) ⟨Nat.le_of_ble_eq_true rfl, Nat.le_of_ble_eq_true rfl⟩) ⟨(blindT fun _ _ _ _ h => h), Ob.recv (hT).1 hP.o rfl, fun U hU hW => ⟨rfl, hT.warm hW, by rw [hU]; exact hP⟩⟩ rfl rfl hl.1 rfl (lv_room (Nat.le_of_ble_eq_true rfl)) dX6_heardOf_29 ⟨Nat.le_of_ble_eq_true rfl, Nat.le_of_ble_eq_true rfl⟩) ?_
            refine lv_iload_n hx hb dX6_heardOf_32 rfl (lv_at hl 2 rfl) ?_
            refine lv_icmp_ne (tgt := 60) hx hb dX6_heardOf_33 (by decide) (fun c_33 => ?_) (fun c_33 => ?_)
            · -- taken
              refine lv_iinc (v := nI (i + 1)) (lv' := [(4, .int (nI (i + 1))), (0, .ref (rf 0)), (1, .int t), (2, .int f), (3, .int (nI k0))]) hx hb dX6_heardOf_60 hl (k := 3) rfl (nI_1 i) (by decide) rfl (fun ls hl => ?_)
              refine lv_goto (tgt := 5) hx hb dX6_heardOf_63 (by decide) ?_
              refine ih5 (i + 1) (by omega) (by omega) ls ?_
              rw [show ldp σ t f (i + 1) = _ from ldp_f (fun z => c_33 z.2), ho]
              exact (lv_sub hl [1, 2, 3, 0, 4] rfl)
            · -- not taken
              refine lv_iload_n hx hb dX6_heardOf_36 rfl (lv_at hl 4 rfl) ?_
              refine lv_iconst (v := (-1)) hx hb dX6_heardOf_37 (by decide) ?_
              refine lv_icmp_eq (tgt := 57) hx hb dX6_heardOf_38 (by decide) (fun c_ => absurd c_ (nI_m1 (n := k0) (by omega))) (fun _ => ?_)
              refine lv_aload_n hx hb dX6_heardOf_41 rfl (lv_at hl 0 rfl) ?_
              refine lv_iload hx hb dX6_heardOf_42 (lv_at hl 3 rfl) ?_
              refine lv_iconst (v := 1) hx hb dX6_heardOf_44 (by decide) ?_
              refine c_p1 (va_runV (As := [.int (nI i), .int 1]) (rest := []) ⟨hx, hb, hml, hown, hts⟩ (c_X6_get l D ct Z σ th bst rf i 1 1 (by omega) rfl (by decide)) (cwV 2 hts (GG w_965 w_967 w_39 w_65 w_968) rfl rfl rfl (by decide) ⟨Nat.le_of_ble_eq_true rfl, Nat.le_of_ble_eq_true rfl⟩) ⟨(blindT fun _ _ _ _ h => h), Ob.recv (hT).1 hP.o rfl, fun U hU hW => ⟨rfl, hT.warm hW, by rw [hU]; exact hP⟩⟩ rfl rfl hl.1 rfl (lv_room (Nat.le_of_ble_eq_true rfl)) dX6_heardOf_45 ⟨Nat.le_of_ble_eq_true rfl, Nat.le_of_ble_eq_true rfl⟩) ?_
              refine lv_aload_n hx hb dX6_heardOf_48 rfl (lv_at hl 0 rfl) ?_
              refine lv_iload_n hx hb dX6_heardOf_49 rfl (lv_at hl 4 rfl) ?_
              refine lv_iconst (v := 1) hx hb dX6_heardOf_50 (by decide) ?_
              refine c_p1 (va_runV (As := [.int (nI k0), .int 1]) (rest := [.int (σ 1 (7 * i + 1))]) ⟨hx, hb, hml, hown, hts⟩ (c_X6_get l D ct Z σ th bst rf k0 1 1 (by omega) rfl (by decide)) (cwV 2 hts (GG w_965 w_967 w_39 w_65 w_968) rfl rfl rfl (by decide) ⟨Nat.le_of_ble_eq_true rfl, Nat.le_of_ble_eq_true rfl⟩) ⟨(blindT fun _ _ _ _ h => h), Ob.recv (hT).1 hP.o rfl, fun U hU hW => ⟨rfl, hT.warm hW, by rw [hU]; exact hP⟩⟩ rfl rfl hl.1 rfl (lv_room (Nat.le_of_ble_eq_true rfl)) dX6_heardOf_51 ⟨Nat.le_of_ble_eq_true rfl, Nat.le_of_ble_eq_true rfl⟩) ?_
              refine lv_icmp_ge (tgt := 60) hx hb dX6_heardOf_54 (by decide) (fun c_54 => ?_) (fun c_54 => ?_)
              · -- taken
                refine lv_iinc (v := nI (i + 1)) (lv' := [(4, .int (nI (i + 1))), (0, .ref (rf 0)), (1, .int t), (2, .int f), (3, .int (nI k0))]) hx hb dX6_heardOf_60 hl (k := 3) rfl (nI_1 i) (by decide) rfl (fun ls hl => ?_)
                refine lv_goto (tgt := 5) hx hb dX6_heardOf_63 (by decide) ?_
                refine ih5 (i + 1) (by omega) (by omega) ls ?_
                rw [show ldp σ t f (i + 1) = _ from ldp_s ho (Int32.not_lt.mpr c_54)]
                exact (lv_sub hl [1, 2, 3, 0, 4] rfl)
              · -- not taken
                refine lv_iload hx hb dX6_heardOf_57 (lv_at hl 3 rfl) ?_
                refine lv_istore_n (lv' := [(3, .int (nI i)), (0, .ref (rf 0)), (1, .int t), (2, .int f), (4, .int (nI i))]) hx hb dX6_heardOf_59 rfl hl (by decide) rfl (fun ls hl => ?_)
                refine lv_iinc (v := nI (i + 1)) (lv' := [(4, .int (nI (i + 1))), (3, .int (nI i)), (0, .ref (rf 0)), (1, .int t), (2, .int f)]) hx hb dX6_heardOf_60 hl (k := 4) rfl (nI_1 i) (by decide) rfl (fun ls hl => ?_)
                refine lv_goto (tgt := 5) hx hb dX6_heardOf_63 (by decide) ?_
                refine ih5 (i + 1) (by omega) (by omega) ls ?_
                rw [show ldp σ t f (i + 1) = _ from ldp_l ⟨c_22, c_33⟩ ho (i32_nle c_54)]
                exact (lv_sub hl [2, 3, 4, 0, 1] rfl)
  exact loop5 (nR σ + 1 - 0) 0 (by omega) (by omega) ls (lv_sub hl [2, 3, 4, 0, 1] rfl)

/-! knows -/
set_option maxHeartbeats 4000000 in
set_option maxRecDepth 100000 in
theorem c_X6_knows (l : Launch) (D : va_G) (ct : Nat → ClassId) (Z : Nat → Prop) (σ : Stt) (th : Int32) (bst : Nat → Int64) (rf : Nat → Nat) (t f : Int32) (hR1 : σ 0 3 = nI (nR σ)) (hR60 : nR σ ≤ 60) : Met l yX6_knows (.code yX6_knows cX6_knows 3 (some .boolean) :: GW) ({ frames := 2, cells := 0, slots := 0, locals := 46 } : Room) (va_Pc [.ref (rf 0), .int t, .int f] (fun U => GT D ct U ∧ RP D ct Z σ th bst rf U.heap)) (qP (some (.int (b2 (¬ opI (ldp σ t f (nR σ)) = -1))))) 0 0 nF := by
  refine m_in (cc := cX6_knows) [.ref (rf 0), .int t, .int f] "RumourCustomsModel" rfl (by decide) (Nat.le_of_ble_eq_true rfl) ?_
  intro pg e s m args below meth cd ls hx hb hml hown hts hr hlocks hin hPr hl
  obtain ⟨hT, hP⟩ := hPr
  have hl : lv_has ls 3 [(0, .ref (rf 0)), (1, .int t), (2, .int f)] := hl
  refine lv_aload_n hx hb dX6_knows_0 rfl (lv_at hl 0 rfl) ?_
  refine lv_iload_n hx hb dX6_knows_1 rfl (lv_at hl 1 rfl) ?_
  refine lv_iload_n hx hb dX6_knows_2 rfl (lv_at hl 2 rfl) ?_
  refine c_p1 (va_runV (As := [.int t, .int f]) (rest := []) ⟨hx, hb, hml, hown, hts⟩ (c_X6_heardOf l D ct Z σ th bst rf t f hR1 hR60) (cwV 2 hts (GG w_981 w_983 w_42 w_65 w_984) rfl rfl rfl (by decide) ⟨Nat.le_of_ble_eq_true rfl, Nat.le_of_ble_eq_true rfl⟩) ⟨(blindT fun _ _ _ _ h => h), Ob.recv (hT).1 hP.o rfl, fun U hU hW => ⟨rfl, hT.warm hW, by rw [hU]; exact hP⟩⟩ rfl rfl hl.1 rfl (lv_room (Nat.le_of_ble_eq_true rfl)) dX6_knows_3 ⟨Nat.le_of_ble_eq_true rfl, Nat.le_of_ble_eq_true rfl⟩) ?_
  refine lv_iconst (v := (-1)) hx hb dX6_knows_6 (by decide) ?_
  refine lv_icmp_eq (tgt := 14) hx hb dX6_knows_7 (by decide) (fun c_7 => ?_) (fun c_7 => ?_)
  · -- taken
    refine lv_iconst (v := 0) hx hb dX6_knows_14 (by decide) ?_
    exact W.zret (v := 0) hx hb hr rfl (fun t ht hW => ⟨rvi ((b2_f (fun z => z c_7)).symm), ht⟩) (fun q h => nomatch h) dX6_knows_15
  · -- not taken
    refine lv_iconst (v := 1) hx hb dX6_knows_10 (by decide) ?_
    refine lv_goto (tgt := 15) hx hb dX6_knows_11 (by decide) ?_
    exact W.zret (v := 1) hx hb hr rfl (fun t ht hW => ⟨rvi ((b2_t c_7).symm), ht⟩) (fun q h => nomatch h) dX6_knows_15

/-! has -/
set_option maxHeartbeats 4000000 in
set_option maxRecDepth 100000 in
theorem c_X6_has (l : Launch) (D : va_G) (ct : Nat → ClassId) (Z : Nat → Prop) (σ : Stt) (th : Int32) (bst : Nat → Int64) (rf : Nat → Nat) (c : Int32) (r : Nat) (hrn : r < 60) : Met l yX6_has (.code yX6_has cX6_has 3 (some .boolean) :: GW) ({ frames := 1, cells := 0, slots := 0, locals := 22 } : Room) (va_Pc [.ref (rf 0), .int c, .int (nI r)] (fun U => GT D ct U ∧ RP D ct Z σ th bst rf U.heap)) (qP (some (.int (b2 (σ 1 (7 * r + 5) = c))))) 0 0 nF := by
  refine m_in (cc := cX6_has) [.ref (rf 0), .int c, .int (nI r)] "RumourCustomsModel" rfl (by decide) (Nat.le_of_ble_eq_true rfl) ?_
  intro pg e s m args below meth cd ls hx hb hml hown hts hr hlocks hin hPr hl
  obtain ⟨hT, hP⟩ := hPr
  have hl : lv_has ls 3 [(0, .ref (rf 0)), (1, .int c), (2, .int (nI r))] := hl
  refine lv_aload_n hx hb dX6_has_0 rfl (lv_at hl 0 rfl) ?_
  refine lv_iload_n hx hb dX6_has_1 rfl (lv_at hl 2 rfl) ?_
  refine lv_iconst (v := 5) hx hb dX6_has_2 (by decide) ?_
  refine c_p1 (va_runV (As := [.int (nI r), .int 5]) (rest := []) ⟨hx, hb, hml, hown, hts⟩ (c_X6_get l D ct Z σ th bst rf r 5 5 (by omega) rfl (by decide)) (cwV 2 hts (GG w_965 w_967 w_39 w_65 w_968) rfl rfl rfl (by decide) ⟨Nat.le_of_ble_eq_true rfl, Nat.le_of_ble_eq_true rfl⟩) ⟨(blindT fun _ _ _ _ h => h), Ob.recv (hT).1 hP.o rfl, fun U hU hW => ⟨rfl, hT.warm hW, by rw [hU]; exact hP⟩⟩ rfl rfl hl.1 rfl (lv_room (Nat.le_of_ble_eq_true rfl)) dX6_has_3 ⟨Nat.le_of_ble_eq_true rfl, Nat.le_of_ble_eq_true rfl⟩) ?_
  refine lv_iload_n hx hb dX6_has_6 rfl (lv_at hl 1 rfl) ?_
  refine lv_icmp_ne (tgt := 14) hx hb dX6_has_7 (by decide) (fun c_7 => ?_) (fun c_7 => ?_)
  · -- taken
    refine lv_iconst (v := 0) hx hb dX6_has_14 (by decide) ?_
    exact W.zret (v := 0) hx hb hr rfl (fun t ht hW => ⟨rvi ((b2_f c_7).symm), ht⟩) (fun q h => nomatch h) dX6_has_15
  · -- not taken
    refine lv_iconst (v := 1) hx hb dX6_has_10 (by decide) ?_
    refine lv_goto (tgt := 15) hx hb dX6_has_11 (by decide) ?_
    exact W.zret (v := 1) hx hb hr rfl (fun t ht hW => ⟨rvi ((b2_t c_7).symm), ht⟩) (fun q h => nomatch h) dX6_has_15

/-! inBag 0 -/
set_option maxHeartbeats 4000000 in
set_option maxRecDepth 100000 in
theorem c_X6_inBag0 (l : Launch) (D : va_G) (ct : Nat → ClassId) (Z : Nat → Prop) (σ : Stt) (th : Int32) (bst : Nat → Int64) (rf : Nat → Nat) (c : Int32) (hR1 : σ 0 3 = nI (nR σ)) (hR60 : nR σ ≤ 60) : Met l yX6_inBag (.code yX6_inBag cX6_inBag 5 (some .int) :: GW) ({ frames := 1, cells := 0, slots := 0, locals := 22 } : Room) (va_Pc [.ref (rf 0), .int c, .int 0] (fun U => GT D ct U ∧ RP D ct Z σ th bst rf U.heap)) (qP (some (.int (inB σ c)))) 0 0 nF := by
  refine m_in (cc := cX6_inBag) [.ref (rf 0), .int c, .int 0] "RumourCustomsModel" rfl (by decide) (Nat.le_of_ble_eq_true rfl) ?_
  intro pg e s m args below meth cd ls hx hb hml hown hts hr hlocks hin hPr hl
  obtain ⟨hT, hP⟩ := hPr
  have hl : lv_has ls 5 [(0, .ref (rf 0)), (1, .int c), (2, .int 0)] := hl
  refine lv_iconst (v := 0) hx hb dX6_inBag_0 (by decide) ?_
  refine lv_istore_n (lv' := [(3, .int 0), (0, .ref (rf 0)), (1, .int c), (2, .int 0)]) hx hb dX6_inBag_1 rfl hl (by decide) rfl (fun ls hl => ?_)
  refine lv_iconst (v := 0) hx hb dX6_inBag_2 (by decide) ?_
  refine lv_istore (lv' := [(4, .int 0), (3, .int 0), (0, .ref (rf 0)), (1, .int c), (2, .int 0)]) hx hb dX6_inBag_3 hl (by decide) rfl (fun ls hl => ?_)
  have loop5 : ∀ (n5 i : Nat) (acc : Int32), i ≤ nR σ → nR σ - i < n5 → acc = sm (fun r => b2 (σ 1 (7 * r + 5) = c)) i → ∀ ls, lv_has ls 5 [(0, .ref (rf 0)), (1, .int c), (2, .int 0), (4, .int (nI i)), (3, .int acc)] → W pg l e ({ frames := 1, cells := 0, slots := 0, locals := 22 } : Room) s m args below meth cd s.heap [] 0 0 (MQ below (qP (some (.int (inB σ c)))) args s 0 0 nF) (F0 m 5 ls []) := by
    intro n5
    induction n5 with
    | zero => intro i acc _ z; omega
    | succ n5 ih5 =>
      intro i acc hi5 hn5 haacc ls hl
      refine lv_iload hx hb dX6_inBag_5 (lv_at hl 3 rfl) ?_
      refine lv_aload_n hx hb dX6_inBag_7 rfl (lv_at hl 0 rfl) ?_
      refine k_get (C := RX6) (T := TX6) (N := 14) hx hb hts inGX6 hown (hT).1 hP.o rfl 4 (by decide) (hts _ w_876) (fun _ h9 => h9) (v := .int (σ 0 3)) rfl dX6_inBag_8 ?_
      rw [hR1]
      refine lv_icmp_ge (tgt := 55) hx hb dX6_inBag_11 (by decide) (fun c_11 => ?_) (fun c_11 => ?_)
      · -- taken
        have nc_11 : (nR σ) ≤ i := (nI_leI (a := (nR σ)) (b := i) (by omega) (by omega)).mp c_11
        have he5 : i = nR σ := by omega
        refine lv_iload_n hx hb dX6_inBag_55 rfl (lv_at hl 4 rfl) ?_
        exact W.iret (v := acc) hx hb hr (fun t ht hW => ⟨rvi (by rw [haacc, he5]; rfl), ht⟩) (fun q h => nomatch h) dX6_inBag_56
      · -- not taken
        have nc_11 : ¬ (nR σ) ≤ i := fun z => c_11 ((nI_leI (a := (nR σ)) (b := i) (by omega) (by omega)).mpr z)
        have hlt5 : i < nR σ := by omega
        refine lv_iload_n hx hb dX6_inBag_14 rfl (lv_at hl 4 rfl) ?_
        refine lv_aload_n hx hb dX6_inBag_15 rfl (lv_at hl 0 rfl) ?_
        refine lv_iload hx hb dX6_inBag_16 (lv_at hl 3 rfl) ?_
        refine lv_iconst (v := 5) hx hb dX6_inBag_18 (by decide) ?_
        refine c_p1 (va_runV (As := [.int (nI i), .int 5]) (rest := [.int acc]) ⟨hx, hb, hml, hown, hts⟩ (c_X6_get l D ct Z σ th bst rf i 5 5 (by omega) rfl (by decide)) (cwV 2 hts (GG w_965 w_967 w_39 w_65 w_968) rfl rfl rfl (by decide) ⟨Nat.le_of_ble_eq_true rfl, Nat.le_of_ble_eq_true rfl⟩) ⟨(blindT fun _ _ _ _ h => h), Ob.recv (hT).1 hP.o rfl, fun U hU hW => ⟨rfl, hT.warm hW, by rw [hU]; exact hP⟩⟩ rfl rfl hl.1 rfl (lv_room (Nat.le_of_ble_eq_true rfl)) dX6_inBag_19 ⟨Nat.le_of_ble_eq_true rfl, Nat.le_of_ble_eq_true rfl⟩) ?_
        refine lv_iload_n hx hb dX6_inBag_22 rfl (lv_at hl 1 rfl) ?_
        refine lv_icmp_ne (tgt := 46) hx hb dX6_inBag_23 (by decide) (fun c_23 => ?_) (fun c_23 => ?_)
        · -- taken
          refine lv_iconst (v := 0) hx hb dX6_inBag_46 (by decide) ?_
          refine lv_iadd hx hb dX6_inBag_47 ?_
          refine lv_istore_n (lv' := [(3, .int (acc + 0)), (0, .ref (rf 0)), (1, .int c), (2, .int 0), (4, .int (nI i))]) hx hb dX6_inBag_48 rfl hl (by decide) rfl (fun ls hl => ?_)
          refine lv_iinc (v := nI (i + 1)) (lv' := [(4, .int (nI (i + 1))), (3, .int (acc + 0)), (0, .ref (rf 0)), (1, .int c), (2, .int 0)]) hx hb dX6_inBag_49 hl (k := 4) rfl (nI_1 i) (by decide) rfl (fun ls hl => ?_)
          refine lv_goto (tgt := 5) hx hb dX6_inBag_52 (by decide) ?_
          exact ih5 (i + 1) (acc + 0) (by omega) (by omega) (sm_t haacc (b2_f (fun z => c_23 z))) ls (lv_sub hl [2, 3, 4, 0, 1] rfl)
        · -- not taken
          refine lv_iload_n hx hb dX6_inBag_26 rfl (lv_at hl 2 rfl) ?_
          refine lv_if_eq (tgt := 42) hx hb dX6_inBag_27 (by decide) (fun _ => ?_) (fun c_ => absurd (by decide) c_)
          refine lv_iconst (v := 1) hx hb dX6_inBag_42 (by decide) ?_
          refine lv_goto (tgt := 47) hx hb dX6_inBag_43 (by decide) ?_
          refine lv_iadd hx hb dX6_inBag_47 ?_
          refine lv_istore_n (lv' := [(3, .int (acc + 1)), (0, .ref (rf 0)), (1, .int c), (2, .int 0), (4, .int (nI i))]) hx hb dX6_inBag_48 rfl hl (by decide) rfl (fun ls hl => ?_)
          refine lv_iinc (v := nI (i + 1)) (lv' := [(4, .int (nI (i + 1))), (3, .int (acc + 1)), (0, .ref (rf 0)), (1, .int c), (2, .int 0)]) hx hb dX6_inBag_49 hl (k := 4) rfl (nI_1 i) (by decide) rfl (fun ls hl => ?_)
          refine lv_goto (tgt := 5) hx hb dX6_inBag_52 (by decide) ?_
          exact ih5 (i + 1) (acc + 1) (by omega) (by omega) (sm_t haacc (b2_t c_23)) ls (lv_sub hl [2, 3, 4, 0, 1] rfl)
  exact loop5 (nR σ + 1 - 0) 0 0 (by omega) (by omega) rfl ls (lv_sub hl [2, 3, 4, 0, 1] rfl)

/-! inBag 1 -/
set_option maxHeartbeats 4000000 in
set_option maxRecDepth 100000 in
theorem c_X6_inBag1 (l : Launch) (D : va_G) (ct : Nat → ClassId) (Z : Nat → Prop) (σ : Stt) (th : Int32) (bst : Nat → Int64) (rf : Nat → Nat) (c : Int32) (hR1 : σ 0 3 = nI (nR σ)) (hR60 : nR σ ≤ 60) : Met l yX6_inBag (.code yX6_inBag cX6_inBag 5 (some .int) :: GW) ({ frames := 1, cells := 0, slots := 0, locals := 22 } : Room) (va_Pc [.ref (rf 0), .int c, .int 1] (fun U => GT D ct U ∧ RP D ct Z σ th bst rf U.heap)) (qP (some (.int (hidB σ c)))) 0 0 nF := by
  refine m_in (cc := cX6_inBag) [.ref (rf 0), .int c, .int 1] "RumourCustomsModel" rfl (by decide) (Nat.le_of_ble_eq_true rfl) ?_
  intro pg e s m args below meth cd ls hx hb hml hown hts hr hlocks hin hPr hl
  obtain ⟨hT, hP⟩ := hPr
  have hl : lv_has ls 5 [(0, .ref (rf 0)), (1, .int c), (2, .int 1)] := hl
  refine lv_iconst (v := 0) hx hb dX6_inBag_0 (by decide) ?_
  refine lv_istore_n (lv' := [(3, .int 0), (0, .ref (rf 0)), (1, .int c), (2, .int 1)]) hx hb dX6_inBag_1 rfl hl (by decide) rfl (fun ls hl => ?_)
  refine lv_iconst (v := 0) hx hb dX6_inBag_2 (by decide) ?_
  refine lv_istore (lv' := [(4, .int 0), (3, .int 0), (0, .ref (rf 0)), (1, .int c), (2, .int 1)]) hx hb dX6_inBag_3 hl (by decide) rfl (fun ls hl => ?_)
  have loop5 : ∀ (n5 i : Nat) (acc : Int32), i ≤ nR σ → nR σ - i < n5 → acc = sm (fun r => b2 (σ 1 (7 * r + 6) = 1 ∧ σ 1 (7 * r + 5) = c)) i → ∀ ls, lv_has ls 5 [(0, .ref (rf 0)), (1, .int c), (2, .int 1), (4, .int (nI i)), (3, .int acc)] → W pg l e ({ frames := 1, cells := 0, slots := 0, locals := 22 } : Room) s m args below meth cd s.heap [] 0 0 (MQ below (qP (some (.int (hidB σ c)))) args s 0 0 nF) (F0 m 5 ls []) := by
    intro n5
    induction n5 with
    | zero => intro i acc _ z; omega
    | succ n5 ih5 =>
      intro i acc hi5 hn5 haacc ls hl
      refine lv_iload hx hb dX6_inBag_5 (lv_at hl 3 rfl) ?_
      refine lv_aload_n hx hb dX6_inBag_7 rfl (lv_at hl 0 rfl) ?_
      refine k_get (C := RX6) (T := TX6) (N := 14) hx hb hts inGX6 hown (hT).1 hP.o rfl 4 (by decide) (hts _ w_876) (fun _ h9 => h9) (v := .int (σ 0 3)) rfl dX6_inBag_8 ?_
      rw [hR1]
      refine lv_icmp_ge (tgt := 55) hx hb dX6_inBag_11 (by decide) (fun c_11 => ?_) (fun c_11 => ?_)
      · -- taken
        have nc_11 : (nR σ) ≤ i := (nI_leI (a := (nR σ)) (b := i) (by omega) (by omega)).mp c_11
        have he5 : i = nR σ := by omega
        refine lv_iload_n hx hb dX6_inBag_55 rfl (lv_at hl 4 rfl) ?_
        exact W.iret (v := acc) hx hb hr (fun t ht hW => ⟨rvi (by rw [haacc, he5]; rfl), ht⟩) (fun q h => nomatch h) dX6_inBag_56
      · -- not taken
        have nc_11 : ¬ (nR σ) ≤ i := fun z => c_11 ((nI_leI (a := (nR σ)) (b := i) (by omega) (by omega)).mpr z)
        have hlt5 : i < nR σ := by omega
        refine lv_iload_n hx hb dX6_inBag_14 rfl (lv_at hl 4 rfl) ?_
        refine lv_aload_n hx hb dX6_inBag_15 rfl (lv_at hl 0 rfl) ?_
        refine lv_iload hx hb dX6_inBag_16 (lv_at hl 3 rfl) ?_
        refine lv_iconst (v := 5) hx hb dX6_inBag_18 (by decide) ?_
        refine c_p1 (va_runV (As := [.int (nI i), .int 5]) (rest := [.int acc]) ⟨hx, hb, hml, hown, hts⟩ (c_X6_get l D ct Z σ th bst rf i 5 5 (by omega) rfl (by decide)) (cwV 2 hts (GG w_965 w_967 w_39 w_65 w_968) rfl rfl rfl (by decide) ⟨Nat.le_of_ble_eq_true rfl, Nat.le_of_ble_eq_true rfl⟩) ⟨(blindT fun _ _ _ _ h => h), Ob.recv (hT).1 hP.o rfl, fun U hU hW => ⟨rfl, hT.warm hW, by rw [hU]; exact hP⟩⟩ rfl rfl hl.1 rfl (lv_room (Nat.le_of_ble_eq_true rfl)) dX6_inBag_19 ⟨Nat.le_of_ble_eq_true rfl, Nat.le_of_ble_eq_true rfl⟩) ?_
        refine lv_iload_n hx hb dX6_inBag_22 rfl (lv_at hl 1 rfl) ?_
        refine lv_icmp_ne (tgt := 46) hx hb dX6_inBag_23 (by decide) (fun c_23 => ?_) (fun c_23 => ?_)
        · -- taken
          refine lv_iconst (v := 0) hx hb dX6_inBag_46 (by decide) ?_
          refine lv_iadd hx hb dX6_inBag_47 ?_
          refine lv_istore_n (lv' := [(3, .int (acc + 0)), (0, .ref (rf 0)), (1, .int c), (2, .int 1), (4, .int (nI i))]) hx hb dX6_inBag_48 rfl hl (by decide) rfl (fun ls hl => ?_)
          refine lv_iinc (v := nI (i + 1)) (lv' := [(4, .int (nI (i + 1))), (3, .int (acc + 0)), (0, .ref (rf 0)), (1, .int c), (2, .int 1)]) hx hb dX6_inBag_49 hl (k := 4) rfl (nI_1 i) (by decide) rfl (fun ls hl => ?_)
          refine lv_goto (tgt := 5) hx hb dX6_inBag_52 (by decide) ?_
          exact ih5 (i + 1) (acc + 0) (by omega) (by omega) (sm_t haacc (b2_f (fun z => c_23 z.2))) ls (lv_sub hl [2, 3, 4, 0, 1] rfl)
        · -- not taken
          refine lv_iload_n hx hb dX6_inBag_26 rfl (lv_at hl 2 rfl) ?_
          refine lv_if_eq (tgt := 42) hx hb dX6_inBag_27 (by decide) (fun c_ => absurd c_ (by decide)) (fun _ => ?_)
          refine lv_aload_n hx hb dX6_inBag_30 rfl (lv_at hl 0 rfl) ?_
          refine lv_iload hx hb dX6_inBag_31 (lv_at hl 3 rfl) ?_
          refine lv_bipush (v := 6) hx hb dX6_inBag_33 (by decide) ?_
          refine c_p1 (va_runV (As := [.int (nI i), .int 6]) (rest := [.int acc]) ⟨hx, hb, hml, hown, hts⟩ (c_X6_get l D ct Z σ th bst rf i 6 6 (by omega) rfl (by decide)) (cwV 2 hts (GG w_965 w_967 w_39 w_65 w_968) rfl rfl rfl (by decide) ⟨Nat.le_of_ble_eq_true rfl, Nat.le_of_ble_eq_true rfl⟩) ⟨(blindT fun _ _ _ _ h => h), Ob.recv (hT).1 hP.o rfl, fun U hU hW => ⟨rfl, hT.warm hW, by rw [hU]; exact hP⟩⟩ rfl rfl hl.1 rfl (lv_room (Nat.le_of_ble_eq_true rfl)) dX6_inBag_35 ⟨Nat.le_of_ble_eq_true rfl, Nat.le_of_ble_eq_true rfl⟩) ?_
          refine lv_iconst (v := 1) hx hb dX6_inBag_38 (by decide) ?_
          refine lv_icmp_ne (tgt := 46) hx hb dX6_inBag_39 (by decide) (fun c_39 => ?_) (fun c_39 => ?_)
          · -- taken
            refine lv_iconst (v := 0) hx hb dX6_inBag_46 (by decide) ?_
            refine lv_iadd hx hb dX6_inBag_47 ?_
            refine lv_istore_n (lv' := [(3, .int (acc + 0)), (0, .ref (rf 0)), (1, .int c), (2, .int 1), (4, .int (nI i))]) hx hb dX6_inBag_48 rfl hl (by decide) rfl (fun ls hl => ?_)
            refine lv_iinc (v := nI (i + 1)) (lv' := [(4, .int (nI (i + 1))), (3, .int (acc + 0)), (0, .ref (rf 0)), (1, .int c), (2, .int 1)]) hx hb dX6_inBag_49 hl (k := 4) rfl (nI_1 i) (by decide) rfl (fun ls hl => ?_)
            refine lv_goto (tgt := 5) hx hb dX6_inBag_52 (by decide) ?_
            exact ih5 (i + 1) (acc + 0) (by omega) (by omega) (sm_t haacc (b2_f (fun z => c_39 z.1))) ls (lv_sub hl [2, 3, 4, 0, 1] rfl)
          · -- not taken
            refine lv_iconst (v := 1) hx hb dX6_inBag_42 (by decide) ?_
            refine lv_goto (tgt := 47) hx hb dX6_inBag_43 (by decide) ?_
            refine lv_iadd hx hb dX6_inBag_47 ?_
            refine lv_istore_n (lv' := [(3, .int (acc + 1)), (0, .ref (rf 0)), (1, .int c), (2, .int 1), (4, .int (nI i))]) hx hb dX6_inBag_48 rfl hl (by decide) rfl (fun ls hl => ?_)
            refine lv_iinc (v := nI (i + 1)) (lv' := [(4, .int (nI (i + 1))), (3, .int (acc + 1)), (0, .ref (rf 0)), (1, .int c), (2, .int 1)]) hx hb dX6_inBag_49 hl (k := 4) rfl (nI_1 i) (by decide) rfl (fun ls hl => ?_)
            refine lv_goto (tgt := 5) hx hb dX6_inBag_52 (by decide) ?_
            exact ih5 (i + 1) (acc + 1) (by omega) (by omega) (sm_t haacc (b2_t ⟨c_39, c_23⟩)) ls (lv_sub hl [2, 3, 4, 0, 1] rfl)
  exact loop5 (nR σ + 1 - 0) 0 0 (by omega) (by omega) rfl ls (lv_sub hl [2, 3, 4, 0, 1] rfl)

/-! gone -/
set_option maxHeartbeats 4000000 in
set_option maxRecDepth 100000 in
theorem c_X6_gone (l : Launch) (D : va_G) (ct : Nat → ClassId) (Z : Nat → Prop) (σ : Stt) (th : Int32) (bst : Nat → Int64) (rf : Nat → Nat) (hR1 : σ 0 3 = nI (nR σ)) (hR60 : nR σ ≤ 60) : Met l yX6_gone (.code yX6_gone cX6_gone 3 (some .int) :: GW) ({ frames := 1, cells := 0, slots := 0, locals := 22 } : Room) (va_Pc [.ref (rf 0)] (fun U => GT D ct U ∧ RP D ct Z σ th bst rf U.heap)) (qP (some (.int (goneS σ)))) 0 0 nF := by
  refine m_in (cc := cX6_gone) [.ref (rf 0)] "RumourCustomsModel" rfl (by decide) (Nat.le_of_ble_eq_true rfl) ?_
  intro pg e s m args below meth cd ls hx hb hml hown hts hr hlocks hin hPr hl
  obtain ⟨hT, hP⟩ := hPr
  have hl : lv_has ls 3 [(0, .ref (rf 0))] := hl
  refine lv_iconst (v := 0) hx hb dX6_gone_0 (by decide) ?_
  refine lv_istore_n (lv' := [(1, .int 0), (0, .ref (rf 0))]) hx hb dX6_gone_1 rfl hl (by decide) rfl (fun ls hl => ?_)
  refine lv_iconst (v := 0) hx hb dX6_gone_2 (by decide) ?_
  refine lv_istore_n (lv' := [(2, .int 0), (1, .int 0), (0, .ref (rf 0))]) hx hb dX6_gone_3 rfl hl (by decide) rfl (fun ls hl => ?_)
  have loop4 : ∀ (n4 i : Nat) (acc : Int32), i ≤ nR σ → nR σ - i < n4 → acc = sm (fun r => b2 (σ 1 (7 * r + 4) = -1 ∧ σ 1 (7 * r + 5) = -1)) i → ∀ ls, lv_has ls 3 [(0, .ref (rf 0)), (2, .int (nI i)), (1, .int acc)] → W pg l e ({ frames := 1, cells := 0, slots := 0, locals := 22 } : Room) s m args below meth cd s.heap [] 0 0 (MQ below (qP (some (.int (goneS σ)))) args s 0 0 nF) (F0 m 4 ls []) := by
    intro n4
    induction n4 with
    | zero => intro i acc _ z; omega
    | succ n4 ih4 =>
      intro i acc hi4 hn4 haacc ls hl
      refine lv_iload_n hx hb dX6_gone_4 rfl (lv_at hl 1 rfl) ?_
      refine lv_aload_n hx hb dX6_gone_5 rfl (lv_at hl 0 rfl) ?_
      refine k_get (C := RX6) (T := TX6) (N := 14) hx hb hts inGX6 hown (hT).1 hP.o rfl 4 (by decide) (hts _ w_876) (fun _ h9 => h9) (v := .int (σ 0 3)) rfl dX6_gone_6 ?_
      rw [hR1]
      refine lv_icmp_ge (tgt := 46) hx hb dX6_gone_9 (by decide) (fun c_9 => ?_) (fun c_9 => ?_)
      · -- taken
        have nc_9 : (nR σ) ≤ i := (nI_leI (a := (nR σ)) (b := i) (by omega) (by omega)).mp c_9
        have he4 : i = nR σ := by omega
        refine lv_iload_n hx hb dX6_gone_46 rfl (lv_at hl 2 rfl) ?_
        exact W.iret (v := acc) hx hb hr (fun t ht hW => ⟨rvi (by rw [haacc, he4]; rfl), ht⟩) (fun q h => nomatch h) dX6_gone_47
      · -- not taken
        have nc_9 : ¬ (nR σ) ≤ i := fun z => c_9 ((nI_leI (a := (nR σ)) (b := i) (by omega) (by omega)).mpr z)
        have hlt4 : i < nR σ := by omega
        refine lv_iload_n hx hb dX6_gone_12 rfl (lv_at hl 2 rfl) ?_
        refine lv_aload_n hx hb dX6_gone_13 rfl (lv_at hl 0 rfl) ?_
        refine lv_iload_n hx hb dX6_gone_14 rfl (lv_at hl 1 rfl) ?_
        refine lv_iconst (v := 4) hx hb dX6_gone_15 (by decide) ?_
        refine c_p1 (va_runV (As := [.int (nI i), .int 4]) (rest := [.int acc]) ⟨hx, hb, hml, hown, hts⟩ (c_X6_get l D ct Z σ th bst rf i 4 4 (by omega) rfl (by decide)) (cwV 2 hts (GG w_965 w_967 w_39 w_65 w_968) rfl rfl rfl (by decide) ⟨Nat.le_of_ble_eq_true rfl, Nat.le_of_ble_eq_true rfl⟩) ⟨(blindT fun _ _ _ _ h => h), Ob.recv (hT).1 hP.o rfl, fun U hU hW => ⟨rfl, hT.warm hW, by rw [hU]; exact hP⟩⟩ rfl rfl hl.1 rfl (lv_room (Nat.le_of_ble_eq_true rfl)) dX6_gone_16 ⟨Nat.le_of_ble_eq_true rfl, Nat.le_of_ble_eq_true rfl⟩) ?_
        refine lv_iconst (v := (-1)) hx hb dX6_gone_19 (by decide) ?_
        refine lv_icmp_ne (tgt := 37) hx hb dX6_gone_20 (by decide) (fun c_20 => ?_) (fun c_20 => ?_)
        · -- taken
          refine lv_iconst (v := 0) hx hb dX6_gone_37 (by decide) ?_
          refine lv_iadd hx hb dX6_gone_38 ?_
          refine lv_istore_n (lv' := [(1, .int (acc + 0)), (0, .ref (rf 0)), (2, .int (nI i))]) hx hb dX6_gone_39 rfl hl (by decide) rfl (fun ls hl => ?_)
          refine lv_iinc (v := nI (i + 1)) (lv' := [(2, .int (nI (i + 1))), (1, .int (acc + 0)), (0, .ref (rf 0))]) hx hb dX6_gone_40 hl (k := 2) rfl (nI_1 i) (by decide) rfl (fun ls hl => ?_)
          refine lv_goto (tgt := 4) hx hb dX6_gone_43 (by decide) ?_
          exact ih4 (i + 1) (acc + 0) (by omega) (by omega) (sm_t haacc (b2_f (fun z => c_20 z.1))) ls (lv_sub hl [2, 0, 1] rfl)
        · -- not taken
          refine lv_aload_n hx hb dX6_gone_23 rfl (lv_at hl 0 rfl) ?_
          refine lv_iload_n hx hb dX6_gone_24 rfl (lv_at hl 1 rfl) ?_
          refine lv_iconst (v := 5) hx hb dX6_gone_25 (by decide) ?_
          refine c_p1 (va_runV (As := [.int (nI i), .int 5]) (rest := [.int acc]) ⟨hx, hb, hml, hown, hts⟩ (c_X6_get l D ct Z σ th bst rf i 5 5 (by omega) rfl (by decide)) (cwV 2 hts (GG w_965 w_967 w_39 w_65 w_968) rfl rfl rfl (by decide) ⟨Nat.le_of_ble_eq_true rfl, Nat.le_of_ble_eq_true rfl⟩) ⟨(blindT fun _ _ _ _ h => h), Ob.recv (hT).1 hP.o rfl, fun U hU hW => ⟨rfl, hT.warm hW, by rw [hU]; exact hP⟩⟩ rfl rfl hl.1 rfl (lv_room (Nat.le_of_ble_eq_true rfl)) dX6_gone_26 ⟨Nat.le_of_ble_eq_true rfl, Nat.le_of_ble_eq_true rfl⟩) ?_
          refine lv_iconst (v := (-1)) hx hb dX6_gone_29 (by decide) ?_
          refine lv_icmp_ne (tgt := 37) hx hb dX6_gone_30 (by decide) (fun c_30 => ?_) (fun c_30 => ?_)
          · -- taken
            refine lv_iconst (v := 0) hx hb dX6_gone_37 (by decide) ?_
            refine lv_iadd hx hb dX6_gone_38 ?_
            refine lv_istore_n (lv' := [(1, .int (acc + 0)), (0, .ref (rf 0)), (2, .int (nI i))]) hx hb dX6_gone_39 rfl hl (by decide) rfl (fun ls hl => ?_)
            refine lv_iinc (v := nI (i + 1)) (lv' := [(2, .int (nI (i + 1))), (1, .int (acc + 0)), (0, .ref (rf 0))]) hx hb dX6_gone_40 hl (k := 2) rfl (nI_1 i) (by decide) rfl (fun ls hl => ?_)
            refine lv_goto (tgt := 4) hx hb dX6_gone_43 (by decide) ?_
            exact ih4 (i + 1) (acc + 0) (by omega) (by omega) (sm_t haacc (b2_f (fun z => c_30 z.2))) ls (lv_sub hl [2, 0, 1] rfl)
          · -- not taken
            refine lv_iconst (v := 1) hx hb dX6_gone_33 (by decide) ?_
            refine lv_goto (tgt := 38) hx hb dX6_gone_34 (by decide) ?_
            refine lv_iadd hx hb dX6_gone_38 ?_
            refine lv_istore_n (lv' := [(1, .int (acc + 1)), (0, .ref (rf 0)), (2, .int (nI i))]) hx hb dX6_gone_39 rfl hl (by decide) rfl (fun ls hl => ?_)
            refine lv_iinc (v := nI (i + 1)) (lv' := [(2, .int (nI (i + 1))), (1, .int (acc + 1)), (0, .ref (rf 0))]) hx hb dX6_gone_40 hl (k := 2) rfl (nI_1 i) (by decide) rfl (fun ls hl => ?_)
            refine lv_goto (tgt := 4) hx hb dX6_gone_43 (by decide) ?_
            exact ih4 (i + 1) (acc + 1) (by omega) (by omega) (sm_t haacc (b2_t ⟨c_20, c_30⟩)) ls (lv_sub hl [2, 0, 1] rfl)
  exact loop4 (nR σ + 1 - 0) 0 0 (by omega) (by omega) rfl ls (lv_sub hl [2, 0, 1] rfl)

/-! dutyAt -/
set_option maxHeartbeats 4000000 in
set_option maxRecDepth 100000 in
theorem c_X6_dutyAt (l : Launch) (D : va_G) (ct : Nat → ClassId) (Z : Nat → Prop) (σ : Stt) (th : Int32) (bst : Nat → Int64) (rf : Nat → Nat) (rd : Int32) (r : Nat) (b : Int32) (k : Nat) (hrd : rd = nI (7 * k)) (hk : k < 100) (hrn : r < 60) : Met l yX6_dutyAt (.code yX6_dutyAt cX6_dutyAt 4 (some .int) :: GW) ({ frames := 1, cells := 0, slots := 0, locals := 22 } : Room) (va_Pc [.ref (rf 0), .int rd, .int (nI r), .int b] (fun U => GT D ct U ∧ RP D ct Z σ th bst rf U.heap)) (qP (some (.int (duty σ k r b)))) 0 0 nF := by
  refine m_in (cc := cX6_dutyAt) [.ref (rf 0), .int rd, .int (nI r), .int b] "RumourCustomsModel" rfl (by decide) (Nat.le_of_ble_eq_true rfl) ?_
  intro pg e s m args below meth cd ls hx hb hml hown hts hr hlocks hin hPr hl
  obtain ⟨hT, hP⟩ := hPr
  have hl : lv_has ls 4 [(0, .ref (rf 0)), (1, .int rd), (2, .int (nI r)), (3, .int b)] := hl
  refine lv_aload_n hx hb dX6_dutyAt_0 rfl (lv_at hl 0 rfl) ?_
  refine k_get (C := RX6) (T := TX6) (N := 14) hx hb hts inGX6 hown (hT).1 hP.o rfl 10 (by decide) (hts _ w_882) (fun _ h9 => h9) (v := .ref (rf 1)) rfl dX6_dutyAt_1 ?_
  refine lv_iload_n hx hb dX6_dutyAt_4 rfl (lv_at hl 1 rfl) ?_
  rw [hrd]
  refine lv_iconst (v := 2) hx hb dX6_dutyAt_5 (by decide) ?_
  refine lv_iadd hx hb dX6_dutyAt_6 ?_
  refine k_iald hx hb (hT).1 hP.a1 (by rw [(ix_add (rfl : nI (7 * k) = nI (7 * k)) (rfl : (2 : Int32) = nI 2))]; exact vp_in_nI (by omega : (7 * k) + 2 < 700) (by decide)) dX6_dutyAt_7 ?_
  rw [show ((nI (7 * k)) + 2 : Int32).toNatClampNeg = (7 * k) + 2 from (congrArg Int32.toNatClampNeg (ix_add (rfl : nI (7 * k) = nI (7 * k)) (rfl : (2 : Int32) = nI 2))).trans (nI_clamp (by omega : (7 * k) + 2 < 2 ^ 31))]
  refine lv_aload_n hx hb dX6_dutyAt_8 rfl (lv_at hl 0 rfl) ?_
  refine lv_iload_n hx hb dX6_dutyAt_9 rfl (lv_at hl 2 rfl) ?_
  refine lv_iconst (v := 0) hx hb dX6_dutyAt_10 (by decide) ?_
  refine c_p1 (va_runV (As := [.int (nI r), .int 0]) (rest := [.int (σ 3 ((7 * k) + 2))]) ⟨hx, hb, hml, hown, hts⟩ (c_X6_get l D ct Z σ th bst rf r 0 0 (by omega) rfl (by decide)) (cwV 2 hts (GG w_965 w_967 w_39 w_65 w_968) rfl rfl rfl (by decide) ⟨Nat.le_of_ble_eq_true rfl, Nat.le_of_ble_eq_true rfl⟩) ⟨(blindT fun _ _ _ _ h => h), Ob.recv (hT).1 hP.o rfl, fun U hU hW => ⟨rfl, hT.warm hW, by rw [hU]; exact hP⟩⟩ rfl rfl hl.1 rfl (lv_room (Nat.le_of_ble_eq_true rfl)) dX6_dutyAt_11 ⟨Nat.le_of_ble_eq_true rfl, Nat.le_of_ble_eq_true rfl⟩) ?_
  rw [Nat.add_zero (7 * r)]
  refine lv_imul hx hb dX6_dutyAt_14 ?_
  refine lv_aload_n hx hb dX6_dutyAt_15 rfl (lv_at hl 0 rfl) ?_
  refine k_get (C := RX6) (T := TX6) (N := 14) hx hb hts inGX6 hown (hT).1 hP.o rfl 10 (by decide) (hts _ w_882) (fun _ h9 => h9) (v := .ref (rf 1)) rfl dX6_dutyAt_16 ?_
  refine lv_iload_n hx hb dX6_dutyAt_19 rfl (lv_at hl 1 rfl) ?_
  rw [hrd]
  refine lv_iconst (v := 3) hx hb dX6_dutyAt_20 (by decide) ?_
  refine lv_iadd hx hb dX6_dutyAt_21 ?_
  refine k_iald hx hb (hT).1 hP.a1 (by rw [(ix_add (rfl : nI (7 * k) = nI (7 * k)) (rfl : (3 : Int32) = nI 3))]; exact vp_in_nI (by omega : (7 * k) + 3 < 700) (by decide)) dX6_dutyAt_22 ?_
  rw [show ((nI (7 * k)) + 3 : Int32).toNatClampNeg = (7 * k) + 3 from (congrArg Int32.toNatClampNeg (ix_add (rfl : nI (7 * k) = nI (7 * k)) (rfl : (3 : Int32) = nI 3))).trans (nI_clamp (by omega : (7 * k) + 3 < 2 ^ 31))]
  refine lv_aload_n hx hb dX6_dutyAt_23 rfl (lv_at hl 0 rfl) ?_
  refine lv_iload_n hx hb dX6_dutyAt_24 rfl (lv_at hl 2 rfl) ?_
  refine lv_iconst (v := 1) hx hb dX6_dutyAt_25 (by decide) ?_
  refine c_p1 (va_runV (As := [.int (nI r), .int 1]) (rest := [.int (σ 3 ((7 * k) + 3)), .int ((σ 3 ((7 * k) + 2)) * (σ 1 (7 * r)))]) ⟨hx, hb, hml, hown, hts⟩ (c_X6_get l D ct Z σ th bst rf r 1 1 (by omega) rfl (by decide)) (cwV 2 hts (GG w_965 w_967 w_39 w_65 w_968) rfl rfl rfl (by decide) ⟨Nat.le_of_ble_eq_true rfl, Nat.le_of_ble_eq_true rfl⟩) ⟨(blindT fun _ _ _ _ h => h), Ob.recv (hT).1 hP.o rfl, fun U hU hW => ⟨rfl, hT.warm hW, by rw [hU]; exact hP⟩⟩ rfl rfl hl.1 rfl (lv_room (Nat.le_of_ble_eq_true rfl)) dX6_dutyAt_26 ⟨Nat.le_of_ble_eq_true rfl, Nat.le_of_ble_eq_true rfl⟩) ?_
  refine lv_imul hx hb dX6_dutyAt_29 ?_
  refine lv_iadd hx hb dX6_dutyAt_30 ?_
  refine lv_iload_n hx hb dX6_dutyAt_31 rfl (lv_at hl 3 rfl) ?_
  refine lv_ishr hx hb dX6_dutyAt_32 ?_
  exact W.iret (v := (((σ 3 ((7 * k) + 2)) * (σ 1 (7 * r))) + ((σ 3 ((7 * k) + 3)) * (σ 1 (7 * r + 1)))) >>> (b &&& 31)) hx hb hr (fun t ht hW => ⟨rvi rfl, ht⟩) (fun q h => nomatch h) dX6_dutyAt_33

/-! owed -/
set_option maxHeartbeats 4000000 in
set_option maxRecDepth 100000 in
theorem c_X6_owed (l : Launch) (D : va_G) (ct : Nat → ClassId) (Z : Nat → Prop) (σ : Stt) (th : Int32) (bst : Nat → Int64) (rf : Nat → Nat) (c : Int32) (k7 : Nat) (b : Int32) (k : Nat) (hR1 : σ 0 3 = nI (nR σ)) (hR60 : nR σ ≤ 60) (hk : k < 100) (hk7 : k7 = 7 * k) : Met l yX6_owed (.code yX6_owed cX6_owed 6 (some .int) :: GW) ({ frames := 2, cells := 0, slots := 0, locals := 45 } : Room) (va_Pc [.ref (rf 0), .int c, .int (nI k7), .int b] (fun U => GT D ct U ∧ RP D ct Z σ th bst rf U.heap)) (qP (some (.int (owedS σ c k b)))) 0 0 nF := by
  refine m_in (cc := cX6_owed) [.ref (rf 0), .int c, .int (nI k7), .int b] "RumourCustomsModel" rfl (by decide) (Nat.le_of_ble_eq_true rfl) ?_
  intro pg e s m args below meth cd ls hx hb hml hown hts hr hlocks hin hPr hl
  obtain ⟨hT, hP⟩ := hPr
  have hl : lv_has ls 6 [(0, .ref (rf 0)), (1, .int c), (2, .int (nI k7)), (3, .int b)] := hl
  subst hk7
  refine lv_iconst (v := 0) hx hb dX6_owed_0 (by decide) ?_
  refine lv_istore (lv' := [(4, .int 0), (0, .ref (rf 0)), (1, .int c), (2, .int (nI (7 * k))), (3, .int b)]) hx hb dX6_owed_1 hl (by decide) rfl (fun ls hl => ?_)
  refine lv_iconst (v := 0) hx hb dX6_owed_3 (by decide) ?_
  refine lv_istore (lv' := [(5, .int 0), (4, .int 0), (0, .ref (rf 0)), (1, .int c), (2, .int (nI (7 * k))), (3, .int b)]) hx hb dX6_owed_4 hl (by decide) rfl (fun ls hl => ?_)
  have loop6 : ∀ (n6 i : Nat) (acc : Int32), i ≤ nR σ → nR σ - i < n6 → acc = sm (owedF σ c k b) i → ∀ ls, lv_has ls 6 [(0, .ref (rf 0)), (1, .int c), (2, .int (nI (7 * k))), (3, .int b), (5, .int (nI i)), (4, .int acc)] → W pg l e ({ frames := 2, cells := 0, slots := 0, locals := 45 } : Room) s m args below meth cd s.heap [] 0 0 (MQ below (qP (some (.int (owedS σ c k b)))) args s 0 0 nF) (F0 m 6 ls []) := by
    intro n6
    induction n6 with
    | zero => intro i acc _ z; omega
    | succ n6 ih6 =>
      intro i acc hi6 hn6 haacc ls hl
      refine lv_iload hx hb dX6_owed_6 (lv_at hl 4 rfl) ?_
      refine lv_aload_n hx hb dX6_owed_8 rfl (lv_at hl 0 rfl) ?_
      refine k_get (C := RX6) (T := TX6) (N := 14) hx hb hts inGX6 hown (hT).1 hP.o rfl 4 (by decide) (hts _ w_876) (fun _ h9 => h9) (v := .int (σ 0 3)) rfl dX6_owed_9 ?_
      rw [hR1]
      refine lv_icmp_ge (tgt := 65) hx hb dX6_owed_12 (by decide) (fun c_12 => ?_) (fun c_12 => ?_)
      · -- taken
        have nc_12 : (nR σ) ≤ i := (nI_leI (a := (nR σ)) (b := i) (by omega) (by omega)).mp c_12
        have he6 : i = nR σ := by omega
        refine lv_iload hx hb dX6_owed_65 (lv_at hl 5 rfl) ?_
        exact W.iret (v := acc) hx hb hr (fun t ht hW => ⟨rvi (by rw [haacc, he6]; rfl), ht⟩) (fun q h => nomatch h) dX6_owed_67
      · -- not taken
        have nc_12 : ¬ (nR σ) ≤ i := fun z => c_12 ((nI_leI (a := (nR σ)) (b := i) (by omega) (by omega)).mpr z)
        have hlt6 : i < nR σ := by omega
        refine lv_aload_n hx hb dX6_owed_15 rfl (lv_at hl 0 rfl) ?_
        refine lv_iload_n hx hb dX6_owed_16 rfl (lv_at hl 1 rfl) ?_
        refine lv_iload hx hb dX6_owed_17 (lv_at hl 4 rfl) ?_
        refine c_p1 (va_runV (As := [.int c, .int (nI i)]) (rest := []) ⟨hx, hb, hml, hown, hts⟩ (c_X6_has l D ct Z σ th bst rf c i (by omega)) (cwV 2 hts (GG w_1022 w_1024 w_48 w_65 w_1025) rfl rfl rfl (by decide) ⟨Nat.le_of_ble_eq_true rfl, Nat.le_of_ble_eq_true rfl⟩) ⟨(blindT fun _ _ _ _ h => h), Ob.recv (hT).1 hP.o rfl, fun U hU hW => ⟨rfl, hT.warm hW, by rw [hU]; exact hP⟩⟩ rfl rfl hl.1 rfl (lv_room (Nat.le_of_ble_eq_true rfl)) dX6_owed_19 ⟨Nat.le_of_ble_eq_true rfl, Nat.le_of_ble_eq_true rfl⟩) ?_
        refine lv_if_eq (tgt := 59) hx hb dX6_owed_22 (by decide) (fun c_22 => ?_) (fun c_22 => ?_)
        · -- taken
          replace c_22 := b2_z c_22
          refine lv_iinc (v := nI (i + 1)) (lv' := [(5, .int (nI (i + 1))), (0, .ref (rf 0)), (1, .int c), (2, .int (nI (7 * k))), (3, .int b), (4, .int acc)]) hx hb dX6_owed_59 hl (k := 4) rfl (nI_1 i) (by decide) rfl (fun ls hl => ?_)
          refine lv_goto (tgt := 6) hx hb dX6_owed_62 (by decide) ?_
          exact ih6 (i + 1) acc (by omega) (by omega) (sm_z haacc (if_neg (fun z => c_22 z.2))) ls (lv_sub hl [1, 2, 3, 4, 0, 5] rfl)
        · -- not taken
          replace c_22 := b2_nz c_22
          refine lv_aload_n hx hb dX6_owed_25 rfl (lv_at hl 0 rfl) ?_
          refine lv_iload hx hb dX6_owed_26 (lv_at hl 4 rfl) ?_
          refine lv_bipush (v := 6) hx hb dX6_owed_28 (by decide) ?_
          refine c_p1 (va_runV (As := [.int (nI i), .int 6]) (rest := []) ⟨hx, hb, hml, hown, hts⟩ (c_X6_get l D ct Z σ th bst rf i 6 6 (by omega) rfl (by decide)) (cwV 2 hts (GG w_965 w_967 w_39 w_65 w_968) rfl rfl rfl (by decide) ⟨Nat.le_of_ble_eq_true rfl, Nat.le_of_ble_eq_true rfl⟩) ⟨(blindT fun _ _ _ _ h => h), Ob.recv (hT).1 hP.o rfl, fun U hU hW => ⟨rfl, hT.warm hW, by rw [hU]; exact hP⟩⟩ rfl rfl hl.1 rfl (lv_room (Nat.le_of_ble_eq_true rfl)) dX6_owed_30 ⟨Nat.le_of_ble_eq_true rfl, Nat.le_of_ble_eq_true rfl⟩) ?_
          refine lv_if_ne (tgt := 59) hx hb dX6_owed_33 (by decide) (fun c_33 => ?_) (fun c_33 => ?_)
          · -- taken
            refine lv_iinc (v := nI (i + 1)) (lv' := [(5, .int (nI (i + 1))), (0, .ref (rf 0)), (1, .int c), (2, .int (nI (7 * k))), (3, .int b), (4, .int acc)]) hx hb dX6_owed_59 hl (k := 4) rfl (nI_1 i) (by decide) rfl (fun ls hl => ?_)
            refine lv_goto (tgt := 6) hx hb dX6_owed_62 (by decide) ?_
            exact ih6 (i + 1) acc (by omega) (by omega) (sm_z haacc (if_neg (fun z => c_33 z.1))) ls (lv_sub hl [1, 2, 3, 4, 0, 5] rfl)
          · -- not taken
            refine lv_iload hx hb dX6_owed_36 (lv_at hl 5 rfl) ?_
            refine lv_aload_n hx hb dX6_owed_38 rfl (lv_at hl 0 rfl) ?_
            refine lv_iload_n hx hb dX6_owed_39 rfl (lv_at hl 2 rfl) ?_
            refine lv_iload hx hb dX6_owed_40 (lv_at hl 4 rfl) ?_
            refine lv_iload_n hx hb dX6_owed_42 rfl (lv_at hl 3 rfl) ?_
            refine lv_aload_n hx hb dX6_owed_43 rfl (lv_at hl 0 rfl) ?_
            refine lv_iload hx hb dX6_owed_44 (lv_at hl 4 rfl) ?_
            refine lv_iconst (v := 2) hx hb dX6_owed_46 (by decide) ?_
            refine c_p1 (va_runV (As := [.int (nI i), .int 2]) (rest := [.int b, .int (nI i), .int (nI (7 * k)), .ref (rf 0), .int acc]) ⟨hx, hb, hml, hown, hts⟩ (c_X6_get l D ct Z σ th bst rf i 2 2 (by omega) rfl (by decide)) (cwV 2 hts (GG w_965 w_967 w_39 w_65 w_968) rfl rfl rfl (by decide) ⟨Nat.le_of_ble_eq_true rfl, Nat.le_of_ble_eq_true rfl⟩) ⟨(blindT fun _ _ _ _ h => h), Ob.recv (hT).1 hP.o rfl, fun U hU hW => ⟨rfl, hT.warm hW, by rw [hU]; exact hP⟩⟩ rfl rfl hl.1 rfl (lv_room (Nat.le_of_ble_eq_true rfl)) dX6_owed_47 ⟨Nat.le_of_ble_eq_true rfl, Nat.le_of_ble_eq_true rfl⟩) ?_
            refine va_mmin hx hb (hml.trans hl.1.symm) hown (hts _ w_942) (hts _ w_551) (hts _ w_73) (hts _ w_552) (Nat.le_of_ble_eq_true rfl) (Nat.le_of_ble_eq_true rfl) (Nat.le_of_ble_eq_true rfl) (Nat.le_of_ble_eq_true rfl) dX6_owed_50 ?_
            refine c_p1 (va_runV (As := [.int (nI (7 * k)), .int (nI i), .int (if (σ 1 (7 * i + 2)) < b then σ 1 (7 * i + 2) else b)]) (rest := [.int acc]) ⟨hx, hb, hml, hown, hts⟩ (c_X6_dutyAt l D ct Z σ th bst rf (nI (7 * k)) i (if (σ 1 (7 * i + 2)) < b then σ 1 (7 * i + 2) else b) k rfl (by omega) (by omega)) (cwV 3 hts (GG w_1042 w_1044 w_50 w_65 w_1045) rfl rfl rfl (by decide) ⟨Nat.le_of_ble_eq_true rfl, Nat.le_of_ble_eq_true rfl⟩) ⟨(blindT fun _ _ _ _ h => h), Ob.recv (hT).1 hP.o rfl, fun U hU hW => ⟨rfl, hT.warm hW, by rw [hU]; exact hP⟩⟩ rfl rfl hl.1 rfl (lv_room (Nat.le_of_ble_eq_true rfl)) dX6_owed_53 ⟨Nat.le_of_ble_eq_true rfl, Nat.le_of_ble_eq_true rfl⟩) ?_
            refine lv_iadd hx hb dX6_owed_56 ?_
            refine lv_istore (lv' := [(4, .int (acc + (duty σ k i (if (σ 1 (7 * i + 2)) < b then σ 1 (7 * i + 2) else b)))), (0, .ref (rf 0)), (1, .int c), (2, .int (nI (7 * k))), (3, .int b), (5, .int (nI i))]) hx hb dX6_owed_57 hl (by decide) rfl (fun ls hl => ?_)
            refine lv_iinc (v := nI (i + 1)) (lv' := [(5, .int (nI (i + 1))), (4, .int (acc + (duty σ k i (if (σ 1 (7 * i + 2)) < b then σ 1 (7 * i + 2) else b)))), (0, .ref (rf 0)), (1, .int c), (2, .int (nI (7 * k))), (3, .int b)]) hx hb dX6_owed_59 hl (k := 5) rfl (nI_1 i) (by decide) rfl (fun ls hl => ?_)
            refine lv_goto (tgt := 6) hx hb dX6_owed_62 (by decide) ?_
            exact ih6 (i + 1) (acc + (duty σ k i (if (σ 1 (7 * i + 2)) < b then σ 1 (7 * i + 2) else b))) (by omega) (by omega) (sm_t haacc (if_pos ⟨c_33, c_22⟩)) ls (lv_sub hl [2, 3, 4, 5, 0, 1] rfl)
  exact loop6 (nR σ + 1 - 0) 0 0 (by omega) (by omega) rfl ls (lv_sub hl [2, 3, 4, 5, 0, 1] rfl)

/-! isSearched -/
set_option maxHeartbeats 4000000 in
set_option maxRecDepth 100000 in
theorem c_X6_isSearched (l : Launch) (D : va_G) (ct : Nat → ClassId) (Z : Nat → Prop) (σ : Stt) (th : Int32) (bst : Nat → Int64) (rf : Nat → Nat) (c : Int32) (k7 k : Nat) (hR1 : σ 0 3 = nI (nR σ)) (hR60 : nR σ ≤ 60) (hk : k < 100) (hk7 : k7 = 7 * k) : Met l yX6_isSearched (.code yX6_isSearched cX6_isSearched 3 (some .boolean) :: GW) ({ frames := 2, cells := 0, slots := 0, locals := 46 } : Room) (va_Pc [.ref (rf 0), .int c, .int (nI k7)] (fun U => GT D ct U ∧ RP D ct Z σ th bst rf U.heap)) (qP (some (.int (b2 (¬ attn σ c k < 10))))) 0 0 nF := by
  refine m_in (cc := cX6_isSearched) [.ref (rf 0), .int c, .int (nI k7)] "RumourCustomsModel" rfl (by decide) (Nat.le_of_ble_eq_true rfl) ?_
  intro pg e s m args below meth cd ls hx hb hml hown hts hr hlocks hin hPr hl
  obtain ⟨hT, hP⟩ := hPr
  have hl : lv_has ls 3 [(0, .ref (rf 0)), (1, .int c), (2, .int (nI k7))] := hl
  subst hk7
  refine lv_aload_n hx hb dX6_isSearched_0 rfl (lv_at hl 0 rfl) ?_
  refine k_get (C := RX6) (T := TX6) (N := 14) hx hb hts inGX6 hown (hT).1 hP.o rfl 10 (by decide) (hts _ w_882) (fun _ h9 => h9) (v := .ref (rf 1)) rfl dX6_isSearched_1 ?_
  refine lv_iload_n hx hb dX6_isSearched_4 rfl (lv_at hl 2 rfl) ?_
  refine lv_iconst (v := 5) hx hb dX6_isSearched_5 (by decide) ?_
  refine lv_iadd hx hb dX6_isSearched_6 ?_
  refine k_iald hx hb (hT).1 hP.a1 (by rw [(ix_add (rfl : nI (7 * k) = nI (7 * k)) (rfl : (5 : Int32) = nI 5))]; exact vp_in_nI (by omega : (7 * k) + 5 < 700) (by decide)) dX6_isSearched_7 ?_
  rw [show ((nI (7 * k)) + 5 : Int32).toNatClampNeg = (7 * k) + 5 from (congrArg Int32.toNatClampNeg (ix_add (rfl : nI (7 * k) = nI (7 * k)) (rfl : (5 : Int32) = nI 5))).trans (nI_clamp (by omega : (7 * k) + 5 < 2 ^ 31))]
  refine lv_aload_n hx hb dX6_isSearched_8 rfl (lv_at hl 0 rfl) ?_
  refine k_get (C := RX6) (T := TX6) (N := 14) hx hb hts inGX6 hown (hT).1 hP.o rfl 10 (by decide) (hts _ w_882) (fun _ h9 => h9) (v := .ref (rf 1)) rfl dX6_isSearched_9 ?_
  refine lv_iload_n hx hb dX6_isSearched_12 rfl (lv_at hl 2 rfl) ?_
  refine lv_iconst (v := 4) hx hb dX6_isSearched_13 (by decide) ?_
  refine lv_iadd hx hb dX6_isSearched_14 ?_
  refine k_iald hx hb (hT).1 hP.a1 (by rw [(ix_add (rfl : nI (7 * k) = nI (7 * k)) (rfl : (4 : Int32) = nI 4))]; exact vp_in_nI (by omega : (7 * k) + 4 < 700) (by decide)) dX6_isSearched_15 ?_
  rw [show ((nI (7 * k)) + 4 : Int32).toNatClampNeg = (7 * k) + 4 from (congrArg Int32.toNatClampNeg (ix_add (rfl : nI (7 * k) = nI (7 * k)) (rfl : (4 : Int32) = nI 4))).trans (nI_clamp (by omega : (7 * k) + 4 < 2 ^ 31))]
  refine lv_iadd hx hb dX6_isSearched_16 ?_
  refine lv_aload_n hx hb dX6_isSearched_17 rfl (lv_at hl 0 rfl) ?_
  refine lv_iload_n hx hb dX6_isSearched_18 rfl (lv_at hl 1 rfl) ?_
  refine lv_iconst (v := 1) hx hb dX6_isSearched_19 (by decide) ?_
  refine c_p1 (va_runV (As := [.int c, .int 1]) (rest := [.int ((σ 3 ((7 * k) + 5)) + (σ 3 ((7 * k) + 4)))]) ⟨hx, hb, hml, hown, hts⟩ (c_X6_inBag1 l D ct Z σ th bst rf c hR1 hR60) (cwV 2 hts (GG w_1006 w_1008 w_45 w_65 w_1009) rfl rfl rfl (by decide) ⟨Nat.le_of_ble_eq_true rfl, Nat.le_of_ble_eq_true rfl⟩) ⟨(blindT fun _ _ _ _ h => h), Ob.recv (hT).1 hP.o rfl, fun U hU hW => ⟨rfl, hT.warm hW, by rw [hU]; exact hP⟩⟩ rfl rfl hl.1 rfl (lv_room (Nat.le_of_ble_eq_true rfl)) dX6_isSearched_20 ⟨Nat.le_of_ble_eq_true rfl, Nat.le_of_ble_eq_true rfl⟩) ?_
  refine lv_iadd hx hb dX6_isSearched_23 ?_
  refine lv_bipush (v := 10) hx hb dX6_isSearched_24 (by decide) ?_
  refine lv_icmp_lt (tgt := 33) hx hb dX6_isSearched_26 (by decide) (fun c_26 => ?_) (fun c_26 => ?_)
  · -- taken
    refine lv_iconst (v := 0) hx hb dX6_isSearched_33 (by decide) ?_
    exact W.zret (v := 0) hx hb hr rfl (fun t ht hW => ⟨rvi ((b2_f (fun z => z c_26)).symm), ht⟩) (fun q h => nomatch h) dX6_isSearched_34
  · -- not taken
    refine lv_iconst (v := 1) hx hb dX6_isSearched_29 (by decide) ?_
    refine lv_goto (tgt := 34) hx hb dX6_isSearched_30 (by decide) ?_
    exact W.zret (v := 1) hx hb hr rfl (fun t ht hW => ⟨rvi ((b2_t c_26).symm), ht⟩) (fun q h => nomatch h) dX6_isSearched_34

theorem sm_3 (f : Nat → Int32) : ∀ n, sm (fun r => 3 * f r) n = 3 * sm f n
  | 0 => rfl
  | n + 1 => by rw [sm_1, sm_1, sm_3 f n, Int32.mul_add]
def h3F (σ : Stt) (c : Int32) (k r : Nat) : Int32 := 3 * hdutF σ c k r
theorem mnmx {x y : Int32} (h : 0 ≤ x) : (if x < (if 0 < y then y else 0) then x else (if 0 < y then y else 0)) = mx 0 (mn x y) := by
  have h' := Int32.le_iff_toInt_le.mp h
  have z0 : (0 : Int32).toInt = 0 := rfl
  unfold mx mn
  by_cases c1 : 0 < y
  · have d1 := Int32.lt_iff_toInt_lt.mp c1
    rw [if_pos c1]
    by_cases c2 : x < y
    · have d2 := Int32.lt_iff_toInt_lt.mp c2
      have c3 : ¬ y < x := fun z => by have := Int32.lt_iff_toInt_lt.mp z; omega
      rw [if_pos c2, if_neg c3]
      by_cases c4 : 0 < x
      · rw [if_pos c4]
      · rw [if_neg c4]
        have d4 : ¬ (0 : Int32).toInt < x.toInt := fun z => c4 (Int32.lt_iff_toInt_lt.mpr z)
        exact Int32.toInt_inj.mp (by omega)
    · have d2 : ¬ x.toInt < y.toInt := fun z => c2 (Int32.lt_iff_toInt_lt.mpr z)
      rw [if_neg c2]
      by_cases c3 : y < x
      · rw [if_pos c3, if_pos c1]
      · have d3 : ¬ y.toInt < x.toInt := fun z => c3 (Int32.lt_iff_toInt_lt.mpr z)
        have e : x = y := Int32.toInt_inj.mp (by omega)
        subst e
        rw [if_neg c3, if_pos c1]
  · have d1 : ¬ (0 : Int32).toInt < y.toInt := fun z => c1 (Int32.lt_iff_toInt_lt.mpr z)
    rw [if_neg c1]
    have c2 : ¬ x < 0 := Int32.not_lt.mpr h
    rw [if_neg c2]
    by_cases c3 : y < x
    · rw [if_pos c3, if_neg c1]
    · have d3 : ¬ y.toInt < x.toInt := fun z => c3 (Int32.lt_iff_toInt_lt.mpr z)
      have e : x = y := Int32.toInt_inj.mp (by omega)
      subst e
      rw [if_neg c3, if_neg c1]

/-! fine -/
set_option maxHeartbeats 4000000 in
set_option maxRecDepth 100000 in
theorem c_X6_fine (l : Launch) (D : va_G) (ct : Nat → ClassId) (Z : Nat → Prop) (σ : Stt) (th : Int32) (bst : Nat → Int64) (rf : Nat → Nat) (c : Int32) (k7 : Nat) (lf : Int32) (k : Nat) (hR1 : σ 0 3 = nI (nR σ)) (hR60 : nR σ ≤ 60) (hk : k < 100) (hk7 : k7 = 7 * k) (h3 : 0 ≤ 3 * hdutS σ c k) : Met l yX6_fine (.code yX6_fine cX6_fine 6 (some .int) :: GW) ({ frames := 3, cells := 0, slots := 0, locals := 68 } : Room) (va_Pc [.ref (rf 0), .int c, .int (nI k7), .int lf] (fun U => GT D ct U ∧ RP D ct Z σ th bst rf U.heap)) (qP (some (.int (fineS σ c k lf)))) 0 0 nF := by
  refine m_in (cc := cX6_fine) [.ref (rf 0), .int c, .int (nI k7), .int lf] "RumourCustomsModel" rfl (by decide) (Nat.le_of_ble_eq_true rfl) ?_
  intro pg e s m args below meth cd ls hx hb hml hown hts hr hlocks hin hPr hl
  obtain ⟨hT, hP⟩ := hPr
  have hl : lv_has ls 6 [(0, .ref (rf 0)), (1, .int c), (2, .int (nI k7)), (3, .int lf)] := hl
  subst hk7
  refine lv_iconst (v := 0) hx hb dX6_fine_0 (by decide) ?_
  refine lv_istore (lv' := [(4, .int 0), (0, .ref (rf 0)), (1, .int c), (2, .int (nI (7 * k))), (3, .int lf)]) hx hb dX6_fine_1 hl (by decide) rfl (fun ls hl => ?_)
  refine lv_iconst (v := 0) hx hb dX6_fine_3 (by decide) ?_
  refine lv_istore (lv' := [(5, .int 0), (4, .int 0), (0, .ref (rf 0)), (1, .int c), (2, .int (nI (7 * k))), (3, .int lf)]) hx hb dX6_fine_4 hl (by decide) rfl (fun ls hl => ?_)
  have loop6 : ∀ (n6 i : Nat) (acc : Int32), i ≤ nR σ → nR σ - i < n6 → acc = sm (h3F σ c k) i → ∀ ls, lv_has ls 6 [(0, .ref (rf 0)), (1, .int c), (2, .int (nI (7 * k))), (3, .int lf), (5, .int (nI i)), (4, .int acc)] → W pg l e ({ frames := 3, cells := 0, slots := 0, locals := 68 } : Room) s m args below meth cd s.heap [] 0 0 (MQ below (qP (some (.int (fineS σ c k lf)))) args s 0 0 nF) (F0 m 6 ls []) := by
    intro n6
    induction n6 with
    | zero => intro i acc _ z; omega
    | succ n6 ih6 =>
      intro i acc hi6 hn6 haacc ls hl
      refine lv_iload hx hb dX6_fine_6 (lv_at hl 4 rfl) ?_
      refine lv_aload_n hx hb dX6_fine_8 rfl (lv_at hl 0 rfl) ?_
      refine k_get (C := RX6) (T := TX6) (N := 14) hx hb hts inGX6 hown (hT).1 hP.o rfl 4 (by decide) (hts _ w_876) (fun _ h9 => h9) (v := .int (σ 0 3)) rfl dX6_fine_9 ?_
      rw [hR1]
      refine lv_icmp_ge (tgt := 58) hx hb dX6_fine_12 (by decide) (fun c_12 => ?_) (fun c_12 => ?_)
      · -- taken
        have nc_12 : (nR σ) ≤ i := (nI_leI (a := (nR σ)) (b := i) (by omega) (by omega)).mp c_12
        have he6 : i = nR σ := by omega
        refine lv_aload_n hx hb dX6_fine_58 rfl (lv_at hl 0 rfl) ?_
        refine lv_iload_n hx hb dX6_fine_59 rfl (lv_at hl 1 rfl) ?_
        refine lv_iload_n hx hb dX6_fine_60 rfl (lv_at hl 2 rfl) ?_
        refine c_p1 (va_runV (As := [.int c, .int (nI (7 * k))]) (rest := []) ⟨hx, hb, hml, hown, hts⟩ (c_X6_isSearched l D ct Z σ th bst rf c (7 * k) k hR1 hR60 (by omega) rfl) (cwV 2 hts (GG w_1050 w_1052 w_52 w_65 w_1053) rfl rfl rfl (by decide) ⟨Nat.le_of_ble_eq_true rfl, Nat.le_of_ble_eq_true rfl⟩) ⟨(blindT fun _ _ _ _ h => h), Ob.recv (hT).1 hP.o rfl, fun U hU hW => ⟨rfl, hT.warm hW, by rw [hU]; exact hP⟩⟩ rfl rfl hl.1 rfl (lv_room (Nat.le_of_ble_eq_true rfl)) dX6_fine_61 ⟨Nat.le_of_ble_eq_true rfl, Nat.le_of_ble_eq_true rfl⟩) ?_
        refine lv_if_eq (tgt := 80) hx hb dX6_fine_64 (by decide) (fun c_64 => ?_) (fun c_64 => ?_)
        · -- taken
          replace c_64 := b2_z c_64
          refine lv_iconst (v := 0) hx hb dX6_fine_80 (by decide) ?_
          exact W.iret (v := 0) hx hb hr (fun t ht hW => ⟨rvi (by unfold fineS; rw [if_pos (Classical.byContradiction c_64)]), ht⟩) (fun q h => nomatch h) dX6_fine_81
        · -- not taken
          replace c_64 := b2_nz c_64
          refine lv_iconst (v := 0) hx hb dX6_fine_67 (by decide) ?_
          refine lv_iload_n hx hb dX6_fine_68 rfl (lv_at hl 3 rfl) ?_
          refine va_mmax hx hb (hml.trans hl.1.symm) hown (hts _ w_943) (hts _ w_520) (hts _ w_73) (hts _ w_521) (Nat.le_of_ble_eq_true rfl) (Nat.le_of_ble_eq_true rfl) (Nat.le_of_ble_eq_true rfl) (Nat.le_of_ble_eq_true rfl) dX6_fine_69 ?_
          refine lv_iload hx hb dX6_fine_72 (lv_at hl 5 rfl) ?_
          refine va_mmin hx hb (hml.trans hl.1.symm) hown (hts _ w_942) (hts _ w_551) (hts _ w_73) (hts _ w_552) (Nat.le_of_ble_eq_true rfl) (Nat.le_of_ble_eq_true rfl) (Nat.le_of_ble_eq_true rfl) (Nat.le_of_ble_eq_true rfl) dX6_fine_74 ?_
          refine lv_goto (tgt := 81) hx hb dX6_fine_77 (by decide) ?_
          exact W.iret (v := if acc < (if 0 < lf then lf else 0) then acc else if 0 < lf then lf else 0) hx hb hr (fun t ht hW => ⟨rvi (by rw [haacc, he6, show sm (h3F σ c k) (nR σ) = 3 * hdutS σ c k from sm_3 _ _]; unfold fineS; rw [if_neg c_64]; exact mnmx h3), ht⟩) (fun q h => nomatch h) dX6_fine_81
      · -- not taken
        have nc_12 : ¬ (nR σ) ≤ i := fun z => c_12 ((nI_leI (a := (nR σ)) (b := i) (by omega) (by omega)).mpr z)
        have hlt6 : i < nR σ := by omega
        refine lv_aload_n hx hb dX6_fine_15 rfl (lv_at hl 0 rfl) ?_
        refine lv_iload_n hx hb dX6_fine_16 rfl (lv_at hl 1 rfl) ?_
        refine lv_iload hx hb dX6_fine_17 (lv_at hl 4 rfl) ?_
        refine c_p1 (va_runV (As := [.int c, .int (nI i)]) (rest := []) ⟨hx, hb, hml, hown, hts⟩ (c_X6_has l D ct Z σ th bst rf c i (by omega)) (cwV 2 hts (GG w_1022 w_1024 w_48 w_65 w_1025) rfl rfl rfl (by decide) ⟨Nat.le_of_ble_eq_true rfl, Nat.le_of_ble_eq_true rfl⟩) ⟨(blindT fun _ _ _ _ h => h), Ob.recv (hT).1 hP.o rfl, fun U hU hW => ⟨rfl, hT.warm hW, by rw [hU]; exact hP⟩⟩ rfl rfl hl.1 rfl (lv_room (Nat.le_of_ble_eq_true rfl)) dX6_fine_19 ⟨Nat.le_of_ble_eq_true rfl, Nat.le_of_ble_eq_true rfl⟩) ?_
        refine lv_if_eq (tgt := 52) hx hb dX6_fine_22 (by decide) (fun c_22 => ?_) (fun c_22 => ?_)
        · -- taken
          replace c_22 := b2_z c_22
          refine lv_iinc (v := nI (i + 1)) (lv' := [(5, .int (nI (i + 1))), (0, .ref (rf 0)), (1, .int c), (2, .int (nI (7 * k))), (3, .int lf), (4, .int acc)]) hx hb dX6_fine_52 hl (k := 4) rfl (nI_1 i) (by decide) rfl (fun ls hl => ?_)
          refine lv_goto (tgt := 6) hx hb dX6_fine_55 (by decide) ?_
          exact ih6 (i + 1) acc (by omega) (by omega) (sm_z haacc (show 3 * hdutF σ c k i = 0 by rw [show hdutF σ c k i = 0 from if_neg (fun z => c_22 z.2)]; rfl)) ls (lv_sub hl [1, 2, 3, 4, 0, 5] rfl)
        · -- not taken
          replace c_22 := b2_nz c_22
          refine lv_aload_n hx hb dX6_fine_25 rfl (lv_at hl 0 rfl) ?_
          refine lv_iload hx hb dX6_fine_26 (lv_at hl 4 rfl) ?_
          refine lv_bipush (v := 6) hx hb dX6_fine_28 (by decide) ?_
          refine c_p1 (va_runV (As := [.int (nI i), .int 6]) (rest := []) ⟨hx, hb, hml, hown, hts⟩ (c_X6_get l D ct Z σ th bst rf i 6 6 (by omega) rfl (by decide)) (cwV 2 hts (GG w_965 w_967 w_39 w_65 w_968) rfl rfl rfl (by decide) ⟨Nat.le_of_ble_eq_true rfl, Nat.le_of_ble_eq_true rfl⟩) ⟨(blindT fun _ _ _ _ h => h), Ob.recv (hT).1 hP.o rfl, fun U hU hW => ⟨rfl, hT.warm hW, by rw [hU]; exact hP⟩⟩ rfl rfl hl.1 rfl (lv_room (Nat.le_of_ble_eq_true rfl)) dX6_fine_30 ⟨Nat.le_of_ble_eq_true rfl, Nat.le_of_ble_eq_true rfl⟩) ?_
          refine lv_iconst (v := 1) hx hb dX6_fine_33 (by decide) ?_
          refine lv_icmp_ne (tgt := 52) hx hb dX6_fine_34 (by decide) (fun c_34 => ?_) (fun c_34 => ?_)
          · -- taken
            refine lv_iinc (v := nI (i + 1)) (lv' := [(5, .int (nI (i + 1))), (0, .ref (rf 0)), (1, .int c), (2, .int (nI (7 * k))), (3, .int lf), (4, .int acc)]) hx hb dX6_fine_52 hl (k := 4) rfl (nI_1 i) (by decide) rfl (fun ls hl => ?_)
            refine lv_goto (tgt := 6) hx hb dX6_fine_55 (by decide) ?_
            exact ih6 (i + 1) acc (by omega) (by omega) (sm_z haacc (show 3 * hdutF σ c k i = 0 by rw [show hdutF σ c k i = 0 from if_neg (fun z => c_34 z.1)]; rfl)) ls (lv_sub hl [1, 2, 3, 4, 0, 5] rfl)
          · -- not taken
            refine lv_iload hx hb dX6_fine_37 (lv_at hl 5 rfl) ?_
            refine lv_iconst (v := 3) hx hb dX6_fine_39 (by decide) ?_
            refine lv_aload_n hx hb dX6_fine_40 rfl (lv_at hl 0 rfl) ?_
            refine lv_iload_n hx hb dX6_fine_41 rfl (lv_at hl 2 rfl) ?_
            refine lv_iload hx hb dX6_fine_42 (lv_at hl 4 rfl) ?_
            refine lv_iconst (v := 0) hx hb dX6_fine_44 (by decide) ?_
            refine c_p1 (va_runV (As := [.int (nI (7 * k)), .int (nI i), .int 0]) (rest := [.int 3, .int acc]) ⟨hx, hb, hml, hown, hts⟩ (c_X6_dutyAt l D ct Z σ th bst rf (nI (7 * k)) i 0 k rfl (by omega) (by omega)) (cwV 3 hts (GG w_1042 w_1044 w_50 w_65 w_1045) rfl rfl rfl (by decide) ⟨Nat.le_of_ble_eq_true rfl, Nat.le_of_ble_eq_true rfl⟩) ⟨(blindT fun _ _ _ _ h => h), Ob.recv (hT).1 hP.o rfl, fun U hU hW => ⟨rfl, hT.warm hW, by rw [hU]; exact hP⟩⟩ rfl rfl hl.1 rfl (lv_room (Nat.le_of_ble_eq_true rfl)) dX6_fine_45 ⟨Nat.le_of_ble_eq_true rfl, Nat.le_of_ble_eq_true rfl⟩) ?_
            refine lv_imul hx hb dX6_fine_48 ?_
            refine lv_iadd hx hb dX6_fine_49 ?_
            refine lv_istore (lv' := [(4, .int (acc + (3 * (duty σ k i 0)))), (0, .ref (rf 0)), (1, .int c), (2, .int (nI (7 * k))), (3, .int lf), (5, .int (nI i))]) hx hb dX6_fine_50 hl (by decide) rfl (fun ls hl => ?_)
            refine lv_iinc (v := nI (i + 1)) (lv' := [(5, .int (nI (i + 1))), (4, .int (acc + (3 * (duty σ k i 0)))), (0, .ref (rf 0)), (1, .int c), (2, .int (nI (7 * k))), (3, .int lf)]) hx hb dX6_fine_52 hl (k := 5) rfl (nI_1 i) (by decide) rfl (fun ls hl => ?_)
            refine lv_goto (tgt := 6) hx hb dX6_fine_55 (by decide) ?_
            exact ih6 (i + 1) (acc + (3 * (duty σ k i 0))) (by omega) (by omega) (sm_t haacc (show 3 * hdutF σ c k i = 3 * duty σ k i 0 by rw [show hdutF σ c k i = duty σ k i 0 from if_pos ⟨c_34, c_22⟩])) ls (lv_sub hl [2, 3, 4, 5, 0, 1] rfl)
  exact loop6 (nR σ + 1 - 0) 0 0 (by omega) (by omega) rfl ls (lv_sub hl [2, 3, 4, 5, 0, 1] rfl)
