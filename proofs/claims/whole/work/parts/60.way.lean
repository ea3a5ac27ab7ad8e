/-- startIn -/
def stN (σ : Stt) (fr : Int32) : Nat → Stt
  | 0 => σ
  | j + 1 => su (su (stN σ fr j) 4 j (if nI j = fr then 0 else 1000000000)) 5 j 0
theorem stN_o (σ : Stt) (fr : Int32) : ∀ n a j, a ≠ 4 → a ≠ 5 → stN σ fr n a j = σ a j
  | 0, _, _, _, _ => rfl
  | n + 1, a, j, h4, h5 => by
    show su (su (stN σ fr n) 4 n _) 5 n 0 a j = _
    rw [su_k h5, su_k h4]
    exact stN_o σ fr n a j h4 h5
/-- nextStage: which, and its price -/
def nxS (σ : Stt) : Nat → Int32 × Int32
  | 0 => (-1, 1000000000)
  | n + 1 => if σ 5 n = 0 ∧ σ 4 n < (nxS σ n).2 then (nI n, σ 4 n) else nxS σ n
theorem nxS_t {σ : Stt} {n : Nat} (h : σ 5 n = 0 ∧ σ 4 n < (nxS σ n).2) : nxS σ (n + 1) = (nI n, σ 4 n) := if_pos h
theorem nxS_f {σ : Stt} {n : Nat} (h : ¬ (σ 5 n = 0 ∧ σ 4 n < (nxS σ n).2)) : nxS σ (n + 1) = nxS σ n := if_neg h
/-- goBy, goOnFrom -/
def prW (τ : Stt) (kd stg u q : Nat) : Int32 := (τ 4 stg + duty τ kd u (nI q) * 1000) + τ 3 (7 * kd + 1)
def gb1 (τ : Stt) (kd tw stg u q : Nat) : Stt := if prW τ kd stg u q < τ 4 ((stg / 10 + q) * 10 + tw) then su τ 4 ((stg / 10 + q) * 10 + tw) (prW τ kd stg u q) else τ
def gbN (τ : Stt) (kd tw stg u : Nat) : Nat → Stt
  | 0 => τ
  | q + 1 => gb1 (gbN τ kd tw stg u q) kd tw stg u q
theorem gbN_o (τ : Stt) (kd tw stg u : Nat) : ∀ n a j, a ≠ 4 → gbN τ kd tw stg u n a j = τ a j
  | 0, _, _, _ => rfl
  | n + 1, a, j, h4 => by
    show gb1 (gbN τ kd tw stg u n) kd tw stg u n a j = _
    unfold gb1
    split
    · rw [su_k h4]; exact gbN_o τ kd tw stg u n a j h4
    · exact gbN_o τ kd tw stg u n a j h4
def go1W (τ : Stt) (stg u N tw : Nat) : Stt := if τ 3 (7 * rk (stg % 10) tw) = 1 then gbN τ (rk (stg % 10) tw) tw stg u N else τ
def goNW (τ : Stt) (stg u N : Nat) : Nat → Stt
  | 0 => τ
  | t + 1 => go1W (goNW τ stg u N t) stg u N t
theorem goNW_o (τ : Stt) (stg u N : Nat) : ∀ n a j, a ≠ 4 → goNW τ stg u N n a j = τ a j
  | 0, _, _, _ => rfl
  | n + 1, a, j, h4 => by
    show go1W (goNW τ stg u N n) stg u N n a j = _
    unfold go1W
    split
    · rw [gbN_o _ _ _ _ _ _ _ _ h4]; exact goNW_o τ stg u N n a j h4
    · exact goNW_o τ stg u N n a j h4

/-! burntAt -/
set_option maxHeartbeats 4000000 in
set_option maxRecDepth 100000 in
theorem c_X4_burntAt (l : Launch) (D : va_G) (ct : Nat → ClassId) (p : Int32) : Met l yX4_burntAt (.code yX4_burntAt cX4_burntAt 1 (some .int) :: GW) ({ frames := 0, cells := 0, slots := 0, locals := 0 } : Room) (va_Pc [.int p] (fun U => GT D ct U ∧ True)) (qP (some (.int (p / 10)))) 0 0 nF := by
  refine m_in (cc := cX4_burntAt) [.int p] "RumourCustoms$WaySearch" rfl (by decide) (Nat.le_of_ble_eq_true rfl) ?_
  intro pg e s m args below meth cd ls hx hb hml hown hts hr hlocks hin hPr hl
  obtain ⟨hT, _⟩ := hPr
  have hl : lv_has ls 1 [(0, .int p)] := hl
  refine lv_iload_n hx hb dX4_burntAt_0 rfl (lv_at hl 0 rfl) ?_
  refine lv_bipush (v := 10) hx hb dX4_burntAt_1 (by decide) ?_
  refine lv_idiv hx hb dX4_burntAt_3 (by decide) ?_
  exact W.iret (v := p / 10) hx hb hr (fun t ht hW => ⟨rvi rfl, ht⟩) (fun q h => nomatch h) dX4_burntAt_4

/-! townOf -/
set_option maxHeartbeats 4000000 in
set_option maxRecDepth 100000 in
theorem c_X4_townOf (l : Launch) (D : va_G) (ct : Nat → ClassId) (p : Int32) : Met l yX4_townOf (.code yX4_townOf cX4_townOf 1 (some .int) :: GW) ({ frames := 0, cells := 0, slots := 0, locals := 0 } : Room) (va_Pc [.int p] (fun U => GT D ct U ∧ True)) (qP (some (.int (p - p / 10 * 10)))) 0 0 nF := by
  refine m_in (cc := cX4_townOf) [.int p] "RumourCustoms$WaySearch" rfl (by decide) (Nat.le_of_ble_eq_true rfl) ?_
  intro pg e s m args below meth cd ls hx hb hml hown hts hr hlocks hin hPr hl
  obtain ⟨hT, _⟩ := hPr
  have hl : lv_has ls 1 [(0, .int p)] := hl
  refine lv_iload_n hx hb dX4_townOf_0 rfl (lv_at hl 0 rfl) ?_
  refine lv_bipush (v := 10) hx hb dX4_townOf_1 (by decide) ?_
  refine lv_irem hx hb dX4_townOf_3 (by decide) ?_
  exact W.iret (v := p - p / 10 * 10) hx hb hr (fun t ht hW => ⟨rvi rfl, ht⟩) (fun q h => nomatch h) dX4_townOf_4

/-! dutiesOf -/
set_option maxHeartbeats 4000000 in
set_option maxRecDepth 100000 in
theorem c_X4_dutiesOf (l : Launch) (D : va_G) (ct : Nat → ClassId) (p : Int32) : Met l yX4_dutiesOf (.code yX4_dutiesOf cX4_dutiesOf 1 (some .int) :: GW) ({ frames := 0, cells := 0, slots := 0, locals := 0 } : Room) (va_Pc [.int p] (fun U => GT D ct U ∧ True)) (qP (some (.int (p / 1000)))) 0 0 nF := by
  refine m_in (cc := cX4_dutiesOf) [.int p] "RumourCustoms$WaySearch" rfl (by decide) (Nat.le_of_ble_eq_true rfl) ?_
  intro pg e s m args below meth cd ls hx hb hml hown hts hr hlocks hin hPr hl
  obtain ⟨hT, _⟩ := hPr
  have hl : lv_has ls 1 [(0, .int p)] := hl
  refine lv_iload_n hx hb dX4_dutiesOf_0 rfl (lv_at hl 0 rfl) ?_
  refine lv_sipush (v := 1000) hx hb dX4_dutiesOf_1 (by decide) ?_
  refine lv_idiv hx hb dX4_dutiesOf_4 (by decide) ?_
  exact W.iret (v := p / 1000) hx hb hr (fun t ht hW => ⟨rvi rfl, ht⟩) (fun q h => nomatch h) dX4_dutiesOf_5

/-! hoursOf -/
set_option maxHeartbeats 4000000 in
set_option maxRecDepth 100000 in
theorem c_X4_hoursOf (l : Launch) (D : va_G) (ct : Nat → ClassId) (p : Int32) : Met l yX4_hoursOf (.code yX4_hoursOf cX4_hoursOf 1 (some .int) :: GW) ({ frames := 0, cells := 0, slots := 0, locals := 0 } : Room) (va_Pc [.int p] (fun U => GT D ct U ∧ True)) (qP (some (.int (p - p / 1000 * 1000)))) 0 0 nF := by
  refine m_in (cc := cX4_hoursOf) [.int p] "RumourCustoms$WaySearch" rfl (by decide) (Nat.le_of_ble_eq_true rfl) ?_
  intro pg e s m args below meth cd ls hx hb hml hown hts hr hlocks hin hPr hl
  obtain ⟨hT, _⟩ := hPr
  have hl : lv_has ls 1 [(0, .int p)] := hl
  refine lv_iload_n hx hb dX4_hoursOf_0 rfl (lv_at hl 0 rfl) ?_
  refine lv_sipush (v := 1000) hx hb dX4_hoursOf_1 (by decide) ?_
  refine lv_irem hx hb dX4_hoursOf_4 (by decide) ?_
  exact W.iret (v := p - p / 1000 * 1000) hx hb hr (fun t ht hW => ⟨rvi rfl, ht⟩) (fun q h => nomatch h) dX4_hoursOf_5

/-! startIn -/
set_option maxHeartbeats 4000000 in
set_option maxRecDepth 100000 in
theorem c_X4_startIn (l : Launch) (D : va_G) (ct : Nat → ClassId) (Z : Nat → Prop) (dc : Nat) (σ : Stt) (ad : Nat → Nat) (fr : Int32) : Met l yX4_startIn (.code yX4_startIn cX4_startIn 3 none :: GW) ({ frames := 0, cells := 0, slots := 0, locals := 0 } : Room) (va_Pc [.ref (ad 3), .int fr] (fun U => GF D ct Z dc U U.heap ∧ Pic D ct Z dc σ ad U.heap)) (qS0 Z (fun h => Pic D ct Z dc (stN σ fr 60) ad h)) 0 0 (nZ Z) := by
  refine m_in (cc := cX4_startIn) [.ref (ad 3), .int fr] "RumourCustoms$WaySearch" rfl (by decide) (Nat.le_of_ble_eq_true rfl) ?_
  intro pg e s m args below meth cd ls hx hb hml hown hts hr hlocks hin hPr hl
  obtain ⟨hG, hP⟩ := hPr
  have hl : lv_has ls 3 [(0, .ref (ad 3)), (1, .int fr)] := hl
  have hS : va_S (nZ Z) s.heap s.heap [] := va_S.rf
  have hn := hP.2.2.2.1
  have hnC := hP.2.2.2.2
  refine lv_iconst (v := 0) hx hb dX4_startIn_0 (by decide) ?_
  refine lv_istore_n (lv' := [(2, .int 0), (0, .ref (ad 3)), (1, .int fr)]) hx hb dX4_startIn_1 rfl hl (by decide) rfl (fun ls hl => ?_)
  have loop2 : ∀ (n2 i : Nat) (H : Heap) (locs : List Loc), i ≤ 60 → 60 - i < n2 → Pic D ct Z dc (stN σ fr i) ad H → va_S (nZ Z) s.heap H locs → ∀ ls, lv_has ls 3 [(0, .ref (ad 3)), (1, .int fr), (2, .int (nI i))] → W pg l e ({ frames := 0, cells := 0, slots := 0, locals := 0 } : Room) s m args below meth cd H locs 0 0 (MQ below (qS0 Z (fun h => Pic D ct Z dc (stN σ fr 60) ad h)) args s 0 0 (nZ Z)) (F0 m 2 ls []) := by
    intro n2
    induction n2 with
    | zero => intro i H locs  _ z; omega
    | succ n2 ih2 =>
      intro i H2 locs2  hi2 hn2 hP2 hS2 ls hl
      obtain ⟨τ2, hτ2⟩ : ∃ τ : Stt, τ = stN σ fr i := ⟨_, rfl⟩
      rw [← hτ2] at hP2
      have er2 : nR τ2 = nR σ := by rw [hτ2]; exact nR_eq (stN_o _ _ _ _ _ (by decide) (by decide))
      have ec2 : nC τ2 = nC σ := by rw [hτ2]; exact nC_eq (stN_o _ _ _ _ _ (by decide) (by decide))
      refine lv_iload_n hx hb dX4_startIn_2 rfl (lv_at hl 2 rfl) ?_
      refine lv_bipush (v := 60) hx hb dX4_startIn_3 (by decide) ?_
      refine lv_icmp_ge (tgt := 38) hx hb dX4_startIn_5 (by decide) (fun c_5 => ?_) (fun c_5 => ?_)
      · -- taken
        have nc_5 : 60 ≤ i := (nI_leI (a := 60) (b := i) (by omega) (by omega)).mp c_5
        have he2 : i = 60 := by omega
        exact W.vret hx hb hr (fun t ht hW => ⟨rfl, by rw [ht]; exact (by rw [he2] at hτ2; rw [← hτ2]; exact hP2), hS2.F ht⟩) (fun z h => hS2.2.2 z h) dX4_startIn_38
      · -- not taken
        have nc_5 : ¬ 60 ≤ i := fun z => c_5 ((nI_leI (a := 60) (b := i) (by omega) (by omega)).mpr z)
        have hlt2 : i < 60 := by omega
        refine lv_aload_n hx hb dX4_startIn_8 rfl (lv_at hl 0 rfl) ?_
        refine k_get (C := RX4) (T := TX4) (N := 3) hx hb hts inGX4 hown (hG.2.1).1 hP2.o3 rfl 1 (by decide) (hts _ w_110) (fun _ h9 => h9) (v := .ref (ad 4)) rfl dX4_startIn_9 ?_
        refine lv_iload_n hx hb dX4_startIn_12 rfl (lv_at hl 2 rfl) ?_
        refine lv_iload_n hx hb dX4_startIn_13 rfl (lv_at hl 2 rfl) ?_
        refine lv_iload_n hx hb dX4_startIn_14 rfl (lv_at hl 1 rfl) ?_
        refine lv_icmp_ne (tgt := 22) hx hb dX4_startIn_15 (by decide) (fun c_15 => ?_) (fun c_15 => ?_)
        · -- taken
          refine lv_ldc (v := 1000000000) hx hb hown (hts _ w_814) dX4_startIn_22 ?_
          refine k_iast hx hb (hG.2.1).1 hS2 (hP2.nz (i := 4) (us_lt (by decide))) hP2.o4 (by rw [(rfl : nI i = nI i)]; exact vp_in_nI (by omega : i < 60) (by decide)) dX4_startIn_24 (fun H24 locs24 hA24 hz24 hq24 hS24 => ?_)
          rw [show (nI i : Int32).toNatClampNeg = i from (congrArg Int32.toNatClampNeg (rfl : nI i = nI i)).trans (nI_clamp (by omega : i < 2 ^ 31))] at hA24
          have hP24 : Pic D ct Z dc (su τ2 4 i 1000000000) ad H24 := hP2.s4 (c := i) 1000000000 hA24 hq24
          obtain ⟨τ24, hτ24⟩ : ∃ τ : Stt, τ = su τ2 4 i 1000000000 := ⟨_, rfl⟩
          rw [← hτ24] at hP24
          have er24 : nR τ24 = nR τ2 := by rw [hτ24]; exact nR_eq (su_k (by decide))
          have ec24 : nC τ24 = nC τ2 := by rw [hτ24]; exact nC_eq (su_k (by decide))
          refine lv_aload_n hx hb dX4_startIn_25 rfl (lv_at hl 0 rfl) ?_
          refine k_get (C := RX4) (T := TX4) (N := 3) hx hb hts inGX4 hown (hG.2.1).1 hP24.o3 rfl 2 (by decide) (hts _ w_111) (fun _ h9 => h9) (v := .ref (ad 5)) rfl dX4_startIn_26 ?_
          refine lv_iload_n hx hb dX4_startIn_29 rfl (lv_at hl 2 rfl) ?_
          refine lv_iconst (v := 0) hx hb dX4_startIn_30 (by decide) ?_
          refine k_zast hx hb (hG.2.1).1 hS24 (hP24.nz (i := 5) (us_lt (by decide))) hP24.o5 rfl (by rw [(rfl : nI i = nI i)]; exact vp_in_nI (by omega : i < 60) (by decide)) dX4_startIn_31 (fun H31 locs31 hA31 hz31 hq31 hS31 => ?_)
          rw [show (nI i : Int32).toNatClampNeg = i from (congrArg Int32.toNatClampNeg (rfl : nI i = nI i)).trans (nI_clamp (by omega : i < 2 ^ 31))] at hA31
          have hP31 : Pic D ct Z dc (su τ24 5 i 0) ad H31 := hP24.s5 (c := i) 0 hA31 hq31
          obtain ⟨τ31, hτ31⟩ : ∃ τ : Stt, τ = su τ24 5 i 0 := ⟨_, rfl⟩
          rw [← hτ31] at hP31
          have er31 : nR τ31 = nR τ24 := by rw [hτ31]; exact nR_eq (su_k (by decide))
          have ec31 : nC τ31 = nC τ24 := by rw [hτ31]; exact nC_eq (su_k (by decide))
          refine lv_iinc (v := nI (i + 1)) (lv' := [(2, .int (nI (i + 1))), (0, .ref (ad 3)), (1, .int fr)]) hx hb dX4_startIn_32 hl (k := 2) rfl (nI_1 i) (by decide) rfl (fun ls hl => ?_)
          refine lv_goto (tgt := 2) hx hb dX4_startIn_35 (by decide) ?_
          exact ih2 (i + 1) _ _ (by omega) (by omega) (show Pic D ct Z dc (su (su (stN σ fr i) 4 i (if nI i = fr then 0 else 1000000000)) 5 i 0) ad H31 by rw [if_neg c_15]; subst hτ31 hτ24 hτ2; exact hP31) hS31 ls (lv_sub hl [1, 2, 0] rfl)
        · -- not taken
          refine lv_iconst (v := 0) hx hb dX4_startIn_18 (by decide) ?_
          refine lv_goto (tgt := 24) hx hb dX4_startIn_19 (by decide) ?_
          refine k_iast hx hb (hG.2.1).1 hS2 (hP2.nz (i := 4) (us_lt (by decide))) hP2.o4 (by rw [(rfl : nI i = nI i)]; exact vp_in_nI (by omega : i < 60) (by decide)) dX4_startIn_24 (fun H24 locs24 hA24 hz24 hq24 hS24 => ?_)
          rw [show (nI i : Int32).toNatClampNeg = i from (congrArg Int32.toNatClampNeg (rfl : nI i = nI i)).trans (nI_clamp (by omega : i < 2 ^ 31))] at hA24
          have hP24 : Pic D ct Z dc (su τ2 4 i 0) ad H24 := hP2.s4 (c := i) 0 hA24 hq24
          obtain ⟨τ24, hτ24⟩ : ∃ τ : Stt, τ = su τ2 4 i 0 := ⟨_, rfl⟩
          rw [← hτ24] at hP24
          have er24 : nR τ24 = nR τ2 := by rw [hτ24]; exact nR_eq (su_k (by decide))
          have ec24 : nC τ24 = nC τ2 := by rw [hτ24]; exact nC_eq (su_k (by decide))
          refine lv_aload_n hx hb dX4_startIn_25 rfl (lv_at hl 0 rfl) ?_
          refine k_get (C := RX4) (T := TX4) (N := 3) hx hb hts inGX4 hown (hG.2.1).1 hP24.o3 rfl 2 (by decide) (hts _ w_111) (fun _ h9 => h9) (v := .ref (ad 5)) rfl dX4_startIn_26 ?_
          refine lv_iload_n hx hb dX4_startIn_29 rfl (lv_at hl 2 rfl) ?_
          refine lv_iconst (v := 0) hx hb dX4_startIn_30 (by decide) ?_
          refine k_zast hx hb (hG.2.1).1 hS24 (hP24.nz (i := 5) (us_lt (by decide))) hP24.o5 rfl (by rw [(rfl : nI i = nI i)]; exact vp_in_nI (by omega : i < 60) (by decide)) dX4_startIn_31 (fun H31 locs31 hA31 hz31 hq31 hS31 => ?_)
          rw [show (nI i : Int32).toNatClampNeg = i from (congrArg Int32.toNatClampNeg (rfl : nI i = nI i)).trans (nI_clamp (by omega : i < 2 ^ 31))] at hA31
          have hP31 : Pic D ct Z dc (su τ24 5 i 0) ad H31 := hP24.s5 (c := i) 0 hA31 hq31
          obtain ⟨τ31, hτ31⟩ : ∃ τ : Stt, τ = su τ24 5 i 0 := ⟨_, rfl⟩
          rw [← hτ31] at hP31
          have er31 : nR τ31 = nR τ24 := by rw [hτ31]; exact nR_eq (su_k (by decide))
          have ec31 : nC τ31 = nC τ24 := by rw [hτ31]; exact nC_eq (su_k (by decide))
          refine lv_iinc (v := nI (i + 1)) (lv' := [(2, .int (nI (i + 1))), (0, .ref (ad 3)), (1, .int fr)]) hx hb dX4_startIn_32 hl (k := 2) rfl (nI_1 i) (by decide) rfl (fun ls hl => ?_)
          refine lv_goto (tgt := 2) hx hb dX4_startIn_35 (by decide) ?_
          exact ih2 (i + 1) _ _ (by omega) (by omega) (show Pic D ct Z dc (su (su (stN σ fr i) 4 i (if nI i = fr then 0 else 1000000000)) 5 i 0) ad H31 by rw [if_pos c_15]; subst hτ31 hτ24 hτ2; exact hP31) hS31 ls (lv_sub hl [1, 2, 0] rfl)
  exact loop2 (60 + 1 - 0) 0 _ _ (Nat.zero_le _) (by omega) hP hS ls (lv_sub hl [1, 2, 0] rfl)

/-! nextStage -/
set_option maxHeartbeats 4000000 in
set_option maxRecDepth 100000 in
theorem c_X4_nextStage (l : Launch) (D : va_G) (ct : Nat → ClassId) (Z : Nat → Prop) (dc : Nat) (σ : Stt) (ad : Nat → Nat) : Met l yX4_nextStage (.code yX4_nextStage cX4_nextStage 4 (some .int) :: GW) ({ frames := 0, cells := 0, slots := 0, locals := 0 } : Room) (va_Pc [.ref (ad 3)] (fun U => GT D ct U ∧ Pic D ct Z dc σ ad U.heap)) (qP (some (.int ((nxS σ 60).1)))) 0 0 nF := by
  refine m_in (cc := cX4_nextStage) [.ref (ad 3)] "RumourCustoms$WaySearch" rfl (by decide) (Nat.le_of_ble_eq_true rfl) ?_
  intro pg e s m args below meth cd ls hx hb hml hown hts hr hlocks hin hPr hl
  obtain ⟨hT, hP⟩ := hPr
  have hl : lv_has ls 4 [(0, .ref (ad 3))] := hl
  have hn := hP.2.2.2.1
  have hnC := hP.2.2.2.2
  refine lv_iconst (v := (-1)) hx hb dX4_nextStage_0 (by decide) ?_
  refine lv_istore_n (lv' := [(1, .int (-1)), (0, .ref (ad 3))]) hx hb dX4_nextStage_1 rfl hl (by decide) rfl (fun ls hl => ?_)
  refine lv_ldc (v := 1000000000) hx hb hown (hts _ w_814) dX4_nextStage_2 ?_
  refine lv_istore_n (lv' := [(2, .int 1000000000), (1, .int (-1)), (0, .ref (ad 3))]) hx hb dX4_nextStage_4 rfl hl (by decide) rfl (fun ls hl => ?_)
  refine lv_iconst (v := 0) hx hb dX4_nextStage_5 (by decide) ?_
  refine lv_istore_n (lv' := [(3, .int 0), (2, .int 1000000000), (1, .int (-1)), (0, .ref (ad 3))]) hx hb dX4_nextStage_6 rfl hl (by decide) rfl (fun ls hl => ?_)
  have loop7 : ∀ (n7 i : Nat) (nxt : Int32) (prc : Int32), i ≤ 60 → 60 - i < n7 → nxt = (nxS σ i).1 → prc = (nxS σ i).2 → ∀ ls, lv_has ls 4 [(0, .ref (ad 3)), (3, .int (nI i)), (1, .int nxt), (2, .int prc)] → W pg l e ({ frames := 0, cells := 0, slots := 0, locals := 0 } : Room) s m args below meth cd s.heap [] 0 0 (MQ below (qP (some (.int ((nxS σ 60).1)))) args s 0 0 nF) (F0 m 7 ls []) := by
    intro n7
    induction n7 with
    | zero => intro i nxt prc _ z; omega
    | succ n7 ih7 =>
      intro i nxt prc hi7 hn7 hanxt haprc ls hl
      refine lv_iload_n hx hb dX4_nextStage_7 rfl (lv_at hl 1 rfl) ?_
      refine lv_bipush (v := 60) hx hb dX4_nextStage_8 (by decide) ?_
      refine lv_icmp_ge (tgt := 47) hx hb dX4_nextStage_10 (by decide) (fun c_10 => ?_) (fun c_10 => ?_)
      · -- taken
        have nc_10 : 60 ≤ i := (nI_leI (a := 60) (b := i) (by omega) (by omega)).mp c_10
        have he7 : i = 60 := by omega
        refine lv_iload_n hx hb dX4_nextStage_47 rfl (lv_at hl 2 rfl) ?_
        exact W.iret (v := nxt) hx hb hr (fun t ht hW => ⟨rvi (by rw [hanxt, he7]), ht⟩) (fun q h => nomatch h) dX4_nextStage_48
      · -- not taken
        have nc_10 : ¬ 60 ≤ i := fun z => c_10 ((nI_leI (a := 60) (b := i) (by omega) (by omega)).mpr z)
        have hlt7 : i < 60 := by omega
        refine lv_aload_n hx hb dX4_nextStage_13 rfl (lv_at hl 0 rfl) ?_
        refine k_get (C := RX4) (T := TX4) (N := 3) hx hb hts inGX4 hown (hT).1 hP.o3 rfl 2 (by decide) (hts _ w_111) (fun _ h9 => h9) (v := .ref (ad 5)) rfl dX4_nextStage_14 ?_
        refine lv_iload_n hx hb dX4_nextStage_17 rfl (lv_at hl 1 rfl) ?_
        refine k_zald hx hb (hT).1 hP.o5 (by rw [(rfl : nI i = nI i)]; exact vp_in_nI (by omega : i < 60) (by decide)) dX4_nextStage_18 ?_
        rw [show (nI i : Int32).toNatClampNeg = i from (congrArg Int32.toNatClampNeg (rfl : nI i = nI i)).trans (nI_clamp (by omega : i < 2 ^ 31))]
        refine lv_if_ne (tgt := 41) hx hb dX4_nextStage_19 (by decide) (fun c_19 => ?_) (fun c_19 => ?_)
        · -- taken
          refine lv_iinc (v := nI (i + 1)) (lv' := [(3, .int (nI (i + 1))), (0, .ref (ad 3)), (1, .int nxt), (2, .int prc)]) hx hb dX4_nextStage_41 hl (k := 1) rfl (nI_1 i) (by decide) rfl (fun ls hl => ?_)
          refine lv_goto (tgt := 7) hx hb dX4_nextStage_44 (by decide) ?_
          exact ih7 (i + 1) nxt prc (by omega) (by omega) (by rw [nxS_f (fun z => c_19 z.1)]; exact hanxt) (by rw [nxS_f (fun z => c_19 z.1)]; exact haprc) ls (lv_sub hl [1, 0, 2, 3] rfl)
        · -- not taken
          refine lv_aload_n hx hb dX4_nextStage_22 rfl (lv_at hl 0 rfl) ?_
          refine k_get (C := RX4) (T := TX4) (N := 3) hx hb hts inGX4 hown (hT).1 hP.o3 rfl 1 (by decide) (hts _ w_110) (fun _ h9 => h9) (v := .ref (ad 4)) rfl dX4_nextStage_23 ?_
          refine lv_iload_n hx hb dX4_nextStage_26 rfl (lv_at hl 1 rfl) ?_
          refine k_iald hx hb (hT).1 hP.o4 (by rw [(rfl : nI i = nI i)]; exact vp_in_nI (by omega : i < 60) (by decide)) dX4_nextStage_27 ?_
          rw [show (nI i : Int32).toNatClampNeg = i from (congrArg Int32.toNatClampNeg (rfl : nI i = nI i)).trans (nI_clamp (by omega : i < 2 ^ 31))]
          refine lv_iload_n hx hb dX4_nextStage_28 rfl (lv_at hl 3 rfl) ?_
          refine lv_icmp_ge (tgt := 41) hx hb dX4_nextStage_29 (by decide) (fun c_29 => ?_) (fun c_29 => ?_)
          · -- taken
            refine lv_iinc (v := nI (i + 1)) (lv' := [(3, .int (nI (i + 1))), (0, .ref (ad 3)), (1, .int nxt), (2, .int prc)]) hx hb dX4_nextStage_41 hl (k := 1) rfl (nI_1 i) (by decide) rfl (fun ls hl => ?_)
            refine lv_goto (tgt := 7) hx hb dX4_nextStage_44 (by decide) ?_
            exact ih7 (i + 1) nxt prc (by omega) (by omega) (by rw [nxS_f (fun z => absurd z.2 (by rw [← haprc]; exact Int32.not_lt.mpr c_29))]; exact hanxt) (by rw [nxS_f (fun z => absurd z.2 (by rw [← haprc]; exact Int32.not_lt.mpr c_29))]; exact haprc) ls (lv_sub hl [1, 0, 2, 3] rfl)
          · -- not taken
            refine lv_iload_n hx hb dX4_nextStage_32 rfl (lv_at hl 1 rfl) ?_
            refine lv_istore_n (lv' := [(1, .int (nI i)), (0, .ref (ad 3)), (3, .int (nI i)), (2, .int prc)]) hx hb dX4_nextStage_33 rfl hl (by decide) rfl (fun ls hl => ?_)
            refine lv_aload_n hx hb dX4_nextStage_34 rfl (lv_at hl 1 rfl) ?_
            refine k_get (C := RX4) (T := TX4) (N := 3) hx hb hts inGX4 hown (hT).1 hP.o3 rfl 1 (by decide) (hts _ w_110) (fun _ h9 => h9) (v := .ref (ad 4)) rfl dX4_nextStage_35 ?_
            refine lv_iload_n hx hb dX4_nextStage_38 rfl (lv_at hl 2 rfl) ?_
            refine k_iald hx hb (hT).1 hP.o4 (by rw [(rfl : nI i = nI i)]; exact vp_in_nI (by omega : i < 60) (by decide)) dX4_nextStage_39 ?_
            rw [show (nI i : Int32).toNatClampNeg = i from (congrArg Int32.toNatClampNeg (rfl : nI i = nI i)).trans (nI_clamp (by omega : i < 2 ^ 31))]
            refine lv_istore_n (lv' := [(2, .int (σ 4 i)), (1, .int (nI i)), (0, .ref (ad 3)), (3, .int (nI i))]) hx hb dX4_nextStage_40 rfl hl (by decide) rfl (fun ls hl => ?_)
            refine lv_iinc (v := nI (i + 1)) (lv' := [(3, .int (nI (i + 1))), (2, .int (σ 4 i)), (1, .int (nI i)), (0, .ref (ad 3))]) hx hb dX4_nextStage_41 hl (k := 3) rfl (nI_1 i) (by decide) rfl (fun ls hl => ?_)
            refine lv_goto (tgt := 7) hx hb dX4_nextStage_44 (by decide) ?_
            exact ih7 (i + 1) (nI i) (σ 4 i) (by omega) (by omega) (by rw [nxS_t ⟨c_19, by rw [← haprc]; exact i32_nle c_29⟩]) (by rw [nxS_t ⟨c_19, by rw [← haprc]; exact i32_nle c_29⟩]) ls (lv_sub hl [3, 0, 2, 1] rfl)
  exact loop7 (60 + 1 - 0) 0 (-1) 1000000000 (by omega) (by omega) rfl rfl ls (lv_sub hl [3, 0, 2, 1] rfl)

/-! goBy -/
set_option maxHeartbeats 4000000 in
set_option maxRecDepth 100000 in
theorem c_X4_goBy (l : Launch) (D : va_G) (ct : Nat → ClassId) (Z : Nat → Prop) (dc : Nat) (σ : Stt) (ad : Nat → Nat) (kd tw stg u P : Nat) (hkd : kd < 100) (gkd : σ 3 (7 * kd) = 1) (hu : u < nR σ) (htw : tw < 10) (hsg : stg < 60) (hPr : σ 1 (7 * u + 2) = nI P) (hP5 : P ≤ 5) (hbP : stg / 10 ≤ P) : Met l yX4_goBy (.code yX4_goBy cX4_goBy 9 none :: GW) ({ frames := 1, cells := 0, slots := 0, locals := 22 } : Room) (va_Pc [.ref (ad 3), .ref (ad (300 + kd)), .int (nI tw), .int (nI stg), .ref (ad (100 + u))] (fun U => GF D ct Z dc U U.heap ∧ Pic D ct Z dc σ ad U.heap)) (qS0 Z (fun h => Pic D ct Z dc (gbN σ kd tw stg u (P - stg / 10 + 1)) ad h)) 0 0 (nZ Z) := by
  refine m_in (cc := cX4_goBy) [.ref (ad 3), .ref (ad (300 + kd)), .int (nI tw), .int (nI stg), .ref (ad (100 + u))] "RumourCustoms$WaySearch" rfl (by decide) (Nat.le_of_ble_eq_true rfl) ?_
  intro pg e s m args below meth cd ls hx hb hml hown hts hr hlocks hin hPr hl
  obtain ⟨hG, hP⟩ := hPr
  have hl : lv_has ls 9 [(0, .ref (ad 3)), (1, .ref (ad (300 + kd))), (2, .int (nI tw)), (3, .int (nI stg)), (4, .ref (ad (100 + u)))] := hl
  have hS : va_S (nZ Z) s.heap s.heap [] := va_S.rf
  have hn := hP.2.2.2.1
  have hnC := hP.2.2.2.2
  refine lv_iload_n hx hb dX4_goBy_0 rfl (lv_at hl 3 rfl) ?_
  refine c_p1 (va_runS (As := [.int (nI stg)]) (rest := []) ⟨hx, hb, hml, hown, hts⟩ (c_X4_burntAt l D ct (nI stg)) (k_cwS 1 hts w_831 w_832 w_61 w_833 rfl rfl (by decide) ⟨Nat.le_of_ble_eq_true rfl, Nat.le_of_ble_eq_true rfl⟩) ⟨(blindT fun _ _ _ _ h => h), fun U hU hW => ⟨rfl, hG.2.1.warm hW, trivial⟩⟩ rfl rfl hl.1 rfl (lv_room (Nat.le_of_ble_eq_true rfl)) dX4_goBy_1 ⟨Nat.le_of_ble_eq_true rfl, Nat.le_of_ble_eq_true rfl⟩) ?_
  rw [show (nI stg / 10 : Int32) = nI (stg / 10) from pk_div (d := 10) (by omega) (by decide) (by decide)]
  refine lv_istore (lv' := [(5, .int (nI (stg / 10))), (0, .ref (ad 3)), (1, .ref (ad (300 + kd))), (2, .int (nI tw)), (3, .int (nI stg)), (4, .ref (ad (100 + u)))]) hx hb dX4_goBy_4 hl (by decide) rfl (fun ls hl => ?_)
  refine lv_iconst (v := 0) hx hb dX4_goBy_6 (by decide) ?_
  refine lv_istore (lv' := [(6, .int 0), (5, .int (nI (stg / 10))), (0, .ref (ad 3)), (1, .ref (ad (300 + kd))), (2, .int (nI tw)), (3, .int (nI stg)), (4, .ref (ad (100 + u)))]) hx hb dX4_goBy_7 hl (by decide) rfl (fun ls hl => ?_)
  have loop9 : ∀ (n9 q : Nat) (H : Heap) (locs : List Loc), q ≤ P - stg / 10 + 1 → P - stg / 10 + 1 - q < n9 → Pic D ct Z dc (gbN σ kd tw stg u q) ad H → va_S (nZ Z) s.heap H locs → ∀ ls, lv_has ls 9 [(0, .ref (ad 3)), (1, .ref (ad (300 + kd))), (2, .int (nI tw)), (3, .int (nI stg)), (4, .ref (ad (100 + u))), (5, .int (nI (stg / 10))), (6, .int (nI q))] → W pg l e ({ frames := 1, cells := 0, slots := 0, locals := 22 } : Room) s m args below meth cd H locs 0 0 (MQ below (qS0 Z (fun h => Pic D ct Z dc (gbN σ kd tw stg u (P - stg / 10 + 1)) ad h)) args s 0 0 (nZ Z)) (F0 m 9 ls []) := by
    intro n9
    induction n9 with
    | zero => intro q H locs  _ z; omega
    | succ n9 ih9 =>
      intro q H9 locs9  hi9 hn9 hP9 hS9 ls hl
      obtain ⟨τ9, hτ9⟩ : ∃ τ : Stt, τ = gbN σ kd tw stg u q := ⟨_, rfl⟩
      rw [← hτ9] at hP9
      have er9 : nR τ9 = nR σ := by rw [hτ9]; exact nR_eq (gbN_o _ _ _ _ _ _ _ _ (by decide))
      have ec9 : nC τ9 = nC σ := by rw [hτ9]; exact nC_eq (gbN_o _ _ _ _ _ _ _ _ (by decide))
      have hd9_kd : τ9 3 (7 * kd) = 1 := by rw [hτ9]; exact (gbN_o _ _ _ _ _ _ _ _ (by decide)).trans gkd
      have hp9_u : u < nR τ9 := Nat.lt_of_lt_of_eq hu er9.symm
      refine lv_iload hx hb dX4_goBy_9 (lv_at hl 6 rfl) ?_
      refine lv_aload hx hb dX4_goBy_11 (lv_at hl 4 rfl) ?_
      refine k_get (C := RX3) (T := TX3) (N := 8) hx hb hts inGX3 hown (hG.2.1).1 (hP9.r hp9_u) rfl 4 (by decide) (hts _ w_476) (fun _ h9 => h9) (v := .int (τ9 1 (7 * u + 2))) rfl dX4_goBy_13 ?_
      rw [show τ9 1 (7 * u + 2) = nI P from by rw [hτ9, gbN_o _ _ _ _ _ _ _ _ (by decide)]; exact hPr]
      refine lv_iload hx hb dX4_goBy_16 (lv_at hl 5 rfl) ?_
      refine lv_isub hx hb dX4_goBy_18 ?_
      rw [show (nI P - nI (stg / 10) : Int32) = nI (P - stg / 10) from pk_sub hbP]
      refine lv_icmp_gt (tgt := 94) hx hb dX4_goBy_19 (by decide) (fun c_19 => ?_) (fun c_19 => ?_)
      · -- taken
        have nc_19 : (P - stg / 10) < q := (nI_ltI (a := (P - stg / 10)) (b := q) (by omega) (by omega)).mp c_19
        have he9 : q = P - stg / 10 + 1 := by omega
        exact W.vret hx hb hr (fun t ht hW => ⟨rfl, by rw [ht]; exact (by rw [he9] at hτ9; rw [← hτ9]; exact hP9), hS9.F ht⟩) (fun z h => hS9.2.2 z h) dX4_goBy_94
      · -- not taken
        have nc_19 : ¬ (P - stg / 10) < q := fun z => c_19 ((nI_ltI (a := (P - stg / 10)) (b := q) (by omega) (by omega)).mpr z)
        have hlt9 : q < P - stg / 10 + 1 := by omega
        refine lv_iload hx hb dX4_goBy_22 (lv_at hl 5 rfl) ?_
        refine lv_iload hx hb dX4_goBy_24 (lv_at hl 6 rfl) ?_
        refine lv_iadd hx hb dX4_goBy_26 ?_
        refine lv_bipush (v := 10) hx hb dX4_goBy_27 (by decide) ?_
        refine lv_imul hx hb dX4_goBy_29 ?_
        refine lv_iload_n hx hb dX4_goBy_30 rfl (lv_at hl 2 rfl) ?_
        refine lv_iadd hx hb dX4_goBy_31 ?_
        rw [show ((((nI (stg / 10)) + (nI q)) * 10) + (nI tw) : Int32) = nI (((stg / 10) + q) * 10 + tw) from (ix_add (ix_mul (ix_add (rfl : nI (stg / 10) = nI (stg / 10)) (rfl : nI q = nI q)) (rfl : (10 : Int32) = nI 10)) (rfl : nI tw = nI tw))]
        refine lv_istore (lv' := [(7, .int (nI (((stg / 10) + q) * 10 + tw))), (0, .ref (ad 3)), (1, .ref (ad (300 + kd))), (2, .int (nI tw)), (3, .int (nI stg)), (4, .ref (ad (100 + u))), (5, .int (nI (stg / 10))), (6, .int (nI q))]) hx hb dX4_goBy_32 hl (by decide) rfl (fun ls hl => ?_)
        refine lv_aload_n hx hb dX4_goBy_34 rfl (lv_at hl 1 rfl) ?_
        refine k_get (C := RX4) (T := TX4) (N := 3) hx hb hts inGX4 hown (hG.2.1).1 hP9.o3 rfl 1 (by decide) (hts _ w_110) (fun _ h9 => h9) (v := .ref (ad 4)) rfl dX4_goBy_35 ?_
        refine lv_iload_n hx hb dX4_goBy_38 rfl (lv_at hl 4 rfl) ?_
        refine k_iald hx hb (hG.2.1).1 hP9.o4 (by rw [(rfl : nI stg = nI stg)]; exact vp_in_nI (by omega : stg < 60) (by decide)) dX4_goBy_39 ?_
        rw [show (nI stg : Int32).toNatClampNeg = stg from (congrArg Int32.toNatClampNeg (rfl : nI stg = nI stg)).trans (nI_clamp (by omega : stg < 2 ^ 31))]
        refine lv_aload_n hx hb dX4_goBy_40 rfl (lv_at hl 2 rfl) ?_
        refine lv_aload hx hb dX4_goBy_41 (lv_at hl 5 rfl) ?_
        refine lv_iload hx hb dX4_goBy_43 (lv_at hl 7 rfl) ?_
        refine c_p1 (va_runV (As := [.ref (ad (100 + u)), .int (nI q)]) (rest := [.int (τ9 4 stg)]) ⟨hx, hb, hml, hown, hts⟩ (c_X1_dutyOf l D ct (ad (300 + kd)) (τ9 3 (7 * kd + 1)) (τ9 3 (7 * kd + 2)) (τ9 3 (7 * kd + 3)) (τ9 3 (7 * kd + 4)) (τ9 3 (7 * kd + 5)) (τ9 3 (7 * kd + 6)) (ad (100 + u)) (nI u) (τ9 1 (7 * u + 3)) (τ9 1 (7 * u)) (τ9 1 (7 * u + 1)) (τ9 1 (7 * u + 2)) (τ9 1 (7 * u + 4)) (τ9 1 (7 * u + 5)) (τ9 1 (7 * u + 6)) (nI q)) (cwV 2 hts (GG w_834 w_723 w_724 w_72 w_725) rfl rfl rfl (by decide) ⟨Nat.le_of_ble_eq_true rfl, Nat.le_of_ble_eq_true rfl⟩) ⟨(blindT fun _ _ _ _ h => h), Ob.recv (hG.2.1).1 (hP9.d hkd hd9_kd) rfl, fun U hU hW => ⟨rfl, hG.2.1.warm hW, by rw [hU]; exact ⟨(hP9.d hkd hd9_kd), (hP9.r hp9_u)⟩⟩⟩ rfl rfl hl.1 rfl (lv_room (Nat.le_of_ble_eq_true rfl)) dX4_goBy_45 ⟨Nat.le_of_ble_eq_true rfl, Nat.le_of_ble_eq_true rfl⟩) ?_
        refine lv_sipush (v := 1000) hx hb dX4_goBy_48 (by decide) ?_
        refine lv_imul hx hb dX4_goBy_51 ?_
        refine lv_iadd hx hb dX4_goBy_52 ?_
        refine lv_aload_n hx hb dX4_goBy_53 rfl (lv_at hl 2 rfl) ?_
        refine k_get (C := RX1) (T := TX1) (N := 6) hx hb hts inGX1 hown (hG.2.1).1 (hP9.d hkd hd9_kd) rfl 0 (by decide) (hts _ w_415) (fun _ h9 => h9) (v := .int (τ9 3 (7 * kd + 1))) rfl dX4_goBy_54 ?_
        refine lv_iadd hx hb dX4_goBy_57 ?_
        obtain ⟨pr, hpr⟩ : ∃ x, x = ((τ9 4 stg) + (((((τ9 3 (7 * kd + 2)) * (τ9 1 (7 * u))) + ((τ9 3 (7 * kd + 3)) * (τ9 1 (7 * u + 1)))) >>> ((nI q) &&& 31)) * 1000)) + (τ9 3 (7 * kd + 1)) := ⟨_, rfl⟩
        rw [← hpr]
        have hprw : pr = prW τ9 kd stg u q := hpr
        refine lv_istore (lv' := [(8, .int pr), (7, .int (nI (((stg / 10) + q) * 10 + tw))), (0, .ref (ad 3)), (1, .ref (ad (300 + kd))), (2, .int (nI tw)), (3, .int (nI stg)), (4, .ref (ad (100 + u))), (5, .int (nI (stg / 10))), (6, .int (nI q))]) hx hb dX4_goBy_58 hl (by decide) rfl (fun ls hl => ?_)
        refine lv_iload hx hb dX4_goBy_60 (lv_at hl 1 rfl) ?_
        refine lv_bipush (v := 60) hx hb dX4_goBy_62 (by decide) ?_
        refine lv_icmp_ge (tgt := 88) hx hb dX4_goBy_64 (by decide) (fun c_64 => ?_) (fun c_64 => ?_)
        · -- taken
          have nc_64 : 60 ≤ (((stg / 10) + q) * 10 + tw) := (nI_leI (a := 60) (b := (((stg / 10) + q) * 10 + tw)) (by omega) (by omega)).mp c_64
          exfalso
          omega
        · -- not taken
          have nc_64 : ¬ 60 ≤ (((stg / 10) + q) * 10 + tw) := fun z => c_64 ((nI_leI (a := 60) (b := (((stg / 10) + q) * 10 + tw)) (by omega) (by omega)).mpr z)
          refine lv_iload hx hb dX4_goBy_67 (lv_at hl 0 rfl) ?_
          refine lv_aload_n hx hb dX4_goBy_69 rfl (lv_at hl 2 rfl) ?_
          refine k_get (C := RX4) (T := TX4) (N := 3) hx hb hts inGX4 hown (hG.2.1).1 hP9.o3 rfl 1 (by decide) (hts _ w_110) (fun _ h9 => h9) (v := .ref (ad 4)) rfl dX4_goBy_70 ?_
          refine lv_iload hx hb dX4_goBy_73 (lv_at hl 1 rfl) ?_
          refine k_iald hx hb (hG.2.1).1 hP9.o4 (by rw [(rfl : nI (((stg / 10) + q) * 10 + tw) = nI (((stg / 10) + q) * 10 + tw))]; exact vp_in_nI (by omega : ((stg / 10) + q) * 10 + tw < 60) (by decide)) dX4_goBy_75 ?_
          rw [show (nI (((stg / 10) + q) * 10 + tw) : Int32).toNatClampNeg = ((stg / 10) + q) * 10 + tw from (congrArg Int32.toNatClampNeg (rfl : nI (((stg / 10) + q) * 10 + tw) = nI (((stg / 10) + q) * 10 + tw))).trans (nI_clamp (by omega : ((stg / 10) + q) * 10 + tw < 2 ^ 31))]
          refine lv_icmp_ge (tgt := 88) hx hb dX4_goBy_76 (by decide) (fun c_76 => ?_) (fun c_76 => ?_)
          · -- taken
            refine lv_iinc (v := nI (q + 1)) (lv' := [(6, .int (nI (q + 1))), (8, .int pr), (7, .int (nI (((stg / 10) + q) * 10 + tw))), (0, .ref (ad 3)), (1, .ref (ad (300 + kd))), (2, .int (nI tw)), (3, .int (nI stg)), (4, .ref (ad (100 + u))), (5, .int (nI (stg / 10)))]) hx hb dX4_goBy_88 hl (k := 8) rfl (nI_1 q) (by decide) rfl (fun ls hl => ?_)
            refine lv_goto (tgt := 9) hx hb dX4_goBy_91 (by decide) ?_
            exact ih9 (q + 1) _ _ (by omega) (by omega) (show Pic D ct Z dc (gb1 (gbN σ kd tw stg u q) kd tw stg u q) ad H9 by unfold gb1; rw [← hτ9, ← hprw, if_neg (Int32.not_lt.mpr c_76)]; exact hP9) hS9 ls (lv_sub hl [3, 4, 5, 6, 7, 8, 0] rfl)
          · -- not taken
            refine lv_aload_n hx hb dX4_goBy_79 rfl (lv_at hl 2 rfl) ?_
            refine k_get (C := RX4) (T := TX4) (N := 3) hx hb hts inGX4 hown (hG.2.1).1 hP9.o3 rfl 1 (by decide) (hts _ w_110) (fun _ h9 => h9) (v := .ref (ad 4)) rfl dX4_goBy_80 ?_
            refine lv_iload hx hb dX4_goBy_83 (lv_at hl 1 rfl) ?_
            refine lv_iload hx hb dX4_goBy_85 (lv_at hl 0 rfl) ?_
            refine k_iast hx hb (hG.2.1).1 hS9 (hP9.nz (i := 4) (us_lt (by decide))) hP9.o4 (by rw [(rfl : nI (((stg / 10) + q) * 10 + tw) = nI (((stg / 10) + q) * 10 + tw))]; exact vp_in_nI (by omega : ((stg / 10) + q) * 10 + tw < 60) (by decide)) dX4_goBy_87 (fun H87 locs87 hA87 hz87 hq87 hS87 => ?_)
            rw [show (nI (((stg / 10) + q) * 10 + tw) : Int32).toNatClampNeg = ((stg / 10) + q) * 10 + tw from (congrArg Int32.toNatClampNeg (rfl : nI (((stg / 10) + q) * 10 + tw) = nI (((stg / 10) + q) * 10 + tw))).trans (nI_clamp (by omega : ((stg / 10) + q) * 10 + tw < 2 ^ 31))] at hA87
            have hP87 : Pic D ct Z dc (su τ9 4 (((stg / 10) + q) * 10 + tw) pr) ad H87 := hP9.s4 (c := ((stg / 10) + q) * 10 + tw) pr hA87 hq87
            obtain ⟨τ87, hτ87⟩ : ∃ τ : Stt, τ = su τ9 4 (((stg / 10) + q) * 10 + tw) pr := ⟨_, rfl⟩
            rw [← hτ87] at hP87
            have er87 : nR τ87 = nR τ9 := by rw [hτ87]; exact nR_eq (su_k (by decide))
            have ec87 : nC τ87 = nC τ9 := by rw [hτ87]; exact nC_eq (su_k (by decide))
            have hd87_kd : τ87 3 (7 * kd) = 1 := by rw [hτ87]; exact (su_k (by decide)).trans hd9_kd
            have hp87_u : u < nR τ87 := Nat.lt_of_lt_of_eq hp9_u er87.symm
            refine lv_iinc (v := nI (q + 1)) (lv' := [(6, .int (nI (q + 1))), (8, .int pr), (7, .int (nI (((stg / 10) + q) * 10 + tw))), (0, .ref (ad 3)), (1, .ref (ad (300 + kd))), (2, .int (nI tw)), (3, .int (nI stg)), (4, .ref (ad (100 + u))), (5, .int (nI (stg / 10)))]) hx hb dX4_goBy_88 hl (k := 8) rfl (nI_1 q) (by decide) rfl (fun ls hl => ?_)
            refine lv_goto (tgt := 9) hx hb dX4_goBy_91 (by decide) ?_
            exact ih9 (q + 1) _ _ (by omega) (by omega) (show Pic D ct Z dc (gb1 (gbN σ kd tw stg u q) kd tw stg u q) ad H87 by unfold gb1; rw [← hτ9, ← hprw, if_pos (i32_nle c_76), ← hτ87]; exact hP87) hS87 ls (lv_sub hl [3, 4, 5, 6, 7, 8, 0] rfl)
  exact loop9 (P - stg / 10 + 1 + 1 - 0) 0 _ _ (Nat.zero_le _) (by omega) hP hS ls (lv_sub hl [2, 3, 4, 5, 6, 1, 0] rfl)

/-! goOnFrom -/
set_option maxHeartbeats 4000000 in
set_option maxRecDepth 100000 in
theorem c_X4_goOnFrom (l : Launch) (D : va_G) (ct : Nat → ClassId) (Z : Nat → Prop) (dc : Nat) (σ : Stt) (ad : Nat → Nat) (stg u P : Nat) (hu : u < nR σ) (hsg : stg < 60) (hPr : σ 1 (7 * u + 2) = nI P) (hP5 : P ≤ 5) (hbP : stg / 10 ≤ P) : Met l yX4_goOnFrom (.code yX4_goOnFrom cX4_goOnFrom 5 none :: GW) ({ frames := 2, cells := 0, slots := 0, locals := 50 } : Room) (va_Pc [.ref (ad 3), .int (nI stg), .ref (ad (100 + u))] (fun U => GF D ct Z dc U U.heap ∧ Pic D ct Z dc σ ad U.heap)) (qS0 Z (fun h => Pic D ct Z dc (goNW σ stg u (P - stg / 10 + 1) 10) ad h)) 0 0 (nZ Z) := by
  refine m_in (cc := cX4_goOnFrom) [.ref (ad 3), .int (nI stg), .ref (ad (100 + u))] "RumourCustoms$WaySearch" rfl (by decide) (Nat.le_of_ble_eq_true rfl) ?_
  intro pg e s m args below meth cd ls hx hb hml hown hts hr hlocks hin hPr hl
  obtain ⟨hG, hP⟩ := hPr
  have hl : lv_has ls 5 [(0, .ref (ad 3)), (1, .int (nI stg)), (2, .ref (ad (100 + u)))] := hl
  have hS : va_S (nZ Z) s.heap s.heap [] := va_S.rf
  have hn := hP.2.2.2.1
  have hnC := hP.2.2.2.2
  refine lv_iconst (v := 0) hx hb dX4_goOnFrom_0 (by decide) ?_
  refine lv_istore_n (lv' := [(3, .int 0), (0, .ref (ad 3)), (1, .int (nI stg)), (2, .ref (ad (100 + u)))]) hx hb dX4_goOnFrom_1 rfl hl (by decide) rfl (fun ls hl => ?_)
  have loop2 : ∀ (n2 t : Nat) (H : Heap) (locs : List Loc), t ≤ 10 → 10 - t < n2 → Pic D ct Z dc (goNW σ stg u (P - stg / 10 + 1) t) ad H → va_S (nZ Z) s.heap H locs → ∀ ls, lv_has ls 5 [(0, .ref (ad 3)), (1, .int (nI stg)), (2, .ref (ad (100 + u))), (3, .int (nI t))] → W pg l e ({ frames := 2, cells := 0, slots := 0, locals := 50 } : Room) s m args below meth cd H locs 0 0 (MQ below (qS0 Z (fun h => Pic D ct Z dc (goNW σ stg u (P - stg / 10 + 1) 10) ad h)) args s 0 0 (nZ Z)) (F0 m 2 ls []) := by
    intro n2
    induction n2 with
    | zero => intro t H locs  _ z; omega
    | succ n2 ih2 =>
      intro t H2 locs2  hi2 hn2 hP2 hS2 ls hl
      obtain ⟨τ2, hτ2⟩ : ∃ τ : Stt, τ = goNW σ stg u (P - stg / 10 + 1) t := ⟨_, rfl⟩
      rw [← hτ2] at hP2
      have er2 : nR τ2 = nR σ := by rw [hτ2]; exact nR_eq (goNW_o _ _ _ _ _ _ _ (by decide))
      have ec2 : nC τ2 = nC σ := by rw [hτ2]; exact nC_eq (goNW_o _ _ _ _ _ _ _ (by decide))
      have hp2_u : u < nR τ2 := Nat.lt_of_lt_of_eq hu er2.symm
      refine lv_iload_n hx hb dX4_goOnFrom_2 rfl (lv_at hl 3 rfl) ?_
      refine lv_bipush (v := 10) hx hb dX4_goOnFrom_3 (by decide) ?_
      refine lv_icmp_ge (tgt := 42) hx hb dX4_goOnFrom_5 (by decide) (fun c_5 => ?_) (fun c_5 => ?_)
      · -- taken
        have nc_5 : 10 ≤ t := (nI_leI (a := 10) (b := t) (by omega) (by omega)).mp c_5
        have he2 : t = 10 := by omega
        exact W.vret hx hb hr (fun t ht hW => ⟨rfl, by rw [ht]; exact (by rw [he2] at hτ2; rw [← hτ2]; exact hP2), hS2.F ht⟩) (fun z h => hS2.2.2 z h) dX4_goOnFrom_42
      · -- not taken
        have nc_5 : ¬ 10 ≤ t := fun z => c_5 ((nI_leI (a := 10) (b := t) (by omega) (by omega)).mpr z)
        have hlt2 : t < 10 := by omega
        refine lv_aload_n hx hb dX4_goOnFrom_8 rfl (lv_at hl 0 rfl) ?_
        refine k_get (C := RX4) (T := TX4) (N := 3) hx hb hts inGX4 hown (hG.2.1).1 hP2.o3 rfl 0 (by decide) (hts _ w_109) (fun _ h9 => h9) (v := .ref (ad 1)) rfl dX4_goOnFrom_9 ?_
        refine lv_iload_n hx hb dX4_goOnFrom_12 rfl (lv_at hl 1 rfl) ?_
        refine c_p1 (va_runS (As := [.int (nI stg)]) (rest := [.ref (ad 1)]) ⟨hx, hb, hml, hown, hts⟩ (c_X4_townOf l D ct (nI stg)) (k_cwS 1 hts w_819 w_820 w_61 w_821 rfl rfl (by decide) ⟨Nat.le_of_ble_eq_true rfl, Nat.le_of_ble_eq_true rfl⟩) ⟨(blindT fun _ _ _ _ h => h), fun U hU hW => ⟨rfl, hG.2.1.warm hW, trivial⟩⟩ rfl rfl hl.1 rfl (lv_room (Nat.le_of_ble_eq_true rfl)) dX4_goOnFrom_13 ⟨Nat.le_of_ble_eq_true rfl, Nat.le_of_ble_eq_true rfl⟩) ?_
        rw [show (nI stg - nI stg / 10 * 10 : Int32) = nI (stg % 10) from pk_rem (d := 10) (by omega) (by decide) (by decide)]
        refine lv_iload_n hx hb dX4_goOnFrom_16 rfl (lv_at hl 3 rfl) ?_
        refine c_p1 (va_runV (As := [.int (nI (stg % 10)), .int (nI t)]) (rest := []) ⟨hx, hb, hml, hown, hts⟩ (c_X2_between l D ct Z dc τ2 ad (stg % 10) t (by omega) (by omega)) (cwV 2 hts (GG w_826 w_236 w_237 w_60 w_238) rfl rfl rfl (by decide) ⟨Nat.le_of_ble_eq_true rfl, Nat.le_of_ble_eq_true rfl⟩) ⟨(blindT fun _ _ _ _ h => h), Ob.recv (hG.2.1).1 hP2.o1 rfl, fun U hU hW => ⟨rfl, hG.2.1.warm hW, by rw [hU]; exact hP2⟩⟩ rfl rfl hl.1 rfl (lv_room (Nat.le_of_ble_eq_true rfl)) dX4_goOnFrom_17 ⟨Nat.le_of_ble_eq_true rfl, Nat.le_of_ble_eq_true rfl⟩) ?_
        have hkd : rk (stg % 10) t < 100 := rk_lt (by omega) (by omega)
        by_cases hrd : τ2 3 (7 * rk (stg % 10) t) = 1
        · -- road
          rw [show va_rf (rdb τ2 ad (stg % 10) t) = .ref (ad (300 + rk (stg % 10) t)) from by rw [rdb, if_pos hrd]; rfl]
          refine lv_astore (lv' := [(4, .ref (ad (300 + rk (stg % 10) t))), (0, .ref (ad 3)), (1, .int (nI stg)), (2, .ref (ad (100 + u))), (3, .int (nI t))]) hx hb dX4_goOnFrom_20 hl (by decide) rfl (fun ls hl => ?_)
          refine lv_aload hx hb dX4_goOnFrom_22 (lv_at hl 0 rfl) ?_
          refine lv_ifnull hx hb dX4_goOnFrom_24 ?_
          refine lv_aload_n hx hb dX4_goOnFrom_27 rfl (lv_at hl 1 rfl) ?_
          refine lv_aload hx hb dX4_goOnFrom_28 (lv_at hl 0 rfl) ?_
          refine lv_iload_n hx hb dX4_goOnFrom_30 rfl (lv_at hl 4 rfl) ?_
          refine lv_iload_n hx hb dX4_goOnFrom_31 rfl (lv_at hl 2 rfl) ?_
          refine lv_aload_n hx hb dX4_goOnFrom_32 rfl (lv_at hl 3 rfl) ?_
          refine c_s0 (va_runV (As := [.ref (ad (300 + rk (stg % 10) t)), .int (nI t), .int (nI stg), .ref (ad (100 + u))]) (rest := []) ⟨hx, hb, hml, hown, hts⟩ (c_X4_goBy l D ct Z dc τ2 ad (rk (stg % 10) t) t stg u P hkd hrd hp2_u (by omega) hsg (by rw [hτ2, goNW_o _ _ _ _ _ _ _ (by decide)]; exact hPr) hP5 hbP) (cwV 4 hts (GG w_827 w_829 w_31 w_61 w_830) rfl rfl rfl (by decide) ⟨Nat.le_of_ble_eq_true rfl, Nat.le_of_ble_eq_true rfl⟩) ⟨(blindF fun _ _ _ _ h => h), Ob.recv (hG.2.1).1 hP2.o3 rfl, fun U hU hW => ⟨rfl, hG.up hW hS2 hU, by rw [hU]; exact hP2⟩⟩ rfl rfl hl.1 rfl (lv_room (Nat.le_of_ble_eq_true rfl)) dX4_goOnFrom_33 ⟨Nat.le_of_ble_eq_true rfl, Nat.le_of_ble_eq_true rfl⟩) hS2 (fun H33 locs33 hR33 hzz33 hS33 => ?_)
          have hP33 : Pic D ct Z dc (gbN τ2 (rk (stg % 10) t) t stg u (P - stg / 10 + 1)) ad H33 := hR33
          obtain ⟨τ33, hτ33⟩ : ∃ τ : Stt, τ = gbN τ2 (rk (stg % 10) t) t stg u (P - stg / 10 + 1) := ⟨_, rfl⟩
          rw [← hτ33] at hP33
          have er33 : nR τ33 = nR τ2 := by rw [hτ33]; exact nR_eq (gbN_o _ _ _ _ _ _ _ _ (by decide))
          have ec33 : nC τ33 = nC τ2 := by rw [hτ33]; exact nC_eq (gbN_o _ _ _ _ _ _ _ _ (by decide))
          have hp33_u : u < nR τ33 := Nat.lt_of_lt_of_eq hp2_u er33.symm
          have hd33_rkstg10t : τ33 3 (7 * (rk (stg % 10) t)) = 1 := by rw [hτ33]; exact (gbN_o _ _ _ _ _ _ _ _ (by decide)).trans hrd
          refine lv_iinc (v := nI (t + 1)) (lv' := [(3, .int (nI (t + 1))), (4, .ref (ad (300 + rk (stg % 10) t))), (0, .ref (ad 3)), (1, .int (nI stg)), (2, .ref (ad (100 + u)))]) hx hb dX4_goOnFrom_36 hl (k := 4) rfl (nI_1 t) (by decide) rfl (fun ls hl => ?_)
          refine lv_goto (tgt := 2) hx hb dX4_goOnFrom_39 (by decide) ?_
          exact ih2 (t + 1) _ _ (by omega) (by omega) (show Pic D ct Z dc (go1W (goNW σ stg u (P - stg / 10 + 1) t) stg u (P - stg / 10 + 1) t) ad H33 by unfold go1W; rw [← hτ2, if_pos hrd, ← hτ33]; exact hP33) hS33 ls (lv_sub hl [2, 3, 4, 0] rfl)
        · -- none
          rw [show va_rf (rdb τ2 ad (stg % 10) t) = .null from by rw [rdb, if_neg hrd]; rfl]
          refine lv_astoreN (lv' := [(4, .null), (0, .ref (ad 3)), (1, .int (nI stg)), (2, .ref (ad (100 + u))), (3, .int (nI t))]) hx hb dX4_goOnFrom_20 hl (by decide) rfl (fun ls hl => ?_)
          refine lv_aloadN hx hb dX4_goOnFrom_22 (lv_at hl 0 rfl) ?_
          refine lv_ifnullN (tgt := 36) hx hb dX4_goOnFrom_24 (by decide) ?_
          refine lv_iinc (v := nI (t + 1)) (lv' := [(3, .int (nI (t + 1))), (4, .null), (0, .ref (ad 3)), (1, .int (nI stg)), (2, .ref (ad (100 + u)))]) hx hb dX4_goOnFrom_36 hl (k := 4) rfl (nI_1 t) (by decide) rfl (fun ls hl => ?_)
          refine lv_goto (tgt := 2) hx hb dX4_goOnFrom_39 (by decide) ?_
          exact ih2 (t + 1) _ _ (by omega) (by omega) (show Pic D ct Z dc (go1W (goNW σ stg u (P - stg / 10 + 1) t) stg u (P - stg / 10 + 1) t) ad H2 by unfold go1W; rw [← hτ2, if_neg hrd]; exact hP2) hS2 ls (lv_sub hl [2, 3, 4, 0] rfl)
  exact loop2 (10 + 1 - 0) 0 _ _ (Nat.zero_le _) (by omega) hP hS ls (lv_sub hl [1, 2, 3, 0] rfl)
