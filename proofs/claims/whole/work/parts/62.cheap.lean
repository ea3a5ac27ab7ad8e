/-- what leastPrice answers -/
def lpA (σ : Stt) (u P fr to : Nat) (n : Int32) : Prop := (n = -1 ∧ bestO σ u P fr to = none) ∨ ∃ p, n = nI p ∧ p < 1000000000 ∧ bestO σ u P fr to = some (En p)
def chpA (o : Option Nat) (w : Int32) : Int32 := match o with | none => -1 | some v => if w = 0 then nI (v / 1000000) else nI (v % 1000000)
noncomputable def o_cheapest (σ : Stt) (r f t w : Int32) : Op := if rOK σ r && tOK σ f && tOK σ t && wi 0 w 1 then (0, chpA (bestO σ (ix r) (ix (σ 1 (7 * ix r + 2))) (ix f) (ix t)) w, σ) else (1, 0, σ)
theorem wi001 : wi 0 0 1 = true := by decide
theorem En_d (p : Nat) : En p / 1000000 = p / 1000 := by unfold En; omega
theorem En_m (p : Nat) : En p % 1000000 = p % 1000 := by unfold En; omega
theorem wi1 {w : Int32} (h : wi 0 w 1 = true) : w = 0 ∨ w = 1 := by
  obtain ⟨n, hn, rfl⟩ := wi_c (hi := 1) (by decide) h
  rcases (by omega : n = 0 ∨ n = 1) with rfl | rfl
  · exact Or.inl rfl
  · exact Or.inr rfl

/-! leastPrice -/
set_option maxHeartbeats 4000000 in
set_option maxRecDepth 100000 in
theorem c_X4_leastPrice (l : Launch) (D : va_G) (ct : Nat → ClassId) (Z : Nat → Prop) (dc : Nat) (σ : Stt) (ad : Nat → Nat) (u fr to P : Nat) (hu : u < nR σ) (hI : Inv σ) (hf : fr < nT σ) (hto : to < 10) (hPr : σ 1 (7 * u + 2) = nI P) (hP5 : P ≤ 5) : Met l yX4_leastPrice (.code yX4_leastPrice cX4_leastPrice 6 (some .int) :: GW) ({ frames := 3, cells := 0, slots := 0, locals := 74 } : Room) (va_Pc [.ref (ad 3), .ref (ad (100 + u)), .int (nI fr), .int (nI to)] (fun U => GF D ct Z dc U U.heap ∧ Pic D ct Z dc σ ad U.heap)) (qS1 Z (fun x h => ∃ n : Int32, x = .int n ∧ lpA σ u P fr to n ∧ ∃ σ1, SC σ σ1 ∧ Pic D ct Z dc σ1 ad h)) 0 0 (nZ Z) := by
  refine m_in (cc := cX4_leastPrice) [.ref (ad 3), .ref (ad (100 + u)), .int (nI fr), .int (nI to)] "RumourCustoms$WaySearch" rfl (by decide) (Nat.le_of_ble_eq_true rfl) ?_
  intro pg e s m args below meth cd ls hx hb hml hown hts hr hlocks hin hPr0 hl
  obtain ⟨hG, hP⟩ := hPr0
  have hl : lv_has ls 6 [(0, .ref (ad 3)), (1, .ref (ad (100 + u))), (2, .int (nI fr)), (3, .int (nI to))] := hl
  have hS : va_S (nZ Z) s.heap s.heap [] := va_S.rf
  have hn := hP.2.2.2.1
  have hnC := hP.2.2.2.2
  refine lv_aload_n hx hb dX4_leastPrice_0 rfl (lv_at hl 0 rfl) ?_
  refine lv_iload_n hx hb dX4_leastPrice_1 rfl (lv_at hl 2 rfl) ?_
  refine c_s0 (va_runV (As := [.int (nI fr)]) (rest := []) ⟨hx, hb, hml, hown, hts⟩ (c_X4_startIn l D ct Z dc σ ad (nI fr)) (cwV 1 hts (GG w_810 w_812 w_28 w_61 w_813) rfl rfl rfl (by decide) ⟨Nat.le_of_ble_eq_true rfl, Nat.le_of_ble_eq_true rfl⟩) ⟨(blindF fun _ _ _ _ h => h), Ob.recv (hG.2.1).1 hP.o3 rfl, fun U hU hW => ⟨rfl, hG.up hW hS hU, by rw [hU]; exact hP⟩⟩ rfl rfl hl.1 rfl (lv_room (Nat.le_of_ble_eq_true rfl)) dX4_leastPrice_2 ⟨Nat.le_of_ble_eq_true rfl, Nat.le_of_ble_eq_true rfl⟩) hS (fun H2 locs2 hR2 hzz2 hS2 => ?_)
  have hP2 : Pic D ct Z dc (stN σ (nI fr) 60) ad H2 := hR2
  obtain ⟨τ2, hτ2⟩ : ∃ τ : Stt, τ = stN σ (nI fr) 60 := ⟨_, rfl⟩
  rw [← hτ2] at hP2
  have er2 : nR τ2 = nR σ := by rw [hτ2]; exact nR_eq (stN_o _ _ _ _ _ (by decide) (by decide))
  have ec2 : nC τ2 = nC σ := by rw [hτ2]; exact nC_eq (stN_o _ _ _ _ _ (by decide) (by decide))
  have hp2_u : u < nR τ2 := Nat.lt_of_lt_of_eq hu er2.symm
  refine lv_iconst (v := 0) hx hb dX4_leastPrice_5 (by decide) ?_
  refine lv_istore (lv' := [(4, .int 0), (0, .ref (ad 3)), (1, .ref (ad (100 + u))), (2, .int (nI fr)), (3, .int (nI to))]) hx hb dX4_leastPrice_6 hl (by decide) rfl (fun ls hl => ?_)
  have loop8 : ∀ (n8 i : Nat) (τ8 : Stt) (H8 : Heap) (locs8 : List Loc), i ≤ 60 → 60 - i < n8 → DI σ u P fr to i τ8 → Pic D ct Z dc τ8 ad H8 → va_S (nZ Z) s.heap H8 locs8 → ∀ ls, lv_has ls 6 [(0, .ref (ad 3)), (1, .ref (ad (100 + u))), (2, .int (nI fr)), (3, .int (nI to)), (4, .int (nI i))] → W pg l e ({ frames := 3, cells := 0, slots := 0, locals := 74 } : Room) s m args below meth cd H8 locs8 0 0 (MQ below (qS1 Z (fun x h => ∃ n : Int32, x = .int n ∧ lpA σ u P fr to n ∧ ∃ σ1, SC σ σ1 ∧ Pic D ct Z dc σ1 ad h)) args s 0 0 (nZ Z)) (F0 m 8 ls []) := by
    intro n8
    induction n8 with
    | zero => intro i τ8 H8 locs8 _ z; omega
    | succ n8 ih8 =>
      intro i τ8 H8 locs8 hi8 hn8 hDI hP8 hS8 ls hl
      have hSC : SC σ τ8 := fun a ha => funext fun j => hDI.1 a j (by omega) (by omega)
      have er8 : nR τ8 = nR σ := nR_eq (by rw [hSC 0 (by decide)])
      have ec8 : nC τ8 = nC σ := nC_eq (by rw [hSC 0 (by decide)])
      have hu8 : u < nR τ8 := Nat.lt_of_lt_of_eq hu er8.symm
      refine lv_iload hx hb dX4_leastPrice_8 (lv_at hl 4 rfl) ?_
      refine lv_bipush (v := 60) hx hb dX4_leastPrice_10 (by decide) ?_
      refine lv_icmp_ge (tgt := 67) hx hb dX4_leastPrice_12 (by decide) (fun c_12 => ?_) (fun c_12 => ?_)
      · -- taken
        have nc_12 : 60 ≤ i := (nI_leI (a := 60) (b := i) (by omega) (by omega)).mp c_12
        have he8 : i = 60 := by omega
        have hnn : ∀ k, k < 60 → τ8 5 k = 0 → ¬ pz τ8 k < 1000000000 := fun k hk h0 _ => by
          have q := fb_ct_all.mp (hDI.2.2.2.2.2.2.trans he8) k hk
          rw [h0] at q
          exact absurd q (by decide)
        refine lv_iconst (v := (-1)) hx hb dX4_leastPrice_67 (by decide) ?_
        exact W.iret (v := (-1)) hx hb hr (fun t ht hW => ⟨_, rfl, by rw [ht]; exact ⟨_, rfl, Or.inl ⟨rfl, DI.none hI hu hP5 hf hDI hnn⟩, _, hSC, hP8⟩, hS8.F ht⟩) (fun z h => hS8.2.2 z h) dX4_leastPrice_68
      · -- not taken
        have nc_12 : ¬ 60 ≤ i := fun z => c_12 ((nI_leI (a := 60) (b := i) (by omega) (by omega)).mpr z)
        refine lv_aload_n hx hb dX4_leastPrice_15 rfl (lv_at hl 0 rfl) ?_
        refine c_p1 (va_runV (As := []) (rest := []) ⟨hx, hb, hml, hown, hts⟩ (c_X4_nextStage l D ct Z dc τ8 ad ) (cwV 0 hts (GG w_815 w_817 w_29 w_61 w_818) rfl rfl rfl (by decide) ⟨Nat.le_of_ble_eq_true rfl, Nat.le_of_ble_eq_true rfl⟩) ⟨(blindT fun _ _ _ _ h => h), Ob.recv (hG.2.1).1 hP8.o3 rfl, fun U hU hW => ⟨rfl, hG.2.1.warm hW, by rw [hU]; exact hP8⟩⟩ rfl rfl hl.1 rfl (lv_room (Nat.le_of_ble_eq_true rfl)) dX4_leastPrice_16 ⟨Nat.le_of_ble_eq_true rfl, Nat.le_of_ble_eq_true rfl⟩) ?_
        rcases hDI.nx with ⟨hne, hnn⟩ | ⟨sg, hsg, hse, h5, hp, hm⟩
        · -- none
          rw [hne]
          refine lv_istore (lv' := [(5, .int (-1)), (0, .ref (ad 3)), (1, .ref (ad (100 + u))), (2, .int (nI fr)), (3, .int (nI to)), (4, .int (nI i))]) hx hb dX4_leastPrice_19 hl (by decide) rfl (fun ls hl => ?_)
          refine lv_iload hx hb dX4_leastPrice_21 (lv_at hl 0 rfl) ?_
          refine lv_iconst (v := (-1)) hx hb dX4_leastPrice_23 (by decide) ?_
          refine lv_icmp_ne (tgt := 29) hx hb dX4_leastPrice_24 (by decide) (fun c_ => absurd (by decide) c_) (fun _ => ?_)
          refine lv_iconst (v := (-1)) hx hb dX4_leastPrice_27 (by decide) ?_
          exact W.iret (v := (-1)) hx hb hr (fun t ht hW => ⟨_, rfl, by rw [ht]; exact ⟨_, rfl, Or.inl ⟨rfl, DI.none hI hu hP5 hf hDI hnn⟩, _, hSC, hP8⟩, hS8.F ht⟩) (fun z h => hS8.2.2 z h) dX4_leastPrice_28
        · -- some
          rw [hse]
          refine lv_istore (lv' := [(5, .int (nI sg)), (0, .ref (ad 3)), (1, .ref (ad (100 + u))), (2, .int (nI fr)), (3, .int (nI to)), (4, .int (nI i))]) hx hb dX4_leastPrice_19 hl (by decide) rfl (fun ls hl => ?_)
          refine lv_iload hx hb dX4_leastPrice_21 (lv_at hl 0 rfl) ?_
          refine lv_iconst (v := (-1)) hx hb dX4_leastPrice_23 (by decide) ?_
          refine lv_icmp_ne (tgt := 29) hx hb dX4_leastPrice_24 (by decide) (fun _ => ?_) (fun c_ => absurd c_ (nI_m1 (n := sg) (by omega)))
          refine lv_iload hx hb dX4_leastPrice_29 (lv_at hl 0 rfl) ?_
          refine c_p1 (va_runS (As := [.int (nI sg)]) (rest := []) ⟨hx, hb, hml, hown, hts⟩ (c_X4_townOf l D ct (nI sg)) (k_cwS 1 hts w_819 w_820 w_61 w_821 rfl rfl (by decide) ⟨Nat.le_of_ble_eq_true rfl, Nat.le_of_ble_eq_true rfl⟩) ⟨(blindT fun _ _ _ _ h => h), fun U hU hW => ⟨rfl, hG.2.1.warm hW, trivial⟩⟩ rfl rfl hl.1 rfl (lv_room (Nat.le_of_ble_eq_true rfl)) dX4_leastPrice_31 ⟨Nat.le_of_ble_eq_true rfl, Nat.le_of_ble_eq_true rfl⟩) ?_
          rw [show (nI sg - nI sg / 10 * 10 : Int32) = nI (sg % 10) from pk_rem (d := 10) (by omega) (by decide) (by decide)]
          refine lv_iload_n hx hb dX4_leastPrice_34 rfl (lv_at hl 4 rfl) ?_
          refine lv_icmp_ne (tgt := 46) hx hb dX4_leastPrice_35 (by decide) (fun c_35 => ?_) (fun c_35 => ?_)
          · -- taken
            have nc_35 : ¬ (sg % 10) = to := fun z => c_35 ((nI_eq (a := (sg % 10)) (b := to) (by omega) (by omega)).mpr z)
            refine lv_aload_n hx hb dX4_leastPrice_46 rfl (lv_at hl 1 rfl) ?_
            refine k_get (C := RX4) (T := TX4) (N := 3) hx hb hts inGX4 hown (hG.2.1).1 hP8.o3 rfl 2 (by decide) (hts _ w_111) (fun _ h9 => h9) (v := .ref (ad 5)) rfl dX4_leastPrice_47 ?_
            refine lv_iload hx hb dX4_leastPrice_50 (lv_at hl 0 rfl) ?_
            refine lv_iconst (v := 1) hx hb dX4_leastPrice_52 (by decide) ?_
            refine k_zast hx hb (hG.2.1).1 hS8 (hP8.nz (i := 5) (us_lt (by decide))) hP8.o5 rfl (by rw [(rfl : nI sg = nI sg)]; exact vp_in_nI (by omega : sg < 60) (by decide)) dX4_leastPrice_53 (fun H53 locs53 hA53 hz53 hq53 hS53 => ?_)
            rw [show (nI sg : Int32).toNatClampNeg = sg from (congrArg Int32.toNatClampNeg (rfl : nI sg = nI sg)).trans (nI_clamp (by omega : sg < 2 ^ 31))] at hA53
            have hP53 : Pic D ct Z dc (su τ8 5 sg 1) ad H53 := hP8.s5 (c := sg) 1 hA53 hq53
            obtain ⟨τ53, hτ53⟩ : ∃ τ : Stt, τ = su τ8 5 sg 1 := ⟨_, rfl⟩
            rw [← hτ53] at hP53
            have er53 : nR τ53 = nR τ8 := by rw [hτ53]; exact nR_eq (su_k (by decide))
            have ec53 : nC τ53 = nC τ8 := by rw [hτ53]; exact nC_eq (su_k (by decide))
            have hp53_u : u < nR τ53 := Nat.lt_of_lt_of_eq hu8 er53.symm
            refine lv_aload_n hx hb dX4_leastPrice_54 rfl (lv_at hl 1 rfl) ?_
            refine lv_iload hx hb dX4_leastPrice_55 (lv_at hl 0 rfl) ?_
            refine lv_aload_n hx hb dX4_leastPrice_57 rfl (lv_at hl 2 rfl) ?_
            refine c_s0 (va_runV (As := [.int (nI sg), .ref (ad (100 + u))]) (rest := []) ⟨hx, hb, hml, hown, hts⟩ (c_X4_goOnFrom l D ct Z dc τ53 ad sg u P hp53_u hsg (by rw [hτ53, su_k (by decide), hSC 1 (by decide)]; exact hPr) hP5 (hDI.2.2.1 sg hsg hp).2.2.1) (cwV 2 hts (GG w_822 w_824 w_30 w_61 w_825) rfl rfl rfl (by decide) ⟨Nat.le_of_ble_eq_true rfl, Nat.le_of_ble_eq_true rfl⟩) ⟨(blindF fun _ _ _ _ h => h), Ob.recv (hG.2.1).1 hP53.o3 rfl, fun U hU hW => ⟨rfl, hG.up hW hS53 hU, by rw [hU]; exact hP53⟩⟩ rfl rfl hl.1 rfl (lv_room (Nat.le_of_ble_eq_true rfl)) dX4_leastPrice_58 ⟨Nat.le_of_ble_eq_true rfl, Nat.le_of_ble_eq_true rfl⟩) hS53 (fun H58 locs58 hR58 hzz58 hS58 => ?_)
            have hP58 : Pic D ct Z dc (goNW τ53 sg u (P - sg / 10 + 1) 10) ad H58 := hR58
            obtain ⟨τ58, hτ58⟩ : ∃ τ : Stt, τ = goNW τ53 sg u (P - sg / 10 + 1) 10 := ⟨_, rfl⟩
            rw [← hτ58] at hP58
            have er58 : nR τ58 = nR τ53 := by rw [hτ58]; exact nR_eq (goNW_o _ _ _ _ _ _ _ (by decide))
            have ec58 : nC τ58 = nC τ53 := by rw [hτ58]; exact nC_eq (goNW_o _ _ _ _ _ _ _ (by decide))
            have hp58_u : u < nR τ58 := Nat.lt_of_lt_of_eq hp53_u er58.symm
            refine lv_iinc (v := nI (i + 1)) (lv' := [(4, .int (nI (i + 1))), (5, .int (nI sg)), (0, .ref (ad 3)), (1, .ref (ad (100 + u))), (2, .int (nI fr)), (3, .int (nI to))]) hx hb dX4_leastPrice_61 hl (k := 5) rfl (nI_1 i) (by decide) rfl (fun ls hl => ?_)
            refine lv_goto (tgt := 8) hx hb dX4_leastPrice_64 (by decide) ?_
            exact ih8 (i + 1) _ _ _ (by omega) (by omega) (by rw [hτ58, hτ53]; exact DI.step hI hu hP5 hDI hsg h5 hp hm nc_35) hP58 hS58 ls (lv_sub hl [2, 3, 4, 5, 0] rfl)
          · -- not taken
            have nc_35 : (sg % 10) = to := (nI_eq (a := (sg % 10)) (b := to) (by omega) (by omega)).mp c_35
            refine lv_aload_n hx hb dX4_leastPrice_38 rfl (lv_at hl 1 rfl) ?_
            refine k_get (C := RX4) (T := TX4) (N := 3) hx hb hts inGX4 hown (hG.2.1).1 hP8.o3 rfl 1 (by decide) (hts _ w_110) (fun _ h9 => h9) (v := .ref (ad 4)) rfl dX4_leastPrice_39 ?_
            refine lv_iload hx hb dX4_leastPrice_42 (lv_at hl 0 rfl) ?_
            refine k_iald hx hb (hG.2.1).1 hP8.o4 (by rw [(rfl : nI sg = nI sg)]; exact vp_in_nI (by omega : sg < 60) (by decide)) dX4_leastPrice_44 ?_
            rw [show (nI sg : Int32).toNatClampNeg = sg from (congrArg Int32.toNatClampNeg (rfl : nI sg = nI sg)).trans (nI_clamp (by omega : sg < 2 ^ 31))]
            exact W.iret (v := τ8 4 sg) hx hb hr (fun t ht hW => ⟨_, rfl, by rw [ht]; exact ⟨_, rfl, Or.inr ⟨_, (hDI.2.1 sg hsg).1, hp, DI.found hI hu hP5 hf hDI hsg h5 hp hm nc_35⟩, _, hSC, hP8⟩, hS8.F ht⟩) (fun z h => hS8.2.2 z h) dX4_leastPrice_45
  exact loop8 (60 + 1 - 0) 0 _ _ _ (by omega) (by omega) (by rw [hτ2]; exact DI_0 hI hf) hP2 hS2 ls (lv_sub hl [1, 2, 3, 4, 0] rfl)

/-! cheapest -/
set_option maxHeartbeats 4000000 in
set_option maxRecDepth 100000 in
theorem c_X5_cheapest (l : Launch) (D : va_G) (ct : Nat → ClassId) (Z : Nat → Prop) (dc : Nat) (σ : Stt) (ad : Nat → Nat) (hst : l.stackTraces = false) (r fw tw w : Int32) (hI : Inv σ) : vx_Met l yX5_cheapest (.code yX5_cheapest cX5_cheapest 7 (some .int) :: GW) ({ frames := 7, cells := 4, slots := 24, locals := 103 } : Room) (va_Pc [.ref (ad 0), .int r, .int fw, .int tw, .int w] (fun U => GF D ct Z dc U U.heap ∧ Pic D ct Z dc σ ad U.heap)) (qS1 Z (fun x h => (o_cheapest σ r fw tw w).1 = 0 ∧ x = .int (o_cheapest σ r fw tw w).2.1 ∧ ∃ (σ1 : Stt) (ad1 : Nat → Nat), SC (o_cheapest σ r fw tw w).2.2 σ1 ∧ ad1 0 = ad 0 ∧ Pic D ct Z dc σ1 ad1 h)) (xK (fun E => exn ["java/lang/IndexOutOfBoundsException"] (o_cheapest σ r fw tw w).1 E)) 4 24 (nZ Z) := by
  refine mx_in (cc := cX5_cheapest) [.ref (ad 0), .int r, .int fw, .int tw, .int w] "RumourCustoms" rfl (by decide) (Nat.le_of_ble_eq_true rfl) ?_
  intro pg e s m args below meth cd ls hx hb hml hown hts hr hlocks hnt hPr hl
  obtain ⟨hG, hP⟩ := hPr
  have hl : lv_has ls 7 [(0, .ref (ad 0)), (1, .int r), (2, .int fw), (3, .int tw), (4, .int w)] := hl
  have hS : va_S (nZ Z) s.heap s.heap [] := va_S.rf
  have hn := hP.2.2.2.1
  have hnC := hP.2.2.2.2
  have hT1 := hI.1.1
  have hT10 := hI.1.2
  have hR1 := hI.2.1.1
  have hC1 := hI.2.2.1.1
  have hH : ∀ i, i < nR σ → σ 1 (7 * i + 6) = 0 ∨ σ 1 (7 * i + 6) = 1 := fun i hi => (hI.2.2.2.1 i hi).2.2.2.2.2
  refine lv_aload_n hx hb dX5_cheapest_0 rfl (lv_at hl 0 rfl) ?_
  refine lv_iload_n hx hb dX5_cheapest_1 rfl (lv_at hl 1 rfl) ?_
  refine c_x1R (vx_runV (As := [.int r]) (rest := []) ⟨hx, hb, hml, hown, hts⟩ (c_X5_rumourAt l D ct Z dc σ ad hst r hR1) (cwV 1 hts (GG w_565 w_567 w_14 w_59 w_568) rfl rfl rfl (by decide) ⟨Nat.le_of_ble_eq_true rfl, Nat.le_of_ble_eq_true rfl⟩) ⟨(blindF fun _ _ _ _ h => h), Ob.recv (hG.2.1).1 hP.o0 rfl, fun U hU hW => ⟨rfl, hG.up hW hS hU, by rw [hU]; exact hP⟩⟩ rfl rfl hl.1 rfl (lv_room (Nat.le_of_ble_eq_true rfl)) dX5_cheapest_2 ⟨Nat.le_of_ble_eq_true rfl, Nat.le_of_ble_eq_true rfl⟩) hS (fun E ce q9 H1 hp hk hS1 hce hcv hcl => vx_widen (k := 4) (n := 24) (Nat.le_of_ble_eq_true rfl) (Nat.le_of_ble_eq_true rfl) (vx_out (fun x h => (hnt x h).elim) hlocks hce hcv hcl (fun t ht _ => ⟨(by obtain ⟨rfl, hf⟩ := hp; rw [show o_cheapest σ r fw tw w = (1, 0, σ) from by simp [o_cheapest, chpA, wi001, hf]]; exact ⟨Nat.le_of_ble_eq_true rfl, rfl⟩), by rw [ht]; exact hk⟩) (fun z hz => nomatch hz) (Nat.le_refl _) (Nat.le_refl _))) (fun x hc_2 => ?_)
  obtain ⟨k_2, hk_2, hv_2, rfl⟩ := hc_2
  subst hv_2
  have ok2 : rOK σ (nI k_2) = true := okR2 hR1 (by omega) hk_2
  have ix2 : ix (nI k_2) = k_2 := ix_n (by omega)
  refine lv_astore (lv' := [(5, .ref (ad (100 + k_2))), (0, .ref (ad 0)), (1, .int (nI k_2)), (2, .int fw), (3, .int tw), (4, .int w)]) hx hb dX5_cheapest_5 hl (by decide) rfl (fun ls hl => ?_)
  refine lv_aload_n hx hb dX5_cheapest_7 rfl (lv_at hl 1 rfl) ?_
  refine lv_iload_n hx hb dX5_cheapest_8 rfl (lv_at hl 3 rfl) ?_
  refine c_x0C (vx_runV (As := [.int fw]) (rest := []) ⟨hx, hb, hml, hown, hts⟩ (c_X5_requireTown l D ct Z dc σ ad hst fw) (cwV 1 hts (GG w_367 w_369 w_10 w_59 w_370) rfl rfl rfl (by decide) ⟨Nat.le_of_ble_eq_true rfl, Nat.le_of_ble_eq_true rfl⟩) ⟨(blindF fun _ _ _ _ h => h), Ob.recv (hG.2.1).1 hP.o0 rfl, fun U hU hW => ⟨rfl, hG.up hW hS hU, by rw [hU]; exact hP⟩⟩ rfl rfl hl.1 rfl (lv_room (Nat.le_of_ble_eq_true rfl)) dX5_cheapest_9 ⟨Nat.le_of_ble_eq_true rfl, Nat.le_of_ble_eq_true rfl⟩) hS (fun E ce q9 H1 hp hk hS1 hce hcv hcl => vx_widen (k := 4) (n := 24) (Nat.le_of_ble_eq_true rfl) (Nat.le_of_ble_eq_true rfl) (vx_out (fun x h => (hnt x h).elim) hlocks hce hcv hcl (fun t ht _ => ⟨(by obtain ⟨rfl, hf⟩ := hp; rw [show o_cheapest σ (nI k_2) fw tw w = (1, 0, σ) from by simp [o_cheapest, chpA, wi001, ok2, ix2, hf]]; exact ⟨Nat.le_of_ble_eq_true rfl, rfl⟩), by rw [ht]; exact hk⟩) (fun z hz => nomatch hz) (Nat.le_refl _) (Nat.le_refl _))) (fun hc_9 => ?_)
  obtain ⟨t9, ht9, hv9⟩ := okT hT1 hT10 hc_9
  subst hv9
  have ix9 : ix (nI t9) = t9 := ix_n (by omega)
  refine lv_aload_n hx hb dX5_cheapest_12 rfl (lv_at hl 1 rfl) ?_
  refine lv_iload_n hx hb dX5_cheapest_13 rfl (lv_at hl 4 rfl) ?_
  refine c_x0C (vx_runV (As := [.int tw]) (rest := []) ⟨hx, hb, hml, hown, hts⟩ (c_X5_requireTown l D ct Z dc σ ad hst tw) (cwV 1 hts (GG w_367 w_369 w_10 w_59 w_370) rfl rfl rfl (by decide) ⟨Nat.le_of_ble_eq_true rfl, Nat.le_of_ble_eq_true rfl⟩) ⟨(blindF fun _ _ _ _ h => h), Ob.recv (hG.2.1).1 hP.o0 rfl, fun U hU hW => ⟨rfl, hG.up hW hS hU, by rw [hU]; exact hP⟩⟩ rfl rfl hl.1 rfl (lv_room (Nat.le_of_ble_eq_true rfl)) dX5_cheapest_14 ⟨Nat.le_of_ble_eq_true rfl, Nat.le_of_ble_eq_true rfl⟩) hS (fun E ce q9 H1 hp hk hS1 hce hcv hcl => vx_widen (k := 4) (n := 24) (Nat.le_of_ble_eq_true rfl) (Nat.le_of_ble_eq_true rfl) (vx_out (fun x h => (hnt x h).elim) hlocks hce hcv hcl (fun t ht _ => ⟨(by obtain ⟨rfl, hf⟩ := hp; rw [show o_cheapest σ (nI k_2) (nI t9) tw w = (1, 0, σ) from by simp [o_cheapest, chpA, wi001, ok2, ix2, hc_9, ix9, hf]]; exact ⟨Nat.le_of_ble_eq_true rfl, rfl⟩), by rw [ht]; exact hk⟩) (fun z hz => nomatch hz) (Nat.le_refl _) (Nat.le_refl _))) (fun hc_14 => ?_)
  obtain ⟨t14, ht14, hv14⟩ := okT hT1 hT10 hc_14
  subst hv14
  have ix14 : ix (nI t14) = t14 := ix_n (by omega)
  refine lv_iload hx hb dX5_cheapest_17 (lv_at hl 5 rfl) ?_
  refine lv_iconst (v := 1) hx hb dX5_cheapest_19 (by decide) ?_
  refine c_x0C (vx_runS (As := [.int w, .int 1]) (rest := []) ⟨hx, hb, hml, hown, hts⟩ (c_X5_requireWhat l D ct Z dc σ ad hst w 1) (k_cwS 2 hts w_448 w_449 w_59 w_450 rfl rfl (by decide) ⟨Nat.le_of_ble_eq_true rfl, Nat.le_of_ble_eq_true rfl⟩) ⟨(blindF fun _ _ _ _ h => h), fun U hU hW => ⟨rfl, hG.up hW hS hU, by rw [hU]; exact hP⟩⟩ rfl rfl hl.1 rfl (lv_room (Nat.le_of_ble_eq_true rfl)) dX5_cheapest_20 ⟨Nat.le_of_ble_eq_true rfl, Nat.le_of_ble_eq_true rfl⟩) hS (fun E ce q9 H1 hp hk hS1 hce hcv hcl => vx_widen (k := 4) (n := 24) (Nat.le_of_ble_eq_true rfl) (Nat.le_of_ble_eq_true rfl) (vx_out (fun x h => (hnt x h).elim) hlocks hce hcv hcl (fun t ht _ => ⟨(by obtain ⟨rfl, hf⟩ := hp; rw [show o_cheapest σ (nI k_2) (nI t9) (nI t14) w = (1, 0, σ) from by simp [o_cheapest, chpA, wi001, ok2, ix2, hc_9, ix9, hc_14, ix14, hf]]; exact ⟨Nat.le_of_ble_eq_true rfl, rfl⟩), by rw [ht]; exact hk⟩) (fun z hz => nomatch hz) (Nat.le_refl _) (Nat.le_refl _))) (fun hc_20 => ?_)
  refine lv_aload_n hx hb dX5_cheapest_23 rfl (lv_at hl 1 rfl) ?_
  refine k_get (C := RX5) (T := TX5) (N := 11) hx hb hts inGX5 hown (hG.2.1).1 hP.o0 rfl 1 (by decide) (hts _ w_148) (fun _ h9 => h9) (v := .ref (ad 3)) rfl dX5_cheapest_24 ?_
  refine lv_aload hx hb dX5_cheapest_27 (lv_at hl 0 rfl) ?_
  refine lv_iload_n hx hb dX5_cheapest_29 rfl (lv_at hl 3 rfl) ?_
  refine lv_iload_n hx hb dX5_cheapest_30 rfl (lv_at hl 4 rfl) ?_
  obtain ⟨P, hP5, hPr⟩ := (hI.2.2.2.1 k_2 hk_2).2.2.1
  have hixP : ix (σ 1 (7 * k_2 + 2)) = P := by rw [hPr]; exact ix_n (by omega)
  refine c_s1 (va_runV (As := [.ref (ad (100 + k_2)), .int (nI t9), .int (nI t14)]) (rest := []) ⟨hx, hb, hml, hown, hts⟩ (c_X4_leastPrice l D ct Z dc σ ad k_2 t9 t14 P hk_2 hI (by omega) (by omega) hPr hP5) (cwV 3 hts (GG w_806 w_807 w_808 w_61 w_809) rfl rfl rfl (by decide) ⟨Nat.le_of_ble_eq_true rfl, Nat.le_of_ble_eq_true rfl⟩) ⟨(blindF fun _ _ _ _ h => h), Ob.recv (hG.2.1).1 hP.o3 rfl, fun U hU hW => ⟨rfl, hG.up hW hS hU, by rw [hU]; exact hP⟩⟩ rfl rfl hl.1 rfl (lv_room (Nat.le_of_ble_eq_true rfl)) dX5_cheapest_31 ⟨Nat.le_of_ble_eq_true rfl, Nat.le_of_ble_eq_true rfl⟩) hS (fun x31 H31 locs31 hR31 hzz31 hS31 => ?_)
  obtain ⟨n31, rfl, hLP, σ31, hSC31, hP31⟩ := hR31
  rcases hLP with ⟨hn31, hbo⟩ | ⟨p31, hn31, hp31, hbo⟩
  · -- none
    subst hn31
    refine lv_istore (lv' := [(6, .int (-1)), (5, .ref (ad (100 + k_2))), (0, .ref (ad 0)), (1, .int (nI k_2)), (2, .int (nI t9)), (3, .int (nI t14)), (4, .int w)]) hx hb dX5_cheapest_34 hl (by decide) rfl (fun ls hl => ?_)
    refine lv_iload hx hb dX5_cheapest_36 (lv_at hl 0 rfl) ?_
    refine lv_iconst (v := (-1)) hx hb dX5_cheapest_38 (by decide) ?_
    refine lv_icmp_ne (tgt := 44) hx hb dX5_cheapest_39 (by decide) (fun c_ => absurd (by decide) c_) (fun _ => ?_)
    refine lv_iconst (v := (-1)) hx hb dX5_cheapest_42 (by decide) ?_
    refine vx_ret ?_
    refine W.widen (k := 4) (n := 24) (Nat.le_of_ble_eq_true rfl) (Nat.le_of_ble_eq_true rfl) ?_
    have ho : o_cheapest σ (nI k_2) (nI t9) (nI t14) w = (0, (-1), σ) := by simp [o_cheapest, chpA, wi001, ok2, ix2, hc_9, ix9, hc_14, ix14, hc_20, hixP, hbo]
    exact W.iret (v := (-1)) hx hb hr (fun t ht hW => ⟨_, rfl, by rw [ht]; exact ⟨by rw [ho], by rw [ho], σ31, ad, by rw [ho]; exact hSC31, rfl, hP31⟩, hS31.F ht⟩) (fun z h => hS31.2.2 z h) dX5_cheapest_43
  · -- some
    subst hn31
    refine lv_istore (lv' := [(6, .int (nI p31)), (5, .ref (ad (100 + k_2))), (0, .ref (ad 0)), (1, .int (nI k_2)), (2, .int (nI t9)), (3, .int (nI t14)), (4, .int w)]) hx hb dX5_cheapest_34 hl (by decide) rfl (fun ls hl => ?_)
    refine lv_iload hx hb dX5_cheapest_36 (lv_at hl 0 rfl) ?_
    refine lv_iconst (v := (-1)) hx hb dX5_cheapest_38 (by decide) ?_
    refine lv_icmp_ne (tgt := 44) hx hb dX5_cheapest_39 (by decide) (fun _ => ?_) (fun c_ => absurd c_ (nI_m1 (n := p31) (by omega)))
    refine lv_iload hx hb dX5_cheapest_44 (lv_at hl 6 rfl) ?_
    refine lv_if_ne (tgt := 57) hx hb dX5_cheapest_46 (by decide) (fun c_46 => ?_) (fun c_46 => ?_)
    · -- taken
      refine lv_iload hx hb dX5_cheapest_57 (lv_at hl 0 rfl) ?_
      refine c_p1 (va_runS (As := [.int (nI p31)]) (rest := []) ⟨hx, hb, hml, hown, hts⟩ (c_X4_hoursOf l D ct (nI p31)) (k_cwS 1 hts w_838 w_839 w_61 w_840 rfl rfl (by decide) ⟨Nat.le_of_ble_eq_true rfl, Nat.le_of_ble_eq_true rfl⟩) ⟨(blindT fun _ _ _ _ h => h), fun U hU hW => ⟨rfl, hG.2.1.warm hW, trivial⟩⟩ rfl rfl hl.1 rfl (lv_room (Nat.le_of_ble_eq_true rfl)) dX5_cheapest_59 ⟨Nat.le_of_ble_eq_true rfl, Nat.le_of_ble_eq_true rfl⟩) ?_
      rw [show (nI p31 - nI p31 / 1000 * 1000 : Int32) = nI (En p31 % 1000000) from by rw [En_m]; exact pk_rem (d := 1000) (by omega) (by decide) (by decide)]
      refine vx_ret ?_
      refine W.widen (k := 4) (n := 24) (Nat.le_of_ble_eq_true rfl) (Nat.le_of_ble_eq_true rfl) ?_
      have ho : o_cheapest σ (nI k_2) (nI t9) (nI t14) w = (0, nI (En p31 % 1000000), σ) := by simp [o_cheapest, chpA, wi001, ok2, ix2, hc_9, ix9, hc_14, ix14, hc_20, hixP, hbo, c_46]
      exact W.iret (v := nI (En p31 % 1000000)) hx hb hr (fun t ht hW => ⟨_, rfl, by rw [ht]; exact ⟨by rw [ho], by rw [ho], σ31, ad, by rw [ho]; exact hSC31, rfl, hP31⟩, hS31.F ht⟩) (fun z h => hS31.2.2 z h) dX5_cheapest_62
    · -- not taken
      refine lv_iload hx hb dX5_cheapest_49 (lv_at hl 0 rfl) ?_
      refine c_p1 (va_runS (As := [.int (nI p31)]) (rest := []) ⟨hx, hb, hml, hown, hts⟩ (c_X4_dutiesOf l D ct (nI p31)) (k_cwS 1 hts w_835 w_836 w_61 w_837 rfl rfl (by decide) ⟨Nat.le_of_ble_eq_true rfl, Nat.le_of_ble_eq_true rfl⟩) ⟨(blindT fun _ _ _ _ h => h), fun U hU hW => ⟨rfl, hG.2.1.warm hW, trivial⟩⟩ rfl rfl hl.1 rfl (lv_room (Nat.le_of_ble_eq_true rfl)) dX5_cheapest_51 ⟨Nat.le_of_ble_eq_true rfl, Nat.le_of_ble_eq_true rfl⟩) ?_
      refine lv_goto (tgt := 62) hx hb dX5_cheapest_54 (by decide) ?_
      rw [show (nI p31 / 1000 : Int32) = nI (En p31 / 1000000) from by rw [En_d]; exact pk_div (d := 1000) (by omega) (by decide) (by decide)]
      refine vx_ret ?_
      refine W.widen (k := 4) (n := 24) (Nat.le_of_ble_eq_true rfl) (Nat.le_of_ble_eq_true rfl) ?_
      have ho : o_cheapest σ (nI k_2) (nI t9) (nI t14) w = (0, nI (En p31 / 1000000), σ) := by simp [o_cheapest, chpA, wi001, ok2, ix2, hc_9, ix9, hc_14, ix14, hc_20, hixP, hbo, c_46]
      exact W.iret (v := nI (En p31 / 1000000)) hx hb hr (fun t ht hW => ⟨_, rfl, by rw [ht]; exact ⟨by rw [ho], by rw [ho], σ31, ad, by rw [ho]; exact hSC31, rfl, hP31⟩, hS31.F ht⟩) (fun z h => hS31.2.2 z h) dX5_cheapest_62
