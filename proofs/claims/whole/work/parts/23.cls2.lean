def bcI1 (x : Int32) : Int32 := x - ((x.toUInt32 >>> ((1 : Int32).toUInt32 &&& Int32.toUInt32 31)).toInt32 &&& 1431655765)
def bcI2 (x : Int32) : Int32 := (x &&& 858993459) + ((x.toUInt32 >>> ((2 : Int32).toUInt32 &&& Int32.toUInt32 31)).toInt32 &&& 858993459)
def bcI3 (x : Int32) : Int32 := (x + (x.toUInt32 >>> ((4 : Int32).toUInt32 &&& Int32.toUInt32 31)).toInt32) &&& 252645135
def bcI4 (x : Int32) : Int32 := x + (x.toUInt32 >>> ((8 : Int32).toUInt32 &&& Int32.toUInt32 31)).toInt32
def bcI5 (x : Int32) : Int32 := x + (x.toUInt32 >>> ((16 : Int32).toUInt32 &&& Int32.toUInt32 31)).toInt32
def bcI (x : Int32) : Int32 := bcI5 (bcI4 (bcI3 (bcI2 (bcI1 x)))) &&& 63
def bcL1 (x : Int64) : Int64 := x - ((x.toUInt64 >>> ((1 : Int32).toInt64.toUInt64 &&& Int64.toUInt64 63)).toInt64 &&& 6148914691236517205)
def bcL2 (x : Int64) : Int64 := (x &&& 3689348814741910323) + ((x.toUInt64 >>> ((2 : Int32).toInt64.toUInt64 &&& Int64.toUInt64 63)).toInt64 &&& 3689348814741910323)
def bcL3 (x : Int64) : Int64 := (x + (x.toUInt64 >>> ((4 : Int32).toInt64.toUInt64 &&& Int64.toUInt64 63)).toInt64) &&& 1085102592571150095
def bcL4 (x : Int64) : Int64 := x + (x.toUInt64 >>> ((8 : Int32).toInt64.toUInt64 &&& Int64.toUInt64 63)).toInt64
def bcL5 (x : Int64) : Int64 := x + (x.toUInt64 >>> ((16 : Int32).toInt64.toUInt64 &&& Int64.toUInt64 63)).toInt64
def bcL6 (x : Int64) : Int64 := x + (x.toUInt64 >>> ((32 : Int32).toInt64.toUInt64 &&& Int64.toUInt64 63)).toInt64
def bcL (x : Int64) : Int32 := (bcL6 (bcL5 (bcL4 (bcL3 (bcL2 (bcL1 x)))))).toInt32 &&& 127

/-! Integer.bitCount -/
set_option maxHeartbeats 4000000 in
set_option maxRecDepth 100000 in
theorem c_J6_bitCount_0f7a4 (l : Launch) (D : va_G) (ct : Nat → ClassId) (p : Int32) : Met l yJ6_bitCount_0f7a4 (.code yJ6_bitCount_0f7a4 cJ6_bitCount_0f7a4 1 (some .int) :: GW) ({ frames := 0, cells := 0, slots := 0, locals := 0 } : Room) (va_Pc [.int p] (fun U => GT D ct U ∧ True)) (qP (some (.int (bcI p)))) 0 0 nF := by
  refine m_in (cc := cJ6_bitCount_0f7a4) [.int p] "java/lang/Integer" rfl (by decide) (Nat.le_of_ble_eq_true rfl) ?_
  intro pg e s m args below meth cd ls hx hb hml hown hts hr hlocks hin hPr hl
  obtain ⟨hT, _⟩ := hPr
  have hl : lv_has ls 1 [(0, .int p)] := hl
  refine lv_iload_n hx hb dJ6_bitCount_0f7a4_0 rfl (lv_at hl 0 rfl) ?_
  refine lv_iload_n hx hb dJ6_bitCount_0f7a4_1 rfl (lv_at hl 0 rfl) ?_
  refine lv_iconst (v := 1) hx hb dJ6_bitCount_0f7a4_2 (by decide) ?_
  refine lv_iushr hx hb dJ6_bitCount_0f7a4_3 (v := ((p : Int32).toUInt32 >>> ((1 : Int32).toUInt32 &&& Int32.toUInt32 31)).toInt32) rfl ?_
  refine lv_ldcw (v := 1431655765) hx hb hown (hts _ w_855) dJ6_bitCount_0f7a4_4 ?_
  refine lv_iand hx hb dJ6_bitCount_0f7a4_7 ?_
  refine lv_isub hx hb dJ6_bitCount_0f7a4_8 ?_
  refine lv_topi (fun x1 ex1 => ?_)
  refine lv_istore_n (lv' := [(0, .int x1)]) hx hb dJ6_bitCount_0f7a4_9 rfl hl (by decide) rfl (fun ls hl => ?_)
  refine lv_iload_n hx hb dJ6_bitCount_0f7a4_10 rfl (lv_at hl 0 rfl) ?_
  refine lv_ldcw (v := 858993459) hx hb hown (hts _ w_856) dJ6_bitCount_0f7a4_11 ?_
  refine lv_iand hx hb dJ6_bitCount_0f7a4_14 ?_
  refine lv_iload_n hx hb dJ6_bitCount_0f7a4_15 rfl (lv_at hl 0 rfl) ?_
  refine lv_iconst (v := 2) hx hb dJ6_bitCount_0f7a4_16 (by decide) ?_
  refine lv_iushr hx hb dJ6_bitCount_0f7a4_17 (v := ((x1 : Int32).toUInt32 >>> ((2 : Int32).toUInt32 &&& Int32.toUInt32 31)).toInt32) rfl ?_
  refine lv_ldcw (v := 858993459) hx hb hown (hts _ w_856) dJ6_bitCount_0f7a4_18 ?_
  refine lv_iand hx hb dJ6_bitCount_0f7a4_21 ?_
  refine lv_iadd hx hb dJ6_bitCount_0f7a4_22 ?_
  refine lv_topi (fun x2 ex2 => ?_)
  refine lv_istore_n (lv' := [(0, .int x2)]) hx hb dJ6_bitCount_0f7a4_23 rfl hl (by decide) rfl (fun ls hl => ?_)
  refine lv_iload_n hx hb dJ6_bitCount_0f7a4_24 rfl (lv_at hl 0 rfl) ?_
  refine lv_iload_n hx hb dJ6_bitCount_0f7a4_25 rfl (lv_at hl 0 rfl) ?_
  refine lv_iconst (v := 4) hx hb dJ6_bitCount_0f7a4_26 (by decide) ?_
  refine lv_iushr hx hb dJ6_bitCount_0f7a4_27 (v := ((x2 : Int32).toUInt32 >>> ((4 : Int32).toUInt32 &&& Int32.toUInt32 31)).toInt32) rfl ?_
  refine lv_iadd hx hb dJ6_bitCount_0f7a4_28 ?_
  refine lv_ldcw (v := 252645135) hx hb hown (hts _ w_857) dJ6_bitCount_0f7a4_29 ?_
  refine lv_iand hx hb dJ6_bitCount_0f7a4_32 ?_
  refine lv_topi (fun x3 ex3 => ?_)
  refine lv_istore_n (lv' := [(0, .int x3)]) hx hb dJ6_bitCount_0f7a4_33 rfl hl (by decide) rfl (fun ls hl => ?_)
  refine lv_iload_n hx hb dJ6_bitCount_0f7a4_34 rfl (lv_at hl 0 rfl) ?_
  refine lv_iload_n hx hb dJ6_bitCount_0f7a4_35 rfl (lv_at hl 0 rfl) ?_
  refine lv_bipush (v := 8) hx hb dJ6_bitCount_0f7a4_36 (by decide) ?_
  refine lv_iushr hx hb dJ6_bitCount_0f7a4_38 (v := ((x3 : Int32).toUInt32 >>> ((8 : Int32).toUInt32 &&& Int32.toUInt32 31)).toInt32) rfl ?_
  refine lv_iadd hx hb dJ6_bitCount_0f7a4_39 ?_
  refine lv_topi (fun x4 ex4 => ?_)
  refine lv_istore_n (lv' := [(0, .int x4)]) hx hb dJ6_bitCount_0f7a4_40 rfl hl (by decide) rfl (fun ls hl => ?_)
  refine lv_iload_n hx hb dJ6_bitCount_0f7a4_41 rfl (lv_at hl 0 rfl) ?_
  refine lv_iload_n hx hb dJ6_bitCount_0f7a4_42 rfl (lv_at hl 0 rfl) ?_
  refine lv_bipush (v := 16) hx hb dJ6_bitCount_0f7a4_43 (by decide) ?_
  refine lv_iushr hx hb dJ6_bitCount_0f7a4_45 (v := ((x4 : Int32).toUInt32 >>> ((16 : Int32).toUInt32 &&& Int32.toUInt32 31)).toInt32) rfl ?_
  refine lv_iadd hx hb dJ6_bitCount_0f7a4_46 ?_
  refine lv_topi (fun x5 ex5 => ?_)
  refine lv_istore_n (lv' := [(0, .int x5)]) hx hb dJ6_bitCount_0f7a4_47 rfl hl (by decide) rfl (fun ls hl => ?_)
  refine lv_iload_n hx hb dJ6_bitCount_0f7a4_48 rfl (lv_at hl 0 rfl) ?_
  refine lv_bipush (v := 63) hx hb dJ6_bitCount_0f7a4_49 (by decide) ?_
  refine lv_iand hx hb dJ6_bitCount_0f7a4_51 ?_
  exact W.iret (v := x5 &&& 63) hx hb hr (fun t ht hW => ⟨rvi (by rw [ex5, ex4, ex3, ex2, ex1]; rfl), ht⟩) (fun q h => nomatch h) dJ6_bitCount_0f7a4_52

/-! Long.bitCount -/
set_option maxHeartbeats 4000000 in
set_option maxRecDepth 100000 in
theorem c_J13_bitCount_95d88 (l : Launch) (D : va_G) (ct : Nat → ClassId) (p : Int64) : Met l yJ13_bitCount_95d88 (.code yJ13_bitCount_95d88 cJ13_bitCount_95d88 2 (some .int) :: GW) ({ frames := 0, cells := 0, slots := 0, locals := 0 } : Room) (va_Pc [.long p] (fun U => GT D ct U ∧ True)) (qP (some (.int (bcL p)))) 0 0 nF := by
  refine m_in (cc := cJ13_bitCount_95d88) [.long p] "java/lang/Long" rfl (by decide) (Nat.le_of_ble_eq_true rfl) ?_
  intro pg e s m args below meth cd ls hx hb hml hown hts hr hlocks hin hPr hl
  obtain ⟨hT, _⟩ := hPr
  have hl : lv_has ls 2 [(0, .long p)] := hl
  refine lv_lload_n hx hb dJ13_bitCount_95d88_0 rfl (lv_at hl 0 rfl) ?_
  refine lv_lload_n hx hb dJ13_bitCount_95d88_1 rfl (lv_at hl 0 rfl) ?_
  refine lv_iconst (v := 1) hx hb dJ13_bitCount_95d88_2 (by decide) ?_
  refine lv_lushr hx hb dJ13_bitCount_95d88_3 (v := ((p : Int64).toUInt64 >>> ((1 : Int32).toInt64.toUInt64 &&& Int64.toUInt64 63)).toInt64) rfl ?_
  refine lv_ldc2 (v := 6148914691236517205) hx hb hown (hts _ w_588) dJ13_bitCount_95d88_4 ?_
  refine lv_land hx hb dJ13_bitCount_95d88_7 ?_
  refine lv_lsub hx hb dJ13_bitCount_95d88_8 ?_
  refine lv_topl (fun x1 ex1 => ?_)
  refine lv_lstore_n (lv' := [(0, .long x1)]) hx hb dJ13_bitCount_95d88_9 rfl hl (by decide) rfl (fun ls hl => ?_)
  refine lv_lload_n hx hb dJ13_bitCount_95d88_10 rfl (lv_at hl 0 rfl) ?_
  refine lv_ldc2 (v := 3689348814741910323) hx hb hown (hts _ w_589) dJ13_bitCount_95d88_11 ?_
  refine lv_land hx hb dJ13_bitCount_95d88_14 ?_
  refine lv_lload_n hx hb dJ13_bitCount_95d88_15 rfl (lv_at hl 0 rfl) ?_
  refine lv_iconst (v := 2) hx hb dJ13_bitCount_95d88_16 (by decide) ?_
  refine lv_lushr hx hb dJ13_bitCount_95d88_17 (v := ((x1 : Int64).toUInt64 >>> ((2 : Int32).toInt64.toUInt64 &&& Int64.toUInt64 63)).toInt64) rfl ?_
  refine lv_ldc2 (v := 3689348814741910323) hx hb hown (hts _ w_589) dJ13_bitCount_95d88_18 ?_
  refine lv_land hx hb dJ13_bitCount_95d88_21 ?_
  refine lv_ladd hx hb dJ13_bitCount_95d88_22 ?_
  refine lv_topl (fun x2 ex2 => ?_)
  refine lv_lstore_n (lv' := [(0, .long x2)]) hx hb dJ13_bitCount_95d88_23 rfl hl (by decide) rfl (fun ls hl => ?_)
  refine lv_lload_n hx hb dJ13_bitCount_95d88_24 rfl (lv_at hl 0 rfl) ?_
  refine lv_lload_n hx hb dJ13_bitCount_95d88_25 rfl (lv_at hl 0 rfl) ?_
  refine lv_iconst (v := 4) hx hb dJ13_bitCount_95d88_26 (by decide) ?_
  refine lv_lushr hx hb dJ13_bitCount_95d88_27 (v := ((x2 : Int64).toUInt64 >>> ((4 : Int32).toInt64.toUInt64 &&& Int64.toUInt64 63)).toInt64) rfl ?_
  refine lv_ladd hx hb dJ13_bitCount_95d88_28 ?_
  refine lv_ldc2 (v := 1085102592571150095) hx hb hown (hts _ w_590) dJ13_bitCount_95d88_29 ?_
  refine lv_land hx hb dJ13_bitCount_95d88_32 ?_
  refine lv_topl (fun x3 ex3 => ?_)
  refine lv_lstore_n (lv' := [(0, .long x3)]) hx hb dJ13_bitCount_95d88_33 rfl hl (by decide) rfl (fun ls hl => ?_)
  refine lv_lload_n hx hb dJ13_bitCount_95d88_34 rfl (lv_at hl 0 rfl) ?_
  refine lv_lload_n hx hb dJ13_bitCount_95d88_35 rfl (lv_at hl 0 rfl) ?_
  refine lv_bipush (v := 8) hx hb dJ13_bitCount_95d88_36 (by decide) ?_
  refine lv_lushr hx hb dJ13_bitCount_95d88_38 (v := ((x3 : Int64).toUInt64 >>> ((8 : Int32).toInt64.toUInt64 &&& Int64.toUInt64 63)).toInt64) rfl ?_
  refine lv_ladd hx hb dJ13_bitCount_95d88_39 ?_
  refine lv_topl (fun x4 ex4 => ?_)
  refine lv_lstore_n (lv' := [(0, .long x4)]) hx hb dJ13_bitCount_95d88_40 rfl hl (by decide) rfl (fun ls hl => ?_)
  refine lv_lload_n hx hb dJ13_bitCount_95d88_41 rfl (lv_at hl 0 rfl) ?_
  refine lv_lload_n hx hb dJ13_bitCount_95d88_42 rfl (lv_at hl 0 rfl) ?_
  refine lv_bipush (v := 16) hx hb dJ13_bitCount_95d88_43 (by decide) ?_
  refine lv_lushr hx hb dJ13_bitCount_95d88_45 (v := ((x4 : Int64).toUInt64 >>> ((16 : Int32).toInt64.toUInt64 &&& Int64.toUInt64 63)).toInt64) rfl ?_
  refine lv_ladd hx hb dJ13_bitCount_95d88_46 ?_
  refine lv_topl (fun x5 ex5 => ?_)
  refine lv_lstore_n (lv' := [(0, .long x5)]) hx hb dJ13_bitCount_95d88_47 rfl hl (by decide) rfl (fun ls hl => ?_)
  refine lv_lload_n hx hb dJ13_bitCount_95d88_48 rfl (lv_at hl 0 rfl) ?_
  refine lv_lload_n hx hb dJ13_bitCount_95d88_49 rfl (lv_at hl 0 rfl) ?_
  refine lv_bipush (v := 32) hx hb dJ13_bitCount_95d88_50 (by decide) ?_
  refine lv_lushr hx hb dJ13_bitCount_95d88_52 (v := ((x5 : Int64).toUInt64 >>> ((32 : Int32).toInt64.toUInt64 &&& Int64.toUInt64 63)).toInt64) rfl ?_
  refine lv_ladd hx hb dJ13_bitCount_95d88_53 ?_
  refine lv_topl (fun x6 ex6 => ?_)
  refine lv_lstore_n (lv' := [(0, .long x6)]) hx hb dJ13_bitCount_95d88_54 rfl hl (by decide) rfl (fun ls hl => ?_)
  refine lv_lload_n hx hb dJ13_bitCount_95d88_55 rfl (lv_at hl 0 rfl) ?_
  refine lv_l2i (v := (x6 : Int64).toInt32) hx hb dJ13_bitCount_95d88_56 rfl ?_
  refine lv_bipush (v := 127) hx hb dJ13_bitCount_95d88_57 (by decide) ?_
  refine lv_iand hx hb dJ13_bitCount_95d88_59 ?_
  exact W.iret (v := ((x6 : Int64).toInt32) &&& 127) hx hb hr (fun t ht hW => ⟨rvi (by rw [ex6, ex5, ex4, ex3, ex2, ex1]; rfl), ht⟩) (fun q h => nomatch h) dJ13_bitCount_95d88_60

/-! familiesIn -/
set_option maxHeartbeats 4000000 in
set_option maxRecDepth 100000 in
theorem c_X5_familiesIn (l : Launch) (D : va_G) (ct : Nat → ClassId) (Z : Nat → Prop) (dc : Nat) (σ : Stt) (ad : Nat → Nat) (t : Int32) : Met l yX5_familiesIn (.code yX5_familiesIn cX5_familiesIn 6 (some .int) :: GW) ({ frames := 3, cells := 0, slots := 0, locals := 64 } : Room) (va_Pc [.ref (ad 0), .int t] (fun U => GT D ct U ∧ Pic D ct Z dc σ ad U.heap)) (qP (some (.int (bcL (fmb σ t (nR σ)))))) 0 0 nF := by
  refine m_in (cc := cX5_familiesIn) [.ref (ad 0), .int t] "RumourCustoms" rfl (by decide) (Nat.le_of_ble_eq_true rfl) ?_
  intro pg e s m args below meth cd ls hx hb hml hown hts hr hlocks hin hPr hl
  obtain ⟨hT, hP⟩ := hPr
  have hl : lv_has ls 6 [(0, .ref (ad 0)), (1, .int t)] := hl
  have hn := hP.2.2.2.1
  have hnC := hP.2.2.2.2
  refine lv_lconst (v := 0) hx hb dX5_familiesIn_0 (by decide) ?_
  refine lv_lstore_n (lv' := [(2, .long 0), (0, .ref (ad 0)), (1, .int t)]) hx hb dX5_familiesIn_1 rfl hl (by decide) rfl (fun ls hl => ?_)
  refine lv_iconst (v := 0) hx hb dX5_familiesIn_2 (by decide) ?_
  refine lv_istore (lv' := [(4, .int 0), (2, .long 0), (0, .ref (ad 0)), (1, .int t)]) hx hb dX5_familiesIn_3 hl (by decide) rfl (fun ls hl => ?_)
  have loop5 : ∀ (n5 i : Nat) (acc : Int64), i ≤ nR σ → nR σ - i < n5 → acc = fmb σ t i → ∀ ls, lv_has ls 6 [(0, .ref (ad 0)), (1, .int t), (4, .int (nI i)), (2, .long acc)] → W pg l e ({ frames := 3, cells := 0, slots := 0, locals := 64 } : Room) s m args below meth cd s.heap [] 0 0 (MQ below (qP (some (.int (bcL (fmb σ t (nR σ)))))) args s 0 0 nF) (F0 m 5 ls []) := by
    intro n5
    induction n5 with
    | zero => intro i acc _ z; omega
    | succ n5 ih5 =>
      intro i acc hi5 hn5 haacc ls hl
      refine lv_iload hx hb dX5_familiesIn_5 (lv_at hl 2 rfl) ?_
      refine lv_aload_n hx hb dX5_familiesIn_7 rfl (lv_at hl 0 rfl) ?_
      refine k_get (C := RX5) (T := TX5) (N := 11) hx hb hts inGX5 hown (hT).1 hP.o0 rfl 2 (by decide) (hts _ w_149) (fun _ h9 => h9) (v := .ref (ad 6)) rfl dX5_familiesIn_8 ?_
      refine c_p1 (va_runV (As := []) (rest := [.int (nI i)]) ⟨hx, hb, hml, hown, hts⟩ (c_Jx4a65c_size_8abf5 l D ct (ad 6) (σ 6 0) (ad 8) (nI (nR σ))) (cwV 0 hts (GG w_185 w_186 w_187 w_64 w_188) rfl rfl rfl (by decide) ⟨Nat.le_of_ble_eq_true rfl, Nat.le_of_ble_eq_true rfl⟩) ⟨(blindT fun _ _ _ _ h => h), Ob.recv (hT).1 hP.o6 rfl, fun U hU hW => ⟨rfl, hT.warm hW, by rw [hU]; exact hP.o6⟩⟩ rfl rfl hl.1 rfl (lv_room (Nat.le_of_ble_eq_true rfl)) dX5_familiesIn_11 ⟨Nat.le_of_ble_eq_true rfl, Nat.le_of_ble_eq_true rfl⟩) ?_
      refine lv_icmp_ge (tgt := 56) hx hb dX5_familiesIn_14 (by decide) (fun c_14 => ?_) (fun c_14 => ?_)
      · -- taken
        have nc_14 : (nR σ) ≤ i := (nI_leI (a := (nR σ)) (b := i) (by omega) (by omega)).mp c_14
        have he5 : i = nR σ := by omega
        refine lv_lload_n hx hb dX5_familiesIn_56 rfl (lv_at hl 3 rfl) ?_
        refine c_p1 (va_runS (As := [.long acc]) (rest := []) ⟨hx, hb, hml, hown, hts⟩ (c_J13_bitCount_95d88 l D ct acc) (k_cwS 1 hts w_585 w_586 w_80 w_587 rfl rfl (by decide) ⟨Nat.le_of_ble_eq_true rfl, Nat.le_of_ble_eq_true rfl⟩) ⟨(blindT fun _ _ _ _ h => h), fun U hU hW => ⟨rfl, hT.warm hW, trivial⟩⟩ rfl rfl hl.1 rfl (lv_room (Nat.le_of_ble_eq_true rfl)) dX5_familiesIn_57 ⟨Nat.le_of_ble_eq_true rfl, Nat.le_of_ble_eq_true rfl⟩) ?_
        exact W.iret (v := bcL acc) hx hb hr (fun t ht hW => ⟨rvi (by rw [haacc, he5]), ht⟩) (fun q h => nomatch h) dX5_familiesIn_60
      · -- not taken
        have nc_14 : ¬ (nR σ) ≤ i := fun z => c_14 ((nI_leI (a := (nR σ)) (b := i) (by omega) (by omega)).mpr z)
        have hlt5 : i < nR σ := by omega
        refine lv_aload_n hx hb dX5_familiesIn_17 rfl (lv_at hl 0 rfl) ?_
        refine k_get (C := RX5) (T := TX5) (N := 11) hx hb hts inGX5 hown (hT).1 hP.o0 rfl 2 (by decide) (hts _ w_149) (fun _ h9 => h9) (v := .ref (ad 6)) rfl dX5_familiesIn_18 ?_
        refine lv_iload hx hb dX5_familiesIn_21 (lv_at hl 2 rfl) ?_
        refine c_p1 (va_runV (As := [.int (nI i)]) (rest := []) ⟨hx, hb, hml, hown, hts⟩ (c_Jx4a65c_get_915e3 l D ct (ad 6) (σ 6 0) (ad 8) (nI (nR σ)) (nI i) (nR σ) i (ad 20) (lq ad 100 (nR σ)) (ad (100 + i)) rfl rfl hlt5 hP.2.2.1.1.1 (by have := hP.2.2.1.1.2.1; omega) (if_pos hlt5)) (cwV 1 hts (GG w_189 w_190 w_191 w_64 w_192) rfl rfl rfl (by decide) ⟨Nat.le_of_ble_eq_true rfl, Nat.le_of_ble_eq_true rfl⟩) ⟨(blindT fun _ _ _ _ h => h), Ob.recv (hT).1 hP.o6 rfl, fun U hU hW => ⟨rfl, hT.warm hW, by rw [hU]; exact ⟨hP.o6, (hP.o8 (by omega))⟩⟩⟩ rfl rfl hl.1 rfl (lv_room (Nat.le_of_ble_eq_true rfl)) dX5_familiesIn_23 ⟨Nat.le_of_ble_eq_true rfl, Nat.le_of_ble_eq_true rfl⟩) ?_
        refine va_castS hx hb hown (hts _ w_203) ((hT).1.1 4 _ rfl).2 (Ob.recv (hT).1 (hP.r hlt5) rfl) dX5_familiesIn_26 ?_
        refine lv_astore (lv' := [(5, .ref (ad (100 + i))), (0, .ref (ad 0)), (1, .int t), (4, .int (nI i)), (2, .long acc)]) hx hb dX5_familiesIn_29 hl (by decide) rfl (fun ls hl => ?_)
        refine lv_aload hx hb dX5_familiesIn_31 (lv_at hl 0 rfl) ?_
        refine k_get (C := RX3) (T := TX3) (N := 8) hx hb hts inGX3 hown (hT).1 (hP.r hlt5) rfl 5 (by decide) (hts _ w_479) (fun _ h9 => h9) (v := .int (σ 1 (7 * i + 4))) rfl dX5_familiesIn_33 ?_
        refine lv_iload_n hx hb dX5_familiesIn_36 rfl (lv_at hl 2 rfl) ?_
        refine lv_icmp_ne (tgt := 50) hx hb dX5_familiesIn_37 (by decide) (fun c_37 => ?_) (fun c_37 => ?_)
        · -- taken
          refine lv_iinc (v := nI (i + 1)) (lv' := [(4, .int (nI (i + 1))), (5, .ref (ad (100 + i))), (0, .ref (ad 0)), (1, .int t), (2, .long acc)]) hx hb dX5_familiesIn_50 hl (k := 3) rfl (nI_1 i) (by decide) rfl (fun ls hl => ?_)
          refine lv_goto (tgt := 5) hx hb dX5_familiesIn_53 (by decide) ?_
          exact ih5 (i + 1) acc (by omega) (by omega) (by rw [haacc]; exact (if_neg c_37).symm) ls (lv_sub hl [2, 3, 0, 4] rfl)
        · -- not taken
          refine lv_lload_n hx hb dX5_familiesIn_40 rfl (lv_at hl 4 rfl) ?_
          refine lv_lconst (v := 1) hx hb dX5_familiesIn_41 (by decide) ?_
          refine lv_aload hx hb dX5_familiesIn_42 (lv_at hl 0 rfl) ?_
          refine k_get (C := RX3) (T := TX3) (N := 8) hx hb hts inGX3 hown (hT).1 (hP.r hlt5) rfl 1 (by decide) (hts _ w_468) (fun _ h9 => h9) (v := .int (σ 1 (7 * i + 3))) rfl dX5_familiesIn_44 ?_
          refine lv_lshl hx hb dX5_familiesIn_47 (v := 1 <<< ((σ 1 (7 * i + 3) : Int32).toInt64 &&& 63)) rfl ?_
          refine lv_lor hx hb dX5_familiesIn_48 ?_
          refine lv_lstore_n (lv' := [(2, .long (acc ||| (1 <<< ((σ 1 (7 * i + 3) : Int32).toInt64 &&& 63)))), (5, .ref (ad (100 + i))), (0, .ref (ad 0)), (1, .int t), (4, .int (nI i))]) hx hb dX5_familiesIn_49 rfl hl (by decide) rfl (fun ls hl => ?_)
          refine lv_iinc (v := nI (i + 1)) (lv' := [(4, .int (nI (i + 1))), (2, .long (acc ||| (1 <<< ((σ 1 (7 * i + 3) : Int32).toInt64 &&& 63)))), (5, .ref (ad (100 + i))), (0, .ref (ad 0)), (1, .int t)]) hx hb dX5_familiesIn_50 hl (k := 4) rfl (nI_1 i) (by decide) rfl (fun ls hl => ?_)
          refine lv_goto (tgt := 5) hx hb dX5_familiesIn_53 (by decide) ?_
          exact ih5 (i + 1) (acc ||| (1 <<< ((σ 1 (7 * i + 3) : Int32).toInt64 &&& 63))) (by omega) (by omega) (by rw [haacc]; exact (if_pos c_37).symm) ls (lv_sub hl [3, 4, 0, 1] rfl)
  exact loop5 (nR σ + 1 - 0) 0 0 (by omega) (by omega) rfl ls (lv_sub hl [2, 3, 0, 1] rfl)

/-! townsThatKnow -/
set_option maxHeartbeats 4000000 in
set_option maxRecDepth 100000 in
theorem c_X5_townsThatKnow (l : Launch) (D : va_G) (ct : Nat → ClassId) (Z : Nat → Prop) (dc : Nat) (σ : Stt) (ad : Nat → Nat) (t : Int32) : Met l yX5_townsThatKnow (.code yX5_townsThatKnow cX5_townsThatKnow 5 (some .int) :: GW) ({ frames := 3, cells := 0, slots := 0, locals := 64 } : Room) (va_Pc [.ref (ad 0), .int t] (fun U => GT D ct U ∧ Pic D ct Z dc σ ad U.heap)) (qP (some (.int (bcI (tmb σ t (nR σ)))))) 0 0 nF := by
  refine m_in (cc := cX5_townsThatKnow) [.ref (ad 0), .int t] "RumourCustoms" rfl (by decide) (Nat.le_of_ble_eq_true rfl) ?_
  intro pg e s m args below meth cd ls hx hb hml hown hts hr hlocks hin hPr hl
  obtain ⟨hT, hP⟩ := hPr
  have hl : lv_has ls 5 [(0, .ref (ad 0)), (1, .int t)] := hl
  have hn := hP.2.2.2.1
  have hnC := hP.2.2.2.2
  refine lv_iconst (v := 0) hx hb dX5_townsThatKnow_0 (by decide) ?_
  refine lv_istore_n (lv' := [(2, .int 0), (0, .ref (ad 0)), (1, .int t)]) hx hb dX5_townsThatKnow_1 rfl hl (by decide) rfl (fun ls hl => ?_)
  refine lv_iconst (v := 0) hx hb dX5_townsThatKnow_2 (by decide) ?_
  refine lv_istore_n (lv' := [(3, .int 0), (2, .int 0), (0, .ref (ad 0)), (1, .int t)]) hx hb dX5_townsThatKnow_3 rfl hl (by decide) rfl (fun ls hl => ?_)
  have loop4 : ∀ (n4 i : Nat) (acc : Int32), i ≤ nR σ → nR σ - i < n4 → acc = tmb σ t i → ∀ ls, lv_has ls 5 [(0, .ref (ad 0)), (1, .int t), (3, .int (nI i)), (2, .int acc)] → W pg l e ({ frames := 3, cells := 0, slots := 0, locals := 64 } : Room) s m args below meth cd s.heap [] 0 0 (MQ below (qP (some (.int (bcI (tmb σ t (nR σ)))))) args s 0 0 nF) (F0 m 4 ls []) := by
    intro n4
    induction n4 with
    | zero => intro i acc _ z; omega
    | succ n4 ih4 =>
      intro i acc hi4 hn4 haacc ls hl
      refine lv_iload_n hx hb dX5_townsThatKnow_4 rfl (lv_at hl 2 rfl) ?_
      refine lv_aload_n hx hb dX5_townsThatKnow_5 rfl (lv_at hl 0 rfl) ?_
      refine k_get (C := RX5) (T := TX5) (N := 11) hx hb hts inGX5 hown (hT).1 hP.o0 rfl 2 (by decide) (hts _ w_149) (fun _ h9 => h9) (v := .ref (ad 6)) rfl dX5_townsThatKnow_6 ?_
      refine c_p1 (va_runV (As := []) (rest := [.int (nI i)]) ⟨hx, hb, hml, hown, hts⟩ (c_Jx4a65c_size_8abf5 l D ct (ad 6) (σ 6 0) (ad 8) (nI (nR σ))) (cwV 0 hts (GG w_185 w_186 w_187 w_64 w_188) rfl rfl rfl (by decide) ⟨Nat.le_of_ble_eq_true rfl, Nat.le_of_ble_eq_true rfl⟩) ⟨(blindT fun _ _ _ _ h => h), Ob.recv (hT).1 hP.o6 rfl, fun U hU hW => ⟨rfl, hT.warm hW, by rw [hU]; exact hP.o6⟩⟩ rfl rfl hl.1 rfl (lv_room (Nat.le_of_ble_eq_true rfl)) dX5_townsThatKnow_9 ⟨Nat.le_of_ble_eq_true rfl, Nat.le_of_ble_eq_true rfl⟩) ?_
      refine lv_icmp_ge (tgt := 62) hx hb dX5_townsThatKnow_12 (by decide) (fun c_12 => ?_) (fun c_12 => ?_)
      · -- taken
        have nc_12 : (nR σ) ≤ i := (nI_leI (a := (nR σ)) (b := i) (by omega) (by omega)).mp c_12
        have he4 : i = nR σ := by omega
        refine lv_iload_n hx hb dX5_townsThatKnow_62 rfl (lv_at hl 3 rfl) ?_
        refine c_p1 (va_runS (As := [.int acc]) (rest := []) ⟨hx, hb, hml, hown, hts⟩ (c_J6_bitCount_0f7a4 l D ct acc) (k_cwS 1 hts w_852 w_853 w_82 w_854 rfl rfl (by decide) ⟨Nat.le_of_ble_eq_true rfl, Nat.le_of_ble_eq_true rfl⟩) ⟨(blindT fun _ _ _ _ h => h), fun U hU hW => ⟨rfl, hT.warm hW, trivial⟩⟩ rfl rfl hl.1 rfl (lv_room (Nat.le_of_ble_eq_true rfl)) dX5_townsThatKnow_63 ⟨Nat.le_of_ble_eq_true rfl, Nat.le_of_ble_eq_true rfl⟩) ?_
        exact W.iret (v := bcI acc) hx hb hr (fun t ht hW => ⟨rvi (by rw [haacc, he4]), ht⟩) (fun q h => nomatch h) dX5_townsThatKnow_66
      · -- not taken
        have nc_12 : ¬ (nR σ) ≤ i := fun z => c_12 ((nI_leI (a := (nR σ)) (b := i) (by omega) (by omega)).mpr z)
        have hlt4 : i < nR σ := by omega
        refine lv_aload_n hx hb dX5_townsThatKnow_15 rfl (lv_at hl 0 rfl) ?_
        refine k_get (C := RX5) (T := TX5) (N := 11) hx hb hts inGX5 hown (hT).1 hP.o0 rfl 2 (by decide) (hts _ w_149) (fun _ h9 => h9) (v := .ref (ad 6)) rfl dX5_townsThatKnow_16 ?_
        refine lv_iload_n hx hb dX5_townsThatKnow_19 rfl (lv_at hl 2 rfl) ?_
        refine c_p1 (va_runV (As := [.int (nI i)]) (rest := []) ⟨hx, hb, hml, hown, hts⟩ (c_Jx4a65c_get_915e3 l D ct (ad 6) (σ 6 0) (ad 8) (nI (nR σ)) (nI i) (nR σ) i (ad 20) (lq ad 100 (nR σ)) (ad (100 + i)) rfl rfl hlt4 hP.2.2.1.1.1 (by have := hP.2.2.1.1.2.1; omega) (if_pos hlt4)) (cwV 1 hts (GG w_189 w_190 w_191 w_64 w_192) rfl rfl rfl (by decide) ⟨Nat.le_of_ble_eq_true rfl, Nat.le_of_ble_eq_true rfl⟩) ⟨(blindT fun _ _ _ _ h => h), Ob.recv (hT).1 hP.o6 rfl, fun U hU hW => ⟨rfl, hT.warm hW, by rw [hU]; exact ⟨hP.o6, (hP.o8 (by omega))⟩⟩⟩ rfl rfl hl.1 rfl (lv_room (Nat.le_of_ble_eq_true rfl)) dX5_townsThatKnow_20 ⟨Nat.le_of_ble_eq_true rfl, Nat.le_of_ble_eq_true rfl⟩) ?_
        refine va_castS hx hb hown (hts _ w_203) ((hT).1.1 4 _ rfl).2 (Ob.recv (hT).1 (hP.r hlt4) rfl) dX5_townsThatKnow_23 ?_
        refine lv_astore (lv' := [(4, .ref (ad (100 + i))), (0, .ref (ad 0)), (1, .int t), (3, .int (nI i)), (2, .int acc)]) hx hb dX5_townsThatKnow_26 hl (by decide) rfl (fun ls hl => ?_)
        refine lv_aload hx hb dX5_townsThatKnow_28 (lv_at hl 0 rfl) ?_
        refine k_get (C := RX3) (T := TX3) (N := 8) hx hb hts inGX3 hown (hT).1 (hP.r hlt4) rfl 1 (by decide) (hts _ w_468) (fun _ h9 => h9) (v := .int (σ 1 (7 * i + 3))) rfl dX5_townsThatKnow_30 ?_
        refine lv_iload_n hx hb dX5_townsThatKnow_33 rfl (lv_at hl 2 rfl) ?_
        refine lv_icmp_ne (tgt := 56) hx hb dX5_townsThatKnow_34 (by decide) (fun c_34 => ?_) (fun c_34 => ?_)
        · -- taken
          refine lv_iinc (v := nI (i + 1)) (lv' := [(3, .int (nI (i + 1))), (4, .ref (ad (100 + i))), (0, .ref (ad 0)), (1, .int t), (2, .int acc)]) hx hb dX5_townsThatKnow_56 hl (k := 3) rfl (nI_1 i) (by decide) rfl (fun ls hl => ?_)
          refine lv_goto (tgt := 4) hx hb dX5_townsThatKnow_59 (by decide) ?_
          exact ih4 (i + 1) acc (by omega) (by omega) (by rw [haacc]; exact (if_neg (fun z => c_34 z.1)).symm) ls (lv_sub hl [2, 3, 0, 4] rfl)
        · -- not taken
          refine lv_aload hx hb dX5_townsThatKnow_37 (lv_at hl 0 rfl) ?_
          refine k_get (C := RX3) (T := TX3) (N := 8) hx hb hts inGX3 hown (hT).1 (hP.r hlt4) rfl 5 (by decide) (hts _ w_479) (fun _ h9 => h9) (v := .int (σ 1 (7 * i + 4))) rfl dX5_townsThatKnow_39 ?_
          refine lv_iconst (v := (-1)) hx hb dX5_townsThatKnow_42 (by decide) ?_
          refine lv_icmp_eq (tgt := 56) hx hb dX5_townsThatKnow_43 (by decide) (fun c_43 => ?_) (fun c_43 => ?_)
          · -- taken
            refine lv_iinc (v := nI (i + 1)) (lv' := [(3, .int (nI (i + 1))), (4, .ref (ad (100 + i))), (0, .ref (ad 0)), (1, .int t), (2, .int acc)]) hx hb dX5_townsThatKnow_56 hl (k := 3) rfl (nI_1 i) (by decide) rfl (fun ls hl => ?_)
            refine lv_goto (tgt := 4) hx hb dX5_townsThatKnow_59 (by decide) ?_
            exact ih4 (i + 1) acc (by omega) (by omega) (by rw [haacc]; exact (if_neg (fun z => z.2 c_43)).symm) ls (lv_sub hl [2, 3, 0, 4] rfl)
          · -- not taken
            refine lv_iload_n hx hb dX5_townsThatKnow_46 rfl (lv_at hl 4 rfl) ?_
            refine lv_iconst (v := 1) hx hb dX5_townsThatKnow_47 (by decide) ?_
            refine lv_aload hx hb dX5_townsThatKnow_48 (lv_at hl 0 rfl) ?_
            refine k_get (C := RX3) (T := TX3) (N := 8) hx hb hts inGX3 hown (hT).1 (hP.r hlt4) rfl 5 (by decide) (hts _ w_479) (fun _ h9 => h9) (v := .int (σ 1 (7 * i + 4))) rfl dX5_townsThatKnow_50 ?_
            refine lv_ishl hx hb dX5_townsThatKnow_53 ?_
            refine lv_ior hx hb dX5_townsThatKnow_54 ?_
            refine lv_istore_n (lv' := [(2, .int (acc ||| (1 <<< ((σ 1 (7 * i + 4)) &&& 31)))), (4, .ref (ad (100 + i))), (0, .ref (ad 0)), (1, .int t), (3, .int (nI i))]) hx hb dX5_townsThatKnow_55 rfl hl (by decide) rfl (fun ls hl => ?_)
            refine lv_iinc (v := nI (i + 1)) (lv' := [(3, .int (nI (i + 1))), (2, .int (acc ||| (1 <<< ((σ 1 (7 * i + 4)) &&& 31)))), (4, .ref (ad (100 + i))), (0, .ref (ad 0)), (1, .int t)]) hx hb dX5_townsThatKnow_56 hl (k := 4) rfl (nI_1 i) (by decide) rfl (fun ls hl => ?_)
            refine lv_goto (tgt := 4) hx hb dX5_townsThatKnow_59 (by decide) ?_
            exact ih4 (i + 1) (acc ||| (1 <<< ((σ 1 (7 * i + 4)) &&& 31))) (by omega) (by omega) (by rw [haacc]; exact (if_pos ⟨c_34, c_43⟩).symm) ls (lv_sub hl [3, 4, 0, 1] rfl)
  exact loop4 (nR σ + 1 - 0) 0 0 (by omega) (by omega) rfl ls (lv_sub hl [2, 3, 0, 1] rfl)

theorem dps_t {σ : Stt} {t : Int32} {n : Nat} (h : σ 1 (7 * n + 4) = t ∧ (dps σ t n).2 < σ 1 (7 * n + 1)) : dps σ t (n + 1) = (nI n, σ 1 (7 * n + 1)) := if_pos h
theorem dps_f {σ : Stt} {t : Int32} {n : Nat} (h : ¬ (σ 1 (7 * n + 4) = t ∧ (dps σ t n).2 < σ 1 (7 * n + 1))) : dps σ t (n + 1) = dps σ t n := if_neg h
theorem ldp_lt {σ : Stt} {t f : Int32} : ∀ {n k : Nat}, ldp σ t f n = some k → k < n ∧ σ 1 (7 * k + 4) = t ∧ σ 1 (7 * k + 3) = f
  | 0, k, h => by cases h
  | n + 1, k, h => by
    unfold ldp at h
    by_cases c : σ 1 (7 * n + 4) = t ∧ σ 1 (7 * n + 3) = f
    · rw [if_pos c] at h
      cases hk : ldp σ t f n with
      | none => rw [hk] at h; cases h; exact ⟨by omega, c⟩
      | some j =>
        rw [hk] at h
        have ih := ldp_lt hk
        dsimp only at h
        by_cases d : σ 1 (7 * n + 1) < σ 1 (7 * j + 1)
        · rw [if_pos d] at h; cases h; exact ⟨by omega, c⟩
        · rw [if_neg d] at h; cases h; exact ⟨by omega, ih.2⟩
    · rw [if_neg c] at h
      have ih := ldp_lt h
      exact ⟨by omega, ih.2⟩
theorem ldp_f {σ : Stt} {t f : Int32} {n : Nat} (h : ¬ (σ 1 (7 * n + 4) = t ∧ σ 1 (7 * n + 3) = f)) : ldp σ t f (n + 1) = ldp σ t f n := if_neg h
theorem ldp_n {σ : Stt} {t f : Int32} {n : Nat} (h : σ 1 (7 * n + 4) = t ∧ σ 1 (7 * n + 3) = f) (h2 : ldp σ t f n = none) : ldp σ t f (n + 1) = some n := by
  show (if _ then _ else _) = _
  rw [if_pos h, h2]
theorem ldp_l {σ : Stt} {t f : Int32} {n k : Nat} (h : σ 1 (7 * n + 4) = t ∧ σ 1 (7 * n + 3) = f) (h2 : ldp σ t f n = some k) (h3 : σ 1 (7 * n + 1) < σ 1 (7 * k + 1)) : ldp σ t f (n + 1) = some n := by
  show (if _ then _ else _) = _
  rw [if_pos h, h2]
  exact if_pos h3
theorem ldp_s {σ : Stt} {t f : Int32} {n k : Nat} (h2 : ldp σ t f n = some k) (h3 : ¬ σ 1 (7 * n + 1) < σ 1 (7 * k + 1)) : ldp σ t f (n + 1) = some k := by
  by_cases h : σ 1 (7 * n + 4) = t ∧ σ 1 (7 * n + 3) = f
  · show (if _ then _ else _) = _
    rw [if_pos h, h2]
    exact if_neg h3
  · rw [ldp_f h, h2]

/-! deepestIn -/
set_option maxHeartbeats 4000000 in
set_option maxRecDepth 100000 in
theorem c_X5_deepestIn (l : Launch) (D : va_G) (ct : Nat → ClassId) (Z : Nat → Prop) (dc : Nat) (σ : Stt) (ad : Nat → Nat) (t : Int32) : Met l yX5_deepestIn (.code yX5_deepestIn cX5_deepestIn 6 (some .int) :: GW) ({ frames := 3, cells := 0, slots := 0, locals := 64 } : Room) (va_Pc [.ref (ad 0), .int t] (fun U => GT D ct U ∧ Pic D ct Z dc σ ad U.heap)) (qP (some (.int ((dps σ t (nR σ)).1)))) 0 0 nF := by
  refine m_in (cc := cX5_deepestIn) [.ref (ad 0), .int t] "RumourCustoms" rfl (by decide) (Nat.le_of_ble_eq_true rfl) ?_
  intro pg e s m args below meth cd ls hx hb hml hown hts hr hlocks hin hPr hl
  obtain ⟨hT, hP⟩ := hPr
  have hl : lv_has ls 6 [(0, .ref (ad 0)), (1, .int t)] := hl
  have hn := hP.2.2.2.1
  have hnC := hP.2.2.2.2
  refine lv_iconst (v := (-1)) hx hb dX5_deepestIn_0 (by decide) ?_
  refine lv_istore_n (lv' := [(2, .int (-1)), (0, .ref (ad 0)), (1, .int t)]) hx hb dX5_deepestIn_1 rfl hl (by decide) rfl (fun ls hl => ?_)
  refine lv_iconst (v := (-1)) hx hb dX5_deepestIn_2 (by decide) ?_
  refine lv_istore_n (lv' := [(3, .int (-1)), (2, .int (-1)), (0, .ref (ad 0)), (1, .int t)]) hx hb dX5_deepestIn_3 rfl hl (by decide) rfl (fun ls hl => ?_)
  refine lv_iconst (v := 0) hx hb dX5_deepestIn_4 (by decide) ?_
  refine lv_istore (lv' := [(4, .int 0), (3, .int (-1)), (2, .int (-1)), (0, .ref (ad 0)), (1, .int t)]) hx hb dX5_deepestIn_5 hl (by decide) rfl (fun ls hl => ?_)
  have loop7 : ∀ (n7 i : Nat) (acc : Int32) (dep : Int32), i ≤ nR σ → nR σ - i < n7 → acc = (dps σ t i).1 → dep = (dps σ t i).2 → ∀ ls, lv_has ls 6 [(0, .ref (ad 0)), (1, .int t), (4, .int (nI i)), (2, .int acc), (3, .int dep)] → W pg l e ({ frames := 3, cells := 0, slots := 0, locals := 64 } : Room) s m args below meth cd s.heap [] 0 0 (MQ below (qP (some (.int ((dps σ t (nR σ)).1)))) args s 0 0 nF) (F0 m 7 ls []) := by
    intro n7
    induction n7 with
    | zero => intro i acc dep _ z; omega
    | succ n7 ih7 =>
      intro i acc dep hi7 hn7 haacc hadep ls hl
      refine lv_iload hx hb dX5_deepestIn_7 (lv_at hl 2 rfl) ?_
      refine lv_aload_n hx hb dX5_deepestIn_9 rfl (lv_at hl 0 rfl) ?_
      refine k_get (C := RX5) (T := TX5) (N := 11) hx hb hts inGX5 hown (hT).1 hP.o0 rfl 2 (by decide) (hts _ w_149) (fun _ h9 => h9) (v := .ref (ad 6)) rfl dX5_deepestIn_10 ?_
      refine c_p1 (va_runV (As := []) (rest := [.int (nI i)]) ⟨hx, hb, hml, hown, hts⟩ (c_Jx4a65c_size_8abf5 l D ct (ad 6) (σ 6 0) (ad 8) (nI (nR σ))) (cwV 0 hts (GG w_185 w_186 w_187 w_64 w_188) rfl rfl rfl (by decide) ⟨Nat.le_of_ble_eq_true rfl, Nat.le_of_ble_eq_true rfl⟩) ⟨(blindT fun _ _ _ _ h => h), Ob.recv (hT).1 hP.o6 rfl, fun U hU hW => ⟨rfl, hT.warm hW, by rw [hU]; exact hP.o6⟩⟩ rfl rfl hl.1 rfl (lv_room (Nat.le_of_ble_eq_true rfl)) dX5_deepestIn_13 ⟨Nat.le_of_ble_eq_true rfl, Nat.le_of_ble_eq_true rfl⟩) ?_
      refine lv_icmp_ge (tgt := 66) hx hb dX5_deepestIn_16 (by decide) (fun c_16 => ?_) (fun c_16 => ?_)
      · -- taken
        have nc_16 : (nR σ) ≤ i := (nI_leI (a := (nR σ)) (b := i) (by omega) (by omega)).mp c_16
        have he7 : i = nR σ := by omega
        refine lv_iload_n hx hb dX5_deepestIn_66 rfl (lv_at hl 3 rfl) ?_
        exact W.iret (v := acc) hx hb hr (fun t ht hW => ⟨rvi (by rw [haacc, he7]), ht⟩) (fun q h => nomatch h) dX5_deepestIn_67
      · -- not taken
        have nc_16 : ¬ (nR σ) ≤ i := fun z => c_16 ((nI_leI (a := (nR σ)) (b := i) (by omega) (by omega)).mpr z)
        have hlt7 : i < nR σ := by omega
        refine lv_aload_n hx hb dX5_deepestIn_19 rfl (lv_at hl 0 rfl) ?_
        refine k_get (C := RX5) (T := TX5) (N := 11) hx hb hts inGX5 hown (hT).1 hP.o0 rfl 2 (by decide) (hts _ w_149) (fun _ h9 => h9) (v := .ref (ad 6)) rfl dX5_deepestIn_20 ?_
        refine lv_iload hx hb dX5_deepestIn_23 (lv_at hl 2 rfl) ?_
        refine c_p1 (va_runV (As := [.int (nI i)]) (rest := []) ⟨hx, hb, hml, hown, hts⟩ (c_Jx4a65c_get_915e3 l D ct (ad 6) (σ 6 0) (ad 8) (nI (nR σ)) (nI i) (nR σ) i (ad 20) (lq ad 100 (nR σ)) (ad (100 + i)) rfl rfl hlt7 hP.2.2.1.1.1 (by have := hP.2.2.1.1.2.1; omega) (if_pos hlt7)) (cwV 1 hts (GG w_189 w_190 w_191 w_64 w_192) rfl rfl rfl (by decide) ⟨Nat.le_of_ble_eq_true rfl, Nat.le_of_ble_eq_true rfl⟩) ⟨(blindT fun _ _ _ _ h => h), Ob.recv (hT).1 hP.o6 rfl, fun U hU hW => ⟨rfl, hT.warm hW, by rw [hU]; exact ⟨hP.o6, (hP.o8 (by omega))⟩⟩⟩ rfl rfl hl.1 rfl (lv_room (Nat.le_of_ble_eq_true rfl)) dX5_deepestIn_25 ⟨Nat.le_of_ble_eq_true rfl, Nat.le_of_ble_eq_true rfl⟩) ?_
        refine va_castS hx hb hown (hts _ w_203) ((hT).1.1 4 _ rfl).2 (Ob.recv (hT).1 (hP.r hlt7) rfl) dX5_deepestIn_28 ?_
        refine lv_astore (lv' := [(5, .ref (ad (100 + i))), (0, .ref (ad 0)), (1, .int t), (4, .int (nI i)), (2, .int acc), (3, .int dep)]) hx hb dX5_deepestIn_31 hl (by decide) rfl (fun ls hl => ?_)
        refine lv_aload hx hb dX5_deepestIn_33 (lv_at hl 0 rfl) ?_
        refine k_get (C := RX3) (T := TX3) (N := 8) hx hb hts inGX3 hown (hT).1 (hP.r hlt7) rfl 5 (by decide) (hts _ w_479) (fun _ h9 => h9) (v := .int (σ 1 (7 * i + 4))) rfl dX5_deepestIn_35 ?_
        refine lv_iload_n hx hb dX5_deepestIn_38 rfl (lv_at hl 2 rfl) ?_
        refine lv_icmp_ne (tgt := 60) hx hb dX5_deepestIn_39 (by decide) (fun c_39 => ?_) (fun c_39 => ?_)
        · -- taken
          refine lv_iinc (v := nI (i + 1)) (lv' := [(4, .int (nI (i + 1))), (5, .ref (ad (100 + i))), (0, .ref (ad 0)), (1, .int t), (2, .int acc), (3, .int dep)]) hx hb dX5_deepestIn_60 hl (k := 3) rfl (nI_1 i) (by decide) rfl (fun ls hl => ?_)
          refine lv_goto (tgt := 7) hx hb dX5_deepestIn_63 (by decide) ?_
          exact ih7 (i + 1) acc dep (by omega) (by omega) (by rw [(dps_f (fun z => c_39 z.1)), haacc]) (by rw [(dps_f (fun z => c_39 z.1)), hadep]) ls (lv_sub hl [2, 3, 0, 4, 5] rfl)
        · -- not taken
          refine lv_aload hx hb dX5_deepestIn_42 (lv_at hl 0 rfl) ?_
          refine k_get (C := RX3) (T := TX3) (N := 8) hx hb hts inGX3 hown (hT).1 (hP.r hlt7) rfl 3 (by decide) (hts _ w_474) (fun _ h9 => h9) (v := .int (σ 1 (7 * i + 1))) rfl dX5_deepestIn_44 ?_
          refine lv_iload_n hx hb dX5_deepestIn_47 rfl (lv_at hl 5 rfl) ?_
          refine lv_icmp_le (tgt := 60) hx hb dX5_deepestIn_48 (by decide) (fun c_48 => ?_) (fun c_48 => ?_)
          · -- taken
            refine lv_iinc (v := nI (i + 1)) (lv' := [(4, .int (nI (i + 1))), (5, .ref (ad (100 + i))), (0, .ref (ad 0)), (1, .int t), (2, .int acc), (3, .int dep)]) hx hb dX5_deepestIn_60 hl (k := 3) rfl (nI_1 i) (by decide) rfl (fun ls hl => ?_)
            refine lv_goto (tgt := 7) hx hb dX5_deepestIn_63 (by decide) ?_
            exact ih7 (i + 1) acc dep (by omega) (by omega) (by rw [(dps_f (fun z => absurd z.2 (by rw [← hadep]; exact Int32.not_lt.mpr c_48))), haacc]) (by rw [(dps_f (fun z => absurd z.2 (by rw [← hadep]; exact Int32.not_lt.mpr c_48))), hadep]) ls (lv_sub hl [2, 3, 0, 4, 5] rfl)
          · -- not taken
            refine lv_iload hx hb dX5_deepestIn_51 (lv_at hl 3 rfl) ?_
            refine lv_istore_n (lv' := [(2, .int (nI i)), (5, .ref (ad (100 + i))), (0, .ref (ad 0)), (1, .int t), (4, .int (nI i)), (3, .int dep)]) hx hb dX5_deepestIn_53 rfl hl (by decide) rfl (fun ls hl => ?_)
            refine lv_aload hx hb dX5_deepestIn_54 (lv_at hl 1 rfl) ?_
            refine k_get (C := RX3) (T := TX3) (N := 8) hx hb hts inGX3 hown (hT).1 (hP.r hlt7) rfl 3 (by decide) (hts _ w_474) (fun _ h9 => h9) (v := .int (σ 1 (7 * i + 1))) rfl dX5_deepestIn_56 ?_
            refine lv_istore_n (lv' := [(3, .int (σ 1 (7 * i + 1))), (2, .int (nI i)), (5, .ref (ad (100 + i))), (0, .ref (ad 0)), (1, .int t), (4, .int (nI i))]) hx hb dX5_deepestIn_59 rfl hl (by decide) rfl (fun ls hl => ?_)
            refine lv_iinc (v := nI (i + 1)) (lv' := [(4, .int (nI (i + 1))), (3, .int (σ 1 (7 * i + 1))), (2, .int (nI i)), (5, .ref (ad (100 + i))), (0, .ref (ad 0)), (1, .int t)]) hx hb dX5_deepestIn_60 hl (k := 5) rfl (nI_1 i) (by decide) rfl (fun ls hl => ?_)
            refine lv_goto (tgt := 7) hx hb dX5_deepestIn_63 (by decide) ?_
            exact ih7 (i + 1) (nI i) (σ 1 (7 * i + 1)) (by omega) (by omega) (by rw [(dps_t ⟨c_39, by rw [← hadep]; exact i32_nle c_48⟩)]) (by rw [(dps_t ⟨c_39, by rw [← hadep]; exact i32_nle c_48⟩)]) ls (lv_sub hl [4, 5, 0, 2, 1] rfl)
  exact loop7 (nR σ + 1 - 0) 0 (-1) (-1) (by omega) (by omega) rfl rfl ls (lv_sub hl [3, 4, 0, 2, 1] rfl)

/-! leastDeepIn -/
set_option maxHeartbeats 4000000 in
set_option maxRecDepth 100000 in
theorem c_X5_leastDeepIn (l : Launch) (D : va_G) (ct : Nat → ClassId) (Z : Nat → Prop) (dc : Nat) (σ : Stt) (ad : Nat → Nat) (t f : Int32) : Met l yX5_leastDeepIn (.code yX5_leastDeepIn cX5_leastDeepIn 6 (some (.object "RumourCustoms$Rumour")) :: GW) ({ frames := 3, cells := 0, slots := 0, locals := 64 } : Room) (va_Pc [.ref (ad 0), .int t, .int f] (fun U => GT D ct U ∧ Pic D ct Z dc σ ad U.heap)) (qP (some (va_rf ((ldp σ t f (nR σ)).map (fun k => ad (100 + k)))))) 0 0 nF := by
  refine m_in (cc := cX5_leastDeepIn) [.ref (ad 0), .int t, .int f] "RumourCustoms" rfl (by decide) (Nat.le_of_ble_eq_true rfl) ?_
  intro pg e s m args below meth cd ls hx hb hml hown hts hr hlocks hin hPr hl
  obtain ⟨hT, hP⟩ := hPr
  have hl : lv_has ls 6 [(0, .ref (ad 0)), (1, .int t), (2, .int f)] := hl
  have hn := hP.2.2.2.1
  have hnC := hP.2.2.2.2
  refine lv_null hx hb dX5_leastDeepIn_0 ?_
  refine lv_astore_nN (lv' := [(3, .null), (0, .ref (ad 0)), (1, .int t), (2, .int f)]) hx hb dX5_leastDeepIn_1 rfl hl (by decide) rfl (fun ls hl => ?_)
  refine lv_iconst (v := 0) hx hb dX5_leastDeepIn_2 (by decide) ?_
  refine lv_istore (lv' := [(4, .int 0), (3, .null), (0, .ref (ad 0)), (1, .int t), (2, .int f)]) hx hb dX5_leastDeepIn_3 hl (by decide) rfl (fun ls hl => ?_)
  have loop5 : ∀ (n5 i : Nat), i ≤ nR σ → nR σ - i < n5 → ∀ ls, lv_has ls 6 [(0, .ref (ad 0)), (1, .int t), (2, .int f), (4, .int (nI i)), (3, va_rf ((ldp σ t f i).map (fun k => ad (100 + k))))] → W pg l e ({ frames := 3, cells := 0, slots := 0, locals := 64 } : Room) s m args below meth cd s.heap [] 0 0 (MQ below (qP (some (va_rf ((ldp σ t f (nR σ)).map (fun k => ad (100 + k)))))) args s 0 0 nF) (F0 m 5 ls []) := by
    intro n5
    induction n5 with
    | zero => intro i _ z; omega
    | succ n5 ih5 =>
      intro i hi5 hn5 ls hl
      rcases ho : ldp σ t f i with _ | k0
      · -- none
        rw [ho] at hl
        have hl : lv_has ls 6 [(0, .ref (ad 0)), (1, .int t), (2, .int f), (4, .int (nI i)), (3, .null)] := hl
        refine lv_iload hx hb dX5_leastDeepIn_5 (lv_at hl 3 rfl) ?_
        refine lv_aload_n hx hb dX5_leastDeepIn_7 rfl (lv_at hl 0 rfl) ?_
        refine k_get (C := RX5) (T := TX5) (N := 11) hx hb hts inGX5 hown (hT).1 hP.o0 rfl 2 (by decide) (hts _ w_149) (fun _ h9 => h9) (v := .ref (ad 6)) rfl dX5_leastDeepIn_8 ?_
        refine c_p1 (va_runV (As := []) (rest := [.int (nI i)]) ⟨hx, hb, hml, hown, hts⟩ (c_Jx4a65c_size_8abf5 l D ct (ad 6) (σ 6 0) (ad 8) (nI (nR σ))) (cwV 0 hts (GG w_185 w_186 w_187 w_64 w_188) rfl rfl rfl (by decide) ⟨Nat.le_of_ble_eq_true rfl, Nat.le_of_ble_eq_true rfl⟩) ⟨(blindT fun _ _ _ _ h => h), Ob.recv (hT).1 hP.o6 rfl, fun U hU hW => ⟨rfl, hT.warm hW, by rw [hU]; exact hP.o6⟩⟩ rfl rfl hl.1 rfl (lv_room (Nat.le_of_ble_eq_true rfl)) dX5_leastDeepIn_11 ⟨Nat.le_of_ble_eq_true rfl, Nat.le_of_ble_eq_true rfl⟩) ?_
        refine lv_icmp_ge (tgt := 74) hx hb dX5_leastDeepIn_14 (by decide) (fun c_14 => ?_) (fun c_14 => ?_)
        · -- taken
          have nc_14 : (nR σ) ≤ i := (nI_leI (a := (nR σ)) (b := i) (by omega) (by omega)).mp c_14
          have he5 : i = nR σ := by omega
          rw [he5] at ho
          refine lv_aload_nN hx hb dX5_leastDeepIn_74 rfl (lv_at hl 4 rfl) ?_
          exact W.aret (v := .null) hx hb hr (Or.inl ⟨_, rfl⟩) (Or.inl rfl) (fun t ht hW => ⟨rva (by rw [ho]; rfl), ht⟩) (fun q h => nomatch h) dX5_leastDeepIn_75
        · -- not taken
          have nc_14 : ¬ (nR σ) ≤ i := fun z => c_14 ((nI_leI (a := (nR σ)) (b := i) (by omega) (by omega)).mpr z)
          have hlt5 : i < nR σ := by omega
          refine lv_aload_n hx hb dX5_leastDeepIn_17 rfl (lv_at hl 0 rfl) ?_
          refine k_get (C := RX5) (T := TX5) (N := 11) hx hb hts inGX5 hown (hT).1 hP.o0 rfl 2 (by decide) (hts _ w_149) (fun _ h9 => h9) (v := .ref (ad 6)) rfl dX5_leastDeepIn_18 ?_
          refine lv_iload hx hb dX5_leastDeepIn_21 (lv_at hl 3 rfl) ?_
          refine c_p1 (va_runV (As := [.int (nI i)]) (rest := []) ⟨hx, hb, hml, hown, hts⟩ (c_Jx4a65c_get_915e3 l D ct (ad 6) (σ 6 0) (ad 8) (nI (nR σ)) (nI i) (nR σ) i (ad 20) (lq ad 100 (nR σ)) (ad (100 + i)) rfl rfl hlt5 hP.2.2.1.1.1 (by have := hP.2.2.1.1.2.1; omega) (if_pos hlt5)) (cwV 1 hts (GG w_189 w_190 w_191 w_64 w_192) rfl rfl rfl (by decide) ⟨Nat.le_of_ble_eq_true rfl, Nat.le_of_ble_eq_true rfl⟩) ⟨(blindT fun _ _ _ _ h => h), Ob.recv (hT).1 hP.o6 rfl, fun U hU hW => ⟨rfl, hT.warm hW, by rw [hU]; exact ⟨hP.o6, (hP.o8 (by omega))⟩⟩⟩ rfl rfl hl.1 rfl (lv_room (Nat.le_of_ble_eq_true rfl)) dX5_leastDeepIn_23 ⟨Nat.le_of_ble_eq_true rfl, Nat.le_of_ble_eq_true rfl⟩) ?_
          refine va_castS hx hb hown (hts _ w_203) ((hT).1.1 4 _ rfl).2 (Ob.recv (hT).1 (hP.r hlt5) rfl) dX5_leastDeepIn_26 ?_
          refine lv_astore (lv' := [(5, .ref (ad (100 + i))), (0, .ref (ad 0)), (1, .int t), (2, .int f), (4, .int (nI i)), (3, .null)]) hx hb dX5_leastDeepIn_29 hl (by decide) rfl (fun ls hl => ?_)
          refine lv_aload hx hb dX5_leastDeepIn_31 (lv_at hl 0 rfl) ?_
          refine k_get (C := RX3) (T := TX3) (N := 8) hx hb hts inGX3 hown (hT).1 (hP.r hlt5) rfl 5 (by decide) (hts _ w_479) (fun _ h9 => h9) (v := .int (σ 1 (7 * i + 4))) rfl dX5_leastDeepIn_33 ?_
          refine lv_iload_n hx hb dX5_leastDeepIn_36 rfl (lv_at hl 2 rfl) ?_
          refine lv_icmp_ne (tgt := 68) hx hb dX5_leastDeepIn_37 (by decide) (fun c_37 => ?_) (fun c_37 => ?_)
          · -- taken
            refine lv_iinc (v := nI (i + 1)) (lv' := [(4, .int (nI (i + 1))), (5, .ref (ad (100 + i))), (0, .ref (ad 0)), (1, .int t), (2, .int f), (3, .null)]) hx hb dX5_leastDeepIn_68 hl (k := 4) rfl (nI_1 i) (by decide) rfl (fun ls hl => ?_)
            refine lv_goto (tgt := 5) hx hb dX5_leastDeepIn_71 (by decide) ?_
            refine ih5 (i + 1) (by omega) (by omega) ls ?_
            rw [show ldp σ t f (i + 1) = _ from ldp_f (fun z => c_37 z.1), ho]
            exact (lv_sub hl [2, 3, 4, 0, 5] rfl)
          · -- not taken
            refine lv_aload hx hb dX5_leastDeepIn_40 (lv_at hl 0 rfl) ?_
            refine k_get (C := RX3) (T := TX3) (N := 8) hx hb hts inGX3 hown (hT).1 (hP.r hlt5) rfl 1 (by decide) (hts _ w_468) (fun _ h9 => h9) (v := .int (σ 1 (7 * i + 3))) rfl dX5_leastDeepIn_42 ?_
            refine lv_iload_n hx hb dX5_leastDeepIn_45 rfl (lv_at hl 3 rfl) ?_
            refine lv_icmp_ne (tgt := 68) hx hb dX5_leastDeepIn_46 (by decide) (fun c_46 => ?_) (fun c_46 => ?_)
            · -- taken
              refine lv_iinc (v := nI (i + 1)) (lv' := [(4, .int (nI (i + 1))), (5, .ref (ad (100 + i))), (0, .ref (ad 0)), (1, .int t), (2, .int f), (3, .null)]) hx hb dX5_leastDeepIn_68 hl (k := 4) rfl (nI_1 i) (by decide) rfl (fun ls hl => ?_)
              refine lv_goto (tgt := 5) hx hb dX5_leastDeepIn_71 (by decide) ?_
              refine ih5 (i + 1) (by omega) (by omega) ls ?_
              rw [show ldp σ t f (i + 1) = _ from ldp_f (fun z => c_46 z.2), ho]
              exact (lv_sub hl [2, 3, 4, 0, 5] rfl)
            · -- not taken
              refine lv_aload_nN hx hb dX5_leastDeepIn_49 rfl (lv_at hl 5 rfl) ?_
              refine lv_ifnullN (tgt := 65) hx hb dX5_leastDeepIn_50 (by decide) ?_
              refine lv_aload hx hb dX5_leastDeepIn_65 (lv_at hl 0 rfl) ?_
              refine lv_astore_n (lv' := [(3, .ref (ad (100 + i))), (5, .ref (ad (100 + i))), (0, .ref (ad 0)), (1, .int t), (2, .int f), (4, .int (nI i))]) hx hb dX5_leastDeepIn_67 rfl hl (by decide) rfl (fun ls hl => ?_)
              refine lv_iinc (v := nI (i + 1)) (lv' := [(4, .int (nI (i + 1))), (3, .ref (ad (100 + i))), (5, .ref (ad (100 + i))), (0, .ref (ad 0)), (1, .int t), (2, .int f)]) hx hb dX5_leastDeepIn_68 hl (k := 5) rfl (nI_1 i) (by decide) rfl (fun ls hl => ?_)
              refine lv_goto (tgt := 5) hx hb dX5_leastDeepIn_71 (by decide) ?_
              refine ih5 (i + 1) (by omega) (by omega) ls ?_
              rw [show ldp σ t f (i + 1) = _ from ldp_n ⟨c_37, c_46⟩ ho]
              exact (lv_sub hl [3, 4, 5, 0, 1] rfl)
      · -- some
        rw [ho] at hl
        have hl : lv_has ls 6 [(0, .ref (ad 0)), (1, .int t), (2, .int f), (4, .int (nI i)), (3, .ref (ad (100 + k0)))] := hl
        have hk0 := ldp_lt ho
        have hk1 : k0 < nR σ := by omega
        refine lv_iload hx hb dX5_leastDeepIn_5 (lv_at hl 3 rfl) ?_
        refine lv_aload_n hx hb dX5_leastDeepIn_7 rfl (lv_at hl 0 rfl) ?_
        refine k_get (C := RX5) (T := TX5) (N := 11) hx hb hts inGX5 hown (hT).1 hP.o0 rfl 2 (by decide) (hts _ w_149) (fun _ h9 => h9) (v := .ref (ad 6)) rfl dX5_leastDeepIn_8 ?_
        refine c_p1 (va_runV (As := []) (rest := [.int (nI i)]) ⟨hx, hb, hml, hown, hts⟩ (c_Jx4a65c_size_8abf5 l D ct (ad 6) (σ 6 0) (ad 8) (nI (nR σ))) (cwV 0 hts (GG w_185 w_186 w_187 w_64 w_188) rfl rfl rfl (by decide) ⟨Nat.le_of_ble_eq_true rfl, Nat.le_of_ble_eq_true rfl⟩) ⟨(blindT fun _ _ _ _ h => h), Ob.recv (hT).1 hP.o6 rfl, fun U hU hW => ⟨rfl, hT.warm hW, by rw [hU]; exact hP.o6⟩⟩ rfl rfl hl.1 rfl (lv_room (Nat.le_of_ble_eq_true rfl)) dX5_leastDeepIn_11 ⟨Nat.le_of_ble_eq_true rfl, Nat.le_of_ble_eq_true rfl⟩) ?_
        refine lv_icmp_ge (tgt := 74) hx hb dX5_leastDeepIn_14 (by decide) (fun c_14 => ?_) (fun c_14 => ?_)
        · -- taken
          have nc_14 : (nR σ) ≤ i := (nI_leI (a := (nR σ)) (b := i) (by omega) (by omega)).mp c_14
          have he5 : i = nR σ := by omega
          rw [he5] at ho
          refine lv_aload_n hx hb dX5_leastDeepIn_74 rfl (lv_at hl 4 rfl) ?_
          exact W.aret (v := .ref (ad (100 + k0))) hx hb hr (Or.inl ⟨_, rfl⟩) (Or.inr ⟨_, rfl⟩) (fun t ht hW => ⟨rva (by rw [ho]; rfl), ht⟩) (fun q h => nomatch h) dX5_leastDeepIn_75
        · -- not taken
          have nc_14 : ¬ (nR σ) ≤ i := fun z => c_14 ((nI_leI (a := (nR σ)) (b := i) (by omega) (by omega)).mpr z)
          have hlt5 : i < nR σ := by omega
          refine lv_aload_n hx hb dX5_leastDeepIn_17 rfl (lv_at hl 0 rfl) ?_
          refine k_get (C := RX5) (T := TX5) (N := 11) hx hb hts inGX5 hown (hT).1 hP.o0 rfl 2 (by decide) (hts _ w_149) (fun _ h9 => h9) (v := .ref (ad 6)) rfl dX5_leastDeepIn_18 ?_
          refine lv_iload hx hb dX5_leastDeepIn_21 (lv_at hl 3 rfl) ?_
          refine c_p1 (va_runV (As := [.int (nI i)]) (rest := []) ⟨hx, hb, hml, hown, hts⟩ (c_Jx4a65c_get_915e3 l D ct (ad 6) (σ 6 0) (ad 8) (nI (nR σ)) (nI i) (nR σ) i (ad 20) (lq ad 100 (nR σ)) (ad (100 + i)) rfl rfl hlt5 hP.2.2.1.1.1 (by have := hP.2.2.1.1.2.1; omega) (if_pos hlt5)) (cwV 1 hts (GG w_189 w_190 w_191 w_64 w_192) rfl rfl rfl (by decide) ⟨Nat.le_of_ble_eq_true rfl, Nat.le_of_ble_eq_true rfl⟩) ⟨(blindT fun _ _ _ _ h => h), Ob.recv (hT).1 hP.o6 rfl, fun U hU hW => ⟨rfl, hT.warm hW, by rw [hU]; exact ⟨hP.o6, (hP.o8 (by omega))⟩⟩⟩ rfl rfl hl.1 rfl (lv_room (Nat.le_of_ble_eq_true rfl)) dX5_leastDeepIn_23 ⟨Nat.le_of_ble_eq_true rfl, Nat.le_of_ble_eq_true rfl⟩) ?_
          refine va_castS hx hb hown (hts _ w_203) ((hT).1.1 4 _ rfl).2 (Ob.recv (hT).1 (hP.r hlt5) rfl) dX5_leastDeepIn_26 ?_
          refine lv_astore (lv' := [(5, .ref (ad (100 + i))), (0, .ref (ad 0)), (1, .int t), (2, .int f), (4, .int (nI i)), (3, .ref (ad (100 + k0)))]) hx hb dX5_leastDeepIn_29 hl (by decide) rfl (fun ls hl => ?_)
          refine lv_aload hx hb dX5_leastDeepIn_31 (lv_at hl 0 rfl) ?_
          refine k_get (C := RX3) (T := TX3) (N := 8) hx hb hts inGX3 hown (hT).1 (hP.r hlt5) rfl 5 (by decide) (hts _ w_479) (fun _ h9 => h9) (v := .int (σ 1 (7 * i + 4))) rfl dX5_leastDeepIn_33 ?_
          refine lv_iload_n hx hb dX5_leastDeepIn_36 rfl (lv_at hl 2 rfl) ?_
          refine lv_icmp_ne (tgt := 68) hx hb dX5_leastDeepIn_37 (by decide) (fun c_37 => ?_) (fun c_37 => ?_)
          · -- taken
            refine lv_iinc (v := nI (i + 1)) (lv' := [(4, .int (nI (i + 1))), (5, .ref (ad (100 + i))), (0, .ref (ad 0)), (1, .int t), (2, .int f), (3, .ref (ad (100 + k0)))]) hx hb dX5_leastDeepIn_68 hl (k := 4) rfl (nI_1 i) (by decide) rfl (fun ls hl => ?_)
            refine lv_goto (tgt := 5) hx hb dX5_leastDeepIn_71 (by decide) ?_
            refine ih5 (i + 1) (by omega) (by omega) ls ?_
            rw [show ldp σ t f (i + 1) = _ from ldp_f (fun z => c_37 z.1), ho]
            exact (lv_sub hl [2, 3, 4, 0, 5] rfl)
          · -- not taken
            refine lv_aload hx hb dX5_leastDeepIn_40 (lv_at hl 0 rfl) ?_
            refine k_get (C := RX3) (T := TX3) (N := 8) hx hb hts inGX3 hown (hT).1 (hP.r hlt5) rfl 1 (by decide) (hts _ w_468) (fun _ h9 => h9) (v := .int (σ 1 (7 * i + 3))) rfl dX5_leastDeepIn_42 ?_
            refine lv_iload_n hx hb dX5_leastDeepIn_45 rfl (lv_at hl 3 rfl) ?_
            refine lv_icmp_ne (tgt := 68) hx hb dX5_leastDeepIn_46 (by decide) (fun c_46 => ?_) (fun c_46 => ?_)
            · -- taken
              refine lv_iinc (v := nI (i + 1)) (lv' := [(4, .int (nI (i + 1))), (5, .ref (ad (100 + i))), (0, .ref (ad 0)), (1, .int t), (2, .int f), (3, .ref (ad (100 + k0)))]) hx hb dX5_leastDeepIn_68 hl (k := 4) rfl (nI_1 i) (by decide) rfl (fun ls hl => ?_)
              refine lv_goto (tgt := 5) hx hb dX5_leastDeepIn_71 (by decide) ?_
              refine ih5 (i + 1) (by omega) (by omega) ls ?_
              rw [show ldp σ t f (i + 1) = _ from ldp_f (fun z => c_46 z.2), ho]
              exact (lv_sub hl [2, 3, 4, 0, 5] rfl)
            · -- not taken
              refine lv_aload_n hx hb dX5_leastDeepIn_49 rfl (lv_at hl 5 rfl) ?_
              refine lv_ifnull hx hb dX5_leastDeepIn_50 ?_
              refine lv_aload hx hb dX5_leastDeepIn_53 (lv_at hl 0 rfl) ?_
              refine k_get (C := RX3) (T := TX3) (N := 8) hx hb hts inGX3 hown (hT).1 (hP.r hlt5) rfl 3 (by decide) (hts _ w_474) (fun _ h9 => h9) (v := .int (σ 1 (7 * i + 1))) rfl dX5_leastDeepIn_55 ?_
              refine lv_aload_n hx hb dX5_leastDeepIn_58 rfl (lv_at hl 5 rfl) ?_
              refine k_get (C := RX3) (T := TX3) (N := 8) hx hb hts inGX3 hown (hT).1 (hP.r hk1) rfl 3 (by decide) (hts _ w_474) (fun _ h9 => h9) (v := .int (σ 1 (7 * k0 + 1))) rfl dX5_leastDeepIn_59 ?_
              refine lv_icmp_ge (tgt := 68) hx hb dX5_leastDeepIn_62 (by decide) (fun c_62 => ?_) (fun c_62 => ?_)
              · -- taken
                refine lv_iinc (v := nI (i + 1)) (lv' := [(4, .int (nI (i + 1))), (5, .ref (ad (100 + i))), (0, .ref (ad 0)), (1, .int t), (2, .int f), (3, .ref (ad (100 + k0)))]) hx hb dX5_leastDeepIn_68 hl (k := 4) rfl (nI_1 i) (by decide) rfl (fun ls hl => ?_)
                refine lv_goto (tgt := 5) hx hb dX5_leastDeepIn_71 (by decide) ?_
                refine ih5 (i + 1) (by omega) (by omega) ls ?_
                rw [show ldp σ t f (i + 1) = _ from ldp_s ho (Int32.not_lt.mpr c_62)]
                exact (lv_sub hl [2, 3, 4, 0, 5] rfl)
              · -- not taken
                refine lv_aload hx hb dX5_leastDeepIn_65 (lv_at hl 0 rfl) ?_
                refine lv_astore_n (lv' := [(3, .ref (ad (100 + i))), (5, .ref (ad (100 + i))), (0, .ref (ad 0)), (1, .int t), (2, .int f), (4, .int (nI i))]) hx hb dX5_leastDeepIn_67 rfl hl (by decide) rfl (fun ls hl => ?_)
                refine lv_iinc (v := nI (i + 1)) (lv' := [(4, .int (nI (i + 1))), (3, .ref (ad (100 + i))), (5, .ref (ad (100 + i))), (0, .ref (ad 0)), (1, .int t), (2, .int f)]) hx hb dX5_leastDeepIn_68 hl (k := 5) rfl (nI_1 i) (by decide) rfl (fun ls hl => ?_)
                refine lv_goto (tgt := 5) hx hb dX5_leastDeepIn_71 (by decide) ?_
                refine ih5 (i + 1) (by omega) (by omega) ls ?_
                rw [show ldp σ t f (i + 1) = _ from ldp_l ⟨c_37, c_46⟩ ho (i32_nle c_62)]
                exact (lv_sub hl [3, 4, 5, 0, 1] rfl)
  exact loop5 (nR σ + 1 - 0) 0 (by omega) (by omega) ls (lv_sub hl [2, 3, 4, 0, 1] rfl)

/-! figureOf -/
set_option maxHeartbeats 4000000 in
set_option maxRecDepth 100000 in
theorem c_X5_figureOf (l : Launch) (D : va_G) (ct : Nat → ClassId) (Z : Nat → Prop) (dc : Nat) (σ : Stt) (ad : Nat → Nat) (k : Nat) (p : Int32) (hk : k < nC σ) (hH : ∀ i, i < nR σ → σ 1 (7 * i + 6) = 0 ∨ σ 1 (7 * i + 6) = 1) : Met l yX5_figureOf (.code yX5_figureOf cX5_figureOf 3 (some .int) :: GW) ({ frames := 4, cells := 0, slots := 0, locals := 87 } : Room) (va_Pc [.ref (ad 0), .ref (ad (200 + k)), .int p] (fun U => GT D ct U ∧ Pic D ct Z dc σ ad U.heap)) (qP (some (.int (figC σ k p)))) 0 0 nF := by
  refine m_in (cc := cX5_figureOf) [.ref (ad 0), .ref (ad (200 + k)), .int p] "RumourCustoms" rfl (by decide) (Nat.le_of_ble_eq_true rfl) ?_
  intro pg e s m args below meth cd ls hx hb hml hown hts hr hlocks hin hPr hl
  obtain ⟨hT, hP⟩ := hPr
  have hl : lv_has ls 3 [(0, .ref (ad 0)), (1, .ref (ad (200 + k))), (2, .int p)] := hl
  have hn := hP.2.2.2.1
  have hnC := hP.2.2.2.2
  refine lv_iload_n hx hb dX5_figureOf_0 rfl (lv_at hl 2 rfl) ?_
  by_cases e1_0 : p = 0
  · -- case 0
    subst e1_0
    refine lv_tableIn (off := 35) (tgt := 36) hx hb dX5_figureOf_1 (by decide) (by decide) rfl (by decide) ?_
    refine lv_aload_n hx hb dX5_figureOf_36 rfl (lv_at hl 1 rfl) ?_
    refine k_get (C := RX0) (T := TX0) (N := 5) hx hb hts inGX0 hown (hT).1 (hP.c hk) rfl 1 (by decide) (hts _ w_627) (fun _ h9 => h9) (v := .int (σ 2 (4 * k))) rfl dX5_figureOf_37 ?_
    exact W.iret (v := σ 2 (4 * k)) hx hb hr (fun t ht hW => ⟨rvi rfl, ht⟩) (fun q h => nomatch h) dX5_figureOf_40
  by_cases e1_1 : p = 1
  · -- case 1
    subst e1_1
    refine lv_tableIn (off := 40) (tgt := 41) hx hb dX5_figureOf_1 (by decide) (by decide) rfl (by decide) ?_
    refine lv_aload_n hx hb dX5_figureOf_41 rfl (lv_at hl 1 rfl) ?_
    refine k_get (C := RX0) (T := TX0) (N := 5) hx hb hts inGX0 hown (hT).1 (hP.c hk) rfl 2 (by decide) (hts _ w_629) (fun _ h9 => h9) (v := .int (σ 2 (4 * k + 1))) rfl dX5_figureOf_42 ?_
    exact W.iret (v := σ 2 (4 * k + 1)) hx hb hr (fun t ht hW => ⟨rvi rfl, ht⟩) (fun q h => nomatch h) dX5_figureOf_45
  by_cases e1_2 : p = 2
  · -- case 2
    subst e1_2
    refine lv_tableIn (off := 45) (tgt := 46) hx hb dX5_figureOf_1 (by decide) (by decide) rfl (by decide) ?_
    refine lv_aload_n hx hb dX5_figureOf_46 rfl (lv_at hl 1 rfl) ?_
    refine k_get (C := RX0) (T := TX0) (N := 5) hx hb hts inGX0 hown (hT).1 (hP.c hk) rfl 3 (by decide) (hts _ w_631) (fun _ h9 => h9) (v := .int (σ 2 (4 * k + 2))) rfl dX5_figureOf_47 ?_
    exact W.iret (v := σ 2 (4 * k + 2)) hx hb hr (fun t ht hW => ⟨rvi rfl, ht⟩) (fun q h => nomatch h) dX5_figureOf_50
  by_cases e1_3 : p = 3
  · -- case 3
    subst e1_3
    refine lv_tableIn (off := 50) (tgt := 51) hx hb dX5_figureOf_1 (by decide) (by decide) rfl (by decide) ?_
    refine lv_aload_n hx hb dX5_figureOf_51 rfl (lv_at hl 0 rfl) ?_
    refine lv_aload_n hx hb dX5_figureOf_52 rfl (lv_at hl 1 rfl) ?_
    refine c_p1 (va_runV (As := [.ref (ad (200 + k))]) (rest := []) ⟨hx, hb, hml, hown, hts⟩ (c_X5_inBag l D ct Z dc σ ad k hk) (cwV 1 hts (GG w_265 w_267 w_7 w_59 w_268) rfl rfl rfl (by decide) ⟨Nat.le_of_ble_eq_true rfl, Nat.le_of_ble_eq_true rfl⟩) ⟨(blindT fun _ _ _ _ h => h), Ob.recv (hT).1 hP.o0 rfl, fun U hU hW => ⟨rfl, hT.warm hW, by rw [hU]; exact hP⟩⟩ rfl rfl hl.1 rfl (lv_room (Nat.le_of_ble_eq_true rfl)) dX5_figureOf_53 ⟨Nat.le_of_ble_eq_true rfl, Nat.le_of_ble_eq_true rfl⟩) ?_
    exact W.iret (v := inB σ (nI k)) hx hb hr (fun t ht hW => ⟨rvi rfl, ht⟩) (fun q h => nomatch h) dX5_figureOf_56
  by_cases e1_4 : p = 4
  · -- case 4
    subst e1_4
    refine lv_tableIn (off := 56) (tgt := 57) hx hb dX5_figureOf_1 (by decide) (by decide) rfl (by decide) ?_
    refine lv_aload_n hx hb dX5_figureOf_57 rfl (lv_at hl 0 rfl) ?_
    refine lv_aload_n hx hb dX5_figureOf_58 rfl (lv_at hl 1 rfl) ?_
    refine c_p1 (va_runV (As := [.ref (ad (200 + k))]) (rest := []) ⟨hx, hb, hml, hown, hts⟩ (c_X5_hiddenInBag l D ct Z dc σ ad k hk hH) (cwV 1 hts (GG w_273 w_275 w_8 w_59 w_276) rfl rfl rfl (by decide) ⟨Nat.le_of_ble_eq_true rfl, Nat.le_of_ble_eq_true rfl⟩) ⟨(blindT fun _ _ _ _ h => h), Ob.recv (hT).1 hP.o0 rfl, fun U hU hW => ⟨rfl, hT.warm hW, by rw [hU]; exact hP⟩⟩ rfl rfl hl.1 rfl (lv_room (Nat.le_of_ble_eq_true rfl)) dX5_figureOf_59 ⟨Nat.le_of_ble_eq_true rfl, Nat.le_of_ble_eq_true rfl⟩) ?_
    exact W.iret (v := hidB σ (nI k)) hx hb hr (fun t ht hW => ⟨rvi rfl, ht⟩) (fun q h => nomatch h) dX5_figureOf_62
  have t1 : p.toInt < 0 ∨ 4 < p.toInt := by
    have z := And.intro (lv_neT (a := 0) e1_0 rfl) (And.intro (lv_neT (a := 1) e1_1 rfl) (And.intro (lv_neT (a := 2) e1_2 rfl) (And.intro (lv_neT (a := 3) e1_3 rfl) (And.intro (lv_neT (a := 4) e1_4 rfl) trivial))))
    omega
  refine lv_tableOut (tgt := 63) hx hb dX5_figureOf_1 t1 (by decide) ?_
  refine lv_aload_n hx hb dX5_figureOf_63 rfl (lv_at hl 1 rfl) ?_
  refine k_get (C := RX0) (T := TX0) (N := 5) hx hb hts inGX0 hown (hT).1 (hP.c hk) rfl 4 (by decide) (hts _ w_633) (fun _ h9 => h9) (v := .int (σ 2 (4 * k + 3))) rfl dX5_figureOf_64 ?_
  exact W.iret (v := σ 2 (4 * k + 3)) hx hb hr (fun t ht hW => ⟨rvi (by simp [figC, e1_0, e1_1, e1_2, e1_3, e1_4]), ht⟩) (fun q h => nomatch h) dX5_figureOf_67

/-! figureOfLand -/
set_option maxHeartbeats 4000000 in
set_option maxRecDepth 100000 in
theorem c_X5_figureOfLand (l : Launch) (D : va_G) (ct : Nat → ClassId) (Z : Nat → Prop) (dc : Nat) (σ : Stt) (ad : Nat → Nat) (p : Int32) : Met l yX5_figureOfLand (.code yX5_figureOfLand cX5_figureOfLand 2 (some .int) :: GW) ({ frames := 4, cells := 0, slots := 0, locals := 86 } : Room) (va_Pc [.ref (ad 0), .int p] (fun U => GT D ct U ∧ Pic D ct Z dc σ ad U.heap)) (qP (some (.int (figL σ p)))) 0 0 nF := by
  refine m_in (cc := cX5_figureOfLand) [.ref (ad 0), .int p] "RumourCustoms" rfl (by decide) (Nat.le_of_ble_eq_true rfl) ?_
  intro pg e s m args below meth cd ls hx hb hml hown hts hr hlocks hin hPr hl
  obtain ⟨hT, hP⟩ := hPr
  have hl : lv_has ls 2 [(0, .ref (ad 0)), (1, .int p)] := hl
  have hn := hP.2.2.2.1
  have hnC := hP.2.2.2.2
  refine lv_iload_n hx hb dX5_figureOfLand_0 rfl (lv_at hl 1 rfl) ?_
  by_cases e1_0 : p = 0
  · -- case 0
    subst e1_0
    refine lv_tableIn (off := 55) (tgt := 56) hx hb dX5_figureOfLand_1 (by decide) (by decide) rfl (by decide) ?_
    refine lv_aload_n hx hb dX5_figureOfLand_56 rfl (lv_at hl 0 rfl) ?_
    refine k_get (C := RX5) (T := TX5) (N := 11) hx hb hts inGX5 hown (hT).1 hP.o0 rfl 6 (by decide) (hts _ w_153) (fun _ h9 => h9) (v := .int (σ 0 0)) rfl dX5_figureOfLand_57 ?_
    exact W.iret (v := σ 0 0) hx hb hr (fun t ht hW => ⟨rvi rfl, ht⟩) (fun q h => nomatch h) dX5_figureOfLand_60
  by_cases e1_1 : p = 1
  · -- case 1
    subst e1_1
    refine lv_tableIn (off := 60) (tgt := 61) hx hb dX5_figureOfLand_1 (by decide) (by decide) rfl (by decide) ?_
    refine lv_aload_n hx hb dX5_figureOfLand_61 rfl (lv_at hl 0 rfl) ?_
    refine k_get (C := RX5) (T := TX5) (N := 11) hx hb hts inGX5 hown (hT).1 hP.o0 rfl 4 (by decide) (hts _ w_151) (fun _ h9 => h9) (v := .int (σ 0 1)) rfl dX5_figureOfLand_62 ?_
    exact W.iret (v := σ 0 1) hx hb hr (fun t ht hW => ⟨rvi rfl, ht⟩) (fun q h => nomatch h) dX5_figureOfLand_65
  by_cases e1_2 : p = 2
  · -- case 2
    subst e1_2
    refine lv_tableIn (off := 65) (tgt := 66) hx hb dX5_figureOfLand_1 (by decide) (by decide) rfl (by decide) ?_
    refine lv_aload_n hx hb dX5_figureOfLand_66 rfl (lv_at hl 0 rfl) ?_
    refine k_get (C := RX5) (T := TX5) (N := 11) hx hb hts inGX5 hown (hT).1 hP.o0 rfl 5 (by decide) (hts _ w_152) (fun _ h9 => h9) (v := .int (σ 0 2)) rfl dX5_figureOfLand_67 ?_
    exact W.iret (v := σ 0 2) hx hb hr (fun t ht hW => ⟨rvi rfl, ht⟩) (fun q h => nomatch h) dX5_figureOfLand_70
  by_cases e1_3 : p = 3
  · -- case 3
    subst e1_3
    refine lv_tableIn (off := 70) (tgt := 71) hx hb dX5_figureOfLand_1 (by decide) (by decide) rfl (by decide) ?_
    refine lv_aload_n hx hb dX5_figureOfLand_71 rfl (lv_at hl 0 rfl) ?_
    refine k_get (C := RX5) (T := TX5) (N := 11) hx hb hts inGX5 hown (hT).1 hP.o0 rfl 2 (by decide) (hts _ w_149) (fun _ h9 => h9) (v := .ref (ad 6)) rfl dX5_figureOfLand_72 ?_
    refine c_p1 (va_runV (As := []) (rest := []) ⟨hx, hb, hml, hown, hts⟩ (c_Jx4a65c_size_8abf5 l D ct (ad 6) (σ 6 0) (ad 8) (nI (nR σ))) (cwV 0 hts (GG w_185 w_186 w_187 w_64 w_188) rfl rfl rfl (by decide) ⟨Nat.le_of_ble_eq_true rfl, Nat.le_of_ble_eq_true rfl⟩) ⟨(blindT fun _ _ _ _ h => h), Ob.recv (hT).1 hP.o6 rfl, fun U hU hW => ⟨rfl, hT.warm hW, by rw [hU]; exact hP.o6⟩⟩ rfl rfl hl.1 rfl (lv_room (Nat.le_of_ble_eq_true rfl)) dX5_figureOfLand_75 ⟨Nat.le_of_ble_eq_true rfl, Nat.le_of_ble_eq_true rfl⟩) ?_
    exact W.iret (v := nI (nR σ)) hx hb hr (fun t ht hW => ⟨rvi rfl, ht⟩) (fun q h => nomatch h) dX5_figureOfLand_78
  by_cases e1_4 : p = 4
  · -- case 4
    subst e1_4
    refine lv_tableIn (off := 78) (tgt := 79) hx hb dX5_figureOfLand_1 (by decide) (by decide) rfl (by decide) ?_
    refine lv_aload_n hx hb dX5_figureOfLand_79 rfl (lv_at hl 0 rfl) ?_
    refine c_p1 (va_runV (As := []) (rest := []) ⟨hx, hb, hml, hown, hts⟩ (c_X5_goneRumours l D ct Z dc σ ad ) (cwV 0 hts (GG w_214 w_216 w_1 w_59 w_217) rfl rfl rfl (by decide) ⟨Nat.le_of_ble_eq_true rfl, Nat.le_of_ble_eq_true rfl⟩) ⟨(blindT fun _ _ _ _ h => h), Ob.recv (hT).1 hP.o0 rfl, fun U hU hW => ⟨rfl, hT.warm hW, by rw [hU]; exact hP⟩⟩ rfl rfl hl.1 rfl (lv_room (Nat.le_of_ble_eq_true rfl)) dX5_figureOfLand_80 ⟨Nat.le_of_ble_eq_true rfl, Nat.le_of_ble_eq_true rfl⟩) ?_
    exact W.iret (v := goneS σ) hx hb hr (fun t ht hW => ⟨rvi rfl, ht⟩) (fun q h => nomatch h) dX5_figureOfLand_83
  by_cases e1_5 : p = 5
  · -- case 5
    subst e1_5
    refine lv_tableIn (off := 83) (tgt := 84) hx hb dX5_figureOfLand_1 (by decide) (by decide) rfl (by decide) ?_
    refine lv_aload_n hx hb dX5_figureOfLand_84 rfl (lv_at hl 0 rfl) ?_
    refine k_get (C := RX5) (T := TX5) (N := 11) hx hb hts inGX5 hown (hT).1 hP.o0 rfl 3 (by decide) (hts _ w_150) (fun _ h9 => h9) (v := .ref (ad 7)) rfl dX5_figureOfLand_85 ?_
    refine c_p1 (va_runV (As := []) (rest := []) ⟨hx, hb, hml, hown, hts⟩ (c_Jx4a65c_size_8abf5 l D ct (ad 7) (σ 6 1) (ad 9) (nI (nC σ))) (cwV 0 hts (GG w_185 w_186 w_187 w_64 w_188) rfl rfl rfl (by decide) ⟨Nat.le_of_ble_eq_true rfl, Nat.le_of_ble_eq_true rfl⟩) ⟨(blindT fun _ _ _ _ h => h), Ob.recv (hT).1 hP.o7 rfl, fun U hU hW => ⟨rfl, hT.warm hW, by rw [hU]; exact hP.o7⟩⟩ rfl rfl hl.1 rfl (lv_room (Nat.le_of_ble_eq_true rfl)) dX5_figureOfLand_88 ⟨Nat.le_of_ble_eq_true rfl, Nat.le_of_ble_eq_true rfl⟩) ?_
    exact W.iret (v := nI (nC σ)) hx hb hr (fun t ht hW => ⟨rvi rfl, ht⟩) (fun q h => nomatch h) dX5_figureOfLand_91
  by_cases e1_6 : p = 6
  · -- case 6
    subst e1_6
    refine lv_tableIn (off := 91) (tgt := 92) hx hb dX5_figureOfLand_1 (by decide) (by decide) rfl (by decide) ?_
    refine lv_aload_n hx hb dX5_figureOfLand_92 rfl (lv_at hl 0 rfl) ?_
    refine c_p1 (va_runV (As := []) (rest := []) ⟨hx, hb, hml, hown, hts⟩ (c_X5_carriersOnTheWay l D ct Z dc σ ad ) (cwV 0 hts (GG w_222 w_224 w_2 w_59 w_225) rfl rfl rfl (by decide) ⟨Nat.le_of_ble_eq_true rfl, Nat.le_of_ble_eq_true rfl⟩) ⟨(blindT fun _ _ _ _ h => h), Ob.recv (hT).1 hP.o0 rfl, fun U hU hW => ⟨rfl, hT.warm hW, by rw [hU]; exact hP⟩⟩ rfl rfl hl.1 rfl (lv_room (Nat.le_of_ble_eq_true rfl)) dX5_figureOfLand_93 ⟨Nat.le_of_ble_eq_true rfl, Nat.le_of_ble_eq_true rfl⟩) ?_
    exact W.iret (v := wayS σ) hx hb hr (fun t ht hW => ⟨rvi rfl, ht⟩) (fun q h => nomatch h) dX5_figureOfLand_96
  by_cases e1_7 : p = 7
  · -- case 7
    subst e1_7
    refine lv_tableIn (off := 96) (tgt := 97) hx hb dX5_figureOfLand_1 (by decide) (by decide) rfl (by decide) ?_
    refine lv_aload_n hx hb dX5_figureOfLand_97 rfl (lv_at hl 0 rfl) ?_
    refine k_get (C := RX5) (T := TX5) (N := 11) hx hb hts inGX5 hown (hT).1 hP.o0 rfl 7 (by decide) (hts _ w_154) (fun _ h9 => h9) (v := .int (σ 0 5)) rfl dX5_figureOfLand_98 ?_
    exact W.iret (v := σ 0 5) hx hb hr (fun t ht hW => ⟨rvi rfl, ht⟩) (fun q h => nomatch h) dX5_figureOfLand_101
  by_cases e1_8 : p = 8
  · -- case 8
    subst e1_8
    refine lv_tableIn (off := 101) (tgt := 102) hx hb dX5_figureOfLand_1 (by decide) (by decide) rfl (by decide) ?_
    refine lv_aload_n hx hb dX5_figureOfLand_102 rfl (lv_at hl 0 rfl) ?_
    refine k_get (C := RX5) (T := TX5) (N := 11) hx hb hts inGX5 hown (hT).1 hP.o0 rfl 8 (by decide) (hts _ w_155) (fun _ h9 => h9) (v := .int (σ 0 6)) rfl dX5_figureOfLand_103 ?_
    exact W.iret (v := σ 0 6) hx hb hr (fun t ht hW => ⟨rvi rfl, ht⟩) (fun q h => nomatch h) dX5_figureOfLand_106
  by_cases e1_9 : p = 9
  · -- case 9
    subst e1_9
    refine lv_tableIn (off := 106) (tgt := 107) hx hb dX5_figureOfLand_1 (by decide) (by decide) rfl (by decide) ?_
    refine lv_aload_n hx hb dX5_figureOfLand_107 rfl (lv_at hl 0 rfl) ?_
    refine k_get (C := RX5) (T := TX5) (N := 11) hx hb hts inGX5 hown (hT).1 hP.o0 rfl 9 (by decide) (hts _ w_156) (fun _ h9 => h9) (v := .int (σ 0 7)) rfl dX5_figureOfLand_108 ?_
    exact W.iret (v := σ 0 7) hx hb hr (fun t ht hW => ⟨rvi rfl, ht⟩) (fun q h => nomatch h) dX5_figureOfLand_111
  have t1 : p.toInt < 0 ∨ 9 < p.toInt := by
    have z := And.intro (lv_neT (a := 0) e1_0 rfl) (And.intro (lv_neT (a := 1) e1_1 rfl) (And.intro (lv_neT (a := 2) e1_2 rfl) (And.intro (lv_neT (a := 3) e1_3 rfl) (And.intro (lv_neT (a := 4) e1_4 rfl) (And.intro (lv_neT (a := 5) e1_5 rfl) (And.intro (lv_neT (a := 6) e1_6 rfl) (And.intro (lv_neT (a := 7) e1_7 rfl) (And.intro (lv_neT (a := 8) e1_8 rfl) (And.intro (lv_neT (a := 9) e1_9 rfl) trivial)))))))))
    omega
  refine lv_tableOut (tgt := 112) hx hb dX5_figureOfLand_1 t1 (by decide) ?_
  refine lv_aload_n hx hb dX5_figureOfLand_112 rfl (lv_at hl 0 rfl) ?_
  refine k_get (C := RX5) (T := TX5) (N := 11) hx hb hts inGX5 hown (hT).1 hP.o0 rfl 10 (by decide) (hts _ w_157) (fun _ h9 => h9) (v := .int (σ 0 8)) rfl dX5_figureOfLand_113 ?_
  exact W.iret (v := σ 0 8) hx hb hr (fun t ht hW => ⟨rvi (by simp [figL, e1_0, e1_1, e1_2, e1_3, e1_4, e1_5, e1_6, e1_7, e1_8, e1_9]), ht⟩) (fun q h => nomatch h) dX5_figureOfLand_116
