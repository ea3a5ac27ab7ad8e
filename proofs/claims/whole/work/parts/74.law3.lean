/-! THE LAW'S BODY: hearsay and digest, the loop -/
section LAW3
theorem nan_v {r : UInt64} (h : isNaN64 r = true) : FP.dcmp r r = none := by
  have h1 := isNaN64_iff.mp h
  refine (FP.Core.dcmp_none _ _).mpr (Or.inl ?_)
  rw [show (0x7fffffffffffffff : Nat) = 2 ^ 63 - 1 from rfl, Nat.and_two_pow_sub_one_eq_mod] at h1
  have e1 : FP.Core.fieldE FP.Core.b64 r.toNat = r.toNat / 4503599627370496 % 2048 := rfl
  have e2 : FP.Core.fieldT FP.Core.b64 r.toNat = r.toNat % 4503599627370496 := rfl
  have h3 : FP.Core.fieldE FP.Core.b64 r.toNat = FP.Core.b64.exps - 1 := by
    rw [e1, show FP.Core.b64.exps - 1 = 2047 from rfl]
    omega
  have h4 : ¬ FP.Core.fieldT FP.Core.b64 r.toNat = 0 := by
    rw [e2]
    omega
  show FP.Core.decode FP.Core.b64 r.toNat = .nan
  unfold FP.Core.decode
  rw [if_pos h3, if_neg h4]
theorem hs_same {x y : Int32} {r r1 : UInt64} (h : hsR x y r) (h1 : hsR x y r1) : r = r1 ∨ (isNaN64 r = true ∧ isNaN64 r1 = true) := by
  rcases h with ⟨a, b⟩ | ⟨a, b⟩ <;> rcases h1 with ⟨a1, b1⟩ | ⟨a1, b1⟩
  · exact Or.inl (b.trans b1.symm)
  · exact absurd a a1
  · exact absurd a1 a
  · simp only [alike64, Bool.or_eq_true, decide_eq_true_eq, Bool.and_eq_true] at b b1
    rcases b with b | b <;> rcases b1 with b1 | b1
    · exact Or.inl (b.trans b1.symm)
    · exact Or.inr ⟨by rw [b]; exact b1.2, b1.1⟩
    · exact Or.inr ⟨b.1, by rw [b1]; exact b.2⟩
    · exact Or.inr ⟨b.1, b1.1⟩
/-- p and q alike: p == q, or neither is itself -/
theorem hs_cmp {x y : Int32} {r r1 : UInt64} (h : hsR x y r) (h1 : hsR x y r1) : Op.cmpValue (FP.dcmp r r1) .l = 0 ∨ (¬ Op.cmpValue (FP.dcmp r r) .l = 0 ∧ ¬ Op.cmpValue (FP.dcmp r1 r1) .l = 0) := by
  rcases hs_same h h1 with rfl | ⟨a, b⟩
  · by_cases z : Op.cmpValue (FP.dcmp r r) .l = 0
    · exact Or.inl z
    · exact Or.inr ⟨z, z⟩
  · right
    rw [nan_v a, nan_v b]
    exact ⟨by decide, by decide⟩
set_option maxHeartbeats 4000000 in
set_option maxRecDepth 100000 in
theorem lw_digest {p : Program} {l : Launch} {e : Env} {s : State} {m : MethodId} {args : Array Value} {below : List Frame} {meth : Method} {c : Code} {H : Heap} {locs : List Loc} {cells slots : Nat} {Q : State → Prop} {ls : Array Slot} {b L i : Nat} {xs : Nat → Int32} {D : va_G} {ct : Nat → ClassId} {Z : Nat → Prop} {dc x0 : Nat} {rf : Nat → Nat} {oa : Nat} (hown : s.vm.findClass "RumourCustomsLaw" = some m.cls) (hts : ∀ w ∈ GW, w.before args s = true) (hG : GF D ct Z dc s s.heap) (hX : va_X b L xs s s.heap) (hbl : b < s.heap.size) (hS : va_S (nZ Z) s.heap H locs) (hx : p.tables.exec = Jvm.exec) (hb : c.code = cL_law) (hml : c.maxLocals = 9) (hst : l.stackTraces = false) (hzo : ¬ Zr Z rf oa) (hL : L ≤ 3584) (hi : i + 7 ≤ L) (hbz : Z b) (hW : WI D ct Z dc x0 rf oa H) (hc : cells + 8 ≤ 601024) (hsl : slots + 1039 ≤ 7293034) (hl : lv_has ls 9 [(0, .ref b), (1, .ref x0), (2, .ref (rf 0)), (3, .ref oa), (4, .int (nI i))])
    (kk : ∀ (H1 : Heap) (locs1 : List Loc), va_S (nZ Z) s.heap H1 locs1 → WI D ct Z dc x0 rf oa H1 → ∀ ls, lv_has ls 9 [(0, .ref b), (1, .ref x0), (2, .ref (rf 0)), (3, .ref oa), (4, .int (nI i))] → W p l e room_1 s m args below meth c H1 locs1 (cells + 8) (slots + 1039) Q (F0 m 1589 ls [])) : W p l e room_1 s m args below meth c H locs cells slots Q (F0 m 1575 ls []) := by
  obtain ⟨σ, ad, th, bst, g, hI, rfl, hP, hR, hA⟩ := hW
  refine lv_aload_n hx hb dL_law_1575 rfl (lv_at hl 1 rfl) ?_
  refine c_p1 (va_runV (As := []) (rest := []) ⟨hx, hb, hml, hown, hts⟩ (c_X5_digest l D ct (Zo (Zr Z rf) oa) dc σ ad (fun i hi => (hI.1.2.2.2.1 i hi).2.2.2.2.2) hI.1.1.1 hI.1.1.2) (cwV 0 hts (GG w_204 w_205 w_206 w_59 w_207) rfl rfl rfl (by decide) ⟨Nat.le_of_ble_eq_true rfl, Nat.le_of_ble_eq_true rfl⟩) ⟨(blindT fun _ _ _ _ h => h), Ob.recv (hG.2.1).1 hP.o0 rfl, fun U hU hW => ⟨rfl, hG.2.1.warm hW, by rw [hU]; exact hP⟩⟩ rfl rfl hl.1 rfl (lv_room (Nat.le_of_ble_eq_true rfl)) dL_law_1576 ⟨show _ ≤ 601024 by omega, show _ ≤ 7293034 by omega⟩) ?_
  refine lv_aload_n hx hb dL_law_1579 rfl (lv_at hl 2 rfl) ?_
  have hzq : ∀ q, Z q → Zq H rf q := fun q z => ⟨Nat.lt_of_lt_of_le (hG.1 q z) hS.1, fun i hi z2 => hR.nz hi (Or.inl (by rw [← z2]; exact z))⟩
  refine lw_s1 (Zb := Z) (Z := Zq H rf) hzq (va_runV (As := []) (rest := [.long (digS σ)]) ⟨hx, hb, hml, hown, hts⟩ (c_X6_digest l D ct (Zq H rf) σ th bst rf hI.1) (cwV 0 hts (GG w_1104 w_1105 w_1106 w_65 w_1107) rfl rfl rfl (by decide) ⟨Nat.le_of_ble_eq_true rfl, Nat.le_of_ble_eq_true rfl⟩) ⟨(blindT fun _ _ _ _ h => h), Ob.recv (hG.2.1).1 hR.o rfl, fun U hU hW => ⟨rfl, hG.2.1.warm hW, fun q z => by rw [hU]; exact z.1, by rw [hU]; exact hR.rez (fun i hi z => z.2 i hi rfl)⟩⟩ rfl rfl hl.1 rfl (lv_room (Nat.le_of_ble_eq_true rfl)) dL_law_1580 ⟨show _ ≤ 601024 by omega, show _ ≤ 7293034 by omega⟩) hS (fun x H2 locs2 hQ2 hzz2 hk2 hS2 => ?_)
  obtain ⟨rfl, hR2⟩ := hQ2
  have hP2 := hP.keptZ (fun q h1 h2 => hk2 q h1 ⟨h1, fun i hi z => h2 (Or.inl (Or.inr ⟨i, hi, z⟩))⟩)
  have hA2 := hA.kept (hk2 _ hA.lt ⟨hA.lt, fun i hi z => hzo (Or.inr ⟨i, hi, z⟩)⟩)
  have hR3 := hR2.rez (fun i hi => hR.nz hi)
  refine W.lcmp hx hb dL_law_1583 ?_
  refine lv_if_eq (tgt := 1589) hx hb dL_law_1584 (by decide) (fun _ => ?_) (fun z => absurd (lg_cmp_self _) z)
  exact w_widen (k := cells + 8) (n := slots + 1039) (by omega) (by omega) (kk H2 locs2 hS2 ⟨σ, ad, _, _, g, hI, rfl, hP2, hR3, hA2⟩ ls hl)
set_option maxHeartbeats 4000000 in
set_option maxRecDepth 100000 in
theorem lw_hearsay {p : Program} {l : Launch} {e : Env} {s : State} {m : MethodId} {args : Array Value} {below : List Frame} {meth : Method} {c : Code} {H : Heap} {locs : List Loc} {cells slots : Nat} {Q : State → Prop} {ls : Array Slot} {b L i : Nat} {xs : Nat → Int32} {D : va_G} {ct : Nat → ClassId} {Z : Nat → Prop} {dc x0 : Nat} {rf : Nat → Nat} {oa : Nat} {d0 : Drawn} (hd0 : s.drawn.sameBut d0 lw_cs) (hown : s.vm.findClass "RumourCustomsLaw" = some m.cls) (hts : ∀ w ∈ GW, w.before args s = true) (hG : GF D ct Z dc s s.heap) (hX : va_X b L xs s s.heap) (hbl : b < s.heap.size) (hS : va_S (nZ Z) s.heap H locs) (hx : p.tables.exec = Jvm.exec) (hb : c.code = cL_law) (hml : c.maxLocals = 9) (hst : l.stackTraces = false) (hzo : ¬ Zr Z rf oa) (hL : L ≤ 3584) (hi : i + 7 ≤ L) (hbz : Z b) (hW : WI D ct Z dc x0 rf oa H) (hc : cells + 8 ≤ 601024) (hsl : slots + 1039 ≤ 7293034) (hl : lv_has ls 9 [(0, .ref b), (1, .ref x0), (2, .ref (rf 0)), (3, .ref oa), (4, .int (nI i))])
    (kk : ∀ (d1 : Drawn) (H1 : Heap) (locs1 : List Loc), s.drawn.sameBut d1 lw_cs → va_S (nZ Z) s.heap H1 locs1 → WI D ct Z dc x0 rf oa H1 → ∀ ls, lv_has ls 9 [(0, .ref b), (1, .ref x0), (2, .ref (rf 0)), (3, .ref oa), (4, .int (nI i))] → W p l e room_1 (s.setDrawn d1) m args below meth c H1 locs1 (cells + 8) (slots + 1039) Q (F0 m 1589 ls [])) : W p l e room_1 (s.setDrawn d0) m args below meth c H locs cells slots Q (F0 m 1534 ls []) := by
  obtain ⟨σ, ad, th, bst, g, hI, rfl, hP, hR, hA⟩ := hW
  have hGd : ∀ d, GF D ct Z dc (s.setDrawn d) s.heap := fun d => hG.mv (U := s.setDrawn d) (State.WarmedH.refl s) (va_S.rf (A := nZ Z) (H0 := s.heap))
  have hlt := WI_lt hG hS hR
  refine lv_aload_n hx hb dL_law_1534 rfl (lv_at hl 1 rfl) ?_
  refine lw_s1D (Zb := Z) (Z := Zo (Zr Z rf) oa) hd0 (fun q z => Or.inl (Or.inl z)) (va_runV_D (As := []) (rest := []) ⟨hx, hb, hml, hown, dr_words hts _⟩ (c_X5_hearsay l D ct (Zo (Zr Z rf) oa) dc σ ad) (cwV 0 (dr_words hts _) (GG w_181 w_182 w_183 w_59 w_184) rfl rfl rfl (by decide) ⟨Nat.le_of_ble_eq_true rfl, Nat.le_of_ble_eq_true rfl⟩) ⟨(blindT fun _ _ _ _ h => h), Ob.recv (hGd _).2.1.1 hP.o0 rfl, fun U hU hW => ⟨rfl, (hGd d0).2.1.warm hW, by rw [hU]; exact hP⟩⟩ rfl rfl hl.1 rfl (lv_room (Nat.le_of_ble_eq_true rfl)) dL_law_1535 ⟨show _ ≤ 601024 by omega, show _ ≤ 7293034 by omega⟩) hS (fun x H1 locs1 d1 hd1 hQ hzz hk1 hS1 => ?_)
  obtain ⟨r, rfl, hr1, hP1⟩ := hQ
  have hR1 := hR.keptZ (fun i hi => hk1 _ (hR.lt5 hi) (Or.inl (Or.inr ⟨i, hi, rfl⟩)))
  have hA1 := hA.kept (hk1 _ hA.lt (Or.inr rfl))
  have hzq : ∀ q, Z q → Zq H1 rf q := fun q z => ⟨Nat.lt_of_lt_of_le (hG.1 q z) hS1.1, fun i hi z2 => hR.nz hi (Or.inl (by rw [← z2]; exact z))⟩
  refine lv_dstore (lv' := [(5, .double r), (0, .ref b), (1, .ref (ad 0)), (2, .ref (rf 0)), (3, .ref oa), (4, .int (nI i))]) hx hb dL_law_1538 hl (by decide) rfl (fun ls hl => ?_)
  refine lv_aload_n hx hb dL_law_1540 rfl (lv_at hl 3 rfl) ?_
  refine lw_s1D (Zb := Z) (Z := Zq H1 rf) hd1 hzq (va_runV_D (As := []) (rest := []) ⟨hx, hb, hml, hown, dr_words hts _⟩ (c_X6_hearsay l D ct (Zq H1 rf) σ th bst rf hI.1) (cwV 0 (dr_words hts _) (GG w_1100 w_1101 w_1102 w_65 w_1103) rfl rfl rfl (by decide) ⟨Nat.le_of_ble_eq_true rfl, Nat.le_of_ble_eq_true rfl⟩) ⟨(blindT fun _ _ _ _ h => h), Ob.recv (hGd _).2.1.1 hR1.o rfl, fun U hU hW => ⟨rfl, (hGd d1).2.1.warm hW, fun q z => by rw [hU]; exact z.1, by rw [hU]; exact hR1.rez (fun i hi z => z.2 i hi rfl)⟩⟩ rfl rfl hl.1 rfl (lv_room (Nat.le_of_ble_eq_true rfl)) dL_law_1541 ⟨show _ ≤ 601024 by omega, show _ ≤ 7293034 by omega⟩) hS1 (fun x H2 locs2 d2 hd2 hQ2 hzz2 hk2 hS2 => ?_)
  obtain ⟨r1, rfl, hr2, hR2⟩ := hQ2
  have hP2 := hP1.keptZ (fun q h1 h2 => hk2 q h1 ⟨h1, fun i hi z => h2 (Or.inl (Or.inr ⟨i, hi, z⟩))⟩)
  have hA2 := hA1.kept (hk2 _ hA1.lt ⟨hA1.lt, fun i hi z => hzo (Or.inr ⟨i, hi, z⟩)⟩)
  have hR3 := hR2.rez (fun i hi => hR.nz hi)
  refine lv_dstore (lv' := [(7, .double r1), (5, .double r), (0, .ref b), (1, .ref (ad 0)), (2, .ref (rf 0)), (3, .ref oa), (4, .int (nI i))]) hx hb dL_law_1544 hl (by decide) rfl (fun ls hl => ?_)
  have kend : W p l e room_1 (s.setDrawn d2) m args below meth c H2 locs2 (cells + 0 + 0) (slots + 0 + 0) Q (F0 m 1589 ls []) := w_widen (k := cells + 8) (n := slots + 1039) (by omega) (by omega) (kk d2 H2 locs2 hd2 hS2 ⟨σ, ad, _, _, g, hI, rfl, hP2, hR3, hA2⟩ ls (lv_sub hl [2, 3, 4, 5, 6] rfl))
  have hcmp := hs_cmp hr1 hr2
  refine lv_dload hx hb dL_law_1546 (lv_at hl 1 rfl) ?_
  refine lv_dload hx hb dL_law_1548 (lv_at hl 0 rfl) ?_
  refine lv_dcmp hx hb dL_law_1550 ?_
  refine lv_if_eq (tgt := 1572) hx hb dL_law_1551 (by decide) (fun _ => ?_) (fun z => ?_)
  · refine lv_goto (tgt := 1589) hx hb dL_law_1572 (by decide) ?_
    exact kend
  · obtain ⟨z1, z2⟩ := hcmp.resolve_left z
    refine lv_dload hx hb dL_law_1554 (lv_at hl 1 rfl) ?_
    refine lv_dload hx hb dL_law_1556 (lv_at hl 1 rfl) ?_
    refine lv_dcmp hx hb dL_law_1558 ?_
    refine lv_if_eq (tgt := 1570) hx hb dL_law_1559 (by decide) (fun z => absurd z z1) (fun _ => ?_)
    refine lv_dload hx hb dL_law_1562 (lv_at hl 0 rfl) ?_
    refine lv_dload hx hb dL_law_1564 (lv_at hl 0 rfl) ?_
    refine lv_dcmp hx hb dL_law_1566 ?_
    refine lv_if_ne (tgt := 1572) hx hb dL_law_1567 (by decide) (fun _ => ?_) (fun z => absurd z z2)
    refine lv_goto (tgt := 1589) hx hb dL_law_1572 (by decide) ?_
    exact kend
/-- the number of the case -/
theorem sw_case (v : Int32) : (∃ n, n ≤ 20 ∧ v = nI n) ∨ v.toInt < 0 ∨ 20 < v.toInt := by
  by_cases h0 : v.toInt < 0
  · exact Or.inr (Or.inl h0)
  · by_cases h1 : 20 < v.toInt
    · exact Or.inr (Or.inr h1)
    · refine Or.inl ⟨v.toInt.toNat, by omega, Int32.toInt_inj.mp ?_⟩
      rw [nI_toInt (by omega)]
      omega
set_option maxHeartbeats 4000000 in
set_option maxRecDepth 100000 in
/-- one turn of the loop, from behind the switch's number to the loop's step -/
theorem lw_turn {p : Program} {l : Launch} {e : Env} {s : State} {m : MethodId} {args : Array Value} {below : List Frame} {meth : Method} {c : Code} {H : Heap} {locs : List Loc} {cells slots : Nat} {Q : State → Prop} {ls : Array Slot} {b L i : Nat} {xs : Nat → Int32} {D : va_G} {ct : Nat → ClassId} {Z : Nat → Prop} {dc x0 : Nat} {rf : Nat → Nat} {oa : Nat} {d0 : Drawn} (hd0 : s.drawn.sameBut d0 lw_cs) (hown : s.vm.findClass "RumourCustomsLaw" = some m.cls) (hts : ∀ w ∈ GW, w.before args s = true) (hG : GF D ct Z dc s s.heap) (hX : va_X b L xs s s.heap) (hbl : b < s.heap.size) (hS : va_S (nZ Z) s.heap H locs) (hx : p.tables.exec = Jvm.exec) (hb : c.code = cL_law) (hml : c.maxLocals = 9) (hst : l.stackTraces = false) (hzo : ¬ Zr Z rf oa) (hL : L ≤ 3584) (hi : i + 7 ≤ L) (hbz : Z b) (hW : WI D ct Z dc x0 rf oa H) (hc : cells + 8 ≤ 601024) (hsl : slots + 1039 ≤ 7293034) (hl : lv_has ls 9 [(0, .ref b), (1, .ref x0), (2, .ref (rf 0)), (3, .ref oa), (4, .int (nI i))]) {v : Int32}
    (kk : ∀ (d1 : Drawn) (H1 : Heap) (locs1 : List Loc), s.drawn.sameBut d1 lw_cs → va_S (nZ Z) s.heap H1 locs1 → WI D ct Z dc x0 rf oa H1 → ∀ ls, lv_has ls 9 [(0, .ref b), (1, .ref x0), (2, .ref (rf 0)), (3, .ref oa), (4, .int (nI i))] → W p l e room_1 (s.setDrawn d1) m args below meth c H1 locs1 (cells + 8) (slots + 1039) Q (F0 m 1589 ls [])) : W p l e room_1 (s.setDrawn d0) m args below meth c H locs cells slots Q (F0 m 40 ls [.int v]) := by
  have hGd : ∀ d, GF D ct Z dc (s.setDrawn d) (s.setDrawn d).heap := fun d => hG.mv (U := s.setDrawn d) (State.WarmedH.refl s) (va_S.rf (A := nZ Z) (H0 := s.heap))
  have kd := fun (H1 : Heap) (locs1 : List Loc) (h1 : va_S (nZ Z) s.heap H1 locs1) (h2 : WI D ct Z dc x0 rf oa H1) => kk d0 H1 locs1 hd0 h1 h2
  rcases sw_case v with ⟨n, hn, rfl⟩ | hv
  · rcases (show n = 0 ∨ n = 1 ∨ n = 2 ∨ n = 3 ∨ n = 4 ∨ n = 5 ∨ n = 6 ∨ n = 7 ∨ n = 8 ∨ n = 9 ∨ n = 10 ∨ n = 11 ∨ n = 12 ∨ n = 13 ∨ n = 14 ∨ n = 15 ∨ n = 16 ∨ n = 17 ∨ n = 18 ∨ n = 19 ∨ n = 20 by omega) with rfl | rfl | rfl | rfl | rfl | rfl | rfl | rfl | rfl | rfl | rfl | rfl | rfl | rfl | rfl | rfl | rfl | rfl | rfl | rfl | rfl
    · refine lv_tableIn (off := 100) (tgt := 140) hx hb dL_law_40 (by decide) (by decide) rfl (by decide) ?_
      exact lw_addTown (s := s.setDrawn d0) hown (dr_words hts _) (hGd d0) hX hbl hS hx hb hml hst hzo hL hi hbz hW hc hsl hl kd
    · refine lv_tableIn (off := 144) (tgt := 184) hx hb dL_law_40 (by decide) (by decide) rfl (by decide) ?_
      exact lw_build (s := s.setDrawn d0) hown (dr_words hts _) (hGd d0) hX hbl hS hx hb hml hst hzo hL hi hbz hW hc hsl hl kd
    · refine lv_tableIn (off := 262) (tgt := 302) hx hb dL_law_40 (by decide) (by decide) rfl (by decide) ?_
      exact lw_road (s := s.setDrawn d0) hown (dr_words hts _) (hGd d0) hX hbl hS hx hb hml hst hzo hL hi hbz hW hc hsl hl kd
    · refine lv_tableIn (off := 342) (tgt := 382) hx hb dL_law_40 (by decide) (by decide) rfl (by decide) ?_
      exact lw_makeUp (s := s.setDrawn d0) hown (dr_words hts _) (hGd d0) hX hbl hS hx hb hml hst hzo hL hi hbz hW hc hsl hl kd
    · refine lv_tableIn (off := 422) (tgt := 462) hx hb dL_law_40 (by decide) (by decide) rfl (by decide) ?_
      exact lw_rumour (s := s.setDrawn d0) hown (dr_words hts _) (hGd d0) hX hbl hS hx hb hml hst hzo hL hi hbz hW hc hsl hl kd
    · refine lv_tableIn (off := 490) (tgt := 530) hx hb dL_law_40 (by decide) (by decide) rfl (by decide) ?_
      exact lw_town (s := s.setDrawn d0) hown (dr_words hts _) (hGd d0) hX hbl hS hx hb hml hst hzo hL hi hbz hW hc hsl hl kd
    · refine lv_tableIn (off := 558) (tgt := 598) hx hb dL_law_40 (by decide) (by decide) rfl (by decide) ?_
      exact lw_heard (s := s.setDrawn d0) hown (dr_words hts _) (hGd d0) hX hbl hS hx hb hml hst hzo hL hi hbz hW hc hsl hl kd
    · refine lv_tableIn (off := 626) (tgt := 666) hx hb dL_law_40 (by decide) (by decide) rfl (by decide) ?_
      exact lw_addCarrier (s := s.setDrawn d0) hown (dr_words hts _) (hGd d0) hX hbl hS hx hb hml hst hzo hL hi hbz hW hc hsl hl kd
    · refine lv_tableIn (off := 694) (tgt := 734) hx hb dL_law_40 (by decide) (by decide) rfl (by decide) ?_
      exact lw_take (s := s.setDrawn d0) hown (dr_words hts _) (hGd d0) hX hbl hS hx hb hml hst hzo hL hi hbz hW hc hsl hl kd
    · refine lv_tableIn (off := 762) (tgt := 802) hx hb dL_law_40 (by decide) (by decide) rfl (by decide) ?_
      exact lw_leave (s := s.setDrawn d0) hown (dr_words hts _) (hGd d0) hX hbl hS hx hb hml hst hzo hL hi hbz hW hc hsl hl kd
    · refine lv_tableIn (off := 830) (tgt := 870) hx hb dL_law_40 (by decide) (by decide) rfl (by decide) ?_
      exact lw_hide (s := s.setDrawn d0) hown (dr_words hts _) (hGd d0) hX hbl hS hx hb hml hst hzo hL hi hbz hW hc hsl hl kd
    · refine lv_tableIn (off := 926) (tgt := 966) hx hb dL_law_40 (by decide) (by decide) rfl (by decide) ?_
      exact lw_tell (s := s.setDrawn d0) hown (dr_words hts _) (hGd d0) hX hbl hS hx hb hml hst hzo hL hi hbz hW hc hsl hl kd
    · refine lv_tableIn (off := 994) (tgt := 1034) hx hb dL_law_40 (by decide) (by decide) rfl (by decide) ?_
      exact lw_go (s := s.setDrawn d0) hown (dr_words hts _) (hGd d0) hX hbl hS hx hb hml hst hzo hL hi hbz hW hc hsl hl kd
    · refine lv_tableIn (off := 1074) (tgt := 1114) hx hb dL_law_40 (by decide) (by decide) rfl (by decide) ?_
      exact lw_carrier (s := s.setDrawn d0) hown (dr_words hts _) (hGd d0) hX hbl hS hx hb hml hst hzo hL hi hbz hW hc hsl hl kd
    · refine lv_tableIn (off := 1142) (tgt := 1182) hx hb dL_law_40 (by decide) (by decide) rfl (by decide) ?_
      exact lw_wouldPay (s := s.setDrawn d0) hown (dr_words hts _) (hGd d0) hX hbl hS hx hb hml hst hzo hL hi hbz hW hc hsl hl kd
    · refine lv_tableIn (off := 1222) (tgt := 1262) hx hb dL_law_40 (by decide) (by decide) rfl (by decide) ?_
      exact lw_pass (s := s.setDrawn d0) hown (dr_words hts _) (hGd d0) hX hbl hS hx hb hml hst hzo hL hi hbz hW hc hsl hl kd
    · refine lv_tableIn (off := 1278) (tgt := 1318) hx hb dL_law_40 (by decide) (by decide) rfl (by decide) ?_
      exact lw_count (s := s.setDrawn d0) hown (dr_words hts _) (hGd d0) hX hbl hS hx hb hml hst hzo hL hi hbz hW hc hsl hl kd
    · refine lv_tableIn (off := 1334) (tgt := 1374) hx hb dL_law_40 (by decide) (by decide) rfl (by decide) ?_
      exact lw_cheapest (s := s.setDrawn d0) hown (dr_words hts _) (hGd d0) hX hbl hS hx hb hml hst hzo hL hi hbz hW hc hsl hl kd
    · refine lv_tableIn (off := 1426) (tgt := 1466) hx hb dL_law_40 (by decide) (by decide) rfl (by decide) ?_
      exact lw_spread (s := s.setDrawn d0) hown (dr_words hts _) (hGd d0) hX hbl hS hx hb hml hst hzo hL hi hbz hW hc hsl hl kd
    · refine lv_tableIn (off := 1494) (tgt := 1534) hx hb dL_law_40 (by decide) (by decide) rfl (by decide) ?_
      exact lw_hearsay hd0 hown hts hG hX hbl hS hx hb hml hst hzo hL hi hbz hW hc hsl hl kk
    · refine lv_tableIn (off := 1535) (tgt := 1575) hx hb dL_law_40 (by decide) (by decide) rfl (by decide) ?_
      exact lw_digest (s := s.setDrawn d0) hown (dr_words hts _) (hGd d0) hX hbl hS hx hb hml hst hzo hL hi hbz hW hc hsl hl kd
  · refine lv_tableOut (tgt := 1589) hx hb dL_law_40 hv (by decide) ?_
    exact w_widen (k := cells + 8) (n := slots + 1039) (by omega) (by omega) (kd H locs hS hW ls hl)
end LAW3
