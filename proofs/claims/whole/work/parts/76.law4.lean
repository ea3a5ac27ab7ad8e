/-! WHAT HOLDS AT THE LAW'S ENTRY; the loop; the start -/
section LAW4
theorem tw {w : Cond} (i : Nat) (h : lw_tbl[i]? = some w) : w ∈ lw_tbl := List.mem_of_getElem? h
theorem nw {args : Array Value} {s : State} (hgv : (Jvm.Cond.and given_1 narrow_1).before args s = true) {w : Cond} (i : Nat) (h : (flatC (Jvm.Cond.and given_1 narrow_1))[i]? = some w) : w.before args s = true := flat_of_before _ hgv w (List.mem_of_getElem? h)
/-- the array of nothing -/
theorem lw_ae {args : Array Value} {s : State} {T : Term} {cO : ClassId} (hcO : s.vm.findClass "[Ljava/lang/Object;" = some cO) (h5 : (Cond.eq (.length T) (.int 0)).before args s = true) (h4 : (Cond.exactly T "[Ljava/lang/Object;").before args s = true) : ∃ dc : Nat, T.eval args s none [] s = some (.ref dc) ∧ Ae cO dc s.heap ∧ dc < s.heap.size := by
  have hl := va_eqt h5
  obtain ⟨a, cell, ht, hat, hv⟩ := Term.length_spec hl
  obtain ⟨hcell, -, hst, -⟩ := State.arrayAt?_spec hat
  obtain ⟨a2, c2, cell2, k2, ht2, hc2, hcell2, hk2, hst2, hcls, -⟩ := Cond.exactly_spec h4
  cases ht.symm.trans ht2
  cases hcell.symm.trans hcell2
  cases hcO.symm.trans hc2
  refine ⟨a, ht, ⟨cell, hcell, hcls, ?_, hst⟩, (Array.getElem?_eq_some_iff.mp hcell).1⟩
  simp only [Term.eval, ht, Option.bind_eq_bind, Option.bind_some, hat] at hl
  by_cases hs : cell.slots.size < 2 ^ 31
  · have h0 := Value.int.inj hv
    exact ((nI_eq (a := 0) (b := cell.slots.size) (by decide) hs).mp h0).symm
  · rw [if_neg hs] at hl
    cases hl

theorem lw_strR {args : Array Value} {s : State} {own tx : String} {k a : Nat} (h1 : (Cond.stringRef own k tx).before args s = true) (h2 : (Term.string own k).eval args s none [] s = some (.ref a)) : vk_R own k tx a s := vk_R.of (A := args) h1 h2

set_option maxRecDepth 40000 in
set_option maxHeartbeats 4000000 in
theorem lw_strs {args : Array Value} {s : State} (hts : ∀ w ∈ lw_tbl, w.before args s = true) (hgv : (Jvm.Cond.and given_1 narrow_1).before args s = true) : ∀ q ∈ strs, ∃ sa, vk_R "RumourCustoms" q.1 q.2 sa s := by
  have key : ∀ (k : Nat) (tx : String), (Cond.stringRef "RumourCustoms" k tx).before args s = true → (Cond.exactly (.string "RumourCustoms" k) "java/lang/String").before args s = true → ∃ sa, vk_R "RumourCustoms" k tx sa s := fun k tx h1 h2 => by
    obtain ⟨a, c, cell, kk, h3, h4⟩ := Cond.exactly_spec h2
    exact ⟨a, lw_strR h1 h3⟩
  intro q hq
  simp only [strs, List.mem_cons, List.not_mem_nil, or_false] at hq
  rcases hq with rfl | rfl | rfl | rfl | rfl | rfl | rfl | rfl | rfl | rfl | rfl | rfl | rfl | rfl | rfl | rfl | rfl
  · exact key 41 "there are 10 towns" (hts _ (tw 331 rfl)) (nw hgv 53 rfl)
  · exact key 272 "there is no such town" (hts _ (tw 380 rfl)) (nw hgv 75 rfl)
  · exact key 52 "a road is between two towns" (hts _ (tw 396 rfl)) (nw hgv 101 rfl)
  · exact key 265 "a number is out of its limits" (hts _ (tw 406 rfl)) (nw hgv 134 rfl)
  · exact key 63 "there is a road between them" (hts _ (tw 407 rfl)) (nw hgv 170 rfl)
  · exact key 269 "there is no such thing to tell" (hts _ (tw 451 rfl)) (nw hgv 206 rfl)
  · exact key 89 "there are 60 rumours" (hts _ (tw 459 rfl)) (nw hgv 245 rfl)
  · exact key 274 "there is no such rumour" (hts _ (tw 569 rfl)) (nw hgv 275 rfl)
  · exact key 128 "there are 8 carriers" (hts _ (tw 618 rfl)) (nw hgv 309 rfl)
  · exact key 276 "there is no such carrier" (hts _ (tw 656 rfl)) (nw hgv 341 rfl)
  · exact key 282 "the carrier is on the way" (hts _ (tw 660 rfl)) (nw hgv 378 rfl)
  · exact key 146 "the rumour is not in the same town" (hts _ (tw 661 rfl)) (nw hgv 417 rfl)
  · exact key 152 "6 rumours are in the bag" (hts _ (tw 662 rfl)) (nw hgv 466 rfl)
  · exact key 288 "the carrier does not have the rumour" (hts _ (tw 681 rfl)) (nw hgv 506 rfl)
  · exact key 174 "the depth would be 100" (hts _ (tw 700 rfl)) (nw hgv 559 rfl)
  · exact key 182 "there is no road" (hts _ (tw 708 rfl)) (nw hgv 599 rfl)
  · exact key 191 "the purse does not hold what is owed" (hts _ (tw 726 rfl)) (nw hgv 634 rfl)

set_option maxRecDepth 40000 in
set_option maxHeartbeats 4000000 in
/-- what every call sees -/
theorem lw_GT {args : Array Value} {s : State} (hts0 : ∀ w ∈ lw_tbl, w.before args s = true) (hgv : (Jvm.Cond.and given_1 narrow_1).before args s = true) : ∃ (D : va_G) (ct : Nat → ClassId), GT D ct s ∧ s.vm.findClass "[Ljava/lang/Object;" = some (ct 3) := by
  have hts : ∀ w ∈ GW, w.before args s = true := fun w h => hts0 w (gwt w h)
  obtain ⟨c0, iS0, hKn0⟩ := u_known (C := RJx4a65c) (T := TJx4a65c) (N := 3) (n := 3) hts inGJx4a65c (hts _ w_122)
  obtain ⟨c1, iS1, hKn1⟩ := u_known (C := RX0) (T := TX0) (N := 5) (n := 5) hts inGX0 (hts _ w_619)
  obtain ⟨c2, iS2, hKn2⟩ := u_known (C := RX1) (T := TX1) (N := 6) (n := 6) hts inGX1 (hts _ w_409)
  obtain ⟨c3, iS3, hKn3⟩ := u_known (C := RX2) (T := TX2) (N := 1) (n := 1) hts inGX2 (hts _ w_92)
  obtain ⟨c4, iS4, hKn4⟩ := u_known (C := RX3) (T := TX3) (N := 8) (n := 8) hts inGX3 (hts _ w_460)
  obtain ⟨c5, iS5, hKn5⟩ := u_known (C := RX4) (T := TX4) (N := 3) (n := 3) hts inGX4 (hts _ w_104)
  obtain ⟨c6, iS6, hKn6⟩ := u_known (C := RX5) (T := TX5) (N := 11) (n := 11) hts inGX5 (hts _ w_84)
  obtain ⟨c7, iS7, hKn7⟩ := u_known (C := RX6) (T := TX6) (N := 14) (n := 14) hts inGX6 (hts _ w_867)
  obtain ⟨D, hKc⟩ : ∃ D : va_G, ∀ (k : Nat) (q : vw_C), vwCl[k]? = some q → u_Kn s q.1 q.2.1 q.2.2 (D.1 k) (D.2 k) := by
    refine ⟨(fun k => match k with | 0 => c0 | 1 => c1 | 2 => c2 | 3 => c3 | 4 => c4 | 5 => c5 | 6 => c6 | _ => c7, fun k => match k with | 0 => iS0 | 1 => iS1 | 2 => iS2 | 3 => iS3 | 4 => iS4 | 5 => iS5 | 6 => iS6 | _ => iS7), ?_⟩
    intro k q hq
    match k, hq with
    | 0, hq => cases hq; exact hKn0
    | 1, hq => cases hq; exact hKn1
    | 2, hq => cases hq; exact hKn2
    | 3, hq => cases hq; exact hKn3
    | 4, hq => cases hq; exact hKn4
    | 5, hq => cases hq; exact hKn5
    | 6, hq => cases hq; exact hKn6
    | 7, hq => cases hq; exact hKn7
    | k + 8, hq => simp [vwCl] at hq
  obtain ⟨aI, kI, mI, i1, i2, i3⟩ := Cond.arrayClass_spec (hts _ w_119)
  obtain ⟨aZ, kZ, mZ, z1, z2, z3⟩ := Cond.arrayClass_spec (hts _ w_120)
  obtain ⟨aJ, kJ, mJ, j1, j2, j3⟩ := Cond.arrayClass_spec (hts _ w_915)
  obtain ⟨mR, aR, kR, r1, -, r2, r3, r4⟩ := Cond.arrayOver_spec (hts0 (.arrayOver (.object "RumourCustoms$Road")) (tw 98 rfl))
  obtain ⟨mO, aO, kO, o1, -, o2, o3, o4⟩ := Cond.arrayOver_spec (hts0 (.arrayOver (.object "java/lang/Object")) (tw 548 rfl))
  have hAr : ∀ {c : ClassId} {kk : Class} {comp : ClassId} {ty : FieldType}, s.vm.classes[c]? = some kk → kk.kind = .array comp ty → ArrOfT s c ty := fun h1 h2 n z => ⟨fun k h => (by cases h), _, h1, _, h2⟩
  obtain ⟨mi, hmi⟩ := va_Mi.of (nw hgv 52 rfl : (Cond.isRef (.mirror "[Ljava/lang/Object;")).before args s = true)
  refine ⟨D, fun k => match k with | 0 => aI | 1 => aZ | 2 => aR | 3 => aO | _ => aJ, ⟨⟨hKc, ?_⟩, lw_strs hts0 hgv, va_Nw.of rfl (hts0 _ (tw 1120 rfl)), va_Nw.of rfl (hts0 _ (tw 1121 rfl)), ?_, ?_, ?_, va_Dc.of (hts0 _ (tw 1126 rfl)), va_AO.of (hts0 _ (tw 548 rfl)), va_AO.of (hts0 _ (tw 98 rfl)), mi, hmi⟩, o4⟩
  · intro k q hq
    match k, hq with
    | 0, hq => cases hq; exact ⟨hAr i2 i3, i1⟩
    | 1, hq => cases hq; exact ⟨hAr z2 z3, z1⟩
    | 2, hq => cases hq; exact ⟨hAr r2 r3, kR, mR, r2, r3, r1, r4⟩
    | 3, hq => cases hq; exact ⟨hAr o2 o3, kO, mO, o2, o3, o1, o4⟩
    | 4, hq => cases hq; exact ⟨hAr j2 j3, j1⟩
    | k + 5, hq => simp [tys5] at hq
  · intro E hE
    simp only [e3, List.mem_cons, List.not_mem_nil, or_false] at hE
    rcases hE with rfl | rfl | rfl
    · exact va_Nw.of rfl (hts0 _ (tw 292 rfl))
    · exact va_Nw.of rfl (hts0 _ (tw 389 rfl))
    · exact va_Nw.of rfl (hts0 _ (tw 373 rfl))
  · intro y hy
    simp only [d3, List.mem_cons, List.not_mem_nil, or_false] at hy
    rcases hy with rfl | rfl | rfl
    · exact va_Nw.of rfl (hts0 _ (tw 294 rfl))
    · exact va_Nw.of rfl (hts0 _ (tw 296 rfl))
    · exact va_Nw.of rfl (hts0 _ (tw 298 rfl))
  · intro E hE F hF hEF
    simp only [e3, List.mem_cons, List.not_mem_nil, or_false] at hE hF
    rcases hE with rfl | rfl | rfl <;> rcases hF with rfl | rfl | rfl
    · exact absurd rfl hEF
    · exact va_Nc.of (nw hgv 35 rfl : (Cond.not (.castable "java/lang/IllegalStateException" "java/lang/IllegalArgumentException")).before args s = true)
    · exact va_Nc.of (nw hgv 25 rfl : (Cond.not (.castable "java/lang/IllegalStateException" "java/lang/IndexOutOfBoundsException")).before args s = true)
    · exact va_Nc.of (nw hgv 16 rfl : (Cond.not (.castable "java/lang/IllegalArgumentException" "java/lang/IllegalStateException")).before args s = true)
    · exact absurd rfl hEF
    · exact va_Nc.of (nw hgv 26 rfl : (Cond.not (.castable "java/lang/IllegalArgumentException" "java/lang/IndexOutOfBoundsException")).before args s = true)
    · exact va_Nc.of (nw hgv 15 rfl : (Cond.not (.castable "java/lang/IndexOutOfBoundsException" "java/lang/IllegalStateException")).before args s = true)
    · exact va_Nc.of (nw hgv 36 rfl : (Cond.not (.castable "java/lang/IndexOutOfBoundsException" "java/lang/IllegalArgumentException")).before args s = true)
    · exact absurd rfl hEF

set_option maxRecDepth 40000 in
set_option maxHeartbeats 4000000 in
theorem lw_GF {args : Array Value} {s : State} (hts0 : ∀ w ∈ lw_tbl, w.before args s = true) (hgv : (Jvm.Cond.and given_1 narrow_1).before args s = true) : ∃ (D : va_G) (ct : Nat → ClassId) (dc : Nat), GF D ct (fun q => q < s.heap.size) dc s s.heap := by
  have hts : ∀ w ∈ GW, w.before args s = true := fun w h => hts0 w (gwt w h)
  obtain ⟨D, ct, hT, hO⟩ := lw_GT hts0 hgv
  obtain ⟨dc, hev, hae, hlt⟩ := lw_ae hO (nw hgv 7 rfl : (Cond.eq (.length (Term.static "java/util/ArrayList" "DEFAULTCAPACITY_EMPTY_ELEMENTDATA" "[Ljava/lang/Object;")) (.int 0)).before args s = true) (nw hgv 6 rfl)
  have hA : ∀ a : Nat, a < s.heap.size → ¬ nZ (fun q => q < s.heap.size) a := fun a h z => z h
  exact ⟨D, ct, dc, fun q h => h, hT, vx_Zqof (hts0 _ (tw 317 rfl)) (hts _ w_66) (nw hgv 8 rfl) hA, vx_Zqof (hts0 _ (tw 319 rfl)) (hts _ w_66) (nw hgv 9 rfl) hA, va_Zof (hts0 _ (tw 134 rfl)) (hts _ w_64) hev hA, hlt, hae⟩

theorem le7 {L i : Nat} (hL : L ≤ 3584) (hi : i ≤ L) (h : ¬ Int32.ofNat L - 7 < nI i) : i + 7 ≤ L := by
  by_cases h7 : 7 ≤ L
  · have e : Int32.ofNat L - 7 = nI (L - 7) := by
      have q := nI_add (L - 7) 7
      rw [Nat.sub_add_cancel h7] at q
      show nI L - 7 = nI (L - 7)
      rw [← q]
      exact Int32.add_sub_cancel _ _
    rw [e] at h
    have := mt (nI_ltI (a := L - 7) (b := i) (by omega) (by omega)).mpr h
    omega
  · exfalso
    apply h
    rw [Int32.lt_iff_toInt_lt, nI_toInt (by omega)]
    rcases (show L = 0 ∨ L = 1 ∨ L = 2 ∨ L = 3 ∨ L = 4 ∨ L = 5 ∨ L = 6 by omega) with rfl | rfl | rfl | rfl | rfl | rfl | rfl
    · rw [show (Int32.ofNat 0 - 7).toInt = -7 by decide]; omega
    · rw [show (Int32.ofNat 1 - 7).toInt = -6 by decide]; omega
    · rw [show (Int32.ofNat 2 - 7).toInt = -5 by decide]; omega
    · rw [show (Int32.ofNat 3 - 7).toInt = -4 by decide]; omega
    · rw [show (Int32.ofNat 4 - 7).toInt = -3 by decide]; omega
    · rw [show (Int32.ofNat 5 - 7).toInt = -2 by decide]; omega
    · rw [show (Int32.ofNat 6 - 7).toInt = -1 by decide]; omega
set_option maxHeartbeats 4000000 in
set_option maxRecDepth 100000 in
/-- the loop -/
theorem lw_loop {p : Program} {l : Launch} {e : Env} {s : State} {m : MethodId} {below : List Frame} {meth : Method} {c : Code} {b L : Nat} {xs : Nat → Int32} {D : va_G} {ct : Nat → ClassId} {dc x0 : Nat} {rf : Nat → Nat} {oa : Nat}
    (hx : p.tables.exec = Jvm.exec) (hb : c.code = cL_law) (hml : c.maxLocals = 9) (hr : meth.sig.returnType = ret) (hlocks : meth.locks = false) (hst : l.stackTraces = false) (hown : s.vm.findClass "RumourCustomsLaw" = some m.cls) (hts : ∀ w ∈ GW, w.before #[Value.ref b] s = true) (hG : GF D ct (fun q => q < s.heap.size) dc s s.heap) (hzo : ¬ Zr (fun q => q < s.heap.size) rf oa) (hL : L ≤ 3584) (hX : va_X b L xs s s.heap) (hbl : b < s.heap.size) :
    ∀ (n i : Nat) (d0 : Drawn) (H : Heap) (locs : List Loc) (cells slots : Nat) (ls : Array Slot), s.drawn.sameBut d0 lw_cs → i ≤ L → L < i + n → va_S (nZ (fun q => q < s.heap.size)) s.heap H locs → WI D ct (fun q => q < s.heap.size) dc x0 rf oa H → cells ≤ 14 + 8 * i → slots ≤ 1468 + 1039 * i → lv_has ls 9 [(0, .ref b), (1, .ref x0), (2, .ref (rf 0)), (3, .ref oa), (4, .int (nI i))] →
      W p l e room_1 (s.setDrawn d0) m #[Value.ref b] below meth c H locs cells slots (lw_Z below #[Value.ref b] s) (F0 m 23 ls []) := by
  intro n
  induction n with
  | zero => intro i d0 H locs cells slots ls _ h1 h2; exact absurd h2 (by omega)
  | succ n ih =>
    intro i d0 H locs cells slots ls hd0 hi hn hS hW hc hsl hl
    have hbA : ¬ nZ (fun q => q < s.heap.size) b := fun z => z hbl
    refine lv_iload hx hb dL_law_23 (lv_at hl 4 rfl) ?_
    refine lv_aload_n hx hb dL_law_25 rfl (lv_at hl 0 rfl) ?_
    refine va_slen (s := s.setDrawn d0) hx hb hX hbl hbA hS dL_law_26 ?_
    refine lv_bipush (v := 7) hx hb dL_law_27 (by decide) ?_
    refine lv_isub hx hb dL_law_29 ?_
    refine lv_icmp_gt (tgt := 1595) hx hb dL_law_30 (by decide) (fun _ => ?_) (fun z => ?_)
    · refine lv_iconst (v := 1) hx hb dL_law_1595 (by decide) ?_
      refine va_forget (s := s.setDrawn d0) (fun q hq => Nat.not_lt.mp (hS.2.2 q hq)) ?_
      refine w_widen (k := 601024) (n := 7293034) (by omega) (by omega) ?_
      exact lw_ret hd0 hx hb hr hlocks dL_law_1596
    · have hi7 := le7 hL hi z
      refine lv_aload_n hx hb dL_law_33 rfl (lv_at hl 0 rfl) ?_
      refine lv_iload hx hb dL_law_34 (lv_at hl 4 rfl) ?_
      refine va_sld (s := s.setDrawn d0) hx hb hX hbl hbA hS (vp_in_nI (by omega) (by omega)) dL_law_36 ?_
      refine lv_bipush (v := 31) hx hb dL_law_37 (by decide) ?_
      refine lv_iand hx hb dL_law_39 ?_
      refine lw_turn hd0 hown hts hG hX hbl hS hx hb hml hst hzo hL hi7 hbl hW (by omega) (by omega) hl (fun d1 H1 locs1 hd1 hS1 hW1 ls hl => ?_)
      refine lv_iinc (v := nI (i + 7)) (lv' := [(4, .int (nI (i + 7))), (0, .ref b), (1, .ref x0), (2, .ref (rf 0)), (3, .ref oa)]) hx hb dL_law_1589 hl (k := 4) rfl (nI_add i 7) (by decide) rfl (fun ls hl => ?_)
      refine lv_goto (tgt := 23) hx hb dL_law_1592 (by decide) ?_
      exact ih (i + 7) d1 H1 locs1 _ _ ls hd1 hi7 (by omega) hS1 hW1 (by omega) (by omega) (lv_sub hl [1, 2, 3, 4, 0] rfl)
theorem lw_s0 {p : Program} {l : Launch} {e : Env} {R : Room} {s : State} {m : MethodId} {args : Array Value} {below : List Frame} {meth : Method} {c : Code} {H : Heap} {locs : List Loc} {cells slots : Nat} {Q : State → Prop} {pc : Nat} {ls : Array Slot} {rest st0 : List Value} {Z Zb : Nat → Prop} {mc ms : Nat} {ar : Array Value} {H0 : Heap} {Rl : Heap → Prop} (hz : ∀ q, Zb q → Z q) (hr : va_Run p l e R s m args below meth c H locs cells slots mc ms (F0 m pc ls st0) rest (qS0 Z Rl ar) (nZ Z)) (hS : va_S (nZ Zb) H0 H locs)
    (kk : ∀ (H1 : Heap) (locs1 : List Loc), Rl H1 → H.size ≤ H1.size → (∀ q : Nat, q < H.size → Z q → H1[q]? = H[q]?) → va_S (nZ Zb) H0 H1 locs1 → W p l e R s m args below meth c H1 locs1 (cells + mc) (slots + ms) Q (F0 m (pc + 3) ls rest)) : W p l e R s m args below meth c H locs cells slots Q (F0 m pc ls st0) := by
  intro T hT X
  obtain ⟨v, st₀, t, T', L, h0, X', hL, e1, e2, ⟨hv, hq, hF⟩, st⟩ := hr T hT X
  cases hv
  have hz1 := hF.1
  have hz2 := hF.2
  rw [h0] at hz1 hz2
  obtain ⟨t2, a1, b1⟩ := kk T'.heap (locs ++ L) (by rw [e1]; exact hq) (by rw [e1]; exact hz1) (fun q h1 h2 => by rw [e1]; exact hz2 q h1 (fun z => z h2)) (vaS_call2 hz h0 e1 hS hL hF) T' rfl X'
  exact ⟨t2, st t2 a1, b1⟩
theorem Pic.rez {D : va_G} {ct : Nat → ClassId} {Z Z' : Nat → Prop} {dc : Nat} {σ : Stt} {ad : Nat → Nat} {H : Heap} (h : Pic D ct Z dc σ ad H) (hz : ∀ i, us σ i → ¬ Z' (ad i)) : Pic D ct Z' dc σ ad H := ⟨fun i hi => ⟨(h.1 i hi).1, hz i hi⟩, h.2⟩
theorem Pic.ltS {D : va_G} {ct : Nat → ClassId} {Z : Nat → Prop} {dc : Nat} {σ : Stt} {ad : Nat → Nat} {H : Heap} (h : Pic D ct Z dc σ ad H) {i : Nat} (hi : us σ i) : ad i < H.size := va_at.lt (h.1 i hi).1
set_option maxHeartbeats 4000000 in
set_option maxRecDepth 100000 in
/-- YOUR PART: from the entry, for every script of at most 3584 ints, the law comes to its end with true ('hflags': the launch's flags, for a law that throws: no stack traces) -/
theorem whole_start {p : Program} {e : Env} {s : State} {m : MethodId} {below : List Frame} {meth : Method} {c : Code} (l : Launch) (hflags : l.flags = flags0) {b L : Nat} {xs : Nat → Int32} (hL : L ≤ 3584) (C0 : lw_At p s m meth c b L xs) : W p l e room_1 s m #[Value.ref b] below meth c s.heap [] 0 0 (lw_Z below #[Value.ref b] s) (entryFrame m ([Value.ref b] : List Value).toArray 9) := by
  obtain ⟨hx, hb, hr, hml, hown, hts0, hX, hbl, hlocks, hgv⟩ := id C0
  have hts : ∀ w ∈ GW, w.before #[Value.ref b] s = true := fun w h => hts0 w (gwt w h)
  have hst : l.stackTraces = false := by
    unfold Launch.stackTraces
    rw [hflags]
    decide +kernel
  obtain ⟨D, ct, dc, hG⟩ := lw_GF hts0 hgv
  have hS : va_S (nZ (fun q => q < s.heap.size)) s.heap s.heap [] := va_S.rf
  have hl := lv_entry ([.ref b]) (n := 9) (Nat.le_of_ble_eq_true rfl)
  rw [lg_entry_eq]
  generalize (lg_sl ([.ref b]) ++ List.replicate (9 - (lg_sl ([.ref b])).length) Slot.unset).toArray = ls at hl ⊢
  have hl : lv_has ls 9 [(0, .ref b)] := hl
  have hown : s.vm.findClass "RumourCustomsLaw" = some m.cls := hown
  have hb : c.code = cL_law := hb
  refine k_new (C := RX5) (T := TX5) (N := 11) (ci := 6) hx hb hts inGX5 tyX5 tyX5_ok hown (hts _ w_83) (hts _ w_84) (hts _ w_59) (hG.2.1).1 hS rfl (fs := [.null, .null, .null, .null, .int 0, .int 0, .int 0, .int 0, .int 0, .int 0, .int 0]) (fun j hj => match j, hj with | 0, _ => rfl | 1, _ => rfl | 2, _ => rfl | 3, _ => rfl | 4, _ => rfl | 5, _ => rfl | 6, _ => rfl | 7, _ => rfl | 8, _ => rfl | 9, _ => rfl | 10, _ => rfl | (j + 11), h => absurd h (by omega)) (Nat.le_of_ble_eq_true rfl) (Nat.le_of_ble_eq_true rfl) dL_law_0 (fun H1 hN1 hz1 hq1 hS1 => ?_)
  refine lv_dup hx hb dL_law_3 rfl ?_
  have hzx : ¬ s.heap.size < s.heap.size := Nat.lt_irrefl _
  refine c_s0 (va_runI (As := []) (rest := [.ref s.heap.size]) ⟨hx, hb, hml, hown, hts⟩ (c_X5_init l D ct (fun q => q < s.heap.size) dc H1 s.heap.size hzx) (cwI 0 hts (GGS (own := "RumourCustomsLaw") (idx := 79) w_87) rfl rfl rfl (hts _ w_59) (hts _ w_85) (hts _ w_86) rfl (by decide) ⟨Nat.le_of_ble_eq_true rfl, Nat.le_of_ble_eq_true rfl⟩) ⟨(blindF fun _ _ _ _ h => h), fun U hU hW => ⟨rfl, hG.up hW hS1 hU, hU, by rw [hU]; exact hN1⟩⟩ rfl rfl hl.1 rfl (lv_room (Nat.le_of_ble_eq_true rfl)) dL_law_4 ⟨Nat.le_of_ble_eq_true rfl, Nat.le_of_ble_eq_true rfl⟩) hS1 (fun H2 locs2 hR2 hzz2 hS2 => ?_)
  obtain ⟨ad, had, hP2, hsz2, hk2⟩ := hR2
  refine lv_astore_n (lv' := [(1, .ref s.heap.size), (0, .ref b)]) hx hb dL_law_7 rfl hl (by decide) rfl (fun ls hl => ?_)
  refine k_new (C := RX6) (T := TX6) (N := 14) (ci := 7) hx hb hts inGX6 tyX6 tyX6_ok hown (hts _ w_866) (hts _ w_867) (hts _ w_65) (hG.2.1).1 hS2 rfl (fs := [.int 0, .int 0, .int 0, .int 0, .int 0, .int 0, .int 0, .int 0, .int 0, .int 0, .null, .null, .null, .null]) (fun j hj => match j, hj with | 0, _ => rfl | 1, _ => rfl | 2, _ => rfl | 3, _ => rfl | 4, _ => rfl | 5, _ => rfl | 6, _ => rfl | 7, _ => rfl | 8, _ => rfl | 9, _ => rfl | 10, _ => rfl | 11, _ => rfl | 12, _ => rfl | 13, _ => rfl | (j + 14), h => absurd h (by omega)) (Nat.le_of_ble_eq_true rfl) (Nat.le_of_ble_eq_true rfl) dL_law_8 (fun H3 hN3 hz3 hq3 hS3 => ?_)
  refine lv_dup hx hb dL_law_11 rfl ?_
  have hlt : ∀ i, us σ0 i → ad i < H2.size := fun i hi => hP2.ltS hi
  refine lw_s0 (Zb := fun q => q < s.heap.size) (Z := fun q => q < H3.size ∧ q ≠ H2.size) (fun q z => ⟨Nat.lt_of_lt_of_le z hS3.1, fun z2 => by have := hS2.1; omega⟩) (va_runI (As := []) (rest := [.ref H2.size]) ⟨hx, hb, hml, hown, hts⟩ (c_X6_init l D ct (fun q => q < H3.size ∧ q ≠ H2.size) dc H3 H2.size (fun z => z.2 rfl)) (cwI 0 hts (GGS (own := "RumourCustomsLaw") (idx := 82) w_870) rfl rfl rfl (hts _ w_65) (hts _ w_868) (hts _ w_869) rfl (by decide) ⟨Nat.le_of_ble_eq_true rfl, Nat.le_of_ble_eq_true rfl⟩) ⟨(blindF fun _ _ _ _ h => h), fun U hU hW => ⟨rfl, (hG.up hW hS3 hU).sub (fun q z => ⟨Nat.lt_of_lt_of_le z hS3.1, fun z2 => by have := hS2.1; have z : q < s.heap.size := z; omega⟩) (fun q z => by rw [hU]; exact z.1), hU, by rw [hU]; exact hN3⟩⟩ rfl rfl hl.1 rfl (lv_room (Nat.le_of_ble_eq_true rfl)) dL_law_12 ⟨Nat.le_of_ble_eq_true rfl, Nat.le_of_ble_eq_true rfl⟩) hS3 (fun H4 locs4 hR4 hzz4 hk4 hS4 => ?_)
  obtain ⟨rf, hrf, hRP, hsz4, -⟩ := hR4
  have hge : ∀ i, i < 5 → H2.size ≤ rf i := fun i hi => by
    have h := (hRP.1 i hi).2
    by_cases z : rf i < H3.size
    · exact Nat.le_of_eq (Decidable.byContradiction fun z2 => h ⟨z, fun z3 => z2 z3.symm⟩)
    · omega
  refine lv_astore_n (lv' := [(2, .ref H2.size), (1, .ref s.heap.size), (0, .ref b)]) hx hb dL_law_15 rfl hl (by decide) rfl (fun ls hl => ?_)
  refine lv_iconst (v := 1) hx hb dL_law_16 (by decide) ?_
  refine k_newJ (N := 1) hx hb (hts _ w_915) hG.2.1.1 hS4 (by decide) (by decide) (by decide) (Nat.le_of_ble_eq_true rfl) (Nat.le_of_ble_eq_true rfl) dL_law_17 (fun H5 hA5 hz5 hq5 hS5 => ?_)
  refine lv_astore_n (lv' := [(3, .ref H4.size), (2, .ref H2.size), (1, .ref s.heap.size), (0, .ref b)]) hx hb dL_law_19 rfl hl (by decide) rfl (fun ls hl => ?_)
  refine lv_iconst (v := 0) hx hb dL_law_20 (by decide) ?_
  refine lv_istore (lv' := [(4, .int 0), (3, .ref H4.size), (2, .ref H2.size), (1, .ref s.heap.size), (0, .ref b)]) hx hb dL_law_21 hl (by decide) rfl (fun ls hl => ?_)
  have hzo : ¬ Zr (fun q => q < s.heap.size) rf H4.size := by
    rintro (z | ⟨i, hi, z⟩)
    · have h1 := hS4.1
      have z : H4.size < s.heap.size := z
      omega
    · have := hRP.lt5 hi
      omega
  have h34 : H3.size ≤ H4.size := hsz4
  have hP5 : Pic D ct (Zo (Zr (fun q => q < s.heap.size) rf) H4.size) dc σ0 ad H5 := by
    have q1 : Pic D ct (fun q => q < s.heap.size) dc σ0 ad H5 := ⟨fun i hi => ⟨va_at.kept (hP2.1 i hi).1 (((hq5 _ (by have := hlt i hi; omega)).trans (hk4 _ (by have := hlt i hi; omega) ⟨by have := hlt i hi; omega, by have := hlt i hi; omega⟩)).trans (hq3 _ (hlt i hi))), (hP2.1 i hi).2⟩, hP2.2⟩
    refine q1.rez (fun i hi z => ?_)
    have h1 := hlt i hi
    rcases z with (z | ⟨j, hj, z⟩) | z
    · exact (hP2.1 i hi).2 z
    · have := hge j hj
      omega
    · omega
  have hR5 : RP D ct (Zo (fun q => q < s.heap.size) H4.size) σ0 0 (fun _ => 0) rf H5 := by
    refine (hRP.keptZ (fun i hi => hq5 _ (hRP.lt5 hi))).rez (fun i hi z => ?_)
    have h1 := hge i hi
    have h2 := hRP.lt5 hi
    have h3 := hS2.1
    rcases z with z | z
    · have z : rf i < s.heap.size := z
      omega
    · omega
  have hl : lv_has ls 9 [(0, .ref b), (1, .ref s.heap.size), (2, .ref (rf 0)), (3, .ref H4.size), (4, .int (nI 0))] := by
    rw [hrf, nI_0]
    exact lv_sub hl [4, 3, 2, 1, 0] rfl
  exact W.base (lw_loop hx hb hml hr hlocks hst hown hts hG hzo hL hX hbl (L + 1) 0 s.drawn H5 locs4 _ _ ls (Drawn.sameBut.refl s.drawn lw_cs) (Nat.zero_le _) (by omega) hS5 ⟨σ0, ad, 0, fun _ => 0, fun _ => 0, IB_0, had, hP5, hR5, hA5⟩ (by omega) (by omega) hl)
end LAW4
