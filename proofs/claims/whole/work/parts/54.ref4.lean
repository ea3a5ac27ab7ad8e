section ACPY
variable {p : Program} {l : Launch} {e : Env} {R : Room} {s : State} {m : MethodId} {args : Array Value} {below : List Frame} {meth : Method} {c : Code} {H : Heap} {locs : List Loc} {cells slots : Nat} {Q : State → Prop}
variable {cc : ByteArray} {pc : Nat} {ls : Array Slot} {rest : List Value} {D : va_G} {ct : Nat → ClassId} {a a0 : Nat} {Z : Nat → Prop} {H0 : Heap}
/-- System.arraycopy out of a row's start into a row of ints -/
theorem k_acpy (hexec : p.tables.exec = Jvm.exec) (hb : c.code = cc) (hml : c.maxLocals = ls.size) {own : String} {index : Nat} (hown : s.vm.findClass own = some m.cls) (hlink : (Cond.methodLink own index arraycopyName).before args s = true) (hnat : (Cond.native arraycopyName).before args s = true) (hstat : (Cond.static arraycopyName).before args s = true) (hini : (Cond.initialized "java/lang/System").before args s = true)
    (hK : va_K D vwCl (tys5 ct) s) (hS : va_S (nZ Z) H0 H locs) (hz : ¬ Z a) {n0 n1 : Nat} {f g : Nat → Int32} (hA0 : Ar (ct 0) a0 (rI n0 f) H) (hA : Ar (ct 0) a (rI n1 g) H) {dp n : Int32} {q k : Nat} (hdp : dp = nI q) (hn : n = nI k) (hk : k ≤ n0) (hq : q + k ≤ n1) (hlt : n1 < 2 ^ 30) (hlt0 : n0 < 2 ^ 30)
    (hframes : 1 ≤ R.frames) (hlocals : (rest.map fun v => v.category).sum + (nativeFrameWords "java/lang/System" "arraycopy" 5 + 11) ≤ R.locals) (hdg : decode cc pc = .ok (.invokestatic index, 3))
    (kk : ∀ (H1 : Heap) (locs1 : List Loc), Ar (ct 0) a (rI n1 (va_cpy f g 0 q k)) H1 → H1.size = H.size → (∀ z : Nat, z ≠ a → H1[z]? = H[z]?) → va_S (nZ Z) H0 H1 locs1 → W p l e R s m args below meth c H1 locs1 cells slots Q (F0 m (pc + 3) ls rest)) : W p l e R s m args below meth c H locs cells slots Q (F0 m pc ls (.int n :: .int dp :: .ref a :: .int 0 :: .ref a0 :: rest)) := by
  subst hdp
  subst hn
  have i0 : (0 : Int32).toNatClampNeg = 0 := rfl
  have iq : (nI q).toNatClampNeg = q := nI_clamp (by omega)
  have ik : (nI k).toNatClampNeg = k := nI_clamp (by omega)
  intro T hT X
  have hc0 : H[a0]? = some (vp_cell (ct 0) (n0, .inl f)) := hA0
  have hc1 : H[a]? = some (vp_cell (ct 0) (n1, .inl g)) := hA
  obtain ⟨-, k0, hk0, cm0, hkk0⟩ := (hK.2 0 _ rfl).1 n0 (fun j => .int (f j))
  obtain ⟨-, k1, hk1, cm1, hkk1⟩ := (hK.2 0 _ rfl).1 n1 (fun j => .int (g j))
  obtain ⟨vm', X', step⟩ := X.arraycopy hexec hown hlink hnat hstat hini (src := a0) (dst := a) (cs := vp_cell (ct 0) (n0, .inl f)) (cd := vp_cell (ct 0) (n1, .inl g)) (srcPos := 0) (destPos := nI q) (n := nI k) (by rw [hT]; exact hc0) (by rw [hT]; exact hc1)
    (fun _ h => by cases h) (fun _ h => by cases h) (fun h => by cases h) (fun h => by cases h) hk0 hk1 hkk0 hkk1 (by simp) (by decide) (nI_pos (by omega)) (nI_pos (by omega))
    (by rw [show (0 : Int32).toInt = 0 from rfl, nI_toInt (by omega)]; show ¬ _ > ((arrV (ct 0) n0 (fun j => .int (f j))).slots.size : Int); rw [arrV_size]; omega)
    (by rw [nI_toInt (by omega), nI_toInt (by omega)]; show ¬ _ > ((arrV (ct 0) n1 (fun j => .int (g j))).slots.size : Int); rw [arrV_size]; omega)
    (fun vm₁ _ i hi => by
      rw [ik] at hi
      have e : (vp_cell (ct 0) (n0, .inl f)).slots.getD ((0 : Int32).toNatClampNeg + i) .null = .int (f ((0 : Int32).toNatClampNeg + i)) := by
        show (arrV (ct 0) n0 (fun j => .int (f j))).slots.getD _ _ = _
        rw [i0, Array.getD_eq_getD_getElem?, arrV_read _ _ (by omega)]
        rfl
      refine ⟨?_, ?_⟩
      · rw [e]; rfl
      · rw [e]; exact trivial)
    (g := F0 m pc ls (.int (nI k) :: .int (nI q) :: .ref a :: .int 0 :: .ref a0 :: rest)) rfl (by rw [hml]) (rest := rest) rfl (by rw [hb]; exact hdg) hframes (by show 2 * 0 + _ + _ ≤ _; omega)
  have e1 : copied (vp_cell (ct 0) (n0, .inl f)) (vp_cell (ct 0) (n1, .inl g)) 0 (nI q) (nI k) = vp_cell (ct 0) (n1, .inl (va_cpy f g (0 : Int32).toNatClampNeg (nI q).toNatClampNeg (nI k).toNatClampNeg)) := va_copied (fun z => .int z) (ct 0) (ct 0) f g (by rw [i0, ik]; omega)
  rw [i0, iq, ik] at e1
  rw [e1] at X' step
  have hl : a < H.size := (Array.getElem?_eq_some_iff.mp hc1).1
  have hheap : ((T.setVm vm').setCell a (vp_cell (ct 0) (n1, .inl (va_cpy f g 0 q k)))).heap = H.setIfInBounds a (vp_cell (ct 0) (n1, .inl (va_cpy f g 0 q k))) := by rw [← hT]; rfl
  have oq : ∀ z : Nat, z ≠ a → (H.setIfInBounds a (vp_cell (ct 0) (n1, .inl (va_cpy f g 0 q k))))[z]? = H[z]? := fun z hz => by simp [Array.getElem?_setIfInBounds, Ne.symm hz]
  obtain ⟨t, a1, b1⟩ := kk _ _ (show (H.setIfInBounds a _)[a]? = some _ by simp [Array.getElem?_setIfInBounds, hl]) (by simp) oq ⟨by simp; exact hS.1, fun z g1 g2 => by
      rw [oq z (fun e => g2 (by rw [e]; exact hz))]
      exact hS.2.1 z g1 g2, fun z hz1 => by
      rcases List.mem_append.mp hz1 with h | h
      · exact hS.2.2 z h
      · obtain ⟨y, -, hy⟩ := List.mem_map.mp h
        rw [← hy]
        exact hz⟩ _ hheap X'
  exact ⟨t, step t a1, b1⟩
end ACPY
/-- n numbers of a kind are written from p on -/
def rowW (σ : Stt) (srt p : Nat) (f : Nat → Int32) (n : Nat) : Stt := fun a j => if a = srt ∧ p ≤ j ∧ j < p + n then f (j - p) else σ a j
theorem rowW_s {σ : Stt} {srt p n : Nat} {f : Nat → Int32} : rowW σ srt p f n srt = va_cpy f (σ srt) 0 p n := by
  funext j
  unfold rowW va_cpy
  by_cases h : p ≤ j ∧ j < p + n
  · rw [if_pos ⟨rfl, h⟩, if_pos h, Nat.zero_add]
  · rw [if_neg (fun z => h z.2), if_neg h]
theorem rowW_n {σ : Stt} {srt p n a : Nat} {f : Nat → Int32} (h : a ≠ srt) : rowW σ srt p f n a = σ a := by
  funext j
  unfold rowW
  rw [if_neg (fun z => h z.1)]
theorem addRm_eq {σ : Stt} {l d p f t : Int32} {F : Nat → Int32} (hF : ∀ j, j < 7 → F j = rum7 l d p f t j) : su (rowW σ 1 (7 * nR σ) F 7) 0 3 (nI (nR σ) + 1) = addRm σ l d p f t := by
  funext a j
  unfold su addRm rowW
  by_cases h1 : a = 0 ∧ j = 3
  · rw [if_pos h1, if_pos h1, nI_1]
  · rw [if_neg h1, if_neg h1]
    by_cases h2 : a = 1 ∧ 7 * nR σ ≤ j ∧ j < 7 * nR σ + 7
    · rw [if_pos h2, if_pos h2]
      exact hF _ (by omega)
    · rw [if_neg h2, if_neg h2]
theorem addCr_eq {σ : Stt} {t p : Int32} {F : Nat → Int32} (hF : ∀ j, j < 4 → F j = car4 t p j) : su (rowW σ 2 (4 * nC σ) F 4) 0 4 (nI (nC σ) + 1) = addCr σ t p := by
  funext a j
  unfold su addCr rowW
  by_cases h1 : a = 0 ∧ j = 4
  · rw [if_pos h1, if_pos h1, nI_1]
  · rw [if_neg h1, if_neg h1]
    by_cases h2 : a = 2 ∧ 4 * nC σ ≤ j ∧ j < 4 * nC σ + 4
    · rw [if_pos h2, if_pos h2]
      exact hF _ (by omega)
    · rw [if_neg h2, if_neg h2]
theorem bld_eq {σ : Stt} {k : Nat} {h t u v : Int32} {F : Nat → Int32} (hF : ∀ j, j < 7 → F j = rd7 h t u v j) : su (rowW σ 3 (7 * k) F 7) 0 2 (σ 0 2 + 1) = bld σ k h t u v := by
  funext a j
  unfold su bld rowW
  by_cases h1 : a = 0 ∧ j = 2
  · rw [if_pos h1, if_pos h1]
  · rw [if_neg h1, if_neg h1]
    by_cases h2 : a = 3 ∧ 7 * k ≤ j ∧ j < 7 * k + 7
    · rw [if_pos h2, if_pos h2]
      exact hF _ (by omega)
    · rw [if_neg h2, if_neg h2]
theorem lt4 {n : Nat} (h : n < 4) : n = 0 ∨ n = 1 ∨ n = 2 ∨ n = 3 := by omega
theorem nrk {σ τ : Stt} (h : τ 0 3 = σ 0 3) (h1 : σ 0 3 = nI (nR σ)) (h2 : nR σ ≤ 60) : τ 0 3 = nI (nR τ) ∧ nR τ ≤ 60 := by
  rw [nR_eq h, h]
  exact ⟨h1, h2⟩
/-- no bag holds more than six -/
def BG (σ : Stt) : Prop := ∀ k, k < 8 → ∃ m, m ≤ 6 ∧ inB σ (nI k) = nI m

/-! add -/
set_option maxHeartbeats 4000000 in
set_option maxRecDepth 100000 in
theorem c_X6_add (l : Launch) (D : va_G) (ct : Nat → ClassId) (Z : Nat → Prop) (σ : Stt) (th : Int32) (bst : Nat → Int64) (rf : Nat → Nat) (len dep prf fam tn : Int32) (hR1 : σ 0 3 = nI (nR σ)) (hlt : nR σ < 60) : Met l yX6_add (.code yX6_add cX6_add 7 (some .int) :: GW) ({ frames := 1, cells := 1, slots := 7, locals := 60 } : Room) (va_Pc [.ref (rf 0), .int len, .int dep, .int prf, .int fam, .int tn] (fun U => GT D ct U ∧ (∀ q, Z q → q < U.heap.size) ∧ RP D ct Z σ th bst rf U.heap)) (qS1 Z (fun x h => x = .int (nI (nR σ)) ∧ RP D ct Z (addRm σ len dep prf fam tn) (th) bst rf h)) 1 7 (nZ Z) := by
  refine m_in (cc := cX6_add) [.ref (rf 0), .int len, .int dep, .int prf, .int fam, .int tn] "RumourCustomsModel" rfl (by decide) (Nat.le_of_ble_eq_true rfl) ?_
  intro pg e s m args below meth cd ls hx hb hml hown hts hr hlocks hin hPr hl
  obtain ⟨hT, hZs, hP⟩ := hPr
  have hl : lv_has ls 7 [(0, .ref (rf 0)), (1, .int len), (2, .int dep), (3, .int prf), (4, .int fam), (5, .int tn)] := hl
  have hS : va_S (nZ Z) s.heap s.heap [] := va_S.rf
  refine lv_bipush (v := 7) hx hb dX6_add_0 (by decide) ?_
  refine k_newI hx hb (hts _ w_119) (hT).1 hS (N := 7) (by decide) (by decide) (by decide) (Nat.le_of_ble_eq_true rfl) (Nat.le_of_ble_eq_true rfl) dX6_add_2 (fun H2 hA2 hz2 hq2 hS2 => ?_)
  refine W.widen (k := 1) (n := 7) (Nat.le_of_ble_eq_true rfl) (Nat.le_of_ble_eq_true rfl) ?_
  have hap2 : ∀ i, i < 5 → rf i ≠ s.heap.size := fun i hi => Nat.ne_of_lt (va_at.lt (hP.1 i hi).1)
  have hnz2 : ¬ Z s.heap.size := fun z => absurd (Nat.lt_of_lt_of_le (hZs _ z) hS.1) (Nat.lt_irrefl _)
  have hP2 := hP.kept hq2
  refine lv_dup hx hb dX6_add_4 rfl ?_
  refine lv_iconst (v := 0) hx hb dX6_add_5 (by decide) ?_
  refine lv_iload_n hx hb dX6_add_6 rfl (lv_at hl 1 rfl) ?_
  refine k_iast hx hb (hT).1 hS2 hnz2 hA2 (vp_in_nI (by decide : 0 < 7) (by decide)) dX6_add_7 (fun H7 locs7 hA7 hz7 hq7 hS7 => ?_)
  replace hA7 : Ar (ct 0) s.heap.size (rI 7 (upd (fun _ => 0) 0 len)) H7 := hA7
  have hP7 : RP D ct Z σ th bst rf H7 := hP2.keptN (fun i hi => hq7 _ (hap2 i hi))
  refine lv_dup hx hb dX6_add_8 rfl ?_
  refine lv_iconst (v := 1) hx hb dX6_add_9 (by decide) ?_
  refine lv_iload_n hx hb dX6_add_10 rfl (lv_at hl 2 rfl) ?_
  refine k_iast hx hb (hT).1 hS7 hnz2 hA7 (vp_in_nI (by decide : 1 < 7) (by decide)) dX6_add_11 (fun H11 locs11 hA11 hz11 hq11 hS11 => ?_)
  replace hA11 : Ar (ct 0) s.heap.size (rI 7 (upd (upd (fun _ => 0) 0 len) 1 dep)) H11 := hA11
  have hP11 : RP D ct Z σ th bst rf H11 := hP7.keptN (fun i hi => hq11 _ (hap2 i hi))
  refine lv_dup hx hb dX6_add_12 rfl ?_
  refine lv_iconst (v := 2) hx hb dX6_add_13 (by decide) ?_
  refine lv_iload_n hx hb dX6_add_14 rfl (lv_at hl 3 rfl) ?_
  refine k_iast hx hb (hT).1 hS11 hnz2 hA11 (vp_in_nI (by decide : 2 < 7) (by decide)) dX6_add_15 (fun H15 locs15 hA15 hz15 hq15 hS15 => ?_)
  replace hA15 : Ar (ct 0) s.heap.size (rI 7 (upd (upd (upd (fun _ => 0) 0 len) 1 dep) 2 prf)) H15 := hA15
  have hP15 : RP D ct Z σ th bst rf H15 := hP11.keptN (fun i hi => hq15 _ (hap2 i hi))
  refine lv_dup hx hb dX6_add_16 rfl ?_
  refine lv_iconst (v := 3) hx hb dX6_add_17 (by decide) ?_
  refine lv_iload hx hb dX6_add_18 (lv_at hl 4 rfl) ?_
  refine k_iast hx hb (hT).1 hS15 hnz2 hA15 (vp_in_nI (by decide : 3 < 7) (by decide)) dX6_add_20 (fun H20 locs20 hA20 hz20 hq20 hS20 => ?_)
  replace hA20 : Ar (ct 0) s.heap.size (rI 7 (upd (upd (upd (upd (fun _ => 0) 0 len) 1 dep) 2 prf) 3 fam)) H20 := hA20
  have hP20 : RP D ct Z σ th bst rf H20 := hP15.keptN (fun i hi => hq20 _ (hap2 i hi))
  refine lv_dup hx hb dX6_add_21 rfl ?_
  refine lv_iconst (v := 4) hx hb dX6_add_22 (by decide) ?_
  refine lv_iload hx hb dX6_add_23 (lv_at hl 5 rfl) ?_
  refine k_iast hx hb (hT).1 hS20 hnz2 hA20 (vp_in_nI (by decide : 4 < 7) (by decide)) dX6_add_25 (fun H25 locs25 hA25 hz25 hq25 hS25 => ?_)
  replace hA25 : Ar (ct 0) s.heap.size (rI 7 (upd (upd (upd (upd (upd (fun _ => 0) 0 len) 1 dep) 2 prf) 3 fam) 4 tn)) H25 := hA25
  have hP25 : RP D ct Z σ th bst rf H25 := hP20.keptN (fun i hi => hq25 _ (hap2 i hi))
  refine lv_dup hx hb dX6_add_26 rfl ?_
  refine lv_iconst (v := 5) hx hb dX6_add_27 (by decide) ?_
  refine lv_iconst (v := (-1)) hx hb dX6_add_28 (by decide) ?_
  refine k_iast hx hb (hT).1 hS25 hnz2 hA25 (vp_in_nI (by decide : 5 < 7) (by decide)) dX6_add_29 (fun H29 locs29 hA29 hz29 hq29 hS29 => ?_)
  replace hA29 : Ar (ct 0) s.heap.size (rI 7 (upd (upd (upd (upd (upd (upd (fun _ => 0) 0 len) 1 dep) 2 prf) 3 fam) 4 tn) 5 (-1))) H29 := hA29
  have hP29 : RP D ct Z σ th bst rf H29 := hP25.keptN (fun i hi => hq29 _ (hap2 i hi))
  refine lv_dup hx hb dX6_add_30 rfl ?_
  refine lv_bipush (v := 6) hx hb dX6_add_31 (by decide) ?_
  refine lv_iconst (v := 0) hx hb dX6_add_33 (by decide) ?_
  refine k_iast hx hb (hT).1 hS29 hnz2 hA29 (vp_in_nI (by decide : 6 < 7) (by decide)) dX6_add_34 (fun H34 locs34 hA34 hz34 hq34 hS34 => ?_)
  replace hA34 : Ar (ct 0) s.heap.size (rI 7 (upd (upd (upd (upd (upd (upd (upd (fun _ => 0) 0 len) 1 dep) 2 prf) 3 fam) 4 tn) 5 (-1)) 6 0)) H34 := hA34
  have hP34 : RP D ct Z σ th bst rf H34 := hP29.keptN (fun i hi => hq34 _ (hap2 i hi))
  refine lv_astore (lv' := [(6, .ref s.heap.size), (0, .ref (rf 0)), (1, .int len), (2, .int dep), (3, .int prf), (4, .int fam), (5, .int tn)]) hx hb dX6_add_35 hl (by decide) rfl (fun ls hl => ?_)
  refine lv_aload hx hb dX6_add_37 (lv_at hl 0 rfl) ?_
  refine lv_iconst (v := 0) hx hb dX6_add_39 (by decide) ?_
  refine lv_aload_n hx hb dX6_add_40 rfl (lv_at hl 1 rfl) ?_
  refine k_get (C := RX6) (T := TX6) (N := 14) hx hb hts inGX6 hown (hT).1 hP34.o rfl 11 (by decide) (hts _ w_883) (fun _ h9 => h9) (v := .ref (rf 2)) rfl dX6_add_41 ?_
  refine lv_bipush (v := 7) hx hb dX6_add_44 (by decide) ?_
  refine lv_aload_n hx hb dX6_add_46 rfl (lv_at hl 1 rfl) ?_
  refine k_get (C := RX6) (T := TX6) (N := 14) hx hb hts inGX6 hown (hT).1 hP34.o rfl 4 (by decide) (hts _ w_876) (fun _ h9 => h9) (v := .int (σ 0 3)) rfl dX6_add_47 ?_
  rw [hR1]
  refine lv_imul hx hb dX6_add_50 ?_
  refine lv_bipush (v := 7) hx hb dX6_add_51 (by decide) ?_
  refine k_acpy hx hb (hml.trans hl.1.symm) hown (hts _ w_944) (hts _ w_555) (hts _ w_554) (hts _ w_74) (hT).1 hS34 (hP34.nz (i := 2) (by decide)) hA34 hP34.a2 (ix_mul (rfl : (7 : Int32) = nI 7) (rfl : nI (nR σ) = nI (nR σ))) (rfl : (7 : Int32) = nI 7) (Nat.le_of_ble_eq_true rfl) (by omega : 7 * (nR σ) + 7 ≤ 420) (by decide) (by decide) (Nat.le_of_ble_eq_true rfl) (Nat.le_of_ble_eq_true rfl) dX6_add_53 (fun H53 locs53 hA53 hz53 hq53 hS53 => ?_)
  have hP53 : RP D ct Z (rowW σ 1 (7 * (nR σ)) (upd (upd (upd (upd (upd (upd (upd (fun _ => 0) 0 len) 1 dep) 2 prf) 3 fam) 4 tn) 5 (-1)) 6 0) 7) (th) bst rf H53 := hP34.row1 _ hA53 hq53 rowW_s (fun a h => rowW_n h)
  obtain ⟨τ53, hτ53⟩ : ∃ τ : Stt, τ = rowW σ 1 (7 * (nR σ)) (upd (upd (upd (upd (upd (upd (upd (fun _ => 0) 0 len) 1 dep) 2 prf) 3 fam) 4 tn) 5 (-1)) 6 0) 7 := ⟨_, rfl⟩
  rw [← hτ53] at hP53
  refine lv_aload_n hx hb dX6_add_56 rfl (lv_at hl 1 rfl) ?_
  refine lv_dup hx hb dX6_add_57 rfl ?_
  refine k_get (C := RX6) (T := TX6) (N := 14) hx hb hts inGX6 hown (hT).1 hP53.o rfl 4 (by decide) (hts _ w_876) (fun _ h9 => h9) (v := .int (τ53 0 3)) rfl dX6_add_58 ?_
  have hv61 : τ53 0 3 = nI (nR σ) := by rw [hτ53, rowW_n (by decide)]; exact hR1
  rw [hv61]
  refine lv_iconst (v := 1) hx hb dX6_add_61 (by decide) ?_
  refine lv_iadd hx hb dX6_add_62 ?_
  refine k_put (C := RX6) (T := TX6) (N := 14) hx hb hts inGX6 tyX6 tyX6_ok nmX6 hown (hT).1 hP53.o hS53 (hP53.nz (by decide)) rfl 4 (Nat.le_of_ble_eq_true rfl) (hts _ w_876) (fun _ h9 => h9) rfl (ty := .int) (v := .int ((nI (nR σ)) + 1)) (by decide +kernel) rfl rfl (Nat.le_of_ble_eq_true rfl) dX6_add_63 (fun H63 locs63 hO63 hz63 hq63 hS63 => ?_)
  have hO63 : Ob D (rf 0) 7 [.int th, .int (τ53 0 0), .int (τ53 0 1), .int (τ53 0 2), .int ((nI (nR σ)) + 1), .int (τ53 0 4), .int (τ53 0 5), .int (τ53 0 6), .int (τ53 0 7), .int (τ53 0 8), .ref (rf 1), .ref (rf 2), .ref (rf 3), .ref (rf 4)] H63 := hO63
  have hP63 : RP D ct Z (su τ53 0 3 ((nI (nR σ)) + 1)) (th) bst rf H63 := hP53.s0 3 ((nI (nR σ)) + 1) hO63 hq63
  obtain ⟨τ63, hτ63⟩ : ∃ τ : Stt, τ = su τ53 0 3 ((nI (nR σ)) + 1) := ⟨_, rfl⟩
  rw [← hτ63] at hP63
  refine lv_aload_n hx hb dX6_add_66 rfl (lv_at hl 1 rfl) ?_
  refine k_get (C := RX6) (T := TX6) (N := 14) hx hb hts inGX6 hown (hT).1 hP63.o rfl 4 (by decide) (hts _ w_876) (fun _ h9 => h9) (v := .int (τ63 0 3)) rfl dX6_add_67 ?_
  have hv70 : τ63 0 3 = nI (nR σ + 1) := by rw [hτ63, su_s]; exact nI_1 _
  rw [hv70]
  refine lv_iconst (v := 1) hx hb dX6_add_70 (by decide) ?_
  refine lv_isub hx hb dX6_add_71 ?_
  exact W.iret (v := (nI (nR σ + 1)) - 1) hx hb hr (fun t ht hW => ⟨_, rfl, by rw [ht]; exact ⟨(by rw [nI_pred]), (by rw [show addRm σ len dep prf fam tn = τ63 from by rw [hτ63, hτ53]; exact (addRm_eq (fun j hj => by rcases lt7 hj with rfl | rfl | rfl | rfl | rfl | rfl | rfl <;> rfl)).symm]; exact hP63)⟩, hS63.F ht⟩) (fun z h => hS63.2.2 z h) dX6_add_72

/-! makeUp -/
set_option maxHeartbeats 4000000 in
set_option maxRecDepth 100000 in
theorem c_X6_makeUp (l : Launch) (D : va_G) (ct : Nat → ClassId) (Z : Nat → Prop) (σ : Stt) (th : Int32) (bst : Nat → Int64) (rf : Nat → Nat) (tn len prf : Int32) (hI : Inv σ) : Met l yX6_makeUp (.code yX6_makeUp cX6_makeUp 4 (some .int) :: GW) ({ frames := 2, cells := 1, slots := 7, locals := 86 } : Room) (va_Pc [.ref (rf 0), .int tn, .int len, .int prf] (fun U => GT D ct U ∧ (∀ q, Z q → q < U.heap.size) ∧ RP D ct Z σ th bst rf U.heap)) (qS1 Z (fun x h => x = .int (o_makeUp σ tn len prf).2.1 ∧ ∃ b1, RP D ct Z (o_makeUp σ tn len prf).2.2 (nI (o_makeUp σ tn len prf).1) b1 rf h)) 1 7 (nZ Z) := by
  refine m_in (cc := cX6_makeUp) [.ref (rf 0), .int tn, .int len, .int prf] "RumourCustomsModel" rfl (by decide) (Nat.le_of_ble_eq_true rfl) ?_
  intro pg e s m args below meth cd ls hx hb hml hown hts hr hlocks hin hPr hl
  obtain ⟨hT, hZs, hP⟩ := hPr
  have hl : lv_has ls 4 [(0, .ref (rf 0)), (1, .int tn), (2, .int len), (3, .int prf)] := hl
  have hS : va_S (nZ Z) s.heap s.heap [] := va_S.rf
  have hT1 := hI.1.1
  have hT10 := hI.1.2
  have hR1 := hI.2.1.1
  have hR60 := hI.2.1.2
  have hC1 := hI.2.2.1.1
  have hC8 := hI.2.2.1.2
  refine lv_aload_n hx hb dX6_makeUp_0 rfl (lv_at hl 0 rfl) ?_
  refine lv_iconst (v := 0) hx hb dX6_makeUp_1 (by decide) ?_
  refine k_put (C := RX6) (T := TX6) (N := 14) hx hb hts inGX6 tyX6 tyX6_ok nmX6 hown (hT).1 hP.o hS (hP.nz (by decide)) rfl 0 (Nat.le_of_ble_eq_true rfl) (hts _ w_872) (fun _ h9 => h9) rfl (ty := .int) (v := .int 0) (by decide +kernel) rfl rfl (Nat.le_of_ble_eq_true rfl) dX6_makeUp_2 (fun H2 locs2 hO2 hz2 hq2 hS2 => ?_)
  have hO2 : Ob D (rf 0) 7 [.int 0, .int (σ 0 0), .int (σ 0 1), .int (σ 0 2), .int (σ 0 3), .int (σ 0 4), .int (σ 0 5), .int (σ 0 6), .int (σ 0 7), .int (σ 0 8), .ref (rf 1), .ref (rf 2), .ref (rf 3), .ref (rf 4)] H2 := hO2
  have hP2 : RP D ct Z (σ) (0) bst rf H2 := hP.st 0 hO2 hq2
  refine lv_aload_n hx hb dX6_makeUp_5 rfl (lv_at hl 0 rfl) ?_
  refine lv_iload_n hx hb dX6_makeUp_6 rfl (lv_at hl 1 rfl) ?_
  refine c_p1 (va_runV (As := [.int tn]) (rest := []) ⟨hx, hb, hml, hown, hts⟩ (c_X6_isTown l D ct Z σ 0 bst rf tn hT1 (by omega)) (cwV 1 hts (GG w_932 w_934 w_36 w_65 w_935) rfl rfl rfl (by decide) ⟨Nat.le_of_ble_eq_true rfl, Nat.le_of_ble_eq_true rfl⟩) ⟨(blindT fun _ _ _ _ h => h), Ob.recv (hT).1 hP2.o rfl, fun U hU hW => ⟨rfl, hT.warm hW, by rw [hU]; exact hP2⟩⟩ rfl rfl hl.1 rfl (lv_room (Nat.le_of_ble_eq_true rfl)) dX6_makeUp_7 ⟨Nat.le_of_ble_eq_true rfl, Nat.le_of_ble_eq_true rfl⟩) ?_
  refine lv_if_ne (tgt := 19) hx hb dX6_makeUp_10 (by decide) (fun c_10 => ?_) (fun c_10 => ?_)
  · -- taken
    replace c_10 := b2_nz c_10
    obtain ⟨t10, ht10, hv10⟩ := okT hT1 hT10 c_10
    subst hv10
    have ix10 : ix (nI t10) = t10 := ix_n (by omega)
    refine lv_iload_n hx hb dX6_makeUp_19 rfl (lv_at hl 2 rfl) ?_
    refine lv_iconst (v := 1) hx hb dX6_makeUp_20 (by decide) ?_
    refine lv_bipush (v := 30) hx hb dX6_makeUp_21 (by decide) ?_
    refine c_p1 (va_runS (As := [.int len, .int 1, .int 30]) (rest := []) ⟨hx, hb, hml, hown, hts⟩ (c_X6_isIn l D ct len 1 30) (k_cwS 3 hts w_936 w_937 w_65 w_938 rfl rfl (by decide) ⟨Nat.le_of_ble_eq_true rfl, Nat.le_of_ble_eq_true rfl⟩) ⟨(blindT fun _ _ _ _ h => h), fun U hU hW => ⟨rfl, hT.warm hW, trivial⟩⟩ rfl rfl hl.1 rfl (lv_room (Nat.le_of_ble_eq_true rfl)) dX6_makeUp_23 ⟨Nat.le_of_ble_eq_true rfl, Nat.le_of_ble_eq_true rfl⟩) ?_
    refine lv_if_eq (tgt := 38) hx hb dX6_makeUp_26 (by decide) (fun c_26 => ?_) (fun c_26 => ?_)
    · -- taken
      replace c_26 := b2_z c_26
      refine lv_aload_n hx hb dX6_makeUp_38 rfl (lv_at hl 0 rfl) ?_
      refine lv_iconst (v := 2) hx hb dX6_makeUp_39 (by decide) ?_
      refine c_s1 (va_runV (As := [.int 2]) (rest := []) ⟨hx, hb, hml, hown, hts⟩ (c_X6_fail l D ct Z σ 0 bst rf 2) (cwV 1 hts (GG w_924 w_926 w_35 w_65 w_927) rfl rfl rfl (by decide) ⟨Nat.le_of_ble_eq_true rfl, Nat.le_of_ble_eq_true rfl⟩) ⟨(blindT fun _ _ _ _ h => h), Ob.recv (hT).1 hP2.o rfl, fun U hU hW => ⟨rfl, hT.warm hW, by rw [hU]; exact ⟨fun q hq => Nat.lt_of_lt_of_le (hZs q hq) hS2.1, hP2⟩⟩⟩ rfl rfl hl.1 rfl (lv_room (Nat.le_of_ble_eq_true rfl)) dX6_makeUp_40 ⟨Nat.le_of_ble_eq_true rfl, Nat.le_of_ble_eq_true rfl⟩) hS2 (fun x40 H40 locs40 hRr40 hzz40 hS40 => ?_)
      obtain ⟨rfl, hRr40⟩ := hRr40
      have hP40 : RP D ct Z (σ) (2) bst rf H40 := hRr40
      refine W.widen (k := 1) (n := 7) (Nat.le_of_ble_eq_true rfl) (Nat.le_of_ble_eq_true rfl) ?_
      have ho : o_makeUp σ (nI t10) len prf = (2, 0, σ) := by simp [o_makeUp, c_10, ix10, c_26]
      exact W.iret (v := 0) hx hb hr (fun t ht hW => ⟨_, rfl, by rw [ht]; exact ⟨by rw [ho], bst, by rw [ho]; exact hP40⟩, hS40.F ht⟩) (fun z h => hS40.2.2 z h) dX6_makeUp_43
    · -- not taken
      replace c_26 := b2_nz c_26
      refine lv_iload_n hx hb dX6_makeUp_29 rfl (lv_at hl 3 rfl) ?_
      refine lv_iconst (v := 0) hx hb dX6_makeUp_30 (by decide) ?_
      refine lv_iconst (v := 5) hx hb dX6_makeUp_31 (by decide) ?_
      refine c_p1 (va_runS (As := [.int prf, .int 0, .int 5]) (rest := []) ⟨hx, hb, hml, hown, hts⟩ (c_X6_isIn l D ct prf 0 5) (k_cwS 3 hts w_936 w_937 w_65 w_938 rfl rfl (by decide) ⟨Nat.le_of_ble_eq_true rfl, Nat.le_of_ble_eq_true rfl⟩) ⟨(blindT fun _ _ _ _ h => h), fun U hU hW => ⟨rfl, hT.warm hW, trivial⟩⟩ rfl rfl hl.1 rfl (lv_room (Nat.le_of_ble_eq_true rfl)) dX6_makeUp_32 ⟨Nat.le_of_ble_eq_true rfl, Nat.le_of_ble_eq_true rfl⟩) ?_
      refine lv_if_ne (tgt := 44) hx hb dX6_makeUp_35 (by decide) (fun c_35 => ?_) (fun c_35 => ?_)
      · -- taken
        replace c_35 := b2_nz c_35
        refine lv_aload_n hx hb dX6_makeUp_44 rfl (lv_at hl 0 rfl) ?_
        refine k_get (C := RX6) (T := TX6) (N := 14) hx hb hts inGX6 hown (hT).1 hP2.o rfl 4 (by decide) (hts _ w_876) (fun _ h9 => h9) (v := .int (σ 0 3)) rfl dX6_makeUp_45 ?_
        rw [hR1]
        refine lv_bipush (v := 60) hx hb dX6_makeUp_48 (by decide) ?_
        refine lv_icmp_ne (tgt := 61) hx hb dX6_makeUp_50 (by decide) (fun c_50 => ?_) (fun c_50 => ?_)
        · -- taken
          have nc_50 : ¬ (nR σ) = 60 := fun z => c_50 ((nI_eq (a := (nR σ)) (b := 60) (by omega) (by omega)).mpr z)
          have hlt : nR σ < 60 := by omega
          refine lv_aload_n hx hb dX6_makeUp_61 rfl (lv_at hl 0 rfl) ?_
          refine lv_iload_n hx hb dX6_makeUp_62 rfl (lv_at hl 2 rfl) ?_
          refine lv_iconst (v := 0) hx hb dX6_makeUp_63 (by decide) ?_
          refine lv_iload_n hx hb dX6_makeUp_64 rfl (lv_at hl 3 rfl) ?_
          refine lv_aload_n hx hb dX6_makeUp_65 rfl (lv_at hl 0 rfl) ?_
          refine k_get (C := RX6) (T := TX6) (N := 14) hx hb hts inGX6 hown (hT).1 hP2.o rfl 4 (by decide) (hts _ w_876) (fun _ h9 => h9) (v := .int (σ 0 3)) rfl dX6_makeUp_66 ?_
          rw [hR1]
          refine lv_iload_n hx hb dX6_makeUp_69 rfl (lv_at hl 1 rfl) ?_
          refine c_s1 (va_runV (As := [.int len, .int 0, .int prf, .int (nI (nR σ)), .int (nI t10)]) (rest := []) ⟨hx, hb, hml, hown, hts⟩ (c_X6_add l D ct Z σ 0 bst rf len 0 prf (nI (nR σ)) (nI t10) hR1 hlt) (cwV 5 hts (GG w_953 w_955 w_37 w_65 w_956) rfl rfl rfl (by decide) ⟨Nat.le_of_ble_eq_true rfl, Nat.le_of_ble_eq_true rfl⟩) ⟨(blindT fun _ _ _ _ h => h), Ob.recv (hT).1 hP2.o rfl, fun U hU hW => ⟨rfl, hT.warm hW, by rw [hU]; exact ⟨fun q hq => Nat.lt_of_lt_of_le (hZs q hq) hS2.1, hP2⟩⟩⟩ rfl rfl hl.1 rfl (lv_room (Nat.le_of_ble_eq_true rfl)) dX6_makeUp_70 ⟨Nat.le_of_ble_eq_true rfl, Nat.le_of_ble_eq_true rfl⟩) hS2 (fun x70 H70 locs70 hRr70 hzz70 hS70 => ?_)
          obtain ⟨rfl, hRr70⟩ := hRr70
          refine W.widen (k := 1) (n := 7) (Nat.le_of_ble_eq_true rfl) (Nat.le_of_ble_eq_true rfl) ?_
          have hP70 : RP D ct Z (addRm σ len 0 prf (nI (nR σ)) (nI t10)) (0) bst rf H70 := hRr70
          obtain ⟨τ70, hτ70⟩ : ∃ τ : Stt, τ = addRm σ len 0 prf (nI (nR σ)) (nI t10) := ⟨_, rfl⟩
          rw [← hτ70] at hP70
          have ho : o_makeUp σ (nI t10) len prf = (0, nI (nR σ), τ70) := by simp [o_makeUp, c_10, ix10, c_26, c_35, hlt, hτ70]
          exact W.iret (v := nI (nR σ)) hx hb hr (fun t ht hW => ⟨_, rfl, by rw [ht]; exact ⟨by rw [ho], bst, by rw [ho]; exact hP70⟩, hS70.F ht⟩) (fun z h => hS70.2.2 z h) dX6_makeUp_73
        · -- not taken
          have nc_50 : (nR σ) = 60 := (nI_eq (a := (nR σ)) (b := 60) (by omega) (by omega)).mp c_50
          have hlt : ¬ nR σ < 60 := by omega
          refine lv_aload_n hx hb dX6_makeUp_53 rfl (lv_at hl 0 rfl) ?_
          refine lv_iconst (v := 3) hx hb dX6_makeUp_54 (by decide) ?_
          refine c_s1 (va_runV (As := [.int 3]) (rest := []) ⟨hx, hb, hml, hown, hts⟩ (c_X6_fail l D ct Z σ 0 bst rf 3) (cwV 1 hts (GG w_924 w_926 w_35 w_65 w_927) rfl rfl rfl (by decide) ⟨Nat.le_of_ble_eq_true rfl, Nat.le_of_ble_eq_true rfl⟩) ⟨(blindT fun _ _ _ _ h => h), Ob.recv (hT).1 hP2.o rfl, fun U hU hW => ⟨rfl, hT.warm hW, by rw [hU]; exact ⟨fun q hq => Nat.lt_of_lt_of_le (hZs q hq) hS2.1, hP2⟩⟩⟩ rfl rfl hl.1 rfl (lv_room (Nat.le_of_ble_eq_true rfl)) dX6_makeUp_55 ⟨Nat.le_of_ble_eq_true rfl, Nat.le_of_ble_eq_true rfl⟩) hS2 (fun x55 H55 locs55 hRr55 hzz55 hS55 => ?_)
          obtain ⟨rfl, hRr55⟩ := hRr55
          have hP55 : RP D ct Z (σ) (3) bst rf H55 := hRr55
          refine lv_goto (tgt := 73) hx hb dX6_makeUp_58 (by decide) ?_
          refine W.widen (k := 1) (n := 7) (Nat.le_of_ble_eq_true rfl) (Nat.le_of_ble_eq_true rfl) ?_
          have ho : o_makeUp σ (nI t10) len prf = (3, 0, σ) := by simp [o_makeUp, c_10, ix10, c_26, c_35, hlt]
          exact W.iret (v := 0) hx hb hr (fun t ht hW => ⟨_, rfl, by rw [ht]; exact ⟨by rw [ho], bst, by rw [ho]; exact hP55⟩, hS55.F ht⟩) (fun z h => hS55.2.2 z h) dX6_makeUp_73
      · -- not taken
        replace c_35 := b2_z c_35
        refine lv_aload_n hx hb dX6_makeUp_38 rfl (lv_at hl 0 rfl) ?_
        refine lv_iconst (v := 2) hx hb dX6_makeUp_39 (by decide) ?_
        refine c_s1 (va_runV (As := [.int 2]) (rest := []) ⟨hx, hb, hml, hown, hts⟩ (c_X6_fail l D ct Z σ 0 bst rf 2) (cwV 1 hts (GG w_924 w_926 w_35 w_65 w_927) rfl rfl rfl (by decide) ⟨Nat.le_of_ble_eq_true rfl, Nat.le_of_ble_eq_true rfl⟩) ⟨(blindT fun _ _ _ _ h => h), Ob.recv (hT).1 hP2.o rfl, fun U hU hW => ⟨rfl, hT.warm hW, by rw [hU]; exact ⟨fun q hq => Nat.lt_of_lt_of_le (hZs q hq) hS2.1, hP2⟩⟩⟩ rfl rfl hl.1 rfl (lv_room (Nat.le_of_ble_eq_true rfl)) dX6_makeUp_40 ⟨Nat.le_of_ble_eq_true rfl, Nat.le_of_ble_eq_true rfl⟩) hS2 (fun x40 H40 locs40 hRr40 hzz40 hS40 => ?_)
        obtain ⟨rfl, hRr40⟩ := hRr40
        have hP40 : RP D ct Z (σ) (2) bst rf H40 := hRr40
        refine W.widen (k := 1) (n := 7) (Nat.le_of_ble_eq_true rfl) (Nat.le_of_ble_eq_true rfl) ?_
        have ho : o_makeUp σ (nI t10) len prf = (2, 0, σ) := by simp [o_makeUp, c_10, ix10, c_26, c_35]
        exact W.iret (v := 0) hx hb hr (fun t ht hW => ⟨_, rfl, by rw [ht]; exact ⟨by rw [ho], bst, by rw [ho]; exact hP40⟩, hS40.F ht⟩) (fun z h => hS40.2.2 z h) dX6_makeUp_43
  · -- not taken
    replace c_10 := b2_z c_10
    refine lv_aload_n hx hb dX6_makeUp_13 rfl (lv_at hl 0 rfl) ?_
    refine lv_iconst (v := 1) hx hb dX6_makeUp_14 (by decide) ?_
    refine c_s1 (va_runV (As := [.int 1]) (rest := []) ⟨hx, hb, hml, hown, hts⟩ (c_X6_fail l D ct Z σ 0 bst rf 1) (cwV 1 hts (GG w_924 w_926 w_35 w_65 w_927) rfl rfl rfl (by decide) ⟨Nat.le_of_ble_eq_true rfl, Nat.le_of_ble_eq_true rfl⟩) ⟨(blindT fun _ _ _ _ h => h), Ob.recv (hT).1 hP2.o rfl, fun U hU hW => ⟨rfl, hT.warm hW, by rw [hU]; exact ⟨fun q hq => Nat.lt_of_lt_of_le (hZs q hq) hS2.1, hP2⟩⟩⟩ rfl rfl hl.1 rfl (lv_room (Nat.le_of_ble_eq_true rfl)) dX6_makeUp_15 ⟨Nat.le_of_ble_eq_true rfl, Nat.le_of_ble_eq_true rfl⟩) hS2 (fun x15 H15 locs15 hRr15 hzz15 hS15 => ?_)
    obtain ⟨rfl, hRr15⟩ := hRr15
    have hP15 : RP D ct Z (σ) (1) bst rf H15 := hRr15
    refine W.widen (k := 1) (n := 7) (Nat.le_of_ble_eq_true rfl) (Nat.le_of_ble_eq_true rfl) ?_
    have ho : o_makeUp σ tn len prf = (1, 0, σ) := by simp [o_makeUp, c_10]
    exact W.iret (v := 0) hx hb hr (fun t ht hW => ⟨_, rfl, by rw [ht]; exact ⟨by rw [ho], bst, by rw [ho]; exact hP15⟩, hS15.F ht⟩) (fun z h => hS15.2.2 z h) dX6_makeUp_18

/-! addCarrier -/
set_option maxHeartbeats 4000000 in
set_option maxRecDepth 100000 in
theorem c_X6_addCarrier (l : Launch) (D : va_G) (ct : Nat → ClassId) (Z : Nat → Prop) (σ : Stt) (th : Int32) (bst : Nat → Int64) (rf : Nat → Nat) (tn prs : Int32) (hI : Inv σ) : Met l yX6_addCarrier (.code yX6_addCarrier cX6_addCarrier 4 (some .int) :: GW) ({ frames := 2, cells := 1, slots := 4, locals := 60 } : Room) (va_Pc [.ref (rf 0), .int tn, .int prs] (fun U => GT D ct U ∧ (∀ q, Z q → q < U.heap.size) ∧ RP D ct Z σ th bst rf U.heap)) (qS1 Z (fun x h => x = .int (o_addCarrier σ tn prs).2.1 ∧ ∃ b1, RP D ct Z (o_addCarrier σ tn prs).2.2 (nI (o_addCarrier σ tn prs).1) b1 rf h)) 1 4 (nZ Z) := by
  refine m_in (cc := cX6_addCarrier) [.ref (rf 0), .int tn, .int prs] "RumourCustomsModel" rfl (by decide) (Nat.le_of_ble_eq_true rfl) ?_
  intro pg e s m args below meth cd ls hx hb hml hown hts hr hlocks hin hPr hl
  obtain ⟨hT, hZs, hP⟩ := hPr
  have hl : lv_has ls 4 [(0, .ref (rf 0)), (1, .int tn), (2, .int prs)] := hl
  have hS : va_S (nZ Z) s.heap s.heap [] := va_S.rf
  have hT1 := hI.1.1
  have hT10 := hI.1.2
  have hR1 := hI.2.1.1
  have hR60 := hI.2.1.2
  have hC1 := hI.2.2.1.1
  have hC8 := hI.2.2.1.2
  refine lv_aload_n hx hb dX6_addCarrier_0 rfl (lv_at hl 0 rfl) ?_
  refine lv_iconst (v := 0) hx hb dX6_addCarrier_1 (by decide) ?_
  refine k_put (C := RX6) (T := TX6) (N := 14) hx hb hts inGX6 tyX6 tyX6_ok nmX6 hown (hT).1 hP.o hS (hP.nz (by decide)) rfl 0 (Nat.le_of_ble_eq_true rfl) (hts _ w_872) (fun _ h9 => h9) rfl (ty := .int) (v := .int 0) (by decide +kernel) rfl rfl (Nat.le_of_ble_eq_true rfl) dX6_addCarrier_2 (fun H2 locs2 hO2 hz2 hq2 hS2 => ?_)
  have hO2 : Ob D (rf 0) 7 [.int 0, .int (σ 0 0), .int (σ 0 1), .int (σ 0 2), .int (σ 0 3), .int (σ 0 4), .int (σ 0 5), .int (σ 0 6), .int (σ 0 7), .int (σ 0 8), .ref (rf 1), .ref (rf 2), .ref (rf 3), .ref (rf 4)] H2 := hO2
  have hP2 : RP D ct Z (σ) (0) bst rf H2 := hP.st 0 hO2 hq2
  refine lv_aload_n hx hb dX6_addCarrier_5 rfl (lv_at hl 0 rfl) ?_
  refine lv_iload_n hx hb dX6_addCarrier_6 rfl (lv_at hl 1 rfl) ?_
  refine c_p1 (va_runV (As := [.int tn]) (rest := []) ⟨hx, hb, hml, hown, hts⟩ (c_X6_isTown l D ct Z σ 0 bst rf tn hT1 (by omega)) (cwV 1 hts (GG w_932 w_934 w_36 w_65 w_935) rfl rfl rfl (by decide) ⟨Nat.le_of_ble_eq_true rfl, Nat.le_of_ble_eq_true rfl⟩) ⟨(blindT fun _ _ _ _ h => h), Ob.recv (hT).1 hP2.o rfl, fun U hU hW => ⟨rfl, hT.warm hW, by rw [hU]; exact hP2⟩⟩ rfl rfl hl.1 rfl (lv_room (Nat.le_of_ble_eq_true rfl)) dX6_addCarrier_7 ⟨Nat.le_of_ble_eq_true rfl, Nat.le_of_ble_eq_true rfl⟩) ?_
  refine lv_if_ne (tgt := 19) hx hb dX6_addCarrier_10 (by decide) (fun c_10 => ?_) (fun c_10 => ?_)
  · -- taken
    replace c_10 := b2_nz c_10
    obtain ⟨t10, ht10, hv10⟩ := okT hT1 hT10 c_10
    subst hv10
    have ix10 : ix (nI t10) = t10 := ix_n (by omega)
    refine lv_iload_n hx hb dX6_addCarrier_19 rfl (lv_at hl 2 rfl) ?_
    refine lv_iconst (v := 0) hx hb dX6_addCarrier_20 (by decide) ?_
    refine lv_ldc (v := 1000000) hx hb hown (hts _ w_997) dX6_addCarrier_21 ?_
    refine c_p1 (va_runS (As := [.int prs, .int 0, .int 1000000]) (rest := []) ⟨hx, hb, hml, hown, hts⟩ (c_X6_isIn l D ct prs 0 1000000) (k_cwS 3 hts w_936 w_937 w_65 w_938 rfl rfl (by decide) ⟨Nat.le_of_ble_eq_true rfl, Nat.le_of_ble_eq_true rfl⟩) ⟨(blindT fun _ _ _ _ h => h), fun U hU hW => ⟨rfl, hT.warm hW, trivial⟩⟩ rfl rfl hl.1 rfl (lv_room (Nat.le_of_ble_eq_true rfl)) dX6_addCarrier_23 ⟨Nat.le_of_ble_eq_true rfl, Nat.le_of_ble_eq_true rfl⟩) ?_
    refine lv_if_ne (tgt := 35) hx hb dX6_addCarrier_26 (by decide) (fun c_26 => ?_) (fun c_26 => ?_)
    · -- taken
      replace c_26 := b2_nz c_26
      refine lv_aload_n hx hb dX6_addCarrier_35 rfl (lv_at hl 0 rfl) ?_
      refine k_get (C := RX6) (T := TX6) (N := 14) hx hb hts inGX6 hown (hT).1 hP2.o rfl 5 (by decide) (hts _ w_877) (fun _ h9 => h9) (v := .int (σ 0 4)) rfl dX6_addCarrier_36 ?_
      rw [hC1]
      refine lv_bipush (v := 8) hx hb dX6_addCarrier_39 (by decide) ?_
      refine lv_icmp_ne (tgt := 50) hx hb dX6_addCarrier_41 (by decide) (fun c_41 => ?_) (fun c_41 => ?_)
      · -- taken
        have nc_41 : ¬ (nC σ) = 8 := fun z => c_41 ((nI_eq (a := (nC σ)) (b := 8) (by omega) (by omega)).mpr z)
        have hlt : nC σ < 8 := by omega
        refine lv_iconst (v := 4) hx hb dX6_addCarrier_50 (by decide) ?_
        refine k_newI hx hb (hts _ w_119) (hT).1 hS2 (N := 4) (by decide) (by decide) (by decide) (Nat.le_of_ble_eq_true rfl) (Nat.le_of_ble_eq_true rfl) dX6_addCarrier_51 (fun H51 hA51 hz51 hq51 hS51 => ?_)
        refine W.widen (k := 1) (n := 4) (Nat.le_of_ble_eq_true rfl) (Nat.le_of_ble_eq_true rfl) ?_
        have hap51 : ∀ i, i < 5 → rf i ≠ H2.size := fun i hi => Nat.ne_of_lt (va_at.lt (hP2.1 i hi).1)
        have hnz51 : ¬ Z H2.size := fun z => absurd (Nat.lt_of_lt_of_le (hZs _ z) hS2.1) (Nat.lt_irrefl _)
        have hP51 := hP2.kept hq51
        refine lv_dup hx hb dX6_addCarrier_53 rfl ?_
        refine lv_iconst (v := 0) hx hb dX6_addCarrier_54 (by decide) ?_
        refine lv_iload_n hx hb dX6_addCarrier_55 rfl (lv_at hl 1 rfl) ?_
        refine k_iast hx hb (hT).1 hS51 hnz51 hA51 (vp_in_nI (by decide : 0 < 4) (by decide)) dX6_addCarrier_56 (fun H56 locs56 hA56 hz56 hq56 hS56 => ?_)
        replace hA56 : Ar (ct 0) H2.size (rI 4 (upd (fun _ => 0) 0 (nI t10))) H56 := hA56
        have hP56 : RP D ct Z σ 0 bst rf H56 := hP51.keptN (fun i hi => hq56 _ (hap51 i hi))
        refine lv_dup hx hb dX6_addCarrier_57 rfl ?_
        refine lv_iconst (v := 1) hx hb dX6_addCarrier_58 (by decide) ?_
        refine lv_iconst (v := 0) hx hb dX6_addCarrier_59 (by decide) ?_
        refine k_iast hx hb (hT).1 hS56 hnz51 hA56 (vp_in_nI (by decide : 1 < 4) (by decide)) dX6_addCarrier_60 (fun H60 locs60 hA60 hz60 hq60 hS60 => ?_)
        replace hA60 : Ar (ct 0) H2.size (rI 4 (upd (upd (fun _ => 0) 0 (nI t10)) 1 0)) H60 := hA60
        have hP60 : RP D ct Z σ 0 bst rf H60 := hP56.keptN (fun i hi => hq60 _ (hap51 i hi))
        refine lv_dup hx hb dX6_addCarrier_61 rfl ?_
        refine lv_iconst (v := 2) hx hb dX6_addCarrier_62 (by decide) ?_
        refine lv_iload_n hx hb dX6_addCarrier_63 rfl (lv_at hl 2 rfl) ?_
        refine k_iast hx hb (hT).1 hS60 hnz51 hA60 (vp_in_nI (by decide : 2 < 4) (by decide)) dX6_addCarrier_64 (fun H64 locs64 hA64 hz64 hq64 hS64 => ?_)
        replace hA64 : Ar (ct 0) H2.size (rI 4 (upd (upd (upd (fun _ => 0) 0 (nI t10)) 1 0) 2 prs)) H64 := hA64
        have hP64 : RP D ct Z σ 0 bst rf H64 := hP60.keptN (fun i hi => hq64 _ (hap51 i hi))
        refine lv_dup hx hb dX6_addCarrier_65 rfl ?_
        refine lv_iconst (v := 3) hx hb dX6_addCarrier_66 (by decide) ?_
        refine lv_iconst (v := 0) hx hb dX6_addCarrier_67 (by decide) ?_
        refine k_iast hx hb (hT).1 hS64 hnz51 hA64 (vp_in_nI (by decide : 3 < 4) (by decide)) dX6_addCarrier_68 (fun H68 locs68 hA68 hz68 hq68 hS68 => ?_)
        replace hA68 : Ar (ct 0) H2.size (rI 4 (upd (upd (upd (upd (fun _ => 0) 0 (nI t10)) 1 0) 2 prs) 3 0)) H68 := hA68
        have hP68 : RP D ct Z σ 0 bst rf H68 := hP64.keptN (fun i hi => hq68 _ (hap51 i hi))
        refine lv_astore_n (lv' := [(3, .ref H2.size), (0, .ref (rf 0)), (1, .int (nI t10)), (2, .int prs)]) hx hb dX6_addCarrier_69 rfl hl (by decide) rfl (fun ls hl => ?_)
        refine lv_aload_n hx hb dX6_addCarrier_70 rfl (lv_at hl 0 rfl) ?_
        refine lv_iconst (v := 0) hx hb dX6_addCarrier_71 (by decide) ?_
        refine lv_aload_n hx hb dX6_addCarrier_72 rfl (lv_at hl 1 rfl) ?_
        refine k_get (C := RX6) (T := TX6) (N := 14) hx hb hts inGX6 hown (hT).1 hP68.o rfl 12 (by decide) (hts _ w_884) (fun _ h9 => h9) (v := .ref (rf 3)) rfl dX6_addCarrier_73 ?_
        refine lv_iconst (v := 4) hx hb dX6_addCarrier_76 (by decide) ?_
        refine lv_aload_n hx hb dX6_addCarrier_77 rfl (lv_at hl 1 rfl) ?_
        refine k_get (C := RX6) (T := TX6) (N := 14) hx hb hts inGX6 hown (hT).1 hP68.o rfl 5 (by decide) (hts _ w_877) (fun _ h9 => h9) (v := .int (σ 0 4)) rfl dX6_addCarrier_78 ?_
        rw [hC1]
        refine lv_imul hx hb dX6_addCarrier_81 ?_
        refine lv_iconst (v := 4) hx hb dX6_addCarrier_82 (by decide) ?_
        refine k_acpy hx hb (hml.trans hl.1.symm) hown (hts _ w_944) (hts _ w_555) (hts _ w_554) (hts _ w_74) (hT).1 hS68 (hP68.nz (i := 3) (by decide)) hA68 hP68.a3 (ix_mul (rfl : (4 : Int32) = nI 4) (rfl : nI (nC σ) = nI (nC σ))) (rfl : (4 : Int32) = nI 4) (Nat.le_of_ble_eq_true rfl) (by omega : 4 * (nC σ) + 4 ≤ 32) (by decide) (by decide) (Nat.le_of_ble_eq_true rfl) (Nat.le_of_ble_eq_true rfl) dX6_addCarrier_83 (fun H83 locs83 hA83 hz83 hq83 hS83 => ?_)
        have hP83 : RP D ct Z (rowW σ 2 (4 * (nC σ)) (upd (upd (upd (upd (fun _ => 0) 0 (nI t10)) 1 0) 2 prs) 3 0) 4) (0) bst rf H83 := hP68.row2 _ hA83 hq83 rowW_s (fun a h => rowW_n h)
        obtain ⟨τ83, hτ83⟩ : ∃ τ : Stt, τ = rowW σ 2 (4 * (nC σ)) (upd (upd (upd (upd (fun _ => 0) 0 (nI t10)) 1 0) 2 prs) 3 0) 4 := ⟨_, rfl⟩
        rw [← hτ83] at hP83
        refine lv_aload_n hx hb dX6_addCarrier_86 rfl (lv_at hl 1 rfl) ?_
        refine lv_dup hx hb dX6_addCarrier_87 rfl ?_
        refine k_get (C := RX6) (T := TX6) (N := 14) hx hb hts inGX6 hown (hT).1 hP83.o rfl 5 (by decide) (hts _ w_877) (fun _ h9 => h9) (v := .int (τ83 0 4)) rfl dX6_addCarrier_88 ?_
        have hv91 : τ83 0 4 = nI (nC σ) := by rw [hτ83, rowW_n (by decide)]; exact hC1
        rw [hv91]
        refine lv_iconst (v := 1) hx hb dX6_addCarrier_91 (by decide) ?_
        refine lv_iadd hx hb dX6_addCarrier_92 ?_
        refine k_put (C := RX6) (T := TX6) (N := 14) hx hb hts inGX6 tyX6 tyX6_ok nmX6 hown (hT).1 hP83.o hS83 (hP83.nz (by decide)) rfl 5 (Nat.le_of_ble_eq_true rfl) (hts _ w_877) (fun _ h9 => h9) rfl (ty := .int) (v := .int ((nI (nC σ)) + 1)) (by decide +kernel) rfl rfl (Nat.le_of_ble_eq_true rfl) dX6_addCarrier_93 (fun H93 locs93 hO93 hz93 hq93 hS93 => ?_)
        have hO93 : Ob D (rf 0) 7 [.int 0, .int (τ83 0 0), .int (τ83 0 1), .int (τ83 0 2), .int (τ83 0 3), .int ((nI (nC σ)) + 1), .int (τ83 0 5), .int (τ83 0 6), .int (τ83 0 7), .int (τ83 0 8), .ref (rf 1), .ref (rf 2), .ref (rf 3), .ref (rf 4)] H93 := hO93
        have hP93 : RP D ct Z (su τ83 0 4 ((nI (nC σ)) + 1)) (0) bst rf H93 := hP83.s0 4 ((nI (nC σ)) + 1) hO93 hq93
        obtain ⟨τ93, hτ93⟩ : ∃ τ : Stt, τ = su τ83 0 4 ((nI (nC σ)) + 1) := ⟨_, rfl⟩
        rw [← hτ93] at hP93
        refine lv_aload_n hx hb dX6_addCarrier_96 rfl (lv_at hl 1 rfl) ?_
        refine k_get (C := RX6) (T := TX6) (N := 14) hx hb hts inGX6 hown (hT).1 hP93.o rfl 5 (by decide) (hts _ w_877) (fun _ h9 => h9) (v := .int (τ93 0 4)) rfl dX6_addCarrier_97 ?_
        have hv100 : τ93 0 4 = nI (nC σ + 1) := by rw [hτ93, su_s]; exact nI_1 _
        rw [hv100]
        refine lv_iconst (v := 1) hx hb dX6_addCarrier_100 (by decide) ?_
        refine lv_isub hx hb dX6_addCarrier_101 ?_
        have hv102 : (nI (nC σ + 1)) - 1 = nI (nC σ) := nI_pred _
        rw [hv102]
        have hfin : τ93 = addCr σ (nI t10) prs := by rw [hτ93, hτ83]; exact addCr_eq (fun j hj => by rcases lt4 hj with rfl | rfl | rfl | rfl <;> rfl)
        have ho : o_addCarrier σ (nI t10) prs = (0, nI (nC σ), τ93) := by simp [o_addCarrier, c_10, ix10, c_26, hlt, hfin]
        exact W.iret (v := nI (nC σ)) hx hb hr (fun t ht hW => ⟨_, rfl, by rw [ht]; exact ⟨by rw [ho], bst, by rw [ho]; exact hP93⟩, hS93.F ht⟩) (fun z h => hS93.2.2 z h) dX6_addCarrier_102
      · -- not taken
        have nc_41 : (nC σ) = 8 := (nI_eq (a := (nC σ)) (b := 8) (by omega) (by omega)).mp c_41
        have hlt : ¬ nC σ < 8 := by omega
        refine lv_aload_n hx hb dX6_addCarrier_44 rfl (lv_at hl 0 rfl) ?_
        refine lv_iconst (v := 3) hx hb dX6_addCarrier_45 (by decide) ?_
        refine c_s1 (va_runV (As := [.int 3]) (rest := []) ⟨hx, hb, hml, hown, hts⟩ (c_X6_fail l D ct Z σ 0 bst rf 3) (cwV 1 hts (GG w_924 w_926 w_35 w_65 w_927) rfl rfl rfl (by decide) ⟨Nat.le_of_ble_eq_true rfl, Nat.le_of_ble_eq_true rfl⟩) ⟨(blindT fun _ _ _ _ h => h), Ob.recv (hT).1 hP2.o rfl, fun U hU hW => ⟨rfl, hT.warm hW, by rw [hU]; exact ⟨fun q hq => Nat.lt_of_lt_of_le (hZs q hq) hS2.1, hP2⟩⟩⟩ rfl rfl hl.1 rfl (lv_room (Nat.le_of_ble_eq_true rfl)) dX6_addCarrier_46 ⟨Nat.le_of_ble_eq_true rfl, Nat.le_of_ble_eq_true rfl⟩) hS2 (fun x46 H46 locs46 hRr46 hzz46 hS46 => ?_)
        obtain ⟨rfl, hRr46⟩ := hRr46
        have hP46 : RP D ct Z (σ) (3) bst rf H46 := hRr46
        refine W.widen (k := 1) (n := 4) (Nat.le_of_ble_eq_true rfl) (Nat.le_of_ble_eq_true rfl) ?_
        have ho : o_addCarrier σ (nI t10) prs = (3, 0, σ) := by simp [o_addCarrier, c_10, ix10, c_26, hlt]
        exact W.iret (v := 0) hx hb hr (fun t ht hW => ⟨_, rfl, by rw [ht]; exact ⟨by rw [ho], bst, by rw [ho]; exact hP46⟩, hS46.F ht⟩) (fun z h => hS46.2.2 z h) dX6_addCarrier_49
    · -- not taken
      replace c_26 := b2_z c_26
      refine lv_aload_n hx hb dX6_addCarrier_29 rfl (lv_at hl 0 rfl) ?_
      refine lv_iconst (v := 2) hx hb dX6_addCarrier_30 (by decide) ?_
      refine c_s1 (va_runV (As := [.int 2]) (rest := []) ⟨hx, hb, hml, hown, hts⟩ (c_X6_fail l D ct Z σ 0 bst rf 2) (cwV 1 hts (GG w_924 w_926 w_35 w_65 w_927) rfl rfl rfl (by decide) ⟨Nat.le_of_ble_eq_true rfl, Nat.le_of_ble_eq_true rfl⟩) ⟨(blindT fun _ _ _ _ h => h), Ob.recv (hT).1 hP2.o rfl, fun U hU hW => ⟨rfl, hT.warm hW, by rw [hU]; exact ⟨fun q hq => Nat.lt_of_lt_of_le (hZs q hq) hS2.1, hP2⟩⟩⟩ rfl rfl hl.1 rfl (lv_room (Nat.le_of_ble_eq_true rfl)) dX6_addCarrier_31 ⟨Nat.le_of_ble_eq_true rfl, Nat.le_of_ble_eq_true rfl⟩) hS2 (fun x31 H31 locs31 hRr31 hzz31 hS31 => ?_)
      obtain ⟨rfl, hRr31⟩ := hRr31
      have hP31 : RP D ct Z (σ) (2) bst rf H31 := hRr31
      refine W.widen (k := 1) (n := 4) (Nat.le_of_ble_eq_true rfl) (Nat.le_of_ble_eq_true rfl) ?_
      have ho : o_addCarrier σ (nI t10) prs = (2, 0, σ) := by simp [o_addCarrier, c_10, ix10, c_26]
      exact W.iret (v := 0) hx hb hr (fun t ht hW => ⟨_, rfl, by rw [ht]; exact ⟨by rw [ho], bst, by rw [ho]; exact hP31⟩, hS31.F ht⟩) (fun z h => hS31.2.2 z h) dX6_addCarrier_34
  · -- not taken
    replace c_10 := b2_z c_10
    refine lv_aload_n hx hb dX6_addCarrier_13 rfl (lv_at hl 0 rfl) ?_
    refine lv_iconst (v := 1) hx hb dX6_addCarrier_14 (by decide) ?_
    refine c_s1 (va_runV (As := [.int 1]) (rest := []) ⟨hx, hb, hml, hown, hts⟩ (c_X6_fail l D ct Z σ 0 bst rf 1) (cwV 1 hts (GG w_924 w_926 w_35 w_65 w_927) rfl rfl rfl (by decide) ⟨Nat.le_of_ble_eq_true rfl, Nat.le_of_ble_eq_true rfl⟩) ⟨(blindT fun _ _ _ _ h => h), Ob.recv (hT).1 hP2.o rfl, fun U hU hW => ⟨rfl, hT.warm hW, by rw [hU]; exact ⟨fun q hq => Nat.lt_of_lt_of_le (hZs q hq) hS2.1, hP2⟩⟩⟩ rfl rfl hl.1 rfl (lv_room (Nat.le_of_ble_eq_true rfl)) dX6_addCarrier_15 ⟨Nat.le_of_ble_eq_true rfl, Nat.le_of_ble_eq_true rfl⟩) hS2 (fun x15 H15 locs15 hRr15 hzz15 hS15 => ?_)
    obtain ⟨rfl, hRr15⟩ := hRr15
    have hP15 : RP D ct Z (σ) (1) bst rf H15 := hRr15
    refine W.widen (k := 1) (n := 4) (Nat.le_of_ble_eq_true rfl) (Nat.le_of_ble_eq_true rfl) ?_
    have ho : o_addCarrier σ tn prs = (1, 0, σ) := by simp [o_addCarrier, c_10]
    exact W.iret (v := 0) hx hb hr (fun t ht hW => ⟨_, rfl, by rw [ht]; exact ⟨by rw [ho], bst, by rw [ho]; exact hP15⟩, hS15.F ht⟩) (fun z h => hS15.2.2 z h) dX6_addCarrier_18

/-! build -/
set_option maxHeartbeats 4000000 in
set_option maxRecDepth 100000 in
theorem c_X6_build (l : Launch) (D : va_G) (ct : Nat → ClassId) (Z : Nat → Prop) (σ : Stt) (th : Int32) (bst : Nat → Int64) (rf : Nat → Nat) (a b hrs trf srg stc : Int32) (hI : Inv σ) : Met l yX6_build (.code yX6_build cX6_build 8 (some .int) :: GW) ({ frames := 2, cells := 1, slots := 7, locals := 60 } : Room) (va_Pc [.ref (rf 0), .int a, .int b, .int hrs, .int trf, .int srg, .int stc] (fun U => GT D ct U ∧ (∀ q, Z q → q < U.heap.size) ∧ RP D ct Z σ th bst rf U.heap)) (qS1 Z (fun x h => x = .int (o_build σ a b hrs trf srg stc).2.1 ∧ ∃ b1, RP D ct Z (o_build σ a b hrs trf srg stc).2.2 (nI (o_build σ a b hrs trf srg stc).1) b1 rf h)) 1 7 (nZ Z) := by
  refine m_in (cc := cX6_build) [.ref (rf 0), .int a, .int b, .int hrs, .int trf, .int srg, .int stc] "RumourCustomsModel" rfl (by decide) (Nat.le_of_ble_eq_true rfl) ?_
  intro pg e s m args below meth cd ls hx hb hml hown hts hr hlocks hin hPr hl
  obtain ⟨hT, hZs, hP⟩ := hPr
  have hl : lv_has ls 8 [(0, .ref (rf 0)), (1, .int a), (2, .int b), (3, .int hrs), (4, .int trf), (5, .int srg), (6, .int stc)] := hl
  have hS : va_S (nZ Z) s.heap s.heap [] := va_S.rf
  have hT1 := hI.1.1
  have hT10 := hI.1.2
  have hR1 := hI.2.1.1
  have hR60 := hI.2.1.2
  have hC1 := hI.2.2.1.1
  have hC8 := hI.2.2.1.2
  refine lv_aload_n hx hb dX6_build_0 rfl (lv_at hl 0 rfl) ?_
  refine lv_iconst (v := 0) hx hb dX6_build_1 (by decide) ?_
  refine k_put (C := RX6) (T := TX6) (N := 14) hx hb hts inGX6 tyX6 tyX6_ok nmX6 hown (hT).1 hP.o hS (hP.nz (by decide)) rfl 0 (Nat.le_of_ble_eq_true rfl) (hts _ w_872) (fun _ h9 => h9) rfl (ty := .int) (v := .int 0) (by decide +kernel) rfl rfl (Nat.le_of_ble_eq_true rfl) dX6_build_2 (fun H2 locs2 hO2 hz2 hq2 hS2 => ?_)
  have hO2 : Ob D (rf 0) 7 [.int 0, .int (σ 0 0), .int (σ 0 1), .int (σ 0 2), .int (σ 0 3), .int (σ 0 4), .int (σ 0 5), .int (σ 0 6), .int (σ 0 7), .int (σ 0 8), .ref (rf 1), .ref (rf 2), .ref (rf 3), .ref (rf 4)] H2 := hO2
  have hP2 : RP D ct Z (σ) (0) bst rf H2 := hP.st 0 hO2 hq2
  refine lv_aload_n hx hb dX6_build_5 rfl (lv_at hl 0 rfl) ?_
  refine lv_iload_n hx hb dX6_build_6 rfl (lv_at hl 1 rfl) ?_
  refine c_p1 (va_runV (As := [.int a]) (rest := []) ⟨hx, hb, hml, hown, hts⟩ (c_X6_isTown l D ct Z σ 0 bst rf a hT1 (by omega)) (cwV 1 hts (GG w_932 w_934 w_36 w_65 w_935) rfl rfl rfl (by decide) ⟨Nat.le_of_ble_eq_true rfl, Nat.le_of_ble_eq_true rfl⟩) ⟨(blindT fun _ _ _ _ h => h), Ob.recv (hT).1 hP2.o rfl, fun U hU hW => ⟨rfl, hT.warm hW, by rw [hU]; exact hP2⟩⟩ rfl rfl hl.1 rfl (lv_room (Nat.le_of_ble_eq_true rfl)) dX6_build_7 ⟨Nat.le_of_ble_eq_true rfl, Nat.le_of_ble_eq_true rfl⟩) ?_
  refine lv_if_eq (tgt := 21) hx hb dX6_build_10 (by decide) (fun c_10 => ?_) (fun c_10 => ?_)
  · -- taken
    replace c_10 := b2_z c_10
    refine lv_aload_n hx hb dX6_build_21 rfl (lv_at hl 0 rfl) ?_
    refine lv_iconst (v := 1) hx hb dX6_build_22 (by decide) ?_
    refine c_s1 (va_runV (As := [.int 1]) (rest := []) ⟨hx, hb, hml, hown, hts⟩ (c_X6_fail l D ct Z σ 0 bst rf 1) (cwV 1 hts (GG w_924 w_926 w_35 w_65 w_927) rfl rfl rfl (by decide) ⟨Nat.le_of_ble_eq_true rfl, Nat.le_of_ble_eq_true rfl⟩) ⟨(blindT fun _ _ _ _ h => h), Ob.recv (hT).1 hP2.o rfl, fun U hU hW => ⟨rfl, hT.warm hW, by rw [hU]; exact ⟨fun q hq => Nat.lt_of_lt_of_le (hZs q hq) hS2.1, hP2⟩⟩⟩ rfl rfl hl.1 rfl (lv_room (Nat.le_of_ble_eq_true rfl)) dX6_build_23 ⟨Nat.le_of_ble_eq_true rfl, Nat.le_of_ble_eq_true rfl⟩) hS2 (fun x23 H23 locs23 hRr23 hzz23 hS23 => ?_)
    obtain ⟨rfl, hRr23⟩ := hRr23
    have hP23 : RP D ct Z (σ) (1) bst rf H23 := hRr23
    refine W.widen (k := 1) (n := 7) (Nat.le_of_ble_eq_true rfl) (Nat.le_of_ble_eq_true rfl) ?_
    have ho : o_build σ a b hrs trf srg stc = (1, 0, σ) := by simp [o_build, c_10]
    exact W.iret (v := 0) hx hb hr (fun t ht hW => ⟨_, rfl, by rw [ht]; exact ⟨by rw [ho], bst, by rw [ho]; exact hP23⟩, hS23.F ht⟩) (fun z h => hS23.2.2 z h) dX6_build_26
  · -- not taken
    replace c_10 := b2_nz c_10
    obtain ⟨t10, ht10, hv10⟩ := okT hT1 hT10 c_10
    subst hv10
    have ix10 : ix (nI t10) = t10 := ix_n (by omega)
    refine lv_aload_n hx hb dX6_build_13 rfl (lv_at hl 0 rfl) ?_
    refine lv_iload_n hx hb dX6_build_14 rfl (lv_at hl 2 rfl) ?_
    refine c_p1 (va_runV (As := [.int b]) (rest := []) ⟨hx, hb, hml, hown, hts⟩ (c_X6_isTown l D ct Z σ 0 bst rf b hT1 (by omega)) (cwV 1 hts (GG w_932 w_934 w_36 w_65 w_935) rfl rfl rfl (by decide) ⟨Nat.le_of_ble_eq_true rfl, Nat.le_of_ble_eq_true rfl⟩) ⟨(blindT fun _ _ _ _ h => h), Ob.recv (hT).1 hP2.o rfl, fun U hU hW => ⟨rfl, hT.warm hW, by rw [hU]; exact hP2⟩⟩ rfl rfl hl.1 rfl (lv_room (Nat.le_of_ble_eq_true rfl)) dX6_build_15 ⟨Nat.le_of_ble_eq_true rfl, Nat.le_of_ble_eq_true rfl⟩) ?_
    refine lv_if_ne (tgt := 27) hx hb dX6_build_18 (by decide) (fun c_18 => ?_) (fun c_18 => ?_)
    · -- taken
      replace c_18 := b2_nz c_18
      obtain ⟨t18, ht18, hv18⟩ := okT hT1 hT10 c_18
      subst hv18
      have ix18 : ix (nI t18) = t18 := ix_n (by omega)
      refine lv_iload_n hx hb dX6_build_27 rfl (lv_at hl 1 rfl) ?_
      refine lv_iload_n hx hb dX6_build_28 rfl (lv_at hl 2 rfl) ?_
      refine lv_icmp_eq (tgt := 75) hx hb dX6_build_29 (by decide) (fun c_29 => ?_) (fun c_29 => ?_)
      · -- taken
        have nc_29 : t10 = t18 := (nI_eq (a := t10) (b := t18) (by omega) (by omega)).mp c_29
        refine lv_aload_n hx hb dX6_build_75 rfl (lv_at hl 0 rfl) ?_
        refine lv_iconst (v := 2) hx hb dX6_build_76 (by decide) ?_
        refine c_s1 (va_runV (As := [.int 2]) (rest := []) ⟨hx, hb, hml, hown, hts⟩ (c_X6_fail l D ct Z σ 0 bst rf 2) (cwV 1 hts (GG w_924 w_926 w_35 w_65 w_927) rfl rfl rfl (by decide) ⟨Nat.le_of_ble_eq_true rfl, Nat.le_of_ble_eq_true rfl⟩) ⟨(blindT fun _ _ _ _ h => h), Ob.recv (hT).1 hP2.o rfl, fun U hU hW => ⟨rfl, hT.warm hW, by rw [hU]; exact ⟨fun q hq => Nat.lt_of_lt_of_le (hZs q hq) hS2.1, hP2⟩⟩⟩ rfl rfl hl.1 rfl (lv_room (Nat.le_of_ble_eq_true rfl)) dX6_build_77 ⟨Nat.le_of_ble_eq_true rfl, Nat.le_of_ble_eq_true rfl⟩) hS2 (fun x77 H77 locs77 hRr77 hzz77 hS77 => ?_)
        obtain ⟨rfl, hRr77⟩ := hRr77
        have hP77 : RP D ct Z (σ) (2) bst rf H77 := hRr77
        refine W.widen (k := 1) (n := 7) (Nat.le_of_ble_eq_true rfl) (Nat.le_of_ble_eq_true rfl) ?_
        have ho : o_build σ (nI t10) (nI t18) hrs trf srg stc = (2, 0, σ) := by simp [o_build, c_10, ix10, c_18, ix18, c_29]
        exact W.iret (v := 0) hx hb hr (fun t ht hW => ⟨_, rfl, by rw [ht]; exact ⟨by rw [ho], bst, by rw [ho]; exact hP77⟩, hS77.F ht⟩) (fun z h => hS77.2.2 z h) dX6_build_80
      · -- not taken
        have nc_29 : ¬ t10 = t18 := fun z => c_29 ((nI_eq (a := t10) (b := t18) (by omega) (by omega)).mpr z)
        refine lv_iload_n hx hb dX6_build_32 rfl (lv_at hl 3 rfl) ?_
        refine lv_iconst (v := 1) hx hb dX6_build_33 (by decide) ?_
        refine lv_bipush (v := 9) hx hb dX6_build_34 (by decide) ?_
        refine c_p1 (va_runS (As := [.int hrs, .int 1, .int 9]) (rest := []) ⟨hx, hb, hml, hown, hts⟩ (c_X6_isIn l D ct hrs 1 9) (k_cwS 3 hts w_936 w_937 w_65 w_938 rfl rfl (by decide) ⟨Nat.le_of_ble_eq_true rfl, Nat.le_of_ble_eq_true rfl⟩) ⟨(blindT fun _ _ _ _ h => h), fun U hU hW => ⟨rfl, hT.warm hW, trivial⟩⟩ rfl rfl hl.1 rfl (lv_room (Nat.le_of_ble_eq_true rfl)) dX6_build_36 ⟨Nat.le_of_ble_eq_true rfl, Nat.le_of_ble_eq_true rfl⟩) ?_
        refine lv_if_eq (tgt := 75) hx hb dX6_build_39 (by decide) (fun c_39 => ?_) (fun c_39 => ?_)
        · -- taken
          replace c_39 := b2_z c_39
          refine lv_aload_n hx hb dX6_build_75 rfl (lv_at hl 0 rfl) ?_
          refine lv_iconst (v := 2) hx hb dX6_build_76 (by decide) ?_
          refine c_s1 (va_runV (As := [.int 2]) (rest := []) ⟨hx, hb, hml, hown, hts⟩ (c_X6_fail l D ct Z σ 0 bst rf 2) (cwV 1 hts (GG w_924 w_926 w_35 w_65 w_927) rfl rfl rfl (by decide) ⟨Nat.le_of_ble_eq_true rfl, Nat.le_of_ble_eq_true rfl⟩) ⟨(blindT fun _ _ _ _ h => h), Ob.recv (hT).1 hP2.o rfl, fun U hU hW => ⟨rfl, hT.warm hW, by rw [hU]; exact ⟨fun q hq => Nat.lt_of_lt_of_le (hZs q hq) hS2.1, hP2⟩⟩⟩ rfl rfl hl.1 rfl (lv_room (Nat.le_of_ble_eq_true rfl)) dX6_build_77 ⟨Nat.le_of_ble_eq_true rfl, Nat.le_of_ble_eq_true rfl⟩) hS2 (fun x77 H77 locs77 hRr77 hzz77 hS77 => ?_)
          obtain ⟨rfl, hRr77⟩ := hRr77
          have hP77 : RP D ct Z (σ) (2) bst rf H77 := hRr77
          refine W.widen (k := 1) (n := 7) (Nat.le_of_ble_eq_true rfl) (Nat.le_of_ble_eq_true rfl) ?_
          have ho : o_build σ (nI t10) (nI t18) hrs trf srg stc = (2, 0, σ) := by simp [o_build, c_10, ix10, c_18, ix18, c_29, c_39]
          exact W.iret (v := 0) hx hb hr (fun t ht hW => ⟨_, rfl, by rw [ht]; exact ⟨by rw [ho], bst, by rw [ho]; exact hP77⟩, hS77.F ht⟩) (fun z h => hS77.2.2 z h) dX6_build_80
        · -- not taken
          replace c_39 := b2_nz c_39
          refine lv_iload hx hb dX6_build_42 (lv_at hl 4 rfl) ?_
          refine lv_iconst (v := 0) hx hb dX6_build_44 (by decide) ?_
          refine lv_bipush (v := 20) hx hb dX6_build_45 (by decide) ?_
          refine c_p1 (va_runS (As := [.int trf, .int 0, .int 20]) (rest := []) ⟨hx, hb, hml, hown, hts⟩ (c_X6_isIn l D ct trf 0 20) (k_cwS 3 hts w_936 w_937 w_65 w_938 rfl rfl (by decide) ⟨Nat.le_of_ble_eq_true rfl, Nat.le_of_ble_eq_true rfl⟩) ⟨(blindT fun _ _ _ _ h => h), fun U hU hW => ⟨rfl, hT.warm hW, trivial⟩⟩ rfl rfl hl.1 rfl (lv_room (Nat.le_of_ble_eq_true rfl)) dX6_build_47 ⟨Nat.le_of_ble_eq_true rfl, Nat.le_of_ble_eq_true rfl⟩) ?_
          refine lv_if_eq (tgt := 75) hx hb dX6_build_50 (by decide) (fun c_50 => ?_) (fun c_50 => ?_)
          · -- taken
            replace c_50 := b2_z c_50
            refine lv_aload_n hx hb dX6_build_75 rfl (lv_at hl 0 rfl) ?_
            refine lv_iconst (v := 2) hx hb dX6_build_76 (by decide) ?_
            refine c_s1 (va_runV (As := [.int 2]) (rest := []) ⟨hx, hb, hml, hown, hts⟩ (c_X6_fail l D ct Z σ 0 bst rf 2) (cwV 1 hts (GG w_924 w_926 w_35 w_65 w_927) rfl rfl rfl (by decide) ⟨Nat.le_of_ble_eq_true rfl, Nat.le_of_ble_eq_true rfl⟩) ⟨(blindT fun _ _ _ _ h => h), Ob.recv (hT).1 hP2.o rfl, fun U hU hW => ⟨rfl, hT.warm hW, by rw [hU]; exact ⟨fun q hq => Nat.lt_of_lt_of_le (hZs q hq) hS2.1, hP2⟩⟩⟩ rfl rfl hl.1 rfl (lv_room (Nat.le_of_ble_eq_true rfl)) dX6_build_77 ⟨Nat.le_of_ble_eq_true rfl, Nat.le_of_ble_eq_true rfl⟩) hS2 (fun x77 H77 locs77 hRr77 hzz77 hS77 => ?_)
            obtain ⟨rfl, hRr77⟩ := hRr77
            have hP77 : RP D ct Z (σ) (2) bst rf H77 := hRr77
            refine W.widen (k := 1) (n := 7) (Nat.le_of_ble_eq_true rfl) (Nat.le_of_ble_eq_true rfl) ?_
            have ho : o_build σ (nI t10) (nI t18) hrs trf srg stc = (2, 0, σ) := by simp [o_build, c_10, ix10, c_18, ix18, c_29, c_39, c_50]
            exact W.iret (v := 0) hx hb hr (fun t ht hW => ⟨_, rfl, by rw [ht]; exact ⟨by rw [ho], bst, by rw [ho]; exact hP77⟩, hS77.F ht⟩) (fun z h => hS77.2.2 z h) dX6_build_80
          · -- not taken
            replace c_50 := b2_nz c_50
            refine lv_iload hx hb dX6_build_53 (lv_at hl 5 rfl) ?_
            refine lv_iconst (v := 0) hx hb dX6_build_55 (by decide) ?_
            refine lv_bipush (v := 30) hx hb dX6_build_56 (by decide) ?_
            refine c_p1 (va_runS (As := [.int srg, .int 0, .int 30]) (rest := []) ⟨hx, hb, hml, hown, hts⟩ (c_X6_isIn l D ct srg 0 30) (k_cwS 3 hts w_936 w_937 w_65 w_938 rfl rfl (by decide) ⟨Nat.le_of_ble_eq_true rfl, Nat.le_of_ble_eq_true rfl⟩) ⟨(blindT fun _ _ _ _ h => h), fun U hU hW => ⟨rfl, hT.warm hW, trivial⟩⟩ rfl rfl hl.1 rfl (lv_room (Nat.le_of_ble_eq_true rfl)) dX6_build_58 ⟨Nat.le_of_ble_eq_true rfl, Nat.le_of_ble_eq_true rfl⟩) ?_
            refine lv_if_eq (tgt := 75) hx hb dX6_build_61 (by decide) (fun c_61 => ?_) (fun c_61 => ?_)
            · -- taken
              replace c_61 := b2_z c_61
              refine lv_aload_n hx hb dX6_build_75 rfl (lv_at hl 0 rfl) ?_
              refine lv_iconst (v := 2) hx hb dX6_build_76 (by decide) ?_
              refine c_s1 (va_runV (As := [.int 2]) (rest := []) ⟨hx, hb, hml, hown, hts⟩ (c_X6_fail l D ct Z σ 0 bst rf 2) (cwV 1 hts (GG w_924 w_926 w_35 w_65 w_927) rfl rfl rfl (by decide) ⟨Nat.le_of_ble_eq_true rfl, Nat.le_of_ble_eq_true rfl⟩) ⟨(blindT fun _ _ _ _ h => h), Ob.recv (hT).1 hP2.o rfl, fun U hU hW => ⟨rfl, hT.warm hW, by rw [hU]; exact ⟨fun q hq => Nat.lt_of_lt_of_le (hZs q hq) hS2.1, hP2⟩⟩⟩ rfl rfl hl.1 rfl (lv_room (Nat.le_of_ble_eq_true rfl)) dX6_build_77 ⟨Nat.le_of_ble_eq_true rfl, Nat.le_of_ble_eq_true rfl⟩) hS2 (fun x77 H77 locs77 hRr77 hzz77 hS77 => ?_)
              obtain ⟨rfl, hRr77⟩ := hRr77
              have hP77 : RP D ct Z (σ) (2) bst rf H77 := hRr77
              refine W.widen (k := 1) (n := 7) (Nat.le_of_ble_eq_true rfl) (Nat.le_of_ble_eq_true rfl) ?_
              have ho : o_build σ (nI t10) (nI t18) hrs trf srg stc = (2, 0, σ) := by simp [o_build, c_10, ix10, c_18, ix18, c_29, c_39, c_50, c_61]
              exact W.iret (v := 0) hx hb hr (fun t ht hW => ⟨_, rfl, by rw [ht]; exact ⟨by rw [ho], bst, by rw [ho]; exact hP77⟩, hS77.F ht⟩) (fun z h => hS77.2.2 z h) dX6_build_80
            · -- not taken
              replace c_61 := b2_nz c_61
              refine lv_iload hx hb dX6_build_64 (lv_at hl 6 rfl) ?_
              refine lv_iconst (v := 0) hx hb dX6_build_66 (by decide) ?_
              refine lv_bipush (v := 9) hx hb dX6_build_67 (by decide) ?_
              refine c_p1 (va_runS (As := [.int stc, .int 0, .int 9]) (rest := []) ⟨hx, hb, hml, hown, hts⟩ (c_X6_isIn l D ct stc 0 9) (k_cwS 3 hts w_936 w_937 w_65 w_938 rfl rfl (by decide) ⟨Nat.le_of_ble_eq_true rfl, Nat.le_of_ble_eq_true rfl⟩) ⟨(blindT fun _ _ _ _ h => h), fun U hU hW => ⟨rfl, hT.warm hW, trivial⟩⟩ rfl rfl hl.1 rfl (lv_room (Nat.le_of_ble_eq_true rfl)) dX6_build_69 ⟨Nat.le_of_ble_eq_true rfl, Nat.le_of_ble_eq_true rfl⟩) ?_
              refine lv_if_ne (tgt := 81) hx hb dX6_build_72 (by decide) (fun c_72 => ?_) (fun c_72 => ?_)
              · -- taken
                replace c_72 := b2_nz c_72
                refine lv_aload_n hx hb dX6_build_81 rfl (lv_at hl 0 rfl) ?_
                refine k_get (C := RX6) (T := TX6) (N := 14) hx hb hts inGX6 hown (hT).1 hP2.o rfl 10 (by decide) (hts _ w_882) (fun _ h9 => h9) (v := .ref (rf 1)) rfl dX6_build_82 ?_
                refine lv_iload_n hx hb dX6_build_85 rfl (lv_at hl 1 rfl) ?_
                refine lv_iload_n hx hb dX6_build_86 rfl (lv_at hl 2 rfl) ?_
                refine c_p1 (va_runS (As := [.int (nI t10), .int (nI t18)]) (rest := [.ref (rf 1)]) ⟨hx, hb, hml, hown, hts⟩ (c_X6_base l D ct (nI t10) (nI t18) t10 t18 rfl rfl (by omega) (by omega)) (k_cwS 2 hts w_939 w_940 w_65 w_941 rfl rfl (by decide) ⟨Nat.le_of_ble_eq_true rfl, Nat.le_of_ble_eq_true rfl⟩) ⟨(blindT fun _ _ _ _ h => h), fun U hU hW => ⟨rfl, hT.warm hW, trivial⟩⟩ rfl rfl hl.1 rfl (lv_room (Nat.le_of_ble_eq_true rfl)) dX6_build_87 ⟨Nat.le_of_ble_eq_true rfl, Nat.le_of_ble_eq_true rfl⟩) ?_
                have hk_87 : rk t10 t18 < 100 := rk_lt (by omega) (by omega)
                refine k_iald hx hb (hT).1 hP2.a1 (by rw [(rfl : nI (7 * rk t10 t18) = nI (7 * rk t10 t18))]; exact vp_in_nI (by omega : 7 * rk t10 t18 < 700) (by decide)) dX6_build_90 ?_
                rw [show (nI (7 * rk t10 t18) : Int32).toNatClampNeg = 7 * rk t10 t18 from (congrArg Int32.toNatClampNeg (rfl : nI (7 * rk t10 t18) = nI (7 * rk t10 t18))).trans (nI_clamp (by omega : 7 * rk t10 t18 < 2 ^ 31))]
                refine lv_iconst (v := 1) hx hb dX6_build_91 (by decide) ?_
                refine lv_icmp_ne (tgt := 101) hx hb dX6_build_92 (by decide) (fun c_92 => ?_) (fun c_92 => ?_)
                · -- taken
                  refine lv_bipush (v := 7) hx hb dX6_build_101 (by decide) ?_
                  refine k_newI hx hb (hts _ w_119) (hT).1 hS2 (N := 7) (by decide) (by decide) (by decide) (Nat.le_of_ble_eq_true rfl) (Nat.le_of_ble_eq_true rfl) dX6_build_103 (fun H103 hA103 hz103 hq103 hS103 => ?_)
                  refine W.widen (k := 1) (n := 7) (Nat.le_of_ble_eq_true rfl) (Nat.le_of_ble_eq_true rfl) ?_
                  have hap103 : ∀ i, i < 5 → rf i ≠ H2.size := fun i hi => Nat.ne_of_lt (va_at.lt (hP2.1 i hi).1)
                  have hnz103 : ¬ Z H2.size := fun z => absurd (Nat.lt_of_lt_of_le (hZs _ z) hS2.1) (Nat.lt_irrefl _)
                  have hP103 := hP2.kept hq103
                  refine lv_dup hx hb dX6_build_105 rfl ?_
                  refine lv_iconst (v := 0) hx hb dX6_build_106 (by decide) ?_
                  refine lv_iconst (v := 1) hx hb dX6_build_107 (by decide) ?_
                  refine k_iast hx hb (hT).1 hS103 hnz103 hA103 (vp_in_nI (by decide : 0 < 7) (by decide)) dX6_build_108 (fun H108 locs108 hA108 hz108 hq108 hS108 => ?_)
                  replace hA108 : Ar (ct 0) H2.size (rI 7 (upd (fun _ => 0) 0 1)) H108 := hA108
                  have hP108 : RP D ct Z σ 0 bst rf H108 := hP103.keptN (fun i hi => hq108 _ (hap103 i hi))
                  refine lv_dup hx hb dX6_build_109 rfl ?_
                  refine lv_iconst (v := 1) hx hb dX6_build_110 (by decide) ?_
                  refine lv_iload_n hx hb dX6_build_111 rfl (lv_at hl 3 rfl) ?_
                  refine k_iast hx hb (hT).1 hS108 hnz103 hA108 (vp_in_nI (by decide : 1 < 7) (by decide)) dX6_build_112 (fun H112 locs112 hA112 hz112 hq112 hS112 => ?_)
                  replace hA112 : Ar (ct 0) H2.size (rI 7 (upd (upd (fun _ => 0) 0 1) 1 hrs)) H112 := hA112
                  have hP112 : RP D ct Z σ 0 bst rf H112 := hP108.keptN (fun i hi => hq112 _ (hap103 i hi))
                  refine lv_dup hx hb dX6_build_113 rfl ?_
                  refine lv_iconst (v := 2) hx hb dX6_build_114 (by decide) ?_
                  refine lv_iload hx hb dX6_build_115 (lv_at hl 4 rfl) ?_
                  refine k_iast hx hb (hT).1 hS112 hnz103 hA112 (vp_in_nI (by decide : 2 < 7) (by decide)) dX6_build_117 (fun H117 locs117 hA117 hz117 hq117 hS117 => ?_)
                  replace hA117 : Ar (ct 0) H2.size (rI 7 (upd (upd (upd (fun _ => 0) 0 1) 1 hrs) 2 trf)) H117 := hA117
                  have hP117 : RP D ct Z σ 0 bst rf H117 := hP112.keptN (fun i hi => hq117 _ (hap103 i hi))
                  refine lv_dup hx hb dX6_build_118 rfl ?_
                  refine lv_iconst (v := 3) hx hb dX6_build_119 (by decide) ?_
                  refine lv_iload hx hb dX6_build_120 (lv_at hl 5 rfl) ?_
                  refine k_iast hx hb (hT).1 hS117 hnz103 hA117 (vp_in_nI (by decide : 3 < 7) (by decide)) dX6_build_122 (fun H122 locs122 hA122 hz122 hq122 hS122 => ?_)
                  replace hA122 : Ar (ct 0) H2.size (rI 7 (upd (upd (upd (upd (fun _ => 0) 0 1) 1 hrs) 2 trf) 3 srg)) H122 := hA122
                  have hP122 : RP D ct Z σ 0 bst rf H122 := hP117.keptN (fun i hi => hq122 _ (hap103 i hi))
                  refine lv_dup hx hb dX6_build_123 rfl ?_
                  refine lv_iconst (v := 4) hx hb dX6_build_124 (by decide) ?_
                  refine lv_iload hx hb dX6_build_125 (lv_at hl 6 rfl) ?_
                  refine k_iast hx hb (hT).1 hS122 hnz103 hA122 (vp_in_nI (by decide : 4 < 7) (by decide)) dX6_build_127 (fun H127 locs127 hA127 hz127 hq127 hS127 => ?_)
                  replace hA127 : Ar (ct 0) H2.size (rI 7 (upd (upd (upd (upd (upd (fun _ => 0) 0 1) 1 hrs) 2 trf) 3 srg) 4 stc)) H127 := hA127
                  have hP127 : RP D ct Z σ 0 bst rf H127 := hP122.keptN (fun i hi => hq127 _ (hap103 i hi))
                  refine lv_dup hx hb dX6_build_128 rfl ?_
                  refine lv_iconst (v := 5) hx hb dX6_build_129 (by decide) ?_
                  refine lv_iconst (v := 0) hx hb dX6_build_130 (by decide) ?_
                  refine k_iast hx hb (hT).1 hS127 hnz103 hA127 (vp_in_nI (by decide : 5 < 7) (by decide)) dX6_build_131 (fun H131 locs131 hA131 hz131 hq131 hS131 => ?_)
                  replace hA131 : Ar (ct 0) H2.size (rI 7 (upd (upd (upd (upd (upd (upd (fun _ => 0) 0 1) 1 hrs) 2 trf) 3 srg) 4 stc) 5 0)) H131 := hA131
                  have hP131 : RP D ct Z σ 0 bst rf H131 := hP127.keptN (fun i hi => hq131 _ (hap103 i hi))
                  refine lv_dup hx hb dX6_build_132 rfl ?_
                  refine lv_bipush (v := 6) hx hb dX6_build_133 (by decide) ?_
                  refine lv_iconst (v := 0) hx hb dX6_build_135 (by decide) ?_
                  refine k_iast hx hb (hT).1 hS131 hnz103 hA131 (vp_in_nI (by decide : 6 < 7) (by decide)) dX6_build_136 (fun H136 locs136 hA136 hz136 hq136 hS136 => ?_)
                  replace hA136 : Ar (ct 0) H2.size (rI 7 (upd (upd (upd (upd (upd (upd (upd (fun _ => 0) 0 1) 1 hrs) 2 trf) 3 srg) 4 stc) 5 0) 6 0)) H136 := hA136
                  have hP136 : RP D ct Z σ 0 bst rf H136 := hP131.keptN (fun i hi => hq136 _ (hap103 i hi))
                  refine lv_astore (lv' := [(7, .ref H2.size), (0, .ref (rf 0)), (1, .int (nI t10)), (2, .int (nI t18)), (3, .int hrs), (4, .int trf), (5, .int srg), (6, .int stc)]) hx hb dX6_build_137 hl (by decide) rfl (fun ls hl => ?_)
                  refine lv_aload hx hb dX6_build_139 (lv_at hl 0 rfl) ?_
                  refine lv_iconst (v := 0) hx hb dX6_build_141 (by decide) ?_
                  refine lv_aload_n hx hb dX6_build_142 rfl (lv_at hl 1 rfl) ?_
                  refine k_get (C := RX6) (T := TX6) (N := 14) hx hb hts inGX6 hown (hT).1 hP136.o rfl 10 (by decide) (hts _ w_882) (fun _ h9 => h9) (v := .ref (rf 1)) rfl dX6_build_143 ?_
                  refine lv_iload_n hx hb dX6_build_146 rfl (lv_at hl 2 rfl) ?_
                  refine lv_iload_n hx hb dX6_build_147 rfl (lv_at hl 3 rfl) ?_
                  refine c_p1 (va_runS (As := [.int (nI t10), .int (nI t18)]) (rest := [.ref (rf 1), .int 0, .ref H2.size]) ⟨hx, hb, hml, hown, hts⟩ (c_X6_base l D ct (nI t10) (nI t18) t10 t18 rfl rfl (by omega) (by omega)) (k_cwS 2 hts w_939 w_940 w_65 w_941 rfl rfl (by decide) ⟨Nat.le_of_ble_eq_true rfl, Nat.le_of_ble_eq_true rfl⟩) ⟨(blindT fun _ _ _ _ h => h), fun U hU hW => ⟨rfl, hT.warm hW, trivial⟩⟩ rfl rfl hl.1 rfl (lv_room (Nat.le_of_ble_eq_true rfl)) dX6_build_148 ⟨Nat.le_of_ble_eq_true rfl, Nat.le_of_ble_eq_true rfl⟩) ?_
                  have hk_148 : rk t10 t18 < 100 := rk_lt (by omega) (by omega)
                  refine lv_bipush (v := 7) hx hb dX6_build_151 (by decide) ?_
                  refine k_acpy hx hb (hml.trans hl.1.symm) hown (hts _ w_944) (hts _ w_555) (hts _ w_554) (hts _ w_74) (hT).1 hS136 (hP136.nz (i := 1) (by decide)) hA136 hP136.a1 (rfl : nI (7 * rk t10 t18) = nI (7 * rk t10 t18)) (rfl : (7 : Int32) = nI 7) (Nat.le_of_ble_eq_true rfl) (by omega : 7 * rk t10 t18 + 7 ≤ 700) (by decide) (by decide) (Nat.le_of_ble_eq_true rfl) (Nat.le_of_ble_eq_true rfl) dX6_build_153 (fun H153 locs153 hA153 hz153 hq153 hS153 => ?_)
                  have hP153 : RP D ct Z (rowW σ 3 (7 * rk t10 t18) (upd (upd (upd (upd (upd (upd (upd (fun _ => 0) 0 1) 1 hrs) 2 trf) 3 srg) 4 stc) 5 0) 6 0) 7) (0) bst rf H153 := hP136.row3 _ hA153 hq153 rowW_s (fun a h => rowW_n h)
                  obtain ⟨τ153, hτ153⟩ : ∃ τ : Stt, τ = rowW σ 3 (7 * rk t10 t18) (upd (upd (upd (upd (upd (upd (upd (fun _ => 0) 0 1) 1 hrs) 2 trf) 3 srg) 4 stc) 5 0) 6 0) 7 := ⟨_, rfl⟩
                  rw [← hτ153] at hP153
                  refine lv_aload_n hx hb dX6_build_156 rfl (lv_at hl 1 rfl) ?_
                  refine lv_dup hx hb dX6_build_157 rfl ?_
                  refine k_get (C := RX6) (T := TX6) (N := 14) hx hb hts inGX6 hown (hT).1 hP153.o rfl 3 (by decide) (hts _ w_875) (fun _ h9 => h9) (v := .int (τ153 0 2)) rfl dX6_build_158 ?_
                  have hv161 : τ153 0 2 = σ 0 2 := by rw [hτ153, rowW_n (by decide)]
                  rw [hv161]
                  refine lv_iconst (v := 1) hx hb dX6_build_161 (by decide) ?_
                  refine lv_iadd hx hb dX6_build_162 ?_
                  refine k_put (C := RX6) (T := TX6) (N := 14) hx hb hts inGX6 tyX6 tyX6_ok nmX6 hown (hT).1 hP153.o hS153 (hP153.nz (by decide)) rfl 3 (Nat.le_of_ble_eq_true rfl) (hts _ w_875) (fun _ h9 => h9) rfl (ty := .int) (v := .int ((σ 0 2) + 1)) (by decide +kernel) rfl rfl (Nat.le_of_ble_eq_true rfl) dX6_build_163 (fun H163 locs163 hO163 hz163 hq163 hS163 => ?_)
                  have hO163 : Ob D (rf 0) 7 [.int 0, .int (τ153 0 0), .int (τ153 0 1), .int ((σ 0 2) + 1), .int (τ153 0 3), .int (τ153 0 4), .int (τ153 0 5), .int (τ153 0 6), .int (τ153 0 7), .int (τ153 0 8), .ref (rf 1), .ref (rf 2), .ref (rf 3), .ref (rf 4)] H163 := hO163
                  have hP163 : RP D ct Z (su τ153 0 2 ((σ 0 2) + 1)) (0) bst rf H163 := hP153.s0 2 ((σ 0 2) + 1) hO163 hq163
                  obtain ⟨τ163, hτ163⟩ : ∃ τ : Stt, τ = su τ153 0 2 ((σ 0 2) + 1) := ⟨_, rfl⟩
                  rw [← hτ163] at hP163
                  refine lv_aload_n hx hb dX6_build_166 rfl (lv_at hl 1 rfl) ?_
                  refine k_get (C := RX6) (T := TX6) (N := 14) hx hb hts inGX6 hown (hT).1 hP163.o rfl 3 (by decide) (hts _ w_875) (fun _ h9 => h9) (v := .int (τ163 0 2)) rfl dX6_build_167 ?_
                  have hv170 : τ163 0 2 = σ 0 2 + 1 := by rw [hτ163, su_s]
                  rw [hv170]
                  have hfin : τ163 = bld σ (rk t10 t18) hrs trf srg stc := by rw [hτ163, hτ153]; exact bld_eq (fun j hj => by rcases lt7 hj with rfl | rfl | rfl | rfl | rfl | rfl | rfl <;> rfl)
                  have ho : o_build σ (nI t10) (nI t18) hrs trf srg stc = (0, σ 0 2 + 1, τ163) := by simp [o_build, c_10, ix10, c_18, ix18, c_29, c_39, c_50, c_61, c_72, c_92, hfin]
                  exact W.iret (v := σ 0 2 + 1) hx hb hr (fun t ht hW => ⟨_, rfl, by rw [ht]; exact ⟨by rw [ho], bst, by rw [ho]; exact hP163⟩, hS163.F ht⟩) (fun z h => hS163.2.2 z h) dX6_build_170
                · -- not taken
                  refine lv_aload_n hx hb dX6_build_95 rfl (lv_at hl 0 rfl) ?_
                  refine lv_iconst (v := 3) hx hb dX6_build_96 (by decide) ?_
                  refine c_s1 (va_runV (As := [.int 3]) (rest := []) ⟨hx, hb, hml, hown, hts⟩ (c_X6_fail l D ct Z σ 0 bst rf 3) (cwV 1 hts (GG w_924 w_926 w_35 w_65 w_927) rfl rfl rfl (by decide) ⟨Nat.le_of_ble_eq_true rfl, Nat.le_of_ble_eq_true rfl⟩) ⟨(blindT fun _ _ _ _ h => h), Ob.recv (hT).1 hP2.o rfl, fun U hU hW => ⟨rfl, hT.warm hW, by rw [hU]; exact ⟨fun q hq => Nat.lt_of_lt_of_le (hZs q hq) hS2.1, hP2⟩⟩⟩ rfl rfl hl.1 rfl (lv_room (Nat.le_of_ble_eq_true rfl)) dX6_build_97 ⟨Nat.le_of_ble_eq_true rfl, Nat.le_of_ble_eq_true rfl⟩) hS2 (fun x97 H97 locs97 hRr97 hzz97 hS97 => ?_)
                  obtain ⟨rfl, hRr97⟩ := hRr97
                  have hP97 : RP D ct Z (σ) (3) bst rf H97 := hRr97
                  refine W.widen (k := 1) (n := 7) (Nat.le_of_ble_eq_true rfl) (Nat.le_of_ble_eq_true rfl) ?_
                  have ho : o_build σ (nI t10) (nI t18) hrs trf srg stc = (3, 0, σ) := by simp [o_build, c_10, ix10, c_18, ix18, c_29, c_39, c_50, c_61, c_72, c_92]
                  exact W.iret (v := 0) hx hb hr (fun t ht hW => ⟨_, rfl, by rw [ht]; exact ⟨by rw [ho], bst, by rw [ho]; exact hP97⟩, hS97.F ht⟩) (fun z h => hS97.2.2 z h) dX6_build_100
              · -- not taken
                replace c_72 := b2_z c_72
                refine lv_aload_n hx hb dX6_build_75 rfl (lv_at hl 0 rfl) ?_
                refine lv_iconst (v := 2) hx hb dX6_build_76 (by decide) ?_
                refine c_s1 (va_runV (As := [.int 2]) (rest := []) ⟨hx, hb, hml, hown, hts⟩ (c_X6_fail l D ct Z σ 0 bst rf 2) (cwV 1 hts (GG w_924 w_926 w_35 w_65 w_927) rfl rfl rfl (by decide) ⟨Nat.le_of_ble_eq_true rfl, Nat.le_of_ble_eq_true rfl⟩) ⟨(blindT fun _ _ _ _ h => h), Ob.recv (hT).1 hP2.o rfl, fun U hU hW => ⟨rfl, hT.warm hW, by rw [hU]; exact ⟨fun q hq => Nat.lt_of_lt_of_le (hZs q hq) hS2.1, hP2⟩⟩⟩ rfl rfl hl.1 rfl (lv_room (Nat.le_of_ble_eq_true rfl)) dX6_build_77 ⟨Nat.le_of_ble_eq_true rfl, Nat.le_of_ble_eq_true rfl⟩) hS2 (fun x77 H77 locs77 hRr77 hzz77 hS77 => ?_)
                obtain ⟨rfl, hRr77⟩ := hRr77
                have hP77 : RP D ct Z (σ) (2) bst rf H77 := hRr77
                refine W.widen (k := 1) (n := 7) (Nat.le_of_ble_eq_true rfl) (Nat.le_of_ble_eq_true rfl) ?_
                have ho : o_build σ (nI t10) (nI t18) hrs trf srg stc = (2, 0, σ) := by simp [o_build, c_10, ix10, c_18, ix18, c_29, c_39, c_50, c_61, c_72]
                exact W.iret (v := 0) hx hb hr (fun t ht hW => ⟨_, rfl, by rw [ht]; exact ⟨by rw [ho], bst, by rw [ho]; exact hP77⟩, hS77.F ht⟩) (fun z h => hS77.2.2 z h) dX6_build_80
    · -- not taken
      replace c_18 := b2_z c_18
      refine lv_aload_n hx hb dX6_build_21 rfl (lv_at hl 0 rfl) ?_
      refine lv_iconst (v := 1) hx hb dX6_build_22 (by decide) ?_
      refine c_s1 (va_runV (As := [.int 1]) (rest := []) ⟨hx, hb, hml, hown, hts⟩ (c_X6_fail l D ct Z σ 0 bst rf 1) (cwV 1 hts (GG w_924 w_926 w_35 w_65 w_927) rfl rfl rfl (by decide) ⟨Nat.le_of_ble_eq_true rfl, Nat.le_of_ble_eq_true rfl⟩) ⟨(blindT fun _ _ _ _ h => h), Ob.recv (hT).1 hP2.o rfl, fun U hU hW => ⟨rfl, hT.warm hW, by rw [hU]; exact ⟨fun q hq => Nat.lt_of_lt_of_le (hZs q hq) hS2.1, hP2⟩⟩⟩ rfl rfl hl.1 rfl (lv_room (Nat.le_of_ble_eq_true rfl)) dX6_build_23 ⟨Nat.le_of_ble_eq_true rfl, Nat.le_of_ble_eq_true rfl⟩) hS2 (fun x23 H23 locs23 hRr23 hzz23 hS23 => ?_)
      obtain ⟨rfl, hRr23⟩ := hRr23
      have hP23 : RP D ct Z (σ) (1) bst rf H23 := hRr23
      refine W.widen (k := 1) (n := 7) (Nat.le_of_ble_eq_true rfl) (Nat.le_of_ble_eq_true rfl) ?_
      have ho : o_build σ (nI t10) b hrs trf srg stc = (1, 0, σ) := by simp [o_build, c_10, ix10, c_18]
      exact W.iret (v := 0) hx hb hr (fun t ht hW => ⟨_, rfl, by rw [ht]; exact ⟨by rw [ho], bst, by rw [ho]; exact hP23⟩, hS23.F ht⟩) (fun z h => hS23.2.2 z h) dX6_build_26

/-! addTown -/
set_option maxHeartbeats 4000000 in
set_option maxRecDepth 100000 in
theorem c_X6_addTown (l : Launch) (D : va_G) (ct : Nat → ClassId) (Z : Nat → Prop) (σ : Stt) (th : Int32) (bst : Nat → Int64) (rf : Nat → Nat) (hI : Inv σ) : Met l yX6_addTown (.code yX6_addTown cX6_addTown 1 (some .int) :: GW) ({ frames := 1, cells := 0, slots := 0, locals := 21 } : Room) (va_Pc [.ref (rf 0)] (fun U => GT D ct U ∧ (∀ q, Z q → q < U.heap.size) ∧ RP D ct Z σ th bst rf U.heap)) (qS1 Z (fun x h => x = .int (o_addTown σ).2.1 ∧ ∃ b1, RP D ct Z (o_addTown σ).2.2 (nI (o_addTown σ).1) b1 rf h)) 0 0 (nZ Z) := by
  refine m_in (cc := cX6_addTown) [.ref (rf 0)] "RumourCustomsModel" rfl (by decide) (Nat.le_of_ble_eq_true rfl) ?_
  intro pg e s m args below meth cd ls hx hb hml hown hts hr hlocks hin hPr hl
  obtain ⟨hT, hZs, hP⟩ := hPr
  have hl : lv_has ls 1 [(0, .ref (rf 0))] := hl
  have hS : va_S (nZ Z) s.heap s.heap [] := va_S.rf
  have hT1 := hI.1.1
  have hT10 := hI.1.2
  have hR1 := hI.2.1.1
  have hR60 := hI.2.1.2
  have hC1 := hI.2.2.1.1
  have hC8 := hI.2.2.1.2
  refine lv_aload_n hx hb dX6_addTown_0 rfl (lv_at hl 0 rfl) ?_
  refine lv_iconst (v := 0) hx hb dX6_addTown_1 (by decide) ?_
  refine k_put (C := RX6) (T := TX6) (N := 14) hx hb hts inGX6 tyX6 tyX6_ok nmX6 hown (hT).1 hP.o hS (hP.nz (by decide)) rfl 0 (Nat.le_of_ble_eq_true rfl) (hts _ w_872) (fun _ h9 => h9) rfl (ty := .int) (v := .int 0) (by decide +kernel) rfl rfl (Nat.le_of_ble_eq_true rfl) dX6_addTown_2 (fun H2 locs2 hO2 hz2 hq2 hS2 => ?_)
  have hO2 : Ob D (rf 0) 7 [.int 0, .int (σ 0 0), .int (σ 0 1), .int (σ 0 2), .int (σ 0 3), .int (σ 0 4), .int (σ 0 5), .int (σ 0 6), .int (σ 0 7), .int (σ 0 8), .ref (rf 1), .ref (rf 2), .ref (rf 3), .ref (rf 4)] H2 := hO2
  have hP2 : RP D ct Z (σ) (0) bst rf H2 := hP.st 0 hO2 hq2
  refine lv_aload_n hx hb dX6_addTown_5 rfl (lv_at hl 0 rfl) ?_
  refine k_get (C := RX6) (T := TX6) (N := 14) hx hb hts inGX6 hown (hT).1 hP2.o rfl 2 (by decide) (hts _ w_874) (fun _ h9 => h9) (v := .int (σ 0 1)) rfl dX6_addTown_6 ?_
  refine lv_bipush (v := 10) hx hb dX6_addTown_9 (by decide) ?_
  refine lv_icmp_ne (tgt := 20) hx hb dX6_addTown_11 (by decide) (fun c_11 => ?_) (fun c_11 => ?_)
  · -- taken
    have hne : nT σ ≠ 10 := fun z => c_11 (by rw [hT1, z]; rfl)
    have hlt : σ 0 1 < 10 := by rw [hT1]; exact nI_lt (b := 10) (by omega) (by decide)
    refine lv_aload_n hx hb dX6_addTown_20 rfl (lv_at hl 0 rfl) ?_
    refine lv_dup hx hb dX6_addTown_21 rfl ?_
    refine k_get (C := RX6) (T := TX6) (N := 14) hx hb hts inGX6 hown (hT).1 hP2.o rfl 2 (by decide) (hts _ w_874) (fun _ h9 => h9) (v := .int (σ 0 1)) rfl dX6_addTown_22 ?_
    refine lv_iconst (v := 1) hx hb dX6_addTown_25 (by decide) ?_
    refine lv_iadd hx hb dX6_addTown_26 ?_
    refine k_put (C := RX6) (T := TX6) (N := 14) hx hb hts inGX6 tyX6 tyX6_ok nmX6 hown (hT).1 hP2.o hS2 (hP2.nz (by decide)) rfl 2 (Nat.le_of_ble_eq_true rfl) (hts _ w_874) (fun _ h9 => h9) rfl (ty := .int) (v := .int ((σ 0 1) + 1)) (by decide +kernel) rfl rfl (Nat.le_of_ble_eq_true rfl) dX6_addTown_27 (fun H27 locs27 hO27 hz27 hq27 hS27 => ?_)
    have hO27 : Ob D (rf 0) 7 [.int 0, .int (σ 0 0), .int ((σ 0 1) + 1), .int (σ 0 2), .int (σ 0 3), .int (σ 0 4), .int (σ 0 5), .int (σ 0 6), .int (σ 0 7), .int (σ 0 8), .ref (rf 1), .ref (rf 2), .ref (rf 3), .ref (rf 4)] H27 := hO27
    have hP27 : RP D ct Z (su σ 0 1 ((σ 0 1) + 1)) (0) bst rf H27 := hP2.s0 1 ((σ 0 1) + 1) hO27 hq27
    obtain ⟨τ27, hτ27⟩ : ∃ τ : Stt, τ = su σ 0 1 ((σ 0 1) + 1) := ⟨_, rfl⟩
    rw [← hτ27] at hP27
    refine lv_aload_n hx hb dX6_addTown_30 rfl (lv_at hl 0 rfl) ?_
    refine k_get (C := RX6) (T := TX6) (N := 14) hx hb hts inGX6 hown (hT).1 hP27.o rfl 2 (by decide) (hts _ w_874) (fun _ h9 => h9) (v := .int (τ27 0 1)) rfl dX6_addTown_31 ?_
    have hv34 : τ27 0 1 = σ 0 1 + 1 := by rw [hτ27, su_s]
    rw [hv34]
    refine lv_iconst (v := 1) hx hb dX6_addTown_34 (by decide) ?_
    refine lv_isub hx hb dX6_addTown_35 ?_
    have ho : o_addTown σ = (0, (σ 0 1 + 1) - 1, τ27) := by simp [o_addTown, hlt, hτ27]
    exact W.iret (v := (σ 0 1 + 1) - 1) hx hb hr (fun t ht hW => ⟨_, rfl, by rw [ht]; exact ⟨by rw [ho], bst, by rw [ho]; exact hP27⟩, hS27.F ht⟩) (fun z h => hS27.2.2 z h) dX6_addTown_36
  · -- not taken
    have hlt : ¬ σ 0 1 < 10 := by rw [c_11]; decide
    refine lv_aload_n hx hb dX6_addTown_14 rfl (lv_at hl 0 rfl) ?_
    refine lv_iconst (v := 1) hx hb dX6_addTown_15 (by decide) ?_
    refine c_s1 (va_runV (As := [.int 1]) (rest := []) ⟨hx, hb, hml, hown, hts⟩ (c_X6_fail l D ct Z σ 0 bst rf 1) (cwV 1 hts (GG w_924 w_926 w_35 w_65 w_927) rfl rfl rfl (by decide) ⟨Nat.le_of_ble_eq_true rfl, Nat.le_of_ble_eq_true rfl⟩) ⟨(blindT fun _ _ _ _ h => h), Ob.recv (hT).1 hP2.o rfl, fun U hU hW => ⟨rfl, hT.warm hW, by rw [hU]; exact ⟨fun q hq => Nat.lt_of_lt_of_le (hZs q hq) hS2.1, hP2⟩⟩⟩ rfl rfl hl.1 rfl (lv_room (Nat.le_of_ble_eq_true rfl)) dX6_addTown_16 ⟨Nat.le_of_ble_eq_true rfl, Nat.le_of_ble_eq_true rfl⟩) hS2 (fun x16 H16 locs16 hRr16 hzz16 hS16 => ?_)
    obtain ⟨rfl, hRr16⟩ := hRr16
    have hP16 : RP D ct Z (σ) (1) bst rf H16 := hRr16
    have ho : o_addTown σ = (1, 0, σ) := by simp [o_addTown, hlt]
    exact W.iret (v := 0) hx hb hr (fun t ht hW => ⟨_, rfl, by rw [ht]; exact ⟨by rw [ho], bst, by rw [ho]; exact hP16⟩, hS16.F ht⟩) (fun z h => hS16.2.2 z h) dX6_addTown_19

/-! lay -/
set_option maxHeartbeats 4000000 in
set_option maxRecDepth 100000 in
theorem c_X6_lay (l : Launch) (D : va_G) (ct : Nat → ClassId) (Z : Nat → Prop) (σ : Stt) (th : Int32) (bst : Nat → Int64) (rf : Nat → Nat) (r : Nat) (t b : Int32) (hrn : r < 60) : Met l yX6_lay (.code yX6_lay cX6_lay 4 none :: GW) ({ frames := 1, cells := 0, slots := 0, locals := 23 } : Room) (va_Pc [.ref (rf 0), .int (nI r), .int t, .int b] (fun U => GT D ct U ∧ (∀ q, Z q → q < U.heap.size) ∧ RP D ct Z σ th bst rf U.heap)) (qS0 Z (fun h => RP D ct Z (lay σ r t b) (th) bst rf h)) 0 0 (nZ Z) := by
  refine m_in (cc := cX6_lay) [.ref (rf 0), .int (nI r), .int t, .int b] "RumourCustomsModel" rfl (by decide) (Nat.le_of_ble_eq_true rfl) ?_
  intro pg e s m args below meth cd ls hx hb hml hown hts hr hlocks hin hPr hl
  obtain ⟨hT, hZs, hP⟩ := hPr
  have hl : lv_has ls 4 [(0, .ref (rf 0)), (1, .int (nI r)), (2, .int t), (3, .int b)] := hl
  have hS : va_S (nZ Z) s.heap s.heap [] := va_S.rf
  refine lv_aload_n hx hb dX6_lay_0 rfl (lv_at hl 0 rfl) ?_
  refine lv_iload_n hx hb dX6_lay_1 rfl (lv_at hl 1 rfl) ?_
  refine lv_iconst (v := 4) hx hb dX6_lay_2 (by decide) ?_
  refine lv_iload_n hx hb dX6_lay_3 rfl (lv_at hl 2 rfl) ?_
  refine c_s0 (va_runV (As := [.int (nI r), .int 4, .int t]) (rest := []) ⟨hx, hb, hml, hown, hts⟩ (c_X6_set l D ct Z σ th bst rf r 4 t 4 (by omega) rfl (by decide)) (cwV 3 hts (GG w_1014 w_1016 w_47 w_65 w_1017) rfl rfl rfl (by decide) ⟨Nat.le_of_ble_eq_true rfl, Nat.le_of_ble_eq_true rfl⟩) ⟨(blindT fun _ _ _ _ h => h), Ob.recv (hT).1 hP.o rfl, fun U hU hW => ⟨rfl, hT.warm hW, by rw [hU]; exact ⟨fun q hq => Nat.lt_of_lt_of_le (hZs q hq) hS.1, hP⟩⟩⟩ rfl rfl hl.1 rfl (lv_room (Nat.le_of_ble_eq_true rfl)) dX6_lay_4 ⟨Nat.le_of_ble_eq_true rfl, Nat.le_of_ble_eq_true rfl⟩) hS (fun H4 locs4 hRr4 hzz4 hS4 => ?_)
  have hP4 : RP D ct Z (su σ 1 (7 * r + 4) t) (th) bst rf H4 := hRr4
  obtain ⟨τ4, hτ4⟩ : ∃ τ : Stt, τ = su σ 1 (7 * r + 4) t := ⟨_, rfl⟩
  rw [← hτ4] at hP4
  refine lv_aload_n hx hb dX6_lay_7 rfl (lv_at hl 0 rfl) ?_
  refine lv_iload_n hx hb dX6_lay_8 rfl (lv_at hl 1 rfl) ?_
  refine lv_iconst (v := 5) hx hb dX6_lay_9 (by decide) ?_
  refine lv_iload_n hx hb dX6_lay_10 rfl (lv_at hl 3 rfl) ?_
  refine c_s0 (va_runV (As := [.int (nI r), .int 5, .int b]) (rest := []) ⟨hx, hb, hml, hown, hts⟩ (c_X6_set l D ct Z τ4 th bst rf r 5 b 5 (by omega) rfl (by decide)) (cwV 3 hts (GG w_1014 w_1016 w_47 w_65 w_1017) rfl rfl rfl (by decide) ⟨Nat.le_of_ble_eq_true rfl, Nat.le_of_ble_eq_true rfl⟩) ⟨(blindT fun _ _ _ _ h => h), Ob.recv (hT).1 hP4.o rfl, fun U hU hW => ⟨rfl, hT.warm hW, by rw [hU]; exact ⟨fun q hq => Nat.lt_of_lt_of_le (hZs q hq) hS4.1, hP4⟩⟩⟩ rfl rfl hl.1 rfl (lv_room (Nat.le_of_ble_eq_true rfl)) dX6_lay_11 ⟨Nat.le_of_ble_eq_true rfl, Nat.le_of_ble_eq_true rfl⟩) hS4 (fun H11 locs11 hRr11 hzz11 hS11 => ?_)
  have hP11 : RP D ct Z (su τ4 1 (7 * r + 5) b) (th) bst rf H11 := hRr11
  obtain ⟨τ11, hτ11⟩ : ∃ τ : Stt, τ = su τ4 1 (7 * r + 5) b := ⟨_, rfl⟩
  rw [← hτ11] at hP11
  refine lv_aload_n hx hb dX6_lay_14 rfl (lv_at hl 0 rfl) ?_
  refine lv_iload_n hx hb dX6_lay_15 rfl (lv_at hl 1 rfl) ?_
  refine lv_bipush (v := 6) hx hb dX6_lay_16 (by decide) ?_
  refine lv_iconst (v := 0) hx hb dX6_lay_18 (by decide) ?_
  refine c_s0 (va_runV (As := [.int (nI r), .int 6, .int 0]) (rest := []) ⟨hx, hb, hml, hown, hts⟩ (c_X6_set l D ct Z τ11 th bst rf r 6 0 6 (by omega) rfl (by decide)) (cwV 3 hts (GG w_1014 w_1016 w_47 w_65 w_1017) rfl rfl rfl (by decide) ⟨Nat.le_of_ble_eq_true rfl, Nat.le_of_ble_eq_true rfl⟩) ⟨(blindT fun _ _ _ _ h => h), Ob.recv (hT).1 hP11.o rfl, fun U hU hW => ⟨rfl, hT.warm hW, by rw [hU]; exact ⟨fun q hq => Nat.lt_of_lt_of_le (hZs q hq) hS11.1, hP11⟩⟩⟩ rfl rfl hl.1 rfl (lv_room (Nat.le_of_ble_eq_true rfl)) dX6_lay_19 ⟨Nat.le_of_ble_eq_true rfl, Nat.le_of_ble_eq_true rfl⟩) hS11 (fun H19 locs19 hRr19 hzz19 hS19 => ?_)
  have hP19 : RP D ct Z (su τ11 1 (7 * r + 6) 0) (th) bst rf H19 := hRr19
  obtain ⟨τ19, hτ19⟩ : ∃ τ : Stt, τ = su τ11 1 (7 * r + 6) 0 := ⟨_, rfl⟩
  rw [← hτ19] at hP19
  exact W.vret hx hb hr (fun t ht hW => ⟨rfl, by rw [ht]; exact (by subst hτ19 hτ11 hτ4; exact hP19), hS19.F ht⟩) (fun z h => hS19.2.2 z h) dX6_lay_22

/-! take -/
set_option maxHeartbeats 4000000 in
set_option maxRecDepth 100000 in
theorem c_X6_take (l : Launch) (D : va_G) (ct : Nat → ClassId) (Z : Nat → Prop) (σ : Stt) (th : Int32) (bst : Nat → Int64) (rf : Nat → Nat) (c r : Int32) (hI : Inv σ) (hB : BG σ) : Met l yX6_take (.code yX6_take cX6_take 3 (some .int) :: GW) ({ frames := 2, cells := 0, slots := 0, locals := 46 } : Room) (va_Pc [.ref (rf 0), .int c, .int r] (fun U => GT D ct U ∧ (∀ q, Z q → q < U.heap.size) ∧ RP D ct Z σ th bst rf U.heap)) (qS1 Z (fun x h => x = .int (o_take σ c r).2.1 ∧ ∃ b1, RP D ct Z (o_take σ c r).2.2 (nI (o_take σ c r).1) b1 rf h)) 0 0 (nZ Z) := by
  refine m_in (cc := cX6_take) [.ref (rf 0), .int c, .int r] "RumourCustomsModel" rfl (by decide) (Nat.le_of_ble_eq_true rfl) ?_
  intro pg e s m args below meth cd ls hx hb hml hown hts hr hlocks hin hPr hl
  obtain ⟨hT, hZs, hP⟩ := hPr
  have hl : lv_has ls 3 [(0, .ref (rf 0)), (1, .int c), (2, .int r)] := hl
  have hS : va_S (nZ Z) s.heap s.heap [] := va_S.rf
  have hT1 := hI.1.1
  have hT10 := hI.1.2
  have hR1 := hI.2.1.1
  have hR60 := hI.2.1.2
  have hC1 := hI.2.2.1.1
  have hC8 := hI.2.2.1.2
  refine lv_aload_n hx hb dX6_take_0 rfl (lv_at hl 0 rfl) ?_
  refine lv_iconst (v := 0) hx hb dX6_take_1 (by decide) ?_
  refine k_put (C := RX6) (T := TX6) (N := 14) hx hb hts inGX6 tyX6 tyX6_ok nmX6 hown (hT).1 hP.o hS (hP.nz (by decide)) rfl 0 (Nat.le_of_ble_eq_true rfl) (hts _ w_872) (fun _ h9 => h9) rfl (ty := .int) (v := .int 0) (by decide +kernel) rfl rfl (Nat.le_of_ble_eq_true rfl) dX6_take_2 (fun H2 locs2 hO2 hz2 hq2 hS2 => ?_)
  have hO2 : Ob D (rf 0) 7 [.int 0, .int (σ 0 0), .int (σ 0 1), .int (σ 0 2), .int (σ 0 3), .int (σ 0 4), .int (σ 0 5), .int (σ 0 6), .int (σ 0 7), .int (σ 0 8), .ref (rf 1), .ref (rf 2), .ref (rf 3), .ref (rf 4)] H2 := hO2
  have hP2 : RP D ct Z (σ) (0) bst rf H2 := hP.st 0 hO2 hq2
  refine lv_aload_n hx hb dX6_take_5 rfl (lv_at hl 0 rfl) ?_
  refine lv_iload_n hx hb dX6_take_6 rfl (lv_at hl 1 rfl) ?_
  refine c_p1 (va_runV (As := [.int c]) (rest := []) ⟨hx, hb, hml, hown, hts⟩ (c_X6_isCarrier l D ct Z σ 0 bst rf c hC1 (by omega)) (cwV 1 hts (GG w_1002 w_1004 w_44 w_65 w_1005) rfl rfl rfl (by decide) ⟨Nat.le_of_ble_eq_true rfl, Nat.le_of_ble_eq_true rfl⟩) ⟨(blindT fun _ _ _ _ h => h), Ob.recv (hT).1 hP2.o rfl, fun U hU hW => ⟨rfl, hT.warm hW, by rw [hU]; exact hP2⟩⟩ rfl rfl hl.1 rfl (lv_room (Nat.le_of_ble_eq_true rfl)) dX6_take_7 ⟨Nat.le_of_ble_eq_true rfl, Nat.le_of_ble_eq_true rfl⟩) ?_
  refine lv_if_eq (tgt := 21) hx hb dX6_take_10 (by decide) (fun c_10 => ?_) (fun c_10 => ?_)
  · -- taken
    replace c_10 := b2_z c_10
    refine lv_aload_n hx hb dX6_take_21 rfl (lv_at hl 0 rfl) ?_
    refine lv_iconst (v := 1) hx hb dX6_take_22 (by decide) ?_
    refine c_s1 (va_runV (As := [.int 1]) (rest := []) ⟨hx, hb, hml, hown, hts⟩ (c_X6_fail l D ct Z σ 0 bst rf 1) (cwV 1 hts (GG w_924 w_926 w_35 w_65 w_927) rfl rfl rfl (by decide) ⟨Nat.le_of_ble_eq_true rfl, Nat.le_of_ble_eq_true rfl⟩) ⟨(blindT fun _ _ _ _ h => h), Ob.recv (hT).1 hP2.o rfl, fun U hU hW => ⟨rfl, hT.warm hW, by rw [hU]; exact ⟨fun q hq => Nat.lt_of_lt_of_le (hZs q hq) hS2.1, hP2⟩⟩⟩ rfl rfl hl.1 rfl (lv_room (Nat.le_of_ble_eq_true rfl)) dX6_take_23 ⟨Nat.le_of_ble_eq_true rfl, Nat.le_of_ble_eq_true rfl⟩) hS2 (fun x23 H23 locs23 hRr23 hzz23 hS23 => ?_)
    obtain ⟨rfl, hRr23⟩ := hRr23
    have hP23 : RP D ct Z (σ) (1) bst rf H23 := hRr23
    have ho : o_take σ c r = (1, 0, σ) := by simp [o_take, onW, c_10]
    exact W.iret (v := 0) hx hb hr (fun t ht hW => ⟨_, rfl, by rw [ht]; exact ⟨by rw [ho], bst, by rw [ho]; exact hP23⟩, hS23.F ht⟩) (fun z h => hS23.2.2 z h) dX6_take_26
  · -- not taken
    replace c_10 := b2_nz c_10
    obtain ⟨k10, ht10, hv10⟩ := okC hC1 hC8 c_10
    subst hv10
    have ix10 : ix (nI k10) = k10 := ix_n (by omega)
    refine lv_aload_n hx hb dX6_take_13 rfl (lv_at hl 0 rfl) ?_
    refine lv_iload_n hx hb dX6_take_14 rfl (lv_at hl 2 rfl) ?_
    refine c_p1 (va_runV (As := [.int r]) (rest := []) ⟨hx, hb, hml, hown, hts⟩ (c_X6_isRumour l D ct Z σ 0 bst rf r hR1 (by omega)) (cwV 1 hts (GG w_961 w_963 w_38 w_65 w_964) rfl rfl rfl (by decide) ⟨Nat.le_of_ble_eq_true rfl, Nat.le_of_ble_eq_true rfl⟩) ⟨(blindT fun _ _ _ _ h => h), Ob.recv (hT).1 hP2.o rfl, fun U hU hW => ⟨rfl, hT.warm hW, by rw [hU]; exact hP2⟩⟩ rfl rfl hl.1 rfl (lv_room (Nat.le_of_ble_eq_true rfl)) dX6_take_15 ⟨Nat.le_of_ble_eq_true rfl, Nat.le_of_ble_eq_true rfl⟩) ?_
    refine lv_if_ne (tgt := 27) hx hb dX6_take_18 (by decide) (fun c_18 => ?_) (fun c_18 => ?_)
    · -- taken
      replace c_18 := b2_nz c_18
      obtain ⟨r18, ht18, hv18⟩ := okR hR1 hR60 c_18
      subst hv18
      have ix18 : ix (nI r18) = r18 := ix_n (by omega)
      refine lv_aload_n hx hb dX6_take_27 rfl (lv_at hl 0 rfl) ?_
      refine lv_iload_n hx hb dX6_take_28 rfl (lv_at hl 1 rfl) ?_
      refine lv_iconst (v := 1) hx hb dX6_take_29 (by decide) ?_
      refine c_p1 (va_runV (As := [.int (nI k10), .int 1]) (rest := []) ⟨hx, hb, hml, hown, hts⟩ (c_X6_man l D ct Z σ 0 bst rf k10 1 1 (by omega) rfl (by decide)) (cwV 2 hts (GG w_985 w_987 w_43 w_65 w_988) rfl rfl rfl (by decide) ⟨Nat.le_of_ble_eq_true rfl, Nat.le_of_ble_eq_true rfl⟩) ⟨(blindT fun _ _ _ _ h => h), Ob.recv (hT).1 hP2.o rfl, fun U hU hW => ⟨rfl, hT.warm hW, by rw [hU]; exact hP2⟩⟩ rfl rfl hl.1 rfl (lv_room (Nat.le_of_ble_eq_true rfl)) dX6_take_30 ⟨Nat.le_of_ble_eq_true rfl, Nat.le_of_ble_eq_true rfl⟩) ?_
      refine lv_if_gt (tgt := 62) hx hb dX6_take_33 (by decide) (fun c_33 => ?_) (fun c_33 => ?_)
      · -- taken
        refine lv_aload_n hx hb dX6_take_62 rfl (lv_at hl 0 rfl) ?_
        refine lv_iconst (v := 2) hx hb dX6_take_63 (by decide) ?_
        refine c_s1 (va_runV (As := [.int 2]) (rest := []) ⟨hx, hb, hml, hown, hts⟩ (c_X6_fail l D ct Z σ 0 bst rf 2) (cwV 1 hts (GG w_924 w_926 w_35 w_65 w_927) rfl rfl rfl (by decide) ⟨Nat.le_of_ble_eq_true rfl, Nat.le_of_ble_eq_true rfl⟩) ⟨(blindT fun _ _ _ _ h => h), Ob.recv (hT).1 hP2.o rfl, fun U hU hW => ⟨rfl, hT.warm hW, by rw [hU]; exact ⟨fun q hq => Nat.lt_of_lt_of_le (hZs q hq) hS2.1, hP2⟩⟩⟩ rfl rfl hl.1 rfl (lv_room (Nat.le_of_ble_eq_true rfl)) dX6_take_64 ⟨Nat.le_of_ble_eq_true rfl, Nat.le_of_ble_eq_true rfl⟩) hS2 (fun x64 H64 locs64 hRr64 hzz64 hS64 => ?_)
        obtain ⟨rfl, hRr64⟩ := hRr64
        have hP64 : RP D ct Z (σ) (2) bst rf H64 := hRr64
        have ho : o_take σ (nI k10) (nI r18) = (2, 0, σ) := by simp [o_take, onW, c_10, ix10, c_18, ix18, c_33]
        exact W.iret (v := 0) hx hb hr (fun t ht hW => ⟨_, rfl, by rw [ht]; exact ⟨by rw [ho], bst, by rw [ho]; exact hP64⟩, hS64.F ht⟩) (fun z h => hS64.2.2 z h) dX6_take_67
      · -- not taken
        refine lv_aload_n hx hb dX6_take_36 rfl (lv_at hl 0 rfl) ?_
        refine lv_iload_n hx hb dX6_take_37 rfl (lv_at hl 2 rfl) ?_
        refine lv_iconst (v := 4) hx hb dX6_take_38 (by decide) ?_
        refine c_p1 (va_runV (As := [.int (nI r18), .int 4]) (rest := []) ⟨hx, hb, hml, hown, hts⟩ (c_X6_get l D ct Z σ 0 bst rf r18 4 4 (by omega) rfl (by decide)) (cwV 2 hts (GG w_965 w_967 w_39 w_65 w_968) rfl rfl rfl (by decide) ⟨Nat.le_of_ble_eq_true rfl, Nat.le_of_ble_eq_true rfl⟩) ⟨(blindT fun _ _ _ _ h => h), Ob.recv (hT).1 hP2.o rfl, fun U hU hW => ⟨rfl, hT.warm hW, by rw [hU]; exact hP2⟩⟩ rfl rfl hl.1 rfl (lv_room (Nat.le_of_ble_eq_true rfl)) dX6_take_39 ⟨Nat.le_of_ble_eq_true rfl, Nat.le_of_ble_eq_true rfl⟩) ?_
        refine lv_aload_n hx hb dX6_take_42 rfl (lv_at hl 0 rfl) ?_
        refine lv_iload_n hx hb dX6_take_43 rfl (lv_at hl 1 rfl) ?_
        refine lv_iconst (v := 0) hx hb dX6_take_44 (by decide) ?_
        refine c_p1 (va_runV (As := [.int (nI k10), .int 0]) (rest := [.int (σ 1 (7 * r18 + 4))]) ⟨hx, hb, hml, hown, hts⟩ (c_X6_man l D ct Z σ 0 bst rf k10 0 0 (by omega) rfl (by decide)) (cwV 2 hts (GG w_985 w_987 w_43 w_65 w_988) rfl rfl rfl (by decide) ⟨Nat.le_of_ble_eq_true rfl, Nat.le_of_ble_eq_true rfl⟩) ⟨(blindT fun _ _ _ _ h => h), Ob.recv (hT).1 hP2.o rfl, fun U hU hW => ⟨rfl, hT.warm hW, by rw [hU]; exact hP2⟩⟩ rfl rfl hl.1 rfl (lv_room (Nat.le_of_ble_eq_true rfl)) dX6_take_45 ⟨Nat.le_of_ble_eq_true rfl, Nat.le_of_ble_eq_true rfl⟩) ?_
        rw [Nat.add_zero (4 * k10)]
        refine lv_icmp_ne (tgt := 62) hx hb dX6_take_48 (by decide) (fun c_48 => ?_) (fun c_48 => ?_)
        · -- taken
          refine lv_aload_n hx hb dX6_take_62 rfl (lv_at hl 0 rfl) ?_
          refine lv_iconst (v := 2) hx hb dX6_take_63 (by decide) ?_
          refine c_s1 (va_runV (As := [.int 2]) (rest := []) ⟨hx, hb, hml, hown, hts⟩ (c_X6_fail l D ct Z σ 0 bst rf 2) (cwV 1 hts (GG w_924 w_926 w_35 w_65 w_927) rfl rfl rfl (by decide) ⟨Nat.le_of_ble_eq_true rfl, Nat.le_of_ble_eq_true rfl⟩) ⟨(blindT fun _ _ _ _ h => h), Ob.recv (hT).1 hP2.o rfl, fun U hU hW => ⟨rfl, hT.warm hW, by rw [hU]; exact ⟨fun q hq => Nat.lt_of_lt_of_le (hZs q hq) hS2.1, hP2⟩⟩⟩ rfl rfl hl.1 rfl (lv_room (Nat.le_of_ble_eq_true rfl)) dX6_take_64 ⟨Nat.le_of_ble_eq_true rfl, Nat.le_of_ble_eq_true rfl⟩) hS2 (fun x64 H64 locs64 hRr64 hzz64 hS64 => ?_)
          obtain ⟨rfl, hRr64⟩ := hRr64
          have hP64 : RP D ct Z (σ) (2) bst rf H64 := hRr64
          have ho : o_take σ (nI k10) (nI r18) = (2, 0, σ) := by simp [o_take, onW, c_10, ix10, c_18, ix18, c_33, c_48]
          exact W.iret (v := 0) hx hb hr (fun t ht hW => ⟨_, rfl, by rw [ht]; exact ⟨by rw [ho], bst, by rw [ho]; exact hP64⟩, hS64.F ht⟩) (fun z h => hS64.2.2 z h) dX6_take_67
        · -- not taken
          refine lv_aload_n hx hb dX6_take_51 rfl (lv_at hl 0 rfl) ?_
          refine lv_iload_n hx hb dX6_take_52 rfl (lv_at hl 1 rfl) ?_
          refine lv_iconst (v := 0) hx hb dX6_take_53 (by decide) ?_
          refine c_p1 (va_runV (As := [.int (nI k10), .int 0]) (rest := []) ⟨hx, hb, hml, hown, hts⟩ (c_X6_inBag0 l D ct Z σ 0 bst rf (nI k10) hR1 hR60) (cwV 2 hts (GG w_1006 w_1008 w_45 w_65 w_1009) rfl rfl rfl (by decide) ⟨Nat.le_of_ble_eq_true rfl, Nat.le_of_ble_eq_true rfl⟩) ⟨(blindT fun _ _ _ _ h => h), Ob.recv (hT).1 hP2.o rfl, fun U hU hW => ⟨rfl, hT.warm hW, by rw [hU]; exact hP2⟩⟩ rfl rfl hl.1 rfl (lv_room (Nat.le_of_ble_eq_true rfl)) dX6_take_54 ⟨Nat.le_of_ble_eq_true rfl, Nat.le_of_ble_eq_true rfl⟩) ?_
          refine lv_bipush (v := 6) hx hb dX6_take_57 (by decide) ?_
          refine lv_icmp_ne (tgt := 68) hx hb dX6_take_59 (by decide) (fun c_59 => ?_) (fun c_59 => ?_)
          · -- taken
            obtain ⟨m59, hm59, hme⟩ := hB k10 (by omega)
            have hl6 : inB σ (nI k10) < 6 := by
              rw [hme]
              refine nI_lt (b := 6) ?_ (by decide)
              have : m59 ≠ 6 := fun z => c_59 (by rw [hme, z]; rfl)
              omega
            refine lv_aload_n hx hb dX6_take_68 rfl (lv_at hl 0 rfl) ?_
            refine lv_iload_n hx hb dX6_take_69 rfl (lv_at hl 2 rfl) ?_
            refine lv_iconst (v := (-1)) hx hb dX6_take_70 (by decide) ?_
            refine lv_iload_n hx hb dX6_take_71 rfl (lv_at hl 1 rfl) ?_
            refine c_s0 (va_runV (As := [.int (nI r18), .int (-1), .int (nI k10)]) (rest := []) ⟨hx, hb, hml, hown, hts⟩ (c_X6_lay l D ct Z σ 0 bst rf r18 (-1) (nI k10) (by omega)) (cwV 3 hts (GG w_1010 w_1012 w_46 w_65 w_1013) rfl rfl rfl (by decide) ⟨Nat.le_of_ble_eq_true rfl, Nat.le_of_ble_eq_true rfl⟩) ⟨(blindT fun _ _ _ _ h => h), Ob.recv (hT).1 hP2.o rfl, fun U hU hW => ⟨rfl, hT.warm hW, by rw [hU]; exact ⟨fun q hq => Nat.lt_of_lt_of_le (hZs q hq) hS2.1, hP2⟩⟩⟩ rfl rfl hl.1 rfl (lv_room (Nat.le_of_ble_eq_true rfl)) dX6_take_72 ⟨Nat.le_of_ble_eq_true rfl, Nat.le_of_ble_eq_true rfl⟩) hS2 (fun H72 locs72 hRr72 hzz72 hS72 => ?_)
            have hP72 : RP D ct Z (lay σ r18 (-1) (nI k10)) (0) bst rf H72 := hRr72
            obtain ⟨τ72, hτ72⟩ : ∃ τ : Stt, τ = lay σ r18 (-1) (nI k10) := ⟨_, rfl⟩
            rw [← hτ72] at hP72
            have hb75 := nrk (τ := τ72) (σ := σ) (by rw [hτ72]; rfl) hR1 hR60
            refine lv_aload_n hx hb dX6_take_75 rfl (lv_at hl 0 rfl) ?_
            refine lv_iload_n hx hb dX6_take_76 rfl (lv_at hl 1 rfl) ?_
            refine lv_iconst (v := 0) hx hb dX6_take_77 (by decide) ?_
            refine c_p1 (va_runV (As := [.int (nI k10), .int 0]) (rest := []) ⟨hx, hb, hml, hown, hts⟩ (c_X6_inBag0 l D ct Z τ72 0 bst rf (nI k10) hb75.1 hb75.2) (cwV 2 hts (GG w_1006 w_1008 w_45 w_65 w_1009) rfl rfl rfl (by decide) ⟨Nat.le_of_ble_eq_true rfl, Nat.le_of_ble_eq_true rfl⟩) ⟨(blindT fun _ _ _ _ h => h), Ob.recv (hT).1 hP72.o rfl, fun U hU hW => ⟨rfl, hT.warm hW, by rw [hU]; exact hP72⟩⟩ rfl rfl hl.1 rfl (lv_room (Nat.le_of_ble_eq_true rfl)) dX6_take_78 ⟨Nat.le_of_ble_eq_true rfl, Nat.le_of_ble_eq_true rfl⟩) ?_
            have ho : o_take σ (nI k10) (nI r18) = (0, inB τ72 (nI k10), τ72) := by simp [o_take, onW, c_10, ix10, c_18, ix18, c_33, c_48, hl6, hτ72]
            exact W.iret (v := inB τ72 (nI k10)) hx hb hr (fun t ht hW => ⟨_, rfl, by rw [ht]; exact ⟨by rw [ho], bst, by rw [ho]; exact hP72⟩, hS72.F ht⟩) (fun z h => hS72.2.2 z h) dX6_take_81
          · -- not taken
            obtain ⟨m59, hm59, hme⟩ := hB k10 (by omega)
            have hl6 : ¬ inB σ (nI k10) < 6 := by rw [c_59]; decide
            refine lv_aload_n hx hb dX6_take_62 rfl (lv_at hl 0 rfl) ?_
            refine lv_iconst (v := 2) hx hb dX6_take_63 (by decide) ?_
            refine c_s1 (va_runV (As := [.int 2]) (rest := []) ⟨hx, hb, hml, hown, hts⟩ (c_X6_fail l D ct Z σ 0 bst rf 2) (cwV 1 hts (GG w_924 w_926 w_35 w_65 w_927) rfl rfl rfl (by decide) ⟨Nat.le_of_ble_eq_true rfl, Nat.le_of_ble_eq_true rfl⟩) ⟨(blindT fun _ _ _ _ h => h), Ob.recv (hT).1 hP2.o rfl, fun U hU hW => ⟨rfl, hT.warm hW, by rw [hU]; exact ⟨fun q hq => Nat.lt_of_lt_of_le (hZs q hq) hS2.1, hP2⟩⟩⟩ rfl rfl hl.1 rfl (lv_room (Nat.le_of_ble_eq_true rfl)) dX6_take_64 ⟨Nat.le_of_ble_eq_true rfl, Nat.le_of_ble_eq_true rfl⟩) hS2 (fun x64 H64 locs64 hRr64 hzz64 hS64 => ?_)
            obtain ⟨rfl, hRr64⟩ := hRr64
            have hP64 : RP D ct Z (σ) (2) bst rf H64 := hRr64
            have ho : o_take σ (nI k10) (nI r18) = (2, 0, σ) := by simp [o_take, onW, c_10, ix10, c_18, ix18, c_33, c_48, hl6]
            exact W.iret (v := 0) hx hb hr (fun t ht hW => ⟨_, rfl, by rw [ht]; exact ⟨by rw [ho], bst, by rw [ho]; exact hP64⟩, hS64.F ht⟩) (fun z h => hS64.2.2 z h) dX6_take_67
    · -- not taken
      replace c_18 := b2_z c_18
      refine lv_aload_n hx hb dX6_take_21 rfl (lv_at hl 0 rfl) ?_
      refine lv_iconst (v := 1) hx hb dX6_take_22 (by decide) ?_
      refine c_s1 (va_runV (As := [.int 1]) (rest := []) ⟨hx, hb, hml, hown, hts⟩ (c_X6_fail l D ct Z σ 0 bst rf 1) (cwV 1 hts (GG w_924 w_926 w_35 w_65 w_927) rfl rfl rfl (by decide) ⟨Nat.le_of_ble_eq_true rfl, Nat.le_of_ble_eq_true rfl⟩) ⟨(blindT fun _ _ _ _ h => h), Ob.recv (hT).1 hP2.o rfl, fun U hU hW => ⟨rfl, hT.warm hW, by rw [hU]; exact ⟨fun q hq => Nat.lt_of_lt_of_le (hZs q hq) hS2.1, hP2⟩⟩⟩ rfl rfl hl.1 rfl (lv_room (Nat.le_of_ble_eq_true rfl)) dX6_take_23 ⟨Nat.le_of_ble_eq_true rfl, Nat.le_of_ble_eq_true rfl⟩) hS2 (fun x23 H23 locs23 hRr23 hzz23 hS23 => ?_)
      obtain ⟨rfl, hRr23⟩ := hRr23
      have hP23 : RP D ct Z (σ) (1) bst rf H23 := hRr23
      have ho : o_take σ (nI k10) r = (1, 0, σ) := by simp [o_take, onW, c_10, ix10, c_18]
      exact W.iret (v := 0) hx hb hr (fun t ht hW => ⟨_, rfl, by rw [ht]; exact ⟨by rw [ho], bst, by rw [ho]; exact hP23⟩, hS23.F ht⟩) (fun z h => hS23.2.2 z h) dX6_take_26

/-! leave -/
set_option maxHeartbeats 4000000 in
set_option maxRecDepth 100000 in
theorem c_X6_leave (l : Launch) (D : va_G) (ct : Nat → ClassId) (Z : Nat → Prop) (σ : Stt) (th : Int32) (bst : Nat → Int64) (rf : Nat → Nat) (c r : Int32) (hI : Inv σ) : Met l yX6_leave (.code yX6_leave cX6_leave 3 (some .int) :: GW) ({ frames := 2, cells := 0, slots := 0, locals := 46 } : Room) (va_Pc [.ref (rf 0), .int c, .int r] (fun U => GT D ct U ∧ (∀ q, Z q → q < U.heap.size) ∧ RP D ct Z σ th bst rf U.heap)) (qS1 Z (fun x h => x = .int (o_leave σ c r).2.1 ∧ ∃ b1, RP D ct Z (o_leave σ c r).2.2 (nI (o_leave σ c r).1) b1 rf h)) 0 0 (nZ Z) := by
  refine m_in (cc := cX6_leave) [.ref (rf 0), .int c, .int r] "RumourCustomsModel" rfl (by decide) (Nat.le_of_ble_eq_true rfl) ?_
  intro pg e s m args below meth cd ls hx hb hml hown hts hr hlocks hin hPr hl
  obtain ⟨hT, hZs, hP⟩ := hPr
  have hl : lv_has ls 3 [(0, .ref (rf 0)), (1, .int c), (2, .int r)] := hl
  have hS : va_S (nZ Z) s.heap s.heap [] := va_S.rf
  have hT1 := hI.1.1
  have hT10 := hI.1.2
  have hR1 := hI.2.1.1
  have hR60 := hI.2.1.2
  have hC1 := hI.2.2.1.1
  have hC8 := hI.2.2.1.2
  refine lv_aload_n hx hb dX6_leave_0 rfl (lv_at hl 0 rfl) ?_
  refine lv_iconst (v := 0) hx hb dX6_leave_1 (by decide) ?_
  refine k_put (C := RX6) (T := TX6) (N := 14) hx hb hts inGX6 tyX6 tyX6_ok nmX6 hown (hT).1 hP.o hS (hP.nz (by decide)) rfl 0 (Nat.le_of_ble_eq_true rfl) (hts _ w_872) (fun _ h9 => h9) rfl (ty := .int) (v := .int 0) (by decide +kernel) rfl rfl (Nat.le_of_ble_eq_true rfl) dX6_leave_2 (fun H2 locs2 hO2 hz2 hq2 hS2 => ?_)
  have hO2 : Ob D (rf 0) 7 [.int 0, .int (σ 0 0), .int (σ 0 1), .int (σ 0 2), .int (σ 0 3), .int (σ 0 4), .int (σ 0 5), .int (σ 0 6), .int (σ 0 7), .int (σ 0 8), .ref (rf 1), .ref (rf 2), .ref (rf 3), .ref (rf 4)] H2 := hO2
  have hP2 : RP D ct Z (σ) (0) bst rf H2 := hP.st 0 hO2 hq2
  refine lv_aload_n hx hb dX6_leave_5 rfl (lv_at hl 0 rfl) ?_
  refine lv_iload_n hx hb dX6_leave_6 rfl (lv_at hl 1 rfl) ?_
  refine c_p1 (va_runV (As := [.int c]) (rest := []) ⟨hx, hb, hml, hown, hts⟩ (c_X6_isCarrier l D ct Z σ 0 bst rf c hC1 (by omega)) (cwV 1 hts (GG w_1002 w_1004 w_44 w_65 w_1005) rfl rfl rfl (by decide) ⟨Nat.le_of_ble_eq_true rfl, Nat.le_of_ble_eq_true rfl⟩) ⟨(blindT fun _ _ _ _ h => h), Ob.recv (hT).1 hP2.o rfl, fun U hU hW => ⟨rfl, hT.warm hW, by rw [hU]; exact hP2⟩⟩ rfl rfl hl.1 rfl (lv_room (Nat.le_of_ble_eq_true rfl)) dX6_leave_7 ⟨Nat.le_of_ble_eq_true rfl, Nat.le_of_ble_eq_true rfl⟩) ?_
  refine lv_if_eq (tgt := 21) hx hb dX6_leave_10 (by decide) (fun c_10 => ?_) (fun c_10 => ?_)
  · -- taken
    replace c_10 := b2_z c_10
    refine lv_aload_n hx hb dX6_leave_21 rfl (lv_at hl 0 rfl) ?_
    refine lv_iconst (v := 1) hx hb dX6_leave_22 (by decide) ?_
    refine c_s1 (va_runV (As := [.int 1]) (rest := []) ⟨hx, hb, hml, hown, hts⟩ (c_X6_fail l D ct Z σ 0 bst rf 1) (cwV 1 hts (GG w_924 w_926 w_35 w_65 w_927) rfl rfl rfl (by decide) ⟨Nat.le_of_ble_eq_true rfl, Nat.le_of_ble_eq_true rfl⟩) ⟨(blindT fun _ _ _ _ h => h), Ob.recv (hT).1 hP2.o rfl, fun U hU hW => ⟨rfl, hT.warm hW, by rw [hU]; exact ⟨fun q hq => Nat.lt_of_lt_of_le (hZs q hq) hS2.1, hP2⟩⟩⟩ rfl rfl hl.1 rfl (lv_room (Nat.le_of_ble_eq_true rfl)) dX6_leave_23 ⟨Nat.le_of_ble_eq_true rfl, Nat.le_of_ble_eq_true rfl⟩) hS2 (fun x23 H23 locs23 hRr23 hzz23 hS23 => ?_)
    obtain ⟨rfl, hRr23⟩ := hRr23
    have hP23 : RP D ct Z (σ) (1) bst rf H23 := hRr23
    have ho : o_leave σ c r = (1, 0, σ) := by simp [o_leave, onW, has, c_10]
    exact W.iret (v := 0) hx hb hr (fun t ht hW => ⟨_, rfl, by rw [ht]; exact ⟨by rw [ho], bst, by rw [ho]; exact hP23⟩, hS23.F ht⟩) (fun z h => hS23.2.2 z h) dX6_leave_26
  · -- not taken
    replace c_10 := b2_nz c_10
    obtain ⟨k10, ht10, hv10⟩ := okC hC1 hC8 c_10
    subst hv10
    have ix10 : ix (nI k10) = k10 := ix_n (by omega)
    refine lv_aload_n hx hb dX6_leave_13 rfl (lv_at hl 0 rfl) ?_
    refine lv_iload_n hx hb dX6_leave_14 rfl (lv_at hl 2 rfl) ?_
    refine c_p1 (va_runV (As := [.int r]) (rest := []) ⟨hx, hb, hml, hown, hts⟩ (c_X6_isRumour l D ct Z σ 0 bst rf r hR1 (by omega)) (cwV 1 hts (GG w_961 w_963 w_38 w_65 w_964) rfl rfl rfl (by decide) ⟨Nat.le_of_ble_eq_true rfl, Nat.le_of_ble_eq_true rfl⟩) ⟨(blindT fun _ _ _ _ h => h), Ob.recv (hT).1 hP2.o rfl, fun U hU hW => ⟨rfl, hT.warm hW, by rw [hU]; exact hP2⟩⟩ rfl rfl hl.1 rfl (lv_room (Nat.le_of_ble_eq_true rfl)) dX6_leave_15 ⟨Nat.le_of_ble_eq_true rfl, Nat.le_of_ble_eq_true rfl⟩) ?_
    refine lv_if_ne (tgt := 27) hx hb dX6_leave_18 (by decide) (fun c_18 => ?_) (fun c_18 => ?_)
    · -- taken
      replace c_18 := b2_nz c_18
      obtain ⟨r18, ht18, hv18⟩ := okR hR1 hR60 c_18
      subst hv18
      have ix18 : ix (nI r18) = r18 := ix_n (by omega)
      refine lv_aload_n hx hb dX6_leave_27 rfl (lv_at hl 0 rfl) ?_
      refine lv_iload_n hx hb dX6_leave_28 rfl (lv_at hl 1 rfl) ?_
      refine lv_iconst (v := 1) hx hb dX6_leave_29 (by decide) ?_
      refine c_p1 (va_runV (As := [.int (nI k10), .int 1]) (rest := []) ⟨hx, hb, hml, hown, hts⟩ (c_X6_man l D ct Z σ 0 bst rf k10 1 1 (by omega) rfl (by decide)) (cwV 2 hts (GG w_985 w_987 w_43 w_65 w_988) rfl rfl rfl (by decide) ⟨Nat.le_of_ble_eq_true rfl, Nat.le_of_ble_eq_true rfl⟩) ⟨(blindT fun _ _ _ _ h => h), Ob.recv (hT).1 hP2.o rfl, fun U hU hW => ⟨rfl, hT.warm hW, by rw [hU]; exact hP2⟩⟩ rfl rfl hl.1 rfl (lv_room (Nat.le_of_ble_eq_true rfl)) dX6_leave_30 ⟨Nat.le_of_ble_eq_true rfl, Nat.le_of_ble_eq_true rfl⟩) ?_
      refine lv_if_gt (tgt := 45) hx hb dX6_leave_33 (by decide) (fun c_33 => ?_) (fun c_33 => ?_)
      · -- taken
        refine lv_aload_n hx hb dX6_leave_45 rfl (lv_at hl 0 rfl) ?_
        refine lv_iconst (v := 2) hx hb dX6_leave_46 (by decide) ?_
        refine c_s1 (va_runV (As := [.int 2]) (rest := []) ⟨hx, hb, hml, hown, hts⟩ (c_X6_fail l D ct Z σ 0 bst rf 2) (cwV 1 hts (GG w_924 w_926 w_35 w_65 w_927) rfl rfl rfl (by decide) ⟨Nat.le_of_ble_eq_true rfl, Nat.le_of_ble_eq_true rfl⟩) ⟨(blindT fun _ _ _ _ h => h), Ob.recv (hT).1 hP2.o rfl, fun U hU hW => ⟨rfl, hT.warm hW, by rw [hU]; exact ⟨fun q hq => Nat.lt_of_lt_of_le (hZs q hq) hS2.1, hP2⟩⟩⟩ rfl rfl hl.1 rfl (lv_room (Nat.le_of_ble_eq_true rfl)) dX6_leave_47 ⟨Nat.le_of_ble_eq_true rfl, Nat.le_of_ble_eq_true rfl⟩) hS2 (fun x47 H47 locs47 hRr47 hzz47 hS47 => ?_)
        obtain ⟨rfl, hRr47⟩ := hRr47
        have hP47 : RP D ct Z (σ) (2) bst rf H47 := hRr47
        have ho : o_leave σ (nI k10) (nI r18) = (2, 0, σ) := by simp [o_leave, onW, has, c_10, ix10, c_18, ix18, c_33]
        exact W.iret (v := 0) hx hb hr (fun t ht hW => ⟨_, rfl, by rw [ht]; exact ⟨by rw [ho], bst, by rw [ho]; exact hP47⟩, hS47.F ht⟩) (fun z h => hS47.2.2 z h) dX6_leave_50
      · -- not taken
        refine lv_aload_n hx hb dX6_leave_36 rfl (lv_at hl 0 rfl) ?_
        refine lv_iload_n hx hb dX6_leave_37 rfl (lv_at hl 1 rfl) ?_
        refine lv_iload_n hx hb dX6_leave_38 rfl (lv_at hl 2 rfl) ?_
        refine c_p1 (va_runV (As := [.int (nI k10), .int (nI r18)]) (rest := []) ⟨hx, hb, hml, hown, hts⟩ (c_X6_has l D ct Z σ 0 bst rf (nI k10) r18 (by omega)) (cwV 2 hts (GG w_1022 w_1024 w_48 w_65 w_1025) rfl rfl rfl (by decide) ⟨Nat.le_of_ble_eq_true rfl, Nat.le_of_ble_eq_true rfl⟩) ⟨(blindT fun _ _ _ _ h => h), Ob.recv (hT).1 hP2.o rfl, fun U hU hW => ⟨rfl, hT.warm hW, by rw [hU]; exact hP2⟩⟩ rfl rfl hl.1 rfl (lv_room (Nat.le_of_ble_eq_true rfl)) dX6_leave_39 ⟨Nat.le_of_ble_eq_true rfl, Nat.le_of_ble_eq_true rfl⟩) ?_
        refine lv_if_ne (tgt := 51) hx hb dX6_leave_42 (by decide) (fun c_42 => ?_) (fun c_42 => ?_)
        · -- taken
          replace c_42 := b2_nz c_42
          refine lv_aload_n hx hb dX6_leave_51 rfl (lv_at hl 0 rfl) ?_
          refine lv_iload_n hx hb dX6_leave_52 rfl (lv_at hl 2 rfl) ?_
          refine lv_aload_n hx hb dX6_leave_53 rfl (lv_at hl 0 rfl) ?_
          refine lv_iload_n hx hb dX6_leave_54 rfl (lv_at hl 1 rfl) ?_
          refine lv_iconst (v := 0) hx hb dX6_leave_55 (by decide) ?_
          refine c_p1 (va_runV (As := [.int (nI k10), .int 0]) (rest := [.int (nI r18), .ref (rf 0)]) ⟨hx, hb, hml, hown, hts⟩ (c_X6_man l D ct Z σ 0 bst rf k10 0 0 (by omega) rfl (by decide)) (cwV 2 hts (GG w_985 w_987 w_43 w_65 w_988) rfl rfl rfl (by decide) ⟨Nat.le_of_ble_eq_true rfl, Nat.le_of_ble_eq_true rfl⟩) ⟨(blindT fun _ _ _ _ h => h), Ob.recv (hT).1 hP2.o rfl, fun U hU hW => ⟨rfl, hT.warm hW, by rw [hU]; exact hP2⟩⟩ rfl rfl hl.1 rfl (lv_room (Nat.le_of_ble_eq_true rfl)) dX6_leave_56 ⟨Nat.le_of_ble_eq_true rfl, Nat.le_of_ble_eq_true rfl⟩) ?_
          rw [Nat.add_zero (4 * k10)]
          refine lv_iconst (v := (-1)) hx hb dX6_leave_59 (by decide) ?_
          refine c_s0 (va_runV (As := [.int (nI r18), .int (σ 2 (4 * k10)), .int (-1)]) (rest := []) ⟨hx, hb, hml, hown, hts⟩ (c_X6_lay l D ct Z σ 0 bst rf r18 (σ 2 (4 * k10)) (-1) (by omega)) (cwV 3 hts (GG w_1010 w_1012 w_46 w_65 w_1013) rfl rfl rfl (by decide) ⟨Nat.le_of_ble_eq_true rfl, Nat.le_of_ble_eq_true rfl⟩) ⟨(blindT fun _ _ _ _ h => h), Ob.recv (hT).1 hP2.o rfl, fun U hU hW => ⟨rfl, hT.warm hW, by rw [hU]; exact ⟨fun q hq => Nat.lt_of_lt_of_le (hZs q hq) hS2.1, hP2⟩⟩⟩ rfl rfl hl.1 rfl (lv_room (Nat.le_of_ble_eq_true rfl)) dX6_leave_60 ⟨Nat.le_of_ble_eq_true rfl, Nat.le_of_ble_eq_true rfl⟩) hS2 (fun H60 locs60 hRr60 hzz60 hS60 => ?_)
          have hP60 : RP D ct Z (lay σ r18 (σ 2 (4 * k10)) (-1)) (0) bst rf H60 := hRr60
          obtain ⟨τ60, hτ60⟩ : ∃ τ : Stt, τ = lay σ r18 (σ 2 (4 * k10)) (-1) := ⟨_, rfl⟩
          rw [← hτ60] at hP60
          have hb63 := nrk (τ := τ60) (σ := σ) (by rw [hτ60]; rfl) hR1 hR60
          refine lv_aload_n hx hb dX6_leave_63 rfl (lv_at hl 0 rfl) ?_
          refine lv_iload_n hx hb dX6_leave_64 rfl (lv_at hl 1 rfl) ?_
          refine lv_iconst (v := 0) hx hb dX6_leave_65 (by decide) ?_
          refine c_p1 (va_runV (As := [.int (nI k10), .int 0]) (rest := []) ⟨hx, hb, hml, hown, hts⟩ (c_X6_inBag0 l D ct Z τ60 0 bst rf (nI k10) hb63.1 hb63.2) (cwV 2 hts (GG w_1006 w_1008 w_45 w_65 w_1009) rfl rfl rfl (by decide) ⟨Nat.le_of_ble_eq_true rfl, Nat.le_of_ble_eq_true rfl⟩) ⟨(blindT fun _ _ _ _ h => h), Ob.recv (hT).1 hP60.o rfl, fun U hU hW => ⟨rfl, hT.warm hW, by rw [hU]; exact hP60⟩⟩ rfl rfl hl.1 rfl (lv_room (Nat.le_of_ble_eq_true rfl)) dX6_leave_66 ⟨Nat.le_of_ble_eq_true rfl, Nat.le_of_ble_eq_true rfl⟩) ?_
          have ho : o_leave σ (nI k10) (nI r18) = (0, inB τ60 (nI k10), τ60) := by simp [o_leave, onW, has, c_10, ix10, c_18, ix18, c_33, c_42, hτ60]
          exact W.iret (v := inB τ60 (nI k10)) hx hb hr (fun t ht hW => ⟨_, rfl, by rw [ht]; exact ⟨by rw [ho], bst, by rw [ho]; exact hP60⟩, hS60.F ht⟩) (fun z h => hS60.2.2 z h) dX6_leave_69
        · -- not taken
          replace c_42 := b2_z c_42
          refine lv_aload_n hx hb dX6_leave_45 rfl (lv_at hl 0 rfl) ?_
          refine lv_iconst (v := 2) hx hb dX6_leave_46 (by decide) ?_
          refine c_s1 (va_runV (As := [.int 2]) (rest := []) ⟨hx, hb, hml, hown, hts⟩ (c_X6_fail l D ct Z σ 0 bst rf 2) (cwV 1 hts (GG w_924 w_926 w_35 w_65 w_927) rfl rfl rfl (by decide) ⟨Nat.le_of_ble_eq_true rfl, Nat.le_of_ble_eq_true rfl⟩) ⟨(blindT fun _ _ _ _ h => h), Ob.recv (hT).1 hP2.o rfl, fun U hU hW => ⟨rfl, hT.warm hW, by rw [hU]; exact ⟨fun q hq => Nat.lt_of_lt_of_le (hZs q hq) hS2.1, hP2⟩⟩⟩ rfl rfl hl.1 rfl (lv_room (Nat.le_of_ble_eq_true rfl)) dX6_leave_47 ⟨Nat.le_of_ble_eq_true rfl, Nat.le_of_ble_eq_true rfl⟩) hS2 (fun x47 H47 locs47 hRr47 hzz47 hS47 => ?_)
          obtain ⟨rfl, hRr47⟩ := hRr47
          have hP47 : RP D ct Z (σ) (2) bst rf H47 := hRr47
          have ho : o_leave σ (nI k10) (nI r18) = (2, 0, σ) := by simp [o_leave, onW, has, c_10, ix10, c_18, ix18, c_33, c_42]
          exact W.iret (v := 0) hx hb hr (fun t ht hW => ⟨_, rfl, by rw [ht]; exact ⟨by rw [ho], bst, by rw [ho]; exact hP47⟩, hS47.F ht⟩) (fun z h => hS47.2.2 z h) dX6_leave_50
    · -- not taken
      replace c_18 := b2_z c_18
      refine lv_aload_n hx hb dX6_leave_21 rfl (lv_at hl 0 rfl) ?_
      refine lv_iconst (v := 1) hx hb dX6_leave_22 (by decide) ?_
      refine c_s1 (va_runV (As := [.int 1]) (rest := []) ⟨hx, hb, hml, hown, hts⟩ (c_X6_fail l D ct Z σ 0 bst rf 1) (cwV 1 hts (GG w_924 w_926 w_35 w_65 w_927) rfl rfl rfl (by decide) ⟨Nat.le_of_ble_eq_true rfl, Nat.le_of_ble_eq_true rfl⟩) ⟨(blindT fun _ _ _ _ h => h), Ob.recv (hT).1 hP2.o rfl, fun U hU hW => ⟨rfl, hT.warm hW, by rw [hU]; exact ⟨fun q hq => Nat.lt_of_lt_of_le (hZs q hq) hS2.1, hP2⟩⟩⟩ rfl rfl hl.1 rfl (lv_room (Nat.le_of_ble_eq_true rfl)) dX6_leave_23 ⟨Nat.le_of_ble_eq_true rfl, Nat.le_of_ble_eq_true rfl⟩) hS2 (fun x23 H23 locs23 hRr23 hzz23 hS23 => ?_)
      obtain ⟨rfl, hRr23⟩ := hRr23
      have hP23 : RP D ct Z (σ) (1) bst rf H23 := hRr23
      have ho : o_leave σ (nI k10) r = (1, 0, σ) := by simp [o_leave, onW, has, c_10, ix10, c_18]
      exact W.iret (v := 0) hx hb hr (fun t ht hW => ⟨_, rfl, by rw [ht]; exact ⟨by rw [ho], bst, by rw [ho]; exact hP23⟩, hS23.F ht⟩) (fun z h => hS23.2.2 z h) dX6_leave_26

/-! hide -/
set_option maxHeartbeats 4000000 in
set_option maxRecDepth 100000 in
theorem c_X6_hide (l : Launch) (D : va_G) (ct : Nat → ClassId) (Z : Nat → Prop) (σ : Stt) (th : Int32) (bst : Nat → Int64) (rf : Nat → Nat) (c r b : Int32) (hI : Inv σ) (hb01 : b = 0 ∨ b = 1) : Met l yX6_hide (.code yX6_hide cX6_hide 4 (some .int) :: GW) ({ frames := 2, cells := 0, slots := 0, locals := 46 } : Room) (va_Pc [.ref (rf 0), .int c, .int r, .int b] (fun U => GT D ct U ∧ (∀ q, Z q → q < U.heap.size) ∧ RP D ct Z σ th bst rf U.heap)) (qS1 Z (fun x h => x = .int (o_hide σ c r b).2.1 ∧ ∃ b1, RP D ct Z (o_hide σ c r b).2.2 (nI (o_hide σ c r b).1) b1 rf h)) 0 0 (nZ Z) := by
  refine m_in (cc := cX6_hide) [.ref (rf 0), .int c, .int r, .int b] "RumourCustomsModel" rfl (by decide) (Nat.le_of_ble_eq_true rfl) ?_
  intro pg e s m args below meth cd ls hx hb hml hown hts hr hlocks hin hPr hl
  obtain ⟨hT, hZs, hP⟩ := hPr
  have hl : lv_has ls 4 [(0, .ref (rf 0)), (1, .int c), (2, .int r), (3, .int b)] := hl
  have hS : va_S (nZ Z) s.heap s.heap [] := va_S.rf
  have hT1 := hI.1.1
  have hT10 := hI.1.2
  have hR1 := hI.2.1.1
  have hR60 := hI.2.1.2
  have hC1 := hI.2.2.1.1
  have hC8 := hI.2.2.1.2
  refine lv_aload_n hx hb dX6_hide_0 rfl (lv_at hl 0 rfl) ?_
  refine lv_iconst (v := 0) hx hb dX6_hide_1 (by decide) ?_
  refine k_put (C := RX6) (T := TX6) (N := 14) hx hb hts inGX6 tyX6 tyX6_ok nmX6 hown (hT).1 hP.o hS (hP.nz (by decide)) rfl 0 (Nat.le_of_ble_eq_true rfl) (hts _ w_872) (fun _ h9 => h9) rfl (ty := .int) (v := .int 0) (by decide +kernel) rfl rfl (Nat.le_of_ble_eq_true rfl) dX6_hide_2 (fun H2 locs2 hO2 hz2 hq2 hS2 => ?_)
  have hO2 : Ob D (rf 0) 7 [.int 0, .int (σ 0 0), .int (σ 0 1), .int (σ 0 2), .int (σ 0 3), .int (σ 0 4), .int (σ 0 5), .int (σ 0 6), .int (σ 0 7), .int (σ 0 8), .ref (rf 1), .ref (rf 2), .ref (rf 3), .ref (rf 4)] H2 := hO2
  have hP2 : RP D ct Z (σ) (0) bst rf H2 := hP.st 0 hO2 hq2
  refine lv_aload_n hx hb dX6_hide_5 rfl (lv_at hl 0 rfl) ?_
  refine lv_iload_n hx hb dX6_hide_6 rfl (lv_at hl 1 rfl) ?_
  refine c_p1 (va_runV (As := [.int c]) (rest := []) ⟨hx, hb, hml, hown, hts⟩ (c_X6_isCarrier l D ct Z σ 0 bst rf c hC1 (by omega)) (cwV 1 hts (GG w_1002 w_1004 w_44 w_65 w_1005) rfl rfl rfl (by decide) ⟨Nat.le_of_ble_eq_true rfl, Nat.le_of_ble_eq_true rfl⟩) ⟨(blindT fun _ _ _ _ h => h), Ob.recv (hT).1 hP2.o rfl, fun U hU hW => ⟨rfl, hT.warm hW, by rw [hU]; exact hP2⟩⟩ rfl rfl hl.1 rfl (lv_room (Nat.le_of_ble_eq_true rfl)) dX6_hide_7 ⟨Nat.le_of_ble_eq_true rfl, Nat.le_of_ble_eq_true rfl⟩) ?_
  refine lv_if_eq (tgt := 21) hx hb dX6_hide_10 (by decide) (fun c_10 => ?_) (fun c_10 => ?_)
  · -- taken
    replace c_10 := b2_z c_10
    refine lv_aload_n hx hb dX6_hide_21 rfl (lv_at hl 0 rfl) ?_
    refine lv_iconst (v := 1) hx hb dX6_hide_22 (by decide) ?_
    refine c_s1 (va_runV (As := [.int 1]) (rest := []) ⟨hx, hb, hml, hown, hts⟩ (c_X6_fail l D ct Z σ 0 bst rf 1) (cwV 1 hts (GG w_924 w_926 w_35 w_65 w_927) rfl rfl rfl (by decide) ⟨Nat.le_of_ble_eq_true rfl, Nat.le_of_ble_eq_true rfl⟩) ⟨(blindT fun _ _ _ _ h => h), Ob.recv (hT).1 hP2.o rfl, fun U hU hW => ⟨rfl, hT.warm hW, by rw [hU]; exact ⟨fun q hq => Nat.lt_of_lt_of_le (hZs q hq) hS2.1, hP2⟩⟩⟩ rfl rfl hl.1 rfl (lv_room (Nat.le_of_ble_eq_true rfl)) dX6_hide_23 ⟨Nat.le_of_ble_eq_true rfl, Nat.le_of_ble_eq_true rfl⟩) hS2 (fun x23 H23 locs23 hRr23 hzz23 hS23 => ?_)
    obtain ⟨rfl, hRr23⟩ := hRr23
    have hP23 : RP D ct Z (σ) (1) bst rf H23 := hRr23
    have ho : o_hide σ c r b = (1, 0, σ) := by simp [o_hide, has, c_10]
    exact W.iret (v := 0) hx hb hr (fun t ht hW => ⟨_, rfl, by rw [ht]; exact ⟨by rw [ho], bst, by rw [ho]; exact hP23⟩, hS23.F ht⟩) (fun z h => hS23.2.2 z h) dX6_hide_26
  · -- not taken
    replace c_10 := b2_nz c_10
    obtain ⟨k10, ht10, hv10⟩ := okC hC1 hC8 c_10
    subst hv10
    have ix10 : ix (nI k10) = k10 := ix_n (by omega)
    refine lv_aload_n hx hb dX6_hide_13 rfl (lv_at hl 0 rfl) ?_
    refine lv_iload_n hx hb dX6_hide_14 rfl (lv_at hl 2 rfl) ?_
    refine c_p1 (va_runV (As := [.int r]) (rest := []) ⟨hx, hb, hml, hown, hts⟩ (c_X6_isRumour l D ct Z σ 0 bst rf r hR1 (by omega)) (cwV 1 hts (GG w_961 w_963 w_38 w_65 w_964) rfl rfl rfl (by decide) ⟨Nat.le_of_ble_eq_true rfl, Nat.le_of_ble_eq_true rfl⟩) ⟨(blindT fun _ _ _ _ h => h), Ob.recv (hT).1 hP2.o rfl, fun U hU hW => ⟨rfl, hT.warm hW, by rw [hU]; exact hP2⟩⟩ rfl rfl hl.1 rfl (lv_room (Nat.le_of_ble_eq_true rfl)) dX6_hide_15 ⟨Nat.le_of_ble_eq_true rfl, Nat.le_of_ble_eq_true rfl⟩) ?_
    refine lv_if_ne (tgt := 27) hx hb dX6_hide_18 (by decide) (fun c_18 => ?_) (fun c_18 => ?_)
    · -- taken
      replace c_18 := b2_nz c_18
      obtain ⟨r18, ht18, hv18⟩ := okR hR1 hR60 c_18
      subst hv18
      have ix18 : ix (nI r18) = r18 := ix_n (by omega)
      refine lv_aload_n hx hb dX6_hide_27 rfl (lv_at hl 0 rfl) ?_
      refine lv_iload_n hx hb dX6_hide_28 rfl (lv_at hl 1 rfl) ?_
      refine lv_iload_n hx hb dX6_hide_29 rfl (lv_at hl 2 rfl) ?_
      refine c_p1 (va_runV (As := [.int (nI k10), .int (nI r18)]) (rest := []) ⟨hx, hb, hml, hown, hts⟩ (c_X6_has l D ct Z σ 0 bst rf (nI k10) r18 (by omega)) (cwV 2 hts (GG w_1022 w_1024 w_48 w_65 w_1025) rfl rfl rfl (by decide) ⟨Nat.le_of_ble_eq_true rfl, Nat.le_of_ble_eq_true rfl⟩) ⟨(blindT fun _ _ _ _ h => h), Ob.recv (hT).1 hP2.o rfl, fun U hU hW => ⟨rfl, hT.warm hW, by rw [hU]; exact hP2⟩⟩ rfl rfl hl.1 rfl (lv_room (Nat.le_of_ble_eq_true rfl)) dX6_hide_30 ⟨Nat.le_of_ble_eq_true rfl, Nat.le_of_ble_eq_true rfl⟩) ?_
      refine lv_if_ne (tgt := 42) hx hb dX6_hide_33 (by decide) (fun c_33 => ?_) (fun c_33 => ?_)
      · -- taken
        replace c_33 := b2_nz c_33
        refine lv_aload_n hx hb dX6_hide_42 rfl (lv_at hl 0 rfl) ?_
        refine lv_iload_n hx hb dX6_hide_43 rfl (lv_at hl 2 rfl) ?_
        refine lv_bipush (v := 6) hx hb dX6_hide_44 (by decide) ?_
        refine lv_iload_n hx hb dX6_hide_46 rfl (lv_at hl 3 rfl) ?_
        refine lv_if_eq (tgt := 54) hx hb dX6_hide_47 (by decide) (fun c_47 => ?_) (fun c_47 => ?_)
        · -- taken
          subst c_47
          refine lv_iconst (v := 0) hx hb dX6_hide_54 (by decide) ?_
          refine c_s0 (va_runV (As := [.int (nI r18), .int 6, .int 0]) (rest := []) ⟨hx, hb, hml, hown, hts⟩ (c_X6_set l D ct Z σ 0 bst rf r18 6 0 6 (by omega) rfl (by decide)) (cwV 3 hts (GG w_1014 w_1016 w_47 w_65 w_1017) rfl rfl rfl (by decide) ⟨Nat.le_of_ble_eq_true rfl, Nat.le_of_ble_eq_true rfl⟩) ⟨(blindT fun _ _ _ _ h => h), Ob.recv (hT).1 hP2.o rfl, fun U hU hW => ⟨rfl, hT.warm hW, by rw [hU]; exact ⟨fun q hq => Nat.lt_of_lt_of_le (hZs q hq) hS2.1, hP2⟩⟩⟩ rfl rfl hl.1 rfl (lv_room (Nat.le_of_ble_eq_true rfl)) dX6_hide_55 ⟨Nat.le_of_ble_eq_true rfl, Nat.le_of_ble_eq_true rfl⟩) hS2 (fun H55 locs55 hRr55 hzz55 hS55 => ?_)
          have hP55 : RP D ct Z (su σ 1 (7 * r18 + 6) 0) (0) bst rf H55 := hRr55
          obtain ⟨τ55, hτ55⟩ : ∃ τ : Stt, τ = su σ 1 (7 * r18 + 6) 0 := ⟨_, rfl⟩
          rw [← hτ55] at hP55
          have hb58 := nrk (τ := τ55) (σ := σ) (by rw [hτ55]; rfl) hR1 hR60
          refine lv_aload_n hx hb dX6_hide_58 rfl (lv_at hl 0 rfl) ?_
          refine lv_iload_n hx hb dX6_hide_59 rfl (lv_at hl 1 rfl) ?_
          refine lv_iconst (v := 1) hx hb dX6_hide_60 (by decide) ?_
          refine c_p1 (va_runV (As := [.int (nI k10), .int 1]) (rest := []) ⟨hx, hb, hml, hown, hts⟩ (c_X6_inBag1 l D ct Z τ55 0 bst rf (nI k10) hb58.1 hb58.2) (cwV 2 hts (GG w_1006 w_1008 w_45 w_65 w_1009) rfl rfl rfl (by decide) ⟨Nat.le_of_ble_eq_true rfl, Nat.le_of_ble_eq_true rfl⟩) ⟨(blindT fun _ _ _ _ h => h), Ob.recv (hT).1 hP55.o rfl, fun U hU hW => ⟨rfl, hT.warm hW, by rw [hU]; exact hP55⟩⟩ rfl rfl hl.1 rfl (lv_room (Nat.le_of_ble_eq_true rfl)) dX6_hide_61 ⟨Nat.le_of_ble_eq_true rfl, Nat.le_of_ble_eq_true rfl⟩) ?_
          have ho : o_hide σ (nI k10) (nI r18) 0 = (0, hidB τ55 (nI k10), τ55) := by simp [o_hide, has, c_10, ix10, c_18, ix18, c_33, hτ55]
          exact W.iret (v := hidB τ55 (nI k10)) hx hb hr (fun t ht hW => ⟨_, rfl, by rw [ht]; exact ⟨by rw [ho], bst, by rw [ho]; exact hP55⟩, hS55.F ht⟩) (fun z h => hS55.2.2 z h) dX6_hide_64
        · -- not taken
          have hb1 : b = 1 := hb01.resolve_left c_47
          subst hb1
          refine lv_iconst (v := 1) hx hb dX6_hide_50 (by decide) ?_
          refine lv_goto (tgt := 55) hx hb dX6_hide_51 (by decide) ?_
          refine c_s0 (va_runV (As := [.int (nI r18), .int 6, .int 1]) (rest := []) ⟨hx, hb, hml, hown, hts⟩ (c_X6_set l D ct Z σ 0 bst rf r18 6 1 6 (by omega) rfl (by decide)) (cwV 3 hts (GG w_1014 w_1016 w_47 w_65 w_1017) rfl rfl rfl (by decide) ⟨Nat.le_of_ble_eq_true rfl, Nat.le_of_ble_eq_true rfl⟩) ⟨(blindT fun _ _ _ _ h => h), Ob.recv (hT).1 hP2.o rfl, fun U hU hW => ⟨rfl, hT.warm hW, by rw [hU]; exact ⟨fun q hq => Nat.lt_of_lt_of_le (hZs q hq) hS2.1, hP2⟩⟩⟩ rfl rfl hl.1 rfl (lv_room (Nat.le_of_ble_eq_true rfl)) dX6_hide_55 ⟨Nat.le_of_ble_eq_true rfl, Nat.le_of_ble_eq_true rfl⟩) hS2 (fun H55 locs55 hRr55 hzz55 hS55 => ?_)
          have hP55 : RP D ct Z (su σ 1 (7 * r18 + 6) 1) (0) bst rf H55 := hRr55
          obtain ⟨τ55, hτ55⟩ : ∃ τ : Stt, τ = su σ 1 (7 * r18 + 6) 1 := ⟨_, rfl⟩
          rw [← hτ55] at hP55
          have hb58 := nrk (τ := τ55) (σ := σ) (by rw [hτ55]; rfl) hR1 hR60
          refine lv_aload_n hx hb dX6_hide_58 rfl (lv_at hl 0 rfl) ?_
          refine lv_iload_n hx hb dX6_hide_59 rfl (lv_at hl 1 rfl) ?_
          refine lv_iconst (v := 1) hx hb dX6_hide_60 (by decide) ?_
          refine c_p1 (va_runV (As := [.int (nI k10), .int 1]) (rest := []) ⟨hx, hb, hml, hown, hts⟩ (c_X6_inBag1 l D ct Z τ55 0 bst rf (nI k10) hb58.1 hb58.2) (cwV 2 hts (GG w_1006 w_1008 w_45 w_65 w_1009) rfl rfl rfl (by decide) ⟨Nat.le_of_ble_eq_true rfl, Nat.le_of_ble_eq_true rfl⟩) ⟨(blindT fun _ _ _ _ h => h), Ob.recv (hT).1 hP55.o rfl, fun U hU hW => ⟨rfl, hT.warm hW, by rw [hU]; exact hP55⟩⟩ rfl rfl hl.1 rfl (lv_room (Nat.le_of_ble_eq_true rfl)) dX6_hide_61 ⟨Nat.le_of_ble_eq_true rfl, Nat.le_of_ble_eq_true rfl⟩) ?_
          have ho : o_hide σ (nI k10) (nI r18) 1 = (0, hidB τ55 (nI k10), τ55) := by simp [o_hide, has, c_10, ix10, c_18, ix18, c_33, hτ55]
          exact W.iret (v := hidB τ55 (nI k10)) hx hb hr (fun t ht hW => ⟨_, rfl, by rw [ht]; exact ⟨by rw [ho], bst, by rw [ho]; exact hP55⟩, hS55.F ht⟩) (fun z h => hS55.2.2 z h) dX6_hide_64
      · -- not taken
        replace c_33 := b2_z c_33
        refine lv_aload_n hx hb dX6_hide_36 rfl (lv_at hl 0 rfl) ?_
        refine lv_iconst (v := 2) hx hb dX6_hide_37 (by decide) ?_
        refine c_s1 (va_runV (As := [.int 2]) (rest := []) ⟨hx, hb, hml, hown, hts⟩ (c_X6_fail l D ct Z σ 0 bst rf 2) (cwV 1 hts (GG w_924 w_926 w_35 w_65 w_927) rfl rfl rfl (by decide) ⟨Nat.le_of_ble_eq_true rfl, Nat.le_of_ble_eq_true rfl⟩) ⟨(blindT fun _ _ _ _ h => h), Ob.recv (hT).1 hP2.o rfl, fun U hU hW => ⟨rfl, hT.warm hW, by rw [hU]; exact ⟨fun q hq => Nat.lt_of_lt_of_le (hZs q hq) hS2.1, hP2⟩⟩⟩ rfl rfl hl.1 rfl (lv_room (Nat.le_of_ble_eq_true rfl)) dX6_hide_38 ⟨Nat.le_of_ble_eq_true rfl, Nat.le_of_ble_eq_true rfl⟩) hS2 (fun x38 H38 locs38 hRr38 hzz38 hS38 => ?_)
        obtain ⟨rfl, hRr38⟩ := hRr38
        have hP38 : RP D ct Z (σ) (2) bst rf H38 := hRr38
        have ho : o_hide σ (nI k10) (nI r18) b = (2, 0, σ) := by simp [o_hide, has, c_10, ix10, c_18, ix18, c_33]
        exact W.iret (v := 0) hx hb hr (fun t ht hW => ⟨_, rfl, by rw [ht]; exact ⟨by rw [ho], bst, by rw [ho]; exact hP38⟩, hS38.F ht⟩) (fun z h => hS38.2.2 z h) dX6_hide_41
    · -- not taken
      replace c_18 := b2_z c_18
      refine lv_aload_n hx hb dX6_hide_21 rfl (lv_at hl 0 rfl) ?_
      refine lv_iconst (v := 1) hx hb dX6_hide_22 (by decide) ?_
      refine c_s1 (va_runV (As := [.int 1]) (rest := []) ⟨hx, hb, hml, hown, hts⟩ (c_X6_fail l D ct Z σ 0 bst rf 1) (cwV 1 hts (GG w_924 w_926 w_35 w_65 w_927) rfl rfl rfl (by decide) ⟨Nat.le_of_ble_eq_true rfl, Nat.le_of_ble_eq_true rfl⟩) ⟨(blindT fun _ _ _ _ h => h), Ob.recv (hT).1 hP2.o rfl, fun U hU hW => ⟨rfl, hT.warm hW, by rw [hU]; exact ⟨fun q hq => Nat.lt_of_lt_of_le (hZs q hq) hS2.1, hP2⟩⟩⟩ rfl rfl hl.1 rfl (lv_room (Nat.le_of_ble_eq_true rfl)) dX6_hide_23 ⟨Nat.le_of_ble_eq_true rfl, Nat.le_of_ble_eq_true rfl⟩) hS2 (fun x23 H23 locs23 hRr23 hzz23 hS23 => ?_)
      obtain ⟨rfl, hRr23⟩ := hRr23
      have hP23 : RP D ct Z (σ) (1) bst rf H23 := hRr23
      have ho : o_hide σ (nI k10) r b = (1, 0, σ) := by simp [o_hide, has, c_10, ix10, c_18]
      exact W.iret (v := 0) hx hb hr (fun t ht hW => ⟨_, rfl, by rw [ht]; exact ⟨by rw [ho], bst, by rw [ho]; exact hP23⟩, hS23.F ht⟩) (fun z h => hS23.2.2 z h) dX6_hide_26

/-! tell -/
set_option maxHeartbeats 4000000 in
set_option maxRecDepth 100000 in
theorem c_X6_tell (l : Launch) (D : va_G) (ct : Nat → ClassId) (Z : Nat → Prop) (σ : Stt) (th : Int32) (bst : Nat → Int64) (rf : Nat → Nat) (c r : Int32) (hI : Inv σ) : Met l yX6_tell (.code yX6_tell cX6_tell 5 (some .int) :: GW) ({ frames := 2, cells := 1, slots := 7, locals := 86 } : Room) (va_Pc [.ref (rf 0), .int c, .int r] (fun U => GT D ct U ∧ (∀ q, Z q → q < U.heap.size) ∧ RP D ct Z σ th bst rf U.heap)) (qS1 Z (fun x h => x = .int (o_tell σ c r).2.1 ∧ ∃ b1, RP D ct Z (o_tell σ c r).2.2 (nI (o_tell σ c r).1) b1 rf h)) 1 7 (nZ Z) := by
  refine m_in (cc := cX6_tell) [.ref (rf 0), .int c, .int r] "RumourCustomsModel" rfl (by decide) (Nat.le_of_ble_eq_true rfl) ?_
  intro pg e s m args below meth cd ls hx hb hml hown hts hr hlocks hin hPr hl
  obtain ⟨hT, hZs, hP⟩ := hPr
  have hl : lv_has ls 5 [(0, .ref (rf 0)), (1, .int c), (2, .int r)] := hl
  have hS : va_S (nZ Z) s.heap s.heap [] := va_S.rf
  have hT1 := hI.1.1
  have hT10 := hI.1.2
  have hR1 := hI.2.1.1
  have hR60 := hI.2.1.2
  have hC1 := hI.2.2.1.1
  have hC8 := hI.2.2.1.2
  refine lv_aload_n hx hb dX6_tell_0 rfl (lv_at hl 0 rfl) ?_
  refine lv_iconst (v := 0) hx hb dX6_tell_1 (by decide) ?_
  refine k_put (C := RX6) (T := TX6) (N := 14) hx hb hts inGX6 tyX6 tyX6_ok nmX6 hown (hT).1 hP.o hS (hP.nz (by decide)) rfl 0 (Nat.le_of_ble_eq_true rfl) (hts _ w_872) (fun _ h9 => h9) rfl (ty := .int) (v := .int 0) (by decide +kernel) rfl rfl (Nat.le_of_ble_eq_true rfl) dX6_tell_2 (fun H2 locs2 hO2 hz2 hq2 hS2 => ?_)
  have hO2 : Ob D (rf 0) 7 [.int 0, .int (σ 0 0), .int (σ 0 1), .int (σ 0 2), .int (σ 0 3), .int (σ 0 4), .int (σ 0 5), .int (σ 0 6), .int (σ 0 7), .int (σ 0 8), .ref (rf 1), .ref (rf 2), .ref (rf 3), .ref (rf 4)] H2 := hO2
  have hP2 : RP D ct Z (σ) (0) bst rf H2 := hP.st 0 hO2 hq2
  refine lv_aload_n hx hb dX6_tell_5 rfl (lv_at hl 0 rfl) ?_
  refine lv_iload_n hx hb dX6_tell_6 rfl (lv_at hl 1 rfl) ?_
  refine c_p1 (va_runV (As := [.int c]) (rest := []) ⟨hx, hb, hml, hown, hts⟩ (c_X6_isCarrier l D ct Z σ 0 bst rf c hC1 (by omega)) (cwV 1 hts (GG w_1002 w_1004 w_44 w_65 w_1005) rfl rfl rfl (by decide) ⟨Nat.le_of_ble_eq_true rfl, Nat.le_of_ble_eq_true rfl⟩) ⟨(blindT fun _ _ _ _ h => h), Ob.recv (hT).1 hP2.o rfl, fun U hU hW => ⟨rfl, hT.warm hW, by rw [hU]; exact hP2⟩⟩ rfl rfl hl.1 rfl (lv_room (Nat.le_of_ble_eq_true rfl)) dX6_tell_7 ⟨Nat.le_of_ble_eq_true rfl, Nat.le_of_ble_eq_true rfl⟩) ?_
  refine lv_if_eq (tgt := 21) hx hb dX6_tell_10 (by decide) (fun c_10 => ?_) (fun c_10 => ?_)
  · -- taken
    replace c_10 := b2_z c_10
    refine lv_aload_n hx hb dX6_tell_21 rfl (lv_at hl 0 rfl) ?_
    refine lv_iconst (v := 1) hx hb dX6_tell_22 (by decide) ?_
    refine c_s1 (va_runV (As := [.int 1]) (rest := []) ⟨hx, hb, hml, hown, hts⟩ (c_X6_fail l D ct Z σ 0 bst rf 1) (cwV 1 hts (GG w_924 w_926 w_35 w_65 w_927) rfl rfl rfl (by decide) ⟨Nat.le_of_ble_eq_true rfl, Nat.le_of_ble_eq_true rfl⟩) ⟨(blindT fun _ _ _ _ h => h), Ob.recv (hT).1 hP2.o rfl, fun U hU hW => ⟨rfl, hT.warm hW, by rw [hU]; exact ⟨fun q hq => Nat.lt_of_lt_of_le (hZs q hq) hS2.1, hP2⟩⟩⟩ rfl rfl hl.1 rfl (lv_room (Nat.le_of_ble_eq_true rfl)) dX6_tell_23 ⟨Nat.le_of_ble_eq_true rfl, Nat.le_of_ble_eq_true rfl⟩) hS2 (fun x23 H23 locs23 hRr23 hzz23 hS23 => ?_)
    obtain ⟨rfl, hRr23⟩ := hRr23
    have hP23 : RP D ct Z (σ) (1) bst rf H23 := hRr23
    refine W.widen (k := 1) (n := 7) (Nat.le_of_ble_eq_true rfl) (Nat.le_of_ble_eq_true rfl) ?_
    have ho : o_tell σ c r = (1, 0, σ) := by simp [o_tell, onW, has, kno, c_10]
    exact W.iret (v := 0) hx hb hr (fun t ht hW => ⟨_, rfl, by rw [ht]; exact ⟨by rw [ho], bst, by rw [ho]; exact hP23⟩, hS23.F ht⟩) (fun z h => hS23.2.2 z h) dX6_tell_26
  · -- not taken
    replace c_10 := b2_nz c_10
    obtain ⟨k10, ht10, hv10⟩ := okC hC1 hC8 c_10
    subst hv10
    have ix10 : ix (nI k10) = k10 := ix_n (by omega)
    refine lv_aload_n hx hb dX6_tell_13 rfl (lv_at hl 0 rfl) ?_
    refine lv_iload_n hx hb dX6_tell_14 rfl (lv_at hl 2 rfl) ?_
    refine c_p1 (va_runV (As := [.int r]) (rest := []) ⟨hx, hb, hml, hown, hts⟩ (c_X6_isRumour l D ct Z σ 0 bst rf r hR1 (by omega)) (cwV 1 hts (GG w_961 w_963 w_38 w_65 w_964) rfl rfl rfl (by decide) ⟨Nat.le_of_ble_eq_true rfl, Nat.le_of_ble_eq_true rfl⟩) ⟨(blindT fun _ _ _ _ h => h), Ob.recv (hT).1 hP2.o rfl, fun U hU hW => ⟨rfl, hT.warm hW, by rw [hU]; exact hP2⟩⟩ rfl rfl hl.1 rfl (lv_room (Nat.le_of_ble_eq_true rfl)) dX6_tell_15 ⟨Nat.le_of_ble_eq_true rfl, Nat.le_of_ble_eq_true rfl⟩) ?_
    refine lv_if_ne (tgt := 27) hx hb dX6_tell_18 (by decide) (fun c_18 => ?_) (fun c_18 => ?_)
    · -- taken
      replace c_18 := b2_nz c_18
      obtain ⟨r18, ht18, hv18⟩ := okR hR1 hR60 c_18
      subst hv18
      have ix18 : ix (nI r18) = r18 := ix_n (by omega)
      refine lv_aload_n hx hb dX6_tell_27 rfl (lv_at hl 0 rfl) ?_
      refine lv_iload_n hx hb dX6_tell_28 rfl (lv_at hl 1 rfl) ?_
      refine lv_iconst (v := 1) hx hb dX6_tell_29 (by decide) ?_
      refine c_p1 (va_runV (As := [.int (nI k10), .int 1]) (rest := []) ⟨hx, hb, hml, hown, hts⟩ (c_X6_man l D ct Z σ 0 bst rf k10 1 1 (by omega) rfl (by decide)) (cwV 2 hts (GG w_985 w_987 w_43 w_65 w_988) rfl rfl rfl (by decide) ⟨Nat.le_of_ble_eq_true rfl, Nat.le_of_ble_eq_true rfl⟩) ⟨(blindT fun _ _ _ _ h => h), Ob.recv (hT).1 hP2.o rfl, fun U hU hW => ⟨rfl, hT.warm hW, by rw [hU]; exact hP2⟩⟩ rfl rfl hl.1 rfl (lv_room (Nat.le_of_ble_eq_true rfl)) dX6_tell_30 ⟨Nat.le_of_ble_eq_true rfl, Nat.le_of_ble_eq_true rfl⟩) ?_
      refine lv_if_gt (tgt := 45) hx hb dX6_tell_33 (by decide) (fun c_33 => ?_) (fun c_33 => ?_)
      · -- taken
        refine lv_aload_n hx hb dX6_tell_45 rfl (lv_at hl 0 rfl) ?_
        refine lv_iconst (v := 2) hx hb dX6_tell_46 (by decide) ?_
        refine c_s1 (va_runV (As := [.int 2]) (rest := []) ⟨hx, hb, hml, hown, hts⟩ (c_X6_fail l D ct Z σ 0 bst rf 2) (cwV 1 hts (GG w_924 w_926 w_35 w_65 w_927) rfl rfl rfl (by decide) ⟨Nat.le_of_ble_eq_true rfl, Nat.le_of_ble_eq_true rfl⟩) ⟨(blindT fun _ _ _ _ h => h), Ob.recv (hT).1 hP2.o rfl, fun U hU hW => ⟨rfl, hT.warm hW, by rw [hU]; exact ⟨fun q hq => Nat.lt_of_lt_of_le (hZs q hq) hS2.1, hP2⟩⟩⟩ rfl rfl hl.1 rfl (lv_room (Nat.le_of_ble_eq_true rfl)) dX6_tell_47 ⟨Nat.le_of_ble_eq_true rfl, Nat.le_of_ble_eq_true rfl⟩) hS2 (fun x47 H47 locs47 hRr47 hzz47 hS47 => ?_)
        obtain ⟨rfl, hRr47⟩ := hRr47
        have hP47 : RP D ct Z (σ) (2) bst rf H47 := hRr47
        refine W.widen (k := 1) (n := 7) (Nat.le_of_ble_eq_true rfl) (Nat.le_of_ble_eq_true rfl) ?_
        have ho : o_tell σ (nI k10) (nI r18) = (2, 0, σ) := by simp [o_tell, onW, has, kno, c_10, ix10, c_18, ix18, c_33]
        exact W.iret (v := 0) hx hb hr (fun t ht hW => ⟨_, rfl, by rw [ht]; exact ⟨by rw [ho], bst, by rw [ho]; exact hP47⟩, hS47.F ht⟩) (fun z h => hS47.2.2 z h) dX6_tell_50
      · -- not taken
        refine lv_aload_n hx hb dX6_tell_36 rfl (lv_at hl 0 rfl) ?_
        refine lv_iload_n hx hb dX6_tell_37 rfl (lv_at hl 1 rfl) ?_
        refine lv_iload_n hx hb dX6_tell_38 rfl (lv_at hl 2 rfl) ?_
        refine c_p1 (va_runV (As := [.int (nI k10), .int (nI r18)]) (rest := []) ⟨hx, hb, hml, hown, hts⟩ (c_X6_has l D ct Z σ 0 bst rf (nI k10) r18 (by omega)) (cwV 2 hts (GG w_1022 w_1024 w_48 w_65 w_1025) rfl rfl rfl (by decide) ⟨Nat.le_of_ble_eq_true rfl, Nat.le_of_ble_eq_true rfl⟩) ⟨(blindT fun _ _ _ _ h => h), Ob.recv (hT).1 hP2.o rfl, fun U hU hW => ⟨rfl, hT.warm hW, by rw [hU]; exact hP2⟩⟩ rfl rfl hl.1 rfl (lv_room (Nat.le_of_ble_eq_true rfl)) dX6_tell_39 ⟨Nat.le_of_ble_eq_true rfl, Nat.le_of_ble_eq_true rfl⟩) ?_
        refine lv_if_ne (tgt := 51) hx hb dX6_tell_42 (by decide) (fun c_42 => ?_) (fun c_42 => ?_)
        · -- taken
          replace c_42 := b2_nz c_42
          refine lv_aload_n hx hb dX6_tell_51 rfl (lv_at hl 0 rfl) ?_
          refine lv_iload_n hx hb dX6_tell_52 rfl (lv_at hl 2 rfl) ?_
          refine lv_iconst (v := 1) hx hb dX6_tell_53 (by decide) ?_
          refine c_p1 (va_runV (As := [.int (nI r18), .int 1]) (rest := []) ⟨hx, hb, hml, hown, hts⟩ (c_X6_get l D ct Z σ 0 bst rf r18 1 1 (by omega) rfl (by decide)) (cwV 2 hts (GG w_965 w_967 w_39 w_65 w_968) rfl rfl rfl (by decide) ⟨Nat.le_of_ble_eq_true rfl, Nat.le_of_ble_eq_true rfl⟩) ⟨(blindT fun _ _ _ _ h => h), Ob.recv (hT).1 hP2.o rfl, fun U hU hW => ⟨rfl, hT.warm hW, by rw [hU]; exact hP2⟩⟩ rfl rfl hl.1 rfl (lv_room (Nat.le_of_ble_eq_true rfl)) dX6_tell_54 ⟨Nat.le_of_ble_eq_true rfl, Nat.le_of_ble_eq_true rfl⟩) ?_
          refine lv_iconst (v := 1) hx hb dX6_tell_57 (by decide) ?_
          refine lv_iadd hx hb dX6_tell_58 ?_
          refine lv_istore_n (lv' := [(3, .int ((σ 1 (7 * r18 + 1)) + 1)), (0, .ref (rf 0)), (1, .int (nI k10)), (2, .int (nI r18))]) hx hb dX6_tell_59 rfl hl (by decide) rfl (fun ls hl => ?_)
          refine lv_aload_n hx hb dX6_tell_60 rfl (lv_at hl 1 rfl) ?_
          refine lv_aload_n hx hb dX6_tell_61 rfl (lv_at hl 1 rfl) ?_
          refine lv_iload_n hx hb dX6_tell_62 rfl (lv_at hl 2 rfl) ?_
          refine lv_iconst (v := 0) hx hb dX6_tell_63 (by decide) ?_
          refine c_p1 (va_runV (As := [.int (nI k10), .int 0]) (rest := [.ref (rf 0)]) ⟨hx, hb, hml, hown, hts⟩ (c_X6_man l D ct Z σ 0 bst rf k10 0 0 (by omega) rfl (by decide)) (cwV 2 hts (GG w_985 w_987 w_43 w_65 w_988) rfl rfl rfl (by decide) ⟨Nat.le_of_ble_eq_true rfl, Nat.le_of_ble_eq_true rfl⟩) ⟨(blindT fun _ _ _ _ h => h), Ob.recv (hT).1 hP2.o rfl, fun U hU hW => ⟨rfl, hT.warm hW, by rw [hU]; exact hP2⟩⟩ rfl rfl hl.1 rfl (lv_room (Nat.le_of_ble_eq_true rfl)) dX6_tell_64 ⟨Nat.le_of_ble_eq_true rfl, Nat.le_of_ble_eq_true rfl⟩) ?_
          rw [Nat.add_zero (4 * k10)]
          refine lv_aload_n hx hb dX6_tell_67 rfl (lv_at hl 1 rfl) ?_
          refine lv_iload_n hx hb dX6_tell_68 rfl (lv_at hl 3 rfl) ?_
          refine lv_iconst (v := 3) hx hb dX6_tell_69 (by decide) ?_
          refine c_p1 (va_runV (As := [.int (nI r18), .int 3]) (rest := [.int (σ 2 (4 * k10)), .ref (rf 0)]) ⟨hx, hb, hml, hown, hts⟩ (c_X6_get l D ct Z σ 0 bst rf r18 3 3 (by omega) rfl (by decide)) (cwV 2 hts (GG w_965 w_967 w_39 w_65 w_968) rfl rfl rfl (by decide) ⟨Nat.le_of_ble_eq_true rfl, Nat.le_of_ble_eq_true rfl⟩) ⟨(blindT fun _ _ _ _ h => h), Ob.recv (hT).1 hP2.o rfl, fun U hU hW => ⟨rfl, hT.warm hW, by rw [hU]; exact hP2⟩⟩ rfl rfl hl.1 rfl (lv_room (Nat.le_of_ble_eq_true rfl)) dX6_tell_70 ⟨Nat.le_of_ble_eq_true rfl, Nat.le_of_ble_eq_true rfl⟩) ?_
          refine c_p1 (va_runV (As := [.int (σ 2 (4 * k10)), .int (σ 1 (7 * r18 + 3))]) (rest := []) ⟨hx, hb, hml, hown, hts⟩ (c_X6_heardOf l D ct Z σ 0 bst rf (σ 2 (4 * k10)) (σ 1 (7 * r18 + 3)) hR1 hR60) (cwV 2 hts (GG w_981 w_983 w_42 w_65 w_984) rfl rfl rfl (by decide) ⟨Nat.le_of_ble_eq_true rfl, Nat.le_of_ble_eq_true rfl⟩) ⟨(blindT fun _ _ _ _ h => h), Ob.recv (hT).1 hP2.o rfl, fun U hU hW => ⟨rfl, hT.warm hW, by rw [hU]; exact hP2⟩⟩ rfl rfl hl.1 rfl (lv_room (Nat.le_of_ble_eq_true rfl)) dX6_tell_73 ⟨Nat.le_of_ble_eq_true rfl, Nat.le_of_ble_eq_true rfl⟩) ?_
          rcases hld : ldp σ (σ 2 (4 * k10)) (σ 1 (7 * r18 + 3)) (nR σ) with _ | k0
          · -- none
            rw [show opI none = -1 from rfl]
            refine lv_istore (lv' := [(4, .int (-1)), (3, .int ((σ 1 (7 * r18 + 1)) + 1)), (0, .ref (rf 0)), (1, .int (nI k10)), (2, .int (nI r18))]) hx hb dX6_tell_76 hl (by decide) rfl (fun ls hl => ?_)
            refine lv_iload hx hb dX6_tell_78 (lv_at hl 0 rfl) ?_
            refine lv_iconst (v := (-1)) hx hb dX6_tell_80 (by decide) ?_
            refine lv_icmp_eq (tgt := 97) hx hb dX6_tell_81 (by decide) (fun _ => ?_) (fun c_ => absurd (by decide) c_)
            refine lv_aload_n hx hb dX6_tell_97 rfl (lv_at hl 2 rfl) ?_
            refine k_get (C := RX6) (T := TX6) (N := 14) hx hb hts inGX6 hown (hT).1 hP2.o rfl 4 (by decide) (hts _ w_876) (fun _ h9 => h9) (v := .int (σ 0 3)) rfl dX6_tell_98 ?_
            rw [hR1]
            refine lv_bipush (v := 60) hx hb dX6_tell_101 (by decide) ?_
            refine lv_icmp_eq (tgt := 112) hx hb dX6_tell_103 (by decide) (fun c_103 => ?_) (fun c_103 => ?_)
            · -- taken
              have nc_103 : (nR σ) = 60 := (nI_eq (a := (nR σ)) (b := 60) (by omega) (by omega)).mp c_103
              have hlt : ¬ nR σ < 60 := by omega
              refine lv_aload_n hx hb dX6_tell_112 rfl (lv_at hl 2 rfl) ?_
              refine lv_iconst (v := 2) hx hb dX6_tell_113 (by decide) ?_
              refine c_s1 (va_runV (As := [.int 2]) (rest := []) ⟨hx, hb, hml, hown, hts⟩ (c_X6_fail l D ct Z σ 0 bst rf 2) (cwV 1 hts (GG w_924 w_926 w_35 w_65 w_927) rfl rfl rfl (by decide) ⟨Nat.le_of_ble_eq_true rfl, Nat.le_of_ble_eq_true rfl⟩) ⟨(blindT fun _ _ _ _ h => h), Ob.recv (hT).1 hP2.o rfl, fun U hU hW => ⟨rfl, hT.warm hW, by rw [hU]; exact ⟨fun q hq => Nat.lt_of_lt_of_le (hZs q hq) hS2.1, hP2⟩⟩⟩ rfl rfl hl.1 rfl (lv_room (Nat.le_of_ble_eq_true rfl)) dX6_tell_114 ⟨Nat.le_of_ble_eq_true rfl, Nat.le_of_ble_eq_true rfl⟩) hS2 (fun x114 H114 locs114 hRr114 hzz114 hS114 => ?_)
              obtain ⟨rfl, hRr114⟩ := hRr114
              have hP114 : RP D ct Z (σ) (2) bst rf H114 := hRr114
              refine W.widen (k := 1) (n := 7) (Nat.le_of_ble_eq_true rfl) (Nat.le_of_ble_eq_true rfl) ?_
              have ho : o_tell σ (nI k10) (nI r18) = (2, 0, σ) := by simp [o_tell, onW, has, kno, c_10, ix10, c_18, ix18, c_33, c_42, hld, hlt]
              exact W.iret (v := 0) hx hb hr (fun t ht hW => ⟨_, rfl, by rw [ht]; exact ⟨by rw [ho], bst, by rw [ho]; exact hP114⟩, hS114.F ht⟩) (fun z h => hS114.2.2 z h) dX6_tell_117
            · -- not taken
              have nc_103 : ¬ (nR σ) = 60 := fun z => c_103 ((nI_eq (a := (nR σ)) (b := 60) (by omega) (by omega)).mpr z)
              have hlt : nR σ < 60 := by omega
              refine lv_iload_n hx hb dX6_tell_106 rfl (lv_at hl 1 rfl) ?_
              refine lv_bipush (v := 100) hx hb dX6_tell_107 (by decide) ?_
              refine lv_icmp_ne (tgt := 118) hx hb dX6_tell_109 (by decide) (fun c_109 => ?_) (fun c_109 => ?_)
              · -- taken
                obtain ⟨d0, hd0, hde⟩ := (hI.2.2.2.1 r18 ht18).2.1
                have hd9 : σ 1 (7 * r18 + 1) + 1 ≤ 99 := by
                  rw [hde, nI_1]
                  have : d0 ≠ 99 := fun z => c_109 (by rw [hde, z]; rfl)
                  exact nI_le (b := 99) (by omega) (by decide)
                refine lv_aload_n hx hb dX6_tell_118 rfl (lv_at hl 2 rfl) ?_
                refine lv_aload_n hx hb dX6_tell_119 rfl (lv_at hl 2 rfl) ?_
                refine lv_iload_n hx hb dX6_tell_120 rfl (lv_at hl 4 rfl) ?_
                refine lv_iconst (v := 0) hx hb dX6_tell_121 (by decide) ?_
                refine c_p1 (va_runV (As := [.int (nI r18), .int 0]) (rest := [.ref (rf 0)]) ⟨hx, hb, hml, hown, hts⟩ (c_X6_get l D ct Z σ 0 bst rf r18 0 0 (by omega) rfl (by decide)) (cwV 2 hts (GG w_965 w_967 w_39 w_65 w_968) rfl rfl rfl (by decide) ⟨Nat.le_of_ble_eq_true rfl, Nat.le_of_ble_eq_true rfl⟩) ⟨(blindT fun _ _ _ _ h => h), Ob.recv (hT).1 hP2.o rfl, fun U hU hW => ⟨rfl, hT.warm hW, by rw [hU]; exact hP2⟩⟩ rfl rfl hl.1 rfl (lv_room (Nat.le_of_ble_eq_true rfl)) dX6_tell_122 ⟨Nat.le_of_ble_eq_true rfl, Nat.le_of_ble_eq_true rfl⟩) ?_
                rw [Nat.add_zero (7 * r18)]
                refine lv_iload_n hx hb dX6_tell_125 rfl (lv_at hl 1 rfl) ?_
                refine lv_aload_n hx hb dX6_tell_126 rfl (lv_at hl 2 rfl) ?_
                refine lv_iload_n hx hb dX6_tell_127 rfl (lv_at hl 4 rfl) ?_
                refine lv_iconst (v := 2) hx hb dX6_tell_128 (by decide) ?_
                refine c_p1 (va_runV (As := [.int (nI r18), .int 2]) (rest := [.int ((σ 1 (7 * r18 + 1)) + 1), .int (σ 1 (7 * r18)), .ref (rf 0)]) ⟨hx, hb, hml, hown, hts⟩ (c_X6_get l D ct Z σ 0 bst rf r18 2 2 (by omega) rfl (by decide)) (cwV 2 hts (GG w_965 w_967 w_39 w_65 w_968) rfl rfl rfl (by decide) ⟨Nat.le_of_ble_eq_true rfl, Nat.le_of_ble_eq_true rfl⟩) ⟨(blindT fun _ _ _ _ h => h), Ob.recv (hT).1 hP2.o rfl, fun U hU hW => ⟨rfl, hT.warm hW, by rw [hU]; exact hP2⟩⟩ rfl rfl hl.1 rfl (lv_room (Nat.le_of_ble_eq_true rfl)) dX6_tell_129 ⟨Nat.le_of_ble_eq_true rfl, Nat.le_of_ble_eq_true rfl⟩) ?_
                refine lv_aload_n hx hb dX6_tell_132 rfl (lv_at hl 2 rfl) ?_
                refine lv_iload_n hx hb dX6_tell_133 rfl (lv_at hl 4 rfl) ?_
                refine lv_iconst (v := 3) hx hb dX6_tell_134 (by decide) ?_
                refine c_p1 (va_runV (As := [.int (nI r18), .int 3]) (rest := [.int (σ 1 (7 * r18 + 2)), .int ((σ 1 (7 * r18 + 1)) + 1), .int (σ 1 (7 * r18)), .ref (rf 0)]) ⟨hx, hb, hml, hown, hts⟩ (c_X6_get l D ct Z σ 0 bst rf r18 3 3 (by omega) rfl (by decide)) (cwV 2 hts (GG w_965 w_967 w_39 w_65 w_968) rfl rfl rfl (by decide) ⟨Nat.le_of_ble_eq_true rfl, Nat.le_of_ble_eq_true rfl⟩) ⟨(blindT fun _ _ _ _ h => h), Ob.recv (hT).1 hP2.o rfl, fun U hU hW => ⟨rfl, hT.warm hW, by rw [hU]; exact hP2⟩⟩ rfl rfl hl.1 rfl (lv_room (Nat.le_of_ble_eq_true rfl)) dX6_tell_135 ⟨Nat.le_of_ble_eq_true rfl, Nat.le_of_ble_eq_true rfl⟩) ?_
                refine lv_aload_n hx hb dX6_tell_138 rfl (lv_at hl 2 rfl) ?_
                refine lv_iload_n hx hb dX6_tell_139 rfl (lv_at hl 3 rfl) ?_
                refine lv_iconst (v := 0) hx hb dX6_tell_140 (by decide) ?_
                refine c_p1 (va_runV (As := [.int (nI k10), .int 0]) (rest := [.int (σ 1 (7 * r18 + 3)), .int (σ 1 (7 * r18 + 2)), .int ((σ 1 (7 * r18 + 1)) + 1), .int (σ 1 (7 * r18)), .ref (rf 0)]) ⟨hx, hb, hml, hown, hts⟩ (c_X6_man l D ct Z σ 0 bst rf k10 0 0 (by omega) rfl (by decide)) (cwV 2 hts (GG w_985 w_987 w_43 w_65 w_988) rfl rfl rfl (by decide) ⟨Nat.le_of_ble_eq_true rfl, Nat.le_of_ble_eq_true rfl⟩) ⟨(blindT fun _ _ _ _ h => h), Ob.recv (hT).1 hP2.o rfl, fun U hU hW => ⟨rfl, hT.warm hW, by rw [hU]; exact hP2⟩⟩ rfl rfl hl.1 rfl (lv_room (Nat.le_of_ble_eq_true rfl)) dX6_tell_141 ⟨Nat.le_of_ble_eq_true rfl, Nat.le_of_ble_eq_true rfl⟩) ?_
                rw [Nat.add_zero (4 * k10)]
                refine c_s1 (va_runV (As := [.int (σ 1 (7 * r18)), .int ((σ 1 (7 * r18 + 1)) + 1), .int (σ 1 (7 * r18 + 2)), .int (σ 1 (7 * r18 + 3)), .int (σ 2 (4 * k10))]) (rest := []) ⟨hx, hb, hml, hown, hts⟩ (c_X6_add l D ct Z σ 0 bst rf (σ 1 (7 * r18)) ((σ 1 (7 * r18 + 1)) + 1) (σ 1 (7 * r18 + 2)) (σ 1 (7 * r18 + 3)) (σ 2 (4 * k10)) hR1 hlt) (cwV 5 hts (GG w_953 w_955 w_37 w_65 w_956) rfl rfl rfl (by decide) ⟨Nat.le_of_ble_eq_true rfl, Nat.le_of_ble_eq_true rfl⟩) ⟨(blindT fun _ _ _ _ h => h), Ob.recv (hT).1 hP2.o rfl, fun U hU hW => ⟨rfl, hT.warm hW, by rw [hU]; exact ⟨fun q hq => Nat.lt_of_lt_of_le (hZs q hq) hS2.1, hP2⟩⟩⟩ rfl rfl hl.1 rfl (lv_room (Nat.le_of_ble_eq_true rfl)) dX6_tell_144 ⟨Nat.le_of_ble_eq_true rfl, Nat.le_of_ble_eq_true rfl⟩) hS2 (fun x144 H144 locs144 hRr144 hzz144 hS144 => ?_)
                obtain ⟨rfl, hRr144⟩ := hRr144
                refine W.widen (k := 1) (n := 7) (Nat.le_of_ble_eq_true rfl) (Nat.le_of_ble_eq_true rfl) ?_
                have hP144 : RP D ct Z (addRm σ (σ 1 (7 * r18)) ((σ 1 (7 * r18 + 1)) + 1) (σ 1 (7 * r18 + 2)) (σ 1 (7 * r18 + 3)) (σ 2 (4 * k10))) (0) bst rf H144 := hRr144
                obtain ⟨τ144, hτ144⟩ : ∃ τ : Stt, τ = addRm σ (σ 1 (7 * r18)) ((σ 1 (7 * r18 + 1)) + 1) (σ 1 (7 * r18 + 2)) (σ 1 (7 * r18 + 3)) (σ 2 (4 * k10)) := ⟨_, rfl⟩
                rw [← hτ144] at hP144
                have ho : o_tell σ (nI k10) (nI r18) = (0, nI (nR σ), τ144) := by simp [o_tell, onW, has, kno, c_10, ix10, c_18, ix18, c_33, c_42, hld, hlt, hd9, hτ144]
                exact W.iret (v := nI (nR σ)) hx hb hr (fun t ht hW => ⟨_, rfl, by rw [ht]; exact ⟨by rw [ho], bst, by rw [ho]; exact hP144⟩, hS144.F ht⟩) (fun z h => hS144.2.2 z h) dX6_tell_147
              · -- not taken
                obtain ⟨d0, hd0, hde⟩ := (hI.2.2.2.1 r18 ht18).2.1
                have hd9 : ¬ σ 1 (7 * r18 + 1) + 1 ≤ 99 := by rw [c_109]; decide
                refine lv_aload_n hx hb dX6_tell_112 rfl (lv_at hl 2 rfl) ?_
                refine lv_iconst (v := 2) hx hb dX6_tell_113 (by decide) ?_
                refine c_s1 (va_runV (As := [.int 2]) (rest := []) ⟨hx, hb, hml, hown, hts⟩ (c_X6_fail l D ct Z σ 0 bst rf 2) (cwV 1 hts (GG w_924 w_926 w_35 w_65 w_927) rfl rfl rfl (by decide) ⟨Nat.le_of_ble_eq_true rfl, Nat.le_of_ble_eq_true rfl⟩) ⟨(blindT fun _ _ _ _ h => h), Ob.recv (hT).1 hP2.o rfl, fun U hU hW => ⟨rfl, hT.warm hW, by rw [hU]; exact ⟨fun q hq => Nat.lt_of_lt_of_le (hZs q hq) hS2.1, hP2⟩⟩⟩ rfl rfl hl.1 rfl (lv_room (Nat.le_of_ble_eq_true rfl)) dX6_tell_114 ⟨Nat.le_of_ble_eq_true rfl, Nat.le_of_ble_eq_true rfl⟩) hS2 (fun x114 H114 locs114 hRr114 hzz114 hS114 => ?_)
                obtain ⟨rfl, hRr114⟩ := hRr114
                have hP114 : RP D ct Z (σ) (2) bst rf H114 := hRr114
                refine W.widen (k := 1) (n := 7) (Nat.le_of_ble_eq_true rfl) (Nat.le_of_ble_eq_true rfl) ?_
                have ho : o_tell σ (nI k10) (nI r18) = (2, 0, σ) := by simp [o_tell, onW, has, kno, c_10, ix10, c_18, ix18, c_33, c_42, hld, hlt, hd9]
                exact W.iret (v := 0) hx hb hr (fun t ht hW => ⟨_, rfl, by rw [ht]; exact ⟨by rw [ho], bst, by rw [ho]; exact hP114⟩, hS114.F ht⟩) (fun z h => hS114.2.2 z h) dX6_tell_117
          · -- some
            have hk0 := (ldp_lt hld).1
            rw [show opI (some k0) = nI k0 from rfl]
            refine lv_istore (lv' := [(4, .int (nI k0)), (3, .int ((σ 1 (7 * r18 + 1)) + 1)), (0, .ref (rf 0)), (1, .int (nI k10)), (2, .int (nI r18))]) hx hb dX6_tell_76 hl (by decide) rfl (fun ls hl => ?_)
            refine lv_iload hx hb dX6_tell_78 (lv_at hl 0 rfl) ?_
            refine lv_iconst (v := (-1)) hx hb dX6_tell_80 (by decide) ?_
            refine lv_icmp_eq (tgt := 97) hx hb dX6_tell_81 (by decide) (fun c_ => absurd c_ (nI_m1 (n := k0) (by omega))) (fun _ => ?_)
            refine lv_aload_n hx hb dX6_tell_84 rfl (lv_at hl 2 rfl) ?_
            refine lv_iload hx hb dX6_tell_85 (lv_at hl 0 rfl) ?_
            refine lv_iconst (v := 1) hx hb dX6_tell_87 (by decide) ?_
            refine c_p1 (va_runV (As := [.int (nI k0), .int 1]) (rest := []) ⟨hx, hb, hml, hown, hts⟩ (c_X6_get l D ct Z σ 0 bst rf k0 1 1 (by omega) rfl (by decide)) (cwV 2 hts (GG w_965 w_967 w_39 w_65 w_968) rfl rfl rfl (by decide) ⟨Nat.le_of_ble_eq_true rfl, Nat.le_of_ble_eq_true rfl⟩) ⟨(blindT fun _ _ _ _ h => h), Ob.recv (hT).1 hP2.o rfl, fun U hU hW => ⟨rfl, hT.warm hW, by rw [hU]; exact hP2⟩⟩ rfl rfl hl.1 rfl (lv_room (Nat.le_of_ble_eq_true rfl)) dX6_tell_88 ⟨Nat.le_of_ble_eq_true rfl, Nat.le_of_ble_eq_true rfl⟩) ?_
            refine lv_iload_n hx hb dX6_tell_91 rfl (lv_at hl 1 rfl) ?_
            refine lv_icmp_gt (tgt := 97) hx hb dX6_tell_92 (by decide) (fun c_92 => ?_) (fun c_92 => ?_)
            · -- taken
              have hk92 : ¬ σ 1 (7 * k0 + 1) ≤ σ 1 (7 * r18 + 1) + 1 := Int32.not_le.mpr c_92
              refine lv_aload_n hx hb dX6_tell_97 rfl (lv_at hl 2 rfl) ?_
              refine k_get (C := RX6) (T := TX6) (N := 14) hx hb hts inGX6 hown (hT).1 hP2.o rfl 4 (by decide) (hts _ w_876) (fun _ h9 => h9) (v := .int (σ 0 3)) rfl dX6_tell_98 ?_
              rw [hR1]
              refine lv_bipush (v := 60) hx hb dX6_tell_101 (by decide) ?_
              refine lv_icmp_eq (tgt := 112) hx hb dX6_tell_103 (by decide) (fun c_103 => ?_) (fun c_103 => ?_)
              · -- taken
                have nc_103 : (nR σ) = 60 := (nI_eq (a := (nR σ)) (b := 60) (by omega) (by omega)).mp c_103
                have hlt : ¬ nR σ < 60 := by omega
                refine lv_aload_n hx hb dX6_tell_112 rfl (lv_at hl 2 rfl) ?_
                refine lv_iconst (v := 2) hx hb dX6_tell_113 (by decide) ?_
                refine c_s1 (va_runV (As := [.int 2]) (rest := []) ⟨hx, hb, hml, hown, hts⟩ (c_X6_fail l D ct Z σ 0 bst rf 2) (cwV 1 hts (GG w_924 w_926 w_35 w_65 w_927) rfl rfl rfl (by decide) ⟨Nat.le_of_ble_eq_true rfl, Nat.le_of_ble_eq_true rfl⟩) ⟨(blindT fun _ _ _ _ h => h), Ob.recv (hT).1 hP2.o rfl, fun U hU hW => ⟨rfl, hT.warm hW, by rw [hU]; exact ⟨fun q hq => Nat.lt_of_lt_of_le (hZs q hq) hS2.1, hP2⟩⟩⟩ rfl rfl hl.1 rfl (lv_room (Nat.le_of_ble_eq_true rfl)) dX6_tell_114 ⟨Nat.le_of_ble_eq_true rfl, Nat.le_of_ble_eq_true rfl⟩) hS2 (fun x114 H114 locs114 hRr114 hzz114 hS114 => ?_)
                obtain ⟨rfl, hRr114⟩ := hRr114
                have hP114 : RP D ct Z (σ) (2) bst rf H114 := hRr114
                refine W.widen (k := 1) (n := 7) (Nat.le_of_ble_eq_true rfl) (Nat.le_of_ble_eq_true rfl) ?_
                have ho : o_tell σ (nI k10) (nI r18) = (2, 0, σ) := by simp [o_tell, onW, has, kno, c_10, ix10, c_18, ix18, c_33, c_42, hld, hk92, hlt]
                exact W.iret (v := 0) hx hb hr (fun t ht hW => ⟨_, rfl, by rw [ht]; exact ⟨by rw [ho], bst, by rw [ho]; exact hP114⟩, hS114.F ht⟩) (fun z h => hS114.2.2 z h) dX6_tell_117
              · -- not taken
                have nc_103 : ¬ (nR σ) = 60 := fun z => c_103 ((nI_eq (a := (nR σ)) (b := 60) (by omega) (by omega)).mpr z)
                have hlt : nR σ < 60 := by omega
                refine lv_iload_n hx hb dX6_tell_106 rfl (lv_at hl 1 rfl) ?_
                refine lv_bipush (v := 100) hx hb dX6_tell_107 (by decide) ?_
                refine lv_icmp_ne (tgt := 118) hx hb dX6_tell_109 (by decide) (fun c_109 => ?_) (fun c_109 => ?_)
                · -- taken
                  obtain ⟨d0, hd0, hde⟩ := (hI.2.2.2.1 r18 ht18).2.1
                  have hd9 : σ 1 (7 * r18 + 1) + 1 ≤ 99 := by
                    rw [hde, nI_1]
                    have : d0 ≠ 99 := fun z => c_109 (by rw [hde, z]; rfl)
                    exact nI_le (b := 99) (by omega) (by decide)
                  refine lv_aload_n hx hb dX6_tell_118 rfl (lv_at hl 2 rfl) ?_
                  refine lv_aload_n hx hb dX6_tell_119 rfl (lv_at hl 2 rfl) ?_
                  refine lv_iload_n hx hb dX6_tell_120 rfl (lv_at hl 4 rfl) ?_
                  refine lv_iconst (v := 0) hx hb dX6_tell_121 (by decide) ?_
                  refine c_p1 (va_runV (As := [.int (nI r18), .int 0]) (rest := [.ref (rf 0)]) ⟨hx, hb, hml, hown, hts⟩ (c_X6_get l D ct Z σ 0 bst rf r18 0 0 (by omega) rfl (by decide)) (cwV 2 hts (GG w_965 w_967 w_39 w_65 w_968) rfl rfl rfl (by decide) ⟨Nat.le_of_ble_eq_true rfl, Nat.le_of_ble_eq_true rfl⟩) ⟨(blindT fun _ _ _ _ h => h), Ob.recv (hT).1 hP2.o rfl, fun U hU hW => ⟨rfl, hT.warm hW, by rw [hU]; exact hP2⟩⟩ rfl rfl hl.1 rfl (lv_room (Nat.le_of_ble_eq_true rfl)) dX6_tell_122 ⟨Nat.le_of_ble_eq_true rfl, Nat.le_of_ble_eq_true rfl⟩) ?_
                  rw [Nat.add_zero (7 * r18)]
                  refine lv_iload_n hx hb dX6_tell_125 rfl (lv_at hl 1 rfl) ?_
                  refine lv_aload_n hx hb dX6_tell_126 rfl (lv_at hl 2 rfl) ?_
                  refine lv_iload_n hx hb dX6_tell_127 rfl (lv_at hl 4 rfl) ?_
                  refine lv_iconst (v := 2) hx hb dX6_tell_128 (by decide) ?_
                  refine c_p1 (va_runV (As := [.int (nI r18), .int 2]) (rest := [.int ((σ 1 (7 * r18 + 1)) + 1), .int (σ 1 (7 * r18)), .ref (rf 0)]) ⟨hx, hb, hml, hown, hts⟩ (c_X6_get l D ct Z σ 0 bst rf r18 2 2 (by omega) rfl (by decide)) (cwV 2 hts (GG w_965 w_967 w_39 w_65 w_968) rfl rfl rfl (by decide) ⟨Nat.le_of_ble_eq_true rfl, Nat.le_of_ble_eq_true rfl⟩) ⟨(blindT fun _ _ _ _ h => h), Ob.recv (hT).1 hP2.o rfl, fun U hU hW => ⟨rfl, hT.warm hW, by rw [hU]; exact hP2⟩⟩ rfl rfl hl.1 rfl (lv_room (Nat.le_of_ble_eq_true rfl)) dX6_tell_129 ⟨Nat.le_of_ble_eq_true rfl, Nat.le_of_ble_eq_true rfl⟩) ?_
                  refine lv_aload_n hx hb dX6_tell_132 rfl (lv_at hl 2 rfl) ?_
                  refine lv_iload_n hx hb dX6_tell_133 rfl (lv_at hl 4 rfl) ?_
                  refine lv_iconst (v := 3) hx hb dX6_tell_134 (by decide) ?_
                  refine c_p1 (va_runV (As := [.int (nI r18), .int 3]) (rest := [.int (σ 1 (7 * r18 + 2)), .int ((σ 1 (7 * r18 + 1)) + 1), .int (σ 1 (7 * r18)), .ref (rf 0)]) ⟨hx, hb, hml, hown, hts⟩ (c_X6_get l D ct Z σ 0 bst rf r18 3 3 (by omega) rfl (by decide)) (cwV 2 hts (GG w_965 w_967 w_39 w_65 w_968) rfl rfl rfl (by decide) ⟨Nat.le_of_ble_eq_true rfl, Nat.le_of_ble_eq_true rfl⟩) ⟨(blindT fun _ _ _ _ h => h), Ob.recv (hT).1 hP2.o rfl, fun U hU hW => ⟨rfl, hT.warm hW, by rw [hU]; exact hP2⟩⟩ rfl rfl hl.1 rfl (lv_room (Nat.le_of_ble_eq_true rfl)) dX6_tell_135 ⟨Nat.le_of_ble_eq_true rfl, Nat.le_of_ble_eq_true rfl⟩) ?_
                  refine lv_aload_n hx hb dX6_tell_138 rfl (lv_at hl 2 rfl) ?_
                  refine lv_iload_n hx hb dX6_tell_139 rfl (lv_at hl 3 rfl) ?_
                  refine lv_iconst (v := 0) hx hb dX6_tell_140 (by decide) ?_
                  refine c_p1 (va_runV (As := [.int (nI k10), .int 0]) (rest := [.int (σ 1 (7 * r18 + 3)), .int (σ 1 (7 * r18 + 2)), .int ((σ 1 (7 * r18 + 1)) + 1), .int (σ 1 (7 * r18)), .ref (rf 0)]) ⟨hx, hb, hml, hown, hts⟩ (c_X6_man l D ct Z σ 0 bst rf k10 0 0 (by omega) rfl (by decide)) (cwV 2 hts (GG w_985 w_987 w_43 w_65 w_988) rfl rfl rfl (by decide) ⟨Nat.le_of_ble_eq_true rfl, Nat.le_of_ble_eq_true rfl⟩) ⟨(blindT fun _ _ _ _ h => h), Ob.recv (hT).1 hP2.o rfl, fun U hU hW => ⟨rfl, hT.warm hW, by rw [hU]; exact hP2⟩⟩ rfl rfl hl.1 rfl (lv_room (Nat.le_of_ble_eq_true rfl)) dX6_tell_141 ⟨Nat.le_of_ble_eq_true rfl, Nat.le_of_ble_eq_true rfl⟩) ?_
                  rw [Nat.add_zero (4 * k10)]
                  refine c_s1 (va_runV (As := [.int (σ 1 (7 * r18)), .int ((σ 1 (7 * r18 + 1)) + 1), .int (σ 1 (7 * r18 + 2)), .int (σ 1 (7 * r18 + 3)), .int (σ 2 (4 * k10))]) (rest := []) ⟨hx, hb, hml, hown, hts⟩ (c_X6_add l D ct Z σ 0 bst rf (σ 1 (7 * r18)) ((σ 1 (7 * r18 + 1)) + 1) (σ 1 (7 * r18 + 2)) (σ 1 (7 * r18 + 3)) (σ 2 (4 * k10)) hR1 hlt) (cwV 5 hts (GG w_953 w_955 w_37 w_65 w_956) rfl rfl rfl (by decide) ⟨Nat.le_of_ble_eq_true rfl, Nat.le_of_ble_eq_true rfl⟩) ⟨(blindT fun _ _ _ _ h => h), Ob.recv (hT).1 hP2.o rfl, fun U hU hW => ⟨rfl, hT.warm hW, by rw [hU]; exact ⟨fun q hq => Nat.lt_of_lt_of_le (hZs q hq) hS2.1, hP2⟩⟩⟩ rfl rfl hl.1 rfl (lv_room (Nat.le_of_ble_eq_true rfl)) dX6_tell_144 ⟨Nat.le_of_ble_eq_true rfl, Nat.le_of_ble_eq_true rfl⟩) hS2 (fun x144 H144 locs144 hRr144 hzz144 hS144 => ?_)
                  obtain ⟨rfl, hRr144⟩ := hRr144
                  refine W.widen (k := 1) (n := 7) (Nat.le_of_ble_eq_true rfl) (Nat.le_of_ble_eq_true rfl) ?_
                  have hP144 : RP D ct Z (addRm σ (σ 1 (7 * r18)) ((σ 1 (7 * r18 + 1)) + 1) (σ 1 (7 * r18 + 2)) (σ 1 (7 * r18 + 3)) (σ 2 (4 * k10))) (0) bst rf H144 := hRr144
                  obtain ⟨τ144, hτ144⟩ : ∃ τ : Stt, τ = addRm σ (σ 1 (7 * r18)) ((σ 1 (7 * r18 + 1)) + 1) (σ 1 (7 * r18 + 2)) (σ 1 (7 * r18 + 3)) (σ 2 (4 * k10)) := ⟨_, rfl⟩
                  rw [← hτ144] at hP144
                  have ho : o_tell σ (nI k10) (nI r18) = (0, nI (nR σ), τ144) := by simp [o_tell, onW, has, kno, c_10, ix10, c_18, ix18, c_33, c_42, hld, hk92, hlt, hd9, hτ144]
                  exact W.iret (v := nI (nR σ)) hx hb hr (fun t ht hW => ⟨_, rfl, by rw [ht]; exact ⟨by rw [ho], bst, by rw [ho]; exact hP144⟩, hS144.F ht⟩) (fun z h => hS144.2.2 z h) dX6_tell_147
                · -- not taken
                  obtain ⟨d0, hd0, hde⟩ := (hI.2.2.2.1 r18 ht18).2.1
                  have hd9 : ¬ σ 1 (7 * r18 + 1) + 1 ≤ 99 := by rw [c_109]; decide
                  refine lv_aload_n hx hb dX6_tell_112 rfl (lv_at hl 2 rfl) ?_
                  refine lv_iconst (v := 2) hx hb dX6_tell_113 (by decide) ?_
                  refine c_s1 (va_runV (As := [.int 2]) (rest := []) ⟨hx, hb, hml, hown, hts⟩ (c_X6_fail l D ct Z σ 0 bst rf 2) (cwV 1 hts (GG w_924 w_926 w_35 w_65 w_927) rfl rfl rfl (by decide) ⟨Nat.le_of_ble_eq_true rfl, Nat.le_of_ble_eq_true rfl⟩) ⟨(blindT fun _ _ _ _ h => h), Ob.recv (hT).1 hP2.o rfl, fun U hU hW => ⟨rfl, hT.warm hW, by rw [hU]; exact ⟨fun q hq => Nat.lt_of_lt_of_le (hZs q hq) hS2.1, hP2⟩⟩⟩ rfl rfl hl.1 rfl (lv_room (Nat.le_of_ble_eq_true rfl)) dX6_tell_114 ⟨Nat.le_of_ble_eq_true rfl, Nat.le_of_ble_eq_true rfl⟩) hS2 (fun x114 H114 locs114 hRr114 hzz114 hS114 => ?_)
                  obtain ⟨rfl, hRr114⟩ := hRr114
                  have hP114 : RP D ct Z (σ) (2) bst rf H114 := hRr114
                  refine W.widen (k := 1) (n := 7) (Nat.le_of_ble_eq_true rfl) (Nat.le_of_ble_eq_true rfl) ?_
                  have ho : o_tell σ (nI k10) (nI r18) = (2, 0, σ) := by simp [o_tell, onW, has, kno, c_10, ix10, c_18, ix18, c_33, c_42, hld, hk92, hlt, hd9]
                  exact W.iret (v := 0) hx hb hr (fun t ht hW => ⟨_, rfl, by rw [ht]; exact ⟨by rw [ho], bst, by rw [ho]; exact hP114⟩, hS114.F ht⟩) (fun z h => hS114.2.2 z h) dX6_tell_117
            · -- not taken
              have hk92 : σ 1 (7 * k0 + 1) ≤ σ 1 (7 * r18 + 1) + 1 := Int32.not_lt.mp c_92
              refine lv_iconst (v := (-1)) hx hb dX6_tell_95 (by decide) ?_
              refine W.widen (k := 1) (n := 7) (Nat.le_of_ble_eq_true rfl) (Nat.le_of_ble_eq_true rfl) ?_
              have ho : o_tell σ (nI k10) (nI r18) = (0, (-1), σ) := by simp [o_tell, onW, has, kno, c_10, ix10, c_18, ix18, c_33, c_42, hld, hk92]
              exact W.iret (v := (-1)) hx hb hr (fun t ht hW => ⟨_, rfl, by rw [ht]; exact ⟨by rw [ho], bst, by rw [ho]; exact hP2⟩, hS2.F ht⟩) (fun z h => hS2.2.2 z h) dX6_tell_96
        · -- not taken
          replace c_42 := b2_z c_42
          refine lv_aload_n hx hb dX6_tell_45 rfl (lv_at hl 0 rfl) ?_
          refine lv_iconst (v := 2) hx hb dX6_tell_46 (by decide) ?_
          refine c_s1 (va_runV (As := [.int 2]) (rest := []) ⟨hx, hb, hml, hown, hts⟩ (c_X6_fail l D ct Z σ 0 bst rf 2) (cwV 1 hts (GG w_924 w_926 w_35 w_65 w_927) rfl rfl rfl (by decide) ⟨Nat.le_of_ble_eq_true rfl, Nat.le_of_ble_eq_true rfl⟩) ⟨(blindT fun _ _ _ _ h => h), Ob.recv (hT).1 hP2.o rfl, fun U hU hW => ⟨rfl, hT.warm hW, by rw [hU]; exact ⟨fun q hq => Nat.lt_of_lt_of_le (hZs q hq) hS2.1, hP2⟩⟩⟩ rfl rfl hl.1 rfl (lv_room (Nat.le_of_ble_eq_true rfl)) dX6_tell_47 ⟨Nat.le_of_ble_eq_true rfl, Nat.le_of_ble_eq_true rfl⟩) hS2 (fun x47 H47 locs47 hRr47 hzz47 hS47 => ?_)
          obtain ⟨rfl, hRr47⟩ := hRr47
          have hP47 : RP D ct Z (σ) (2) bst rf H47 := hRr47
          refine W.widen (k := 1) (n := 7) (Nat.le_of_ble_eq_true rfl) (Nat.le_of_ble_eq_true rfl) ?_
          have ho : o_tell σ (nI k10) (nI r18) = (2, 0, σ) := by simp [o_tell, onW, has, kno, c_10, ix10, c_18, ix18, c_33, c_42]
          exact W.iret (v := 0) hx hb hr (fun t ht hW => ⟨_, rfl, by rw [ht]; exact ⟨by rw [ho], bst, by rw [ho]; exact hP47⟩, hS47.F ht⟩) (fun z h => hS47.2.2 z h) dX6_tell_50
    · -- not taken
      replace c_18 := b2_z c_18
      refine lv_aload_n hx hb dX6_tell_21 rfl (lv_at hl 0 rfl) ?_
      refine lv_iconst (v := 1) hx hb dX6_tell_22 (by decide) ?_
      refine c_s1 (va_runV (As := [.int 1]) (rest := []) ⟨hx, hb, hml, hown, hts⟩ (c_X6_fail l D ct Z σ 0 bst rf 1) (cwV 1 hts (GG w_924 w_926 w_35 w_65 w_927) rfl rfl rfl (by decide) ⟨Nat.le_of_ble_eq_true rfl, Nat.le_of_ble_eq_true rfl⟩) ⟨(blindT fun _ _ _ _ h => h), Ob.recv (hT).1 hP2.o rfl, fun U hU hW => ⟨rfl, hT.warm hW, by rw [hU]; exact ⟨fun q hq => Nat.lt_of_lt_of_le (hZs q hq) hS2.1, hP2⟩⟩⟩ rfl rfl hl.1 rfl (lv_room (Nat.le_of_ble_eq_true rfl)) dX6_tell_23 ⟨Nat.le_of_ble_eq_true rfl, Nat.le_of_ble_eq_true rfl⟩) hS2 (fun x23 H23 locs23 hRr23 hzz23 hS23 => ?_)
      obtain ⟨rfl, hRr23⟩ := hRr23
      have hP23 : RP D ct Z (σ) (1) bst rf H23 := hRr23
      refine W.widen (k := 1) (n := 7) (Nat.le_of_ble_eq_true rfl) (Nat.le_of_ble_eq_true rfl) ?_
      have ho : o_tell σ (nI k10) r = (1, 0, σ) := by simp [o_tell, onW, has, kno, c_10, ix10, c_18]
      exact W.iret (v := 0) hx hb hr (fun t ht hW => ⟨_, rfl, by rw [ht]; exact ⟨by rw [ho], bst, by rw [ho]; exact hP23⟩, hS23.F ht⟩) (fun z h => hS23.2.2 z h) dX6_tell_26
