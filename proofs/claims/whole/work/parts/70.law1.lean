theorem m_inH {l : Launch} {cc : ByteArray} {mc ms : Nat} {free : Addr → Prop} {y : MethodName} {maxL : Nat} {ret : Option FieldType} {hh : List (Nat × Nat × Nat × Nat)} {rm : Room} {Pr : State → Prop} {Qc : Array Value → State → Outcome → State → Prop} (vals : List Value) (own : String) (hown : y.cls = own) (hy : plainName y.cls = true) (hl : (lg_sl vals).length ≤ maxL)
    (body : ∀ (p : Program) (e : Env) (s : State) (m : MethodId) (args : Array Value) (below : List Frame) (meth : Method) (c : Code) (ls : Array Slot), p.tables.exec = Jvm.exec → c.code = cc → c.maxLocals = maxL → s.vm.findClass own = some m.cls → (∀ w ∈ GW, w.before args s = true) → meth.sig.returnType = ret → meth.locks = false → c.exceptionTable.toList = tableOf hh → Pr s → lv_has ls maxL (lv_args 0 vals) →
      W p l e rm s m args below meth c s.heap [] 0 0 (MQ below Qc args s mc ms free) (F0 m 0 ls [])) : Met l y (.codeWith y cc maxL ret hh :: GW) rm (va_Pc vals Pr) Qc mc ms free := by
  refine MetFree.of_bodyS (code := cc) (maxLocals := maxL) (ret := ret) hy ?_ ?_
  · intro args s m h hn
    obtain ⟨m9, meth, c, hn9, h1, h2, h3, h4, -, h5, h6, -⟩ := Cond.codeWith_spec (atoms_spec (ws := .codeWith y cc maxL ret hh :: GW) h _ List.mem_cons_self)
    cases hn.symm.trans hn9
    exact ⟨meth, c, h1, h2, h3, h4, h5, h6⟩
  · intro p e s m args below meth c s₁ B hml hP _
    obtain ⟨rfl, hPr⟩ := hP
    have hts := atoms_spec (ws := .codeWith y cc maxL ret hh :: GW) B.pre
    have htab := vx_table (x := y) B (hts _ List.mem_cons_self)
    have hl2 := lv_entry vals hl
    have hh0 : s₁.heap = s.heap := by rw [B.state]; rfl
    have K : W p l e (headSpec (.codeWith y cc maxL ret hh :: GW) rm).room s m vals.toArray below meth c s.heap [] 0 0 (MQ below Qc vals.toArray s mc ms free) (entryFrame m vals.toArray maxL) := by
      rw [lg_entry_eq]
      generalize (lg_sl vals ++ List.replicate (maxL - (lg_sl vals).length) Slot.unset).toArray = ls at hl2 ⊢
      exact body p e s m _ below meth c ls B.exec B.bytes hml (by rw [← hown]; exact findClass_of_methodNamed B.named) (fun w hw => hts w (List.mem_cons_of_mem _ hw)) B.returns B.notSynchronized htab hPr hl2
    obtain ⟨t, a1, o, b1, b2, b3⟩ := K s₁ hh0 (Stand.of_body B)
    exact ⟨t, o, a1, b1, b2, b3⟩
def Zo (Z : Nat → Prop) (a : Nat) : Nat → Prop := fun q => Z q ∨ q = a
theorem vaS_weak {Z Z' : Nat → Prop} {H0 H : Heap} {locs : List Loc} (hS : va_S (nZ Z') H0 H locs) (hz : ∀ q, Z q → Z' q) : va_S (nZ Z) H0 H locs :=
  ⟨hS.1, fun q h1 h2 => hS.2.1 q h1 (fun h => h2 (fun z => h (hz q z))), fun q h z => hS.2.2 q h (hz _ z)⟩
theorem Pic.keptO {D : va_G} {ct : Nat → ClassId} {Z : Nat → Prop} {dc a : Nat} {σ : Stt} {ad : Nat → Nat} {H H1 : Heap} (h : Pic D ct (Zo Z a) dc σ ad H) (hq : ∀ q : Nat, q ≠ a → H1[q]? = H[q]?) : Pic D ct (Zo Z a) dc σ ad H1 :=
  ⟨fun i hi => ⟨va_at.kept (h.1 i hi).1 (hq _ (fun z => (h.1 i hi).2 (Or.inr z))), (h.1 i hi).2⟩, h.2⟩
theorem exn1 {a E : String} {n : Nat} (h : exn [a] n E) : n = 1 ∧ E = a := by
  obtain ⟨h0, h1⟩ := h
  match n, h0, h1 with
  | 1, _, h1 => exact ⟨rfl, (Option.some.inj h1).symm⟩
  | n + 2, _, h1 => simp at h1
theorem exn2 {a b E : String} {n : Nat} (h : exn [a, b] n E) : (n = 1 ∧ E = a) ∨ (n = 2 ∧ E = b) := by
  obtain ⟨h0, h1⟩ := h
  match n, h0, h1 with
  | 1, _, h1 => exact Or.inl ⟨rfl, (Option.some.inj h1).symm⟩
  | 2, _, h1 => exact Or.inr ⟨rfl, (Option.some.inj h1).symm⟩
  | n + 3, _, h1 => simp at h1
theorem exn3 {a b c E : String} {n : Nat} (h : exn [a, b, c] n E) : (n = 1 ∧ E = a) ∨ (n = 2 ∧ E = b) ∨ (n = 3 ∧ E = c) := by
  obtain ⟨h0, h1⟩ := h
  match n, h0, h1 with
  | 1, _, h1 => exact Or.inl ⟨rfl, (Option.some.inj h1).symm⟩
  | 2, _, h1 => exact Or.inr (Or.inl ⟨rfl, (Option.some.inj h1).symm⟩)
  | 3, _, h1 => exact Or.inr (Or.inr ⟨rfl, (Option.some.inj h1).symm⟩)
  | n + 4, _, h1 => simp at h1

theorem op_st_addTown {σ : Stt} {k : Nat} (h : (o_addTown σ).1 = k + 1) : (o_addTown σ).2.2 = σ := by
  unfold o_addTown at h ⊢
  repeat' split
  all_goals first | rfl | (exfalso; simp_all; done)
/-! law.addTown -/
set_option maxHeartbeats 4000000 in
set_option maxRecDepth 100000 in
theorem c_L_addTown (l : Launch) (D : va_G) (ct : Nat → ClassId) (Z : Nat → Prop) (dc : Nat) (σ : Stt) (ad : Nat → Nat) (hst : l.stackTraces = false) (oa : Nat) (g : Nat → Int64) (hI : Inv σ) (hzo : ¬ Z oa) : Met l yL_addTown (.codeWith yL_addTown cL_addTown 3 (some .int) [(0, 8, 11, 13)] :: GW) ({ frames := 7, cells := 1, slots := 6, locals := 102 } : Room) (va_Pc [.ref (ad 0), .ref oa] (fun U => GF D ct Z dc U U.heap ∧ Pic D ct (Zo Z oa) dc σ ad U.heap ∧ Ar (ct 4) oa (rJ 1 g) U.heap)) (qS1 Z (fun x h => x = .int (nI (o_addTown σ).1) ∧ ∃ (σ1 : Stt) (ad1 : Nat → Nat) (g1 : Nat → Int64), SC (o_addTown σ).2.2 σ1 ∧ ad1 0 = ad 0 ∧ Pic D ct (Zo Z oa) dc σ1 ad1 h ∧ Ar (ct 4) oa (rJ 1 g1) h ∧ ((o_addTown σ).1 = 0 → g1 0 = (o_addTown σ).2.1.toInt64))) 1 6 (nZ Z) := by
  refine m_inH (cc := cL_addTown) [.ref (ad 0), .ref oa] "RumourCustomsLaw" rfl (by decide) (Nat.le_of_ble_eq_true rfl) ?_
  intro pg e s m args below meth cd ls hx hb hml hown hts hr hlocks htab hPr hl
  obtain ⟨hG, hP, hA⟩ := hPr
  have hl : lv_has ls 3 [(0, .ref (ad 0)), (1, .ref oa)] := hl
  have hSo : va_S (nZ (Zo Z oa)) s.heap s.heap [] := va_S.rf
  have hGo : GF D ct (Zo Z oa) dc s s.heap := hG.sub (fun _ z => Or.inl z) (fun q z => z.elim (hG.1 q) (fun e => by rw [e]; exact hA.lt))
  refine lv_aload_n hx hb dL_addTown_0 rfl (lv_at hl 1 rfl) ?_
  refine lv_iconst (v := 0) hx hb dL_addTown_1 (by decide) ?_
  refine lv_aload_n hx hb dL_addTown_2 rfl (lv_at hl 0 rfl) ?_
  refine c_xs1 (vx_runV (As := []) (rest := [.int 0, .ref oa]) ⟨hx, hb, hml, hown, hts⟩ (c_X5_addTown l D ct (Zo Z oa) dc σ ad hst  hI) (cwV 0 hts (GG w_286 w_287 w_288 w_59 w_289) rfl rfl rfl (by decide) ⟨Nat.le_of_ble_eq_true rfl, Nat.le_of_ble_eq_true rfl⟩) ⟨(blindF fun _ _ _ _ h => h), Ob.recv (hG.2.1).1 hP.o0 rfl, fun U hU hW => ⟨rfl, hGo.up hW hSo hU, by rw [hU]; exact hP⟩⟩ rfl rfl hl.1 rfl (lv_room (Nat.le_of_ble_eq_true rfl)) dL_addTown_3 ⟨Nat.le_of_ble_eq_true rfl, Nat.le_of_ble_eq_true rfl⟩) hSo (fun E ce q9 H1 locs1 hp hk hS1 hce hcv hcl => ?_) (fun x H1 locs1 hR hzz hS1 => ?_)
  · -- thrown
    have hS1 : va_S (nZ Z) s.heap H1 locs1 := vaS_weak hS1 (fun _ z => Or.inl z)
    have hP1 := hP.ka hk
    have hA1 : Ar (ct 4) oa (rJ 1 g) H1 := hA.kept (hk.2 _ hA.lt)
    obtain ⟨hn, rfl⟩ := exn1 hp
    refine vx_catch (name := "java/lang/IllegalStateException") hown [] ⟨0, 8, 11, 13⟩ [] htab (fun z hz => nomatch hz) rfl (by decide) (hts _ w_285) (va_Nw.use rfl (hG.2.1.2.2.2.2.1 _ (by simp))) hce hcv hcl ?_
    refine lv_astore_n (lv' := [(2, .ref q9), (0, .ref (ad 0)), (1, .ref oa)]) hx hb dL_addTown_11 rfl hl (by decide) rfl (fun ls hl => ?_)
    refine lv_iconst (v := 1) hx hb dL_addTown_12 (by decide) ?_
    exact W.iret (v := 1) hx hb hr (fun t ht hW => ⟨_, rfl, by rw [ht]; exact ⟨by rw [hn]; rfl, σ, ad, g, by rw [show (o_addTown σ).2.2 = σ from op_st_addTown hn]; exact SC.rf, rfl, hP1, hA1, fun z => absurd (hn.symm.trans z) (by decide)⟩, hS1.F ht⟩) (fun z h => hS1.2.2 z h) dL_addTown_13
  · -- returned
    obtain ⟨hn, rfl, σ1, ad1, hsc, had, hP1⟩ := hR
    have hA1 : Ar (ct 4) oa (rJ 1 g) H1 := hA.kept (hS1.2.1 _ hA.lt (fun z => z (Or.inr rfl)))
    have hS1 : va_S (nZ Z) s.heap H1 locs1 := vaS_weak hS1 (fun _ z => Or.inl z)
    refine lv_i2l (v := ((o_addTown σ).2.1 : Int32).toInt64) hx hb dL_addTown_6 rfl ?_
    refine k_last hx hb hG.2.1.1 hS1 hzo hA1 (vp_in_nI (by decide : 0 < 1) (by decide)) dL_addTown_7 (fun H2 locs2 hA2 hz2 hq2 hS2 => ?_)
    refine lv_goto (tgt := 14) hx hb dL_addTown_8 (by decide) ?_
    refine lv_iconst (v := 0) hx hb dL_addTown_14 (by decide) ?_
    exact W.iret (v := 0) hx hb hr (fun t ht hW => ⟨_, rfl, by rw [ht]; exact ⟨by rw [hn]; rfl, σ1, ad1, _, hsc, had, hP1.keptO hq2, hA2, fun _ => pk_uLs⟩, hS2.F ht⟩) (fun z h => hS2.2.2 z h) dL_addTown_15

theorem op_st_build {σ : Stt} {p0 p1 p2 p3 p4 p5 : Int32} {k : Nat} (h : (o_build σ p0 p1 p2 p3 p4 p5).1 = k + 1) : (o_build σ p0 p1 p2 p3 p4 p5).2.2 = σ := by
  unfold o_build at h ⊢
  repeat' split
  all_goals first | rfl | (exfalso; simp_all; done)
/-! law.build -/
set_option maxHeartbeats 4000000 in
set_option maxRecDepth 100000 in
theorem c_L_build (l : Launch) (D : va_G) (ct : Nat → ClassId) (Z : Nat → Prop) (dc : Nat) (σ : Stt) (ad : Nat → Nat) (hst : l.stackTraces = false) (oa : Nat) (g : Nat → Int64) (p0 p1 p2 p3 p4 p5 : Int32) (hI : Inv σ) (hzo : ¬ Z oa) : Met l yL_build (.codeWith yL_build cL_build 9 (some .int) [(0, 18, 21, 19), (0, 18, 25, 21), (0, 18, 29, 13)] :: GW) ({ frames := 8, cells := 7, slots := 42, locals := 130 } : Room) (va_Pc [.ref (ad 0), .int p0, .int p1, .int p2, .int p3, .int p4, .int p5, .ref oa] (fun U => GF D ct Z dc U U.heap ∧ Pic D ct (Zo Z oa) dc σ ad U.heap ∧ Ar (ct 4) oa (rJ 1 g) U.heap)) (qS1 Z (fun x h => x = .int (nI (o_build σ p0 p1 p2 p3 p4 p5).1) ∧ ∃ (σ1 : Stt) (ad1 : Nat → Nat) (g1 : Nat → Int64), SC (o_build σ p0 p1 p2 p3 p4 p5).2.2 σ1 ∧ ad1 0 = ad 0 ∧ Pic D ct (Zo Z oa) dc σ1 ad1 h ∧ Ar (ct 4) oa (rJ 1 g1) h ∧ ((o_build σ p0 p1 p2 p3 p4 p5).1 = 0 → g1 0 = (o_build σ p0 p1 p2 p3 p4 p5).2.1.toInt64))) 7 42 (nZ Z) := by
  refine m_inH (cc := cL_build) [.ref (ad 0), .int p0, .int p1, .int p2, .int p3, .int p4, .int p5, .ref oa] "RumourCustomsLaw" rfl (by decide) (Nat.le_of_ble_eq_true rfl) ?_
  intro pg e s m args below meth cd ls hx hb hml hown hts hr hlocks htab hPr hl
  obtain ⟨hG, hP, hA⟩ := hPr
  have hl : lv_has ls 9 [(0, .ref (ad 0)), (1, .int p0), (2, .int p1), (3, .int p2), (4, .int p3), (5, .int p4), (6, .int p5), (7, .ref oa)] := hl
  have hSo : va_S (nZ (Zo Z oa)) s.heap s.heap [] := va_S.rf
  have hGo : GF D ct (Zo Z oa) dc s s.heap := hG.sub (fun _ z => Or.inl z) (fun q z => z.elim (hG.1 q) (fun e => by rw [e]; exact hA.lt))
  refine lv_aload hx hb dL_build_0 (lv_at hl 7 rfl) ?_
  refine lv_iconst (v := 0) hx hb dL_build_2 (by decide) ?_
  refine lv_aload_n hx hb dL_build_3 rfl (lv_at hl 0 rfl) ?_
  refine lv_iload_n hx hb dL_build_4 rfl (lv_at hl 1 rfl) ?_
  refine lv_iload_n hx hb dL_build_5 rfl (lv_at hl 2 rfl) ?_
  refine lv_iload_n hx hb dL_build_6 rfl (lv_at hl 3 rfl) ?_
  refine lv_iload hx hb dL_build_7 (lv_at hl 4 rfl) ?_
  refine lv_iload hx hb dL_build_9 (lv_at hl 5 rfl) ?_
  refine lv_iload hx hb dL_build_11 (lv_at hl 6 rfl) ?_
  refine c_xs1 (vx_runV (As := [.int p0, .int p1, .int p2, .int p3, .int p4, .int p5]) (rest := [.int 0, .ref oa]) ⟨hx, hb, hml, hown, hts⟩ (c_X5_build l D ct (Zo Z oa) dc σ ad hst p0 p1 p2 p3 p4 p5 hI) (cwV 6 hts (GG w_363 w_364 w_365 w_59 w_366) rfl rfl rfl (by decide) ⟨Nat.le_of_ble_eq_true rfl, Nat.le_of_ble_eq_true rfl⟩) ⟨(blindF fun _ _ _ _ h => h), Ob.recv (hG.2.1).1 hP.o0 rfl, fun U hU hW => ⟨rfl, hGo.up hW hSo hU, by rw [hU]; exact hP⟩⟩ rfl rfl hl.1 rfl (lv_room (Nat.le_of_ble_eq_true rfl)) dL_build_13 ⟨Nat.le_of_ble_eq_true rfl, Nat.le_of_ble_eq_true rfl⟩) hSo (fun E ce q9 H1 locs1 hp hk hS1 hce hcv hcl => ?_) (fun x H1 locs1 hR hzz hS1 => ?_)
  · -- thrown
    have hS1 : va_S (nZ Z) s.heap H1 locs1 := vaS_weak hS1 (fun _ z => Or.inl z)
    have hP1 := hP.ka hk
    have hA1 : Ar (ct 4) oa (rJ 1 g) H1 := hA.kept (hk.2 _ hA.lt)
    rcases exn3 hp with ⟨hn, rfl⟩ | ⟨hn, rfl⟩ | ⟨hn, rfl⟩
    · -- java/lang/IndexOutOfBoundsException
      refine vx_catch (name := "java/lang/IndexOutOfBoundsException") hown [] ⟨0, 18, 21, 19⟩ [⟨0, 18, 25, 21⟩, ⟨0, 18, 29, 13⟩] htab (fun z hz => nomatch hz) rfl (by decide) (hts _ w_361) (va_Nw.use rfl (hG.2.1.2.2.2.2.1 _ (by simp))) hce hcv hcl ?_
      refine lv_astore (lv' := [(8, .ref q9), (0, .ref (ad 0)), (1, .int p0), (2, .int p1), (3, .int p2), (4, .int p3), (5, .int p4), (6, .int p5), (7, .ref oa)]) hx hb dL_build_21 hl (by decide) rfl (fun ls hl => ?_)
      refine lv_iconst (v := 1) hx hb dL_build_23 (by decide) ?_
      exact W.iret (v := 1) hx hb hr (fun t ht hW => ⟨_, rfl, by rw [ht]; exact ⟨by rw [hn]; rfl, σ, ad, g, by rw [show (o_build σ p0 p1 p2 p3 p4 p5).2.2 = σ from op_st_build hn]; exact SC.rf, rfl, hP1, hA1, fun z => absurd (hn.symm.trans z) (by decide)⟩, hS1.F ht⟩) (fun z h => hS1.2.2 z h) dL_build_24
    · -- java/lang/IllegalArgumentException
      refine vx_catch (name := "java/lang/IllegalArgumentException") hown [⟨0, 18, 21, 19⟩] ⟨0, 18, 25, 21⟩ [⟨0, 18, 29, 13⟩] htab (fun z hz => by rw [List.mem_singleton.mp hz]; exact Or.inr ⟨by decide, "java/lang/IndexOutOfBoundsException", hts _ w_361, hG.2.1.2.2.2.2.2.2.1 _ (by simp) _ (by simp) (by decide)⟩) rfl (by decide) (hts _ w_362) (va_Nw.use rfl (hG.2.1.2.2.2.2.1 _ (by simp))) hce hcv hcl ?_
      refine lv_astore (lv' := [(8, .ref q9), (0, .ref (ad 0)), (1, .int p0), (2, .int p1), (3, .int p2), (4, .int p3), (5, .int p4), (6, .int p5), (7, .ref oa)]) hx hb dL_build_25 hl (by decide) rfl (fun ls hl => ?_)
      refine lv_iconst (v := 2) hx hb dL_build_27 (by decide) ?_
      exact W.iret (v := 2) hx hb hr (fun t ht hW => ⟨_, rfl, by rw [ht]; exact ⟨by rw [hn]; rfl, σ, ad, g, by rw [show (o_build σ p0 p1 p2 p3 p4 p5).2.2 = σ from op_st_build hn]; exact SC.rf, rfl, hP1, hA1, fun z => absurd (hn.symm.trans z) (by decide)⟩, hS1.F ht⟩) (fun z h => hS1.2.2 z h) dL_build_28
    · -- java/lang/IllegalStateException
      refine vx_catch (name := "java/lang/IllegalStateException") hown [⟨0, 18, 21, 19⟩, ⟨0, 18, 25, 21⟩] ⟨0, 18, 29, 13⟩ [] htab (fun z hz => by rcases List.mem_cons.mp hz with hz | hz; rw [hz]; exact Or.inr ⟨by decide, "java/lang/IndexOutOfBoundsException", hts _ w_361, hG.2.1.2.2.2.2.2.2.1 _ (by simp) _ (by simp) (by decide)⟩; rw [List.mem_singleton.mp hz]; exact Or.inr ⟨by decide, "java/lang/IllegalArgumentException", hts _ w_362, hG.2.1.2.2.2.2.2.2.1 _ (by simp) _ (by simp) (by decide)⟩) rfl (by decide) (hts _ w_285) (va_Nw.use rfl (hG.2.1.2.2.2.2.1 _ (by simp))) hce hcv hcl ?_
      refine lv_astore (lv' := [(8, .ref q9), (0, .ref (ad 0)), (1, .int p0), (2, .int p1), (3, .int p2), (4, .int p3), (5, .int p4), (6, .int p5), (7, .ref oa)]) hx hb dL_build_29 hl (by decide) rfl (fun ls hl => ?_)
      refine lv_iconst (v := 3) hx hb dL_build_31 (by decide) ?_
      exact W.iret (v := 3) hx hb hr (fun t ht hW => ⟨_, rfl, by rw [ht]; exact ⟨by rw [hn]; rfl, σ, ad, g, by rw [show (o_build σ p0 p1 p2 p3 p4 p5).2.2 = σ from op_st_build hn]; exact SC.rf, rfl, hP1, hA1, fun z => absurd (hn.symm.trans z) (by decide)⟩, hS1.F ht⟩) (fun z h => hS1.2.2 z h) dL_build_32
  · -- returned
    obtain ⟨hn, rfl, σ1, ad1, hsc, had, hP1⟩ := hR
    have hA1 : Ar (ct 4) oa (rJ 1 g) H1 := hA.kept (hS1.2.1 _ hA.lt (fun z => z (Or.inr rfl)))
    have hS1 : va_S (nZ Z) s.heap H1 locs1 := vaS_weak hS1 (fun _ z => Or.inl z)
    refine lv_i2l (v := ((o_build σ p0 p1 p2 p3 p4 p5).2.1 : Int32).toInt64) hx hb dL_build_16 rfl ?_
    refine k_last hx hb hG.2.1.1 hS1 hzo hA1 (vp_in_nI (by decide : 0 < 1) (by decide)) dL_build_17 (fun H2 locs2 hA2 hz2 hq2 hS2 => ?_)
    refine lv_goto (tgt := 33) hx hb dL_build_18 (by decide) ?_
    refine lv_iconst (v := 0) hx hb dL_build_33 (by decide) ?_
    exact W.iret (v := 0) hx hb hr (fun t ht hW => ⟨_, rfl, by rw [ht]; exact ⟨by rw [hn]; rfl, σ1, ad1, _, hsc, had, hP1.keptO hq2, hA2, fun _ => pk_uLs⟩, hS2.F ht⟩) (fun z h => hS2.2.2 z h) dL_build_34

theorem op_st_road {σ : Stt} {p0 p1 p2 : Int32} {k : Nat} (h : (o_road σ p0 p1 p2).1 = k + 1) : (o_road σ p0 p1 p2).2.2 = σ := by
  unfold o_road at h ⊢
  repeat' split
  all_goals first | rfl | (exfalso; simp_all; done)
/-! law.road -/
set_option maxHeartbeats 4000000 in
set_option maxRecDepth 100000 in
theorem c_L_road (l : Launch) (D : va_G) (ct : Nat → ClassId) (Z : Nat → Prop) (dc : Nat) (σ : Stt) (ad : Nat → Nat) (hst : l.stackTraces = false) (oa : Nat) (g : Nat → Int64) (p0 p1 p2 : Int32) (hI : Inv σ) (hzo : ¬ Z oa) : Met l yL_road (.codeWith yL_road cL_road 6 (some .int) [(0, 12, 15, 19)] :: GW) ({ frames := 8, cells := 3, slots := 18, locals := 127 } : Room) (va_Pc [.ref (ad 0), .int p0, .int p1, .int p2, .ref oa] (fun U => GF D ct Z dc U U.heap ∧ Pic D ct (Zo Z oa) dc σ ad U.heap ∧ Ar (ct 4) oa (rJ 1 g) U.heap)) (qS1 Z (fun x h => x = .int (nI (o_road σ p0 p1 p2).1) ∧ ∃ (σ1 : Stt) (ad1 : Nat → Nat) (g1 : Nat → Int64), SC (o_road σ p0 p1 p2).2.2 σ1 ∧ ad1 0 = ad 0 ∧ Pic D ct (Zo Z oa) dc σ1 ad1 h ∧ Ar (ct 4) oa (rJ 1 g1) h ∧ ((o_road σ p0 p1 p2).1 = 0 → g1 0 = (o_road σ p0 p1 p2).2.1.toInt64))) 3 18 (nZ Z) := by
  refine m_inH (cc := cL_road) [.ref (ad 0), .int p0, .int p1, .int p2, .ref oa] "RumourCustomsLaw" rfl (by decide) (Nat.le_of_ble_eq_true rfl) ?_
  intro pg e s m args below meth cd ls hx hb hml hown hts hr hlocks htab hPr hl
  obtain ⟨hG, hP, hA⟩ := hPr
  have hl : lv_has ls 6 [(0, .ref (ad 0)), (1, .int p0), (2, .int p1), (3, .int p2), (4, .ref oa)] := hl
  have hSo : va_S (nZ (Zo Z oa)) s.heap s.heap [] := va_S.rf
  have hGo : GF D ct (Zo Z oa) dc s s.heap := hG.sub (fun _ z => Or.inl z) (fun q z => z.elim (hG.1 q) (fun e => by rw [e]; exact hA.lt))
  refine lv_aload hx hb dL_road_0 (lv_at hl 4 rfl) ?_
  refine lv_iconst (v := 0) hx hb dL_road_2 (by decide) ?_
  refine lv_aload_n hx hb dL_road_3 rfl (lv_at hl 0 rfl) ?_
  refine lv_iload_n hx hb dL_road_4 rfl (lv_at hl 1 rfl) ?_
  refine lv_iload_n hx hb dL_road_5 rfl (lv_at hl 2 rfl) ?_
  refine lv_iload_n hx hb dL_road_6 rfl (lv_at hl 3 rfl) ?_
  refine c_xs1 (vx_runV (As := [.int p0, .int p1, .int p2]) (rest := [.int 0, .ref oa]) ⟨hx, hb, hml, hown, hts⟩ (c_X5_road l D ct (Zo Z oa) dc σ ad hst p0 p1 p2 hI) (cwV 3 hts (GG w_444 w_445 w_446 w_59 w_447) rfl rfl rfl (by decide) ⟨Nat.le_of_ble_eq_true rfl, Nat.le_of_ble_eq_true rfl⟩) ⟨(blindF fun _ _ _ _ h => h), Ob.recv (hG.2.1).1 hP.o0 rfl, fun U hU hW => ⟨rfl, hGo.up hW hSo hU, by rw [hU]; exact hP⟩⟩ rfl rfl hl.1 rfl (lv_room (Nat.le_of_ble_eq_true rfl)) dL_road_7 ⟨Nat.le_of_ble_eq_true rfl, Nat.le_of_ble_eq_true rfl⟩) hSo (fun E ce q9 H1 locs1 hp hk hS1 hce hcv hcl => ?_) (fun x H1 locs1 hR hzz hS1 => ?_)
  · -- thrown
    have hS1 : va_S (nZ Z) s.heap H1 locs1 := vaS_weak hS1 (fun _ z => Or.inl z)
    have hP1 := hP.ka hk
    have hA1 : Ar (ct 4) oa (rJ 1 g) H1 := hA.kept (hk.2 _ hA.lt)
    obtain ⟨hn, rfl⟩ := exn1 hp
    refine vx_catch (name := "java/lang/IndexOutOfBoundsException") hown [] ⟨0, 12, 15, 19⟩ [] htab (fun z hz => nomatch hz) rfl (by decide) (hts _ w_361) (va_Nw.use rfl (hG.2.1.2.2.2.2.1 _ (by simp))) hce hcv hcl ?_
    refine lv_astore (lv' := [(5, .ref q9), (0, .ref (ad 0)), (1, .int p0), (2, .int p1), (3, .int p2), (4, .ref oa)]) hx hb dL_road_15 hl (by decide) rfl (fun ls hl => ?_)
    refine lv_iconst (v := 1) hx hb dL_road_17 (by decide) ?_
    exact W.iret (v := 1) hx hb hr (fun t ht hW => ⟨_, rfl, by rw [ht]; exact ⟨by rw [hn]; rfl, σ, ad, g, by rw [show (o_road σ p0 p1 p2).2.2 = σ from op_st_road hn]; exact SC.rf, rfl, hP1, hA1, fun z => absurd (hn.symm.trans z) (by decide)⟩, hS1.F ht⟩) (fun z h => hS1.2.2 z h) dL_road_18
  · -- returned
    obtain ⟨hn, rfl, σ1, ad1, hsc, had, hP1⟩ := hR
    have hA1 : Ar (ct 4) oa (rJ 1 g) H1 := hA.kept (hS1.2.1 _ hA.lt (fun z => z (Or.inr rfl)))
    have hS1 : va_S (nZ Z) s.heap H1 locs1 := vaS_weak hS1 (fun _ z => Or.inl z)
    refine lv_i2l (v := ((o_road σ p0 p1 p2).2.1 : Int32).toInt64) hx hb dL_road_10 rfl ?_
    refine k_last hx hb hG.2.1.1 hS1 hzo hA1 (vp_in_nI (by decide : 0 < 1) (by decide)) dL_road_11 (fun H2 locs2 hA2 hz2 hq2 hS2 => ?_)
    refine lv_goto (tgt := 19) hx hb dL_road_12 (by decide) ?_
    refine lv_iconst (v := 0) hx hb dL_road_19 (by decide) ?_
    exact W.iret (v := 0) hx hb hr (fun t ht hW => ⟨_, rfl, by rw [ht]; exact ⟨by rw [hn]; rfl, σ1, ad1, _, hsc, had, hP1.keptO hq2, hA2, fun _ => pk_uLs⟩, hS2.F ht⟩) (fun z h => hS2.2.2 z h) dL_road_20

theorem op_st_makeUp {σ : Stt} {p0 p1 p2 : Int32} {k : Nat} (h : (o_makeUp σ p0 p1 p2).1 = k + 1) : (o_makeUp σ p0 p1 p2).2.2 = σ := by
  unfold o_makeUp at h ⊢
  repeat' split
  all_goals first | rfl | (exfalso; simp_all; done)
/-! law.makeUp -/
set_option maxHeartbeats 4000000 in
set_option maxRecDepth 100000 in
theorem c_L_makeUp (l : Launch) (D : va_G) (ct : Nat → ClassId) (Z : Nat → Prop) (dc : Nat) (σ : Stt) (ad : Nat → Nat) (hst : l.stackTraces = false) (oa : Nat) (g : Nat → Int64) (p0 p1 p2 : Int32) (hI : Inv σ) (hzo : ¬ Z oa) : Met l yL_makeUp (.codeWith yL_makeUp cL_makeUp 6 (some .int) [(0, 12, 15, 19), (0, 12, 19, 21), (0, 12, 23, 13)] :: GW) ({ frames := 8, cells := 5, slots := 1026, locals := 195 } : Room) (va_Pc [.ref (ad 0), .int p0, .int p1, .int p2, .ref oa] (fun U => GF D ct Z dc U U.heap ∧ Pic D ct (Zo Z oa) dc σ ad U.heap ∧ Ar (ct 4) oa (rJ 1 g) U.heap)) (qS1 Z (fun x h => x = .int (nI (o_makeUp σ p0 p1 p2).1) ∧ ∃ (σ1 : Stt) (ad1 : Nat → Nat) (g1 : Nat → Int64), SC (o_makeUp σ p0 p1 p2).2.2 σ1 ∧ ad1 0 = ad 0 ∧ Pic D ct (Zo Z oa) dc σ1 ad1 h ∧ Ar (ct 4) oa (rJ 1 g1) h ∧ ((o_makeUp σ p0 p1 p2).1 = 0 → g1 0 = (o_makeUp σ p0 p1 p2).2.1.toInt64))) 5 1026 (nZ Z) := by
  refine m_inH (cc := cL_makeUp) [.ref (ad 0), .int p0, .int p1, .int p2, .ref oa] "RumourCustomsLaw" rfl (by decide) (Nat.le_of_ble_eq_true rfl) ?_
  intro pg e s m args below meth cd ls hx hb hml hown hts hr hlocks htab hPr hl
  obtain ⟨hG, hP, hA⟩ := hPr
  have hl : lv_has ls 6 [(0, .ref (ad 0)), (1, .int p0), (2, .int p1), (3, .int p2), (4, .ref oa)] := hl
  have hSo : va_S (nZ (Zo Z oa)) s.heap s.heap [] := va_S.rf
  have hGo : GF D ct (Zo Z oa) dc s s.heap := hG.sub (fun _ z => Or.inl z) (fun q z => z.elim (hG.1 q) (fun e => by rw [e]; exact hA.lt))
  refine lv_aload hx hb dL_makeUp_0 (lv_at hl 4 rfl) ?_
  refine lv_iconst (v := 0) hx hb dL_makeUp_2 (by decide) ?_
  refine lv_aload_n hx hb dL_makeUp_3 rfl (lv_at hl 0 rfl) ?_
  refine lv_iload_n hx hb dL_makeUp_4 rfl (lv_at hl 1 rfl) ?_
  refine lv_iload_n hx hb dL_makeUp_5 rfl (lv_at hl 2 rfl) ?_
  refine lv_iload_n hx hb dL_makeUp_6 rfl (lv_at hl 3 rfl) ?_
  refine c_xs1 (vx_runV (As := [.int p0, .int p1, .int p2]) (rest := [.int 0, .ref oa]) ⟨hx, hb, hml, hown, hts⟩ (c_X5_makeUp l D ct (Zo Z oa) dc σ ad hst p0 p1 p2 hI) (cwV 3 hts (GG w_455 w_456 w_457 w_59 w_458) rfl rfl rfl (by decide) ⟨Nat.le_of_ble_eq_true rfl, Nat.le_of_ble_eq_true rfl⟩) ⟨(blindF fun _ _ _ _ h => h), Ob.recv (hG.2.1).1 hP.o0 rfl, fun U hU hW => ⟨rfl, hGo.up hW hSo hU, by rw [hU]; exact hP⟩⟩ rfl rfl hl.1 rfl (lv_room (Nat.le_of_ble_eq_true rfl)) dL_makeUp_7 ⟨Nat.le_of_ble_eq_true rfl, Nat.le_of_ble_eq_true rfl⟩) hSo (fun E ce q9 H1 locs1 hp hk hS1 hce hcv hcl => ?_) (fun x H1 locs1 hR hzz hS1 => ?_)
  · -- thrown
    have hS1 : va_S (nZ Z) s.heap H1 locs1 := vaS_weak hS1 (fun _ z => Or.inl z)
    have hP1 := hP.ka hk
    have hA1 : Ar (ct 4) oa (rJ 1 g) H1 := hA.kept (hk.2 _ hA.lt)
    rcases exn3 hp with ⟨hn, rfl⟩ | ⟨hn, rfl⟩ | ⟨hn, rfl⟩
    · -- java/lang/IndexOutOfBoundsException
      refine vx_catch (name := "java/lang/IndexOutOfBoundsException") hown [] ⟨0, 12, 15, 19⟩ [⟨0, 12, 19, 21⟩, ⟨0, 12, 23, 13⟩] htab (fun z hz => nomatch hz) rfl (by decide) (hts _ w_361) (va_Nw.use rfl (hG.2.1.2.2.2.2.1 _ (by simp))) hce hcv hcl ?_
      refine lv_astore (lv' := [(5, .ref q9), (0, .ref (ad 0)), (1, .int p0), (2, .int p1), (3, .int p2), (4, .ref oa)]) hx hb dL_makeUp_15 hl (by decide) rfl (fun ls hl => ?_)
      refine lv_iconst (v := 1) hx hb dL_makeUp_17 (by decide) ?_
      exact W.iret (v := 1) hx hb hr (fun t ht hW => ⟨_, rfl, by rw [ht]; exact ⟨by rw [hn]; rfl, σ, ad, g, by rw [show (o_makeUp σ p0 p1 p2).2.2 = σ from op_st_makeUp hn]; exact SC.rf, rfl, hP1, hA1, fun z => absurd (hn.symm.trans z) (by decide)⟩, hS1.F ht⟩) (fun z h => hS1.2.2 z h) dL_makeUp_18
    · -- java/lang/IllegalArgumentException
      refine vx_catch (name := "java/lang/IllegalArgumentException") hown [⟨0, 12, 15, 19⟩] ⟨0, 12, 19, 21⟩ [⟨0, 12, 23, 13⟩] htab (fun z hz => by rw [List.mem_singleton.mp hz]; exact Or.inr ⟨by decide, "java/lang/IndexOutOfBoundsException", hts _ w_361, hG.2.1.2.2.2.2.2.2.1 _ (by simp) _ (by simp) (by decide)⟩) rfl (by decide) (hts _ w_362) (va_Nw.use rfl (hG.2.1.2.2.2.2.1 _ (by simp))) hce hcv hcl ?_
      refine lv_astore (lv' := [(5, .ref q9), (0, .ref (ad 0)), (1, .int p0), (2, .int p1), (3, .int p2), (4, .ref oa)]) hx hb dL_makeUp_19 hl (by decide) rfl (fun ls hl => ?_)
      refine lv_iconst (v := 2) hx hb dL_makeUp_21 (by decide) ?_
      exact W.iret (v := 2) hx hb hr (fun t ht hW => ⟨_, rfl, by rw [ht]; exact ⟨by rw [hn]; rfl, σ, ad, g, by rw [show (o_makeUp σ p0 p1 p2).2.2 = σ from op_st_makeUp hn]; exact SC.rf, rfl, hP1, hA1, fun z => absurd (hn.symm.trans z) (by decide)⟩, hS1.F ht⟩) (fun z h => hS1.2.2 z h) dL_makeUp_22
    · -- java/lang/IllegalStateException
      refine vx_catch (name := "java/lang/IllegalStateException") hown [⟨0, 12, 15, 19⟩, ⟨0, 12, 19, 21⟩] ⟨0, 12, 23, 13⟩ [] htab (fun z hz => by rcases List.mem_cons.mp hz with hz | hz; rw [hz]; exact Or.inr ⟨by decide, "java/lang/IndexOutOfBoundsException", hts _ w_361, hG.2.1.2.2.2.2.2.2.1 _ (by simp) _ (by simp) (by decide)⟩; rw [List.mem_singleton.mp hz]; exact Or.inr ⟨by decide, "java/lang/IllegalArgumentException", hts _ w_362, hG.2.1.2.2.2.2.2.2.1 _ (by simp) _ (by simp) (by decide)⟩) rfl (by decide) (hts _ w_285) (va_Nw.use rfl (hG.2.1.2.2.2.2.1 _ (by simp))) hce hcv hcl ?_
      refine lv_astore (lv' := [(5, .ref q9), (0, .ref (ad 0)), (1, .int p0), (2, .int p1), (3, .int p2), (4, .ref oa)]) hx hb dL_makeUp_23 hl (by decide) rfl (fun ls hl => ?_)
      refine lv_iconst (v := 3) hx hb dL_makeUp_25 (by decide) ?_
      exact W.iret (v := 3) hx hb hr (fun t ht hW => ⟨_, rfl, by rw [ht]; exact ⟨by rw [hn]; rfl, σ, ad, g, by rw [show (o_makeUp σ p0 p1 p2).2.2 = σ from op_st_makeUp hn]; exact SC.rf, rfl, hP1, hA1, fun z => absurd (hn.symm.trans z) (by decide)⟩, hS1.F ht⟩) (fun z h => hS1.2.2 z h) dL_makeUp_26
  · -- returned
    obtain ⟨hn, rfl, σ1, ad1, hsc, had, hP1⟩ := hR
    have hA1 : Ar (ct 4) oa (rJ 1 g) H1 := hA.kept (hS1.2.1 _ hA.lt (fun z => z (Or.inr rfl)))
    have hS1 : va_S (nZ Z) s.heap H1 locs1 := vaS_weak hS1 (fun _ z => Or.inl z)
    refine lv_i2l (v := ((o_makeUp σ p0 p1 p2).2.1 : Int32).toInt64) hx hb dL_makeUp_10 rfl ?_
    refine k_last hx hb hG.2.1.1 hS1 hzo hA1 (vp_in_nI (by decide : 0 < 1) (by decide)) dL_makeUp_11 (fun H2 locs2 hA2 hz2 hq2 hS2 => ?_)
    refine lv_goto (tgt := 27) hx hb dL_makeUp_12 (by decide) ?_
    refine lv_iconst (v := 0) hx hb dL_makeUp_27 (by decide) ?_
    exact W.iret (v := 0) hx hb hr (fun t ht hW => ⟨_, rfl, by rw [ht]; exact ⟨by rw [hn]; rfl, σ1, ad1, _, hsc, had, hP1.keptO hq2, hA2, fun _ => pk_uLs⟩, hS2.F ht⟩) (fun z h => hS2.2.2 z h) dL_makeUp_28

theorem op_st_rumour {σ : Stt} {p0 p1 : Int32} {k : Nat} (h : (o_rumour σ p0 p1).1 = k + 1) : (o_rumour σ p0 p1).2.2 = σ := by
  unfold o_rumour at h ⊢
  repeat' split
  all_goals first | rfl | (exfalso; simp_all; done)
/-! law.rumour -/
set_option maxHeartbeats 4000000 in
set_option maxRecDepth 100000 in
theorem c_L_rumour (l : Launch) (D : va_G) (ct : Nat → ClassId) (Z : Nat → Prop) (dc : Nat) (σ : Stt) (ad : Nat → Nat) (hst : l.stackTraces = false) (oa : Nat) (g : Nat → Int64) (p0 p1 : Int32) (hI : Inv σ) (hzo : ¬ Z oa) : Met l yL_rumour (.codeWith yL_rumour cL_rumour 5 (some .int) [(0, 10, 13, 19)] :: GW) ({ frames := 8, cells := 2, slots := 12, locals := 126 } : Room) (va_Pc [.ref (ad 0), .int p0, .int p1, .ref oa] (fun U => GF D ct Z dc U U.heap ∧ Pic D ct (Zo Z oa) dc σ ad U.heap ∧ Ar (ct 4) oa (rJ 1 g) U.heap)) (qS1 Z (fun x h => x = .int (nI (o_rumour σ p0 p1).1) ∧ ∃ (σ1 : Stt) (ad1 : Nat → Nat) (g1 : Nat → Int64), SC (o_rumour σ p0 p1).2.2 σ1 ∧ ad1 0 = ad 0 ∧ Pic D ct (Zo Z oa) dc σ1 ad1 h ∧ Ar (ct 4) oa (rJ 1 g1) h ∧ ((o_rumour σ p0 p1).1 = 0 → g1 0 = (o_rumour σ p0 p1).2.1.toInt64))) 2 12 (nZ Z) := by
  refine m_inH (cc := cL_rumour) [.ref (ad 0), .int p0, .int p1, .ref oa] "RumourCustomsLaw" rfl (by decide) (Nat.le_of_ble_eq_true rfl) ?_
  intro pg e s m args below meth cd ls hx hb hml hown hts hr hlocks htab hPr hl
  obtain ⟨hG, hP, hA⟩ := hPr
  have hl : lv_has ls 5 [(0, .ref (ad 0)), (1, .int p0), (2, .int p1), (3, .ref oa)] := hl
  have hSo : va_S (nZ (Zo Z oa)) s.heap s.heap [] := va_S.rf
  have hGo : GF D ct (Zo Z oa) dc s s.heap := hG.sub (fun _ z => Or.inl z) (fun q z => z.elim (hG.1 q) (fun e => by rw [e]; exact hA.lt))
  refine lv_aload_n hx hb dL_rumour_0 rfl (lv_at hl 3 rfl) ?_
  refine lv_iconst (v := 0) hx hb dL_rumour_1 (by decide) ?_
  refine lv_aload_n hx hb dL_rumour_2 rfl (lv_at hl 0 rfl) ?_
  refine lv_iload_n hx hb dL_rumour_3 rfl (lv_at hl 1 rfl) ?_
  refine lv_iload_n hx hb dL_rumour_4 rfl (lv_at hl 2 rfl) ?_
  refine c_xs1 (vx_runV (As := [.int p0, .int p1]) (rest := [.int 0, .ref oa]) ⟨hx, hb, hml, hown, hts⟩ (c_X5_rumour l D ct (Zo Z oa) dc σ ad hst p0 p1 hI) (cwV 2 hts (GG w_561 w_562 w_563 w_59 w_564) rfl rfl rfl (by decide) ⟨Nat.le_of_ble_eq_true rfl, Nat.le_of_ble_eq_true rfl⟩) ⟨(blindF fun _ _ _ _ h => h), Ob.recv (hG.2.1).1 hP.o0 rfl, fun U hU hW => ⟨rfl, hGo.up hW hSo hU, by rw [hU]; exact hP⟩⟩ rfl rfl hl.1 rfl (lv_room (Nat.le_of_ble_eq_true rfl)) dL_rumour_5 ⟨Nat.le_of_ble_eq_true rfl, Nat.le_of_ble_eq_true rfl⟩) hSo (fun E ce q9 H1 locs1 hp hk hS1 hce hcv hcl => ?_) (fun x H1 locs1 hR hzz hS1 => ?_)
  · -- thrown
    have hS1 : va_S (nZ Z) s.heap H1 locs1 := vaS_weak hS1 (fun _ z => Or.inl z)
    have hP1 := hP.ka hk
    have hA1 : Ar (ct 4) oa (rJ 1 g) H1 := hA.kept (hk.2 _ hA.lt)
    obtain ⟨hn, rfl⟩ := exn1 hp
    refine vx_catch (name := "java/lang/IndexOutOfBoundsException") hown [] ⟨0, 10, 13, 19⟩ [] htab (fun z hz => nomatch hz) rfl (by decide) (hts _ w_361) (va_Nw.use rfl (hG.2.1.2.2.2.2.1 _ (by simp))) hce hcv hcl ?_
    refine lv_astore (lv' := [(4, .ref q9), (0, .ref (ad 0)), (1, .int p0), (2, .int p1), (3, .ref oa)]) hx hb dL_rumour_13 hl (by decide) rfl (fun ls hl => ?_)
    refine lv_iconst (v := 1) hx hb dL_rumour_15 (by decide) ?_
    exact W.iret (v := 1) hx hb hr (fun t ht hW => ⟨_, rfl, by rw [ht]; exact ⟨by rw [hn]; rfl, σ, ad, g, by rw [show (o_rumour σ p0 p1).2.2 = σ from op_st_rumour hn]; exact SC.rf, rfl, hP1, hA1, fun z => absurd (hn.symm.trans z) (by decide)⟩, hS1.F ht⟩) (fun z h => hS1.2.2 z h) dL_rumour_16
  · -- returned
    obtain ⟨hn, rfl, σ1, ad1, hsc, had, hP1⟩ := hR
    have hA1 : Ar (ct 4) oa (rJ 1 g) H1 := hA.kept (hS1.2.1 _ hA.lt (fun z => z (Or.inr rfl)))
    have hS1 : va_S (nZ Z) s.heap H1 locs1 := vaS_weak hS1 (fun _ z => Or.inl z)
    refine lv_i2l (v := ((o_rumour σ p0 p1).2.1 : Int32).toInt64) hx hb dL_rumour_8 rfl ?_
    refine k_last hx hb hG.2.1.1 hS1 hzo hA1 (vp_in_nI (by decide : 0 < 1) (by decide)) dL_rumour_9 (fun H2 locs2 hA2 hz2 hq2 hS2 => ?_)
    refine lv_goto (tgt := 17) hx hb dL_rumour_10 (by decide) ?_
    refine lv_iconst (v := 0) hx hb dL_rumour_17 (by decide) ?_
    exact W.iret (v := 0) hx hb hr (fun t ht hW => ⟨_, rfl, by rw [ht]; exact ⟨by rw [hn]; rfl, σ1, ad1, _, hsc, had, hP1.keptO hq2, hA2, fun _ => pk_uLs⟩, hS2.F ht⟩) (fun z h => hS2.2.2 z h) dL_rumour_18

theorem op_st_town {σ : Stt} {p0 p1 : Int32} {k : Nat} (h : (o_town σ p0 p1).1 = k + 1) : (o_town σ p0 p1).2.2 = σ := by
  unfold o_town at h ⊢
  repeat' split
  all_goals first | rfl | (exfalso; simp_all; done)
/-! law.town -/
set_option maxHeartbeats 4000000 in
set_option maxRecDepth 100000 in
theorem c_L_town (l : Launch) (D : va_G) (ct : Nat → ClassId) (Z : Nat → Prop) (dc : Nat) (σ : Stt) (ad : Nat → Nat) (hst : l.stackTraces = false) (oa : Nat) (g : Nat → Int64) (p0 p1 : Int32) (hI : Inv σ) (hzo : ¬ Z oa) : Met l yL_town (.codeWith yL_town cL_town 5 (some .int) [(0, 10, 13, 19)] :: GW) ({ frames := 8, cells := 2, slots := 12, locals := 125 } : Room) (va_Pc [.ref (ad 0), .int p0, .int p1, .ref oa] (fun U => GF D ct Z dc U U.heap ∧ Pic D ct (Zo Z oa) dc σ ad U.heap ∧ Ar (ct 4) oa (rJ 1 g) U.heap)) (qS1 Z (fun x h => x = .int (nI (o_town σ p0 p1).1) ∧ ∃ (σ1 : Stt) (ad1 : Nat → Nat) (g1 : Nat → Int64), SC (o_town σ p0 p1).2.2 σ1 ∧ ad1 0 = ad 0 ∧ Pic D ct (Zo Z oa) dc σ1 ad1 h ∧ Ar (ct 4) oa (rJ 1 g1) h ∧ ((o_town σ p0 p1).1 = 0 → g1 0 = (o_town σ p0 p1).2.1.toInt64))) 2 12 (nZ Z) := by
  refine m_inH (cc := cL_town) [.ref (ad 0), .int p0, .int p1, .ref oa] "RumourCustomsLaw" rfl (by decide) (Nat.le_of_ble_eq_true rfl) ?_
  intro pg e s m args below meth cd ls hx hb hml hown hts hr hlocks htab hPr hl
  obtain ⟨hG, hP, hA⟩ := hPr
  have hl : lv_has ls 5 [(0, .ref (ad 0)), (1, .int p0), (2, .int p1), (3, .ref oa)] := hl
  have hSo : va_S (nZ (Zo Z oa)) s.heap s.heap [] := va_S.rf
  have hGo : GF D ct (Zo Z oa) dc s s.heap := hG.sub (fun _ z => Or.inl z) (fun q z => z.elim (hG.1 q) (fun e => by rw [e]; exact hA.lt))
  refine lv_aload_n hx hb dL_town_0 rfl (lv_at hl 3 rfl) ?_
  refine lv_iconst (v := 0) hx hb dL_town_1 (by decide) ?_
  refine lv_aload_n hx hb dL_town_2 rfl (lv_at hl 0 rfl) ?_
  refine lv_iload_n hx hb dL_town_3 rfl (lv_at hl 1 rfl) ?_
  refine lv_iload_n hx hb dL_town_4 rfl (lv_at hl 2 rfl) ?_
  refine c_xs1 (vx_runV (As := [.int p0, .int p1]) (rest := [.int 0, .ref oa]) ⟨hx, hb, hml, hown, hts⟩ (c_X5_town l D ct (Zo Z oa) dc σ ad hst p0 p1 hI) (cwV 2 hts (GG w_573 w_574 w_575 w_59 w_576) rfl rfl rfl (by decide) ⟨Nat.le_of_ble_eq_true rfl, Nat.le_of_ble_eq_true rfl⟩) ⟨(blindF fun _ _ _ _ h => h), Ob.recv (hG.2.1).1 hP.o0 rfl, fun U hU hW => ⟨rfl, hGo.up hW hSo hU, by rw [hU]; exact hP⟩⟩ rfl rfl hl.1 rfl (lv_room (Nat.le_of_ble_eq_true rfl)) dL_town_5 ⟨Nat.le_of_ble_eq_true rfl, Nat.le_of_ble_eq_true rfl⟩) hSo (fun E ce q9 H1 locs1 hp hk hS1 hce hcv hcl => ?_) (fun x H1 locs1 hR hzz hS1 => ?_)
  · -- thrown
    have hS1 : va_S (nZ Z) s.heap H1 locs1 := vaS_weak hS1 (fun _ z => Or.inl z)
    have hP1 := hP.ka hk
    have hA1 : Ar (ct 4) oa (rJ 1 g) H1 := hA.kept (hk.2 _ hA.lt)
    obtain ⟨hn, rfl⟩ := exn1 hp
    refine vx_catch (name := "java/lang/IndexOutOfBoundsException") hown [] ⟨0, 10, 13, 19⟩ [] htab (fun z hz => nomatch hz) rfl (by decide) (hts _ w_361) (va_Nw.use rfl (hG.2.1.2.2.2.2.1 _ (by simp))) hce hcv hcl ?_
    refine lv_astore (lv' := [(4, .ref q9), (0, .ref (ad 0)), (1, .int p0), (2, .int p1), (3, .ref oa)]) hx hb dL_town_13 hl (by decide) rfl (fun ls hl => ?_)
    refine lv_iconst (v := 1) hx hb dL_town_15 (by decide) ?_
    exact W.iret (v := 1) hx hb hr (fun t ht hW => ⟨_, rfl, by rw [ht]; exact ⟨by rw [hn]; rfl, σ, ad, g, by rw [show (o_town σ p0 p1).2.2 = σ from op_st_town hn]; exact SC.rf, rfl, hP1, hA1, fun z => absurd (hn.symm.trans z) (by decide)⟩, hS1.F ht⟩) (fun z h => hS1.2.2 z h) dL_town_16
  · -- returned
    obtain ⟨hn, rfl, σ1, ad1, hsc, had, hP1⟩ := hR
    have hA1 : Ar (ct 4) oa (rJ 1 g) H1 := hA.kept (hS1.2.1 _ hA.lt (fun z => z (Or.inr rfl)))
    have hS1 : va_S (nZ Z) s.heap H1 locs1 := vaS_weak hS1 (fun _ z => Or.inl z)
    refine lv_i2l (v := ((o_town σ p0 p1).2.1 : Int32).toInt64) hx hb dL_town_8 rfl ?_
    refine k_last hx hb hG.2.1.1 hS1 hzo hA1 (vp_in_nI (by decide : 0 < 1) (by decide)) dL_town_9 (fun H2 locs2 hA2 hz2 hq2 hS2 => ?_)
    refine lv_goto (tgt := 17) hx hb dL_town_10 (by decide) ?_
    refine lv_iconst (v := 0) hx hb dL_town_17 (by decide) ?_
    exact W.iret (v := 0) hx hb hr (fun t ht hW => ⟨_, rfl, by rw [ht]; exact ⟨by rw [hn]; rfl, σ1, ad1, _, hsc, had, hP1.keptO hq2, hA2, fun _ => pk_uLs⟩, hS2.F ht⟩) (fun z h => hS2.2.2 z h) dL_town_18

theorem op_st_heard {σ : Stt} {p0 p1 : Int32} {k : Nat} (h : (o_heard σ p0 p1).1 = k + 1) : (o_heard σ p0 p1).2.2 = σ := by
  unfold o_heard at h ⊢
  repeat' split
  all_goals first | rfl | (exfalso; simp_all; done)
/-! law.heard -/
set_option maxHeartbeats 4000000 in
set_option maxRecDepth 100000 in
theorem c_L_heard (l : Launch) (D : va_G) (ct : Nat → ClassId) (Z : Nat → Prop) (dc : Nat) (σ : Stt) (ad : Nat → Nat) (hst : l.stackTraces = false) (oa : Nat) (g : Nat → Int64) (p0 p1 : Int32) (hI : Inv σ) (hzo : ¬ Z oa) : Met l yL_heard (.codeWith yL_heard cL_heard 5 (some .int) [(0, 10, 13, 19)] :: GW) ({ frames := 8, cells := 2, slots := 12, locals := 126 } : Room) (va_Pc [.ref (ad 0), .int p0, .int p1, .ref oa] (fun U => GF D ct Z dc U U.heap ∧ Pic D ct (Zo Z oa) dc σ ad U.heap ∧ Ar (ct 4) oa (rJ 1 g) U.heap)) (qS1 Z (fun x h => x = .int (nI (o_heard σ p0 p1).1) ∧ ∃ (σ1 : Stt) (ad1 : Nat → Nat) (g1 : Nat → Int64), SC (o_heard σ p0 p1).2.2 σ1 ∧ ad1 0 = ad 0 ∧ Pic D ct (Zo Z oa) dc σ1 ad1 h ∧ Ar (ct 4) oa (rJ 1 g1) h ∧ ((o_heard σ p0 p1).1 = 0 → g1 0 = (o_heard σ p0 p1).2.1.toInt64))) 2 12 (nZ Z) := by
  refine m_inH (cc := cL_heard) [.ref (ad 0), .int p0, .int p1, .ref oa] "RumourCustomsLaw" rfl (by decide) (Nat.le_of_ble_eq_true rfl) ?_
  intro pg e s m args below meth cd ls hx hb hml hown hts hr hlocks htab hPr hl
  obtain ⟨hG, hP, hA⟩ := hPr
  have hl : lv_has ls 5 [(0, .ref (ad 0)), (1, .int p0), (2, .int p1), (3, .ref oa)] := hl
  have hSo : va_S (nZ (Zo Z oa)) s.heap s.heap [] := va_S.rf
  have hGo : GF D ct (Zo Z oa) dc s s.heap := hG.sub (fun _ z => Or.inl z) (fun q z => z.elim (hG.1 q) (fun e => by rw [e]; exact hA.lt))
  refine lv_aload_n hx hb dL_heard_0 rfl (lv_at hl 3 rfl) ?_
  refine lv_iconst (v := 0) hx hb dL_heard_1 (by decide) ?_
  refine lv_aload_n hx hb dL_heard_2 rfl (lv_at hl 0 rfl) ?_
  refine lv_iload_n hx hb dL_heard_3 rfl (lv_at hl 1 rfl) ?_
  refine lv_iload_n hx hb dL_heard_4 rfl (lv_at hl 2 rfl) ?_
  refine c_xs1 (vx_runV (As := [.int p0, .int p1]) (rest := [.int 0, .ref oa]) ⟨hx, hb, hml, hown, hts⟩ (c_X5_heard l D ct (Zo Z oa) dc σ ad hst p0 p1 hI) (cwV 2 hts (GG w_602 w_603 w_604 w_59 w_605) rfl rfl rfl (by decide) ⟨Nat.le_of_ble_eq_true rfl, Nat.le_of_ble_eq_true rfl⟩) ⟨(blindF fun _ _ _ _ h => h), Ob.recv (hG.2.1).1 hP.o0 rfl, fun U hU hW => ⟨rfl, hGo.up hW hSo hU, by rw [hU]; exact hP⟩⟩ rfl rfl hl.1 rfl (lv_room (Nat.le_of_ble_eq_true rfl)) dL_heard_5 ⟨Nat.le_of_ble_eq_true rfl, Nat.le_of_ble_eq_true rfl⟩) hSo (fun E ce q9 H1 locs1 hp hk hS1 hce hcv hcl => ?_) (fun x H1 locs1 hR hzz hS1 => ?_)
  · -- thrown
    have hS1 : va_S (nZ Z) s.heap H1 locs1 := vaS_weak hS1 (fun _ z => Or.inl z)
    have hP1 := hP.ka hk
    have hA1 : Ar (ct 4) oa (rJ 1 g) H1 := hA.kept (hk.2 _ hA.lt)
    obtain ⟨hn, rfl⟩ := exn1 hp
    refine vx_catch (name := "java/lang/IndexOutOfBoundsException") hown [] ⟨0, 10, 13, 19⟩ [] htab (fun z hz => nomatch hz) rfl (by decide) (hts _ w_361) (va_Nw.use rfl (hG.2.1.2.2.2.2.1 _ (by simp))) hce hcv hcl ?_
    refine lv_astore (lv' := [(4, .ref q9), (0, .ref (ad 0)), (1, .int p0), (2, .int p1), (3, .ref oa)]) hx hb dL_heard_13 hl (by decide) rfl (fun ls hl => ?_)
    refine lv_iconst (v := 1) hx hb dL_heard_15 (by decide) ?_
    exact W.iret (v := 1) hx hb hr (fun t ht hW => ⟨_, rfl, by rw [ht]; exact ⟨by rw [hn]; rfl, σ, ad, g, by rw [show (o_heard σ p0 p1).2.2 = σ from op_st_heard hn]; exact SC.rf, rfl, hP1, hA1, fun z => absurd (hn.symm.trans z) (by decide)⟩, hS1.F ht⟩) (fun z h => hS1.2.2 z h) dL_heard_16
  · -- returned
    obtain ⟨hn, rfl, σ1, ad1, hsc, had, hP1⟩ := hR
    have hA1 : Ar (ct 4) oa (rJ 1 g) H1 := hA.kept (hS1.2.1 _ hA.lt (fun z => z (Or.inr rfl)))
    have hS1 : va_S (nZ Z) s.heap H1 locs1 := vaS_weak hS1 (fun _ z => Or.inl z)
    refine lv_i2l (v := ((o_heard σ p0 p1).2.1 : Int32).toInt64) hx hb dL_heard_8 rfl ?_
    refine k_last hx hb hG.2.1.1 hS1 hzo hA1 (vp_in_nI (by decide : 0 < 1) (by decide)) dL_heard_9 (fun H2 locs2 hA2 hz2 hq2 hS2 => ?_)
    refine lv_goto (tgt := 17) hx hb dL_heard_10 (by decide) ?_
    refine lv_iconst (v := 0) hx hb dL_heard_17 (by decide) ?_
    exact W.iret (v := 0) hx hb hr (fun t ht hW => ⟨_, rfl, by rw [ht]; exact ⟨by rw [hn]; rfl, σ1, ad1, _, hsc, had, hP1.keptO hq2, hA2, fun _ => pk_uLs⟩, hS2.F ht⟩) (fun z h => hS2.2.2 z h) dL_heard_18

theorem op_st_addCarrier {σ : Stt} {p0 p1 : Int32} {k : Nat} (h : (o_addCarrier σ p0 p1).1 = k + 1) : (o_addCarrier σ p0 p1).2.2 = σ := by
  unfold o_addCarrier at h ⊢
  repeat' split
  all_goals first | rfl | (exfalso; simp_all; done)
/-! law.addCarrier -/
set_option maxHeartbeats 4000000 in
set_option maxRecDepth 100000 in
theorem c_L_addCarrier (l : Launch) (D : va_G) (ct : Nat → ClassId) (Z : Nat → Prop) (dc : Nat) (σ : Stt) (ad : Nat → Nat) (hst : l.stackTraces = false) (oa : Nat) (g : Nat → Int64) (p0 p1 : Int32) (hI : Inv σ) (hzo : ¬ Z oa) : Met l yL_addCarrier (.codeWith yL_addCarrier cL_addCarrier 5 (some .int) [(0, 10, 13, 19), (0, 10, 17, 21), (0, 10, 21, 13)] :: GW) ({ frames := 8, cells := 4, slots := 1017, locals := 194 } : Room) (va_Pc [.ref (ad 0), .int p0, .int p1, .ref oa] (fun U => GF D ct Z dc U U.heap ∧ Pic D ct (Zo Z oa) dc σ ad U.heap ∧ Ar (ct 4) oa (rJ 1 g) U.heap)) (qS1 Z (fun x h => x = .int (nI (o_addCarrier σ p0 p1).1) ∧ ∃ (σ1 : Stt) (ad1 : Nat → Nat) (g1 : Nat → Int64), SC (o_addCarrier σ p0 p1).2.2 σ1 ∧ ad1 0 = ad 0 ∧ Pic D ct (Zo Z oa) dc σ1 ad1 h ∧ Ar (ct 4) oa (rJ 1 g1) h ∧ ((o_addCarrier σ p0 p1).1 = 0 → g1 0 = (o_addCarrier σ p0 p1).2.1.toInt64))) 4 1017 (nZ Z) := by
  refine m_inH (cc := cL_addCarrier) [.ref (ad 0), .int p0, .int p1, .ref oa] "RumourCustomsLaw" rfl (by decide) (Nat.le_of_ble_eq_true rfl) ?_
  intro pg e s m args below meth cd ls hx hb hml hown hts hr hlocks htab hPr hl
  obtain ⟨hG, hP, hA⟩ := hPr
  have hl : lv_has ls 5 [(0, .ref (ad 0)), (1, .int p0), (2, .int p1), (3, .ref oa)] := hl
  have hSo : va_S (nZ (Zo Z oa)) s.heap s.heap [] := va_S.rf
  have hGo : GF D ct (Zo Z oa) dc s s.heap := hG.sub (fun _ z => Or.inl z) (fun q z => z.elim (hG.1 q) (fun e => by rw [e]; exact hA.lt))
  refine lv_aload_n hx hb dL_addCarrier_0 rfl (lv_at hl 3 rfl) ?_
  refine lv_iconst (v := 0) hx hb dL_addCarrier_1 (by decide) ?_
  refine lv_aload_n hx hb dL_addCarrier_2 rfl (lv_at hl 0 rfl) ?_
  refine lv_iload_n hx hb dL_addCarrier_3 rfl (lv_at hl 1 rfl) ?_
  refine lv_iload_n hx hb dL_addCarrier_4 rfl (lv_at hl 2 rfl) ?_
  refine c_xs1 (vx_runV (As := [.int p0, .int p1]) (rest := [.int 0, .ref oa]) ⟨hx, hb, hml, hown, hts⟩ (c_X5_addCarrier l D ct (Zo Z oa) dc σ ad hst p0 p1 hI) (cwV 2 hts (GG w_613 w_614 w_615 w_59 w_616) rfl rfl rfl (by decide) ⟨Nat.le_of_ble_eq_true rfl, Nat.le_of_ble_eq_true rfl⟩) ⟨(blindF fun _ _ _ _ h => h), Ob.recv (hG.2.1).1 hP.o0 rfl, fun U hU hW => ⟨rfl, hGo.up hW hSo hU, by rw [hU]; exact hP⟩⟩ rfl rfl hl.1 rfl (lv_room (Nat.le_of_ble_eq_true rfl)) dL_addCarrier_5 ⟨Nat.le_of_ble_eq_true rfl, Nat.le_of_ble_eq_true rfl⟩) hSo (fun E ce q9 H1 locs1 hp hk hS1 hce hcv hcl => ?_) (fun x H1 locs1 hR hzz hS1 => ?_)
  · -- thrown
    have hS1 : va_S (nZ Z) s.heap H1 locs1 := vaS_weak hS1 (fun _ z => Or.inl z)
    have hP1 := hP.ka hk
    have hA1 : Ar (ct 4) oa (rJ 1 g) H1 := hA.kept (hk.2 _ hA.lt)
    rcases exn3 hp with ⟨hn, rfl⟩ | ⟨hn, rfl⟩ | ⟨hn, rfl⟩
    · -- java/lang/IndexOutOfBoundsException
      refine vx_catch (name := "java/lang/IndexOutOfBoundsException") hown [] ⟨0, 10, 13, 19⟩ [⟨0, 10, 17, 21⟩, ⟨0, 10, 21, 13⟩] htab (fun z hz => nomatch hz) rfl (by decide) (hts _ w_361) (va_Nw.use rfl (hG.2.1.2.2.2.2.1 _ (by simp))) hce hcv hcl ?_
      refine lv_astore (lv' := [(4, .ref q9), (0, .ref (ad 0)), (1, .int p0), (2, .int p1), (3, .ref oa)]) hx hb dL_addCarrier_13 hl (by decide) rfl (fun ls hl => ?_)
      refine lv_iconst (v := 1) hx hb dL_addCarrier_15 (by decide) ?_
      exact W.iret (v := 1) hx hb hr (fun t ht hW => ⟨_, rfl, by rw [ht]; exact ⟨by rw [hn]; rfl, σ, ad, g, by rw [show (o_addCarrier σ p0 p1).2.2 = σ from op_st_addCarrier hn]; exact SC.rf, rfl, hP1, hA1, fun z => absurd (hn.symm.trans z) (by decide)⟩, hS1.F ht⟩) (fun z h => hS1.2.2 z h) dL_addCarrier_16
    · -- java/lang/IllegalArgumentException
      refine vx_catch (name := "java/lang/IllegalArgumentException") hown [⟨0, 10, 13, 19⟩] ⟨0, 10, 17, 21⟩ [⟨0, 10, 21, 13⟩] htab (fun z hz => by rw [List.mem_singleton.mp hz]; exact Or.inr ⟨by decide, "java/lang/IndexOutOfBoundsException", hts _ w_361, hG.2.1.2.2.2.2.2.2.1 _ (by simp) _ (by simp) (by decide)⟩) rfl (by decide) (hts _ w_362) (va_Nw.use rfl (hG.2.1.2.2.2.2.1 _ (by simp))) hce hcv hcl ?_
      refine lv_astore (lv' := [(4, .ref q9), (0, .ref (ad 0)), (1, .int p0), (2, .int p1), (3, .ref oa)]) hx hb dL_addCarrier_17 hl (by decide) rfl (fun ls hl => ?_)
      refine lv_iconst (v := 2) hx hb dL_addCarrier_19 (by decide) ?_
      exact W.iret (v := 2) hx hb hr (fun t ht hW => ⟨_, rfl, by rw [ht]; exact ⟨by rw [hn]; rfl, σ, ad, g, by rw [show (o_addCarrier σ p0 p1).2.2 = σ from op_st_addCarrier hn]; exact SC.rf, rfl, hP1, hA1, fun z => absurd (hn.symm.trans z) (by decide)⟩, hS1.F ht⟩) (fun z h => hS1.2.2 z h) dL_addCarrier_20
    · -- java/lang/IllegalStateException
      refine vx_catch (name := "java/lang/IllegalStateException") hown [⟨0, 10, 13, 19⟩, ⟨0, 10, 17, 21⟩] ⟨0, 10, 21, 13⟩ [] htab (fun z hz => by rcases List.mem_cons.mp hz with hz | hz; rw [hz]; exact Or.inr ⟨by decide, "java/lang/IndexOutOfBoundsException", hts _ w_361, hG.2.1.2.2.2.2.2.2.1 _ (by simp) _ (by simp) (by decide)⟩; rw [List.mem_singleton.mp hz]; exact Or.inr ⟨by decide, "java/lang/IllegalArgumentException", hts _ w_362, hG.2.1.2.2.2.2.2.2.1 _ (by simp) _ (by simp) (by decide)⟩) rfl (by decide) (hts _ w_285) (va_Nw.use rfl (hG.2.1.2.2.2.2.1 _ (by simp))) hce hcv hcl ?_
      refine lv_astore (lv' := [(4, .ref q9), (0, .ref (ad 0)), (1, .int p0), (2, .int p1), (3, .ref oa)]) hx hb dL_addCarrier_21 hl (by decide) rfl (fun ls hl => ?_)
      refine lv_iconst (v := 3) hx hb dL_addCarrier_23 (by decide) ?_
      exact W.iret (v := 3) hx hb hr (fun t ht hW => ⟨_, rfl, by rw [ht]; exact ⟨by rw [hn]; rfl, σ, ad, g, by rw [show (o_addCarrier σ p0 p1).2.2 = σ from op_st_addCarrier hn]; exact SC.rf, rfl, hP1, hA1, fun z => absurd (hn.symm.trans z) (by decide)⟩, hS1.F ht⟩) (fun z h => hS1.2.2 z h) dL_addCarrier_24
  · -- returned
    obtain ⟨hn, rfl, σ1, ad1, hsc, had, hP1⟩ := hR
    have hA1 : Ar (ct 4) oa (rJ 1 g) H1 := hA.kept (hS1.2.1 _ hA.lt (fun z => z (Or.inr rfl)))
    have hS1 : va_S (nZ Z) s.heap H1 locs1 := vaS_weak hS1 (fun _ z => Or.inl z)
    refine lv_i2l (v := ((o_addCarrier σ p0 p1).2.1 : Int32).toInt64) hx hb dL_addCarrier_8 rfl ?_
    refine k_last hx hb hG.2.1.1 hS1 hzo hA1 (vp_in_nI (by decide : 0 < 1) (by decide)) dL_addCarrier_9 (fun H2 locs2 hA2 hz2 hq2 hS2 => ?_)
    refine lv_goto (tgt := 25) hx hb dL_addCarrier_10 (by decide) ?_
    refine lv_iconst (v := 0) hx hb dL_addCarrier_25 (by decide) ?_
    exact W.iret (v := 0) hx hb hr (fun t ht hW => ⟨_, rfl, by rw [ht]; exact ⟨by rw [hn]; rfl, σ1, ad1, _, hsc, had, hP1.keptO hq2, hA2, fun _ => pk_uLs⟩, hS2.F ht⟩) (fun z h => hS2.2.2 z h) dL_addCarrier_26

theorem op_st_take {σ : Stt} {p0 p1 : Int32} {k : Nat} (h : (o_take σ p0 p1).1 = k + 1) : (o_take σ p0 p1).2.2 = σ := by
  unfold o_take at h ⊢
  repeat' split
  all_goals first | rfl | (exfalso; simp_all; done)
/-! law.take -/
set_option maxHeartbeats 4000000 in
set_option maxRecDepth 100000 in
theorem c_L_take (l : Launch) (D : va_G) (ct : Nat → ClassId) (Z : Nat → Prop) (dc : Nat) (σ : Stt) (ad : Nat → Nat) (hst : l.stackTraces = false) (oa : Nat) (g : Nat → Int64) (p0 p1 : Int32) (hI : Inv σ) (hzo : ¬ Z oa) : Met l yL_take (.codeWith yL_take cL_take 5 (some .int) [(0, 10, 13, 19), (0, 10, 17, 13)] :: GW) ({ frames := 8, cells := 4, slots := 24, locals := 127 } : Room) (va_Pc [.ref (ad 0), .int p0, .int p1, .ref oa] (fun U => GF D ct Z dc U U.heap ∧ Pic D ct (Zo Z oa) dc σ ad U.heap ∧ Ar (ct 4) oa (rJ 1 g) U.heap)) (qS1 Z (fun x h => x = .int (nI (o_take σ p0 p1).1) ∧ ∃ (σ1 : Stt) (ad1 : Nat → Nat) (g1 : Nat → Int64), SC (o_take σ p0 p1).2.2 σ1 ∧ ad1 0 = ad 0 ∧ Pic D ct (Zo Z oa) dc σ1 ad1 h ∧ Ar (ct 4) oa (rJ 1 g1) h ∧ ((o_take σ p0 p1).1 = 0 → g1 0 = (o_take σ p0 p1).2.1.toInt64))) 4 24 (nZ Z) := by
  refine m_inH (cc := cL_take) [.ref (ad 0), .int p0, .int p1, .ref oa] "RumourCustomsLaw" rfl (by decide) (Nat.le_of_ble_eq_true rfl) ?_
  intro pg e s m args below meth cd ls hx hb hml hown hts hr hlocks htab hPr hl
  obtain ⟨hG, hP, hA⟩ := hPr
  have hl : lv_has ls 5 [(0, .ref (ad 0)), (1, .int p0), (2, .int p1), (3, .ref oa)] := hl
  have hSo : va_S (nZ (Zo Z oa)) s.heap s.heap [] := va_S.rf
  have hGo : GF D ct (Zo Z oa) dc s s.heap := hG.sub (fun _ z => Or.inl z) (fun q z => z.elim (hG.1 q) (fun e => by rw [e]; exact hA.lt))
  refine lv_aload_n hx hb dL_take_0 rfl (lv_at hl 3 rfl) ?_
  refine lv_iconst (v := 0) hx hb dL_take_1 (by decide) ?_
  refine lv_aload_n hx hb dL_take_2 rfl (lv_at hl 0 rfl) ?_
  refine lv_iload_n hx hb dL_take_3 rfl (lv_at hl 1 rfl) ?_
  refine lv_iload_n hx hb dL_take_4 rfl (lv_at hl 2 rfl) ?_
  refine c_xs1 (vx_runV (As := [.int p0, .int p1]) (rest := [.int 0, .ref oa]) ⟨hx, hb, hml, hown, hts⟩ (c_X5_take l D ct (Zo Z oa) dc σ ad hst p0 p1 hI) (cwV 2 hts (GG w_648 w_649 w_650 w_59 w_651) rfl rfl rfl (by decide) ⟨Nat.le_of_ble_eq_true rfl, Nat.le_of_ble_eq_true rfl⟩) ⟨(blindF fun _ _ _ _ h => h), Ob.recv (hG.2.1).1 hP.o0 rfl, fun U hU hW => ⟨rfl, hGo.up hW hSo hU, by rw [hU]; exact hP⟩⟩ rfl rfl hl.1 rfl (lv_room (Nat.le_of_ble_eq_true rfl)) dL_take_5 ⟨Nat.le_of_ble_eq_true rfl, Nat.le_of_ble_eq_true rfl⟩) hSo (fun E ce q9 H1 locs1 hp hk hS1 hce hcv hcl => ?_) (fun x H1 locs1 hR hzz hS1 => ?_)
  · -- thrown
    have hS1 : va_S (nZ Z) s.heap H1 locs1 := vaS_weak hS1 (fun _ z => Or.inl z)
    have hP1 := hP.ka hk
    have hA1 : Ar (ct 4) oa (rJ 1 g) H1 := hA.kept (hk.2 _ hA.lt)
    rcases exn2 hp with ⟨hn, rfl⟩ | ⟨hn, rfl⟩
    · -- java/lang/IndexOutOfBoundsException
      refine vx_catch (name := "java/lang/IndexOutOfBoundsException") hown [] ⟨0, 10, 13, 19⟩ [⟨0, 10, 17, 13⟩] htab (fun z hz => nomatch hz) rfl (by decide) (hts _ w_361) (va_Nw.use rfl (hG.2.1.2.2.2.2.1 _ (by simp))) hce hcv hcl ?_
      refine lv_astore (lv' := [(4, .ref q9), (0, .ref (ad 0)), (1, .int p0), (2, .int p1), (3, .ref oa)]) hx hb dL_take_13 hl (by decide) rfl (fun ls hl => ?_)
      refine lv_iconst (v := 1) hx hb dL_take_15 (by decide) ?_
      exact W.iret (v := 1) hx hb hr (fun t ht hW => ⟨_, rfl, by rw [ht]; exact ⟨by rw [hn]; rfl, σ, ad, g, by rw [show (o_take σ p0 p1).2.2 = σ from op_st_take hn]; exact SC.rf, rfl, hP1, hA1, fun z => absurd (hn.symm.trans z) (by decide)⟩, hS1.F ht⟩) (fun z h => hS1.2.2 z h) dL_take_16
    · -- java/lang/IllegalStateException
      refine vx_catch (name := "java/lang/IllegalStateException") hown [⟨0, 10, 13, 19⟩] ⟨0, 10, 17, 13⟩ [] htab (fun z hz => by rw [List.mem_singleton.mp hz]; exact Or.inr ⟨by decide, "java/lang/IndexOutOfBoundsException", hts _ w_361, hG.2.1.2.2.2.2.2.2.1 _ (by simp) _ (by simp) (by decide)⟩) rfl (by decide) (hts _ w_285) (va_Nw.use rfl (hG.2.1.2.2.2.2.1 _ (by simp))) hce hcv hcl ?_
      refine lv_astore (lv' := [(4, .ref q9), (0, .ref (ad 0)), (1, .int p0), (2, .int p1), (3, .ref oa)]) hx hb dL_take_17 hl (by decide) rfl (fun ls hl => ?_)
      refine lv_iconst (v := 2) hx hb dL_take_19 (by decide) ?_
      exact W.iret (v := 2) hx hb hr (fun t ht hW => ⟨_, rfl, by rw [ht]; exact ⟨by rw [hn]; rfl, σ, ad, g, by rw [show (o_take σ p0 p1).2.2 = σ from op_st_take hn]; exact SC.rf, rfl, hP1, hA1, fun z => absurd (hn.symm.trans z) (by decide)⟩, hS1.F ht⟩) (fun z h => hS1.2.2 z h) dL_take_20
  · -- returned
    obtain ⟨hn, rfl, σ1, ad1, hsc, had, hP1⟩ := hR
    have hA1 : Ar (ct 4) oa (rJ 1 g) H1 := hA.kept (hS1.2.1 _ hA.lt (fun z => z (Or.inr rfl)))
    have hS1 : va_S (nZ Z) s.heap H1 locs1 := vaS_weak hS1 (fun _ z => Or.inl z)
    refine lv_i2l (v := ((o_take σ p0 p1).2.1 : Int32).toInt64) hx hb dL_take_8 rfl ?_
    refine k_last hx hb hG.2.1.1 hS1 hzo hA1 (vp_in_nI (by decide : 0 < 1) (by decide)) dL_take_9 (fun H2 locs2 hA2 hz2 hq2 hS2 => ?_)
    refine lv_goto (tgt := 21) hx hb dL_take_10 (by decide) ?_
    refine lv_iconst (v := 0) hx hb dL_take_21 (by decide) ?_
    exact W.iret (v := 0) hx hb hr (fun t ht hW => ⟨_, rfl, by rw [ht]; exact ⟨by rw [hn]; rfl, σ1, ad1, _, hsc, had, hP1.keptO hq2, hA2, fun _ => pk_uLs⟩, hS2.F ht⟩) (fun z h => hS2.2.2 z h) dL_take_22

theorem op_st_leave {σ : Stt} {p0 p1 : Int32} {k : Nat} (h : (o_leave σ p0 p1).1 = k + 1) : (o_leave σ p0 p1).2.2 = σ := by
  unfold o_leave at h ⊢
  repeat' split
  all_goals first | rfl | (exfalso; simp_all; done)
/-! law.leave -/
set_option maxHeartbeats 4000000 in
set_option maxRecDepth 100000 in
theorem c_L_leave (l : Launch) (D : va_G) (ct : Nat → ClassId) (Z : Nat → Prop) (dc : Nat) (σ : Stt) (ad : Nat → Nat) (hst : l.stackTraces = false) (oa : Nat) (g : Nat → Int64) (p0 p1 : Int32) (hI : Inv σ) (hzo : ¬ Z oa) : Met l yL_leave (.codeWith yL_leave cL_leave 5 (some .int) [(0, 10, 13, 19), (0, 10, 17, 13)] :: GW) ({ frames := 8, cells := 4, slots := 24, locals := 127 } : Room) (va_Pc [.ref (ad 0), .int p0, .int p1, .ref oa] (fun U => GF D ct Z dc U U.heap ∧ Pic D ct (Zo Z oa) dc σ ad U.heap ∧ Ar (ct 4) oa (rJ 1 g) U.heap)) (qS1 Z (fun x h => x = .int (nI (o_leave σ p0 p1).1) ∧ ∃ (σ1 : Stt) (ad1 : Nat → Nat) (g1 : Nat → Int64), SC (o_leave σ p0 p1).2.2 σ1 ∧ ad1 0 = ad 0 ∧ Pic D ct (Zo Z oa) dc σ1 ad1 h ∧ Ar (ct 4) oa (rJ 1 g1) h ∧ ((o_leave σ p0 p1).1 = 0 → g1 0 = (o_leave σ p0 p1).2.1.toInt64))) 4 24 (nZ Z) := by
  refine m_inH (cc := cL_leave) [.ref (ad 0), .int p0, .int p1, .ref oa] "RumourCustomsLaw" rfl (by decide) (Nat.le_of_ble_eq_true rfl) ?_
  intro pg e s m args below meth cd ls hx hb hml hown hts hr hlocks htab hPr hl
  obtain ⟨hG, hP, hA⟩ := hPr
  have hl : lv_has ls 5 [(0, .ref (ad 0)), (1, .int p0), (2, .int p1), (3, .ref oa)] := hl
  have hSo : va_S (nZ (Zo Z oa)) s.heap s.heap [] := va_S.rf
  have hGo : GF D ct (Zo Z oa) dc s s.heap := hG.sub (fun _ z => Or.inl z) (fun q z => z.elim (hG.1 q) (fun e => by rw [e]; exact hA.lt))
  refine lv_aload_n hx hb dL_leave_0 rfl (lv_at hl 3 rfl) ?_
  refine lv_iconst (v := 0) hx hb dL_leave_1 (by decide) ?_
  refine lv_aload_n hx hb dL_leave_2 rfl (lv_at hl 0 rfl) ?_
  refine lv_iload_n hx hb dL_leave_3 rfl (lv_at hl 1 rfl) ?_
  refine lv_iload_n hx hb dL_leave_4 rfl (lv_at hl 2 rfl) ?_
  refine c_xs1 (vx_runV (As := [.int p0, .int p1]) (rest := [.int 0, .ref oa]) ⟨hx, hb, hml, hown, hts⟩ (c_X5_leave l D ct (Zo Z oa) dc σ ad hst p0 p1 hI) (cwV 2 hts (GG w_674 w_675 w_676 w_59 w_677) rfl rfl rfl (by decide) ⟨Nat.le_of_ble_eq_true rfl, Nat.le_of_ble_eq_true rfl⟩) ⟨(blindF fun _ _ _ _ h => h), Ob.recv (hG.2.1).1 hP.o0 rfl, fun U hU hW => ⟨rfl, hGo.up hW hSo hU, by rw [hU]; exact hP⟩⟩ rfl rfl hl.1 rfl (lv_room (Nat.le_of_ble_eq_true rfl)) dL_leave_5 ⟨Nat.le_of_ble_eq_true rfl, Nat.le_of_ble_eq_true rfl⟩) hSo (fun E ce q9 H1 locs1 hp hk hS1 hce hcv hcl => ?_) (fun x H1 locs1 hR hzz hS1 => ?_)
  · -- thrown
    have hS1 : va_S (nZ Z) s.heap H1 locs1 := vaS_weak hS1 (fun _ z => Or.inl z)
    have hP1 := hP.ka hk
    have hA1 : Ar (ct 4) oa (rJ 1 g) H1 := hA.kept (hk.2 _ hA.lt)
    rcases exn2 hp with ⟨hn, rfl⟩ | ⟨hn, rfl⟩
    · -- java/lang/IndexOutOfBoundsException
      refine vx_catch (name := "java/lang/IndexOutOfBoundsException") hown [] ⟨0, 10, 13, 19⟩ [⟨0, 10, 17, 13⟩] htab (fun z hz => nomatch hz) rfl (by decide) (hts _ w_361) (va_Nw.use rfl (hG.2.1.2.2.2.2.1 _ (by simp))) hce hcv hcl ?_
      refine lv_astore (lv' := [(4, .ref q9), (0, .ref (ad 0)), (1, .int p0), (2, .int p1), (3, .ref oa)]) hx hb dL_leave_13 hl (by decide) rfl (fun ls hl => ?_)
      refine lv_iconst (v := 1) hx hb dL_leave_15 (by decide) ?_
      exact W.iret (v := 1) hx hb hr (fun t ht hW => ⟨_, rfl, by rw [ht]; exact ⟨by rw [hn]; rfl, σ, ad, g, by rw [show (o_leave σ p0 p1).2.2 = σ from op_st_leave hn]; exact SC.rf, rfl, hP1, hA1, fun z => absurd (hn.symm.trans z) (by decide)⟩, hS1.F ht⟩) (fun z h => hS1.2.2 z h) dL_leave_16
    · -- java/lang/IllegalStateException
      refine vx_catch (name := "java/lang/IllegalStateException") hown [⟨0, 10, 13, 19⟩] ⟨0, 10, 17, 13⟩ [] htab (fun z hz => by rw [List.mem_singleton.mp hz]; exact Or.inr ⟨by decide, "java/lang/IndexOutOfBoundsException", hts _ w_361, hG.2.1.2.2.2.2.2.2.1 _ (by simp) _ (by simp) (by decide)⟩) rfl (by decide) (hts _ w_285) (va_Nw.use rfl (hG.2.1.2.2.2.2.1 _ (by simp))) hce hcv hcl ?_
      refine lv_astore (lv' := [(4, .ref q9), (0, .ref (ad 0)), (1, .int p0), (2, .int p1), (3, .ref oa)]) hx hb dL_leave_17 hl (by decide) rfl (fun ls hl => ?_)
      refine lv_iconst (v := 2) hx hb dL_leave_19 (by decide) ?_
      exact W.iret (v := 2) hx hb hr (fun t ht hW => ⟨_, rfl, by rw [ht]; exact ⟨by rw [hn]; rfl, σ, ad, g, by rw [show (o_leave σ p0 p1).2.2 = σ from op_st_leave hn]; exact SC.rf, rfl, hP1, hA1, fun z => absurd (hn.symm.trans z) (by decide)⟩, hS1.F ht⟩) (fun z h => hS1.2.2 z h) dL_leave_20
  · -- returned
    obtain ⟨hn, rfl, σ1, ad1, hsc, had, hP1⟩ := hR
    have hA1 : Ar (ct 4) oa (rJ 1 g) H1 := hA.kept (hS1.2.1 _ hA.lt (fun z => z (Or.inr rfl)))
    have hS1 : va_S (nZ Z) s.heap H1 locs1 := vaS_weak hS1 (fun _ z => Or.inl z)
    refine lv_i2l (v := ((o_leave σ p0 p1).2.1 : Int32).toInt64) hx hb dL_leave_8 rfl ?_
    refine k_last hx hb hG.2.1.1 hS1 hzo hA1 (vp_in_nI (by decide : 0 < 1) (by decide)) dL_leave_9 (fun H2 locs2 hA2 hz2 hq2 hS2 => ?_)
    refine lv_goto (tgt := 21) hx hb dL_leave_10 (by decide) ?_
    refine lv_iconst (v := 0) hx hb dL_leave_21 (by decide) ?_
    exact W.iret (v := 0) hx hb hr (fun t ht hW => ⟨_, rfl, by rw [ht]; exact ⟨by rw [hn]; rfl, σ1, ad1, _, hsc, had, hP1.keptO hq2, hA2, fun _ => pk_uLs⟩, hS2.F ht⟩) (fun z h => hS2.2.2 z h) dL_leave_22

theorem op_st_hide {σ : Stt} {p0 p1 p2 : Int32} {k : Nat} (h : (o_hide σ p0 p1 p2).1 = k + 1) : (o_hide σ p0 p1 p2).2.2 = σ := by
  unfold o_hide at h ⊢
  repeat' split
  all_goals first | rfl | (exfalso; simp_all; done)
/-! law.hide -/
set_option maxHeartbeats 4000000 in
set_option maxRecDepth 100000 in
theorem c_L_hide (l : Launch) (D : va_G) (ct : Nat → ClassId) (Z : Nat → Prop) (dc : Nat) (σ : Stt) (ad : Nat → Nat) (hst : l.stackTraces = false) (oa : Nat) (g : Nat → Int64) (p0 p1 p2 : Int32) (hb01 : p2 = 0 ∨ p2 = 1) (hI : Inv σ) (hzo : ¬ Z oa) : Met l yL_hide (.codeWith yL_hide cL_hide 6 (some .int) [(0, 12, 15, 19), (0, 12, 19, 13)] :: GW) ({ frames := 8, cells := 3, slots := 18, locals := 128 } : Room) (va_Pc [.ref (ad 0), .int p0, .int p1, .int p2, .ref oa] (fun U => GF D ct Z dc U U.heap ∧ Pic D ct (Zo Z oa) dc σ ad U.heap ∧ Ar (ct 4) oa (rJ 1 g) U.heap)) (qS1 Z (fun x h => x = .int (nI (o_hide σ p0 p1 p2).1) ∧ ∃ (σ1 : Stt) (ad1 : Nat → Nat) (g1 : Nat → Int64), SC (o_hide σ p0 p1 p2).2.2 σ1 ∧ ad1 0 = ad 0 ∧ Pic D ct (Zo Z oa) dc σ1 ad1 h ∧ Ar (ct 4) oa (rJ 1 g1) h ∧ ((o_hide σ p0 p1 p2).1 = 0 → g1 0 = (o_hide σ p0 p1 p2).2.1.toInt64))) 3 18 (nZ Z) := by
  refine m_inH (cc := cL_hide) [.ref (ad 0), .int p0, .int p1, .int p2, .ref oa] "RumourCustomsLaw" rfl (by decide) (Nat.le_of_ble_eq_true rfl) ?_
  intro pg e s m args below meth cd ls hx hb hml hown hts hr hlocks htab hPr hl
  obtain ⟨hG, hP, hA⟩ := hPr
  have hl : lv_has ls 6 [(0, .ref (ad 0)), (1, .int p0), (2, .int p1), (3, .int p2), (4, .ref oa)] := hl
  have hSo : va_S (nZ (Zo Z oa)) s.heap s.heap [] := va_S.rf
  have hGo : GF D ct (Zo Z oa) dc s s.heap := hG.sub (fun _ z => Or.inl z) (fun q z => z.elim (hG.1 q) (fun e => by rw [e]; exact hA.lt))
  refine lv_aload hx hb dL_hide_0 (lv_at hl 4 rfl) ?_
  refine lv_iconst (v := 0) hx hb dL_hide_2 (by decide) ?_
  refine lv_aload_n hx hb dL_hide_3 rfl (lv_at hl 0 rfl) ?_
  refine lv_iload_n hx hb dL_hide_4 rfl (lv_at hl 1 rfl) ?_
  refine lv_iload_n hx hb dL_hide_5 rfl (lv_at hl 2 rfl) ?_
  refine lv_iload_n hx hb dL_hide_6 rfl (lv_at hl 3 rfl) ?_
  refine c_xs1 (vx_runV (As := [.int p0, .int p1, .int p2]) (rest := [.int 0, .ref oa]) ⟨hx, hb, hml, hown, hts⟩ (c_X5_hide l D ct (Zo Z oa) dc σ ad hst p0 p1 p2 hb01 hI) (cwV 3 hts (GG w_689 w_690 w_691 w_59 w_692) rfl rfl rfl (by decide) ⟨Nat.le_of_ble_eq_true rfl, Nat.le_of_ble_eq_true rfl⟩) ⟨(blindF fun _ _ _ _ h => h), Ob.recv (hG.2.1).1 hP.o0 rfl, fun U hU hW => ⟨rfl, hGo.up hW hSo hU, by rw [hU]; exact hP⟩⟩ rfl rfl hl.1 rfl (lv_room (Nat.le_of_ble_eq_true rfl)) dL_hide_7 ⟨Nat.le_of_ble_eq_true rfl, Nat.le_of_ble_eq_true rfl⟩) hSo (fun E ce q9 H1 locs1 hp hk hS1 hce hcv hcl => ?_) (fun x H1 locs1 hR hzz hS1 => ?_)
  · -- thrown
    have hS1 : va_S (nZ Z) s.heap H1 locs1 := vaS_weak hS1 (fun _ z => Or.inl z)
    have hP1 := hP.ka hk
    have hA1 : Ar (ct 4) oa (rJ 1 g) H1 := hA.kept (hk.2 _ hA.lt)
    rcases exn2 hp with ⟨hn, rfl⟩ | ⟨hn, rfl⟩
    · -- java/lang/IndexOutOfBoundsException
      refine vx_catch (name := "java/lang/IndexOutOfBoundsException") hown [] ⟨0, 12, 15, 19⟩ [⟨0, 12, 19, 13⟩] htab (fun z hz => nomatch hz) rfl (by decide) (hts _ w_361) (va_Nw.use rfl (hG.2.1.2.2.2.2.1 _ (by simp))) hce hcv hcl ?_
      refine lv_astore (lv' := [(5, .ref q9), (0, .ref (ad 0)), (1, .int p0), (2, .int p1), (3, .int p2), (4, .ref oa)]) hx hb dL_hide_15 hl (by decide) rfl (fun ls hl => ?_)
      refine lv_iconst (v := 1) hx hb dL_hide_17 (by decide) ?_
      exact W.iret (v := 1) hx hb hr (fun t ht hW => ⟨_, rfl, by rw [ht]; exact ⟨by rw [hn]; rfl, σ, ad, g, by rw [show (o_hide σ p0 p1 p2).2.2 = σ from op_st_hide hn]; exact SC.rf, rfl, hP1, hA1, fun z => absurd (hn.symm.trans z) (by decide)⟩, hS1.F ht⟩) (fun z h => hS1.2.2 z h) dL_hide_18
    · -- java/lang/IllegalStateException
      refine vx_catch (name := "java/lang/IllegalStateException") hown [⟨0, 12, 15, 19⟩] ⟨0, 12, 19, 13⟩ [] htab (fun z hz => by rw [List.mem_singleton.mp hz]; exact Or.inr ⟨by decide, "java/lang/IndexOutOfBoundsException", hts _ w_361, hG.2.1.2.2.2.2.2.2.1 _ (by simp) _ (by simp) (by decide)⟩) rfl (by decide) (hts _ w_285) (va_Nw.use rfl (hG.2.1.2.2.2.2.1 _ (by simp))) hce hcv hcl ?_
      refine lv_astore (lv' := [(5, .ref q9), (0, .ref (ad 0)), (1, .int p0), (2, .int p1), (3, .int p2), (4, .ref oa)]) hx hb dL_hide_19 hl (by decide) rfl (fun ls hl => ?_)
      refine lv_iconst (v := 2) hx hb dL_hide_21 (by decide) ?_
      exact W.iret (v := 2) hx hb hr (fun t ht hW => ⟨_, rfl, by rw [ht]; exact ⟨by rw [hn]; rfl, σ, ad, g, by rw [show (o_hide σ p0 p1 p2).2.2 = σ from op_st_hide hn]; exact SC.rf, rfl, hP1, hA1, fun z => absurd (hn.symm.trans z) (by decide)⟩, hS1.F ht⟩) (fun z h => hS1.2.2 z h) dL_hide_22
  · -- returned
    obtain ⟨hn, rfl, σ1, ad1, hsc, had, hP1⟩ := hR
    have hA1 : Ar (ct 4) oa (rJ 1 g) H1 := hA.kept (hS1.2.1 _ hA.lt (fun z => z (Or.inr rfl)))
    have hS1 : va_S (nZ Z) s.heap H1 locs1 := vaS_weak hS1 (fun _ z => Or.inl z)
    refine lv_i2l (v := ((o_hide σ p0 p1 p2).2.1 : Int32).toInt64) hx hb dL_hide_10 rfl ?_
    refine k_last hx hb hG.2.1.1 hS1 hzo hA1 (vp_in_nI (by decide : 0 < 1) (by decide)) dL_hide_11 (fun H2 locs2 hA2 hz2 hq2 hS2 => ?_)
    refine lv_goto (tgt := 23) hx hb dL_hide_12 (by decide) ?_
    refine lv_iconst (v := 0) hx hb dL_hide_23 (by decide) ?_
    exact W.iret (v := 0) hx hb hr (fun t ht hW => ⟨_, rfl, by rw [ht]; exact ⟨by rw [hn]; rfl, σ1, ad1, _, hsc, had, hP1.keptO hq2, hA2, fun _ => pk_uLs⟩, hS2.F ht⟩) (fun z h => hS2.2.2 z h) dL_hide_24

theorem op_st_tell {σ : Stt} {p0 p1 : Int32} {k : Nat} (h : (o_tell σ p0 p1).1 = k + 1) : (o_tell σ p0 p1).2.2 = σ := by
  unfold o_tell at h ⊢
  repeat' split
  all_goals first | rfl | (exfalso; simp_all; done)
/-! law.tell -/
set_option maxHeartbeats 4000000 in
set_option maxRecDepth 100000 in
theorem c_L_tell (l : Launch) (D : va_G) (ct : Nat → ClassId) (Z : Nat → Prop) (dc : Nat) (σ : Stt) (ad : Nat → Nat) (hst : l.stackTraces = false) (oa : Nat) (g : Nat → Int64) (p0 p1 : Int32) (hI : Inv σ) (hzo : ¬ Z oa) : Met l yL_tell (.codeWith yL_tell cL_tell 5 (some .int) [(0, 10, 13, 19), (0, 10, 17, 13)] :: GW) ({ frames := 8, cells := 6, slots := 1032, locals := 198 } : Room) (va_Pc [.ref (ad 0), .int p0, .int p1, .ref oa] (fun U => GF D ct Z dc U U.heap ∧ Pic D ct (Zo Z oa) dc σ ad U.heap ∧ Ar (ct 4) oa (rJ 1 g) U.heap)) (qS1 Z (fun x h => x = .int (nI (o_tell σ p0 p1).1) ∧ ∃ (σ1 : Stt) (ad1 : Nat → Nat) (g1 : Nat → Int64), SC (o_tell σ p0 p1).2.2 σ1 ∧ ad1 0 = ad 0 ∧ Pic D ct (Zo Z oa) dc σ1 ad1 h ∧ Ar (ct 4) oa (rJ 1 g1) h ∧ ((o_tell σ p0 p1).1 = 0 → g1 0 = (o_tell σ p0 p1).2.1.toInt64))) 6 1032 (nZ Z) := by
  refine m_inH (cc := cL_tell) [.ref (ad 0), .int p0, .int p1, .ref oa] "RumourCustomsLaw" rfl (by decide) (Nat.le_of_ble_eq_true rfl) ?_
  intro pg e s m args below meth cd ls hx hb hml hown hts hr hlocks htab hPr hl
  obtain ⟨hG, hP, hA⟩ := hPr
  have hl : lv_has ls 5 [(0, .ref (ad 0)), (1, .int p0), (2, .int p1), (3, .ref oa)] := hl
  have hSo : va_S (nZ (Zo Z oa)) s.heap s.heap [] := va_S.rf
  have hGo : GF D ct (Zo Z oa) dc s s.heap := hG.sub (fun _ z => Or.inl z) (fun q z => z.elim (hG.1 q) (fun e => by rw [e]; exact hA.lt))
  refine lv_aload_n hx hb dL_tell_0 rfl (lv_at hl 3 rfl) ?_
  refine lv_iconst (v := 0) hx hb dL_tell_1 (by decide) ?_
  refine lv_aload_n hx hb dL_tell_2 rfl (lv_at hl 0 rfl) ?_
  refine lv_iload_n hx hb dL_tell_3 rfl (lv_at hl 1 rfl) ?_
  refine lv_iload_n hx hb dL_tell_4 rfl (lv_at hl 2 rfl) ?_
  refine c_xs1 (vx_runV (As := [.int p0, .int p1]) (rest := [.int 0, .ref oa]) ⟨hx, hb, hml, hown, hts⟩ (c_X5_tell l D ct (Zo Z oa) dc σ ad hst p0 p1 hI) (cwV 2 hts (GG w_696 w_697 w_698 w_59 w_699) rfl rfl rfl (by decide) ⟨Nat.le_of_ble_eq_true rfl, Nat.le_of_ble_eq_true rfl⟩) ⟨(blindF fun _ _ _ _ h => h), Ob.recv (hG.2.1).1 hP.o0 rfl, fun U hU hW => ⟨rfl, hGo.up hW hSo hU, by rw [hU]; exact hP⟩⟩ rfl rfl hl.1 rfl (lv_room (Nat.le_of_ble_eq_true rfl)) dL_tell_5 ⟨Nat.le_of_ble_eq_true rfl, Nat.le_of_ble_eq_true rfl⟩) hSo (fun E ce q9 H1 locs1 hp hk hS1 hce hcv hcl => ?_) (fun x H1 locs1 hR hzz hS1 => ?_)
  · -- thrown
    have hS1 : va_S (nZ Z) s.heap H1 locs1 := vaS_weak hS1 (fun _ z => Or.inl z)
    have hP1 := hP.ka hk
    have hA1 : Ar (ct 4) oa (rJ 1 g) H1 := hA.kept (hk.2 _ hA.lt)
    rcases exn2 hp with ⟨hn, rfl⟩ | ⟨hn, rfl⟩
    · -- java/lang/IndexOutOfBoundsException
      refine vx_catch (name := "java/lang/IndexOutOfBoundsException") hown [] ⟨0, 10, 13, 19⟩ [⟨0, 10, 17, 13⟩] htab (fun z hz => nomatch hz) rfl (by decide) (hts _ w_361) (va_Nw.use rfl (hG.2.1.2.2.2.2.1 _ (by simp))) hce hcv hcl ?_
      refine lv_astore (lv' := [(4, .ref q9), (0, .ref (ad 0)), (1, .int p0), (2, .int p1), (3, .ref oa)]) hx hb dL_tell_13 hl (by decide) rfl (fun ls hl => ?_)
      refine lv_iconst (v := 1) hx hb dL_tell_15 (by decide) ?_
      exact W.iret (v := 1) hx hb hr (fun t ht hW => ⟨_, rfl, by rw [ht]; exact ⟨by rw [hn]; rfl, σ, ad, g, by rw [show (o_tell σ p0 p1).2.2 = σ from op_st_tell hn]; exact SC.rf, rfl, hP1, hA1, fun z => absurd (hn.symm.trans z) (by decide)⟩, hS1.F ht⟩) (fun z h => hS1.2.2 z h) dL_tell_16
    · -- java/lang/IllegalStateException
      refine vx_catch (name := "java/lang/IllegalStateException") hown [⟨0, 10, 13, 19⟩] ⟨0, 10, 17, 13⟩ [] htab (fun z hz => by rw [List.mem_singleton.mp hz]; exact Or.inr ⟨by decide, "java/lang/IndexOutOfBoundsException", hts _ w_361, hG.2.1.2.2.2.2.2.2.1 _ (by simp) _ (by simp) (by decide)⟩) rfl (by decide) (hts _ w_285) (va_Nw.use rfl (hG.2.1.2.2.2.2.1 _ (by simp))) hce hcv hcl ?_
      refine lv_astore (lv' := [(4, .ref q9), (0, .ref (ad 0)), (1, .int p0), (2, .int p1), (3, .ref oa)]) hx hb dL_tell_17 hl (by decide) rfl (fun ls hl => ?_)
      refine lv_iconst (v := 2) hx hb dL_tell_19 (by decide) ?_
      exact W.iret (v := 2) hx hb hr (fun t ht hW => ⟨_, rfl, by rw [ht]; exact ⟨by rw [hn]; rfl, σ, ad, g, by rw [show (o_tell σ p0 p1).2.2 = σ from op_st_tell hn]; exact SC.rf, rfl, hP1, hA1, fun z => absurd (hn.symm.trans z) (by decide)⟩, hS1.F ht⟩) (fun z h => hS1.2.2 z h) dL_tell_20
  · -- returned
    obtain ⟨hn, rfl, σ1, ad1, hsc, had, hP1⟩ := hR
    have hA1 : Ar (ct 4) oa (rJ 1 g) H1 := hA.kept (hS1.2.1 _ hA.lt (fun z => z (Or.inr rfl)))
    have hS1 : va_S (nZ Z) s.heap H1 locs1 := vaS_weak hS1 (fun _ z => Or.inl z)
    refine lv_i2l (v := ((o_tell σ p0 p1).2.1 : Int32).toInt64) hx hb dL_tell_8 rfl ?_
    refine k_last hx hb hG.2.1.1 hS1 hzo hA1 (vp_in_nI (by decide : 0 < 1) (by decide)) dL_tell_9 (fun H2 locs2 hA2 hz2 hq2 hS2 => ?_)
    refine lv_goto (tgt := 21) hx hb dL_tell_10 (by decide) ?_
    refine lv_iconst (v := 0) hx hb dL_tell_21 (by decide) ?_
    exact W.iret (v := 0) hx hb hr (fun t ht hW => ⟨_, rfl, by rw [ht]; exact ⟨by rw [hn]; rfl, σ1, ad1, _, hsc, had, hP1.keptO hq2, hA2, fun _ => pk_uLs⟩, hS2.F ht⟩) (fun z h => hS2.2.2 z h) dL_tell_22

theorem op_st_go {σ : Stt} {p0 p1 p2 : Int32} {k : Nat} (h : (o_go σ p0 p1 p2).1 = k + 1) : (o_go σ p0 p1 p2).2.2 = σ := by
  unfold o_go at h ⊢
  repeat' split
  all_goals first | rfl | (exfalso; simp_all; done)
/-! law.go -/
set_option maxHeartbeats 4000000 in
set_option maxRecDepth 100000 in
theorem c_L_go (l : Launch) (D : va_G) (ct : Nat → ClassId) (Z : Nat → Prop) (dc : Nat) (σ : Stt) (ad : Nat → Nat) (hst : l.stackTraces = false) (oa : Nat) (g : Nat → Int64) (p0 p1 p2 : Int32) (hI : Inv σ) (hzo : ¬ Z oa) : Met l yL_go (.codeWith yL_go cL_go 6 (some .int) [(0, 12, 15, 19), (0, 12, 19, 21), (0, 12, 23, 13)] :: GW) ({ frames := 8, cells := 5, slots := 30, locals := 140 } : Room) (va_Pc [.ref (ad 0), .int p0, .int p1, .int p2, .ref oa] (fun U => GF D ct Z dc U U.heap ∧ Pic D ct (Zo Z oa) dc σ ad U.heap ∧ Ar (ct 4) oa (rJ 1 g) U.heap)) (qS1 Z (fun x h => x = .int (nI (o_go σ p0 p1 p2).1) ∧ ∃ (σ1 : Stt) (ad1 : Nat → Nat) (g1 : Nat → Int64), SC (o_go σ p0 p1 p2).2.2 σ1 ∧ ad1 0 = ad 0 ∧ Pic D ct (Zo Z oa) dc σ1 ad1 h ∧ Ar (ct 4) oa (rJ 1 g1) h ∧ ((o_go σ p0 p1 p2).1 = 0 → g1 0 = (o_go σ p0 p1 p2).2.1.toInt64))) 5 30 (nZ Z) := by
  refine m_inH (cc := cL_go) [.ref (ad 0), .int p0, .int p1, .int p2, .ref oa] "RumourCustomsLaw" rfl (by decide) (Nat.le_of_ble_eq_true rfl) ?_
  intro pg e s m args below meth cd ls hx hb hml hown hts hr hlocks htab hPr hl
  obtain ⟨hG, hP, hA⟩ := hPr
  have hl : lv_has ls 6 [(0, .ref (ad 0)), (1, .int p0), (2, .int p1), (3, .int p2), (4, .ref oa)] := hl
  have hSo : va_S (nZ (Zo Z oa)) s.heap s.heap [] := va_S.rf
  have hGo : GF D ct (Zo Z oa) dc s s.heap := hG.sub (fun _ z => Or.inl z) (fun q z => z.elim (hG.1 q) (fun e => by rw [e]; exact hA.lt))
  refine lv_aload hx hb dL_go_0 (lv_at hl 4 rfl) ?_
  refine lv_iconst (v := 0) hx hb dL_go_2 (by decide) ?_
  refine lv_aload_n hx hb dL_go_3 rfl (lv_at hl 0 rfl) ?_
  refine lv_iload_n hx hb dL_go_4 rfl (lv_at hl 1 rfl) ?_
  refine lv_iload_n hx hb dL_go_5 rfl (lv_at hl 2 rfl) ?_
  refine lv_iload_n hx hb dL_go_6 rfl (lv_at hl 3 rfl) ?_
  refine c_xs1 (vx_runV (As := [.int p0, .int p1, .int p2]) (rest := [.int 0, .ref oa]) ⟨hx, hb, hml, hown, hts⟩ (c_X5_go l D ct (Zo Z oa) dc σ ad hst p0 p1 p2 hI) (cwV 3 hts (GG w_704 w_705 w_706 w_59 w_707) rfl rfl rfl (by decide) ⟨Nat.le_of_ble_eq_true rfl, Nat.le_of_ble_eq_true rfl⟩) ⟨(blindF fun _ _ _ _ h => h), Ob.recv (hG.2.1).1 hP.o0 rfl, fun U hU hW => ⟨rfl, hGo.up hW hSo hU, by rw [hU]; exact hP⟩⟩ rfl rfl hl.1 rfl (lv_room (Nat.le_of_ble_eq_true rfl)) dL_go_7 ⟨Nat.le_of_ble_eq_true rfl, Nat.le_of_ble_eq_true rfl⟩) hSo (fun E ce q9 H1 locs1 hp hk hS1 hce hcv hcl => ?_) (fun x H1 locs1 hR hzz hS1 => ?_)
  · -- thrown
    have hS1 : va_S (nZ Z) s.heap H1 locs1 := vaS_weak hS1 (fun _ z => Or.inl z)
    have hP1 := hP.ka hk
    have hA1 : Ar (ct 4) oa (rJ 1 g) H1 := hA.kept (hk.2 _ hA.lt)
    rcases exn3 hp with ⟨hn, rfl⟩ | ⟨hn, rfl⟩ | ⟨hn, rfl⟩
    · -- java/lang/IndexOutOfBoundsException
      refine vx_catch (name := "java/lang/IndexOutOfBoundsException") hown [] ⟨0, 12, 15, 19⟩ [⟨0, 12, 19, 21⟩, ⟨0, 12, 23, 13⟩] htab (fun z hz => nomatch hz) rfl (by decide) (hts _ w_361) (va_Nw.use rfl (hG.2.1.2.2.2.2.1 _ (by simp))) hce hcv hcl ?_
      refine lv_astore (lv' := [(5, .ref q9), (0, .ref (ad 0)), (1, .int p0), (2, .int p1), (3, .int p2), (4, .ref oa)]) hx hb dL_go_15 hl (by decide) rfl (fun ls hl => ?_)
      refine lv_iconst (v := 1) hx hb dL_go_17 (by decide) ?_
      exact W.iret (v := 1) hx hb hr (fun t ht hW => ⟨_, rfl, by rw [ht]; exact ⟨by rw [hn]; rfl, σ, ad, g, by rw [show (o_go σ p0 p1 p2).2.2 = σ from op_st_go hn]; exact SC.rf, rfl, hP1, hA1, fun z => absurd (hn.symm.trans z) (by decide)⟩, hS1.F ht⟩) (fun z h => hS1.2.2 z h) dL_go_18
    · -- java/lang/IllegalArgumentException
      refine vx_catch (name := "java/lang/IllegalArgumentException") hown [⟨0, 12, 15, 19⟩] ⟨0, 12, 19, 21⟩ [⟨0, 12, 23, 13⟩] htab (fun z hz => by rw [List.mem_singleton.mp hz]; exact Or.inr ⟨by decide, "java/lang/IndexOutOfBoundsException", hts _ w_361, hG.2.1.2.2.2.2.2.2.1 _ (by simp) _ (by simp) (by decide)⟩) rfl (by decide) (hts _ w_362) (va_Nw.use rfl (hG.2.1.2.2.2.2.1 _ (by simp))) hce hcv hcl ?_
      refine lv_astore (lv' := [(5, .ref q9), (0, .ref (ad 0)), (1, .int p0), (2, .int p1), (3, .int p2), (4, .ref oa)]) hx hb dL_go_19 hl (by decide) rfl (fun ls hl => ?_)
      refine lv_iconst (v := 2) hx hb dL_go_21 (by decide) ?_
      exact W.iret (v := 2) hx hb hr (fun t ht hW => ⟨_, rfl, by rw [ht]; exact ⟨by rw [hn]; rfl, σ, ad, g, by rw [show (o_go σ p0 p1 p2).2.2 = σ from op_st_go hn]; exact SC.rf, rfl, hP1, hA1, fun z => absurd (hn.symm.trans z) (by decide)⟩, hS1.F ht⟩) (fun z h => hS1.2.2 z h) dL_go_22
    · -- java/lang/IllegalStateException
      refine vx_catch (name := "java/lang/IllegalStateException") hown [⟨0, 12, 15, 19⟩, ⟨0, 12, 19, 21⟩] ⟨0, 12, 23, 13⟩ [] htab (fun z hz => by rcases List.mem_cons.mp hz with hz | hz; rw [hz]; exact Or.inr ⟨by decide, "java/lang/IndexOutOfBoundsException", hts _ w_361, hG.2.1.2.2.2.2.2.2.1 _ (by simp) _ (by simp) (by decide)⟩; rw [List.mem_singleton.mp hz]; exact Or.inr ⟨by decide, "java/lang/IllegalArgumentException", hts _ w_362, hG.2.1.2.2.2.2.2.2.1 _ (by simp) _ (by simp) (by decide)⟩) rfl (by decide) (hts _ w_285) (va_Nw.use rfl (hG.2.1.2.2.2.2.1 _ (by simp))) hce hcv hcl ?_
      refine lv_astore (lv' := [(5, .ref q9), (0, .ref (ad 0)), (1, .int p0), (2, .int p1), (3, .int p2), (4, .ref oa)]) hx hb dL_go_23 hl (by decide) rfl (fun ls hl => ?_)
      refine lv_iconst (v := 3) hx hb dL_go_25 (by decide) ?_
      exact W.iret (v := 3) hx hb hr (fun t ht hW => ⟨_, rfl, by rw [ht]; exact ⟨by rw [hn]; rfl, σ, ad, g, by rw [show (o_go σ p0 p1 p2).2.2 = σ from op_st_go hn]; exact SC.rf, rfl, hP1, hA1, fun z => absurd (hn.symm.trans z) (by decide)⟩, hS1.F ht⟩) (fun z h => hS1.2.2 z h) dL_go_26
  · -- returned
    obtain ⟨hn, rfl, σ1, ad1, hsc, had, hP1⟩ := hR
    have hA1 : Ar (ct 4) oa (rJ 1 g) H1 := hA.kept (hS1.2.1 _ hA.lt (fun z => z (Or.inr rfl)))
    have hS1 : va_S (nZ Z) s.heap H1 locs1 := vaS_weak hS1 (fun _ z => Or.inl z)
    refine lv_i2l (v := ((o_go σ p0 p1 p2).2.1 : Int32).toInt64) hx hb dL_go_10 rfl ?_
    refine k_last hx hb hG.2.1.1 hS1 hzo hA1 (vp_in_nI (by decide : 0 < 1) (by decide)) dL_go_11 (fun H2 locs2 hA2 hz2 hq2 hS2 => ?_)
    refine lv_goto (tgt := 27) hx hb dL_go_12 (by decide) ?_
    refine lv_iconst (v := 0) hx hb dL_go_27 (by decide) ?_
    exact W.iret (v := 0) hx hb hr (fun t ht hW => ⟨_, rfl, by rw [ht]; exact ⟨by rw [hn]; rfl, σ1, ad1, _, hsc, had, hP1.keptO hq2, hA2, fun _ => pk_uLs⟩, hS2.F ht⟩) (fun z h => hS2.2.2 z h) dL_go_28

theorem op_st_carrier {σ : Stt} {p0 p1 : Int32} {k : Nat} (h : (o_carrier σ p0 p1).1 = k + 1) : (o_carrier σ p0 p1).2.2 = σ := by
  unfold o_carrier at h ⊢
  repeat' split
  all_goals first | rfl | (exfalso; simp_all; done)
/-! law.carrier -/
set_option maxHeartbeats 4000000 in
set_option maxRecDepth 100000 in
theorem c_L_carrier (l : Launch) (D : va_G) (ct : Nat → ClassId) (Z : Nat → Prop) (dc : Nat) (σ : Stt) (ad : Nat → Nat) (hst : l.stackTraces = false) (oa : Nat) (g : Nat → Int64) (p0 p1 : Int32) (hI : Inv σ) (hzo : ¬ Z oa) : Met l yL_carrier (.codeWith yL_carrier cL_carrier 5 (some .int) [(0, 10, 13, 19)] :: GW) ({ frames := 8, cells := 2, slots := 12, locals := 132 } : Room) (va_Pc [.ref (ad 0), .int p0, .int p1, .ref oa] (fun U => GF D ct Z dc U U.heap ∧ Pic D ct (Zo Z oa) dc σ ad U.heap ∧ Ar (ct 4) oa (rJ 1 g) U.heap)) (qS1 Z (fun x h => x = .int (nI (o_carrier σ p0 p1).1) ∧ ∃ (σ1 : Stt) (ad1 : Nat → Nat) (g1 : Nat → Int64), SC (o_carrier σ p0 p1).2.2 σ1 ∧ ad1 0 = ad 0 ∧ Pic D ct (Zo Z oa) dc σ1 ad1 h ∧ Ar (ct 4) oa (rJ 1 g1) h ∧ ((o_carrier σ p0 p1).1 = 0 → g1 0 = (o_carrier σ p0 p1).2.1.toInt64))) 2 12 (nZ Z) := by
  refine m_inH (cc := cL_carrier) [.ref (ad 0), .int p0, .int p1, .ref oa] "RumourCustomsLaw" rfl (by decide) (Nat.le_of_ble_eq_true rfl) ?_
  intro pg e s m args below meth cd ls hx hb hml hown hts hr hlocks htab hPr hl
  obtain ⟨hG, hP, hA⟩ := hPr
  have hl : lv_has ls 5 [(0, .ref (ad 0)), (1, .int p0), (2, .int p1), (3, .ref oa)] := hl
  have hSo : va_S (nZ (Zo Z oa)) s.heap s.heap [] := va_S.rf
  have hGo : GF D ct (Zo Z oa) dc s s.heap := hG.sub (fun _ z => Or.inl z) (fun q z => z.elim (hG.1 q) (fun e => by rw [e]; exact hA.lt))
  refine lv_aload_n hx hb dL_carrier_0 rfl (lv_at hl 3 rfl) ?_
  refine lv_iconst (v := 0) hx hb dL_carrier_1 (by decide) ?_
  refine lv_aload_n hx hb dL_carrier_2 rfl (lv_at hl 0 rfl) ?_
  refine lv_iload_n hx hb dL_carrier_3 rfl (lv_at hl 1 rfl) ?_
  refine lv_iload_n hx hb dL_carrier_4 rfl (lv_at hl 2 rfl) ?_
  refine c_xs1 (vx_runV (As := [.int p0, .int p1]) (rest := [.int 0, .ref oa]) ⟨hx, hb, hml, hown, hts⟩ (c_X5_carrier l D ct (Zo Z oa) dc σ ad hst p0 p1 hI) (cwV 2 hts (GG w_768 w_769 w_770 w_59 w_771) rfl rfl rfl (by decide) ⟨Nat.le_of_ble_eq_true rfl, Nat.le_of_ble_eq_true rfl⟩) ⟨(blindF fun _ _ _ _ h => h), Ob.recv (hG.2.1).1 hP.o0 rfl, fun U hU hW => ⟨rfl, hGo.up hW hSo hU, by rw [hU]; exact hP⟩⟩ rfl rfl hl.1 rfl (lv_room (Nat.le_of_ble_eq_true rfl)) dL_carrier_5 ⟨Nat.le_of_ble_eq_true rfl, Nat.le_of_ble_eq_true rfl⟩) hSo (fun E ce q9 H1 locs1 hp hk hS1 hce hcv hcl => ?_) (fun x H1 locs1 hR hzz hS1 => ?_)
  · -- thrown
    have hS1 : va_S (nZ Z) s.heap H1 locs1 := vaS_weak hS1 (fun _ z => Or.inl z)
    have hP1 := hP.ka hk
    have hA1 : Ar (ct 4) oa (rJ 1 g) H1 := hA.kept (hk.2 _ hA.lt)
    obtain ⟨hn, rfl⟩ := exn1 hp
    refine vx_catch (name := "java/lang/IndexOutOfBoundsException") hown [] ⟨0, 10, 13, 19⟩ [] htab (fun z hz => nomatch hz) rfl (by decide) (hts _ w_361) (va_Nw.use rfl (hG.2.1.2.2.2.2.1 _ (by simp))) hce hcv hcl ?_
    refine lv_astore (lv' := [(4, .ref q9), (0, .ref (ad 0)), (1, .int p0), (2, .int p1), (3, .ref oa)]) hx hb dL_carrier_13 hl (by decide) rfl (fun ls hl => ?_)
    refine lv_iconst (v := 1) hx hb dL_carrier_15 (by decide) ?_
    exact W.iret (v := 1) hx hb hr (fun t ht hW => ⟨_, rfl, by rw [ht]; exact ⟨by rw [hn]; rfl, σ, ad, g, by rw [show (o_carrier σ p0 p1).2.2 = σ from op_st_carrier hn]; exact SC.rf, rfl, hP1, hA1, fun z => absurd (hn.symm.trans z) (by decide)⟩, hS1.F ht⟩) (fun z h => hS1.2.2 z h) dL_carrier_16
  · -- returned
    obtain ⟨hn, rfl, σ1, ad1, hsc, had, hP1⟩ := hR
    have hA1 : Ar (ct 4) oa (rJ 1 g) H1 := hA.kept (hS1.2.1 _ hA.lt (fun z => z (Or.inr rfl)))
    have hS1 : va_S (nZ Z) s.heap H1 locs1 := vaS_weak hS1 (fun _ z => Or.inl z)
    refine lv_i2l (v := ((o_carrier σ p0 p1).2.1 : Int32).toInt64) hx hb dL_carrier_8 rfl ?_
    refine k_last hx hb hG.2.1.1 hS1 hzo hA1 (vp_in_nI (by decide : 0 < 1) (by decide)) dL_carrier_9 (fun H2 locs2 hA2 hz2 hq2 hS2 => ?_)
    refine lv_goto (tgt := 17) hx hb dL_carrier_10 (by decide) ?_
    refine lv_iconst (v := 0) hx hb dL_carrier_17 (by decide) ?_
    exact W.iret (v := 0) hx hb hr (fun t ht hW => ⟨_, rfl, by rw [ht]; exact ⟨by rw [hn]; rfl, σ1, ad1, _, hsc, had, hP1.keptO hq2, hA2, fun _ => pk_uLs⟩, hS2.F ht⟩) (fun z h => hS2.2.2 z h) dL_carrier_18

theorem op_st_wouldPay {σ : Stt} {p0 p1 p2 : Int32} {k : Nat} (h : (o_wouldPay σ p0 p1 p2).1 = k + 1) : (o_wouldPay σ p0 p1 p2).2.2 = σ := by
  unfold o_wouldPay at h ⊢
  repeat' split
  all_goals first | rfl | (exfalso; simp_all; done)
/-! law.wouldPay -/
set_option maxHeartbeats 4000000 in
set_option maxRecDepth 100000 in
theorem c_L_wouldPay (l : Launch) (D : va_G) (ct : Nat → ClassId) (Z : Nat → Prop) (dc : Nat) (σ : Stt) (ad : Nat → Nat) (hst : l.stackTraces = false) (oa : Nat) (g : Nat → Int64) (p0 p1 p2 : Int32) (hI : Inv σ) (hzo : ¬ Z oa) : Met l yL_wouldPay (.codeWith yL_wouldPay cL_wouldPay 6 (some .int) [(0, 12, 15, 19), (0, 12, 19, 21), (0, 12, 23, 13)] :: GW) ({ frames := 8, cells := 4, slots := 24, locals := 139 } : Room) (va_Pc [.ref (ad 0), .int p0, .int p1, .int p2, .ref oa] (fun U => GF D ct Z dc U U.heap ∧ Pic D ct (Zo Z oa) dc σ ad U.heap ∧ Ar (ct 4) oa (rJ 1 g) U.heap)) (qS1 Z (fun x h => x = .int (nI (o_wouldPay σ p0 p1 p2).1) ∧ ∃ (σ1 : Stt) (ad1 : Nat → Nat) (g1 : Nat → Int64), SC (o_wouldPay σ p0 p1 p2).2.2 σ1 ∧ ad1 0 = ad 0 ∧ Pic D ct (Zo Z oa) dc σ1 ad1 h ∧ Ar (ct 4) oa (rJ 1 g1) h ∧ ((o_wouldPay σ p0 p1 p2).1 = 0 → g1 0 = (o_wouldPay σ p0 p1 p2).2.1.toInt64))) 4 24 (nZ Z) := by
  refine m_inH (cc := cL_wouldPay) [.ref (ad 0), .int p0, .int p1, .int p2, .ref oa] "RumourCustomsLaw" rfl (by decide) (Nat.le_of_ble_eq_true rfl) ?_
  intro pg e s m args below meth cd ls hx hb hml hown hts hr hlocks htab hPr hl
  obtain ⟨hG, hP, hA⟩ := hPr
  have hl : lv_has ls 6 [(0, .ref (ad 0)), (1, .int p0), (2, .int p1), (3, .int p2), (4, .ref oa)] := hl
  have hSo : va_S (nZ (Zo Z oa)) s.heap s.heap [] := va_S.rf
  have hGo : GF D ct (Zo Z oa) dc s s.heap := hG.sub (fun _ z => Or.inl z) (fun q z => z.elim (hG.1 q) (fun e => by rw [e]; exact hA.lt))
  refine lv_aload hx hb dL_wouldPay_0 (lv_at hl 4 rfl) ?_
  refine lv_iconst (v := 0) hx hb dL_wouldPay_2 (by decide) ?_
  refine lv_aload_n hx hb dL_wouldPay_3 rfl (lv_at hl 0 rfl) ?_
  refine lv_iload_n hx hb dL_wouldPay_4 rfl (lv_at hl 1 rfl) ?_
  refine lv_iload_n hx hb dL_wouldPay_5 rfl (lv_at hl 2 rfl) ?_
  refine lv_iload_n hx hb dL_wouldPay_6 rfl (lv_at hl 3 rfl) ?_
  refine c_xs1 (vx_runV (As := [.int p0, .int p1, .int p2]) (rest := [.int 0, .ref oa]) ⟨hx, hb, hml, hown, hts⟩ (c_X5_wouldPay l D ct (Zo Z oa) dc σ ad hst p0 p1 p2 hI) (cwV 3 hts (GG w_775 w_776 w_777 w_59 w_778) rfl rfl rfl (by decide) ⟨Nat.le_of_ble_eq_true rfl, Nat.le_of_ble_eq_true rfl⟩) ⟨(blindF fun _ _ _ _ h => h), Ob.recv (hG.2.1).1 hP.o0 rfl, fun U hU hW => ⟨rfl, hGo.up hW hSo hU, by rw [hU]; exact hP⟩⟩ rfl rfl hl.1 rfl (lv_room (Nat.le_of_ble_eq_true rfl)) dL_wouldPay_7 ⟨Nat.le_of_ble_eq_true rfl, Nat.le_of_ble_eq_true rfl⟩) hSo (fun E ce q9 H1 locs1 hp hk hS1 hce hcv hcl => ?_) (fun x H1 locs1 hR hzz hS1 => ?_)
  · -- thrown
    have hS1 : va_S (nZ Z) s.heap H1 locs1 := vaS_weak hS1 (fun _ z => Or.inl z)
    have hP1 := hP.ka hk
    have hA1 : Ar (ct 4) oa (rJ 1 g) H1 := hA.kept (hk.2 _ hA.lt)
    rcases exn3 hp with ⟨hn, rfl⟩ | ⟨hn, rfl⟩ | ⟨hn, rfl⟩
    · -- java/lang/IndexOutOfBoundsException
      refine vx_catch (name := "java/lang/IndexOutOfBoundsException") hown [] ⟨0, 12, 15, 19⟩ [⟨0, 12, 19, 21⟩, ⟨0, 12, 23, 13⟩] htab (fun z hz => nomatch hz) rfl (by decide) (hts _ w_361) (va_Nw.use rfl (hG.2.1.2.2.2.2.1 _ (by simp))) hce hcv hcl ?_
      refine lv_astore (lv' := [(5, .ref q9), (0, .ref (ad 0)), (1, .int p0), (2, .int p1), (3, .int p2), (4, .ref oa)]) hx hb dL_wouldPay_15 hl (by decide) rfl (fun ls hl => ?_)
      refine lv_iconst (v := 1) hx hb dL_wouldPay_17 (by decide) ?_
      exact W.iret (v := 1) hx hb hr (fun t ht hW => ⟨_, rfl, by rw [ht]; exact ⟨by rw [hn]; rfl, σ, ad, g, by rw [show (o_wouldPay σ p0 p1 p2).2.2 = σ from op_st_wouldPay hn]; exact SC.rf, rfl, hP1, hA1, fun z => absurd (hn.symm.trans z) (by decide)⟩, hS1.F ht⟩) (fun z h => hS1.2.2 z h) dL_wouldPay_18
    · -- java/lang/IllegalArgumentException
      refine vx_catch (name := "java/lang/IllegalArgumentException") hown [⟨0, 12, 15, 19⟩] ⟨0, 12, 19, 21⟩ [⟨0, 12, 23, 13⟩] htab (fun z hz => by rw [List.mem_singleton.mp hz]; exact Or.inr ⟨by decide, "java/lang/IndexOutOfBoundsException", hts _ w_361, hG.2.1.2.2.2.2.2.2.1 _ (by simp) _ (by simp) (by decide)⟩) rfl (by decide) (hts _ w_362) (va_Nw.use rfl (hG.2.1.2.2.2.2.1 _ (by simp))) hce hcv hcl ?_
      refine lv_astore (lv' := [(5, .ref q9), (0, .ref (ad 0)), (1, .int p0), (2, .int p1), (3, .int p2), (4, .ref oa)]) hx hb dL_wouldPay_19 hl (by decide) rfl (fun ls hl => ?_)
      refine lv_iconst (v := 2) hx hb dL_wouldPay_21 (by decide) ?_
      exact W.iret (v := 2) hx hb hr (fun t ht hW => ⟨_, rfl, by rw [ht]; exact ⟨by rw [hn]; rfl, σ, ad, g, by rw [show (o_wouldPay σ p0 p1 p2).2.2 = σ from op_st_wouldPay hn]; exact SC.rf, rfl, hP1, hA1, fun z => absurd (hn.symm.trans z) (by decide)⟩, hS1.F ht⟩) (fun z h => hS1.2.2 z h) dL_wouldPay_22
    · -- java/lang/IllegalStateException
      refine vx_catch (name := "java/lang/IllegalStateException") hown [⟨0, 12, 15, 19⟩, ⟨0, 12, 19, 21⟩] ⟨0, 12, 23, 13⟩ [] htab (fun z hz => by rcases List.mem_cons.mp hz with hz | hz; rw [hz]; exact Or.inr ⟨by decide, "java/lang/IndexOutOfBoundsException", hts _ w_361, hG.2.1.2.2.2.2.2.2.1 _ (by simp) _ (by simp) (by decide)⟩; rw [List.mem_singleton.mp hz]; exact Or.inr ⟨by decide, "java/lang/IllegalArgumentException", hts _ w_362, hG.2.1.2.2.2.2.2.2.1 _ (by simp) _ (by simp) (by decide)⟩) rfl (by decide) (hts _ w_285) (va_Nw.use rfl (hG.2.1.2.2.2.2.1 _ (by simp))) hce hcv hcl ?_
      refine lv_astore (lv' := [(5, .ref q9), (0, .ref (ad 0)), (1, .int p0), (2, .int p1), (3, .int p2), (4, .ref oa)]) hx hb dL_wouldPay_23 hl (by decide) rfl (fun ls hl => ?_)
      refine lv_iconst (v := 3) hx hb dL_wouldPay_25 (by decide) ?_
      exact W.iret (v := 3) hx hb hr (fun t ht hW => ⟨_, rfl, by rw [ht]; exact ⟨by rw [hn]; rfl, σ, ad, g, by rw [show (o_wouldPay σ p0 p1 p2).2.2 = σ from op_st_wouldPay hn]; exact SC.rf, rfl, hP1, hA1, fun z => absurd (hn.symm.trans z) (by decide)⟩, hS1.F ht⟩) (fun z h => hS1.2.2 z h) dL_wouldPay_26
  · -- returned
    obtain ⟨hn, rfl, σ1, ad1, hsc, had, hP1⟩ := hR
    have hA1 : Ar (ct 4) oa (rJ 1 g) H1 := hA.kept (hS1.2.1 _ hA.lt (fun z => z (Or.inr rfl)))
    have hS1 : va_S (nZ Z) s.heap H1 locs1 := vaS_weak hS1 (fun _ z => Or.inl z)
    refine lv_i2l (v := ((o_wouldPay σ p0 p1 p2).2.1 : Int32).toInt64) hx hb dL_wouldPay_10 rfl ?_
    refine k_last hx hb hG.2.1.1 hS1 hzo hA1 (vp_in_nI (by decide : 0 < 1) (by decide)) dL_wouldPay_11 (fun H2 locs2 hA2 hz2 hq2 hS2 => ?_)
    refine lv_goto (tgt := 27) hx hb dL_wouldPay_12 (by decide) ?_
    refine lv_iconst (v := 0) hx hb dL_wouldPay_27 (by decide) ?_
    exact W.iret (v := 0) hx hb hr (fun t ht hW => ⟨_, rfl, by rw [ht]; exact ⟨by rw [hn]; rfl, σ1, ad1, _, hsc, had, hP1.keptO hq2, hA2, fun _ => pk_uLs⟩, hS2.F ht⟩) (fun z h => hS2.2.2 z h) dL_wouldPay_28

theorem op_st_pass {σ : Stt} {p0 : Int32} {k : Nat} (h : (o_pass σ p0).1 = k + 1) : (o_pass σ p0).2.2 = σ := by
  unfold o_pass at h ⊢
  repeat' split
  all_goals first | rfl | (exfalso; simp_all; done)
/-! law.pass -/
set_option maxHeartbeats 4000000 in
set_option maxRecDepth 100000 in
theorem c_L_pass (l : Launch) (D : va_G) (ct : Nat → ClassId) (Z : Nat → Prop) (dc : Nat) (σ : Stt) (ad : Nat → Nat) (hst : l.stackTraces = false) (oa : Nat) (g : Nat → Int64) (p0 : Int32) (hI : Inv σ) (hzo : ¬ Z oa) : Met l yL_pass (.codeWith yL_pass cL_pass 4 (some .int) [(0, 9, 12, 21)] :: GW) ({ frames := 8, cells := 1, slots := 6, locals := 127 } : Room) (va_Pc [.ref (ad 0), .int p0, .ref oa] (fun U => GF D ct Z dc U U.heap ∧ Pic D ct (Zo Z oa) dc σ ad U.heap ∧ Ar (ct 4) oa (rJ 1 g) U.heap)) (qS1 Z (fun x h => x = .int (nI (o_pass σ p0).1) ∧ ∃ (σ1 : Stt) (ad1 : Nat → Nat) (g1 : Nat → Int64), SC (o_pass σ p0).2.2 σ1 ∧ ad1 0 = ad 0 ∧ Pic D ct (Zo Z oa) dc σ1 ad1 h ∧ Ar (ct 4) oa (rJ 1 g1) h ∧ ((o_pass σ p0).1 = 0 → g1 0 = (o_pass σ p0).2.1.toInt64))) 1 6 (nZ Z) := by
  refine m_inH (cc := cL_pass) [.ref (ad 0), .int p0, .ref oa] "RumourCustomsLaw" rfl (by decide) (Nat.le_of_ble_eq_true rfl) ?_
  intro pg e s m args below meth cd ls hx hb hml hown hts hr hlocks htab hPr hl
  obtain ⟨hG, hP, hA⟩ := hPr
  have hl : lv_has ls 4 [(0, .ref (ad 0)), (1, .int p0), (2, .ref oa)] := hl
  have hSo : va_S (nZ (Zo Z oa)) s.heap s.heap [] := va_S.rf
  have hGo : GF D ct (Zo Z oa) dc s s.heap := hG.sub (fun _ z => Or.inl z) (fun q z => z.elim (hG.1 q) (fun e => by rw [e]; exact hA.lt))
  refine lv_aload_n hx hb dL_pass_0 rfl (lv_at hl 2 rfl) ?_
  refine lv_iconst (v := 0) hx hb dL_pass_1 (by decide) ?_
  refine lv_aload_n hx hb dL_pass_2 rfl (lv_at hl 0 rfl) ?_
  refine lv_iload_n hx hb dL_pass_3 rfl (lv_at hl 1 rfl) ?_
  refine c_xs1 (vx_runV (As := [.int p0]) (rest := [.int 0, .ref oa]) ⟨hx, hb, hml, hown, hts⟩ (c_X5_pass l D ct (Zo Z oa) dc σ ad hst p0 hI) (cwV 1 hts (GG w_782 w_783 w_784 w_59 w_785) rfl rfl rfl (by decide) ⟨Nat.le_of_ble_eq_true rfl, Nat.le_of_ble_eq_true rfl⟩) ⟨(blindF fun _ _ _ _ h => h), Ob.recv (hG.2.1).1 hP.o0 rfl, fun U hU hW => ⟨rfl, hGo.up hW hSo hU, by rw [hU]; exact hP⟩⟩ rfl rfl hl.1 rfl (lv_room (Nat.le_of_ble_eq_true rfl)) dL_pass_4 ⟨Nat.le_of_ble_eq_true rfl, Nat.le_of_ble_eq_true rfl⟩) hSo (fun E ce q9 H1 locs1 hp hk hS1 hce hcv hcl => ?_) (fun x H1 locs1 hR hzz hS1 => ?_)
  · -- thrown
    have hS1 : va_S (nZ Z) s.heap H1 locs1 := vaS_weak hS1 (fun _ z => Or.inl z)
    have hP1 := hP.ka hk
    have hA1 : Ar (ct 4) oa (rJ 1 g) H1 := hA.kept (hk.2 _ hA.lt)
    obtain ⟨hn, rfl⟩ := exn1 hp
    refine vx_catch (name := "java/lang/IllegalArgumentException") hown [] ⟨0, 9, 12, 21⟩ [] htab (fun z hz => nomatch hz) rfl (by decide) (hts _ w_362) (va_Nw.use rfl (hG.2.1.2.2.2.2.1 _ (by simp))) hce hcv hcl ?_
    refine lv_astore_n (lv' := [(3, .ref q9), (0, .ref (ad 0)), (1, .int p0), (2, .ref oa)]) hx hb dL_pass_12 rfl hl (by decide) rfl (fun ls hl => ?_)
    refine lv_iconst (v := 1) hx hb dL_pass_13 (by decide) ?_
    exact W.iret (v := 1) hx hb hr (fun t ht hW => ⟨_, rfl, by rw [ht]; exact ⟨by rw [hn]; rfl, σ, ad, g, by rw [show (o_pass σ p0).2.2 = σ from op_st_pass hn]; exact SC.rf, rfl, hP1, hA1, fun z => absurd (hn.symm.trans z) (by decide)⟩, hS1.F ht⟩) (fun z h => hS1.2.2 z h) dL_pass_14
  · -- returned
    obtain ⟨hn, rfl, σ1, ad1, hsc, had, hP1⟩ := hR
    have hA1 : Ar (ct 4) oa (rJ 1 g) H1 := hA.kept (hS1.2.1 _ hA.lt (fun z => z (Or.inr rfl)))
    have hS1 : va_S (nZ Z) s.heap H1 locs1 := vaS_weak hS1 (fun _ z => Or.inl z)
    refine lv_i2l (v := ((o_pass σ p0).2.1 : Int32).toInt64) hx hb dL_pass_7 rfl ?_
    refine k_last hx hb hG.2.1.1 hS1 hzo hA1 (vp_in_nI (by decide : 0 < 1) (by decide)) dL_pass_8 (fun H2 locs2 hA2 hz2 hq2 hS2 => ?_)
    refine lv_goto (tgt := 15) hx hb dL_pass_9 (by decide) ?_
    refine lv_iconst (v := 0) hx hb dL_pass_15 (by decide) ?_
    exact W.iret (v := 0) hx hb hr (fun t ht hW => ⟨_, rfl, by rw [ht]; exact ⟨by rw [hn]; rfl, σ1, ad1, _, hsc, had, hP1.keptO hq2, hA2, fun _ => pk_uLs⟩, hS2.F ht⟩) (fun z h => hS2.2.2 z h) dL_pass_16

theorem op_st_count {σ : Stt} {p0 : Int32} {k : Nat} (h : (o_count σ p0).1 = k + 1) : (o_count σ p0).2.2 = σ := by
  unfold o_count at h ⊢
  repeat' split
  all_goals first | rfl | (exfalso; simp_all; done)
/-! law.count -/
set_option maxHeartbeats 4000000 in
set_option maxRecDepth 100000 in
theorem c_L_count (l : Launch) (D : va_G) (ct : Nat → ClassId) (Z : Nat → Prop) (dc : Nat) (σ : Stt) (ad : Nat → Nat) (hst : l.stackTraces = false) (oa : Nat) (g : Nat → Int64) (p0 : Int32) (hI : Inv σ) (hzo : ¬ Z oa) : Met l yL_count (.codeWith yL_count cL_count 4 (some .int) [(0, 9, 12, 19)] :: GW) ({ frames := 8, cells := 1, slots := 6, locals := 128 } : Room) (va_Pc [.ref (ad 0), .int p0, .ref oa] (fun U => GF D ct Z dc U U.heap ∧ Pic D ct (Zo Z oa) dc σ ad U.heap ∧ Ar (ct 4) oa (rJ 1 g) U.heap)) (qS1 Z (fun x h => x = .int (nI (o_count σ p0).1) ∧ ∃ (σ1 : Stt) (ad1 : Nat → Nat) (g1 : Nat → Int64), SC (o_count σ p0).2.2 σ1 ∧ ad1 0 = ad 0 ∧ Pic D ct (Zo Z oa) dc σ1 ad1 h ∧ Ar (ct 4) oa (rJ 1 g1) h ∧ ((o_count σ p0).1 = 0 → g1 0 = (o_count σ p0).2.1.toInt64))) 1 6 (nZ Z) := by
  refine m_inH (cc := cL_count) [.ref (ad 0), .int p0, .ref oa] "RumourCustomsLaw" rfl (by decide) (Nat.le_of_ble_eq_true rfl) ?_
  intro pg e s m args below meth cd ls hx hb hml hown hts hr hlocks htab hPr hl
  obtain ⟨hG, hP, hA⟩ := hPr
  have hl : lv_has ls 4 [(0, .ref (ad 0)), (1, .int p0), (2, .ref oa)] := hl
  have hSo : va_S (nZ (Zo Z oa)) s.heap s.heap [] := va_S.rf
  have hGo : GF D ct (Zo Z oa) dc s s.heap := hG.sub (fun _ z => Or.inl z) (fun q z => z.elim (hG.1 q) (fun e => by rw [e]; exact hA.lt))
  refine lv_aload_n hx hb dL_count_0 rfl (lv_at hl 2 rfl) ?_
  refine lv_iconst (v := 0) hx hb dL_count_1 (by decide) ?_
  refine lv_aload_n hx hb dL_count_2 rfl (lv_at hl 0 rfl) ?_
  refine lv_iload_n hx hb dL_count_3 rfl (lv_at hl 1 rfl) ?_
  refine c_xs1 (vx_runV (As := [.int p0]) (rest := [.int 0, .ref oa]) ⟨hx, hb, hml, hown, hts⟩ (c_X5_count l D ct (Zo Z oa) dc σ ad hst p0 hI) (cwV 1 hts (GG w_795 w_796 w_797 w_59 w_798) rfl rfl rfl (by decide) ⟨Nat.le_of_ble_eq_true rfl, Nat.le_of_ble_eq_true rfl⟩) ⟨(blindF fun _ _ _ _ h => h), Ob.recv (hG.2.1).1 hP.o0 rfl, fun U hU hW => ⟨rfl, hGo.up hW hSo hU, by rw [hU]; exact hP⟩⟩ rfl rfl hl.1 rfl (lv_room (Nat.le_of_ble_eq_true rfl)) dL_count_4 ⟨Nat.le_of_ble_eq_true rfl, Nat.le_of_ble_eq_true rfl⟩) hSo (fun E ce q9 H1 locs1 hp hk hS1 hce hcv hcl => ?_) (fun x H1 locs1 hR hzz hS1 => ?_)
  · -- thrown
    have hS1 : va_S (nZ Z) s.heap H1 locs1 := vaS_weak hS1 (fun _ z => Or.inl z)
    have hP1 := hP.ka hk
    have hA1 : Ar (ct 4) oa (rJ 1 g) H1 := hA.kept (hk.2 _ hA.lt)
    obtain ⟨hn, rfl⟩ := exn1 hp
    refine vx_catch (name := "java/lang/IndexOutOfBoundsException") hown [] ⟨0, 9, 12, 19⟩ [] htab (fun z hz => nomatch hz) rfl (by decide) (hts _ w_361) (va_Nw.use rfl (hG.2.1.2.2.2.2.1 _ (by simp))) hce hcv hcl ?_
    refine lv_astore_n (lv' := [(3, .ref q9), (0, .ref (ad 0)), (1, .int p0), (2, .ref oa)]) hx hb dL_count_12 rfl hl (by decide) rfl (fun ls hl => ?_)
    refine lv_iconst (v := 1) hx hb dL_count_13 (by decide) ?_
    exact W.iret (v := 1) hx hb hr (fun t ht hW => ⟨_, rfl, by rw [ht]; exact ⟨by rw [hn]; rfl, σ, ad, g, by rw [show (o_count σ p0).2.2 = σ from op_st_count hn]; exact SC.rf, rfl, hP1, hA1, fun z => absurd (hn.symm.trans z) (by decide)⟩, hS1.F ht⟩) (fun z h => hS1.2.2 z h) dL_count_14
  · -- returned
    obtain ⟨hn, rfl, σ1, ad1, hsc, had, hP1⟩ := hR
    have hA1 : Ar (ct 4) oa (rJ 1 g) H1 := hA.kept (hS1.2.1 _ hA.lt (fun z => z (Or.inr rfl)))
    have hS1 : va_S (nZ Z) s.heap H1 locs1 := vaS_weak hS1 (fun _ z => Or.inl z)
    refine lv_i2l (v := ((o_count σ p0).2.1 : Int32).toInt64) hx hb dL_count_7 rfl ?_
    refine k_last hx hb hG.2.1.1 hS1 hzo hA1 (vp_in_nI (by decide : 0 < 1) (by decide)) dL_count_8 (fun H2 locs2 hA2 hz2 hq2 hS2 => ?_)
    refine lv_goto (tgt := 15) hx hb dL_count_9 (by decide) ?_
    refine lv_iconst (v := 0) hx hb dL_count_15 (by decide) ?_
    exact W.iret (v := 0) hx hb hr (fun t ht hW => ⟨_, rfl, by rw [ht]; exact ⟨by rw [hn]; rfl, σ1, ad1, _, hsc, had, hP1.keptO hq2, hA2, fun _ => pk_uLs⟩, hS2.F ht⟩) (fun z h => hS2.2.2 z h) dL_count_16

theorem op_st_cheapest {σ : Stt} {p0 p1 p2 p3 : Int32} {k : Nat} (h : (o_cheapest σ p0 p1 p2 p3).1 = k + 1) : (o_cheapest σ p0 p1 p2 p3).2.2 = σ := by
  unfold o_cheapest at h ⊢
  repeat' split
  all_goals first | rfl | (exfalso; simp_all; done)
/-! law.cheapest -/
set_option maxHeartbeats 4000000 in
set_option maxRecDepth 100000 in
theorem c_L_cheapest (l : Launch) (D : va_G) (ct : Nat → ClassId) (Z : Nat → Prop) (dc : Nat) (σ : Stt) (ad : Nat → Nat) (hst : l.stackTraces = false) (oa : Nat) (g : Nat → Int64) (p0 p1 p2 p3 : Int32) (hI : Inv σ) (hzo : ¬ Z oa) : Met l yL_cheapest (.codeWith yL_cheapest cL_cheapest 7 (some .int) [(0, 14, 17, 19)] :: GW) ({ frames := 8, cells := 4, slots := 24, locals := 129 } : Room) (va_Pc [.ref (ad 0), .int p0, .int p1, .int p2, .int p3, .ref oa] (fun U => GF D ct Z dc U U.heap ∧ Pic D ct (Zo Z oa) dc σ ad U.heap ∧ Ar (ct 4) oa (rJ 1 g) U.heap)) (qS1 Z (fun x h => x = .int (nI (o_cheapest σ p0 p1 p2 p3).1) ∧ ∃ (σ1 : Stt) (ad1 : Nat → Nat) (g1 : Nat → Int64), SC (o_cheapest σ p0 p1 p2 p3).2.2 σ1 ∧ ad1 0 = ad 0 ∧ Pic D ct (Zo Z oa) dc σ1 ad1 h ∧ Ar (ct 4) oa (rJ 1 g1) h ∧ ((o_cheapest σ p0 p1 p2 p3).1 = 0 → g1 0 = (o_cheapest σ p0 p1 p2 p3).2.1.toInt64))) 4 24 (nZ Z) := by
  refine m_inH (cc := cL_cheapest) [.ref (ad 0), .int p0, .int p1, .int p2, .int p3, .ref oa] "RumourCustomsLaw" rfl (by decide) (Nat.le_of_ble_eq_true rfl) ?_
  intro pg e s m args below meth cd ls hx hb hml hown hts hr hlocks htab hPr hl
  obtain ⟨hG, hP, hA⟩ := hPr
  have hl : lv_has ls 7 [(0, .ref (ad 0)), (1, .int p0), (2, .int p1), (3, .int p2), (4, .int p3), (5, .ref oa)] := hl
  have hSo : va_S (nZ (Zo Z oa)) s.heap s.heap [] := va_S.rf
  have hGo : GF D ct (Zo Z oa) dc s s.heap := hG.sub (fun _ z => Or.inl z) (fun q z => z.elim (hG.1 q) (fun e => by rw [e]; exact hA.lt))
  refine lv_aload hx hb dL_cheapest_0 (lv_at hl 5 rfl) ?_
  refine lv_iconst (v := 0) hx hb dL_cheapest_2 (by decide) ?_
  refine lv_aload_n hx hb dL_cheapest_3 rfl (lv_at hl 0 rfl) ?_
  refine lv_iload_n hx hb dL_cheapest_4 rfl (lv_at hl 1 rfl) ?_
  refine lv_iload_n hx hb dL_cheapest_5 rfl (lv_at hl 2 rfl) ?_
  refine lv_iload_n hx hb dL_cheapest_6 rfl (lv_at hl 3 rfl) ?_
  refine lv_iload hx hb dL_cheapest_7 (lv_at hl 4 rfl) ?_
  refine c_xs1 (vx_runV (As := [.int p0, .int p1, .int p2, .int p3]) (rest := [.int 0, .ref oa]) ⟨hx, hb, hml, hown, hts⟩ (c_X5_cheapest l D ct (Zo Z oa) dc σ ad hst p0 p1 p2 p3 hI) (cwV 4 hts (GG w_802 w_803 w_804 w_59 w_805) rfl rfl rfl (by decide) ⟨Nat.le_of_ble_eq_true rfl, Nat.le_of_ble_eq_true rfl⟩) ⟨(blindF fun _ _ _ _ h => h), Ob.recv (hG.2.1).1 hP.o0 rfl, fun U hU hW => ⟨rfl, hGo.up hW hSo hU, by rw [hU]; exact hP⟩⟩ rfl rfl hl.1 rfl (lv_room (Nat.le_of_ble_eq_true rfl)) dL_cheapest_9 ⟨Nat.le_of_ble_eq_true rfl, Nat.le_of_ble_eq_true rfl⟩) hSo (fun E ce q9 H1 locs1 hp hk hS1 hce hcv hcl => ?_) (fun x H1 locs1 hR hzz hS1 => ?_)
  · -- thrown
    have hS1 : va_S (nZ Z) s.heap H1 locs1 := vaS_weak hS1 (fun _ z => Or.inl z)
    have hP1 := hP.ka hk
    have hA1 : Ar (ct 4) oa (rJ 1 g) H1 := hA.kept (hk.2 _ hA.lt)
    obtain ⟨hn, rfl⟩ := exn1 hp
    refine vx_catch (name := "java/lang/IndexOutOfBoundsException") hown [] ⟨0, 14, 17, 19⟩ [] htab (fun z hz => nomatch hz) rfl (by decide) (hts _ w_361) (va_Nw.use rfl (hG.2.1.2.2.2.2.1 _ (by simp))) hce hcv hcl ?_
    refine lv_astore (lv' := [(6, .ref q9), (0, .ref (ad 0)), (1, .int p0), (2, .int p1), (3, .int p2), (4, .int p3), (5, .ref oa)]) hx hb dL_cheapest_17 hl (by decide) rfl (fun ls hl => ?_)
    refine lv_iconst (v := 1) hx hb dL_cheapest_19 (by decide) ?_
    exact W.iret (v := 1) hx hb hr (fun t ht hW => ⟨_, rfl, by rw [ht]; exact ⟨by rw [hn]; rfl, σ, ad, g, by rw [show (o_cheapest σ p0 p1 p2 p3).2.2 = σ from op_st_cheapest hn]; exact SC.rf, rfl, hP1, hA1, fun z => absurd (hn.symm.trans z) (by decide)⟩, hS1.F ht⟩) (fun z h => hS1.2.2 z h) dL_cheapest_20
  · -- returned
    obtain ⟨hn, rfl, σ1, ad1, hsc, had, hP1⟩ := hR
    have hA1 : Ar (ct 4) oa (rJ 1 g) H1 := hA.kept (hS1.2.1 _ hA.lt (fun z => z (Or.inr rfl)))
    have hS1 : va_S (nZ Z) s.heap H1 locs1 := vaS_weak hS1 (fun _ z => Or.inl z)
    refine lv_i2l (v := ((o_cheapest σ p0 p1 p2 p3).2.1 : Int32).toInt64) hx hb dL_cheapest_12 rfl ?_
    refine k_last hx hb hG.2.1.1 hS1 hzo hA1 (vp_in_nI (by decide : 0 < 1) (by decide)) dL_cheapest_13 (fun H2 locs2 hA2 hz2 hq2 hS2 => ?_)
    refine lv_goto (tgt := 21) hx hb dL_cheapest_14 (by decide) ?_
    refine lv_iconst (v := 0) hx hb dL_cheapest_21 (by decide) ?_
    exact W.iret (v := 0) hx hb hr (fun t ht hW => ⟨_, rfl, by rw [ht]; exact ⟨by rw [hn]; rfl, σ1, ad1, _, hsc, had, hP1.keptO hq2, hA2, fun _ => pk_uLs⟩, hS2.F ht⟩) (fun z h => hS2.2.2 z h) dL_cheapest_22

theorem op_st_spread {σ : Stt} {p0 p1 : Int32} {k : Nat} (h : (o_spread σ p0 p1).1 = k + 1) : (o_spread σ p0 p1).2.2 = σ := by
  unfold o_spread at h ⊢
  repeat' split
  all_goals first | rfl | (exfalso; simp_all; done)
/-! law.spread -/
set_option maxHeartbeats 4000000 in
set_option maxRecDepth 100000 in
theorem c_L_spread (l : Launch) (D : va_G) (ct : Nat → ClassId) (Z : Nat → Prop) (dc : Nat) (σ : Stt) (ad : Nat → Nat) (hst : l.stackTraces = false) (oa : Nat) (g : Nat → Int64) (p0 p1 : Int32) (hI : Inv σ) (hzo : ¬ Z oa) : Met l yL_spread (.codeWith yL_spread cL_spread 5 (some .int) [(0, 10, 13, 19)] :: GW) ({ frames := 8, cells := 2, slots := 12, locals := 126 } : Room) (va_Pc [.ref (ad 0), .int p0, .int p1, .ref oa] (fun U => GF D ct Z dc U U.heap ∧ Pic D ct (Zo Z oa) dc σ ad U.heap ∧ Ar (ct 4) oa (rJ 1 g) U.heap)) (qS1 Z (fun x h => x = .int (nI (o_spread σ p0 p1).1) ∧ ∃ (σ1 : Stt) (ad1 : Nat → Nat) (g1 : Nat → Int64), SC (o_spread σ p0 p1).2.2 σ1 ∧ ad1 0 = ad 0 ∧ Pic D ct (Zo Z oa) dc σ1 ad1 h ∧ Ar (ct 4) oa (rJ 1 g1) h ∧ ((o_spread σ p0 p1).1 = 0 → g1 0 = (o_spread σ p0 p1).2.1.toInt64))) 2 12 (nZ Z) := by
  refine m_inH (cc := cL_spread) [.ref (ad 0), .int p0, .int p1, .ref oa] "RumourCustomsLaw" rfl (by decide) (Nat.le_of_ble_eq_true rfl) ?_
  intro pg e s m args below meth cd ls hx hb hml hown hts hr hlocks htab hPr hl
  obtain ⟨hG, hP, hA⟩ := hPr
  have hl : lv_has ls 5 [(0, .ref (ad 0)), (1, .int p0), (2, .int p1), (3, .ref oa)] := hl
  have hSo : va_S (nZ (Zo Z oa)) s.heap s.heap [] := va_S.rf
  have hGo : GF D ct (Zo Z oa) dc s s.heap := hG.sub (fun _ z => Or.inl z) (fun q z => z.elim (hG.1 q) (fun e => by rw [e]; exact hA.lt))
  refine lv_aload_n hx hb dL_spread_0 rfl (lv_at hl 3 rfl) ?_
  refine lv_iconst (v := 0) hx hb dL_spread_1 (by decide) ?_
  refine lv_aload_n hx hb dL_spread_2 rfl (lv_at hl 0 rfl) ?_
  refine lv_iload_n hx hb dL_spread_3 rfl (lv_at hl 1 rfl) ?_
  refine lv_iload_n hx hb dL_spread_4 rfl (lv_at hl 2 rfl) ?_
  refine c_xs1 (vx_runV (As := [.int p0, .int p1]) (rest := [.int 0, .ref oa]) ⟨hx, hb, hml, hown, hts⟩ (c_X5_spread l D ct (Zo Z oa) dc σ ad hst p0 p1 hI) (cwV 2 hts (GG w_844 w_845 w_846 w_59 w_847) rfl rfl rfl (by decide) ⟨Nat.le_of_ble_eq_true rfl, Nat.le_of_ble_eq_true rfl⟩) ⟨(blindF fun _ _ _ _ h => h), Ob.recv (hG.2.1).1 hP.o0 rfl, fun U hU hW => ⟨rfl, hGo.up hW hSo hU, by rw [hU]; exact hP⟩⟩ rfl rfl hl.1 rfl (lv_room (Nat.le_of_ble_eq_true rfl)) dL_spread_5 ⟨Nat.le_of_ble_eq_true rfl, Nat.le_of_ble_eq_true rfl⟩) hSo (fun E ce q9 H1 locs1 hp hk hS1 hce hcv hcl => ?_) (fun x H1 locs1 hR hzz hS1 => ?_)
  · -- thrown
    have hS1 : va_S (nZ Z) s.heap H1 locs1 := vaS_weak hS1 (fun _ z => Or.inl z)
    have hP1 := hP.ka hk
    have hA1 : Ar (ct 4) oa (rJ 1 g) H1 := hA.kept (hk.2 _ hA.lt)
    obtain ⟨hn, rfl⟩ := exn1 hp
    refine vx_catch (name := "java/lang/IndexOutOfBoundsException") hown [] ⟨0, 10, 13, 19⟩ [] htab (fun z hz => nomatch hz) rfl (by decide) (hts _ w_361) (va_Nw.use rfl (hG.2.1.2.2.2.2.1 _ (by simp))) hce hcv hcl ?_
    refine lv_astore (lv' := [(4, .ref q9), (0, .ref (ad 0)), (1, .int p0), (2, .int p1), (3, .ref oa)]) hx hb dL_spread_13 hl (by decide) rfl (fun ls hl => ?_)
    refine lv_iconst (v := 1) hx hb dL_spread_15 (by decide) ?_
    exact W.iret (v := 1) hx hb hr (fun t ht hW => ⟨_, rfl, by rw [ht]; exact ⟨by rw [hn]; rfl, σ, ad, g, by rw [show (o_spread σ p0 p1).2.2 = σ from op_st_spread hn]; exact SC.rf, rfl, hP1, hA1, fun z => absurd (hn.symm.trans z) (by decide)⟩, hS1.F ht⟩) (fun z h => hS1.2.2 z h) dL_spread_16
  · -- returned
    obtain ⟨hn, rfl, σ1, ad1, hsc, had, hP1⟩ := hR
    have hA1 : Ar (ct 4) oa (rJ 1 g) H1 := hA.kept (hS1.2.1 _ hA.lt (fun z => z (Or.inr rfl)))
    have hS1 : va_S (nZ Z) s.heap H1 locs1 := vaS_weak hS1 (fun _ z => Or.inl z)
    refine lv_i2l (v := ((o_spread σ p0 p1).2.1 : Int32).toInt64) hx hb dL_spread_8 rfl ?_
    refine k_last hx hb hG.2.1.1 hS1 hzo hA1 (vp_in_nI (by decide : 0 < 1) (by decide)) dL_spread_9 (fun H2 locs2 hA2 hz2 hq2 hS2 => ?_)
    refine lv_goto (tgt := 17) hx hb dL_spread_10 (by decide) ?_
    refine lv_iconst (v := 0) hx hb dL_spread_17 (by decide) ?_
    exact W.iret (v := 0) hx hb hr (fun t ht hW => ⟨_, rfl, by rw [ht]; exact ⟨by rw [hn]; rfl, σ1, ad1, _, hsc, had, hP1.keptO hq2, hA2, fun _ => pk_uLs⟩, hS2.F ht⟩) (fun z h => hS2.2.2 z h) dL_spread_18
