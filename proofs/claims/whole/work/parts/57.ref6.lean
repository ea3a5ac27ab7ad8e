theorem dgD1_lo {σ : Stt} {a : Nat} {d : Int64} : ∀ {n : Nat}, n ≤ a + 1 → dgD1 σ a d n = d
  | 0, _ => rfl
  | n + 1, h => by
    show (if _ then _ else _) = _
    rw [if_neg (fun z => absurd z.1 (by omega))]
    exact dgD1_lo (by omega)
theorem dgR_eq {σ : Stt} {d : Int64} : ∀ n, dgR σ d n = dfo d (σ 1) (7 * n)
  | 0 => rfl
  | n + 1 => by
    rw [show 7 * (n + 1) = 7 * n + 7 by omega, dfo_app, ← dgR_eq n]
    show dfo (dgR σ d n) (fun w => figRS σ n (nI w)) 7 = _
    exact dfo_cong (fun w hw => figRS_n hw)
theorem wi0 {n hi : Nat} (h : n ≤ hi) (hb : hi < 2 ^ 31) : wi 0 (nI n) (nI hi) = true := decide_eq_true ⟨nI_pos' (by omega), nI_le h hb⟩
/-- from the head of a contract that may draw to the first instruction -/
theorem m_inD {l : Launch} {cc : ByteArray} {mc ms : Nat} {free : Addr → Prop} {y : MethodName} {maxL : Nat} {ret : Option FieldType} {rm : Room} {Pr : State → Prop} {Qc : Array Value → State → Outcome → State → Prop} (vals : List Value) (own : String) (hown : y.cls = own) (hy : plainName y.cls = true) (hl : (lg_sl vals).length ≤ maxL)
    (body : ∀ (p : Program) (e : Env) (s : State) (m : MethodId) (args : Array Value) (below : List Frame) (meth : Method) (c : Code) (ls : Array Slot), p.tables.exec = Jvm.exec → c.code = cc → c.maxLocals = maxL → s.vm.findClass own = some m.cls → (∀ w ∈ GW, w.before args s = true) → meth.sig.returnType = ret → meth.locks = false → meth.name = y.name → Pr s → lv_has ls maxL (lv_args 0 vals) →
      W p l e rm s m args below meth c s.heap [] 0 0 (MQD lw_cs below Qc args s mc ms free) (F0 m 0 ls [])) : MetD lw_cs l y (.code y cc maxL ret :: GW) rm (va_Pc vals Pr) Qc mc ms free := by
  refine MetD.ofW (cc := cc) (maxL := maxL) (ret := ret) hy rfl ?_
  intro p e s m args below meth c s₁ B hml hv hd0
  obtain ⟨rfl, hPr⟩ := hv
  have hts := atoms_spec (ws := .code y cc maxL ret :: GW) B.pre
  have hl2 := lv_entry vals hl
  rw [lg_entry_eq]
  generalize (lg_sl vals ++ List.replicate (maxL - (lg_sl vals).length) Slot.unset).toArray = ls at hl2 ⊢
  exact body p e s m _ below meth c ls B.exec B.bytes hml (by rw [← hown]; exact findClass_of_methodNamed B.named) (fun w hw => hts w (List.mem_cons_of_mem _ hw)) B.returns B.notSynchronized (name_of_methodNamed B.named B.method).1 hPr hl2
/-- what hearsay() answers: of a sum and a count -/
def hsR (x y : Int32) (r : UInt64) : Prop := (y = 0 ∧ r = FP.dconst0) ∨ (¬ y = 0 ∧ alike64 r (FP.ddiv (FP.i2d x) (FP.i2d y)) = true)

/-! digest -/
set_option maxHeartbeats 4000000 in
set_option maxRecDepth 100000 in
theorem c_X6_digest (l : Launch) (D : va_G) (ct : Nat → ClassId) (Z : Nat → Prop) (σ : Stt) (th : Int32) (bst : Nat → Int64) (rf : Nat → Nat) (hI : Inv σ) : Met l yX6_digest (.code yX6_digest cX6_digest 6 (some .long) :: GW) ({ frames := 3, cells := 0, slots := 0, locals := 68 } : Room) (va_Pc [.ref (rf 0)] (fun U => GT D ct U ∧ (∀ q, Z q → q < U.heap.size) ∧ RP D ct Z σ th bst rf U.heap)) (qS1 Z (fun x h => x = .long (digS σ) ∧ RP D ct Z (σ) (0) bst rf h)) 0 0 (nZ Z) := by
  refine m_in (cc := cX6_digest) [.ref (rf 0)] "RumourCustomsModel" rfl (by decide) (Nat.le_of_ble_eq_true rfl) ?_
  intro pg e s m args below meth cd ls hx hb hml hown hts hr hlocks hin hPr hl
  obtain ⟨hT, hZs, hP⟩ := hPr
  have hl : lv_has ls 6 [(0, .ref (rf 0))] := hl
  have hS : va_S (nZ Z) s.heap s.heap [] := va_S.rf
  have hT1 := hI.1.1
  have hT10 := hI.1.2
  have hR1 := hI.2.1.1
  have hR60 := hI.2.1.2
  have hC1 := hI.2.2.1.1
  have hC8 := hI.2.2.1.2
  refine lv_aload_n hx hb dX6_digest_0 rfl (lv_at hl 0 rfl) ?_
  refine lv_iconst (v := 0) hx hb dX6_digest_1 (by decide) ?_
  refine k_put (C := RX6) (T := TX6) (N := 14) hx hb hts inGX6 tyX6 tyX6_ok nmX6 hown (hT).1 hP.o hS (hP.nz (by decide)) rfl 0 (Nat.le_of_ble_eq_true rfl) (hts _ w_872) (fun _ h9 => h9) rfl (ty := .int) (v := .int 0) (by decide +kernel) rfl rfl (Nat.le_of_ble_eq_true rfl) dX6_digest_2 (fun H2 locs2 hO2 hz2 hq2 hS2 => ?_)
  have hO2 : Ob D (rf 0) 7 [.int 0, .int (σ 0 0), .int (σ 0 1), .int (σ 0 2), .int (σ 0 3), .int (σ 0 4), .int (σ 0 5), .int (σ 0 6), .int (σ 0 7), .int (σ 0 8), .ref (rf 1), .ref (rf 2), .ref (rf 3), .ref (rf 4)] H2 := hO2
  have hP2 : RP D ct Z (σ) (0) bst rf H2 := hP.st 0 hO2 hq2
  refine lv_ldc2 (v := 499) hx hb hown (hts _ w_1108) dX6_digest_5 ?_
  refine lv_lstore_n (lv' := [(1, .long 499), (0, .ref (rf 0))]) hx hb dX6_digest_8 rfl hl (by decide) rfl (fun ls hl => ?_)
  refine lv_iconst (v := 0) hx hb dX6_digest_9 (by decide) ?_
  refine lv_istore_n (lv' := [(3, .int 0), (1, .long 499), (0, .ref (rf 0))]) hx hb dX6_digest_10 rfl hl (by decide) rfl (fun ls hl => ?_)
  have loop11 : ∀ (n11 i1 : Nat) (ac1 : Int64), i1 ≤ 11 → 11 - i1 < n11 → ac1 = dfo 499 (fun w => figL σ (nI w)) i1 → ∀ ls, lv_has ls 6 [(0, .ref (rf 0)), (3, .int (nI i1)), (1, .long ac1)] → W pg l e ({ frames := 3, cells := 0, slots := 0, locals := 68 } : Room) s m args below meth cd H2 locs2 0 0 (MQ below (qS1 Z (fun x h => x = .long (digS σ) ∧ RP D ct Z (σ) (0) bst rf h)) args s 0 0 (nZ Z)) (F0 m 11 ls []) := by
    intro n11
    induction n11 with
    | zero => intro i1 ac1 _ z; omega
    | succ n11 ih11 =>
      intro i1 ac1 hi11 hn11 haac1 ls hl
      refine lv_iload_n hx hb dX6_digest_11 rfl (lv_at hl 1 rfl) ?_
      refine lv_bipush (v := 11) hx hb dX6_digest_12 (by decide) ?_
      refine lv_icmp_ge (tgt := 36) hx hb dX6_digest_14 (by decide) (fun c_14 => ?_) (fun c_14 => ?_)
      · -- taken
        have nc_14 : 11 ≤ i1 := (nI_leI (a := 11) (b := i1) (by omega) (by omega)).mp c_14
        have he11 : i1 = 11 := by omega
        refine lv_iconst (v := 0) hx hb dX6_digest_36 (by decide) ?_
        refine lv_istore_n (lv' := [(3, .int 0), (0, .ref (rf 0)), (1, .long ac1)]) hx hb dX6_digest_37 rfl hl (by decide) rfl (fun ls hl => ?_)
        have loop38 : ∀ (n38 i2 : Nat) (ac2 : Int64), i2 ≤ nT σ → nT σ - i2 < n38 → ac2 = dgD σ (nT σ) (dfo 499 (fun w => figL σ (nI w)) 11) i2 → ∀ ls, lv_has ls 6 [(0, .ref (rf 0)), (3, .int (nI i2)), (1, .long ac2)] → W pg l e ({ frames := 3, cells := 0, slots := 0, locals := 68 } : Room) s m args below meth cd H2 locs2 0 0 (MQ below (qS1 Z (fun x h => x = .long (digS σ) ∧ RP D ct Z (σ) (0) bst rf h)) args s 0 0 (nZ Z)) (F0 m 38 ls []) := by
          intro n38
          induction n38 with
          | zero => intro i2 ac2 _ z; omega
          | succ n38 ih38 =>
            intro i2 ac2 hi38 hn38 haac2 ls hl
            refine lv_iload_n hx hb dX6_digest_38 rfl (lv_at hl 1 rfl) ?_
            refine lv_aload_n hx hb dX6_digest_39 rfl (lv_at hl 0 rfl) ?_
            refine k_get (C := RX6) (T := TX6) (N := 14) hx hb hts inGX6 hown (hT).1 hP2.o rfl 2 (by decide) (hts _ w_874) (fun _ h9 => h9) (v := .int (σ 0 1)) rfl dX6_digest_40 ?_
            rw [hT1]
            refine lv_icmp_ge (tgt := 127) hx hb dX6_digest_43 (by decide) (fun c_43 => ?_) (fun c_43 => ?_)
            · -- taken
              have nc_43 : (nT σ) ≤ i2 := (nI_leI (a := (nT σ)) (b := i2) (by omega) (by omega)).mp c_43
              have he38 : i2 = nT σ := by omega
              refine lv_iconst (v := 0) hx hb dX6_digest_127 (by decide) ?_
              refine lv_istore_n (lv' := [(3, .int 0), (0, .ref (rf 0)), (1, .long ac2)]) hx hb dX6_digest_128 rfl hl (by decide) rfl (fun ls hl => ?_)
              have loop129 : ∀ (n129 i5 : Nat) (ac5 : Int64), i5 ≤ 7 * nR σ → 7 * nR σ - i5 < n129 → ac5 = dfo (dgD σ (nT σ) (dfo 499 (fun w => figL σ (nI w)) 11) (nT σ)) (σ 1) i5 → ∀ ls, lv_has ls 6 [(0, .ref (rf 0)), (3, .int (nI i5)), (1, .long ac5)] → W pg l e ({ frames := 3, cells := 0, slots := 0, locals := 68 } : Room) s m args below meth cd H2 locs2 0 0 (MQ below (qS1 Z (fun x h => x = .long (digS σ) ∧ RP D ct Z (σ) (0) bst rf h)) args s 0 0 (nZ Z)) (F0 m 129 ls []) := by
                intro n129
                induction n129 with
                | zero => intro i5 ac5 _ z; omega
                | succ n129 ih129 =>
                  intro i5 ac5 hi129 hn129 haac5 ls hl
                  refine lv_iload_n hx hb dX6_digest_129 rfl (lv_at hl 1 rfl) ?_
                  refine lv_bipush (v := 7) hx hb dX6_digest_130 (by decide) ?_
                  refine lv_aload_n hx hb dX6_digest_132 rfl (lv_at hl 0 rfl) ?_
                  refine k_get (C := RX6) (T := TX6) (N := 14) hx hb hts inGX6 hown (hT).1 hP2.o rfl 4 (by decide) (hts _ w_876) (fun _ h9 => h9) (v := .int (σ 0 3)) rfl dX6_digest_133 ?_
                  rw [hR1]
                  refine lv_imul hx hb dX6_digest_136 ?_
                  rw [show (7 : Int32) * nI (nR σ) = nI (7 * nR σ) from pk_mul 7 (nR σ)]
                  refine lv_icmp_ge (tgt := 160) hx hb dX6_digest_137 (by decide) (fun c_137 => ?_) (fun c_137 => ?_)
                  · -- taken
                    have nc_137 : (7 * nR σ) ≤ i5 := (nI_leI (a := (7 * nR σ)) (b := i5) (by omega) (by omega)).mp c_137
                    have he129 : i5 = 7 * nR σ := by omega
                    refine lv_iconst (v := 0) hx hb dX6_digest_160 (by decide) ?_
                    refine lv_istore_n (lv' := [(3, .int 0), (0, .ref (rf 0)), (1, .long ac5)]) hx hb dX6_digest_161 rfl hl (by decide) rfl (fun ls hl => ?_)
                    have loop162 : ∀ (n162 i6 : Nat) (ac6 : Int64), i6 ≤ nC σ → nC σ - i6 < n162 → ac6 = dgC σ (dgR σ (dgD σ (nT σ) (dfo 499 (fun w => figL σ (nI w)) 11) (nT σ)) (nR σ)) i6 → ∀ ls, lv_has ls 6 [(0, .ref (rf 0)), (3, .int (nI i6)), (1, .long ac6)] → W pg l e ({ frames := 3, cells := 0, slots := 0, locals := 68 } : Room) s m args below meth cd H2 locs2 0 0 (MQ below (qS1 Z (fun x h => x = .long (digS σ) ∧ RP D ct Z (σ) (0) bst rf h)) args s 0 0 (nZ Z)) (F0 m 162 ls []) := by
                      intro n162
                      induction n162 with
                      | zero => intro i6 ac6 _ z; omega
                      | succ n162 ih162 =>
                        intro i6 ac6 hi162 hn162 haac6 ls hl
                        refine lv_iload_n hx hb dX6_digest_162 rfl (lv_at hl 1 rfl) ?_
                        refine lv_aload_n hx hb dX6_digest_163 rfl (lv_at hl 0 rfl) ?_
                        refine k_get (C := RX6) (T := TX6) (N := 14) hx hb hts inGX6 hown (hT).1 hP2.o rfl 5 (by decide) (hts _ w_877) (fun _ h9 => h9) (v := .int (σ 0 4)) rfl dX6_digest_164 ?_
                        rw [hC1]
                        refine lv_icmp_ge (tgt := 207) hx hb dX6_digest_167 (by decide) (fun c_167 => ?_) (fun c_167 => ?_)
                        · -- taken
                          have nc_167 : (nC σ) ≤ i6 := (nI_leI (a := (nC σ)) (b := i6) (by omega) (by omega)).mp c_167
                          have he162 : i6 = nC σ := by omega
                          refine lv_lload_n hx hb dX6_digest_207 rfl (lv_at hl 2 rfl) ?_
                          exact W.lret (v := ac6) hx hb hr (fun t ht hW => ⟨_, rfl, by rw [ht]; exact ⟨(by rw [show ac6 = digS σ from by rw [haac6, he162]; rfl]), hP2⟩, hS2.F ht⟩) (fun z h => hS2.2.2 z h) dX6_digest_208
                        · -- not taken
                          have nc_167 : ¬ (nC σ) ≤ i6 := fun z => c_167 ((nI_leI (a := (nC σ)) (b := i6) (by omega) (by omega)).mpr z)
                          have hlt162 : i6 < nC σ := by omega
                          refine lv_iconst (v := 0) hx hb dX6_digest_170 (by decide) ?_
                          refine lv_istore (lv' := [(4, .int 0), (0, .ref (rf 0)), (3, .int (nI i6)), (1, .long ac6)]) hx hb dX6_digest_171 hl (by decide) rfl (fun ls hl => ?_)
                          have loop173 : ∀ (n173 i7 : Nat) (ac7 : Int64), i7 ≤ 6 → 6 - i7 < n173 → ac7 = dfo (dgC σ (dgR σ (dgD σ (nT σ) (dfo 499 (fun w => figL σ (nI w)) 11) (nT σ)) (nR σ)) i6) (fun w => figC σ i6 (nI w)) i7 → ∀ ls, lv_has ls 6 [(0, .ref (rf 0)), (3, .int (nI i6)), (4, .int (nI i7)), (1, .long ac7)] → W pg l e ({ frames := 3, cells := 0, slots := 0, locals := 68 } : Room) s m args below meth cd H2 locs2 0 0 (MQ below (qS1 Z (fun x h => x = .long (digS σ) ∧ RP D ct Z (σ) (0) bst rf h)) args s 0 0 (nZ Z)) (F0 m 173 ls []) := by
                            intro n173
                            induction n173 with
                            | zero => intro i7 ac7 _ z; omega
                            | succ n173 ih173 =>
                              intro i7 ac7 hi173 hn173 haac7 ls hl
                              refine lv_iload hx hb dX6_digest_173 (lv_at hl 2 rfl) ?_
                              refine lv_bipush (v := 6) hx hb dX6_digest_175 (by decide) ?_
                              refine lv_icmp_ge (tgt := 201) hx hb dX6_digest_177 (by decide) (fun c_177 => ?_) (fun c_177 => ?_)
                              · -- taken
                                have nc_177 : 6 ≤ i7 := (nI_leI (a := 6) (b := i7) (by omega) (by omega)).mp c_177
                                have he173 : i7 = 6 := by omega
                                refine lv_iinc (v := nI (i6 + 1)) (lv' := [(3, .int (nI (i6 + 1))), (0, .ref (rf 0)), (4, .int (nI i7)), (1, .long ac7)]) hx hb dX6_digest_201 hl (k := 1) rfl (nI_1 i6) (by decide) rfl (fun ls hl => ?_)
                                refine lv_goto (tgt := 162) hx hb dX6_digest_204 (by decide) ?_
                                exact ih162 (i6 + 1) ac7 (by omega) (by omega) (by rw [haac7, he173]; rfl) ls (lv_sub hl [1, 0, 3] rfl)
                              · -- not taken
                                have nc_177 : ¬ 6 ≤ i7 := fun z => c_177 ((nI_leI (a := 6) (b := i7) (by omega) (by omega)).mpr z)
                                have hlt173 : i7 < 6 := by omega
                                refine lv_lload_n hx hb dX6_digest_180 rfl (lv_at hl 3 rfl) ?_
                                refine lv_ldc2 (v := 31) hx hb hown (hts _ w_1109) dX6_digest_181 ?_
                                refine lv_lmul hx hb dX6_digest_184 ?_
                                refine lv_aload_n hx hb dX6_digest_185 rfl (lv_at hl 0 rfl) ?_
                                refine lv_iload_n hx hb dX6_digest_186 rfl (lv_at hl 1 rfl) ?_
                                refine lv_iload hx hb dX6_digest_187 (lv_at hl 2 rfl) ?_
                                refine c_p1 (va_runV (As := [.int (nI i6), .int (nI i7)]) (rest := [.long (ac7 * 31)]) ⟨hx, hb, hml, hown, hts⟩ (c_X6_carrierTold l D ct Z σ 0 bst rf i6 (nI i7) hR1 hR60 (by omega) (wi0 (n := i7) (hi := 5) (by omega) (by decide))) (cwV 2 hts (GG w_1062 w_1064 w_54 w_65 w_1065) rfl rfl rfl (by decide) ⟨Nat.le_of_ble_eq_true rfl, Nat.le_of_ble_eq_true rfl⟩) ⟨(blindT fun _ _ _ _ h => h), Ob.recv (hT).1 hP2.o rfl, fun U hU hW => ⟨rfl, hT.warm hW, by rw [hU]; exact hP2⟩⟩ rfl rfl hl.1 rfl (lv_room (Nat.le_of_ble_eq_true rfl)) dX6_digest_189 ⟨Nat.le_of_ble_eq_true rfl, Nat.le_of_ble_eq_true rfl⟩) ?_
                                refine lv_i2l (v := (figC σ i6 (nI i7) : Int32).toInt64) hx hb dX6_digest_192 rfl ?_
                                refine lv_ladd hx hb dX6_digest_193 ?_
                                refine lv_lstore_n (lv' := [(1, .long ((ac7 * 31) + ((figC σ i6 (nI i7) : Int32).toInt64))), (0, .ref (rf 0)), (3, .int (nI i6)), (4, .int (nI i7))]) hx hb dX6_digest_194 rfl hl (by decide) rfl (fun ls hl => ?_)
                                refine lv_iinc (v := nI (i7 + 1)) (lv' := [(4, .int (nI (i7 + 1))), (1, .long ((ac7 * 31) + ((figC σ i6 (nI i7) : Int32).toInt64))), (0, .ref (rf 0)), (3, .int (nI i6))]) hx hb dX6_digest_195 hl (k := 3) rfl (nI_1 i7) (by decide) rfl (fun ls hl => ?_)
                                refine lv_goto (tgt := 173) hx hb dX6_digest_198 (by decide) ?_
                                exact ih173 (i7 + 1) ((ac7 * 31) + ((figC σ i6 (nI i7) : Int32).toInt64)) (by omega) (by omega) (by rw [haac7]; rfl) ls (lv_sub hl [2, 3, 0, 1] rfl)
                          exact loop173 (6 + 1 - 0) 0 ac6 (by omega) (by omega) (by rw [haac6]; rfl) ls (lv_sub hl [1, 2, 0, 3] rfl)
                    exact loop162 (nC σ + 1 - 0) 0 ac5 (by omega) (by omega) (by rw [haac5, he129]; exact (dgR_eq _).symm) ls (lv_sub hl [1, 0, 2] rfl)
                  · -- not taken
                    have nc_137 : ¬ (7 * nR σ) ≤ i5 := fun z => c_137 ((nI_leI (a := (7 * nR σ)) (b := i5) (by omega) (by omega)).mpr z)
                    have hlt129 : i5 < 7 * nR σ := by omega
                    refine lv_lload_n hx hb dX6_digest_140 rfl (lv_at hl 2 rfl) ?_
                    refine lv_ldc2 (v := 31) hx hb hown (hts _ w_1109) dX6_digest_141 ?_
                    refine lv_lmul hx hb dX6_digest_144 ?_
                    refine lv_aload_n hx hb dX6_digest_145 rfl (lv_at hl 0 rfl) ?_
                    refine k_get (C := RX6) (T := TX6) (N := 14) hx hb hts inGX6 hown (hT).1 hP2.o rfl 11 (by decide) (hts _ w_883) (fun _ h9 => h9) (v := .ref (rf 2)) rfl dX6_digest_146 ?_
                    refine lv_iload_n hx hb dX6_digest_149 rfl (lv_at hl 1 rfl) ?_
                    refine k_iald hx hb (hT).1 hP2.a2 (by rw [(rfl : nI i5 = nI i5)]; exact vp_in_nI (by omega : i5 < 420) (by decide)) dX6_digest_150 ?_
                    rw [show (nI i5 : Int32).toNatClampNeg = i5 from (congrArg Int32.toNatClampNeg (rfl : nI i5 = nI i5)).trans (nI_clamp (by omega : i5 < 2 ^ 31))]
                    refine lv_i2l (v := (σ 1 i5 : Int32).toInt64) hx hb dX6_digest_151 rfl ?_
                    refine lv_ladd hx hb dX6_digest_152 ?_
                    refine lv_lstore_n (lv' := [(1, .long ((ac5 * 31) + ((σ 1 i5 : Int32).toInt64))), (0, .ref (rf 0)), (3, .int (nI i5))]) hx hb dX6_digest_153 rfl hl (by decide) rfl (fun ls hl => ?_)
                    refine lv_iinc (v := nI (i5 + 1)) (lv' := [(3, .int (nI (i5 + 1))), (1, .long ((ac5 * 31) + ((σ 1 i5 : Int32).toInt64))), (0, .ref (rf 0))]) hx hb dX6_digest_154 hl (k := 2) rfl (nI_1 i5) (by decide) rfl (fun ls hl => ?_)
                    refine lv_goto (tgt := 129) hx hb dX6_digest_157 (by decide) ?_
                    exact ih129 (i5 + 1) ((ac5 * 31) + ((σ 1 i5 : Int32).toInt64)) (by omega) (by omega) (by rw [haac5]; rfl) ls (lv_sub hl [2, 0, 1] rfl)
              exact loop129 (7 * nR σ + 1 - 0) 0 ac2 (by omega) (by omega) (by rw [haac2, he38]; rfl) ls (lv_sub hl [1, 0, 2] rfl)
            · -- not taken
              have nc_43 : ¬ (nT σ) ≤ i2 := fun z => c_43 ((nI_leI (a := (nT σ)) (b := i2) (by omega) (by omega)).mpr z)
              have hlt38 : i2 < nT σ := by omega
              refine lv_iload_n hx hb dX6_digest_46 rfl (lv_at hl 1 rfl) ?_
              refine lv_iconst (v := 1) hx hb dX6_digest_47 (by decide) ?_
              refine lv_iadd hx hb dX6_digest_48 ?_
              rw [show nI i2 + 1 = nI (i2 + 1) from nI_1 i2]
              refine lv_istore (lv' := [(4, .int (nI (i2 + 1))), (0, .ref (rf 0)), (3, .int (nI i2)), (1, .long ac2)]) hx hb dX6_digest_49 hl (by decide) rfl (fun ls hl => ?_)
              have loop51 : ∀ (n51 i3 : Nat) (ac3 : Int64), i3 ≤ nT σ → nT σ - i3 < n51 → i2 < i3 → ac3 = dgD1 σ i2 (dgD σ (nT σ) (dfo 499 (fun w => figL σ (nI w)) 11) i2) i3 → ∀ ls, lv_has ls 6 [(0, .ref (rf 0)), (3, .int (nI i2)), (4, .int (nI i3)), (1, .long ac3)] → W pg l e ({ frames := 3, cells := 0, slots := 0, locals := 68 } : Room) s m args below meth cd H2 locs2 0 0 (MQ below (qS1 Z (fun x h => x = .long (digS σ) ∧ RP D ct Z (σ) (0) bst rf h)) args s 0 0 (nZ Z)) (F0 m 51 ls []) := by
                intro n51
                induction n51 with
                | zero => intro i3 ac3 _ z; omega
                | succ n51 ih51 =>
                  intro i3 ac3 hi51 hn51 hlo51 haac3 ls hl
                  refine lv_iload hx hb dX6_digest_51 (lv_at hl 2 rfl) ?_
                  refine lv_aload_n hx hb dX6_digest_53 rfl (lv_at hl 0 rfl) ?_
                  refine k_get (C := RX6) (T := TX6) (N := 14) hx hb hts inGX6 hown (hT).1 hP2.o rfl 2 (by decide) (hts _ w_874) (fun _ h9 => h9) (v := .int (σ 0 1)) rfl dX6_digest_54 ?_
                  rw [hT1]
                  refine lv_icmp_ge (tgt := 121) hx hb dX6_digest_57 (by decide) (fun c_57 => ?_) (fun c_57 => ?_)
                  · -- taken
                    have nc_57 : (nT σ) ≤ i3 := (nI_leI (a := (nT σ)) (b := i3) (by omega) (by omega)).mp c_57
                    have he51 : i3 = nT σ := by omega
                    refine lv_iinc (v := nI (i2 + 1)) (lv' := [(3, .int (nI (i2 + 1))), (0, .ref (rf 0)), (4, .int (nI i3)), (1, .long ac3)]) hx hb dX6_digest_121 hl (k := 1) rfl (nI_1 i2) (by decide) rfl (fun ls hl => ?_)
                    refine lv_goto (tgt := 38) hx hb dX6_digest_124 (by decide) ?_
                    exact ih38 (i2 + 1) ac3 (by omega) (by omega) (by rw [haac3, he51]; rfl) ls (lv_sub hl [1, 0, 3] rfl)
                  · -- not taken
                    have nc_57 : ¬ (nT σ) ≤ i3 := fun z => c_57 ((nI_leI (a := (nT σ)) (b := i3) (by omega) (by omega)).mpr z)
                    have hlt51 : i3 < nT σ := by omega
                    refine lv_aload_n hx hb dX6_digest_60 rfl (lv_at hl 0 rfl) ?_
                    refine k_get (C := RX6) (T := TX6) (N := 14) hx hb hts inGX6 hown (hT).1 hP2.o rfl 10 (by decide) (hts _ w_882) (fun _ h9 => h9) (v := .ref (rf 1)) rfl dX6_digest_61 ?_
                    refine lv_iload_n hx hb dX6_digest_64 rfl (lv_at hl 1 rfl) ?_
                    refine lv_iload hx hb dX6_digest_65 (lv_at hl 2 rfl) ?_
                    refine c_p1 (va_runS (As := [.int (nI i2), .int (nI i3)]) (rest := [.ref (rf 1)]) ⟨hx, hb, hml, hown, hts⟩ (c_X6_base l D ct (nI i2) (nI i3) i2 i3 rfl rfl (by omega) (by omega)) (k_cwS 2 hts w_939 w_940 w_65 w_941 rfl rfl (by decide) ⟨Nat.le_of_ble_eq_true rfl, Nat.le_of_ble_eq_true rfl⟩) ⟨(blindT fun _ _ _ _ h => h), fun U hU hW => ⟨rfl, hT.warm hW, trivial⟩⟩ rfl rfl hl.1 rfl (lv_room (Nat.le_of_ble_eq_true rfl)) dX6_digest_67 ⟨Nat.le_of_ble_eq_true rfl, Nat.le_of_ble_eq_true rfl⟩) ?_
                    have hk_67 : rk i2 i3 < 100 := rk_lt (by omega) (by omega)
                    refine k_iald hx hb (hT).1 hP2.a1 (by rw [(rfl : nI (7 * rk i2 i3) = nI (7 * rk i2 i3))]; exact vp_in_nI (by omega : 7 * rk i2 i3 < 700) (by decide)) dX6_digest_70 ?_
                    rw [show (nI (7 * rk i2 i3) : Int32).toNatClampNeg = 7 * rk i2 i3 from (congrArg Int32.toNatClampNeg (rfl : nI (7 * rk i2 i3) = nI (7 * rk i2 i3))).trans (nI_clamp (by omega : 7 * rk i2 i3 < 2 ^ 31))]
                    refine lv_if_ne (tgt := 77) hx hb dX6_digest_71 (by decide) (fun c_71 => ?_) (fun c_71 => ?_)
                    · -- taken
                      have hrs : σ 3 (7 * rk i2 i3) = 1 := Classical.byContradiction (fun z => c_71 (rd_one hI hk_67 z))
                      refine lv_iconst (v := 0) hx hb dX6_digest_77 (by decide) ?_
                      refine lv_istore (lv' := [(5, .int 0), (0, .ref (rf 0)), (3, .int (nI i2)), (4, .int (nI i3)), (1, .long ac3)]) hx hb dX6_digest_78 hl (by decide) rfl (fun ls hl => ?_)
                      have loop80 : ∀ (n80 i4 : Nat) (ac4 : Int64), i4 ≤ 7 → 7 - i4 < n80 → ac4 = dfo (dgD1 σ i2 (dgD σ (nT σ) (dfo 499 (fun w => figL σ (nI w)) 11) i2) i3) (fun w => figDS σ (rk i2 i3) (nI w)) i4 → ∀ ls, lv_has ls 6 [(0, .ref (rf 0)), (3, .int (nI i2)), (4, .int (nI i3)), (5, .int (nI i4)), (1, .long ac4)] → W pg l e ({ frames := 3, cells := 0, slots := 0, locals := 68 } : Room) s m args below meth cd H2 locs2 0 0 (MQ below (qS1 Z (fun x h => x = .long (digS σ) ∧ RP D ct Z (σ) (0) bst rf h)) args s 0 0 (nZ Z)) (F0 m 80 ls []) := by
                        intro n80
                        induction n80 with
                        | zero => intro i4 ac4 _ z; omega
                        | succ n80 ih80 =>
                          intro i4 ac4 hi80 hn80 haac4 ls hl
                          refine lv_iload hx hb dX6_digest_80 (lv_at hl 3 rfl) ?_
                          refine lv_bipush (v := 7) hx hb dX6_digest_82 (by decide) ?_
                          refine lv_icmp_ge (tgt := 115) hx hb dX6_digest_84 (by decide) (fun c_84 => ?_) (fun c_84 => ?_)
                          · -- taken
                            have nc_84 : 7 ≤ i4 := (nI_leI (a := 7) (b := i4) (by omega) (by omega)).mp c_84
                            have he80 : i4 = 7 := by omega
                            refine lv_iinc (v := nI (i3 + 1)) (lv' := [(4, .int (nI (i3 + 1))), (0, .ref (rf 0)), (3, .int (nI i2)), (5, .int (nI i4)), (1, .long ac4)]) hx hb dX6_digest_115 hl (k := 2) rfl (nI_1 i3) (by decide) rfl (fun ls hl => ?_)
                            refine lv_goto (tgt := 51) hx hb dX6_digest_118 (by decide) ?_
                            exact ih51 (i3 + 1) ac4 (by omega) (by omega) (by omega) (by rw [haac4, he80]; exact (if_pos ⟨by omega, hrs⟩).symm) ls (lv_sub hl [1, 2, 0, 4] rfl)
                          · -- not taken
                            have nc_84 : ¬ 7 ≤ i4 := fun z => c_84 ((nI_leI (a := 7) (b := i4) (by omega) (by omega)).mpr z)
                            have hlt80 : i4 < 7 := by omega
                            refine lv_lload_n hx hb dX6_digest_87 rfl (lv_at hl 4 rfl) ?_
                            refine lv_ldc2 (v := 31) hx hb hown (hts _ w_1109) dX6_digest_88 ?_
                            refine lv_lmul hx hb dX6_digest_91 ?_
                            refine lv_aload_n hx hb dX6_digest_92 rfl (lv_at hl 0 rfl) ?_
                            refine k_get (C := RX6) (T := TX6) (N := 14) hx hb hts inGX6 hown (hT).1 hP2.o rfl 10 (by decide) (hts _ w_882) (fun _ h9 => h9) (v := .ref (rf 1)) rfl dX6_digest_93 ?_
                            refine lv_iload_n hx hb dX6_digest_96 rfl (lv_at hl 1 rfl) ?_
                            refine lv_iload hx hb dX6_digest_97 (lv_at hl 2 rfl) ?_
                            refine c_p1 (va_runS (As := [.int (nI i2), .int (nI i3)]) (rest := [.ref (rf 1), .long (ac4 * 31)]) ⟨hx, hb, hml, hown, hts⟩ (c_X6_base l D ct (nI i2) (nI i3) i2 i3 rfl rfl (by omega) (by omega)) (k_cwS 2 hts w_939 w_940 w_65 w_941 rfl rfl (by decide) ⟨Nat.le_of_ble_eq_true rfl, Nat.le_of_ble_eq_true rfl⟩) ⟨(blindT fun _ _ _ _ h => h), fun U hU hW => ⟨rfl, hT.warm hW, trivial⟩⟩ rfl rfl hl.1 rfl (lv_room (Nat.le_of_ble_eq_true rfl)) dX6_digest_99 ⟨Nat.le_of_ble_eq_true rfl, Nat.le_of_ble_eq_true rfl⟩) ?_
                            have hk_99 : rk i2 i3 < 100 := rk_lt (by omega) (by omega)
                            refine lv_iload hx hb dX6_digest_102 (lv_at hl 3 rfl) ?_
                            refine lv_iadd hx hb dX6_digest_104 ?_
                            refine k_iald hx hb (hT).1 hP2.a1 (by rw [(ix_add (rfl : nI (7 * rk i2 i3) = nI (7 * rk i2 i3)) (rfl : nI i4 = nI i4))]; exact vp_in_nI (by omega : (7 * rk i2 i3) + i4 < 700) (by decide)) dX6_digest_105 ?_
                            rw [show ((nI (7 * rk i2 i3)) + (nI i4) : Int32).toNatClampNeg = (7 * rk i2 i3) + i4 from (congrArg Int32.toNatClampNeg (ix_add (rfl : nI (7 * rk i2 i3) = nI (7 * rk i2 i3)) (rfl : nI i4 = nI i4))).trans (nI_clamp (by omega : (7 * rk i2 i3) + i4 < 2 ^ 31))]
                            rw [show σ 3 (7 * rk i2 i3 + i4) = figDS σ (rk i2 i3) (nI i4) from by rw [rdt hI hk_67 (by omega), if_pos hrs]]
                            refine lv_i2l (v := (figDS σ (rk i2 i3) (nI i4) : Int32).toInt64) hx hb dX6_digest_106 rfl ?_
                            refine lv_ladd hx hb dX6_digest_107 ?_
                            refine lv_lstore_n (lv' := [(1, .long ((ac4 * 31) + ((figDS σ (rk i2 i3) (nI i4) : Int32).toInt64))), (0, .ref (rf 0)), (3, .int (nI i2)), (4, .int (nI i3)), (5, .int (nI i4))]) hx hb dX6_digest_108 rfl hl (by decide) rfl (fun ls hl => ?_)
                            refine lv_iinc (v := nI (i4 + 1)) (lv' := [(5, .int (nI (i4 + 1))), (1, .long ((ac4 * 31) + ((figDS σ (rk i2 i3) (nI i4) : Int32).toInt64))), (0, .ref (rf 0)), (3, .int (nI i2)), (4, .int (nI i3))]) hx hb dX6_digest_109 hl (k := 4) rfl (nI_1 i4) (by decide) rfl (fun ls hl => ?_)
                            refine lv_goto (tgt := 80) hx hb dX6_digest_112 (by decide) ?_
                            exact ih80 (i4 + 1) ((ac4 * 31) + ((figDS σ (rk i2 i3) (nI i4) : Int32).toInt64)) (by omega) (by omega) (by rw [haac4]; rfl) ls (lv_sub hl [2, 3, 4, 0, 1] rfl)
                      exact loop80 (7 + 1 - 0) 0 ac3 (by omega) (by omega) (by rw [haac3]; rfl) ls (lv_sub hl [1, 2, 3, 0, 4] rfl)
                    · -- not taken
                      have hrs : ¬ σ 3 (7 * rk i2 i3) = 1 := by rw [c_71]; decide
                      refine lv_goto (tgt := 115) hx hb dX6_digest_74 (by decide) ?_
                      refine lv_iinc (v := nI (i3 + 1)) (lv' := [(4, .int (nI (i3 + 1))), (0, .ref (rf 0)), (3, .int (nI i2)), (1, .long ac3)]) hx hb dX6_digest_115 hl (k := 2) rfl (nI_1 i3) (by decide) rfl (fun ls hl => ?_)
                      refine lv_goto (tgt := 51) hx hb dX6_digest_118 (by decide) ?_
                      exact ih51 (i3 + 1) ac3 (by omega) (by omega) (by omega) (by rw [haac3]; exact (if_neg (fun z => hrs z.2)).symm) ls (lv_sub hl [1, 2, 0, 3] rfl)
              exact loop51 (nT σ + 1 - (i2 + 1)) (i2 + 1) ac2 (by omega) (by omega) (by omega) (by rw [haac2]; exact (dgD1_lo (Nat.le_refl _)).symm) ls (lv_sub hl [1, 2, 0, 3] rfl)
        exact loop38 (nT σ + 1 - 0) 0 ac1 (by omega) (by omega) (by rw [haac1, he11]; rfl) ls (lv_sub hl [1, 0, 2] rfl)
      · -- not taken
        have nc_14 : ¬ 11 ≤ i1 := fun z => c_14 ((nI_leI (a := 11) (b := i1) (by omega) (by omega)).mpr z)
        have hlt11 : i1 < 11 := by omega
        refine lv_lload_n hx hb dX6_digest_17 rfl (lv_at hl 2 rfl) ?_
        refine lv_ldc2 (v := 31) hx hb hown (hts _ w_1109) dX6_digest_18 ?_
        refine lv_lmul hx hb dX6_digest_21 ?_
        refine lv_aload_n hx hb dX6_digest_22 rfl (lv_at hl 0 rfl) ?_
        refine lv_iload_n hx hb dX6_digest_23 rfl (lv_at hl 1 rfl) ?_
        refine c_p1 (va_runV (As := [.int (nI i1)]) (rest := [.long (ac1 * 31)]) ⟨hx, hb, hml, hown, hts⟩ (c_X6_counted l D ct Z σ 0 bst rf (nI i1) hI) (cwV 1 hts (GG w_1078 w_1080 w_55 w_65 w_1081) rfl rfl rfl (by decide) ⟨Nat.le_of_ble_eq_true rfl, Nat.le_of_ble_eq_true rfl⟩) ⟨(blindT fun _ _ _ _ h => h), Ob.recv (hT).1 hP2.o rfl, fun U hU hW => ⟨rfl, hT.warm hW, by rw [hU]; exact hP2⟩⟩ rfl rfl hl.1 rfl (lv_room (Nat.le_of_ble_eq_true rfl)) dX6_digest_24 ⟨Nat.le_of_ble_eq_true rfl, Nat.le_of_ble_eq_true rfl⟩) ?_
        refine lv_i2l (v := (figL σ (nI i1) : Int32).toInt64) hx hb dX6_digest_27 rfl ?_
        refine lv_ladd hx hb dX6_digest_28 ?_
        refine lv_lstore_n (lv' := [(1, .long ((ac1 * 31) + ((figL σ (nI i1) : Int32).toInt64))), (0, .ref (rf 0)), (3, .int (nI i1))]) hx hb dX6_digest_29 rfl hl (by decide) rfl (fun ls hl => ?_)
        refine lv_iinc (v := nI (i1 + 1)) (lv' := [(3, .int (nI (i1 + 1))), (1, .long ((ac1 * 31) + ((figL σ (nI i1) : Int32).toInt64))), (0, .ref (rf 0))]) hx hb dX6_digest_30 hl (k := 2) rfl (nI_1 i1) (by decide) rfl (fun ls hl => ?_)
        refine lv_goto (tgt := 11) hx hb dX6_digest_33 (by decide) ?_
        exact ih11 (i1 + 1) ((ac1 * 31) + ((figL σ (nI i1) : Int32).toInt64)) (by omega) (by omega) (by rw [haac1]; rfl) ls (lv_sub hl [2, 0, 1] rfl)
  exact loop11 (11 + 1 - 0) 0 499 (by omega) (by omega) rfl ls (lv_sub hl [2, 0, 1] rfl)

/-! X6_hearsay -/
set_option maxHeartbeats 4000000 in
set_option maxRecDepth 100000 in
theorem c_X6_hearsay (l : Launch) (D : va_G) (ct : Nat → ClassId) (Z : Nat → Prop) (σ : Stt) (th : Int32) (bst : Nat → Int64) (rf : Nat → Nat) (hI : Inv σ) : MetD lw_cs l yX6_hearsay (.code yX6_hearsay cX6_hearsay 4 (some .double) :: GW) ({ frames := 1, cells := 0, slots := 0, locals := 22 } : Room) (va_Pc [.ref (rf 0)] (fun U => GT D ct U ∧ (∀ q, Z q → q < U.heap.size) ∧ RP D ct Z σ th bst rf U.heap)) (qS1 Z (fun x h => ∃ r, x = .double r ∧ hsR (hsD σ) (hsN σ) r ∧ RP D ct Z σ 0 bst rf h)) 0 0 (nZ Z) := by
  refine m_inD (cc := cX6_hearsay) [.ref (rf 0)] "RumourCustomsModel" rfl (by decide) (Nat.le_of_ble_eq_true rfl) ?_
  intro pg e s m args below meth cd ls hx hb hml hown hts hr hlocks hin hPr hl
  obtain ⟨hT, hZs, hP⟩ := hPr
  have hl : lv_has ls 4 [(0, .ref (rf 0))] := hl
  have hS : va_S (nZ Z) s.heap s.heap [] := va_S.rf
  have hT1 := hI.1.1
  have hT10 := hI.1.2
  have hR1 := hI.2.1.1
  have hR60 := hI.2.1.2
  have hC1 := hI.2.2.1.1
  have hC8 := hI.2.2.1.2
  refine lv_aload_n hx hb dX6_hearsay_0 rfl (lv_at hl 0 rfl) ?_
  refine lv_iconst (v := 0) hx hb dX6_hearsay_1 (by decide) ?_
  refine k_put (C := RX6) (T := TX6) (N := 14) hx hb hts inGX6 tyX6 tyX6_ok nmX6 hown (hT).1 hP.o hS (hP.nz (by decide)) rfl 0 (Nat.le_of_ble_eq_true rfl) (hts _ w_872) (fun _ h9 => h9) rfl (ty := .int) (v := .int 0) (by decide +kernel) rfl rfl (Nat.le_of_ble_eq_true rfl) dX6_hearsay_2 (fun H2 locs2 hO2 hz2 hq2 hS2 => ?_)
  have hO2 : Ob D (rf 0) 7 [.int 0, .int (σ 0 0), .int (σ 0 1), .int (σ 0 2), .int (σ 0 3), .int (σ 0 4), .int (σ 0 5), .int (σ 0 6), .int (σ 0 7), .int (σ 0 8), .ref (rf 1), .ref (rf 2), .ref (rf 3), .ref (rf 4)] H2 := hO2
  have hP2 : RP D ct Z (σ) (0) bst rf H2 := hP.st 0 hO2 hq2
  refine lv_iconst (v := 0) hx hb dX6_hearsay_5 (by decide) ?_
  refine lv_istore_n (lv' := [(1, .int 0), (0, .ref (rf 0))]) hx hb dX6_hearsay_6 rfl hl (by decide) rfl (fun ls hl => ?_)
  refine lv_iconst (v := 0) hx hb dX6_hearsay_7 (by decide) ?_
  refine lv_istore_n (lv' := [(2, .int 0), (1, .int 0), (0, .ref (rf 0))]) hx hb dX6_hearsay_8 rfl hl (by decide) rfl (fun ls hl => ?_)
  refine lv_iconst (v := 0) hx hb dX6_hearsay_9 (by decide) ?_
  refine lv_istore_n (lv' := [(3, .int 0), (2, .int 0), (1, .int 0), (0, .ref (rf 0))]) hx hb dX6_hearsay_10 rfl hl (by decide) rfl (fun ls hl => ?_)
  have loop11 : ∀ (n11 i : Nat) (acs : Int32) (acn : Int32), i ≤ nR σ → nR σ - i < n11 → acs = sm (fun r => if ¬ σ 1 (7 * r + 4) = -1 then σ 1 (7 * r + 1) else 0) i → acn = sm (fun r => b2 (¬ σ 1 (7 * r + 4) = -1)) i → ∀ ls, lv_has ls 4 [(0, .ref (rf 0)), (3, .int (nI i)), (1, .int acs), (2, .int acn)] → W pg l e ({ frames := 1, cells := 0, slots := 0, locals := 22 } : Room) s m args below meth cd H2 locs2 0 0 (MQD lw_cs below (qS1 Z (fun x h => ∃ r, x = .double r ∧ hsR (hsD σ) (hsN σ) r ∧ RP D ct Z σ 0 bst rf h)) args s 0 0 (nZ Z)) (F0 m 11 ls []) := by
    intro n11
    induction n11 with
    | zero => intro i acs acn _ z; omega
    | succ n11 ih11 =>
      intro i acs acn hi11 hn11 haacs haacn ls hl
      refine lv_iload_n hx hb dX6_hearsay_11 rfl (lv_at hl 1 rfl) ?_
      refine lv_aload_n hx hb dX6_hearsay_12 rfl (lv_at hl 0 rfl) ?_
      refine k_get (C := RX6) (T := TX6) (N := 14) hx hb hts inGX6 hown (hT).1 hP2.o rfl 4 (by decide) (hts _ w_876) (fun _ h9 => h9) (v := .int (σ 0 3)) rfl dX6_hearsay_13 ?_
      rw [hR1]
      refine lv_icmp_ge (tgt := 50) hx hb dX6_hearsay_16 (by decide) (fun c_16 => ?_) (fun c_16 => ?_)
      · -- taken
        have nc_16 : (nR σ) ≤ i := (nI_leI (a := (nR σ)) (b := i) (by omega) (by omega)).mp c_16
        have he11 : i = nR σ := by omega
        refine lv_iload_n hx hb dX6_hearsay_50 rfl (lv_at hl 3 rfl) ?_
        refine lv_if_ne (tgt := 58) hx hb dX6_hearsay_51 (by decide) (fun c_51 => ?_) (fun c_51 => ?_)
        · -- taken
          have hq1 : acs = hsD σ := by rw [haacs, he11]; rfl
          have hq2 : acn = hsN σ := by rw [haacn, he11]; rfl
          refine lv_iload_n hx hb dX6_hearsay_58 rfl (lv_at hl 2 rfl) ?_
          refine lv_i2d hx hb dX6_hearsay_59 ?_
          refine lv_iload_n hx hb dX6_hearsay_60 rfl (lv_at hl 3 rfl) ?_
          refine lv_i2d hx hb dX6_hearsay_61 ?_
          refine W.base ?_
          refine lv_ddiv_any (Drawn.sameBut.refl s.drawn lw_cs) lw_bits hx hb dX6_hearsay_62 (fun r d1 hal hd1 => ?_)
          refine W.endD hd1 ?_
          exact W.dret (v := r) hx hb hr (fun t ht hW => ⟨_, rfl, by rw [ht]; exact ⟨_, rfl, (Or.inr ⟨by rw [← hq2]; exact c_51, by rw [← hq1, ← hq2]; exact hal⟩), hP2⟩, hS2.F ht⟩) (fun z h => hS2.2.2 z h) dX6_hearsay_63
        · -- not taken
          have hq1 : acs = hsD σ := by rw [haacs, he11]; rfl
          have hq2 : acn = hsN σ := by rw [haacn, he11]; rfl
          refine lv_dconst0 hx hb dX6_hearsay_54 ?_
          refine lv_goto (tgt := 63) hx hb dX6_hearsay_55 (by decide) ?_
          refine W.base ?_
          refine W.endD (Drawn.sameBut.refl s.drawn lw_cs) ?_
          exact W.dret (v := FP.dconst0) hx hb hr (fun t ht hW => ⟨_, rfl, by rw [ht]; exact ⟨_, rfl, (Or.inl ⟨by rw [← hq2]; exact c_51, rfl⟩), hP2⟩, hS2.F ht⟩) (fun z h => hS2.2.2 z h) dX6_hearsay_63
      · -- not taken
        have nc_16 : ¬ (nR σ) ≤ i := fun z => c_16 ((nI_leI (a := (nR σ)) (b := i) (by omega) (by omega)).mpr z)
        have hlt11 : i < nR σ := by omega
        refine lv_aload_n hx hb dX6_hearsay_19 rfl (lv_at hl 0 rfl) ?_
        refine lv_iload_n hx hb dX6_hearsay_20 rfl (lv_at hl 1 rfl) ?_
        refine lv_iconst (v := 4) hx hb dX6_hearsay_21 (by decide) ?_
        refine c_p1 (va_runV (As := [.int (nI i), .int 4]) (rest := []) ⟨hx, hb, hml, hown, hts⟩ (c_X6_get l D ct Z σ 0 bst rf i 4 4 (by omega) rfl (by decide)) (cwV 2 hts (GG w_965 w_967 w_39 w_65 w_968) rfl rfl rfl (by decide) ⟨Nat.le_of_ble_eq_true rfl, Nat.le_of_ble_eq_true rfl⟩) ⟨(blindT fun _ _ _ _ h => h), Ob.recv (hT).1 hP2.o rfl, fun U hU hW => ⟨rfl, hT.warm hW, by rw [hU]; exact hP2⟩⟩ rfl rfl hl.1 rfl (lv_room (Nat.le_of_ble_eq_true rfl)) dX6_hearsay_22 ⟨Nat.le_of_ble_eq_true rfl, Nat.le_of_ble_eq_true rfl⟩) ?_
        refine lv_iconst (v := (-1)) hx hb dX6_hearsay_25 (by decide) ?_
        refine lv_icmp_ne (tgt := 32) hx hb dX6_hearsay_26 (by decide) (fun c_26 => ?_) (fun c_26 => ?_)
        · -- taken
          refine lv_iload_n hx hb dX6_hearsay_32 rfl (lv_at hl 2 rfl) ?_
          refine lv_aload_n hx hb dX6_hearsay_33 rfl (lv_at hl 0 rfl) ?_
          refine lv_iload_n hx hb dX6_hearsay_34 rfl (lv_at hl 1 rfl) ?_
          refine lv_iconst (v := 1) hx hb dX6_hearsay_35 (by decide) ?_
          refine c_p1 (va_runV (As := [.int (nI i), .int 1]) (rest := [.int acs]) ⟨hx, hb, hml, hown, hts⟩ (c_X6_get l D ct Z σ 0 bst rf i 1 1 (by omega) rfl (by decide)) (cwV 2 hts (GG w_965 w_967 w_39 w_65 w_968) rfl rfl rfl (by decide) ⟨Nat.le_of_ble_eq_true rfl, Nat.le_of_ble_eq_true rfl⟩) ⟨(blindT fun _ _ _ _ h => h), Ob.recv (hT).1 hP2.o rfl, fun U hU hW => ⟨rfl, hT.warm hW, by rw [hU]; exact hP2⟩⟩ rfl rfl hl.1 rfl (lv_room (Nat.le_of_ble_eq_true rfl)) dX6_hearsay_36 ⟨Nat.le_of_ble_eq_true rfl, Nat.le_of_ble_eq_true rfl⟩) ?_
          refine lv_iadd hx hb dX6_hearsay_39 ?_
          refine lv_istore_n (lv' := [(1, .int (acs + (σ 1 (7 * i + 1)))), (0, .ref (rf 0)), (3, .int (nI i)), (2, .int acn)]) hx hb dX6_hearsay_40 rfl hl (by decide) rfl (fun ls hl => ?_)
          refine lv_iinc (v := acn + 1) (lv' := [(2, .int (acn + 1)), (1, .int (acs + (σ 1 (7 * i + 1)))), (0, .ref (rf 0)), (3, .int (nI i))]) hx hb dX6_hearsay_41 hl (k := 3) rfl rfl (by decide) rfl (fun ls hl => ?_)
          refine lv_iinc (v := nI (i + 1)) (lv' := [(3, .int (nI (i + 1))), (2, .int (acn + 1)), (1, .int (acs + (σ 1 (7 * i + 1)))), (0, .ref (rf 0))]) hx hb dX6_hearsay_44 hl (k := 3) rfl (nI_1 i) (by decide) rfl (fun ls hl => ?_)
          refine lv_goto (tgt := 11) hx hb dX6_hearsay_47 (by decide) ?_
          exact ih11 (i + 1) (acs + (σ 1 (7 * i + 1))) (acn + 1) (by omega) (by omega) (sm_t haacs (if_pos c_26)) (sm_t haacn (b2_t c_26)) ls (lv_sub hl [3, 0, 2, 1] rfl)
        · -- not taken
          refine lv_goto (tgt := 44) hx hb dX6_hearsay_29 (by decide) ?_
          refine lv_iinc (v := nI (i + 1)) (lv' := [(3, .int (nI (i + 1))), (0, .ref (rf 0)), (1, .int acs), (2, .int acn)]) hx hb dX6_hearsay_44 hl (k := 1) rfl (nI_1 i) (by decide) rfl (fun ls hl => ?_)
          refine lv_goto (tgt := 11) hx hb dX6_hearsay_47 (by decide) ?_
          exact ih11 (i + 1) acs acn (by omega) (by omega) (sm_z haacs (if_neg (fun z => z c_26))) (sm_z haacn (b2_f (fun z => z c_26))) ls (lv_sub hl [1, 0, 2, 3] rfl)
  exact loop11 (nR σ + 1 - 0) 0 0 0 (by omega) (by omega) rfl rfl ls (lv_sub hl [3, 0, 2, 1] rfl)

/-! X5_hearsay -/
set_option maxHeartbeats 4000000 in
set_option maxRecDepth 100000 in
theorem c_X5_hearsay (l : Launch) (D : va_G) (ct : Nat → ClassId) (Z : Nat → Prop) (dc : Nat) (σ : Stt) (ad : Nat → Nat) : MetD lw_cs l yX5_hearsay (.code yX5_hearsay cX5_hearsay 5 (some .double) :: GW) ({ frames := 3, cells := 0, slots := 0, locals := 64 } : Room) (va_Pc [.ref (ad 0)] (fun U => GT D ct U ∧ Pic D ct Z dc σ ad U.heap)) (qS1 Z (fun x h => ∃ r, x = .double r ∧ hsR (hsD σ) (hsN σ) r ∧ Pic D ct Z dc σ ad h)) 0 0 (nZ Z) := by
  refine m_inD (cc := cX5_hearsay) [.ref (ad 0)] "RumourCustoms" rfl (by decide) (Nat.le_of_ble_eq_true rfl) ?_
  intro pg e s m args below meth cd ls hx hb hml hown hts hr hlocks hin hPr hl
  obtain ⟨hT, hP⟩ := hPr
  have hl : lv_has ls 5 [(0, .ref (ad 0))] := hl
  have hS : va_S (nZ Z) s.heap s.heap [] := va_S.rf
  have hn := hP.2.2.2.1
  have hnC := hP.2.2.2.2
  refine lv_iconst (v := 0) hx hb dX5_hearsay_0 (by decide) ?_
  refine lv_istore_n (lv' := [(1, .int 0), (0, .ref (ad 0))]) hx hb dX5_hearsay_1 rfl hl (by decide) rfl (fun ls hl => ?_)
  refine lv_iconst (v := 0) hx hb dX5_hearsay_2 (by decide) ?_
  refine lv_istore_n (lv' := [(2, .int 0), (1, .int 0), (0, .ref (ad 0))]) hx hb dX5_hearsay_3 rfl hl (by decide) rfl (fun ls hl => ?_)
  refine lv_iconst (v := 0) hx hb dX5_hearsay_4 (by decide) ?_
  refine lv_istore_n (lv' := [(3, .int 0), (2, .int 0), (1, .int 0), (0, .ref (ad 0))]) hx hb dX5_hearsay_5 rfl hl (by decide) rfl (fun ls hl => ?_)
  have loop6 : ∀ (n6 i : Nat) (acs : Int32) (acn : Int32), i ≤ nR σ → nR σ - i < n6 → acs = sm (fun r => if ¬ σ 1 (7 * r + 4) = -1 then σ 1 (7 * r + 1) else 0) i → acn = sm (fun r => b2 (¬ σ 1 (7 * r + 4) = -1)) i → ∀ ls, lv_has ls 5 [(0, .ref (ad 0)), (3, .int (nI i)), (2, .int acs), (1, .int acn)] → W pg l e ({ frames := 3, cells := 0, slots := 0, locals := 64 } : Room) s m args below meth cd s.heap [] 0 0 (MQD lw_cs below (qS1 Z (fun x h => ∃ r, x = .double r ∧ hsR (hsD σ) (hsN σ) r ∧ Pic D ct Z dc σ ad h)) args s 0 0 (nZ Z)) (F0 m 6 ls []) := by
    intro n6
    induction n6 with
    | zero => intro i acs acn _ z; omega
    | succ n6 ih6 =>
      intro i acs acn hi6 hn6 haacs haacn ls hl
      refine lv_iload_n hx hb dX5_hearsay_6 rfl (lv_at hl 1 rfl) ?_
      refine lv_aload_n hx hb dX5_hearsay_7 rfl (lv_at hl 0 rfl) ?_
      refine k_get (C := RX5) (T := TX5) (N := 11) hx hb hts inGX5 hown (hT).1 hP.o0 rfl 2 (by decide) (hts _ w_149) (fun _ h9 => h9) (v := .ref (ad 6)) rfl dX5_hearsay_8 ?_
      refine c_p1 (va_runV (As := []) (rest := [.int (nI i)]) ⟨hx, hb, hml, hown, hts⟩ (c_Jx4a65c_size_8abf5 l D ct (ad 6) (σ 6 0) (ad 8) (nI (nR σ))) (cwV 0 hts (GG w_185 w_186 w_187 w_64 w_188) rfl rfl rfl (by decide) ⟨Nat.le_of_ble_eq_true rfl, Nat.le_of_ble_eq_true rfl⟩) ⟨(blindT fun _ _ _ _ h => h), Ob.recv (hT).1 hP.o6 rfl, fun U hU hW => ⟨rfl, hT.warm hW, by rw [hU]; exact hP.o6⟩⟩ rfl rfl hl.1 rfl (lv_room (Nat.le_of_ble_eq_true rfl)) dX5_hearsay_11 ⟨Nat.le_of_ble_eq_true rfl, Nat.le_of_ble_eq_true rfl⟩) ?_
      refine lv_icmp_ge (tgt := 56) hx hb dX5_hearsay_14 (by decide) (fun c_14 => ?_) (fun c_14 => ?_)
      · -- taken
        have nc_14 : (nR σ) ≤ i := (nI_leI (a := (nR σ)) (b := i) (by omega) (by omega)).mp c_14
        have he6 : i = nR σ := by omega
        refine lv_iload_n hx hb dX5_hearsay_56 rfl (lv_at hl 3 rfl) ?_
        refine lv_if_ne (tgt := 64) hx hb dX5_hearsay_57 (by decide) (fun c_57 => ?_) (fun c_57 => ?_)
        · -- taken
          have hq1 : acs = hsD σ := by rw [haacs, he6]; rfl
          have hq2 : acn = hsN σ := by rw [haacn, he6]; rfl
          refine lv_iload_n hx hb dX5_hearsay_64 rfl (lv_at hl 2 rfl) ?_
          refine lv_i2d hx hb dX5_hearsay_65 ?_
          refine lv_iload_n hx hb dX5_hearsay_66 rfl (lv_at hl 3 rfl) ?_
          refine lv_i2d hx hb dX5_hearsay_67 ?_
          refine W.base ?_
          refine lv_ddiv_any (Drawn.sameBut.refl s.drawn lw_cs) lw_bits hx hb dX5_hearsay_68 (fun r d1 hal hd1 => ?_)
          refine W.endD hd1 ?_
          exact W.dret (v := r) hx hb hr (fun t ht hW => ⟨_, rfl, by rw [ht]; exact ⟨_, rfl, (Or.inr ⟨by rw [← hq2]; exact c_57, by rw [← hq1, ← hq2]; exact hal⟩), hP⟩, hS.F ht⟩) (fun z h => hS.2.2 z h) dX5_hearsay_69
        · -- not taken
          have hq1 : acs = hsD σ := by rw [haacs, he6]; rfl
          have hq2 : acn = hsN σ := by rw [haacn, he6]; rfl
          refine lv_dconst0 hx hb dX5_hearsay_60 ?_
          refine lv_goto (tgt := 69) hx hb dX5_hearsay_61 (by decide) ?_
          refine W.base ?_
          refine W.endD (Drawn.sameBut.refl s.drawn lw_cs) ?_
          exact W.dret (v := FP.dconst0) hx hb hr (fun t ht hW => ⟨_, rfl, by rw [ht]; exact ⟨_, rfl, (Or.inl ⟨by rw [← hq2]; exact c_57, rfl⟩), hP⟩, hS.F ht⟩) (fun z h => hS.2.2 z h) dX5_hearsay_69
      · -- not taken
        have nc_14 : ¬ (nR σ) ≤ i := fun z => c_14 ((nI_leI (a := (nR σ)) (b := i) (by omega) (by omega)).mpr z)
        have hlt6 : i < nR σ := by omega
        refine lv_aload_n hx hb dX5_hearsay_17 rfl (lv_at hl 0 rfl) ?_
        refine k_get (C := RX5) (T := TX5) (N := 11) hx hb hts inGX5 hown (hT).1 hP.o0 rfl 2 (by decide) (hts _ w_149) (fun _ h9 => h9) (v := .ref (ad 6)) rfl dX5_hearsay_18 ?_
        refine lv_iload_n hx hb dX5_hearsay_21 rfl (lv_at hl 1 rfl) ?_
        refine c_p1 (va_runV (As := [.int (nI i)]) (rest := []) ⟨hx, hb, hml, hown, hts⟩ (c_Jx4a65c_get_915e3 l D ct (ad 6) (σ 6 0) (ad 8) (nI (nR σ)) (nI i) (nR σ) i (ad 20) (lq ad 100 (nR σ)) (ad (100 + i)) rfl rfl hlt6 hP.2.2.1.1.1 (by have := hP.2.2.1.1.2.1; omega) (if_pos hlt6)) (cwV 1 hts (GG w_189 w_190 w_191 w_64 w_192) rfl rfl rfl (by decide) ⟨Nat.le_of_ble_eq_true rfl, Nat.le_of_ble_eq_true rfl⟩) ⟨(blindT fun _ _ _ _ h => h), Ob.recv (hT).1 hP.o6 rfl, fun U hU hW => ⟨rfl, hT.warm hW, by rw [hU]; exact ⟨hP.o6, (hP.o8 (by omega))⟩⟩⟩ rfl rfl hl.1 rfl (lv_room (Nat.le_of_ble_eq_true rfl)) dX5_hearsay_22 ⟨Nat.le_of_ble_eq_true rfl, Nat.le_of_ble_eq_true rfl⟩) ?_
        refine va_castS hx hb hown (hts _ w_203) ((hT).1.1 4 _ rfl).2 (Ob.recv (hT).1 (hP.r hlt6) rfl) dX5_hearsay_25 ?_
        refine lv_astore (lv' := [(4, .ref (ad (100 + i))), (0, .ref (ad 0)), (3, .int (nI i)), (2, .int acs), (1, .int acn)]) hx hb dX5_hearsay_28 hl (by decide) rfl (fun ls hl => ?_)
        refine lv_aload hx hb dX5_hearsay_30 (lv_at hl 0 rfl) ?_
        refine k_get (C := RX3) (T := TX3) (N := 8) hx hb hts inGX3 hown (hT).1 (hP.r hlt6) rfl 5 (by decide) (hts _ w_479) (fun _ h9 => h9) (v := .int (σ 1 (7 * i + 4))) rfl dX5_hearsay_32 ?_
        refine lv_iconst (v := (-1)) hx hb dX5_hearsay_35 (by decide) ?_
        refine lv_icmp_eq (tgt := 50) hx hb dX5_hearsay_36 (by decide) (fun c_36 => ?_) (fun c_36 => ?_)
        · -- taken
          refine lv_iinc (v := nI (i + 1)) (lv' := [(3, .int (nI (i + 1))), (4, .ref (ad (100 + i))), (0, .ref (ad 0)), (2, .int acs), (1, .int acn)]) hx hb dX5_hearsay_50 hl (k := 2) rfl (nI_1 i) (by decide) rfl (fun ls hl => ?_)
          refine lv_goto (tgt := 6) hx hb dX5_hearsay_53 (by decide) ?_
          exact ih6 (i + 1) acs acn (by omega) (by omega) (sm_z haacs (if_neg (fun z => z c_36))) (sm_z haacn (b2_f (fun z => z c_36))) ls (lv_sub hl [2, 0, 3, 4] rfl)
        · -- not taken
          refine lv_iinc (v := acn + 1) (lv' := [(1, .int (acn + 1)), (4, .ref (ad (100 + i))), (0, .ref (ad 0)), (3, .int (nI i)), (2, .int acs)]) hx hb dX5_hearsay_39 hl (k := 4) rfl rfl (by decide) rfl (fun ls hl => ?_)
          refine lv_iload_n hx hb dX5_hearsay_42 rfl (lv_at hl 4 rfl) ?_
          refine lv_aload hx hb dX5_hearsay_43 (lv_at hl 1 rfl) ?_
          refine k_get (C := RX3) (T := TX3) (N := 8) hx hb hts inGX3 hown (hT).1 (hP.r hlt6) rfl 3 (by decide) (hts _ w_474) (fun _ h9 => h9) (v := .int (σ 1 (7 * i + 1))) rfl dX5_hearsay_45 ?_
          refine lv_iadd hx hb dX5_hearsay_48 ?_
          refine lv_istore_n (lv' := [(2, .int (acs + (σ 1 (7 * i + 1)))), (1, .int (acn + 1)), (4, .ref (ad (100 + i))), (0, .ref (ad 0)), (3, .int (nI i))]) hx hb dX5_hearsay_49 rfl hl (by decide) rfl (fun ls hl => ?_)
          refine lv_iinc (v := nI (i + 1)) (lv' := [(3, .int (nI (i + 1))), (2, .int (acs + (σ 1 (7 * i + 1)))), (1, .int (acn + 1)), (4, .ref (ad (100 + i))), (0, .ref (ad 0))]) hx hb dX5_hearsay_50 hl (k := 4) rfl (nI_1 i) (by decide) rfl (fun ls hl => ?_)
          refine lv_goto (tgt := 6) hx hb dX5_hearsay_53 (by decide) ?_
          exact ih6 (i + 1) (acs + (σ 1 (7 * i + 1))) (acn + 1) (by omega) (by omega) (sm_t haacs (if_pos c_36)) (sm_t haacn (b2_t c_36)) ls (lv_sub hl [4, 0, 1, 2] rfl)
  exact loop6 (nR σ + 1 - 0) 0 0 0 (by omega) (by omega) rfl rfl ls (lv_sub hl [3, 0, 1, 2] rfl)
