/-! THE LAW'S BODY: what stands at the loop's head, the calls, the script -/
section LAW2
def Zr (Z : Nat → Prop) (rf : Nat → Nat) : Nat → Prop := fun q => Z q ∨ ∃ i, i < 5 ∧ q = rf i
def Zq (H : Heap) (rf : Nat → Nat) : Nat → Prop := fun q => q < H.size ∧ ∀ i, i < 5 → q ≠ rf i
theorem RP.rez {D : va_G} {ct : Nat → ClassId} {Z Z' : Nat → Prop} {σ : Stt} {th : Int32} {bst : Nat → Int64} {rf : Nat → Nat} {H : Heap} (h : RP D ct Z σ th bst rf H) (hz : ∀ i, i < 5 → ¬ Z' (rf i)) : RP D ct Z' σ th bst rf H := ⟨fun i hi => ⟨(h.1 i hi).1, hz i hi⟩, h.2⟩
theorem RP.lt5 {D : va_G} {ct : Nat → ClassId} {Z : Nat → Prop} {σ : Stt} {th : Int32} {bst : Nat → Int64} {rf : Nat → Nat} {H : Heap} (h : RP D ct Z σ th bst rf H) {i : Nat} (hi : i < 5) : rf i < H.size := va_at.lt (h.1 i hi).1
theorem RP.keptZ {D : va_G} {ct : Nat → ClassId} {Z : Nat → Prop} {σ : Stt} {th : Int32} {bst : Nat → Int64} {rf : Nat → Nat} {H H1 : Heap} (h : RP D ct Z σ th bst rf H) (hq : ∀ i, i < 5 → H1[rf i]? = H[rf i]?) : RP D ct Z σ th bst rf H1 := ⟨fun i hi => ⟨va_at.kept (h.1 i hi).1 (hq i hi), (h.1 i hi).2⟩, h.2⟩
theorem Pic.keptZ {D : va_G} {ct : Nat → ClassId} {Z : Nat → Prop} {dc : Nat} {σ : Stt} {ad : Nat → Nat} {H H1 : Heap} (h : Pic D ct Z dc σ ad H) (hq : ∀ q : Nat, q < H.size → ¬ Z q → H1[q]? = H[q]?) : Pic D ct Z dc σ ad H1 := ⟨fun i hi => ⟨va_at.kept (h.1 i hi).1 (hq _ (va_at.lt (h.1 i hi).1) (h.1 i hi).2), (h.1 i hi).2⟩, h.2⟩
theorem IB.core {σ σ' : Stt} (h : IB σ) (h0 : SC σ σ') : IB σ' := by
  have e1 : σ' 1 = σ 1 := h0 1 (by decide)
  have e2 : σ' 2 = σ 2 := h0 2 (by decide)
  have e3 : σ' 3 = σ 3 := h0 3 (by decide)
  have g1 : σ' 0 1 = σ 0 1 := congrFun (h0 0 (by decide)) 1
  have g3 : σ' 0 3 = σ 0 3 := congrFun (h0 0 (by decide)) 3
  have g4 : σ' 0 4 = σ 0 4 := congrFun (h0 0 (by decide)) 4
  exact ⟨h.1.mk2 g1 g3 g4 (fun i hi => (h.1.2.2.2.1 i hi).cg (nR_eq g3) (nT_eq g1) (fun k _ _ => by rw [e1])) (fun i hi => (h.1.2.2.2.2.1 i hi).cg (nT_eq g1) (by rw [e2]) (by rw [e2])) (fun k hk => (h.1.2.2.2.2.2 k hk).cg (nT_eq g1) (fun j _ => by rw [e3])), h.2.same h.1.2.1.2 g3 (fun r _ => by rw [e1])⟩
/-- what stands at the loop's head -/
def WI (D : va_G) (ct : Nat → ClassId) (Z : Nat → Prop) (dc x0 : Nat) (rf : Nat → Nat) (oa : Nat) (H : Heap) : Prop :=
  ∃ (σ : Stt) (ad : Nat → Nat) (th : Int32) (bst : Nat → Int64) (g : Nat → Int64), IB σ ∧ ad 0 = x0 ∧ Pic D ct (Zo (Zr Z rf) oa) dc σ ad H ∧ RP D ct (Zo Z oa) σ th bst rf H ∧ Ar (ct 4) oa (rJ 1 g) H
theorem lg_cmp_self (x : Int64) : lg_cmp x x = 0 := by simp [lg_cmp]
theorem lg_cmp_0 {x y : Int64} (h : x = y) : lg_cmp x y = 0 := by rw [h]; exact lg_cmp_self y
theorem nI_0' {n : Nat} (hn : n < 4) (h : nI n = 0) : n = 0 := (nI_eq (a := n) (b := 0) (by omega) (by decide)).mp (h.trans nI_0.symm)
theorem b2_01 (P : Prop) [Decidable P] : b2 P = 0 ∨ b2 P = 1 := by
  by_cases h : P
  · exact Or.inr (b2_t h)
  · exact Or.inl (b2_f h)
theorem WGS {own : String} {idx : Nat} {y : MethodName} {bytes : ByteArray} {maxL : Nat} {ret : Option FieldType} {hh : List (Nat × Nat × Nat × Nat)} (h1 : Cond.methodLink own idx y ∈ GW) (h2 : Cond.static y ∈ GW) (h3 : Cond.initialized y.cls ∈ GW) (h5 : Cond.codeWith y bytes maxL ret hh ∈ GW) : GoodIn GW (va_wsS own idx y (.codeWith y bytes maxL ret hh :: GW)) := by
  intro w hw
  have hm : w ∈ GW := by
    simp only [va_wsS, List.cons_append, List.nil_append, List.mem_cons] at hw
    rcases hw with rfl | rfl | rfl | rfl | hw
    · exact h1
    · exact h2
    · exact h3
    · exact h5
    · exact hw
  exact ⟨hm, good_of_word (gwg w hm)⟩
section LAW2R
variable {p : Program} {l : Launch} {e : Env} {R : Room} {s : State} {m : MethodId} {args : Array Value} {below : List Frame} {meth : Method} {c : Code} {H : Heap} {locs : List Loc} {cells slots : Nat} {Q : State → Prop}
variable {pc : Nat} {ls : Array Slot} {rest st0 : List Value} {Z Zb : Nat → Prop} {mc ms : Nat} {ar : Array Value} {H0 : Heap} {cc : ByteArray}
theorem w_widen {k n : Nat} {g : JFrame} (h1 : cells ≤ k) (h2 : slots ≤ n) (kk : W p l e R s m args below meth c H locs k n Q g) : W p l e R s m args below meth c H locs cells slots Q g := fun T hT X => kk T hT (stand_widen X h1 h2)
theorem vaS_call2 {st₀ t T' : State} {L : List Loc} (hz : ∀ q, Zb q → Z q) (h0 : st₀.heap = H) (e1 : T'.heap = t.heap) (hS : va_S (nZ Zb) H0 H locs) (hL : ∀ q ∈ L, nZ Z q.base) (hF : va_F (nZ Z) st₀ t) : va_S (nZ Zb) H0 T'.heap (locs ++ L) := by
  obtain ⟨f1, f2⟩ := hF
  rw [h0] at f1 f2
  refine ⟨Nat.le_trans hS.1 (by rw [e1]; exact f1), fun q h1 h2 => ?_, fun q hq => ?_⟩
  · rw [e1, f2 q (Nat.lt_of_lt_of_le h1 hS.1) (fun z => h2 (fun y => z (hz q y)))]
    exact hS.2.1 q h1 h2
  · rcases List.mem_append.mp hq with h | h
    · exact hS.2.2 q h
    · exact fun z => hL q h (hz _ z)
theorem lw_s1 {Rl : Value → Heap → Prop} (hz : ∀ q, Zb q → Z q) (hr : va_Run p l e R s m args below meth c H locs cells slots mc ms (F0 m pc ls st0) rest (qS1 Z Rl ar) (nZ Z)) (hS : va_S (nZ Zb) H0 H locs)
    (kk : ∀ (x : Value) (H1 : Heap) (locs1 : List Loc), Rl x H1 → H.size ≤ H1.size → (∀ q : Nat, q < H.size → Z q → H1[q]? = H[q]?) → va_S (nZ Zb) H0 H1 locs1 → W p l e R s m args below meth c H1 locs1 (cells + mc) (slots + ms) Q (F0 m (pc + 3) ls (x :: rest))) : W p l e R s m args below meth c H locs cells slots Q (F0 m pc ls st0) := by
  intro T hT X
  obtain ⟨v, st₀, t, T', L, h0, X', hL, e1, e2, ⟨x, hv, hq, hF⟩, st⟩ := hr T hT X
  cases hv
  have hz1 := hF.1
  have hz2 := hF.2
  rw [h0] at hz1 hz2
  obtain ⟨t2, a1, b1⟩ := kk x T'.heap (locs ++ L) (by rw [e1]; exact hq) (by rw [e1]; exact hz1) (fun q h1 h2 => by rw [e1]; exact hz2 q h1 (fun z => z h2)) (vaS_call2 hz h0 e1 hS hL hF) T' rfl X'
  exact ⟨t2, st t2 a1, b1⟩
theorem lw_s1D {d0 : Drawn} {Rl : Value → Heap → Prop} (hd0 : s.drawn.sameBut d0 lw_cs) (hz : ∀ q, Zb q → Z q) (hr : va_RunD lw_cs p l e R (s.setDrawn d0) m args below meth c H locs cells slots mc ms (F0 m pc ls st0) rest (qS1 Z Rl ar) (nZ Z)) (hS : va_S (nZ Zb) H0 H locs)
    (kk : ∀ (x : Value) (H1 : Heap) (locs1 : List Loc) (d1 : Drawn), s.drawn.sameBut d1 lw_cs → Rl x H1 → H.size ≤ H1.size → (∀ q : Nat, q < H.size → Z q → H1[q]? = H[q]?) → va_S (nZ Zb) H0 H1 locs1 → W p l e R (s.setDrawn d1) m args below meth c H1 locs1 (cells + mc) (slots + ms) Q (F0 m (pc + 3) ls (x :: rest))) : W p l e R (s.setDrawn d0) m args below meth c H locs cells slots Q (F0 m pc ls st0) := by
  intro T hT X
  obtain ⟨v, st₀, t, T', L, d', hd', h0, X', hL, e1, e2, ⟨x, hv, hq, hF⟩, st⟩ := hr T hT X
  cases hv
  have hz1 := hF.1
  have hz2 := hF.2
  rw [h0] at hz1 hz2
  obtain ⟨t2, a1, b1⟩ := kk x T'.heap (locs ++ L) d' (hd0.trans hd') (by rw [e1]; exact hq) (by rw [e1]; exact hz1) (fun q h1 h2 => by rw [e1]; exact hz2 q h1 (fun z => z h2)) (vaS_call2 hz h0 e1 hS hL hF) T' rfl X'
  exact ⟨t2, st t2 a1, b1⟩
/-- a number of the script -/
theorem k_scr (hexec : p.tables.exec = Jvm.exec) (hb : c.code = cc) {b L i : Nat} {xs : Nat → Int32} (hX : va_X b L xs s H0) (hbl : b < H0.size) (hbz : Zb b) (hS : va_S (nZ Zb) H0 H locs) (hL : L ≤ 3584) (hi : i + 7 ≤ L) (k : Nat) (hk : k < 7) {v : Int32} (hv : v = nI k) (hdg : decode cc pc = .ok (.iaload, 1))
    (kk : W p l e R s m args below meth c H locs cells slots Q (F0 m (pc + 1) ls (.int (xs (i + k)) :: rest))) : W p l e R s m args below meth c H locs cells slots Q (F0 m pc ls (.int (nI i + v) :: .ref b :: rest)) := by
  subst hv
  rw [nI_add]
  refine va_sld hexec hb hX hbl (fun z => z hbz) hS (vp_in_nI (by omega) (by omega)) hdg ?_
  rw [nI_clamp (by omega)]
  exact kk
/-- not zero, as a boolean -/
theorem k_bool (hexec : p.tables.exec = Jvm.exec) (hb : c.code = cc) {v : Int32} (d0 : decode cc pc = .ok (.ifCond .eq 7, 3)) (d1 : decode cc (pc + 3) = .ok (.iconst 1, 1)) (d2 : decode cc (pc + 3 + 1) = .ok (.goto 4, 3)) (d3 : decode cc (pc + 7) = .ok (.iconst 0, 1))
    (kk : W p l e R s m args below meth c H locs cells slots Q (F0 m (pc + 8) ls (.int (b2 (¬ v = 0)) :: rest))) : W p l e R s m args below meth c H locs cells slots Q (F0 m pc ls (.int v :: rest)) := by
  refine lv_if_eq (tgt := pc + 7) hexec hb d0 (by omega) (fun h => ?_) (fun h => ?_)
  · refine lv_iconst (v := 0) hexec hb d3 (by decide) ?_
    rw [b2_f (fun z => z h)] at kk
    exact kk
  · refine lv_iconst (v := 1) hexec hb d1 (by decide) ?_
    refine lv_goto (tgt := pc + 8) hexec hb d2 (by omega) ?_
    rw [b2_t h] at kk
    exact kk
end LAW2R
theorem WI_lt {D : va_G} {ct : Nat → ClassId} {Z : Nat → Prop} {dc : Nat} {U : State} {H0 H : Heap} {locs : List Loc} {σ : Stt} {th : Int32} {bst : Nat → Int64} {rf : Nat → Nat} {Z2 : Nat → Prop} (hG : GF D ct Z dc U H0) (hS : va_S (nZ Z) H0 H locs) (hR : RP D ct Z2 σ th bst rf H) : ∀ q, Zr Z rf q → q < H.size := fun q z => z.elim (fun z => Nat.lt_of_lt_of_le (hG.1 q z) hS.1) (fun ⟨i, hi, e⟩ => by rw [e]; exact hR.lt5 hi)
theorem cd_addTown (σ : Stt) : (o_addTown σ).1 < 4 := by
  unfold o_addTown
  repeat' split
  all_goals first | exact (by decide : (0 : Nat) < 4) | exact (by decide : (1 : Nat) < 4) | exact (by decide : (2 : Nat) < 4) | exact (by decide : (3 : Nat) < 4)
set_option maxHeartbeats 4000000 in
set_option maxRecDepth 100000 in
/-- addTown -/
theorem lw_addTown {p : Program} {l : Launch} {e : Env} {s : State} {m : MethodId} {args : Array Value} {below : List Frame} {meth : Method} {c : Code} {H : Heap} {locs : List Loc} {cells slots : Nat} {Q : State → Prop} {ls : Array Slot} {b L i : Nat} {xs : Nat → Int32} {D : va_G} {ct : Nat → ClassId} {Z : Nat → Prop} {dc x0 : Nat} {rf : Nat → Nat} {oa : Nat} (hown : s.vm.findClass "RumourCustomsLaw" = some m.cls) (hts : ∀ w ∈ GW, w.before args s = true) (hG : GF D ct Z dc s s.heap) (hX : va_X b L xs s s.heap) (hbl : b < s.heap.size) (hS : va_S (nZ Z) s.heap H locs) (hx : p.tables.exec = Jvm.exec) (hb : c.code = cL_law) (hml : c.maxLocals = 9) (hst : l.stackTraces = false) (hzo : ¬ Zr Z rf oa) (hL : L ≤ 3584) (hi : i + 7 ≤ L) (hbz : Z b) (hW : WI D ct Z dc x0 rf oa H) (hc : cells + 8 ≤ 601024) (hsl : slots + 1039 ≤ 7293034) (hl : lv_has ls 9 [(0, .ref b), (1, .ref x0), (2, .ref (rf 0)), (3, .ref oa), (4, .int (nI i))])
    (kk : ∀ (H1 : Heap) (locs1 : List Loc), va_S (nZ Z) s.heap H1 locs1 → WI D ct Z dc x0 rf oa H1 → ∀ ls, lv_has ls 9 [(0, .ref b), (1, .ref x0), (2, .ref (rf 0)), (3, .ref oa), (4, .int (nI i))] → W p l e room_1 s m args below meth c H1 locs1 (cells + 8) (slots + 1039) Q (F0 m 1589 ls [])) : W p l e room_1 s m args below meth c H locs cells slots Q (F0 m 140 ls []) := by
  obtain ⟨σ, ad, th, bst, g, hI, rfl, hP, hR, hA⟩ := hW
  have hlt := WI_lt hG hS hR
  refine lv_aload_n hx hb dL_law_140 rfl (lv_at hl 1 rfl) ?_
  refine lv_aload_n hx hb dL_law_141 rfl (lv_at hl 3 rfl) ?_
  refine lw_s1 (Zb := Z) (Z := Zr Z rf) (fun q z => Or.inl z) (vx_runSW (As := [.ref (ad 0), .ref oa]) (rest := []) ⟨hx, hb, hml, hown, hts⟩ (c_L_addTown l D ct (Zr Z rf) dc σ ad hst oa g hI.1 hzo) (vx_cwSW 2 hts (WGS w_282 w_283 w_58 w_284) rfl rfl rfl (by decide) ⟨Nat.le_of_ble_eq_true rfl, Nat.le_of_ble_eq_true rfl⟩) ⟨(blindF fun _ _ _ _ h => h), fun U hU hW => ⟨rfl, (hG.up hW hS hU).sub (fun q z => Or.inl z) (by rw [hU]; exact hlt), by rw [hU]; exact ⟨hP, hA⟩⟩⟩ rfl rfl hl.1 rfl (lv_room (Nat.le_of_ble_eq_true rfl)) dL_law_142 ⟨show _ ≤ 601024 by omega, show _ ≤ 7293034 by omega⟩) hS (fun x H1 locs1 hQ hzz hk1 hS1 => ?_)
  obtain ⟨rfl, σ1, ad1, g1, hsc, had, hP1, hA1, hg1⟩ := hQ
  have hR1 := hR.keptZ (fun i hi => hk1 _ (hR.lt5 hi) (Or.inr ⟨i, hi, rfl⟩))
  have hzq : ∀ q, Z q → Zq H1 rf q := fun q z => ⟨Nat.lt_of_lt_of_le (hG.1 q z) hS1.1, fun i hi z2 => hR.nz hi (Or.inl (by rw [← z2]; exact z))⟩
  refine lv_istore (lv' := [(5, .int (nI (o_addTown σ).1)), (0, .ref b), (1, .ref (ad 0)), (2, .ref (rf 0)), (3, .ref oa), (4, .int (nI i))]) hx hb dL_law_145 hl (by decide) rfl (fun ls hl => ?_)
  refine lv_aload_n hx hb dL_law_147 rfl (lv_at hl 3 rfl) ?_
  refine lw_s1 (Zb := Z) (Z := Zq H1 rf) hzq (va_runV (As := []) (rest := []) ⟨hx, hb, hml, hown, hts⟩ (c_X6_addTown l D ct (Zq H1 rf) σ th bst rf hI.1) (cwV 0 hts (GG w_920 w_921 w_922 w_65 w_923) rfl rfl rfl (by decide) ⟨Nat.le_of_ble_eq_true rfl, Nat.le_of_ble_eq_true rfl⟩) ⟨(blindT fun _ _ _ _ h => h), Ob.recv (hG.2.1).1 hR1.o rfl, fun U hU hW => ⟨rfl, hG.2.1.warm hW, fun q z => by rw [hU]; exact z.1, by rw [hU]; exact hR1.rez (fun i hi z => z.2 i hi rfl)⟩⟩ rfl rfl hl.1 rfl (lv_room (Nat.le_of_ble_eq_true rfl)) dL_law_148 ⟨show _ ≤ 601024 by omega, show _ ≤ 7293034 by omega⟩) hS1 (fun x H2 locs2 hQ2 hzz2 hk2 hS2 => ?_)
  obtain ⟨rfl, b1, hR2⟩ := hQ2
  have hP2 := hP1.keptZ (fun q h1 h2 => hk2 q h1 ⟨h1, fun i hi z => h2 (Or.inl (Or.inr ⟨i, hi, z⟩))⟩)
  have hA2 := hA1.kept (hk2 _ hA1.lt ⟨hA1.lt, fun i hi z => hzo (Or.inr ⟨i, hi, z⟩)⟩)
  have hR3 := (hR2.rez (fun i hi => hR.nz hi)).core hsc
  have hI1 := (IB_addTown hI).core hsc
  refine lv_istore (lv' := [(6, .int (o_addTown σ).2.1), (5, .int (nI (o_addTown σ).1)), (0, .ref b), (1, .ref (ad 0)), (2, .ref (rf 0)), (3, .ref oa), (4, .int (nI i))]) hx hb dL_law_151 hl (by decide) rfl (fun ls hl => ?_)
  refine lv_aload_n hx hb dL_law_153 rfl (lv_at hl 4 rfl) ?_
  refine c_p1 (va_runV (As := []) (rest := []) ⟨hx, hb, hml, hown, hts⟩ (c_X6_thrown l D ct (Zo Z oa) σ1 _ b1 rf) (cwV 0 hts (GG w_916 w_917 w_918 w_65 w_919) rfl rfl rfl (by decide) ⟨Nat.le_of_ble_eq_true rfl, Nat.le_of_ble_eq_true rfl⟩) ⟨(blindT fun _ _ _ _ h => h), Ob.recv (hG.2.1).1 hR3.o rfl, fun U hU hW => ⟨rfl, hG.2.1.warm hW, by rw [hU]; exact hR3⟩⟩ rfl rfl hl.1 rfl (lv_room (Nat.le_of_ble_eq_true rfl)) dL_law_154 ⟨show _ ≤ 601024 by omega, show _ ≤ 7293034 by omega⟩) ?_
  refine lv_iload hx hb dL_law_157 (lv_at hl 1 rfl) ?_
  refine lv_icmp_eq (tgt := 164) hx hb dL_law_159 (by decide) (fun _ => ?_) (fun z => absurd rfl z)
  refine lv_iload hx hb dL_law_164 (lv_at hl 1 rfl) ?_
  have kend : ∀ ls, lv_has ls 9 [(6, .int (o_addTown σ).2.1), (5, .int (nI (o_addTown σ).1)), (0, .ref b), (1, .ref (ad 0)), (2, .ref (rf 0)), (3, .ref oa), (4, .int (nI i))] → W p l e room_1 s m args below meth c H2 locs2 (cells + 1 + 0 + 0) (slots + 6 + 0 + 0) Q (F0 m 1589 ls []) := fun ls hl => w_widen (k := cells + 8) (n := slots + 1039) (by omega) (by omega) (kk H2 locs2 hS2 ⟨σ1, ad1, _, b1, g1, hI1, had, hP2, hR3, hA2⟩ ls (lv_sub hl [2, 3, 4, 5, 6] rfl))
  refine lv_if_ne (tgt := 181) hx hb dL_law_166 (by decide) (fun z => ?_) (fun z => ?_)
  · refine lv_goto (tgt := 1589) hx hb dL_law_181 (by decide) ?_
    exact kend _ hl
  · have hz0 := nI_0' (cd_addTown σ) z
    refine lv_aload_n hx hb dL_law_169 rfl (lv_at hl 5 rfl) ?_
    refine lv_iconst (v := 0) hx hb dL_law_170 (by decide) ?_
    refine k_lald (s := s) hx hb hG.2.1.1 hA2 (vp_in_nI (by decide : 0 < 1) (by decide)) dL_law_171 ?_
    refine lv_iload hx hb dL_law_172 (lv_at hl 0 rfl) ?_
    refine lv_i2l (v := ((o_addTown σ).2.1 : Int32).toInt64) hx hb dL_law_174 rfl ?_
    refine W.lcmp hx hb dL_law_175 ?_
    refine lv_if_eq (tgt := 181) hx hb dL_law_176 (by decide) (fun _ => ?_) (fun z => absurd (lg_cmp_0 (hg1 hz0)) z)
    refine lv_goto (tgt := 1589) hx hb dL_law_181 (by decide) ?_
    exact kend _ hl

theorem cd_build (σ : Stt) (p0 p1 p2 p3 p4 p5 : Int32) : (o_build σ p0 p1 p2 p3 p4 p5).1 < 4 := by
  unfold o_build
  repeat' split
  all_goals first | exact (by decide : (0 : Nat) < 4) | exact (by decide : (1 : Nat) < 4) | exact (by decide : (2 : Nat) < 4) | exact (by decide : (3 : Nat) < 4)
set_option maxHeartbeats 4000000 in
set_option maxRecDepth 100000 in
/-- build -/
theorem lw_build {p : Program} {l : Launch} {e : Env} {s : State} {m : MethodId} {args : Array Value} {below : List Frame} {meth : Method} {c : Code} {H : Heap} {locs : List Loc} {cells slots : Nat} {Q : State → Prop} {ls : Array Slot} {b L i : Nat} {xs : Nat → Int32} {D : va_G} {ct : Nat → ClassId} {Z : Nat → Prop} {dc x0 : Nat} {rf : Nat → Nat} {oa : Nat} (hown : s.vm.findClass "RumourCustomsLaw" = some m.cls) (hts : ∀ w ∈ GW, w.before args s = true) (hG : GF D ct Z dc s s.heap) (hX : va_X b L xs s s.heap) (hbl : b < s.heap.size) (hS : va_S (nZ Z) s.heap H locs) (hx : p.tables.exec = Jvm.exec) (hb : c.code = cL_law) (hml : c.maxLocals = 9) (hst : l.stackTraces = false) (hzo : ¬ Zr Z rf oa) (hL : L ≤ 3584) (hi : i + 7 ≤ L) (hbz : Z b) (hW : WI D ct Z dc x0 rf oa H) (hc : cells + 8 ≤ 601024) (hsl : slots + 1039 ≤ 7293034) (hl : lv_has ls 9 [(0, .ref b), (1, .ref x0), (2, .ref (rf 0)), (3, .ref oa), (4, .int (nI i))])
    (kk : ∀ (H1 : Heap) (locs1 : List Loc), va_S (nZ Z) s.heap H1 locs1 → WI D ct Z dc x0 rf oa H1 → ∀ ls, lv_has ls 9 [(0, .ref b), (1, .ref x0), (2, .ref (rf 0)), (3, .ref oa), (4, .int (nI i))] → W p l e room_1 s m args below meth c H1 locs1 (cells + 8) (slots + 1039) Q (F0 m 1589 ls [])) : W p l e room_1 s m args below meth c H locs cells slots Q (F0 m 184 ls []) := by
  obtain ⟨σ, ad, th, bst, g, hI, rfl, hP, hR, hA⟩ := hW
  have hlt := WI_lt hG hS hR
  refine lv_aload_n hx hb dL_law_184 rfl (lv_at hl 1 rfl) ?_
  refine lv_aload_n hx hb dL_law_185 rfl (lv_at hl 0 rfl) ?_
  refine lv_iload hx hb dL_law_186 (lv_at hl 4 rfl) ?_
  refine lv_iconst (v := 1) hx hb dL_law_188 (by decide) ?_
  refine lv_iadd hx hb dL_law_189 ?_
  refine k_scr hx hb hX hbl hbz hS hL hi 1 (by decide) (by decide) dL_law_190 ?_
  refine lv_aload_n hx hb dL_law_191 rfl (lv_at hl 0 rfl) ?_
  refine lv_iload hx hb dL_law_192 (lv_at hl 4 rfl) ?_
  refine lv_iconst (v := 2) hx hb dL_law_194 (by decide) ?_
  refine lv_iadd hx hb dL_law_195 ?_
  refine k_scr hx hb hX hbl hbz hS hL hi 2 (by decide) (by decide) dL_law_196 ?_
  refine lv_aload_n hx hb dL_law_197 rfl (lv_at hl 0 rfl) ?_
  refine lv_iload hx hb dL_law_198 (lv_at hl 4 rfl) ?_
  refine lv_iconst (v := 3) hx hb dL_law_200 (by decide) ?_
  refine lv_iadd hx hb dL_law_201 ?_
  refine k_scr hx hb hX hbl hbz hS hL hi 3 (by decide) (by decide) dL_law_202 ?_
  refine lv_aload_n hx hb dL_law_203 rfl (lv_at hl 0 rfl) ?_
  refine lv_iload hx hb dL_law_204 (lv_at hl 4 rfl) ?_
  refine lv_iconst (v := 4) hx hb dL_law_206 (by decide) ?_
  refine lv_iadd hx hb dL_law_207 ?_
  refine k_scr hx hb hX hbl hbz hS hL hi 4 (by decide) (by decide) dL_law_208 ?_
  refine lv_aload_n hx hb dL_law_209 rfl (lv_at hl 0 rfl) ?_
  refine lv_iload hx hb dL_law_210 (lv_at hl 4 rfl) ?_
  refine lv_iconst (v := 5) hx hb dL_law_212 (by decide) ?_
  refine lv_iadd hx hb dL_law_213 ?_
  refine k_scr hx hb hX hbl hbz hS hL hi 5 (by decide) (by decide) dL_law_214 ?_
  refine lv_aload_n hx hb dL_law_215 rfl (lv_at hl 0 rfl) ?_
  refine lv_iload hx hb dL_law_216 (lv_at hl 4 rfl) ?_
  refine lv_bipush (v := 6) hx hb dL_law_218 (by decide) ?_
  refine lv_iadd hx hb dL_law_220 ?_
  refine k_scr hx hb hX hbl hbz hS hL hi 6 (by decide) (by decide) dL_law_221 ?_
  refine lv_aload_n hx hb dL_law_222 rfl (lv_at hl 3 rfl) ?_
  refine lw_s1 (Zb := Z) (Z := Zr Z rf) (fun q z => Or.inl z) (vx_runSW (As := [.ref (ad 0), .int (xs (i + 1)), .int (xs (i + 2)), .int (xs (i + 3)), .int (xs (i + 4)), .int (xs (i + 5)), .int (xs (i + 6)), .ref oa]) (rest := []) ⟨hx, hb, hml, hown, hts⟩ (c_L_build l D ct (Zr Z rf) dc σ ad hst oa g (xs (i + 1)) (xs (i + 2)) (xs (i + 3)) (xs (i + 4)) (xs (i + 5)) (xs (i + 6)) hI.1 hzo) (vx_cwSW 8 hts (WGS w_358 w_359 w_58 w_360) rfl rfl rfl (by decide) ⟨Nat.le_of_ble_eq_true rfl, Nat.le_of_ble_eq_true rfl⟩) ⟨(blindF fun _ _ _ _ h => h), fun U hU hW => ⟨rfl, (hG.up hW hS hU).sub (fun q z => Or.inl z) (by rw [hU]; exact hlt), by rw [hU]; exact ⟨hP, hA⟩⟩⟩ rfl rfl hl.1 rfl (lv_room (Nat.le_of_ble_eq_true rfl)) dL_law_223 ⟨show _ ≤ 601024 by omega, show _ ≤ 7293034 by omega⟩) hS (fun x H1 locs1 hQ hzz hk1 hS1 => ?_)
  obtain ⟨rfl, σ1, ad1, g1, hsc, had, hP1, hA1, hg1⟩ := hQ
  have hR1 := hR.keptZ (fun i hi => hk1 _ (hR.lt5 hi) (Or.inr ⟨i, hi, rfl⟩))
  have hzq : ∀ q, Z q → Zq H1 rf q := fun q z => ⟨Nat.lt_of_lt_of_le (hG.1 q z) hS1.1, fun i hi z2 => hR.nz hi (Or.inl (by rw [← z2]; exact z))⟩
  refine lv_istore (lv' := [(5, .int (nI (o_build σ (xs (i + 1)) (xs (i + 2)) (xs (i + 3)) (xs (i + 4)) (xs (i + 5)) (xs (i + 6))).1)), (0, .ref b), (1, .ref (ad 0)), (2, .ref (rf 0)), (3, .ref oa), (4, .int (nI i))]) hx hb dL_law_226 hl (by decide) rfl (fun ls hl => ?_)
  refine lv_aload_n hx hb dL_law_228 rfl (lv_at hl 3 rfl) ?_
  refine lv_aload_n hx hb dL_law_229 rfl (lv_at hl 1 rfl) ?_
  refine lv_iload hx hb dL_law_230 (lv_at hl 5 rfl) ?_
  refine lv_iconst (v := 1) hx hb dL_law_232 (by decide) ?_
  refine lv_iadd hx hb dL_law_233 ?_
  refine k_scr hx hb hX hbl hbz hS1 hL hi 1 (by decide) (by decide) dL_law_234 ?_
  refine lv_aload_n hx hb dL_law_235 rfl (lv_at hl 1 rfl) ?_
  refine lv_iload hx hb dL_law_236 (lv_at hl 5 rfl) ?_
  refine lv_iconst (v := 2) hx hb dL_law_238 (by decide) ?_
  refine lv_iadd hx hb dL_law_239 ?_
  refine k_scr hx hb hX hbl hbz hS1 hL hi 2 (by decide) (by decide) dL_law_240 ?_
  refine lv_aload_n hx hb dL_law_241 rfl (lv_at hl 1 rfl) ?_
  refine lv_iload hx hb dL_law_242 (lv_at hl 5 rfl) ?_
  refine lv_iconst (v := 3) hx hb dL_law_244 (by decide) ?_
  refine lv_iadd hx hb dL_law_245 ?_
  refine k_scr hx hb hX hbl hbz hS1 hL hi 3 (by decide) (by decide) dL_law_246 ?_
  refine lv_aload_n hx hb dL_law_247 rfl (lv_at hl 1 rfl) ?_
  refine lv_iload hx hb dL_law_248 (lv_at hl 5 rfl) ?_
  refine lv_iconst (v := 4) hx hb dL_law_250 (by decide) ?_
  refine lv_iadd hx hb dL_law_251 ?_
  refine k_scr hx hb hX hbl hbz hS1 hL hi 4 (by decide) (by decide) dL_law_252 ?_
  refine lv_aload_n hx hb dL_law_253 rfl (lv_at hl 1 rfl) ?_
  refine lv_iload hx hb dL_law_254 (lv_at hl 5 rfl) ?_
  refine lv_iconst (v := 5) hx hb dL_law_256 (by decide) ?_
  refine lv_iadd hx hb dL_law_257 ?_
  refine k_scr hx hb hX hbl hbz hS1 hL hi 5 (by decide) (by decide) dL_law_258 ?_
  refine lv_aload_n hx hb dL_law_259 rfl (lv_at hl 1 rfl) ?_
  refine lv_iload hx hb dL_law_260 (lv_at hl 5 rfl) ?_
  refine lv_bipush (v := 6) hx hb dL_law_262 (by decide) ?_
  refine lv_iadd hx hb dL_law_264 ?_
  refine k_scr hx hb hX hbl hbz hS1 hL hi 6 (by decide) (by decide) dL_law_265 ?_
  refine lw_s1 (Zb := Z) (Z := Zq H1 rf) hzq (va_runV (As := [.int (xs (i + 1)), .int (xs (i + 2)), .int (xs (i + 3)), .int (xs (i + 4)), .int (xs (i + 5)), .int (xs (i + 6))]) (rest := []) ⟨hx, hb, hml, hown, hts⟩ (c_X6_build l D ct (Zq H1 rf) σ th bst rf (xs (i + 1)) (xs (i + 2)) (xs (i + 3)) (xs (i + 4)) (xs (i + 5)) (xs (i + 6)) hI.1) (cwV 6 hts (GG w_928 w_929 w_930 w_65 w_931) rfl rfl rfl (by decide) ⟨Nat.le_of_ble_eq_true rfl, Nat.le_of_ble_eq_true rfl⟩) ⟨(blindT fun _ _ _ _ h => h), Ob.recv (hG.2.1).1 hR1.o rfl, fun U hU hW => ⟨rfl, hG.2.1.warm hW, fun q z => by rw [hU]; exact z.1, by rw [hU]; exact hR1.rez (fun i hi z => z.2 i hi rfl)⟩⟩ rfl rfl hl.1 rfl (lv_room (Nat.le_of_ble_eq_true rfl)) dL_law_266 ⟨show _ ≤ 601024 by omega, show _ ≤ 7293034 by omega⟩) hS1 (fun x H2 locs2 hQ2 hzz2 hk2 hS2 => ?_)
  obtain ⟨rfl, b1, hR2⟩ := hQ2
  have hP2 := hP1.keptZ (fun q h1 h2 => hk2 q h1 ⟨h1, fun i hi z => h2 (Or.inl (Or.inr ⟨i, hi, z⟩))⟩)
  have hA2 := hA1.kept (hk2 _ hA1.lt ⟨hA1.lt, fun i hi z => hzo (Or.inr ⟨i, hi, z⟩)⟩)
  have hR3 := (hR2.rez (fun i hi => hR.nz hi)).core hsc
  have hI1 := (IB_build hI _ _ _ _ _ _).core hsc
  refine lv_istore (lv' := [(6, .int (o_build σ (xs (i + 1)) (xs (i + 2)) (xs (i + 3)) (xs (i + 4)) (xs (i + 5)) (xs (i + 6))).2.1), (5, .int (nI (o_build σ (xs (i + 1)) (xs (i + 2)) (xs (i + 3)) (xs (i + 4)) (xs (i + 5)) (xs (i + 6))).1)), (0, .ref b), (1, .ref (ad 0)), (2, .ref (rf 0)), (3, .ref oa), (4, .int (nI i))]) hx hb dL_law_269 hl (by decide) rfl (fun ls hl => ?_)
  refine lv_aload_n hx hb dL_law_271 rfl (lv_at hl 4 rfl) ?_
  refine c_p1 (va_runV (As := []) (rest := []) ⟨hx, hb, hml, hown, hts⟩ (c_X6_thrown l D ct (Zo Z oa) σ1 _ b1 rf) (cwV 0 hts (GG w_916 w_917 w_918 w_65 w_919) rfl rfl rfl (by decide) ⟨Nat.le_of_ble_eq_true rfl, Nat.le_of_ble_eq_true rfl⟩) ⟨(blindT fun _ _ _ _ h => h), Ob.recv (hG.2.1).1 hR3.o rfl, fun U hU hW => ⟨rfl, hG.2.1.warm hW, by rw [hU]; exact hR3⟩⟩ rfl rfl hl.1 rfl (lv_room (Nat.le_of_ble_eq_true rfl)) dL_law_272 ⟨show _ ≤ 601024 by omega, show _ ≤ 7293034 by omega⟩) ?_
  refine lv_iload hx hb dL_law_275 (lv_at hl 1 rfl) ?_
  refine lv_icmp_eq (tgt := 282) hx hb dL_law_277 (by decide) (fun _ => ?_) (fun z => absurd rfl z)
  refine lv_iload hx hb dL_law_282 (lv_at hl 1 rfl) ?_
  have kend : ∀ ls, lv_has ls 9 [(6, .int (o_build σ (xs (i + 1)) (xs (i + 2)) (xs (i + 3)) (xs (i + 4)) (xs (i + 5)) (xs (i + 6))).2.1), (5, .int (nI (o_build σ (xs (i + 1)) (xs (i + 2)) (xs (i + 3)) (xs (i + 4)) (xs (i + 5)) (xs (i + 6))).1)), (0, .ref b), (1, .ref (ad 0)), (2, .ref (rf 0)), (3, .ref oa), (4, .int (nI i))] → W p l e room_1 s m args below meth c H2 locs2 (cells + 7 + 1 + 0) (slots + 42 + 7 + 0) Q (F0 m 1589 ls []) := fun ls hl => w_widen (k := cells + 8) (n := slots + 1039) (by omega) (by omega) (kk H2 locs2 hS2 ⟨σ1, ad1, _, b1, g1, hI1, had, hP2, hR3, hA2⟩ ls (lv_sub hl [2, 3, 4, 5, 6] rfl))
  refine lv_if_ne (tgt := 299) hx hb dL_law_284 (by decide) (fun z => ?_) (fun z => ?_)
  · refine lv_goto (tgt := 1589) hx hb dL_law_299 (by decide) ?_
    exact kend _ hl
  · have hz0 := nI_0' (cd_build σ _ _ _ _ _ _) z
    refine lv_aload_n hx hb dL_law_287 rfl (lv_at hl 5 rfl) ?_
    refine lv_iconst (v := 0) hx hb dL_law_288 (by decide) ?_
    refine k_lald (s := s) hx hb hG.2.1.1 hA2 (vp_in_nI (by decide : 0 < 1) (by decide)) dL_law_289 ?_
    refine lv_iload hx hb dL_law_290 (lv_at hl 0 rfl) ?_
    refine lv_i2l (v := ((o_build σ (xs (i + 1)) (xs (i + 2)) (xs (i + 3)) (xs (i + 4)) (xs (i + 5)) (xs (i + 6))).2.1 : Int32).toInt64) hx hb dL_law_292 rfl ?_
    refine W.lcmp hx hb dL_law_293 ?_
    refine lv_if_eq (tgt := 299) hx hb dL_law_294 (by decide) (fun _ => ?_) (fun z => absurd (lg_cmp_0 (hg1 hz0)) z)
    refine lv_goto (tgt := 1589) hx hb dL_law_299 (by decide) ?_
    exact kend _ hl

theorem cd_road (σ : Stt) (p0 p1 p2 : Int32) : (o_road σ p0 p1 p2).1 < 4 := by
  unfold o_road
  repeat' split
  all_goals first | exact (by decide : (0 : Nat) < 4) | exact (by decide : (1 : Nat) < 4) | exact (by decide : (2 : Nat) < 4) | exact (by decide : (3 : Nat) < 4)
theorem IB_ro_road {σ : Stt} (h : IB σ) (p0 p1 p2 : Int32) : IB (o_road σ p0 p1 p2).2.2 := by
  unfold o_road
  repeat' split
  all_goals exact h
set_option maxHeartbeats 4000000 in
set_option maxRecDepth 100000 in
/-- road -/
theorem lw_road {p : Program} {l : Launch} {e : Env} {s : State} {m : MethodId} {args : Array Value} {below : List Frame} {meth : Method} {c : Code} {H : Heap} {locs : List Loc} {cells slots : Nat} {Q : State → Prop} {ls : Array Slot} {b L i : Nat} {xs : Nat → Int32} {D : va_G} {ct : Nat → ClassId} {Z : Nat → Prop} {dc x0 : Nat} {rf : Nat → Nat} {oa : Nat} (hown : s.vm.findClass "RumourCustomsLaw" = some m.cls) (hts : ∀ w ∈ GW, w.before args s = true) (hG : GF D ct Z dc s s.heap) (hX : va_X b L xs s s.heap) (hbl : b < s.heap.size) (hS : va_S (nZ Z) s.heap H locs) (hx : p.tables.exec = Jvm.exec) (hb : c.code = cL_law) (hml : c.maxLocals = 9) (hst : l.stackTraces = false) (hzo : ¬ Zr Z rf oa) (hL : L ≤ 3584) (hi : i + 7 ≤ L) (hbz : Z b) (hW : WI D ct Z dc x0 rf oa H) (hc : cells + 8 ≤ 601024) (hsl : slots + 1039 ≤ 7293034) (hl : lv_has ls 9 [(0, .ref b), (1, .ref x0), (2, .ref (rf 0)), (3, .ref oa), (4, .int (nI i))])
    (kk : ∀ (H1 : Heap) (locs1 : List Loc), va_S (nZ Z) s.heap H1 locs1 → WI D ct Z dc x0 rf oa H1 → ∀ ls, lv_has ls 9 [(0, .ref b), (1, .ref x0), (2, .ref (rf 0)), (3, .ref oa), (4, .int (nI i))] → W p l e room_1 s m args below meth c H1 locs1 (cells + 8) (slots + 1039) Q (F0 m 1589 ls [])) : W p l e room_1 s m args below meth c H locs cells slots Q (F0 m 302 ls []) := by
  obtain ⟨σ, ad, th, bst, g, hI, rfl, hP, hR, hA⟩ := hW
  have hlt := WI_lt hG hS hR
  refine lv_aload_n hx hb dL_law_302 rfl (lv_at hl 1 rfl) ?_
  refine lv_aload_n hx hb dL_law_303 rfl (lv_at hl 0 rfl) ?_
  refine lv_iload hx hb dL_law_304 (lv_at hl 4 rfl) ?_
  refine lv_iconst (v := 1) hx hb dL_law_306 (by decide) ?_
  refine lv_iadd hx hb dL_law_307 ?_
  refine k_scr hx hb hX hbl hbz hS hL hi 1 (by decide) (by decide) dL_law_308 ?_
  refine lv_aload_n hx hb dL_law_309 rfl (lv_at hl 0 rfl) ?_
  refine lv_iload hx hb dL_law_310 (lv_at hl 4 rfl) ?_
  refine lv_iconst (v := 2) hx hb dL_law_312 (by decide) ?_
  refine lv_iadd hx hb dL_law_313 ?_
  refine k_scr hx hb hX hbl hbz hS hL hi 2 (by decide) (by decide) dL_law_314 ?_
  refine lv_aload_n hx hb dL_law_315 rfl (lv_at hl 0 rfl) ?_
  refine lv_iload hx hb dL_law_316 (lv_at hl 4 rfl) ?_
  refine lv_iconst (v := 3) hx hb dL_law_318 (by decide) ?_
  refine lv_iadd hx hb dL_law_319 ?_
  refine k_scr hx hb hX hbl hbz hS hL hi 3 (by decide) (by decide) dL_law_320 ?_
  refine lv_aload_n hx hb dL_law_321 rfl (lv_at hl 3 rfl) ?_
  refine lw_s1 (Zb := Z) (Z := Zr Z rf) (fun q z => Or.inl z) (vx_runSW (As := [.ref (ad 0), .int (xs (i + 1)), .int (xs (i + 2)), .int (xs (i + 3)), .ref oa]) (rest := []) ⟨hx, hb, hml, hown, hts⟩ (c_L_road l D ct (Zr Z rf) dc σ ad hst oa g (xs (i + 1)) (xs (i + 2)) (xs (i + 3)) hI.1 hzo) (vx_cwSW 5 hts (WGS w_441 w_442 w_58 w_443) rfl rfl rfl (by decide) ⟨Nat.le_of_ble_eq_true rfl, Nat.le_of_ble_eq_true rfl⟩) ⟨(blindF fun _ _ _ _ h => h), fun U hU hW => ⟨rfl, (hG.up hW hS hU).sub (fun q z => Or.inl z) (by rw [hU]; exact hlt), by rw [hU]; exact ⟨hP, hA⟩⟩⟩ rfl rfl hl.1 rfl (lv_room (Nat.le_of_ble_eq_true rfl)) dL_law_322 ⟨show _ ≤ 601024 by omega, show _ ≤ 7293034 by omega⟩) hS (fun x H1 locs1 hQ hzz hk1 hS1 => ?_)
  obtain ⟨rfl, σ1, ad1, g1, hsc, had, hP1, hA1, hg1⟩ := hQ
  have hR1 := hR.keptZ (fun i hi => hk1 _ (hR.lt5 hi) (Or.inr ⟨i, hi, rfl⟩))
  have hzq : ∀ q, Z q → Zq H1 rf q := fun q z => ⟨Nat.lt_of_lt_of_le (hG.1 q z) hS1.1, fun i hi z2 => hR.nz hi (Or.inl (by rw [← z2]; exact z))⟩
  refine lv_istore (lv' := [(5, .int (nI (o_road σ (xs (i + 1)) (xs (i + 2)) (xs (i + 3))).1)), (0, .ref b), (1, .ref (ad 0)), (2, .ref (rf 0)), (3, .ref oa), (4, .int (nI i))]) hx hb dL_law_325 hl (by decide) rfl (fun ls hl => ?_)
  refine lv_aload_n hx hb dL_law_327 rfl (lv_at hl 3 rfl) ?_
  refine lv_aload_n hx hb dL_law_328 rfl (lv_at hl 1 rfl) ?_
  refine lv_iload hx hb dL_law_329 (lv_at hl 5 rfl) ?_
  refine lv_iconst (v := 1) hx hb dL_law_331 (by decide) ?_
  refine lv_iadd hx hb dL_law_332 ?_
  refine k_scr hx hb hX hbl hbz hS1 hL hi 1 (by decide) (by decide) dL_law_333 ?_
  refine lv_aload_n hx hb dL_law_334 rfl (lv_at hl 1 rfl) ?_
  refine lv_iload hx hb dL_law_335 (lv_at hl 5 rfl) ?_
  refine lv_iconst (v := 2) hx hb dL_law_337 (by decide) ?_
  refine lv_iadd hx hb dL_law_338 ?_
  refine k_scr hx hb hX hbl hbz hS1 hL hi 2 (by decide) (by decide) dL_law_339 ?_
  refine lv_aload_n hx hb dL_law_340 rfl (lv_at hl 1 rfl) ?_
  refine lv_iload hx hb dL_law_341 (lv_at hl 5 rfl) ?_
  refine lv_iconst (v := 3) hx hb dL_law_343 (by decide) ?_
  refine lv_iadd hx hb dL_law_344 ?_
  refine k_scr hx hb hX hbl hbz hS1 hL hi 3 (by decide) (by decide) dL_law_345 ?_
  refine lw_s1 (Zb := Z) (Z := Zq H1 rf) hzq (va_runV (As := [.int (xs (i + 1)), .int (xs (i + 2)), .int (xs (i + 3))]) (rest := []) ⟨hx, hb, hml, hown, hts⟩ (c_X6_road l D ct (Zq H1 rf) σ th bst rf (xs (i + 1)) (xs (i + 2)) (xs (i + 3)) hI.1) (cwV 3 hts (GG w_945 w_946 w_947 w_65 w_948) rfl rfl rfl (by decide) ⟨Nat.le_of_ble_eq_true rfl, Nat.le_of_ble_eq_true rfl⟩) ⟨(blindT fun _ _ _ _ h => h), Ob.recv (hG.2.1).1 hR1.o rfl, fun U hU hW => ⟨rfl, hG.2.1.warm hW, fun q z => by rw [hU]; exact z.1, by rw [hU]; exact hR1.rez (fun i hi z => z.2 i hi rfl)⟩⟩ rfl rfl hl.1 rfl (lv_room (Nat.le_of_ble_eq_true rfl)) dL_law_346 ⟨show _ ≤ 601024 by omega, show _ ≤ 7293034 by omega⟩) hS1 (fun x H2 locs2 hQ2 hzz2 hk2 hS2 => ?_)
  obtain ⟨rfl, b1, hR2⟩ := hQ2
  have hP2 := hP1.keptZ (fun q h1 h2 => hk2 q h1 ⟨h1, fun i hi z => h2 (Or.inl (Or.inr ⟨i, hi, z⟩))⟩)
  have hA2 := hA1.kept (hk2 _ hA1.lt ⟨hA1.lt, fun i hi z => hzo (Or.inr ⟨i, hi, z⟩)⟩)
  have hR3 := (hR2.rez (fun i hi => hR.nz hi)).core hsc
  have hI1 := (IB_ro_road hI _ _ _).core hsc
  refine lv_istore (lv' := [(6, .int (o_road σ (xs (i + 1)) (xs (i + 2)) (xs (i + 3))).2.1), (5, .int (nI (o_road σ (xs (i + 1)) (xs (i + 2)) (xs (i + 3))).1)), (0, .ref b), (1, .ref (ad 0)), (2, .ref (rf 0)), (3, .ref oa), (4, .int (nI i))]) hx hb dL_law_349 hl (by decide) rfl (fun ls hl => ?_)
  refine lv_aload_n hx hb dL_law_351 rfl (lv_at hl 4 rfl) ?_
  refine c_p1 (va_runV (As := []) (rest := []) ⟨hx, hb, hml, hown, hts⟩ (c_X6_thrown l D ct (Zo Z oa) σ1 _ b1 rf) (cwV 0 hts (GG w_916 w_917 w_918 w_65 w_919) rfl rfl rfl (by decide) ⟨Nat.le_of_ble_eq_true rfl, Nat.le_of_ble_eq_true rfl⟩) ⟨(blindT fun _ _ _ _ h => h), Ob.recv (hG.2.1).1 hR3.o rfl, fun U hU hW => ⟨rfl, hG.2.1.warm hW, by rw [hU]; exact hR3⟩⟩ rfl rfl hl.1 rfl (lv_room (Nat.le_of_ble_eq_true rfl)) dL_law_352 ⟨show _ ≤ 601024 by omega, show _ ≤ 7293034 by omega⟩) ?_
  refine lv_iload hx hb dL_law_355 (lv_at hl 1 rfl) ?_
  refine lv_icmp_eq (tgt := 362) hx hb dL_law_357 (by decide) (fun _ => ?_) (fun z => absurd rfl z)
  refine lv_iload hx hb dL_law_362 (lv_at hl 1 rfl) ?_
  have kend : ∀ ls, lv_has ls 9 [(6, .int (o_road σ (xs (i + 1)) (xs (i + 2)) (xs (i + 3))).2.1), (5, .int (nI (o_road σ (xs (i + 1)) (xs (i + 2)) (xs (i + 3))).1)), (0, .ref b), (1, .ref (ad 0)), (2, .ref (rf 0)), (3, .ref oa), (4, .int (nI i))] → W p l e room_1 s m args below meth c H2 locs2 (cells + 3 + 0 + 0) (slots + 18 + 0 + 0) Q (F0 m 1589 ls []) := fun ls hl => w_widen (k := cells + 8) (n := slots + 1039) (by omega) (by omega) (kk H2 locs2 hS2 ⟨σ1, ad1, _, b1, g1, hI1, had, hP2, hR3, hA2⟩ ls (lv_sub hl [2, 3, 4, 5, 6] rfl))
  refine lv_if_ne (tgt := 379) hx hb dL_law_364 (by decide) (fun z => ?_) (fun z => ?_)
  · refine lv_goto (tgt := 1589) hx hb dL_law_379 (by decide) ?_
    exact kend _ hl
  · have hz0 := nI_0' (cd_road σ _ _ _) z
    refine lv_aload_n hx hb dL_law_367 rfl (lv_at hl 5 rfl) ?_
    refine lv_iconst (v := 0) hx hb dL_law_368 (by decide) ?_
    refine k_lald (s := s) hx hb hG.2.1.1 hA2 (vp_in_nI (by decide : 0 < 1) (by decide)) dL_law_369 ?_
    refine lv_iload hx hb dL_law_370 (lv_at hl 0 rfl) ?_
    refine lv_i2l (v := ((o_road σ (xs (i + 1)) (xs (i + 2)) (xs (i + 3))).2.1 : Int32).toInt64) hx hb dL_law_372 rfl ?_
    refine W.lcmp hx hb dL_law_373 ?_
    refine lv_if_eq (tgt := 379) hx hb dL_law_374 (by decide) (fun _ => ?_) (fun z => absurd (lg_cmp_0 (hg1 hz0)) z)
    refine lv_goto (tgt := 1589) hx hb dL_law_379 (by decide) ?_
    exact kend _ hl

theorem cd_makeUp (σ : Stt) (p0 p1 p2 : Int32) : (o_makeUp σ p0 p1 p2).1 < 4 := by
  unfold o_makeUp
  repeat' split
  all_goals first | exact (by decide : (0 : Nat) < 4) | exact (by decide : (1 : Nat) < 4) | exact (by decide : (2 : Nat) < 4) | exact (by decide : (3 : Nat) < 4)
set_option maxHeartbeats 4000000 in
set_option maxRecDepth 100000 in
/-- makeUp -/
theorem lw_makeUp {p : Program} {l : Launch} {e : Env} {s : State} {m : MethodId} {args : Array Value} {below : List Frame} {meth : Method} {c : Code} {H : Heap} {locs : List Loc} {cells slots : Nat} {Q : State → Prop} {ls : Array Slot} {b L i : Nat} {xs : Nat → Int32} {D : va_G} {ct : Nat → ClassId} {Z : Nat → Prop} {dc x0 : Nat} {rf : Nat → Nat} {oa : Nat} (hown : s.vm.findClass "RumourCustomsLaw" = some m.cls) (hts : ∀ w ∈ GW, w.before args s = true) (hG : GF D ct Z dc s s.heap) (hX : va_X b L xs s s.heap) (hbl : b < s.heap.size) (hS : va_S (nZ Z) s.heap H locs) (hx : p.tables.exec = Jvm.exec) (hb : c.code = cL_law) (hml : c.maxLocals = 9) (hst : l.stackTraces = false) (hzo : ¬ Zr Z rf oa) (hL : L ≤ 3584) (hi : i + 7 ≤ L) (hbz : Z b) (hW : WI D ct Z dc x0 rf oa H) (hc : cells + 8 ≤ 601024) (hsl : slots + 1039 ≤ 7293034) (hl : lv_has ls 9 [(0, .ref b), (1, .ref x0), (2, .ref (rf 0)), (3, .ref oa), (4, .int (nI i))])
    (kk : ∀ (H1 : Heap) (locs1 : List Loc), va_S (nZ Z) s.heap H1 locs1 → WI D ct Z dc x0 rf oa H1 → ∀ ls, lv_has ls 9 [(0, .ref b), (1, .ref x0), (2, .ref (rf 0)), (3, .ref oa), (4, .int (nI i))] → W p l e room_1 s m args below meth c H1 locs1 (cells + 8) (slots + 1039) Q (F0 m 1589 ls [])) : W p l e room_1 s m args below meth c H locs cells slots Q (F0 m 382 ls []) := by
  obtain ⟨σ, ad, th, bst, g, hI, rfl, hP, hR, hA⟩ := hW
  have hlt := WI_lt hG hS hR
  refine lv_aload_n hx hb dL_law_382 rfl (lv_at hl 1 rfl) ?_
  refine lv_aload_n hx hb dL_law_383 rfl (lv_at hl 0 rfl) ?_
  refine lv_iload hx hb dL_law_384 (lv_at hl 4 rfl) ?_
  refine lv_iconst (v := 1) hx hb dL_law_386 (by decide) ?_
  refine lv_iadd hx hb dL_law_387 ?_
  refine k_scr hx hb hX hbl hbz hS hL hi 1 (by decide) (by decide) dL_law_388 ?_
  refine lv_aload_n hx hb dL_law_389 rfl (lv_at hl 0 rfl) ?_
  refine lv_iload hx hb dL_law_390 (lv_at hl 4 rfl) ?_
  refine lv_iconst (v := 2) hx hb dL_law_392 (by decide) ?_
  refine lv_iadd hx hb dL_law_393 ?_
  refine k_scr hx hb hX hbl hbz hS hL hi 2 (by decide) (by decide) dL_law_394 ?_
  refine lv_aload_n hx hb dL_law_395 rfl (lv_at hl 0 rfl) ?_
  refine lv_iload hx hb dL_law_396 (lv_at hl 4 rfl) ?_
  refine lv_iconst (v := 3) hx hb dL_law_398 (by decide) ?_
  refine lv_iadd hx hb dL_law_399 ?_
  refine k_scr hx hb hX hbl hbz hS hL hi 3 (by decide) (by decide) dL_law_400 ?_
  refine lv_aload_n hx hb dL_law_401 rfl (lv_at hl 3 rfl) ?_
  refine lw_s1 (Zb := Z) (Z := Zr Z rf) (fun q z => Or.inl z) (vx_runSW (As := [.ref (ad 0), .int (xs (i + 1)), .int (xs (i + 2)), .int (xs (i + 3)), .ref oa]) (rest := []) ⟨hx, hb, hml, hown, hts⟩ (c_L_makeUp l D ct (Zr Z rf) dc σ ad hst oa g (xs (i + 1)) (xs (i + 2)) (xs (i + 3)) hI.1 hzo) (vx_cwSW 5 hts (WGS w_452 w_453 w_58 w_454) rfl rfl rfl (by decide) ⟨Nat.le_of_ble_eq_true rfl, Nat.le_of_ble_eq_true rfl⟩) ⟨(blindF fun _ _ _ _ h => h), fun U hU hW => ⟨rfl, (hG.up hW hS hU).sub (fun q z => Or.inl z) (by rw [hU]; exact hlt), by rw [hU]; exact ⟨hP, hA⟩⟩⟩ rfl rfl hl.1 rfl (lv_room (Nat.le_of_ble_eq_true rfl)) dL_law_402 ⟨show _ ≤ 601024 by omega, show _ ≤ 7293034 by omega⟩) hS (fun x H1 locs1 hQ hzz hk1 hS1 => ?_)
  obtain ⟨rfl, σ1, ad1, g1, hsc, had, hP1, hA1, hg1⟩ := hQ
  have hR1 := hR.keptZ (fun i hi => hk1 _ (hR.lt5 hi) (Or.inr ⟨i, hi, rfl⟩))
  have hzq : ∀ q, Z q → Zq H1 rf q := fun q z => ⟨Nat.lt_of_lt_of_le (hG.1 q z) hS1.1, fun i hi z2 => hR.nz hi (Or.inl (by rw [← z2]; exact z))⟩
  refine lv_istore (lv' := [(5, .int (nI (o_makeUp σ (xs (i + 1)) (xs (i + 2)) (xs (i + 3))).1)), (0, .ref b), (1, .ref (ad 0)), (2, .ref (rf 0)), (3, .ref oa), (4, .int (nI i))]) hx hb dL_law_405 hl (by decide) rfl (fun ls hl => ?_)
  refine lv_aload_n hx hb dL_law_407 rfl (lv_at hl 3 rfl) ?_
  refine lv_aload_n hx hb dL_law_408 rfl (lv_at hl 1 rfl) ?_
  refine lv_iload hx hb dL_law_409 (lv_at hl 5 rfl) ?_
  refine lv_iconst (v := 1) hx hb dL_law_411 (by decide) ?_
  refine lv_iadd hx hb dL_law_412 ?_
  refine k_scr hx hb hX hbl hbz hS1 hL hi 1 (by decide) (by decide) dL_law_413 ?_
  refine lv_aload_n hx hb dL_law_414 rfl (lv_at hl 1 rfl) ?_
  refine lv_iload hx hb dL_law_415 (lv_at hl 5 rfl) ?_
  refine lv_iconst (v := 2) hx hb dL_law_417 (by decide) ?_
  refine lv_iadd hx hb dL_law_418 ?_
  refine k_scr hx hb hX hbl hbz hS1 hL hi 2 (by decide) (by decide) dL_law_419 ?_
  refine lv_aload_n hx hb dL_law_420 rfl (lv_at hl 1 rfl) ?_
  refine lv_iload hx hb dL_law_421 (lv_at hl 5 rfl) ?_
  refine lv_iconst (v := 3) hx hb dL_law_423 (by decide) ?_
  refine lv_iadd hx hb dL_law_424 ?_
  refine k_scr hx hb hX hbl hbz hS1 hL hi 3 (by decide) (by decide) dL_law_425 ?_
  refine lw_s1 (Zb := Z) (Z := Zq H1 rf) hzq (va_runV (As := [.int (xs (i + 1)), .int (xs (i + 2)), .int (xs (i + 3))]) (rest := []) ⟨hx, hb, hml, hown, hts⟩ (c_X6_makeUp l D ct (Zq H1 rf) σ th bst rf (xs (i + 1)) (xs (i + 2)) (xs (i + 3)) hI.1) (cwV 3 hts (GG w_949 w_950 w_951 w_65 w_952) rfl rfl rfl (by decide) ⟨Nat.le_of_ble_eq_true rfl, Nat.le_of_ble_eq_true rfl⟩) ⟨(blindT fun _ _ _ _ h => h), Ob.recv (hG.2.1).1 hR1.o rfl, fun U hU hW => ⟨rfl, hG.2.1.warm hW, fun q z => by rw [hU]; exact z.1, by rw [hU]; exact hR1.rez (fun i hi z => z.2 i hi rfl)⟩⟩ rfl rfl hl.1 rfl (lv_room (Nat.le_of_ble_eq_true rfl)) dL_law_426 ⟨show _ ≤ 601024 by omega, show _ ≤ 7293034 by omega⟩) hS1 (fun x H2 locs2 hQ2 hzz2 hk2 hS2 => ?_)
  obtain ⟨rfl, b1, hR2⟩ := hQ2
  have hP2 := hP1.keptZ (fun q h1 h2 => hk2 q h1 ⟨h1, fun i hi z => h2 (Or.inl (Or.inr ⟨i, hi, z⟩))⟩)
  have hA2 := hA1.kept (hk2 _ hA1.lt ⟨hA1.lt, fun i hi z => hzo (Or.inr ⟨i, hi, z⟩)⟩)
  have hR3 := (hR2.rez (fun i hi => hR.nz hi)).core hsc
  have hI1 := (IB_makeUp hI _ _ _).core hsc
  refine lv_istore (lv' := [(6, .int (o_makeUp σ (xs (i + 1)) (xs (i + 2)) (xs (i + 3))).2.1), (5, .int (nI (o_makeUp σ (xs (i + 1)) (xs (i + 2)) (xs (i + 3))).1)), (0, .ref b), (1, .ref (ad 0)), (2, .ref (rf 0)), (3, .ref oa), (4, .int (nI i))]) hx hb dL_law_429 hl (by decide) rfl (fun ls hl => ?_)
  refine lv_aload_n hx hb dL_law_431 rfl (lv_at hl 4 rfl) ?_
  refine c_p1 (va_runV (As := []) (rest := []) ⟨hx, hb, hml, hown, hts⟩ (c_X6_thrown l D ct (Zo Z oa) σ1 _ b1 rf) (cwV 0 hts (GG w_916 w_917 w_918 w_65 w_919) rfl rfl rfl (by decide) ⟨Nat.le_of_ble_eq_true rfl, Nat.le_of_ble_eq_true rfl⟩) ⟨(blindT fun _ _ _ _ h => h), Ob.recv (hG.2.1).1 hR3.o rfl, fun U hU hW => ⟨rfl, hG.2.1.warm hW, by rw [hU]; exact hR3⟩⟩ rfl rfl hl.1 rfl (lv_room (Nat.le_of_ble_eq_true rfl)) dL_law_432 ⟨show _ ≤ 601024 by omega, show _ ≤ 7293034 by omega⟩) ?_
  refine lv_iload hx hb dL_law_435 (lv_at hl 1 rfl) ?_
  refine lv_icmp_eq (tgt := 442) hx hb dL_law_437 (by decide) (fun _ => ?_) (fun z => absurd rfl z)
  refine lv_iload hx hb dL_law_442 (lv_at hl 1 rfl) ?_
  have kend : ∀ ls, lv_has ls 9 [(6, .int (o_makeUp σ (xs (i + 1)) (xs (i + 2)) (xs (i + 3))).2.1), (5, .int (nI (o_makeUp σ (xs (i + 1)) (xs (i + 2)) (xs (i + 3))).1)), (0, .ref b), (1, .ref (ad 0)), (2, .ref (rf 0)), (3, .ref oa), (4, .int (nI i))] → W p l e room_1 s m args below meth c H2 locs2 (cells + 5 + 1 + 0) (slots + 1026 + 7 + 0) Q (F0 m 1589 ls []) := fun ls hl => w_widen (k := cells + 8) (n := slots + 1039) (by omega) (by omega) (kk H2 locs2 hS2 ⟨σ1, ad1, _, b1, g1, hI1, had, hP2, hR3, hA2⟩ ls (lv_sub hl [2, 3, 4, 5, 6] rfl))
  refine lv_if_ne (tgt := 459) hx hb dL_law_444 (by decide) (fun z => ?_) (fun z => ?_)
  · refine lv_goto (tgt := 1589) hx hb dL_law_459 (by decide) ?_
    exact kend _ hl
  · have hz0 := nI_0' (cd_makeUp σ _ _ _) z
    refine lv_aload_n hx hb dL_law_447 rfl (lv_at hl 5 rfl) ?_
    refine lv_iconst (v := 0) hx hb dL_law_448 (by decide) ?_
    refine k_lald (s := s) hx hb hG.2.1.1 hA2 (vp_in_nI (by decide : 0 < 1) (by decide)) dL_law_449 ?_
    refine lv_iload hx hb dL_law_450 (lv_at hl 0 rfl) ?_
    refine lv_i2l (v := ((o_makeUp σ (xs (i + 1)) (xs (i + 2)) (xs (i + 3))).2.1 : Int32).toInt64) hx hb dL_law_452 rfl ?_
    refine W.lcmp hx hb dL_law_453 ?_
    refine lv_if_eq (tgt := 459) hx hb dL_law_454 (by decide) (fun _ => ?_) (fun z => absurd (lg_cmp_0 (hg1 hz0)) z)
    refine lv_goto (tgt := 1589) hx hb dL_law_459 (by decide) ?_
    exact kend _ hl

theorem cd_rumour (σ : Stt) (p0 p1 : Int32) : (o_rumour σ p0 p1).1 < 4 := by
  unfold o_rumour
  repeat' split
  all_goals first | exact (by decide : (0 : Nat) < 4) | exact (by decide : (1 : Nat) < 4) | exact (by decide : (2 : Nat) < 4) | exact (by decide : (3 : Nat) < 4)
theorem IB_ro_rumour {σ : Stt} (h : IB σ) (p0 p1 : Int32) : IB (o_rumour σ p0 p1).2.2 := by
  unfold o_rumour
  repeat' split
  all_goals exact h
set_option maxHeartbeats 4000000 in
set_option maxRecDepth 100000 in
/-- rumour -/
theorem lw_rumour {p : Program} {l : Launch} {e : Env} {s : State} {m : MethodId} {args : Array Value} {below : List Frame} {meth : Method} {c : Code} {H : Heap} {locs : List Loc} {cells slots : Nat} {Q : State → Prop} {ls : Array Slot} {b L i : Nat} {xs : Nat → Int32} {D : va_G} {ct : Nat → ClassId} {Z : Nat → Prop} {dc x0 : Nat} {rf : Nat → Nat} {oa : Nat} (hown : s.vm.findClass "RumourCustomsLaw" = some m.cls) (hts : ∀ w ∈ GW, w.before args s = true) (hG : GF D ct Z dc s s.heap) (hX : va_X b L xs s s.heap) (hbl : b < s.heap.size) (hS : va_S (nZ Z) s.heap H locs) (hx : p.tables.exec = Jvm.exec) (hb : c.code = cL_law) (hml : c.maxLocals = 9) (hst : l.stackTraces = false) (hzo : ¬ Zr Z rf oa) (hL : L ≤ 3584) (hi : i + 7 ≤ L) (hbz : Z b) (hW : WI D ct Z dc x0 rf oa H) (hc : cells + 8 ≤ 601024) (hsl : slots + 1039 ≤ 7293034) (hl : lv_has ls 9 [(0, .ref b), (1, .ref x0), (2, .ref (rf 0)), (3, .ref oa), (4, .int (nI i))])
    (kk : ∀ (H1 : Heap) (locs1 : List Loc), va_S (nZ Z) s.heap H1 locs1 → WI D ct Z dc x0 rf oa H1 → ∀ ls, lv_has ls 9 [(0, .ref b), (1, .ref x0), (2, .ref (rf 0)), (3, .ref oa), (4, .int (nI i))] → W p l e room_1 s m args below meth c H1 locs1 (cells + 8) (slots + 1039) Q (F0 m 1589 ls [])) : W p l e room_1 s m args below meth c H locs cells slots Q (F0 m 462 ls []) := by
  obtain ⟨σ, ad, th, bst, g, hI, rfl, hP, hR, hA⟩ := hW
  have hlt := WI_lt hG hS hR
  refine lv_aload_n hx hb dL_law_462 rfl (lv_at hl 1 rfl) ?_
  refine lv_aload_n hx hb dL_law_463 rfl (lv_at hl 0 rfl) ?_
  refine lv_iload hx hb dL_law_464 (lv_at hl 4 rfl) ?_
  refine lv_iconst (v := 1) hx hb dL_law_466 (by decide) ?_
  refine lv_iadd hx hb dL_law_467 ?_
  refine k_scr hx hb hX hbl hbz hS hL hi 1 (by decide) (by decide) dL_law_468 ?_
  refine lv_aload_n hx hb dL_law_469 rfl (lv_at hl 0 rfl) ?_
  refine lv_iload hx hb dL_law_470 (lv_at hl 4 rfl) ?_
  refine lv_iconst (v := 2) hx hb dL_law_472 (by decide) ?_
  refine lv_iadd hx hb dL_law_473 ?_
  refine k_scr hx hb hX hbl hbz hS hL hi 2 (by decide) (by decide) dL_law_474 ?_
  refine lv_aload_n hx hb dL_law_475 rfl (lv_at hl 3 rfl) ?_
  refine lw_s1 (Zb := Z) (Z := Zr Z rf) (fun q z => Or.inl z) (vx_runSW (As := [.ref (ad 0), .int (xs (i + 1)), .int (xs (i + 2)), .ref oa]) (rest := []) ⟨hx, hb, hml, hown, hts⟩ (c_L_rumour l D ct (Zr Z rf) dc σ ad hst oa g (xs (i + 1)) (xs (i + 2)) hI.1 hzo) (vx_cwSW 4 hts (WGS w_558 w_559 w_58 w_560) rfl rfl rfl (by decide) ⟨Nat.le_of_ble_eq_true rfl, Nat.le_of_ble_eq_true rfl⟩) ⟨(blindF fun _ _ _ _ h => h), fun U hU hW => ⟨rfl, (hG.up hW hS hU).sub (fun q z => Or.inl z) (by rw [hU]; exact hlt), by rw [hU]; exact ⟨hP, hA⟩⟩⟩ rfl rfl hl.1 rfl (lv_room (Nat.le_of_ble_eq_true rfl)) dL_law_476 ⟨show _ ≤ 601024 by omega, show _ ≤ 7293034 by omega⟩) hS (fun x H1 locs1 hQ hzz hk1 hS1 => ?_)
  obtain ⟨rfl, σ1, ad1, g1, hsc, had, hP1, hA1, hg1⟩ := hQ
  have hR1 := hR.keptZ (fun i hi => hk1 _ (hR.lt5 hi) (Or.inr ⟨i, hi, rfl⟩))
  have hzq : ∀ q, Z q → Zq H1 rf q := fun q z => ⟨Nat.lt_of_lt_of_le (hG.1 q z) hS1.1, fun i hi z2 => hR.nz hi (Or.inl (by rw [← z2]; exact z))⟩
  refine lv_istore (lv' := [(5, .int (nI (o_rumour σ (xs (i + 1)) (xs (i + 2))).1)), (0, .ref b), (1, .ref (ad 0)), (2, .ref (rf 0)), (3, .ref oa), (4, .int (nI i))]) hx hb dL_law_479 hl (by decide) rfl (fun ls hl => ?_)
  refine lv_aload_n hx hb dL_law_481 rfl (lv_at hl 3 rfl) ?_
  refine lv_aload_n hx hb dL_law_482 rfl (lv_at hl 1 rfl) ?_
  refine lv_iload hx hb dL_law_483 (lv_at hl 5 rfl) ?_
  refine lv_iconst (v := 1) hx hb dL_law_485 (by decide) ?_
  refine lv_iadd hx hb dL_law_486 ?_
  refine k_scr hx hb hX hbl hbz hS1 hL hi 1 (by decide) (by decide) dL_law_487 ?_
  refine lv_aload_n hx hb dL_law_488 rfl (lv_at hl 1 rfl) ?_
  refine lv_iload hx hb dL_law_489 (lv_at hl 5 rfl) ?_
  refine lv_iconst (v := 2) hx hb dL_law_491 (by decide) ?_
  refine lv_iadd hx hb dL_law_492 ?_
  refine k_scr hx hb hX hbl hbz hS1 hL hi 2 (by decide) (by decide) dL_law_493 ?_
  refine lw_s1 (Zb := Z) (Z := Zq H1 rf) hzq (va_runV (As := [.int (xs (i + 1)), .int (xs (i + 2))]) (rest := []) ⟨hx, hb, hml, hown, hts⟩ (c_X6_rumour l D ct (Zq H1 rf) σ th bst rf (xs (i + 1)) (xs (i + 2)) hI.1) (cwV 2 hts (GG w_957 w_958 w_959 w_65 w_960) rfl rfl rfl (by decide) ⟨Nat.le_of_ble_eq_true rfl, Nat.le_of_ble_eq_true rfl⟩) ⟨(blindT fun _ _ _ _ h => h), Ob.recv (hG.2.1).1 hR1.o rfl, fun U hU hW => ⟨rfl, hG.2.1.warm hW, fun q z => by rw [hU]; exact z.1, by rw [hU]; exact hR1.rez (fun i hi z => z.2 i hi rfl)⟩⟩ rfl rfl hl.1 rfl (lv_room (Nat.le_of_ble_eq_true rfl)) dL_law_494 ⟨show _ ≤ 601024 by omega, show _ ≤ 7293034 by omega⟩) hS1 (fun x H2 locs2 hQ2 hzz2 hk2 hS2 => ?_)
  obtain ⟨rfl, b1, hR2⟩ := hQ2
  have hP2 := hP1.keptZ (fun q h1 h2 => hk2 q h1 ⟨h1, fun i hi z => h2 (Or.inl (Or.inr ⟨i, hi, z⟩))⟩)
  have hA2 := hA1.kept (hk2 _ hA1.lt ⟨hA1.lt, fun i hi z => hzo (Or.inr ⟨i, hi, z⟩)⟩)
  have hR3 := (hR2.rez (fun i hi => hR.nz hi)).core hsc
  have hI1 := (IB_ro_rumour hI _ _).core hsc
  refine lv_istore (lv' := [(6, .int (o_rumour σ (xs (i + 1)) (xs (i + 2))).2.1), (5, .int (nI (o_rumour σ (xs (i + 1)) (xs (i + 2))).1)), (0, .ref b), (1, .ref (ad 0)), (2, .ref (rf 0)), (3, .ref oa), (4, .int (nI i))]) hx hb dL_law_497 hl (by decide) rfl (fun ls hl => ?_)
  refine lv_aload_n hx hb dL_law_499 rfl (lv_at hl 4 rfl) ?_
  refine c_p1 (va_runV (As := []) (rest := []) ⟨hx, hb, hml, hown, hts⟩ (c_X6_thrown l D ct (Zo Z oa) σ1 _ b1 rf) (cwV 0 hts (GG w_916 w_917 w_918 w_65 w_919) rfl rfl rfl (by decide) ⟨Nat.le_of_ble_eq_true rfl, Nat.le_of_ble_eq_true rfl⟩) ⟨(blindT fun _ _ _ _ h => h), Ob.recv (hG.2.1).1 hR3.o rfl, fun U hU hW => ⟨rfl, hG.2.1.warm hW, by rw [hU]; exact hR3⟩⟩ rfl rfl hl.1 rfl (lv_room (Nat.le_of_ble_eq_true rfl)) dL_law_500 ⟨show _ ≤ 601024 by omega, show _ ≤ 7293034 by omega⟩) ?_
  refine lv_iload hx hb dL_law_503 (lv_at hl 1 rfl) ?_
  refine lv_icmp_eq (tgt := 510) hx hb dL_law_505 (by decide) (fun _ => ?_) (fun z => absurd rfl z)
  refine lv_iload hx hb dL_law_510 (lv_at hl 1 rfl) ?_
  have kend : ∀ ls, lv_has ls 9 [(6, .int (o_rumour σ (xs (i + 1)) (xs (i + 2))).2.1), (5, .int (nI (o_rumour σ (xs (i + 1)) (xs (i + 2))).1)), (0, .ref b), (1, .ref (ad 0)), (2, .ref (rf 0)), (3, .ref oa), (4, .int (nI i))] → W p l e room_1 s m args below meth c H2 locs2 (cells + 2 + 0 + 0) (slots + 12 + 0 + 0) Q (F0 m 1589 ls []) := fun ls hl => w_widen (k := cells + 8) (n := slots + 1039) (by omega) (by omega) (kk H2 locs2 hS2 ⟨σ1, ad1, _, b1, g1, hI1, had, hP2, hR3, hA2⟩ ls (lv_sub hl [2, 3, 4, 5, 6] rfl))
  refine lv_if_ne (tgt := 527) hx hb dL_law_512 (by decide) (fun z => ?_) (fun z => ?_)
  · refine lv_goto (tgt := 1589) hx hb dL_law_527 (by decide) ?_
    exact kend _ hl
  · have hz0 := nI_0' (cd_rumour σ _ _) z
    refine lv_aload_n hx hb dL_law_515 rfl (lv_at hl 5 rfl) ?_
    refine lv_iconst (v := 0) hx hb dL_law_516 (by decide) ?_
    refine k_lald (s := s) hx hb hG.2.1.1 hA2 (vp_in_nI (by decide : 0 < 1) (by decide)) dL_law_517 ?_
    refine lv_iload hx hb dL_law_518 (lv_at hl 0 rfl) ?_
    refine lv_i2l (v := ((o_rumour σ (xs (i + 1)) (xs (i + 2))).2.1 : Int32).toInt64) hx hb dL_law_520 rfl ?_
    refine W.lcmp hx hb dL_law_521 ?_
    refine lv_if_eq (tgt := 527) hx hb dL_law_522 (by decide) (fun _ => ?_) (fun z => absurd (lg_cmp_0 (hg1 hz0)) z)
    refine lv_goto (tgt := 1589) hx hb dL_law_527 (by decide) ?_
    exact kend _ hl

theorem cd_town (σ : Stt) (p0 p1 : Int32) : (o_town σ p0 p1).1 < 4 := by
  unfold o_town
  repeat' split
  all_goals first | exact (by decide : (0 : Nat) < 4) | exact (by decide : (1 : Nat) < 4) | exact (by decide : (2 : Nat) < 4) | exact (by decide : (3 : Nat) < 4)
theorem IB_ro_town {σ : Stt} (h : IB σ) (p0 p1 : Int32) : IB (o_town σ p0 p1).2.2 := by
  unfold o_town
  repeat' split
  all_goals exact h
set_option maxHeartbeats 4000000 in
set_option maxRecDepth 100000 in
/-- town -/
theorem lw_town {p : Program} {l : Launch} {e : Env} {s : State} {m : MethodId} {args : Array Value} {below : List Frame} {meth : Method} {c : Code} {H : Heap} {locs : List Loc} {cells slots : Nat} {Q : State → Prop} {ls : Array Slot} {b L i : Nat} {xs : Nat → Int32} {D : va_G} {ct : Nat → ClassId} {Z : Nat → Prop} {dc x0 : Nat} {rf : Nat → Nat} {oa : Nat} (hown : s.vm.findClass "RumourCustomsLaw" = some m.cls) (hts : ∀ w ∈ GW, w.before args s = true) (hG : GF D ct Z dc s s.heap) (hX : va_X b L xs s s.heap) (hbl : b < s.heap.size) (hS : va_S (nZ Z) s.heap H locs) (hx : p.tables.exec = Jvm.exec) (hb : c.code = cL_law) (hml : c.maxLocals = 9) (hst : l.stackTraces = false) (hzo : ¬ Zr Z rf oa) (hL : L ≤ 3584) (hi : i + 7 ≤ L) (hbz : Z b) (hW : WI D ct Z dc x0 rf oa H) (hc : cells + 8 ≤ 601024) (hsl : slots + 1039 ≤ 7293034) (hl : lv_has ls 9 [(0, .ref b), (1, .ref x0), (2, .ref (rf 0)), (3, .ref oa), (4, .int (nI i))])
    (kk : ∀ (H1 : Heap) (locs1 : List Loc), va_S (nZ Z) s.heap H1 locs1 → WI D ct Z dc x0 rf oa H1 → ∀ ls, lv_has ls 9 [(0, .ref b), (1, .ref x0), (2, .ref (rf 0)), (3, .ref oa), (4, .int (nI i))] → W p l e room_1 s m args below meth c H1 locs1 (cells + 8) (slots + 1039) Q (F0 m 1589 ls [])) : W p l e room_1 s m args below meth c H locs cells slots Q (F0 m 530 ls []) := by
  obtain ⟨σ, ad, th, bst, g, hI, rfl, hP, hR, hA⟩ := hW
  have hlt := WI_lt hG hS hR
  refine lv_aload_n hx hb dL_law_530 rfl (lv_at hl 1 rfl) ?_
  refine lv_aload_n hx hb dL_law_531 rfl (lv_at hl 0 rfl) ?_
  refine lv_iload hx hb dL_law_532 (lv_at hl 4 rfl) ?_
  refine lv_iconst (v := 1) hx hb dL_law_534 (by decide) ?_
  refine lv_iadd hx hb dL_law_535 ?_
  refine k_scr hx hb hX hbl hbz hS hL hi 1 (by decide) (by decide) dL_law_536 ?_
  refine lv_aload_n hx hb dL_law_537 rfl (lv_at hl 0 rfl) ?_
  refine lv_iload hx hb dL_law_538 (lv_at hl 4 rfl) ?_
  refine lv_iconst (v := 2) hx hb dL_law_540 (by decide) ?_
  refine lv_iadd hx hb dL_law_541 ?_
  refine k_scr hx hb hX hbl hbz hS hL hi 2 (by decide) (by decide) dL_law_542 ?_
  refine lv_aload_n hx hb dL_law_543 rfl (lv_at hl 3 rfl) ?_
  refine lw_s1 (Zb := Z) (Z := Zr Z rf) (fun q z => Or.inl z) (vx_runSW (As := [.ref (ad 0), .int (xs (i + 1)), .int (xs (i + 2)), .ref oa]) (rest := []) ⟨hx, hb, hml, hown, hts⟩ (c_L_town l D ct (Zr Z rf) dc σ ad hst oa g (xs (i + 1)) (xs (i + 2)) hI.1 hzo) (vx_cwSW 4 hts (WGS w_570 w_571 w_58 w_572) rfl rfl rfl (by decide) ⟨Nat.le_of_ble_eq_true rfl, Nat.le_of_ble_eq_true rfl⟩) ⟨(blindF fun _ _ _ _ h => h), fun U hU hW => ⟨rfl, (hG.up hW hS hU).sub (fun q z => Or.inl z) (by rw [hU]; exact hlt), by rw [hU]; exact ⟨hP, hA⟩⟩⟩ rfl rfl hl.1 rfl (lv_room (Nat.le_of_ble_eq_true rfl)) dL_law_544 ⟨show _ ≤ 601024 by omega, show _ ≤ 7293034 by omega⟩) hS (fun x H1 locs1 hQ hzz hk1 hS1 => ?_)
  obtain ⟨rfl, σ1, ad1, g1, hsc, had, hP1, hA1, hg1⟩ := hQ
  have hR1 := hR.keptZ (fun i hi => hk1 _ (hR.lt5 hi) (Or.inr ⟨i, hi, rfl⟩))
  have hzq : ∀ q, Z q → Zq H1 rf q := fun q z => ⟨Nat.lt_of_lt_of_le (hG.1 q z) hS1.1, fun i hi z2 => hR.nz hi (Or.inl (by rw [← z2]; exact z))⟩
  refine lv_istore (lv' := [(5, .int (nI (o_town σ (xs (i + 1)) (xs (i + 2))).1)), (0, .ref b), (1, .ref (ad 0)), (2, .ref (rf 0)), (3, .ref oa), (4, .int (nI i))]) hx hb dL_law_547 hl (by decide) rfl (fun ls hl => ?_)
  refine lv_aload_n hx hb dL_law_549 rfl (lv_at hl 3 rfl) ?_
  refine lv_aload_n hx hb dL_law_550 rfl (lv_at hl 1 rfl) ?_
  refine lv_iload hx hb dL_law_551 (lv_at hl 5 rfl) ?_
  refine lv_iconst (v := 1) hx hb dL_law_553 (by decide) ?_
  refine lv_iadd hx hb dL_law_554 ?_
  refine k_scr hx hb hX hbl hbz hS1 hL hi 1 (by decide) (by decide) dL_law_555 ?_
  refine lv_aload_n hx hb dL_law_556 rfl (lv_at hl 1 rfl) ?_
  refine lv_iload hx hb dL_law_557 (lv_at hl 5 rfl) ?_
  refine lv_iconst (v := 2) hx hb dL_law_559 (by decide) ?_
  refine lv_iadd hx hb dL_law_560 ?_
  refine k_scr hx hb hX hbl hbz hS1 hL hi 2 (by decide) (by decide) dL_law_561 ?_
  refine lw_s1 (Zb := Z) (Z := Zq H1 rf) hzq (va_runV (As := [.int (xs (i + 1)), .int (xs (i + 2))]) (rest := []) ⟨hx, hb, hml, hown, hts⟩ (c_X6_town l D ct (Zq H1 rf) σ th bst rf (xs (i + 1)) (xs (i + 2)) hI.1) (cwV 2 hts (GG w_969 w_970 w_971 w_65 w_972) rfl rfl rfl (by decide) ⟨Nat.le_of_ble_eq_true rfl, Nat.le_of_ble_eq_true rfl⟩) ⟨(blindT fun _ _ _ _ h => h), Ob.recv (hG.2.1).1 hR1.o rfl, fun U hU hW => ⟨rfl, hG.2.1.warm hW, fun q z => by rw [hU]; exact z.1, by rw [hU]; exact hR1.rez (fun i hi z => z.2 i hi rfl)⟩⟩ rfl rfl hl.1 rfl (lv_room (Nat.le_of_ble_eq_true rfl)) dL_law_562 ⟨show _ ≤ 601024 by omega, show _ ≤ 7293034 by omega⟩) hS1 (fun x H2 locs2 hQ2 hzz2 hk2 hS2 => ?_)
  obtain ⟨rfl, b1, hR2⟩ := hQ2
  have hP2 := hP1.keptZ (fun q h1 h2 => hk2 q h1 ⟨h1, fun i hi z => h2 (Or.inl (Or.inr ⟨i, hi, z⟩))⟩)
  have hA2 := hA1.kept (hk2 _ hA1.lt ⟨hA1.lt, fun i hi z => hzo (Or.inr ⟨i, hi, z⟩)⟩)
  have hR3 := (hR2.rez (fun i hi => hR.nz hi)).core hsc
  have hI1 := (IB_ro_town hI _ _).core hsc
  refine lv_istore (lv' := [(6, .int (o_town σ (xs (i + 1)) (xs (i + 2))).2.1), (5, .int (nI (o_town σ (xs (i + 1)) (xs (i + 2))).1)), (0, .ref b), (1, .ref (ad 0)), (2, .ref (rf 0)), (3, .ref oa), (4, .int (nI i))]) hx hb dL_law_565 hl (by decide) rfl (fun ls hl => ?_)
  refine lv_aload_n hx hb dL_law_567 rfl (lv_at hl 4 rfl) ?_
  refine c_p1 (va_runV (As := []) (rest := []) ⟨hx, hb, hml, hown, hts⟩ (c_X6_thrown l D ct (Zo Z oa) σ1 _ b1 rf) (cwV 0 hts (GG w_916 w_917 w_918 w_65 w_919) rfl rfl rfl (by decide) ⟨Nat.le_of_ble_eq_true rfl, Nat.le_of_ble_eq_true rfl⟩) ⟨(blindT fun _ _ _ _ h => h), Ob.recv (hG.2.1).1 hR3.o rfl, fun U hU hW => ⟨rfl, hG.2.1.warm hW, by rw [hU]; exact hR3⟩⟩ rfl rfl hl.1 rfl (lv_room (Nat.le_of_ble_eq_true rfl)) dL_law_568 ⟨show _ ≤ 601024 by omega, show _ ≤ 7293034 by omega⟩) ?_
  refine lv_iload hx hb dL_law_571 (lv_at hl 1 rfl) ?_
  refine lv_icmp_eq (tgt := 578) hx hb dL_law_573 (by decide) (fun _ => ?_) (fun z => absurd rfl z)
  refine lv_iload hx hb dL_law_578 (lv_at hl 1 rfl) ?_
  have kend : ∀ ls, lv_has ls 9 [(6, .int (o_town σ (xs (i + 1)) (xs (i + 2))).2.1), (5, .int (nI (o_town σ (xs (i + 1)) (xs (i + 2))).1)), (0, .ref b), (1, .ref (ad 0)), (2, .ref (rf 0)), (3, .ref oa), (4, .int (nI i))] → W p l e room_1 s m args below meth c H2 locs2 (cells + 2 + 0 + 0) (slots + 12 + 0 + 0) Q (F0 m 1589 ls []) := fun ls hl => w_widen (k := cells + 8) (n := slots + 1039) (by omega) (by omega) (kk H2 locs2 hS2 ⟨σ1, ad1, _, b1, g1, hI1, had, hP2, hR3, hA2⟩ ls (lv_sub hl [2, 3, 4, 5, 6] rfl))
  refine lv_if_ne (tgt := 595) hx hb dL_law_580 (by decide) (fun z => ?_) (fun z => ?_)
  · refine lv_goto (tgt := 1589) hx hb dL_law_595 (by decide) ?_
    exact kend _ hl
  · have hz0 := nI_0' (cd_town σ _ _) z
    refine lv_aload_n hx hb dL_law_583 rfl (lv_at hl 5 rfl) ?_
    refine lv_iconst (v := 0) hx hb dL_law_584 (by decide) ?_
    refine k_lald (s := s) hx hb hG.2.1.1 hA2 (vp_in_nI (by decide : 0 < 1) (by decide)) dL_law_585 ?_
    refine lv_iload hx hb dL_law_586 (lv_at hl 0 rfl) ?_
    refine lv_i2l (v := ((o_town σ (xs (i + 1)) (xs (i + 2))).2.1 : Int32).toInt64) hx hb dL_law_588 rfl ?_
    refine W.lcmp hx hb dL_law_589 ?_
    refine lv_if_eq (tgt := 595) hx hb dL_law_590 (by decide) (fun _ => ?_) (fun z => absurd (lg_cmp_0 (hg1 hz0)) z)
    refine lv_goto (tgt := 1589) hx hb dL_law_595 (by decide) ?_
    exact kend _ hl

theorem cd_heard (σ : Stt) (p0 p1 : Int32) : (o_heard σ p0 p1).1 < 4 := by
  unfold o_heard
  repeat' split
  all_goals first | exact (by decide : (0 : Nat) < 4) | exact (by decide : (1 : Nat) < 4) | exact (by decide : (2 : Nat) < 4) | exact (by decide : (3 : Nat) < 4)
theorem IB_ro_heard {σ : Stt} (h : IB σ) (p0 p1 : Int32) : IB (o_heard σ p0 p1).2.2 := by
  unfold o_heard
  repeat' split
  all_goals exact h
set_option maxHeartbeats 4000000 in
set_option maxRecDepth 100000 in
/-- heard -/
theorem lw_heard {p : Program} {l : Launch} {e : Env} {s : State} {m : MethodId} {args : Array Value} {below : List Frame} {meth : Method} {c : Code} {H : Heap} {locs : List Loc} {cells slots : Nat} {Q : State → Prop} {ls : Array Slot} {b L i : Nat} {xs : Nat → Int32} {D : va_G} {ct : Nat → ClassId} {Z : Nat → Prop} {dc x0 : Nat} {rf : Nat → Nat} {oa : Nat} (hown : s.vm.findClass "RumourCustomsLaw" = some m.cls) (hts : ∀ w ∈ GW, w.before args s = true) (hG : GF D ct Z dc s s.heap) (hX : va_X b L xs s s.heap) (hbl : b < s.heap.size) (hS : va_S (nZ Z) s.heap H locs) (hx : p.tables.exec = Jvm.exec) (hb : c.code = cL_law) (hml : c.maxLocals = 9) (hst : l.stackTraces = false) (hzo : ¬ Zr Z rf oa) (hL : L ≤ 3584) (hi : i + 7 ≤ L) (hbz : Z b) (hW : WI D ct Z dc x0 rf oa H) (hc : cells + 8 ≤ 601024) (hsl : slots + 1039 ≤ 7293034) (hl : lv_has ls 9 [(0, .ref b), (1, .ref x0), (2, .ref (rf 0)), (3, .ref oa), (4, .int (nI i))])
    (kk : ∀ (H1 : Heap) (locs1 : List Loc), va_S (nZ Z) s.heap H1 locs1 → WI D ct Z dc x0 rf oa H1 → ∀ ls, lv_has ls 9 [(0, .ref b), (1, .ref x0), (2, .ref (rf 0)), (3, .ref oa), (4, .int (nI i))] → W p l e room_1 s m args below meth c H1 locs1 (cells + 8) (slots + 1039) Q (F0 m 1589 ls [])) : W p l e room_1 s m args below meth c H locs cells slots Q (F0 m 598 ls []) := by
  obtain ⟨σ, ad, th, bst, g, hI, rfl, hP, hR, hA⟩ := hW
  have hlt := WI_lt hG hS hR
  refine lv_aload_n hx hb dL_law_598 rfl (lv_at hl 1 rfl) ?_
  refine lv_aload_n hx hb dL_law_599 rfl (lv_at hl 0 rfl) ?_
  refine lv_iload hx hb dL_law_600 (lv_at hl 4 rfl) ?_
  refine lv_iconst (v := 1) hx hb dL_law_602 (by decide) ?_
  refine lv_iadd hx hb dL_law_603 ?_
  refine k_scr hx hb hX hbl hbz hS hL hi 1 (by decide) (by decide) dL_law_604 ?_
  refine lv_aload_n hx hb dL_law_605 rfl (lv_at hl 0 rfl) ?_
  refine lv_iload hx hb dL_law_606 (lv_at hl 4 rfl) ?_
  refine lv_iconst (v := 2) hx hb dL_law_608 (by decide) ?_
  refine lv_iadd hx hb dL_law_609 ?_
  refine k_scr hx hb hX hbl hbz hS hL hi 2 (by decide) (by decide) dL_law_610 ?_
  refine lv_aload_n hx hb dL_law_611 rfl (lv_at hl 3 rfl) ?_
  refine lw_s1 (Zb := Z) (Z := Zr Z rf) (fun q z => Or.inl z) (vx_runSW (As := [.ref (ad 0), .int (xs (i + 1)), .int (xs (i + 2)), .ref oa]) (rest := []) ⟨hx, hb, hml, hown, hts⟩ (c_L_heard l D ct (Zr Z rf) dc σ ad hst oa g (xs (i + 1)) (xs (i + 2)) hI.1 hzo) (vx_cwSW 4 hts (WGS w_599 w_600 w_58 w_601) rfl rfl rfl (by decide) ⟨Nat.le_of_ble_eq_true rfl, Nat.le_of_ble_eq_true rfl⟩) ⟨(blindF fun _ _ _ _ h => h), fun U hU hW => ⟨rfl, (hG.up hW hS hU).sub (fun q z => Or.inl z) (by rw [hU]; exact hlt), by rw [hU]; exact ⟨hP, hA⟩⟩⟩ rfl rfl hl.1 rfl (lv_room (Nat.le_of_ble_eq_true rfl)) dL_law_612 ⟨show _ ≤ 601024 by omega, show _ ≤ 7293034 by omega⟩) hS (fun x H1 locs1 hQ hzz hk1 hS1 => ?_)
  obtain ⟨rfl, σ1, ad1, g1, hsc, had, hP1, hA1, hg1⟩ := hQ
  have hR1 := hR.keptZ (fun i hi => hk1 _ (hR.lt5 hi) (Or.inr ⟨i, hi, rfl⟩))
  have hzq : ∀ q, Z q → Zq H1 rf q := fun q z => ⟨Nat.lt_of_lt_of_le (hG.1 q z) hS1.1, fun i hi z2 => hR.nz hi (Or.inl (by rw [← z2]; exact z))⟩
  refine lv_istore (lv' := [(5, .int (nI (o_heard σ (xs (i + 1)) (xs (i + 2))).1)), (0, .ref b), (1, .ref (ad 0)), (2, .ref (rf 0)), (3, .ref oa), (4, .int (nI i))]) hx hb dL_law_615 hl (by decide) rfl (fun ls hl => ?_)
  refine lv_aload_n hx hb dL_law_617 rfl (lv_at hl 3 rfl) ?_
  refine lv_aload_n hx hb dL_law_618 rfl (lv_at hl 1 rfl) ?_
  refine lv_iload hx hb dL_law_619 (lv_at hl 5 rfl) ?_
  refine lv_iconst (v := 1) hx hb dL_law_621 (by decide) ?_
  refine lv_iadd hx hb dL_law_622 ?_
  refine k_scr hx hb hX hbl hbz hS1 hL hi 1 (by decide) (by decide) dL_law_623 ?_
  refine lv_aload_n hx hb dL_law_624 rfl (lv_at hl 1 rfl) ?_
  refine lv_iload hx hb dL_law_625 (lv_at hl 5 rfl) ?_
  refine lv_iconst (v := 2) hx hb dL_law_627 (by decide) ?_
  refine lv_iadd hx hb dL_law_628 ?_
  refine k_scr hx hb hX hbl hbz hS1 hL hi 2 (by decide) (by decide) dL_law_629 ?_
  refine lw_s1 (Zb := Z) (Z := Zq H1 rf) hzq (va_runV (As := [.int (xs (i + 1)), .int (xs (i + 2))]) (rest := []) ⟨hx, hb, hml, hown, hts⟩ (c_X6_heard l D ct (Zq H1 rf) σ th bst rf (xs (i + 1)) (xs (i + 2)) hI.1) (cwV 2 hts (GG w_989 w_990 w_991 w_65 w_992) rfl rfl rfl (by decide) ⟨Nat.le_of_ble_eq_true rfl, Nat.le_of_ble_eq_true rfl⟩) ⟨(blindT fun _ _ _ _ h => h), Ob.recv (hG.2.1).1 hR1.o rfl, fun U hU hW => ⟨rfl, hG.2.1.warm hW, fun q z => by rw [hU]; exact z.1, by rw [hU]; exact hR1.rez (fun i hi z => z.2 i hi rfl)⟩⟩ rfl rfl hl.1 rfl (lv_room (Nat.le_of_ble_eq_true rfl)) dL_law_630 ⟨show _ ≤ 601024 by omega, show _ ≤ 7293034 by omega⟩) hS1 (fun x H2 locs2 hQ2 hzz2 hk2 hS2 => ?_)
  obtain ⟨rfl, b1, hR2⟩ := hQ2
  have hP2 := hP1.keptZ (fun q h1 h2 => hk2 q h1 ⟨h1, fun i hi z => h2 (Or.inl (Or.inr ⟨i, hi, z⟩))⟩)
  have hA2 := hA1.kept (hk2 _ hA1.lt ⟨hA1.lt, fun i hi z => hzo (Or.inr ⟨i, hi, z⟩)⟩)
  have hR3 := (hR2.rez (fun i hi => hR.nz hi)).core hsc
  have hI1 := (IB_ro_heard hI _ _).core hsc
  refine lv_istore (lv' := [(6, .int (o_heard σ (xs (i + 1)) (xs (i + 2))).2.1), (5, .int (nI (o_heard σ (xs (i + 1)) (xs (i + 2))).1)), (0, .ref b), (1, .ref (ad 0)), (2, .ref (rf 0)), (3, .ref oa), (4, .int (nI i))]) hx hb dL_law_633 hl (by decide) rfl (fun ls hl => ?_)
  refine lv_aload_n hx hb dL_law_635 rfl (lv_at hl 4 rfl) ?_
  refine c_p1 (va_runV (As := []) (rest := []) ⟨hx, hb, hml, hown, hts⟩ (c_X6_thrown l D ct (Zo Z oa) σ1 _ b1 rf) (cwV 0 hts (GG w_916 w_917 w_918 w_65 w_919) rfl rfl rfl (by decide) ⟨Nat.le_of_ble_eq_true rfl, Nat.le_of_ble_eq_true rfl⟩) ⟨(blindT fun _ _ _ _ h => h), Ob.recv (hG.2.1).1 hR3.o rfl, fun U hU hW => ⟨rfl, hG.2.1.warm hW, by rw [hU]; exact hR3⟩⟩ rfl rfl hl.1 rfl (lv_room (Nat.le_of_ble_eq_true rfl)) dL_law_636 ⟨show _ ≤ 601024 by omega, show _ ≤ 7293034 by omega⟩) ?_
  refine lv_iload hx hb dL_law_639 (lv_at hl 1 rfl) ?_
  refine lv_icmp_eq (tgt := 646) hx hb dL_law_641 (by decide) (fun _ => ?_) (fun z => absurd rfl z)
  refine lv_iload hx hb dL_law_646 (lv_at hl 1 rfl) ?_
  have kend : ∀ ls, lv_has ls 9 [(6, .int (o_heard σ (xs (i + 1)) (xs (i + 2))).2.1), (5, .int (nI (o_heard σ (xs (i + 1)) (xs (i + 2))).1)), (0, .ref b), (1, .ref (ad 0)), (2, .ref (rf 0)), (3, .ref oa), (4, .int (nI i))] → W p l e room_1 s m args below meth c H2 locs2 (cells + 2 + 0 + 0) (slots + 12 + 0 + 0) Q (F0 m 1589 ls []) := fun ls hl => w_widen (k := cells + 8) (n := slots + 1039) (by omega) (by omega) (kk H2 locs2 hS2 ⟨σ1, ad1, _, b1, g1, hI1, had, hP2, hR3, hA2⟩ ls (lv_sub hl [2, 3, 4, 5, 6] rfl))
  refine lv_if_ne (tgt := 663) hx hb dL_law_648 (by decide) (fun z => ?_) (fun z => ?_)
  · refine lv_goto (tgt := 1589) hx hb dL_law_663 (by decide) ?_
    exact kend _ hl
  · have hz0 := nI_0' (cd_heard σ _ _) z
    refine lv_aload_n hx hb dL_law_651 rfl (lv_at hl 5 rfl) ?_
    refine lv_iconst (v := 0) hx hb dL_law_652 (by decide) ?_
    refine k_lald (s := s) hx hb hG.2.1.1 hA2 (vp_in_nI (by decide : 0 < 1) (by decide)) dL_law_653 ?_
    refine lv_iload hx hb dL_law_654 (lv_at hl 0 rfl) ?_
    refine lv_i2l (v := ((o_heard σ (xs (i + 1)) (xs (i + 2))).2.1 : Int32).toInt64) hx hb dL_law_656 rfl ?_
    refine W.lcmp hx hb dL_law_657 ?_
    refine lv_if_eq (tgt := 663) hx hb dL_law_658 (by decide) (fun _ => ?_) (fun z => absurd (lg_cmp_0 (hg1 hz0)) z)
    refine lv_goto (tgt := 1589) hx hb dL_law_663 (by decide) ?_
    exact kend _ hl

theorem cd_addCarrier (σ : Stt) (p0 p1 : Int32) : (o_addCarrier σ p0 p1).1 < 4 := by
  unfold o_addCarrier
  repeat' split
  all_goals first | exact (by decide : (0 : Nat) < 4) | exact (by decide : (1 : Nat) < 4) | exact (by decide : (2 : Nat) < 4) | exact (by decide : (3 : Nat) < 4)
set_option maxHeartbeats 4000000 in
set_option maxRecDepth 100000 in
/-- addCarrier -/
theorem lw_addCarrier {p : Program} {l : Launch} {e : Env} {s : State} {m : MethodId} {args : Array Value} {below : List Frame} {meth : Method} {c : Code} {H : Heap} {locs : List Loc} {cells slots : Nat} {Q : State → Prop} {ls : Array Slot} {b L i : Nat} {xs : Nat → Int32} {D : va_G} {ct : Nat → ClassId} {Z : Nat → Prop} {dc x0 : Nat} {rf : Nat → Nat} {oa : Nat} (hown : s.vm.findClass "RumourCustomsLaw" = some m.cls) (hts : ∀ w ∈ GW, w.before args s = true) (hG : GF D ct Z dc s s.heap) (hX : va_X b L xs s s.heap) (hbl : b < s.heap.size) (hS : va_S (nZ Z) s.heap H locs) (hx : p.tables.exec = Jvm.exec) (hb : c.code = cL_law) (hml : c.maxLocals = 9) (hst : l.stackTraces = false) (hzo : ¬ Zr Z rf oa) (hL : L ≤ 3584) (hi : i + 7 ≤ L) (hbz : Z b) (hW : WI D ct Z dc x0 rf oa H) (hc : cells + 8 ≤ 601024) (hsl : slots + 1039 ≤ 7293034) (hl : lv_has ls 9 [(0, .ref b), (1, .ref x0), (2, .ref (rf 0)), (3, .ref oa), (4, .int (nI i))])
    (kk : ∀ (H1 : Heap) (locs1 : List Loc), va_S (nZ Z) s.heap H1 locs1 → WI D ct Z dc x0 rf oa H1 → ∀ ls, lv_has ls 9 [(0, .ref b), (1, .ref x0), (2, .ref (rf 0)), (3, .ref oa), (4, .int (nI i))] → W p l e room_1 s m args below meth c H1 locs1 (cells + 8) (slots + 1039) Q (F0 m 1589 ls [])) : W p l e room_1 s m args below meth c H locs cells slots Q (F0 m 666 ls []) := by
  obtain ⟨σ, ad, th, bst, g, hI, rfl, hP, hR, hA⟩ := hW
  have hlt := WI_lt hG hS hR
  refine lv_aload_n hx hb dL_law_666 rfl (lv_at hl 1 rfl) ?_
  refine lv_aload_n hx hb dL_law_667 rfl (lv_at hl 0 rfl) ?_
  refine lv_iload hx hb dL_law_668 (lv_at hl 4 rfl) ?_
  refine lv_iconst (v := 1) hx hb dL_law_670 (by decide) ?_
  refine lv_iadd hx hb dL_law_671 ?_
  refine k_scr hx hb hX hbl hbz hS hL hi 1 (by decide) (by decide) dL_law_672 ?_
  refine lv_aload_n hx hb dL_law_673 rfl (lv_at hl 0 rfl) ?_
  refine lv_iload hx hb dL_law_674 (lv_at hl 4 rfl) ?_
  refine lv_iconst (v := 2) hx hb dL_law_676 (by decide) ?_
  refine lv_iadd hx hb dL_law_677 ?_
  refine k_scr hx hb hX hbl hbz hS hL hi 2 (by decide) (by decide) dL_law_678 ?_
  refine lv_aload_n hx hb dL_law_679 rfl (lv_at hl 3 rfl) ?_
  refine lw_s1 (Zb := Z) (Z := Zr Z rf) (fun q z => Or.inl z) (vx_runSW (As := [.ref (ad 0), .int (xs (i + 1)), .int (xs (i + 2)), .ref oa]) (rest := []) ⟨hx, hb, hml, hown, hts⟩ (c_L_addCarrier l D ct (Zr Z rf) dc σ ad hst oa g (xs (i + 1)) (xs (i + 2)) hI.1 hzo) (vx_cwSW 4 hts (WGS w_610 w_611 w_58 w_612) rfl rfl rfl (by decide) ⟨Nat.le_of_ble_eq_true rfl, Nat.le_of_ble_eq_true rfl⟩) ⟨(blindF fun _ _ _ _ h => h), fun U hU hW => ⟨rfl, (hG.up hW hS hU).sub (fun q z => Or.inl z) (by rw [hU]; exact hlt), by rw [hU]; exact ⟨hP, hA⟩⟩⟩ rfl rfl hl.1 rfl (lv_room (Nat.le_of_ble_eq_true rfl)) dL_law_680 ⟨show _ ≤ 601024 by omega, show _ ≤ 7293034 by omega⟩) hS (fun x H1 locs1 hQ hzz hk1 hS1 => ?_)
  obtain ⟨rfl, σ1, ad1, g1, hsc, had, hP1, hA1, hg1⟩ := hQ
  have hR1 := hR.keptZ (fun i hi => hk1 _ (hR.lt5 hi) (Or.inr ⟨i, hi, rfl⟩))
  have hzq : ∀ q, Z q → Zq H1 rf q := fun q z => ⟨Nat.lt_of_lt_of_le (hG.1 q z) hS1.1, fun i hi z2 => hR.nz hi (Or.inl (by rw [← z2]; exact z))⟩
  refine lv_istore (lv' := [(5, .int (nI (o_addCarrier σ (xs (i + 1)) (xs (i + 2))).1)), (0, .ref b), (1, .ref (ad 0)), (2, .ref (rf 0)), (3, .ref oa), (4, .int (nI i))]) hx hb dL_law_683 hl (by decide) rfl (fun ls hl => ?_)
  refine lv_aload_n hx hb dL_law_685 rfl (lv_at hl 3 rfl) ?_
  refine lv_aload_n hx hb dL_law_686 rfl (lv_at hl 1 rfl) ?_
  refine lv_iload hx hb dL_law_687 (lv_at hl 5 rfl) ?_
  refine lv_iconst (v := 1) hx hb dL_law_689 (by decide) ?_
  refine lv_iadd hx hb dL_law_690 ?_
  refine k_scr hx hb hX hbl hbz hS1 hL hi 1 (by decide) (by decide) dL_law_691 ?_
  refine lv_aload_n hx hb dL_law_692 rfl (lv_at hl 1 rfl) ?_
  refine lv_iload hx hb dL_law_693 (lv_at hl 5 rfl) ?_
  refine lv_iconst (v := 2) hx hb dL_law_695 (by decide) ?_
  refine lv_iadd hx hb dL_law_696 ?_
  refine k_scr hx hb hX hbl hbz hS1 hL hi 2 (by decide) (by decide) dL_law_697 ?_
  refine lw_s1 (Zb := Z) (Z := Zq H1 rf) hzq (va_runV (As := [.int (xs (i + 1)), .int (xs (i + 2))]) (rest := []) ⟨hx, hb, hml, hown, hts⟩ (c_X6_addCarrier l D ct (Zq H1 rf) σ th bst rf (xs (i + 1)) (xs (i + 2)) hI.1) (cwV 2 hts (GG w_993 w_994 w_995 w_65 w_996) rfl rfl rfl (by decide) ⟨Nat.le_of_ble_eq_true rfl, Nat.le_of_ble_eq_true rfl⟩) ⟨(blindT fun _ _ _ _ h => h), Ob.recv (hG.2.1).1 hR1.o rfl, fun U hU hW => ⟨rfl, hG.2.1.warm hW, fun q z => by rw [hU]; exact z.1, by rw [hU]; exact hR1.rez (fun i hi z => z.2 i hi rfl)⟩⟩ rfl rfl hl.1 rfl (lv_room (Nat.le_of_ble_eq_true rfl)) dL_law_698 ⟨show _ ≤ 601024 by omega, show _ ≤ 7293034 by omega⟩) hS1 (fun x H2 locs2 hQ2 hzz2 hk2 hS2 => ?_)
  obtain ⟨rfl, b1, hR2⟩ := hQ2
  have hP2 := hP1.keptZ (fun q h1 h2 => hk2 q h1 ⟨h1, fun i hi z => h2 (Or.inl (Or.inr ⟨i, hi, z⟩))⟩)
  have hA2 := hA1.kept (hk2 _ hA1.lt ⟨hA1.lt, fun i hi z => hzo (Or.inr ⟨i, hi, z⟩)⟩)
  have hR3 := (hR2.rez (fun i hi => hR.nz hi)).core hsc
  have hI1 := (IB_addCarrier hI _ _).core hsc
  refine lv_istore (lv' := [(6, .int (o_addCarrier σ (xs (i + 1)) (xs (i + 2))).2.1), (5, .int (nI (o_addCarrier σ (xs (i + 1)) (xs (i + 2))).1)), (0, .ref b), (1, .ref (ad 0)), (2, .ref (rf 0)), (3, .ref oa), (4, .int (nI i))]) hx hb dL_law_701 hl (by decide) rfl (fun ls hl => ?_)
  refine lv_aload_n hx hb dL_law_703 rfl (lv_at hl 4 rfl) ?_
  refine c_p1 (va_runV (As := []) (rest := []) ⟨hx, hb, hml, hown, hts⟩ (c_X6_thrown l D ct (Zo Z oa) σ1 _ b1 rf) (cwV 0 hts (GG w_916 w_917 w_918 w_65 w_919) rfl rfl rfl (by decide) ⟨Nat.le_of_ble_eq_true rfl, Nat.le_of_ble_eq_true rfl⟩) ⟨(blindT fun _ _ _ _ h => h), Ob.recv (hG.2.1).1 hR3.o rfl, fun U hU hW => ⟨rfl, hG.2.1.warm hW, by rw [hU]; exact hR3⟩⟩ rfl rfl hl.1 rfl (lv_room (Nat.le_of_ble_eq_true rfl)) dL_law_704 ⟨show _ ≤ 601024 by omega, show _ ≤ 7293034 by omega⟩) ?_
  refine lv_iload hx hb dL_law_707 (lv_at hl 1 rfl) ?_
  refine lv_icmp_eq (tgt := 714) hx hb dL_law_709 (by decide) (fun _ => ?_) (fun z => absurd rfl z)
  refine lv_iload hx hb dL_law_714 (lv_at hl 1 rfl) ?_
  have kend : ∀ ls, lv_has ls 9 [(6, .int (o_addCarrier σ (xs (i + 1)) (xs (i + 2))).2.1), (5, .int (nI (o_addCarrier σ (xs (i + 1)) (xs (i + 2))).1)), (0, .ref b), (1, .ref (ad 0)), (2, .ref (rf 0)), (3, .ref oa), (4, .int (nI i))] → W p l e room_1 s m args below meth c H2 locs2 (cells + 4 + 1 + 0) (slots + 1017 + 4 + 0) Q (F0 m 1589 ls []) := fun ls hl => w_widen (k := cells + 8) (n := slots + 1039) (by omega) (by omega) (kk H2 locs2 hS2 ⟨σ1, ad1, _, b1, g1, hI1, had, hP2, hR3, hA2⟩ ls (lv_sub hl [2, 3, 4, 5, 6] rfl))
  refine lv_if_ne (tgt := 731) hx hb dL_law_716 (by decide) (fun z => ?_) (fun z => ?_)
  · refine lv_goto (tgt := 1589) hx hb dL_law_731 (by decide) ?_
    exact kend _ hl
  · have hz0 := nI_0' (cd_addCarrier σ _ _) z
    refine lv_aload_n hx hb dL_law_719 rfl (lv_at hl 5 rfl) ?_
    refine lv_iconst (v := 0) hx hb dL_law_720 (by decide) ?_
    refine k_lald (s := s) hx hb hG.2.1.1 hA2 (vp_in_nI (by decide : 0 < 1) (by decide)) dL_law_721 ?_
    refine lv_iload hx hb dL_law_722 (lv_at hl 0 rfl) ?_
    refine lv_i2l (v := ((o_addCarrier σ (xs (i + 1)) (xs (i + 2))).2.1 : Int32).toInt64) hx hb dL_law_724 rfl ?_
    refine W.lcmp hx hb dL_law_725 ?_
    refine lv_if_eq (tgt := 731) hx hb dL_law_726 (by decide) (fun _ => ?_) (fun z => absurd (lg_cmp_0 (hg1 hz0)) z)
    refine lv_goto (tgt := 1589) hx hb dL_law_731 (by decide) ?_
    exact kend _ hl

theorem cd_take (σ : Stt) (p0 p1 : Int32) : (o_take σ p0 p1).1 < 4 := by
  unfold o_take
  repeat' split
  all_goals first | exact (by decide : (0 : Nat) < 4) | exact (by decide : (1 : Nat) < 4) | exact (by decide : (2 : Nat) < 4) | exact (by decide : (3 : Nat) < 4)
set_option maxHeartbeats 4000000 in
set_option maxRecDepth 100000 in
/-- take -/
theorem lw_take {p : Program} {l : Launch} {e : Env} {s : State} {m : MethodId} {args : Array Value} {below : List Frame} {meth : Method} {c : Code} {H : Heap} {locs : List Loc} {cells slots : Nat} {Q : State → Prop} {ls : Array Slot} {b L i : Nat} {xs : Nat → Int32} {D : va_G} {ct : Nat → ClassId} {Z : Nat → Prop} {dc x0 : Nat} {rf : Nat → Nat} {oa : Nat} (hown : s.vm.findClass "RumourCustomsLaw" = some m.cls) (hts : ∀ w ∈ GW, w.before args s = true) (hG : GF D ct Z dc s s.heap) (hX : va_X b L xs s s.heap) (hbl : b < s.heap.size) (hS : va_S (nZ Z) s.heap H locs) (hx : p.tables.exec = Jvm.exec) (hb : c.code = cL_law) (hml : c.maxLocals = 9) (hst : l.stackTraces = false) (hzo : ¬ Zr Z rf oa) (hL : L ≤ 3584) (hi : i + 7 ≤ L) (hbz : Z b) (hW : WI D ct Z dc x0 rf oa H) (hc : cells + 8 ≤ 601024) (hsl : slots + 1039 ≤ 7293034) (hl : lv_has ls 9 [(0, .ref b), (1, .ref x0), (2, .ref (rf 0)), (3, .ref oa), (4, .int (nI i))])
    (kk : ∀ (H1 : Heap) (locs1 : List Loc), va_S (nZ Z) s.heap H1 locs1 → WI D ct Z dc x0 rf oa H1 → ∀ ls, lv_has ls 9 [(0, .ref b), (1, .ref x0), (2, .ref (rf 0)), (3, .ref oa), (4, .int (nI i))] → W p l e room_1 s m args below meth c H1 locs1 (cells + 8) (slots + 1039) Q (F0 m 1589 ls [])) : W p l e room_1 s m args below meth c H locs cells slots Q (F0 m 734 ls []) := by
  obtain ⟨σ, ad, th, bst, g, hI, rfl, hP, hR, hA⟩ := hW
  have hlt := WI_lt hG hS hR
  refine lv_aload_n hx hb dL_law_734 rfl (lv_at hl 1 rfl) ?_
  refine lv_aload_n hx hb dL_law_735 rfl (lv_at hl 0 rfl) ?_
  refine lv_iload hx hb dL_law_736 (lv_at hl 4 rfl) ?_
  refine lv_iconst (v := 1) hx hb dL_law_738 (by decide) ?_
  refine lv_iadd hx hb dL_law_739 ?_
  refine k_scr hx hb hX hbl hbz hS hL hi 1 (by decide) (by decide) dL_law_740 ?_
  refine lv_aload_n hx hb dL_law_741 rfl (lv_at hl 0 rfl) ?_
  refine lv_iload hx hb dL_law_742 (lv_at hl 4 rfl) ?_
  refine lv_iconst (v := 2) hx hb dL_law_744 (by decide) ?_
  refine lv_iadd hx hb dL_law_745 ?_
  refine k_scr hx hb hX hbl hbz hS hL hi 2 (by decide) (by decide) dL_law_746 ?_
  refine lv_aload_n hx hb dL_law_747 rfl (lv_at hl 3 rfl) ?_
  refine lw_s1 (Zb := Z) (Z := Zr Z rf) (fun q z => Or.inl z) (vx_runSW (As := [.ref (ad 0), .int (xs (i + 1)), .int (xs (i + 2)), .ref oa]) (rest := []) ⟨hx, hb, hml, hown, hts⟩ (c_L_take l D ct (Zr Z rf) dc σ ad hst oa g (xs (i + 1)) (xs (i + 2)) hI.1 hzo) (vx_cwSW 4 hts (WGS w_645 w_646 w_58 w_647) rfl rfl rfl (by decide) ⟨Nat.le_of_ble_eq_true rfl, Nat.le_of_ble_eq_true rfl⟩) ⟨(blindF fun _ _ _ _ h => h), fun U hU hW => ⟨rfl, (hG.up hW hS hU).sub (fun q z => Or.inl z) (by rw [hU]; exact hlt), by rw [hU]; exact ⟨hP, hA⟩⟩⟩ rfl rfl hl.1 rfl (lv_room (Nat.le_of_ble_eq_true rfl)) dL_law_748 ⟨show _ ≤ 601024 by omega, show _ ≤ 7293034 by omega⟩) hS (fun x H1 locs1 hQ hzz hk1 hS1 => ?_)
  obtain ⟨rfl, σ1, ad1, g1, hsc, had, hP1, hA1, hg1⟩ := hQ
  have hR1 := hR.keptZ (fun i hi => hk1 _ (hR.lt5 hi) (Or.inr ⟨i, hi, rfl⟩))
  have hzq : ∀ q, Z q → Zq H1 rf q := fun q z => ⟨Nat.lt_of_lt_of_le (hG.1 q z) hS1.1, fun i hi z2 => hR.nz hi (Or.inl (by rw [← z2]; exact z))⟩
  refine lv_istore (lv' := [(5, .int (nI (o_take σ (xs (i + 1)) (xs (i + 2))).1)), (0, .ref b), (1, .ref (ad 0)), (2, .ref (rf 0)), (3, .ref oa), (4, .int (nI i))]) hx hb dL_law_751 hl (by decide) rfl (fun ls hl => ?_)
  refine lv_aload_n hx hb dL_law_753 rfl (lv_at hl 3 rfl) ?_
  refine lv_aload_n hx hb dL_law_754 rfl (lv_at hl 1 rfl) ?_
  refine lv_iload hx hb dL_law_755 (lv_at hl 5 rfl) ?_
  refine lv_iconst (v := 1) hx hb dL_law_757 (by decide) ?_
  refine lv_iadd hx hb dL_law_758 ?_
  refine k_scr hx hb hX hbl hbz hS1 hL hi 1 (by decide) (by decide) dL_law_759 ?_
  refine lv_aload_n hx hb dL_law_760 rfl (lv_at hl 1 rfl) ?_
  refine lv_iload hx hb dL_law_761 (lv_at hl 5 rfl) ?_
  refine lv_iconst (v := 2) hx hb dL_law_763 (by decide) ?_
  refine lv_iadd hx hb dL_law_764 ?_
  refine k_scr hx hb hX hbl hbz hS1 hL hi 2 (by decide) (by decide) dL_law_765 ?_
  refine lw_s1 (Zb := Z) (Z := Zq H1 rf) hzq (va_runV (As := [.int (xs (i + 1)), .int (xs (i + 2))]) (rest := []) ⟨hx, hb, hml, hown, hts⟩ (c_X6_take l D ct (Zq H1 rf) σ th bst rf (xs (i + 1)) (xs (i + 2)) hI.1 hI.2) (cwV 2 hts (GG w_998 w_999 w_1000 w_65 w_1001) rfl rfl rfl (by decide) ⟨Nat.le_of_ble_eq_true rfl, Nat.le_of_ble_eq_true rfl⟩) ⟨(blindT fun _ _ _ _ h => h), Ob.recv (hG.2.1).1 hR1.o rfl, fun U hU hW => ⟨rfl, hG.2.1.warm hW, fun q z => by rw [hU]; exact z.1, by rw [hU]; exact hR1.rez (fun i hi z => z.2 i hi rfl)⟩⟩ rfl rfl hl.1 rfl (lv_room (Nat.le_of_ble_eq_true rfl)) dL_law_766 ⟨show _ ≤ 601024 by omega, show _ ≤ 7293034 by omega⟩) hS1 (fun x H2 locs2 hQ2 hzz2 hk2 hS2 => ?_)
  obtain ⟨rfl, b1, hR2⟩ := hQ2
  have hP2 := hP1.keptZ (fun q h1 h2 => hk2 q h1 ⟨h1, fun i hi z => h2 (Or.inl (Or.inr ⟨i, hi, z⟩))⟩)
  have hA2 := hA1.kept (hk2 _ hA1.lt ⟨hA1.lt, fun i hi z => hzo (Or.inr ⟨i, hi, z⟩)⟩)
  have hR3 := (hR2.rez (fun i hi => hR.nz hi)).core hsc
  have hI1 := (IB_take hI _ _).core hsc
  refine lv_istore (lv' := [(6, .int (o_take σ (xs (i + 1)) (xs (i + 2))).2.1), (5, .int (nI (o_take σ (xs (i + 1)) (xs (i + 2))).1)), (0, .ref b), (1, .ref (ad 0)), (2, .ref (rf 0)), (3, .ref oa), (4, .int (nI i))]) hx hb dL_law_769 hl (by decide) rfl (fun ls hl => ?_)
  refine lv_aload_n hx hb dL_law_771 rfl (lv_at hl 4 rfl) ?_
  refine c_p1 (va_runV (As := []) (rest := []) ⟨hx, hb, hml, hown, hts⟩ (c_X6_thrown l D ct (Zo Z oa) σ1 _ b1 rf) (cwV 0 hts (GG w_916 w_917 w_918 w_65 w_919) rfl rfl rfl (by decide) ⟨Nat.le_of_ble_eq_true rfl, Nat.le_of_ble_eq_true rfl⟩) ⟨(blindT fun _ _ _ _ h => h), Ob.recv (hG.2.1).1 hR3.o rfl, fun U hU hW => ⟨rfl, hG.2.1.warm hW, by rw [hU]; exact hR3⟩⟩ rfl rfl hl.1 rfl (lv_room (Nat.le_of_ble_eq_true rfl)) dL_law_772 ⟨show _ ≤ 601024 by omega, show _ ≤ 7293034 by omega⟩) ?_
  refine lv_iload hx hb dL_law_775 (lv_at hl 1 rfl) ?_
  refine lv_icmp_eq (tgt := 782) hx hb dL_law_777 (by decide) (fun _ => ?_) (fun z => absurd rfl z)
  refine lv_iload hx hb dL_law_782 (lv_at hl 1 rfl) ?_
  have kend : ∀ ls, lv_has ls 9 [(6, .int (o_take σ (xs (i + 1)) (xs (i + 2))).2.1), (5, .int (nI (o_take σ (xs (i + 1)) (xs (i + 2))).1)), (0, .ref b), (1, .ref (ad 0)), (2, .ref (rf 0)), (3, .ref oa), (4, .int (nI i))] → W p l e room_1 s m args below meth c H2 locs2 (cells + 4 + 0 + 0) (slots + 24 + 0 + 0) Q (F0 m 1589 ls []) := fun ls hl => w_widen (k := cells + 8) (n := slots + 1039) (by omega) (by omega) (kk H2 locs2 hS2 ⟨σ1, ad1, _, b1, g1, hI1, had, hP2, hR3, hA2⟩ ls (lv_sub hl [2, 3, 4, 5, 6] rfl))
  refine lv_if_ne (tgt := 799) hx hb dL_law_784 (by decide) (fun z => ?_) (fun z => ?_)
  · refine lv_goto (tgt := 1589) hx hb dL_law_799 (by decide) ?_
    exact kend _ hl
  · have hz0 := nI_0' (cd_take σ _ _) z
    refine lv_aload_n hx hb dL_law_787 rfl (lv_at hl 5 rfl) ?_
    refine lv_iconst (v := 0) hx hb dL_law_788 (by decide) ?_
    refine k_lald (s := s) hx hb hG.2.1.1 hA2 (vp_in_nI (by decide : 0 < 1) (by decide)) dL_law_789 ?_
    refine lv_iload hx hb dL_law_790 (lv_at hl 0 rfl) ?_
    refine lv_i2l (v := ((o_take σ (xs (i + 1)) (xs (i + 2))).2.1 : Int32).toInt64) hx hb dL_law_792 rfl ?_
    refine W.lcmp hx hb dL_law_793 ?_
    refine lv_if_eq (tgt := 799) hx hb dL_law_794 (by decide) (fun _ => ?_) (fun z => absurd (lg_cmp_0 (hg1 hz0)) z)
    refine lv_goto (tgt := 1589) hx hb dL_law_799 (by decide) ?_
    exact kend _ hl

theorem cd_leave (σ : Stt) (p0 p1 : Int32) : (o_leave σ p0 p1).1 < 4 := by
  unfold o_leave
  repeat' split
  all_goals first | exact (by decide : (0 : Nat) < 4) | exact (by decide : (1 : Nat) < 4) | exact (by decide : (2 : Nat) < 4) | exact (by decide : (3 : Nat) < 4)
set_option maxHeartbeats 4000000 in
set_option maxRecDepth 100000 in
/-- leave -/
theorem lw_leave {p : Program} {l : Launch} {e : Env} {s : State} {m : MethodId} {args : Array Value} {below : List Frame} {meth : Method} {c : Code} {H : Heap} {locs : List Loc} {cells slots : Nat} {Q : State → Prop} {ls : Array Slot} {b L i : Nat} {xs : Nat → Int32} {D : va_G} {ct : Nat → ClassId} {Z : Nat → Prop} {dc x0 : Nat} {rf : Nat → Nat} {oa : Nat} (hown : s.vm.findClass "RumourCustomsLaw" = some m.cls) (hts : ∀ w ∈ GW, w.before args s = true) (hG : GF D ct Z dc s s.heap) (hX : va_X b L xs s s.heap) (hbl : b < s.heap.size) (hS : va_S (nZ Z) s.heap H locs) (hx : p.tables.exec = Jvm.exec) (hb : c.code = cL_law) (hml : c.maxLocals = 9) (hst : l.stackTraces = false) (hzo : ¬ Zr Z rf oa) (hL : L ≤ 3584) (hi : i + 7 ≤ L) (hbz : Z b) (hW : WI D ct Z dc x0 rf oa H) (hc : cells + 8 ≤ 601024) (hsl : slots + 1039 ≤ 7293034) (hl : lv_has ls 9 [(0, .ref b), (1, .ref x0), (2, .ref (rf 0)), (3, .ref oa), (4, .int (nI i))])
    (kk : ∀ (H1 : Heap) (locs1 : List Loc), va_S (nZ Z) s.heap H1 locs1 → WI D ct Z dc x0 rf oa H1 → ∀ ls, lv_has ls 9 [(0, .ref b), (1, .ref x0), (2, .ref (rf 0)), (3, .ref oa), (4, .int (nI i))] → W p l e room_1 s m args below meth c H1 locs1 (cells + 8) (slots + 1039) Q (F0 m 1589 ls [])) : W p l e room_1 s m args below meth c H locs cells slots Q (F0 m 802 ls []) := by
  obtain ⟨σ, ad, th, bst, g, hI, rfl, hP, hR, hA⟩ := hW
  have hlt := WI_lt hG hS hR
  refine lv_aload_n hx hb dL_law_802 rfl (lv_at hl 1 rfl) ?_
  refine lv_aload_n hx hb dL_law_803 rfl (lv_at hl 0 rfl) ?_
  refine lv_iload hx hb dL_law_804 (lv_at hl 4 rfl) ?_
  refine lv_iconst (v := 1) hx hb dL_law_806 (by decide) ?_
  refine lv_iadd hx hb dL_law_807 ?_
  refine k_scr hx hb hX hbl hbz hS hL hi 1 (by decide) (by decide) dL_law_808 ?_
  refine lv_aload_n hx hb dL_law_809 rfl (lv_at hl 0 rfl) ?_
  refine lv_iload hx hb dL_law_810 (lv_at hl 4 rfl) ?_
  refine lv_iconst (v := 2) hx hb dL_law_812 (by decide) ?_
  refine lv_iadd hx hb dL_law_813 ?_
  refine k_scr hx hb hX hbl hbz hS hL hi 2 (by decide) (by decide) dL_law_814 ?_
  refine lv_aload_n hx hb dL_law_815 rfl (lv_at hl 3 rfl) ?_
  refine lw_s1 (Zb := Z) (Z := Zr Z rf) (fun q z => Or.inl z) (vx_runSW (As := [.ref (ad 0), .int (xs (i + 1)), .int (xs (i + 2)), .ref oa]) (rest := []) ⟨hx, hb, hml, hown, hts⟩ (c_L_leave l D ct (Zr Z rf) dc σ ad hst oa g (xs (i + 1)) (xs (i + 2)) hI.1 hzo) (vx_cwSW 4 hts (WGS w_671 w_672 w_58 w_673) rfl rfl rfl (by decide) ⟨Nat.le_of_ble_eq_true rfl, Nat.le_of_ble_eq_true rfl⟩) ⟨(blindF fun _ _ _ _ h => h), fun U hU hW => ⟨rfl, (hG.up hW hS hU).sub (fun q z => Or.inl z) (by rw [hU]; exact hlt), by rw [hU]; exact ⟨hP, hA⟩⟩⟩ rfl rfl hl.1 rfl (lv_room (Nat.le_of_ble_eq_true rfl)) dL_law_816 ⟨show _ ≤ 601024 by omega, show _ ≤ 7293034 by omega⟩) hS (fun x H1 locs1 hQ hzz hk1 hS1 => ?_)
  obtain ⟨rfl, σ1, ad1, g1, hsc, had, hP1, hA1, hg1⟩ := hQ
  have hR1 := hR.keptZ (fun i hi => hk1 _ (hR.lt5 hi) (Or.inr ⟨i, hi, rfl⟩))
  have hzq : ∀ q, Z q → Zq H1 rf q := fun q z => ⟨Nat.lt_of_lt_of_le (hG.1 q z) hS1.1, fun i hi z2 => hR.nz hi (Or.inl (by rw [← z2]; exact z))⟩
  refine lv_istore (lv' := [(5, .int (nI (o_leave σ (xs (i + 1)) (xs (i + 2))).1)), (0, .ref b), (1, .ref (ad 0)), (2, .ref (rf 0)), (3, .ref oa), (4, .int (nI i))]) hx hb dL_law_819 hl (by decide) rfl (fun ls hl => ?_)
  refine lv_aload_n hx hb dL_law_821 rfl (lv_at hl 3 rfl) ?_
  refine lv_aload_n hx hb dL_law_822 rfl (lv_at hl 1 rfl) ?_
  refine lv_iload hx hb dL_law_823 (lv_at hl 5 rfl) ?_
  refine lv_iconst (v := 1) hx hb dL_law_825 (by decide) ?_
  refine lv_iadd hx hb dL_law_826 ?_
  refine k_scr hx hb hX hbl hbz hS1 hL hi 1 (by decide) (by decide) dL_law_827 ?_
  refine lv_aload_n hx hb dL_law_828 rfl (lv_at hl 1 rfl) ?_
  refine lv_iload hx hb dL_law_829 (lv_at hl 5 rfl) ?_
  refine lv_iconst (v := 2) hx hb dL_law_831 (by decide) ?_
  refine lv_iadd hx hb dL_law_832 ?_
  refine k_scr hx hb hX hbl hbz hS1 hL hi 2 (by decide) (by decide) dL_law_833 ?_
  refine lw_s1 (Zb := Z) (Z := Zq H1 rf) hzq (va_runV (As := [.int (xs (i + 1)), .int (xs (i + 2))]) (rest := []) ⟨hx, hb, hml, hown, hts⟩ (c_X6_leave l D ct (Zq H1 rf) σ th bst rf (xs (i + 1)) (xs (i + 2)) hI.1) (cwV 2 hts (GG w_1018 w_1019 w_1020 w_65 w_1021) rfl rfl rfl (by decide) ⟨Nat.le_of_ble_eq_true rfl, Nat.le_of_ble_eq_true rfl⟩) ⟨(blindT fun _ _ _ _ h => h), Ob.recv (hG.2.1).1 hR1.o rfl, fun U hU hW => ⟨rfl, hG.2.1.warm hW, fun q z => by rw [hU]; exact z.1, by rw [hU]; exact hR1.rez (fun i hi z => z.2 i hi rfl)⟩⟩ rfl rfl hl.1 rfl (lv_room (Nat.le_of_ble_eq_true rfl)) dL_law_834 ⟨show _ ≤ 601024 by omega, show _ ≤ 7293034 by omega⟩) hS1 (fun x H2 locs2 hQ2 hzz2 hk2 hS2 => ?_)
  obtain ⟨rfl, b1, hR2⟩ := hQ2
  have hP2 := hP1.keptZ (fun q h1 h2 => hk2 q h1 ⟨h1, fun i hi z => h2 (Or.inl (Or.inr ⟨i, hi, z⟩))⟩)
  have hA2 := hA1.kept (hk2 _ hA1.lt ⟨hA1.lt, fun i hi z => hzo (Or.inr ⟨i, hi, z⟩)⟩)
  have hR3 := (hR2.rez (fun i hi => hR.nz hi)).core hsc
  have hI1 := (IB_leave hI _ _).core hsc
  refine lv_istore (lv' := [(6, .int (o_leave σ (xs (i + 1)) (xs (i + 2))).2.1), (5, .int (nI (o_leave σ (xs (i + 1)) (xs (i + 2))).1)), (0, .ref b), (1, .ref (ad 0)), (2, .ref (rf 0)), (3, .ref oa), (4, .int (nI i))]) hx hb dL_law_837 hl (by decide) rfl (fun ls hl => ?_)
  refine lv_aload_n hx hb dL_law_839 rfl (lv_at hl 4 rfl) ?_
  refine c_p1 (va_runV (As := []) (rest := []) ⟨hx, hb, hml, hown, hts⟩ (c_X6_thrown l D ct (Zo Z oa) σ1 _ b1 rf) (cwV 0 hts (GG w_916 w_917 w_918 w_65 w_919) rfl rfl rfl (by decide) ⟨Nat.le_of_ble_eq_true rfl, Nat.le_of_ble_eq_true rfl⟩) ⟨(blindT fun _ _ _ _ h => h), Ob.recv (hG.2.1).1 hR3.o rfl, fun U hU hW => ⟨rfl, hG.2.1.warm hW, by rw [hU]; exact hR3⟩⟩ rfl rfl hl.1 rfl (lv_room (Nat.le_of_ble_eq_true rfl)) dL_law_840 ⟨show _ ≤ 601024 by omega, show _ ≤ 7293034 by omega⟩) ?_
  refine lv_iload hx hb dL_law_843 (lv_at hl 1 rfl) ?_
  refine lv_icmp_eq (tgt := 850) hx hb dL_law_845 (by decide) (fun _ => ?_) (fun z => absurd rfl z)
  refine lv_iload hx hb dL_law_850 (lv_at hl 1 rfl) ?_
  have kend : ∀ ls, lv_has ls 9 [(6, .int (o_leave σ (xs (i + 1)) (xs (i + 2))).2.1), (5, .int (nI (o_leave σ (xs (i + 1)) (xs (i + 2))).1)), (0, .ref b), (1, .ref (ad 0)), (2, .ref (rf 0)), (3, .ref oa), (4, .int (nI i))] → W p l e room_1 s m args below meth c H2 locs2 (cells + 4 + 0 + 0) (slots + 24 + 0 + 0) Q (F0 m 1589 ls []) := fun ls hl => w_widen (k := cells + 8) (n := slots + 1039) (by omega) (by omega) (kk H2 locs2 hS2 ⟨σ1, ad1, _, b1, g1, hI1, had, hP2, hR3, hA2⟩ ls (lv_sub hl [2, 3, 4, 5, 6] rfl))
  refine lv_if_ne (tgt := 867) hx hb dL_law_852 (by decide) (fun z => ?_) (fun z => ?_)
  · refine lv_goto (tgt := 1589) hx hb dL_law_867 (by decide) ?_
    exact kend _ hl
  · have hz0 := nI_0' (cd_leave σ _ _) z
    refine lv_aload_n hx hb dL_law_855 rfl (lv_at hl 5 rfl) ?_
    refine lv_iconst (v := 0) hx hb dL_law_856 (by decide) ?_
    refine k_lald (s := s) hx hb hG.2.1.1 hA2 (vp_in_nI (by decide : 0 < 1) (by decide)) dL_law_857 ?_
    refine lv_iload hx hb dL_law_858 (lv_at hl 0 rfl) ?_
    refine lv_i2l (v := ((o_leave σ (xs (i + 1)) (xs (i + 2))).2.1 : Int32).toInt64) hx hb dL_law_860 rfl ?_
    refine W.lcmp hx hb dL_law_861 ?_
    refine lv_if_eq (tgt := 867) hx hb dL_law_862 (by decide) (fun _ => ?_) (fun z => absurd (lg_cmp_0 (hg1 hz0)) z)
    refine lv_goto (tgt := 1589) hx hb dL_law_867 (by decide) ?_
    exact kend _ hl

theorem cd_hide (σ : Stt) (p0 p1 p2 : Int32) : (o_hide σ p0 p1 p2).1 < 4 := by
  unfold o_hide
  repeat' split
  all_goals first | exact (by decide : (0 : Nat) < 4) | exact (by decide : (1 : Nat) < 4) | exact (by decide : (2 : Nat) < 4) | exact (by decide : (3 : Nat) < 4)
set_option maxHeartbeats 4000000 in
set_option maxRecDepth 100000 in
/-- hide -/
theorem lw_hide {p : Program} {l : Launch} {e : Env} {s : State} {m : MethodId} {args : Array Value} {below : List Frame} {meth : Method} {c : Code} {H : Heap} {locs : List Loc} {cells slots : Nat} {Q : State → Prop} {ls : Array Slot} {b L i : Nat} {xs : Nat → Int32} {D : va_G} {ct : Nat → ClassId} {Z : Nat → Prop} {dc x0 : Nat} {rf : Nat → Nat} {oa : Nat} (hown : s.vm.findClass "RumourCustomsLaw" = some m.cls) (hts : ∀ w ∈ GW, w.before args s = true) (hG : GF D ct Z dc s s.heap) (hX : va_X b L xs s s.heap) (hbl : b < s.heap.size) (hS : va_S (nZ Z) s.heap H locs) (hx : p.tables.exec = Jvm.exec) (hb : c.code = cL_law) (hml : c.maxLocals = 9) (hst : l.stackTraces = false) (hzo : ¬ Zr Z rf oa) (hL : L ≤ 3584) (hi : i + 7 ≤ L) (hbz : Z b) (hW : WI D ct Z dc x0 rf oa H) (hc : cells + 8 ≤ 601024) (hsl : slots + 1039 ≤ 7293034) (hl : lv_has ls 9 [(0, .ref b), (1, .ref x0), (2, .ref (rf 0)), (3, .ref oa), (4, .int (nI i))])
    (kk : ∀ (H1 : Heap) (locs1 : List Loc), va_S (nZ Z) s.heap H1 locs1 → WI D ct Z dc x0 rf oa H1 → ∀ ls, lv_has ls 9 [(0, .ref b), (1, .ref x0), (2, .ref (rf 0)), (3, .ref oa), (4, .int (nI i))] → W p l e room_1 s m args below meth c H1 locs1 (cells + 8) (slots + 1039) Q (F0 m 1589 ls [])) : W p l e room_1 s m args below meth c H locs cells slots Q (F0 m 870 ls []) := by
  obtain ⟨σ, ad, th, bst, g, hI, rfl, hP, hR, hA⟩ := hW
  have hlt := WI_lt hG hS hR
  refine lv_aload_n hx hb dL_law_870 rfl (lv_at hl 1 rfl) ?_
  refine lv_aload_n hx hb dL_law_871 rfl (lv_at hl 0 rfl) ?_
  refine lv_iload hx hb dL_law_872 (lv_at hl 4 rfl) ?_
  refine lv_iconst (v := 1) hx hb dL_law_874 (by decide) ?_
  refine lv_iadd hx hb dL_law_875 ?_
  refine k_scr hx hb hX hbl hbz hS hL hi 1 (by decide) (by decide) dL_law_876 ?_
  refine lv_aload_n hx hb dL_law_877 rfl (lv_at hl 0 rfl) ?_
  refine lv_iload hx hb dL_law_878 (lv_at hl 4 rfl) ?_
  refine lv_iconst (v := 2) hx hb dL_law_880 (by decide) ?_
  refine lv_iadd hx hb dL_law_881 ?_
  refine k_scr hx hb hX hbl hbz hS hL hi 2 (by decide) (by decide) dL_law_882 ?_
  refine lv_aload_n hx hb dL_law_883 rfl (lv_at hl 0 rfl) ?_
  refine lv_iload hx hb dL_law_884 (lv_at hl 4 rfl) ?_
  refine lv_iconst (v := 3) hx hb dL_law_886 (by decide) ?_
  refine lv_iadd hx hb dL_law_887 ?_
  refine k_scr hx hb hX hbl hbz hS hL hi 3 (by decide) (by decide) dL_law_888 ?_
  refine k_bool hx hb dL_law_889 dL_law_892 dL_law_893 dL_law_896 ?_
  refine lv_aload_n hx hb dL_law_897 rfl (lv_at hl 3 rfl) ?_
  refine lw_s1 (Zb := Z) (Z := Zr Z rf) (fun q z => Or.inl z) (vx_runSW (As := [.ref (ad 0), .int (xs (i + 1)), .int (xs (i + 2)), .int (b2 (¬ xs (i + 3) = 0)), .ref oa]) (rest := []) ⟨hx, hb, hml, hown, hts⟩ (c_L_hide l D ct (Zr Z rf) dc σ ad hst oa g (xs (i + 1)) (xs (i + 2)) (b2 (¬ xs (i + 3) = 0)) (b2_01 _) hI.1 hzo) (vx_cwSW 5 hts (WGS w_686 w_687 w_58 w_688) rfl rfl rfl (by decide) ⟨Nat.le_of_ble_eq_true rfl, Nat.le_of_ble_eq_true rfl⟩) ⟨(blindF fun _ _ _ _ h => h), fun U hU hW => ⟨rfl, (hG.up hW hS hU).sub (fun q z => Or.inl z) (by rw [hU]; exact hlt), by rw [hU]; exact ⟨hP, hA⟩⟩⟩ rfl rfl hl.1 rfl (lv_room (Nat.le_of_ble_eq_true rfl)) dL_law_898 ⟨show _ ≤ 601024 by omega, show _ ≤ 7293034 by omega⟩) hS (fun x H1 locs1 hQ hzz hk1 hS1 => ?_)
  obtain ⟨rfl, σ1, ad1, g1, hsc, had, hP1, hA1, hg1⟩ := hQ
  have hR1 := hR.keptZ (fun i hi => hk1 _ (hR.lt5 hi) (Or.inr ⟨i, hi, rfl⟩))
  have hzq : ∀ q, Z q → Zq H1 rf q := fun q z => ⟨Nat.lt_of_lt_of_le (hG.1 q z) hS1.1, fun i hi z2 => hR.nz hi (Or.inl (by rw [← z2]; exact z))⟩
  refine lv_istore (lv' := [(5, .int (nI (o_hide σ (xs (i + 1)) (xs (i + 2)) (b2 (¬ xs (i + 3) = 0))).1)), (0, .ref b), (1, .ref (ad 0)), (2, .ref (rf 0)), (3, .ref oa), (4, .int (nI i))]) hx hb dL_law_901 hl (by decide) rfl (fun ls hl => ?_)
  refine lv_aload_n hx hb dL_law_903 rfl (lv_at hl 3 rfl) ?_
  refine lv_aload_n hx hb dL_law_904 rfl (lv_at hl 1 rfl) ?_
  refine lv_iload hx hb dL_law_905 (lv_at hl 5 rfl) ?_
  refine lv_iconst (v := 1) hx hb dL_law_907 (by decide) ?_
  refine lv_iadd hx hb dL_law_908 ?_
  refine k_scr hx hb hX hbl hbz hS1 hL hi 1 (by decide) (by decide) dL_law_909 ?_
  refine lv_aload_n hx hb dL_law_910 rfl (lv_at hl 1 rfl) ?_
  refine lv_iload hx hb dL_law_911 (lv_at hl 5 rfl) ?_
  refine lv_iconst (v := 2) hx hb dL_law_913 (by decide) ?_
  refine lv_iadd hx hb dL_law_914 ?_
  refine k_scr hx hb hX hbl hbz hS1 hL hi 2 (by decide) (by decide) dL_law_915 ?_
  refine lv_aload_n hx hb dL_law_916 rfl (lv_at hl 1 rfl) ?_
  refine lv_iload hx hb dL_law_917 (lv_at hl 5 rfl) ?_
  refine lv_iconst (v := 3) hx hb dL_law_919 (by decide) ?_
  refine lv_iadd hx hb dL_law_920 ?_
  refine k_scr hx hb hX hbl hbz hS1 hL hi 3 (by decide) (by decide) dL_law_921 ?_
  refine k_bool hx hb dL_law_922 dL_law_925 dL_law_926 dL_law_929 ?_
  refine lw_s1 (Zb := Z) (Z := Zq H1 rf) hzq (va_runV (As := [.int (xs (i + 1)), .int (xs (i + 2)), .int (b2 (¬ xs (i + 3) = 0))]) (rest := []) ⟨hx, hb, hml, hown, hts⟩ (c_X6_hide l D ct (Zq H1 rf) σ th bst rf (xs (i + 1)) (xs (i + 2)) (b2 (¬ xs (i + 3) = 0)) hI.1 (b2_01 _)) (cwV 3 hts (GG w_1026 w_1027 w_1028 w_65 w_1029) rfl rfl rfl (by decide) ⟨Nat.le_of_ble_eq_true rfl, Nat.le_of_ble_eq_true rfl⟩) ⟨(blindT fun _ _ _ _ h => h), Ob.recv (hG.2.1).1 hR1.o rfl, fun U hU hW => ⟨rfl, hG.2.1.warm hW, fun q z => by rw [hU]; exact z.1, by rw [hU]; exact hR1.rez (fun i hi z => z.2 i hi rfl)⟩⟩ rfl rfl hl.1 rfl (lv_room (Nat.le_of_ble_eq_true rfl)) dL_law_930 ⟨show _ ≤ 601024 by omega, show _ ≤ 7293034 by omega⟩) hS1 (fun x H2 locs2 hQ2 hzz2 hk2 hS2 => ?_)
  obtain ⟨rfl, b1, hR2⟩ := hQ2
  have hP2 := hP1.keptZ (fun q h1 h2 => hk2 q h1 ⟨h1, fun i hi z => h2 (Or.inl (Or.inr ⟨i, hi, z⟩))⟩)
  have hA2 := hA1.kept (hk2 _ hA1.lt ⟨hA1.lt, fun i hi z => hzo (Or.inr ⟨i, hi, z⟩)⟩)
  have hR3 := (hR2.rez (fun i hi => hR.nz hi)).core hsc
  have hI1 := (IB_hide hI _ _ _ (b2_01 _)).core hsc
  refine lv_istore (lv' := [(6, .int (o_hide σ (xs (i + 1)) (xs (i + 2)) (b2 (¬ xs (i + 3) = 0))).2.1), (5, .int (nI (o_hide σ (xs (i + 1)) (xs (i + 2)) (b2 (¬ xs (i + 3) = 0))).1)), (0, .ref b), (1, .ref (ad 0)), (2, .ref (rf 0)), (3, .ref oa), (4, .int (nI i))]) hx hb dL_law_933 hl (by decide) rfl (fun ls hl => ?_)
  refine lv_aload_n hx hb dL_law_935 rfl (lv_at hl 4 rfl) ?_
  refine c_p1 (va_runV (As := []) (rest := []) ⟨hx, hb, hml, hown, hts⟩ (c_X6_thrown l D ct (Zo Z oa) σ1 _ b1 rf) (cwV 0 hts (GG w_916 w_917 w_918 w_65 w_919) rfl rfl rfl (by decide) ⟨Nat.le_of_ble_eq_true rfl, Nat.le_of_ble_eq_true rfl⟩) ⟨(blindT fun _ _ _ _ h => h), Ob.recv (hG.2.1).1 hR3.o rfl, fun U hU hW => ⟨rfl, hG.2.1.warm hW, by rw [hU]; exact hR3⟩⟩ rfl rfl hl.1 rfl (lv_room (Nat.le_of_ble_eq_true rfl)) dL_law_936 ⟨show _ ≤ 601024 by omega, show _ ≤ 7293034 by omega⟩) ?_
  refine lv_iload hx hb dL_law_939 (lv_at hl 1 rfl) ?_
  refine lv_icmp_eq (tgt := 946) hx hb dL_law_941 (by decide) (fun _ => ?_) (fun z => absurd rfl z)
  refine lv_iload hx hb dL_law_946 (lv_at hl 1 rfl) ?_
  have kend : ∀ ls, lv_has ls 9 [(6, .int (o_hide σ (xs (i + 1)) (xs (i + 2)) (b2 (¬ xs (i + 3) = 0))).2.1), (5, .int (nI (o_hide σ (xs (i + 1)) (xs (i + 2)) (b2 (¬ xs (i + 3) = 0))).1)), (0, .ref b), (1, .ref (ad 0)), (2, .ref (rf 0)), (3, .ref oa), (4, .int (nI i))] → W p l e room_1 s m args below meth c H2 locs2 (cells + 3 + 0 + 0) (slots + 18 + 0 + 0) Q (F0 m 1589 ls []) := fun ls hl => w_widen (k := cells + 8) (n := slots + 1039) (by omega) (by omega) (kk H2 locs2 hS2 ⟨σ1, ad1, _, b1, g1, hI1, had, hP2, hR3, hA2⟩ ls (lv_sub hl [2, 3, 4, 5, 6] rfl))
  refine lv_if_ne (tgt := 963) hx hb dL_law_948 (by decide) (fun z => ?_) (fun z => ?_)
  · refine lv_goto (tgt := 1589) hx hb dL_law_963 (by decide) ?_
    exact kend _ hl
  · have hz0 := nI_0' (cd_hide σ _ _ _) z
    refine lv_aload_n hx hb dL_law_951 rfl (lv_at hl 5 rfl) ?_
    refine lv_iconst (v := 0) hx hb dL_law_952 (by decide) ?_
    refine k_lald (s := s) hx hb hG.2.1.1 hA2 (vp_in_nI (by decide : 0 < 1) (by decide)) dL_law_953 ?_
    refine lv_iload hx hb dL_law_954 (lv_at hl 0 rfl) ?_
    refine lv_i2l (v := ((o_hide σ (xs (i + 1)) (xs (i + 2)) (b2 (¬ xs (i + 3) = 0))).2.1 : Int32).toInt64) hx hb dL_law_956 rfl ?_
    refine W.lcmp hx hb dL_law_957 ?_
    refine lv_if_eq (tgt := 963) hx hb dL_law_958 (by decide) (fun _ => ?_) (fun z => absurd (lg_cmp_0 (hg1 hz0)) z)
    refine lv_goto (tgt := 1589) hx hb dL_law_963 (by decide) ?_
    exact kend _ hl

theorem cd_tell (σ : Stt) (p0 p1 : Int32) : (o_tell σ p0 p1).1 < 4 := by
  unfold o_tell
  repeat' split
  all_goals first | exact (by decide : (0 : Nat) < 4) | exact (by decide : (1 : Nat) < 4) | exact (by decide : (2 : Nat) < 4) | exact (by decide : (3 : Nat) < 4)
set_option maxHeartbeats 4000000 in
set_option maxRecDepth 100000 in
/-- tell -/
theorem lw_tell {p : Program} {l : Launch} {e : Env} {s : State} {m : MethodId} {args : Array Value} {below : List Frame} {meth : Method} {c : Code} {H : Heap} {locs : List Loc} {cells slots : Nat} {Q : State → Prop} {ls : Array Slot} {b L i : Nat} {xs : Nat → Int32} {D : va_G} {ct : Nat → ClassId} {Z : Nat → Prop} {dc x0 : Nat} {rf : Nat → Nat} {oa : Nat} (hown : s.vm.findClass "RumourCustomsLaw" = some m.cls) (hts : ∀ w ∈ GW, w.before args s = true) (hG : GF D ct Z dc s s.heap) (hX : va_X b L xs s s.heap) (hbl : b < s.heap.size) (hS : va_S (nZ Z) s.heap H locs) (hx : p.tables.exec = Jvm.exec) (hb : c.code = cL_law) (hml : c.maxLocals = 9) (hst : l.stackTraces = false) (hzo : ¬ Zr Z rf oa) (hL : L ≤ 3584) (hi : i + 7 ≤ L) (hbz : Z b) (hW : WI D ct Z dc x0 rf oa H) (hc : cells + 8 ≤ 601024) (hsl : slots + 1039 ≤ 7293034) (hl : lv_has ls 9 [(0, .ref b), (1, .ref x0), (2, .ref (rf 0)), (3, .ref oa), (4, .int (nI i))])
    (kk : ∀ (H1 : Heap) (locs1 : List Loc), va_S (nZ Z) s.heap H1 locs1 → WI D ct Z dc x0 rf oa H1 → ∀ ls, lv_has ls 9 [(0, .ref b), (1, .ref x0), (2, .ref (rf 0)), (3, .ref oa), (4, .int (nI i))] → W p l e room_1 s m args below meth c H1 locs1 (cells + 8) (slots + 1039) Q (F0 m 1589 ls [])) : W p l e room_1 s m args below meth c H locs cells slots Q (F0 m 966 ls []) := by
  obtain ⟨σ, ad, th, bst, g, hI, rfl, hP, hR, hA⟩ := hW
  have hlt := WI_lt hG hS hR
  refine lv_aload_n hx hb dL_law_966 rfl (lv_at hl 1 rfl) ?_
  refine lv_aload_n hx hb dL_law_967 rfl (lv_at hl 0 rfl) ?_
  refine lv_iload hx hb dL_law_968 (lv_at hl 4 rfl) ?_
  refine lv_iconst (v := 1) hx hb dL_law_970 (by decide) ?_
  refine lv_iadd hx hb dL_law_971 ?_
  refine k_scr hx hb hX hbl hbz hS hL hi 1 (by decide) (by decide) dL_law_972 ?_
  refine lv_aload_n hx hb dL_law_973 rfl (lv_at hl 0 rfl) ?_
  refine lv_iload hx hb dL_law_974 (lv_at hl 4 rfl) ?_
  refine lv_iconst (v := 2) hx hb dL_law_976 (by decide) ?_
  refine lv_iadd hx hb dL_law_977 ?_
  refine k_scr hx hb hX hbl hbz hS hL hi 2 (by decide) (by decide) dL_law_978 ?_
  refine lv_aload_n hx hb dL_law_979 rfl (lv_at hl 3 rfl) ?_
  refine lw_s1 (Zb := Z) (Z := Zr Z rf) (fun q z => Or.inl z) (vx_runSW (As := [.ref (ad 0), .int (xs (i + 1)), .int (xs (i + 2)), .ref oa]) (rest := []) ⟨hx, hb, hml, hown, hts⟩ (c_L_tell l D ct (Zr Z rf) dc σ ad hst oa g (xs (i + 1)) (xs (i + 2)) hI.1 hzo) (vx_cwSW 4 hts (WGS w_693 w_694 w_58 w_695) rfl rfl rfl (by decide) ⟨Nat.le_of_ble_eq_true rfl, Nat.le_of_ble_eq_true rfl⟩) ⟨(blindF fun _ _ _ _ h => h), fun U hU hW => ⟨rfl, (hG.up hW hS hU).sub (fun q z => Or.inl z) (by rw [hU]; exact hlt), by rw [hU]; exact ⟨hP, hA⟩⟩⟩ rfl rfl hl.1 rfl (lv_room (Nat.le_of_ble_eq_true rfl)) dL_law_980 ⟨show _ ≤ 601024 by omega, show _ ≤ 7293034 by omega⟩) hS (fun x H1 locs1 hQ hzz hk1 hS1 => ?_)
  obtain ⟨rfl, σ1, ad1, g1, hsc, had, hP1, hA1, hg1⟩ := hQ
  have hR1 := hR.keptZ (fun i hi => hk1 _ (hR.lt5 hi) (Or.inr ⟨i, hi, rfl⟩))
  have hzq : ∀ q, Z q → Zq H1 rf q := fun q z => ⟨Nat.lt_of_lt_of_le (hG.1 q z) hS1.1, fun i hi z2 => hR.nz hi (Or.inl (by rw [← z2]; exact z))⟩
  refine lv_istore (lv' := [(5, .int (nI (o_tell σ (xs (i + 1)) (xs (i + 2))).1)), (0, .ref b), (1, .ref (ad 0)), (2, .ref (rf 0)), (3, .ref oa), (4, .int (nI i))]) hx hb dL_law_983 hl (by decide) rfl (fun ls hl => ?_)
  refine lv_aload_n hx hb dL_law_985 rfl (lv_at hl 3 rfl) ?_
  refine lv_aload_n hx hb dL_law_986 rfl (lv_at hl 1 rfl) ?_
  refine lv_iload hx hb dL_law_987 (lv_at hl 5 rfl) ?_
  refine lv_iconst (v := 1) hx hb dL_law_989 (by decide) ?_
  refine lv_iadd hx hb dL_law_990 ?_
  refine k_scr hx hb hX hbl hbz hS1 hL hi 1 (by decide) (by decide) dL_law_991 ?_
  refine lv_aload_n hx hb dL_law_992 rfl (lv_at hl 1 rfl) ?_
  refine lv_iload hx hb dL_law_993 (lv_at hl 5 rfl) ?_
  refine lv_iconst (v := 2) hx hb dL_law_995 (by decide) ?_
  refine lv_iadd hx hb dL_law_996 ?_
  refine k_scr hx hb hX hbl hbz hS1 hL hi 2 (by decide) (by decide) dL_law_997 ?_
  refine lw_s1 (Zb := Z) (Z := Zq H1 rf) hzq (va_runV (As := [.int (xs (i + 1)), .int (xs (i + 2))]) (rest := []) ⟨hx, hb, hml, hown, hts⟩ (c_X6_tell l D ct (Zq H1 rf) σ th bst rf (xs (i + 1)) (xs (i + 2)) hI.1) (cwV 2 hts (GG w_1030 w_1031 w_1032 w_65 w_1033) rfl rfl rfl (by decide) ⟨Nat.le_of_ble_eq_true rfl, Nat.le_of_ble_eq_true rfl⟩) ⟨(blindT fun _ _ _ _ h => h), Ob.recv (hG.2.1).1 hR1.o rfl, fun U hU hW => ⟨rfl, hG.2.1.warm hW, fun q z => by rw [hU]; exact z.1, by rw [hU]; exact hR1.rez (fun i hi z => z.2 i hi rfl)⟩⟩ rfl rfl hl.1 rfl (lv_room (Nat.le_of_ble_eq_true rfl)) dL_law_998 ⟨show _ ≤ 601024 by omega, show _ ≤ 7293034 by omega⟩) hS1 (fun x H2 locs2 hQ2 hzz2 hk2 hS2 => ?_)
  obtain ⟨rfl, b1, hR2⟩ := hQ2
  have hP2 := hP1.keptZ (fun q h1 h2 => hk2 q h1 ⟨h1, fun i hi z => h2 (Or.inl (Or.inr ⟨i, hi, z⟩))⟩)
  have hA2 := hA1.kept (hk2 _ hA1.lt ⟨hA1.lt, fun i hi z => hzo (Or.inr ⟨i, hi, z⟩)⟩)
  have hR3 := (hR2.rez (fun i hi => hR.nz hi)).core hsc
  have hI1 := (IB_tell hI _ _).core hsc
  refine lv_istore (lv' := [(6, .int (o_tell σ (xs (i + 1)) (xs (i + 2))).2.1), (5, .int (nI (o_tell σ (xs (i + 1)) (xs (i + 2))).1)), (0, .ref b), (1, .ref (ad 0)), (2, .ref (rf 0)), (3, .ref oa), (4, .int (nI i))]) hx hb dL_law_1001 hl (by decide) rfl (fun ls hl => ?_)
  refine lv_aload_n hx hb dL_law_1003 rfl (lv_at hl 4 rfl) ?_
  refine c_p1 (va_runV (As := []) (rest := []) ⟨hx, hb, hml, hown, hts⟩ (c_X6_thrown l D ct (Zo Z oa) σ1 _ b1 rf) (cwV 0 hts (GG w_916 w_917 w_918 w_65 w_919) rfl rfl rfl (by decide) ⟨Nat.le_of_ble_eq_true rfl, Nat.le_of_ble_eq_true rfl⟩) ⟨(blindT fun _ _ _ _ h => h), Ob.recv (hG.2.1).1 hR3.o rfl, fun U hU hW => ⟨rfl, hG.2.1.warm hW, by rw [hU]; exact hR3⟩⟩ rfl rfl hl.1 rfl (lv_room (Nat.le_of_ble_eq_true rfl)) dL_law_1004 ⟨show _ ≤ 601024 by omega, show _ ≤ 7293034 by omega⟩) ?_
  refine lv_iload hx hb dL_law_1007 (lv_at hl 1 rfl) ?_
  refine lv_icmp_eq (tgt := 1014) hx hb dL_law_1009 (by decide) (fun _ => ?_) (fun z => absurd rfl z)
  refine lv_iload hx hb dL_law_1014 (lv_at hl 1 rfl) ?_
  have kend : ∀ ls, lv_has ls 9 [(6, .int (o_tell σ (xs (i + 1)) (xs (i + 2))).2.1), (5, .int (nI (o_tell σ (xs (i + 1)) (xs (i + 2))).1)), (0, .ref b), (1, .ref (ad 0)), (2, .ref (rf 0)), (3, .ref oa), (4, .int (nI i))] → W p l e room_1 s m args below meth c H2 locs2 (cells + 6 + 1 + 0) (slots + 1032 + 7 + 0) Q (F0 m 1589 ls []) := fun ls hl => w_widen (k := cells + 8) (n := slots + 1039) (by omega) (by omega) (kk H2 locs2 hS2 ⟨σ1, ad1, _, b1, g1, hI1, had, hP2, hR3, hA2⟩ ls (lv_sub hl [2, 3, 4, 5, 6] rfl))
  refine lv_if_ne (tgt := 1031) hx hb dL_law_1016 (by decide) (fun z => ?_) (fun z => ?_)
  · refine lv_goto (tgt := 1589) hx hb dL_law_1031 (by decide) ?_
    exact kend _ hl
  · have hz0 := nI_0' (cd_tell σ _ _) z
    refine lv_aload_n hx hb dL_law_1019 rfl (lv_at hl 5 rfl) ?_
    refine lv_iconst (v := 0) hx hb dL_law_1020 (by decide) ?_
    refine k_lald (s := s) hx hb hG.2.1.1 hA2 (vp_in_nI (by decide : 0 < 1) (by decide)) dL_law_1021 ?_
    refine lv_iload hx hb dL_law_1022 (lv_at hl 0 rfl) ?_
    refine lv_i2l (v := ((o_tell σ (xs (i + 1)) (xs (i + 2))).2.1 : Int32).toInt64) hx hb dL_law_1024 rfl ?_
    refine W.lcmp hx hb dL_law_1025 ?_
    refine lv_if_eq (tgt := 1031) hx hb dL_law_1026 (by decide) (fun _ => ?_) (fun z => absurd (lg_cmp_0 (hg1 hz0)) z)
    refine lv_goto (tgt := 1589) hx hb dL_law_1031 (by decide) ?_
    exact kend _ hl

theorem cd_go (σ : Stt) (p0 p1 p2 : Int32) : (o_go σ p0 p1 p2).1 < 4 := by
  unfold o_go
  repeat' split
  all_goals first | exact (by decide : (0 : Nat) < 4) | exact (by decide : (1 : Nat) < 4) | exact (by decide : (2 : Nat) < 4) | exact (by decide : (3 : Nat) < 4)
set_option maxHeartbeats 4000000 in
set_option maxRecDepth 100000 in
/-- go -/
theorem lw_go {p : Program} {l : Launch} {e : Env} {s : State} {m : MethodId} {args : Array Value} {below : List Frame} {meth : Method} {c : Code} {H : Heap} {locs : List Loc} {cells slots : Nat} {Q : State → Prop} {ls : Array Slot} {b L i : Nat} {xs : Nat → Int32} {D : va_G} {ct : Nat → ClassId} {Z : Nat → Prop} {dc x0 : Nat} {rf : Nat → Nat} {oa : Nat} (hown : s.vm.findClass "RumourCustomsLaw" = some m.cls) (hts : ∀ w ∈ GW, w.before args s = true) (hG : GF D ct Z dc s s.heap) (hX : va_X b L xs s s.heap) (hbl : b < s.heap.size) (hS : va_S (nZ Z) s.heap H locs) (hx : p.tables.exec = Jvm.exec) (hb : c.code = cL_law) (hml : c.maxLocals = 9) (hst : l.stackTraces = false) (hzo : ¬ Zr Z rf oa) (hL : L ≤ 3584) (hi : i + 7 ≤ L) (hbz : Z b) (hW : WI D ct Z dc x0 rf oa H) (hc : cells + 8 ≤ 601024) (hsl : slots + 1039 ≤ 7293034) (hl : lv_has ls 9 [(0, .ref b), (1, .ref x0), (2, .ref (rf 0)), (3, .ref oa), (4, .int (nI i))])
    (kk : ∀ (H1 : Heap) (locs1 : List Loc), va_S (nZ Z) s.heap H1 locs1 → WI D ct Z dc x0 rf oa H1 → ∀ ls, lv_has ls 9 [(0, .ref b), (1, .ref x0), (2, .ref (rf 0)), (3, .ref oa), (4, .int (nI i))] → W p l e room_1 s m args below meth c H1 locs1 (cells + 8) (slots + 1039) Q (F0 m 1589 ls [])) : W p l e room_1 s m args below meth c H locs cells slots Q (F0 m 1034 ls []) := by
  obtain ⟨σ, ad, th, bst, g, hI, rfl, hP, hR, hA⟩ := hW
  have hlt := WI_lt hG hS hR
  refine lv_aload_n hx hb dL_law_1034 rfl (lv_at hl 1 rfl) ?_
  refine lv_aload_n hx hb dL_law_1035 rfl (lv_at hl 0 rfl) ?_
  refine lv_iload hx hb dL_law_1036 (lv_at hl 4 rfl) ?_
  refine lv_iconst (v := 1) hx hb dL_law_1038 (by decide) ?_
  refine lv_iadd hx hb dL_law_1039 ?_
  refine k_scr hx hb hX hbl hbz hS hL hi 1 (by decide) (by decide) dL_law_1040 ?_
  refine lv_aload_n hx hb dL_law_1041 rfl (lv_at hl 0 rfl) ?_
  refine lv_iload hx hb dL_law_1042 (lv_at hl 4 rfl) ?_
  refine lv_iconst (v := 2) hx hb dL_law_1044 (by decide) ?_
  refine lv_iadd hx hb dL_law_1045 ?_
  refine k_scr hx hb hX hbl hbz hS hL hi 2 (by decide) (by decide) dL_law_1046 ?_
  refine lv_aload_n hx hb dL_law_1047 rfl (lv_at hl 0 rfl) ?_
  refine lv_iload hx hb dL_law_1048 (lv_at hl 4 rfl) ?_
  refine lv_iconst (v := 3) hx hb dL_law_1050 (by decide) ?_
  refine lv_iadd hx hb dL_law_1051 ?_
  refine k_scr hx hb hX hbl hbz hS hL hi 3 (by decide) (by decide) dL_law_1052 ?_
  refine lv_aload_n hx hb dL_law_1053 rfl (lv_at hl 3 rfl) ?_
  refine lw_s1 (Zb := Z) (Z := Zr Z rf) (fun q z => Or.inl z) (vx_runSW (As := [.ref (ad 0), .int (xs (i + 1)), .int (xs (i + 2)), .int (xs (i + 3)), .ref oa]) (rest := []) ⟨hx, hb, hml, hown, hts⟩ (c_L_go l D ct (Zr Z rf) dc σ ad hst oa g (xs (i + 1)) (xs (i + 2)) (xs (i + 3)) hI.1 hzo) (vx_cwSW 5 hts (WGS w_701 w_702 w_58 w_703) rfl rfl rfl (by decide) ⟨Nat.le_of_ble_eq_true rfl, Nat.le_of_ble_eq_true rfl⟩) ⟨(blindF fun _ _ _ _ h => h), fun U hU hW => ⟨rfl, (hG.up hW hS hU).sub (fun q z => Or.inl z) (by rw [hU]; exact hlt), by rw [hU]; exact ⟨hP, hA⟩⟩⟩ rfl rfl hl.1 rfl (lv_room (Nat.le_of_ble_eq_true rfl)) dL_law_1054 ⟨show _ ≤ 601024 by omega, show _ ≤ 7293034 by omega⟩) hS (fun x H1 locs1 hQ hzz hk1 hS1 => ?_)
  obtain ⟨rfl, σ1, ad1, g1, hsc, had, hP1, hA1, hg1⟩ := hQ
  have hR1 := hR.keptZ (fun i hi => hk1 _ (hR.lt5 hi) (Or.inr ⟨i, hi, rfl⟩))
  have hzq : ∀ q, Z q → Zq H1 rf q := fun q z => ⟨Nat.lt_of_lt_of_le (hG.1 q z) hS1.1, fun i hi z2 => hR.nz hi (Or.inl (by rw [← z2]; exact z))⟩
  refine lv_istore (lv' := [(5, .int (nI (o_go σ (xs (i + 1)) (xs (i + 2)) (xs (i + 3))).1)), (0, .ref b), (1, .ref (ad 0)), (2, .ref (rf 0)), (3, .ref oa), (4, .int (nI i))]) hx hb dL_law_1057 hl (by decide) rfl (fun ls hl => ?_)
  refine lv_aload_n hx hb dL_law_1059 rfl (lv_at hl 3 rfl) ?_
  refine lv_aload_n hx hb dL_law_1060 rfl (lv_at hl 1 rfl) ?_
  refine lv_iload hx hb dL_law_1061 (lv_at hl 5 rfl) ?_
  refine lv_iconst (v := 1) hx hb dL_law_1063 (by decide) ?_
  refine lv_iadd hx hb dL_law_1064 ?_
  refine k_scr hx hb hX hbl hbz hS1 hL hi 1 (by decide) (by decide) dL_law_1065 ?_
  refine lv_aload_n hx hb dL_law_1066 rfl (lv_at hl 1 rfl) ?_
  refine lv_iload hx hb dL_law_1067 (lv_at hl 5 rfl) ?_
  refine lv_iconst (v := 2) hx hb dL_law_1069 (by decide) ?_
  refine lv_iadd hx hb dL_law_1070 ?_
  refine k_scr hx hb hX hbl hbz hS1 hL hi 2 (by decide) (by decide) dL_law_1071 ?_
  refine lv_aload_n hx hb dL_law_1072 rfl (lv_at hl 1 rfl) ?_
  refine lv_iload hx hb dL_law_1073 (lv_at hl 5 rfl) ?_
  refine lv_iconst (v := 3) hx hb dL_law_1075 (by decide) ?_
  refine lv_iadd hx hb dL_law_1076 ?_
  refine k_scr hx hb hX hbl hbz hS1 hL hi 3 (by decide) (by decide) dL_law_1077 ?_
  refine lw_s1 (Zb := Z) (Z := Zq H1 rf) hzq (va_runV (As := [.int (xs (i + 1)), .int (xs (i + 2)), .int (xs (i + 3))]) (rest := []) ⟨hx, hb, hml, hown, hts⟩ (c_X6_go l D ct (Zq H1 rf) σ th bst rf (xs (i + 1)) (xs (i + 2)) (xs (i + 3)) hI.1) (cwV 3 hts (GG w_1034 w_1035 w_1036 w_65 w_1037) rfl rfl rfl (by decide) ⟨Nat.le_of_ble_eq_true rfl, Nat.le_of_ble_eq_true rfl⟩) ⟨(blindT fun _ _ _ _ h => h), Ob.recv (hG.2.1).1 hR1.o rfl, fun U hU hW => ⟨rfl, hG.2.1.warm hW, fun q z => by rw [hU]; exact z.1, by rw [hU]; exact hR1.rez (fun i hi z => z.2 i hi rfl)⟩⟩ rfl rfl hl.1 rfl (lv_room (Nat.le_of_ble_eq_true rfl)) dL_law_1078 ⟨show _ ≤ 601024 by omega, show _ ≤ 7293034 by omega⟩) hS1 (fun x H2 locs2 hQ2 hzz2 hk2 hS2 => ?_)
  obtain ⟨rfl, b1, hR2⟩ := hQ2
  have hP2 := hP1.keptZ (fun q h1 h2 => hk2 q h1 ⟨h1, fun i hi z => h2 (Or.inl (Or.inr ⟨i, hi, z⟩))⟩)
  have hA2 := hA1.kept (hk2 _ hA1.lt ⟨hA1.lt, fun i hi z => hzo (Or.inr ⟨i, hi, z⟩)⟩)
  have hR3 := (hR2.rez (fun i hi => hR.nz hi)).core hsc
  have hI1 := (IB_go hI _ _ _).core hsc
  refine lv_istore (lv' := [(6, .int (o_go σ (xs (i + 1)) (xs (i + 2)) (xs (i + 3))).2.1), (5, .int (nI (o_go σ (xs (i + 1)) (xs (i + 2)) (xs (i + 3))).1)), (0, .ref b), (1, .ref (ad 0)), (2, .ref (rf 0)), (3, .ref oa), (4, .int (nI i))]) hx hb dL_law_1081 hl (by decide) rfl (fun ls hl => ?_)
  refine lv_aload_n hx hb dL_law_1083 rfl (lv_at hl 4 rfl) ?_
  refine c_p1 (va_runV (As := []) (rest := []) ⟨hx, hb, hml, hown, hts⟩ (c_X6_thrown l D ct (Zo Z oa) σ1 _ b1 rf) (cwV 0 hts (GG w_916 w_917 w_918 w_65 w_919) rfl rfl rfl (by decide) ⟨Nat.le_of_ble_eq_true rfl, Nat.le_of_ble_eq_true rfl⟩) ⟨(blindT fun _ _ _ _ h => h), Ob.recv (hG.2.1).1 hR3.o rfl, fun U hU hW => ⟨rfl, hG.2.1.warm hW, by rw [hU]; exact hR3⟩⟩ rfl rfl hl.1 rfl (lv_room (Nat.le_of_ble_eq_true rfl)) dL_law_1084 ⟨show _ ≤ 601024 by omega, show _ ≤ 7293034 by omega⟩) ?_
  refine lv_iload hx hb dL_law_1087 (lv_at hl 1 rfl) ?_
  refine lv_icmp_eq (tgt := 1094) hx hb dL_law_1089 (by decide) (fun _ => ?_) (fun z => absurd rfl z)
  refine lv_iload hx hb dL_law_1094 (lv_at hl 1 rfl) ?_
  have kend : ∀ ls, lv_has ls 9 [(6, .int (o_go σ (xs (i + 1)) (xs (i + 2)) (xs (i + 3))).2.1), (5, .int (nI (o_go σ (xs (i + 1)) (xs (i + 2)) (xs (i + 3))).1)), (0, .ref b), (1, .ref (ad 0)), (2, .ref (rf 0)), (3, .ref oa), (4, .int (nI i))] → W p l e room_1 s m args below meth c H2 locs2 (cells + 5 + 0 + 0) (slots + 30 + 0 + 0) Q (F0 m 1589 ls []) := fun ls hl => w_widen (k := cells + 8) (n := slots + 1039) (by omega) (by omega) (kk H2 locs2 hS2 ⟨σ1, ad1, _, b1, g1, hI1, had, hP2, hR3, hA2⟩ ls (lv_sub hl [2, 3, 4, 5, 6] rfl))
  refine lv_if_ne (tgt := 1111) hx hb dL_law_1096 (by decide) (fun z => ?_) (fun z => ?_)
  · refine lv_goto (tgt := 1589) hx hb dL_law_1111 (by decide) ?_
    exact kend _ hl
  · have hz0 := nI_0' (cd_go σ _ _ _) z
    refine lv_aload_n hx hb dL_law_1099 rfl (lv_at hl 5 rfl) ?_
    refine lv_iconst (v := 0) hx hb dL_law_1100 (by decide) ?_
    refine k_lald (s := s) hx hb hG.2.1.1 hA2 (vp_in_nI (by decide : 0 < 1) (by decide)) dL_law_1101 ?_
    refine lv_iload hx hb dL_law_1102 (lv_at hl 0 rfl) ?_
    refine lv_i2l (v := ((o_go σ (xs (i + 1)) (xs (i + 2)) (xs (i + 3))).2.1 : Int32).toInt64) hx hb dL_law_1104 rfl ?_
    refine W.lcmp hx hb dL_law_1105 ?_
    refine lv_if_eq (tgt := 1111) hx hb dL_law_1106 (by decide) (fun _ => ?_) (fun z => absurd (lg_cmp_0 (hg1 hz0)) z)
    refine lv_goto (tgt := 1589) hx hb dL_law_1111 (by decide) ?_
    exact kend _ hl

theorem cd_carrier (σ : Stt) (p0 p1 : Int32) : (o_carrier σ p0 p1).1 < 4 := by
  unfold o_carrier
  repeat' split
  all_goals first | exact (by decide : (0 : Nat) < 4) | exact (by decide : (1 : Nat) < 4) | exact (by decide : (2 : Nat) < 4) | exact (by decide : (3 : Nat) < 4)
theorem IB_ro_carrier {σ : Stt} (h : IB σ) (p0 p1 : Int32) : IB (o_carrier σ p0 p1).2.2 := by
  unfold o_carrier
  repeat' split
  all_goals exact h
set_option maxHeartbeats 4000000 in
set_option maxRecDepth 100000 in
/-- carrier -/
theorem lw_carrier {p : Program} {l : Launch} {e : Env} {s : State} {m : MethodId} {args : Array Value} {below : List Frame} {meth : Method} {c : Code} {H : Heap} {locs : List Loc} {cells slots : Nat} {Q : State → Prop} {ls : Array Slot} {b L i : Nat} {xs : Nat → Int32} {D : va_G} {ct : Nat → ClassId} {Z : Nat → Prop} {dc x0 : Nat} {rf : Nat → Nat} {oa : Nat} (hown : s.vm.findClass "RumourCustomsLaw" = some m.cls) (hts : ∀ w ∈ GW, w.before args s = true) (hG : GF D ct Z dc s s.heap) (hX : va_X b L xs s s.heap) (hbl : b < s.heap.size) (hS : va_S (nZ Z) s.heap H locs) (hx : p.tables.exec = Jvm.exec) (hb : c.code = cL_law) (hml : c.maxLocals = 9) (hst : l.stackTraces = false) (hzo : ¬ Zr Z rf oa) (hL : L ≤ 3584) (hi : i + 7 ≤ L) (hbz : Z b) (hW : WI D ct Z dc x0 rf oa H) (hc : cells + 8 ≤ 601024) (hsl : slots + 1039 ≤ 7293034) (hl : lv_has ls 9 [(0, .ref b), (1, .ref x0), (2, .ref (rf 0)), (3, .ref oa), (4, .int (nI i))])
    (kk : ∀ (H1 : Heap) (locs1 : List Loc), va_S (nZ Z) s.heap H1 locs1 → WI D ct Z dc x0 rf oa H1 → ∀ ls, lv_has ls 9 [(0, .ref b), (1, .ref x0), (2, .ref (rf 0)), (3, .ref oa), (4, .int (nI i))] → W p l e room_1 s m args below meth c H1 locs1 (cells + 8) (slots + 1039) Q (F0 m 1589 ls [])) : W p l e room_1 s m args below meth c H locs cells slots Q (F0 m 1114 ls []) := by
  obtain ⟨σ, ad, th, bst, g, hI, rfl, hP, hR, hA⟩ := hW
  have hlt := WI_lt hG hS hR
  refine lv_aload_n hx hb dL_law_1114 rfl (lv_at hl 1 rfl) ?_
  refine lv_aload_n hx hb dL_law_1115 rfl (lv_at hl 0 rfl) ?_
  refine lv_iload hx hb dL_law_1116 (lv_at hl 4 rfl) ?_
  refine lv_iconst (v := 1) hx hb dL_law_1118 (by decide) ?_
  refine lv_iadd hx hb dL_law_1119 ?_
  refine k_scr hx hb hX hbl hbz hS hL hi 1 (by decide) (by decide) dL_law_1120 ?_
  refine lv_aload_n hx hb dL_law_1121 rfl (lv_at hl 0 rfl) ?_
  refine lv_iload hx hb dL_law_1122 (lv_at hl 4 rfl) ?_
  refine lv_iconst (v := 2) hx hb dL_law_1124 (by decide) ?_
  refine lv_iadd hx hb dL_law_1125 ?_
  refine k_scr hx hb hX hbl hbz hS hL hi 2 (by decide) (by decide) dL_law_1126 ?_
  refine lv_aload_n hx hb dL_law_1127 rfl (lv_at hl 3 rfl) ?_
  refine lw_s1 (Zb := Z) (Z := Zr Z rf) (fun q z => Or.inl z) (vx_runSW (As := [.ref (ad 0), .int (xs (i + 1)), .int (xs (i + 2)), .ref oa]) (rest := []) ⟨hx, hb, hml, hown, hts⟩ (c_L_carrier l D ct (Zr Z rf) dc σ ad hst oa g (xs (i + 1)) (xs (i + 2)) hI.1 hzo) (vx_cwSW 4 hts (WGS w_765 w_766 w_58 w_767) rfl rfl rfl (by decide) ⟨Nat.le_of_ble_eq_true rfl, Nat.le_of_ble_eq_true rfl⟩) ⟨(blindF fun _ _ _ _ h => h), fun U hU hW => ⟨rfl, (hG.up hW hS hU).sub (fun q z => Or.inl z) (by rw [hU]; exact hlt), by rw [hU]; exact ⟨hP, hA⟩⟩⟩ rfl rfl hl.1 rfl (lv_room (Nat.le_of_ble_eq_true rfl)) dL_law_1128 ⟨show _ ≤ 601024 by omega, show _ ≤ 7293034 by omega⟩) hS (fun x H1 locs1 hQ hzz hk1 hS1 => ?_)
  obtain ⟨rfl, σ1, ad1, g1, hsc, had, hP1, hA1, hg1⟩ := hQ
  have hR1 := hR.keptZ (fun i hi => hk1 _ (hR.lt5 hi) (Or.inr ⟨i, hi, rfl⟩))
  have hzq : ∀ q, Z q → Zq H1 rf q := fun q z => ⟨Nat.lt_of_lt_of_le (hG.1 q z) hS1.1, fun i hi z2 => hR.nz hi (Or.inl (by rw [← z2]; exact z))⟩
  refine lv_istore (lv' := [(5, .int (nI (o_carrier σ (xs (i + 1)) (xs (i + 2))).1)), (0, .ref b), (1, .ref (ad 0)), (2, .ref (rf 0)), (3, .ref oa), (4, .int (nI i))]) hx hb dL_law_1131 hl (by decide) rfl (fun ls hl => ?_)
  refine lv_aload_n hx hb dL_law_1133 rfl (lv_at hl 3 rfl) ?_
  refine lv_aload_n hx hb dL_law_1134 rfl (lv_at hl 1 rfl) ?_
  refine lv_iload hx hb dL_law_1135 (lv_at hl 5 rfl) ?_
  refine lv_iconst (v := 1) hx hb dL_law_1137 (by decide) ?_
  refine lv_iadd hx hb dL_law_1138 ?_
  refine k_scr hx hb hX hbl hbz hS1 hL hi 1 (by decide) (by decide) dL_law_1139 ?_
  refine lv_aload_n hx hb dL_law_1140 rfl (lv_at hl 1 rfl) ?_
  refine lv_iload hx hb dL_law_1141 (lv_at hl 5 rfl) ?_
  refine lv_iconst (v := 2) hx hb dL_law_1143 (by decide) ?_
  refine lv_iadd hx hb dL_law_1144 ?_
  refine k_scr hx hb hX hbl hbz hS1 hL hi 2 (by decide) (by decide) dL_law_1145 ?_
  refine lw_s1 (Zb := Z) (Z := Zq H1 rf) hzq (va_runV (As := [.int (xs (i + 1)), .int (xs (i + 2))]) (rest := []) ⟨hx, hb, hml, hown, hts⟩ (c_X6_carrier l D ct (Zq H1 rf) σ th bst rf (xs (i + 1)) (xs (i + 2)) hI.1) (cwV 2 hts (GG w_1058 w_1059 w_1060 w_65 w_1061) rfl rfl rfl (by decide) ⟨Nat.le_of_ble_eq_true rfl, Nat.le_of_ble_eq_true rfl⟩) ⟨(blindT fun _ _ _ _ h => h), Ob.recv (hG.2.1).1 hR1.o rfl, fun U hU hW => ⟨rfl, hG.2.1.warm hW, fun q z => by rw [hU]; exact z.1, by rw [hU]; exact hR1.rez (fun i hi z => z.2 i hi rfl)⟩⟩ rfl rfl hl.1 rfl (lv_room (Nat.le_of_ble_eq_true rfl)) dL_law_1146 ⟨show _ ≤ 601024 by omega, show _ ≤ 7293034 by omega⟩) hS1 (fun x H2 locs2 hQ2 hzz2 hk2 hS2 => ?_)
  obtain ⟨rfl, b1, hR2⟩ := hQ2
  have hP2 := hP1.keptZ (fun q h1 h2 => hk2 q h1 ⟨h1, fun i hi z => h2 (Or.inl (Or.inr ⟨i, hi, z⟩))⟩)
  have hA2 := hA1.kept (hk2 _ hA1.lt ⟨hA1.lt, fun i hi z => hzo (Or.inr ⟨i, hi, z⟩)⟩)
  have hR3 := (hR2.rez (fun i hi => hR.nz hi)).core hsc
  have hI1 := (IB_ro_carrier hI _ _).core hsc
  refine lv_istore (lv' := [(6, .int (o_carrier σ (xs (i + 1)) (xs (i + 2))).2.1), (5, .int (nI (o_carrier σ (xs (i + 1)) (xs (i + 2))).1)), (0, .ref b), (1, .ref (ad 0)), (2, .ref (rf 0)), (3, .ref oa), (4, .int (nI i))]) hx hb dL_law_1149 hl (by decide) rfl (fun ls hl => ?_)
  refine lv_aload_n hx hb dL_law_1151 rfl (lv_at hl 4 rfl) ?_
  refine c_p1 (va_runV (As := []) (rest := []) ⟨hx, hb, hml, hown, hts⟩ (c_X6_thrown l D ct (Zo Z oa) σ1 _ b1 rf) (cwV 0 hts (GG w_916 w_917 w_918 w_65 w_919) rfl rfl rfl (by decide) ⟨Nat.le_of_ble_eq_true rfl, Nat.le_of_ble_eq_true rfl⟩) ⟨(blindT fun _ _ _ _ h => h), Ob.recv (hG.2.1).1 hR3.o rfl, fun U hU hW => ⟨rfl, hG.2.1.warm hW, by rw [hU]; exact hR3⟩⟩ rfl rfl hl.1 rfl (lv_room (Nat.le_of_ble_eq_true rfl)) dL_law_1152 ⟨show _ ≤ 601024 by omega, show _ ≤ 7293034 by omega⟩) ?_
  refine lv_iload hx hb dL_law_1155 (lv_at hl 1 rfl) ?_
  refine lv_icmp_eq (tgt := 1162) hx hb dL_law_1157 (by decide) (fun _ => ?_) (fun z => absurd rfl z)
  refine lv_iload hx hb dL_law_1162 (lv_at hl 1 rfl) ?_
  have kend : ∀ ls, lv_has ls 9 [(6, .int (o_carrier σ (xs (i + 1)) (xs (i + 2))).2.1), (5, .int (nI (o_carrier σ (xs (i + 1)) (xs (i + 2))).1)), (0, .ref b), (1, .ref (ad 0)), (2, .ref (rf 0)), (3, .ref oa), (4, .int (nI i))] → W p l e room_1 s m args below meth c H2 locs2 (cells + 2 + 0 + 0) (slots + 12 + 0 + 0) Q (F0 m 1589 ls []) := fun ls hl => w_widen (k := cells + 8) (n := slots + 1039) (by omega) (by omega) (kk H2 locs2 hS2 ⟨σ1, ad1, _, b1, g1, hI1, had, hP2, hR3, hA2⟩ ls (lv_sub hl [2, 3, 4, 5, 6] rfl))
  refine lv_if_ne (tgt := 1179) hx hb dL_law_1164 (by decide) (fun z => ?_) (fun z => ?_)
  · refine lv_goto (tgt := 1589) hx hb dL_law_1179 (by decide) ?_
    exact kend _ hl
  · have hz0 := nI_0' (cd_carrier σ _ _) z
    refine lv_aload_n hx hb dL_law_1167 rfl (lv_at hl 5 rfl) ?_
    refine lv_iconst (v := 0) hx hb dL_law_1168 (by decide) ?_
    refine k_lald (s := s) hx hb hG.2.1.1 hA2 (vp_in_nI (by decide : 0 < 1) (by decide)) dL_law_1169 ?_
    refine lv_iload hx hb dL_law_1170 (lv_at hl 0 rfl) ?_
    refine lv_i2l (v := ((o_carrier σ (xs (i + 1)) (xs (i + 2))).2.1 : Int32).toInt64) hx hb dL_law_1172 rfl ?_
    refine W.lcmp hx hb dL_law_1173 ?_
    refine lv_if_eq (tgt := 1179) hx hb dL_law_1174 (by decide) (fun _ => ?_) (fun z => absurd (lg_cmp_0 (hg1 hz0)) z)
    refine lv_goto (tgt := 1589) hx hb dL_law_1179 (by decide) ?_
    exact kend _ hl

theorem cd_wouldPay (σ : Stt) (p0 p1 p2 : Int32) : (o_wouldPay σ p0 p1 p2).1 < 4 := by
  unfold o_wouldPay
  repeat' split
  all_goals first | exact (by decide : (0 : Nat) < 4) | exact (by decide : (1 : Nat) < 4) | exact (by decide : (2 : Nat) < 4) | exact (by decide : (3 : Nat) < 4)
theorem IB_ro_wouldPay {σ : Stt} (h : IB σ) (p0 p1 p2 : Int32) : IB (o_wouldPay σ p0 p1 p2).2.2 := by
  unfold o_wouldPay
  repeat' split
  all_goals exact h
set_option maxHeartbeats 4000000 in
set_option maxRecDepth 100000 in
/-- wouldPay -/
theorem lw_wouldPay {p : Program} {l : Launch} {e : Env} {s : State} {m : MethodId} {args : Array Value} {below : List Frame} {meth : Method} {c : Code} {H : Heap} {locs : List Loc} {cells slots : Nat} {Q : State → Prop} {ls : Array Slot} {b L i : Nat} {xs : Nat → Int32} {D : va_G} {ct : Nat → ClassId} {Z : Nat → Prop} {dc x0 : Nat} {rf : Nat → Nat} {oa : Nat} (hown : s.vm.findClass "RumourCustomsLaw" = some m.cls) (hts : ∀ w ∈ GW, w.before args s = true) (hG : GF D ct Z dc s s.heap) (hX : va_X b L xs s s.heap) (hbl : b < s.heap.size) (hS : va_S (nZ Z) s.heap H locs) (hx : p.tables.exec = Jvm.exec) (hb : c.code = cL_law) (hml : c.maxLocals = 9) (hst : l.stackTraces = false) (hzo : ¬ Zr Z rf oa) (hL : L ≤ 3584) (hi : i + 7 ≤ L) (hbz : Z b) (hW : WI D ct Z dc x0 rf oa H) (hc : cells + 8 ≤ 601024) (hsl : slots + 1039 ≤ 7293034) (hl : lv_has ls 9 [(0, .ref b), (1, .ref x0), (2, .ref (rf 0)), (3, .ref oa), (4, .int (nI i))])
    (kk : ∀ (H1 : Heap) (locs1 : List Loc), va_S (nZ Z) s.heap H1 locs1 → WI D ct Z dc x0 rf oa H1 → ∀ ls, lv_has ls 9 [(0, .ref b), (1, .ref x0), (2, .ref (rf 0)), (3, .ref oa), (4, .int (nI i))] → W p l e room_1 s m args below meth c H1 locs1 (cells + 8) (slots + 1039) Q (F0 m 1589 ls [])) : W p l e room_1 s m args below meth c H locs cells slots Q (F0 m 1182 ls []) := by
  obtain ⟨σ, ad, th, bst, g, hI, rfl, hP, hR, hA⟩ := hW
  have hlt := WI_lt hG hS hR
  refine lv_aload_n hx hb dL_law_1182 rfl (lv_at hl 1 rfl) ?_
  refine lv_aload_n hx hb dL_law_1183 rfl (lv_at hl 0 rfl) ?_
  refine lv_iload hx hb dL_law_1184 (lv_at hl 4 rfl) ?_
  refine lv_iconst (v := 1) hx hb dL_law_1186 (by decide) ?_
  refine lv_iadd hx hb dL_law_1187 ?_
  refine k_scr hx hb hX hbl hbz hS hL hi 1 (by decide) (by decide) dL_law_1188 ?_
  refine lv_aload_n hx hb dL_law_1189 rfl (lv_at hl 0 rfl) ?_
  refine lv_iload hx hb dL_law_1190 (lv_at hl 4 rfl) ?_
  refine lv_iconst (v := 2) hx hb dL_law_1192 (by decide) ?_
  refine lv_iadd hx hb dL_law_1193 ?_
  refine k_scr hx hb hX hbl hbz hS hL hi 2 (by decide) (by decide) dL_law_1194 ?_
  refine lv_aload_n hx hb dL_law_1195 rfl (lv_at hl 0 rfl) ?_
  refine lv_iload hx hb dL_law_1196 (lv_at hl 4 rfl) ?_
  refine lv_iconst (v := 3) hx hb dL_law_1198 (by decide) ?_
  refine lv_iadd hx hb dL_law_1199 ?_
  refine k_scr hx hb hX hbl hbz hS hL hi 3 (by decide) (by decide) dL_law_1200 ?_
  refine lv_aload_n hx hb dL_law_1201 rfl (lv_at hl 3 rfl) ?_
  refine lw_s1 (Zb := Z) (Z := Zr Z rf) (fun q z => Or.inl z) (vx_runSW (As := [.ref (ad 0), .int (xs (i + 1)), .int (xs (i + 2)), .int (xs (i + 3)), .ref oa]) (rest := []) ⟨hx, hb, hml, hown, hts⟩ (c_L_wouldPay l D ct (Zr Z rf) dc σ ad hst oa g (xs (i + 1)) (xs (i + 2)) (xs (i + 3)) hI.1 hzo) (vx_cwSW 5 hts (WGS w_772 w_773 w_58 w_774) rfl rfl rfl (by decide) ⟨Nat.le_of_ble_eq_true rfl, Nat.le_of_ble_eq_true rfl⟩) ⟨(blindF fun _ _ _ _ h => h), fun U hU hW => ⟨rfl, (hG.up hW hS hU).sub (fun q z => Or.inl z) (by rw [hU]; exact hlt), by rw [hU]; exact ⟨hP, hA⟩⟩⟩ rfl rfl hl.1 rfl (lv_room (Nat.le_of_ble_eq_true rfl)) dL_law_1202 ⟨show _ ≤ 601024 by omega, show _ ≤ 7293034 by omega⟩) hS (fun x H1 locs1 hQ hzz hk1 hS1 => ?_)
  obtain ⟨rfl, σ1, ad1, g1, hsc, had, hP1, hA1, hg1⟩ := hQ
  have hR1 := hR.keptZ (fun i hi => hk1 _ (hR.lt5 hi) (Or.inr ⟨i, hi, rfl⟩))
  have hzq : ∀ q, Z q → Zq H1 rf q := fun q z => ⟨Nat.lt_of_lt_of_le (hG.1 q z) hS1.1, fun i hi z2 => hR.nz hi (Or.inl (by rw [← z2]; exact z))⟩
  refine lv_istore (lv' := [(5, .int (nI (o_wouldPay σ (xs (i + 1)) (xs (i + 2)) (xs (i + 3))).1)), (0, .ref b), (1, .ref (ad 0)), (2, .ref (rf 0)), (3, .ref oa), (4, .int (nI i))]) hx hb dL_law_1205 hl (by decide) rfl (fun ls hl => ?_)
  refine lv_aload_n hx hb dL_law_1207 rfl (lv_at hl 3 rfl) ?_
  refine lv_aload_n hx hb dL_law_1208 rfl (lv_at hl 1 rfl) ?_
  refine lv_iload hx hb dL_law_1209 (lv_at hl 5 rfl) ?_
  refine lv_iconst (v := 1) hx hb dL_law_1211 (by decide) ?_
  refine lv_iadd hx hb dL_law_1212 ?_
  refine k_scr hx hb hX hbl hbz hS1 hL hi 1 (by decide) (by decide) dL_law_1213 ?_
  refine lv_aload_n hx hb dL_law_1214 rfl (lv_at hl 1 rfl) ?_
  refine lv_iload hx hb dL_law_1215 (lv_at hl 5 rfl) ?_
  refine lv_iconst (v := 2) hx hb dL_law_1217 (by decide) ?_
  refine lv_iadd hx hb dL_law_1218 ?_
  refine k_scr hx hb hX hbl hbz hS1 hL hi 2 (by decide) (by decide) dL_law_1219 ?_
  refine lv_aload_n hx hb dL_law_1220 rfl (lv_at hl 1 rfl) ?_
  refine lv_iload hx hb dL_law_1221 (lv_at hl 5 rfl) ?_
  refine lv_iconst (v := 3) hx hb dL_law_1223 (by decide) ?_
  refine lv_iadd hx hb dL_law_1224 ?_
  refine k_scr hx hb hX hbl hbz hS1 hL hi 3 (by decide) (by decide) dL_law_1225 ?_
  refine lw_s1 (Zb := Z) (Z := Zq H1 rf) hzq (va_runV (As := [.int (xs (i + 1)), .int (xs (i + 2)), .int (xs (i + 3))]) (rest := []) ⟨hx, hb, hml, hown, hts⟩ (c_X6_wouldPay l D ct (Zq H1 rf) σ th bst rf (xs (i + 1)) (xs (i + 2)) (xs (i + 3)) hI.1) (cwV 3 hts (GG w_1066 w_1067 w_1068 w_65 w_1069) rfl rfl rfl (by decide) ⟨Nat.le_of_ble_eq_true rfl, Nat.le_of_ble_eq_true rfl⟩) ⟨(blindT fun _ _ _ _ h => h), Ob.recv (hG.2.1).1 hR1.o rfl, fun U hU hW => ⟨rfl, hG.2.1.warm hW, fun q z => by rw [hU]; exact z.1, by rw [hU]; exact hR1.rez (fun i hi z => z.2 i hi rfl)⟩⟩ rfl rfl hl.1 rfl (lv_room (Nat.le_of_ble_eq_true rfl)) dL_law_1226 ⟨show _ ≤ 601024 by omega, show _ ≤ 7293034 by omega⟩) hS1 (fun x H2 locs2 hQ2 hzz2 hk2 hS2 => ?_)
  obtain ⟨rfl, b1, hR2⟩ := hQ2
  have hP2 := hP1.keptZ (fun q h1 h2 => hk2 q h1 ⟨h1, fun i hi z => h2 (Or.inl (Or.inr ⟨i, hi, z⟩))⟩)
  have hA2 := hA1.kept (hk2 _ hA1.lt ⟨hA1.lt, fun i hi z => hzo (Or.inr ⟨i, hi, z⟩)⟩)
  have hR3 := (hR2.rez (fun i hi => hR.nz hi)).core hsc
  have hI1 := (IB_ro_wouldPay hI _ _ _).core hsc
  refine lv_istore (lv' := [(6, .int (o_wouldPay σ (xs (i + 1)) (xs (i + 2)) (xs (i + 3))).2.1), (5, .int (nI (o_wouldPay σ (xs (i + 1)) (xs (i + 2)) (xs (i + 3))).1)), (0, .ref b), (1, .ref (ad 0)), (2, .ref (rf 0)), (3, .ref oa), (4, .int (nI i))]) hx hb dL_law_1229 hl (by decide) rfl (fun ls hl => ?_)
  refine lv_aload_n hx hb dL_law_1231 rfl (lv_at hl 4 rfl) ?_
  refine c_p1 (va_runV (As := []) (rest := []) ⟨hx, hb, hml, hown, hts⟩ (c_X6_thrown l D ct (Zo Z oa) σ1 _ b1 rf) (cwV 0 hts (GG w_916 w_917 w_918 w_65 w_919) rfl rfl rfl (by decide) ⟨Nat.le_of_ble_eq_true rfl, Nat.le_of_ble_eq_true rfl⟩) ⟨(blindT fun _ _ _ _ h => h), Ob.recv (hG.2.1).1 hR3.o rfl, fun U hU hW => ⟨rfl, hG.2.1.warm hW, by rw [hU]; exact hR3⟩⟩ rfl rfl hl.1 rfl (lv_room (Nat.le_of_ble_eq_true rfl)) dL_law_1232 ⟨show _ ≤ 601024 by omega, show _ ≤ 7293034 by omega⟩) ?_
  refine lv_iload hx hb dL_law_1235 (lv_at hl 1 rfl) ?_
  refine lv_icmp_eq (tgt := 1242) hx hb dL_law_1237 (by decide) (fun _ => ?_) (fun z => absurd rfl z)
  refine lv_iload hx hb dL_law_1242 (lv_at hl 1 rfl) ?_
  have kend : ∀ ls, lv_has ls 9 [(6, .int (o_wouldPay σ (xs (i + 1)) (xs (i + 2)) (xs (i + 3))).2.1), (5, .int (nI (o_wouldPay σ (xs (i + 1)) (xs (i + 2)) (xs (i + 3))).1)), (0, .ref b), (1, .ref (ad 0)), (2, .ref (rf 0)), (3, .ref oa), (4, .int (nI i))] → W p l e room_1 s m args below meth c H2 locs2 (cells + 4 + 0 + 0) (slots + 24 + 0 + 0) Q (F0 m 1589 ls []) := fun ls hl => w_widen (k := cells + 8) (n := slots + 1039) (by omega) (by omega) (kk H2 locs2 hS2 ⟨σ1, ad1, _, b1, g1, hI1, had, hP2, hR3, hA2⟩ ls (lv_sub hl [2, 3, 4, 5, 6] rfl))
  refine lv_if_ne (tgt := 1259) hx hb dL_law_1244 (by decide) (fun z => ?_) (fun z => ?_)
  · refine lv_goto (tgt := 1589) hx hb dL_law_1259 (by decide) ?_
    exact kend _ hl
  · have hz0 := nI_0' (cd_wouldPay σ _ _ _) z
    refine lv_aload_n hx hb dL_law_1247 rfl (lv_at hl 5 rfl) ?_
    refine lv_iconst (v := 0) hx hb dL_law_1248 (by decide) ?_
    refine k_lald (s := s) hx hb hG.2.1.1 hA2 (vp_in_nI (by decide : 0 < 1) (by decide)) dL_law_1249 ?_
    refine lv_iload hx hb dL_law_1250 (lv_at hl 0 rfl) ?_
    refine lv_i2l (v := ((o_wouldPay σ (xs (i + 1)) (xs (i + 2)) (xs (i + 3))).2.1 : Int32).toInt64) hx hb dL_law_1252 rfl ?_
    refine W.lcmp hx hb dL_law_1253 ?_
    refine lv_if_eq (tgt := 1259) hx hb dL_law_1254 (by decide) (fun _ => ?_) (fun z => absurd (lg_cmp_0 (hg1 hz0)) z)
    refine lv_goto (tgt := 1589) hx hb dL_law_1259 (by decide) ?_
    exact kend _ hl

theorem cd_pass (σ : Stt) (p0 : Int32) : (o_pass σ p0).1 < 4 := by
  unfold o_pass
  repeat' split
  all_goals first | exact (by decide : (0 : Nat) < 4) | exact (by decide : (1 : Nat) < 4) | exact (by decide : (2 : Nat) < 4) | exact (by decide : (3 : Nat) < 4)
set_option maxHeartbeats 4000000 in
set_option maxRecDepth 100000 in
/-- pass -/
theorem lw_pass {p : Program} {l : Launch} {e : Env} {s : State} {m : MethodId} {args : Array Value} {below : List Frame} {meth : Method} {c : Code} {H : Heap} {locs : List Loc} {cells slots : Nat} {Q : State → Prop} {ls : Array Slot} {b L i : Nat} {xs : Nat → Int32} {D : va_G} {ct : Nat → ClassId} {Z : Nat → Prop} {dc x0 : Nat} {rf : Nat → Nat} {oa : Nat} (hown : s.vm.findClass "RumourCustomsLaw" = some m.cls) (hts : ∀ w ∈ GW, w.before args s = true) (hG : GF D ct Z dc s s.heap) (hX : va_X b L xs s s.heap) (hbl : b < s.heap.size) (hS : va_S (nZ Z) s.heap H locs) (hx : p.tables.exec = Jvm.exec) (hb : c.code = cL_law) (hml : c.maxLocals = 9) (hst : l.stackTraces = false) (hzo : ¬ Zr Z rf oa) (hL : L ≤ 3584) (hi : i + 7 ≤ L) (hbz : Z b) (hW : WI D ct Z dc x0 rf oa H) (hc : cells + 8 ≤ 601024) (hsl : slots + 1039 ≤ 7293034) (hl : lv_has ls 9 [(0, .ref b), (1, .ref x0), (2, .ref (rf 0)), (3, .ref oa), (4, .int (nI i))])
    (kk : ∀ (H1 : Heap) (locs1 : List Loc), va_S (nZ Z) s.heap H1 locs1 → WI D ct Z dc x0 rf oa H1 → ∀ ls, lv_has ls 9 [(0, .ref b), (1, .ref x0), (2, .ref (rf 0)), (3, .ref oa), (4, .int (nI i))] → W p l e room_1 s m args below meth c H1 locs1 (cells + 8) (slots + 1039) Q (F0 m 1589 ls [])) : W p l e room_1 s m args below meth c H locs cells slots Q (F0 m 1262 ls []) := by
  obtain ⟨σ, ad, th, bst, g, hI, rfl, hP, hR, hA⟩ := hW
  have hlt := WI_lt hG hS hR
  refine lv_aload_n hx hb dL_law_1262 rfl (lv_at hl 1 rfl) ?_
  refine lv_aload_n hx hb dL_law_1263 rfl (lv_at hl 0 rfl) ?_
  refine lv_iload hx hb dL_law_1264 (lv_at hl 4 rfl) ?_
  refine lv_iconst (v := 1) hx hb dL_law_1266 (by decide) ?_
  refine lv_iadd hx hb dL_law_1267 ?_
  refine k_scr hx hb hX hbl hbz hS hL hi 1 (by decide) (by decide) dL_law_1268 ?_
  refine lv_aload_n hx hb dL_law_1269 rfl (lv_at hl 3 rfl) ?_
  refine lw_s1 (Zb := Z) (Z := Zr Z rf) (fun q z => Or.inl z) (vx_runSW (As := [.ref (ad 0), .int (xs (i + 1)), .ref oa]) (rest := []) ⟨hx, hb, hml, hown, hts⟩ (c_L_pass l D ct (Zr Z rf) dc σ ad hst oa g (xs (i + 1)) hI.1 hzo) (vx_cwSW 3 hts (WGS w_779 w_780 w_58 w_781) rfl rfl rfl (by decide) ⟨Nat.le_of_ble_eq_true rfl, Nat.le_of_ble_eq_true rfl⟩) ⟨(blindF fun _ _ _ _ h => h), fun U hU hW => ⟨rfl, (hG.up hW hS hU).sub (fun q z => Or.inl z) (by rw [hU]; exact hlt), by rw [hU]; exact ⟨hP, hA⟩⟩⟩ rfl rfl hl.1 rfl (lv_room (Nat.le_of_ble_eq_true rfl)) dL_law_1270 ⟨show _ ≤ 601024 by omega, show _ ≤ 7293034 by omega⟩) hS (fun x H1 locs1 hQ hzz hk1 hS1 => ?_)
  obtain ⟨rfl, σ1, ad1, g1, hsc, had, hP1, hA1, hg1⟩ := hQ
  have hR1 := hR.keptZ (fun i hi => hk1 _ (hR.lt5 hi) (Or.inr ⟨i, hi, rfl⟩))
  have hzq : ∀ q, Z q → Zq H1 rf q := fun q z => ⟨Nat.lt_of_lt_of_le (hG.1 q z) hS1.1, fun i hi z2 => hR.nz hi (Or.inl (by rw [← z2]; exact z))⟩
  refine lv_istore (lv' := [(5, .int (nI (o_pass σ (xs (i + 1))).1)), (0, .ref b), (1, .ref (ad 0)), (2, .ref (rf 0)), (3, .ref oa), (4, .int (nI i))]) hx hb dL_law_1273 hl (by decide) rfl (fun ls hl => ?_)
  refine lv_aload_n hx hb dL_law_1275 rfl (lv_at hl 3 rfl) ?_
  refine lv_aload_n hx hb dL_law_1276 rfl (lv_at hl 1 rfl) ?_
  refine lv_iload hx hb dL_law_1277 (lv_at hl 5 rfl) ?_
  refine lv_iconst (v := 1) hx hb dL_law_1279 (by decide) ?_
  refine lv_iadd hx hb dL_law_1280 ?_
  refine k_scr hx hb hX hbl hbz hS1 hL hi 1 (by decide) (by decide) dL_law_1281 ?_
  refine lw_s1 (Zb := Z) (Z := Zq H1 rf) hzq (va_runV (As := [.int (xs (i + 1))]) (rest := []) ⟨hx, hb, hml, hown, hts⟩ (c_X6_pass l D ct (Zq H1 rf) σ th bst rf (xs (i + 1)) hI.1) (cwV 1 hts (GG w_1070 w_1071 w_1072 w_65 w_1073) rfl rfl rfl (by decide) ⟨Nat.le_of_ble_eq_true rfl, Nat.le_of_ble_eq_true rfl⟩) ⟨(blindT fun _ _ _ _ h => h), Ob.recv (hG.2.1).1 hR1.o rfl, fun U hU hW => ⟨rfl, hG.2.1.warm hW, fun q z => by rw [hU]; exact z.1, by rw [hU]; exact hR1.rez (fun i hi z => z.2 i hi rfl)⟩⟩ rfl rfl hl.1 rfl (lv_room (Nat.le_of_ble_eq_true rfl)) dL_law_1282 ⟨show _ ≤ 601024 by omega, show _ ≤ 7293034 by omega⟩) hS1 (fun x H2 locs2 hQ2 hzz2 hk2 hS2 => ?_)
  obtain ⟨rfl, b1, hR2⟩ := hQ2
  have hP2 := hP1.keptZ (fun q h1 h2 => hk2 q h1 ⟨h1, fun i hi z => h2 (Or.inl (Or.inr ⟨i, hi, z⟩))⟩)
  have hA2 := hA1.kept (hk2 _ hA1.lt ⟨hA1.lt, fun i hi z => hzo (Or.inr ⟨i, hi, z⟩)⟩)
  have hR3 := (hR2.rez (fun i hi => hR.nz hi)).core hsc
  have hI1 := (IB_pass hI _).core hsc
  refine lv_istore (lv' := [(6, .int (o_pass σ (xs (i + 1))).2.1), (5, .int (nI (o_pass σ (xs (i + 1))).1)), (0, .ref b), (1, .ref (ad 0)), (2, .ref (rf 0)), (3, .ref oa), (4, .int (nI i))]) hx hb dL_law_1285 hl (by decide) rfl (fun ls hl => ?_)
  refine lv_aload_n hx hb dL_law_1287 rfl (lv_at hl 4 rfl) ?_
  refine c_p1 (va_runV (As := []) (rest := []) ⟨hx, hb, hml, hown, hts⟩ (c_X6_thrown l D ct (Zo Z oa) σ1 _ b1 rf) (cwV 0 hts (GG w_916 w_917 w_918 w_65 w_919) rfl rfl rfl (by decide) ⟨Nat.le_of_ble_eq_true rfl, Nat.le_of_ble_eq_true rfl⟩) ⟨(blindT fun _ _ _ _ h => h), Ob.recv (hG.2.1).1 hR3.o rfl, fun U hU hW => ⟨rfl, hG.2.1.warm hW, by rw [hU]; exact hR3⟩⟩ rfl rfl hl.1 rfl (lv_room (Nat.le_of_ble_eq_true rfl)) dL_law_1288 ⟨show _ ≤ 601024 by omega, show _ ≤ 7293034 by omega⟩) ?_
  refine lv_iload hx hb dL_law_1291 (lv_at hl 1 rfl) ?_
  refine lv_icmp_eq (tgt := 1298) hx hb dL_law_1293 (by decide) (fun _ => ?_) (fun z => absurd rfl z)
  refine lv_iload hx hb dL_law_1298 (lv_at hl 1 rfl) ?_
  have kend : ∀ ls, lv_has ls 9 [(6, .int (o_pass σ (xs (i + 1))).2.1), (5, .int (nI (o_pass σ (xs (i + 1))).1)), (0, .ref b), (1, .ref (ad 0)), (2, .ref (rf 0)), (3, .ref oa), (4, .int (nI i))] → W p l e room_1 s m args below meth c H2 locs2 (cells + 1 + 0 + 0) (slots + 6 + 0 + 0) Q (F0 m 1589 ls []) := fun ls hl => w_widen (k := cells + 8) (n := slots + 1039) (by omega) (by omega) (kk H2 locs2 hS2 ⟨σ1, ad1, _, b1, g1, hI1, had, hP2, hR3, hA2⟩ ls (lv_sub hl [2, 3, 4, 5, 6] rfl))
  refine lv_if_ne (tgt := 1315) hx hb dL_law_1300 (by decide) (fun z => ?_) (fun z => ?_)
  · refine lv_goto (tgt := 1589) hx hb dL_law_1315 (by decide) ?_
    exact kend _ hl
  · have hz0 := nI_0' (cd_pass σ _) z
    refine lv_aload_n hx hb dL_law_1303 rfl (lv_at hl 5 rfl) ?_
    refine lv_iconst (v := 0) hx hb dL_law_1304 (by decide) ?_
    refine k_lald (s := s) hx hb hG.2.1.1 hA2 (vp_in_nI (by decide : 0 < 1) (by decide)) dL_law_1305 ?_
    refine lv_iload hx hb dL_law_1306 (lv_at hl 0 rfl) ?_
    refine lv_i2l (v := ((o_pass σ (xs (i + 1))).2.1 : Int32).toInt64) hx hb dL_law_1308 rfl ?_
    refine W.lcmp hx hb dL_law_1309 ?_
    refine lv_if_eq (tgt := 1315) hx hb dL_law_1310 (by decide) (fun _ => ?_) (fun z => absurd (lg_cmp_0 (hg1 hz0)) z)
    refine lv_goto (tgt := 1589) hx hb dL_law_1315 (by decide) ?_
    exact kend _ hl

theorem cd_count (σ : Stt) (p0 : Int32) : (o_count σ p0).1 < 4 := by
  unfold o_count
  repeat' split
  all_goals first | exact (by decide : (0 : Nat) < 4) | exact (by decide : (1 : Nat) < 4) | exact (by decide : (2 : Nat) < 4) | exact (by decide : (3 : Nat) < 4)
theorem IB_ro_count {σ : Stt} (h : IB σ) (p0 : Int32) : IB (o_count σ p0).2.2 := by
  unfold o_count
  repeat' split
  all_goals exact h
set_option maxHeartbeats 4000000 in
set_option maxRecDepth 100000 in
/-- count -/
theorem lw_count {p : Program} {l : Launch} {e : Env} {s : State} {m : MethodId} {args : Array Value} {below : List Frame} {meth : Method} {c : Code} {H : Heap} {locs : List Loc} {cells slots : Nat} {Q : State → Prop} {ls : Array Slot} {b L i : Nat} {xs : Nat → Int32} {D : va_G} {ct : Nat → ClassId} {Z : Nat → Prop} {dc x0 : Nat} {rf : Nat → Nat} {oa : Nat} (hown : s.vm.findClass "RumourCustomsLaw" = some m.cls) (hts : ∀ w ∈ GW, w.before args s = true) (hG : GF D ct Z dc s s.heap) (hX : va_X b L xs s s.heap) (hbl : b < s.heap.size) (hS : va_S (nZ Z) s.heap H locs) (hx : p.tables.exec = Jvm.exec) (hb : c.code = cL_law) (hml : c.maxLocals = 9) (hst : l.stackTraces = false) (hzo : ¬ Zr Z rf oa) (hL : L ≤ 3584) (hi : i + 7 ≤ L) (hbz : Z b) (hW : WI D ct Z dc x0 rf oa H) (hc : cells + 8 ≤ 601024) (hsl : slots + 1039 ≤ 7293034) (hl : lv_has ls 9 [(0, .ref b), (1, .ref x0), (2, .ref (rf 0)), (3, .ref oa), (4, .int (nI i))])
    (kk : ∀ (H1 : Heap) (locs1 : List Loc), va_S (nZ Z) s.heap H1 locs1 → WI D ct Z dc x0 rf oa H1 → ∀ ls, lv_has ls 9 [(0, .ref b), (1, .ref x0), (2, .ref (rf 0)), (3, .ref oa), (4, .int (nI i))] → W p l e room_1 s m args below meth c H1 locs1 (cells + 8) (slots + 1039) Q (F0 m 1589 ls [])) : W p l e room_1 s m args below meth c H locs cells slots Q (F0 m 1318 ls []) := by
  obtain ⟨σ, ad, th, bst, g, hI, rfl, hP, hR, hA⟩ := hW
  have hlt := WI_lt hG hS hR
  refine lv_aload_n hx hb dL_law_1318 rfl (lv_at hl 1 rfl) ?_
  refine lv_aload_n hx hb dL_law_1319 rfl (lv_at hl 0 rfl) ?_
  refine lv_iload hx hb dL_law_1320 (lv_at hl 4 rfl) ?_
  refine lv_iconst (v := 1) hx hb dL_law_1322 (by decide) ?_
  refine lv_iadd hx hb dL_law_1323 ?_
  refine k_scr hx hb hX hbl hbz hS hL hi 1 (by decide) (by decide) dL_law_1324 ?_
  refine lv_aload_n hx hb dL_law_1325 rfl (lv_at hl 3 rfl) ?_
  refine lw_s1 (Zb := Z) (Z := Zr Z rf) (fun q z => Or.inl z) (vx_runSW (As := [.ref (ad 0), .int (xs (i + 1)), .ref oa]) (rest := []) ⟨hx, hb, hml, hown, hts⟩ (c_L_count l D ct (Zr Z rf) dc σ ad hst oa g (xs (i + 1)) hI.1 hzo) (vx_cwSW 3 hts (WGS w_792 w_793 w_58 w_794) rfl rfl rfl (by decide) ⟨Nat.le_of_ble_eq_true rfl, Nat.le_of_ble_eq_true rfl⟩) ⟨(blindF fun _ _ _ _ h => h), fun U hU hW => ⟨rfl, (hG.up hW hS hU).sub (fun q z => Or.inl z) (by rw [hU]; exact hlt), by rw [hU]; exact ⟨hP, hA⟩⟩⟩ rfl rfl hl.1 rfl (lv_room (Nat.le_of_ble_eq_true rfl)) dL_law_1326 ⟨show _ ≤ 601024 by omega, show _ ≤ 7293034 by omega⟩) hS (fun x H1 locs1 hQ hzz hk1 hS1 => ?_)
  obtain ⟨rfl, σ1, ad1, g1, hsc, had, hP1, hA1, hg1⟩ := hQ
  have hR1 := hR.keptZ (fun i hi => hk1 _ (hR.lt5 hi) (Or.inr ⟨i, hi, rfl⟩))
  have hzq : ∀ q, Z q → Zq H1 rf q := fun q z => ⟨Nat.lt_of_lt_of_le (hG.1 q z) hS1.1, fun i hi z2 => hR.nz hi (Or.inl (by rw [← z2]; exact z))⟩
  refine lv_istore (lv' := [(5, .int (nI (o_count σ (xs (i + 1))).1)), (0, .ref b), (1, .ref (ad 0)), (2, .ref (rf 0)), (3, .ref oa), (4, .int (nI i))]) hx hb dL_law_1329 hl (by decide) rfl (fun ls hl => ?_)
  refine lv_aload_n hx hb dL_law_1331 rfl (lv_at hl 3 rfl) ?_
  refine lv_aload_n hx hb dL_law_1332 rfl (lv_at hl 1 rfl) ?_
  refine lv_iload hx hb dL_law_1333 (lv_at hl 5 rfl) ?_
  refine lv_iconst (v := 1) hx hb dL_law_1335 (by decide) ?_
  refine lv_iadd hx hb dL_law_1336 ?_
  refine k_scr hx hb hX hbl hbz hS1 hL hi 1 (by decide) (by decide) dL_law_1337 ?_
  refine lw_s1 (Zb := Z) (Z := Zq H1 rf) hzq (va_runV (As := [.int (xs (i + 1))]) (rest := []) ⟨hx, hb, hml, hown, hts⟩ (c_X6_count l D ct (Zq H1 rf) σ th bst rf (xs (i + 1)) hI.1) (cwV 1 hts (GG w_1074 w_1075 w_1076 w_65 w_1077) rfl rfl rfl (by decide) ⟨Nat.le_of_ble_eq_true rfl, Nat.le_of_ble_eq_true rfl⟩) ⟨(blindT fun _ _ _ _ h => h), Ob.recv (hG.2.1).1 hR1.o rfl, fun U hU hW => ⟨rfl, hG.2.1.warm hW, fun q z => by rw [hU]; exact z.1, by rw [hU]; exact hR1.rez (fun i hi z => z.2 i hi rfl)⟩⟩ rfl rfl hl.1 rfl (lv_room (Nat.le_of_ble_eq_true rfl)) dL_law_1338 ⟨show _ ≤ 601024 by omega, show _ ≤ 7293034 by omega⟩) hS1 (fun x H2 locs2 hQ2 hzz2 hk2 hS2 => ?_)
  obtain ⟨rfl, b1, hR2⟩ := hQ2
  have hP2 := hP1.keptZ (fun q h1 h2 => hk2 q h1 ⟨h1, fun i hi z => h2 (Or.inl (Or.inr ⟨i, hi, z⟩))⟩)
  have hA2 := hA1.kept (hk2 _ hA1.lt ⟨hA1.lt, fun i hi z => hzo (Or.inr ⟨i, hi, z⟩)⟩)
  have hR3 := (hR2.rez (fun i hi => hR.nz hi)).core hsc
  have hI1 := (IB_ro_count hI _).core hsc
  refine lv_istore (lv' := [(6, .int (o_count σ (xs (i + 1))).2.1), (5, .int (nI (o_count σ (xs (i + 1))).1)), (0, .ref b), (1, .ref (ad 0)), (2, .ref (rf 0)), (3, .ref oa), (4, .int (nI i))]) hx hb dL_law_1341 hl (by decide) rfl (fun ls hl => ?_)
  refine lv_aload_n hx hb dL_law_1343 rfl (lv_at hl 4 rfl) ?_
  refine c_p1 (va_runV (As := []) (rest := []) ⟨hx, hb, hml, hown, hts⟩ (c_X6_thrown l D ct (Zo Z oa) σ1 _ b1 rf) (cwV 0 hts (GG w_916 w_917 w_918 w_65 w_919) rfl rfl rfl (by decide) ⟨Nat.le_of_ble_eq_true rfl, Nat.le_of_ble_eq_true rfl⟩) ⟨(blindT fun _ _ _ _ h => h), Ob.recv (hG.2.1).1 hR3.o rfl, fun U hU hW => ⟨rfl, hG.2.1.warm hW, by rw [hU]; exact hR3⟩⟩ rfl rfl hl.1 rfl (lv_room (Nat.le_of_ble_eq_true rfl)) dL_law_1344 ⟨show _ ≤ 601024 by omega, show _ ≤ 7293034 by omega⟩) ?_
  refine lv_iload hx hb dL_law_1347 (lv_at hl 1 rfl) ?_
  refine lv_icmp_eq (tgt := 1354) hx hb dL_law_1349 (by decide) (fun _ => ?_) (fun z => absurd rfl z)
  refine lv_iload hx hb dL_law_1354 (lv_at hl 1 rfl) ?_
  have kend : ∀ ls, lv_has ls 9 [(6, .int (o_count σ (xs (i + 1))).2.1), (5, .int (nI (o_count σ (xs (i + 1))).1)), (0, .ref b), (1, .ref (ad 0)), (2, .ref (rf 0)), (3, .ref oa), (4, .int (nI i))] → W p l e room_1 s m args below meth c H2 locs2 (cells + 1 + 0 + 0) (slots + 6 + 0 + 0) Q (F0 m 1589 ls []) := fun ls hl => w_widen (k := cells + 8) (n := slots + 1039) (by omega) (by omega) (kk H2 locs2 hS2 ⟨σ1, ad1, _, b1, g1, hI1, had, hP2, hR3, hA2⟩ ls (lv_sub hl [2, 3, 4, 5, 6] rfl))
  refine lv_if_ne (tgt := 1371) hx hb dL_law_1356 (by decide) (fun z => ?_) (fun z => ?_)
  · refine lv_goto (tgt := 1589) hx hb dL_law_1371 (by decide) ?_
    exact kend _ hl
  · have hz0 := nI_0' (cd_count σ _) z
    refine lv_aload_n hx hb dL_law_1359 rfl (lv_at hl 5 rfl) ?_
    refine lv_iconst (v := 0) hx hb dL_law_1360 (by decide) ?_
    refine k_lald (s := s) hx hb hG.2.1.1 hA2 (vp_in_nI (by decide : 0 < 1) (by decide)) dL_law_1361 ?_
    refine lv_iload hx hb dL_law_1362 (lv_at hl 0 rfl) ?_
    refine lv_i2l (v := ((o_count σ (xs (i + 1))).2.1 : Int32).toInt64) hx hb dL_law_1364 rfl ?_
    refine W.lcmp hx hb dL_law_1365 ?_
    refine lv_if_eq (tgt := 1371) hx hb dL_law_1366 (by decide) (fun _ => ?_) (fun z => absurd (lg_cmp_0 (hg1 hz0)) z)
    refine lv_goto (tgt := 1589) hx hb dL_law_1371 (by decide) ?_
    exact kend _ hl

theorem cd_cheapest (σ : Stt) (p0 p1 p2 p3 : Int32) : (o_cheapest σ p0 p1 p2 p3).1 < 4 := by
  unfold o_cheapest
  repeat' split
  all_goals first | exact (by decide : (0 : Nat) < 4) | exact (by decide : (1 : Nat) < 4) | exact (by decide : (2 : Nat) < 4) | exact (by decide : (3 : Nat) < 4)
theorem IB_ro_cheapest {σ : Stt} (h : IB σ) (p0 p1 p2 p3 : Int32) : IB (o_cheapest σ p0 p1 p2 p3).2.2 := by
  unfold o_cheapest
  repeat' split
  all_goals exact h
set_option maxHeartbeats 4000000 in
set_option maxRecDepth 100000 in
/-- cheapest -/
theorem lw_cheapest {p : Program} {l : Launch} {e : Env} {s : State} {m : MethodId} {args : Array Value} {below : List Frame} {meth : Method} {c : Code} {H : Heap} {locs : List Loc} {cells slots : Nat} {Q : State → Prop} {ls : Array Slot} {b L i : Nat} {xs : Nat → Int32} {D : va_G} {ct : Nat → ClassId} {Z : Nat → Prop} {dc x0 : Nat} {rf : Nat → Nat} {oa : Nat} (hown : s.vm.findClass "RumourCustomsLaw" = some m.cls) (hts : ∀ w ∈ GW, w.before args s = true) (hG : GF D ct Z dc s s.heap) (hX : va_X b L xs s s.heap) (hbl : b < s.heap.size) (hS : va_S (nZ Z) s.heap H locs) (hx : p.tables.exec = Jvm.exec) (hb : c.code = cL_law) (hml : c.maxLocals = 9) (hst : l.stackTraces = false) (hzo : ¬ Zr Z rf oa) (hL : L ≤ 3584) (hi : i + 7 ≤ L) (hbz : Z b) (hW : WI D ct Z dc x0 rf oa H) (hc : cells + 8 ≤ 601024) (hsl : slots + 1039 ≤ 7293034) (hl : lv_has ls 9 [(0, .ref b), (1, .ref x0), (2, .ref (rf 0)), (3, .ref oa), (4, .int (nI i))])
    (kk : ∀ (H1 : Heap) (locs1 : List Loc), va_S (nZ Z) s.heap H1 locs1 → WI D ct Z dc x0 rf oa H1 → ∀ ls, lv_has ls 9 [(0, .ref b), (1, .ref x0), (2, .ref (rf 0)), (3, .ref oa), (4, .int (nI i))] → W p l e room_1 s m args below meth c H1 locs1 (cells + 8) (slots + 1039) Q (F0 m 1589 ls [])) : W p l e room_1 s m args below meth c H locs cells slots Q (F0 m 1374 ls []) := by
  obtain ⟨σ, ad, th, bst, g, hI, rfl, hP, hR, hA⟩ := hW
  have hlt := WI_lt hG hS hR
  refine lv_aload_n hx hb dL_law_1374 rfl (lv_at hl 1 rfl) ?_
  refine lv_aload_n hx hb dL_law_1375 rfl (lv_at hl 0 rfl) ?_
  refine lv_iload hx hb dL_law_1376 (lv_at hl 4 rfl) ?_
  refine lv_iconst (v := 1) hx hb dL_law_1378 (by decide) ?_
  refine lv_iadd hx hb dL_law_1379 ?_
  refine k_scr hx hb hX hbl hbz hS hL hi 1 (by decide) (by decide) dL_law_1380 ?_
  refine lv_aload_n hx hb dL_law_1381 rfl (lv_at hl 0 rfl) ?_
  refine lv_iload hx hb dL_law_1382 (lv_at hl 4 rfl) ?_
  refine lv_iconst (v := 2) hx hb dL_law_1384 (by decide) ?_
  refine lv_iadd hx hb dL_law_1385 ?_
  refine k_scr hx hb hX hbl hbz hS hL hi 2 (by decide) (by decide) dL_law_1386 ?_
  refine lv_aload_n hx hb dL_law_1387 rfl (lv_at hl 0 rfl) ?_
  refine lv_iload hx hb dL_law_1388 (lv_at hl 4 rfl) ?_
  refine lv_iconst (v := 3) hx hb dL_law_1390 (by decide) ?_
  refine lv_iadd hx hb dL_law_1391 ?_
  refine k_scr hx hb hX hbl hbz hS hL hi 3 (by decide) (by decide) dL_law_1392 ?_
  refine lv_aload_n hx hb dL_law_1393 rfl (lv_at hl 0 rfl) ?_
  refine lv_iload hx hb dL_law_1394 (lv_at hl 4 rfl) ?_
  refine lv_iconst (v := 4) hx hb dL_law_1396 (by decide) ?_
  refine lv_iadd hx hb dL_law_1397 ?_
  refine k_scr hx hb hX hbl hbz hS hL hi 4 (by decide) (by decide) dL_law_1398 ?_
  refine lv_aload_n hx hb dL_law_1399 rfl (lv_at hl 3 rfl) ?_
  refine lw_s1 (Zb := Z) (Z := Zr Z rf) (fun q z => Or.inl z) (vx_runSW (As := [.ref (ad 0), .int (xs (i + 1)), .int (xs (i + 2)), .int (xs (i + 3)), .int (xs (i + 4)), .ref oa]) (rest := []) ⟨hx, hb, hml, hown, hts⟩ (c_L_cheapest l D ct (Zr Z rf) dc σ ad hst oa g (xs (i + 1)) (xs (i + 2)) (xs (i + 3)) (xs (i + 4)) hI.1 hzo) (vx_cwSW 6 hts (WGS w_799 w_800 w_58 w_801) rfl rfl rfl (by decide) ⟨Nat.le_of_ble_eq_true rfl, Nat.le_of_ble_eq_true rfl⟩) ⟨(blindF fun _ _ _ _ h => h), fun U hU hW => ⟨rfl, (hG.up hW hS hU).sub (fun q z => Or.inl z) (by rw [hU]; exact hlt), by rw [hU]; exact ⟨hP, hA⟩⟩⟩ rfl rfl hl.1 rfl (lv_room (Nat.le_of_ble_eq_true rfl)) dL_law_1400 ⟨show _ ≤ 601024 by omega, show _ ≤ 7293034 by omega⟩) hS (fun x H1 locs1 hQ hzz hk1 hS1 => ?_)
  obtain ⟨rfl, σ1, ad1, g1, hsc, had, hP1, hA1, hg1⟩ := hQ
  have hR1 := hR.keptZ (fun i hi => hk1 _ (hR.lt5 hi) (Or.inr ⟨i, hi, rfl⟩))
  have hzq : ∀ q, Z q → Zq H1 rf q := fun q z => ⟨Nat.lt_of_lt_of_le (hG.1 q z) hS1.1, fun i hi z2 => hR.nz hi (Or.inl (by rw [← z2]; exact z))⟩
  refine lv_istore (lv' := [(5, .int (nI (o_cheapest σ (xs (i + 1)) (xs (i + 2)) (xs (i + 3)) (xs (i + 4))).1)), (0, .ref b), (1, .ref (ad 0)), (2, .ref (rf 0)), (3, .ref oa), (4, .int (nI i))]) hx hb dL_law_1403 hl (by decide) rfl (fun ls hl => ?_)
  refine lv_aload_n hx hb dL_law_1405 rfl (lv_at hl 3 rfl) ?_
  refine lv_aload_n hx hb dL_law_1406 rfl (lv_at hl 1 rfl) ?_
  refine lv_iload hx hb dL_law_1407 (lv_at hl 5 rfl) ?_
  refine lv_iconst (v := 1) hx hb dL_law_1409 (by decide) ?_
  refine lv_iadd hx hb dL_law_1410 ?_
  refine k_scr hx hb hX hbl hbz hS1 hL hi 1 (by decide) (by decide) dL_law_1411 ?_
  refine lv_aload_n hx hb dL_law_1412 rfl (lv_at hl 1 rfl) ?_
  refine lv_iload hx hb dL_law_1413 (lv_at hl 5 rfl) ?_
  refine lv_iconst (v := 2) hx hb dL_law_1415 (by decide) ?_
  refine lv_iadd hx hb dL_law_1416 ?_
  refine k_scr hx hb hX hbl hbz hS1 hL hi 2 (by decide) (by decide) dL_law_1417 ?_
  refine lv_aload_n hx hb dL_law_1418 rfl (lv_at hl 1 rfl) ?_
  refine lv_iload hx hb dL_law_1419 (lv_at hl 5 rfl) ?_
  refine lv_iconst (v := 3) hx hb dL_law_1421 (by decide) ?_
  refine lv_iadd hx hb dL_law_1422 ?_
  refine k_scr hx hb hX hbl hbz hS1 hL hi 3 (by decide) (by decide) dL_law_1423 ?_
  refine lv_aload_n hx hb dL_law_1424 rfl (lv_at hl 1 rfl) ?_
  refine lv_iload hx hb dL_law_1425 (lv_at hl 5 rfl) ?_
  refine lv_iconst (v := 4) hx hb dL_law_1427 (by decide) ?_
  refine lv_iadd hx hb dL_law_1428 ?_
  refine k_scr hx hb hX hbl hbz hS1 hL hi 4 (by decide) (by decide) dL_law_1429 ?_
  refine lw_s1 (Zb := Z) (Z := Zq H1 rf) hzq (va_runV (As := [.int (xs (i + 1)), .int (xs (i + 2)), .int (xs (i + 3)), .int (xs (i + 4))]) (rest := []) ⟨hx, hb, hml, hown, hts⟩ (c_X6_cheapest l D ct (Zq H1 rf) σ th bst rf (xs (i + 1)) (xs (i + 2)) (xs (i + 3)) (xs (i + 4)) hI.1) (cwV 4 hts (GG w_1086 w_1087 w_1088 w_65 w_1089) rfl rfl rfl (by decide) ⟨Nat.le_of_ble_eq_true rfl, Nat.le_of_ble_eq_true rfl⟩) ⟨(blindT fun _ _ _ _ h => h), Ob.recv (hG.2.1).1 hR1.o rfl, fun U hU hW => ⟨rfl, hG.2.1.warm hW, fun q z => by rw [hU]; exact z.1, by rw [hU]; exact hR1.rez (fun i hi z => z.2 i hi rfl)⟩⟩ rfl rfl hl.1 rfl (lv_room (Nat.le_of_ble_eq_true rfl)) dL_law_1430 ⟨show _ ≤ 601024 by omega, show _ ≤ 7293034 by omega⟩) hS1 (fun x H2 locs2 hQ2 hzz2 hk2 hS2 => ?_)
  obtain ⟨rfl, b1, hR2⟩ := hQ2
  have hP2 := hP1.keptZ (fun q h1 h2 => hk2 q h1 ⟨h1, fun i hi z => h2 (Or.inl (Or.inr ⟨i, hi, z⟩))⟩)
  have hA2 := hA1.kept (hk2 _ hA1.lt ⟨hA1.lt, fun i hi z => hzo (Or.inr ⟨i, hi, z⟩)⟩)
  have hR3 := (hR2.rez (fun i hi => hR.nz hi)).core hsc
  have hI1 := (IB_ro_cheapest hI _ _ _ _).core hsc
  refine lv_istore (lv' := [(6, .int (o_cheapest σ (xs (i + 1)) (xs (i + 2)) (xs (i + 3)) (xs (i + 4))).2.1), (5, .int (nI (o_cheapest σ (xs (i + 1)) (xs (i + 2)) (xs (i + 3)) (xs (i + 4))).1)), (0, .ref b), (1, .ref (ad 0)), (2, .ref (rf 0)), (3, .ref oa), (4, .int (nI i))]) hx hb dL_law_1433 hl (by decide) rfl (fun ls hl => ?_)
  refine lv_aload_n hx hb dL_law_1435 rfl (lv_at hl 4 rfl) ?_
  refine c_p1 (va_runV (As := []) (rest := []) ⟨hx, hb, hml, hown, hts⟩ (c_X6_thrown l D ct (Zo Z oa) σ1 _ b1 rf) (cwV 0 hts (GG w_916 w_917 w_918 w_65 w_919) rfl rfl rfl (by decide) ⟨Nat.le_of_ble_eq_true rfl, Nat.le_of_ble_eq_true rfl⟩) ⟨(blindT fun _ _ _ _ h => h), Ob.recv (hG.2.1).1 hR3.o rfl, fun U hU hW => ⟨rfl, hG.2.1.warm hW, by rw [hU]; exact hR3⟩⟩ rfl rfl hl.1 rfl (lv_room (Nat.le_of_ble_eq_true rfl)) dL_law_1436 ⟨show _ ≤ 601024 by omega, show _ ≤ 7293034 by omega⟩) ?_
  refine lv_iload hx hb dL_law_1439 (lv_at hl 1 rfl) ?_
  refine lv_icmp_eq (tgt := 1446) hx hb dL_law_1441 (by decide) (fun _ => ?_) (fun z => absurd rfl z)
  refine lv_iload hx hb dL_law_1446 (lv_at hl 1 rfl) ?_
  have kend : ∀ ls, lv_has ls 9 [(6, .int (o_cheapest σ (xs (i + 1)) (xs (i + 2)) (xs (i + 3)) (xs (i + 4))).2.1), (5, .int (nI (o_cheapest σ (xs (i + 1)) (xs (i + 2)) (xs (i + 3)) (xs (i + 4))).1)), (0, .ref b), (1, .ref (ad 0)), (2, .ref (rf 0)), (3, .ref oa), (4, .int (nI i))] → W p l e room_1 s m args below meth c H2 locs2 (cells + 4 + 0 + 0) (slots + 24 + 0 + 0) Q (F0 m 1589 ls []) := fun ls hl => w_widen (k := cells + 8) (n := slots + 1039) (by omega) (by omega) (kk H2 locs2 hS2 ⟨σ1, ad1, _, b1, g1, hI1, had, hP2, hR3, hA2⟩ ls (lv_sub hl [2, 3, 4, 5, 6] rfl))
  refine lv_if_ne (tgt := 1463) hx hb dL_law_1448 (by decide) (fun z => ?_) (fun z => ?_)
  · refine lv_goto (tgt := 1589) hx hb dL_law_1463 (by decide) ?_
    exact kend _ hl
  · have hz0 := nI_0' (cd_cheapest σ _ _ _ _) z
    refine lv_aload_n hx hb dL_law_1451 rfl (lv_at hl 5 rfl) ?_
    refine lv_iconst (v := 0) hx hb dL_law_1452 (by decide) ?_
    refine k_lald (s := s) hx hb hG.2.1.1 hA2 (vp_in_nI (by decide : 0 < 1) (by decide)) dL_law_1453 ?_
    refine lv_iload hx hb dL_law_1454 (lv_at hl 0 rfl) ?_
    refine lv_i2l (v := ((o_cheapest σ (xs (i + 1)) (xs (i + 2)) (xs (i + 3)) (xs (i + 4))).2.1 : Int32).toInt64) hx hb dL_law_1456 rfl ?_
    refine W.lcmp hx hb dL_law_1457 ?_
    refine lv_if_eq (tgt := 1463) hx hb dL_law_1458 (by decide) (fun _ => ?_) (fun z => absurd (lg_cmp_0 (hg1 hz0)) z)
    refine lv_goto (tgt := 1589) hx hb dL_law_1463 (by decide) ?_
    exact kend _ hl

theorem cd_spread (σ : Stt) (p0 p1 : Int32) : (o_spread σ p0 p1).1 < 4 := by
  unfold o_spread
  repeat' split
  all_goals first | exact (by decide : (0 : Nat) < 4) | exact (by decide : (1 : Nat) < 4) | exact (by decide : (2 : Nat) < 4) | exact (by decide : (3 : Nat) < 4)
theorem IB_ro_spread {σ : Stt} (h : IB σ) (p0 p1 : Int32) : IB (o_spread σ p0 p1).2.2 := by
  unfold o_spread
  repeat' split
  all_goals exact h
set_option maxHeartbeats 4000000 in
set_option maxRecDepth 100000 in
/-- spread -/
theorem lw_spread {p : Program} {l : Launch} {e : Env} {s : State} {m : MethodId} {args : Array Value} {below : List Frame} {meth : Method} {c : Code} {H : Heap} {locs : List Loc} {cells slots : Nat} {Q : State → Prop} {ls : Array Slot} {b L i : Nat} {xs : Nat → Int32} {D : va_G} {ct : Nat → ClassId} {Z : Nat → Prop} {dc x0 : Nat} {rf : Nat → Nat} {oa : Nat} (hown : s.vm.findClass "RumourCustomsLaw" = some m.cls) (hts : ∀ w ∈ GW, w.before args s = true) (hG : GF D ct Z dc s s.heap) (hX : va_X b L xs s s.heap) (hbl : b < s.heap.size) (hS : va_S (nZ Z) s.heap H locs) (hx : p.tables.exec = Jvm.exec) (hb : c.code = cL_law) (hml : c.maxLocals = 9) (hst : l.stackTraces = false) (hzo : ¬ Zr Z rf oa) (hL : L ≤ 3584) (hi : i + 7 ≤ L) (hbz : Z b) (hW : WI D ct Z dc x0 rf oa H) (hc : cells + 8 ≤ 601024) (hsl : slots + 1039 ≤ 7293034) (hl : lv_has ls 9 [(0, .ref b), (1, .ref x0), (2, .ref (rf 0)), (3, .ref oa), (4, .int (nI i))])
    (kk : ∀ (H1 : Heap) (locs1 : List Loc), va_S (nZ Z) s.heap H1 locs1 → WI D ct Z dc x0 rf oa H1 → ∀ ls, lv_has ls 9 [(0, .ref b), (1, .ref x0), (2, .ref (rf 0)), (3, .ref oa), (4, .int (nI i))] → W p l e room_1 s m args below meth c H1 locs1 (cells + 8) (slots + 1039) Q (F0 m 1589 ls [])) : W p l e room_1 s m args below meth c H locs cells slots Q (F0 m 1466 ls []) := by
  obtain ⟨σ, ad, th, bst, g, hI, rfl, hP, hR, hA⟩ := hW
  have hlt := WI_lt hG hS hR
  refine lv_aload_n hx hb dL_law_1466 rfl (lv_at hl 1 rfl) ?_
  refine lv_aload_n hx hb dL_law_1467 rfl (lv_at hl 0 rfl) ?_
  refine lv_iload hx hb dL_law_1468 (lv_at hl 4 rfl) ?_
  refine lv_iconst (v := 1) hx hb dL_law_1470 (by decide) ?_
  refine lv_iadd hx hb dL_law_1471 ?_
  refine k_scr hx hb hX hbl hbz hS hL hi 1 (by decide) (by decide) dL_law_1472 ?_
  refine lv_aload_n hx hb dL_law_1473 rfl (lv_at hl 0 rfl) ?_
  refine lv_iload hx hb dL_law_1474 (lv_at hl 4 rfl) ?_
  refine lv_iconst (v := 2) hx hb dL_law_1476 (by decide) ?_
  refine lv_iadd hx hb dL_law_1477 ?_
  refine k_scr hx hb hX hbl hbz hS hL hi 2 (by decide) (by decide) dL_law_1478 ?_
  refine lv_aload_n hx hb dL_law_1479 rfl (lv_at hl 3 rfl) ?_
  refine lw_s1 (Zb := Z) (Z := Zr Z rf) (fun q z => Or.inl z) (vx_runSW (As := [.ref (ad 0), .int (xs (i + 1)), .int (xs (i + 2)), .ref oa]) (rest := []) ⟨hx, hb, hml, hown, hts⟩ (c_L_spread l D ct (Zr Z rf) dc σ ad hst oa g (xs (i + 1)) (xs (i + 2)) hI.1 hzo) (vx_cwSW 4 hts (WGS w_841 w_842 w_58 w_843) rfl rfl rfl (by decide) ⟨Nat.le_of_ble_eq_true rfl, Nat.le_of_ble_eq_true rfl⟩) ⟨(blindF fun _ _ _ _ h => h), fun U hU hW => ⟨rfl, (hG.up hW hS hU).sub (fun q z => Or.inl z) (by rw [hU]; exact hlt), by rw [hU]; exact ⟨hP, hA⟩⟩⟩ rfl rfl hl.1 rfl (lv_room (Nat.le_of_ble_eq_true rfl)) dL_law_1480 ⟨show _ ≤ 601024 by omega, show _ ≤ 7293034 by omega⟩) hS (fun x H1 locs1 hQ hzz hk1 hS1 => ?_)
  obtain ⟨rfl, σ1, ad1, g1, hsc, had, hP1, hA1, hg1⟩ := hQ
  have hR1 := hR.keptZ (fun i hi => hk1 _ (hR.lt5 hi) (Or.inr ⟨i, hi, rfl⟩))
  have hzq : ∀ q, Z q → Zq H1 rf q := fun q z => ⟨Nat.lt_of_lt_of_le (hG.1 q z) hS1.1, fun i hi z2 => hR.nz hi (Or.inl (by rw [← z2]; exact z))⟩
  refine lv_istore (lv' := [(5, .int (nI (o_spread σ (xs (i + 1)) (xs (i + 2))).1)), (0, .ref b), (1, .ref (ad 0)), (2, .ref (rf 0)), (3, .ref oa), (4, .int (nI i))]) hx hb dL_law_1483 hl (by decide) rfl (fun ls hl => ?_)
  refine lv_aload_n hx hb dL_law_1485 rfl (lv_at hl 3 rfl) ?_
  refine lv_aload_n hx hb dL_law_1486 rfl (lv_at hl 1 rfl) ?_
  refine lv_iload hx hb dL_law_1487 (lv_at hl 5 rfl) ?_
  refine lv_iconst (v := 1) hx hb dL_law_1489 (by decide) ?_
  refine lv_iadd hx hb dL_law_1490 ?_
  refine k_scr hx hb hX hbl hbz hS1 hL hi 1 (by decide) (by decide) dL_law_1491 ?_
  refine lv_aload_n hx hb dL_law_1492 rfl (lv_at hl 1 rfl) ?_
  refine lv_iload hx hb dL_law_1493 (lv_at hl 5 rfl) ?_
  refine lv_iconst (v := 2) hx hb dL_law_1495 (by decide) ?_
  refine lv_iadd hx hb dL_law_1496 ?_
  refine k_scr hx hb hX hbl hbz hS1 hL hi 2 (by decide) (by decide) dL_law_1497 ?_
  refine lw_s1 (Zb := Z) (Z := Zq H1 rf) hzq (va_runV (As := [.int (xs (i + 1)), .int (xs (i + 2))]) (rest := []) ⟨hx, hb, hml, hown, hts⟩ (c_X6_spread l D ct (Zq H1 rf) σ th bst rf (xs (i + 1)) (xs (i + 2)) hI.1) (cwV 2 hts (GG w_1096 w_1097 w_1098 w_65 w_1099) rfl rfl rfl (by decide) ⟨Nat.le_of_ble_eq_true rfl, Nat.le_of_ble_eq_true rfl⟩) ⟨(blindT fun _ _ _ _ h => h), Ob.recv (hG.2.1).1 hR1.o rfl, fun U hU hW => ⟨rfl, hG.2.1.warm hW, fun q z => by rw [hU]; exact z.1, by rw [hU]; exact hR1.rez (fun i hi z => z.2 i hi rfl)⟩⟩ rfl rfl hl.1 rfl (lv_room (Nat.le_of_ble_eq_true rfl)) dL_law_1498 ⟨show _ ≤ 601024 by omega, show _ ≤ 7293034 by omega⟩) hS1 (fun x H2 locs2 hQ2 hzz2 hk2 hS2 => ?_)
  obtain ⟨rfl, b1, hR2⟩ := hQ2
  have hP2 := hP1.keptZ (fun q h1 h2 => hk2 q h1 ⟨h1, fun i hi z => h2 (Or.inl (Or.inr ⟨i, hi, z⟩))⟩)
  have hA2 := hA1.kept (hk2 _ hA1.lt ⟨hA1.lt, fun i hi z => hzo (Or.inr ⟨i, hi, z⟩)⟩)
  have hR3 := (hR2.rez (fun i hi => hR.nz hi)).core hsc
  have hI1 := (IB_ro_spread hI _ _).core hsc
  refine lv_istore (lv' := [(6, .int (o_spread σ (xs (i + 1)) (xs (i + 2))).2.1), (5, .int (nI (o_spread σ (xs (i + 1)) (xs (i + 2))).1)), (0, .ref b), (1, .ref (ad 0)), (2, .ref (rf 0)), (3, .ref oa), (4, .int (nI i))]) hx hb dL_law_1501 hl (by decide) rfl (fun ls hl => ?_)
  refine lv_aload_n hx hb dL_law_1503 rfl (lv_at hl 4 rfl) ?_
  refine c_p1 (va_runV (As := []) (rest := []) ⟨hx, hb, hml, hown, hts⟩ (c_X6_thrown l D ct (Zo Z oa) σ1 _ b1 rf) (cwV 0 hts (GG w_916 w_917 w_918 w_65 w_919) rfl rfl rfl (by decide) ⟨Nat.le_of_ble_eq_true rfl, Nat.le_of_ble_eq_true rfl⟩) ⟨(blindT fun _ _ _ _ h => h), Ob.recv (hG.2.1).1 hR3.o rfl, fun U hU hW => ⟨rfl, hG.2.1.warm hW, by rw [hU]; exact hR3⟩⟩ rfl rfl hl.1 rfl (lv_room (Nat.le_of_ble_eq_true rfl)) dL_law_1504 ⟨show _ ≤ 601024 by omega, show _ ≤ 7293034 by omega⟩) ?_
  refine lv_iload hx hb dL_law_1507 (lv_at hl 1 rfl) ?_
  refine lv_icmp_eq (tgt := 1514) hx hb dL_law_1509 (by decide) (fun _ => ?_) (fun z => absurd rfl z)
  refine lv_iload hx hb dL_law_1514 (lv_at hl 1 rfl) ?_
  have kend : ∀ ls, lv_has ls 9 [(6, .int (o_spread σ (xs (i + 1)) (xs (i + 2))).2.1), (5, .int (nI (o_spread σ (xs (i + 1)) (xs (i + 2))).1)), (0, .ref b), (1, .ref (ad 0)), (2, .ref (rf 0)), (3, .ref oa), (4, .int (nI i))] → W p l e room_1 s m args below meth c H2 locs2 (cells + 2 + 0 + 0) (slots + 12 + 0 + 0) Q (F0 m 1589 ls []) := fun ls hl => w_widen (k := cells + 8) (n := slots + 1039) (by omega) (by omega) (kk H2 locs2 hS2 ⟨σ1, ad1, _, b1, g1, hI1, had, hP2, hR3, hA2⟩ ls (lv_sub hl [2, 3, 4, 5, 6] rfl))
  refine lv_if_ne (tgt := 1531) hx hb dL_law_1516 (by decide) (fun z => ?_) (fun z => ?_)
  · refine lv_goto (tgt := 1589) hx hb dL_law_1531 (by decide) ?_
    exact kend _ hl
  · have hz0 := nI_0' (cd_spread σ _ _) z
    refine lv_aload_n hx hb dL_law_1519 rfl (lv_at hl 5 rfl) ?_
    refine lv_iconst (v := 0) hx hb dL_law_1520 (by decide) ?_
    refine k_lald (s := s) hx hb hG.2.1.1 hA2 (vp_in_nI (by decide : 0 < 1) (by decide)) dL_law_1521 ?_
    refine lv_iload hx hb dL_law_1522 (lv_at hl 0 rfl) ?_
    refine lv_i2l (v := ((o_spread σ (xs (i + 1)) (xs (i + 2))).2.1 : Int32).toInt64) hx hb dL_law_1524 rfl ?_
    refine W.lcmp hx hb dL_law_1525 ?_
    refine lv_if_eq (tgt := 1531) hx hb dL_law_1526 (by decide) (fun _ => ?_) (fun z => absurd (lg_cmp_0 (hg1 hz0)) z)
    refine lv_goto (tgt := 1589) hx hb dL_law_1531 (by decide) ?_
    exact kend _ hl
end LAW2
