/-! LISTS: a reference is stored in an array of references; an array of references is copied; a list grows by one of its objects -/
section ROWS3
variable {p : Program} {l : Launch} {e : Env} {R : Room} {s : State} {m : MethodId} {args : Array Value} {below : List Frame} {meth : Method} {c : Code} {H : Heap} {locs : List Loc} {cells slots : Nat} {Q : State → Prop}
variable {cc : ByteArray} {pc : Nat} {ls : Array Slot} {rest : List Value} {D : va_G} {ct : Nat → ClassId} {a : Nat} {Z : Nat → Prop} {H0 : Heap}
theorem k_aast (t0 : Nat) (hexec : p.tables.exec = Jvm.exec) (hb : c.code = cc) (hK : va_K D vwCl (tys5 ct) s) (hS : va_S (nZ Z) H0 H locs) (hz : ¬ Z a) {E C : String} {cA : ClassId} {n v : Nat} {f : Nat → Option Nat} (hA : Ar cA a (rQ n f) H) (ht : (tys5 ct)[t0]? = some (cA, .object E)) (hr : ∃ cellV : Cell, H[v]? = some cellV ∧ cellV.vm.isStatics = false ∧ s.vm.findClass C = some cellV.cls) (hasg : ∀ comp c0 : ClassId, s.vm.findClass E = some comp → s.vm.findClass C = some c0 → s.vm.assignable c0 comp = true) {i : Int32} (hin : vp_in i n) (hdg : decode cc pc = .ok (.aastore, 1))
    (kk : ∀ (H1 : Heap) (locs1 : List Loc), Ar cA a (rQ n (va_up f i.toNatClampNeg (some v))) H1 → H1.size = H.size → (∀ q : Nat, q ≠ a → H1[q]? = H[q]?) → va_S (nZ Z) H0 H1 locs1 → W p l e R s m args below meth c H1 locs1 cells slots Q (F0 m (pc + 1) ls rest)) : W p l e R s m args below meth c H locs cells slots Q (F0 m pc ls (.ref v :: .int i :: .ref a :: rest)) := by
  have hlt : i.toNatClampNeg < n := Nat.not_le.mp fun q => hin (Or.inr q)
  have h0 : ¬ i < 0 := fun q => hin (Or.inl q)
  obtain ⟨cellV, g1, g3, g2⟩ := hr
  obtain ⟨kA, comp, k1, k2, k3, -⟩ := (hK.2 t0 _ ht).2
  obtain ⟨kE, hkE, -⟩ := Vm.findClass_spec k3
  obtain ⟨kC, hkC, -⟩ := Vm.findClass_spec g2
  refine W.aast hexec hb hA (fun q h => by cases h) (fun h => by cases h) k1 k2 rfl hkE ⟨h0, by show _ < (arrV _ _ _).slots.size; rw [arrV_size]; exact hlt⟩ g1 (fun q h => by rw [h] at g3; cases g3) hkC (hasg _ _ k3 g2) rfl rfl hdg fun H1 e z oq => ?_
  refine kk H1 _ ?_ z oq (hS.put z oq hz)
  show H1[a]? = some (vp_cell _ _)
  rw [e, vp_cell_q, vp_cell_q, arrV_store]
  congr 2
  funext q
  by_cases hq : q = i.toNatClampNeg
  · subst hq
    simp [updV, va_up, va_rf]
  · simp [updV, va_up, hq]
theorem k_copyq (hexec : p.tables.exec = Jvm.exec) (hb : c.code = cc) (hml : c.maxLocals = ls.size) {own : String} {index : Nat} (hown : s.vm.findClass own = some m.cls) (hlink : (Cond.methodLink own index arraycopyName).before args s = true) (hnat : (Cond.native arraycopyName).before args s = true) (hstat : (Cond.static arraycopyName).before args s = true) (hini : (Cond.initialized "java/lang/System").before args s = true)
    (hK : va_K D vwCl (tys5 ct) s) (hS : va_S (nZ Z) H0 H []) {a0 n0 n1 ci : Nat} {q0 : vw_C} {f g : Nat → Option Nat} (hci : vwCl[ci]? = some q0) (hca : va_Nw (.castable q0.1 "java/lang/Object") s) (hA0 : Ar (ct 3) a0 (rQ n0 f) H) (hA1 : Ar (ct 3) a (rQ n1 g) H) (hne : a0 ≠ a) (hz0 : ¬ Z a0) (hz : ¬ Z a) (hel : ∀ j y, f j = some y → ∃ vs, Ob D y ci vs H)
    {sp dp n : Int32} (h1 : ¬ sp < 0) (h2 : ¬ dp < 0) (h3 : ¬ n < 0) (h4 : sp.toNatClampNeg + n.toNatClampNeg ≤ n0) (h5 : dp.toNatClampNeg + n.toNatClampNeg ≤ n1)
    (hframes : 1 ≤ R.frames) (hlocals : (rest.map fun v => v.category).sum + (nativeFrameWords "java/lang/System" "arraycopy" 5 + 11) ≤ R.locals) (hdg : decode cc pc = .ok (.invokestatic index, 3))
    (kk : ∀ (H1 : Heap) (locs1 : List Loc), Ar (ct 3) a (rQ n1 (va_cpy f g sp.toNatClampNeg dp.toNatClampNeg n.toNatClampNeg)) H1 → H.size ≤ H1.size → (∀ q : Nat, q < H.size → q ≠ a → H1[q]? = H[q]?) → va_S (nZ Z) H0 H1 locs1 → W p l e R s m args below meth c H1 locs1 cells slots Q (F0 m (pc + 3) ls rest)) : W p l e R s m args below meth c H [] cells slots Q (F0 m pc ls (.int n :: .int dp :: .ref a :: .int sp :: .ref a0 :: rest)) := by
  refine va_copyq (D := D) (A := fun q => q = a0 ∨ q = a) (ws := [(a0, .inl (ct 3, rQ n0 f)), (a, .inl (ct 3, rQ n1 g))]) (H0 := H) (E0 := "java/lang/Object") (E1 := "java/lang/Object") (C := q0.1) hexec hb hml hown hlink hnat hstat hini hK (fun j q h => ?_) ⟨fun i j x y hx hy hxy => ?_, fun j q h => ?_⟩ va_S.rf 0 1 3 3 rfl rfl rfl rfl h1 h2 h3 h4 h5 (fun i hi y hy => ?_) (vb_asgC hca) hframes hlocals hdg (fun H1 locs1 hP1 hD1 hS1 => ?_)
  · rcases j with _ | _ | j
    · cases h; exact hA0
    · cases h; exact hA1
    · cases h
  · rcases i with _ | _ | i <;> rcases j with _ | _ | j <;> first | rfl | (cases hx; done) | (cases hy; done) | (cases hx; cases hy; exact absurd hxy hne) | (cases hx; cases hy; exact absurd hxy.symm hne)
  · rcases j with _ | _ | j
    · cases h; exact Or.inl rfl
    · cases h; exact Or.inr rfl
    · cases h
  · obtain ⟨vs, hvs⟩ := hel _ y hy
    exact Ob.recv hK hvs hci
  · have e0 : Ar (ct 3) a0 (rQ n0 f) H1 := hP1 0 _ rfl
    have e1 : Ar (ct 3) a (rQ n1 (va_cpy f g sp.toNatClampNeg dp.toNatClampNeg n.toNatClampNeg)) H1 := hP1 1 _ rfl
    have ho : ∀ q : Nat, q < H.size → q ≠ a → H1[q]? = H[q]? := fun q h hq => by
      by_cases z : q = a0
      · subst z; exact e0.trans hA0.symm
      · exact hS1.2.1 q h (fun y => y.elim z hq)
    refine kk H1 locs1 e1 hS1.1 ho ⟨Nat.le_trans hS.1 hS1.1, fun q h1 h2 => ?_, fun z hz' => ?_⟩
    · exact (ho q (Nat.lt_of_lt_of_le h1 hS.1) (fun y => h2 (by rw [y]; exact hz))).trans (hS.2.1 q h1 h2)
    · show ¬ Z z.base
      rcases hS1.2.2 z hz' with h | h <;> rw [h] <;> assumption
/-- how a list's room grows -/
def gcap (cap : Nat) : Nat := if cap = 0 then 10 else cap + cap / 2
/-- a list (a, its array ed of cap places) has got one element more -/
def addRel (D : va_G) (ct : Nat → ClassId) (Hh : Heap) (a : Nat) (mv : Int32) (n : Nat) (f : Nat → Option Nat) (v cap ed : Nat) (H' : Heap) : Prop := ∃ ed' cap' : Nat, Ob D a 0 [.int mv, .ref ed', .int (nI (n + 1))] H' ∧ Ar (ct 3) ed' (rQ cap' (va_up f n (some v))) H' ∧ ((ed' = ed ∧ cap' = cap ∧ n < cap) ∨ (ed' = Hh.size ∧ n = cap ∧ cap' = gcap cap)) ∧ Hh.size ≤ H'.size ∧ ∀ q : Nat, q < Hh.size → q ≠ a → (q ≠ ed ∨ n = cap) → H'[q]? = Hh[q]?
end ROWS3
section ADDS
variable {D : va_G} {ct : Nat → ClassId} {Z : Nat → Prop} {dc : Nat} {σ σ' : Stt} {ad : Nat → Nat} {H H1 : Heap}
/-- a new object of the list at place 6 -/
theorem Pic.addR (h : Pic D ct Z dc σ ad H) {y ed cap : Nat} (hn : nR σ < 60) (hy : ∀ i, us σ i → ad i ≠ y) (hyz : ¬ Z y) (hed : (ed = ad 8 ∧ 0 < nR σ) ∨ ∀ i, us σ i → ad i ≠ ed) (hye : ed ≠ y) (hez : ¬ Z ed) (hcap : nR σ + 1 ≤ cap ∧ cap ≤ 1000 ∧ 10 ≤ cap)
    (oy : Ob D y 4 [.int (nI (nR σ)), .int (σ' 1 (7 * nR σ + 3)), .int (σ' 1 (7 * nR σ)), .int (σ' 1 (7 * nR σ + 1)), .int (σ' 1 (7 * nR σ + 2)), .int (σ' 1 (7 * nR σ + 4)), .int (σ' 1 (7 * nR σ + 5)), .int (σ' 1 (7 * nR σ + 6))] H1) (o6 : Ob D (ad 6) 0 [.int (σ' 6 0), .ref ed, .int (nI (nR σ + 1))] H1) (o8 : Ar (ct 3) ed (rQ cap (va_up (lq ad 100 (nR σ)) (nR σ) (some y))) H1) (hk : ∀ i, us σ i → i ≠ 6 → i ≠ 8 → H1[ad i]? = H[ad i]?)
    (h3 : σ' 0 3 = nI (nR σ + 1)) (h0 : ∀ b, b ≠ 3 → σ' 0 b = σ 0 b) (h1 : ∀ b, b < 7 * nR σ → σ' 1 b = σ 1 b) (ha : ∀ a, 0 < a → a ≠ 1 → a ≠ 6 → σ' a = σ a) (h6 : σ' 6 1 = σ 6 1) : Pic D ct Z dc σ' (upA (upA (upA ad (100 + nR σ) y) 8 ed) 20 cap) H1 := by
  have hR := h.2.2.2.1
  have hC := h.2.2.2.2
  have eN : nR σ' = nR σ + 1 := by unfold nR; rw [h3, nI_clamp (by unfold nR at hn; omega)]; rfl
  have eO : nC σ' = nC σ := nC_eq (h0 _ (by decide))
  generalize hA : upA (upA (upA ad (100 + nR σ) y) 8 ed) 20 cap = ad'
  have e3 : σ' 3 = σ 3 := ha 3 (by decide) (by decide) (by decide)
  have e4 : σ' 4 = σ 4 := ha 4 (by decide) (by decide) (by decide)
  have e5 : σ' 5 = σ 5 := ha 5 (by decide) (by decide) (by decide)
  have eX : σ' 2 = σ 2 := ha 2 (by decide) (by decide) (by decide)
  have aY : ad' (100 + nR σ) = y := by rw [← hA, upA_n (by omega), upA_n (by omega), upA_s]
  have aE : ad' 8 = ed := by rw [← hA, upA_n (by omega), upA_s]
  have aC : ad' 20 = cap := by rw [← hA, upA_s]
  have aO : ∀ i, i ≠ 100 + nR σ → i ≠ 8 → i ≠ 20 → ad' i = ad i := fun i q1 q2 q3 => by rw [← hA, upA_n q3, upA_n q2, upA_n q1]
  have aU : ∀ i, us σ i → i ≠ 8 → ad' i = ad i := fun i hi hs => aO i (by rcases hi with q | q | q | q | q | q <;> omega) hs (by rcases us_case hi with q | q | q | q <;> omega)
  have hu : ∀ i, us σ' i → (us σ i ∧ i ≠ 8) ∨ i = 8 ∨ i = 100 + nR σ := fun i hi => by
    unfold us at hi ⊢
    rw [e3, eN, eO] at hi
    by_cases q1 : i = 8
    · exact Or.inr (Or.inl q1)
    · by_cases q2 : i = 100 + nR σ
      · exact Or.inr (Or.inr q2)
      · refine Or.inl ⟨?_, q1⟩
        rcases hi with q | q | q | q | q | q
        · exact Or.inl q
        · exact Or.inr (Or.inl (by omega))
        · exact Or.inr (Or.inr (Or.inl (by omega)))
        · exact Or.inr (Or.inr (Or.inr (Or.inl (by omega))))
        · exact Or.inr (Or.inr (Or.inr (Or.inr (Or.inl (by omega)))))
        · exact Or.inr (Or.inr (Or.inr (Or.inr (Or.inr q))))
  have eq : rdq σ' ad' = rdq σ ad := by
    funext k
    unfold rdq
    rw [e3, aO _ (by omega) (by omega) (by omega)]
  have eL : lq ad' 200 (nC σ) = lq ad 200 (nC σ) := by
    funext k
    unfold lq
    by_cases q : k < nC σ
    · rw [if_pos q, if_pos q, aO _ (by omega) (by omega) (by omega)]
    · rw [if_neg q, if_neg q]
  have eQ : lq ad' 100 (nR σ + 1) = va_up (lq ad 100 (nR σ)) (nR σ) (some y) := by
    funext k
    unfold lq va_up
    by_cases q : k = nR σ
    · rw [if_pos q, if_pos (by omega), q, aY]
    · rw [if_neg q]
      show (if k < nR σ + 1 then some (ad' (100 + k)) else none) = if k < nR σ then some (ad (100 + k)) else none
      by_cases z : k < nR σ
      · rw [if_pos (by omega), if_pos z, aO _ (by omega) (by omega) (by omega)]
      · rw [if_neg (by omega), if_neg z]
  have keep : ∀ i, us σ i → i ≠ 6 → i ≠ 8 → cn ct σ' ad' i = cn ct σ ad i → va_at D vwCl (ad' i, cn ct σ' ad' i) H1 := fun i hi q1 q2 e => by
    rw [e, aU i hi q2]
    exact va_at.kept (h.1 i hi).1 (hk i hi q1 q2)
  refine ⟨fun i hi => ?_, fun i j hi hj hij => ?_, ?_, by omega, by omega⟩
  · rcases hu i hi with ⟨hi', hs⟩ | rfl | rfl
    · refine ⟨?_, by rw [aU i hi' hs]; exact (h.1 i hi').2⟩
      rcases us_case hi' with q | q | q | q
      · rcases lt10 q with rfl | rfl | rfl | rfl | rfl | rfl | rfl | rfl | rfl | rfl
        all_goals first
          | exact absurd rfl hs
          | exact (by
              show Ob D (ad' 6) 0 [.int (σ' 6 0), .ref (ad' 8), .int (nI (nR σ'))] H1
              rw [eN, aE, aO 6 (by omega) (by omega) (by omega)]
              exact o6)
          | (refine keep _ hi' (by decide) (by decide) ?_
             unfold cn
             rw [eN, eO, eq, eL, e4, e5, h6, h0 0 (by decide), h0 1 (by decide), h0 2 (by decide), h0 5 (by decide), h0 6 (by decide), h0 7 (by decide), h0 8 (by decide)]
             rw [aO 1 (by omega) (by omega) (by omega), aO 2 (by omega) (by omega) (by omega), aO 3 (by omega) (by omega) (by omega), aO 4 (by omega) (by omega) (by omega), aO 5 (by omega) (by omega) (by omega), aO 6 (by omega) (by omega) (by omega), aO 7 (by omega) (by omega) (by omega), aO 9 (by omega) (by omega) (by omega), aO 21 (by omega) (by omega) (by omega)]
             rfl)
      · obtain ⟨t, rfl⟩ : ∃ t, i = 100 + t := ⟨i - 100, by omega⟩
        refine keep _ hi' (by omega) (by omega) ?_
        rw [cn_r (by omega), cn_r (by omega)]
        rw [h1 (7 * t) (by unfold us at hi'; omega), h1 (7 * t + 1) (by unfold us at hi'; omega), h1 (7 * t + 2) (by unfold us at hi'; omega), h1 (7 * t + 3) (by unfold us at hi'; omega), h1 (7 * t + 4) (by unfold us at hi'; omega), h1 (7 * t + 5) (by unfold us at hi'; omega), h1 (7 * t + 6) (by unfold us at hi'; omega)]
      · obtain ⟨t, rfl⟩ : ∃ t, i = 200 + t := ⟨i - 200, by omega⟩
        refine keep _ hi' (by omega) (by omega) ?_
        rw [cn_c (by omega), cn_c (by omega)]
        rw [eX]
      · obtain ⟨t, rfl⟩ : ∃ t, i = 300 + t := ⟨i - 300, by omega⟩
        refine keep _ hi' (by omega) (by omega) ?_
        rw [cn_d, cn_d, e3]
    · refine ⟨?_, by rw [aE]; exact hez⟩
      show Ar (ct 3) (ad' 8) (rQ (ad' 20) (lq ad' 100 (nR σ'))) H1
      rw [aE, aC, eN, eQ]
      exact o8
    · refine ⟨?_, by rw [aY]; exact hyz⟩
      rw [cn_r (by omega), aY]
      exact oy
  · have hE : ∀ i, us σ i → i ≠ 8 → ad i ≠ ed := fun i hi hs e => by
      rcases hed with ⟨q, q0⟩ | q
      · exact hs (h.2.1 i 8 hi (by unfold us; omega) (e.trans q))
      · exact q i hi e
    rcases hu i hi with ⟨hi', hs⟩ | rfl | rfl <;> rcases hu j hj with ⟨hj', hs2⟩ | rfl | rfl
    · rw [aU i hi' hs, aU j hj' hs2] at hij
      exact h.2.1 i j hi' hj' hij
    · rw [aU i hi' hs, aE] at hij
      exact absurd hij (hE i hi' hs)
    · rw [aU i hi' hs, aY] at hij
      exact absurd hij (hy i hi')
    · rw [aU j hj' hs2, aE] at hij
      exact absurd hij.symm (hE j hj' hs2)
    · rfl
    · rw [aE, aY] at hij
      exact absurd hij hye
    · rw [aU j hj' hs2, aY] at hij
      exact absurd hij.symm (hy j hj')
    · rw [aE, aY] at hij
      exact absurd hij.symm hye
    · rfl
  · have hcs := h.2.2.1
    unfold Caps at hcs ⊢
    rw [eN, eO]
    rw [aC, aE, aO 21 (by omega) (by omega) (by omega), aO 9 (by omega) (by omega) (by omega)]
    exact ⟨⟨hcap.1, hcap.2.1, fun _ => hcap.2.2, fun z => absurd z (by omega)⟩, hcs.2⟩
/-- a new object of the list at place 7 -/
theorem Pic.addC (h : Pic D ct Z dc σ ad H) {y ed cap : Nat} (hn : nC σ < 8) (hy : ∀ i, us σ i → ad i ≠ y) (hyz : ¬ Z y) (hed : (ed = ad 9 ∧ 0 < nC σ) ∨ ∀ i, us σ i → ad i ≠ ed) (hye : ed ≠ y) (hez : ¬ Z ed) (hcap : nC σ + 1 ≤ cap ∧ cap ≤ 1000 ∧ 10 ≤ cap)
    (oy : Ob D y 1 [.int (nI (nC σ)), .int (σ' 2 (4 * nC σ)), .int (σ' 2 (4 * nC σ + 1)), .int (σ' 2 (4 * nC σ + 2)), .int (σ' 2 (4 * nC σ + 3))] H1) (o6 : Ob D (ad 7) 0 [.int (σ' 6 1), .ref ed, .int (nI (nC σ + 1))] H1) (o8 : Ar (ct 3) ed (rQ cap (va_up (lq ad 200 (nC σ)) (nC σ) (some y))) H1) (hk : ∀ i, us σ i → i ≠ 7 → i ≠ 9 → H1[ad i]? = H[ad i]?)
    (h3 : σ' 0 4 = nI (nC σ + 1)) (h0 : ∀ b, b ≠ 4 → σ' 0 b = σ 0 b) (h1 : ∀ b, b < 4 * nC σ → σ' 2 b = σ 2 b) (ha : ∀ a, 0 < a → a ≠ 2 → a ≠ 6 → σ' a = σ a) (h6 : σ' 6 0 = σ 6 0) : Pic D ct Z dc σ' (upA (upA (upA ad (200 + nC σ) y) 9 ed) 21 cap) H1 := by
  have hR := h.2.2.2.1
  have hC := h.2.2.2.2
  have eN : nC σ' = nC σ + 1 := by unfold nC; rw [h3, nI_clamp (by unfold nC at hn; omega)]; rfl
  have eO : nR σ' = nR σ := nR_eq (h0 _ (by decide))
  generalize hA : upA (upA (upA ad (200 + nC σ) y) 9 ed) 21 cap = ad'
  have e3 : σ' 3 = σ 3 := ha 3 (by decide) (by decide) (by decide)
  have e4 : σ' 4 = σ 4 := ha 4 (by decide) (by decide) (by decide)
  have e5 : σ' 5 = σ 5 := ha 5 (by decide) (by decide) (by decide)
  have eX : σ' 1 = σ 1 := ha 1 (by decide) (by decide) (by decide)
  have aY : ad' (200 + nC σ) = y := by rw [← hA, upA_n (by omega), upA_n (by omega), upA_s]
  have aE : ad' 9 = ed := by rw [← hA, upA_n (by omega), upA_s]
  have aC : ad' 21 = cap := by rw [← hA, upA_s]
  have aO : ∀ i, i ≠ 200 + nC σ → i ≠ 9 → i ≠ 21 → ad' i = ad i := fun i q1 q2 q3 => by rw [← hA, upA_n q3, upA_n q2, upA_n q1]
  have aU : ∀ i, us σ i → i ≠ 9 → ad' i = ad i := fun i hi hs => aO i (by rcases hi with q | q | q | q | q | q <;> omega) hs (by rcases us_case hi with q | q | q | q <;> omega)
  have hu : ∀ i, us σ' i → (us σ i ∧ i ≠ 9) ∨ i = 9 ∨ i = 200 + nC σ := fun i hi => by
    unfold us at hi ⊢
    rw [e3, eN, eO] at hi
    by_cases q1 : i = 9
    · exact Or.inr (Or.inl q1)
    · by_cases q2 : i = 200 + nC σ
      · exact Or.inr (Or.inr q2)
      · refine Or.inl ⟨?_, q1⟩
        rcases hi with q | q | q | q | q | q
        · exact Or.inl q
        · exact Or.inr (Or.inl (by omega))
        · exact Or.inr (Or.inr (Or.inl (by omega)))
        · exact Or.inr (Or.inr (Or.inr (Or.inl (by omega))))
        · exact Or.inr (Or.inr (Or.inr (Or.inr (Or.inl (by omega)))))
        · exact Or.inr (Or.inr (Or.inr (Or.inr (Or.inr q))))
  have eq : rdq σ' ad' = rdq σ ad := by
    funext k
    unfold rdq
    rw [e3, aO _ (by omega) (by omega) (by omega)]
  have eL : lq ad' 100 (nR σ) = lq ad 100 (nR σ) := by
    funext k
    unfold lq
    by_cases q : k < nR σ
    · rw [if_pos q, if_pos q, aO _ (by omega) (by omega) (by omega)]
    · rw [if_neg q, if_neg q]
  have eQ : lq ad' 200 (nC σ + 1) = va_up (lq ad 200 (nC σ)) (nC σ) (some y) := by
    funext k
    unfold lq va_up
    by_cases q : k = nC σ
    · rw [if_pos q, if_pos (by omega), q, aY]
    · rw [if_neg q]
      show (if k < nC σ + 1 then some (ad' (200 + k)) else none) = if k < nC σ then some (ad (200 + k)) else none
      by_cases z : k < nC σ
      · rw [if_pos (by omega), if_pos z, aO _ (by omega) (by omega) (by omega)]
      · rw [if_neg (by omega), if_neg z]
  have keep : ∀ i, us σ i → i ≠ 7 → i ≠ 9 → cn ct σ' ad' i = cn ct σ ad i → va_at D vwCl (ad' i, cn ct σ' ad' i) H1 := fun i hi q1 q2 e => by
    rw [e, aU i hi q2]
    exact va_at.kept (h.1 i hi).1 (hk i hi q1 q2)
  refine ⟨fun i hi => ?_, fun i j hi hj hij => ?_, ?_, by omega, by omega⟩
  · rcases hu i hi with ⟨hi', hs⟩ | rfl | rfl
    · refine ⟨?_, by rw [aU i hi' hs]; exact (h.1 i hi').2⟩
      rcases us_case hi' with q | q | q | q
      · rcases lt10 q with rfl | rfl | rfl | rfl | rfl | rfl | rfl | rfl | rfl | rfl
        all_goals first
          | exact absurd rfl hs
          | exact (by
              show Ob D (ad' 7) 0 [.int (σ' 6 1), .ref (ad' 9), .int (nI (nC σ'))] H1
              rw [eN, aE, aO 7 (by omega) (by omega) (by omega)]
              exact o6)
          | (refine keep _ hi' (by decide) (by decide) ?_
             unfold cn
             rw [eN, eO, eq, eL, e4, e5, h6, h0 0 (by decide), h0 1 (by decide), h0 2 (by decide), h0 5 (by decide), h0 6 (by decide), h0 7 (by decide), h0 8 (by decide)]
             rw [aO 1 (by omega) (by omega) (by omega), aO 2 (by omega) (by omega) (by omega), aO 3 (by omega) (by omega) (by omega), aO 4 (by omega) (by omega) (by omega), aO 5 (by omega) (by omega) (by omega), aO 6 (by omega) (by omega) (by omega), aO 7 (by omega) (by omega) (by omega), aO 8 (by omega) (by omega) (by omega), aO 20 (by omega) (by omega) (by omega)]
             rfl)
      · obtain ⟨t, rfl⟩ : ∃ t, i = 100 + t := ⟨i - 100, by omega⟩
        refine keep _ hi' (by omega) (by omega) ?_
        rw [cn_r (by omega), cn_r (by omega)]
        rw [eX]
      · obtain ⟨t, rfl⟩ : ∃ t, i = 200 + t := ⟨i - 200, by omega⟩
        refine keep _ hi' (by omega) (by omega) ?_
        rw [cn_c (by omega), cn_c (by omega)]
        rw [h1 (4 * t) (by unfold us at hi'; omega), h1 (4 * t + 1) (by unfold us at hi'; omega), h1 (4 * t + 2) (by unfold us at hi'; omega), h1 (4 * t + 3) (by unfold us at hi'; omega)]
      · obtain ⟨t, rfl⟩ : ∃ t, i = 300 + t := ⟨i - 300, by omega⟩
        refine keep _ hi' (by omega) (by omega) ?_
        rw [cn_d, cn_d, e3]
    · refine ⟨?_, by rw [aE]; exact hez⟩
      show Ar (ct 3) (ad' 9) (rQ (ad' 21) (lq ad' 200 (nC σ'))) H1
      rw [aE, aC, eN, eQ]
      exact o8
    · refine ⟨?_, by rw [aY]; exact hyz⟩
      rw [cn_c (by omega), aY]
      exact oy
  · have hE : ∀ i, us σ i → i ≠ 9 → ad i ≠ ed := fun i hi hs e => by
      rcases hed with ⟨q, q0⟩ | q
      · exact hs (h.2.1 i 9 hi (by unfold us; omega) (e.trans q))
      · exact q i hi e
    rcases hu i hi with ⟨hi', hs⟩ | rfl | rfl <;> rcases hu j hj with ⟨hj', hs2⟩ | rfl | rfl
    · rw [aU i hi' hs, aU j hj' hs2] at hij
      exact h.2.1 i j hi' hj' hij
    · rw [aU i hi' hs, aE] at hij
      exact absurd hij (hE i hi' hs)
    · rw [aU i hi' hs, aY] at hij
      exact absurd hij (hy i hi')
    · rw [aU j hj' hs2, aE] at hij
      exact absurd hij.symm (hE j hj' hs2)
    · rfl
    · rw [aE, aY] at hij
      exact absurd hij hye
    · rw [aU j hj' hs2, aY] at hij
      exact absurd hij.symm (hy j hj')
    · rw [aE, aY] at hij
      exact absurd hij.symm hye
    · rfl
  · have hcs := h.2.2.1
    unfold Caps at hcs ⊢
    rw [eN, eO]
    rw [aC, aE, aO 20 (by omega) (by omega) (by omega), aO 8 (by omega) (by omega) (by omega)]
    exact ⟨hcs.1, ⟨hcap.1, hcap.2.1, fun _ => hcap.2.2, fun z => absurd z (by omega)⟩⟩
end ADDS
