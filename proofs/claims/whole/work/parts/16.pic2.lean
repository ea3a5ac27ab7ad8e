/-! THE CLASS'S PICTURE, more: one object is written as a whole; objects come; rows of calls that write one object -/
section PIC2
variable {D : va_G} {ct : Nat → ClassId} {Z : Nat → Prop} {dc : Nat} {σ σ' : Stt} {ad ad' : Nat → Nat} {H H1 : Heap}
theorem nR_eq (h : σ' 0 3 = σ 0 3) : nR σ' = nR σ := by unfold nR; rw [h]
theorem nC_eq (h : σ' 0 4 = σ 0 4) : nC σ' = nC σ := by unfold nC; rw [h]
theorem nT_eq (h : σ' 0 1 = σ 0 1) : nT σ' = nT σ := by unfold nT; rw [h]
/-- a rumour is written -/
theorem Pic.rj (h : Pic D ct Z dc σ ad H) {j : Nat} (hj : j < nR σ) (hat : Ob D (ad (100 + j)) 4 [.int (nI j), .int (σ' 1 (7 * j + 3)), .int (σ' 1 (7 * j)), .int (σ' 1 (7 * j + 1)), .int (σ' 1 (7 * j + 2)), .int (σ' 1 (7 * j + 4)), .int (σ' 1 (7 * j + 5)), .int (σ' 1 (7 * j + 6))] H1) (ho : ∀ q : Nat, q ≠ ad (100 + j) → H1[q]? = H[q]?) (he : ∀ a b, (a ≠ 1 ∨ b < 7 * j ∨ 7 * j + 7 ≤ b) → σ' a b = σ a b) : Pic D ct Z dc σ' ad H1 := by
  have hn := h.2.2.2.1
  have e : ∀ a : Nat, a ≠ 1 → σ' a = σ a := fun a z => by funext b; exact he a b (Or.inl z)
  have er := nR_eq (σ' := σ') (σ := σ) (by rw [e 0 (by decide)])
  have ec := nC_eq (σ' := σ') (σ := σ) (by rw [e 0 (by decide)])
  have eq : rdq σ' ad = rdq σ ad := by funext k; unfold rdq; rw [e 3 (by decide)]
  refine h.set (100 + j) (us_r hn hj) (by rw [cn_r (by omega)]; exact hat) ho (fun i hi => ?_) (fun i hi hne => ?_) er ec
  · unfold us at hi ⊢
    rw [er, ec, e 3 (by decide)] at hi
    exact hi
  · rcases us_case hi with q | q | q | q
    · unfold cn
      rw [er, ec, eq, e 0 (by decide), e 4 (by decide), e 5 (by decide), e 6 (by decide)]
      rcases lt10 q with rfl | rfl | rfl | rfl | rfl | rfl | rfl | rfl | rfl | rfl <;> rfl
    · obtain ⟨t, rfl⟩ : ∃ t, i = 100 + t := ⟨i - 100, by omega⟩
      rw [cn_r (by omega), cn_r (by omega)]
      rw [he 1 (7 * t) (by omega), he 1 (7 * t + 1) (by omega), he 1 (7 * t + 2) (by omega), he 1 (7 * t + 3) (by omega), he 1 (7 * t + 4) (by omega), he 1 (7 * t + 5) (by omega), he 1 (7 * t + 6) (by omega)]
    · obtain ⟨t, rfl⟩ : ∃ t, i = 200 + t := ⟨i - 200, by omega⟩
      rw [cn_c (by omega), cn_c (by omega), e 2 (by decide)]
    · obtain ⟨t, rfl⟩ : ∃ t, i = 300 + t := ⟨i - 300, by omega⟩
      rw [cn_d, cn_d, e 3 (by decide)]
/-- a carrier is written -/
theorem Pic.cj (h : Pic D ct Z dc σ ad H) {j : Nat} (hj : j < nC σ) (hat : Ob D (ad (200 + j)) 1 [.int (nI j), .int (σ' 2 (4 * j)), .int (σ' 2 (4 * j + 1)), .int (σ' 2 (4 * j + 2)), .int (σ' 2 (4 * j + 3))] H1) (ho : ∀ q : Nat, q ≠ ad (200 + j) → H1[q]? = H[q]?) (he : ∀ a b, (a ≠ 2 ∨ b < 4 * j ∨ 4 * j + 4 ≤ b) → σ' a b = σ a b) : Pic D ct Z dc σ' ad H1 := by
  have hn := h.2.2.2.2
  have e : ∀ a : Nat, a ≠ 2 → σ' a = σ a := fun a z => by funext b; exact he a b (Or.inl z)
  have er := nR_eq (σ' := σ') (σ := σ) (by rw [e 0 (by decide)])
  have ec := nC_eq (σ' := σ') (σ := σ) (by rw [e 0 (by decide)])
  have eq : rdq σ' ad = rdq σ ad := by funext k; unfold rdq; rw [e 3 (by decide)]
  refine h.set (200 + j) (us_c hn hj) (by rw [cn_c (by omega)]; exact hat) ho (fun i hi => ?_) (fun i hi hne => ?_) er ec
  · unfold us at hi ⊢
    rw [er, ec, e 3 (by decide)] at hi
    exact hi
  · rcases us_case hi with q | q | q | q
    · unfold cn
      rw [er, ec, eq, e 0 (by decide), e 4 (by decide), e 5 (by decide), e 6 (by decide)]
      rcases lt10 q with rfl | rfl | rfl | rfl | rfl | rfl | rfl | rfl | rfl | rfl <;> rfl
    · obtain ⟨t, rfl⟩ : ∃ t, i = 100 + t := ⟨i - 100, by omega⟩
      rw [cn_r (by omega), cn_r (by omega), e 1 (by decide)]
    · obtain ⟨t, rfl⟩ : ∃ t, i = 200 + t := ⟨i - 200, by omega⟩
      rw [cn_c (by omega), cn_c (by omega)]
      rw [he 2 (4 * t) (by omega), he 2 (4 * t + 1) (by omega), he 2 (4 * t + 2) (by omega), he 2 (4 * t + 3) (by omega)]
    · obtain ⟨t, rfl⟩ : ∃ t, i = 300 + t := ⟨i - 300, by omega⟩
      rw [cn_d, cn_d, e 3 (by decide)]
/-- what a class's picture may hold besides: other numbers of the search, counts of changes -/
def SC (σ σ1 : Stt) : Prop := ∀ a, a < 4 → σ1 a = σ a
theorem SC.rf : SC σ σ := fun _ _ => rfl
theorem SC.tr {σ2 : Stt} (h : SC σ σ') (h2 : SC σ' σ2) : SC σ σ2 := fun a ha => (h2 a ha).trans (h a ha)
/-- a new object of one of the two lists -/
def upA (ad : Nat → Nat) (i v : Nat) : Nat → Nat := fun j => if j = i then v else ad j
theorem upA_s (ad : Nat → Nat) (i v : Nat) : upA ad i v i = v := if_pos rfl
theorem upA_n {ad : Nat → Nat} {i j v : Nat} (h : j ≠ i) : upA ad i v j = ad j := if_neg h
end PIC2
section ROWSW
variable {p : Program} {l : Launch} {e : Env} {R : Room} {s : State} {m : MethodId} {args : Array Value} {below : List Frame} {meth : Method} {c : Code} {H : Heap} {locs : List Loc} {cells slots : Nat} {Q : State → Prop}
variable {pc : Nat} {ls : Array Slot} {rest st0 : List Value} {Z : Nat → Prop} {ar : Array Value} {H0 : Heap}
/-- ends of a method that writes one cell -/
def qW0 (r : Nat) (Rl : Heap → Prop) : Array Value → State → Outcome → State → Prop := fun _ st o t => o = .returned none ∧ Rl t.heap ∧ ∀ q : Nat, q ≠ r → t.heap[q]? = st.heap[q]?
def qW1 (r : Nat) (x : Value) (Rl : Heap → Prop) : Array Value → State → Outcome → State → Prop := fun _ st o t => o = .returned (some x) ∧ Rl t.heap ∧ ∀ q : Nat, q ≠ r → t.heap[q]? = st.heap[q]?
theorem size_of_eq {H H1 : Heap} {r : Nat} (hr : r < H1.size) (h : ∀ q : Nat, q ≠ r → H1[q]? = H[q]?) : H.size ≤ H1.size := by
  rcases Nat.lt_or_ge H1.size H.size with z | z
  · exfalso
    have h1 := h (H.size - 1) (by omega)
    rw [Array.getElem?_eq_none (by omega), Array.getElem?_eq_getElem (by omega)] at h1
    cases h1
  · exact z
theorem vaS_w {st₀ t T' : State} {L : List Loc} {r : Nat} (h0 : st₀.heap = H) (e1 : T'.heap = t.heap) (hS : va_S (nZ Z) H0 H locs) (hz : ¬ Z r) (hL : ∀ q ∈ L, q.base = r) (hs : H.size ≤ t.heap.size) (hq : ∀ q : Nat, q ≠ r → t.heap[q]? = st₀.heap[q]?) : va_S (nZ Z) H0 T'.heap (locs ++ L) := by
  refine ⟨Nat.le_trans hS.1 (by rw [e1]; exact hs), fun q h1 h2 => ?_, fun q hq' => ?_⟩
  · rw [e1, hq q (fun z => h2 (by rw [z]; exact hz)), h0]
    exact hS.2.1 q h1 h2
  · rcases List.mem_append.mp hq' with h | h
    · exact hS.2.2 q h
    · show ¬ Z q.base
      rw [hL q h]; exact hz
theorem c_w0 {r : Nat} {Rl : Heap → Prop} (hr : va_Run p l e R s m args below meth c H locs cells slots 0 0 (F0 m pc ls st0) rest (qW0 r Rl ar) (fun q => q = r)) (hS : va_S (nZ Z) H0 H locs) (hz : ¬ Z r) (hl : ∀ H1, Rl H1 → r < H1.size)
    (kk : ∀ (H1 : Heap) (locs1 : List Loc), Rl H1 → (∀ q : Nat, q ≠ r → H1[q]? = H[q]?) → va_S (nZ Z) H0 H1 locs1 → W p l e R s m args below meth c H1 locs1 cells slots Q (F0 m (pc + 3) ls rest)) : W p l e R s m args below meth c H locs cells slots Q (F0 m pc ls st0) := by
  intro T hT X
  obtain ⟨v, st₀, t, T', L, h0, X', hL, e1, e2, ⟨hv, hq, hF⟩, st⟩ := hr T hT X
  cases hv
  have hs : H.size ≤ t.heap.size := by rw [← h0]; exact size_of_eq (hl _ hq) hF
  obtain ⟨t2, a1, b1⟩ := kk T'.heap (locs ++ L) (by rw [e1]; exact hq) (fun q h => by rw [e1, hF q h, h0]) (vaS_w h0 e1 hS hz hL hs hF) T' rfl X'
  exact ⟨t2, st t2 a1, b1⟩
theorem c_w1 {r : Nat} {x : Value} {Rl : Heap → Prop} (hr : va_Run p l e R s m args below meth c H locs cells slots 0 0 (F0 m pc ls st0) rest (qW1 r x Rl ar) (fun q => q = r)) (hS : va_S (nZ Z) H0 H locs) (hz : ¬ Z r) (hl : ∀ H1, Rl H1 → r < H1.size)
    (kk : ∀ (H1 : Heap) (locs1 : List Loc), Rl H1 → (∀ q : Nat, q ≠ r → H1[q]? = H[q]?) → va_S (nZ Z) H0 H1 locs1 → W p l e R s m args below meth c H1 locs1 cells slots Q (F0 m (pc + 3) ls (x :: rest))) : W p l e R s m args below meth c H locs cells slots Q (F0 m pc ls st0) := by
  intro T hT X
  obtain ⟨v, st₀, t, T', L, h0, X', hL, e1, e2, ⟨hv, hq, hF⟩, st⟩ := hr T hT X
  cases hv
  have hs : H.size ≤ t.heap.size := by rw [← h0]; exact size_of_eq (hl _ hq) hF
  obtain ⟨t2, a1, b1⟩ := kk T'.heap (locs ++ L) (by rw [e1]; exact hq) (fun q h => by rw [e1, hF q h, h0]) (vaS_w h0 e1 hS hz hL hs hF) T' rfl X'
  exact ⟨t2, st t2 a1, b1⟩
end ROWSW
