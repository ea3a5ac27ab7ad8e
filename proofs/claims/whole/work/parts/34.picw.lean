section PICW
variable {D : va_G} {ct : Nat → ClassId} {Z : Nat → Prop} {dc : Nat} {σ σ' : Stt} {ad : Nat → Nat} {H H1 : Heap}

theorem Pic.r2 (h : Pic D ct Z dc σ ad H) {j : Nat} (hj : j < nR σ) (v : Int32) (hat : Ob D (ad (100 + j)) 4 [.int (nI j), .int (σ 1 (7 * j + 3)), .int (σ 1 (7 * j)), .int (σ 1 (7 * j + 1)), .int v, .int (σ 1 (7 * j + 4)), .int (σ 1 (7 * j + 5)), .int (σ 1 (7 * j + 6))] H1) (ho : ∀ q : Nat, q ≠ ad (100 + j) → H1[q]? = H[q]?) : Pic D ct Z dc (su σ 1 (7 * j + 2) v) ad H1 := by
  refine h.sr hj (by decide) v ?_ ho
  rw [@su_j σ 1 (7 * j + 2) 1 (7 * j + 3) v (by omega)]
  rw [@su_j σ 1 (7 * j + 2) 1 (7 * j) v (by omega)]
  rw [@su_j σ 1 (7 * j + 2) 1 (7 * j + 1) v (by omega)]
  rw [su_s]
  rw [@su_j σ 1 (7 * j + 2) 1 (7 * j + 4) v (by omega)]
  rw [@su_j σ 1 (7 * j + 2) 1 (7 * j + 5) v (by omega)]
  rw [@su_j σ 1 (7 * j + 2) 1 (7 * j + 6) v (by omega)]
  exact hat

theorem Pic.r6 (h : Pic D ct Z dc σ ad H) {j : Nat} (hj : j < nR σ) (v : Int32) (hat : Ob D (ad (100 + j)) 4 [.int (nI j), .int (σ 1 (7 * j + 3)), .int (σ 1 (7 * j)), .int (σ 1 (7 * j + 1)), .int (σ 1 (7 * j + 2)), .int (σ 1 (7 * j + 4)), .int (σ 1 (7 * j + 5)), .int v] H1) (ho : ∀ q : Nat, q ≠ ad (100 + j) → H1[q]? = H[q]?) : Pic D ct Z dc (su σ 1 (7 * j + 6) v) ad H1 := by
  refine h.sr hj (by decide) v ?_ ho
  rw [@su_j σ 1 (7 * j + 6) 1 (7 * j + 3) v (by omega)]
  rw [@su_j σ 1 (7 * j + 6) 1 (7 * j) v (by omega)]
  rw [@su_j σ 1 (7 * j + 6) 1 (7 * j + 1) v (by omega)]
  rw [@su_j σ 1 (7 * j + 6) 1 (7 * j + 2) v (by omega)]
  rw [@su_j σ 1 (7 * j + 6) 1 (7 * j + 4) v (by omega)]
  rw [@su_j σ 1 (7 * j + 6) 1 (7 * j + 5) v (by omega)]
  rw [su_s]
  exact hat

theorem Pic.layd (h : Pic D ct Z dc σ ad H) {j : Nat} (hj : j < nR σ) (t b : Int32) (hat : Ob D (ad (100 + j)) 4 [.int (nI j), .int (σ 1 (7 * j + 3)), .int (σ 1 (7 * j)), .int (σ 1 (7 * j + 1)), .int (σ 1 (7 * j + 2)), .int t, .int b, .int 0] H1) (ho : ∀ q : Nat, q ≠ ad (100 + j) → H1[q]? = H[q]?) : Pic D ct Z dc (lay σ j t b) ad H1 := by
  have e : ∀ x, x < 4 → lay σ j t b 1 (7 * j + x) = σ 1 (7 * j + x) := fun x hx => by
    unfold lay
    rw [su_j (by omega), su_j (by omega), su_j (by omega)]
  have e0 := e 0 (by decide)
  rw [Nat.add_zero] at e0
  have e4 : lay σ j t b 1 (7 * j + 4) = t := by
    unfold lay
    rw [su_j (by omega), su_j (by omega), su_s]
  have e5 : lay σ j t b 1 (7 * j + 5) = b := by
    unfold lay
    rw [su_j (by omega), su_s]
  have e6 : lay σ j t b 1 (7 * j + 6) = 0 := by
    unfold lay
    rw [su_s]
  refine h.rj hj (by rw [e 3 (by decide), e0, e 1 (by decide), e 2 (by decide), e4, e5, e6]; exact hat) ho (fun x y hxy => ?_)
  unfold lay
  have k : ∀ q, q < 7 → ∀ τ : Stt, ∀ w : Int32, su τ 1 (7 * j + q) w x y = τ x y := fun q hq τ w => by
    unfold su
    rw [if_neg (fun z => by omega)]
  rw [k 6 (by decide), k 5 (by decide), k 4 (by decide)]

theorem Pic.cpay (h : Pic D ct Z dc σ ad H) {j : Nat} (hj : j < nC σ) (p q : Int32) (hat : Ob D (ad (200 + j)) 1 [.int (nI j), .int (σ 2 (4 * j)), .int (σ 2 (4 * j + 1)), .int p, .int q] H1) (ho : ∀ q : Nat, q ≠ ad (200 + j) → H1[q]? = H[q]?) : Pic D ct Z dc (su (su σ 2 (4 * j + 2) p) 2 (4 * j + 3) q) ad H1 := by
  have e0 : (su (su σ 2 (4 * j + 2) p) 2 (4 * j + 3) q) 2 (4 * j) = σ 2 (4 * j) := by simp [su]
  have e1 : (su (su σ 2 (4 * j + 2) p) 2 (4 * j + 3) q) 2 (4 * j + 1) = σ 2 (4 * j + 1) := by simp [su]
  have e2 : (su (su σ 2 (4 * j + 2) p) 2 (4 * j + 3) q) 2 (4 * j + 2) = p := by simp [su]
  have e3 : (su (su σ 2 (4 * j + 2) p) 2 (4 * j + 3) q) 2 (4 * j + 3) = q := by simp [su]
  refine h.cj hj (by rw [e0, e1, e2, e3]; exact hat) ho (fun x y hxy => ?_)
  have k : ∀ q, q < 4 → ∀ τ : Stt, ∀ w : Int32, su τ 2 (4 * j + q) w x y = τ x y := fun q hq τ w => by
    unfold su
    rw [if_neg (fun z => by omega)]
  rw [k 3 (by decide)]
  rw [k 2 (by decide)]

theorem Pic.cset (h : Pic D ct Z dc σ ad H) {j : Nat} (hj : j < nC σ) (p q : Int32) (hat : Ob D (ad (200 + j)) 1 [.int (nI j), .int p, .int q, .int (σ 2 (4 * j + 2)), .int (σ 2 (4 * j + 3))] H1) (ho : ∀ q : Nat, q ≠ ad (200 + j) → H1[q]? = H[q]?) : Pic D ct Z dc (su (su σ 2 (4 * j) p) 2 (4 * j + 1) q) ad H1 := by
  have e0 : (su (su σ 2 (4 * j) p) 2 (4 * j + 1) q) 2 (4 * j) = p := by simp [su]
  have e1 : (su (su σ 2 (4 * j) p) 2 (4 * j + 1) q) 2 (4 * j + 1) = q := by simp [su]
  have e2 : (su (su σ 2 (4 * j) p) 2 (4 * j + 1) q) 2 (4 * j + 2) = σ 2 (4 * j + 2) := by simp [su]
  have e3 : (su (su σ 2 (4 * j) p) 2 (4 * j + 1) q) 2 (4 * j + 3) = σ 2 (4 * j + 3) := by simp [su]
  refine h.cj hj (by rw [e0, e1, e2, e3]; exact hat) ho (fun x y hxy => ?_)
  have k : ∀ q, q < 4 → ∀ τ : Stt, ∀ w : Int32, su τ 2 (4 * j + q) w x y = τ x y := fun q hq τ w => by
    unfold su
    rw [if_neg (fun z => by omega)]
  rw [k 1 (by decide)]
  rw [show ∀ τ : Stt, ∀ w : Int32, su τ 2 (4 * j) w x y = τ x y from k 0 (by decide)]

theorem Pic.c1 (h : Pic D ct Z dc σ ad H) {j : Nat} (hj : j < nC σ) (p : Int32) (hat : Ob D (ad (200 + j)) 1 [.int (nI j), .int (σ 2 (4 * j)), .int p, .int (σ 2 (4 * j + 2)), .int (σ 2 (4 * j + 3))] H1) (ho : ∀ q : Nat, q ≠ ad (200 + j) → H1[q]? = H[q]?) : Pic D ct Z dc (su σ 2 (4 * j + 1) p) ad H1 := by
  have e0 : (su σ 2 (4 * j + 1) p) 2 (4 * j) = σ 2 (4 * j) := by simp [su]
  have e1 : (su σ 2 (4 * j + 1) p) 2 (4 * j + 1) = p := by simp [su]
  have e2 : (su σ 2 (4 * j + 1) p) 2 (4 * j + 2) = σ 2 (4 * j + 2) := by simp [su]
  have e3 : (su σ 2 (4 * j + 1) p) 2 (4 * j + 3) = σ 2 (4 * j + 3) := by simp [su]
  refine h.cj hj (by rw [e0, e1, e2, e3]; exact hat) ho (fun x y hxy => ?_)
  have k : ∀ q, q < 4 → ∀ τ : Stt, ∀ w : Int32, su τ 2 (4 * j + q) w x y = τ x y := fun q hq τ w => by
    unfold su
    rw [if_neg (fun z => by omega)]
  rw [k 1 (by decide)]

theorem Pic.d5 (h : Pic D ct Z dc σ ad H) {j : Nat} (hj : j < 100) (h1 : σ 3 (7 * j) = 1) (v : Int32) (hat : Ob D (ad (300 + j)) 2 [.int (σ 3 (7 * j + 1)), .int (σ 3 (7 * j + 2)), .int (σ 3 (7 * j + 3)), .int (σ 3 (7 * j + 4)), .int v, .int (σ 3 (7 * j + 6))] H1) (ho : ∀ q : Nat, q ≠ ad (300 + j) → H1[q]? = H[q]?) : Pic D ct Z dc (su σ 3 (7 * j + 5) v) ad H1 := by
  refine h.sd hj h1 (by decide) (by decide) v ?_ ho
  rw [@su_j σ 3 (7 * j + 5) 3 (7 * j + 1) v (by omega)]
  rw [@su_j σ 3 (7 * j + 5) 3 (7 * j + 2) v (by omega)]
  rw [@su_j σ 3 (7 * j + 5) 3 (7 * j + 3) v (by omega)]
  rw [@su_j σ 3 (7 * j + 5) 3 (7 * j + 4) v (by omega)]
  rw [su_s]
  rw [@su_j σ 3 (7 * j + 5) 3 (7 * j + 6) v (by omega)]
  exact hat

theorem Pic.d6 (h : Pic D ct Z dc σ ad H) {j : Nat} (hj : j < 100) (h1 : σ 3 (7 * j) = 1) (v : Int32) (hat : Ob D (ad (300 + j)) 2 [.int (σ 3 (7 * j + 1)), .int (σ 3 (7 * j + 2)), .int (σ 3 (7 * j + 3)), .int (σ 3 (7 * j + 4)), .int (σ 3 (7 * j + 5)), .int v] H1) (ho : ∀ q : Nat, q ≠ ad (300 + j) → H1[q]? = H[q]?) : Pic D ct Z dc (su σ 3 (7 * j + 6) v) ad H1 := by
  refine h.sd hj h1 (by decide) (by decide) v ?_ ho
  rw [@su_j σ 3 (7 * j + 6) 3 (7 * j + 1) v (by omega)]
  rw [@su_j σ 3 (7 * j + 6) 3 (7 * j + 2) v (by omega)]
  rw [@su_j σ 3 (7 * j + 6) 3 (7 * j + 3) v (by omega)]
  rw [@su_j σ 3 (7 * j + 6) 3 (7 * j + 4) v (by omega)]
  rw [@su_j σ 3 (7 * j + 6) 3 (7 * j + 5) v (by omega)]
  rw [su_s]
  exact hat

theorem Pic.t0 (h : Pic D ct Z dc σ ad H) (v : Int32) (hat : Ob D (ad 0) 6 [.ref (ad 1), .ref (ad 3), .ref (ad 6), .ref (ad 7), .int (σ 0 1), .int (σ 0 2), .int v, .int (σ 0 5), .int (σ 0 6), .int (σ 0 7), .int (σ 0 8)] H1) (ho : ∀ q : Nat, q ≠ ad 0 → H1[q]? = H[q]?) : Pic D ct Z dc (su σ 0 0 v) ad H1 := h.s0 (by decide) v hat ho

theorem Pic.t1 (h : Pic D ct Z dc σ ad H) (v : Int32) (hat : Ob D (ad 0) 6 [.ref (ad 1), .ref (ad 3), .ref (ad 6), .ref (ad 7), .int v, .int (σ 0 2), .int (σ 0 0), .int (σ 0 5), .int (σ 0 6), .int (σ 0 7), .int (σ 0 8)] H1) (ho : ∀ q : Nat, q ≠ ad 0 → H1[q]? = H[q]?) : Pic D ct Z dc (su σ 0 1 v) ad H1 := h.s0 (by decide) v hat ho

theorem Pic.t2 (h : Pic D ct Z dc σ ad H) (v : Int32) (hat : Ob D (ad 0) 6 [.ref (ad 1), .ref (ad 3), .ref (ad 6), .ref (ad 7), .int (σ 0 1), .int v, .int (σ 0 0), .int (σ 0 5), .int (σ 0 6), .int (σ 0 7), .int (σ 0 8)] H1) (ho : ∀ q : Nat, q ≠ ad 0 → H1[q]? = H[q]?) : Pic D ct Z dc (su σ 0 2 v) ad H1 := h.s0 (by decide) v hat ho

theorem Pic.t5 (h : Pic D ct Z dc σ ad H) (v : Int32) (hat : Ob D (ad 0) 6 [.ref (ad 1), .ref (ad 3), .ref (ad 6), .ref (ad 7), .int (σ 0 1), .int (σ 0 2), .int (σ 0 0), .int v, .int (σ 0 6), .int (σ 0 7), .int (σ 0 8)] H1) (ho : ∀ q : Nat, q ≠ ad 0 → H1[q]? = H[q]?) : Pic D ct Z dc (su σ 0 5 v) ad H1 := h.s0 (by decide) v hat ho

theorem Pic.t6 (h : Pic D ct Z dc σ ad H) (v : Int32) (hat : Ob D (ad 0) 6 [.ref (ad 1), .ref (ad 3), .ref (ad 6), .ref (ad 7), .int (σ 0 1), .int (σ 0 2), .int (σ 0 0), .int (σ 0 5), .int v, .int (σ 0 7), .int (σ 0 8)] H1) (ho : ∀ q : Nat, q ≠ ad 0 → H1[q]? = H[q]?) : Pic D ct Z dc (su σ 0 6 v) ad H1 := h.s0 (by decide) v hat ho

theorem Pic.t7 (h : Pic D ct Z dc σ ad H) (v : Int32) (hat : Ob D (ad 0) 6 [.ref (ad 1), .ref (ad 3), .ref (ad 6), .ref (ad 7), .int (σ 0 1), .int (σ 0 2), .int (σ 0 0), .int (σ 0 5), .int (σ 0 6), .int v, .int (σ 0 8)] H1) (ho : ∀ q : Nat, q ≠ ad 0 → H1[q]? = H[q]?) : Pic D ct Z dc (su σ 0 7 v) ad H1 := h.s0 (by decide) v hat ho

theorem Pic.t8 (h : Pic D ct Z dc σ ad H) (v : Int32) (hat : Ob D (ad 0) 6 [.ref (ad 1), .ref (ad 3), .ref (ad 6), .ref (ad 7), .int (σ 0 1), .int (σ 0 2), .int (σ 0 0), .int (σ 0 5), .int (σ 0 6), .int (σ 0 7), .int v] H1) (ho : ∀ q : Nat, q ≠ ad 0 → H1[q]? = H[q]?) : Pic D ct Z dc (su σ 0 8 v) ad H1 := h.s0 (by decide) v hat ho

end PICW
