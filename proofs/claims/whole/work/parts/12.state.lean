/-! THE STATE, as numbers by kind and place, and the two pictures of it in the heap -/
section STATE0
abbrev Stt : Type := Nat → Nat → Int32
def su (σ : Stt) (k j : Nat) (v : Int32) : Stt := fun a b => if a = k ∧ b = j then v else σ a b
theorem su_s (σ : Stt) (k j : Nat) (v : Int32) : su σ k j v k j = v := by simp [su]
theorem su_k {σ : Stt} {k j a b : Nat} {v : Int32} (h : a ≠ k) : su σ k j v a b = σ a b := by simp [su, h]
theorem su_j {σ : Stt} {k j a b : Nat} {v : Int32} (h : b ≠ j) : su σ k j v a b = σ a b := by simp [su, h]
theorem su_row {σ : Stt} {k j : Nat} {v : Int32} : su σ k j v k = upd (σ k) j v := by funext b; simp [su, upd]
def b2 (P : Prop) [Decidable P] : Int32 := if P then 1 else 0
theorem b2_t {P : Prop} [Decidable P] (h : P) : b2 P = 1 := if_pos h
theorem b2_f {P : Prop} [Decidable P] (h : ¬ P) : b2 P = 0 := if_neg h
theorem b2_z {P : Prop} [Decidable P] (h : b2 P = 0) : ¬ P := fun z => by rw [b2_t z] at h; exact absurd h (by decide)
theorem b2_nz {P : Prop} [Decidable P] (h : ¬ b2 P = 0) : P := Decidable.byContradiction fun z => h (b2_f z)
theorem b2_iff {P R : Prop} [Decidable P] [Decidable R] (h : P ↔ R) : b2 P = b2 R := by
  by_cases z : P
  · rw [b2_t z, b2_t (h.mp z)]
  · rw [b2_f z, b2_f (fun y => z (h.mpr y))]
def sm (f : Nat → Int32) : Nat → Int32
  | 0 => 0
  | n + 1 => sm f n + f n
theorem sm_1 (f : Nat → Int32) (n : Nat) : sm f (n + 1) = sm f n + f n := rfl
theorem sm_cong {f g : Nat → Int32} : ∀ {n : Nat}, (∀ k, k < n → f k = g k) → sm f n = sm g n
  | 0, _ => rfl
  | n + 1, h => by rw [sm_1, sm_1, sm_cong (fun k hk => h k (by omega)), h n (by omega)]
def nT (σ : Stt) : Nat := (σ 0 1).toNatClampNeg
def nR (σ : Stt) : Nat := (σ 0 3).toNatClampNeg
def nC (σ : Stt) : Nat := (σ 0 4).toNatClampNeg
/-- what holds of the numbers always -/
def IRum (σ : Stt) (i : Nat) : Prop := (∃ n, 1 ≤ n ∧ n ≤ 30 ∧ σ 1 (7 * i) = nI n) ∧ (∃ n, n ≤ 99 ∧ σ 1 (7 * i + 1) = nI n) ∧ (∃ n, n ≤ 5 ∧ σ 1 (7 * i + 2) = nI n) ∧ (∃ n, n < nR σ ∧ σ 1 (7 * i + 3) = nI n) ∧ (σ 1 (7 * i + 4) = -1 ∨ ∃ n, n < nT σ ∧ σ 1 (7 * i + 4) = nI n) ∧ (σ 1 (7 * i + 6) = 0 ∨ σ 1 (7 * i + 6) = 1)
def ICar (σ : Stt) (i : Nat) : Prop := (∃ n, n < nT σ ∧ σ 2 (4 * i) = nI n) ∧ ∃ n, n ≤ 9 ∧ σ 2 (4 * i + 1) = nI n
def IRd (σ : Stt) (k : Nat) : Prop := (σ 3 (7 * k) = 1 ∧ k / 10 < k % 10 ∧ k % 10 < nT σ ∧ (∃ n, 1 ≤ n ∧ n ≤ 9 ∧ σ 3 (7 * k + 1) = nI n) ∧ (∃ n, n ≤ 20 ∧ σ 3 (7 * k + 2) = nI n) ∧ (∃ n, n ≤ 30 ∧ σ 3 (7 * k + 3) = nI n) ∧ ∃ n, n ≤ 9 ∧ σ 3 (7 * k + 4) = nI n) ∨ ∀ j, j < 7 → σ 3 (7 * k + j) = 0
def Inv (σ : Stt) : Prop :=
  (σ 0 1 = nI (nT σ) ∧ nT σ ≤ 10) ∧ (σ 0 3 = nI (nR σ) ∧ nR σ ≤ 60) ∧ (σ 0 4 = nI (nC σ) ∧ nC σ ≤ 8) ∧ (∀ i, i < nR σ → IRum σ i) ∧ (∀ i, i < nC σ → ICar σ i) ∧ ∀ k, k < 100 → IRd σ k
/-- the pair of towns a road lies between, as one number -/
def rk (a b : Nat) : Nat := 10 * min a b + max a b
theorem rk_lt {a b : Nat} (ha : a < 10) (hb : b < 10) : rk a b < 100 := by unfold rk; omega
theorem rk_comm (a b : Nat) : rk a b = rk b a := by unfold rk; omega
def rdq (σ : Stt) (ad : Nat → Nat) (j : Nat) : Option Nat := if σ 3 (7 * rk (j / 10) (j % 10)) = 1 then some (ad (300 + rk (j / 10) (j % 10))) else none
def lq (ad : Nat → Nat) (b n j : Nat) : Option Nat := if j < n then some (ad (b + j)) else none
/-- which places of the class's picture are there -/
def us (σ : Stt) (i : Nat) : Prop := i < 8 ∨ (i = 8 ∧ 0 < nR σ) ∨ (i = 9 ∧ 0 < nC σ) ∨ (100 ≤ i ∧ i < 100 + nR σ ∧ i < 200) ∨ (200 ≤ i ∧ i < 200 + nC σ ∧ i < 300) ∨ (300 ≤ i ∧ i < 400 ∧ σ 3 (7 * (i - 300)) = 1)
/-- .. and what they hold -/
def cn (ct : Nat → ClassId) (σ : Stt) (ad : Nat → Nat) (i : Nat) : va_E :=
  if i = 0 then .inr (6, [.ref (ad 1), .ref (ad 3), .ref (ad 6), .ref (ad 7), .int (σ 0 1), .int (σ 0 2), .int (σ 0 0), .int (σ 0 5), .int (σ 0 6), .int (σ 0 7), .int (σ 0 8)])
  else if i = 1 then .inr (3, [.ref (ad 2)])
  else if i = 2 then .inl (ct 2, rQ 100 (rdq σ ad))
  else if i = 3 then .inr (5, [.ref (ad 1), .ref (ad 4), .ref (ad 5)])
  else if i = 4 then .inl (ct 0, rI 60 (σ 4))
  else if i = 5 then .inl (ct 1, rI 60 (σ 5))
  else if i = 6 then .inr (0, [.int (σ 6 0), .ref (ad 8), .int (nI (nR σ))])
  else if i = 7 then .inr (0, [.int (σ 6 1), .ref (ad 9), .int (nI (nC σ))])
  else if i = 8 then .inl (ct 3, rQ (ad 20) (lq ad 100 (nR σ)))
  else if i = 9 then .inl (ct 3, rQ (ad 21) (lq ad 200 (nC σ)))
  else if i < 200 then .inr (4, [.int (nI (i - 100)), .int (σ 1 (7 * (i - 100) + 3)), .int (σ 1 (7 * (i - 100))), .int (σ 1 (7 * (i - 100) + 1)), .int (σ 1 (7 * (i - 100) + 2)), .int (σ 1 (7 * (i - 100) + 4)), .int (σ 1 (7 * (i - 100) + 5)), .int (σ 1 (7 * (i - 100) + 6))])
  else if i < 300 then .inr (1, [.int (nI (i - 200)), .int (σ 2 (4 * (i - 200))), .int (σ 2 (4 * (i - 200) + 1)), .int (σ 2 (4 * (i - 200) + 2)), .int (σ 2 (4 * (i - 200) + 3))])
  else .inr (2, [.int (σ 3 (7 * (i - 300) + 1)), .int (σ 3 (7 * (i - 300) + 2)), .int (σ 3 (7 * (i - 300) + 3)), .int (σ 3 (7 * (i - 300) + 4)), .int (σ 3 (7 * (i - 300) + 5)), .int (σ 3 (7 * (i - 300) + 6))])
def Caps (dc : Nat) (σ : Stt) (ad : Nat → Nat) : Prop := (nR σ ≤ ad 20 ∧ ad 20 ≤ 1000 ∧ (0 < nR σ → 10 ≤ ad 20) ∧ (nR σ = 0 → ad 8 = dc ∧ ad 20 = 0)) ∧ (nC σ ≤ ad 21 ∧ ad 21 ≤ 1000 ∧ (0 < nC σ → 10 ≤ ad 21) ∧ (nC σ = 0 → ad 9 = dc ∧ ad 21 = 0))
/-- THE CLASS'S PICTURE -/
def Pic (D : va_G) (ct : Nat → ClassId) (Z : Nat → Prop) (dc : Nat) (σ : Stt) (ad : Nat → Nat) (H : Heap) : Prop :=
  (∀ i, us σ i → va_at D vwCl (ad i, cn ct σ ad i) H ∧ ¬ Z (ad i)) ∧ (∀ i j, us σ i → us σ j → ad i = ad j → i = j) ∧ Caps dc σ ad ∧ nR σ ≤ 60 ∧ nC σ ≤ 8
/-- THE REFERENCE'S PICTURE -/
def rn (ct : Nat → ClassId) (σ : Stt) (th : Int32) (bst : Nat → Int64) (rf : Nat → Nat) (i : Nat) : va_E :=
  if i = 0 then .inr (7, [.int th, .int (σ 0 0), .int (σ 0 1), .int (σ 0 2), .int (σ 0 3), .int (σ 0 4), .int (σ 0 5), .int (σ 0 6), .int (σ 0 7), .int (σ 0 8), .ref (rf 1), .ref (rf 2), .ref (rf 3), .ref (rf 4)])
  else if i = 1 then .inl (ct 0, rI 700 (σ 3))
  else if i = 2 then .inl (ct 0, rI 420 (σ 1))
  else if i = 3 then .inl (ct 0, rI 32 (σ 2))
  else .inl (ct 4, rJ 60 bst)
def RP (D : va_G) (ct : Nat → ClassId) (Z : Nat → Prop) (σ : Stt) (th : Int32) (bst : Nat → Int64) (rf : Nat → Nat) (H : Heap) : Prop :=
  (∀ i, i < 5 → va_at D vwCl (rf i, rn ct σ th bst rf i) H ∧ ¬ Z (rf i)) ∧ (∀ i j, i < 5 → j < 5 → rf i = rf j → i = j)
variable {D : va_G} {ct : Nat → ClassId} {Z : Nat → Prop} {dc : Nat} {σ σ' : Stt} {ad rf : Nat → Nat} {H H1 : Heap} {th : Int32} {bst : Nat → Int64}
theorem us_lt {i : Nat} (h : i < 8) : us σ i := Or.inl h
theorem us_r {i : Nat} (hn : nR σ ≤ 60) (h : i < nR σ) : us σ (100 + i) := Or.inr (Or.inr (Or.inr (Or.inl ⟨by omega, by omega, by omega⟩)))
theorem us_c {i : Nat} (hn : nC σ ≤ 8) (h : i < nC σ) : us σ (200 + i) := Or.inr (Or.inr (Or.inr (Or.inr (Or.inl ⟨by omega, by omega, by omega⟩))))
theorem us_d {k : Nat} (hk : k < 100) (h : σ 3 (7 * k) = 1) : us σ (300 + k) := Or.inr (Or.inr (Or.inr (Or.inr (Or.inr ⟨by omega, by omega, by rw [show 300 + k - 300 = k by omega]; exact h⟩))))
theorem Pic.o0 (h : Pic D ct Z dc σ ad H) : Ob D (ad 0) 6 [.ref (ad 1), .ref (ad 3), .ref (ad 6), .ref (ad 7), .int (σ 0 1), .int (σ 0 2), .int (σ 0 0), .int (σ 0 5), .int (σ 0 6), .int (σ 0 7), .int (σ 0 8)] H := (h.1 0 (us_lt (by decide))).1
theorem Pic.o1 (h : Pic D ct Z dc σ ad H) : Ob D (ad 1) 3 [.ref (ad 2)] H := (h.1 1 (us_lt (by decide))).1
theorem Pic.o2 (h : Pic D ct Z dc σ ad H) : Ar (ct 2) (ad 2) (rQ 100 (rdq σ ad)) H := (h.1 2 (us_lt (by decide))).1
theorem Pic.o3 (h : Pic D ct Z dc σ ad H) : Ob D (ad 3) 5 [.ref (ad 1), .ref (ad 4), .ref (ad 5)] H := (h.1 3 (us_lt (by decide))).1
theorem Pic.o4 (h : Pic D ct Z dc σ ad H) : Ar (ct 0) (ad 4) (rI 60 (σ 4)) H := (h.1 4 (us_lt (by decide))).1
theorem Pic.o5 (h : Pic D ct Z dc σ ad H) : Ar (ct 1) (ad 5) (rI 60 (σ 5)) H := (h.1 5 (us_lt (by decide))).1
theorem Pic.o6 (h : Pic D ct Z dc σ ad H) : Ob D (ad 6) 0 [.int (σ 6 0), .ref (ad 8), .int (nI (nR σ))] H := (h.1 6 (us_lt (by decide))).1
theorem Pic.o7 (h : Pic D ct Z dc σ ad H) : Ob D (ad 7) 0 [.int (σ 6 1), .ref (ad 9), .int (nI (nC σ))] H := (h.1 7 (us_lt (by decide))).1
theorem Pic.o8 (h : Pic D ct Z dc σ ad H) (h0 : 0 < nR σ) : Ar (ct 3) (ad 8) (rQ (ad 20) (lq ad 100 (nR σ))) H := (h.1 8 (Or.inr (Or.inl ⟨rfl, h0⟩))).1
theorem Pic.o9 (h : Pic D ct Z dc σ ad H) (h0 : 0 < nC σ) : Ar (ct 3) (ad 9) (rQ (ad 21) (lq ad 200 (nC σ))) H := (h.1 9 (Or.inr (Or.inr (Or.inl ⟨rfl, h0⟩)))).1
theorem cn_r {i : Nat} (hi : i < 100) : cn ct σ ad (100 + i) = .inr (4, [.int (nI i), .int (σ 1 (7 * i + 3)), .int (σ 1 (7 * i)), .int (σ 1 (7 * i + 1)), .int (σ 1 (7 * i + 2)), .int (σ 1 (7 * i + 4)), .int (σ 1 (7 * i + 5)), .int (σ 1 (7 * i + 6))]) := by
  unfold cn
  rw [if_neg (by omega), if_neg (by omega), if_neg (by omega), if_neg (by omega), if_neg (by omega), if_neg (by omega), if_neg (by omega), if_neg (by omega), if_neg (by omega), if_neg (by omega), if_pos (by omega), show 100 + i - 100 = i by omega]
theorem cn_c {i : Nat} (hi : i < 100) : cn ct σ ad (200 + i) = .inr (1, [.int (nI i), .int (σ 2 (4 * i)), .int (σ 2 (4 * i + 1)), .int (σ 2 (4 * i + 2)), .int (σ 2 (4 * i + 3))]) := by
  unfold cn
  rw [if_neg (by omega), if_neg (by omega), if_neg (by omega), if_neg (by omega), if_neg (by omega), if_neg (by omega), if_neg (by omega), if_neg (by omega), if_neg (by omega), if_neg (by omega), if_neg (by omega), if_pos (by omega), show 200 + i - 200 = i by omega]
theorem cn_d {i : Nat} : cn ct σ ad (300 + i) = .inr (2, [.int (σ 3 (7 * i + 1)), .int (σ 3 (7 * i + 2)), .int (σ 3 (7 * i + 3)), .int (σ 3 (7 * i + 4)), .int (σ 3 (7 * i + 5)), .int (σ 3 (7 * i + 6))]) := by
  unfold cn
  rw [if_neg (by omega), if_neg (by omega), if_neg (by omega), if_neg (by omega), if_neg (by omega), if_neg (by omega), if_neg (by omega), if_neg (by omega), if_neg (by omega), if_neg (by omega), if_neg (by omega), if_neg (by omega), show 300 + i - 300 = i by omega]
theorem Pic.r (h : Pic D ct Z dc σ ad H) {i : Nat} (hi : i < nR σ) : Ob D (ad (100 + i)) 4 [.int (nI i), .int (σ 1 (7 * i + 3)), .int (σ 1 (7 * i)), .int (σ 1 (7 * i + 1)), .int (σ 1 (7 * i + 2)), .int (σ 1 (7 * i + 4)), .int (σ 1 (7 * i + 5)), .int (σ 1 (7 * i + 6))] H := by
  have h1 := (h.1 (100 + i) (us_r h.2.2.2.1 hi)).1
  rw [cn_r (by have := h.2.2.2.1; omega)] at h1
  exact h1
theorem Pic.c (h : Pic D ct Z dc σ ad H) {i : Nat} (hi : i < nC σ) : Ob D (ad (200 + i)) 1 [.int (nI i), .int (σ 2 (4 * i)), .int (σ 2 (4 * i + 1)), .int (σ 2 (4 * i + 2)), .int (σ 2 (4 * i + 3))] H := by
  have h1 := (h.1 (200 + i) (us_c h.2.2.2.2 hi)).1
  rw [cn_c (by have := h.2.2.2.2; omega)] at h1
  exact h1
theorem Pic.d (h : Pic D ct Z dc σ ad H) {k : Nat} (hk : k < 100) (h1 : σ 3 (7 * k) = 1) : Ob D (ad (300 + k)) 2 [.int (σ 3 (7 * k + 1)), .int (σ 3 (7 * k + 2)), .int (σ 3 (7 * k + 3)), .int (σ 3 (7 * k + 4)), .int (σ 3 (7 * k + 5)), .int (σ 3 (7 * k + 6))] H := by
  have h2 := (h.1 (300 + k) (us_d hk h1)).1
  rw [cn_d] at h2
  exact h2
theorem Pic.nz (h : Pic D ct Z dc σ ad H) {i : Nat} (hi : us σ i) : ¬ Z (ad i) := (h.1 i hi).2
theorem Pic.kept (h : Pic D ct Z dc σ ad H) (hq : ∀ q, q < H.size → H1[q]? = H[q]?) : Pic D ct Z dc σ ad H1 := by
  refine ⟨fun i hi => ⟨va_at.kept (h.1 i hi).1 (hq _ (va_at.lt (h.1 i hi).1)), (h.1 i hi).2⟩, h.2⟩
theorem Pic.ka (h : Pic D ct Z dc σ ad H) (hk : KA H H1) : Pic D ct Z dc σ ad H1 := h.kept hk.2
/-- one cell is written -/
theorem Pic.set (h : Pic D ct Z dc σ ad H) (k : Nat) (hk : us σ k) (hat : va_at D vwCl (ad k, cn ct σ' ad k) H1) (ho : ∀ q : Nat, q ≠ ad k → H1[q]? = H[q]?) (hus : ∀ i, us σ' i → us σ i) (hcn : ∀ i, us σ i → i ≠ k → cn ct σ' ad i = cn ct σ ad i) (hr : nR σ' = nR σ) (hc : nC σ' = nC σ) : Pic D ct Z dc σ' ad H1 := by
  refine ⟨fun i hi => ?_, fun i j hi hj => h.2.1 i j (hus i hi) (hus j hj), ?_, by rw [hr]; exact h.2.2.2.1, by rw [hc]; exact h.2.2.2.2⟩
  · by_cases e : i = k
    · subst e
      exact ⟨hat, (h.1 _ hk).2⟩
    · rw [hcn i (hus i hi) e]
      exact ⟨va_at.kept (h.1 i (hus i hi)).1 (ho _ (fun z => e (h.2.1 i k (hus i hi) hk z))), (h.1 i (hus i hi)).2⟩
  · have := h.2.2.1
    unfold Caps at this ⊢
    rw [hr, hc]
    exact this
theorem us_case {i : Nat} (h : us σ i) : i < 10 ∨ (100 ≤ i ∧ i < 200) ∨ (200 ≤ i ∧ i < 300) ∨ (300 ≤ i ∧ i < 400) := by
  rcases h with h | h | h | h | h | h <;> omega
theorem lt10 {i : Nat} (h : i < 10) : i = 0 ∨ i = 1 ∨ i = 2 ∨ i = 3 ∨ i = 4 ∨ i = 5 ∨ i = 6 ∨ i = 7 ∨ i = 8 ∨ i = 9 := by omega
/-- a rumour's number -/
theorem Pic.sr (h : Pic D ct Z dc σ ad H) {j c : Nat} (hj : j < nR σ) (hc : c < 7) (v : Int32) (hat : Ob D (ad (100 + j)) 4 [.int (nI j), .int (su σ 1 (7 * j + c) v 1 (7 * j + 3)), .int (su σ 1 (7 * j + c) v 1 (7 * j)), .int (su σ 1 (7 * j + c) v 1 (7 * j + 1)), .int (su σ 1 (7 * j + c) v 1 (7 * j + 2)), .int (su σ 1 (7 * j + c) v 1 (7 * j + 4)), .int (su σ 1 (7 * j + c) v 1 (7 * j + 5)), .int (su σ 1 (7 * j + c) v 1 (7 * j + 6))] H1) (ho : ∀ q : Nat, q ≠ ad (100 + j) → H1[q]? = H[q]?) : Pic D ct Z dc (su σ 1 (7 * j + c) v) ad H1 := by
  have hn := h.2.2.2.1
  refine h.set (100 + j) (us_r hn hj) (by rw [cn_r (by omega)]; exact hat) ho (fun i hi => hi) (fun i hi hne => ?_) rfl rfl
  rcases us_case hi with q | q | q | q
  · rcases lt10 q with rfl | rfl | rfl | rfl | rfl | rfl | rfl | rfl | rfl | rfl <;> rfl
  · obtain ⟨t, rfl⟩ : ∃ t, i = 100 + t := ⟨i - 100, by omega⟩
    rw [cn_r (by omega), cn_r (by omega)]
    rw [su_j (by omega), su_j (by omega), su_j (by omega), su_j (by omega), su_j (by omega), su_j (by omega), su_j (by omega)]
  · obtain ⟨t, rfl⟩ : ∃ t, i = 200 + t := ⟨i - 200, by omega⟩
    rw [cn_c (by omega), cn_c (by omega)]; rfl
  · obtain ⟨t, rfl⟩ : ∃ t, i = 300 + t := ⟨i - 300, by omega⟩
    rw [cn_d, cn_d]; rfl
/-- a carrier's number -/
theorem Pic.sc (h : Pic D ct Z dc σ ad H) {j c : Nat} (hj : j < nC σ) (hc : c < 4) (v : Int32) (hat : Ob D (ad (200 + j)) 1 [.int (nI j), .int (su σ 2 (4 * j + c) v 2 (4 * j)), .int (su σ 2 (4 * j + c) v 2 (4 * j + 1)), .int (su σ 2 (4 * j + c) v 2 (4 * j + 2)), .int (su σ 2 (4 * j + c) v 2 (4 * j + 3))] H1) (ho : ∀ q : Nat, q ≠ ad (200 + j) → H1[q]? = H[q]?) : Pic D ct Z dc (su σ 2 (4 * j + c) v) ad H1 := by
  have hn := h.2.2.2.2
  refine h.set (200 + j) (us_c hn hj) (by rw [cn_c (by omega)]; exact hat) ho (fun i hi => hi) (fun i hi hne => ?_) rfl rfl
  rcases us_case hi with q | q | q | q
  · rcases lt10 q with rfl | rfl | rfl | rfl | rfl | rfl | rfl | rfl | rfl | rfl <;> rfl
  · obtain ⟨t, rfl⟩ : ∃ t, i = 100 + t := ⟨i - 100, by omega⟩
    rw [cn_r (by omega), cn_r (by omega)]; rfl
  · obtain ⟨t, rfl⟩ : ∃ t, i = 200 + t := ⟨i - 200, by omega⟩
    rw [cn_c (by omega), cn_c (by omega)]
    rw [su_j (by omega), su_j (by omega), su_j (by omega), su_j (by omega)]
  · obtain ⟨t, rfl⟩ : ∃ t, i = 300 + t := ⟨i - 300, by omega⟩
    rw [cn_d, cn_d]; rfl
/-- a road's number (1 to 6) -/
theorem Pic.sd (h : Pic D ct Z dc σ ad H) {j c : Nat} (hj : j < 100) (h1 : σ 3 (7 * j) = 1) (hc : c < 7) (h0 : 1 ≤ c) (v : Int32) (hat : Ob D (ad (300 + j)) 2 [.int (su σ 3 (7 * j + c) v 3 (7 * j + 1)), .int (su σ 3 (7 * j + c) v 3 (7 * j + 2)), .int (su σ 3 (7 * j + c) v 3 (7 * j + 3)), .int (su σ 3 (7 * j + c) v 3 (7 * j + 4)), .int (su σ 3 (7 * j + c) v 3 (7 * j + 5)), .int (su σ 3 (7 * j + c) v 3 (7 * j + 6))] H1) (ho : ∀ q : Nat, q ≠ ad (300 + j) → H1[q]? = H[q]?) : Pic D ct Z dc (su σ 3 (7 * j + c) v) ad H1 := by
  have e7 : ∀ k : Nat, su σ 3 (7 * j + c) v 3 (7 * k) = σ 3 (7 * k) := fun k => su_j (by omega)
  have eq : rdq (su σ 3 (7 * j + c) v) ad = rdq σ ad := by funext k; unfold rdq; rw [e7]
  refine h.set (300 + j) (us_d hj h1) (by rw [cn_d]; exact hat) ho (fun i hi => ?_) (fun i hi hne => ?_) rfl rfl
  · rcases hi with q | q | q | q | q | q
    · exact Or.inl q
    · exact Or.inr (Or.inl q)
    · exact Or.inr (Or.inr (Or.inl q))
    · exact Or.inr (Or.inr (Or.inr (Or.inl q)))
    · exact Or.inr (Or.inr (Or.inr (Or.inr (Or.inl q))))
    · rw [e7] at q
      exact Or.inr (Or.inr (Or.inr (Or.inr (Or.inr q))))
  · rcases us_case hi with q | q | q | q
    · rcases lt10 q with rfl | rfl | rfl | rfl | rfl | rfl | rfl | rfl | rfl | rfl
      all_goals first | rfl | (show (Sum.inl (ct 2, rQ 100 (rdq _ ad)) : va_E) = _; rw [eq]; rfl) | (unfold cn; rw [eq]; rfl)
    · obtain ⟨t, rfl⟩ : ∃ t, i = 100 + t := ⟨i - 100, by omega⟩
      rw [cn_r (by omega), cn_r (by omega)]; rfl
    · obtain ⟨t, rfl⟩ : ∃ t, i = 200 + t := ⟨i - 200, by omega⟩
      rw [cn_c (by omega), cn_c (by omega)]; rfl
    · obtain ⟨t, rfl⟩ : ∃ t, i = 300 + t := ⟨i - 300, by omega⟩
      rw [cn_d, cn_d]
      rw [su_j (by omega), su_j (by omega), su_j (by omega), su_j (by omega), su_j (by omega), su_j (by omega)]
/-- a number of the land that is no count of towns, rumours, carriers: or one of towns -/
theorem cn_s0 {c : Nat} (hc : c ≠ 3 ∧ c ≠ 4) (v : Int32) {i : Nat} (hne : i ≠ 0) : cn ct (su σ 0 c v) ad i = cn ct σ ad i := by
  have er : nR (su σ 0 c v) = nR σ := by unfold nR; rw [su_j (Ne.symm hc.1)]
  have ec : nC (su σ 0 c v) = nC σ := by unfold nC; rw [su_j (Ne.symm hc.2)]
  have e : ∀ a : Nat, a ≠ 0 → su σ 0 c v a = σ a := fun a h => by funext b; exact su_k h
  have eq : rdq (su σ 0 c v) ad = rdq σ ad := by funext k; unfold rdq; rw [e 3 (by decide)]
  unfold cn
  rw [er, ec, eq, e 1 (by decide), e 2 (by decide), e 3 (by decide), e 4 (by decide), e 5 (by decide), e 6 (by decide), if_neg hne, if_neg hne]
theorem Pic.s0 (h : Pic D ct Z dc σ ad H) {c : Nat} (hc : c ≠ 3 ∧ c ≠ 4) (v : Int32) (hat : Ob D (ad 0) 6 [.ref (ad 1), .ref (ad 3), .ref (ad 6), .ref (ad 7), .int (su σ 0 c v 0 1), .int (su σ 0 c v 0 2), .int (su σ 0 c v 0 0), .int (su σ 0 c v 0 5), .int (su σ 0 c v 0 6), .int (su σ 0 c v 0 7), .int (su σ 0 c v 0 8)] H1) (ho : ∀ q : Nat, q ≠ ad 0 → H1[q]? = H[q]?) : Pic D ct Z dc (su σ 0 c v) ad H1 := by
  have er : nR (su σ 0 c v) = nR σ := by unfold nR; rw [su_j (Ne.symm hc.1)]
  have ec : nC (su σ 0 c v) = nC σ := by unfold nC; rw [su_j (Ne.symm hc.2)]
  have e : su σ 0 c v 3 = σ 3 := by funext b; exact su_k (by decide)
  refine h.set 0 (us_lt (by decide)) hat ho (fun i hi => ?_) (fun i hi hne => cn_s0 hc v hne) er ec
  unfold us at hi ⊢
  rw [er, ec, e] at hi
  exact hi
/-- the search's rows -/
theorem Pic.s4 (h : Pic D ct Z dc σ ad H) {c : Nat} (v : Int32) (hat : Ar (ct 0) (ad 4) (rI 60 (upd (σ 4) c v)) H1) (ho : ∀ q : Nat, q ≠ ad 4 → H1[q]? = H[q]?) : Pic D ct Z dc (su σ 4 c v) ad H1 := by
  refine h.set 4 (us_lt (by decide)) (by show Ar (ct 0) (ad 4) (rI 60 (su σ 4 c v 4)) H1; rw [su_row]; exact hat) ho (fun i hi => hi) (fun i hi hne => ?_) rfl rfl
  rcases us_case hi with q | q | q | q
  · rcases lt10 q with rfl | rfl | rfl | rfl | rfl | rfl | rfl | rfl | rfl | rfl
    all_goals first | rfl | exact absurd rfl hne
  · obtain ⟨t, rfl⟩ : ∃ t, i = 100 + t := ⟨i - 100, by omega⟩
    rw [cn_r (by omega), cn_r (by omega)]; rfl
  · obtain ⟨t, rfl⟩ : ∃ t, i = 200 + t := ⟨i - 200, by omega⟩
    rw [cn_c (by omega), cn_c (by omega)]; rfl
  · obtain ⟨t, rfl⟩ : ∃ t, i = 300 + t := ⟨i - 300, by omega⟩
    rw [cn_d, cn_d]; rfl
theorem Pic.s5 (h : Pic D ct Z dc σ ad H) {c : Nat} (v : Int32) (hat : Ar (ct 1) (ad 5) (rI 60 (upd (σ 5) c v)) H1) (ho : ∀ q : Nat, q ≠ ad 5 → H1[q]? = H[q]?) : Pic D ct Z dc (su σ 5 c v) ad H1 := by
  refine h.set 5 (us_lt (by decide)) (by show Ar (ct 1) (ad 5) (rI 60 (su σ 5 c v 5)) H1; rw [su_row]; exact hat) ho (fun i hi => hi) (fun i hi hne => ?_) rfl rfl
  rcases us_case hi with q | q | q | q
  · rcases lt10 q with rfl | rfl | rfl | rfl | rfl | rfl | rfl | rfl | rfl | rfl
    all_goals first | rfl | exact absurd rfl hne
  · obtain ⟨t, rfl⟩ : ∃ t, i = 100 + t := ⟨i - 100, by omega⟩
    rw [cn_r (by omega), cn_r (by omega)]; rfl
  · obtain ⟨t, rfl⟩ : ∃ t, i = 200 + t := ⟨i - 200, by omega⟩
    rw [cn_c (by omega), cn_c (by omega)]; rfl
  · obtain ⟨t, rfl⟩ : ∃ t, i = 300 + t := ⟨i - 300, by omega⟩
    rw [cn_d, cn_d]; rfl
/-- the reference's cells -/
theorem RP.o (h : RP D ct Z σ th bst rf H) : Ob D (rf 0) 7 [.int th, .int (σ 0 0), .int (σ 0 1), .int (σ 0 2), .int (σ 0 3), .int (σ 0 4), .int (σ 0 5), .int (σ 0 6), .int (σ 0 7), .int (σ 0 8), .ref (rf 1), .ref (rf 2), .ref (rf 3), .ref (rf 4)] H := (h.1 0 (by decide)).1
theorem RP.a1 (h : RP D ct Z σ th bst rf H) : Ar (ct 0) (rf 1) (rI 700 (σ 3)) H := (h.1 1 (by decide)).1
theorem RP.a2 (h : RP D ct Z σ th bst rf H) : Ar (ct 0) (rf 2) (rI 420 (σ 1)) H := (h.1 2 (by decide)).1
theorem RP.a3 (h : RP D ct Z σ th bst rf H) : Ar (ct 0) (rf 3) (rI 32 (σ 2)) H := (h.1 3 (by decide)).1
theorem RP.a4 (h : RP D ct Z σ th bst rf H) : Ar (ct 4) (rf 4) (rJ 60 bst) H := (h.1 4 (by decide)).1
theorem RP.nz (h : RP D ct Z σ th bst rf H) {i : Nat} (hi : i < 5) : ¬ Z (rf i) := (h.1 i hi).2
theorem RP.kept (h : RP D ct Z σ th bst rf H) (hq : ∀ q, q < H.size → H1[q]? = H[q]?) : RP D ct Z σ th bst rf H1 :=
  ⟨fun i hi => ⟨va_at.kept (h.1 i hi).1 (hq _ (va_at.lt (h.1 i hi).1)), (h.1 i hi).2⟩, h.2⟩
theorem RP.set {th' : Int32} {bst' : Nat → Int64} (h : RP D ct Z σ th bst rf H) (k : Nat) (hk : k < 5) (hat : va_at D vwCl (rf k, rn ct σ' th' bst' rf k) H1) (ho : ∀ q : Nat, q ≠ rf k → H1[q]? = H[q]?) (hcn : ∀ i, i < 5 → i ≠ k → rn ct σ' th' bst' rf i = rn ct σ th bst rf i) : RP D ct Z σ' th' bst' rf H1 := by
  refine ⟨fun i hi => ?_, h.2⟩
  by_cases e : i = k
  · subst e
    exact ⟨hat, (h.1 _ hk).2⟩
  · rw [hcn i hi e]
    exact ⟨va_at.kept (h.1 i hi).1 (ho _ (fun z => e (h.2 i k hi hk z))), (h.1 i hi).2⟩
theorem lt5 {i : Nat} (h : i < 5) : i = 0 ∨ i = 1 ∨ i = 2 ∨ i = 3 ∨ i = 4 := by omega
theorem RP.st (h : RP D ct Z σ th bst rf H) (v : Int32) (hat : Ob D (rf 0) 7 [.int v, .int (σ 0 0), .int (σ 0 1), .int (σ 0 2), .int (σ 0 3), .int (σ 0 4), .int (σ 0 5), .int (σ 0 6), .int (σ 0 7), .int (σ 0 8), .ref (rf 1), .ref (rf 2), .ref (rf 3), .ref (rf 4)] H1) (ho : ∀ q : Nat, q ≠ rf 0 → H1[q]? = H[q]?) : RP D ct Z σ v bst rf H1 := by
  refine h.set 0 (by decide) hat ho (fun i hi hne => ?_)
  rcases lt5 hi with rfl | rfl | rfl | rfl | rfl
  all_goals first | rfl | exact absurd rfl hne
theorem RP.s0 (h : RP D ct Z σ th bst rf H) (c : Nat) (v : Int32) (hat : Ob D (rf 0) 7 [.int th, .int (su σ 0 c v 0 0), .int (su σ 0 c v 0 1), .int (su σ 0 c v 0 2), .int (su σ 0 c v 0 3), .int (su σ 0 c v 0 4), .int (su σ 0 c v 0 5), .int (su σ 0 c v 0 6), .int (su σ 0 c v 0 7), .int (su σ 0 c v 0 8), .ref (rf 1), .ref (rf 2), .ref (rf 3), .ref (rf 4)] H1) (ho : ∀ q : Nat, q ≠ rf 0 → H1[q]? = H[q]?) : RP D ct Z (su σ 0 c v) th bst rf H1 := by
  refine h.set 0 (by decide) hat ho (fun i hi hne => ?_)
  rcases lt5 hi with rfl | rfl | rfl | rfl | rfl
  all_goals first | rfl | exact absurd rfl hne
theorem RP.s1 (h : RP D ct Z σ th bst rf H) (c : Nat) (v : Int32) (hat : Ar (ct 0) (rf 2) (rI 420 (upd (σ 1) c v)) H1) (ho : ∀ q : Nat, q ≠ rf 2 → H1[q]? = H[q]?) : RP D ct Z (su σ 1 c v) th bst rf H1 := by
  refine h.set 2 (by decide) (by show Ar (ct 0) (rf 2) (rI 420 (su σ 1 c v 1)) H1; rw [su_row]; exact hat) ho (fun i hi hne => ?_)
  rcases lt5 hi with rfl | rfl | rfl | rfl | rfl
  all_goals first | rfl | exact absurd rfl hne
theorem RP.s2 (h : RP D ct Z σ th bst rf H) (c : Nat) (v : Int32) (hat : Ar (ct 0) (rf 3) (rI 32 (upd (σ 2) c v)) H1) (ho : ∀ q : Nat, q ≠ rf 3 → H1[q]? = H[q]?) : RP D ct Z (su σ 2 c v) th bst rf H1 := by
  refine h.set 3 (by decide) (by show Ar (ct 0) (rf 3) (rI 32 (su σ 2 c v 2)) H1; rw [su_row]; exact hat) ho (fun i hi hne => ?_)
  rcases lt5 hi with rfl | rfl | rfl | rfl | rfl
  all_goals first | rfl | exact absurd rfl hne
theorem RP.s3 (h : RP D ct Z σ th bst rf H) (c : Nat) (v : Int32) (hat : Ar (ct 0) (rf 1) (rI 700 (upd (σ 3) c v)) H1) (ho : ∀ q : Nat, q ≠ rf 1 → H1[q]? = H[q]?) : RP D ct Z (su σ 3 c v) th bst rf H1 := by
  refine h.set 1 (by decide) (by show Ar (ct 0) (rf 1) (rI 700 (su σ 3 c v 3)) H1; rw [su_row]; exact hat) ho (fun i hi hne => ?_)
  rcases lt5 hi with rfl | rfl | rfl | rfl | rfl
  all_goals first | rfl | exact absurd rfl hne
theorem RP.s4 (h : RP D ct Z σ th bst rf H) (c : Nat) (v : Int64) (hat : Ar (ct 4) (rf 4) (rJ 60 (vp_updL bst c v)) H1) (ho : ∀ q : Nat, q ≠ rf 4 → H1[q]? = H[q]?) : RP D ct Z σ th (vp_updL bst c v) rf H1 := by
  refine h.set 4 (by decide) hat ho (fun i hi hne => ?_)
  rcases lt5 hi with rfl | rfl | rfl | rfl | rfl
  all_goals first | rfl | exact absurd rfl hne
/-- whole rows of the reference are written anew (arraycopy) -/
theorem RP.row1 (h : RP D ct Z σ th bst rf H) (f : Nat → Int32) (hat : Ar (ct 0) (rf 2) (rI 420 f) H1) (ho : ∀ q : Nat, q ≠ rf 2 → H1[q]? = H[q]?) (h1 : σ' 1 = f) (h0 : ∀ a, a ≠ 1 → σ' a = σ a) : RP D ct Z σ' th bst rf H1 := by
  refine h.set 2 (by decide) (by show Ar (ct 0) (rf 2) (rI 420 (σ' 1)) H1; rw [h1]; exact hat) ho (fun i hi hne => ?_)
  have e0 := h0 0 (by decide)
  have e2 := h0 2 (by decide)
  have e3 := h0 3 (by decide)
  rcases lt5 hi with rfl | rfl | rfl | rfl | rfl
  · unfold rn; rw [e0]; rfl
  · unfold rn; rw [e3]; rfl
  · exact absurd rfl hne
  · unfold rn; rw [e2]; rfl
  · rfl
theorem RP.row2 (h : RP D ct Z σ th bst rf H) (f : Nat → Int32) (hat : Ar (ct 0) (rf 3) (rI 32 f) H1) (ho : ∀ q : Nat, q ≠ rf 3 → H1[q]? = H[q]?) (h1 : σ' 2 = f) (h0 : ∀ a, a ≠ 2 → σ' a = σ a) : RP D ct Z σ' th bst rf H1 := by
  refine h.set 3 (by decide) (by show Ar (ct 0) (rf 3) (rI 32 (σ' 2)) H1; rw [h1]; exact hat) ho (fun i hi hne => ?_)
  have e0 := h0 0 (by decide)
  have e1 := h0 1 (by decide)
  have e3 := h0 3 (by decide)
  rcases lt5 hi with rfl | rfl | rfl | rfl | rfl
  · unfold rn; rw [e0]; rfl
  · unfold rn; rw [e3]; rfl
  · unfold rn; rw [e1]; rfl
  · exact absurd rfl hne
  · rfl
theorem RP.row3 (h : RP D ct Z σ th bst rf H) (f : Nat → Int32) (hat : Ar (ct 0) (rf 1) (rI 700 f) H1) (ho : ∀ q : Nat, q ≠ rf 1 → H1[q]? = H[q]?) (h1 : σ' 3 = f) (h0 : ∀ a, a ≠ 3 → σ' a = σ a) : RP D ct Z σ' th bst rf H1 := by
  refine h.set 1 (by decide) (by show Ar (ct 0) (rf 1) (rI 700 (σ' 3)) H1; rw [h1]; exact hat) ho (fun i hi hne => ?_)
  have e0 := h0 0 (by decide)
  have e1 := h0 1 (by decide)
  have e2 := h0 2 (by decide)
  rcases lt5 hi with rfl | rfl | rfl | rfl | rfl
  · unfold rn; rw [e0]; rfl
  · exact absurd rfl hne
  · unfold rn; rw [e1]; rfl
  · unfold rn; rw [e2]; rfl
  · rfl
/-- the reference's picture speaks of the first four kinds alone -/
theorem RP.core (h : RP D ct Z σ th bst rf H) (h0 : ∀ a, a < 4 → σ' a = σ a) : RP D ct Z σ' th bst rf H := by
  refine ⟨fun i hi => ?_, h.2⟩
  have e0 := h0 0 (by decide)
  have e1 := h0 1 (by decide)
  have e2 := h0 2 (by decide)
  have e3 := h0 3 (by decide)
  have e : rn ct σ' th bst rf i = rn ct σ th bst rf i := by unfold rn; rw [e0, e1, e2, e3]
  rw [e]
  exact h.1 i hi
end STATE0
