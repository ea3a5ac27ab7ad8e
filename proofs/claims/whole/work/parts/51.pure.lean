theorem wb_tb (n : Nat) : (lN n).toBitVec = BitVec.ofNat 64 n := rfl
theorem wb_inj {a b : Int64} (h : a.toBitVec = b.toBitVec) : a = b := Int64.toBitVec_inj.mp h
theorem wb_tn {n : Nat} (h : n < 2 ^ 64) : (lN n).toBitVec.toNat = n := by rw [wb_tb, BitVec.toNat_ofNat, Nat.mod_eq_of_lt h]
theorem wb_of (x : Int64) : ∃ n, n < 2 ^ 64 ∧ x = lN n := ⟨x.toBitVec.toNat, x.toBitVec.isLt, wb_inj (by rw [wb_tb]; simp)⟩
theorem wb_of32 (x : Int32) : ∃ n, n < 2 ^ 32 ∧ x = nI n := ⟨x.toBitVec.toNat, x.toBitVec.isLt, Int32.toBitVec_inj.mp (by show _ = BitVec.ofNat 32 _; simp)⟩
theorem wb_c : ∀ k, k < 64 → ((nI k).toInt64 &&& 63) = lN k := by decide +kernel
theorem wb_cu : ∀ k, k < 64 → ((nI k).toInt64.toUInt64 &&& Int64.toUInt64 63) = UInt64.ofNat k := by decide +kernel
theorem wb_sm : ∀ k, k < 64 → (BitVec.ofNat 64 k).smod 64 = BitVec.ofNat 64 k := by decide +kernel
theorem wb_pw {a b : Nat} (h : a ≤ b) : 2 ^ b = 2 ^ a * 2 ^ (b - a) := by rw [← Nat.pow_add]; congr 1; omega
theorem wb_lt2 {a b : Nat} (h : a < b) : 2 ^ a < 2 ^ b := Nat.pow_lt_pow_right (by decide) h
theorem wb_mod (n : Nat) : lN n = lN (n % 2 ^ 64) := wb_inj (by rw [wb_tb, wb_tb]; apply BitVec.eq_of_toNat_eq; rw [BitVec.toNat_ofNat, BitVec.toNat_ofNat, Nat.mod_mod])
theorem wb_shr {n k : Nat} (hn : n < 2 ^ 64) (hk : k < 64) : ((lN n).toUInt64 >>> ((nI k).toInt64.toUInt64 &&& Int64.toUInt64 63)).toInt64 = lN (n / 2 ^ k) := by
  rw [wb_cu k hk]
  apply wb_inj
  apply BitVec.eq_of_toNat_eq
  show ((lN n).toUInt64 >>> UInt64.ofNat k).toNat = (BitVec.ofNat 64 _).toNat
  have h1 : (UInt64.ofNat k).toNat = k := by
    show (BitVec.ofNat 64 k).toNat = k
    rw [BitVec.toNat_ofNat, Nat.mod_eq_of_lt (by omega)]
  have h2 : (lN n).toUInt64.toNat = n := wb_tn hn
  rw [UInt64.toNat_shiftRight, h1, h2, Nat.mod_eq_of_lt hk, Nat.shiftRight_eq_div_pow, BitVec.toNat_ofNat, Nat.mod_eq_of_lt (Nat.lt_of_le_of_lt (Nat.div_le_self _ _) hn)]
theorem wb_shl (n : Nat) {k : Nat} (hk : k < 64) : lN n <<< ((nI k).toInt64 &&& 63) = lN (n * 2 ^ k) := by
  rw [wb_c k hk]
  apply wb_inj
  rw [Int64.toBitVec_shiftLeft, wb_tb, wb_tb, wb_tb, wb_sm k hk]
  apply BitVec.eq_of_toNat_eq
  rw [BitVec.shiftLeft_eq', BitVec.toNat_shiftLeft, BitVec.toNat_ofNat, BitVec.toNat_ofNat, BitVec.toNat_ofNat, Nat.mod_eq_of_lt (show k < 2 ^ 64 by omega), Nat.shiftLeft_eq, Nat.mul_mod, Nat.mod_mod, ← Nat.mul_mod]
theorem wb_and {a b : Nat} (ha : a < 2 ^ 64) (hb : b < 2 ^ 64) : lN a &&& lN b = lN (a &&& b) := by
  apply wb_inj
  rw [Int64.toBitVec_and, wb_tb, wb_tb, wb_tb]
  apply BitVec.eq_of_toNat_eq
  rw [BitVec.toNat_and, BitVec.toNat_ofNat, BitVec.toNat_ofNat, BitVec.toNat_ofNat, Nat.mod_eq_of_lt ha, Nat.mod_eq_of_lt hb, Nat.mod_eq_of_lt (Nat.and_lt_two_pow _ hb)]
theorem wb_or {a b : Nat} (ha : a < 2 ^ 64) (hb : b < 2 ^ 64) : lN a ||| lN b = lN (a ||| b) := by
  apply wb_inj
  rw [Int64.toBitVec_or, wb_tb, wb_tb, wb_tb]
  apply BitVec.eq_of_toNat_eq
  rw [BitVec.toNat_or, BitVec.toNat_ofNat, BitVec.toNat_ofNat, BitVec.toNat_ofNat, Nat.mod_eq_of_lt ha, Nat.mod_eq_of_lt hb, Nat.mod_eq_of_lt (Nat.or_lt_two_pow ha hb)]
theorem wb_mask {n k : Nat} (hn : n < 2 ^ 64) (hk : k < 64) : lN n &&& lN (2 ^ k - 1) = lN (n % 2 ^ k) := by
  rw [wb_and hn (by have := wb_lt2 hk; omega), Nat.and_two_pow_sub_one_eq_mod]
def fb_ct (p : Nat → Bool) : Nat → Nat
  | 0 => 0
  | n + 1 => fb_ct p n + (if p n then 1 else 0)
theorem fb_ct_succ (p : Nat → Bool) (n : Nat) : fb_ct p (n + 1) = fb_ct p n + (if p n then 1 else 0) := rfl
theorem fb_ct_le (p : Nat → Bool) : ∀ n, fb_ct p n ≤ n
  | 0 => Nat.le_refl _
  | n + 1 => by
    have h := fb_ct_le p n
    rw [fb_ct_succ]
    split <;> omega
theorem fb_ct_step (p : Nat → Bool) (m : Nat) : ∀ n, fb_ct p m ≤ fb_ct p (m + n)
  | 0 => Nat.le_refl _
  | n + 1 => by
    have h := fb_ct_step p m n
    show fb_ct p m ≤ fb_ct p (m + n + 1)
    rw [fb_ct_succ]
    omega
theorem fb_ct_mono (p : Nat → Bool) {m n : Nat} (h : m ≤ n) : fb_ct p m ≤ fb_ct p n := by
  have := fb_ct_step p m (n - m)
  rwa [Nat.add_sub_cancel' h] at this
theorem fb_ct_cong {p q : Nat → Bool} : ∀ {n : Nat}, (∀ k, k < n → p k = q k) → fb_ct p n = fb_ct q n
  | 0, _ => rfl
  | n + 1, h => by
    rw [fb_ct_succ, fb_ct_succ, fb_ct_cong (fun k hk => h k (by omega)), h n (by omega)]
/-- one place changed -/
theorem fb_ct_out (p : Nat → Bool) (b : Bool) {i n : Nat} (h : n ≤ i) : fb_ct (fun k => if k = i then b else p k) n = fb_ct p n :=
  fb_ct_cong fun k hk => if_neg (by omega)
theorem fb_ct_upd (p : Nat → Bool) (b : Bool) {i : Nat} : ∀ {n : Nat}, i < n → fb_ct (fun k => if k = i then b else p k) n + (if p i then 1 else 0) = fb_ct p n + (if b then 1 else 0)
  | 0, h => absurd h (Nat.not_lt_zero i)
  | n + 1, h => by
    rw [fb_ct_succ, fb_ct_succ]
    rcases Nat.lt_or_ge i n with q | q
    · have := fb_ct_upd p b q
      have e : (if n = i then b else p n) = p n := if_neg (by omega)
      rw [e]
      omega
    · have e : i = n := by omega
      subst e
      rw [fb_ct_out p b (Nat.le_refl _)]
      simp only [if_true]
      omega
theorem fb_ct_sub {p q : Nat → Bool} : ∀ {n : Nat}, (∀ k, k < n → p k = true → q k = true) → fb_ct p n ≤ fb_ct q n
  | 0, _ => Nat.le_refl _
  | n + 1, h => by
    have h1 := fb_ct_sub (n := n) (p := p) (q := q) (fun k hk => h k (by omega))
    have h2 := h n (by omega)
    rw [fb_ct_succ, fb_ct_succ]
    cases hp : p n <;> cases hq : q n <;> simp_all <;> omega
theorem fb_ct_or {p q : Nat → Bool} : ∀ {n : Nat}, (∀ k, k < n → ¬ (p k = true ∧ q k = true)) → fb_ct (fun k => p k || q k) n = fb_ct p n + fb_ct q n
  | 0, _ => rfl
  | n + 1, h => by
    have h1 := fb_ct_or (n := n) (p := p) (q := q) (fun k hk => h k (by omega))
    have h2 := h n (by omega)
    rw [fb_ct_succ, fb_ct_succ, fb_ct_succ, h1]
    cases hp : p n <;> cases hq : q n <;> simp_all <;> omega
theorem fb_ct_not (p : Nat → Bool) : ∀ n, fb_ct p n + fb_ct (fun k => !p k) n = n
  | 0 => rfl
  | n + 1 => by
    have h := fb_ct_not p n
    rw [fb_ct_succ, fb_ct_succ]
    cases p n <;> simp <;> omega
theorem fb_ct_split (p : Nat → Bool) (m : Nat) : ∀ n, fb_ct p (m + n) = fb_ct p m + fb_ct (fun k => p (m + k)) n
  | 0 => rfl
  | n + 1 => by
    have h := fb_ct_split p m n
    show fb_ct p (m + n + 1) = _
    rw [fb_ct_succ, fb_ct_succ, h, Nat.add_assoc]
theorem fb_ct_zero {p : Nat → Bool} : ∀ {n : Nat}, fb_ct p n = 0 ↔ ∀ k, k < n → p k = false
  | 0 => ⟨fun _ k hk => absurd hk (Nat.not_lt_zero k), fun _ => rfl⟩
  | n + 1 => by
    have h := fb_ct_zero (p := p) (n := n)
    rw [fb_ct_succ]
    constructor
    · intro e k hk
      have e1 : fb_ct p n = 0 := by omega
      rcases Nat.lt_or_ge k n with q | q
      · exact h.mp e1 k q
      · have ek : k = n := by omega
        subst ek
        cases hp : p k
        · rfl
        · simp [hp] at e
    · intro a
      rw [h.mpr (fun k hk => a k (by omega)), a n (by omega)]
      rfl
theorem fb_ct_pos {p : Nat → Bool} {n : Nat} : 0 < fb_ct p n ↔ ∃ k, k < n ∧ p k = true := by
  constructor
  · intro h
    refine Classical.byContradiction fun hx => ?_
    have := fb_ct_zero.mpr (fun k hk => by
      cases hp : p k
      · rfl
      · exact absurd ⟨k, hk, hp⟩ hx : ∀ k, k < n → p k = false)
    omega
  · rintro ⟨k, hk, hp⟩
    rcases Nat.eq_zero_or_pos (fb_ct p n) with e | e
    · have := fb_ct_zero.mp e k hk
      rw [this] at hp
      cases hp
    · exact e
theorem fb_ct_all {p : Nat → Bool} {n : Nat} : fb_ct p n = n ↔ ∀ k, k < n → p k = true := by
  have h := fb_ct_not p n
  constructor
  · intro e k hk
    have z : fb_ct (fun k => !p k) n = 0 := by omega
    have := fb_ct_zero.mp z k hk
    cases hp : p k
    · simp [hp] at this
    · rfl
  · intro a
    have z : fb_ct (fun k => !p k) n = 0 := fb_ct_zero.mpr (fun k hk => by simp [a k hk])
    omega
/-- the k-th place with the property -/
theorem fb_ct_kth {p : Nat → Bool} {k : Nat} : ∀ {n : Nat}, k < fb_ct p n → ∃ i, i < n ∧ p i = true ∧ fb_ct p i = k
  | 0, h => absurd h (Nat.not_lt_zero k)
  | n + 1, h => by
    rcases Nat.lt_or_ge k (fb_ct p n) with q | q
    · obtain ⟨i, h1, h2⟩ := fb_ct_kth q
      exact ⟨i, by omega, h2⟩
    · rw [fb_ct_succ] at h
      cases hp : p n
      · simp [hp] at h; omega
      · simp [hp] at h
        exact ⟨n, by omega, hp, by omega⟩
theorem fb_ct_kth_one {p : Nat → Bool} {i j : Nat} (hi : p i = true) (hj : p j = true) (e : fb_ct p i = fb_ct p j) : i = j := by
  have key : ∀ a b : Nat, a < b → p a = true → fb_ct p a < fb_ct p b := by
    intro a b hab ha
    have h := fb_ct_mono p (show a + 1 ≤ b from hab)
    rw [fb_ct_succ, ha] at h
    simp at h
    omega
  rcases Nat.lt_trichotomy i j with q | q | q
  · have := key i j q hi; omega
  · exact q
  · have := key j i q hj; omega
/-! HOW MANY BITS: Long.bitCount and Integer.bitCount count; sets of families and towns as bits -/
theorem bb_tb (b B i : Nat) (h : b < 256) : (b + 256 * B).testBit i = if i < 8 then b.testBit i else B.testBit (i - 8) := by
  rw [show b + 256 * B = 2 ^ 8 * B + b by omega]
  exact Nat.testBit_two_pow_mul_add B (by omega) i
theorem bb_and {a A m M : Nat} (ha : a < 256) (hm : m < 256) : (a + 256 * A) &&& (m + 256 * M) = (a &&& m) + 256 * (A &&& M) := by
  have h : a &&& m < 256 := Nat.and_lt_two_pow (n := 8) a (by omega)
  apply Nat.eq_of_testBit_eq
  intro i
  rw [Nat.testBit_and, bb_tb _ _ _ ha, bb_tb _ _ _ hm, bb_tb _ _ _ h]
  by_cases q : i < 8
  · rw [if_pos q, if_pos q, if_pos q, Nat.testBit_and]
  · rw [if_neg q, if_neg q, if_neg q, Nat.testBit_and]
def bS (f : Nat → Nat) : Nat → Nat
  | 0 => 0
  | n + 1 => f 0 + 256 * bS (fun i => f (i + 1)) n
def bM (m : Nat) : Nat → Nat
  | 0 => 0
  | n + 1 => m + 256 * bM m n
def bs1 (b : Nat) : Nat := b - (b / 2 &&& 85)
def bs2 (b : Nat) : Nat := (b &&& 51) + (b / 4 &&& 51)
def bs3 (b : Nat) : Nat := (b + b / 16) &&& 15
theorem bs1_k : ∀ b, b < 256 → ∀ c, c < 2 → ((b / 2 + 128 * c) &&& 85) + bs1 b = b := by decide +kernel
theorem bs2_k : ∀ b, b < 256 → ∀ c, c < 4 → ((b / 4 + 64 * c) &&& 51) = b / 4 &&& 51 := by decide +kernel
theorem bs3_k : ∀ q, q < 5 → ∀ r, r < 5 → ∀ c, c < 5 → (((q + 16 * r) + (q + 16 * r) / 16 + 16 * c) &&& 15) = bs3 (q + 16 * r) := by decide +kernel
theorem bs21_k : ∀ b, b < 256 → bs2 (bs1 b) % 16 < 5 ∧ bs2 (bs1 b) / 16 < 5 ∧ bs1 b < 256 := by decide +kernel
theorem bs_ct : ∀ b, b < 256 → bs3 (bs2 (bs1 b)) = fb_ct (fun k => b.testBit k) 8 := by decide +kernel
theorem bS_1 : ∀ (n : Nat) (f : Nat → Nat), (∀ i, f i < 256) → (bS f n / 2 &&& bM 85 n) + bS (fun i => bs1 (f i)) n = bS f n
  | 0, _, _ => by show ((0 : Nat) / 2 &&& 0) + 0 = 0; decide
  | n + 1, f, h => by
    have ih := bS_1 n (fun i => f (i + 1)) (fun i => h (i + 1))
    show ((f 0 + 256 * bS (fun i => f (i + 1)) n) / 2 &&& (85 + 256 * bM 85 n)) + (bs1 (f 0) + 256 * bS (fun i => bs1 (f (i + 1))) n) = f 0 + 256 * bS (fun i => f (i + 1)) n
    generalize bS (fun i => f (i + 1)) n = X at ih ⊢
    generalize bS (fun i => bs1 (f (i + 1))) n = Y at ih ⊢
    have h0 := h 0
    rw [show (f 0 + 256 * X) / 2 = (f 0 / 2 + 128 * (X % 2)) + 256 * (X / 2) by omega, bb_and (by omega) (by decide)]
    have h1 := bs1_k (f 0) h0 (X % 2) (by omega)
    omega
theorem bS_2 : ∀ (n : Nat) (f : Nat → Nat), (∀ i, f i < 256) → (bS f n &&& bM 51 n) + (bS f n / 4 &&& bM 51 n) = bS (fun i => bs2 (f i)) n
  | 0, _, _ => by show ((0 : Nat) &&& 0) + (0 / 4 &&& 0) = 0; decide
  | n + 1, f, h => by
    have ih := bS_2 n (fun i => f (i + 1)) (fun i => h (i + 1))
    show ((f 0 + 256 * bS (fun i => f (i + 1)) n) &&& (51 + 256 * bM 51 n)) + ((f 0 + 256 * bS (fun i => f (i + 1)) n) / 4 &&& (51 + 256 * bM 51 n)) = bs2 (f 0) + 256 * bS (fun i => bs2 (f (i + 1))) n
    generalize bS (fun i => f (i + 1)) n = X at ih ⊢
    generalize bS (fun i => bs2 (f (i + 1))) n = Y at ih ⊢
    have h0 := h 0
    rw [show (f 0 + 256 * X) / 4 = (f 0 / 4 + 64 * (X % 4)) + 256 * (X / 4) by omega, bb_and h0 (by decide), bb_and (by omega) (by decide), bs2_k (f 0) h0 (X % 4) (by omega)]
    unfold bs2
    omega
theorem bS_m (f : Nat → Nat) (h : ∀ i, f i % 16 < 5) : ∀ n, bS f n % 16 < 5
  | 0 => by show 0 % 16 < 5; omega
  | n + 1 => by
    show (f 0 + 256 * bS (fun i => f (i + 1)) n) % 16 < 5
    have := h 0
    omega
theorem bS_3 : ∀ (n : Nat) (f : Nat → Nat), (∀ i, f i % 16 < 5 ∧ f i / 16 < 5) → ((bS f n + bS f n / 16) &&& bM 15 n) = bS (fun i => bs3 (f i)) n
  | 0, _, _ => by show ((0 : Nat) + 0 / 16 &&& 0) = 0; decide
  | n + 1, f, h => by
    have ih := bS_3 n (fun i => f (i + 1)) (fun i => h (i + 1))
    have hm := bS_m (fun i => f (i + 1)) (fun i => (h (i + 1)).1) n
    show ((f 0 + 256 * bS (fun i => f (i + 1)) n + (f 0 + 256 * bS (fun i => f (i + 1)) n) / 16) &&& (15 + 256 * bM 15 n)) = bs3 (f 0) + 256 * bS (fun i => bs3 (f (i + 1))) n
    generalize bS (fun i => f (i + 1)) n = X at ih hm ⊢
    generalize bS (fun i => bs3 (f (i + 1))) n = Y at ih ⊢
    obtain ⟨h0, h1⟩ := h 0
    rw [show f 0 + 256 * X + (f 0 + 256 * X) / 16 = (f 0 + f 0 / 16 + 16 * (X % 16)) + 256 * (X + X / 16) by omega, bb_and (by omega) (by decide), ih]
    have h2 := bs3_k (f 0 % 16) h0 (f 0 / 16) h1 (X % 16) hm
    rw [show f 0 % 16 + 16 * (f 0 / 16) = f 0 by omega] at h2
    rw [h2]
theorem bS_lt : ∀ (n : Nat) (f : Nat → Nat), (∀ i, f i < 256) → bS f n < 256 ^ n
  | 0, _, _ => by show 0 < 1; omega
  | n + 1, f, h => by
    have ih := bS_lt n (fun i => f (i + 1)) (fun i => h (i + 1))
    have h0 := h 0
    show f 0 + 256 * bS (fun i => f (i + 1)) n < 256 ^ (n + 1)
    rw [Nat.pow_succ]
    omega
/-- the bytes of a number -/
def bB (x i : Nat) : Nat := x / 256 ^ i % 256
theorem bB_S : ∀ (n x : Nat), x < 256 ^ n → bS (bB x) n = x
  | 0, x, h => by
    have : x < 1 := h
    show 0 = x
    omega
  | n + 1, x, h => by
    rw [Nat.pow_succ] at h
    have ih := bB_S n (x / 256) (by omega)
    have e : (fun i => bB x (i + 1)) = bB (x / 256) := by
      funext i
      unfold bB
      rw [Nat.div_div_eq_div_mul, show 256 ^ (i + 1) = 256 * 256 ^ i by rw [Nat.pow_succ, Nat.mul_comm]]
    show bB x 0 + 256 * bS (fun i => bB x (i + 1)) n = x
    rw [e, ih]
    unfold bB
    rw [Nat.pow_zero, Nat.div_one]
    omega
def bT (c : Nat → Nat) : Nat → Nat
  | 0 => 0
  | n + 1 => bT c n + c n
theorem bB_ct (x : Nat) : ∀ n, fb_ct (fun k => x.testBit k) (8 * n) = bT (fun i => fb_ct (fun k => (bB x i).testBit k) 8) n
  | 0 => rfl
  | n + 1 => by
    rw [show 8 * (n + 1) = 8 * n + 8 by omega, fb_ct_split, bB_ct x n]
    show _ = bT _ n + _
    congr 1
    refine fb_ct_cong (fun k hk => ?_)
    unfold bB
    rw [show (256 : Nat) = 2 ^ 8 from rfl, Nat.testBit_mod_two_pow, ← Nat.pow_mul, Nat.testBit_div_two_pow]
    simp [hk, Nat.add_comm]
theorem bT_b {c1 c2 c3 c4 c5 c6 c7 Y1 Y2 Y3 Y4 Y5 Y6 : Nat} (h1 : c1 ≤ 8) (h2 : c2 ≤ 8) (h3 : c3 ≤ 8) (h4 : c4 ≤ 8) (h5 : c5 ≤ 8) (h6 : c6 ≤ 8) (h7 : c7 ≤ 8)
    (e1 : Y1 = c1 + 256 * Y2) (e2 : Y2 = c2 + 256 * Y3) (e3 : Y3 = c3 + 256 * Y4) (e4 : Y4 = c4 + 256 * Y5) (e5 : Y5 = c5 + 256 * Y6) (e6 : Y6 = c6 + 256 * c7) : Y1 ≤ 2260630401189896 ∧ Y2 ≤ 8830587504648 ∧ Y3 ≤ 34494482440 ∧ Y4 ≤ 134744072 ∧ Y5 ≤ 526344 ∧ Y6 ≤ 2056 := by
  have y6 : Y6 ≤ 2056 := by clear e1 e2 e3 e4 e5; omega
  have y5 : Y5 ≤ 526344 := by clear e1 e2 e3 e4 e6; omega
  have y4 : Y4 ≤ 134744072 := by clear e1 e2 e3 e5 e6; omega
  have y3 : Y3 ≤ 34494482440 := by clear e1 e2 e4 e5 e6; omega
  have y2 : Y2 ≤ 8830587504648 := by clear e1 e3 e4 e5 e6; omega
  have y1 : Y1 ≤ 2260630401189896 := by clear e2 e3 e4 e5 e6; omega
  exact ⟨y1, y2, y3, y4, y5, y6⟩
theorem bT_a {c0 c1 c2 c3 c4 c5 c6 c7 Y1 Y2 Y3 Y4 Y5 Y6 z z4 z5 z6 : Nat} (h0 : c0 ≤ 8) (h1 : c1 ≤ 8) (h2 : c2 ≤ 8) (h3 : c3 ≤ 8) (h4 : c4 ≤ 8) (h5 : c5 ≤ 8) (h6 : c6 ≤ 8) (h7 : c7 ≤ 8)
    (hz : z = c0 + 256 * Y1) (e1 : Y1 = c1 + 256 * Y2) (e2 : Y2 = c2 + 256 * Y3) (e3 : Y3 = c3 + 256 * Y4) (e4 : Y4 = c4 + 256 * Y5) (e5 : Y5 = c5 + 256 * Y6) (e6 : Y6 = c6 + 256 * c7)
    (g4 : z4 = z + z / 256) (g5 : z5 = z4 + z4 / 65536) (g6 : z6 = z5 + z5 / 4294967296) : z6 % 128 = c0 + c1 + c2 + c3 + c4 + c5 + c6 + c7 ∧ z < 18446744073709551616 ∧ z4 < 18446744073709551616 ∧ z5 < 18446744073709551616 := by
  have d4 : z / 256 = Y1 := by clear g4 g5 g6 e1 e2 e3 e4 e5 e6; omega
  rw [d4] at g4
  have k4 : z4 = (c0 + c1) + 256 * (c1 + c2) + 65536 * (Y2 + Y3) := by clear g5 g6 e3 e4 e5 e6 d4; omega
  have d5 : z4 / 65536 = Y2 + Y3 := by clear g4 g5 g6 e1 e2 e3 e4 e5 e6 d4 hz; omega
  rw [d5] at g5
  have k5 : z5 = (c0 + c1 + c2 + c3) + 256 * (c1 + c2 + c3 + c4) + 65536 * (c2 + c3 + c4 + c5) + 16777216 * (c3 + c4 + c5 + c6) + 4294967296 * (Y4 + Y5 + (Y6 + c7)) := by clear g4 g6 d4 d5 hz e1; omega
  have d6 : z5 / 4294967296 = Y4 + Y5 + (Y6 + c7) := by clear g4 g5 g6 d4 d5 hz e1 e2 e3 e4 e5 e6 k4; omega
  rw [d6] at g6
  clear d4 d5 d6
  have k6 : z6 = (c0 + c1 + c2 + c3 + c4 + c5 + c6 + c7) + 256 * ((c1 + c2 + c3 + c4) + 256 * (c2 + c3 + c4 + c5) + 65536 * (c3 + c4 + c5 + c6) + 16777216 * (Y4 + Y5 + (Y6 + c7)) + (Y5 + Y6 + c7)) := by
    clear g4 g5 k4 hz e1 e2 e3
    omega
  have m6 : z6 % 128 = c0 + c1 + c2 + c3 + c4 + c5 + c6 + c7 := by
    clear g4 g5 g6 k4 k5 hz e1 e2 e3 e4 e5 e6
    generalize (c1 + c2 + c3 + c4) + 256 * (c2 + c3 + c4 + c5) + 65536 * (c3 + c4 + c5 + c6) + 16777216 * (Y4 + Y5 + (Y6 + c7)) + (Y5 + Y6 + c7) = U at k6
    omega
  obtain ⟨y1, y2, y3, y4, y5, y6⟩ := bT_b h1 h2 h3 h4 h5 h6 h7 e1 e2 e3 e4 e5 e6
  have q0 : z < 2305843009213693952 := by
    clear g4 g5 g6 k4 k5 k6 m6 e1 e2 e3 e4 e5 e6
    omega
  have q4 : z4 < 2310346608841064448 := by
    clear g5 g6 k4 k5 k6 m6 e1 e2 e3 e4 e5 e6 hz
    omega
  have q5 : z5 < 2319353808095805440 := by
    clear g6 g4 k4 k5 k6 m6 e1 e2 e3 e4 e5 e6 hz
    omega
  exact ⟨m6, by clear g4 g5 g6 k4 k5 k6 m6 e1 e2 e3 e4 e5 e6 hz; omega, by clear g4 g5 g6 k4 k5 k6 m6 e1 e2 e3 e4 e5 e6 hz; omega, by clear g4 g5 g6 k4 k5 k6 m6 e1 e2 e3 e4 e5 e6 hz; omega⟩
theorem bT_8 (c : Nat → Nat) (h : ∀ i, c i ≤ 8) : ∃ z4 z5 z6 : Nat, z4 = bS c 8 + bS c 8 / 2 ^ 8 ∧ z5 = z4 + z4 / 2 ^ 16 ∧ z6 = z5 + z5 / 2 ^ 32 ∧ z6 % 128 = bT c 8 ∧ bS c 8 < 2 ^ 64 ∧ z4 < 2 ^ 64 ∧ z5 < 2 ^ 64 := by
  obtain ⟨z, hz⟩ : ∃ z, z = bS c 8 := ⟨_, rfl⟩
  obtain ⟨z4, h4⟩ : ∃ q, q = z + z / 256 := ⟨_, rfl⟩
  obtain ⟨z5, h5⟩ : ∃ q, q = z4 + z4 / 65536 := ⟨_, rfl⟩
  obtain ⟨z6, h6⟩ : ∃ q, q = z5 + z5 / 4294967296 := ⟨_, rfl⟩
  have k := bT_a (h 0) (h 1) (h 2) (h 3) (h 4) (h 5) (h 6) (h 7) (z := z) (Y1 := c 1 + 256 * (c 2 + 256 * (c 3 + 256 * (c 4 + 256 * (c 5 + 256 * (c 6 + 256 * c 7)))))) (hz.trans rfl) rfl rfl rfl rfl rfl rfl h4 h5 h6
  have e2 : bT c 8 = c 0 + c 1 + c 2 + c 3 + c 4 + c 5 + c 6 + c 7 := congrArg (fun q => q + c 1 + c 2 + c 3 + c 4 + c 5 + c 6 + c 7) (Nat.zero_add (c 0))
  rw [← hz, e2]
  exact ⟨z4, z5, z6, h4, h5, h6, k⟩
theorem bS_68 : ∀ (n : Nat) (f : Nat → Nat), (∀ i, f i ≤ 68) → bS f n ≤ 68 * bM 1 n
  | 0, _, _ => Nat.le_refl _
  | n + 1, f, hf => by
    have a := bS_68 n (fun i => f (i + 1)) (fun i => hf (i + 1))
    have b := hf 0
    show f 0 + 256 * bS (fun i => f (i + 1)) n ≤ 68 * (1 + 256 * bM 1 n)
    omega
theorem bcL_n {x : Nat} (hx : x < 2 ^ 64) : bcL (lN x) = nI (fb_ct (fun k => x.testBit k) 64) := by
  have e0 := bB_S 8 x (by rw [show (256 : Nat) ^ 8 = 2 ^ 64 from rfl]; exact hx)
  have hb : ∀ i, bB x i < 256 := fun i => Nat.mod_lt _ (by decide)
  have hb1 : ∀ i, bs1 (bB x i) < 256 := fun i => (bs21_k _ (hb i)).2.2
  have s1 := bS_1 8 (bB x) hb
  have s2 := bS_2 8 (fun i => bs1 (bB x i)) hb1
  have s3 := bS_3 8 (fun i => bs2 (bs1 (bB x i))) (fun i => ⟨(bs21_k _ (hb i)).1, (bs21_k _ (hb i)).2.1⟩)
  have l1 := bS_lt 8 (fun i => bs1 (bB x i)) hb1
  have l2 := bS_lt 8 (fun i => bs2 (bs1 (bB x i))) (fun i => by have := bs21_k _ (hb i); omega)
  rw [show (256 : Nat) ^ 8 = 2 ^ 64 from rfl] at l1 l2
  have hc : ∀ i, bs3 (bs2 (bs1 (bB x i))) ≤ 8 := fun i => by rw [bs_ct _ (hb i)]; exact fb_ct_le _ 8
  obtain ⟨z4, z5, z6, g4, g5, g6, g7, b0, b4, b5⟩ := bT_8 (fun i => bs3 (bs2 (bs1 (bB x i)))) hc
  rw [e0] at s1
  have m1 : bM 85 8 = 6148914691236517205 := rfl
  have m2 : bM 51 8 = 3689348814741910323 := rfl
  have m3 : bM 15 8 = 1085102592571150095 := rfl
  rw [m1] at s1
  rw [m2] at s2
  rw [m3] at s3
  have c1 : bcL1 (lN x) = lN (bS (fun i => bs1 (bB x i)) 8) := by
    unfold bcL1
    rw [show (((lN x).toUInt64 >>> ((1 : Int32).toInt64.toUInt64 &&& Int64.toUInt64 63)).toInt64) = lN (x / 2 ^ 1) from wb_shr (k := 1) hx (by decide), show (6148914691236517205 : Int64) = lN 6148914691236517205 from rfl, wb_and (by omega) (by decide), lN_sub (by rw [Nat.pow_one]; omega)]
    congr 1
    rw [Nat.pow_one]
    omega
  have c2 : bcL2 (lN (bS (fun i => bs1 (bB x i)) 8)) = lN (bS (fun i => bs2 (bs1 (bB x i))) 8) := by
    unfold bcL2
    rw [show (((lN (bS (fun i => bs1 (bB x i)) 8)).toUInt64 >>> ((2 : Int32).toInt64.toUInt64 &&& Int64.toUInt64 63)).toInt64) = lN (bS (fun i => bs1 (bB x i)) 8 / 2 ^ 2) from wb_shr (k := 2) l1 (by decide), show (3689348814741910323 : Int64) = lN 3689348814741910323 from rfl, wb_and (by omega) (by decide), wb_and (by omega) (by decide), lN_add]
    congr 1
  have c3 : bcL3 (lN (bS (fun i => bs2 (bs1 (bB x i))) 8)) = lN (bS (fun i => bs3 (bs2 (bs1 (bB x i)))) 8) := by
    unfold bcL3
    have q8 := bS_68 8 (fun i => bs2 (bs1 (bB x i))) (fun i => by have := bs21_k _ (hb i); omega)
    rw [show bM 1 8 = 72340172838076673 from rfl] at q8
    rw [show (((lN (bS (fun i => bs2 (bs1 (bB x i))) 8)).toUInt64 >>> ((4 : Int32).toInt64.toUInt64 &&& Int64.toUInt64 63)).toInt64) = lN (bS (fun i => bs2 (bs1 (bB x i))) 8 / 2 ^ 4) from wb_shr (k := 4) l2 (by decide), show (1085102592571150095 : Int64) = lN 1085102592571150095 from rfl, lN_add, wb_and (by omega) (by decide)]
    congr 1
  unfold bcL
  rw [c1, c2, c3]
  have c4 : bcL4 (lN (bS (fun i => bs3 (bs2 (bs1 (bB x i)))) 8)) = lN z4 := by
    unfold bcL4
    rw [show (((lN (bS (fun i => bs3 (bs2 (bs1 (bB x i)))) 8)).toUInt64 >>> ((8 : Int32).toInt64.toUInt64 &&& Int64.toUInt64 63)).toInt64) = lN (bS (fun i => bs3 (bs2 (bs1 (bB x i)))) 8 / 2 ^ 8) from wb_shr (k := 8) b0 (by decide), lN_add, g4]
  have c5 : bcL5 (lN z4) = lN z5 := by
    unfold bcL5
    rw [show (((lN z4).toUInt64 >>> ((16 : Int32).toInt64.toUInt64 &&& Int64.toUInt64 63)).toInt64) = lN (z4 / 2 ^ 16) from wb_shr (k := 16) b4 (by decide), lN_add, g5]
  have c6 : bcL6 (lN z5) = lN z6 := by
    unfold bcL6
    rw [show (((lN z5).toUInt64 >>> ((32 : Int32).toInt64.toUInt64 &&& Int64.toUInt64 63)).toInt64) = lN (z5 / 2 ^ 32) from wb_shr (k := 32) b5 (by decide), lN_add, g6]
  rw [c4, c5, c6, lN_i, pk_and _ 7 (by decide)]
  have e7 : (nI z6).toBitVec.toNat % 2 ^ 7 = z6 % 128 := by
    show (BitVec.ofNat 32 z6).toNat % 2 ^ 7 = _
    rw [BitVec.toNat_ofNat]
    omega
  rw [e7, g7, show (64 : Nat) = 8 * 8 from rfl, bB_ct x 8]
  congr 1
  have ee : (fun i => bs3 (bs2 (bs1 (bB x i)))) = fun i => fb_ct (fun k => (bB x i).testBit k) 8 := funext fun i => bs_ct _ (hb i)
  rw [ee]
set_option maxRecDepth 100000 in
theorem bcI_n : ∀ x, x < 1024 → bcI (nI x) = nI (fb_ct (fun k => x.testBit k) 10) := by decide +kernel
theorem sm_ct (P : Nat → Prop) [h : ∀ k, Decidable (P k)] : ∀ n, sm (fun k => b2 (P k)) n = nI (fb_ct (fun k => decide (P k)) n)
  | 0 => rfl
  | n + 1 => by
    rw [sm_1, fb_ct_succ, sm_ct P n, ← nI_add]
    congr 1
    by_cases q : P n
    · rw [b2_t q]; simp [q]; rfl
    · rw [b2_f q]; simp [q]; rfl
theorem ldp_none {σ : Stt} {t f : Int32} : ∀ {n : Nat}, ldp σ t f n = none ↔ ∀ r, r < n → ¬ (σ 1 (7 * r + 4) = t ∧ σ 1 (7 * r + 3) = f)
  | 0 => ⟨fun _ r h => absurd h (Nat.not_lt_zero _), fun _ => rfl⟩
  | n + 1 => by
    have ih := ldp_none (σ := σ) (t := t) (f := f) (n := n)
    by_cases c : σ 1 (7 * n + 4) = t ∧ σ 1 (7 * n + 3) = f
    · refine ⟨fun h => ?_, fun h => absurd c (h n (by omega))⟩
      exfalso
      unfold ldp at h
      rw [if_pos c] at h
      cases hk : ldp σ t f n with
      | none => rw [hk] at h; cases h
      | some k =>
        rw [hk] at h
        dsimp only at h
        by_cases d : σ 1 (7 * n + 1) < σ 1 (7 * k + 1)
        · rw [if_pos d] at h; cases h
        · rw [if_neg d] at h; cases h
    · rw [ldp_f c, ih]
      refine ⟨fun h r hr => ?_, fun h r hr => h r (by omega)⟩
      rcases Nat.lt_or_ge r n with q | q
      · exact h r q
      · rw [show r = n by omega]; exact c
theorem opI_none {σ : Stt} {t f : Int32} {n : Nat} (hn : n < 2 ^ 31) : opI (ldp σ t f n) = -1 ↔ ∀ r, r < n → ¬ (σ 1 (7 * r + 4) = t ∧ σ 1 (7 * r + 3) = f) := by
  rw [← ldp_none]
  cases h : ldp σ t f n with
  | none => exact ⟨fun _ => rfl, fun _ => rfl⟩
  | some k =>
    have := (ldp_lt h).1
    exact ⟨fun z => absurd z (nI_m1 (n := k) (by omega)), fun z => by cases z⟩
/-- the families of a town, as a set of bits -/
theorem fmb_n {σ : Stt} {t : Int32} : ∀ n, (∀ r, r < n → ∃ k, k < 60 ∧ σ 1 (7 * r + 3) = nI k) → ∃ x, x < 2 ^ 60 ∧ fmb σ t n = lN x ∧ ∀ k, x.testBit k = decide (∃ r, r < n ∧ σ 1 (7 * r + 4) = t ∧ σ 1 (7 * r + 3) = nI k ∧ k < 60)
  | 0, _ => ⟨0, by decide, rfl, fun k => by rw [Nat.zero_testBit]; exact (decide_eq_false (fun ⟨r, h, _⟩ => absurd h (Nat.not_lt_zero _))).symm⟩
  | n + 1, h => by
    obtain ⟨x, hx, e, hb⟩ := fmb_n n (fun r hr => h r (by omega))
    by_cases c : σ 1 (7 * n + 4) = t
    · obtain ⟨k0, hk0, ek⟩ := h n (by omega)
      have hp : 2 ^ k0 < 2 ^ 60 := wb_lt2 hk0
      refine ⟨x ||| 2 ^ k0, Nat.or_lt_two_pow hx hp, ?_, fun k => ?_⟩
      · show (if _ then _ else _) = _
        rw [if_pos c, e, ek, show ((1 : Int64) <<< ((nI k0).toInt64 &&& 63)) = lN (1 * 2 ^ k0) from wb_shl 1 (by omega), Nat.one_mul, wb_or (by omega) (by omega)]
      · rw [Nat.testBit_or, hb, Nat.testBit_two_pow, ← Bool.decide_or]
        refine decide_eq_decide.mpr ⟨fun z => ?_, fun z => ?_⟩
        · rcases z with ⟨r, h1, h2⟩ | z
          · exact ⟨r, by omega, h2⟩
          · subst z
            exact ⟨n, by omega, c, ek, hk0⟩
        · obtain ⟨r, h1, h2, h3, h4⟩ := z
          rcases Nat.lt_or_ge r n with q | q
          · exact Or.inl ⟨r, q, h2, h3, h4⟩
          · rw [show r = n by omega, ek] at h3
            exact Or.inr ((nI_eq (by omega) (by omega)).mp h3)
    · refine ⟨x, hx, ?_, fun k => ?_⟩
      · show (if _ then _ else _) = _
        rw [if_neg c, e]
      · rw [hb]
        refine decide_eq_decide.mpr ⟨fun ⟨r, h1, h2⟩ => ⟨r, by omega, h2⟩, fun ⟨r, h1, h2⟩ => ⟨r, ?_, h2⟩⟩
        rcases Nat.lt_or_ge r n with q | q
        · exact q
        · rw [show r = n by omega] at h2
          exact absurd h2.1 c
theorem tmb_n {σ : Stt} {f : Int32} : ∀ n, (∀ r, r < n → σ 1 (7 * r + 4) = -1 ∨ ∃ k, k < 10 ∧ σ 1 (7 * r + 4) = nI k) → ∃ x, x < 2 ^ 10 ∧ tmb σ f n = nI x ∧ ∀ k, x.testBit k = decide (∃ r, r < n ∧ σ 1 (7 * r + 4) = nI k ∧ σ 1 (7 * r + 3) = f ∧ k < 10)
  | 0, _ => ⟨0, by decide, rfl, fun k => by rw [Nat.zero_testBit]; exact (decide_eq_false (fun ⟨r, h, _⟩ => absurd h (Nat.not_lt_zero _))).symm⟩
  | n + 1, h => by
    obtain ⟨x, hx, e, hb⟩ := tmb_n (f := f) n (fun r hr => h r (by omega))
    by_cases c : σ 1 (7 * n + 3) = f ∧ ¬ σ 1 (7 * n + 4) = -1
    · obtain ⟨k0, hk0, ek⟩ := (h n (by omega)).resolve_left c.2
      have hp : 2 ^ k0 < 2 ^ 10 := wb_lt2 hk0
      refine ⟨x ||| 2 ^ k0, Nat.or_lt_two_pow hx hp, ?_, fun k => ?_⟩
      · show (if _ then _ else _) = _
        have hsh : ∀ j, j < 10 → ((1 : Int32) <<< (nI j &&& 31)) = nI (2 ^ j) := by decide +kernel
        rw [if_pos c, e, ek, hsh k0 hk0]
        refine Int32.toBitVec_inj.mp ?_
        rw [Int32.toBitVec_or]
        apply BitVec.eq_of_toNat_eq
        rw [BitVec.toNat_or, pk_tn (by omega), pk_tn (by omega), pk_tn (by have := Nat.or_lt_two_pow hx hp; omega)]
      · rw [Nat.testBit_or, hb, Nat.testBit_two_pow, ← Bool.decide_or]
        refine decide_eq_decide.mpr ⟨fun z => ?_, fun z => ?_⟩
        · rcases z with ⟨r, h1, h2⟩ | z
          · exact ⟨r, by omega, h2⟩
          · subst z
            exact ⟨n, by omega, ek, c.1, hk0⟩
        · obtain ⟨r, h1, h2, h3, h4⟩ := z
          rcases Nat.lt_or_ge r n with q | q
          · exact Or.inl ⟨r, q, h2, h3, h4⟩
          · rw [show r = n by omega, ek] at h2
            exact Or.inr ((nI_eq (by omega) (by omega)).mp h2)
    · refine ⟨x, hx, ?_, fun k => ?_⟩
      · show (if _ then _ else _) = _
        rw [if_neg c, e]
      · rw [hb]
        refine decide_eq_decide.mpr ⟨fun ⟨r, h1, h2⟩ => ⟨r, by omega, h2⟩, fun ⟨r, h1, h2⟩ => ⟨r, ?_, h2⟩⟩
        rcases Nat.lt_or_ge r n with q | q
        · exact q
        · rw [show r = n by omega] at h2
          exact absurd ⟨h2.2.1, by rw [h2.1]; exact nI_m1 (by omega)⟩ c
/-- Long.bitCount of them is how many families are known there -/
theorem fam_eq {σ : Stt} {t : Int32} (hI : Inv σ) : bcL (fmb σ t (nR σ)) = sm (fun r => b2 (¬ opI (ldp σ t (nI r) (nR σ)) = -1)) (nR σ) := by
  have h60 := hI.2.1.2
  have hf : ∀ r, r < nR σ → ∃ k, k < nR σ ∧ σ 1 (7 * r + 3) = nI k := fun r hr => (hI.2.2.2.1 r hr).2.2.2.1
  obtain ⟨x, hx, e, hb⟩ := fmb_n (σ := σ) (t := t) (nR σ) (fun r hr => (hf r hr).imp fun k hk => ⟨by omega, hk.2⟩)
  rw [e, bcL_n (by omega), sm_ct]
  congr 1
  have hs := fb_ct_split (fun k => x.testBit k) (nR σ) (64 - nR σ)
  rw [show nR σ + (64 - nR σ) = 64 by omega] at hs
  rw [hs]
  have z : fb_ct (fun k => x.testBit (nR σ + k)) (64 - nR σ) = 0 := fb_ct_zero.mpr (fun k _ => by
    rw [hb]
    refine decide_eq_false (fun ⟨r, h1, h2, h3, h4⟩ => ?_)
    obtain ⟨j, hj, ej⟩ := hf r h1
    rw [ej] at h3
    have := (nI_eq (by omega) (by omega)).mp h3
    omega)
  rw [z, Nat.add_zero]
  refine fb_ct_cong (fun k hk => ?_)
  rw [hb]
  refine decide_eq_decide.mpr ?_
  rw [opI_none (by omega)]
  refine ⟨fun ⟨r, h1, h2, h3, h4⟩ z => z r h1 ⟨h2, h3⟩, fun h => ?_⟩
  refine Classical.byContradiction (fun q => h (fun r hr z => q ⟨r, hr, z.1, z.2, by omega⟩))
/-- Integer.bitCount of the towns is how many towns know a family -/
theorem twn_eq {σ : Stt} {f : Int32} (hI : Inv σ) : bcI (tmb σ f (nR σ)) = sm (fun t => b2 (¬ opI (ldp σ (nI t) f (nR σ)) = -1)) (nT σ) := by
  have h60 := hI.2.1.2
  have h10 := hI.1.2
  have hf : ∀ r, r < nR σ → σ 1 (7 * r + 4) = -1 ∨ ∃ k, k < nT σ ∧ σ 1 (7 * r + 4) = nI k := fun r hr => (hI.2.2.2.1 r hr).2.2.2.2.1
  obtain ⟨x, hx, e, hb⟩ := tmb_n (σ := σ) (f := f) (nR σ) (fun r hr => (hf r hr).imp id (fun z => z.imp fun k hk => ⟨by omega, hk.2⟩))
  rw [e, bcI_n x hx, sm_ct]
  congr 1
  have hs := fb_ct_split (fun k => x.testBit k) (nT σ) (10 - nT σ)
  rw [show nT σ + (10 - nT σ) = 10 by omega] at hs
  rw [hs]
  have z : fb_ct (fun k => x.testBit (nT σ + k)) (10 - nT σ) = 0 := fb_ct_zero.mpr (fun k _ => by
    rw [hb]
    refine decide_eq_false (fun ⟨r, h1, h2, h3, h4⟩ => ?_)
    rcases hf r h1 with q | ⟨j, hj, ej⟩
    · rw [q] at h2
      exact nI_m1 (n := nT σ + k) (by omega) h2.symm
    · rw [ej] at h2
      have := (nI_eq (by omega) (by omega)).mp h2
      omega)
  rw [z, Nat.add_zero]
  refine fb_ct_cong (fun k hk => ?_)
  rw [hb]
  refine decide_eq_decide.mpr ?_
  rw [opI_none (by omega)]
  refine ⟨fun ⟨r, h1, h2, h3, h4⟩ z => z r h1 ⟨h2, h3⟩, fun h => ?_⟩
  refine Classical.byContradiction (fun q => h (fun r hr z => q ⟨r, hr, z.1, z.2, by omega⟩))
