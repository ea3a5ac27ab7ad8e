/-! WHAT IS TOLD: functions of the state that class and reference both compute -/
section SPEC0
def figD (p d0 d1 d2 d3 d4 d5 : Int32) : Int32 := if p = 0 then 1 else if p = 1 then d0 else if p = 2 then d1 else if p = 3 then d2 else if p = 4 then d3 else if p = 5 then d4 else d5
def figR (p r1 r2 r3 r4 r5 r6 r7 : Int32) : Int32 := if p = 0 then r2 else if p = 1 then r3 else if p = 2 then r4 else if p = 3 then r1 else if p = 4 then r5 else if p = 5 then r6 else r7
theorem sm_t {f : Nat → Int32} {n : Nat} {x v : Int32} (hx : x = sm f n) (h : f n = v) : x + v = sm f (n + 1) := by rw [hx, sm_1, h]
theorem sm_z {f : Nat → Int32} {n : Nat} {x : Int32} (hx : x = sm f n) (h : f n = 0) : x = sm f (n + 1) := by rw [hx, sm_1, h, Int32.add_zero]
def inB (σ : Stt) (c : Int32) : Int32 := sm (fun r => b2 (σ 1 (7 * r + 5) = c)) (nR σ)
def hidB (σ : Stt) (c : Int32) : Int32 := sm (fun r => b2 (σ 1 (7 * r + 6) = 1 ∧ σ 1 (7 * r + 5) = c)) (nR σ)
def duty (σ : Stt) (k r : Nat) (b : Int32) : Int32 := ((σ 3 (7 * k + 2) * σ 1 (7 * r)) + (σ 3 (7 * k + 3) * σ 1 (7 * r + 1))) >>> (b &&& 31)
def mn (x y : Int32) : Int32 := if y < x then y else x
def mx (x y : Int32) : Int32 := if x < y then y else x
def owedF (σ : Stt) (c : Int32) (k : Nat) (b : Int32) (r : Nat) : Int32 := if σ 1 (7 * r + 6) = 0 ∧ σ 1 (7 * r + 5) = c then duty σ k r (mn b (σ 1 (7 * r + 2))) else 0
def owedS (σ : Stt) (c : Int32) (k : Nat) (b : Int32) : Int32 := sm (owedF σ c k b) (nR σ)
def hdutF (σ : Stt) (c : Int32) (k r : Nat) : Int32 := if σ 1 (7 * r + 6) = 1 ∧ σ 1 (7 * r + 5) = c then duty σ k r 0 else 0
def hdutS (σ : Stt) (c : Int32) (k : Nat) : Int32 := sm (hdutF σ c k) (nR σ)
def attn (σ : Stt) (c : Int32) (k : Nat) : Int32 := (σ 3 (7 * k + 5) + σ 3 (7 * k + 4)) + hidB σ c
def fineS (σ : Stt) (c : Int32) (k : Nat) (left : Int32) : Int32 := if attn σ c k < 10 then 0 else mx 0 (mn (3 * hdutS σ c k) left)
def rin (σ : Stt) (t : Int32) : Int32 := sm (fun r => b2 (σ 1 (7 * r + 4) = t)) (nR σ)
def cin (σ : Stt) (t : Int32) : Int32 := sm (fun k => b2 (σ 2 (4 * k) = t ∧ ¬ 0 < σ 2 (4 * k + 1))) (nC σ)
def dps (σ : Stt) (t : Int32) : Nat → Int32 × Int32
  | 0 => (-1, -1)
  | n + 1 => if σ 1 (7 * n + 4) = t ∧ (dps σ t n).2 < σ 1 (7 * n + 1) then (nI n, σ 1 (7 * n + 1)) else dps σ t n
/-- the rumour of a family in a town with the least depth, the first of several -/
def ldp (σ : Stt) (t f : Int32) : Nat → Option Nat
  | 0 => none
  | n + 1 => if σ 1 (7 * n + 4) = t ∧ σ 1 (7 * n + 3) = f then (match ldp σ t f n with | none => some n | some k => if σ 1 (7 * n + 1) < σ 1 (7 * k + 1) then some n else some k) else ldp σ t f n
def opI (o : Option Nat) : Int32 := match o with | none => -1 | some k => nI k
def fmb (σ : Stt) (t : Int32) : Nat → Int64
  | 0 => 0
  | n + 1 => if σ 1 (7 * n + 4) = t then fmb σ t n ||| ((1 : Int64) <<< ((σ 1 (7 * n + 3)).toInt64 &&& 63)) else fmb σ t n
def tmb (σ : Stt) (f : Int32) : Nat → Int32
  | 0 => 0
  | n + 1 => if σ 1 (7 * n + 3) = f ∧ ¬ σ 1 (7 * n + 4) = -1 then tmb σ f n ||| ((1 : Int32) <<< (σ 1 (7 * n + 4) &&& 31)) else tmb σ f n
def gdp (σ : Stt) (f : Int32) : Nat → Int32
  | 0 => -1
  | n + 1 => if σ 1 (7 * n + 3) = f ∧ ¬ σ 1 (7 * n + 4) = -1 then mx (gdp σ f n) (σ 1 (7 * n + 1)) else gdp σ f n
def ngS (σ : Stt) (f : Int32) : Int32 := sm (fun r => b2 (σ 1 (7 * r + 3) = f ∧ ¬ (σ 1 (7 * r + 4) = -1 ∧ σ 1 (7 * r + 5) = -1))) (nR σ)
def goneS (σ : Stt) : Int32 := sm (fun r => b2 (σ 1 (7 * r + 4) = -1 ∧ σ 1 (7 * r + 5) = -1)) (nR σ)
def wayS (σ : Stt) : Int32 := sm (fun k => b2 (0 < σ 2 (4 * k + 1))) (nC σ)
def hsN (σ : Stt) : Int32 := sm (fun r => b2 (¬ σ 1 (7 * r + 4) = -1)) (nR σ)
def hsD (σ : Stt) : Int32 := sm (fun r => if ¬ σ 1 (7 * r + 4) = -1 then σ 1 (7 * r + 1) else 0) (nR σ)
/-- what carrier() and count() tell -/
def figC (σ : Stt) (k : Nat) (p : Int32) : Int32 := if p = 0 then σ 2 (4 * k) else if p = 1 then σ 2 (4 * k + 1) else if p = 2 then σ 2 (4 * k + 2) else if p = 3 then inB σ (nI k) else if p = 4 then hidB σ (nI k) else σ 2 (4 * k + 3)
def figL (σ : Stt) (p : Int32) : Int32 := if p = 0 then σ 0 0 else if p = 1 then σ 0 1 else if p = 2 then σ 0 2 else if p = 3 then nI (nR σ) else if p = 4 then goneS σ else if p = 5 then nI (nC σ) else if p = 6 then wayS σ else if p = 7 then σ 0 5 else if p = 8 then σ 0 6 else if p = 9 then σ 0 7 else σ 0 8
/-- the checksum: on from d with n numbers of f -/
def dfo (d : Int64) (f : Nat → Int32) : Nat → Int64
  | 0 => d
  | n + 1 => dfo d f n * 31 + (f n).toInt64
theorem dfo_1 (d : Int64) (f : Nat → Int32) (n : Nat) : dfo d f (n + 1) = dfo d f n * 31 + (f n).toInt64 := rfl
theorem dfo_cong {d : Int64} {f g : Nat → Int32} : ∀ {n : Nat}, (∀ k, k < n → f k = g k) → dfo d f n = dfo d g n
  | 0, _ => rfl
  | n + 1, h => by rw [dfo_1, dfo_1, dfo_cong (fun k hk => h k (by omega)), h n (by omega)]
theorem dfo_app (d : Int64) (f : Nat → Int32) (n : Nat) : ∀ m, dfo d f (n + m) = dfo (dfo d f n) (fun k => f (n + k)) m
  | 0 => rfl
  | m + 1 => by rw [dfo_1, ← dfo_app d f n m]; rfl
def figRS (σ : Stt) (r : Nat) (p : Int32) : Int32 := figR p (σ 1 (7 * r + 3)) (σ 1 (7 * r)) (σ 1 (7 * r + 1)) (σ 1 (7 * r + 2)) (σ 1 (7 * r + 4)) (σ 1 (7 * r + 5)) (σ 1 (7 * r + 6))
def figDS (σ : Stt) (k : Nat) (p : Int32) : Int32 := figD p (σ 3 (7 * k + 1)) (σ 3 (7 * k + 2)) (σ 3 (7 * k + 3)) (σ 3 (7 * k + 4)) (σ 3 (7 * k + 5)) (σ 3 (7 * k + 6))
def dgR (σ : Stt) (d : Int64) : Nat → Int64
  | 0 => d
  | n + 1 => dfo (dgR σ d n) (fun w => figRS σ n (nI w)) 7
def dgC (σ : Stt) (d : Int64) : Nat → Int64
  | 0 => d
  | n + 1 => dfo (dgC σ d n) (fun w => figC σ n (nI w)) 6
/-- one town's roads to greater ones -/
def dgD1 (σ : Stt) (a : Nat) (d : Int64) : Nat → Int64
  | 0 => d
  | n + 1 => if a < n ∧ σ 3 (7 * rk a n) = 1 then dfo (dgD1 σ a d n) (fun w => figDS σ (rk a n) (nI w)) 7 else dgD1 σ a d n
def dgD (σ : Stt) (m : Nat) (d : Int64) : Nat → Int64
  | 0 => d
  | n + 1 => dgD1 σ n (dgD σ m d n) m
def digS (σ : Stt) : Int64 := dgC σ (dgR σ (dgD σ (nT σ) (dfo 499 (fun w => figL σ (nI w)) 11) (nT σ)) (nR σ)) (nC σ)
/-- the tests at a call's head -/
def tOK (σ : Stt) (t : Int32) : Bool := decide (0 ≤ t ∧ t < σ 0 1)
def rOK (σ : Stt) (r : Int32) : Bool := decide (0 ≤ r ∧ r < σ 0 3)
def cOK (σ : Stt) (c : Int32) : Bool := decide (0 ≤ c ∧ c < σ 0 4)
def wi (lo v hi : Int32) : Bool := decide (lo ≤ v ∧ v ≤ hi)
def onW (σ : Stt) (k : Nat) : Bool := decide (0 < σ 2 (4 * k + 1))
def has (σ : Stt) (k i : Nat) : Bool := decide (σ 1 (7 * i + 5) = nI k)
theorem okT {σ : Stt} {t : Int32} (h1 : σ 0 1 = nI (nT σ)) (h10 : nT σ ≤ 10) (h : tOK σ t = true) : ∃ a, a < nT σ ∧ t = nI a := by
  obtain ⟨h2, h3⟩ := of_decide_eq_true h
  obtain ⟨a, ha, rfl⟩ := nI_of (x := t) (Int32.not_lt.mpr h2)
  rw [h1] at h3
  exact ⟨a, (nI_ltI ha (by omega)).mp h3, rfl⟩
theorem okT2 {σ : Stt} {a : Nat} (h1 : σ 0 1 = nI (nT σ)) (h10 : nT σ ≤ 10) (h : a < nT σ) : tOK σ (nI a) = true := by
  unfold tOK
  rw [h1]
  exact decide_eq_true ⟨nI_pos' (by omega), nI_lt h (by omega)⟩
theorem okR2 {σ : Stt} {a : Nat} (h1 : σ 0 3 = nI (nR σ)) (h10 : nR σ ≤ 60) (h : a < nR σ) : rOK σ (nI a) = true := by
  unfold rOK
  rw [h1]
  exact decide_eq_true ⟨nI_pos' (by omega), nI_lt h (by omega)⟩
theorem okC2 {σ : Stt} {a : Nat} (h1 : σ 0 4 = nI (nC σ)) (h10 : nC σ ≤ 8) (h : a < nC σ) : cOK σ (nI a) = true := by
  unfold cOK
  rw [h1]
  exact decide_eq_true ⟨nI_pos' (by omega), nI_lt h (by omega)⟩
def rdb (σ : Stt) (ad : Nat → Nat) (a b : Nat) : Option Nat := if σ 3 (7 * rk a b) = 1 then some (ad (300 + rk a b)) else none
theorem rdq_ab {σ : Stt} {ad : Nat → Nat} {a b : Nat} (hb : b < 10) : rdq σ ad (10 * a + b) = rdb σ ad a b := by
  unfold rdq rdb
  rw [show (10 * a + b) / 10 = a by omega, show (10 * a + b) % 10 = b by omega]
end SPEC0
