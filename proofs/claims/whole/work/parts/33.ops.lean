/-! WHAT CHANGES: the state after each call, and the class's picture after one written number -/
section OPS0
/-- a rumour is laid somewhere, and hidden no more -/
def lay (σ : Stt) (i : Nat) (t b : Int32) : Stt := su (su (su σ 1 (7 * i + 4) t) 1 (7 * i + 5) b) 1 (7 * i + 6) 0
/-- the proofs of one rumour are burnt -/
def burn1 (τ : Stt) (b : Int32) (n : Nat) : Stt := su (su τ 1 (7 * n + 2) (τ 1 (7 * n + 2) - mn b (τ 1 (7 * n + 2)))) 0 5 (τ 0 5 + mn b (τ 1 (7 * n + 2)))
def burnS (τ : Stt) (c b : Int32) (n : Nat) : Stt := if τ 1 (7 * n + 6) = 0 ∧ τ 1 (7 * n + 5) = c then burn1 τ b n else τ
def burnN (σ : Stt) (c b : Int32) : Nat → Stt
  | 0 => σ
  | n + 1 => burnS (burnN σ c b n) c b n
def takeS (τ : Stt) (c : Int32) (n : Nat) : Stt := if τ 1 (7 * n + 6) = 1 ∧ τ 1 (7 * n + 5) = c then lay τ n (-1) (-1) else τ
def takeN (σ : Stt) (c : Int32) : Nat → Stt
  | 0 => σ
  | n + 1 => takeS (takeN σ c n) c n
/-- the gate looks -/
def insp (σ : Stt) (c : Int32) (k : Nat) : Stt := if attn σ c k < 10 then su σ 3 (7 * k + 5) (attn σ c k) else takeN (su (su (su σ 3 (7 * k + 5) (attn σ c k)) 3 (7 * k + 5) (attn σ c k - 10)) 0 8 (σ 0 8 + 1)) c (nR σ)
def payS (σ : Stt) (i k : Nat) (d f : Int32) : Stt := su (su (su (su (su σ 2 (4 * i + 2) (σ 2 (4 * i + 2) - (d + f))) 2 (4 * i + 3) (σ 2 (4 * i + 3) + (d + f))) 3 (7 * k + 6) (σ 3 (7 * k + 6) + (d + f))) 0 6 (σ 0 6 + d)) 0 7 (σ 0 7 + f)
def setO (σ : Stt) (i : Nat) (t h : Int32) : Stt := su (su σ 2 (4 * i) t) 2 (4 * i + 1) h
def leftF (x h : Int32) : Int32 := if 0 < x then mx 0 (x - h) else x
def passS (τ : Stt) (h : Int32) (n : Nat) : Stt := su τ 2 (4 * n + 1) (leftF (τ 2 (4 * n + 1)) h)
def passN (σ : Stt) (h : Int32) : Nat → Stt
  | 0 => σ
  | n + 1 => passS (passN σ h n) h n
/-- a new rumour, carrier, road -/
def rum7 (l d p f t : Int32) (j : Nat) : Int32 := if j = 0 then l else if j = 1 then d else if j = 2 then p else if j = 3 then f else if j = 4 then t else if j = 5 then -1 else 0
def addRm (σ : Stt) (l d p f t : Int32) : Stt := fun a j => if a = 0 ∧ j = 3 then nI (nR σ + 1) else if a = 1 ∧ 7 * nR σ ≤ j ∧ j < 7 * nR σ + 7 then rum7 l d p f t (j - 7 * nR σ) else σ a j
def car4 (t p : Int32) (j : Nat) : Int32 := if j = 0 then t else if j = 2 then p else 0
def addCr (σ : Stt) (t p : Int32) : Stt := fun a j => if a = 0 ∧ j = 4 then nI (nC σ + 1) else if a = 2 ∧ 4 * nC σ ≤ j ∧ j < 4 * nC σ + 4 then car4 t p (j - 4 * nC σ) else σ a j
def rd7 (h t u v : Int32) (j : Nat) : Int32 := if j = 0 then 1 else if j = 1 then h else if j = 2 then t else if j = 3 then u else if j = 4 then v else 0
def bld (σ : Stt) (k : Nat) (h t u v : Int32) : Stt := fun a j => if a = 0 ∧ j = 2 then σ 0 2 + 1 else if a = 3 ∧ 7 * k ≤ j ∧ j < 7 * k + 7 then rd7 h t u v (j - 7 * k) else σ a j
/-- a count of words is not touched by -/
theorem burnN_nR (σ : Stt) (c b : Int32) : ∀ n, nR (burnN σ c b n) = nR σ
  | 0 => rfl
  | n + 1 => by
    rw [show burnN σ c b (n + 1) = burnS (burnN σ c b n) c b n from rfl]
    unfold burnS
    split
    · exact (nR_eq (by unfold burn1; rw [su_j (by decide), su_k (by decide)])).trans (burnN_nR σ c b n)
    · exact burnN_nR σ c b n
theorem burnN_nC (σ : Stt) (c b : Int32) : ∀ n, nC (burnN σ c b n) = nC σ
  | 0 => rfl
  | n + 1 => by
    rw [show burnN σ c b (n + 1) = burnS (burnN σ c b n) c b n from rfl]
    unfold burnS
    split
    · exact (nC_eq (by unfold burn1; rw [su_j (by decide), su_k (by decide)])).trans (burnN_nC σ c b n)
    · exact burnN_nC σ c b n
theorem takeN_nR (σ : Stt) (c : Int32) : ∀ n, nR (takeN σ c n) = nR σ
  | 0 => rfl
  | n + 1 => by
    rw [show takeN σ c (n + 1) = takeS (takeN σ c n) c n from rfl]
    unfold takeS
    split
    · exact (nR_eq (by unfold lay; rw [su_k (by decide), su_k (by decide), su_k (by decide)])).trans (takeN_nR σ c n)
    · exact takeN_nR σ c n
theorem takeN_nC (σ : Stt) (c : Int32) : ∀ n, nC (takeN σ c n) = nC σ
  | 0 => rfl
  | n + 1 => by
    rw [show takeN σ c (n + 1) = takeS (takeN σ c n) c n from rfl]
    unfold takeS
    split
    · exact (nC_eq (by unfold lay; rw [su_k (by decide), su_k (by decide), su_k (by decide)])).trans (takeN_nC σ c n)
    · exact takeN_nC σ c n
theorem passN_nC (σ : Stt) (h : Int32) : ∀ n, nC (passN σ h n) = nC σ
  | 0 => rfl
  | n + 1 => (nC_eq (by rw [show passN σ h (n + 1) = passS (passN σ h n) h n from rfl]; unfold passS; rw [su_k (by decide)])).trans (passN_nC σ h n)
theorem passN_nR (σ : Stt) (h : Int32) : ∀ n, nR (passN σ h n) = nR σ
  | 0 => rfl
  | n + 1 => (nR_eq (by rw [show passN σ h (n + 1) = passS (passN σ h n) h n from rfl]; unfold passS; rw [su_k (by decide)])).trans (passN_nR σ h n)
/-- rows further on are as they were -/
theorem burnN_row (σ : Stt) (c b : Int32) : ∀ n j, 7 * n ≤ j → burnN σ c b n 1 j = σ 1 j
  | 0, _, _ => rfl
  | n + 1, j, h => by
    rw [show burnN σ c b (n + 1) = burnS (burnN σ c b n) c b n from rfl]
    unfold burnS
    split
    · show burn1 (burnN σ c b n) b n 1 j = _
      unfold burn1
      rw [su_k (by decide), su_j (by omega)]
      exact burnN_row σ c b n j (by omega)
    · exact burnN_row σ c b n j (by omega)
theorem burnN_hid (σ : Stt) (c b : Int32) : ∀ n i, burnN σ c b n 1 (7 * i + 6) = σ 1 (7 * i + 6)
  | 0, _ => rfl
  | n + 1, i => by
    rw [show burnN σ c b (n + 1) = burnS (burnN σ c b n) c b n from rfl]
    unfold burnS
    split
    · show burn1 (burnN σ c b n) b n 1 (7 * i + 6) = _
      unfold burn1
      rw [su_k (by decide), su_j (by omega)]
      exact burnN_hid σ c b n i
    · exact burnN_hid σ c b n i
theorem takeN_row (σ : Stt) (c : Int32) : ∀ n j, 7 * n ≤ j → takeN σ c n 1 j = σ 1 j
  | 0, _, _ => rfl
  | n + 1, j, h => by
    rw [show takeN σ c (n + 1) = takeS (takeN σ c n) c n from rfl]
    unfold takeS
    split
    · show lay (takeN σ c n) n (-1) (-1) 1 j = _
      unfold lay
      rw [su_j (by omega), su_j (by omega), su_j (by omega)]
      exact takeN_row σ c n j (by omega)
    · exact takeN_row σ c n j (by omega)
theorem burnN_3 (σ : Stt) (c b : Int32) : ∀ n a, a ≠ 0 → a ≠ 1 → burnN σ c b n a = σ a
  | 0, _, _, _ => rfl
  | n + 1, a, h, h1 => by
    rw [show burnN σ c b (n + 1) = burnS (burnN σ c b n) c b n from rfl]
    unfold burnS
    split
    · show burn1 (burnN σ c b n) b n a = _
      unfold burn1
      funext j
      rw [su_k h, su_k h1]
      exact congrFun (burnN_3 σ c b n a h h1) j
    · exact burnN_3 σ c b n a h h1
theorem takeN_3 (σ : Stt) (c : Int32) : ∀ n a, a ≠ 1 → takeN σ c n a = σ a
  | 0, _, _ => rfl
  | n + 1, a, h1 => by
    rw [show takeN σ c (n + 1) = takeS (takeN σ c n) c n from rfl]
    unfold takeS
    split
    · show lay (takeN σ c n) n (-1) (-1) a = _
      unfold lay
      funext j
      rw [su_k h1, su_k h1, su_k h1]
      exact congrFun (takeN_3 σ c n a h1) j
    · exact takeN_3 σ c n a h1
end OPS0
