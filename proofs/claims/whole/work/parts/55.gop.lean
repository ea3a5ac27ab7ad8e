/-! PURE: what the reference's go and pass leave behind is what the ops say -/
section GOP
/-- rows of a kind are walked one by one, each by itself -/
def itN (St : Stt → Nat → Stt) (σ : Stt) : Nat → Stt
  | 0 => σ
  | n + 1 => St (itN St σ n) n
def row7 (σ : Stt) (r k : Nat) : Int32 := σ 1 (7 * r + k)
theorem it_cl {St : Stt → Nat → Stt} {g : (Nat → Int32) → Int32} {C : (Nat → Int32) → Nat → Int32} (h : ∀ τ n a j, St τ n a j = if a = 0 ∧ j = 5 then τ 0 5 + g (row7 τ n) else if a = 1 ∧ 7 * n ≤ j ∧ j < 7 * n + 7 then C (row7 τ n) (j - 7 * n) else τ a j) (σ : Stt) :
    ∀ n a j, itN St σ n a j = if a = 0 ∧ j = 5 then σ 0 5 + sm (fun r => g (row7 σ r)) n else if a = 1 ∧ j < 7 * n then C (row7 σ (j / 7)) (j % 7) else σ a j
  | 0, a, j => by
    by_cases h1 : a = 0 ∧ j = 5
    · rw [if_pos h1, h1.1, h1.2]
      exact (Int32.add_zero _).symm
    · rw [if_neg h1, if_neg (fun z => absurd z.2 (by omega))]
      rfl
  | n + 1, a, j => by
    have ih := it_cl h σ n
    have er : row7 (itN St σ n) n = row7 σ n := by
      funext k
      unfold row7
      rw [ih, if_neg (fun z => absurd z.1 (by decide)), if_neg (fun z => absurd z.2 (by omega))]
    show St (itN St σ n) n a j = _
    rw [h, er]
    by_cases h1 : a = 0 ∧ j = 5
    · rw [if_pos h1, if_pos h1, ih, if_pos ⟨rfl, rfl⟩, sm_1, Int32.add_assoc]
    · rw [if_neg h1, if_neg h1]
      by_cases h2 : a = 1 ∧ 7 * n ≤ j ∧ j < 7 * n + 7
      · rw [if_pos h2, if_pos ⟨h2.1, by omega⟩, show j / 7 = n by omega, show j % 7 = j - 7 * n by omega]
      · rw [if_neg h2, ih, if_neg h1]
        by_cases h3 : a = 1 ∧ j < 7 * n
        · rw [if_pos h3, if_pos ⟨h3.1, by omega⟩]
        · rw [if_neg h3, if_neg (fun z => by
            rcases Nat.lt_or_ge j (7 * n) with q | q
            · exact h3 ⟨z.1, q⟩
            · exact h2 ⟨z.1, q, by omega⟩)]
/-- one step of the reference's loop in go -/
def goR1 (τ : Stt) (c b : Int32) (f : Bool) (n : Nat) : Stt := if τ 1 (7 * n + 5) = c then (if τ 1 (7 * n + 6) = 1 then (if f = true then lay τ n (-1) (-1) else τ) else burn1 τ b n) else τ
def goRN (τ : Stt) (c b : Int32) (f : Bool) : Nat → Stt
  | 0 => τ
  | n + 1 => goR1 (goRN τ c b f n) c b f n
theorem goRN_it (τ : Stt) (c b : Int32) (f : Bool) : ∀ n, goRN τ c b f n = itN (fun τ n => goR1 τ c b f n) τ n
  | 0 => rfl
  | n + 1 => by show goR1 _ c b f n = goR1 _ c b f n; rw [goRN_it τ c b f n]
theorem burnN_it (τ : Stt) (c b : Int32) : ∀ n, burnN τ c b n = itN (fun τ n => burnS τ c b n) τ n
  | 0 => rfl
  | n + 1 => by show burnS _ c b n = burnS _ c b n; rw [burnN_it τ c b n]
theorem takeN_it (τ : Stt) (c : Int32) : ∀ n, takeN τ c n = itN (fun τ n => takeS τ c n) τ n
  | 0 => rfl
  | n + 1 => by show takeS _ c n = takeS _ c n; rw [takeN_it τ c n]
/-- the three steps, cell by cell -/
def Cb (b : Int32) (ρ : Nat → Int32) (k : Nat) : Int32 := if k = 2 then ρ 2 - mn b (ρ 2) else ρ k
def Cl (ρ : Nat → Int32) (k : Nat) : Int32 := if k = 4 then -1 else if k = 5 then -1 else if k = 6 then 0 else ρ k
theorem same_cl {τ : Stt} {n : Nat} (a j : Nat) : τ a j = if a = 0 ∧ j = 5 then τ 0 5 + 0 else if a = 1 ∧ 7 * n ≤ j ∧ j < 7 * n + 7 then row7 τ n (j - 7 * n) else τ a j := by
  by_cases h1 : a = 0 ∧ j = 5
  · rw [if_pos h1, h1.1, h1.2, Int32.add_zero]
  · rw [if_neg h1]
    by_cases h2 : a = 1 ∧ 7 * n ≤ j ∧ j < 7 * n + 7
    · rw [if_pos h2, h2.1]
      unfold row7
      rw [show 7 * n + (j - 7 * n) = j by omega]
    · rw [if_neg h2]
theorem burn1_cl {τ : Stt} {b : Int32} {n : Nat} (a j : Nat) : burn1 τ b n a j = if a = 0 ∧ j = 5 then τ 0 5 + mn b (row7 τ n 2) else if a = 1 ∧ 7 * n ≤ j ∧ j < 7 * n + 7 then Cb b (row7 τ n) (j - 7 * n) else τ a j := by
  unfold burn1 Cb row7
  by_cases h1 : a = 0 ∧ j = 5
  · rw [if_pos h1, h1.1, h1.2, su_s]
  · rw [if_neg h1]
    have e : su (su τ 1 (7 * n + 2) (τ 1 (7 * n + 2) - mn b (τ 1 (7 * n + 2)))) 0 5 (τ 0 5 + mn b (τ 1 (7 * n + 2))) a j = su τ 1 (7 * n + 2) (τ 1 (7 * n + 2) - mn b (τ 1 (7 * n + 2))) a j := if_neg h1
    rw [e]
    by_cases h2 : a = 1 ∧ 7 * n ≤ j ∧ j < 7 * n + 7
    · rw [if_pos h2, h2.1]
      by_cases h3 : j = 7 * n + 2
      · rw [h3, su_s, if_pos (by omega)]
      · rw [su_j h3, if_neg (by omega), show 7 * n + (j - 7 * n) = j by omega]
    · rw [if_neg h2]
      exact if_neg (fun z => h2 ⟨z.1, by omega, by omega⟩)
theorem lay_cl {τ : Stt} {n : Nat} (a j : Nat) : lay τ n (-1) (-1) a j = if a = 0 ∧ j = 5 then τ 0 5 + 0 else if a = 1 ∧ 7 * n ≤ j ∧ j < 7 * n + 7 then Cl (row7 τ n) (j - 7 * n) else τ a j := by
  unfold lay Cl row7
  by_cases h1 : a = 0 ∧ j = 5
  · rw [if_pos h1, h1.1, h1.2, su_k (by decide), su_k (by decide), su_k (by decide), Int32.add_zero]
  · rw [if_neg h1]
    by_cases h2 : a = 1 ∧ 7 * n ≤ j ∧ j < 7 * n + 7
    · rw [if_pos h2, h2.1]
      by_cases h6 : j = 7 * n + 6
      · rw [h6, su_s, if_neg (by omega), if_neg (by omega), if_pos (by omega)]
      · rw [su_j h6]
        by_cases h5 : j = 7 * n + 5
        · rw [h5, su_s, if_neg (by omega), if_pos (by omega)]
        · rw [su_j h5]
          by_cases h4 : j = 7 * n + 4
          · rw [h4, su_s, if_pos (by omega)]
          · rw [su_j h4, if_neg (by omega), if_neg (by omega), if_neg (by omega), show 7 * n + (j - 7 * n) = j by omega]
    · rw [if_neg h2]
      by_cases ha : a = 1
      · subst ha
        rw [su_j (by omega), su_j (by omega), su_j (by omega)]
      · rw [su_k ha, su_k ha, su_k ha]
def gR (c b : Int32) (ρ : Nat → Int32) : Int32 := if ρ 5 = c ∧ ¬ ρ 6 = 1 then mn b (ρ 2) else 0
def cR (c b : Int32) (f : Bool) (ρ : Nat → Int32) : Nat → Int32 := if ρ 5 = c then (if ρ 6 = 1 then (if f = true then Cl ρ else ρ) else Cb b ρ) else ρ
def gB (c b : Int32) (ρ : Nat → Int32) : Int32 := if ρ 6 = 0 ∧ ρ 5 = c then mn b (ρ 2) else 0
def cB (c b : Int32) (ρ : Nat → Int32) : Nat → Int32 := if ρ 6 = 0 ∧ ρ 5 = c then Cb b ρ else ρ
def cT (c : Int32) (ρ : Nat → Int32) : Nat → Int32 := if ρ 6 = 1 ∧ ρ 5 = c then Cl ρ else ρ
theorem goR1_cl (c b : Int32) (f : Bool) (τ : Stt) (n a j : Nat) : goR1 τ c b f n a j = if a = 0 ∧ j = 5 then τ 0 5 + gR c b (row7 τ n) else if a = 1 ∧ 7 * n ≤ j ∧ j < 7 * n + 7 then cR c b f (row7 τ n) (j - 7 * n) else τ a j := by
  by_cases h1 : τ 1 (7 * n + 5) = c
  · have h1' : row7 τ n 5 = c := h1
    by_cases h2 : τ 1 (7 * n + 6) = 1
    · have h2' : row7 τ n 6 = 1 := h2
      have eg : gR c b (row7 τ n) = 0 := if_neg (fun z => z.2 h2')
      by_cases h3 : f = true
      · have ec : cR c b f (row7 τ n) = Cl (row7 τ n) := by unfold cR; rw [if_pos h1', if_pos h2', if_pos h3]
        have el : goR1 τ c b f n = lay τ n (-1) (-1) := by unfold goR1; rw [if_pos h1, if_pos h2, if_pos h3]
        rw [eg, ec, el]; exact lay_cl a j
      · have ec : cR c b f (row7 τ n) = row7 τ n := by unfold cR; rw [if_pos h1', if_pos h2', if_neg h3]
        have el : goR1 τ c b f n = τ := by unfold goR1; rw [if_pos h1, if_pos h2, if_neg h3]
        rw [eg, ec, el]; exact same_cl a j
    · have h2' : ¬ row7 τ n 6 = 1 := h2
      have eg : gR c b (row7 τ n) = mn b (row7 τ n 2) := if_pos ⟨h1', h2'⟩
      have ec : cR c b f (row7 τ n) = Cb b (row7 τ n) := by unfold cR; rw [if_pos h1', if_neg h2']
      have el : goR1 τ c b f n = burn1 τ b n := by unfold goR1; rw [if_pos h1, if_neg h2]
      rw [eg, ec, el]; exact burn1_cl a j
  · have h1' : ¬ row7 τ n 5 = c := h1
    have eg : gR c b (row7 τ n) = 0 := if_neg (fun z => h1' z.1)
    have ec : cR c b f (row7 τ n) = row7 τ n := if_neg h1'
    have el : goR1 τ c b f n = τ := if_neg h1
    rw [eg, ec, el]; exact same_cl a j
theorem burnS_cl (c b : Int32) (τ : Stt) (n a j : Nat) : burnS τ c b n a j = if a = 0 ∧ j = 5 then τ 0 5 + gB c b (row7 τ n) else if a = 1 ∧ 7 * n ≤ j ∧ j < 7 * n + 7 then cB c b (row7 τ n) (j - 7 * n) else τ a j := by
  by_cases h1 : τ 1 (7 * n + 6) = 0 ∧ τ 1 (7 * n + 5) = c
  · have h1' : row7 τ n 6 = 0 ∧ row7 τ n 5 = c := h1
    rw [show gB c b (row7 τ n) = mn b (row7 τ n 2) from if_pos h1', show cB c b (row7 τ n) = Cb b (row7 τ n) from if_pos h1', show burnS τ c b n = burn1 τ b n from if_pos h1]
    exact burn1_cl a j
  · have h1' : ¬ (row7 τ n 6 = 0 ∧ row7 τ n 5 = c) := h1
    rw [show gB c b (row7 τ n) = 0 from if_neg h1', show cB c b (row7 τ n) = row7 τ n from if_neg h1', show burnS τ c b n = τ from if_neg h1]
    exact same_cl a j
theorem takeS_cl (c : Int32) (τ : Stt) (n a j : Nat) : takeS τ c n a j = if a = 0 ∧ j = 5 then τ 0 5 + (0 : Int32) else if a = 1 ∧ 7 * n ≤ j ∧ j < 7 * n + 7 then cT c (row7 τ n) (j - 7 * n) else τ a j := by
  by_cases h1 : τ 1 (7 * n + 6) = 1 ∧ τ 1 (7 * n + 5) = c
  · have h1' : row7 τ n 6 = 1 ∧ row7 τ n 5 = c := h1
    rw [show cT c (row7 τ n) = Cl (row7 τ n) from if_pos h1', show takeS τ c n = lay τ n (-1) (-1) from if_pos h1]
    exact lay_cl a j
  · have h1' : ¬ (row7 τ n 6 = 1 ∧ row7 τ n 5 = c) := h1
    rw [show cT c (row7 τ n) = row7 τ n from if_neg h1', show takeS τ c n = τ from if_neg h1]
    exact same_cl a j
theorem goRN_cl (σ : Stt) (c b : Int32) (f : Bool) (n a j : Nat) : goRN σ c b f n a j = if a = 0 ∧ j = 5 then σ 0 5 + sm (fun r => gR c b (row7 σ r)) n else if a = 1 ∧ j < 7 * n then cR c b f (row7 σ (j / 7)) (j % 7) else σ a j := by
  rw [goRN_it]
  exact it_cl (g := gR c b) (C := cR c b f) (goR1_cl c b f) σ n a j
theorem burnN_cl (σ : Stt) (c b : Int32) (n a j : Nat) : burnN σ c b n a j = if a = 0 ∧ j = 5 then σ 0 5 + sm (fun r => gB c b (row7 σ r)) n else if a = 1 ∧ j < 7 * n then cB c b (row7 σ (j / 7)) (j % 7) else σ a j := by
  rw [burnN_it]
  exact it_cl (g := gB c b) (C := cB c b) (burnS_cl c b) σ n a j
theorem takeN_cl (σ : Stt) (c : Int32) (n a j : Nat) : takeN σ c n a j = if a = 0 ∧ j = 5 then σ 0 5 + sm (fun _ => 0) n else if a = 1 ∧ j < 7 * n then cT c (row7 σ (j / 7)) (j % 7) else σ a j := by
  rw [takeN_it]
  exact it_cl (g := fun _ => 0) (C := cT c) (takeS_cl c) σ n a j
theorem goRN_o (τ : Stt) (c b : Int32) (f : Bool) (n : Nat) {a j : Nat} (h : ¬ (a = 0 ∧ j = 5)) (h1 : a ≠ 1) : goRN τ c b f n a j = τ a j := by
  rw [goRN_cl, if_neg h, if_neg (fun z => h1 z.1)]
theorem sm_0 {f : Nat → Int32} : ∀ {n : Nat}, (∀ k, k < n → f k = 0) → sm f n = 0
  | 0, _ => rfl
  | n + 1, h => by rw [sm_1, sm_0 (fun k hk => h k (by omega)), h n (by omega)]; rfl
/-- the rows: reference's loop against burnN, or burnN and takeN -/
theorem go_rows {σ τ : Stt} {c b : Int32} {N : Nat} (hH : ∀ i, i < N → σ 1 (7 * i + 6) = 0 ∨ σ 1 (7 * i + 6) = 1) (h1 : τ 1 = σ 1) (f : Bool) (σ' : Stt) (hs : σ' 1 = burnN σ c b N 1) :
    goRN τ c b f N 1 = if f = true then takeN σ' c N 1 else burnN σ c b N 1 := by
  funext j
  have er : ∀ r, row7 τ r = row7 σ r := fun r => by funext k; unfold row7; rw [h1]
  have e0 : goRN τ c b f N 1 j = if j < 7 * N then cR c b f (row7 σ (j / 7)) (j % 7) else σ 1 j := by
    rw [goRN_cl, if_neg (fun z => absurd z.1 (by decide))]
    by_cases q : j < 7 * N
    · rw [if_pos ⟨rfl, q⟩, if_pos q, er]
    · rw [if_neg (fun z => q z.2), if_neg q, h1]
  have e1 : ∀ j, burnN σ c b N 1 j = if j < 7 * N then cB c b (row7 σ (j / 7)) (j % 7) else σ 1 j := fun j => by
    rw [burnN_cl, if_neg (fun z => absurd z.1 (by decide))]
    by_cases q : j < 7 * N
    · rw [if_pos ⟨rfl, q⟩, if_pos q]
    · rw [if_neg (fun z => q z.2), if_neg q]
  have e2 : takeN σ' c N 1 j = if j < 7 * N then cT c (row7 σ' (j / 7)) (j % 7) else σ' 1 j := by
    rw [takeN_cl, if_neg (fun z => absurd z.1 (by decide))]
    by_cases q : j < 7 * N
    · rw [if_pos ⟨rfl, q⟩, if_pos q]
    · rw [if_neg (fun z => q z.2), if_neg q]
  by_cases q : j < 7 * N
  · have hr : j / 7 < N := by omega
    have hk : j % 7 < 7 := Nat.mod_lt _ (by decide)
    have h6 : row7 σ (j / 7) 6 = 0 ∨ row7 σ (j / 7) 6 = 1 := hH _ hr
    have hv : ∀ k, k < 7 → row7 σ' (j / 7) k = cB c b (row7 σ (j / 7)) k := fun k hk => by
      show σ' 1 (7 * (j / 7) + k) = _
      rw [hs, e1, if_pos (by omega), show (7 * (j / 7) + k) / 7 = j / 7 by omega, show (7 * (j / 7) + k) % 7 = k by omega]
    have e1j := e1 j
    generalize row7 σ (j / 7) = ρ at *
    generalize row7 σ' (j / 7) = ρ' at *
    have v5 : ρ' 5 = ρ 5 := by
      rw [hv 5 (by decide)]
      unfold cB
      split <;> rfl
    have v6 : ρ' 6 = ρ 6 := by
      rw [hv 6 (by decide)]
      unfold cB
      split <;> rfl
    rw [e0, if_pos q]
    by_cases c5 : ρ 5 = c
    · rcases h6 with z | z
      · have hcb : cB c b ρ = Cb b ρ := if_pos ⟨z, c5⟩
        have hcr : cR c b f ρ = Cb b ρ := by unfold cR; rw [if_pos c5, if_neg (by rw [z]; decide)]
        have hct : cT c ρ' = ρ' := if_neg (fun y => absurd ((v6.trans z).symm.trans y.1) (by decide))
        rw [hcr]
        cases f with
        | false => rw [if_neg (by decide : ¬ false = true), e1j, if_pos q, hcb]
        | true => rw [if_pos rfl, e2, if_pos q, hct, hv _ hk, hcb]
      · have hcb : cB c b ρ = ρ := if_neg (fun y => absurd (y.1.symm.trans z) (by decide))
        have hct : cT c ρ' = Cl ρ' := if_pos ⟨v6.trans z, v5.trans c5⟩
        cases f with
        | false =>
          have hcr : cR c b false ρ = ρ := by unfold cR; rw [if_pos c5, if_pos z, if_neg (by decide)]
          rw [hcr, if_neg (by decide : ¬ false = true), e1j, if_pos q, hcb]
        | true =>
          have hcr : cR c b true ρ = Cl ρ := by unfold cR; rw [if_pos c5, if_pos z, if_pos rfl]
          rw [hcr, if_pos rfl, e2, if_pos q, hct]
          unfold Cl
          rw [hv _ hk, hcb]
    · have hcb : cB c b ρ = ρ := if_neg (fun y => c5 y.2)
      have hcr : cR c b f ρ = ρ := if_neg c5
      have hct : cT c ρ' = ρ' := if_neg (fun y => c5 (v5.symm.trans y.2))
      rw [hcr]
      cases f with
      | false => rw [if_neg (by decide : ¬ false = true), e1j, if_pos q, hcb]
      | true => rw [if_pos rfl, e2, if_pos q, hct, hv _ hk, hcb]
  · rw [e0, if_neg q]
    cases f with
    | false => rw [if_neg (by decide : ¬ false = true), e1, if_neg q]
    | true => rw [if_pos rfl, e2, if_neg q, hs, e1, if_neg q]
theorem burnN_r56 (σ : Stt) (c b : Int32) (N i k : Nat) (h : k ≠ 2) (hk : k < 7) : burnN σ c b N 1 (7 * i + k) = σ 1 (7 * i + k) := by
  rw [burnN_cl, if_neg (fun z => absurd z.1 (by decide))]
  by_cases q : 1 = 1 ∧ 7 * i + k < 7 * N
  · rw [if_pos q, show (7 * i + k) / 7 = i by omega, show (7 * i + k) % 7 = k by omega]
    unfold cB
    split
    · unfold Cb; rw [if_neg h]; rfl
    · rfl
  · rw [if_neg q]
theorem attn_burn (σ : Stt) (c b : Int32) (N kd : Nat) : attn (burnN σ c b N) c kd = attn σ c kd := by
  unfold attn hidB
  rw [burnN_3 _ _ _ _ _ (by decide) (by decide), burnN_nR]
  congr 1
  refine sm_cong (fun r _ => ?_)
  rw [burnN_r56 _ _ _ _ _ 6 (by decide) (by decide), burnN_r56 _ _ _ _ _ 5 (by decide) (by decide)]
theorem go_eq {σ : Stt} (hH : ∀ i, i < nR σ → σ 1 (7 * i + 6) = 0 ∨ σ 1 (7 * i + 6) = 1) {k kd : Nat} {c t b dt fn z u : Int32} (f : Bool) (hf : (f = true ∧ ¬ attn σ c kd < 10 ∧ z = 10 ∧ u = 1) ∨ (f = false ∧ attn σ c kd < 10 ∧ z = 0 ∧ u = 0))
    {S1 S2 S3 S4 S5 S6 S7 S8 S9 S10 : Stt} (e1 : S1 = su σ 3 (7 * kd + 5) (σ 3 (7 * kd + 5) + (σ 3 (7 * kd + 4) + hidB σ c - z))) (e2 : S2 = su S1 0 8 (S1 0 8 + u)) (e3 : S3 = goRN S2 c b f (nR σ)) (e4 : S4 = su S3 3 (7 * kd + 6) (S3 3 (7 * kd + 6) + (dt + fn)))
    (e5 : S5 = su S4 0 6 (S4 0 6 + dt)) (e6 : S6 = su S5 0 7 (S5 0 7 + fn)) (e7 : S7 = su S6 2 (4 * k + 2) (S6 2 (4 * k + 2) - dt - fn)) (e8 : S8 = su S7 2 (4 * k + 3) (S7 2 (4 * k + 3) + dt + fn)) (e9 : S9 = su S8 2 (4 * k) t) (e10 : S10 = su S9 2 (4 * k + 1) (S9 3 (7 * kd + 1))) :
    S10 = setO (payS (insp (burnN σ c b (nR σ)) c kd) k kd dt fn) k t (σ 3 (7 * kd + 1)) := by
  -- the reference's side
  have s1 : S2 1 = σ 1 := by rw [e2, e1]; funext j; rw [su_k (by decide), su_k (by decide)]
  have s2 : S2 2 = σ 2 := by rw [e2, e1]; funext j; rw [su_k (by decide), su_k (by decide)]
  have s3 : ∀ j, j ≠ 7 * kd + 5 → S2 3 j = σ 3 j := fun j h => by rw [e2, e1, su_k (by decide), su_j h]
  have s35 : S2 3 (7 * kd + 5) = σ 3 (7 * kd + 5) + (σ 3 (7 * kd + 4) + hidB σ c - z) := by rw [e2, e1, su_k (by decide), su_s]
  have s0 : ∀ j, j ≠ 8 → S2 0 j = σ 0 j := fun j h => by rw [e2, e1, su_j h, su_k (by decide)]
  have s08 : S2 0 8 = σ 0 8 + u := by rw [e2, e1, su_s, su_k (by decide)]
  have sa : ∀ a j, 3 < a → S2 a j = σ a j := fun a j h => by rw [e2, e1, su_k (by omega), su_k (by omega)]
  have r0 : ∀ j, j ≠ 5 → S3 0 j = S2 0 j := fun j h => by rw [e3, goRN_o _ _ _ _ _ (fun y => h y.2) (by decide)]
  have ra : ∀ a j, 1 < a → S3 a j = S2 a j := fun a j h => by rw [e3, goRN_o _ _ _ _ _ (fun y => by omega) (by omega)]
  -- the op's side
  have hb := attn_burn σ c b (nR σ) kd
  obtain ⟨P, hP⟩ : ∃ P, P = insp (burnN σ c b (nR σ)) c kd := ⟨_, rfl⟩
  have p2 : P 2 = σ 2 := by rw [hP, insp_2, burnN_3 _ _ _ _ _ (by decide) (by decide)]
  have p3 : ∀ j, j ≠ 7 * kd + 5 → P 3 j = σ 3 j := fun j h => by rw [hP, insp_3 h, burnN_3 _ _ _ _ _ (by decide) (by decide)]
  have b05 : burnN σ c b (nR σ) 0 5 = S3 0 5 := by
    rw [e3, goRN_cl, if_pos ⟨rfl, rfl⟩, burnN_cl, if_pos ⟨rfl, rfl⟩, s0 5 (by decide)]
    congr 1
    refine sm_cong (fun r hr => ?_)
    have er : row7 S2 r = row7 σ r := by funext k; unfold row7; rw [s1]
    show gB c b (row7 σ r) = gR c b (row7 S2 r)
    rw [er]
    by_cases c5 : row7 σ r 5 = c
    · rcases hH r hr with q | q
      · have q' : row7 σ r 6 = 0 := q
        exact (if_pos ⟨q', c5⟩).trans (if_pos (c := row7 σ r 5 = c ∧ ¬ row7 σ r 6 = 1) ⟨c5, by rw [q']; decide⟩).symm
      · have q' : row7 σ r 6 = 1 := q
        exact (if_neg (c := row7 σ r 6 = 0 ∧ row7 σ r 5 = c) (fun y => absurd (y.1.symm.trans q') (by decide))).trans (if_neg (c := row7 σ r 5 = c ∧ ¬ row7 σ r 6 = 1) (fun y => y.2 q')).symm
    · exact (if_neg (c := row7 σ r 6 = 0 ∧ row7 σ r 5 = c) (fun y => c5 y.2)).trans (if_neg (c := row7 σ r 5 = c ∧ ¬ row7 σ r 6 = 1) (fun y => c5 y.1)).symm
  have b0 : ∀ j, j ≠ 5 → burnN σ c b (nR σ) 0 j = σ 0 j := fun j h => by rw [burnN_cl, if_neg (fun y => h y.2), if_neg (fun y => absurd y.1 (by decide))]
  have ba : ∀ a j, 1 < a → burnN σ c b (nR σ) a j = σ a j := fun a j h => by rw [burnN_3 _ _ _ _ _ (by omega) (by omega)]
  have key : P 1 = S3 1 ∧ (∀ j, j ≠ 8 → P 0 j = burnN σ c b (nR σ) 0 j) ∧ P 0 8 = σ 0 8 + u ∧ P 3 (7 * kd + 5) = attn σ c kd - z ∧ ∀ a j, 3 < a → P a j = σ a j := by
    rcases hf with ⟨rfl, h1, rfl, rfl⟩ | ⟨rfl, h1, rfl, rfl⟩
    · have hi : P = takeN (su (su (su (burnN σ c b (nR σ)) 3 (7 * kd + 5) (attn σ c kd)) 3 (7 * kd + 5) (attn σ c kd - 10)) 0 8 (burnN σ c b (nR σ) 0 8 + 1)) c (nR σ) := by rw [hP]; unfold insp; rw [hb, if_neg h1, burnN_nR]
      refine ⟨?_, fun j h => ?_, ?_, ?_, fun a j h => ?_⟩
      · rw [e3, go_rows hH s1 true (su (su (su (burnN σ c b (nR σ)) 3 (7 * kd + 5) (attn σ c kd)) 3 (7 * kd + 5) (attn σ c kd - 10)) 0 8 (burnN σ c b (nR σ) 0 8 + 1)) (by funext j; rw [su_k (by decide), su_k (by decide), su_k (by decide)]), if_pos rfl, hi]
      · rw [hi, takeN_3 _ _ _ _ (by decide), su_j h, su_k (by decide), su_k (by decide)]
      · rw [hi, takeN_3 _ _ _ _ (by decide), su_s, b0 8 (by decide)]
      · rw [hi, takeN_3 _ _ _ _ (by decide), su_k (by decide), su_s]
      · rw [hi, takeN_3 _ _ _ _ (by omega), su_k (by omega), su_k (by omega), su_k (by omega), ba a j (by omega)]
    · have hi : P = su (burnN σ c b (nR σ)) 3 (7 * kd + 5) (attn σ c kd) := by rw [hP]; unfold insp; rw [hb, if_pos h1]
      refine ⟨?_, fun j h => ?_, ?_, ?_, fun a j h => ?_⟩
      · rw [e3, go_rows hH s1 false (burnN σ c b (nR σ)) rfl, if_neg (by decide), hi]
        funext j
        rw [su_k (by decide)]
      · rw [hi, su_k (by decide)]
      · rw [hi, su_k (by decide), b0 8 (by decide), Int32.add_zero]
      · rw [hi, su_s, Int32.sub_zero]
      · rw [hi, su_k (by omega), ba a j (by omega)]
  obtain ⟨k1, k0, k08, k35, ka⟩ := key
  rw [← hP]
  clear hP
  have at_ : σ 3 (7 * kd + 5) + (σ 3 (7 * kd + 4) + hidB σ c - z) = attn σ c kd - z := by
    unfold attn
    rw [Int32.sub_eq_add_neg, Int32.sub_eq_add_neg, Int32.add_assoc, Int32.add_assoc, Int32.add_assoc]
  -- rows of S10
  have q3 : ∀ j, S10 3 j = S4 3 j := fun j => by rw [e10, e9, e8, e7, e6, e5, su_k (by decide), su_k (by decide), su_k (by decide), su_k (by decide), su_k (by decide), su_k (by decide)]
  have w9 : S9 3 (7 * kd + 1) = σ 3 (7 * kd + 1) := by rw [e9, e8, e7, e6, e5, e4, su_k (by decide), su_k (by decide), su_k (by decide), su_k (by decide), su_k (by decide), su_j (by omega), ra 3 _ (by decide), s3 _ (by omega)]
  have w6 : S6 2 = σ 2 := by funext j; rw [e6, e5, e4, su_k (by decide), su_k (by decide), su_k (by decide), ra 2 _ (by decide), s2]
  funext a j
  unfold setO payS
  rcases (by omega : a = 0 ∨ a = 1 ∨ a = 2 ∨ a = 3 ∨ 3 < a) with rfl | rfl | rfl | rfl | ha
  · have l : S10 0 j = S6 0 j := by rw [e10, e9, e8, e7, su_k (by decide), su_k (by decide), su_k (by decide), su_k (by decide)]
    rw [l, su_k (by decide), su_k (by decide)]
    have r4 : ∀ j, S4 0 j = S3 0 j := fun j => by rw [e4, su_k (by decide)]
    by_cases h7 : j = 7
    · rw [h7, e6, su_s, e5, su_j (by decide), r4, r0 _ (by decide), s0 _ (by decide), su_s, k0 _ (by decide), b0 _ (by decide)]
    · rw [e6, su_j h7, su_j h7]
      by_cases h6 : j = 6
      · rw [h6, e5, su_s, r4, r0 _ (by decide), s0 _ (by decide), su_s, k0 _ (by decide), b0 _ (by decide)]
      · rw [e5, su_j h6, su_j h6, r4, su_k (by decide), su_k (by decide), su_k (by decide)]
        by_cases h8 : j = 8
        · rw [h8, r0 _ (by decide), s08, k08]
        · rw [k0 _ h8]
          by_cases h5 : j = 5
          · rw [h5, b05]
          · rw [b0 _ h5, r0 _ h5, s0 _ h8]
  · rw [e10, e9, e8, e7, e6, e5, e4]
    repeat rw [su_k (by decide)]
    rw [k1]
  · have l2 : ∀ j, S10 2 j = if j = 4 * k + 1 then σ 3 (7 * kd + 1) else if j = 4 * k then t else if j = 4 * k + 3 then σ 2 (4 * k + 3) + dt + fn else if j = 4 * k + 2 then σ 2 (4 * k + 2) - dt - fn else σ 2 j := fun j => by
      by_cases h1 : j = 4 * k + 1
      · rw [if_pos h1, h1, e10, su_s, w9]
      · rw [if_neg h1, e10, su_j h1]
        by_cases h0 : j = 4 * k
        · rw [if_pos h0, h0, e9, su_s]
        · rw [if_neg h0, e9, su_j h0]
          by_cases h3 : j = 4 * k + 3
          · rw [if_pos h3, h3, e8, su_s, e7, su_j (by omega), w6]
          · rw [if_neg h3, e8, su_j h3]
            by_cases h2 : j = 4 * k + 2
            · rw [if_pos h2, h2, e7, su_s, w6]
            · rw [if_neg h2, e7, su_j h2, w6]
    rw [l2]
    by_cases h1 : j = 4 * k + 1
    · rw [if_pos h1, h1, su_s]
    · rw [if_neg h1, su_j h1]
      by_cases h0 : j = 4 * k
      · rw [if_pos h0, h0, su_s]
      · rw [if_neg h0, su_j h0, su_k (by decide), su_k (by decide), su_k (by decide)]
        by_cases h3 : j = 4 * k + 3
        · rw [if_pos h3, h3, su_s, p2, Int32.add_assoc]
        · rw [if_neg h3, su_j h3]
          by_cases h2 : j = 4 * k + 2
          · rw [if_pos h2, h2, su_s, p2, Int32.sub_eq_add_neg, Int32.sub_eq_add_neg, Int32.sub_eq_add_neg, Int32.neg_add, Int32.add_assoc, Int32.sub_eq_add_neg]
          · rw [if_neg h2, su_j h2, p2]
  · rw [q3, su_k (by decide), su_k (by decide), su_k (by decide), su_k (by decide), e4]
    by_cases h6 : j = 7 * kd + 6
    · rw [h6, su_s, su_s, ra 3 _ (by decide), s3 _ (by omega), p3 _ (by omega)]
    · rw [su_j h6, su_j h6, su_k (by decide), su_k (by decide), ra 3 _ (by decide)]
      by_cases h5 : j = 7 * kd + 5
      · rw [h5, s35, k35, at_]
      · rw [s3 _ h5, p3 _ h5]
  · rw [e10, e9, e8, e7, e6, e5, e4]
    repeat rw [su_k (by omega)]
    rw [ra _ _ (by omega), sa _ _ ha, ka _ _ ha]
/-- pass -/
theorem passN_o (σ : Stt) (h : Int32) : ∀ n a j, a ≠ 2 → passN σ h n a j = σ a j
  | 0, _, _, _ => rfl
  | n + 1, a, j, ha => by
    show passS (passN σ h n) h n a j = _
    unfold passS
    rw [su_k ha]
    exact passN_o σ h n a j ha
theorem pass_comm (σ : Stt) (h v : Int32) : ∀ n, su (passN σ h n) 0 0 v = passN (su σ 0 0 v) h n
  | 0 => rfl
  | n + 1 => by
    show su (passS (passN σ h n) h n) 0 0 v = passS (passN (su σ 0 0 v) h n) h n
    rw [← pass_comm σ h v n]
    unfold passS
    rw [su_k (a := 2) (by decide)]
    funext a j
    by_cases h0 : a = 0
    · subst h0
      rw [su_k (k := 2) (by decide)]
      by_cases hj : j = 0
      · rw [hj, su_s, su_s]
      · rw [su_j hj, su_j hj, su_k (by decide)]
    · rw [su_k h0]
      by_cases h2 : a = 2
      · subst h2
        by_cases hj : j = 4 * n + 1
        · rw [hj, su_s, su_s]
        · rw [su_j hj, su_j hj, su_k (by decide)]
      · rw [su_k h2, su_k h2, su_k h0]
theorem left_eq {σ : Stt} (hI : Inv σ) {i : Nat} (hi : i < nC σ) {h : Int32} (hh : wi 1 h 100 = true) : leftF (σ 2 (4 * i + 1)) h = (if 0 < σ 2 (4 * i + 1) - h then σ 2 (4 * i + 1) - h else 0) := by
  unfold leftF
  by_cases c : 0 < σ 2 (4 * i + 1)
  · rw [if_pos c]; rfl
  · rw [if_neg c, (left_0 hI hi).mpr c]
    obtain ⟨n, h1, h2, rfl⟩ := wiN (lo := 1) (hi := 100) (by decide) hh
    rw [if_neg ?_]
    refine Int32.not_lt.mpr (Int32.le_iff_toInt_le.mpr ?_)
    have := pk_sub_toInt (a := 0) (b := n) (by omega) (by omega)
    rw [show (nI 0 - nI n : Int32) = 0 - nI n from rfl] at this
    rw [this]
    show _ ≤ (0 : Int)
    omega
theorem come_iff {σ : Stt} (hI : Inv σ) {i : Nat} (hi : i < nC σ) {h : Int32} (hh : wi 1 h 100 = true) : wi 1 (σ 2 (4 * i + 1)) h = true ↔ (0 < σ 2 (4 * i + 1) ∧ mx 0 (σ 2 (4 * i + 1) - h) = 0) := by
  obtain ⟨x, hx, e⟩ := (hI.2.2.2.2.1 i hi).2
  obtain ⟨n, h1, h2, rfl⟩ := wiN (lo := 1) (hi := 100) (by decide) hh
  rw [e]
  have d := pk_sub_toInt (a := x) (b := n) (by omega) (by omega)
  have z0 : (0 : Int32).toInt = 0 := rfl
  unfold wi mx
  rw [decide_eq_true_iff]
  rw [show (1 : Int32) = nI 1 from rfl, nI_leI (by omega) (by omega), nI_leI (by omega) (by omega), show (0 : Int32) < nI x ↔ 0 < x from nI_ltI (a := 0) (by omega) (by omega)]
  refine ⟨fun q => ⟨by omega, ?_⟩, fun q => ⟨by omega, ?_⟩⟩
  · rw [if_neg]
    refine Int32.not_lt.mpr (Int32.le_iff_toInt_le.mpr ?_)
    rw [d, z0]
    omega
  · refine Classical.byContradiction (fun w => ?_)
    have c : (0 : Int32) < nI x - nI n := Int32.lt_iff_toInt_lt.mpr (by rw [d, z0]; omega)
    have q2 := q.2
    rw [if_pos c] at q2
    have := congrArg Int32.toInt q2
    rw [d, z0] at this
    omega
theorem pass_st {σ : Stt} (hI : Inv σ) {i : Nat} (hi : i < nC σ) {h : Int32} (hh : wi 1 h 100 = true) : passN σ h (i + 1) = su (passN σ h i) 2 (4 * i + 1) (if 0 < σ 2 (4 * i + 1) - h then σ 2 (4 * i + 1) - h else 0) := by
  show passS (passN σ h i) h i = _
  unfold passS
  rw [passN_row σ h i _ (by omega), left_eq hI hi hh]
end GOP
