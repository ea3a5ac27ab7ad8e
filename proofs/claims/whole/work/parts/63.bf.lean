def fb_sm (f : Nat → Nat) : Nat → Nat
  | 0 => 0
  | n + 1 => fb_sm f n + f n
theorem fb_sm_succ (f : Nat → Nat) (n : Nat) : fb_sm f (n + 1) = fb_sm f n + f n := rfl
theorem fb_sm_cong {f g : Nat → Nat} : ∀ {n : Nat}, (∀ k, k < n → f k = g k) → fb_sm f n = fb_sm g n
  | 0, _ => rfl
  | n + 1, h => by rw [fb_sm_succ, fb_sm_succ, fb_sm_cong (fun k hk => h k (by omega)), h n (by omega)]
theorem fb_sm_out (f : Nat → Nat) (v : Nat) {i n : Nat} (h : n ≤ i) : fb_sm (fun k => if k = i then v else f k) n = fb_sm f n :=
  fb_sm_cong fun k hk => if_neg (by omega)
theorem fb_sm_upd (f : Nat → Nat) (v : Nat) {i : Nat} : ∀ {n : Nat}, i < n → fb_sm (fun k => if k = i then v else f k) n + f i = fb_sm f n + v
  | 0, h => absurd h (Nat.not_lt_zero i)
  | n + 1, h => by
    rw [fb_sm_succ, fb_sm_succ]
    rcases Nat.lt_or_ge i n with q | q
    · have := fb_sm_upd f v q
      have e : (if n = i then v else f n) = f n := if_neg (by omega)
      rw [e]
      omega
    · have e : i = n := by omega
      subst e
      rw [fb_sm_out f v (Nat.le_refl _)]
      simp only [if_true]
      omega
/-! PURE: the reference's search: rounds over all roads until nothing is better -/
section BF
def bv (x : Int64) : Nat := if x = -1 then 300000000000 else x.toInt.toNat
def mu (β : Nat → Int64) : Nat := fb_sm (fun k => bv (β k)) 60
def m1 (β : Nat → Int64) : Nat := fb_ct (fun k => decide (β k = -1)) 60
def BI (σ : Stt) (u P fr : Nat) (β : Nat → Int64) : Prop := (∀ k, k < 60 → β k = -1 ∨ ∃ v, β k = lN v ∧ v + m1 β * 3570000009 ≤ 60 * 3570000009 ∧ k / 6 < nT σ ∧ k % 6 ≤ P ∧ ∃ n, wk σ u P fr n (k / 6) (P - k % 6) v) ∧ β (6 * fr + P) = 0
def RL1 (σ : Stt) (u : Nat) (β : Nat → Int64) (a b i j : Nat) : Prop := ∀ vs, vs < 2 ^ 62 → β (6 * a + i) = lN vs → ∃ v', v' < 2 ^ 62 ∧ β (6 * b + i - j) = lN v' ∧ v' ≤ vs + 1000000 * wD σ u a b j + wH σ a b
theorem lN_m1 {v : Nat} (h : v < 2 ^ 62) : ¬ lN v = -1 := fun z => by
  have q := congrArg Int64.toInt z
  rw [pk_lT (by omega)] at q
  have : (-1 : Int64).toInt = -1 := by decide
  omega
theorem bv_n {v : Nat} (h : v < 2 ^ 62) : bv (lN v) = v := by
  unfold bv
  rw [if_neg (lN_m1 h), pk_lT (by omega)]
  rfl
theorem BI.at {σ : Stt} {u P fr : Nat} {β : Nat → Int64} (h : BI σ u P fr β) {k : Nat} (hk : k < 60) (hn : ¬ β k = -1) : ∃ v, β k = lN v ∧ v + m1 β * 3570000009 ≤ 60 * 3570000009 ∧ k / 6 < nT σ ∧ k % 6 ≤ P ∧ ∃ n, wk σ u P fr n (k / 6) (P - k % 6) v := (h.1 k hk).resolve_left hn
def itsV (σ : Stt) (u a b j : Nat) (so : Int64) : Int64 := (so + (1000000 * (duty σ (rk a b) u (nI j)).toInt64)) + (σ 3 (7 * rk a b + 1)).toInt64
theorem itsV_n {σ : Stt} (hI : Inv σ) {u a b j vs : Nat} (hu : u < nR σ) (hr : isR σ a b) (hj : j < 32) : itsV σ u a b j (lN vs) = lN (vs + 1000000 * wD σ u a b j + wH σ a b) := by
  obtain ⟨g1, g2, g3, g4, -⟩ := edge hI hu hr
  obtain ⟨d1, d2⟩ := g1 j hj
  unfold itsV
  rw [d1, g2, nI_l (by omega), nI_l (by omega), show (1000000 : Int64) = lN 1000000 from rfl, lN_mul, lN_add, lN_add]
theorem m1_le (β : Nat → Int64) : m1 β ≤ 60 := fb_ct_le _ _
theorem m1_upd {β : Nat → Int64} {k V : Nat} (hk : k < 60) (hV : V < 2 ^ 62) : m1 (vp_updL β k (lN V)) + (if β k = -1 then 1 else 0) = m1 β := by
  have c := fb_ct_upd (fun k => decide (β k = -1)) false hk
  have e : (fun j => decide (vp_updL β k (lN V) j = -1)) = fun j => if j = k then false else decide (β j = -1) := by
    funext j
    by_cases q : j = k
    · rw [if_pos q, q, pk_uLs]
      exact decide_eq_false (lN_m1 hV)
    · rw [if_neg q, pk_uLn q]
  unfold m1
  rw [e]
  by_cases q : β k = -1
  · simp only [q] at c ⊢
    simpa using c
  · simp only [q] at c ⊢
    simpa using c
theorem mu_upd {β : Nat → Int64} {k V : Nat} (hk : k < 60) (hV : V < 2 ^ 62) : mu (vp_updL β k (lN V)) + bv (β k) = mu β + V := by
  have c := fb_sm_upd (fun k => bv (β k)) V hk
  have e : (fun j => bv (vp_updL β k (lN V) j)) = fun j => if j = k then V else bv (β j) := by
    funext j
    by_cases q : j = k
    · rw [if_pos q, q, pk_uLs, bv_n hV]
    · rw [if_neg q, pk_uLn q]
  unfold mu
  rw [e]
  exact c
/-- something is better by a road -/
theorem relax {σ : Stt} {u P fr a b i j vs : Nat} {β : Nat → Int64} (hI : Inv σ) (hu : u < nR σ) (hP : P ≤ 5) (h : BI σ u P fr β) (hr : isR σ a b) (hi : i < 6) (hj : j ≤ i) (hvs : vs < 2 ^ 62) (hso : β (6 * a + i) = lN vs) (hup : β (6 * b + i - j) = -1 ∨ itsV σ u a b j (lN vs) < β (6 * b + i - j)) :
    BI σ u P fr (vp_updL β (6 * b + i - j) (itsV σ u a b j (lN vs))) ∧ mu (vp_updL β (6 * b + i - j) (itsV σ u a b j (lN vs))) < mu β ∧ vp_updL β (6 * b + i - j) (itsV σ u a b j (lN vs)) (6 * a + i) = lN vs := by
  have h10 := hI.1.2
  obtain ⟨g1, g2, g3, g4, g5⟩ := edge hI hu hr
  obtain ⟨d1, d2⟩ := g1 j (by omega)
  have ha := hr.1
  have hb := hr.2.1
  have hk : 6 * b + i - j < 60 := by omega
  have hka : 6 * a + i < 60 := by omega
  obtain ⟨v0, e0, b0, n0, p0, m, w0⟩ := h.at hka (by rw [hso]; exact lN_m1 hvs)
  have ev : v0 = vs := by
    rw [hso] at e0
    have l := m1_le β
    exact ((pk_lEQ (by omega) (by omega)).mp e0).symm
  subst ev
  rw [show (6 * a + i) / 6 = a by omega, show (6 * a + i) % 6 = i by omega] at *
  obtain ⟨V, hV⟩ : ∃ V, V = v0 + 1000000 * wD σ u a b j + wH σ a b := ⟨_, rfl⟩
  have eI : itsV σ u a b j (lN v0) = lN V := by rw [hV]; exact itsV_n hI hu hr (by omega)
  rw [eI] at hup ⊢
  have hV1 : V ≤ v0 + 3570000009 := by omega
  have hV2 : V < 2 ^ 62 := by omega
  have hm := m1_upd (β := β) hk hV2
  have hmu := mu_upd (β := β) hk hV2
  have m60 := m1_le β
  have w1 : wk σ u P fr (m + 1) b (P - (i - j)) V := ⟨a, P - i, v0, w0, hr, by omega, by omega, by rw [show P - (i - j) - (P - i) = j by omega]; exact hV⟩
  have hs : 6 * fr + P ≠ 6 * b + i - j := fun z => by
    rw [← z, h.2] at hup
    rcases hup with y | y
    · exact absurd y (by decide)
    · rw [show (0 : Int64) = lN 0 from rfl] at y
      exact absurd ((pk_lLT (by omega) (by omega)).mp y) (Nat.not_lt_zero _)
  have hbound : V + m1 (vp_updL β (6 * b + i - j) (lN V)) * 3570000009 ≤ 60 * 3570000009 ∧ V < bv (β (6 * b + i - j)) := by
    rcases hup with y | y
    · rw [if_pos y] at hm
      refine ⟨by omega, ?_⟩
      unfold bv
      rw [if_pos y]
      omega
    · by_cases c : β (6 * b + i - j) = -1
      · rw [if_pos c] at hm
        refine ⟨by omega, ?_⟩
        unfold bv
        rw [if_pos c]
        omega
      · rw [if_neg c] at hm
        obtain ⟨vo, eo, bo, -⟩ := h.at hk c
        rw [eo] at y ⊢
        have := (pk_lLT (by omega) (by omega)).mp y
        rw [bv_n (by omega)]
        exact ⟨by omega, this⟩
  refine ⟨⟨fun k hk' => ?_, ?_⟩, by omega, ?_⟩
  · by_cases q : k = 6 * b + i - j
    · rw [q, pk_uLs]
      refine Or.inr ⟨V, rfl, hbound.1, by omega, by omega, m + 1, ?_⟩
      rw [show (6 * b + i - j) / 6 = b by omega, show (6 * b + i - j) % 6 = i - j by omega]
      exact w1
    · rw [pk_uLn q]
      refine (h.1 k hk').imp id (fun ⟨v, e1, e2, e3⟩ => ⟨v, e1, ?_, e3⟩)
      have : m1 (vp_updL β (6 * b + i - j) (lN V)) ≤ m1 β := by
        split at hm <;> omega
      exact Nat.le_trans (Nat.add_le_add_left (Nat.mul_le_mul_right 3570000009 this) v) e2
  · rw [pk_uLn hs]; exact h.2
  · rw [pk_uLn (by omega)]; exact hso
/-- goOn's loops -/
def GI (σ : Stt) (u P fr a b : Nat) (β cur : Nat → Int64) (fl : Int32) (D : Nat → Nat → Prop) : Prop := BI σ u P fr cur ∧ ((fl = 0 ∧ cur = β ∧ ∀ i j, D i j → i < 6 → j ≤ i → RL1 σ u β a b i j) ∨ (fl = 1 ∧ mu cur < mu β))
theorem GI.mono {σ : Stt} {u P fr a b : Nat} {β cur : Nat → Int64} {fl : Int32} {D D' : Nat → Nat → Prop} (h : GI σ u P fr a b β cur fl D) (hd : ∀ i j, D' i j → i < 6 → j ≤ i → D i j ∨ RL1 σ u β a b i j ∨ ¬ cur = β) : GI σ u P fr a b β cur fl D' :=
  ⟨h.1, h.2.imp (fun ⟨h1, h2, h3⟩ => ⟨h1, h2, fun i j q hi hj => by
    rcases hd i j q hi hj with y | y | y
    · exact h3 i j y hi hj
    · exact y
    · exact absurd h2 y⟩) id⟩
theorem GI.skip {σ : Stt} {u P fr a b i j : Nat} {β cur : Nat → Int64} {fl : Int32} (hI : Inv σ) (hu : u < nR σ) (hr : isR σ a b) (hi : i < 6) (hj : j ≤ i) (h : GI σ u P fr a b β cur fl (fun i' j' => i' < i ∨ (i' = i ∧ j' < j))) (h1 : ¬ cur (6 * b + i - j) = -1) (h2 : cur (6 * b + i - j) ≤ itsV σ u a b j (cur (6 * a + i))) :
    GI σ u P fr a b β cur fl (fun i' j' => i' < i ∨ (i' = i ∧ j' < j + 1)) := by
  refine h.mono (fun i' j' q hi' hj' => ?_)
  rcases q with q | ⟨q1, q2⟩
  · exact Or.inl (Or.inl q)
  · rcases Nat.lt_or_ge j' j with z | z
    · exact Or.inl (Or.inr ⟨q1, z⟩)
    · obtain ⟨rfl, rfl⟩ : i' = i ∧ j' = j := ⟨q1, by omega⟩
      by_cases e : cur = β
      · refine Or.inr (Or.inl (fun vs hvs hb => ?_))
        rw [e] at h1 h2
        have h10 := hI.1.2
        have := hr.2.1
        obtain ⟨g1, g2, g3, g4, g5⟩ := edge hI hu hr
        have := (g1 j' (by omega)).2
        have hB := h.1
        rw [e] at hB
        obtain ⟨v', e', b', -⟩ := hB.at (by omega) h1
        rw [hb, itsV_n hI hu hr (by omega), e'] at h2
        have := (pk_lLE (by omega) (by omega)).mp h2
        exact ⟨v', by omega, e', this⟩
      · exact Or.inr (Or.inr e)
theorem GI.upd {σ : Stt} {u P fr a b i j : Nat} {β cur : Nat → Int64} {fl : Int32} {D : Nat → Nat → Prop} (hI : Inv σ) (hu : u < nR σ) (hP : P ≤ 5) (hr : isR σ a b) (hi : i < 6) (hj : j ≤ i) (h : GI σ u P fr a b β cur fl D) (h0 : ¬ cur (6 * a + i) = -1) (hup : cur (6 * b + i - j) = -1 ∨ itsV σ u a b j (cur (6 * a + i)) < cur (6 * b + i - j)) (D' : Nat → Nat → Prop) :
    GI σ u P fr a b β (vp_updL cur (6 * b + i - j) (itsV σ u a b j (cur (6 * a + i)))) 1 D' ∧ vp_updL cur (6 * b + i - j) (itsV σ u a b j (cur (6 * a + i))) (6 * a + i) = cur (6 * a + i) := by
  have h10 := hI.1.2
  have := hr.1
  obtain ⟨vs, e, bb, -⟩ := h.1.at (by omega : 6 * a + i < 60) h0
  rw [e] at hup ⊢
  obtain ⟨r1, r2, r3⟩ := relax hI hu hP h.1 hr hi hj (by omega) e hup
  refine ⟨⟨r1, Or.inr ⟨rfl, ?_⟩⟩, r3⟩
  rcases h.2 with ⟨-, q, -⟩ | ⟨-, q⟩
  · rw [← q]; exact r2
  · omega
theorem GI.next {σ : Stt} {u P fr a b i j : Nat} {β cur : Nat → Int64} {fl : Int32} (h : GI σ u P fr a b β cur fl (fun i' j' => i' < i ∨ (i' = i ∧ j' < j))) (hx : i < j ∨ cur (6 * a + i) = -1) : GI σ u P fr a b β cur fl (fun i' _ => i' < i + 1) := by
  refine h.mono (fun i' j' q hi' hj' => ?_)
  rcases Nat.lt_or_ge i' i with z | z
  · exact Or.inl (Or.inl z)
  · have e : i' = i := by omega
    subst e
    rcases hx with y | y
    · exact Or.inl (Or.inr ⟨rfl, by omega⟩)
    · by_cases e : cur = β
      · rw [e] at y
        exact Or.inr (Or.inl (fun vs hvs hb => absurd (hb.symm.trans y) (lN_m1 hvs)))
      · exact Or.inr (Or.inr e)
/-- a round over all roads -/
def PA (σ : Stt) (u P fr : Nat) (β cur : Nat → Int64) (fl : Int32) (D : Nat → Nat → Prop) : Prop := BI σ u P fr cur ∧ ((fl = 0 ∧ cur = β ∧ ∀ a b, D a b → isR σ a b → ∀ i j, i < 6 → j ≤ i → RL1 σ u β a b i j) ∨ (fl = 1 ∧ mu cur < mu β))
theorem PA.mono {σ : Stt} {u P fr : Nat} {β cur : Nat → Int64} {fl : Int32} {D D' : Nat → Nat → Prop} (h : PA σ u P fr β cur fl D) (hd : ∀ a b, D' a b → isR σ a b → D a b) : PA σ u P fr β cur fl D' :=
  ⟨h.1, h.2.imp (fun ⟨h1, h2, h3⟩ => ⟨h1, h2, fun a b q hr => h3 a b (hd a b q hr) hr⟩) id⟩
theorem PA.same {σ : Stt} {u P fr i j : Nat} {β cur : Nat → Int64} {fl : Int32} (h : PA σ u P fr β cur fl (fun a b => a < i ∨ (a = i ∧ b < j))) (hg : ∀ i' j', i' < 6 → j' ≤ i' → RL1 σ u cur i j i' j') : PA σ u P fr β cur fl (fun a b => a < i ∨ (a = i ∧ b < j + 1)) :=
  ⟨h.1, h.2.imp (fun ⟨h1, h2, h3⟩ => ⟨h1, h2, fun a b q hr => by
    rcases q with q | ⟨q1, q2⟩
    · exact h3 a b (Or.inl q) hr
    · rcases Nat.lt_or_ge b j with z | z
      · exact h3 a b (Or.inr ⟨q1, z⟩) hr
      · obtain ⟨rfl, rfl⟩ : a = i ∧ b = j := ⟨q1, by omega⟩
        rw [← h2]
        exact hg⟩) id⟩
theorem PA.better {σ : Stt} {u P fr : Nat} {β cur cur' : Nat → Int64} {fl : Int32} {D : Nat → Nat → Prop} (h : PA σ u P fr β cur fl D) (hB : BI σ u P fr cur') (hm : mu cur' < mu cur) (D' : Nat → Nat → Prop) : PA σ u P fr β cur' 1 D' :=
  ⟨hB, Or.inr ⟨rfl, by
    rcases h.2 with ⟨-, q, -⟩ | ⟨-, q⟩
    · rw [← q]; exact hm
    · omega⟩⟩
/-- nothing is better: the best of all ways stand there -/
def RLA (σ : Stt) (u : Nat) (β : Nat → Int64) : Prop := ∀ a b, isR σ a b → ∀ i j, i < 6 → j ≤ i → RL1 σ u β a b i j
theorem bf_ways {σ : Stt} {u P fr : Nat} {β : Nat → Int64} (hf : fr < nT σ) (hP : P ≤ 5) (h : BI σ u P fr β) (hr : RLA σ u β) : ∀ n a b v, wk σ u P fr n a b v → ∃ v', v' < 2 ^ 62 ∧ β (6 * a + (P - b)) = lN v' ∧ v' ≤ v
  | 0, a, b, v, w => by
    obtain ⟨rfl, rfl, rfl⟩ := w
    exact ⟨0, by decide, h.2, Nat.le_refl _⟩
  | n + 1, a, b, v, w => by
    obtain ⟨a', b', v', w1, w2, w3, w4, w5⟩ := w
    obtain ⟨v0, e0, e1, e2⟩ := bf_ways hf hP h hr n a' b' v' w1
    obtain ⟨v2, f0, f1, f2⟩ := hr a' a w2 (P - b') (b - b') (by omega) (by omega) v0 e0 e1
    rw [show 6 * a + (P - b') - (b - b') = 6 * a + (P - b) by omega] at f1
    exact ⟨v2, f0, f1, by omega⟩
def lsF (β : Nat → Int64) (to : Nat) : Nat → Int64
  | 0 => -1
  | n + 1 => if ¬ β (6 * to + n) = -1 ∧ (lsF β to n = -1 ∨ β (6 * to + n) < lsF β to n) then β (6 * to + n) else lsF β to n
theorem lsF_sp {σ : Stt} {u P fr to : Nat} {β : Nat → Int64} (h : BI σ u P fr β) (hto : to < 10) : ∀ n, n ≤ 6 → (lsF β to n = -1 ∧ ∀ i, i < n → β (6 * to + i) = -1) ∨ ∃ v i0, v < 2 ^ 62 ∧ i0 < n ∧ lsF β to n = lN v ∧ β (6 * to + i0) = lN v ∧ ∀ i v', i < n → v' < 2 ^ 62 → β (6 * to + i) = lN v' → v ≤ v'
  | 0, _ => Or.inl ⟨rfl, fun i hi => absurd hi (Nat.not_lt_zero _)⟩
  | n + 1, hn => by
    by_cases c : ¬ β (6 * to + n) = -1 ∧ (lsF β to n = -1 ∨ β (6 * to + n) < lsF β to n)
    · have e : lsF β to (n + 1) = β (6 * to + n) := if_pos c
      obtain ⟨v, ev, bb, -⟩ := h.at (by omega : 6 * to + n < 60) c.1
      refine Or.inr ⟨v, n, by omega, by omega, e.trans ev, ev, fun i v' hi hv' hb => ?_⟩
      rcases Nat.lt_or_ge i n with z | z
      · rcases lsF_sp h hto n (by omega) with ⟨-, q⟩ | ⟨v2, i0, q0, -, q1, -, q3⟩
        · exact absurd (hb.symm.trans (q i z)) (lN_m1 hv')
        · have := q3 i v' z hv' hb
          rcases c.2 with y | y
          · exact absurd (q1.symm.trans y) (lN_m1 q0)
          · rw [ev, q1] at y
            have := (pk_lLT (by omega) (by omega)).mp y
            omega
      · rw [show i = n by omega, ev] at hb
        exact Nat.le_of_eq ((pk_lEQ (by omega) (by omega)).mp hb)
    · have e : lsF β to (n + 1) = lsF β to n := if_neg c
      rw [e]
      rcases lsF_sp h hto n (by omega) with ⟨q1, q2⟩ | ⟨v2, i0, q0, q00, q1, q2, q3⟩
      · refine Or.inl ⟨q1, fun i hi => ?_⟩
        rcases Nat.lt_or_ge i n with z | z
        · exact q2 i z
        · rw [show i = n by omega]
          exact Classical.byContradiction (fun y => c ⟨y, Or.inl q1⟩)
      · refine Or.inr ⟨v2, i0, q0, by omega, q1, q2, fun i v' hi hv' hb => ?_⟩
        rcases Nat.lt_or_ge i n with z | z
        · exact q3 i v' z hv' hb
        · rw [show i = n by omega] at hb
          refine Classical.byContradiction (fun y => c ⟨by rw [hb]; exact lN_m1 hv', Or.inr ?_⟩)
          rw [hb, q1]
          exact (pk_lLT (by omega) (by omega)).mpr (by omega)
theorem bf_best {σ : Stt} {u P fr to : Nat} {β : Nat → Int64} (hI : Inv σ) (hf : fr < nT σ) (hto : to < 10) (hP : P ≤ 5) (h : BI σ u P fr β) (hr : RLA σ u β) : (lsF β to 6 = -1 ∧ bestO σ u P fr to = none) ∨ ∃ v, v < 2 ^ 62 ∧ lsF β to 6 = lN v ∧ bestO σ u P fr to = some v := by
  have ways := bf_ways hf hP h hr
  rcases lsF_sp h hto 6 (Nat.le_refl _) with ⟨q1, q2⟩ | ⟨v, i0, q0, q00, q1, q2, q3⟩
  · refine Or.inl ⟨q1, bestO_none (fun v ⟨m, b, w⟩ => ?_)⟩
    obtain ⟨v', e0, e1, e2⟩ := ways m to b v w
    exact lN_m1 e0 (e1.symm.trans (q2 (P - b) (by omega)))
  · refine Or.inr ⟨v, q0, q1, bestO_some ?_ (fun v' ⟨m, b, w⟩ => ?_)⟩
    · obtain ⟨v2, e1, b1, -, b3, m, w⟩ := h.at (by omega : 6 * to + i0 < 60) (by rw [q2]; exact lN_m1 q0)
      rw [q2] at e1
      have := m1_le β
      have ev := (pk_lEQ (by omega) (by omega)).mp e1
      subst ev
      rw [show (6 * to + i0) / 6 = to by omega] at w
      exact ⟨m, _, w⟩
    · obtain ⟨v2, e0, e1, e2⟩ := ways m to b v' w
      have := q3 (P - b) v2 (by omega) e0 e1
      omega
def flB (β : Nat → Int64) (n : Nat) : Nat → Int64 := fun k => if k < n then -1 else β k
theorem flB_0 (β : Nat → Int64) : flB β 0 = β := funext fun k => if_neg (Nat.not_lt_zero _)
theorem flB_1 (β : Nat → Int64) (n : Nat) : vp_updL (flB β n) n (-1) = flB β (n + 1) := by
  funext k
  unfold vp_updL flB
  by_cases h : k = n
  · rw [if_pos h, if_pos (by omega)]
  · rw [if_neg h]
    by_cases h2 : k < n
    · rw [if_pos h2, if_pos (by omega)]
    · rw [if_neg h2, if_neg (by omega)]
theorem BI_0 {σ : Stt} {u P fr : Nat} {β : Nat → Int64} (hI : Inv σ) (hf : fr < nT σ) (hP : P ≤ 5) : BI σ u P fr (vp_updL (flB β 60) (6 * fr + P) 0) := by
  refine ⟨fun k hk => ?_, pk_uLs⟩
  by_cases e : k = 6 * fr + P
  · rw [e, pk_uLs]
    have := m1_le (vp_updL (flB β 60) (6 * fr + P) 0)
    refine Or.inr ⟨0, rfl, by omega, by omega, by omega, 0, by omega, by omega, rfl⟩
  · rw [pk_uLn e]
    exact Or.inl (if_pos hk)
end BF
