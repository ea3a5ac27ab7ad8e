/-! WHAT HOLDS OF THE NUMBERS is kept by every call -/
section INVK
def IB (σ : Stt) : Prop := Inv σ ∧ BG σ
theorem Inv.mk2 {σ σ' : Stt} (hI : Inv σ) (h1 : σ' 0 1 = σ 0 1) (h3 : σ' 0 3 = σ 0 3) (h4 : σ' 0 4 = σ 0 4) (hr : ∀ i, i < nR σ → IRum σ' i) (hc : ∀ i, i < nC σ → ICar σ' i) (hd : ∀ k, k < 100 → IRd σ' k) : Inv σ' := by
  have e1 := nT_eq h1
  have e3 := nR_eq h3
  have e4 := nC_eq h4
  refine ⟨by rw [e1, h1]; exact hI.1, by rw [e3, h3]; exact hI.2.1, by rw [e4, h4]; exact hI.2.2.1, fun i hi => hr i (by rw [← e3]; exact hi), fun i hi => hc i (by rw [← e4]; exact hi), hd⟩
theorem IRum.cg {σ σ' : Stt} {i : Nat} (h : IRum σ i) (hR : nR σ' = nR σ) (hT : nT σ' = nT σ) (he : ∀ k, k < 7 → k ≠ 5 → σ' 1 (7 * i + k) = σ 1 (7 * i + k)) : IRum σ' i := by
  unfold IRum at h ⊢
  have e0 := he 0 (by decide) (by decide)
  rw [Nat.add_zero] at e0
  rw [e0, he 1 (by decide) (by decide), he 2 (by decide) (by decide), he 3 (by decide) (by decide), he 4 (by decide) (by decide), he 6 (by decide) (by decide), hR, hT]
  exact h
theorem ICar.cg {σ σ' : Stt} {i : Nat} (h : ICar σ i) (hT : nT σ' = nT σ) (he : σ' 2 (4 * i) = σ 2 (4 * i)) (he1 : σ' 2 (4 * i + 1) = σ 2 (4 * i + 1)) : ICar σ' i := by
  unfold ICar at h ⊢
  rw [he, he1, hT]
  exact h
theorem IRd.cg {σ σ' : Stt} {k : Nat} (h : IRd σ k) (hT : nT σ' = nT σ) (he : ∀ j, j < 7 → σ' 3 (7 * k + j) = σ 3 (7 * k + j)) : IRd σ' k := by
  unfold IRd at h ⊢
  have e0 := he 0 (by decide)
  rw [Nat.add_zero] at e0
  rcases h with h | h
  · left
    rw [e0, he 1 (by decide), he 2 (by decide), he 3 (by decide), he 4 (by decide), hT]
    exact h
  · right
    intro j hj
    rw [he j hj]
    exact h j hj
/-- how many are in a bag -/
def bN (σ : Stt) (k : Nat) : Nat := fb_ct (fun r => decide (σ 1 (7 * r + 5) = nI k)) (nR σ)
theorem inB_n (σ : Stt) (k : Nat) : inB σ (nI k) = nI (bN σ k) := sm_ct _ _
theorem BG_iff {σ : Stt} (h60 : nR σ ≤ 60) : BG σ ↔ ∀ k, k < 8 → bN σ k ≤ 6 := by
  refine ⟨fun h k hk => ?_, fun h k hk => ⟨bN σ k, h k hk, inB_n σ k⟩⟩
  obtain ⟨m, hm, e⟩ := h k hk
  rw [inB_n] at e
  have l := fb_ct_le (fun r => decide (σ 1 (7 * r + 5) = nI k)) (nR σ)
  have := (nI_eq (a := bN σ k) (b := m) (by unfold bN; omega) (by omega)).mp e
  omega
theorem BG.cg {σ σ' : Stt} (h : BG σ) (h60 : nR σ ≤ 60) (h3 : σ' 0 3 = σ 0 3) (he : ∀ r k, r < nR σ → σ' 1 (7 * r + 5) = nI k → k < 8 → σ 1 (7 * r + 5) = nI k) : BG σ' := by
  have e3 := nR_eq h3
  refine (BG_iff (by rw [e3]; exact h60)).mpr (fun k hk => Nat.le_trans ?_ ((BG_iff h60).mp h k hk))
  unfold bN
  rw [e3]
  exact fb_ct_sub (fun r hr hp => decide_eq_true (he r k hr (of_decide_eq_true hp) hk))
theorem BG.same {σ σ' : Stt} (h : BG σ) (h60 : nR σ ≤ 60) (h3 : σ' 0 3 = σ 0 3) (he : ∀ r, r < nR σ → σ' 1 (7 * r + 5) = σ 1 (7 * r + 5)) : BG σ' := h.cg h60 h3 (fun r k hr e _ => by rw [← he r hr]; exact e)
/-- a number of the land -/
theorem IB.s0 {σ : Stt} (h : IB σ) {j : Nat} (h1 : j ≠ 1) (h3 : j ≠ 3) (h4 : j ≠ 4) (v : Int32) : IB (su σ 0 j v) := by
  have eT := nT_eq (σ' := su σ 0 j v) (σ := σ) (su_j (Ne.symm h1))
  have eR := nR_eq (σ' := su σ 0 j v) (σ := σ) (su_j (Ne.symm h3))
  refine ⟨h.1.mk2 (su_j (Ne.symm h1)) (su_j (Ne.symm h3)) (su_j (Ne.symm h4)) (fun i hi => (h.1.2.2.2.1 i hi).cg eR eT (fun k _ _ => su_k (by decide))) (fun i hi => (h.1.2.2.2.2.1 i hi).cg eT (su_k (by decide)) (su_k (by decide))) (fun k hk => (h.1.2.2.2.2.2 k hk).cg eT (fun j _ => su_k (by decide))), h.2.same h.1.2.1.2 (su_j (Ne.symm h3)) (fun r _ => su_k (by decide))⟩
/-- of a road: what has been paid, and the attention -/
theorem IB.s3 {σ : Stt} (h : IB σ) {kd c : Nat} (h1 : σ 3 (7 * kd) = 1) (hc : c = 5 ∨ c = 6) (v : Int32) : IB (su σ 3 (7 * kd + c) v) := by
  have eT := nT_eq (σ' := su σ 3 (7 * kd + c) v) (σ := σ) (su_k (by decide))
  have eR := nR_eq (σ' := su σ 3 (7 * kd + c) v) (σ := σ) (su_k (by decide))
  refine ⟨h.1.mk2 (su_k (by decide)) (su_k (by decide)) (su_k (by decide)) (fun i hi => (h.1.2.2.2.1 i hi).cg eR eT (fun k _ _ => su_k (by decide))) (fun i hi => (h.1.2.2.2.2.1 i hi).cg eT (su_k (by decide)) (su_k (by decide))) (fun k hk => ?_), h.2.same h.1.2.1.2 (su_k (by decide)) (fun r _ => su_k (by decide))⟩
  by_cases e : k = kd
  · subst e
    rcases h.1.2.2.2.2.2 k hk with z | z
    · left
      rw [su_j (by omega), su_j (by omega), su_j (by omega), su_j (by omega), su_j (by omega), eT]
      exact z
    · exact absurd ((z 0 (by decide)).symm.trans h1) (by decide)
  · exact (h.1.2.2.2.2.2 k hk).cg eT (fun j hj => su_j (by omega))
/-- of a carrier -/
theorem IB.s2 {σ : Stt} (h : IB σ) {i c : Nat} (hc : c < 4) (v : Int32) (hv : (c = 0 → ∃ n, n < nT σ ∧ v = nI n) ∧ (c = 1 → ∃ n, n ≤ 9 ∧ v = nI n)) : IB (su σ 2 (4 * i + c) v) := by
  have eT := nT_eq (σ' := su σ 2 (4 * i + c) v) (σ := σ) (su_k (by decide))
  have eR := nR_eq (σ' := su σ 2 (4 * i + c) v) (σ := σ) (su_k (by decide))
  refine ⟨h.1.mk2 (su_k (by decide)) (su_k (by decide)) (su_k (by decide)) (fun i hi => (h.1.2.2.2.1 i hi).cg eR eT (fun k _ _ => su_k (by decide))) (fun r hr => ?_) (fun k hk => (h.1.2.2.2.2.2 k hk).cg eT (fun j _ => su_k (by decide))), h.2.same h.1.2.1.2 (su_k (by decide)) (fun r _ => su_k (by decide))⟩
  obtain ⟨z1, z2⟩ := h.1.2.2.2.2.1 r hr
  unfold ICar
  rw [eT]
  by_cases e : r = i
  · subst e
    refine ⟨?_, ?_⟩
    · by_cases c0 : c = 0
      · subst c0; rw [Nat.add_zero, su_s]; exact hv.1 rfl
      · rw [su_j (by omega)]; exact z1
    · by_cases c1 : c = 1
      · subst c1; rw [su_s]; exact hv.2 rfl
      · rw [su_j (by omega)]; exact z2
  · rw [su_j (by omega), su_j (by omega)]
    exact ⟨z1, z2⟩
/-- of a rumour: proofs, or whether it is hidden -/
theorem su1_ne {σ : Stt} {i c r k : Nat} {v : Int32} (hc : c < 7) (hk : k < 7) (h : r ≠ i ∨ k ≠ c) : su σ 1 (7 * i + c) v 1 (7 * r + k) = σ 1 (7 * r + k) := su_j (by omega)
theorem IB.s1 {σ : Stt} (h : IB σ) {i c : Nat} (hc : c = 2 ∨ c = 6) (v : Int32) (hv : (c = 2 → ∃ n, n ≤ 5 ∧ v = nI n) ∧ (c = 6 → v = 0 ∨ v = 1)) : IB (su σ 1 (7 * i + c) v) := by
  have c7 : c < 7 := by rcases hc with rfl | rfl <;> decide
  have c5 : (5 : Nat) ≠ c := by rcases hc with rfl | rfl <;> decide
  have eT := nT_eq (σ' := su σ 1 (7 * i + c) v) (σ := σ) (su_k (by decide))
  have eR := nR_eq (σ' := su σ 1 (7 * i + c) v) (σ := σ) (su_k (by decide))
  refine ⟨h.1.mk2 (su_k (by decide)) (su_k (by decide)) (su_k (by decide)) (fun r hr => ?_) (fun r hr => (h.1.2.2.2.2.1 r hr).cg eT (su_k (by decide)) (su_k (by decide))) (fun k hk => (h.1.2.2.2.2.2 k hk).cg eT (fun j _ => su_k (by decide))), h.2.same h.1.2.1.2 (su_k (by decide)) (fun r _ => su1_ne c7 (by decide) (Or.inr c5))⟩
  have z := h.1.2.2.2.1 r hr
  by_cases e : r = i
  · subst e
    have w : ∀ k, k < 7 → k ≠ c → su σ 1 (7 * r + c) v 1 (7 * r + k) = σ 1 (7 * r + k) := fun k hk hne => su1_ne c7 hk (Or.inr hne)
    have w0 := fun hne => w 0 (by decide) hne
    rw [Nat.add_zero] at w0
    unfold IRum at z ⊢
    rw [eT, eR]
    obtain ⟨z0, z1, z2, z3, z4, z6⟩ := z
    rcases hc with rfl | rfl
    · rw [su_s, w0 (by decide), w 1 (by decide) (by decide), w 3 (by decide) (by decide), w 4 (by decide) (by decide), w 6 (by decide) (by decide)]
      exact ⟨z0, z1, hv.1 rfl, z3, z4, z6⟩
    · rw [su_s, w0 (by decide), w 1 (by decide) (by decide), w 2 (by decide) (by decide), w 3 (by decide) (by decide), w 4 (by decide) (by decide)]
      exact ⟨z0, z1, z2, z3, z4, hv.2 rfl⟩
  · exact z.cg eR eT (fun k hk _ => su1_ne c7 hk (Or.inl e))
theorem lay_at (σ : Stt) (i : Nat) (t b : Int32) (k : Nat) (hk : k < 7) : lay σ i t b 1 (7 * i + k) = if k = 4 then t else if k = 5 then b else if k = 6 then 0 else σ 1 (7 * i + k) := by
  unfold lay
  by_cases h6 : k = 6
  · subst h6; rw [su_s]; rfl
  · rw [su_j (by omega)]
    by_cases h5 : k = 5
    · subst h5; rw [su_s]; rfl
    · rw [su_j (by omega)]
      by_cases h4 : k = 4
      · subst h4; rw [su_s]; rfl
      · rw [su_j (by omega), if_neg h4, if_neg h5, if_neg h6]
theorem lay_ne (σ : Stt) (i : Nat) (t b : Int32) (r k : Nat) (hk : k < 7) (h : r ≠ i) : lay σ i t b 1 (7 * r + k) = σ 1 (7 * r + k) := by
  unfold lay
  rw [su_j (by omega), su_j (by omega), su_j (by omega)]
theorem Inv.lay {σ : Stt} (h : Inv σ) (i : Nat) (t b : Int32) (ht : t = -1 ∨ ∃ n, n < nT σ ∧ t = nI n) : Inv (lay σ i t b) := by
  have eT := nT_eq (σ' := Jvm.Pilot.CRumourCustomsLaw_law_r6485_fe393b.lay σ i t b) (σ := σ) (lay_3 (by decide))
  have eR := nR_eq (σ' := Jvm.Pilot.CRumourCustomsLaw_law_r6485_fe393b.lay σ i t b) (σ := σ) (lay_3 (by decide))
  refine h.mk2 (lay_3 (by decide)) (lay_3 (by decide)) (lay_3 (by decide)) (fun r hr => ?_) (fun r hr => (h.2.2.2.2.1 r hr).cg eT (lay_3 (by decide)) (lay_3 (by decide))) (fun k hk => (h.2.2.2.2.2 k hk).cg eT (fun j _ => lay_3 (by decide)))
  have z := h.2.2.2.1 r hr
  by_cases e : r = i
  · subst e
    have a := lay_at σ r t b
    have a0 := a 0 (by decide)
    rw [Nat.add_zero] at a0
    unfold IRum at z ⊢
    rw [eT, eR, a0, a 1 (by decide), a 2 (by decide), a 3 (by decide), a 4 (by decide), a 6 (by decide)]
    obtain ⟨z0, z1, z2, z3, z4, z6⟩ := z
    exact ⟨z0, z1, z2, z3, ht, Or.inl rfl⟩
  · exact z.cg eR eT (fun k hk _ => lay_ne σ i t b r k hk e)
theorem IB.lay_m {σ : Stt} (h : IB σ) (i : Nat) (t : Int32) (ht : t = -1 ∨ ∃ n, n < nT σ ∧ t = nI n) : IB (lay σ i t (-1)) := by
  refine ⟨h.1.lay i t (-1) ht, h.2.cg h.1.2.1.2 (lay_3 (by decide)) (fun r k hr e hk => ?_)⟩
  by_cases q : r = i
  · subst q
    rw [lay_at σ r t (-1) 5 (by decide)] at e
    exact absurd e.symm (nI_m1 (by omega))
  · rw [lay_ne σ i t (-1) r 5 (by decide) q] at e
    exact e
theorem IB.lay_b {σ : Stt} (h : IB σ) {i c : Nat} (hi : i < nR σ) (hc : c < 8) (h6 : inB σ (nI c) < 6) : IB (lay σ i (-1) (nI c)) := by
  have h60 := h.1.2.1.2
  have eR := nR_eq (σ' := lay σ i (-1) (nI c)) (σ := σ) (lay_3 (by decide))
  refine ⟨h.1.lay i (-1) (nI c) (Or.inl rfl), (BG_iff (by rw [eR]; exact h60)).mpr (fun k hk => ?_)⟩
  have e : (fun r => decide (lay σ i (-1) (nI c) 1 (7 * r + 5) = nI k)) = fun r => if r = i then decide (c = k) else decide (σ 1 (7 * r + 5) = nI k) := by
    funext r
    by_cases q : r = i
    · rw [if_pos q, q, lay_at σ i (-1) (nI c) 5 (by decide)]
      exact decide_eq_decide.mpr (nI_eq (by omega) (by omega))
    · rw [if_neg q, lay_ne σ i (-1) (nI c) r 5 (by decide) q]
  have u := fb_ct_upd (fun r => decide (σ 1 (7 * r + 5) = nI k)) (decide (c = k)) hi
  have b := (BG_iff h60).mp h.2 k hk
  unfold bN at b ⊢
  rw [eR, e]
  by_cases q : c = k
  · subst q
    rw [inB_n] at h6
    have l := fb_ct_le (fun r => decide (σ 1 (7 * r + 5) = nI c)) (nR σ)
    have := (nI_ltI (a := bN σ c) (b := 6) (by unfold bN; omega) (by decide)).mp h6
    unfold bN at this
    simp only [decide_true, if_true] at u ⊢
    omega
  · simp only [q, decide_false] at u ⊢
    simp only [Bool.false_eq_true, if_false] at u ⊢
    omega
/-- more towns -/
theorem IB.town {σ : Stt} (h : IB σ) (h10 : σ 0 1 < 10) : IB (su σ 0 1 (σ 0 1 + 1)) := by
  obtain ⟨⟨t1, t2⟩, hR, hC, h4, h5, h6⟩ := h.1
  have ht : nT σ < 10 := by
    rw [t1] at h10
    exact (nI_ltI (b := 10) (by omega) (by decide)).mp h10
  have e01 : su σ 0 1 (σ 0 1 + 1) 0 1 = nI (nT σ + 1) := by rw [su_s, t1]; exact nI_1 _
  have eT : nT (su σ 0 1 (σ 0 1 + 1)) = nT σ + 1 := by
    show (su σ 0 1 (σ 0 1 + 1) 0 1).toNatClampNeg = _
    rw [e01, nI_clamp (by omega)]
  have eR := nR_eq (σ' := su σ 0 1 (σ 0 1 + 1)) (σ := σ) (su_j (by decide))
  have eC := nC_eq (σ' := su σ 0 1 (σ 0 1 + 1)) (σ := σ) (su_j (by decide))
  refine ⟨⟨⟨by rw [eT]; exact e01, by omega⟩, by rw [eR, su_j (by decide)]; exact hR, by rw [eC, su_j (by decide)]; exact hC, fun i hi => ?_, fun i hi => ?_, fun k hk => ?_⟩, h.2.same hR.2 (su_j (by decide)) (fun r _ => su_k (by decide))⟩
  · rw [eR] at hi
    have z := h4 i hi
    unfold IRum at z ⊢
    rw [eR, eT, su_k (by decide), su_k (by decide), su_k (by decide), su_k (by decide), su_k (by decide), su_k (by decide)]
    obtain ⟨z0, z1, z2, z3, z4, z6⟩ := z
    exact ⟨z0, z1, z2, z3, z4.imp id (fun ⟨n, h1, h2⟩ => ⟨n, by omega, h2⟩), z6⟩
  · rw [eC] at hi
    have z := h5 i hi
    unfold ICar at z ⊢
    rw [eT, su_k (by decide), su_k (by decide)]
    obtain ⟨⟨n, h1, h2⟩, z1⟩ := z
    exact ⟨⟨n, by omega, h2⟩, z1⟩
  · have z := h6 k hk
    unfold IRd at z ⊢
    rcases z with z | z
    · left
      rw [eT, su_k (by decide), su_k (by decide), su_k (by decide), su_k (by decide), su_k (by decide)]
      obtain ⟨z0, z1, z2, z3⟩ := z
      exact ⟨z0, z1, by omega, z3⟩
    · right
      intro j hj
      rw [su_k (by decide)]
      exact z j hj
/-- a new rumour -/
theorem IB.rum {σ : Stt} (h : IB σ) {l d p f t : Int32} (h60 : nR σ < 60) (hl : ∃ n, 1 ≤ n ∧ n ≤ 30 ∧ l = nI n) (hd : ∃ n, n ≤ 99 ∧ d = nI n) (hp : ∃ n, n ≤ 5 ∧ p = nI n) (hf : ∃ n, n < nR σ + 1 ∧ f = nI n) (ht : ∃ n, n < nT σ ∧ t = nI n) : IB (addRm σ l d p f t) := by
  obtain ⟨hT, hR, hC, h4, h5, h6⟩ := h.1
  obtain ⟨A, hA⟩ : ∃ A, A = addRm σ l d p f t := ⟨_, rfl⟩
  have a03 : A 0 3 = nI (nR σ + 1) := by rw [hA]; exact if_pos ⟨rfl, rfl⟩
  have a0 : ∀ j, j ≠ 3 → A 0 j = σ 0 j := fun j hj => by rw [hA]; unfold addRm; rw [if_neg (fun z => hj z.2), if_neg (fun z => absurd z.1 (by decide))]
  have aa : ∀ a j, 1 < a → A a j = σ a j := fun a j ha => by rw [hA]; unfold addRm; rw [if_neg (fun z => by omega), if_neg (fun z => by omega)]
  have a1 : ∀ k, k < 7 → A 1 (7 * nR σ + k) = rum7 l d p f t k := fun k hk => by
    rw [hA]; unfold addRm
    rw [if_neg (fun z => absurd z.1 (by decide)), if_pos ⟨rfl, by omega, by omega⟩, show 7 * nR σ + k - 7 * nR σ = k by omega]
  have a1o : ∀ i k, i < nR σ → k < 7 → A 1 (7 * i + k) = σ 1 (7 * i + k) := fun i k hi hk => by
    rw [hA]; unfold addRm
    rw [if_neg (fun z => absurd z.1 (by decide)), if_neg (fun z => by omega)]
  rw [← hA]
  have eT := nT_eq (σ' := A) (σ := σ) (a0 1 (by decide))
  have eC := nC_eq (σ' := A) (σ := σ) (a0 4 (by decide))
  have eR : nR A = nR σ + 1 := by unfold nR at *; rw [a03, nI_clamp (by omega)]
  refine ⟨⟨by rw [eT, a0 1 (by decide)]; exact hT, ⟨by rw [eR]; exact a03, by omega⟩, by rw [eC, a0 4 (by decide)]; exact hC, fun i hi => ?_, fun i hi => (h5 i (by rw [← eC]; exact hi)).cg eT (aa 2 _ (by decide)) (aa 2 _ (by decide)), fun k hk => (h6 k hk).cg eT (fun j _ => aa 3 _ (by decide))⟩, ?_⟩
  · rw [eR] at hi
    rcases Nat.lt_or_ge i (nR σ) with q | q
    · have z := h4 i q
      unfold IRum at z ⊢
      have e0 := a1o i 0 q (by decide)
      rw [Nat.add_zero] at e0
      rw [eT, eR, e0, a1o i 1 q (by decide), a1o i 2 q (by decide), a1o i 3 q (by decide), a1o i 4 q (by decide), a1o i 6 q (by decide)]
      obtain ⟨z0, z1, z2, ⟨n, n1, n2⟩, z4, z6⟩ := z
      exact ⟨z0, z1, z2, ⟨n, by omega, n2⟩, z4, z6⟩
    · obtain rfl : i = nR σ := by omega
      unfold IRum
      have e0 := a1 0 (by decide)
      rw [Nat.add_zero] at e0
      rw [eT, eR, e0, a1 1 (by decide), a1 2 (by decide), a1 3 (by decide), a1 4 (by decide), a1 6 (by decide)]
      exact ⟨hl, hd, hp, hf, Or.inr ht, Or.inl rfl⟩
  · refine (BG_iff (by omega)).mpr (fun k hk => Nat.le_trans ?_ ((BG_iff hR.2).mp h.2 k hk))
    unfold bN
    rw [eR, fb_ct_succ, a1 5 (by decide)]
    have en : ¬ (rum7 l d p f t 5 = nI k) := fun z => nI_m1 (n := k) (by omega) z.symm
    rw [decide_eq_false en]
    rw [if_neg (by decide), Nat.add_zero]
    exact Nat.le_of_eq (fb_ct_cong (fun r hr => by rw [a1o r 5 hr (by decide)]))
/-- a new carrier -/
theorem IB.car {σ : Stt} (h : IB σ) {t p : Int32} (h8 : nC σ < 8) (ht : ∃ n, n < nT σ ∧ t = nI n) : IB (addCr σ t p) := by
  obtain ⟨hT, hR, hC, h4, h5, h6⟩ := h.1
  obtain ⟨A, hA⟩ : ∃ A, A = addCr σ t p := ⟨_, rfl⟩
  have a04 : A 0 4 = nI (nC σ + 1) := by rw [hA]; exact if_pos ⟨rfl, rfl⟩
  have a0 : ∀ j, j ≠ 4 → A 0 j = σ 0 j := fun j hj => by rw [hA]; unfold addCr; rw [if_neg (fun z => hj z.2), if_neg (fun z => absurd z.1 (by decide))]
  have aa : ∀ a j, a ≠ 0 → a ≠ 2 → A a j = σ a j := fun a j ha hb => by rw [hA]; unfold addCr; rw [if_neg (fun z => ha z.1), if_neg (fun z => hb z.1)]
  have a2 : ∀ k, k < 4 → A 2 (4 * nC σ + k) = car4 t p k := fun k hk => by
    rw [hA]; unfold addCr
    rw [if_neg (fun z => absurd z.1 (by decide)), if_pos ⟨rfl, by omega, by omega⟩, show 4 * nC σ + k - 4 * nC σ = k by omega]
  have a2o : ∀ i k, i < nC σ → k < 4 → A 2 (4 * i + k) = σ 2 (4 * i + k) := fun i k hi hk => by
    rw [hA]; unfold addCr
    rw [if_neg (fun z => absurd z.1 (by decide)), if_neg (fun z => by omega)]
  rw [← hA]
  have eT := nT_eq (σ' := A) (σ := σ) (a0 1 (by decide))
  have eR := nR_eq (σ' := A) (σ := σ) (a0 3 (by decide))
  have eC : nC A = nC σ + 1 := by unfold nC at *; rw [a04, nI_clamp (by omega)]
  refine ⟨⟨by rw [eT, a0 1 (by decide)]; exact hT, by rw [eR, a0 3 (by decide)]; exact hR, ⟨by rw [eC]; exact a04, by omega⟩, fun i hi => (h4 i (by rw [← eR]; exact hi)).cg eR eT (fun k _ _ => aa 1 _ (by decide) (by decide)), fun i hi => ?_, fun k hk => (h6 k hk).cg eT (fun j _ => aa 3 _ (by decide) (by decide))⟩, h.2.same hR.2 (a0 3 (by decide)) (fun r _ => aa 1 _ (by decide) (by decide))⟩
  rw [eC] at hi
  unfold ICar
  rw [eT]
  rcases Nat.lt_or_ge i (nC σ) with q | q
  · have e0 := a2o i 0 q (by decide)
    rw [Nat.add_zero] at e0
    rw [e0, a2o i 1 q (by decide)]
    exact h5 i q
  · obtain rfl : i = nC σ := by omega
    have e0 := a2 0 (by decide)
    rw [Nat.add_zero] at e0
    rw [e0, a2 1 (by decide)]
    exact ⟨ht, 0, by omega, rfl⟩
/-- a new road -/
theorem IB.road {σ : Stt} (h : IB σ) {a b : Nat} {hr tr sr st : Int32} (ha : a < nT σ) (hb : b < nT σ) (hab : a ≠ b) (h1 : ∃ n, 1 ≤ n ∧ n ≤ 9 ∧ hr = nI n) (h2 : ∃ n, n ≤ 20 ∧ tr = nI n) (h3 : ∃ n, n ≤ 30 ∧ sr = nI n) (h4' : ∃ n, n ≤ 9 ∧ st = nI n) : IB (bld σ (rk a b) hr tr sr st) := by
  obtain ⟨hT, hR, hC, h4, h5, h6⟩ := h.1
  obtain ⟨A, hA⟩ : ∃ A, A = bld σ (rk a b) hr tr sr st := ⟨_, rfl⟩
  have a0 : ∀ j, j ≠ 2 → A 0 j = σ 0 j := fun j hj => by rw [hA]; unfold bld; rw [if_neg (fun z => hj z.2), if_neg (fun z => absurd z.1 (by decide))]
  have aa : ∀ x j, x ≠ 0 → x ≠ 3 → A x j = σ x j := fun x j hx hb => by rw [hA]; unfold bld; rw [if_neg (fun z => hx z.1), if_neg (fun z => hb z.1)]
  have a3 : ∀ k, k < 7 → A 3 (7 * rk a b + k) = rd7 hr tr sr st k := fun k hk => by
    rw [hA]; unfold bld
    rw [if_neg (fun z => absurd z.1 (by decide)), if_pos ⟨rfl, by omega, by omega⟩, show 7 * rk a b + k - 7 * rk a b = k by omega]
  have a3o : ∀ i k, i ≠ rk a b → k < 7 → A 3 (7 * i + k) = σ 3 (7 * i + k) := fun i k hi hk => by
    rw [hA]; unfold bld
    rw [if_neg (fun z => absurd z.1 (by decide)), if_neg (fun z => by omega)]
  rw [← hA]
  have eT := nT_eq (σ' := A) (σ := σ) (a0 1 (by decide))
  have eR := nR_eq (σ' := A) (σ := σ) (a0 3 (by decide))
  have eC := nC_eq (σ' := A) (σ := σ) (a0 4 (by decide))
  refine ⟨h.1.mk2 (a0 1 (by decide)) (a0 3 (by decide)) (a0 4 (by decide)) (fun i hi => (h4 i hi).cg eR eT (fun k _ _ => aa 1 _ (by decide) (by decide))) (fun i hi => (h5 i hi).cg eT (aa 2 _ (by decide) (by decide)) (aa 2 _ (by decide) (by decide))) (fun k hk => ?_), h.2.same hR.2 (a0 3 (by decide)) (fun r _ => aa 1 _ (by decide) (by decide))⟩
  by_cases e : k = rk a b
  · subst e
    have e0 := a3 0 (by decide)
    rw [Nat.add_zero] at e0
    left
    have h10 := hT.2
    rw [e0, a3 1 (by decide), a3 2 (by decide), a3 3 (by decide), a3 4 (by decide), eT]
    refine ⟨rfl, ?_, ?_, h1, h2, h3, h4'⟩
    · unfold rk; omega
    · unfold rk; omega
  · exact (h6 k hk).cg eT (fun j hj => a3o k j e hj)
/-- go and pass, step by step -/
theorem IB.burnN {σ : Stt} (h : IB σ) {c b : Int32} (hb : ∃ n, n ≤ 5 ∧ b = nI n) : ∀ n, n ≤ nR σ → IB (burnN σ c b n)
  | 0, _ => h
  | n + 1, hn => by
    have ih := IB.burnN h (c := c) hb n (by omega)
    have eR := burnN_nR σ c b n
    show IB (burnS (Jvm.Pilot.CRumourCustomsLaw_law_r6485_fe393b.burnN σ c b n) c b n)
    unfold burnS
    split
    · unfold burn1
      refine IB.s0 (ih.s1 (Or.inl rfl) _ ⟨fun _ => ?_, fun z => absurd z (by decide)⟩) (by decide) (by decide) (by decide) _
      obtain ⟨x, hx, ex⟩ := (ih.1.2.2.2.1 n (by omega)).2.2.1
      obtain ⟨y, hy, ey⟩ := hb
      rw [ex, ey]
      unfold mn
      by_cases q : nI x < nI y
      · rw [if_pos q, pk_sub (Nat.le_refl x)]; exact ⟨_, by omega, rfl⟩
      · rw [if_neg q]
        have hq : ¬ x < y := fun z => q (nI_lt z (by omega))
        rw [pk_sub (by omega : y ≤ x)]
        exact ⟨_, by omega, rfl⟩
    · exact ih
theorem IB.takeN {σ : Stt} (h : IB σ) {c : Int32} : ∀ n, IB (takeN σ c n)
  | 0 => h
  | n + 1 => by
    have ih := IB.takeN h (c := c) n
    show IB (takeS (Jvm.Pilot.CRumourCustomsLaw_law_r6485_fe393b.takeN σ c n) c n)
    unfold takeS
    split
    · exact ih.lay_m n (-1) (Or.inl rfl)
    · exact ih
theorem IB.insp {σ : Stt} (h : IB σ) {c : Int32} {kd : Nat} (h1 : σ 3 (7 * kd) = 1) : IB (insp σ c kd) := by
  unfold Jvm.Pilot.CRumourCustomsLaw_law_r6485_fe393b.insp
  split
  · exact h.s3 h1 (Or.inl rfl) _
  · exact IB.takeN (((h.s3 h1 (Or.inl rfl) _).s3 (by rw [su_j (by omega)]; exact h1) (Or.inl rfl) _).s0 (by decide) (by decide) (by decide) _) _
theorem IB.pay {σ : Stt} (h : IB σ) {i kd : Nat} {d f : Int32} (h1 : σ 3 (7 * kd) = 1) : IB (payS σ i kd d f) := by
  unfold payS
  refine IB.s0 (IB.s0 (IB.s3 (IB.s2 (IB.s2 h (c := 2) (by decide) _ ⟨fun z => absurd z (by decide), fun z => absurd z (by decide)⟩) (c := 3) (by decide) _ ⟨fun z => absurd z (by decide), fun z => absurd z (by decide)⟩) ?_ (Or.inr rfl) _) (by decide) (by decide) (by decide) _) (by decide) (by decide) (by decide) _
  rw [su_k (by decide), su_k (by decide)]
  exact h1
theorem IB.setO {σ : Stt} (h : IB σ) {i : Nat} {t hh : Int32} (ht : ∃ n, n < nT σ ∧ t = nI n) (h9 : ∃ n, n ≤ 9 ∧ hh = nI n) : IB (setO σ i t hh) := by
  unfold Jvm.Pilot.CRumourCustomsLaw_law_r6485_fe393b.setO
  refine IB.s2 ?_ (c := 1) (by decide) _ ⟨fun z => absurd z (by decide), fun _ => h9⟩
  exact IB.s2 h (c := 0) (by decide) _ ⟨fun _ => ht, fun z => absurd z (by decide)⟩
theorem left_n {x n : Nat} (hx : x ≤ 9) (hn : n ≤ 100) : leftF (nI x) (nI n) = nI (x - n) := by
  unfold leftF mx
  have d := pk_sub_toInt (a := x) (b := n) (by omega) (by omega)
  have z0 : (0 : Int32).toInt = 0 := rfl
  by_cases c : 0 < x
  · rw [if_pos (show (0 : Int32) < nI x from nI_lt (a := 0) c (by omega))]
    by_cases q : n < x
    · rw [if_pos (Int32.lt_iff_toInt_lt.mpr (by rw [d, z0]; omega)), pk_sub (by omega)]
    · rw [if_neg (fun z => by have := Int32.lt_iff_toInt_lt.mp z; rw [d, z0] at this; omega), show x - n = 0 by omega]; rfl
  · rw [if_neg (show ¬ (0 : Int32) < nI x from fun z => c ((nI_ltI (a := 0) (by omega) (by omega)).mp z)), show x - n = x by omega]
theorem IB.passN {σ : Stt} (h : IB σ) {hh : Int32} (h1 : wi 1 hh 100 = true) : ∀ n, n ≤ nC σ → IB (passN σ hh n)
  | 0, _ => h
  | n + 1, hn => by
    have ih := IB.passN h h1 n (by omega)
    have eC := passN_nC σ hh n
    show IB (passS (Jvm.Pilot.CRumourCustomsLaw_law_r6485_fe393b.passN σ hh n) hh n)
    unfold passS
    refine ih.s2 (c := 1) (by decide) _ ⟨fun z => absurd z (by decide), fun _ => ?_⟩
    obtain ⟨x, hx, ex⟩ := (ih.1.2.2.2.2.1 n (by omega)).2
    obtain ⟨y, -, hy, rfl⟩ := wiN (lo := 1) (hi := 100) (by decide) h1
    rw [ex, left_n hx hy]
    exact ⟨_, by omega, rfl⟩
end INVK
