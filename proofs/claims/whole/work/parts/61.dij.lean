/-! PURE: ways of a rumour; Dijkstra's walk finds the best of them -/
section DIJ
def wD (σ : Stt) (u a b q : Nat) : Nat := dN σ (rk a b) u q
def wH (σ : Stt) (a b : Nat) : Nat := (σ 3 (7 * rk a b + 1)).toNatClampNeg
def isR (σ : Stt) (a b : Nat) : Prop := a < nT σ ∧ b < nT σ ∧ σ 3 (7 * rk a b) = 1
/-- a way with n roads, to town a with b proofs burnt, at v (duties times a million, and hours) -/
def wk (σ : Stt) (u P fr : Nat) : Nat → Nat → Nat → Nat → Prop
  | 0, a, b, v => a = fr ∧ b = 0 ∧ v = 0
  | n + 1, a, b, v => ∃ a' b' v', wk σ u P fr n a' b' v' ∧ isR σ a' a ∧ b' ≤ b ∧ b ≤ P ∧ v = v' + 1000000 * wD σ u a' a (b - b') + wH σ a' a
def isW (σ : Stt) (u P fr to v : Nat) : Prop := ∃ m b, wk σ u P fr m to b v
noncomputable def bestO (σ : Stt) (u P fr to : Nat) : Option Nat := @dite _ (∃ v, isW σ u P fr to v ∧ ∀ v', isW σ u P fr to v' → v ≤ v') (Classical.propDecidable _) (fun h => some h.choose) (fun _ => none)
theorem bestO_some {σ : Stt} {u P fr to v : Nat} (h1 : isW σ u P fr to v) (h2 : ∀ v', isW σ u P fr to v' → v ≤ v') : bestO σ u P fr to = some v := by
  have h : ∃ v, isW σ u P fr to v ∧ ∀ v', isW σ u P fr to v' → v ≤ v' := ⟨v, h1, h2⟩
  unfold bestO
  rw [dif_pos h]
  exact congrArg some (Nat.le_antisymm (h.choose_spec.2 _ h1) (h2 _ h.choose_spec.1))
theorem bestO_none {σ : Stt} {u P fr to : Nat} (h : ∀ v, ¬ isW σ u P fr to v) : bestO σ u P fr to = none := by
  unfold bestO
  rw [dif_neg (fun ⟨v, h1, _⟩ => h v h1)]
theorem isR_of {σ : Stt} (hI : Inv σ) {a b : Nat} (ha : a < 10) (hb : b < 10) (h : σ 3 (7 * rk a b) = 1) : isR σ a b := by
  rcases hI.2.2.2.2.2 (rk a b) (rk_lt ha hb) with z | z
  · have h1 := z.2.2.1
    have e : rk a b % 10 = max a b := by unfold rk; omega
    rw [e] at h1
    exact ⟨by omega, by omega, h⟩
  · exact absurd ((z 0 (by decide)).symm.trans h) (by decide)
theorem edge {σ : Stt} (hI : Inv σ) {u a b : Nat} (hu : u < nR σ) (h : isR σ a b) : (∀ q, q < 32 → duty σ (rk a b) u (nI q) = nI (wD σ u a b q) ∧ wD σ u a b q ≤ 3570) ∧ σ 3 (7 * rk a b + 1) = nI (wH σ a b) ∧ 1 ≤ wH σ a b ∧ wH σ a b ≤ 9 ∧ a ≠ b := by
  have h10 := hI.1.2
  have hk : rk a b < 100 := rk_lt (by have := h.1; omega) (by have := h.2.1; omega)
  refine ⟨fun q hq => duty_n hI hk h.2.2 hu hq, ?_⟩
  rcases hI.2.2.2.2.2 (rk a b) hk with z | z
  · obtain ⟨n, h1, h2, e⟩ := z.2.2.2.1
    have e2 : wH σ a b = n := by unfold wH; rw [e, nI_clamp (by omega)]
    refine ⟨by rw [e2]; exact e, by omega, by omega, fun y => ?_⟩
    subst y
    exact rd_self hI (by have := h.1; omega) h.2.2
  · exact absurd ((z 0 (by decide)).symm.trans h.2.2) (by decide)
theorem wk_bd {σ : Stt} {u P fr : Nat} (hf : fr < nT σ) : ∀ {n a b v : Nat}, wk σ u P fr n a b v → a < nT σ ∧ b ≤ P
  | 0, a, b, v, h => ⟨by rw [h.1]; exact hf, by rw [h.2.1]; exact Nat.zero_le _⟩
  | n + 1, a, b, v, h => by
    obtain ⟨a', b', v', -, h2, -, h4, -⟩ := h
    exact ⟨h2.2.1, h4⟩
def En (x : Nat) : Nat := x / 1000 * 1000000 + x % 1000
theorem En_mono {x y : Nat} (h : x ≤ y) : En x ≤ En y := by unfold En; omega
theorem En_add {x d h : Nat} (hh : x % 1000 + h < 1000) : En (x + 1000 * d + h) = En x + 1000000 * d + h := by
  unfold En
  have e1 : (x + 1000 * d + h) / 1000 = x / 1000 + d := by omega
  have e2 : (x + 1000 * d + h) % 1000 = x % 1000 + h := by omega
  rw [e1, e2, Nat.add_mul, Nat.mul_comm 1000000 d]
  omega
def pz (τ : Stt) (k : Nat) : Nat := (τ 4 k).toNatClampNeg
/-- what relaxing the roads of stage s has done so far -/
def RX (σ τ0 τ : Stt) (u P s : Nat) (dn : Nat → Nat → Prop) : Prop :=
  (∀ a j, a ≠ 4 → τ a j = τ0 a j) ∧
  (∀ k, k < 60 → τ 4 k = nI (pz τ k) ∧ pz τ k ≤ pz τ0 k ∧ (pz τ k = pz τ0 k ∨ ∃ t q, isR σ (s % 10) t ∧ s / 10 + q ≤ P ∧ k = (s / 10 + q) * 10 + t ∧ pz τ k = pz τ0 s + 1000 * wD σ u (s % 10) t q + wH σ (s % 10) t)) ∧
  (∀ t q, dn t q → isR σ (s % 10) t → s / 10 + q ≤ P → pz τ ((s / 10 + q) * 10 + t) ≤ pz τ0 s + 1000 * wD σ u (s % 10) t q + wH σ (s % 10) t)
theorem RX.at {σ τ0 τ : Stt} {u P s : Nat} {dn : Nat → Nat → Prop} (hI : Inv σ) (hu : u < nR σ) (hs : s < 60) (h : RX σ τ0 τ u P s dn) : pz τ s = pz τ0 s := by
  rcases (h.2.1 s hs).2.2 with z | ⟨t, q, h1, -, h3, -⟩
  · exact z
  · have := h1.2.1
    have h10 := hI.1.2
    exact absurd (by omega : s % 10 = t) (edge hI hu h1).2.2.2.2
theorem pz_su {τ : Stt} {k j : Nat} {v : Int32} : pz (su τ 4 k v) j = if j = k then v.toNatClampNeg else pz τ j := by
  unfold pz
  by_cases h : j = k
  · rw [if_pos h, h, su_s]
  · rw [if_neg h, su_j h]
theorem gb1_rx {σ τ0 τ : Stt} {u P s tw q : Nat} {dn : Nat → Nat → Prop} (hI : Inv σ) (hu : u < nR σ) (hs : s < 60) (h3 : ∀ j, τ0 3 j = σ 3 j) (h1 : ∀ j, τ0 1 j = σ 1 j) (hp : pz τ0 s < 1000000000) (h0 : ∀ k, k < 60 → pz τ0 k ≤ 1000000000) (hP : P ≤ 5) (h : RX σ τ0 τ u P s dn) (hr : isR σ (s % 10) tw) (hq : s / 10 + q ≤ P) :
    RX σ τ0 (gb1 τ (rk (s % 10) tw) tw s u q) u P s (fun t q' => dn t q' ∨ (t = tw ∧ q' = q)) := by
  obtain ⟨e1, e2, e3, e4, -⟩ := edge hI hu hr
  obtain ⟨d1, d2⟩ := e1 q (by omega)
  have h10 := hI.1.2
  have htw : tw < 10 := by have := hr.2.1; omega
  have hnx : (s / 10 + q) * 10 + tw < 60 := by omega
  have es : τ 4 s = nI (pz τ0 s) := by rw [(h.2.1 s hs).1, h.at hI hu hs]
  have edu : duty τ (rk (s % 10) tw) u (nI q) = duty σ (rk (s % 10) tw) u (nI q) := by
    unfold duty
    rw [h.1 3 _ (by decide), h.1 3 _ (by decide), h.1 1 _ (by decide), h.1 1 _ (by decide), h3, h3, h1, h1]
  have ep : prW τ (rk (s % 10) tw) s u q = nI (pz τ0 s + 1000 * wD σ u (s % 10) tw q + wH σ (s % 10) tw) := by
    unfold prW
    rw [es, edu, d1, h.1 3 _ (by decide), h3, e2, show (1000 : Int32) = nI 1000 from rfl, pk_mul, nI_add, nI_add, Nat.mul_comm (wD σ u (s % 10) tw q) 1000]
  obtain ⟨V, hV⟩ : ∃ V, V = pz τ0 s + 1000 * wD σ u (s % 10) tw q + wH σ (s % 10) tw := ⟨_, rfl⟩
  rw [← hV] at ep
  have hV2 : V < 2 ^ 31 := by omega
  have eX := h.2.1 _ hnx
  have hX := h0 _ hnx
  unfold gb1
  rw [ep, eX.1]
  by_cases c : V < pz τ ((s / 10 + q) * 10 + tw)
  · rw [if_pos (nI_lt c (by omega))]
    refine ⟨fun a j ha => by rw [su_k ha]; exact h.1 a j ha, fun k hk => ?_, fun t q' hd hr' hq' => ?_⟩
    · rw [pz_su]
      by_cases e : k = (s / 10 + q) * 10 + tw
      · rw [if_pos e, e, su_s, nI_clamp hV2]
        exact ⟨rfl, by omega, Or.inr ⟨tw, q, hr, hq, rfl, hV⟩⟩
      · rw [if_neg e, su_j e]
        exact h.2.1 k hk
    · rw [pz_su]
      by_cases e : (s / 10 + q') * 10 + t = (s / 10 + q) * 10 + tw
      · have ht : t < 10 := by have := hr'.2.1; omega
        obtain ⟨rfl, rfl⟩ : t = tw ∧ q' = q := by omega
        rw [if_pos rfl, nI_clamp hV2, hV]
        exact Nat.le_refl _
      · rw [if_neg e]
        rcases hd with hd | ⟨rfl, rfl⟩
        · exact h.2.2 t q' hd hr' hq'
        · exact absurd rfl e
  · rw [if_neg (fun z => c ((nI_ltI hV2 (by omega)).mp z))]
    refine ⟨h.1, h.2.1, fun t q' hd hr' hq' => ?_⟩
    rcases hd with hd | ⟨rfl, rfl⟩
    · exact h.2.2 t q' hd hr' hq'
    · omega
theorem gbN_rx {σ τ0 τ : Stt} {u P s tw : Nat} {dn : Nat → Nat → Prop} (hI : Inv σ) (hu : u < nR σ) (hs : s < 60) (h3 : ∀ j, τ0 3 j = σ 3 j) (h1 : ∀ j, τ0 1 j = σ 1 j) (hp : pz τ0 s < 1000000000) (h0 : ∀ k, k < 60 → pz τ0 k ≤ 1000000000) (hP : P ≤ 5) (h : RX σ τ0 τ u P s dn) (hr : isR σ (s % 10) tw) :
    ∀ n, n ≤ P - s / 10 + 1 → s / 10 ≤ P → RX σ τ0 (gbN τ (rk (s % 10) tw) tw s u n) u P s (fun t q' => dn t q' ∨ (t = tw ∧ q' < n))
  | 0, _, _ => ⟨h.1, h.2.1, fun t q' hd hr' hq' => by
      rcases hd with hd | ⟨-, hd⟩
      · exact h.2.2 t q' hd hr' hq'
      · omega⟩
  | n + 1, hn, hb => by
    have ih := gbN_rx hI hu hs h3 h1 hp h0 hP h hr n (by omega) hb
    have st := gb1_rx hI hu hs h3 h1 hp h0 hP ih hr (q := n) (by omega)
    refine ⟨st.1, st.2.1, fun t q' hd hr' hq' => st.2.2 t q' ?_ hr' hq'⟩
    rcases hd with hd | ⟨h4, h5⟩
    · exact Or.inl (Or.inl hd)
    · rcases Nat.lt_or_ge q' n with z | z
      · exact Or.inl (Or.inr ⟨h4, z⟩)
      · exact Or.inr ⟨h4, by omega⟩
theorem goNW_rx {σ τ0 : Stt} {u P s : Nat} (hI : Inv σ) (hu : u < nR σ) (hs : s < 60) (h3 : ∀ j, τ0 3 j = σ 3 j) (h1 : ∀ j, τ0 1 j = σ 1 j) (hp : pz τ0 s < 1000000000) (h0 : ∀ k, k < 60 → τ0 4 k = nI (pz τ0 k) ∧ pz τ0 k ≤ 1000000000) (hP : P ≤ 5) (hb : s / 10 ≤ P) :
    ∀ n, n ≤ 10 → RX σ τ0 (goNW τ0 s u (P - s / 10 + 1) n) u P s (fun t _ => t < n)
  | 0, _ => ⟨fun _ _ _ => rfl, fun k hk => ⟨(h0 k hk).1, Nat.le_refl _, Or.inl rfl⟩, fun t q' hd => absurd hd (Nat.not_lt_zero _)⟩
  | n + 1, hn => by
    have ih := goNW_rx hI hu hs h3 h1 hp h0 hP hb n (by omega)
    show RX σ τ0 (go1W (goNW τ0 s u (P - s / 10 + 1) n) s u (P - s / 10 + 1) n) u P s _
    unfold go1W
    have er : goNW τ0 s u (P - s / 10 + 1) n 3 (7 * rk (s % 10) n) = σ 3 (7 * rk (s % 10) n) := by rw [ih.1 3 _ (by decide), h3]
    rw [er]
    by_cases c : σ 3 (7 * rk (s % 10) n) = 1
    · rw [if_pos c]
      have hr := isR_of hI (a := s % 10) (b := n) (by omega) (by omega) c
      have st := gbN_rx hI hu hs h3 h1 hp (fun k hk => (h0 k hk).2) hP ih hr (P - s / 10 + 1) (Nat.le_refl _) hb
      refine ⟨st.1, st.2.1, fun t q' hd hr' hq' => st.2.2 t q' ?_ hr' hq'⟩
      rcases Nat.lt_or_ge t n with z | z
      · exact Or.inl z
      · exact Or.inr ⟨by omega, by omega⟩
    · rw [if_neg c]
      refine ⟨ih.1, ih.2.1, fun t q' hd hr' hq' => ?_⟩
      rcases Nat.lt_or_ge t n with z | z
      · exact ih.2.2 t q' z hr' hq'
      · exact absurd (by rw [show n = t by omega]; exact hr'.2.2) c
/-- what holds after n rounds -/
def DI (σ : Stt) (u P fr to n : Nat) (τ : Stt) : Prop :=
  (∀ a j, a ≠ 4 → a ≠ 5 → τ a j = σ a j) ∧
  (∀ k, k < 60 → τ 4 k = nI (pz τ k) ∧ pz τ k ≤ 1000000000 ∧ (τ 5 k = 0 ∨ τ 5 k = 1)) ∧
  (∀ k, k < 60 → pz τ k < 1000000000 → pz τ k ≤ 3570009 * n ∧ pz τ k % 1000 ≤ 9 * n ∧ k / 10 ≤ P ∧ k % 10 < nT σ ∧ ∃ m, wk σ u P fr m (k % 10) (k / 10) (En (pz τ k))) ∧
  pz τ fr = 0 ∧
  (∀ k, k < 60 → τ 5 k = 1 → pz τ k < 1000000000 ∧ k % 10 ≠ to ∧ ∀ t q, isR σ (k % 10) t → k / 10 + q ≤ P → pz τ ((k / 10 + q) * 10 + t) ≤ pz τ k + 1000 * wD σ u (k % 10) t q + wH σ (k % 10) t) ∧
  (∀ k k', k < 60 → k' < 60 → τ 5 k = 1 → τ 5 k' = 0 → pz τ k ≤ pz τ k') ∧
  fb_ct (fun k => decide (τ 5 k = 1)) 60 = n
theorem stN_at (σ : Stt) (fr : Int32) : ∀ n k, k < n → stN σ fr n 4 k = (if nI k = fr then 0 else 1000000000) ∧ stN σ fr n 5 k = 0
  | 0, k, h => absurd h (Nat.not_lt_zero _)
  | n + 1, k, h => by
    show su (su (stN σ fr n) 4 n _) 5 n 0 4 k = _ ∧ su (su (stN σ fr n) 4 n _) 5 n 0 5 k = 0
    rw [su_k (a := 4) (by decide)]
    by_cases e : k = n
    · rw [e, su_s, su_s]
      exact ⟨rfl, rfl⟩
    · rw [su_j e, su_j e, su_k (a := 5) (by decide)]
      exact stN_at σ fr n k (by omega)
theorem DI_0 {σ : Stt} {u P fr to : Nat} (hI : Inv σ) (hf : fr < nT σ) : DI σ u P fr to 0 (stN σ (nI fr) 60) := by
  have h10 := hI.1.2
  have a := stN_at σ (nI fr) 60
  have p0 : ∀ k, k < 60 → pz (stN σ (nI fr) 60) k = if k = fr then 0 else 1000000000 := fun k hk => by
    unfold pz
    rw [(a k hk).1]
    by_cases e : k = fr
    · rw [if_pos e, if_pos (by rw [e])]; rfl
    · rw [if_neg e, if_neg (fun z => e ((nI_eq (by omega) (by omega)).mp z))]; rfl
  refine ⟨fun a j h4 h5 => stN_o _ _ _ _ _ h4 h5, fun k hk => ⟨?_, ?_, Or.inl (a k hk).2⟩, fun k hk hp => ?_, ?_, fun k hk h5 => ?_, fun k k' hk hk' h5 => ?_, ?_⟩
  · rw [p0 k hk, (a k hk).1]
    by_cases e : k = fr
    · rw [if_pos e, if_pos (by rw [e])]; rfl
    · rw [if_neg e, if_neg (fun z => e ((nI_eq (by omega) (by omega)).mp z))]; rfl
  · rw [p0 k hk]
    split <;> omega
  · rw [p0 k hk] at hp ⊢
    by_cases e : k = fr
    · rw [if_pos e]
      refine ⟨by omega, by omega, by omega, by omega, 0, by omega, by omega, rfl⟩
    · rw [if_neg e] at hp; omega
  · rw [p0 fr (by omega), if_pos rfl]
  · rw [(a k hk).2] at h5; exact absurd h5 (by decide)
  · rw [(a k hk).2] at h5; exact absurd h5 (by decide)
  · refine fb_ct_zero.mpr (fun k hk => ?_)
    rw [(a k hk).2]; rfl
theorem nx_sp (τ : Stt) : ∀ n, (nxS τ n = (-1, 1000000000) ∧ ∀ k, k < n → τ 5 k = 0 → ¬ τ 4 k < 1000000000) ∨ ∃ s, s < n ∧ nxS τ n = (nI s, τ 4 s) ∧ τ 5 s = 0 ∧ τ 4 s < 1000000000 ∧ ∀ k, k < n → τ 5 k = 0 → τ 4 s ≤ τ 4 k
  | 0 => Or.inl ⟨rfl, fun k h => absurd h (Nat.not_lt_zero _)⟩
  | n + 1 => by
    rcases nx_sp τ n with ⟨e, h⟩ | ⟨s, hs, e, h5, h4, hm⟩
    · by_cases c : τ 5 n = 0 ∧ τ 4 n < (nxS τ n).2
      · rw [nxS_t c]
        rw [e] at c
        refine Or.inr ⟨n, by omega, rfl, c.1, c.2, fun k hk h5 => ?_⟩
        rcases Nat.lt_or_ge k n with z | z
        · exact Int32.le_of_lt (Int32.lt_of_lt_of_le c.2 (Int32.not_lt.mp (h k z h5)))
        · rw [show k = n by omega]; exact Int32.le_refl _
      · rw [nxS_f c, e]
        rw [e] at c
        refine Or.inl ⟨rfl, fun k hk h5 h4 => ?_⟩
        rcases Nat.lt_or_ge k n with z | z
        · exact h k z h5 h4
        · rw [show k = n by omega] at h5 h4
          exact c ⟨h5, h4⟩
    · by_cases c : τ 5 n = 0 ∧ τ 4 n < (nxS τ n).2
      · rw [nxS_t c]
        rw [e] at c
        refine Or.inr ⟨n, by omega, rfl, c.1, Int32.lt_trans c.2 h4, fun k hk h5' => ?_⟩
        rcases Nat.lt_or_ge k n with z | z
        · exact Int32.le_of_lt (Int32.lt_of_lt_of_le c.2 (hm k z h5'))
        · rw [show k = n by omega]; exact Int32.le_refl _
      · rw [nxS_f c, e]
        rw [e] at c
        refine Or.inr ⟨s, by omega, rfl, h5, h4, fun k hk h5' => ?_⟩
        rcases Nat.lt_or_ge k n with z | z
        · exact hm k z h5'
        · rw [show k = n by omega] at h5' ⊢
          exact Int32.not_lt.mp (fun z => c ⟨h5', z⟩)
theorem DI.n60 {σ : Stt} {u P fr to n : Nat} {τ : Stt} (h : DI σ u P fr to n τ) : n ≤ 60 := by
  rw [← h.2.2.2.2.2.2]
  exact fb_ct_le _ _
/-- the next stage, in numbers -/
theorem DI.nx {σ : Stt} {u P fr to n : Nat} {τ : Stt} (h : DI σ u P fr to n τ) : ((nxS τ 60).1 = -1 ∧ ∀ k, k < 60 → τ 5 k = 0 → ¬ pz τ k < 1000000000) ∨ ∃ s, s < 60 ∧ (nxS τ 60).1 = nI s ∧ τ 5 s = 0 ∧ pz τ s < 1000000000 ∧ ∀ k, k < 60 → τ 5 k = 0 → pz τ s ≤ pz τ k := by
  have q : ∀ k, k < 60 → (τ 4 k < 1000000000 ↔ pz τ k < 1000000000) := fun k hk => by
    have := (h.2.1 k hk).2.1
    rw [(h.2.1 k hk).1, show (1000000000 : Int32) = nI 1000000000 from rfl]
    exact nI_ltI (by omega) (by decide)
  rcases nx_sp τ 60 with ⟨e, hn⟩ | ⟨s, hs, e, h5, h4, hm⟩
  · exact Or.inl ⟨by rw [e], fun k hk h5 z => hn k hk h5 ((q k hk).mpr z)⟩
  · refine Or.inr ⟨s, hs, by rw [e], h5, (q s hs).mp h4, fun k hk h5' => ?_⟩
    have m := hm k hk h5'
    have := (h.2.1 k hk).2.1
    have := (h.2.1 s hs).2.1
    rw [(h.2.1 k hk).1, (h.2.1 s hs).1] at m
    exact (nI_leI (by omega) (by omega)).mp m
theorem DI.step {σ : Stt} {u P fr to n : Nat} {τ : Stt} (hI : Inv σ) (hu : u < nR σ) (hP : P ≤ 5) (h : DI σ u P fr to n τ) {s : Nat} (hs : s < 60) (h5 : τ 5 s = 0) (hp : pz τ s < 1000000000) (hm : ∀ k, k < 60 → τ 5 k = 0 → pz τ s ≤ pz τ k) (ht : s % 10 ≠ to) :
    DI σ u P fr to (n + 1) (goNW (su τ 5 s 1) s u (P - s / 10 + 1) 10) := by
  obtain ⟨a1, a2, a3, a4, a5, a6, a7⟩ := h
  have h10 := hI.1.2
  obtain ⟨b1, b2, b3, b4, m, b5⟩ := a3 s hs hp
  have e0 : ∀ k, pz (su τ 5 s 1) k = pz τ k := fun k => by unfold pz; rw [su_k (by decide)]
  have hn : n < 60 := by
    rcases Nat.lt_or_ge n 60 with z | z
    · exact z
    · have l := fb_ct_le (fun k => decide (τ 5 k = 1)) 60
      have := fb_ct_all.mp (by rw [a7]; omega : fb_ct (fun k => decide (τ 5 k = 1)) 60 = 60) s hs
      rw [h5] at this
      exact absurd this (by decide)
  have rx := goNW_rx (σ := σ) (τ0 := su τ 5 s 1) (u := u) (P := P) hI hu hs (fun j => by rw [su_k (by decide)]; exact a1 3 j (by decide) (by decide)) (fun j => by rw [su_k (by decide)]; exact a1 1 j (by decide) (by decide)) (by rw [e0]; exact hp) (fun k hk => by rw [e0, su_k (by decide)]; exact ⟨(a2 k hk).1, (a2 k hk).2.1⟩) hP b3 10 (Nat.le_refl _)
  have es := rx.at hI hu hs
  obtain ⟨τ', hτ'⟩ : ∃ τ', τ' = goNW (su τ 5 s 1) s u (P - s / 10 + 1) 10 := ⟨_, rfl⟩
  rw [← hτ'] at rx es ⊢
  obtain ⟨r1, r2, r3⟩ := rx
  rw [e0] at es
  have f5 : ∀ k, τ' 5 k = if k = s then 1 else τ 5 k := fun k => by
    rw [r1 5 k (by decide)]
    by_cases e : k = s
    · rw [if_pos e, e, su_s]
    · rw [if_neg e, su_j e]
  -- settled prices stay
  have st : ∀ k, k < 60 → τ 5 k = 1 → pz τ' k = pz τ k := fun k hk hk5 => by
    obtain ⟨-, q2, q3⟩ := r2 k hk
    rw [e0] at q2 q3
    rcases q3 with z | ⟨t, q, i1, -, -, i4⟩
    · exact z
    · have := a6 k s hk hs hk5 h5
      rw [e0] at i4
      have := (edge hI hu i1).2.2.1
      omega
  refine ⟨fun a j h4 h5' => by rw [r1 a j h4, su_k h5']; exact a1 a j h4 h5', fun k hk => ⟨(r2 k hk).1, ?_, ?_⟩, fun k hk hk9 => ?_, ?_, fun k hk hk5 => ?_, fun k k' hk hk' hk5 hk5' => ?_, ?_⟩
  · have := (r2 k hk).2.1
    rw [e0] at this
    exact Nat.le_trans this (a2 k hk).2.1
  · rw [f5]
    split
    · exact Or.inr rfl
    · exact (a2 k hk).2.2
  · obtain ⟨-, q2, q3⟩ := r2 k hk
    rw [e0] at q2 q3
    rcases q3 with z | ⟨t, q, i1, i2, i3, i4⟩
    · rw [z] at hk9 ⊢
      obtain ⟨c1, c2, c3, c4, c5⟩ := a3 k hk hk9
      exact ⟨by omega, by omega, c3, c4, c5⟩
    · rw [e0] at i4
      obtain ⟨g1, g2, g3, g4, g5⟩ := edge hI hu i1
      have hq := (g1 q (by omega)).2
      have htn := i1.2.1
      have k1 : k / 10 = s / 10 + q := by omega
      have k2 : k % 10 = t := by omega
      rw [k1, k2, i4]
      refine ⟨by omega, by omega, i2, htn, m + 1, s % 10, s / 10, En (pz τ s), b5, i1, by omega, i2, ?_⟩
      rw [En_add (by omega), show s / 10 + q - s / 10 = q by omega]
  · rcases Nat.eq_zero_or_pos (pz τ' fr) with z | z
    · exact z
    · have ff : fr < 60 := by
        rcases Nat.lt_or_ge fr 60 with y | y
        · exact y
        · exfalso
          obtain ⟨q, hq⟩ : ∃ q, q = m := ⟨m, rfl⟩
          have : ∀ m a b v, wk σ u P fr m a b v → fr < nT σ ∨ m = 0 → True := fun _ _ _ _ _ _ => trivial
          have hfr : ∀ m a b v, wk σ u P fr m a b v → (m = 0 ∧ a = fr) ∨ a < nT σ ∧ fr < nT σ := by
            intro m
            induction m with
            | zero => intro a b v w; exact Or.inl ⟨rfl, w.1⟩
            | succ m ih =>
              intro a b v w
              obtain ⟨a', b', v', w1, w2, -⟩ := w
              rcases ih a' b' v' w1 with ⟨-, e⟩ | ⟨-, e⟩
              · exact Or.inr ⟨w2.2.1, by rw [← e]; exact w2.1⟩
              · exact Or.inr ⟨w2.2.1, e⟩
          rcases hfr m _ _ _ b5 with ⟨-, e⟩ | ⟨-, e⟩
          · omega
          · omega
      have := (r2 fr ff).2.1
      rw [e0, a4] at this
      omega
  · rw [f5] at hk5
    by_cases e : k = s
    · subst e
      rw [es]
      refine ⟨hp, ht, fun t q i1 i2 => ?_⟩
      have := r3 t q (by have := i1.2.1; omega) i1 i2
      rw [e0] at this
      exact this
    · rw [if_neg e] at hk5
      rw [st k hk hk5]
      obtain ⟨c1, c2, c3⟩ := a5 k hk hk5
      refine ⟨c1, c2, fun t q i1 i2 => Nat.le_trans ?_ (c3 t q i1 i2)⟩
      have := (r2 ((k / 10 + q) * 10 + t) (by have := i1.2.1; omega)).2.1
      rw [e0] at this
      exact this
  · rw [f5] at hk5 hk5'
    have e' : k' ≠ s := fun z => by rw [if_pos z] at hk5'; exact absurd hk5' (by decide)
    rw [if_neg e'] at hk5'
    have l1 : pz τ' k ≤ pz τ s := by
      by_cases e : k = s
      · rw [e, es]; exact Nat.le_refl _
      · rw [if_neg e] at hk5
        rw [st k hk hk5]
        exact a6 k s hk hs hk5 h5
    have l2 : pz τ s ≤ pz τ' k' := by
      obtain ⟨-, q2, q3⟩ := r2 k' hk'
      rw [e0] at q2 q3
      rcases q3 with z | ⟨t, q, i1, -, -, i4⟩
      · rw [z]; exact hm k' hk' hk5'
      · rw [e0] at i4
        omega
    exact Nat.le_trans l1 l2
  · have c := fb_ct_upd (fun k => decide (τ 5 k = 1)) true hs
    have e : (fun k => decide (τ' 5 k = 1)) = fun k => if k = s then true else decide (τ 5 k = 1) := by
      funext k
      rw [f5]
      by_cases e : k = s
      · rw [if_pos e, if_pos e]; rfl
      · rw [if_neg e, if_neg e]
    rw [e]
    rw [a7, h5] at c
    simpa using c
/-- no stage is left: no way -/
theorem DI.none {σ : Stt} {u P fr to n : Nat} {τ : Stt} (hI : Inv σ) (hu : u < nR σ) (hP : P ≤ 5) (hf : fr < nT σ) (h : DI σ u P fr to n τ) (hn : ∀ k, k < 60 → τ 5 k = 0 → ¬ pz τ k < 1000000000) : bestO σ u P fr to = none := by
  have h10 := hI.1.2
  have n60 := h.n60
  obtain ⟨a1, a2, a3, a4, a5, a6, a7⟩ := h
  have key : ∀ m a b v, wk σ u P fr m a b v → pz τ (b * 10 + a) < 1000000000 := by
    intro m
    induction m with
    | zero =>
      intro a b v w
      obtain ⟨rfl, rfl, -⟩ := w
      rw [Nat.zero_mul, Nat.zero_add, a4]
      omega
    | succ m ih =>
      intro a b v w
      obtain ⟨a', b', v', w1, w2, w3, w4, w5⟩ := w
      have r := ih a' b' v' w1
      obtain ⟨l1, l2⟩ := wk_bd hf w1
      have hk : b' * 10 + a' < 60 := by omega
      rcases (a2 _ hk).2.2 with z | z
      · exact absurd r (hn _ hk z)
      · obtain ⟨-, -, c3⟩ := a5 _ hk z
        have d1 : (b' * 10 + a') / 10 = b' := by omega
        have d2 : (b' * 10 + a') % 10 = a' := by omega
        rw [d1, d2] at c3
        have := c3 a (b - b') w2 (by omega)
        rw [show b' + (b - b') = b by omega] at this
        have g := (a3 _ hk r).1
        obtain ⟨g1, g2, g3, g4, g5⟩ := edge hI hu w2
        have := (g1 (b - b') (by omega)).2
        omega
  refine bestO_none (fun v ⟨m, b, w⟩ => ?_)
  obtain ⟨l1, l2⟩ := wk_bd hf w
  have r := key m to b v w
  have hk : b * 10 + to < 60 := by omega
  rcases (a2 _ hk).2.2 with z | z
  · exact hn _ hk z r
  · exact (a5 _ hk z).2.1 (by omega)
/-- the next stage lies in the town that is asked for -/
theorem DI.found {σ : Stt} {u P fr to n : Nat} {τ : Stt} (hI : Inv σ) (hu : u < nR σ) (hP : P ≤ 5) (hf : fr < nT σ) (h : DI σ u P fr to n τ) {s : Nat} (hs : s < 60) (h5 : τ 5 s = 0) (hp : pz τ s < 1000000000) (hm : ∀ k, k < 60 → τ 5 k = 0 → pz τ s ≤ pz τ k) (ht : s % 10 = to) : bestO σ u P fr to = some (En (pz τ s)) := by
  have h10 := hI.1.2
  have n60 := h.n60
  obtain ⟨a1, a2, a3, a4, a5, a6, a7⟩ := h
  have key : ∀ m a b v, wk σ u P fr m a b v → (pz τ (b * 10 + a) < 1000000000 ∧ En (pz τ (b * 10 + a)) ≤ v) ∨ En (pz τ s) ≤ v := by
    intro m
    induction m with
    | zero =>
      intro a b v w
      obtain ⟨rfl, rfl, rfl⟩ := w
      left
      rw [Nat.zero_mul, Nat.zero_add, a4]
      exact ⟨by omega, Nat.le_refl _⟩
    | succ m ih =>
      intro a b v w
      obtain ⟨a', b', v', w1, w2, w3, w4, w5⟩ := w
      rcases ih a' b' v' w1 with ⟨r, r2⟩ | r
      · obtain ⟨l1, l2⟩ := wk_bd hf w1
        have hk : b' * 10 + a' < 60 := by omega
        rcases (a2 _ hk).2.2 with z | z
        · right
          have := En_mono (hm _ hk z)
          omega
        · left
          obtain ⟨-, -, c3⟩ := a5 _ hk z
          have d1 : (b' * 10 + a') / 10 = b' := by omega
          have d2 : (b' * 10 + a') % 10 = a' := by omega
          rw [d1, d2] at c3
          have c4 := c3 a (b - b') w2 (by omega)
          rw [show b' + (b - b') = b by omega] at c4
          obtain ⟨g, g', -⟩ := a3 _ hk r
          obtain ⟨g1, g2, g3, g4, g5⟩ := edge hI hu w2
          have := (g1 (b - b') (by omega)).2
          refine ⟨by omega, ?_⟩
          have c5 := En_mono c4
          rw [En_add (by omega)] at c5
          omega
      · right
        omega
  obtain ⟨-, -, -, -, m, w⟩ := a3 s hs hp
  rw [ht] at w
  refine bestO_some ⟨m, s / 10, w⟩ (fun v' ⟨m', b, w'⟩ => ?_)
  rcases key m' to b v' w' with ⟨r, r2⟩ | r
  · obtain ⟨l1, l2⟩ := wk_bd hf w'
    have hk : b * 10 + to < 60 := by omega
    rcases (a2 _ hk).2.2 with z | z
    · exact Nat.le_trans (En_mono (hm _ hk z)) r2
    · exact absurd (by omega : (b * 10 + to) % 10 = to) (a5 _ hk z).2.1
  · exact r
end DIJ
