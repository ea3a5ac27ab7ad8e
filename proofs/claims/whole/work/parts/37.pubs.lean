/-! what the public methods want besides: a new road on the map, rows of the recursions -/
section PUBS
variable {D : va_G} {ct : Nat → ClassId} {Z : Nat → Prop} {dc : Nat} {σ σ' : Stt} {ad : Nat → Nat} {H H1 : Heap}
def bldR (σ : Stt) (k : Nat) (h t u v : Int32) : Stt := fun a j => if a = 3 ∧ 7 * k ≤ j ∧ j < 7 * k + 7 then rd7 h t u v (j - 7 * k) else σ a j
theorem bld_R {k : Nat} {h t u v : Int32} : bld σ k h t u v = su (bldR σ k h t u v) 0 2 (σ 0 2 + 1) := rfl
theorem bldR_n {k a j : Nat} {h t u v : Int32} (ha : a ≠ 3) : bldR σ k h t u v a j = σ a j := if_neg (fun z => ha z.1)
theorem bldR_o {k j : Nat} {h t u v : Int32} (hj : ¬ (7 * k ≤ j ∧ j < 7 * k + 7)) : bldR σ k h t u v 3 j = σ 3 j := if_neg (fun z => hj z.2)
theorem bldR_k {k x : Nat} {h t u v : Int32} (hx : x < 7) : bldR σ k h t u v 3 (7 * k + x) = rd7 h t u v x := by
  unfold bldR
  rw [if_pos (by omega), show 7 * k + x - 7 * k = x by omega]
theorem rk_mod {a b j : Nat} (ha : a < 10) (hb : b < 10) (hj : j < 100) : rk (j / 10) (j % 10) = rk a b ↔ j = 10 * a + b ∨ j = 10 * b + a := by
  unfold rk
  omega
/-- a new road -/
theorem Pic.makeD (hP : Pic D ct Z dc σ ad H) {a b y : Nat} (ha : a < 10) (hb : b < 10) (h0 : ¬ σ 3 (7 * rk a b) = 1) (hy : ∀ i, us σ i → ad i ≠ y) (hyz : ¬ Z y) {h t u v : Int32} (oy : Ob D y 2 [.int h, .int t, .int u, .int v, .int 0, .int 0] H1) (o2 : Ar (ct 2) (ad 2) (rQ 100 (va_up (va_up (rdq σ ad) (10 * a + b) (some y)) (10 * b + a) (some y))) H1) (ho : ∀ i, us σ i → i ≠ 2 → H1[ad i]? = H[ad i]?) : ∃ ad' : Nat → Nat, ad' 0 = ad 0 ∧ Pic D ct Z dc (bldR σ (rk a b) h t u v) ad' H1 := by
  have hk := rk_lt ha hb
  generalize hkk : rk a b = k at hk h0 ⊢
  have eR : nR (bldR σ k h t u v) = nR σ := nR_eq (bldR_n (by decide))
  have eC : nC (bldR σ k h t u v) = nC σ := nC_eq (bldR_n (by decide))
  have e : ∀ a, a ≠ 3 → bldR σ k h t u v a = σ a := fun a z => by funext j; exact bldR_n z
  have hu : ∀ i, us (bldR σ k h t u v) i → (us σ i ∧ i ≠ 300 + k) ∨ i = 300 + k := fun i hi => by
    by_cases z : i = 300 + k
    · exact Or.inr z
    · refine Or.inl ⟨?_, z⟩
      unfold us at hi ⊢
      rw [eR, eC] at hi
      rcases hi with q | q | q | q | q | q
      · exact Or.inl q
      · exact Or.inr (Or.inl q)
      · exact Or.inr (Or.inr (Or.inl q))
      · exact Or.inr (Or.inr (Or.inr (Or.inl q)))
      · exact Or.inr (Or.inr (Or.inr (Or.inr (Or.inl q))))
      · rw [bldR_o (by omega)] at q
        exact Or.inr (Or.inr (Or.inr (Or.inr (Or.inr q))))
  generalize hA : upA ad (300 + k) y = ad'
  have aY : ad' (300 + k) = y := by rw [← hA, upA_s]
  have aO : ∀ i, i ≠ 300 + k → ad' i = ad i := fun i z => by rw [← hA, upA_n z]
  have hun : ¬ us σ (300 + k) := fun z => by
    unfold us at z
    have hn := hP.2.2.2.1
    have hc := hP.2.2.2.2
    rcases z with q | q | q | q | q | q
    · omega
    · omega
    · omega
    · omega
    · omega
    · rw [show 300 + k - 300 = k by omega] at q
      exact h0 q.2.2
  refine ⟨ad', aO 0 (by omega), fun i hi => ?_, fun i j hi hj hij => ?_, ?_, by rw [eR]; exact hP.2.2.2.1, by rw [eC]; exact hP.2.2.2.2⟩
  · rcases hu i hi with ⟨hi', hs⟩ | rfl
    · refine ⟨?_, by rw [aO i hs]; exact (hP.1 i hi').2⟩
      by_cases h2 : i = 2
      · subst h2
        have q : Ar (ct 2) (ad' 2) (rQ 100 (rdq (bldR σ k h t u v) ad')) H1 := by
          rw [aO 2 hs]
          refine Ar.cong o2 (fun j hj => ?_)
          have hm := rk_mod ha hb hj
          rw [hkk] at hm
          unfold va_up rdq
          by_cases z : rk (j / 10) (j % 10) = k
          · have e0 := bldR_k (σ := σ) (k := k) (h := h) (t := t) (u := u) (v := v) (x := 0) (by decide)
            rw [Nat.add_zero] at e0
            rw [z, e0, if_pos (show rd7 h t u v 0 = 1 from rfl), aY]
            by_cases z2 : j = 10 * b + a
            · rw [if_pos z2]
            · rw [if_neg z2, if_pos ((hm.mp z).resolve_right z2)]
          · have n1 : ¬ j = 10 * b + a := fun w => z (hm.mpr (Or.inr w))
            have n2 : ¬ j = 10 * a + b := fun w => z (hm.mpr (Or.inl w))
            rw [if_neg n1, if_neg n2, bldR_o (by omega), aO _ (by omega)]
        exact q
      · have ec : cn ct (bldR σ k h t u v) ad' i = cn ct σ ad i := by
          rcases us_case hi' with q | q | q | q
          · unfold cn
            rw [eR, eC, e 0 (by decide), e 4 (by decide), e 5 (by decide), e 6 (by decide)]
            have eL : lq ad' 100 (nR σ) = lq ad 100 (nR σ) := by
              funext j
              unfold lq
              have := hP.2.2.2.1
              by_cases z : j < nR σ
              · rw [if_pos z, if_pos z, aO _ (by omega)]
              · rw [if_neg z, if_neg z]
            have eL2 : lq ad' 200 (nC σ) = lq ad 200 (nC σ) := by
              funext j
              unfold lq
              have := hP.2.2.2.2
              by_cases z : j < nC σ
              · rw [if_pos z, if_pos z, aO _ (by omega)]
              · rw [if_neg z, if_neg z]
            rw [eL, eL2, aO 1 (by omega), aO 2 (by omega), aO 3 (by omega), aO 4 (by omega), aO 5 (by omega), aO 6 (by omega), aO 7 (by omega), aO 8 (by omega), aO 9 (by omega), aO 20 (by omega), aO 21 (by omega)]
            rcases lt10 q with rfl | rfl | rfl | rfl | rfl | rfl | rfl | rfl | rfl | rfl
            all_goals first | rfl | exact absurd rfl h2
          · obtain ⟨t, rfl⟩ : ∃ t, i = 100 + t := ⟨i - 100, by omega⟩
            rw [cn_r (by omega), cn_r (by omega), e 1 (by decide)]
          · obtain ⟨t, rfl⟩ : ∃ t, i = 200 + t := ⟨i - 200, by omega⟩
            rw [cn_c (by omega), cn_c (by omega), e 2 (by decide)]
          · obtain ⟨t, rfl⟩ : ∃ t, i = 300 + t := ⟨i - 300, by omega⟩
            rw [cn_d, cn_d, bldR_o (by omega), bldR_o (by omega), bldR_o (by omega), bldR_o (by omega), bldR_o (by omega), bldR_o (by omega)]
        rw [ec, aO i hs]
        exact va_at.kept (hP.1 i hi').1 (ho i hi' h2)
    · refine ⟨?_, by rw [aY]; exact hyz⟩
      rw [cn_d, aY, bldR_k (by decide), bldR_k (by decide), bldR_k (by decide), bldR_k (by decide), bldR_k (by decide), bldR_k (by decide)]
      exact oy
  · rcases hu i hi with ⟨hi', hs⟩ | rfl <;> rcases hu j hj with ⟨hj', hs2⟩ | rfl
    · rw [aO i hs, aO j hs2] at hij
      exact hP.2.1 i j hi' hj' hij
    · rw [aO i hs, aY] at hij
      exact absurd hij (hy i hi')
    · rw [aO j hs2, aY] at hij
      exact absurd hij.symm (hy j hj')
    · rfl
  · have hcs := hP.2.2.1
    unfold Caps at hcs ⊢
    rw [eR, eC, aO 20 (by omega), aO 21 (by omega), aO 8 (by omega), aO 9 (by omega)]
    exact hcs
theorem passN_row (σ : Stt) (h : Int32) : ∀ n j, 4 * n ≤ j → passN σ h n 2 j = σ 2 j
  | 0, _, _ => rfl
  | n + 1, j, hj => by
    rw [show passN σ h (n + 1) = passS (passN σ h n) h n from rfl]
    unfold passS
    rw [su_j (by omega)]
    exact passN_row σ h n j (by omega)
theorem fit_01 {x : Int32} (h : x = 0 ∨ x = 1) : fits .boolean (.int x) = true := by
  rcases h with rfl | rfl <;> rfl
end PUBS
