/-! EVERY CALL keeps what holds, and its code is below 4 -/
section OPSK
theorem bAnd {a b : Bool} (h : (a && b) = true) : a = true ∧ b = true := by
  cases a <;> cases b <;> simp_all
theorem inb_t {σ : Stt} (hI : Inv σ) {t : Int32} (h : tOK σ t = true) : ∃ a, a < nT σ ∧ t = nI a := okT hI.1.1 hI.1.2 h
theorem IB_addTown {σ : Stt} (h : IB σ) : IB (o_addTown σ).2.2 := by
  unfold o_addTown
  split
  · rename_i c
    exact h.town c
  · exact h
theorem IB_build {σ : Stt} (h : IB σ) (a b x t u v : Int32) : IB (o_build σ a b x t u v).2.2 := by
  unfold o_build
  split
  · rename_i c
    obtain ⟨ha, hb⟩ := bAnd c
    split
    · exact h
    · rename_i hab
      split
      · rename_i c2
        obtain ⟨c3, h4⟩ := bAnd c2
        obtain ⟨c4, h3⟩ := bAnd c3
        obtain ⟨h1, h2⟩ := bAnd c4
        split
        · exact h
        · obtain ⟨p, hp, rfl⟩ := inb_t h.1 ha
          obtain ⟨q, hq, rfl⟩ := inb_t h.1 hb
          have h10 := h.1.1.2
          show IB (bld σ (rk (ix (nI p)) (ix (nI q))) x t u v)
          rw [ix_n (by omega), ix_n (by omega)]
          refine h.road hp hq (fun z => hab (by rw [z])) ?_ ?_ ?_ ?_
          · exact wiN (lo := 1) (hi := 9) (by decide) h1
          · exact (wiN (lo := 0) (hi := 20) (by decide) h2).imp fun n z => z.2
          · exact (wiN (lo := 0) (hi := 30) (by decide) h3).imp fun n z => z.2
          · exact (wiN (lo := 0) (hi := 9) (by decide) h4).imp fun n z => z.2
      · exact h
  · exact h
theorem IB_makeUp {σ : Stt} (h : IB σ) (t l p : Int32) : IB (o_makeUp σ t l p).2.2 := by
  unfold o_makeUp
  split
  · rename_i ht
    split
    · rename_i c
      obtain ⟨h1, h2⟩ := bAnd c
      split
      · rename_i h60
        exact h.rum h60 (wiN (lo := 1) (hi := 30) (by decide) h1) ⟨0, by omega, rfl⟩ ((wiN (lo := 0) (hi := 5) (by decide) h2).imp fun n z => z.2) ⟨nR σ, by omega, rfl⟩ (inb_t h.1 ht)
      · exact h
    · exact h
  · exact h
theorem IB_addCarrier {σ : Stt} (h : IB σ) (t p : Int32) : IB (o_addCarrier σ t p).2.2 := by
  unfold o_addCarrier
  split
  · rename_i ht
    split
    · split
      · rename_i h8
        exact h.car h8 (inb_t h.1 ht)
      · exact h
    · exact h
  · exact h
theorem IB_take {σ : Stt} (h : IB σ) (c r : Int32) : IB (o_take σ c r).2.2 := by
  unfold o_take
  split
  · rename_i cc
    obtain ⟨h1, h2⟩ := bAnd cc
    obtain ⟨k, hk, rfl⟩ := okC h.1.2.2.1.1 h.1.2.2.1.2 h1
    obtain ⟨i, hi, rfl⟩ := okR h.1.2.1.1 h.1.2.1.2 h2
    have h8 := h.1.2.2.1.2
    have h60 := h.1.2.1.2
    rw [ix_n (by omega), ix_n (by omega)]
    split
    · exact h
    · split
      · split
        · rename_i h6
          exact h.lay_b hi (by omega) h6
        · exact h
      · exact h
  · exact h
theorem IB_leave {σ : Stt} (h : IB σ) (c r : Int32) : IB (o_leave σ c r).2.2 := by
  unfold o_leave
  split
  · rename_i cc
    obtain ⟨h1, h2⟩ := bAnd cc
    obtain ⟨k, hk, rfl⟩ := okC h.1.2.2.1.1 h.1.2.2.1.2 h1
    have h8 := h.1.2.2.1.2
    rw [ix_n (by omega)]
    split
    · exact h
    · split
      · exact h.lay_m _ _ (Or.inr (h.1.2.2.2.2.1 k hk).1)
      · exact h
  · exact h
theorem IB_hide {σ : Stt} (h : IB σ) (c r b : Int32) (hb : b = 0 ∨ b = 1) : IB (o_hide σ c r b).2.2 := by
  unfold o_hide
  split
  · split
    · exact h.s1 (Or.inr rfl) _ ⟨fun z => absurd z (by decide), fun _ => hb⟩
    · exact h
  · exact h
theorem IB_tell {σ : Stt} (h : IB σ) (c r : Int32) : IB (o_tell σ c r).2.2 := by
  unfold o_tell
  split
  · rename_i cc
    obtain ⟨h1, h2⟩ := bAnd cc
    obtain ⟨k, hk, rfl⟩ := okC h.1.2.2.1.1 h.1.2.2.1.2 h1
    obtain ⟨i, hi, rfl⟩ := okR h.1.2.1.1 h.1.2.1.2 h2
    have h8 := h.1.2.2.1.2
    have h60 := h.1.2.1.2
    rw [ix_n (by omega), ix_n (by omega)]
    split
    · exact h
    · split
      · split
        · exact h
        · split
          · rename_i hn
            split
            · rename_i h99
              obtain ⟨z0, ⟨d, hd, ed⟩, z2, z3, z4, z6⟩ := h.1.2.2.2.1 i hi
              refine h.rum hn z0 ⟨d + 1, ?_, ?_⟩ z2 (z3.imp fun n z => ⟨by omega, z.2⟩) (h.1.2.2.2.2.1 k hk).1
              · rw [ed, nI_1] at h99
                exact (nI_leI (b := 99) (by omega) (by decide)).mp h99
              · rw [ed, nI_1]
            · exact h
          · exact h
      · exact h
  · exact h
theorem IB_go {σ : Stt} (h : IB σ) (c t b : Int32) : IB (o_go σ c t b).2.2 := by
  unfold o_go
  split
  · rename_i cc
    obtain ⟨h1, h2⟩ := bAnd cc
    split
    · rename_i h5
      split
      · exact h
      · split
        · rename_i hrd
          split
          · show IB (goS σ c t b)
            obtain ⟨k, hk, rfl⟩ := okC h.1.2.2.1.1 h.1.2.2.1.2 h1
            have ht := inb_t h.1 h2
            unfold goS
            have hb := (wiN (lo := 0) (hi := 5) (by decide) h5).imp fun n z => z.2
            have e3 : ∀ j, burnN σ (nI (ix (nI k))) b (nR σ) 3 j = σ 3 j := fun j => by rw [burnN_3 _ _ _ _ _ (by decide) (by decide)]
            have i1 := h.burnN (c := nI (ix (nI k))) hb (nR σ) (Nat.le_refl _)
            have i2 := i1.insp (c := nI (ix (nI k))) (kd := gk σ (nI k) t) (by rw [e3]; exact hrd)
            have i3 := i2.pay (i := ix (nI k)) (kd := gk σ (nI k) t) (d := gow σ (nI k) t b) (f := gfi σ (nI k) t b) (by rw [insp_d, e3]; exact hrd)
            refine i3.setO ?_ ?_
            · have eT : nT (payS (insp (burnN σ (nI (ix (nI k))) b (nR σ)) (nI (ix (nI k))) (gk σ (nI k) t)) (ix (nI k)) (gk σ (nI k) t) (gow σ (nI k) t b) (gfi σ (nI k) t b)) = nT σ := by
                refine nT_eq ?_
                have hq : ∀ (τ : Stt) (c : Int32) (kd : Nat), insp τ c kd 0 1 = τ 0 1 := fun τ c kd => by
                  unfold insp
                  split
                  · exact su_k (by decide)
                  · rw [takeN_3 _ _ _ _ (by decide), su_j (by decide), su_k (by decide), su_k (by decide)]
                unfold payS
                rw [su_j (by decide), su_j (by decide), su_k (by decide), su_k (by decide), su_k (by decide), hq, burnN_cl, if_neg (fun z => absurd z.2 (by decide)), if_neg (fun z => absurd z.1 (by decide))]
              rw [eT]
              exact ht
            · have h10 := h.1.1.2
              have h8 := h.1.2.2.1.2
              have hg : gk σ (nI k) t < 100 := by
                unfold gk
                obtain ⟨n, hn, en⟩ := (h.1.2.2.2.2.1 k hk).1
                obtain ⟨m, hm, em⟩ := ht
                rw [ix_n (by omega), en, ix_n (by omega), em, ix_n (by omega)]
                exact rk_lt (by omega) (by omega)
              rcases h.1.2.2.2.2.2 (gk σ (nI k) t) hg with z | z
              · obtain ⟨n, n1, n2, n3⟩ := z.2.2.2.1
                exact ⟨n, n2, n3⟩
              · exact absurd ((z 0 (by decide)).symm.trans hrd) (by decide)
          · exact h
        · exact h
    · exact h
  · exact h
theorem IB_pass {σ : Stt} (h : IB σ) (x : Int32) : IB (o_pass σ x).2.2 := by
  unfold o_pass
  split
  · rename_i c
    exact (h.s0 (by decide) (by decide) (by decide) _).passN c (nC σ) (Nat.le_of_eq (nC_eq (su_j (by decide))).symm)
  · exact h
theorem IB_0 : IB σ0 := by
  refine ⟨⟨⟨rfl, by decide⟩, ⟨rfl, by decide⟩, ⟨rfl, by decide⟩, fun i hi => absurd hi (Nat.not_lt_zero _), fun i hi => absurd hi (Nat.not_lt_zero _), fun k _ => Or.inr fun j _ => rfl⟩, fun k _ => ⟨0, by decide, rfl⟩⟩
end OPSK
