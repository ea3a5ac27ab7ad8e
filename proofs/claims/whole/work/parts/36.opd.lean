/-! EVERY CALL as a function: its code (0: returned), its answer, the state after it -/
section OPD
def ix (x : Int32) : Nat := x.toNatClampNeg
theorem ix_n {n : Nat} (h : n < 2 ^ 31) : ix (nI n) = n := nI_clamp h
def exn (L : List String) (k : Nat) (E : String) : Prop := 0 < k ∧ L[k - 1]? = some E
abbrev Op : Type := Nat × Int32 × Stt
def o_addTown (σ : Stt) : Op := if σ 0 1 < 10 then (0, σ 0 1 + 1 - 1, su σ 0 1 (σ 0 1 + 1)) else (1, 0, σ)
def o_build (σ : Stt) (a b h t u v : Int32) : Op := if tOK σ a && tOK σ b then (if a = b then (2, 0, σ) else if wi 1 h 9 && wi 0 t 20 && wi 0 u 30 && wi 0 v 9 then (if σ 3 (7 * rk (ix a) (ix b)) = 1 then (3, 0, σ) else (0, σ 0 2 + 1, bld σ (rk (ix a) (ix b)) h t u v)) else (2, 0, σ)) else (1, 0, σ)
def o_road (σ : Stt) (a b w : Int32) : Op := if tOK σ a && tOK σ b && wi 0 w 6 then (0, (if σ 3 (7 * rk (ix a) (ix b)) = 1 then figDS σ (rk (ix a) (ix b)) w else 0), σ) else (1, 0, σ)
def o_makeUp (σ : Stt) (t l p : Int32) : Op := if tOK σ t then (if wi 1 l 30 && wi 0 p 5 then (if nR σ < 60 then (0, nI (nR σ), addRm σ l 0 p (nI (nR σ)) t) else (3, 0, σ)) else (2, 0, σ)) else (1, 0, σ)
def o_rumour (σ : Stt) (r w : Int32) : Op := if rOK σ r && wi 0 w 6 then (0, figRS σ (ix r) w, σ) else (1, 0, σ)
def twn (σ : Stt) (t w : Int32) : Int32 := if w = 0 then rin σ t else if w = 1 then bcL (fmb σ t (nR σ)) else if w = 2 then (dps σ t (nR σ)).1 else cin σ t
def o_town (σ : Stt) (t w : Int32) : Op := if tOK σ t && wi 0 w 3 then (0, twn σ t w, σ) else (1, 0, σ)
def o_heard (σ : Stt) (t r : Int32) : Op := if tOK σ t && rOK σ r then (0, opI (ldp σ t (σ 1 (7 * ix r + 3)) (nR σ)), σ) else (1, 0, σ)
def o_addCarrier (σ : Stt) (t p : Int32) : Op := if tOK σ t then (if wi 0 p 1000000 then (if nC σ < 8 then (0, nI (nC σ), addCr σ t p) else (3, 0, σ)) else (2, 0, σ)) else (1, 0, σ)
def o_take (σ : Stt) (c r : Int32) : Op := if cOK σ c && rOK σ r then (if onW σ (ix c) then (2, 0, σ) else if σ 1 (7 * ix r + 4) = σ 2 (4 * ix c) then (if inB σ (nI (ix c)) < 6 then (0, inB (lay σ (ix r) (-1) (nI (ix c))) (nI (ix c)), lay σ (ix r) (-1) (nI (ix c))) else (2, 0, σ)) else (2, 0, σ)) else (1, 0, σ)
def o_leave (σ : Stt) (c r : Int32) : Op := if cOK σ c && rOK σ r then (if onW σ (ix c) then (2, 0, σ) else if has σ (ix c) (ix r) then (0, inB (lay σ (ix r) (σ 2 (4 * ix c)) (-1)) (nI (ix c)), lay σ (ix r) (σ 2 (4 * ix c)) (-1)) else (2, 0, σ)) else (1, 0, σ)
def o_hide (σ : Stt) (c r b : Int32) : Op := if cOK σ c && rOK σ r then (if has σ (ix c) (ix r) then (0, hidB (su σ 1 (7 * ix r + 6) b) (nI (ix c)), su σ 1 (7 * ix r + 6) b) else (2, 0, σ)) else (1, 0, σ)
/-- what is known there is no deeper -/
def kno (σ : Stt) (o : Option Nat) (d : Int32) : Bool := match o with | none => false | some k => decide (σ 1 (7 * k + 1) ≤ d)
def o_tell (σ : Stt) (c r : Int32) : Op := if cOK σ c && rOK σ r then (if onW σ (ix c) then (2, 0, σ) else if has σ (ix c) (ix r) then (if kno σ (ldp σ (σ 2 (4 * ix c)) (σ 1 (7 * ix r + 3)) (nR σ)) (σ 1 (7 * ix r + 1) + 1) then (0, -1, σ) else if nR σ < 60 then (if σ 1 (7 * ix r + 1) + 1 ≤ 99 then (0, nI (nR σ), addRm σ (σ 1 (7 * ix r)) (σ 1 (7 * ix r + 1) + 1) (σ 1 (7 * ix r + 2)) (σ 1 (7 * ix r + 3)) (σ 2 (4 * ix c))) else (2, 0, σ)) else (2, 0, σ)) else (2, 0, σ)) else (1, 0, σ)
/-- the road between the town of a carrier and another, as a number -/
def gk (σ : Stt) (c t : Int32) : Nat := rk (ix (σ 2 (4 * ix c))) (ix t)
def gow (σ : Stt) (c t b : Int32) : Int32 := owedS σ (nI (ix c)) (gk σ c t) b
def gfi (σ : Stt) (c t b : Int32) : Int32 := fineS σ (nI (ix c)) (gk σ c t) (σ 2 (4 * ix c + 2) - gow σ c t b)
def goS (σ : Stt) (c t b : Int32) : Stt := setO (payS (insp (burnN σ (nI (ix c)) b (nR σ)) (nI (ix c)) (gk σ c t)) (ix c) (gk σ c t) (gow σ c t b) (gfi σ c t b)) (ix c) t (σ 3 (7 * gk σ c t + 1))
def o_go (σ : Stt) (c t b : Int32) : Op := if cOK σ c && tOK σ t then (if wi 0 b 5 then (if onW σ (ix c) then (3, 0, σ) else if σ 3 (7 * gk σ c t) = 1 then (if gow σ c t b ≤ σ 2 (4 * ix c + 2) then (0, gow σ c t b + gfi σ c t b, goS σ c t b) else (3, 0, σ)) else (3, 0, σ)) else (2, 0, σ)) else (1, 0, σ)
def o_carrier (σ : Stt) (c w : Int32) : Op := if cOK σ c && wi 0 w 5 then (0, figC σ (ix c) w, σ) else (1, 0, σ)
def o_wouldPay (σ : Stt) (c t b : Int32) : Op := if cOK σ c && tOK σ t then (if wi 0 b 5 then (if onW σ (ix c) then (3, 0, σ) else if σ 3 (7 * gk σ c t) = 1 then (0, gow σ c t b + gfi σ c t b, σ) else (0, -1, σ)) else (2, 0, σ)) else (1, 0, σ)
def come (σ : Stt) (h : Int32) (n : Nat) : Int32 := sm (fun k => b2 (0 < σ 2 (4 * k + 1) ∧ mx 0 (σ 2 (4 * k + 1) - h) = 0)) n
def o_pass (σ : Stt) (h : Int32) : Op := if wi 1 h 100 then (0, come σ h (nC σ), passN (su σ 0 0 (σ 0 0 + h)) h (nC σ)) else (1, 0, σ)
def o_count (σ : Stt) (w : Int32) : Op := if wi 0 w 10 then (0, figL σ w, σ) else (1, 0, σ)
def spr (σ : Stt) (f w : Int32) : Int32 := if w = 0 then bcI (tmb σ f (nR σ)) else if w = 1 then gdp σ f (nR σ) else ngS σ f
def o_spread (σ : Stt) (r w : Int32) : Op := if rOK σ r && wi 0 w 2 then (0, spr σ (σ 1 (7 * ix r + 3)) w, σ) else (1, 0, σ)
end OPD
section LISTS2
variable {D : va_G} {ct : Nat → ClassId} {Z : Nat → Prop} {dc : Nat} {σ σ' : Stt} {ad : Nat → Nat} {H H1 : Heap} {s : State} {locs : List Loc}
theorem GF.dcA (hG : GF D ct Z dc s s.heap) (hS : va_S (nZ Z) s.heap H locs) : Ae (ct 3) dc H := Ae.kept hG.2.2.2.2.2.2 (hS.2.1 _ (hG.1 _ hG.2.2.2.2.2.1) (fun z => z hG.2.2.2.2.2.1))
theorem lq_0 {b : Nat} : lq ad b 0 = fun _ => none := by
  funext k
  unfold lq
  exact if_neg (Nat.not_lt_zero _)
theorem lq_some {b n j y : Nat} (h : lq ad b n j = some y) : j < n ∧ y = ad (b + j) := by
  unfold lq at h
  by_cases z : j < n
  · rw [if_pos z] at h
    exact ⟨z, (Option.some.inj h).symm⟩
  · rw [if_neg z] at h
    cases h
theorem lq_none {b n : Nat} (j : Nat) (h : n ≤ j) : lq ad b n j = none := if_neg (Nat.not_lt.mpr h)
theorem Pic.a8 (hP : Pic D ct Z dc σ ad H) (hD : Ae (ct 3) dc H) : Aq (ct 3) (ad 8) (ad 20) (lq ad 100 (nR σ)) H := by
  rcases Nat.eq_zero_or_pos (nR σ) with z | z
  · obtain ⟨e1, e2⟩ := hP.2.2.1.1.2.2.2 z
    rw [e1, e2, z, lq_0]
    exact Or.inr ⟨rfl, hD⟩
  · exact Or.inl (hP.o8 z)
theorem Pic.a9 (hP : Pic D ct Z dc σ ad H) (hD : Ae (ct 3) dc H) : Aq (ct 3) (ad 9) (ad 21) (lq ad 200 (nC σ)) H := by
  rcases Nat.eq_zero_or_pos (nC σ) with z | z
  · obtain ⟨e1, e2⟩ := hP.2.2.1.2.2.2.2 z
    rw [e1, e2, z, lq_0]
    exact Or.inr ⟨rfl, hD⟩
  · exact Or.inl (hP.o9 z)
/-- what add() asks of the list of rumours -/
theorem Pic.preR (hP : Pic D ct Z dc σ ad H) (hZ : Z dc) : (ad 20 = 0 ∨ 10 ≤ ad 20) ∧ (ad 20 = 0 → ad 8 = dc) ∧ (0 < ad 20 → ¬ Z (ad 8)) ∧ ad 8 ≠ ad 6 ∧ (∀ j y, lq ad 100 (nR σ) j = some y → ∃ vs, Ob D y 4 vs H) ∧ (∀ j y, lq ad 100 (nR σ) j = some y → y ≠ ad 6) ∧ ∀ y, ¬ Z y → (∀ i, us σ i → ad i ≠ y) → ad 8 ≠ y := by
  obtain ⟨c1, c2, c3, c4⟩ := hP.2.2.1.1
  have hn := hP.2.2.2.1
  refine ⟨?_, fun z => (c4 (by omega)).1, fun z => ?_, fun z => ?_, fun j y h => ?_, fun j y h => ?_, fun y hz h => ?_⟩
  · rcases Nat.eq_zero_or_pos (nR σ) with q | q
    · exact Or.inl (c4 q).2
    · exact Or.inr (c3 q)
  · rcases Nat.eq_zero_or_pos (nR σ) with q | q
    · have := (c4 q).2; omega
    · exact hP.nz (Or.inr (Or.inl ⟨rfl, q⟩))
  · rcases Nat.eq_zero_or_pos (nR σ) with q | q
    · rw [(c4 q).1] at z
      exact hP.nz (i := 6) (us_lt (by decide)) (by rw [← z]; exact hZ)
    · exact absurd (hP.2.1 8 6 (Or.inr (Or.inl ⟨rfl, q⟩)) (us_lt (by decide)) z) (by decide)
  · obtain ⟨h1, rfl⟩ := lq_some h
    exact ⟨_, hP.r h1⟩
  · obtain ⟨h1, rfl⟩ := lq_some h
    intro z
    have := hP.2.1 _ _ (us_r hn h1) (us_lt (by decide)) z
    omega
  · rcases Nat.eq_zero_or_pos (nR σ) with q | q
    · rw [(c4 q).1]
      intro e
      exact hz (by rw [← e]; exact hZ)
    · exact h 8 (Or.inr (Or.inl ⟨rfl, q⟩))
theorem Pic.preC (hP : Pic D ct Z dc σ ad H) (hZ : Z dc) : (ad 21 = 0 ∨ 10 ≤ ad 21) ∧ (ad 21 = 0 → ad 9 = dc) ∧ (0 < ad 21 → ¬ Z (ad 9)) ∧ ad 9 ≠ ad 7 ∧ (∀ j y, lq ad 200 (nC σ) j = some y → ∃ vs, Ob D y 1 vs H) ∧ (∀ j y, lq ad 200 (nC σ) j = some y → y ≠ ad 7) ∧ ∀ y, ¬ Z y → (∀ i, us σ i → ad i ≠ y) → ad 9 ≠ y := by
  obtain ⟨c1, c2, c3, c4⟩ := hP.2.2.1.2
  have hn := hP.2.2.2.2
  refine ⟨?_, fun z => (c4 (by omega)).1, fun z => ?_, fun z => ?_, fun j y h => ?_, fun j y h => ?_, fun y hz h => ?_⟩
  · rcases Nat.eq_zero_or_pos (nC σ) with q | q
    · exact Or.inl (c4 q).2
    · exact Or.inr (c3 q)
  · rcases Nat.eq_zero_or_pos (nC σ) with q | q
    · have := (c4 q).2; omega
    · exact hP.nz (Or.inr (Or.inr (Or.inl ⟨rfl, q⟩)))
  · rcases Nat.eq_zero_or_pos (nC σ) with q | q
    · rw [(c4 q).1] at z
      exact hP.nz (i := 7) (us_lt (by decide)) (by rw [← z]; exact hZ)
    · exact absurd (hP.2.1 9 7 (Or.inr (Or.inr (Or.inl ⟨rfl, q⟩))) (us_lt (by decide)) z) (by decide)
  · obtain ⟨h1, rfl⟩ := lq_some h
    exact ⟨_, hP.c h1⟩
  · obtain ⟨h1, rfl⟩ := lq_some h
    intro z
    have := hP.2.1 _ _ (us_c hn h1) (us_lt (by decide)) z
    omega
  · rcases Nat.eq_zero_or_pos (nC σ) with q | q
    · rw [(c4 q).1]
      intro e
      exact hz (by rw [← e]; exact hZ)
    · exact h 9 (Or.inr (Or.inr (Or.inl ⟨rfl, q⟩)))
theorem rum_at (σ : Stt) (l d p f t : Int32) (k : Nat) (hk : k < 7) (m : Int32) : su (addRm σ l d p f t) 6 0 m 1 (7 * nR σ + k) = rum7 l d p f t k := by
  rw [su_k (by decide)]
  unfold addRm
  rw [if_neg (by omega), if_pos (by omega), show 7 * nR σ + k - 7 * nR σ = k by omega]
theorem car_at (σ : Stt) (t p : Int32) (k : Nat) (hk : k < 4) (m : Int32) : su (addCr σ t p) 6 1 m 2 (4 * nC σ + k) = car4 t p k := by
  rw [su_k (by decide)]
  unfold addCr
  rw [if_neg (by omega), if_pos (by omega), show 4 * nC σ + k - 4 * nC σ = k by omega]
/-- a rumour has come to the list -/
theorem Pic.makeR (hP : Pic D ct Z dc σ ad H) (hZ : Z dc) (hzs : ∀ q, Z q → q < H.size) (hn : nR σ < 60) {y : Nat} (hy : ∀ i, us σ i → ad i ≠ y) (hyz : ¬ Z y) {l d p f t : Int32} (oy : Ob D y 4 [.int (nI (nR σ)), .int f, .int l, .int d, .int p, .int t, .int (-1), .int 0] H) (hr : addRel D ct H (ad 6) (σ 6 0 + 1) (nR σ) (lq ad 100 (nR σ)) y (ad 20) (ad 8) H1) : ∃ ad' : Nat → Nat, ad' 0 = ad 0 ∧ Pic D ct Z dc (su (addRm σ l d p f t) 6 0 (σ 6 0 + 1)) ad' H1 := by
  obtain ⟨ed, cap, h1, h2, h3, h4, h5⟩ := hr
  obtain ⟨p1, p2, p3, p4, p5, p6, p7⟩ := hP.preR hZ
  obtain ⟨c1, c2, c3, c4⟩ := hP.2.2.1.1
  have hy8 := p7 y hyz hy
  have hlt : ∀ i, us σ i → ad i < H.size := fun i hi => va_at.lt (hP.1 i hi).1
  have r := rum_at σ l d p f t
  refine ⟨upA (upA (upA ad (100 + nR σ) y) 8 ed) 20 cap, by rw [upA_n (by decide), upA_n (by decide), upA_n (by omega)], ?_⟩
  refine Pic.addR hP hn hy hyz ?_ ?_ ?_ ?_ ?_ (by rw [su_s]; exact h1) h2 (fun i hi q6 q8 => ?_) ?_ (fun b hb => ?_) (fun b hb => ?_) (fun a ha ha1 ha6 => ?_) ?_
  · rcases h3 with ⟨e1, e2, e3⟩ | ⟨e1, e2, e3⟩
    · by_cases z : 0 < nR σ
      · exact Or.inl ⟨e1, z⟩
      · have := (c4 (by omega)).2
        omega
    · refine Or.inr (fun i hi z => ?_)
      have := hlt i hi
      omega
  · rcases h3 with ⟨e1, e2, e3⟩ | ⟨e1, e2, e3⟩
    · rw [e1]; exact hy8
    · have := oy.lt
      omega
  · rcases h3 with ⟨e1, e2, e3⟩ | ⟨e1, e2, e3⟩
    · rw [e1]; exact p3 (by omega)
    · rw [e1]; exact fun z => absurd (hzs _ z) (Nat.lt_irrefl _)
  · rcases h3 with ⟨e1, e2, e3⟩ | ⟨e1, e2, e3⟩
    · refine ⟨by omega, by omega, ?_⟩
      rcases p1 with z | z <;> omega
    · rw [e3, ← e2]
      have hb : nR σ = 0 ∨ 10 ≤ nR σ := by rw [e2]; exact p1
      unfold gcap
      split <;> omega
  · have e0 := r 0 (by decide) (σ 6 0 + 1)
    rw [Nat.add_zero] at e0
    rw [r 3 (by decide), e0, r 1 (by decide), r 2 (by decide), r 4 (by decide), r 5 (by decide), r 6 (by decide)]
    exact oy.kept (h5 y oy.lt (fun z => hy 6 (us_lt (by decide)) z.symm) (Or.inl (fun z => hy8 z.symm)))
  · exact h5 _ (hlt i hi) (fun z => q6 (hP.2.1 i 6 hi (us_lt (by decide)) z)) (by
      rcases Nat.eq_zero_or_pos (nR σ) with z | z
      · refine Or.inl (fun e => ?_)
        rw [(c4 z).1] at e
        exact hP.nz hi (by rw [e]; exact hZ)
      · exact Or.inl (fun e => q8 (hP.2.1 i 8 hi (Or.inr (Or.inl ⟨rfl, z⟩)) e)))
  · rw [su_k (by decide)]
    unfold addRm
    rw [if_pos ⟨rfl, rfl⟩]
  · rw [su_k (by decide)]
    unfold addRm
    rw [if_neg (fun z => hb z.2), if_neg (fun z => absurd z.1 (by decide))]
  · rw [su_k (by decide)]
    unfold addRm
    rw [if_neg (fun z => absurd z.1 (by decide)), if_neg (fun z => by omega)]
  · funext b
    rw [su_k ha6]
    unfold addRm
    rw [if_neg (fun z => by omega), if_neg (fun z => ha1 z.1)]
  · rw [su_j (by decide)]
    unfold addRm
    rw [if_neg (fun z => absurd z.1 (by decide)), if_neg (fun z => absurd z.1 (by decide))]
theorem Pic.makeC (hP : Pic D ct Z dc σ ad H) (hZ : Z dc) (hzs : ∀ q, Z q → q < H.size) (hn : nC σ < 8) {y : Nat} (hy : ∀ i, us σ i → ad i ≠ y) (hyz : ¬ Z y) {t p : Int32} (oy : Ob D y 1 [.int (nI (nC σ)), .int t, .int 0, .int p, .int 0] H) (hr : addRel D ct H (ad 7) (σ 6 1 + 1) (nC σ) (lq ad 200 (nC σ)) y (ad 21) (ad 9) H1) : ∃ ad' : Nat → Nat, ad' 0 = ad 0 ∧ Pic D ct Z dc (su (addCr σ t p) 6 1 (σ 6 1 + 1)) ad' H1 := by
  obtain ⟨ed, cap, h1, h2, h3, h4, h5⟩ := hr
  obtain ⟨p1, p2, p3, p4, p5, p6, p7⟩ := hP.preC hZ
  obtain ⟨c1, c2, c3, c4⟩ := hP.2.2.1.2
  have hy8 := p7 y hyz hy
  have hlt : ∀ i, us σ i → ad i < H.size := fun i hi => va_at.lt (hP.1 i hi).1
  have r := car_at σ t p
  refine ⟨upA (upA (upA ad (200 + nC σ) y) 9 ed) 21 cap, by rw [upA_n (by decide), upA_n (by decide), upA_n (by omega)], ?_⟩
  refine Pic.addC hP hn hy hyz ?_ ?_ ?_ ?_ ?_ (by rw [su_s]; exact h1) h2 (fun i hi q6 q8 => ?_) ?_ (fun b hb => ?_) (fun b hb => ?_) (fun a ha ha1 ha6 => ?_) ?_
  · rcases h3 with ⟨e1, e2, e3⟩ | ⟨e1, e2, e3⟩
    · by_cases z : 0 < nC σ
      · exact Or.inl ⟨e1, z⟩
      · have := (c4 (by omega)).2
        omega
    · refine Or.inr (fun i hi z => ?_)
      have := hlt i hi
      omega
  · rcases h3 with ⟨e1, e2, e3⟩ | ⟨e1, e2, e3⟩
    · rw [e1]; exact hy8
    · have := oy.lt
      omega
  · rcases h3 with ⟨e1, e2, e3⟩ | ⟨e1, e2, e3⟩
    · rw [e1]; exact p3 (by omega)
    · rw [e1]; exact fun z => absurd (hzs _ z) (Nat.lt_irrefl _)
  · rcases h3 with ⟨e1, e2, e3⟩ | ⟨e1, e2, e3⟩
    · refine ⟨by omega, by omega, ?_⟩
      rcases p1 with z | z <;> omega
    · rw [e3, ← e2]
      have hb : nC σ = 0 ∨ 10 ≤ nC σ := by rw [e2]; exact p1
      unfold gcap
      split <;> omega
  · have e0 := r 0 (by decide) (σ 6 1 + 1)
    rw [Nat.add_zero] at e0
    rw [e0, r 1 (by decide), r 2 (by decide), r 3 (by decide)]
    exact oy.kept (h5 y oy.lt (fun z => hy 7 (us_lt (by decide)) z.symm) (Or.inl (fun z => hy8 z.symm)))
  · exact h5 _ (hlt i hi) (fun z => q6 (hP.2.1 i 7 hi (us_lt (by decide)) z)) (by
      rcases Nat.eq_zero_or_pos (nC σ) with z | z
      · refine Or.inl (fun e => ?_)
        rw [(c4 z).1] at e
        exact hP.nz hi (by rw [e]; exact hZ)
      · exact Or.inl (fun e => q8 (hP.2.1 i 9 hi (Or.inr (Or.inr (Or.inl ⟨rfl, z⟩))) e)))
  · rw [su_k (by decide)]
    unfold addCr
    rw [if_pos ⟨rfl, rfl⟩]
  · rw [su_k (by decide)]
    unfold addCr
    rw [if_neg (fun z => hb z.2), if_neg (fun z => absurd z.1 (by decide))]
  · rw [su_k (by decide)]
    unfold addCr
    rw [if_neg (fun z => absurd z.1 (by decide)), if_neg (fun z => by omega)]
  · funext b
    rw [su_k ha6]
    unfold addCr
    rw [if_neg (fun z => by omega), if_neg (fun z => ha1 z.1)]
  · rw [su_j (by decide)]
    unfold addCr
    rw [if_neg (fun z => absurd z.1 (by decide)), if_neg (fun z => absurd z.1 (by decide))]
end LISTS2
