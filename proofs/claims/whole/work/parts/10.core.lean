/-! THE CORE: what a call sees of the heap, rows for one cell at its address, calls by contract. Z: the cells that a method must leave as they are; GF: what is known of the tables and of those cells. -/
section CORE0
def nZ (Z : Nat → Prop) : Nat → Prop := fun q => ¬ Z q
def Ob (D : va_G) (a ci : Nat) (fs : List Value) (H : Heap) : Prop := va_at D vwCl (a, .inr (ci, fs)) H
def Ar (cA : ClassId) (a : Nat) (x : vp_A) (H : Heap) : Prop := H[a]? = some (vp_cell cA x)
abbrev rI (n : Nat) (f : Nat → Int32) : vp_A := (n, .inl f)
abbrev rJ (n : Nat) (f : Nat → Int64) : vp_A := (n, .inr (.inl f))
abbrev rQ (n : Nat) (f : Nat → Option Nat) : vp_A := (n, .inr (.inr (.inr (.inr f))))
theorem Ob.kept {D : va_G} {a ci : Nat} {fs : List Value} {H H1 : Heap} (h : Ob D a ci fs H) (hq : H1[a]? = H[a]?) : Ob D a ci fs H1 := va_at.kept h hq
theorem Ar.kept {cA : ClassId} {a : Nat} {x : vp_A} {H H1 : Heap} (h : Ar cA a x H) (hq : H1[a]? = H[a]?) : Ar cA a x H1 := hq.trans h
theorem Ob.lt {D : va_G} {a ci : Nat} {fs : List Value} {H : Heap} (h : Ob D a ci fs H) : a < H.size := va_at.lt h
/-- an array of nothing, that the program finds: what else its cell holds is not known -/
def Ae (cA : ClassId) (a : Nat) (H : Heap) : Prop := ∃ ce : Cell, H[a]? = some ce ∧ ce.cls = cA ∧ ce.slots.size = 0 ∧ ce.vm.isStatics = false
theorem Ae.kept {cA : ClassId} {a : Nat} {H H1 : Heap} (h : Ae cA a H) (hq : H1[a]? = H[a]?) : Ae cA a H1 := h.imp fun _ z => ⟨hq.trans z.1, z.2⟩
def Aq (cA : ClassId) (a n : Nat) (f : Nat → Option Nat) (H : Heap) : Prop := Ar cA a (rQ n f) H ∨ (n = 0 ∧ Ae cA a H)
theorem Aq.kept {cA : ClassId} {a n : Nat} {f : Nat → Option Nat} {H H1 : Heap} (h : Aq cA a n f H) (hq : H1[a]? = H[a]?) : Aq cA a n f H1 := h.imp (fun z => Ar.kept z hq) fun z => ⟨z.1, z.2.kept hq⟩
theorem Aq.ar {cA : ClassId} {a n : Nat} {f : Nat → Option Nat} {H : Heap} (h : Aq cA a n f H) (h0 : 0 < n) : Ar cA a (rQ n f) H := h.resolve_right fun z => absurd z.1 (Nat.ne_of_gt h0)
theorem Ar.lt {cA : ClassId} {a : Nat} {x : vp_A} {H : Heap} (h : Ar cA a x H) : a < H.size := (Array.getElem?_eq_some_iff.mp h).1
def KA (H0 H : Heap) : Prop := H0.size ≤ H.size ∧ ∀ q : Nat, q < H0.size → H[q]? = H0[q]?
theorem KA.rf {H : Heap} : KA H H := ⟨Nat.le_refl _, fun _ _ => rfl⟩
theorem KA.tr {H0 H1 H2 : Heap} (h1 : KA H0 H1) (h2 : KA H1 H2) : KA H0 H2 := ⟨Nat.le_trans h1.1 h2.1, fun q h => (h2.2 q (Nat.lt_of_lt_of_le h h1.1)).trans (h1.2 q h)⟩
def strs : List (Nat × String) := [(41, "there are 10 towns"), (272, "there is no such town"), (52, "a road is between two towns"), (265, "a number is out of its limits"), (63, "there is a road between them"), (269, "there is no such thing to tell"), (89, "there are 60 rumours"), (274, "there is no such rumour"), (128, "there are 8 carriers"), (276, "there is no such carrier"), (282, "the carrier is on the way"), (146, "the rumour is not in the same town"), (152, "6 rumours are in the bag"), (288, "the carrier does not have the rumour"), (174, "the depth would be 100"), (182, "there is no road"), (191, "the purse does not hold what is owed")]
abbrev tys5 (ct : Nat → ClassId) : List (ClassId × FieldType) := [(ct 0, .int), (ct 1, .boolean), (ct 2, .object "RumourCustoms$Road"), (ct 3, .object "java/lang/Object"), (ct 4, .long)]
abbrev e3 : List String := ["java/lang/IllegalStateException", "java/lang/IllegalArgumentException", "java/lang/IndexOutOfBoundsException"]
abbrev d3 : List MethodName := [⟨"java/lang/RuntimeException", "<init>", "(Ljava/lang/String;)V"⟩, ⟨"java/lang/Exception", "<init>", "(Ljava/lang/String;)V"⟩, ⟨"java/lang/Throwable", "<init>", "(Ljava/lang/String;)V"⟩]
/-- what is known at every call: the tables' part -/
def GT (D : va_G) (ct : Nat → ClassId) (U : State) : Prop :=
  va_K D vwCl (tys5 ct) U ∧ (∀ q ∈ strs, ∃ sa, vk_R "RumourCustoms" q.1 q.2 sa U) ∧
  va_Nw (.castable "RumourCustoms$Rumour" "java/lang/Object") U ∧ va_Nw (.castable "RumourCustoms$Carrier" "java/lang/Object") U ∧ (∀ E ∈ e3, va_Nw (.castable E E) U) ∧ (∀ y ∈ d3, va_Nw (.declares y) U) ∧
  (∀ E ∈ e3, ∀ F ∈ e3, E ≠ F → va_Nc E F U) ∧ va_Dc U ∧ va_AO "java/lang/Object" U ∧ va_AO "RumourCustoms$Road" U ∧ ∃ mi : Nat, va_Mi "[Ljava/lang/Object;" mi U
/-- .. and the heap's part -/
def GF (D : va_G) (ct : Nat → ClassId) (Z : Nat → Prop) (dc : Nat) (U : State) (H : Heap) : Prop :=
  (∀ q, Z q → q < H.size) ∧ GT D ct U ∧ vx_Zq Bundle.tN "UNASSIGNED_STACK" Bundle.steD (nZ Z) U H ∧ vx_Zq Bundle.tN "SUPPRESSED_SENTINEL" Bundle.listD (nZ Z) U H ∧
  va_Z "java/util/ArrayList" "DEFAULTCAPACITY_EMPTY_ELEMENTDATA" "[Ljava/lang/Object;" (.ref dc) (nZ Z) U H ∧ Z dc ∧ Ae (ct 3) dc H
theorem GT.warm {D : va_G} {ct : Nat → ClassId} {s U : State} (hW : s.WarmedH U.vm) (h : GT D ct s) : GT D ct U := by
  obtain ⟨h1, h2, h3, h4, h5, hd, h6, h7, h8, h9, mi, h10⟩ := h
  exact ⟨va_K.moved hW.alike h1, fun q hq => (h2 q hq).imp fun sa h => vk_R.warm hW h, va_Nw.warmC hW h3, va_Nw.warmC hW h4, fun E hE => va_Nw.warmC hW (h5 E hE), fun y hy => va_Nw.warmD hW (hd y hy), fun E hE F hF n => va_Nc.moved hW.alike (h6 E hE F hF n), va_Dc.moved hW.alike h7, va_AO.moved hW.alike h8, va_AO.moved hW.alike h9, mi, va_Mi.moved hW.alike h10⟩
theorem GF.mv {D : va_G} {ct : Nat → ClassId} {Z : Nat → Prop} {dc : Nat} {s U : State} {H : Heap} {locs : List Loc} (hW : s.WarmedH U.vm) (hS : va_S (nZ Z) s.heap H locs) (h : GF D ct Z dc s s.heap) : GF D ct Z dc U H := by
  obtain ⟨h1, h2, h3, h4, h5, h6, h7⟩ := h
  have hk : ∀ a : Nat, a < s.heap.size → ¬ nZ Z a → H[a]? = s.heap[a]? := hS.2.1
  refine ⟨fun q hq => Nat.lt_of_lt_of_le (h1 q hq) hS.1, h2.warm hW, (vx_Zq.moved hW.alike h3).kept hk, (vx_Zq.moved hW.alike h4).kept hk, (va_Z.moved hW.alike h5).kept hk, h6, Ae.kept h7 (hk _ (h1 _ h6) (fun z => z h6))⟩
theorem GF.up {D : va_G} {ct : Nat → ClassId} {Z : Nat → Prop} {dc : Nat} {s U : State} {H : Heap} {locs : List Loc} (hW : s.WarmedH U.vm) (hS : va_S (nZ Z) s.heap H locs) (h : GF D ct Z dc s s.heap) (hU : U.heap = H) : GF D ct Z dc U U.heap := by
  rw [hU]; exact h.mv hW hS
/-- a narrower part that must stay -/
theorem GF.sub {D : va_G} {ct : Nat → ClassId} {Z Z' : Nat → Prop} {dc : Nat} {U : State} {H : Heap} (h : GF D ct Z dc U H) (hz : ∀ q, Z q → Z' q) (hs : ∀ q, Z' q → q < H.size) : GF D ct Z' dc U H := by
  obtain ⟨h1, h2, h3, h4, h5, h6, h7⟩ := h
  have hn : ∀ q, nZ Z' q → nZ Z q := fun q h z => h (hz q z)
  exact ⟨hs, h2, h3.narrow hn, h4.narrow hn, h5.narrow hn, hz _ h6, h7⟩
theorem vaS_KA {Z : Nat → Prop} {H0 H : Heap} {locs : List Loc} (hS : va_S (nZ Z) H0 H locs) {H1 : Heap} (hk : KA H H1) : va_S (nZ Z) H0 H1 locs :=
  ⟨Nat.le_trans hS.1 hk.1, fun q h1 h2 => (hk.2 q (Nat.lt_of_lt_of_le h1 hS.1)).trans (hS.2.1 q h1 h2), hS.2.2⟩
/-- ends of methods: nothing changed; something changed, but not in Z -/
def qP (v : Option Value) : Array Value → State → Outcome → State → Prop := fun _ st o t => o = .returned v ∧ t.heap = st.heap
def qS1 (Z : Nat → Prop) (Rl : Value → Heap → Prop) : Array Value → State → Outcome → State → Prop := fun _ st o t => ∃ x, o = .returned (some x) ∧ Rl x t.heap ∧ va_F (nZ Z) st t
def qS0 (Z : Nat → Prop) (Rl : Heap → Prop) : Array Value → State → Outcome → State → Prop := fun _ st o t => o = .returned none ∧ Rl t.heap ∧ va_F (nZ Z) st t
/-- a throw: of which class, and that nothing old has changed -/
def xK (px : String → Prop) : String → State → State → Prop := fun E st t => px E ∧ KA st.heap t.heap
def nF : Addr → Prop := fun _ => False
theorem blindPc {av : List Value} {D : va_G} {ct : Nat → ClassId} {Z : Nat → Prop} {dc : Nat} {P : Heap → Prop} : FrameBlind (va_Pc av (fun U => GF D ct Z dc U U.heap ∧ P U.heap)) := by
  intro a U g mk h
  obtain ⟨h1, h2, h3⟩ := h
  refine ⟨h1, ?_, h3⟩
  have hS : va_S (nZ Z) U.heap U.heap [] := va_S.rf
  exact h2.mv (U := U.calling g mk a) (State.WarmedH.refl U) hS
theorem blindPc0 {av : List Value} {P : Heap → Prop} : FrameBlind (va_Pc av (fun U => P U.heap)) := fun a U g mk h => h
theorem blindPcT {av : List Value} {D : va_G} {ct : Nat → ClassId} {P : Heap → Prop} : FrameBlind (va_Pc av (fun U => GT D ct U ∧ P U.heap)) := by
  intro a U g mk h
  exact ⟨h.1, h.2.1.warm (U := U.calling g mk a) (State.WarmedH.refl U), h.2.2⟩
theorem blindT {av : List Value} {D : va_G} {ct : Nat → ClassId} {F : State → Prop} (hF : ∀ (U : State) (g : JFrame) (mk : MethodId) (a : Array Value), F U → F (U.calling g mk a)) : FrameBlind (va_Pc av (fun U => GT D ct U ∧ F U)) := by
  intro a U g mk h
  exact ⟨h.1, h.2.1.warm (U := U.calling g mk a) (State.WarmedH.refl U), hF U g mk a h.2.2⟩
theorem blindF {av : List Value} {D : va_G} {ct : Nat → ClassId} {Z : Nat → Prop} {dc : Nat} {F : State → Prop} (hF : ∀ (U : State) (g : JFrame) (mk : MethodId) (a : Array Value), F U → F (U.calling g mk a)) : FrameBlind (va_Pc av (fun U => GF D ct Z dc U U.heap ∧ F U)) := by
  intro a U g mk h
  obtain ⟨h1, h2, h3⟩ := h
  have hS : va_S (nZ Z) U.heap U.heap [] := va_S.rf
  exact ⟨h1, h2.mv (U := U.calling g mk a) (State.WarmedH.refl U) hS, hF U g mk a h3⟩
end CORE0
section CORE1
variable {p : Program} {l : Launch} {e : Env} {R : Room} {s : State} {m : MethodId} {args : Array Value} {below : List Frame} {meth : Method} {c : Code} {H : Heap} {locs : List Loc} {cells slots : Nat} {Q : State → Prop}
variable {cc : ByteArray} {pc : Nat} {ls : Array Slot} {rest st0 : List Value} {D : va_G} {ct : Nat → ClassId} {a : Nat} {tys : List (ClassId × FieldType)} {Ts : List Cond} {Z : Nat → Prop} {mc ms : Nat} {free : Addr → Prop} {ar : Array Value} {H0 : Heap}
/-- a field is read -/
theorem k_get (hexec : p.tables.exec = Jvm.exec) (hb : c.code = cc) {own ref C : String} {T : u_T} {N ci index : Nat} (hts : ∀ w ∈ Ts, w.before args s = true) (hin : ∀ w ∈ u_ws C T N, w ∈ Ts) (hown : s.vm.findClass own = some m.cls) (hK : va_K D vwCl tys s) {fs : List Value} (hP : Ob D a ci fs H) (hc : vwCl[ci]? = some (C, T, N)) (k : Nat) (hk : k < N) (hlink : (Cond.fieldLink own index ref (T k).2.1 (T k).2.2.1).before args s = true) (hsame : ∀ x, s.fieldFound? (T k).1 (T k).2.1 (T k).2.2.1 = some x → s.fieldFound? ref (T k).2.1 (T k).2.2.1 = some x) {v : Value} (hv : fs[k]? = some v) (hdg : decode cc pc = .ok (.getfield index, 3))
    (kk : W p l e R s m args below meth c H locs cells slots Q (F0 m (pc + 3) ls (v :: rest))) : W p l e R s m args below meth c H locs cells slots Q (F0 m pc ls (.ref a :: rest)) :=
  va_get (D := D) (ws := [(a, .inr (ci, fs))]) hexec hb hts hin hown hK (fun j q h => by
    have hj : j < 1 := (List.getElem?_eq_some_iff.mp h).1
    have e : j = 0 := by omega
    subst e
    cases h
    exact hP) 0 rfl hc k hk hlink hsame hv hdg kk
/-- a field is written -/
theorem k_put (hexec : p.tables.exec = Jvm.exec) (hb : c.code = cc) {own ref C : String} {T : u_T} {N ci index : Nat} (hts : ∀ w ∈ Ts, w.before args s = true) (hin : ∀ w ∈ u_ws C T N, w ∈ Ts) (ty0 : Nat → FieldType) (hty : ∀ k, k < N → parseFieldDescriptor (T k).2.2.1 = some (ty0 k)) (hnm : ∀ a, a < N → ∀ b, b < N → a ≠ b → (T a).2.1 ≠ (T b).2.1) (hown : s.vm.findClass own = some m.cls) (hK : va_K D vwCl tys s) {fs : List Value} (hP : Ob D a ci fs H) (hS0 : va_S (nZ Z) H0 H locs) (hz : ¬ Z a) (hc : vwCl[ci]? = some (C, T, N)) (k : Nat) (hk : k < N) (hlink : (Cond.fieldLink own index ref (T k).2.1 (T k).2.2.1).before args s = true) (hsame : ∀ x, s.fieldFound? (T k).1 (T k).2.1 (T k).2.2.1 = some x → s.fieldFound? ref (T k).2.1 (T k).2.2.1 = some x) (hfin : (T k).2.2.2 = false) {ty : FieldType} {v : Value} (hd : parseFieldDescriptor (T k).2.2.1 = some ty) (hn : narrow ty v = v) (hfit : fits ty v = true) (hl : k < fs.length)
    (hdg : decode cc pc = .ok (.putfield index, 3)) (kk : ∀ (H1 : Heap) (locs1 : List Loc), Ob D a ci (fs.set k v) H1 → H1.size = H.size → (∀ q : Nat, q ≠ a → H1[q]? = H[q]?) → va_S (nZ Z) H0 H1 locs1 → W p l e R s m args below meth c H1 locs1 cells slots Q (F0 m (pc + 3) ls rest)) : W p l e R s m args below meth c H locs cells slots Q (F0 m pc ls (v :: .ref a :: rest)) := by
  have hap := va_apart (own := own) hts hin ty0 hty hnm hK hc
  obtain ⟨r, h1, cell, q1, q2, q3, q4⟩ := hP
  cases Option.some.inj (h1.symm.trans hc)
  obtain ⟨hSl, hfc, kC, hkC, hkind⟩ := hK.1 ci _ hc
  obtain ⟨cf, kf, fi, f, hi, hsl⟩ := hSl k hk
  have hlay := hts _ (hin _ (u_in_lay hk))
  unfold u_lay at hlay
  rw [if_neg (by rw [hfin]; decide)] at hlay
  refine W.putK hexec hb (f := f) ⟨hown, hlink, ⟨_, _, _, hsame _ hi⟩, (u_facts hfc hkC (u_lays hts hin hk) hi).1⟩ (by rw [q2]; exact u_store hfc hkC hkind hlay hi hd hn hfit) q1 q3 (by rw [hsl]; exact k2_hasslot (q4 k hk)) rfl rfl hdg fun H' e1 e2 e3 => ?_
  rw [hsl] at e1 ⊢
  exact kk H' _ ⟨_, hc, t_OB.to (V := updV (vp_V fs) k v) ⟨_, e1, q2, q3, t_set q4 hap hk v⟩ (fun j _ => vp_updV_set hl v j)⟩ e2 e3 (hS0.put e2 e3 hz)
/-- a final field is written, in a constructor -/
theorem k_putF (hexec : p.tables.exec = Jvm.exec) (hb : c.code = cc) {own ref C : String} {T : u_T} {N ci index : Nat} (hts : ∀ w ∈ Ts, w.before args s = true) (hin : ∀ w ∈ u_ws C T N, w ∈ Ts) (ty0 : Nat → FieldType) (hty : ∀ k, k < N → parseFieldDescriptor (T k).2.2.1 = some (ty0 k)) (hnm : ∀ a, a < N → ∀ b, b < N → a ≠ b → (T a).2.1 ≠ (T b).2.1) (hown : s.vm.findClass own = some m.cls) (hK : va_K D vwCl tys s) {fs : List Value} (hP : Ob D a ci fs H) (hS0 : va_S (nZ Z) H0 H locs) (hz : ¬ Z a) (hc : vwCl[ci]? = some (C, T, N)) (k : Nat) (hk : k < N) (hlink : (Cond.fieldLink own index ref (T k).2.1 (T k).2.2.1).before args s = true) (hsame : ∀ x, s.fieldFound? (T k).1 (T k).2.1 (T k).2.2.1 = some x → s.fieldFound? ref (T k).2.1 (T k).2.2.1 = some x) (hfin : (T k).2.2.2 = true) (hin2 : meth.name = "<init>") (hdecl : (T k).1 = own) {ty : FieldType} {v : Value} (hd : parseFieldDescriptor (T k).2.2.1 = some ty) (hn : narrow ty v = v) (hfit : fits ty v = true) (hl : k < fs.length)
    (hdg : decode cc pc = .ok (.putfield index, 3)) (kk : ∀ (H1 : Heap) (locs1 : List Loc), Ob D a ci (fs.set k v) H1 → H1.size = H.size → (∀ q : Nat, q ≠ a → H1[q]? = H[q]?) → va_S (nZ Z) H0 H1 locs1 → W p l e R s m args below meth c H1 locs1 cells slots Q (F0 m (pc + 3) ls rest)) : W p l e R s m args below meth c H locs cells slots Q (F0 m pc ls (v :: .ref a :: rest)) := by
  have hap := va_apart (own := own) hts hin ty0 hty hnm hK hc
  obtain ⟨r, h1, cell, q1, q2, q3, q4⟩ := hP
  cases Option.some.inj (h1.symm.trans hc)
  obtain ⟨hSl, hfc, kC, hkC, hkind⟩ := hK.1 ci _ hc
  obtain ⟨cf, kf, fi, f, hi, hsl⟩ := hSl k hk
  have hlay := hts _ (hin _ (u_in_lay hk))
  unfold u_lay at hlay
  rw [if_pos hfin] at hlay
  have hcf : m.cls = cf := by
    obtain ⟨_, _, c', _, _, _, -, -, hf', -, -, -, hown2, -⟩ := Cond.laysFinal_spec hlay
    have e1 : c' = cf := by have := hi.symm.trans hf'; simp at this; exact this.1.symm
    rw [hdecl] at hown2
    rw [← e1]; exact Option.some.inj (hown.symm.trans hown2)
  refine W.putFinK hexec hb hown hlink (hsame _ hi) (u_facts hfc hkC (u_lays hts hin hk) hi).1 hcf hin2 (by rw [q2]; exact u_fits hfc hkC hkind (Or.inr hlay) hi hd hn hfit) q1 q3 (by rw [hsl]; exact k2_hasslot (q4 k hk)) rfl rfl hdg fun H' e1 e2 e3 => ?_
  rw [hsl] at e1 ⊢
  exact kk H' _ ⟨_, hc, t_OB.to (V := updV (vp_V fs) k v) ⟨_, e1, q2, q3, t_set q4 hap hk v⟩ (fun j _ => vp_updV_set hl v j)⟩ e2 e3 (hS0.put e2 e3 hz)
/-- an object is made -/
theorem k_new (hexec : p.tables.exec = Jvm.exec) (hb : c.code = cc) {own C : String} {T : u_T} {N ci index : Nat} (hts : ∀ w ∈ Ts, w.before args s = true) (hin : ∀ w ∈ u_ws C T N, w ∈ Ts) (ty : Nat → FieldType) (hty : ∀ k, k < N → parseFieldDescriptor (T k).2.2.1 = some (ty k)) (hown : s.vm.findClass own = some m.cls) (hcl : (Cond.classLink own index C).before args s = true) (hinst : (Cond.instantiable C N).before args s = true) (hini : (Cond.initialized C).before args s = true)
    (hK : va_K D vwCl tys s) (hS : va_S (nZ Z) H0 H locs) (hc : vwCl[ci]? = some (C, T, N)) {fs : List Value} (hfs : ∀ j, j < N → defaultValue (ty j) = vp_V fs j) (hcells : cells + 1 ≤ R.cells) (hslots : slots + N ≤ R.slots) (hdg : decode cc pc = .ok (.new index, 3))
    (kk : ∀ (H1 : Heap), Ob D H.size ci fs H1 → H1.size = H.size + 1 → (∀ q : Nat, q < H.size → H1[q]? = H[q]?) → va_S (nZ Z) H0 H1 locs →
      W p l e R s m args below meth c H1 locs (cells + 1) (slots + N) Q (F0 m (pc + 3) ls (.ref H.size :: rest))) : W p l e R s m args below meth c H locs cells slots Q (F0 m pc ls rest) := by
  have hKn := hK.1 ci _ hc
  refine W.newcK hexec hb hown hcl hinst hini rfl hdg hcells hslots hKn.2.1 rfl fun H1 kC hkC e1 z1 o1 => ?_
  exact kk H1 ⟨_, hc, (u_born ty hts hin hKn hkC e1 hty).to hfs⟩ z1 o1 (vaS_KA hS ⟨by omega, o1⟩)
/-- int arrays, long arrays, boolean arrays, arrays of references -/
theorem Ar.P {cA : ClassId} {x : vp_A} (hA : Ar cA a x H) : va_P D vwCl [(a, .inl (cA, x))] H := fun j q h => by
    have hj : j < 1 := (List.getElem?_eq_some_iff.mp h).1
    have e : j = 0 := by omega
    subst e
    cases h
    exact hA
theorem Ob.P {ci : Nat} {fs : List Value} (hA : Ob D a ci fs H) : va_P D vwCl [(a, .inr (ci, fs))] H := fun j q h => by
    have hj : j < 1 := (List.getElem?_eq_some_iff.mp h).1
    have e : j = 0 := by omega
    subst e
    cases h
    exact hA
theorem k_iald (hexec : p.tables.exec = Jvm.exec) (hb : c.code = cc) (hK : va_K D vwCl (tys5 ct) s) {n : Nat} {f : Nat → Int32} (hA : Ar (ct 0) a (rI n f) H) {i : Int32} (hin : vp_in i n) (hdg : decode cc pc = .ok (.iaload, 1))
    (kk : W p l e R s m args below meth c H locs cells slots Q (F0 m (pc + 1) ls (.int (f i.toNatClampNeg) :: rest))) : W p l e R s m args below meth c H locs cells slots Q (F0 m pc ls (.int i :: .ref a :: rest)) :=
  va_iald (D := D) hexec hb hK hA.P 0 0 rfl rfl hin hdg kk
theorem k_zald (hexec : p.tables.exec = Jvm.exec) (hb : c.code = cc) (hK : va_K D vwCl (tys5 ct) s) {n : Nat} {f : Nat → Int32} (hA : Ar (ct 1) a (rI n f) H) {i : Int32} (hin : vp_in i n) (hdg : decode cc pc = .ok (.baload, 1))
    (kk : W p l e R s m args below meth c H locs cells slots Q (F0 m (pc + 1) ls (.int (f i.toNatClampNeg) :: rest))) : W p l e R s m args below meth c H locs cells slots Q (F0 m pc ls (.int i :: .ref a :: rest)) :=
  va_zald (D := D) hexec hb hK hA.P 0 1 rfl rfl hin hdg kk
theorem k_lald (hexec : p.tables.exec = Jvm.exec) (hb : c.code = cc) (hK : va_K D vwCl (tys5 ct) s) {n : Nat} {f : Nat → Int64} (hA : Ar (ct 4) a (rJ n f) H) {i : Int32} (hin : vp_in i n) (hdg : decode cc pc = .ok (.laload, 1))
    (kk : W p l e R s m args below meth c H locs cells slots Q (F0 m (pc + 1) ls (.long (f i.toNatClampNeg) :: rest))) : W p l e R s m args below meth c H locs cells slots Q (F0 m pc ls (.int i :: .ref a :: rest)) :=
  va_lald (D := D) hexec hb hK hA.P 0 4 rfl rfl hin hdg kk
theorem k_aald2 (hexec : p.tables.exec = Jvm.exec) (hb : c.code = cc) (hK : va_K D vwCl (tys5 ct) s) {n : Nat} {f : Nat → Option Nat} (hA : Ar (ct 2) a (rQ n f) H) {i : Int32} (hin : vp_in i n) (hdg : decode cc pc = .ok (.aaload, 1))
    (kk : W p l e R s m args below meth c H locs cells slots Q (F0 m (pc + 1) ls (va_rf (f i.toNatClampNeg) :: rest))) : W p l e R s m args below meth c H locs cells slots Q (F0 m pc ls (.int i :: .ref a :: rest)) :=
  va_aldq (D := D) hexec hb hK hA.P 0 2 rfl rfl hin hdg kk
theorem k_aald3 (hexec : p.tables.exec = Jvm.exec) (hb : c.code = cc) (hK : va_K D vwCl (tys5 ct) s) {n : Nat} {f : Nat → Option Nat} (hA : Ar (ct 3) a (rQ n f) H) {i : Int32} (hin : vp_in i n) (hdg : decode cc pc = .ok (.aaload, 1))
    (kk : W p l e R s m args below meth c H locs cells slots Q (F0 m (pc + 1) ls (va_rf (f i.toNatClampNeg) :: rest))) : W p l e R s m args below meth c H locs cells slots Q (F0 m pc ls (.int i :: .ref a :: rest)) :=
  va_aldq (D := D) hexec hb hK hA.P 0 3 rfl rfl hin hdg kk
theorem k_alen (hexec : p.tables.exec = Jvm.exec) (hb : c.code = cc) (hK : va_K D vwCl (tys5 ct) s) (t0 : Nat) {cA : ClassId} {x : vp_A} (hA : Ar cA a x H) {ty : FieldType} (ht : (tys5 ct)[t0]? = some (cA, ty)) (hdg : decode cc pc = .ok (.arraylength, 1))
    (kk : W p l e R s m args below meth c H locs cells slots Q (F0 m (pc + 1) ls (.int (nI x.1) :: rest))) : W p l e R s m args below meth c H locs cells slots Q (F0 m pc ls (.ref a :: rest)) :=
  va_alen (D := D) hexec hb hK hA.P 0 t0 rfl ht rfl hdg kk
theorem k_alenq (hexec : p.tables.exec = Jvm.exec) (hb : c.code = cc) (hK : va_K D vwCl (tys5 ct) s) {n : Nat} {f : Nat → Option Nat} (hA : Aq (ct 3) a n f H) (hdg : decode cc pc = .ok (.arraylength, 1))
    (kk : W p l e R s m args below meth c H locs cells slots Q (F0 m (pc + 1) ls (.int (Int32.ofNat n) :: rest))) : W p l e R s m args below meth c H locs cells slots Q (F0 m pc ls (.ref a :: rest)) := by
  rcases hA with hA | ⟨rfl, ce, h1, h2, h3, h4⟩
  · exact k_alen hexec hb hK 3 hA rfl hdg kk
  · refine W.alen (n := Int32.ofNat 0) (ty := .object "java/lang/Object") hexec hb h1 ⟨fun k z => (by rw [z] at h4; cases h4), ?_⟩ (by rw [h3] <;> rfl) rfl rfl hdg kk
    rw [h2]
    exact ((hK.2 3 _ rfl).1 0 (fun _ => .null)).2
theorem k_iast (hexec : p.tables.exec = Jvm.exec) (hb : c.code = cc) (hK : va_K D vwCl (tys5 ct) s) (hS : va_S (nZ Z) H0 H locs) (hz : ¬ Z a) {n : Nat} {f : Nat → Int32} (hA : Ar (ct 0) a (rI n f) H) {i x : Int32} (hin : vp_in i n) (hdg : decode cc pc = .ok (.iastore, 1))
    (kk : ∀ (H1 : Heap) (locs1 : List Loc), Ar (ct 0) a (rI n (upd f i.toNatClampNeg x)) H1 → H1.size = H.size → (∀ q : Nat, q ≠ a → H1[q]? = H[q]?) → va_S (nZ Z) H0 H1 locs1 → W p l e R s m args below meth c H1 locs1 cells slots Q (F0 m (pc + 1) ls rest)) : W p l e R s m args below meth c H locs cells slots Q (F0 m pc ls (.int x :: .int i :: .ref a :: rest)) := by
  refine W.iast hexec hb hA ((hK.2 0 _ rfl).1 n (fun j => .int (f j))) (fun q => by cases q) (by show ¬ (i < 0 ∨ (arrV _ _ _).slots.size ≤ _); rw [arrV_size]; exact hin) rfl rfl hdg fun H1 e z oq => ?_
  refine kk H1 _ ?_ z oq (hS.put z oq hz)
  show H1[a]? = some (vp_cell _ _)
  rw [e, vp_cell_i, vp_cell_i, arrV_store]
  congr 2
  funext q
  by_cases hq : q = i.toNatClampNeg
  · simp [updV, upd, hq]
  · simp [updV, upd, hq]
theorem k_zast (hexec : p.tables.exec = Jvm.exec) (hb : c.code = cc) (hK : va_K D vwCl (tys5 ct) s) (hS : va_S (nZ Z) H0 H locs) (hz : ¬ Z a) {n : Nat} {f : Nat → Int32} (hA : Ar (ct 1) a (rI n f) H) {i x : Int32} (hx : narrow .boolean (.int x) = .int x) (hin : vp_in i n) (hdg : decode cc pc = .ok (.bastore, 1))
    (kk : ∀ (H1 : Heap) (locs1 : List Loc), Ar (ct 1) a (rI n (upd f i.toNatClampNeg x)) H1 → H1.size = H.size → (∀ q : Nat, q ≠ a → H1[q]? = H[q]?) → va_S (nZ Z) H0 H1 locs1 → W p l e R s m args below meth c H1 locs1 cells slots Q (F0 m (pc + 1) ls rest)) : W p l e R s m args below meth c H locs cells slots Q (F0 m pc ls (.int x :: .int i :: .ref a :: rest)) := by
  refine W.zast hexec hb hA ((hK.2 1 _ rfl).1 n (fun j => .int (f j))) (fun q => by cases q) (by show ¬ (i < 0 ∨ (arrV _ _ _).slots.size ≤ _); rw [arrV_size]; exact hin) rfl rfl hdg fun H1 e z oq => ?_
  refine kk H1 _ ?_ z oq (hS.put z oq hz)
  show H1[a]? = some (vp_cell _ _)
  rw [e, hx, vp_cell_i, vp_cell_i, arrV_store]
  congr 2
  funext q
  by_cases hq : q = i.toNatClampNeg
  · simp [updV, upd, hq]
  · simp [updV, upd, hq]
theorem k_last (hexec : p.tables.exec = Jvm.exec) (hb : c.code = cc) (hK : va_K D vwCl (tys5 ct) s) (hS : va_S (nZ Z) H0 H locs) (hz : ¬ Z a) {n : Nat} {f : Nat → Int64} (hA : Ar (ct 4) a (rJ n f) H) {i : Int32} {x : Int64} (hin : vp_in i n) (hdg : decode cc pc = .ok (.lastore, 1))
    (kk : ∀ (H1 : Heap) (locs1 : List Loc), Ar (ct 4) a (rJ n (vp_updL f i.toNatClampNeg x)) H1 → H1.size = H.size → (∀ q : Nat, q ≠ a → H1[q]? = H[q]?) → va_S (nZ Z) H0 H1 locs1 → W p l e R s m args below meth c H1 locs1 cells slots Q (F0 m (pc + 1) ls rest)) : W p l e R s m args below meth c H locs cells slots Q (F0 m pc ls (.long x :: .int i :: .ref a :: rest)) := by
  refine W.last hexec hb hA ((hK.2 4 _ rfl).1 n (fun j => .long (f j))) (fun q => by cases q) (by show ¬ (i < 0 ∨ (arrV _ _ _).slots.size ≤ _); rw [arrV_size]; exact hin) rfl rfl hdg fun H1 e z oq => ?_
  refine kk H1 _ ?_ z oq (hS.put z oq hz)
  show H1[a]? = some (vp_cell _ _)
  rw [e, vp_cell_l, vp_cell_l, arrV_store]
  congr 2
  funext q
  by_cases hq : q = i.toNatClampNeg
  · simp [updV, vp_updL, hq]
  · simp [updV, vp_updL, hq]
/-- a made int array is of the known class -/
theorem k_newI (hexec : p.tables.exec = Jvm.exec) (hb : c.code = cc) (harr : (Cond.arrayClass .int).before args s = true) (hK : va_K D vwCl (tys5 ct) s) (hS : va_S (nZ Z) H0 H locs) {n : Int32} {N : Nat} (hn : ¬ n < 0) (hN : n.toNatClampNeg = N) (hbytes : N * 4 ≤ 536870912) (hcells : cells + 1 ≤ R.cells) (hslots : slots + N ≤ R.slots) (hdg : decode cc pc = .ok (.newarray .int, 2))
    (kk : ∀ (H1 : Heap), Ar (ct 0) H.size (rI N (fun _ => 0)) H1 → H1.size = H.size + 1 → (∀ q : Nat, q < H.size → H1[q]? = H[q]?) → va_S (nZ Z) H0 H1 locs → W p l e R s m args below meth c H1 locs (cells + 1) (slots + N) Q (F0 m (pc + 2) ls (.ref H.size :: rest))) : W p l e R s m args below meth c H locs cells slots Q (F0 m pc ls (.int n :: rest)) := by
  refine va_newaK (atype := .int) hexec hb harr rfl hdg rfl hn hN hbytes hcells hslots rfl fun H1 cA e1 z1 o1 _ hNm => ?_
  have hc : cA = ct 0 := by
    have h2 := (hK.2 0 _ rfl).2
    exact Option.some.inj (hNm.symm.trans h2)
  subst hc
  exact kk H1 e1 z1 o1 (vaS_KA hS ⟨by omega, o1⟩)
theorem k_newZ (hexec : p.tables.exec = Jvm.exec) (hb : c.code = cc) (harr : (Cond.arrayClass .boolean).before args s = true) (hK : va_K D vwCl (tys5 ct) s) (hS : va_S (nZ Z) H0 H locs) {n : Int32} {N : Nat} (hn : ¬ n < 0) (hN : n.toNatClampNeg = N) (hbytes : N * 1 ≤ 536870912) (hcells : cells + 1 ≤ R.cells) (hslots : slots + N ≤ R.slots) (hdg : decode cc pc = .ok (.newarray .boolean, 2))
    (kk : ∀ (H1 : Heap), Ar (ct 1) H.size (rI N (fun _ => 0)) H1 → H1.size = H.size + 1 → (∀ q : Nat, q < H.size → H1[q]? = H[q]?) → va_S (nZ Z) H0 H1 locs → W p l e R s m args below meth c H1 locs (cells + 1) (slots + N) Q (F0 m (pc + 2) ls (.ref H.size :: rest))) : W p l e R s m args below meth c H locs cells slots Q (F0 m pc ls (.int n :: rest)) := by
  refine va_newaK (atype := .boolean) hexec hb harr rfl hdg rfl hn hN hbytes hcells hslots rfl fun H1 cA e1 z1 o1 _ hNm => ?_
  have hc : cA = ct 1 := by
    have h2 := (hK.2 1 _ rfl).2
    exact Option.some.inj (hNm.symm.trans h2)
  subst hc
  exact kk H1 e1 z1 o1 (vaS_KA hS ⟨by omega, o1⟩)
theorem k_newJ (hexec : p.tables.exec = Jvm.exec) (hb : c.code = cc) (harr : (Cond.arrayClass .long).before args s = true) (hK : va_K D vwCl (tys5 ct) s) (hS : va_S (nZ Z) H0 H locs) {n : Int32} {N : Nat} (hn : ¬ n < 0) (hN : n.toNatClampNeg = N) (hbytes : N * 8 ≤ 536870912) (hcells : cells + 1 ≤ R.cells) (hslots : slots + N ≤ R.slots) (hdg : decode cc pc = .ok (.newarray .long, 2))
    (kk : ∀ (H1 : Heap), Ar (ct 4) H.size (rJ N (fun _ => 0)) H1 → H1.size = H.size + 1 → (∀ q : Nat, q < H.size → H1[q]? = H[q]?) → va_S (nZ Z) H0 H1 locs → W p l e R s m args below meth c H1 locs (cells + 1) (slots + N) Q (F0 m (pc + 2) ls (.ref H.size :: rest))) : W p l e R s m args below meth c H locs cells slots Q (F0 m pc ls (.int n :: rest)) := by
  refine va_newaK (atype := .long) hexec hb harr rfl hdg rfl hn hN hbytes hcells hslots rfl fun H1 cA e1 z1 o1 _ hNm => ?_
  have hc : cA = ct 4 := by
    have h2 := (hK.2 4 _ rfl).2
    exact Option.some.inj (hNm.symm.trans h2)
  subst hc
  exact kk H1 e1 z1 o1 (vaS_KA hS ⟨by omega, o1⟩)
theorem k_newQ (t0 : Nat) (hexec : p.tables.exec = Jvm.exec) (hb : c.code = cc) {own C : String} {index : Nat} (hown : s.vm.findClass own = some m.cls) (hclink : (Cond.classLink own index C).before args s = true) (hover : va_AO C s) (hK : va_K D vwCl (tys5 ct) s) {cA0 : ClassId} (ht : (tys5 ct)[t0]? = some (cA0, .object C)) (hS : va_S (nZ Z) H0 H locs) {n : Int32} {N : Nat} (hn : ¬ n < 0) (hN : n.toNatClampNeg = N) (hbytes : N * 4 ≤ 536870912) (hcells : cells + 1 ≤ R.cells) (hslots : slots + N ≤ R.slots) (hdg : decode cc pc = .ok (.anewarray index, 3))
    (kk : ∀ (H1 : Heap), Ar cA0 H.size (rQ N (fun _ => none)) H1 → H1.size = H.size + 1 → (∀ q : Nat, q < H.size → H1[q]? = H[q]?) → va_S (nZ Z) H0 H1 locs → W p l e R s m args below meth c H1 locs (cells + 1) (slots + N) Q (F0 m (pc + 3) ls (.ref H.size :: rest))) : W p l e R s m args below meth c H locs cells slots Q (F0 m pc ls (.int n :: rest)) := by
  subst hN
  refine W.anew hexec hb hown hclink (va_AO.use hover) rfl hdg rfl hn hbytes hcells hslots fun cA kA comp f1 f2 f3 f4 => ?_
  have hc : cA = cA0 := by
    obtain ⟨kA', comp', -, -, -, h4⟩ := (hK.2 t0 _ ht).2
    exact Option.some.inj (f1.symm.trans h4)
  subst hc
  generalize hH1 : H.push ({ cls := cA, slots := Array.replicate n.toNatClampNeg .null, vm := .none } : Cell) = H1
  have z1 : H1.size = H.size + 1 := by rw [← hH1, Array.size_push]
  have e1 : H1[H.size]? = some (arrV cA n.toNatClampNeg (fun _ => .null)) := by rw [← hH1, Array.getElem?_push_size, ← arrV_new]
  have o1 : ∀ q : Nat, q < H.size → H1[q]? = H[q]? := fun q hq => by rw [← hH1, Array.getElem?_push, if_neg (Nat.ne_of_lt hq)]
  exact kk H1 e1 z1 o1 (vaS_KA hS ⟨by omega, o1⟩)
/-- an object's class, for a receiver -/
theorem Ob.recv {ci : Nat} {fs : List Value} {q : vw_C} (hK : va_K D vwCl tys s) (hP : Ob D a ci fs H) (hc : vwCl[ci]? = some q) : ∃ cell : Cell, H[a]? = some cell ∧ cell.vm.isStatics = false ∧ s.vm.findClass q.1 = some cell.cls :=
  va_recv (D := D) hK hP.P hc (q0 := 0) rfl
/-- behind a call that changes nothing -/
theorem c_p1 {x : Value} (hr : va_Run p l e R s m args below meth c H locs cells slots 0 0 (F0 m pc ls st0) rest (qP (some x) ar) nF)
    (kk : W p l e R s m args below meth c H locs cells slots Q (F0 m (pc + 3) ls (x :: rest))) : W p l e R s m args below meth c H locs cells slots Q (F0 m pc ls st0) := by
  intro T hT X
  obtain ⟨v, st₀, t, T', L, h0, X', hL, e1, e2, ⟨hv, hh⟩, st⟩ := hr T hT X
  cases hv
  have hL0 : L = [] := by
    cases L with
    | nil => rfl
    | cons q L => exact (hL q List.mem_cons_self).elim
  subst hL0
  rw [List.append_nil] at X'
  obtain ⟨t2, a1, b1⟩ := kk T' (e1.trans (hh.trans h0)) X'
  exact ⟨t2, st t2 a1, b1⟩
theorem c_p0 (hr : va_Run p l e R s m args below meth c H locs cells slots 0 0 (F0 m pc ls st0) rest (qP none ar) nF)
    (kk : W p l e R s m args below meth c H locs cells slots Q (F0 m (pc + 3) ls rest)) : W p l e R s m args below meth c H locs cells slots Q (F0 m pc ls st0) := by
  intro T hT X
  obtain ⟨v, st₀, t, T', L, h0, X', hL, e1, e2, ⟨hv, hh⟩, st⟩ := hr T hT X
  cases hv
  have hL0 : L = [] := by
    cases L with
    | nil => rfl
    | cons q L => exact (hL q List.mem_cons_self).elim
  subst hL0
  rw [List.append_nil] at X'
  obtain ⟨t2, a1, b1⟩ := kk T' (e1.trans (hh.trans h0)) X'
  exact ⟨t2, st t2 a1, b1⟩
theorem vaS_call {st₀ t T' : State} {L : List Loc} (h0 : st₀.heap = H) (e1 : T'.heap = t.heap) (hS : va_S (nZ Z) H0 H locs) (hL : ∀ q ∈ L, nZ Z q.base) (hF : va_F (nZ Z) st₀ t) : va_S (nZ Z) H0 T'.heap (locs ++ L) := by
  obtain ⟨f1, f2⟩ := hF
  rw [h0] at f1 f2
  refine ⟨Nat.le_trans hS.1 (by rw [e1]; exact f1), fun q h1 h2 => ?_, fun q hq => ?_⟩
  · rw [e1, f2 q (Nat.lt_of_lt_of_le h1 hS.1) h2]
    exact hS.2.1 q h1 h2
  · rcases List.mem_append.mp hq with h | h
    · exact hS.2.2 q h
    · exact hL q h
/-- behind a call that changes something -/
theorem c_s1 {Rl : Value → Heap → Prop} (hr : va_Run p l e R s m args below meth c H locs cells slots mc ms (F0 m pc ls st0) rest (qS1 Z Rl ar) (nZ Z)) (hS : va_S (nZ Z) H0 H locs)
    (kk : ∀ (x : Value) (H1 : Heap) (locs1 : List Loc), Rl x H1 → H.size ≤ H1.size → va_S (nZ Z) H0 H1 locs1 → W p l e R s m args below meth c H1 locs1 (cells + mc) (slots + ms) Q (F0 m (pc + 3) ls (x :: rest))) : W p l e R s m args below meth c H locs cells slots Q (F0 m pc ls st0) := by
  intro T hT X
  obtain ⟨v, st₀, t, T', L, h0, X', hL, e1, e2, ⟨x, hv, hq, hF⟩, st⟩ := hr T hT X
  cases hv
  have hz := hF.1
  rw [h0] at hz
  obtain ⟨t2, a1, b1⟩ := kk x T'.heap (locs ++ L) (by rw [e1]; exact hq) (by rw [e1]; exact hz) (vaS_call h0 e1 hS hL hF) T' rfl X'
  exact ⟨t2, st t2 a1, b1⟩
theorem c_s0 {Rl : Heap → Prop} (hr : va_Run p l e R s m args below meth c H locs cells slots mc ms (F0 m pc ls st0) rest (qS0 Z Rl ar) (nZ Z)) (hS : va_S (nZ Z) H0 H locs)
    (kk : ∀ (H1 : Heap) (locs1 : List Loc), Rl H1 → H.size ≤ H1.size → va_S (nZ Z) H0 H1 locs1 → W p l e R s m args below meth c H1 locs1 (cells + mc) (slots + ms) Q (F0 m (pc + 3) ls rest)) : W p l e R s m args below meth c H locs cells slots Q (F0 m pc ls st0) := by
  intro T hT X
  obtain ⟨v, st₀, t, T', L, h0, X', hL, e1, e2, ⟨hv, hq, hF⟩, st⟩ := hr T hT X
  cases hv
  have hz := hF.1
  rw [h0] at hz
  obtain ⟨t2, a1, b1⟩ := kk T'.heap (locs ++ L) (by rw [e1]; exact hq) (by rw [e1]; exact hz) (vaS_call h0 e1 hS hL hF) T' rfl X'
  exact ⟨t2, st t2 a1, b1⟩
/-- words of a callee among the list of all words -/
theorem GG {own C : String} {idx : Nat} {y : MethodName} {bytes : ByteArray} {maxL : Nat} {ret : Option FieldType} (h1 : Cond.methodLink own idx y ∈ GW) (h2 : Cond.instanceMethod y ∈ GW) (h3 : Cond.selects C y y ∈ GW) (h4 : Cond.initialized C ∈ GW) (h5 : Cond.code y bytes maxL ret ∈ GW) : GoodIn GW (wsV own idx C y (.code y bytes maxL ret :: GW)) := by
  intro w hw
  have hm : w ∈ GW := by
    simp only [wsV, List.cons_append, List.nil_append, List.mem_cons] at hw
    rcases hw with rfl | rfl | rfl | rfl | rfl | hw
    · exact h1
    · exact h2
    · exact h3
    · exact h4
    · exact h5
    · exact hw
  exact ⟨hm, good_of_word (gwg w hm)⟩
theorem GGS {own : String} {idx : Nat} {y : MethodName} {bytes : ByteArray} {maxL : Nat} {ret : Option FieldType} (h5 : Cond.code y bytes maxL ret ∈ GW) : GoodIn GW (.code y bytes maxL ret :: GW) := by
  intro w hw
  have hm : w ∈ GW := by
    rcases List.mem_cons.mp hw with rfl | hw
    · exact h5
    · exact hw
  exact ⟨hm, good_of_word (gwg w hm)⟩
/-- a static call's words, the callee's class any -/
theorem k_cwS {own : String} {index maxL mc ms : Nat} {y : MethodName} {bytes : ByteArray} {ret : Option FieldType} {rm : Room} (n : Nat) (ht : ∀ w ∈ GW, w.before args s = true) (hl : Cond.methodLink own index y ∈ GW) (hst : Cond.static y ∈ GW) (hini : Cond.initialized y.cls ∈ GW) (hc : Cond.code y bytes maxL ret ∈ GW) (hrc : rm.cells = mc) (hrs : rm.slots = ms)
    (hd : y.cls ≠ "java/lang/invoke/MethodHandle" ∧ y.cls ≠ "java/lang/invoke/VarHandle" ∧ (parseMethodDescriptor y.desc).map (fun d => d.parameters.length) = some n) (hR : rm.frames + 1 ≤ R.frames ∧ 8 + (maxL + 11) + rm.locals ≤ R.locals) :
    CallB R s args own index y bytes maxL ret (.code y bytes maxL ret :: GW) rm mc ms n ∧ (Cond.static y).before args s = true :=
  ⟨callB_of n ht (GGS (own := own) (idx := index) hc) rfl hrc hrs (ht _ hini) (ht _ hl) hd hR, ht _ hst⟩
/-- from a contract's head to its first instruction -/
theorem m_in {y : MethodName} {maxL : Nat} {ret : Option FieldType} {rm : Room} {Pr : State → Prop} {Qc : Array Value → State → Outcome → State → Prop} (vals : List Value) (own : String) (hown : y.cls = own) (hy : plainName y.cls = true) (hl : (lg_sl vals).length ≤ maxL)
    (body : ∀ (p : Program) (e : Env) (s : State) (m : MethodId) (args : Array Value) (below : List Frame) (meth : Method) (c : Code) (ls : Array Slot), p.tables.exec = Jvm.exec → c.code = cc → c.maxLocals = maxL → s.vm.findClass own = some m.cls → (∀ w ∈ GW, w.before args s = true) → meth.sig.returnType = ret → meth.locks = false → meth.name = y.name → Pr s → lv_has ls maxL (lv_args 0 vals) →
      W p l e rm s m args below meth c s.heap [] 0 0 (MQ below Qc args s mc ms free) (F0 m 0 ls [])) : Met l y (.code y cc maxL ret :: GW) rm (va_Pc vals Pr) Qc mc ms free := by
  refine Met.ofW (cc := cc) (maxL := maxL) (ret := ret) hy rfl ?_
  intro p e s m args below meth c s₁ B hml hv
  obtain ⟨rfl, hPr⟩ := hv
  have hts := atoms_spec (ws := .code y cc maxL ret :: GW) B.pre
  have hl2 := lv_entry vals hl
  rw [lg_entry_eq]
  generalize (lg_sl vals ++ List.replicate (maxL - (lg_sl vals).length) Slot.unset).toArray = ls at hl2 ⊢
  exact body p e s m _ below meth c ls B.exec B.bytes hml (by rw [← hown]; exact findClass_of_methodNamed B.named) (fun w hw => hts w (List.mem_cons_of_mem _ hw)) B.returns B.notSynchronized (name_of_methodNamed B.named B.method).1 hPr hl2
/-- the same for one that may throw (no handlers of its own) -/
theorem mx_in {y : MethodName} {maxL : Nat} {ret : Option FieldType} {rm : Room} {Pr : State → Prop} {Qc : Array Value → State → Outcome → State → Prop} {XC : String → State → State → Prop} (vals : List Value) (own : String) (hown : y.cls = own) (hy : plainName y.cls = true) (hl : (lg_sl vals).length ≤ maxL)
    (body : ∀ (p : Program) (e : Env) (s : State) (m : MethodId) (args : Array Value) (below : List Frame) (meth : Method) (c : Code) (ls : Array Slot), p.tables.exec = Jvm.exec → c.code = cc → c.maxLocals = maxL → s.vm.findClass own = some m.cls → (∀ w ∈ GW, w.before args s = true) → meth.sig.returnType = ret → meth.locks = false → (∀ x ∈ c.exceptionTable.toList, False) → Pr s → lv_has ls maxL (lv_args 0 vals) →
      W p l e rm s m args below meth c s.heap [] 0 0 (vx_MQ below Qc XC args s mc ms free) (F0 m 0 ls [])) : vx_Met l y (.code y cc maxL ret :: GW) rm (va_Pc vals Pr) Qc XC mc ms free := by
  refine vx_ofW (cc := cc) (maxL := maxL) (ret := ret) hy rfl ?_
  intro p e s m args below meth c s₁ B hml hnt hv
  obtain ⟨rfl, hPr⟩ := hv
  have hts := atoms_spec (ws := .code y cc maxL ret :: GW) B.pre
  have hl2 := lv_entry vals hl
  rw [lg_entry_eq]
  generalize (lg_sl vals ++ List.replicate (maxL - (lg_sl vals).length) Slot.unset).toArray = ls at hl2 ⊢
  exact body p e s m _ below meth c ls B.exec B.bytes hml (by rw [← hown]; exact findClass_of_methodNamed B.named) (fun w hw => hts w (List.mem_cons_of_mem _ hw)) B.returns B.notSynchronized hnt hPr hl2
/-- behind a call that may throw -/
theorem c_x0 {px : String → Prop} (hr : vx_Run p l e R s m args below meth c H locs cells slots mc ms (F0 m pc ls st0) rest (qP none ar) (xK px) nF) (hS : va_S (nZ Z) H0 H locs)
    (kx : ∀ (E : String) (ce : Cell) (q9 : Addr) (H1 : Heap), px E → KA H H1 → va_S (nZ Z) H0 H1 locs → H1[q9]? = some ce → ce.vm = .none → s.vm.findClass E = some ce.cls → vx_W p l e R s m args below meth c H1 locs (cells + mc) (slots + ms) Q (F0 m pc ls rest) q9)
    (kk : W p l e R s m args below meth c H locs (cells + mc) (slots + ms) Q (F0 m (pc + 3) ls rest)) : W p l e R s m args below meth c H locs cells slots Q (F0 m pc ls st0) := by
  have hL0 : ∀ {L : List Loc}, (∀ q ∈ L, nF q.base) → L = [] := fun {L} hL => by
    cases L with
    | nil => rfl
    | cons q L => exact (hL q List.mem_cons_self).elim
  intro T hT X
  rcases hr T hT X with ⟨v, st₀, t, T', L, h0, X', hL, e1, e2, ⟨hv, hh⟩, st⟩ | ⟨q, st₀, t, T', L, E, ce, h0, X', hL, e1, e2, ⟨hp, hk⟩, hce, hcv, hcl, st⟩
  · cases hv
    rw [hL0 hL, List.append_nil] at X'
    obtain ⟨t2, a1, b1⟩ := kk T' (e1.trans (hh.trans h0)) X'
    exact ⟨t2, st t2 a1, b1⟩
  · rw [hL0 hL, List.append_nil] at X'
    have hk' : KA H T'.heap := by rw [e1, ← h0]; exact hk
    obtain ⟨t2, a1, b1⟩ := kx E ce q T'.heap hp hk' (vaS_KA hS hk') (by rw [e1]; exact hce) hcv hcl T' rfl X'
    exact ⟨t2, st.trans a1, b1⟩
theorem c_x1 {px : String → Prop} {x : Value} (hr : vx_Run p l e R s m args below meth c H locs cells slots mc ms (F0 m pc ls st0) rest (qP (some x) ar) (xK px) nF) (hS : va_S (nZ Z) H0 H locs)
    (kx : ∀ (E : String) (ce : Cell) (q9 : Addr) (H1 : Heap), px E → KA H H1 → va_S (nZ Z) H0 H1 locs → H1[q9]? = some ce → ce.vm = .none → s.vm.findClass E = some ce.cls → vx_W p l e R s m args below meth c H1 locs (cells + mc) (slots + ms) Q (F0 m pc ls rest) q9)
    (kk : W p l e R s m args below meth c H locs (cells + mc) (slots + ms) Q (F0 m (pc + 3) ls (x :: rest))) : W p l e R s m args below meth c H locs cells slots Q (F0 m pc ls st0) := by
  have hL0 : ∀ {L : List Loc}, (∀ q ∈ L, nF q.base) → L = [] := fun {L} hL => by
    cases L with
    | nil => rfl
    | cons q L => exact (hL q List.mem_cons_self).elim
  intro T hT X
  rcases hr T hT X with ⟨v, st₀, t, T', L, h0, X', hL, e1, e2, ⟨hv, hh⟩, st⟩ | ⟨q, st₀, t, T', L, E, ce, h0, X', hL, e1, e2, ⟨hp, hk⟩, hce, hcv, hcl, st⟩
  · cases hv
    rw [hL0 hL, List.append_nil] at X'
    obtain ⟨t2, a1, b1⟩ := kk T' (e1.trans (hh.trans h0)) X'
    exact ⟨t2, st t2 a1, b1⟩
  · rw [hL0 hL, List.append_nil] at X'
    have hk' : KA H T'.heap := by rw [e1, ← h0]; exact hk
    obtain ⟨t2, a1, b1⟩ := kx E ce q T'.heap hp hk' (vaS_KA hS hk') (by rw [e1]; exact hce) hcv hcl T' rfl X'
    exact ⟨t2, st.trans a1, b1⟩
/-- .. and changes something where it returns -/
theorem c_xs1 {px : String → Prop} {Rl : Value → Heap → Prop} (hr : vx_Run p l e R s m args below meth c H locs cells slots mc ms (F0 m pc ls st0) rest (qS1 Z Rl ar) (xK px) (nZ Z)) (hS : va_S (nZ Z) H0 H locs)
    (kx : ∀ (E : String) (ce : Cell) (q9 : Addr) (H1 : Heap) (locs1 : List Loc), px E → KA H H1 → va_S (nZ Z) H0 H1 locs1 → H1[q9]? = some ce → ce.vm = .none → s.vm.findClass E = some ce.cls → vx_W p l e R s m args below meth c H1 locs1 (cells + mc) (slots + ms) Q (F0 m pc ls rest) q9)
    (kk : ∀ (x : Value) (H1 : Heap) (locs1 : List Loc), Rl x H1 → H.size ≤ H1.size → va_S (nZ Z) H0 H1 locs1 → W p l e R s m args below meth c H1 locs1 (cells + mc) (slots + ms) Q (F0 m (pc + 3) ls (x :: rest))) : W p l e R s m args below meth c H locs cells slots Q (F0 m pc ls st0) := by
  intro T hT X
  rcases hr T hT X with ⟨v, st₀, t, T', L, h0, X', hL, e1, e2, ⟨x, hv, hq, hF⟩, st⟩ | ⟨q, st₀, t, T', L, E, ce, h0, X', hL, e1, e2, ⟨hp, hk⟩, hce, hcv, hcl, st⟩
  · cases hv
    have hz := hF.1
    rw [h0] at hz
    obtain ⟨t2, a1, b1⟩ := kk x T'.heap (locs ++ L) (by rw [e1]; exact hq) (by rw [e1]; exact hz) (vaS_call h0 e1 hS hL hF) T' rfl X'
    exact ⟨t2, st t2 a1, b1⟩
  · have hk' : KA H T'.heap := by rw [e1, ← h0]; exact hk
    have hF : va_F (nZ Z) st₀ t := ⟨hk.1, fun q h _ => hk.2 q h⟩
    obtain ⟨t2, a1, b1⟩ := kx E ce q T'.heap (locs ++ L) hp hk' (vaS_call h0 e1 hS hL hF) (by rw [e1]; exact hce) hcv hcl T' rfl X'
    exact ⟨t2, st.trans a1, b1⟩
end CORE1
