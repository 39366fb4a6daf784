/-! MAKING: the list of addresses grows -/
theorem wi.pushw {L : List Nat} {F : Nat → va_E} {a q : Nat} {e e2 e3 : va_E} (h : wi L F a e) (_ : wi (L ++ [q]) (va_up F q e2) q e3) (hq : q ∉ L) : wi (L ++ [q]) (va_up F q e2) a e :=
  ⟨List.mem_append_left _ h.1, (va_up_ne F e2 (fun z : a = q => hq (by rw [← z]; exact h.1))).trans h.2⟩
/-- all of the old stays but what P leaves out; the list only grows -/
def gr (L0 : List Nat) (F0 : Nat → va_E) (P : Nat → Prop) (L1 : List Nat) (F1 : Nat → va_E) : Prop := ∀ a, a ∈ L0 → a ∈ L1 ∧ (P a → F1 a = F0 a)
theorem gr.rf {L0 : List Nat} {F0 : Nat → va_E} {P : Nat → Prop} : gr L0 F0 P L0 F0 := fun _ h => ⟨h, fun _ => rfl⟩
theorem gr.push {L0 L1 : List Nat} {F0 F1 : Nat → va_E} {P : Nat → Prop} {q : Nat} {e2 e3 : va_E} (h : gr L0 F0 P L1 F1) (_ : wi (L1 ++ [q]) (va_up F1 q e2) q e3) (hq : q ∉ L1) : gr L0 F0 P (L1 ++ [q]) (va_up F1 q e2) :=
  fun a ha => ⟨List.mem_append_left _ (h a ha).1, fun hp => (va_up_ne F1 e2 (fun z : a = q => hq (by rw [← z]; exact (h a ha).1))).trans ((h a ha).2 hp)⟩
theorem gr.up {L0 L1 : List Nat} {F0 F1 : Nat → va_E} {P : Nat → Prop} {b : Nat} {e2 e3 : va_E} (h : gr L0 F0 P L1 F1) (_ : wi L1 (va_up F1 b e2) b e3) (hb : b ∈ L0 → ¬ P b) : gr L0 F0 P L1 (va_up F1 b e2) :=
  fun a ha => ⟨(h a ha).1, fun hp => (va_up_ne F1 e2 (fun z : a = b => hb (by rw [← z]; exact ha) (by rw [← z]; exact hp))).trans ((h a ha).2 hp)⟩
theorem gr.call {L0 L1 L2 : List Nat} {F0 F1 F2 : Nat → va_E} {P P2 : Nat → Prop} (h : gr L0 F0 P L1 F1) (h2 : gr L1 F1 P2 L2 F2) (hp : ∀ a, a ∈ L0 → P a → P2 a) : gr L0 F0 P L2 F2 :=
  fun a ha => ⟨(h2 a (h a ha).1).1, fun q => ((h2 a (h a ha).1).2 (hp a ha q)).trans ((h a ha).2 q)⟩
theorem wi.grow {L0 L1 : List Nat} {F0 F1 : Nat → va_E} {P : Nat → Prop} {a : Nat} {e : va_E} (h : wi L0 F0 a e) (hg : gr L0 F0 P L1 F1) (hp : P a) : wi L1 F1 a e := ⟨(hg a h.1).1, ((hg a h.1).2 hp).trans h.2⟩
theorem ww_push {D : va_G} {A : Nat → Prop} {H0 H1 : Heap} {L : List Nat} {F : Nat → va_E} {locs : List Loc} {q : Nat} {e : va_E} (h1 : va_P D vwCl (va_pl L F ++ [(q, e)]) H1) (h2 : va_D A (va_pl L F ++ [(q, e)])) (h3 : va_S A H0 H1 locs) : q ∉ L ∧ ww D A H0 (L ++ [q]) (va_up F q e) H1 locs ∧ wi (L ++ [q]) (va_up F q e) q e := by
  have hq : q ∉ L := va_pl_fresh2 (X := []) h2
  rw [va_pl_push hq] at h1 h2
  exact ⟨hq, ⟨h1, h2, h3⟩, List.mem_append_right _ List.mem_cons_self, va_up_self F q e⟩
/-- an array of references is the same, if its rows below its length are -/
theorem ww_congr {D : va_G} {A : Nat → Prop} {H0 H : Heap} {L : List Nat} {F : Nat → va_E} {locs : List Loc} {a n : Nat} {cA : ClassId} {f g : Nat → Option Nat} (w : ww D A H0 L F H locs) (hi : wi L F a (eQ cA n f)) (hfg : ∀ i, i < n → f i = g i) : ww D A H0 L (va_up F a (eQ cA n g)) H locs ∧ wi L (va_up F a (eQ cA n g)) a (eQ cA n g) := by
  obtain ⟨k, g9, h0⟩ := hi.at
  have hcell : vp_cell cA (n, .inr (.inr (.inr (.inr f)))) = vp_cell cA (n, .inr (.inr (.inr (.inr g)))) := by
    rw [vp_cell_q, vp_cell_q]
    unfold arrV
    congr 1
    congr 1
    funext j
    show va_rf (f j.val) = va_rf (g j.val)
    rw [hfg j.val j.isLt]
  have hat : va_at D vwCl (a, eQ cA n g) H := by
    have h1 := w.1 k _ h0
    show H[a]? = some (vp_cell cA (n, .inr (.inr (.inr (.inr g)))))
    rw [← hcell]
    exact h1
  exact ⟨ww_set w.2.1 hi.1 g9 (w.1.set w.2.1 h0 hat (fun _ _ => rfl)) (w.2.1.set h0) w.2.2, hi.self⟩
section WNEW
variable {p : Program} {l : Launch} {e : Env} {R : Room} {s : State} {m : MethodId} {args : Array Value} {below : List Frame} {meth : Method} {c : Code} {H : Heap} {locs : List Loc} {cells slots : Nat} {Q : State → Prop}
variable {cc : ByteArray} {pc : Nat} {ls : Array Slot} {rest : List Value} {D : va_G} {A : Nat → Prop} {L : List Nat} {F : Nat → va_E} {cI cP cS cL : ClassId} {a : Nat}
theorem w_newO {own C : String} {T : u_T} {N ci index : Nat} {Ts : List Cond} (hx : p.tables.exec = Jvm.exec) (hb : c.code = cc) (hts : ∀ w ∈ Ts, w.before args s = true) (hin : ∀ w ∈ u_ws C T N, w ∈ Ts) (ty : Nat → FieldType) (hty : ∀ k, k < N → parseFieldDescriptor (T k).2.2.1 = some (ty k)) (hown : s.vm.findClass own = some m.cls) (hcl : (Cond.classLink own index C) ∈ Ts) (hinst : (Cond.instantiable C N) ∈ Ts) (hini : (Cond.initialized C) ∈ Ts) (hK : wK D cI cP cS cL s) (w : ww D A s.heap L F H locs) (hA : ∀ q : Nat, s.heap.size ≤ q → A q) (hc : vwCl[ci]? = some (C, T, N)) {fs : List Value} (hfs : ∀ j, j < N → defaultValue (ty j) = vp_V fs j) (hcells : cells + 1 ≤ R.cells) (hslots : slots + N ≤ R.slots) (hdg : decode cc pc = .ok (.new index, 3))
    (kk : ∀ (q : Nat) (H1 : Heap), q ∉ L → ww D A s.heap (L ++ [q]) (va_up F q (.inr (ci, fs))) H1 locs → wi (L ++ [q]) (va_up F q (.inr (ci, fs))) q (.inr (ci, fs)) → W p l e R s m args below meth c H1 locs (cells + 1) (slots + N) Q (F0 m (pc + 3) ls (.ref q :: rest))) : W p l e R s m args below meth c H locs cells slots Q (F0 m pc ls rest) :=
  va_new hx hb hts hin ty hty hown (hts _ hcl) (hts _ hinst) (hts _ hini) hK.1 w.1 w.2.1 w.2.2 hA hc hfs hcells hslots hdg (fun q H1 h1 h2 h3 => by
    obtain ⟨g1, g2, g3⟩ := ww_push h1 h2 h3
    exact kk q H1 g1 g2 g3)
theorem w_newI {Ts : List Cond} (hx : p.tables.exec = Jvm.exec) (hb : c.code = cc) (hts : ∀ w ∈ Ts, w.before args s = true) (harr : (Cond.arrayClass .int) ∈ Ts) (hK : wK D cI cP cS cL s) (w : ww D A s.heap L F H locs) (hA : ∀ q : Nat, s.heap.size ≤ q → A q) {n : Int32} {N' : Nat} (hn : ¬ n < 0) (hN : n.toNatClampNeg = N') (hB : N' ≤ 1000) (hcells : cells + 1 ≤ R.cells) (hslots : slots + N' ≤ R.slots) (hdg : decode cc pc = .ok (.newarray .int, 2))
    (kk : ∀ (q : Nat) (H1 : Heap), q ∉ L → ww D A s.heap (L ++ [q]) (va_up F q (eI cI N' (fun _ => 0))) H1 locs → wi (L ++ [q]) (va_up F q (eI cI N' (fun _ => 0))) q (eI cI N' (fun _ => 0)) → W p l e R s m args below meth c H1 locs (cells + 1) (slots + N') Q (F0 m (pc + 2) ls (.ref q :: rest))) : W p l e R s m args below meth c H locs cells slots Q (F0 m pc ls (.int n :: rest)) :=
  va_newa (atype := .int) (ty := .int) (a0 := (N', .inl (fun _ => 0))) hx hb (hts _ harr) rfl hK.1 w.1 w.2.1 w.2.2 hA (fun cA => rfl) hn hN (by show N' * 4 ≤ 536870912; omega) hcells hslots hdg (fun q cA H1 hk h1 h2 h3 => by
    have e1 : s.vm.findClass ("[" ++ FieldType.int.toString) = some cI := (hK.1.2 0 (cI, .int) rfl).2
    have e2 : s.vm.findClass ("[" ++ FieldType.int.toString) = some cA := (hk.2 4 (cA, .int) rfl).2
    have e3 : cA = cI := Option.some.inj (e2.symm.trans e1)
    subst e3
    obtain ⟨g1, g2, g3⟩ := ww_push h1 h2 h3
    exact kk q H1 g1 g2 g3)
theorem w_newP {own : String} {index : Nat} {Ts : List Cond} (hx : p.tables.exec = Jvm.exec) (hb : c.code = cc) (hts : ∀ w ∈ Ts, w.before args s = true) (hown : s.vm.findClass own = some m.cls) (hcl : (Cond.classLink own index RX1) ∈ Ts) (hK : wK D cI cP cS cL s) (w : ww D A s.heap L F H locs) (hA : ∀ q : Nat, s.heap.size ≤ q → A q) {n : Int32} {N' : Nat} (hn : ¬ n < 0) (hN : n.toNatClampNeg = N') (hB : N' ≤ 1000) (hcells : cells + 1 ≤ R.cells) (hslots : slots + N' ≤ R.slots) (hdg : decode cc pc = .ok (.anewarray index, 3))
    (kk : ∀ (q : Nat) (H1 : Heap), q ∉ L → ww D A s.heap (L ++ [q]) (va_up F q (eQ cP N' (fun _ => none))) H1 locs → wi (L ++ [q]) (va_up F q (eQ cP N' (fun _ => none))) q (eQ cP N' (fun _ => none)) → W p l e R s m args below meth c H1 locs (cells + 1) (slots + N') Q (F0 m (pc + 3) ls (.ref q :: rest))) : W p l e R s m args below meth c H locs cells slots Q (F0 m pc ls (.int n :: rest)) :=
  va_newq hx hb hown (hts _ hcl) hK.2.2.2.2.1 hK.1 w.1 w.2.1 w.2.2 hA hn hN (by omega) hcells hslots hdg (fun q cA H1 hk h1 h2 h3 => by
    obtain ⟨_, _, _, _, _, e1⟩ := (hK.1.2 1 (cP, .object RX1) rfl).2
    obtain ⟨_, _, _, _, _, e2⟩ := (hk.2 4 (cA, .object RX1) rfl).2
    have e3 : cA = cP := Option.some.inj (e2.symm.trans e1)
    subst e3
    obtain ⟨g1, g2, g3⟩ := ww_push h1 h2 h3
    exact kk q H1 g1 g2 g3)
theorem w_newS {own : String} {index : Nat} {Ts : List Cond} (hx : p.tables.exec = Jvm.exec) (hb : c.code = cc) (hts : ∀ w ∈ Ts, w.before args s = true) (hown : s.vm.findClass own = some m.cls) (hcl : (Cond.classLink own index RX4) ∈ Ts) (hK : wK D cI cP cS cL s) (w : ww D A s.heap L F H locs) (hA : ∀ q : Nat, s.heap.size ≤ q → A q) {n : Int32} {N' : Nat} (hn : ¬ n < 0) (hN : n.toNatClampNeg = N') (hB : N' ≤ 1000) (hcells : cells + 1 ≤ R.cells) (hslots : slots + N' ≤ R.slots) (hdg : decode cc pc = .ok (.anewarray index, 3))
    (kk : ∀ (q : Nat) (H1 : Heap), q ∉ L → ww D A s.heap (L ++ [q]) (va_up F q (eQ cS N' (fun _ => none))) H1 locs → wi (L ++ [q]) (va_up F q (eQ cS N' (fun _ => none))) q (eQ cS N' (fun _ => none)) → W p l e R s m args below meth c H1 locs (cells + 1) (slots + N') Q (F0 m (pc + 3) ls (.ref q :: rest))) : W p l e R s m args below meth c H locs cells slots Q (F0 m pc ls (.int n :: rest)) :=
  va_newq hx hb hown (hts _ hcl) hK.2.2.2.2.2 hK.1 w.1 w.2.1 w.2.2 hA hn hN (by omega) hcells hslots hdg (fun q cA H1 hk h1 h2 h3 => by
    obtain ⟨_, _, _, _, _, e1⟩ := (hK.1.2 2 (cS, .object RX4) rfl).2
    obtain ⟨_, _, _, _, _, e2⟩ := (hk.2 4 (cA, .object RX4) rfl).2
    have e3 : cA = cS := Option.some.inj (e2.symm.trans e1)
    subst e3
    obtain ⟨g1, g2, g3⟩ := ww_push h1 h2 h3
    exact kk q H1 g1 g2 g3)
theorem w_ast {t0 ci : Nat} {cA : ClassId} {r : vw_C} (hx : p.tables.exec = Jvm.exec) (hb : c.code = cc) (hK : wK D cI cP cS cL s) (w : ww D A s.heap L F H locs) {n v : Nat} {vs : List Value} {f : Nat → Option Nat} (hi : wi L F a (eQ cA n f)) (ht : (wT cI cP cS cL)[t0]? = some (cA, .object r.1)) (hv : wi L F v (.inr (ci, vs))) (hc : vwCl[ci]? = some r) {i : Int32} {j : Nat} (hin : vp_in i n) (hj : i.toNatClampNeg = j) (hdg : decode cc pc = .ok (.aastore, 1))
    (kk : ∀ (H1 : Heap) (locs1 : List Loc), ww D A s.heap L (va_up F a (eQ cA n (va_up f j (some v)))) H1 locs1 → wi L (va_up F a (eQ cA n (va_up f j (some v)))) a (eQ cA n (va_up f j (some v))) → W p l e R s m args below meth c H1 locs1 cells slots Q (F0 m (pc + 1) ls rest)) : W p l e R s m args below meth c H locs cells slots Q (F0 m pc ls (.ref v :: .int i :: .ref a :: rest)) := by
  subst hj
  obtain ⟨q0, g9, h0⟩ := hi.at
  obtain ⟨qk, -, hk⟩ := hv.at
  exact va_astq hx hb hK.1 w.1 w.2.1 w.2.2 q0 t0 qk ci h0 ht hk hc hin hdg (fun H1 locs1 h1 h2 h3 => kk H1 locs1 (ww_set w.2.1 hi.1 g9 h1 h2 h3) hi.self)
theorem w_obj {own : String} {Ts : List Cond} {idx nL : Nat} (hx : p.tables.exec = Jvm.exec) (hb : c.code = cc) (hml : c.maxLocals = nL) (hl : ls.size = nL) (hts : ∀ w ∈ Ts, w.before args s = true) (hown : s.vm.findClass own = some m.cls) (h1 : (Cond.methodLink own idx Lib.objectInit) ∈ Ts) (h2 : (Cond.instanceMethod Lib.objectInit) ∈ Ts) (h3 : (Cond.code Lib.objectInit ⟨#[0xb1]⟩ 1 none) ∈ Ts) (hd : decode cc pc = .ok (.invokespecial idx, 3)) (hframes : 1 ≤ R.frames) (hlocals : (rest.map fun v => v.category).sum + 12 ≤ R.locals)
    (kk : W p l e R s m args below meth c H locs cells slots Q (F0 m (pc + 3) ls rest)) : W p l e R s m args below meth c H locs cells slots Q (F0 m pc ls (.ref a :: rest)) :=
  W.objInit hx hb hown (hts _ h1) (hts _ h2) (hts _ h3) rfl (by rw [hml]; exact hl) rfl hd hframes (by show 2 * 0 + _ + 12 ≤ _; omega) kk
end WNEW
