/-! TOOLS: a world is a list of addresses L and one map F from addresses to what lies there; a contract takes the whole world and gives the whole world back -/
abbrev wT (cI cP cS cL : ClassId) : List (ClassId × FieldType) := [(cI, .int), (cP, .object RX1), (cS, .object RX4), (cL, .long)]
def wK (D : va_G) (cI cP cS cL : ClassId) (U : State) : Prop := va_K D vwCl (wT cI cP cS cL) U ∧ va_Nw (.methodLinkNest RX0 105 yX5_over RX5) U ∧ va_Nw (.methodLinkNest RX0 62 yX5_isOneOfTwo RX5) U ∧ va_Nw (.methodLinkNest RX0 95 yX5_isStepCount RX5) U ∧ va_AO RX1 U ∧ va_AO RX4 U
theorem wK.call {D : va_G} {cI cP cS cL : ClassId} {a : Array Value} {U : State} {g : JFrame} {mk : MethodId} (h : wK D cI cP cS cL U) : wK D cI cP cS cL (U.calling g mk a) :=
  ⟨va_K.moved (u := U) (U := U.calling g mk a) (Vm.Alike.refl U.vm) h.1, va_Nw.same rfl rfl h.2.1, va_Nw.same rfl rfl h.2.2.1, va_Nw.same rfl rfl h.2.2.2.1, va_AO.moved (u := U) (U := U.calling g mk a) (Vm.Alike.refl U.vm) h.2.2.2.2.1, va_AO.moved (u := U) (U := U.calling g mk a) (Vm.Alike.refl U.vm) h.2.2.2.2.2⟩
theorem wK.warm {D : va_G} {cI cP cS cL : ClassId} {s U : State} (hW : s.WarmedH U.vm) (h : wK D cI cP cS cL s) : wK D cI cP cS cL U :=
  ⟨va_K.moved hW.alike h.1, va_Nw.warmM hW h.2.1, va_Nw.warmM hW h.2.2.1, va_Nw.warmM hW h.2.2.2.1, va_AO.moved hW.alike h.2.2.2.2.1, va_AO.moved hW.alike h.2.2.2.2.2⟩
def ww (D : va_G) (A : Nat → Prop) (H0 : Heap) (L : List Nat) (F : Nat → va_E) (H : Heap) (locs : List Loc) : Prop := va_P D vwCl (va_pl L F) H ∧ va_D A (va_pl L F) ∧ va_S A H0 H locs
def wi (L : List Nat) (F : Nat → va_E) (a : Nat) (e : va_E) : Prop := a ∈ L ∧ F a = e
theorem wi.at {L : List Nat} {F : Nat → va_E} {a : Nat} {e : va_E} (h : wi L F a e) : ∃ k : Nat, (va_pl L F)[k]? = some (a, F a) ∧ (va_pl L F)[k]? = some (a, e) := by
  obtain ⟨k, hk⟩ := va_pl_get (X := []) (f := F) h.1
  exact ⟨k, hk, by rw [← h.2]; exact hk⟩
theorem wi.self {L : List Nat} {F : Nat → va_E} {a : Nat} {e e2 : va_E} (h : wi L F a e) : wi L (va_up F a e2) a e2 := ⟨h.1, va_up_self F a e2⟩
theorem wi.up {L : List Nat} {F : Nat → va_E} {a b : Nat} {e e2 : va_E} (h : wi L F a e) (hn : a ≠ b) : wi L (va_up F b e2) a e := ⟨h.1, (va_up_ne F e2 hn).trans h.2⟩
theorem wi.ne {L L2 : List Nat} {F : Nat → va_E} {a b : Nat} {e e2 : va_E} (h : wi L F a e) (h2 : wi L2 F b e2) (hn : e ≠ e2) : a ≠ b := fun q => hn (by rw [← h.2, q, h2.2])
theorem ww_set {D : va_G} {A : Nat → Prop} {H0 H1 : Heap} {L : List Nat} {F : Nat → va_E} {locs1 : List Loc} {a k : Nat} {e : va_E} (hD : va_D A (va_pl L F)) (hm : a ∈ L) (hk : (va_pl L F)[k]? = some (a, F a)) (h1 : va_P D vwCl ((va_pl L F).set k (a, e)) H1) (h2 : va_D A ((va_pl L F).set k (a, e))) (h3 : va_S A H0 H1 locs1) : ww D A H0 L (va_up F a e) H1 locs1 := by
  have hs : (va_pl L F).set k (a, e) = va_pl L (va_up F a e) := va_pl_set (X := []) hD hm hk
  rw [hs] at h1 h2
  exact ⟨h1, h2, h3⟩
/-- a method's start, its end -/
def wPc (D : va_G) (cI cP cS cL : ClassId) (av : List Value) (sz : Nat) (L : List Nat) (F : Nat → va_E) : Array Value → State → Prop := va_Pc av (fun U => U.heap.size = sz ∧ va_P D vwCl (va_pl L F) U.heap ∧ wK D cI cP cS cL U ∧ va_D (fun _ => True) (va_pl L F))
def wB (D : va_G) (A : Nat → Prop) (u : List Nat × (Nat → va_E)) (t : State) : Prop := va_P D vwCl (va_pl u.1 u.2) t.heap ∧ va_D A (va_pl u.1 u.2)
def wQi (D : va_G) (A : Nat → Prop) (post : Int32 → List Nat → (Nat → va_E) → Prop) : Array Value → State → Outcome → State → Prop := va_Qi (fun (r : Int32) (u : List Nat × (Nat → va_E)) => post r u.1 u.2) (wB D A) A
def wQl (D : va_G) (A : Nat → Prop) (post : Int64 → List Nat → (Nat → va_E) → Prop) : Array Value → State → Outcome → State → Prop := va_Ql (fun (r : Int64) (u : List Nat × (Nat → va_E)) => post r u.1 u.2) (wB D A) A
def wQv (D : va_G) (A : Nat → Prop) (post : List Nat → (Nat → va_E) → Prop) : Array Value → State → Outcome → State → Prop := va_Qv (fun (u : List Nat × (Nat → va_E)) => post u.1 u.2) (wB D A) A
def wQq (D : va_G) (A : Nat → Prop) (post : Option Nat → List Nat → (Nat → va_E) → Prop) : Array Value → State → Outcome → State → Prop := va_Qq (fun (r : Option Nat) (u : List Nat × (Nat → va_E)) => post r u.1 u.2) (wB D A) A
def wM (l : Launch) (D : va_G) (cI cP cS cL : ClassId) (y : MethodName) (ws : List Cond) (rm : Room) (av : List Value) (L : List Nat) (F : Nat → va_E) (Q : (Nat → Prop) → Array Value → State → Outcome → State → Prop) (mc ms : Nat) : Prop :=
  ∀ sz, Met l y ws rm (wPc D cI cP cS cL av sz L F) (Q (va_A (va_pl L F) sz)) mc ms (va_A (va_pl L F) sz)
/-- int, long, void, reference -/
abbrev wMi (l : Launch) (D : va_G) (cI cP cS cL : ClassId) (y : MethodName) (ws : List Cond) (rm : Room) (av : List Value) (L : List Nat) (F : Nat → va_E) (post : Int32 → List Nat → (Nat → va_E) → Prop) (mc ms : Nat) : Prop := wM l D cI cP cS cL y ws rm av L F (fun A => wQi D A post) mc ms
abbrev wMl (l : Launch) (D : va_G) (cI cP cS cL : ClassId) (y : MethodName) (ws : List Cond) (rm : Room) (av : List Value) (L : List Nat) (F : Nat → va_E) (post : Int64 → List Nat → (Nat → va_E) → Prop) (mc ms : Nat) : Prop := wM l D cI cP cS cL y ws rm av L F (fun A => wQl D A post) mc ms
abbrev wMv (l : Launch) (D : va_G) (cI cP cS cL : ClassId) (y : MethodName) (ws : List Cond) (rm : Room) (av : List Value) (L : List Nat) (F : Nat → va_E) (post : List Nat → (Nat → va_E) → Prop) (mc ms : Nat) : Prop := wM l D cI cP cS cL y ws rm av L F (fun A => wQv D A post) mc ms
abbrev wMq (l : Launch) (D : va_G) (cI cP cS cL : ClassId) (y : MethodName) (ws : List Cond) (rm : Room) (av : List Value) (L : List Nat) (F : Nat → va_E) (post : Option Nat → List Nat → (Nat → va_E) → Prop) (mc ms : Nat) : Prop := wM l D cI cP cS cL y ws rm av L F (fun A => wQq D A post) mc ms
/-- the answer and the map behind it, told; nothing is made -/
abbrev wMI (l : Launch) (D : va_G) (cI cP cS cL : ClassId) (y : MethodName) (ws : List Cond) (rm : Room) (av : List Value) (L : List Nat) (F : Nat → va_E) (r : Int32) (F2 : Nat → va_E) : Prop := wMi l D cI cP cS cL y ws rm av L F (fun r1 L1 F1 => r1 = r ∧ L1 = L ∧ F1 = F2) 0 0
abbrev wML (l : Launch) (D : va_G) (cI cP cS cL : ClassId) (y : MethodName) (ws : List Cond) (rm : Room) (av : List Value) (L : List Nat) (F : Nat → va_E) (r : Int64) (F2 : Nat → va_E) : Prop := wMl l D cI cP cS cL y ws rm av L F (fun r1 L1 F1 => r1 = r ∧ L1 = L ∧ F1 = F2) 0 0
abbrev wMV (l : Launch) (D : va_G) (cI cP cS cL : ClassId) (y : MethodName) (ws : List Cond) (rm : Room) (av : List Value) (L : List Nat) (F : Nat → va_E) (F2 : Nat → va_E) : Prop := wMv l D cI cP cS cL y ws rm av L F (fun L1 F1 => L1 = L ∧ F1 = F2) 0 0
abbrev wMQ (l : Launch) (D : va_G) (cI cP cS cL : ClassId) (y : MethodName) (ws : List Cond) (rm : Room) (av : List Value) (L : List Nat) (F : Nat → va_E) (r : Option Nat) (F2 : Nat → va_E) : Prop := wMq l D cI cP cS cL y ws rm av L F (fun r1 L1 F1 => r1 = r ∧ L1 = L ∧ F1 = F2) 0 0
/-- what stands through a method's body -/
def wC (p : Program) (s : State) (m : MethodId) (args : Array Value) (meth : Method) (c : Code) (cc : ByteArray) (maxL : Nat) (ret : Option FieldType) (ws : List Cond) (y : MethodName) (D : va_G) (cI cP cS cL : ClassId) (A : Nat → Prop) : Prop :=
  p.tables.exec = Jvm.exec ∧ c.code = cc ∧ meth.sig.returnType = ret ∧ c.maxLocals = maxL ∧ (∀ w ∈ ws, w.before args s = true) ∧ s.vm.findClass y.cls = some m.cls ∧ meth.locks = false ∧ wK D cI cP cS cL s ∧ (∀ q : Nat, s.heap.size ≤ q → A q) ∧ (y.name = meth.name)
theorem wM.of {l : Launch} {D : va_G} {cI cP cS cL : ClassId} {y : MethodName} {ws ws' : List Cond} {rm : Room} {av : List Value} {L : List Nat} {F : Nat → va_E} {Q : (Nat → Prop) → Array Value → State → Outcome → State → Prop} {mc ms : Nat} {cc : ByteArray} {maxL : Nat} {ret : Option FieldType}
    (hy : plainName y.cls = true) (hw : ws = Cond.code y cc maxL ret :: ws') (hlen : (lg_sl av).length ≤ maxL)
    (body : ∀ (p : Program) (e : Env) (s : State) (m : MethodId) (below : List Frame) (meth : Method) (c : Code) (A : Nat → Prop) (ls : Array Slot), wC p s m av.toArray meth c cc maxL ret ws y D cI cP cS cL A → lv_has ls maxL (lv_args 0 av) → ww D A s.heap L F s.heap [] →
      W p l e rm s m av.toArray below meth c s.heap [] 0 0 (MQ below (Q A) av.toArray s mc ms A) (F0 m 0 ls [])) : wM l D cI cP cS cL y ws rm av L F Q mc ms := by
  intro sz
  refine Met.ofW (cc := cc) (maxL := maxL) (ret := ret) hy hw ?_
  intro p e s m args below meth c s₁ B hml hv
  obtain ⟨rfl, hsz, hP, hK, hD0⟩ := hv
  have hown : s.vm.findClass y.cls = some m.cls := findClass_of_methodNamed B.named
  subst hsz
  have hD := hD0.self (sz := s.heap.size)
  have hl := lv_entry av (n := maxL) hlen
  rw [lg_entry_eq]
  generalize (lg_sl av ++ List.replicate (maxL - (lg_sl av).length) Slot.unset).toArray = ls at hl ⊢
  exact body p e s m below meth c (va_A (va_pl L F) s.heap.size) ls ⟨B.exec, B.bytes, B.returns, hml, atoms_spec (ws := ws) B.pre, hown, B.notSynchronized, hK, fun q h => Or.inr h, (name_of_methodNamed B.named B.method).1.symm⟩ hl ⟨hP, hD, va_S.rf⟩
theorem w_hF {D : va_G} {A : Nat → Prop} {H0 H : Heap} {L : List Nat} {F : Nat → va_E} {locs : List Loc} (w : ww D A H0 L F H locs) (hA : ∀ q : Nat, H0.size ≤ q → A q) : ∀ q, va_A (va_pl L F) H.size q → A q := by
  intro q h
  rcases h with ⟨k, e, h⟩ | h
  · exact w.2.1.2 k (q, e) h
  · exact hA q (Nat.le_trans w.2.2.1 h)
section WR
variable {p : Program} {l : Launch} {e : Env} {R : Room} {s : State} {m : MethodId} {args : Array Value} {below : List Frame} {meth : Method} {c : Code} {H : Heap} {locs : List Loc} {cells slots : Nat} {Q : State → Prop}
variable {cc : ByteArray} {pc : Nat} {ls : Array Slot} {rest : List Value} {D : va_G} {A : Nat → Prop} {L : List Nat} {F : Nat → va_E} {H0 : Heap} {cI cP cS cL : ClassId} {a : Nat}
theorem w_iret {post : Int32 → List Nat → (Nat → va_E) → Prop} {mc ms : Nat} (hx : p.tables.exec = Jvm.exec) (hb : c.code = cc) (hr : meth.sig.returnType = some .int) (hlocks : meth.locks = false) (w : ww D A s.heap L F H locs) {r : Int32} (hp : post r L F) (hc : cells ≤ mc) (hs : slots ≤ ms) (hdg : decode cc pc = .ok (.ireturn, 1)) :
    W p l e R s m args below meth c H locs cells slots (MQ below (wQi D A post) args s mc ms A) (F0 m pc ls [.int r]) := by
  refine W.widen hc hs ?_
  exact W.iret hx hb hr (fun t ht hW => ⟨⟨r, (L, F), rfl, hp, by rw [ht]; exact w.1, w.2.1⟩, w.2.2.F ht⟩) w.2.2.2.2 hdg hlocks
theorem w_zret {post : Int32 → List Nat → (Nat → va_E) → Prop} {mc ms : Nat} (hx : p.tables.exec = Jvm.exec) (hb : c.code = cc) (hr : meth.sig.returnType = some .boolean) (hlocks : meth.locks = false) (w : ww D A s.heap L F H locs) {r : Int32} (hn : narrow .boolean (.int r) = .int r) (hp : post r L F) (hc : cells ≤ mc) (hs : slots ≤ ms) (hdg : decode cc pc = .ok (.ireturn, 1)) :
    W p l e R s m args below meth c H locs cells slots (MQ below (wQi D A post) args s mc ms A) (F0 m pc ls [.int r]) := by
  refine W.widen hc hs ?_
  exact W.zret hx hb hr hn (fun t ht hW => ⟨⟨r, (L, F), rfl, hp, by rw [ht]; exact w.1, w.2.1⟩, w.2.2.F ht⟩) w.2.2.2.2 hdg hlocks
theorem w_lret {post : Int64 → List Nat → (Nat → va_E) → Prop} {mc ms : Nat} (hx : p.tables.exec = Jvm.exec) (hb : c.code = cc) (hr : meth.sig.returnType = some .long) (hlocks : meth.locks = false) (w : ww D A s.heap L F H locs) {r : Int64} (hp : post r L F) (hc : cells ≤ mc) (hs : slots ≤ ms) (hdg : decode cc pc = .ok (.lreturn, 1)) :
    W p l e R s m args below meth c H locs cells slots (MQ below (wQl D A post) args s mc ms A) (F0 m pc ls [.long r]) := by
  refine W.widen hc hs ?_
  exact W.lret hx hb hr (fun t ht hW => ⟨⟨r, (L, F), rfl, hp, by rw [ht]; exact w.1, w.2.1⟩, w.2.2.F ht⟩) w.2.2.2.2 hdg hlocks
theorem w_vret {post : List Nat → (Nat → va_E) → Prop} {mc ms : Nat} (hx : p.tables.exec = Jvm.exec) (hb : c.code = cc) (hr : meth.sig.returnType = none) (hlocks : meth.locks = false) (w : ww D A s.heap L F H locs) (hp : post L F) (hc : cells ≤ mc) (hs : slots ≤ ms) (hdg : decode cc pc = .ok (.return_, 1)) :
    W p l e R s m args below meth c H locs cells slots (MQ below (wQv D A post) args s mc ms A) (F0 m pc ls []) := by
  refine W.widen hc hs ?_
  exact W.vret hx hb hr (fun t ht hW => ⟨⟨(L, F), rfl, hp, by rw [ht]; exact w.1, w.2.1⟩, w.2.2.F ht⟩) w.2.2.2.2 hdg hlocks
theorem w_qret {post : Option Nat → List Nat → (Nat → va_E) → Prop} {mc ms : Nat} {C : String} (hx : p.tables.exec = Jvm.exec) (hb : c.code = cc) (hr : meth.sig.returnType = some (.object C)) (hlocks : meth.locks = false) (w : ww D A s.heap L F H locs) {r : Option Nat} {v : Value} (hv : v = va_rf r) (hp : post r L F) (hc : cells ≤ mc) (hs : slots ≤ ms) (hdg : decode cc pc = .ok (.areturn, 1)) :
    W p l e R s m args below meth c H locs cells slots (MQ below (wQq D A post) args s mc ms A) (F0 m pc ls [v]) := by
  subst hv
  refine W.widen hc hs ?_
  exact W.aret hx hb hr (Or.inl ⟨C, rfl⟩) (va_rf_or r) (fun t ht hW => ⟨⟨r, (L, F), rfl, hp, by rw [ht]; exact w.1, w.2.1⟩, w.2.2.F ht⟩) w.2.2.2.2 hdg hlocks
theorem w_get {own C : String} {T : u_T} {N ci index : Nat} {Ts : List Cond} (hx : p.tables.exec = Jvm.exec) (hb : c.code = cc) (hts : ∀ w ∈ Ts, w.before args s = true) (hin : ∀ w ∈ u_ws C T N, w ∈ Ts) (hown : s.vm.findClass own = some m.cls) (hK : wK D cI cP cS cL s) (w : ww D A H0 L F H locs) {fs : List Value} (hi : wi L F a (.inr (ci, fs))) (hc : vwCl[ci]? = some (C, T, N)) (k : Nat) (hk : k < N) (hlink : (Cond.fieldLink own index (T k).1 (T k).2.1 (T k).2.2.1).before args s = true) {v : Value} (hv : fs[k]? = some v) (hdg : decode cc pc = .ok (.getfield index, 3))
    (kk : W p l e R s m args below meth c H locs cells slots Q (F0 m (pc + 3) ls (v :: rest))) : W p l e R s m args below meth c H locs cells slots Q (F0 m pc ls (.ref a :: rest)) := by
  obtain ⟨q0, -, h0⟩ := hi.at
  exact va_get hx hb hts hin hown hK.1 w.1 q0 h0 hc k hk hlink (fun _ h => h) hv hdg kk
theorem w_put {own C : String} {T : u_T} {N ci index : Nat} {Ts : List Cond} (hx : p.tables.exec = Jvm.exec) (hb : c.code = cc) (hts : ∀ w ∈ Ts, w.before args s = true) (hin : ∀ w ∈ u_ws C T N, w ∈ Ts) (ty0 : Nat → FieldType) (hty : ∀ k, k < N → parseFieldDescriptor (T k).2.2.1 = some (ty0 k)) (hnm : ∀ a, a < N → ∀ b, b < N → a ≠ b → (T a).2.1 ≠ (T b).2.1) (hown : s.vm.findClass own = some m.cls) (hK : wK D cI cP cS cL s) (w : ww D A H0 L F H locs) {fs fs2 : List Value} (hi : wi L F a (.inr (ci, fs))) (hc : vwCl[ci]? = some (C, T, N)) (k : Nat) (hk : k < N) (hlink : (Cond.fieldLink own index (T k).1 (T k).2.1 (T k).2.2.1).before args s = true) (hfin : (T k).2.2.2 = false) {v : Value} (hn : narrow (ty0 k) v = v) (hfit : fits (ty0 k) v = true) (hl : k < fs.length) (h2 : fs.set k v = fs2)
    (hdg : decode cc pc = .ok (.putfield index, 3)) (kk : ∀ (H1 : Heap) (locs1 : List Loc), ww D A H0 L (va_up F a (.inr (ci, fs2))) H1 locs1 → wi L (va_up F a (.inr (ci, fs2))) a (.inr (ci, fs2)) → W p l e R s m args below meth c H1 locs1 cells slots Q (F0 m (pc + 3) ls rest)) : W p l e R s m args below meth c H locs cells slots Q (F0 m pc ls (v :: .ref a :: rest)) := by
  obtain ⟨q0, h9, h0⟩ := hi.at
  subst h2
  exact va_put hx hb hts hin ty0 hty hnm hown hK.1 w.1 w.2.1 w.2.2 q0 h0 hc k hk hlink (fun _ h => h) hfin (hty k hk) hn hfit hl hdg (fun H1 locs1 h1 h2 h3 => kk H1 locs1 (ww_set w.2.1 hi.1 h9 h1 h2 h3) hi.self)
theorem w_putF {own C : String} {T : u_T} {N ci index : Nat} {Ts : List Cond} (hx : p.tables.exec = Jvm.exec) (hb : c.code = cc) (hts : ∀ w ∈ Ts, w.before args s = true) (hin : ∀ w ∈ u_ws C T N, w ∈ Ts) (ty0 : Nat → FieldType) (hty : ∀ k, k < N → parseFieldDescriptor (T k).2.2.1 = some (ty0 k)) (hnm : ∀ a, a < N → ∀ b, b < N → a ≠ b → (T a).2.1 ≠ (T b).2.1) (hown : s.vm.findClass own = some m.cls) (hK : wK D cI cP cS cL s) (w : ww D A H0 L F H locs) {fs fs2 : List Value} (hi : wi L F a (.inr (ci, fs))) (hc : vwCl[ci]? = some (C, T, N)) (k : Nat) (hk : k < N) (hlink : (Cond.fieldLink own index (T k).1 (T k).2.1 (T k).2.2.1).before args s = true) (hfin : (T k).2.2.2 = true) (hin2 : meth.name = "<init>") (hdecl : (T k).1 = own) {v : Value} (hn : narrow (ty0 k) v = v) (hfit : fits (ty0 k) v = true) (hl : k < fs.length) (h2 : fs.set k v = fs2)
    (hdg : decode cc pc = .ok (.putfield index, 3)) (kk : ∀ (H1 : Heap) (locs1 : List Loc), ww D A H0 L (va_up F a (.inr (ci, fs2))) H1 locs1 → wi L (va_up F a (.inr (ci, fs2))) a (.inr (ci, fs2)) → W p l e R s m args below meth c H1 locs1 cells slots Q (F0 m (pc + 3) ls rest)) : W p l e R s m args below meth c H locs cells slots Q (F0 m pc ls (v :: .ref a :: rest)) := by
  obtain ⟨q0, h9, h0⟩ := hi.at
  subst h2
  exact va_putF hx hb hts hin ty0 hty hnm hown hK.1 w.1 w.2.1 w.2.2 q0 h0 hc k hk hlink (fun _ h => h) hfin hin2 hdecl (hty k hk) hn hfit hl hdg (fun H1 locs1 h1 h2 h3 => kk H1 locs1 (ww_set w.2.1 hi.1 h9 h1 h2 h3) hi.self)
theorem w_ild (hx : p.tables.exec = Jvm.exec) (hb : c.code = cc) (hK : wK D cI cP cS cL s) (w : ww D A H0 L F H locs) {n : Nat} {f : Nat → Int32} (hi : wi L F a (.inl (cI, n, .inl f))) {i : Int32} {j : Nat} (hin : vp_in i n) (hj : i.toNatClampNeg = j) (hdg : decode cc pc = .ok (.iaload, 1))
    (kk : W p l e R s m args below meth c H locs cells slots Q (F0 m (pc + 1) ls (.int (f j) :: rest))) : W p l e R s m args below meth c H locs cells slots Q (F0 m pc ls (.int i :: .ref a :: rest)) := by
  obtain ⟨q0, -, h0⟩ := hi.at
  subst hj
  exact va_iald hx hb hK.1 w.1 q0 0 h0 rfl hin hdg kk
theorem w_ist (hx : p.tables.exec = Jvm.exec) (hb : c.code = cc) (hK : wK D cI cP cS cL s) (w : ww D A H0 L F H locs) {n : Nat} {f : Nat → Int32} (hi : wi L F a (.inl (cI, n, .inl f))) {i x : Int32} {j : Nat} (hin : vp_in i n) (hj : i.toNatClampNeg = j) (hdg : decode cc pc = .ok (.iastore, 1))
    (kk : ∀ (H1 : Heap) (locs1 : List Loc), ww D A H0 L (va_up F a (.inl (cI, n, .inl (upd f j x)))) H1 locs1 → wi L (va_up F a (.inl (cI, n, .inl (upd f j x)))) a (.inl (cI, n, .inl (upd f j x))) → W p l e R s m args below meth c H1 locs1 cells slots Q (F0 m (pc + 1) ls rest)) : W p l e R s m args below meth c H locs cells slots Q (F0 m pc ls (.int x :: .int i :: .ref a :: rest)) := by
  obtain ⟨q0, h9, h0⟩ := hi.at
  subst hj
  exact va_iast hx hb hK.1 w.1 w.2.1 w.2.2 q0 0 h0 rfl hin hdg (fun H1 locs1 h1 h2 h3 => kk H1 locs1 (ww_set w.2.1 hi.1 h9 h1 h2 h3) hi.self)
theorem w_qldP (hx : p.tables.exec = Jvm.exec) (hb : c.code = cc) (hK : wK D cI cP cS cL s) (w : ww D A H0 L F H locs) {n : Nat} {f : Nat → Option Nat} (hi : wi L F a (.inl (cP, n, .inr (.inr (.inr (.inr f)))))) {i : Int32} (hin : vp_in i n) {v : Value} (hv : va_rf (f i.toNatClampNeg) = v) (hdg : decode cc pc = .ok (.aaload, 1))
    (kk : W p l e R s m args below meth c H locs cells slots Q (F0 m (pc + 1) ls (v :: rest))) : W p l e R s m args below meth c H locs cells slots Q (F0 m pc ls (.int i :: .ref a :: rest)) := by
  obtain ⟨q0, -, h0⟩ := hi.at
  subst hv
  exact va_aldq (C := RX1) hx hb hK.1 w.1 q0 1 h0 rfl hin hdg kk
theorem w_qldS (hx : p.tables.exec = Jvm.exec) (hb : c.code = cc) (hK : wK D cI cP cS cL s) (w : ww D A H0 L F H locs) {n : Nat} {f : Nat → Option Nat} (hi : wi L F a (.inl (cS, n, .inr (.inr (.inr (.inr f)))))) {i : Int32} (hin : vp_in i n) {v : Value} (hv : va_rf (f i.toNatClampNeg) = v) (hdg : decode cc pc = .ok (.aaload, 1))
    (kk : W p l e R s m args below meth c H locs cells slots Q (F0 m (pc + 1) ls (v :: rest))) : W p l e R s m args below meth c H locs cells slots Q (F0 m pc ls (.int i :: .ref a :: rest)) := by
  obtain ⟨q0, -, h0⟩ := hi.at
  subst hv
  exact va_aldq (C := RX4) hx hb hK.1 w.1 q0 2 h0 rfl hin hdg kk
theorem w_len (hx : p.tables.exec = Jvm.exec) (hb : c.code = cc) (hK : wK D cI cP cS cL s) (w : ww D A H0 L F H locs) {cA : ClassId} {x : vp_A} (hi : wi L F a (.inl (cA, x))) (t0 : Nat) {ty : FieldType} (ht : (wT cI cP cS cL)[t0]? = some (cA, ty)) {v : Int32} (hv : Int32.ofNat x.1 = v) (hdg : decode cc pc = .ok (.arraylength, 1))
    (kk : W p l e R s m args below meth c H locs cells slots Q (F0 m (pc + 1) ls (.int v :: rest))) : W p l e R s m args below meth c H locs cells slots Q (F0 m pc ls (.ref a :: rest)) := by
  obtain ⟨q0, -, h0⟩ := hi.at
  exact va_alen hx hb hK.1 w.1 q0 t0 h0 ht hv hdg kk
end WR
section WCALL
variable {p : Program} {l : Launch} {e : Env} {R : Room} {s : State} {m : MethodId} {args : Array Value} {below : List Frame} {meth : Method} {c : Code} {H : Heap} {locs : List Loc} {cells slots : Nat} {Q : State → Prop}
variable {cc : ByteArray} {pc : Nat} {ls : Array Slot} {D : va_G} {A : Nat → Prop} {L : List Nat} {F F2 : Nat → va_E} {cI cP cS cL : ClassId}
variable {y : MethodName} {bytes : ByteArray} {maxL nL mc ms n index : Nat} {ret : Option FieldType} {wsy ws' : List Cond} {rm : Room} {Q0 : (Nat → Prop) → Array Value → State → Outcome → State → Prop} {Ts : List Cond} {own C : String} {b : Nat} {As rest st0 : List Value}
theorem w_pre {av : List Value} (hK : wK D cI cP cS cL s) (w : ww D A s.heap L F H locs) : FrameBlind (wPc D cI cP cS cL av H.size L F) ∧ ∀ U : State, U.heap = H → s.WarmedH U.vm → wPc D cI cP cS cL av H.size L F av.toArray U :=
  ⟨fun a U g mk q => by obtain ⟨q0, q1, qP, qK, qD⟩ := q; exact ⟨q0, q1, qP, qK.call, qD⟩, fun U hU hW => ⟨rfl, by rw [hU], by rw [hU]; exact w.1, hK.warm hW, w.2.1.weaken (fun _ _ _ _ => trivial)⟩⟩
/-- a call's run, told by the callee's contract -/
def w_R (p : Program) (l : Launch) (e : Env) (R : Room) (s : State) (m : MethodId) (args : Array Value) (below : List Frame) (meth : Method) (c : Code) (H : Heap) (locs : List Loc) (cells slots mc ms : Nat) (g : JFrame) (rest : List Value) (Q0 : (Nat → Prop) → Array Value → State → Outcome → State → Prop) (L : List Nat) (F : Nat → va_E) (av : Array Value) : Prop :=
  va_Run p l e R s m args below meth c H locs cells slots mc ms g rest (Q0 (va_A (va_pl L F) H.size) av) (va_A (va_pl L F) H.size)
theorem w_runV (hx : p.tables.exec = Jvm.exec) (hb : c.code = cc) (hml : c.maxLocals = nL) (hts : ∀ w ∈ Ts, w.before args s = true) (hown : s.vm.findClass own = some m.cls) (hK : wK D cI cP cS cL s) (w : ww D A s.heap L F H locs) (hM : wM l D cI cP cS cL y wsy rm (.ref b :: As) L F Q0 mc ms) (hT : GoodIn Ts (wsV own index C y wsy)) (hw : wsy = Cond.code y bytes maxL ret :: ws') (hrc : rm.cells = mc) (hrs : rm.slots = ms) (hd : y.cls = C ∧ y.cls ≠ "java/lang/invoke/MethodHandle" ∧ y.cls ≠ "java/lang/invoke/VarHandle" ∧ (parseMethodDescriptor y.desc).map (fun d => d.parameters.length) = some n) (hR : rm.frames + 1 ≤ R.frames ∧ 8 + (maxL + 11) + rm.locals ≤ R.locals) {ci : Nat} {fs : List Value} {T : u_T} {N : Nat} (hi : wi L F b (.inr (ci, fs))) (hc : vwCl[ci]? = some (C, T, N)) (hn : As.length = n) (hl : ls.size = nL) (hst : st0 = As.reverse ++ .ref b :: rest) (hsum : (rest.map fun v => v.category).sum ≤ 8) (hdg : decode cc pc = .ok (.invokevirtual index, 3)) (hf : cells + mc ≤ R.cells ∧ slots + ms ≤ R.slots) :
    w_R p l e R s m args below meth c H locs cells slots mc ms (F0 m pc ls st0) rest Q0 L F (Value.ref b :: As).toArray := by
  obtain ⟨q0, -, h0⟩ := hi.at
  exact va_runV (As := As) (rest := rest) ⟨hx, hb, hml, hown, hts⟩ (hM H.size) (cwV n hts hT hw hrc hrs hd hR) ⟨(w_pre hK w).1, va_recv hK.1 w.1 hc h0, (w_pre hK w).2⟩ rfl hn hl hst (lv_room hsum) hdg hf
theorem w_runS (hx : p.tables.exec = Jvm.exec) (hb : c.code = cc) (hml : c.maxLocals = nL) (hts : ∀ w ∈ Ts, w.before args s = true) (hown : s.vm.findClass own = some m.cls) (hK : wK D cI cP cS cL s) (w : ww D A s.heap L F H locs) (hM : wM l D cI cP cS cL y wsy rm As L F Q0 mc ms) (hT : GoodIn Ts (va_wsS own index y wsy)) (hw : wsy = Cond.code y bytes maxL ret :: ws') (hrc : rm.cells = mc) (hrs : rm.slots = ms) (hd : y.cls ≠ "java/lang/invoke/MethodHandle" ∧ y.cls ≠ "java/lang/invoke/VarHandle" ∧ (parseMethodDescriptor y.desc).map (fun d => d.parameters.length) = some n) (hR : rm.frames + 1 ≤ R.frames ∧ 8 + (maxL + 11) + rm.locals ≤ R.locals) (hn : As.length = n) (hl : ls.size = nL) (hst : st0 = As.reverse ++ rest) (hsum : (rest.map fun v => v.category).sum ≤ 8) (hdg : decode cc pc = .ok (.invokestatic index, 3)) (hf : cells + mc ≤ R.cells ∧ slots + ms ≤ R.slots) :
    w_R p l e R s m args below meth c H locs cells slots mc ms (F0 m pc ls st0) rest Q0 L F As.toArray :=
  va_runS (As := As) (rest := rest) ⟨hx, hb, hml, hown, hts⟩ (hM H.size) (va_cwS n hts hT hw hrc hrs hd hR) (w_pre hK w) rfl hn hl hst (lv_room hsum) hdg hf
theorem w_runN {host : String} (hx : p.tables.exec = Jvm.exec) (hb : c.code = cc) (hml : c.maxLocals = nL) (hts : ∀ w ∈ Ts, w.before args s = true) (hown : s.vm.findClass own = some m.cls) (hK : wK D cI cP cS cL s) (w : ww D A s.heap L F H locs) (hM : wM l D cI cP cS cL y wsy rm As L F Q0 mc ms) (hT : GoodIn Ts wsy) (hw : wsy = Cond.code y bytes maxL ret :: ws') (hrc : rm.cells = mc) (hrs : rm.slots = ms) (hlk : va_Nw (.methodLinkNest own index y host) s) (hini : (Cond.initialized y.cls) ∈ Ts) (hstt : (Cond.static y) ∈ Ts) (hd : y.cls ≠ "java/lang/invoke/MethodHandle" ∧ y.cls ≠ "java/lang/invoke/VarHandle" ∧ (parseMethodDescriptor y.desc).map (fun d => d.parameters.length) = some n) (hR : rm.frames + 1 ≤ R.frames ∧ 8 + (maxL + 11) + rm.locals ≤ R.locals) (hn : As.length = n) (hl : ls.size = nL) (hst : st0 = As.reverse ++ rest) (hsum : (rest.map fun v => v.category).sum ≤ 8) (hdg : decode cc pc = .ok (.invokestatic index, 3)) (hf : cells + mc ≤ R.cells ∧ slots + ms ≤ R.slots) :
    w_R p l e R s m args below meth c H locs cells slots mc ms (F0 m pc ls st0) rest Q0 L F As.toArray :=
  va_runSN (As := As) (rest := rest) ⟨hx, hb, hml, hown, hts⟩ (hM H.size) ⟨va_cnB n hts hT hw hrc hrs hlk (hts _ hini) hd hR, hts _ hstt, trivial⟩ (w_pre hK w) rfl hn hl hst (lv_room hsum) hdg hf
theorem w_runI (hx : p.tables.exec = Jvm.exec) (hb : c.code = cc) (hml : c.maxLocals = nL) (hts : ∀ w ∈ Ts, w.before args s = true) (hown : s.vm.findClass own = some m.cls) (hK : wK D cI cP cS cL s) (w : ww D A s.heap L F H locs) (hM : wM l D cI cP cS cL y wsy rm (.ref b :: As) L F Q0 mc ms) (hT : GoodIn Ts wsy) (hw : wsy = Cond.code y bytes maxL none :: ws') (hrc : rm.cells = mc) (hrs : rm.slots = ms) (hini : (Cond.initialized y.cls) ∈ Ts) (hlk : (Cond.methodLink own index y) ∈ Ts) (hins : (Cond.instanceMethod y) ∈ Ts) (hyn : y.name = "<init>") (hd : y.cls ≠ "java/lang/invoke/MethodHandle" ∧ y.cls ≠ "java/lang/invoke/VarHandle" ∧ (parseMethodDescriptor y.desc).map (fun d => d.parameters.length) = some n) (hR : rm.frames + 1 ≤ R.frames ∧ 8 + (maxL + 11) + rm.locals ≤ R.locals) (hn : As.length = n) (hl : ls.size = nL) (hst : st0 = As.reverse ++ .ref b :: rest) (hsum : (rest.map fun v => v.category).sum ≤ 8) (hdg : decode cc pc = .ok (.invokespecial index, 3)) (hf : cells + mc ≤ R.cells ∧ slots + ms ≤ R.slots) :
    w_R p l e R s m args below meth c H locs cells slots mc ms (F0 m pc ls st0) rest Q0 L F (Value.ref b :: As).toArray :=
  va_runI (As := As) (rest := rest) ⟨hx, hb, hml, hown, hts⟩ (hM H.size) (cwI n hts hT hw hrc hrs (hts _ hini) (hts _ hlk) (hts _ hins) hyn hd hR) (w_pre hK w) rfl hn hl hst (lv_room hsum) hdg hf
variable {av : Array Value}
theorem w_bk {H1 : Heap} {locs1 : List Loc} {t : State} {u : List Nat × (Nat → va_E)} (w : ww D A s.heap L F H locs) (hA : ∀ q : Nat, s.heap.size ≤ q → A q) (ht : t.heap = H1) (hB : wB D (va_A (va_pl L F) H.size) u t) (hS : va_S A s.heap H1 locs1) : ww D A s.heap u.1 u.2 H1 locs1 :=
  ⟨by rw [← ht]; exact hB.1, hB.2.weaken (fun _ q _ h => w_hF w hA q.1 h), hS⟩
theorem w_fini {post : Int32 → List Nat → (Nat → va_E) → Prop} (hr : w_R p l e R s m args below meth c H locs cells slots mc ms (F0 m pc ls st0) rest (fun A => wQi D A post) L F av) (w : ww D A s.heap L F H locs) (hA : ∀ q : Nat, s.heap.size ≤ q → A q)
    (kk : ∀ (r : Int32) (L2 : List Nat) (F2 : Nat → va_E) (H1 : Heap) (locs1 : List Loc), post r L2 F2 → ww D A s.heap L2 F2 H1 locs1 → W p l e R s m args below meth c H1 locs1 (cells + mc) (slots + ms) Q (F0 m (pc + 3) ls (.int r :: rest))) : W p l e R s m args below meth c H locs cells slots Q (F0 m pc ls st0) :=
  va_calli (show va_Run p l e R s m args below meth c H locs cells slots mc ms (F0 m pc ls st0) rest (wQi D (va_A (va_pl L F) H.size) post av) (va_A (va_pl L F) H.size) from hr) w.2.2 (fun q _ h => w_hF w hA q h) (w_hF w hA) (fun r u t H1 locs1 ht _ hp hB _ _ hS => kk r u.1 u.2 H1 locs1 hp (w_bk w hA ht hB hS))
theorem w_finl {post : Int64 → List Nat → (Nat → va_E) → Prop} (hr : w_R p l e R s m args below meth c H locs cells slots mc ms (F0 m pc ls st0) rest (fun A => wQl D A post) L F av) (w : ww D A s.heap L F H locs) (hA : ∀ q : Nat, s.heap.size ≤ q → A q)
    (kk : ∀ (r : Int64) (L2 : List Nat) (F2 : Nat → va_E) (H1 : Heap) (locs1 : List Loc), post r L2 F2 → ww D A s.heap L2 F2 H1 locs1 → W p l e R s m args below meth c H1 locs1 (cells + mc) (slots + ms) Q (F0 m (pc + 3) ls (.long r :: rest))) : W p l e R s m args below meth c H locs cells slots Q (F0 m pc ls st0) :=
  va_calll (show va_Run p l e R s m args below meth c H locs cells slots mc ms (F0 m pc ls st0) rest (wQl D (va_A (va_pl L F) H.size) post av) (va_A (va_pl L F) H.size) from hr) w.2.2 (fun q _ h => w_hF w hA q h) (w_hF w hA) (fun r u t H1 locs1 ht _ hp hB _ _ hS => kk r u.1 u.2 H1 locs1 hp (w_bk w hA ht hB hS))
theorem w_finv {post : List Nat → (Nat → va_E) → Prop} (hr : w_R p l e R s m args below meth c H locs cells slots mc ms (F0 m pc ls st0) rest (fun A => wQv D A post) L F av) (w : ww D A s.heap L F H locs) (hA : ∀ q : Nat, s.heap.size ≤ q → A q)
    (kk : ∀ (L2 : List Nat) (F2 : Nat → va_E) (H1 : Heap) (locs1 : List Loc), post L2 F2 → ww D A s.heap L2 F2 H1 locs1 → W p l e R s m args below meth c H1 locs1 (cells + mc) (slots + ms) Q (F0 m (pc + 3) ls rest)) : W p l e R s m args below meth c H locs cells slots Q (F0 m pc ls st0) :=
  va_callv (show va_Run p l e R s m args below meth c H locs cells slots mc ms (F0 m pc ls st0) rest (wQv D (va_A (va_pl L F) H.size) post av) (va_A (va_pl L F) H.size) from hr) w.2.2 (fun q _ h => w_hF w hA q h) (w_hF w hA) (fun u t H1 locs1 ht _ hp hB _ _ hS => kk u.1 u.2 H1 locs1 hp (w_bk w hA ht hB hS))
theorem w_finq {post : Option Nat → List Nat → (Nat → va_E) → Prop} (hr : w_R p l e R s m args below meth c H locs cells slots mc ms (F0 m pc ls st0) rest (fun A => wQq D A post) L F av) (w : ww D A s.heap L F H locs) (hA : ∀ q : Nat, s.heap.size ≤ q → A q)
    (kk : ∀ (r : Option Nat) (L2 : List Nat) (F2 : Nat → va_E) (H1 : Heap) (locs1 : List Loc), post r L2 F2 → ww D A s.heap L2 F2 H1 locs1 → W p l e R s m args below meth c H1 locs1 (cells + mc) (slots + ms) Q (F0 m (pc + 3) ls (va_rf r :: rest))) : W p l e R s m args below meth c H locs cells slots Q (F0 m pc ls st0) :=
  va_callq (show va_Run p l e R s m args below meth c H locs cells slots mc ms (F0 m pc ls st0) rest (wQq D (va_A (va_pl L F) H.size) post av) (va_A (va_pl L F) H.size) from hr) w.2.2 (fun q _ h => w_hF w hA q h) (w_hF w hA) (fun r u t H1 locs1 ht _ hp hB _ _ hS => kk r u.1 u.2 H1 locs1 hp (w_bk w hA ht hB hS))
theorem w_finI {r : Int32} (hr : w_R p l e R s m args below meth c H locs cells slots 0 0 (F0 m pc ls st0) rest (fun A => wQi D A (fun r1 L1 F1 => r1 = r ∧ L1 = L ∧ F1 = F2)) L F av) (w : ww D A s.heap L F H locs) (hA : ∀ q : Nat, s.heap.size ≤ q → A q)
    (kk : ∀ (H1 : Heap) (locs1 : List Loc), ww D A s.heap L F2 H1 locs1 → W p l e R s m args below meth c H1 locs1 cells slots Q (F0 m (pc + 3) ls (.int r :: rest))) : W p l e R s m args below meth c H locs cells slots Q (F0 m pc ls st0) :=
  w_fini hr w hA (fun r1 L1 F1 H1 locs1 hp w1 => by obtain ⟨rfl, rfl, rfl⟩ := hp; exact kk H1 locs1 w1)
theorem w_finL {r : Int64} (hr : w_R p l e R s m args below meth c H locs cells slots 0 0 (F0 m pc ls st0) rest (fun A => wQl D A (fun r1 L1 F1 => r1 = r ∧ L1 = L ∧ F1 = F2)) L F av) (w : ww D A s.heap L F H locs) (hA : ∀ q : Nat, s.heap.size ≤ q → A q)
    (kk : ∀ (H1 : Heap) (locs1 : List Loc), ww D A s.heap L F2 H1 locs1 → W p l e R s m args below meth c H1 locs1 cells slots Q (F0 m (pc + 3) ls (.long r :: rest))) : W p l e R s m args below meth c H locs cells slots Q (F0 m pc ls st0) :=
  w_finl hr w hA (fun r1 L1 F1 H1 locs1 hp w1 => by obtain ⟨rfl, rfl, rfl⟩ := hp; exact kk H1 locs1 w1)
theorem w_finV (hr : w_R p l e R s m args below meth c H locs cells slots 0 0 (F0 m pc ls st0) rest (fun A => wQv D A (fun L1 F1 => L1 = L ∧ F1 = F2)) L F av) (w : ww D A s.heap L F H locs) (hA : ∀ q : Nat, s.heap.size ≤ q → A q)
    (kk : ∀ (H1 : Heap) (locs1 : List Loc), ww D A s.heap L F2 H1 locs1 → W p l e R s m args below meth c H1 locs1 cells slots Q (F0 m (pc + 3) ls rest)) : W p l e R s m args below meth c H locs cells slots Q (F0 m pc ls st0) :=
  w_finv hr w hA (fun L1 F1 H1 locs1 hp w1 => by obtain ⟨rfl, rfl⟩ := hp; exact kk H1 locs1 w1)
theorem w_finQ {r : Option Nat} {v : Value} (hv : va_rf r = v) (hr : w_R p l e R s m args below meth c H locs cells slots 0 0 (F0 m pc ls st0) rest (fun A => wQq D A (fun r1 L1 F1 => r1 = r ∧ L1 = L ∧ F1 = F2)) L F av) (w : ww D A s.heap L F H locs) (hA : ∀ q : Nat, s.heap.size ≤ q → A q)
    (kk : ∀ (H1 : Heap) (locs1 : List Loc), ww D A s.heap L F2 H1 locs1 → W p l e R s m args below meth c H1 locs1 cells slots Q (F0 m (pc + 3) ls (v :: rest))) : W p l e R s m args below meth c H locs cells slots Q (F0 m pc ls st0) :=
  w_finq hr w hA (fun r1 L1 F1 H1 locs1 hp w1 => by obtain ⟨rfl, rfl, rfl⟩ := hp; subst hv; exact kk H1 locs1 w1)
end WCALL
/-- contracts that keep the list of addresses; what they leave as it was -/
abbrev wMj (l : Launch) (D : va_G) (cI cP cS cL : ClassId) (y : MethodName) (ws : List Cond) (rm : Room) (av : List Value) (L : List Nat) (F : Nat → va_E) (post : Int32 → (Nat → va_E) → Prop) : Prop := wMi l D cI cP cS cL y ws rm av L F (fun r1 L1 F1 => L1 = L ∧ post r1 F1) 0 0
abbrev wMw (l : Launch) (D : va_G) (cI cP cS cL : ClassId) (y : MethodName) (ws : List Cond) (rm : Room) (av : List Value) (L : List Nat) (F : Nat → va_E) (post : (Nat → va_E) → Prop) : Prop := wMv l D cI cP cS cL y ws rm av L F (fun L1 F1 => L1 = L ∧ post F1) 0 0
def wk (P : Nat → Prop) (F1 F : Nat → va_E) : Prop := ∀ q, P q → F1 q = F q
theorem wk.rf {P : Nat → Prop} {F : Nat → va_E} : wk P F F := fun _ _ => rfl
theorem wk.up {P : Nat → Prop} {F F1 : Nat → va_E} {a : Nat} {e : va_E} (h : wk P F1 F) (hn : ∀ q, P q → q ≠ a) : wk P (va_up F1 a e) F := fun q hq => (va_up_ne F1 e (hn q hq)).trans (h q hq)
theorem wk.call {P P2 : Nat → Prop} {F F1 F2 : Nat → va_E} (h : wk P F1 F) (h2 : wk P2 F2 F1) (hn : ∀ q, P q → P2 q) : wk P F2 F := fun q hq => (h2 q (hn q hq)).trans (h q hq)
theorem wk.upw {L : List Nat} {P : Nat → Prop} {F F1 : Nat → va_E} {a : Nat} {e e2 : va_E} (h : wk P F1 F) (_ : wi L (va_up F1 a e) a e2) (hn : ∀ q, P q → q ≠ a) : wk P (va_up F1 a e) F := h.up hn
theorem wi.upw {L : List Nat} {F : Nat → va_E} {a b : Nat} {e e2 e3 : va_E} (h : wi L F a e) (_ : wi L (va_up F b e2) b e3) (hn : a ≠ b) : wi L (va_up F b e2) a e := h.up hn
theorem wi.keep {L : List Nat} {F F1 : Nat → va_E} {P : Nat → Prop} {a : Nat} {e : va_E} (h : wi L F a e) (hk : wk P F1 F) (hp : P a) : wi L F1 a e := ⟨h.1, (hk a hp).trans h.2⟩
theorem wi.new {L : List Nat} {F F1 : Nat → va_E} {a : Nat} {e e2 : va_E} (h : wi L F a e) (h2 : F1 a = e2) : wi L F1 a e2 := ⟨h.1, h2⟩
section WCALL2
variable {p : Program} {l : Launch} {e : Env} {R : Room} {s : State} {m : MethodId} {args : Array Value} {below : List Frame} {meth : Method} {c : Code} {H : Heap} {locs : List Loc} {cells slots : Nat} {Q : State → Prop}
variable {cc : ByteArray} {pc : Nat} {ls : Array Slot} {D : va_G} {A : Nat → Prop} {L : List Nat} {F : Nat → va_E} {cI cP cS cL : ClassId} {st0 rest : List Value} {av : Array Value}
theorem w_finj {post : Int32 → (Nat → va_E) → Prop} (hr : w_R p l e R s m args below meth c H locs cells slots 0 0 (F0 m pc ls st0) rest (fun A => wQi D A (fun r1 L1 F1 => L1 = L ∧ post r1 F1)) L F av) (w : ww D A s.heap L F H locs) (hA : ∀ q : Nat, s.heap.size ≤ q → A q)
    (kk : ∀ (r : Int32) (F1 : Nat → va_E) (H1 : Heap) (locs1 : List Loc), post r F1 → ww D A s.heap L F1 H1 locs1 → W p l e R s m args below meth c H1 locs1 cells slots Q (F0 m (pc + 3) ls (.int r :: rest))) : W p l e R s m args below meth c H locs cells slots Q (F0 m pc ls st0) :=
  w_fini hr w hA (fun r1 L1 F1 H1 locs1 hp w1 => by obtain ⟨hL, hp⟩ := hp; subst hL; exact kk r1 F1 H1 locs1 hp w1)
theorem w_finw {post : (Nat → va_E) → Prop} (hr : w_R p l e R s m args below meth c H locs cells slots 0 0 (F0 m pc ls st0) rest (fun A => wQv D A (fun L1 F1 => L1 = L ∧ post F1)) L F av) (w : ww D A s.heap L F H locs) (hA : ∀ q : Nat, s.heap.size ≤ q → A q)
    (kk : ∀ (F1 : Nat → va_E) (H1 : Heap) (locs1 : List Loc), post F1 → ww D A s.heap L F1 H1 locs1 → W p l e R s m args below meth c H1 locs1 cells slots Q (F0 m (pc + 3) ls rest)) : W p l e R s m args below meth c H locs cells slots Q (F0 m pc ls st0) :=
  w_finv hr w hA (fun L1 F1 H1 locs1 hp w1 => by obtain ⟨hL, hp⟩ := hp; subst hL; exact kk F1 H1 locs1 hp w1)
theorem w_ts {dflt lo hi : Int} {offs : Array Int} {len : Nat} {x v : Int32} {off : Int} {tgt : Nat} (hx : p.tables.exec = Jvm.exec) (hb : c.code = cc) (hdg : decode cc pc = .ok (.tableswitch dflt lo hi offs, len)) (hv : x = v) (h1 : ¬ v.toInt < lo) (h2 : ¬ hi < v.toInt) (ho : offs[(v.toInt - lo).toNat]? = some off) (ht : (pc : Int) + off = (tgt : Int))
    (k : W p l e R s m args below meth c H locs cells slots Q (F0 m tgt ls rest)) : W p l e R s m args below meth c H locs cells slots Q (F0 m pc ls (.int x :: rest)) := by
  subst hv
  exact lv_tableIn hx hb hdg h1 h2 ho ht k
end WCALL2
theorem w_inc (k : Nat) : nI k + Int32.ofInt 1 = nI (k + 1) := nI_1 k
theorem w_clamp_lt (B : Int32) : B.toNatClampNeg < 2 ^ 31 := by
  have h1 := Int32.toInt_lt B
  have h2 : B.toNatClampNeg = B.toInt.toNat := rfl
  omega
theorem w_lt {B : Int32} {k : Nat} (hk : k ≤ B.toNatClampNeg) (c : ¬ B ≤ nI k) : k < B.toNatClampNeg := by
  have h0 := w_clamp_lt B
  have h2 : B.toNatClampNeg = B.toInt.toNat := rfl
  rw [Int32.le_iff_toInt_le, nI_toInt (by omega)] at c
  omega
theorem w_lt' {B : Int32} {k : Nat} (hk : k ≤ B.toNatClampNeg) (c : nI k < B) : k < B.toNatClampNeg := by
  have h0 := w_clamp_lt B
  have h2 : B.toNatClampNeg = B.toInt.toNat := rfl
  rw [Int32.lt_iff_toInt_lt, nI_toInt (by omega)] at c
  omega
theorem w_le {B : Int32} {k : Nat} (hB : B.toNatClampNeg + 1 < 2 ^ 31) (hk : k ≤ B.toNatClampNeg + 1) (c : ¬ B < nI k) : k < B.toNatClampNeg + 1 := by
  have h2 : B.toNatClampNeg = B.toInt.toNat := rfl
  rw [Int32.lt_iff_toInt_lt, nI_toInt (by omega)] at c
  omega
theorem w_ltk {B : Int32} {k : Nat} (hk : k < 2147483648) (c : ¬ B ≤ nI k) : k < B.toNatClampNeg := by
  have h2 : B.toNatClampNeg = B.toInt.toNat := rfl
  rw [Int32.le_iff_toInt_le, nI_toInt (by omega)] at c
  omega
theorem w_ltk' {B : Int32} {k : Nat} (hk : k < 2147483648) (c : nI k < B) : k < B.toNatClampNeg := by
  have h2 : B.toNatClampNeg = B.toInt.toNat := rfl
  rw [Int32.lt_iff_toInt_lt, nI_toInt (by omega)] at c
  omega
theorem w_lek {B : Int32} {k : Nat} (hk : k < 2147483648) (c : ¬ B < nI k) : k < B.toNatClampNeg + 1 := by
  have h2 : B.toNatClampNeg = B.toInt.toNat := rfl
  rw [Int32.lt_iff_toInt_lt, nI_toInt (by omega)] at c
  omega
theorem w_ne {x v : Int32} {n : Int} (c : ¬ x = v) (h : v.toInt = n) : ¬ x.toInt = n := fun q => c (Int32.toInt_inj.mp (q.trans h.symm))
theorem w_nb {r : Int32} (h : r = 0 ∨ r = 1) : narrow .boolean (.int r) = .int r := by
  rcases h with rfl | rfl <;> rfl
theorem w_in {i z : Int32} {n : Nat} (h0 : 0 ≤ i) (h1 : i < z) (hz : z.toInt ≤ n) : vp_in i n := by
  rw [Int32.le_iff_toInt_le, Int32.toInt_zero] at h0
  rw [Int32.lt_iff_toInt_lt] at h1
  exact vp_in_iff.mpr ⟨h0, by omega⟩
theorem w_inK {z : Int32} {n k : Nat} (hk : k < z.toNatClampNeg) (hz : z.toInt ≤ n) : vp_in (nI k) n := by
  have h0 := w_clamp_lt z
  have h2 : z.toNatClampNeg = z.toInt.toNat := rfl
  refine vp_in_iff.mpr ?_
  rw [nI_toInt (by omega)]
  omega
/-! what lies at an address -/
abbrev eG (up down high prize z rounds people : Int32) (pa cr : Nat) (ls : Int32) : va_E := .inr (0, [.int up, .int down, .int high, .int prize, .int z, .int rounds, .int people, .ref pa, .ref cr, .int ls])
abbrev eP (nu ki st sl : Int32) : va_E := .inr (1, [.int nu, .int ki, .int st, .int sl])
abbrev eD (te : Nat) (pl le fi se th nu : Int32) : va_E := .inr (2, [.ref te, .int pl, .int le, .int fi, .int se, .int th, .int nu])
abbrev eR (el : Nat) (so sz : Int32) : va_E := .inr (3, [.ref el, .int so, .int sz])
abbrev eS (ho : Int32) (ro pe : Nat) : va_E := .inr (4, [.int ho, .ref ro, .ref pe])
abbrev eX (no ke mi : Nat) (im : Int32) (sh co ot : Nat) : va_E := .inr (5, [.ref no, .ref ke, .ref mi, .int im, .ref sh, .ref co, .ref ot])
abbrev eM (ss im re sa ke so si el kd kt : Nat) (hi th po ba en tl : Int32) (nu ca ha : Nat) (hs : Int32) (co : Nat) : va_E := .inr (6, [.ref ss, .ref im, .ref re, .ref sa, .ref ke, .ref so, .ref si, .ref el, .ref kd, .ref kt, .int hi, .int th, .int po, .int ba, .int en, .int tl, .ref nu, .ref ca, .ref ha, .int hs, .ref co])
abbrev eI (cI : ClassId) (n : Nat) (f : Nat → Int32) : va_E := .inl (cI, n, .inl f)
abbrev eQ (cA : ClassId) (n : Nat) (f : Nat → Option Nat) : va_E := .inl (cA, n, .inr (.inr (.inr (.inr f))))
theorem fam_up {L : List Nat} {F : Nat → va_E} {N : Nat} {pr : Nat → Nat} {E E2 : Nat → va_E} {j : Nat} {e2 : va_E} (h : ∀ i, i < N → wi L F (pr i) (E i)) (hj : j < N) (hinj : ∀ i k, i < N → k < N → pr i = pr k → i = k) (h1 : E2 j = e2) (h2 : ∀ i, i ≠ j → E2 i = E i) : ∀ i, i < N → wi L (va_up F (pr j) e2) (pr i) (E2 i) := by
  intro i hi
  by_cases hij : i = j
  · subst hij
    rw [h1]
    exact (h i hi).self
  · rw [h2 i hij]
    exact (h i hi).up (fun q => hij (hinj i j hi hj q))
theorem fam_new {L : List Nat} {F F1 : Nat → va_E} {N : Nat} {pr : Nat → Nat} {E E2 : Nat → va_E} {j : Nat} {e2 : va_E} {P : Nat → Prop} (h : ∀ i, i < N → wi L F (pr i) (E i)) (hj : j < N) (hw : F1 (pr j) = e2) (hk : wk P F1 F) (hP : ∀ i, i < N → i ≠ j → P (pr i)) (h1 : E2 j = e2) (h2 : ∀ i, i ≠ j → E2 i = E i) : ∀ i, i < N → wi L F1 (pr i) (E2 i) := by
  intro i hi
  by_cases hij : i = j
  · subst hij
    rw [h1]
    exact (h i hi).new hw
  · rw [h2 i hij]
    exact (h i hi).keep hk (hP i hi hij)
theorem w_okP {i B : Int32} {n : Nat} (c : ¬ i < 0 ∧ ¬ B ≤ i) (hB : B.toInt ≤ n) : i.toNatClampNeg < n := by
  have h2 : i.toNatClampNeg = i.toInt.toNat := rfl
  obtain ⟨c1, c2⟩ := c
  rw [Int32.lt_iff_toInt_lt, Int32.toInt_zero] at c1
  rw [Int32.le_iff_toInt_le] at c2
  omega
theorem w_not12 {i B : Int32} (c : ¬ i < 0 ∧ ¬ B ≤ i) (hB : B.toInt ≤ 12) : ¬ (12 : Int32) ≤ i := by
  intro q
  have c2 := c.2
  rw [Int32.le_iff_toInt_le] at c2 q
  have h12 : (12 : Int32).toInt = 12 := rfl
  omega
theorem w_incP {i B : Int32} {n : Nat} (c : ¬ i < 0 ∧ ¬ B ≤ i) (hB : B.toInt ≤ n) : vp_in i n := by
  obtain ⟨c1, c2⟩ := c
  rw [Int32.lt_iff_toInt_lt, Int32.toInt_zero] at c1
  rw [Int32.le_iff_toInt_le] at c2
  exact vp_in_iff.mpr ⟨by omega, by omega⟩
theorem w_ltT {B : Int32} (c : B < 12) : B.toNatClampNeg < 12 := by
  have h2 : B.toNatClampNeg = B.toInt.toNat := rfl
  have h12 : (12 : Int32).toInt = 12 := rfl
  rw [Int32.lt_iff_toInt_lt] at c
  omega
theorem w_in2 {B : Int32} (h0 : 0 ≤ B.toInt) (c : B < 12) : vp_in B 12 := by
  have h12 : (12 : Int32).toInt = 12 := rfl
  rw [Int32.lt_iff_toInt_lt] at c
  exact vp_in_iff.mpr ⟨h0, by omega⟩
theorem w_ge1 {n : Int32} (c : 1 ≤ n) : ¬ n = 0 := by
  intro h
  subst h
  exact absurd c (by decide)
/-- a call's answer, by a name -/
def bnd {α β : Type} (a : α) (f : α → β) : β := f a
theorem w_bnd {α β : Type} {x a : α} {f : α → β} (h : x = a) : bnd a f = f x := by rw [h]; rfl
theorem w_acopy {p : Program} {l : Launch} {e : Env} {R : Room} {s : State} {m : MethodId} {args : Array Value} {below : List Frame} {meth : Method} {c : Code} {H : Heap} {locs : List Loc} {cells slots : Nat} {Q : State → Prop} {cc : ByteArray} {pc : Nat} {ls : Array Slot} {rest : List Value} {D : va_G} {A : Nat → Prop} {L : List Nat} {F : Nat → va_E} {H0 : Heap} {cI cP cS cL : ClassId} {a a0 : Nat} {own : String} {index : Nat} (hx : p.tables.exec = Jvm.exec) (hb : c.code = cc) (hml : c.maxLocals = ls.size) (hown : s.vm.findClass own = some m.cls) (hlink : (Cond.methodLink own index arraycopyName).before args s = true) (hnat : (Cond.native arraycopyName).before args s = true) (hstat : (Cond.static arraycopyName).before args s = true) (hini : (Cond.initialized "java/lang/System").before args s = true) (hK : wK D cI cP cS cL s) (w : ww D A H0 L F H locs) {n0 n1 : Nat} {f g : Nat → Int32} (hi0 : wi L F a0 (.inl (cI, n0, .inl f))) (hi : wi L F a (.inl (cI, n1, .inl g))) {sp dp n : Int32} (h1 : ¬ sp < 0) (h2 : ¬ dp < 0) (h3 : ¬ n < 0) (h4 : sp.toNatClampNeg + n.toNatClampNeg ≤ n0) (h5 : dp.toNatClampNeg + n.toNatClampNeg ≤ n1) (hframes : 1 ≤ R.frames) (hlocals : (rest.map fun v => v.category).sum + (nativeFrameWords "java/lang/System" "arraycopy" 5 + 11) ≤ R.locals) (hdg : decode cc pc = .ok (.invokestatic index, 3))
    (kk : ∀ (H1 : Heap) (locs1 : List Loc), ww D A H0 L (va_up F a (.inl (cI, n1, .inl (va_cpy f g sp.toNatClampNeg dp.toNatClampNeg n.toNatClampNeg)))) H1 locs1 → wi L (va_up F a (.inl (cI, n1, .inl (va_cpy f g sp.toNatClampNeg dp.toNatClampNeg n.toNatClampNeg)))) a (.inl (cI, n1, .inl (va_cpy f g sp.toNatClampNeg dp.toNatClampNeg n.toNatClampNeg))) → W p l e R s m args below meth c H1 locs1 cells slots Q (F0 m (pc + 3) ls rest)) : W p l e R s m args below meth c H locs cells slots Q (F0 m pc ls (.int n :: .int dp :: .ref a :: .int sp :: .ref a0 :: rest)) := by
  obtain ⟨q0, -, e0⟩ := hi0.at
  obtain ⟨q1, g9, e1⟩ := hi.at
  exact va_copyi hx hb hml hown hlink hnat hstat hini hK.1 w.1 w.2.1 w.2.2 q0 q1 0 0 e0 e1 rfl rfl rfl h1 h2 h3 h4 h5 (fun _ _ => rfl) hframes hlocals hdg (fun H1 locs1 h1 h2 h3 => kk H1 locs1 (ww_set w.2.1 hi.1 g9 h1 h2 h3) hi.self)
