/-! THROWS: methods that may throw, what stands beside the world for them -/
abbrev xUOE : String := "java/lang/UnsupportedOperationException"
abbrev xIAE : String := "java/lang/IllegalArgumentException"
abbrev xISE : String := "java/lang/IllegalStateException"
abbrev xNM : List String := ["java/lang/RuntimeException", "java/lang/Exception"]
def exn (k : Int32) : String := if k = 1 then xIAE else if k = 2 then xISE else xUOE
def wBad : List Cond := (vx_atS RX1 32 xUOE xNM).filter (fun w => !goodWord w) ++ (vx_atS RX1 39 xIAE xNM).filter (fun w => !goodWord w) ++ (vx_atS RX1 44 xISE xNM).filter (fun w => !goodWord w)
theorem wBad_face : ∀ w ∈ wBad, w.faceAtom = true := by decide +kernel
theorem wBad_tabs : ∀ w ∈ wBad, w.onTables = true := by decide +kernel
theorem wBad_moved {args a2 : Array Value} {u U : State} {w : Cond} (hw : w ∈ wBad) (hvm : u.vm.Alike U.vm) (h : w.before args u = true) : w.before a2 U = true :=
  va_tabs (wBad_tabs w hw) (rfl : (u.setVm U.vm).vm = U.vm) (Cond.faceAtom_setVm hvm w (wBad_face w hw) h)
def wX (A : Nat → Prop) (sa : Nat → Nat) (U : State) (H : Heap) : Prop :=
  (vk_R RX1 30 "a learning one failed" (sa 0) U ∧ vk_R RX1 37 "a mixing one failed" (sa 1) U ∧ vk_R RX1 42 "a person failed" (sa 2) U ∧ vk_R RX5 252 "no such shelf" (sa 3) U ∧ vk_R RX5 259 "no row" (sa 4) U ∧ vk_R RX5 262 "no such place" (sa 5) U) ∧
  (∀ w ∈ wBad, w.before #[] U = true) ∧ (va_Nc xIAE xUOE U ∧ va_Nc xISE xUOE U ∧ va_Nc xISE xIAE U) ∧
  vx_Zq Bundle.tN "UNASSIGNED_STACK" Bundle.steD A U H ∧ vx_Zq Bundle.tN "SUPPRESSED_SENTINEL" Bundle.listD A U H
theorem wX.warm {A : Nat → Prop} {sa : Nat → Nat} {s U : State} {H : Heap} (hW : s.WarmedH U.vm) (h : wX A sa s H) : wX A sa U H := by
  obtain ⟨⟨a1, a2, a3, a4, a5, a6⟩, b, ⟨c1, c2, c3⟩, d, e⟩ := h
  exact ⟨⟨a1.warm hW, a2.warm hW, a3.warm hW, a4.warm hW, a5.warm hW, a6.warm hW⟩, fun w hw => wBad_moved hw hW.alike (b w hw), ⟨c1.moved hW.alike, c2.moved hW.alike, c3.moved hW.alike⟩, d.moved hW.alike, e.moved hW.alike⟩
theorem wX.call {A : Nat → Prop} {sa : Nat → Nat} {U : State} {H : Heap} {a : Array Value} {g : JFrame} {mk : MethodId} (h : wX A sa U H) : wX A sa (U.calling g mk a) H := by
  obtain ⟨⟨a1, a2, a3, a4, a5, a6⟩, b, ⟨c1, c2, c3⟩, d, e⟩ := h
  exact ⟨⟨a1.same rfl, a2.same rfl, a3.same rfl, a4.same rfl, a5.same rfl, a6.same rfl⟩, fun w hw => wBad_moved (u := U) hw (Vm.Alike.refl U.vm) (b w hw), ⟨va_Nc.moved (u := U) (Vm.Alike.refl U.vm) c1, va_Nc.moved (u := U) (Vm.Alike.refl U.vm) c2, va_Nc.moved (u := U) (Vm.Alike.refl U.vm) c3⟩, vx_Zq.moved (u := U) (Vm.Alike.refl U.vm) d, vx_Zq.moved (u := U) (Vm.Alike.refl U.vm) e⟩
theorem wX.kept {A : Nat → Prop} {sa : Nat → Nat} {U : State} {H H1 : Heap} (h : wX A sa U H) (hq : ∀ a : Nat, a < H.size → ¬ A a → H1[a]? = H[a]?) : wX A sa U H1 := ⟨h.1, h.2.1, h.2.2.1, h.2.2.2.1.kept hq, h.2.2.2.2.kept hq⟩
theorem wX.narrow {A B : Nat → Prop} {sa : Nat → Nat} {U : State} {H : Heap} (h : wX A sa U H) (hAB : ∀ q, B q → A q) : wX B sa U H := ⟨h.1, h.2.1, h.2.2.1, h.2.2.2.1.narrow hAB, h.2.2.2.2.narrow hAB⟩
def wPx (D : va_G) (cI cP cS cL : ClassId) (sa : Nat → Nat) (av : List Value) (sz : Nat) (L : List Nat) (F : Nat → va_E) : Array Value → State → Prop := va_Pc av (fun U => U.heap.size = sz ∧ va_P D vwCl (va_pl L F) U.heap ∧ wK D cI cP cS cL U ∧ va_D (fun _ => True) (va_pl L F) ∧ wX (va_A (va_pl L F) sz) sa U U.heap)
def wXC (D : va_G) (A : Nat → Prop) (postX : String → List Nat → (Nat → va_E) → Prop) : String → State → State → Prop := vx_X (fun _ : List Nat × (Nat → va_E) => True) (fun E u t => postX E u.1 u.2 ∧ wB D A u t) A
def wMx (l : Launch) (D : va_G) (cI cP cS cL : ClassId) (sa : Nat → Nat) (y : MethodName) (ws : List Cond) (rm : Room) (av : List Value) (L : List Nat) (F : Nat → va_E) (Q : (Nat → Prop) → Array Value → State → Outcome → State → Prop) (postX : String → List Nat → (Nat → va_E) → Prop) (mc ms : Nat) : Prop :=
  ∀ sz, vx_Met l y ws rm (wPx D cI cP cS cL sa av sz L F) (Q (va_A (va_pl L F) sz)) (wXC D (va_A (va_pl L F) sz) postX) mc ms (va_A (va_pl L F) sz)
theorem wMx.of {l : Launch} {D : va_G} {cI cP cS cL : ClassId} {sa : Nat → Nat} {y : MethodName} {ws ws' : List Cond} {rm : Room} {av : List Value} {L : List Nat} {F : Nat → va_E} {Q : (Nat → Prop) → Array Value → State → Outcome → State → Prop} {postX : String → List Nat → (Nat → va_E) → Prop} {mc ms : Nat} {cc : ByteArray} {maxL : Nat} {ret : Option FieldType}
    (hy : plainName y.cls = true) (hw : ws = Cond.code y cc maxL ret :: ws') (hlen : (lg_sl av).length ≤ maxL)
    (body : ∀ (p : Program) (e : Env) (s : State) (m : MethodId) (below : List Frame) (meth : Method) (c : Code) (A : Nat → Prop) (ls : Array Slot), wC p s m av.toArray meth c cc maxL ret ws y D cI cP cS cL A → (∀ x ∈ c.exceptionTable.toList, False) → wX A sa s s.heap → lv_has ls maxL (lv_args 0 av) → ww D A s.heap L F s.heap [] →
      W p l e rm s m av.toArray below meth c s.heap [] 0 0 (vx_MQ below (Q A) (wXC D A postX) av.toArray s mc ms A) (F0 m 0 ls [])) : wMx l D cI cP cS cL sa y ws rm av L F Q postX mc ms := by
  intro sz
  refine vx_ofW (cc := cc) (maxL := maxL) (ret := ret) hy hw ?_
  intro p e s m args below meth c s₁ B hml htab hv
  obtain ⟨rfl, hsz, hP, hK, hD0, hX⟩ := hv
  have hown : s.vm.findClass y.cls = some m.cls := findClass_of_methodNamed B.named
  subst hsz
  have hD := hD0.self (sz := s.heap.size)
  have hl := lv_entry av (n := maxL) hlen
  rw [lg_entry_eq]
  generalize (lg_sl av ++ List.replicate (maxL - (lg_sl av).length) Slot.unset).toArray = ls at hl ⊢
  exact body p e s m below meth c (va_A (va_pl L F) s.heap.size) ls ⟨B.exec, B.bytes, B.returns, hml, atoms_spec (ws := ws) B.pre, hown, B.notSynchronized, hK, fun q h => Or.inr h, (name_of_methodNamed B.named B.method).1.symm⟩ htab hX hl ⟨hP, hD, va_S.rf⟩
theorem wMx.ofH {l : Launch} {D : va_G} {cI cP cS cL : ClassId} {sa : Nat → Nat} {y : MethodName} {ws ws' : List Cond} {rm : Room} {av : List Value} {L : List Nat} {F : Nat → va_E} {Q : (Nat → Prop) → Array Value → State → Outcome → State → Prop} {postX : String → List Nat → (Nat → va_E) → Prop} {mc ms : Nat} {cc : ByteArray} {maxL : Nat} {ret : Option FieldType} {hh : List (Nat × Nat × Nat × Nat)}
    (hy : plainName y.cls = true) (hw : ws = Cond.codeWith y cc maxL ret hh :: ws') (hlen : (lg_sl av).length ≤ maxL)
    (body : ∀ (p : Program) (e : Env) (s : State) (m : MethodId) (below : List Frame) (meth : Method) (c : Code) (A : Nat → Prop) (ls : Array Slot), wC p s m av.toArray meth c cc maxL ret ws y D cI cP cS cL A → c.exceptionTable.toList = tableOf hh → wX A sa s s.heap → lv_has ls maxL (lv_args 0 av) → ww D A s.heap L F s.heap [] →
      W p l e rm s m av.toArray below meth c s.heap [] 0 0 (vx_MQ below (Q A) (wXC D A postX) av.toArray s mc ms A) (F0 m 0 ls [])) : wMx l D cI cP cS cL sa y ws rm av L F Q postX mc ms := by
  intro sz
  refine vx_ofWH (cc := cc) (maxL := maxL) (ret := ret) hy hw ?_
  intro p e s m args below meth c s₁ B hml hv
  obtain ⟨rfl, hsz, hP, hK, hD0, hX⟩ := hv
  have hown : s.vm.findClass y.cls = some m.cls := findClass_of_methodNamed B.named
  subst hsz
  have hts := atoms_spec (ws := ws) B.pre
  have htab := vx_table (x := y) B (hts _ (by rw [hw]; exact List.mem_cons_self))
  have hD := hD0.self (sz := s.heap.size)
  have hl := lv_entry av (n := maxL) hlen
  rw [lg_entry_eq]
  generalize (lg_sl av ++ List.replicate (maxL - (lg_sl av).length) Slot.unset).toArray = ls at hl ⊢
  exact body p e s m below meth c (va_A (va_pl L F) s.heap.size) ls ⟨B.exec, B.bytes, B.returns, hml, hts, hown, B.notSynchronized, hK, fun q h => Or.inr h, (name_of_methodNamed B.named B.method).1.symm⟩ htab hX hl ⟨hP, hD, va_S.rf⟩
section WX
variable {p : Program} {l : Launch} {e : Env} {R : Room} {s : State} {m : MethodId} {args : Array Value} {below : List Frame} {meth : Method} {c : Code} {H : Heap} {locs : List Loc} {cells slots mc ms : Nat} {Q : State → Prop}
variable {cc bytes : ByteArray} {pc n nL maxL index : Nat} {ls : Array Slot} {D : va_G} {A : Nat → Prop} {L : List Nat} {F : Nat → va_E} {cI cP cS cL : ClassId} {st0 rest As : List Value} {av : Array Value} {sa : Nat → Nat} {y : MethodName} {wsy ws' Ts : List Cond} {rm : Room} {own C : String} {b : Nat} {ret : Option FieldType}
variable {Q0 : (Nat → Prop) → Array Value → State → Outcome → State → Prop} {postX : String → List Nat → (Nat → va_E) → Prop}
theorem wx_pre {av : List Value} (hK : wK D cI cP cS cL s) (w : ww D A s.heap L F H locs) (hA : ∀ q : Nat, s.heap.size ≤ q → A q) (hX : wX A sa s s.heap) : FrameBlind (wPx D cI cP cS cL sa av H.size L F) ∧ ∀ U : State, U.heap = H → s.WarmedH U.vm → wPx D cI cP cS cL sa av H.size L F av.toArray U :=
  ⟨fun a U g mk q => by obtain ⟨q0, q1, qP, qK, qD, qX⟩ := q; exact ⟨q0, q1, qP, qK.call, qD, qX.call⟩, fun U hU hW => ⟨rfl, by rw [hU], by rw [hU]; exact w.1, hK.warm hW, w.2.1.weaken (fun _ _ _ _ => trivial), by rw [hU]; exact ((hX.kept w.2.2.2.1).narrow (w_hF w hA)).warm hW⟩⟩
def wx_R (p : Program) (l : Launch) (e : Env) (R : Room) (s : State) (m : MethodId) (args : Array Value) (below : List Frame) (meth : Method) (c : Code) (H : Heap) (locs : List Loc) (cells slots mc ms : Nat) (g : JFrame) (rest : List Value) (D : va_G) (Q0 : (Nat → Prop) → Array Value → State → Outcome → State → Prop) (postX : String → List Nat → (Nat → va_E) → Prop) (L : List Nat) (F : Nat → va_E) (av : Array Value) : Prop :=
  vx_Run p l e R s m args below meth c H locs cells slots mc ms g rest (Q0 (va_A (va_pl L F) H.size) av) (wXC D (va_A (va_pl L F) H.size) postX) (va_A (va_pl L F) H.size)
theorem wx_runV (hx : p.tables.exec = Jvm.exec) (hb : c.code = cc) (hml : c.maxLocals = nL) (hts : ∀ w ∈ Ts, w.before args s = true) (hown : s.vm.findClass own = some m.cls) (hK : wK D cI cP cS cL s) (w : ww D A s.heap L F H locs) (hA : ∀ q : Nat, s.heap.size ≤ q → A q) (hX : wX A sa s s.heap) (hM : wMx l D cI cP cS cL sa y wsy rm (.ref b :: As) L F Q0 postX mc ms) (hT : GoodIn Ts (wsV own index C y wsy)) (hw : wsy = Cond.code y bytes maxL ret :: ws') (hrc : rm.cells = mc) (hrs : rm.slots = ms) (hd : y.cls = C ∧ y.cls ≠ "java/lang/invoke/MethodHandle" ∧ y.cls ≠ "java/lang/invoke/VarHandle" ∧ (parseMethodDescriptor y.desc).map (fun d => d.parameters.length) = some n) (hR : rm.frames + 1 ≤ R.frames ∧ 8 + (maxL + 11) + rm.locals ≤ R.locals) {ci : Nat} {fs : List Value} {T : u_T} {N : Nat} (hi : wi L F b (.inr (ci, fs))) (hc : vwCl[ci]? = some (C, T, N)) (hn : As.length = n) (hl : ls.size = nL) (hst : st0 = As.reverse ++ .ref b :: rest) (hsum : (rest.map fun v => v.category).sum ≤ 8) (hdg : decode cc pc = .ok (.invokevirtual index, 3)) (hf : cells + mc ≤ R.cells ∧ slots + ms ≤ R.slots) :
    wx_R p l e R s m args below meth c H locs cells slots mc ms (F0 m pc ls st0) rest D Q0 postX L F (Value.ref b :: As).toArray := by
  obtain ⟨q0, -, h0⟩ := hi.at
  exact vx_runV (As := As) (rest := rest) ⟨hx, hb, hml, hown, hts⟩ (hM H.size) (cwV n hts hT hw hrc hrs hd hR) ⟨(wx_pre hK w hA hX).1, va_recv hK.1 w.1 hc h0, (wx_pre hK w hA hX).2⟩ rfl hn hl hst (lv_room hsum) hdg hf
theorem wx_runVH {hh : List (Nat × Nat × Nat × Nat)} (hx : p.tables.exec = Jvm.exec) (hb : c.code = cc) (hml : c.maxLocals = nL) (hts : ∀ w ∈ Ts, w.before args s = true) (hown : s.vm.findClass own = some m.cls) (hK : wK D cI cP cS cL s) (w : ww D A s.heap L F H locs) (hA : ∀ q : Nat, s.heap.size ≤ q → A q) (hX : wX A sa s s.heap) (hM : wMx l D cI cP cS cL sa y wsy rm (.ref b :: As) L F Q0 postX mc ms) (hT : GoodIn Ts (wsV own index C y wsy)) (hw : wsy = Cond.codeWith y bytes maxL ret hh :: ws') (hrc : rm.cells = mc) (hrs : rm.slots = ms) (hd : y.cls = C ∧ y.cls ≠ "java/lang/invoke/MethodHandle" ∧ y.cls ≠ "java/lang/invoke/VarHandle" ∧ (parseMethodDescriptor y.desc).map (fun d => d.parameters.length) = some n) (hR : rm.frames + 1 ≤ R.frames ∧ 8 + (maxL + 11) + rm.locals ≤ R.locals) {ci : Nat} {fs : List Value} {T : u_T} {N : Nat} (hi : wi L F b (.inr (ci, fs))) (hc : vwCl[ci]? = some (C, T, N)) (hn : As.length = n) (hl : ls.size = nL) (hst : st0 = As.reverse ++ .ref b :: rest) (hsum : (rest.map fun v => v.category).sum ≤ 8) (hdg : decode cc pc = .ok (.invokevirtual index, 3)) (hf : cells + mc ≤ R.cells ∧ slots + ms ≤ R.slots) :
    wx_R p l e R s m args below meth c H locs cells slots mc ms (F0 m pc ls st0) rest D Q0 postX L F (Value.ref b :: As).toArray := by
  obtain ⟨q0, -, h0⟩ := hi.at
  exact vx_runVX (As := As) (rest := rest) ⟨hx, hb, hml, hown, hts⟩ (hM H.size) (vx_cwVW n hts hT hw hrc hrs hd hR) ⟨(wx_pre hK w hA hX).1, va_recv hK.1 w.1 hc h0, (wx_pre hK w hA hX).2⟩ rfl hn hl hst (lv_room hsum) hdg hf
theorem wx_runSH {hh : List (Nat × Nat × Nat × Nat)} (hx : p.tables.exec = Jvm.exec) (hb : c.code = cc) (hml : c.maxLocals = nL) (hts : ∀ w ∈ Ts, w.before args s = true) (hown : s.vm.findClass own = some m.cls) (hK : wK D cI cP cS cL s) (w : ww D A s.heap L F H locs) (hA : ∀ q : Nat, s.heap.size ≤ q → A q) (hX : wX A sa s s.heap) (hM : wMx l D cI cP cS cL sa y wsy rm As L F Q0 postX mc ms) (hT : GoodIn Ts (va_wsS own index y wsy)) (hw : wsy = Cond.codeWith y bytes maxL ret hh :: ws') (hrc : rm.cells = mc) (hrs : rm.slots = ms) (hd : y.cls ≠ "java/lang/invoke/MethodHandle" ∧ y.cls ≠ "java/lang/invoke/VarHandle" ∧ (parseMethodDescriptor y.desc).map (fun d => d.parameters.length) = some n) (hR : rm.frames + 1 ≤ R.frames ∧ 8 + (maxL + 11) + rm.locals ≤ R.locals) (hn : As.length = n) (hl : ls.size = nL) (hst : st0 = As.reverse ++ rest) (hsum : (rest.map fun v => v.category).sum ≤ 8) (hdg : decode cc pc = .ok (.invokestatic index, 3)) (hf : cells + mc ≤ R.cells ∧ slots + ms ≤ R.slots) :
    wx_R p l e R s m args below meth c H locs cells slots mc ms (F0 m pc ls st0) rest D Q0 postX L F As.toArray :=
  vx_runSX (As := As) (rest := rest) ⟨hx, hb, hml, hown, hts⟩ (hM H.size) (vx_cwSW n hts hT hw hrc hrs hd hR) (wx_pre hK w hA hX) rfl hn hl hst (lv_room hsum) hdg hf
theorem wx_finv {post : List Nat → (Nat → va_E) → Prop} (hr : wx_R p l e R s m args below meth c H locs cells slots mc ms (F0 m pc ls st0) rest D (fun A => wQv D A post) postX L F av) (w : ww D A s.heap L F H locs) (hA : ∀ q : Nat, s.heap.size ≤ q → A q)
    (kx : ∀ (E : String) (ce : Cell) (q9 : Addr) (L2 : List Nat) (F2 : Nat → va_E) (H1 : Heap) (locs1 : List Loc), postX E L2 F2 → ww D A s.heap L2 F2 H1 locs1 → H1[q9]? = some ce → ce.vm = .none → s.vm.findClass E = some ce.cls → vx_W p l e R s m args below meth c H1 locs1 (cells + mc) (slots + ms) Q (F0 m pc ls rest) q9)
    (kk : ∀ (L2 : List Nat) (F2 : Nat → va_E) (H1 : Heap) (locs1 : List Loc), post L2 F2 → ww D A s.heap L2 F2 H1 locs1 → W p l e R s m args below meth c H1 locs1 (cells + mc) (slots + ms) Q (F0 m (pc + 3) ls rest)) : W p l e R s m args below meth c H locs cells slots Q (F0 m pc ls st0) :=
  vx_callv (show vx_Run p l e R s m args below meth c H locs cells slots mc ms (F0 m pc ls st0) rest (wQv D (va_A (va_pl L F) H.size) post av) (wXC D (va_A (va_pl L F) H.size) postX) (va_A (va_pl L F) H.size) from hr) w.2.2 (fun q _ h => w_hF w hA q h) (w_hF w hA) (fun q _ h => w_hF w hA q h)
    (fun E ce q9 u t H1 locs1 ht _ _ hB _ _ hS h1 h2 h3 => kx E ce q9 u.1 u.2 H1 locs1 hB.1 (w_bk w hA ht hB.2 hS) h1 h2 h3) (fun u t H1 locs1 ht _ hp hB _ _ hS => kk u.1 u.2 H1 locs1 hp (w_bk w hA ht hB hS))
theorem wx_fini {post : Int32 → List Nat → (Nat → va_E) → Prop} (hr : wx_R p l e R s m args below meth c H locs cells slots mc ms (F0 m pc ls st0) rest D (fun A => wQi D A post) postX L F av) (w : ww D A s.heap L F H locs) (hA : ∀ q : Nat, s.heap.size ≤ q → A q)
    (kx : ∀ (E : String) (ce : Cell) (q9 : Addr) (L2 : List Nat) (F2 : Nat → va_E) (H1 : Heap) (locs1 : List Loc), postX E L2 F2 → ww D A s.heap L2 F2 H1 locs1 → H1[q9]? = some ce → ce.vm = .none → s.vm.findClass E = some ce.cls → vx_W p l e R s m args below meth c H1 locs1 (cells + mc) (slots + ms) Q (F0 m pc ls rest) q9)
    (kk : ∀ (r : Int32) (L2 : List Nat) (F2 : Nat → va_E) (H1 : Heap) (locs1 : List Loc), post r L2 F2 → ww D A s.heap L2 F2 H1 locs1 → W p l e R s m args below meth c H1 locs1 (cells + mc) (slots + ms) Q (F0 m (pc + 3) ls (.int r :: rest))) : W p l e R s m args below meth c H locs cells slots Q (F0 m pc ls st0) :=
  vx_calli (show vx_Run p l e R s m args below meth c H locs cells slots mc ms (F0 m pc ls st0) rest (wQi D (va_A (va_pl L F) H.size) post av) (wXC D (va_A (va_pl L F) H.size) postX) (va_A (va_pl L F) H.size) from hr) w.2.2 (fun q _ h => w_hF w hA q h) (w_hF w hA) (fun q _ h => w_hF w hA q h)
    (fun E ce q9 u t H1 locs1 ht _ _ hB _ _ hS h1 h2 h3 => kx E ce q9 u.1 u.2 H1 locs1 hB.1 (w_bk w hA ht hB.2 hS) h1 h2 h3) (fun r u t H1 locs1 ht _ hp hB _ _ hS => kk r u.1 u.2 H1 locs1 hp (w_bk w hA ht hB hS))
theorem wx_finl {post : Int64 → List Nat → (Nat → va_E) → Prop} (hr : wx_R p l e R s m args below meth c H locs cells slots mc ms (F0 m pc ls st0) rest D (fun A => wQl D A post) postX L F av) (w : ww D A s.heap L F H locs) (hA : ∀ q : Nat, s.heap.size ≤ q → A q)
    (kx : ∀ (E : String) (ce : Cell) (q9 : Addr) (L2 : List Nat) (F2 : Nat → va_E) (H1 : Heap) (locs1 : List Loc), postX E L2 F2 → ww D A s.heap L2 F2 H1 locs1 → H1[q9]? = some ce → ce.vm = .none → s.vm.findClass E = some ce.cls → vx_W p l e R s m args below meth c H1 locs1 (cells + mc) (slots + ms) Q (F0 m pc ls rest) q9)
    (kk : ∀ (r : Int64) (L2 : List Nat) (F2 : Nat → va_E) (H1 : Heap) (locs1 : List Loc), post r L2 F2 → ww D A s.heap L2 F2 H1 locs1 → W p l e R s m args below meth c H1 locs1 (cells + mc) (slots + ms) Q (F0 m (pc + 3) ls (.long r :: rest))) : W p l e R s m args below meth c H locs cells slots Q (F0 m pc ls st0) :=
  vx_calll (show vx_Run p l e R s m args below meth c H locs cells slots mc ms (F0 m pc ls st0) rest (wQl D (va_A (va_pl L F) H.size) post av) (wXC D (va_A (va_pl L F) H.size) postX) (va_A (va_pl L F) H.size) from hr) w.2.2 (fun q _ h => w_hF w hA q h) (w_hF w hA) (fun q _ h => w_hF w hA q h)
    (fun E ce q9 u t H1 locs1 ht _ _ hB _ _ hS h1 h2 h3 => kx E ce q9 u.1 u.2 H1 locs1 hB.1 (w_bk w hA ht hB.2 hS) h1 h2 h3) (fun r u t H1 locs1 ht _ hp hB _ _ hS => kk r u.1 u.2 H1 locs1 hp (w_bk w hA ht hB hS))
/-- the world stands in a heap that only grew -/
theorem wx_thrown {E : String} (w : ww D A s.heap L F H locs) (hp : postX E L F) (t : State) (h1 : H.size ≤ t.heap.size) (h2 : ∀ q : Nat, q < H.size → t.heap[q]? = H[q]?) : wXC D A postX E s t :=
  ⟨(L, F), trivial, ⟨hp, w.1.kept (fun k q hk => h2 q.1 (vx_lt w.1 hk)), w.2.1⟩, ⟨Nat.le_trans w.2.2.1 h1, fun q hq hn => (h2 q (Nat.lt_of_lt_of_le hq w.2.2.1)).trans (w.2.2.2.1 q hq hn)⟩⟩
theorem wx_hat {own : String} {ic : Nat} {X : String} (h1 : ∀ w ∈ (vx_atS own ic X xNM).filter goodWord, w ∈ Ts) (h2 : ∀ w ∈ (vx_atS own ic X xNM).filter (fun w => !goodWord w), w ∈ wBad) (hts : ∀ w ∈ Ts, w.before args s = true) (hX : wX A sa s s.heap) : ∀ w ∈ vx_atS own ic X xNM, w.before args s = true :=
  vx_hat (fun w h => hts w (h1 w h)) h2 (fun w hw => va_tabs (wBad_tabs w hw) rfl (hX.2.1 w hw))
end WX
