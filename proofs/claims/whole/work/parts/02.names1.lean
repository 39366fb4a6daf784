/-! ===== BEGIN words of one list among another's, by their places ===== -/
theorem goodIn_r {big : List Cond} (ws : List Cond) (ps : List Nat) (hp : ws = ps.filterMap (fun i => big[i]?)) (h : ws.all goodWord = true) : GoodIn big ws := by
  intro w hw
  have h1 := List.all_eq_true.mp h w hw
  rw [hp] at hw
  obtain ⟨i, -, hi⟩ := List.mem_filterMap.mp hw
  have hm : w ∈ big := by first | exact List.mem_of_getElem? hi | exact List.getElem?_mem hi
  exact ⟨hm, good_of_word h1⟩
theorem goodIn_app {big a b : List Cond} (ha : GoodIn big a) (hb : GoodIn big b) : GoodIn big (a ++ b) := fun w h => (List.mem_append.mp h).elim (ha w) (hb w)
theorem goodIn_ca {big a b : List Cond} {c : Cond} (ha : GoodIn big (c :: a)) (hb : GoodIn big b) : GoodIn big (c :: (a ++ b)) := fun w h => (List.mem_cons.mp h).elim (fun e => ha w (List.mem_cons.mpr (Or.inl e))) (fun h => (List.mem_append.mp h).elim (fun h => ha w (List.mem_cons.mpr (Or.inr h))) (hb w))
theorem goodIn_sub {big ws : List Cond} (hm : ∀ w ∈ ws, w ∈ big) (h : ws.all goodWord = true) : GoodIn big ws := fun w hw => ⟨hm w hw, good_of_word (List.all_eq_true.mp h w hw)⟩
/-! ===== END ===== -/

/-! ===== BEGIN exceptions that leave a method, and their catching by the caller (launches without stack traces) ===== -/
section VXA
/-! The laws vx_back, vx_callV, vx_callS, vx_callSW, vx_throw0, vx_throwS follow proofs of the library, with one case more: JvmDerived/Free/Laws.lean (Back.of_free), Shelf42/LK1.lean (callV, callS), Shelf/KitTraced.lean (throwNew0V, throwNewS). -/
/-- where a method has thrown q: the class by its name, the cell, what was written, the world -/
def vx_T (XC : String → State → State → Prop) (st : State) (q : Addr) (t : State) (mc ms : Nat) (free : Addr → Prop) : Prop :=
  ∃ (E : String) (ce : Cell) (L : List Loc), XC E st t ∧ t.heap[q]? = some ce ∧ ce.vm = .none ∧ st.vm.findClass E = some ce.cls ∧ st.WarmedH t.vm ∧ st.sameButNew ({ t with vm := st.vm } : State) L mc ms ∧ ∀ z ∈ L, free z.base
def vx_Q (Qc : Array Value → State → Outcome → State → Prop) (XC : String → State → State → Prop) (mc ms : Nat) (free : Addr → Prop) : Array Value → State → Outcome → State → Prop := fun a st o t =>
  (Qc a st o t ∧ ∃ L, FrameEnd st o t L mc ms ∧ ∀ q ∈ L, free q.base) ∨ ∃ q, o = .threw q ∧ vx_T XC st q t mc ms free
/-- a callee that returns or throws -/
def vx_Met (l : Launch) (y : MethodName) (ws : List Cond) (rm : Room) (Pc : Array Value → State → Prop) (Qc : Array Value → State → Outcome → State → Prop) (XC : String → State → State → Prop) (mc ms : Nat) (free : Addr → Prop) : Prop :=
  MetFree l y (headSpec ws rm) Pc (fun _ _ _ _ _ => True) (vx_Q Qc XC mc ms free)
def vx_Post (XC : String → State → State → Prop) (mc ms : Nat) (free : Addr → Prop) : Pt → Array Value → Addr → Pt → Prop := fun A a q B =>
  ∃ (g : JFrame) (mk : MethodId) (t : State) (L : List Loc) (E : String) (ce : Cell), B.U.heap = t.heap ∧ B.U.vm = t.vm ∧ XC E (A.U.calling g mk a) t ∧ t.heap[q]? = some ce ∧ ce.vm = .none ∧ A.U.vm.findClass E = some ce.cls ∧ B.locs = A.locs ++ L ∧ (∀ z ∈ L, free z.base) ∧ B.cells = A.cells + mc ∧ B.slots = A.slots + ms
def vx_Back (l : Launch) (R : Room) (p : Program) (e : Env) (below : List Frame) (s : State) (sargs : Array Value) (y : MethodName) (len W9 : Nat)
    (Pre : Pt → Array Value → Prop) (Post : Pt → Array Value → Option Value → Pt → Prop) (PostX : Pt → Array Value → Addr → Pt → Prop) : Prop :=
  ∀ (m : MethodId) (meth : Method) (c : Code) (A : Pt) (g : JFrame) (ig : Instr) (mk : MethodId) (a : Array Value),
    Stand p l e R s m sargs below meth c A.U A.locs A.cells A.slots → g.method = m → g.locals.size = c.maxLocals → decode c.code g.pc = .ok (ig, len) →
    2 * g.monitorRoom + (g.stack.map fun v => v.category).sum ≤ W9 → A.U.methodNamed? y = some mk → Pre A a →
    (∃ (v : Option Value) (B : Pt), Stand p l e R s m sargs below meth c B.U B.locs B.cells B.slots ∧ Post A a v B ∧
      Steps p.tables e below (doInvoke e (A.U.setTop g) [] mk a).1 (B.U.setTop { g with pc := g.pc + len, stack := v.toList ++ g.stack })) ∨
    (∃ (q : Addr) (B : Pt), Stand p l e R s m sargs below meth c B.U B.locs B.cells B.slots ∧ PostX A a q B ∧
      Steps p.tables e below (doInvoke e (A.U.setTop g) [] mk a).1 ((B.U.setTop g).pushFrame (.throwing q)))
section Payer
variable {l : Launch} {R : Room} {p : Program} {e : Env} {below : List Frame} {s : State} {sargs : Array Value} {y : MethodName} {len W9 : Nat}
theorem vx_back {ws : List Cond} {rm : Room} {Pc : Array Value → State → Prop} {Qc : Array Value → State → Outcome → State → Prop} {XC : String → State → State → Prop} {mc ms : Nat} {free : Addr → Prop} {bytes : ByteArray} {maxL : Nat} {ret : Option FieldType}
    (hM : vx_Met l y ws rm Pc Qc XC mc ms free) (hblind : FrameBlind Pc) (hrc : rm.cells = mc) (hrs : rm.slots = ms)
    (hframes : rm.frames + 1 ≤ R.frames) (hlocals : W9 + (maxL + 11) + rm.locals ≤ R.locals)
    (hws : ∀ w ∈ ws, ∀ a' U, s.WarmedH U.vm → w.before a' U = true) (hcode : Cond.code y bytes maxL ret ∈ ws) (hinit : ∀ a' U, s.WarmedH U.vm → (Cond.initialized y.cls).before a' U = true) :
    vx_Back l R p e below s sargs y len W9 (PreOf R mc ms Pc) (PostOf Qc mc ms free) (vx_Post XC mc ms free) := by
  intro m meth c A g ig mk a X hg hsize hdg hW hn hp
  have h1 : (headSpec ws rm).pre.before a A.U = true := atoms_intro fun w hw => hws w hw _ _ X.warmed
  have h2 : (Cond.code y bytes maxL ret).before a A.U = true := hws _ hcode _ _ X.warmed
  have h3 : (Cond.initialized y.cls).before a A.U = true := hinit _ _ X.warmed
  have h4 : A.cells + (headSpec ws rm).room.cells ≤ R.cells := by rw [show (headSpec ws rm).room.cells = mc from hrc]; exact hp.1
  have h5 : A.slots + (headSpec ws rm).room.slots ≤ R.slots := by rw [show (headSpec ws rm).room.slots = ms from hrs]; exact hp.2.1
  have hPc : Pc a (A.U.calling g mk a) := hblind _ _ _ _ hp.2.2
  obtain ⟨U, Ls, c0, s0⟩ := A
  dsimp only [Pt.U, Pt.locs, Pt.cells, Pt.slots] at h1 h2 h3 h4 h5 X hn hPc ⊢
  obtain ⟨methY, cY, hmY, hcY, -, hlY, -, -, -, -⟩ := Cond.code_spec hn h2
  obtain ⟨kY, hkY, -⟩ := className_of_methodNamed hn
  have hinitY : kY.init = .initialized := Cond.initialized_spec (findClass_of_methodNamed hn) hkY h3
  have h : At U g.method c below := by rw [hg]; exact X.here
  have hlocals9 : W9 + (maxL + 11) + (headSpec ws rm).room.locals ≤ R.locals := hlocals
  have happ : (headSpec ws rm).appliesLoose y e.platform (U.calling g mk a) = true :=
    Spec.appliesLoose_calling (g := g) h hdg hn hkY hinitY
      (X.room_calling (g := g) (R' := (headSpec ws rm).room) hsize hmY hcY hframes (by rw [hlY]; omega) h4 h5) h1
  obtain ⟨mid, hmid⟩ := h.above
  have hfr : (U.setTop g).frames = (.java g :: mid) ++ below := by rw [State.frames_setTop' g h.top, hmid]; rfl
  obtain ⟨o, s₂, hsteps, -, hend, hq⟩ := Steps.callFree hM p X.admits X.cas X.clock (acts := []) hfr happ hPc trivial
  have hq' : vx_Q Qc XC mc ms free a (U.calling g mk a) o s₂ := hq
  rw [State.frames_setTop' g h.top] at hend
  obtain ⟨g₀, hg0⟩ := Option.isSome_iff_exists.mp h.top
  obtain ⟨r, hr⟩ := State.topJava?_eq_some.mp hg0
  have hr' : (({ U with heap := s₂.heap, slotsUsed := s₂.slotsUsed } : State).setVm s₂.vm).frames = .java g₀ :: r := hr
  rcases hq' with ⟨hqc, L, hfe, hL⟩ | ⟨q, rfl, E, ce, L, hx, hce, hcv, hcl, hW₂, hsm, hL⟩
  · obtain ⟨⟨v, rfl⟩, hW₂, e2, q2, q3, q4, q5, q6⟩ := id hfe
    have e3 : s₂ = ({ (U.calling g mk a).setFrames s₂.frames with heap := s₂.heap, slotsUsed := s₂.slotsUsed } : State).setVm s₂.vm := by
      have : s₂ = ({ s₂ with vm := (U.calling g mk a).vm } : State).setVm s₂.vm := rfl
      rw [e2] at this
      exact this
    obtain ⟨c₂, i₂, len₂, hc₂, hd₂, hf₂⟩ := hend
    have hW' : U.WarmedH s₂.vm := hW₂
    have hcc : c₂ = c := by
      have h1 : s₂.code? g.method = U.code? g.method := by
        rw [State.code?_eq, State.code?_eq, hW'.alike.method?]
      exact Option.some.inj (hc₂.symm.trans (h1.trans h.code))
    subst hcc
    have hlen : len₂ = len := by rw [hdg] at hd₂; cases hd₂; rfl
    subst hlen
    have hs₂ : s₂ = (({ U with heap := s₂.heap, slotsUsed := s₂.slotsUsed } : State).setVm s₂.vm).setTop { g with pc := g.pc + len₂, stack := v.toList ++ g.stack } := by
      refine e3.trans ?_
      rw [hf₂, State.calling_eq h.top, State.setFrames_setFrames, State.setTop_of_frames _ hr', hr]
      rfl
    have hsame : U.sameButNew ({ U with heap := s₂.heap, slotsUsed := s₂.slotsUsed } : State) L mc ms := by
      refine ⟨?_, q2, q3, q4, q5, q6⟩
      obtain ⟨t, ht, -⟩ := State.frames_cons hr
      show ({ U with heap := s₂.heap, slotsUsed := s₂.slotsUsed } : State) = { U.setFrames U.frames with heap := s₂.heap, slotsUsed := s₂.slotsUsed }
      rw [State.setFrames_self ht]
    subst hg
    refine Or.inl ⟨v, ⟨(({ U with heap := s₂.heap, slotsUsed := s₂.slotsUsed } : State).setVm s₂.vm), Ls ++ L, c0 + mc, s0 + ms⟩,
      ⟨X.admits, X.cas, X.clock, X.frames, X.room, X.hears, X.method, X.code, (X.here.setHeapUsed s₂.heap s₂.slotsUsed).setVm hW'.alike, X.tail, State.WarmedH.trans X.warmed hW', X.limits, X.bytes, X.same.trans (hsame.setVm s.vm)⟩,
      ⟨g, mk, s₂, L, rfl, rfl, hqc, rfl, hL, rfl, rfl⟩, ?_⟩
    show Steps p.tables e below _ ((({ U with heap := s₂.heap, slotsUsed := s₂.slotsUsed } : State).setVm s₂.vm).setTop { g with pc := g.pc + len₂, stack := v.toList ++ g.stack })
    rw [← hs₂]
    exact hsteps
  · obtain ⟨e2, q2, q3, q4, q5, q6⟩ := id hsm
    have e3 : s₂ = ({ (U.calling g mk a).setFrames s₂.frames with heap := s₂.heap, slotsUsed := s₂.slotsUsed } : State).setVm s₂.vm := by
      have : s₂ = ({ s₂ with vm := (U.calling g mk a).vm } : State).setVm s₂.vm := rfl
      rw [e2] at this
      exact this
    have hf₂ : s₂.frames = .throwing q :: .java g :: U.frames.tail := hend
    have hW' : U.WarmedH s₂.vm := hW₂
    have hs₂ : s₂ = ((({ U with heap := s₂.heap, slotsUsed := s₂.slotsUsed } : State).setVm s₂.vm).setTop g).pushFrame (.throwing q) := by
      refine e3.trans ?_
      rw [hf₂, State.calling_eq h.top, State.setFrames_setFrames, State.pushFrame, State.frames_setTop _ hr', State.setTop_of_frames _ hr', State.setFrames_setFrames, hr]
      rfl
    have hsame : U.sameButNew ({ U with heap := s₂.heap, slotsUsed := s₂.slotsUsed } : State) L mc ms := by
      refine ⟨?_, q2, q3, q4, q5, q6⟩
      obtain ⟨t, ht, -⟩ := State.frames_cons hr
      show ({ U with heap := s₂.heap, slotsUsed := s₂.slotsUsed } : State) = { U.setFrames U.frames with heap := s₂.heap, slotsUsed := s₂.slotsUsed }
      rw [State.setFrames_self ht]
    subst hg
    refine Or.inr ⟨q, ⟨(({ U with heap := s₂.heap, slotsUsed := s₂.slotsUsed } : State).setVm s₂.vm), Ls ++ L, c0 + mc, s0 + ms⟩,
      ⟨X.admits, X.cas, X.clock, X.frames, X.room, X.hears, X.method, X.code, (X.here.setHeapUsed s₂.heap s₂.slotsUsed).setVm hW'.alike, X.tail, State.WarmedH.trans X.warmed hW', X.limits, X.bytes, X.same.trans (hsame.setVm s.vm)⟩,
      ⟨g, mk, s₂, L, E, ce, rfl, rfl, hx, hce, hcv, hcl, rfl, hL, rfl, rfl⟩, ?_⟩
    show Steps p.tables e below _ (((({ U with heap := s₂.heap, slotsUsed := s₂.slotsUsed } : State).setVm s₂.vm).setTop g).pushFrame (.throwing q))
    rw [← hs₂]
    exact hsteps
end Payer
section Calls
variable {p : Program} {l : Launch} {e : Env} {R : Room} {s : State} {m : MethodId} {args : Array Value} {below : List Frame} {meth : Method} {c : Code} {T : State} {locs : List Loc} {cells slots : Nat}
theorem vx_callV (X : Stand p l e R s m args below meth c T locs cells slots) (hexec : p.tables.exec = Jvm.exec) {own C : String} {index : Nat} {y : MethodName} {bytes : ByteArray} {maxL : Nat} {ret : Option FieldType}
    (hown : s.vm.findClass own = some m.cls) (hlink : (Cond.methodLink own index y).before args s = true) (hinst : (Cond.instanceMethod y).before args s = true) (hsel : (Cond.selects C y y).before args s = true)
    (hcode : (Cond.code y bytes maxL ret).before args s = true) (hy : y.cls ≠ "java/lang/invoke/MethodHandle" ∧ y.cls ≠ "java/lang/invoke/VarHandle")
    {W9 : Nat} {Pre : Pt → Array Value → Prop} {Post : Pt → Array Value → Option Value → Pt → Prop} {PostX : Pt → Array Value → Addr → Pt → Prop} (hK : vx_Back l R p e below s args y 3 W9 Pre Post PostX)
    {b : Addr} {cellB : Cell} (hcell : T.heap[b]? = some cellB) (hobj : cellB.vm.isStatics = false) (hcls : s.vm.findClass C = some cellB.cls)
    {g : JFrame} (hg : g.method = m) (hsize : g.locals.size = c.maxLocals) {argsL rest : List Value} (hlen : ∀ sig, parseMethodDescriptor y.desc = some sig → argsL.length = sig.parameters.length)
    (hstack : g.stack = argsL.reverse ++ .ref b :: rest) (hW : 2 * g.monitorRoom + (rest.map fun v => v.category).sum ≤ W9) (hdg : decode c.code g.pc = .ok (.invokevirtual index, 3))
    (hpre : ∀ vm₁, s.WarmedH vm₁ → Pre ⟨T.setVm vm₁, locs, cells, slots⟩ (Value.ref b :: argsL).toArray) :
    (∃ (v : Option Value) (vm₁ : Vm) (B : Pt), s.WarmedH vm₁ ∧ Stand p l e R s m args below meth c B.U B.locs B.cells B.slots ∧ Post ⟨T.setVm vm₁, locs, cells, slots⟩ (Value.ref b :: argsL).toArray v B ∧
      ∀ target, Steps p.tables e below (B.U.setTop { g with pc := g.pc + 3, stack := v.toList ++ rest }) target → Steps p.tables e below (T.setTop g) target) ∨
    (∃ (q : Addr) (vm₁ : Vm) (B : Pt), s.WarmedH vm₁ ∧ Stand p l e R s m args below meth c B.U B.locs B.cells B.slots ∧ PostX ⟨T.setVm vm₁, locs, cells, slots⟩ (Value.ref b :: argsL).toArray q B ∧
      Steps p.tables e below (T.setTop g) ((B.U.setTop { g with stack := rest }).pushFrame (.throwing q))) := by
  obtain ⟨mk, methM, hnamed, hmethM, hstM, habM⟩ := Cond.instanceMethod_spec hinst
  obtain ⟨methM', cM, hmethM', -, -, -, -, -, -, hsigM⟩ := Cond.code_spec hnamed hcode
  cases hmethM.symm.trans hmethM'
  obtain ⟨c2, r2, m2, q1, q2, q3, q4, kP, hkP, hkPi⟩ := Cond.selects_spec hsel
  cases hcls.symm.trans q1
  cases (State.methodFound?_of_named hnamed hy).symm.trans q2
  cases hnamed.symm.trans q3
  have hselP : selectMethod e.platform s.vm cellB.cls mk = .method mk := by rw [Launch.admits_selectMethod X.admits]; exact q4
  obtain ⟨vm₁, X₁, hstep₁⟩ := X.invokevirtual hexec hown hlink hnamed hmethM hstM hkP hkPi hy (a := b) (cell := cellB) hcell
    (fun z h => by rw [h] at hobj; cases hobj) hselP hmethM habM hkP hkPi (g := g) hg (argsL := argsL) (rest := rest) (hlen _ hsigM) hstack hdg
  rcases hK m meth c ⟨T.setVm vm₁, locs, cells, slots⟩ { g with stack := rest } (.invokevirtual index) mk (Value.ref b :: argsL).toArray X₁ hg hsize hdg hW (X₁.named hnamed) (hpre vm₁ X₁.warmed) with ⟨v, B, X', hpost, hsteps⟩ | ⟨q, B, X', hpost, hsteps⟩
  · exact Or.inl ⟨v, vm₁, B, X₁.warmed, X', hpost, fun target h => hstep₁ _ fun acts => by rw [doInvoke_state]; exact hsteps.trans h⟩
  · exact Or.inr ⟨q, vm₁, B, X₁.warmed, X', hpost, hstep₁ _ fun acts => by rw [doInvoke_state]; exact hsteps⟩
theorem vx_callS (X : Stand p l e R s m args below meth c T locs cells slots) (hexec : p.tables.exec = Jvm.exec) {own : String} {index : Nat} {y : MethodName} {bytes : ByteArray} {maxL : Nat} {ret : Option FieldType}
    (hown : s.vm.findClass own = some m.cls) (hlink : (Cond.methodLink own index y).before args s = true) (hstat : (Cond.static y).before args s = true) (hinit : (Cond.initialized y.cls).before args s = true)
    (hcode : (Cond.code y bytes maxL ret).before args s = true) (hy : y.cls ≠ "java/lang/invoke/MethodHandle" ∧ y.cls ≠ "java/lang/invoke/VarHandle")
    {W9 : Nat} {Pre : Pt → Array Value → Prop} {Post : Pt → Array Value → Option Value → Pt → Prop} {PostX : Pt → Array Value → Addr → Pt → Prop} (hK : vx_Back l R p e below s args y 3 W9 Pre Post PostX)
    {g : JFrame} (hg : g.method = m) (hsize : g.locals.size = c.maxLocals) {argsL rest : List Value} (hlen : ∀ sig, parseMethodDescriptor y.desc = some sig → argsL.length = sig.parameters.length)
    (hstack : g.stack = argsL.reverse ++ rest) (hW : 2 * g.monitorRoom + (rest.map fun v => v.category).sum ≤ W9) (hdg : decode c.code g.pc = .ok (.invokestatic index, 3))
    (hpre : ∀ vm₁, s.WarmedH vm₁ → Pre ⟨T.setVm vm₁, locs, cells, slots⟩ argsL.toArray) :
    (∃ (v : Option Value) (vm₁ : Vm) (B : Pt), s.WarmedH vm₁ ∧ Stand p l e R s m args below meth c B.U B.locs B.cells B.slots ∧ Post ⟨T.setVm vm₁, locs, cells, slots⟩ argsL.toArray v B ∧
      ∀ target, Steps p.tables e below (B.U.setTop { g with pc := g.pc + 3, stack := v.toList ++ rest }) target → Steps p.tables e below (T.setTop g) target) ∨
    (∃ (q : Addr) (vm₁ : Vm) (B : Pt), s.WarmedH vm₁ ∧ Stand p l e R s m args below meth c B.U B.locs B.cells B.slots ∧ PostX ⟨T.setVm vm₁, locs, cells, slots⟩ argsL.toArray q B ∧
      Steps p.tables e below (T.setTop g) ((B.U.setTop { g with stack := rest }).pushFrame (.throwing q))) := by
  obtain ⟨mk, hnamed⟩ := Cond.code_named hcode
  obtain ⟨methM, cM, hmethM, -, -, -, -, -, -, hsigM⟩ := Cond.code_spec hnamed hcode
  have hstatic : methM.isStatic = true := Cond.static_spec hnamed hmethM hstat
  obtain ⟨kP, hkP, -⟩ := className_of_methodNamed hnamed
  have hinitP : kP.init = .initialized := Cond.initialized_spec (findClass_of_methodNamed hnamed) hkP hinit
  obtain ⟨vm₁, X₁, hstep₁⟩ := X.invokestatic hexec hown hlink hnamed hmethM hstatic hkP hinitP hy (g := g) hg (argsL := argsL) (rest := rest) (hlen _ hsigM) hstack hdg
  rcases hK m meth c ⟨T.setVm vm₁, locs, cells, slots⟩ { g with stack := rest } (.invokestatic index) mk argsL.toArray X₁ hg hsize hdg hW (X₁.named hnamed) (hpre vm₁ X₁.warmed) with ⟨v, B, X', hpost, hsteps⟩ | ⟨q, B, X', hpost, hsteps⟩
  · exact Or.inl ⟨v, vm₁, B, X₁.warmed, X', hpost, fun target h => hstep₁ _ fun acts => by rw [doInvoke_state]; exact hsteps.trans h⟩
  · exact Or.inr ⟨q, vm₁, B, X₁.warmed, X', hpost, hstep₁ _ fun acts => by rw [doInvoke_state]; exact hsteps⟩
end Calls
theorem vx_cls {s : State} {T : State} {vm₁ : Vm} {E : String} {k : ClassId} (hW : s.WarmedH vm₁) (h : (T.setVm vm₁).vm.findClass E = some k) : s.vm.findClass E = some k := by
  have h1 : vm₁.findClass E = some k := h
  rw [hW.alike.findClass] at h1
  exact h1
/-- the method's frame g, with q thrown over it -/
def vx_W (p : Program) (l : Launch) (e : Env) (R : Room) (s : State) (m : MethodId) (args : Array Value) (below : List Frame) (meth : Method) (c : Code) (H : Heap) (locs : List Loc) (cells slots : Nat) (Q : State → Prop) (g : JFrame) (q : Addr) : Prop :=
  ∀ T : State, T.heap = H → Stand p l e R s m args below meth c T locs cells slots → ∃ t, Steps p.tables e below ((T.setTop g).pushFrame (.throwing q)) t ∧ Q t
def vx_Run (p : Program) (l : Launch) (e : Env) (R : Room) (s : State) (m : MethodId) (args : Array Value) (below : List Frame) (meth : Method) (c : Code) (H : Heap) (locs : List Loc) (cells slots mc ms : Nat) (g : JFrame) (rest : List Value) (Qa : State → Outcome → State → Prop) (XC : String → State → State → Prop) (free : Addr → Prop) : Prop :=
  ∀ T : State, T.heap = H → Stand p l e R s m args below meth c T locs cells slots →
    (∃ (v : Option Value) (st₀ t T' : State) (L : List Loc), st₀.heap = H ∧ Stand p l e R s m args below meth c T' (locs ++ L) (cells + mc) (slots + ms) ∧ (∀ q ∈ L, free q.base) ∧ T'.heap = t.heap ∧ T'.vm = t.vm ∧ Qa st₀ (.returned v) t ∧
      Goes p e below T g T' { g with pc := g.pc + 3, stack := v.toList ++ rest }) ∨
    (∃ (q : Addr) (st₀ t T' : State) (L : List Loc) (E : String) (ce : Cell), st₀.heap = H ∧ Stand p l e R s m args below meth c T' (locs ++ L) (cells + mc) (slots + ms) ∧ (∀ z ∈ L, free z.base) ∧ T'.heap = t.heap ∧ T'.vm = t.vm ∧ XC E st₀ t ∧ t.heap[q]? = some ce ∧ ce.vm = .none ∧ s.vm.findClass E = some ce.cls ∧
      Steps p.tables e below (T.setTop g) ((T'.setTop { g with stack := rest }).pushFrame (.throwing q)))
def vx_X {S : Type} (px : S → Prop) (B : String → S → State → Prop) (A : Nat → Prop) : String → State → State → Prop := fun E st t => ∃ u : S, px u ∧ B E u t ∧ va_F A st t
section Runs
variable {p : Program} {l : Launch} {e : Env} {R : Room} {s : State} {m : MethodId} {args : Array Value} {below : List Frame} {meth : Method} {c : Code} {H : Heap} {locs : List Loc} {cells slots : Nat}
variable {y : MethodName} {bytes cc : ByteArray} {maxL nL mc ms n index : Nat} {ret : Option FieldType} {ws : List Cond} {rm : Room} {Pc : Array Value → State → Prop} {Qc : Array Value → State → Outcome → State → Prop} {XC : String → State → State → Prop} {free : Addr → Prop} {Ts : List Cond} {own C : String} {b : Addr} {As rest : List Value} {g : JFrame}
theorem vx_callBack (cb : CallB R s args own index y bytes maxL ret ws rm mc ms n) (hM : vx_Met l y ws rm Pc Qc XC mc ms free) (hbl : FrameBlind Pc) : vx_Back l R p e below s args y 3 8 (PreOf R mc ms Pc) (PostOf Qc mc ms free) (vx_Post XC mc ms free) := by
  obtain ⟨hrc, hrs, hfr, hlo, hws, hcw, -, hini, -⟩ := cb
  exact vx_back (bytes := bytes) (maxL := maxL) (ret := ret) hM hbl hrc hrs hfr hlo hws hcw (fun a' U hW => word_at hW (Or.inl (by first | rfl | simp [Cond.onTables, Cond.keeps, Cond.steady])) hini)
theorem vx_runV (S : CallFix p m c cc nL s args Ts own) (hM : vx_Met l y ws rm Pc Qc XC mc ms free) (cw : CallW R s args own C index y bytes maxL ret ws rm mc ms n) (hp : PreV s H C b Pc As)
    (hg : g.method = m) (hn : As.length = n) (hsize : g.locals.size = nL) (hstack : g.stack = As.reverse ++ .ref b :: rest) (hW : 2 * g.monitorRoom + (rest.map fun v => v.category).sum ≤ 8) (hdg : decode cc g.pc = .ok (.invokevirtual index, 3)) (hf : cells + mc ≤ R.cells ∧ slots + ms ≤ R.slots) :
    vx_Run p l e R s m args below meth c H locs cells slots mc ms g rest (Qc (Value.ref b :: As).toArray) XC free := by
  have hK : vx_Back l R p e below s args y 3 8 (PreOf R mc ms Pc) (PostOf Qc mc ms free) (vx_Post XC mc ms free) := vx_callBack cw.1 hM hp.1
  obtain ⟨⟨-, -, -, -, -, -, hcode, -, hy, hlen, hl⟩, hin, hse⟩ := cw
  obtain ⟨hx, hb, hml, ho, -⟩ := S
  obtain ⟨-, ⟨cellB, hcB, hoB, hclB⟩, hPc⟩ := hp
  intro T hT X
  rcases vx_callV X hx (C := C) (bytes := bytes) (maxL := maxL) (ret := ret) ho hl hin hse hcode hy hK (by rw [hT]; exact hcB) hoB hclB hg (hsize.trans hml.symm) (argsL := As) (rest := rest) (fun sig h => hn.trans (hlen sig h)) hstack hW (by rw [hb]; exact hdg)
    (fun vm₁ hW₁ => ⟨hf.1, hf.2, hPc (T.setVm vm₁) hT hW₁⟩) with ⟨v, vm₁, ⟨U', l2, c2, s2⟩, hW₁, X', ⟨g', mk, t, L, e1, e2, hq, h1, hL, h2, h3⟩, st⟩ | ⟨q, vm₁, ⟨U', l2, c2, s2⟩, hW₁, X', ⟨g', mk, t, L, E, ce, e1, e2, hq, hce, hcv, hcl, h1, hL, h2, h3⟩, st⟩
  · dsimp only [Pt.U, Pt.locs, Pt.cells, Pt.slots] at X' e1 e2 h1 h2 h3 st
    subst h1; subst h2; subst h3
    exact Or.inl ⟨v, (T.setVm vm₁).calling g' mk (Value.ref b :: As).toArray, t, U', L, hT, X', hL, e1, e2, hq, st⟩
  · dsimp only [Pt.U, Pt.locs, Pt.cells, Pt.slots] at X' e1 e2 h1 h2 h3 st hcl
    subst h1; subst h2; subst h3
    exact Or.inr ⟨q, (T.setVm vm₁).calling g' mk (Value.ref b :: As).toArray, t, U', L, E, ce, hT, X', hL, e1, e2, hq, hce, hcv, vx_cls hW₁ hcl, st⟩
theorem vx_runS (S : CallFix p m c cc nL s args Ts own) (hM : vx_Met l y ws rm Pc Qc XC mc ms free) (cw : CallB R s args own index y bytes maxL ret ws rm mc ms n ∧ (Cond.static y).before args s = true) (hp : PreS s H Pc As)
    (hg : g.method = m) (hn : As.length = n) (hsize : g.locals.size = nL) (hstack : g.stack = As.reverse ++ rest) (hW : 2 * g.monitorRoom + (rest.map fun v => v.category).sum ≤ 8) (hdg : decode cc g.pc = .ok (.invokestatic index, 3)) (hf : cells + mc ≤ R.cells ∧ slots + ms ≤ R.slots) :
    vx_Run p l e R s m args below meth c H locs cells slots mc ms g rest (Qc As.toArray) XC free := by
  have hK : vx_Back l R p e below s args y 3 8 (PreOf R mc ms Pc) (PostOf Qc mc ms free) (vx_Post XC mc ms free) := vx_callBack cw.1 hM hp.1
  obtain ⟨⟨-, -, -, -, -, -, hcode, hini, hy, hlen, hl⟩, hstt⟩ := cw
  obtain ⟨hx, hb, hml, ho, -⟩ := S
  intro T hT X
  rcases vx_callS X hx (bytes := bytes) (maxL := maxL) (ret := ret) ho hl hstt hini hcode hy hK hg (hsize.trans hml.symm) (argsL := As) (rest := rest) (fun sig h => hn.trans (hlen sig h)) hstack hW (by rw [hb]; exact hdg)
    (fun vm₁ hW₁ => ⟨hf.1, hf.2, hp.2 (T.setVm vm₁) hT hW₁⟩) with ⟨v, vm₁, ⟨U', l2, c2, s2⟩, hW₁, X', ⟨g', mk, t, L, e1, e2, hq, h1, hL, h2, h3⟩, st⟩ | ⟨q, vm₁, ⟨U', l2, c2, s2⟩, hW₁, X', ⟨g', mk, t, L, E, ce, e1, e2, hq, hce, hcv, hcl, h1, hL, h2, h3⟩, st⟩
  · dsimp only [Pt.U, Pt.locs, Pt.cells, Pt.slots] at X' e1 e2 h1 h2 h3 st
    subst h1; subst h2; subst h3
    exact Or.inl ⟨v, (T.setVm vm₁).calling g' mk As.toArray, t, U', L, hT, X', hL, e1, e2, hq, st⟩
  · dsimp only [Pt.U, Pt.locs, Pt.cells, Pt.slots] at X' e1 e2 h1 h2 h3 st hcl
    subst h1; subst h2; subst h3
    exact Or.inr ⟨q, (T.setVm vm₁).calling g' mk As.toArray, t, U', L, E, ce, hT, X', hL, e1, e2, hq, hce, hcv, vx_cls hW₁ hcl, st⟩
end Runs
section Rows
variable {p : Program} {l : Launch} {e : Env} {R : Room} {s : State} {m : MethodId} {args : Array Value} {below : List Frame} {meth : Method} {c : Code} {H : Heap} {locs : List Loc} {cells slots : Nat} {Q : State → Prop}
variable {mc ms : Nat} {free : Addr → Prop} {A0 A1 : Nat → Prop} {H0 : Heap} {a : Array Value} {pc : Nat} {ls : Array Slot} {st0 rest : List Value}
theorem vx_keep {st₀ t T' : State} {L : List Loc} (h0 : st₀.heap = H) (e1 : T'.heap = t.heap) (hS : va_S A0 H0 H locs) (hA : ∀ q, q < H.size → A1 q → A0 q) (hf : ∀ q, free q → A0 q) (hL : ∀ q ∈ L, free q.base) (hF : va_F A1 st₀ t) :
    H.size ≤ T'.heap.size ∧ (∀ q : Nat, q < H.size → ¬ A1 q → T'.heap[q]? = H[q]?) ∧ va_S A0 H0 T'.heap (locs ++ L) := by
  obtain ⟨hz, hk⟩ := hF
  rw [h0] at hz hk
  exact ⟨by rw [e1]; exact hz, fun q h1 h2 => by rw [e1]; exact hk q h1 h2,
    ⟨Nat.le_trans hS.1 (by rw [e1]; exact hz), fun q h1 h2 => by rw [e1, hk q (Nat.lt_of_lt_of_le h1 hS.1) (fun z => h2 (hA q (Nat.lt_of_lt_of_le h1 hS.1) z))]; exact hS.2.1 q h1 h2, fun q hq => by
      rcases List.mem_append.mp hq with h | h
      · exact hS.2.2 q h
      · exact hf _ (hL q h)⟩⟩
theorem vx_calli {S SX : Type} {post : Int32 → S → Prop} {px : SX → Prop} {B : S → State → Prop} {BX : String → SX → State → Prop} {AX : Nat → Prop} (hr : vx_Run p l e R s m args below meth c H locs cells slots mc ms (F0 m pc ls st0) rest (va_Qi post B A1 a) (vx_X px BX AX) free) (hS : va_S A0 H0 H locs) (hA : ∀ q, q < H.size → A1 q → A0 q) (hf : ∀ q, free q → A0 q) (hAX : ∀ q, q < H.size → AX q → A0 q)
    (kx : ∀ (E : String) (ce : Cell) (q9 : Addr) (u : SX) (t : State) (H1 : Heap) (locs1 : List Loc), t.heap = H1 → s.vm.Alike t.vm → px u → BX E u t → H.size ≤ H1.size → (∀ q : Nat, q < H.size → ¬ AX q → H1[q]? = H[q]?) → va_S A0 H0 H1 locs1 → H1[q9]? = some ce → ce.vm = .none → s.vm.findClass E = some ce.cls → vx_W p l e R s m args below meth c H1 locs1 (cells + mc) (slots + ms) Q (F0 m pc ls rest) q9)
    (kk : ∀ (r : Int32) (u : S) (t : State) (H1 : Heap) (locs1 : List Loc), t.heap = H1 → s.vm.Alike t.vm → post r u → B u t → H.size ≤ H1.size → (∀ q : Nat, q < H.size → ¬ A1 q → H1[q]? = H[q]?) → va_S A0 H0 H1 locs1 → W p l e R s m args below meth c H1 locs1 (cells + mc) (slots + ms) Q (F0 m (pc + 3) ls (.int r :: rest))) : W p l e R s m args below meth c H locs cells slots Q (F0 m pc ls st0) := by
  intro T hT X
  rcases hr T hT X with ⟨v, st₀, t, T', L, h0, X', hL, e1, e2, ⟨⟨r, u, hv, hp, hb⟩, hF⟩, st⟩ | ⟨q, st₀, t, T', L, E, ce, h0, X', hL, e1, e2, ⟨u, hp, hb, hF⟩, hce, hcv, hcl, st⟩
  · cases hv
    obtain ⟨k1, k2, k3⟩ := vx_keep h0 e1 hS hA hf hL hF
    obtain ⟨t2, a1, b1⟩ := kk r u t T'.heap (locs ++ L) e1.symm (by rw [← e2]; exact X'.warmed.alike) hp hb k1 k2 k3 T' rfl X'
    exact ⟨t2, st t2 a1, b1⟩
  · obtain ⟨k1, k2, k3⟩ := vx_keep h0 e1 hS hAX hf hL hF
    obtain ⟨t2, a1, b1⟩ := kx E ce q u t T'.heap (locs ++ L) e1.symm (by rw [← e2]; exact X'.warmed.alike) hp hb k1 k2 k3 (by rw [e1]; exact hce) hcv hcl T' rfl X'
    exact ⟨t2, st.trans a1, b1⟩
theorem vx_calll {S SX : Type} {post : Int64 → S → Prop} {px : SX → Prop} {B : S → State → Prop} {BX : String → SX → State → Prop} {AX : Nat → Prop} (hr : vx_Run p l e R s m args below meth c H locs cells slots mc ms (F0 m pc ls st0) rest (va_Ql post B A1 a) (vx_X px BX AX) free) (hS : va_S A0 H0 H locs) (hA : ∀ q, q < H.size → A1 q → A0 q) (hf : ∀ q, free q → A0 q) (hAX : ∀ q, q < H.size → AX q → A0 q)
    (kx : ∀ (E : String) (ce : Cell) (q9 : Addr) (u : SX) (t : State) (H1 : Heap) (locs1 : List Loc), t.heap = H1 → s.vm.Alike t.vm → px u → BX E u t → H.size ≤ H1.size → (∀ q : Nat, q < H.size → ¬ AX q → H1[q]? = H[q]?) → va_S A0 H0 H1 locs1 → H1[q9]? = some ce → ce.vm = .none → s.vm.findClass E = some ce.cls → vx_W p l e R s m args below meth c H1 locs1 (cells + mc) (slots + ms) Q (F0 m pc ls rest) q9)
    (kk : ∀ (r : Int64) (u : S) (t : State) (H1 : Heap) (locs1 : List Loc), t.heap = H1 → s.vm.Alike t.vm → post r u → B u t → H.size ≤ H1.size → (∀ q : Nat, q < H.size → ¬ A1 q → H1[q]? = H[q]?) → va_S A0 H0 H1 locs1 → W p l e R s m args below meth c H1 locs1 (cells + mc) (slots + ms) Q (F0 m (pc + 3) ls (.long r :: rest))) : W p l e R s m args below meth c H locs cells slots Q (F0 m pc ls st0) := by
  intro T hT X
  rcases hr T hT X with ⟨v, st₀, t, T', L, h0, X', hL, e1, e2, ⟨⟨r, u, hv, hp, hb⟩, hF⟩, st⟩ | ⟨q, st₀, t, T', L, E, ce, h0, X', hL, e1, e2, ⟨u, hp, hb, hF⟩, hce, hcv, hcl, st⟩
  · cases hv
    obtain ⟨k1, k2, k3⟩ := vx_keep h0 e1 hS hA hf hL hF
    obtain ⟨t2, a1, b1⟩ := kk r u t T'.heap (locs ++ L) e1.symm (by rw [← e2]; exact X'.warmed.alike) hp hb k1 k2 k3 T' rfl X'
    exact ⟨t2, st t2 a1, b1⟩
  · obtain ⟨k1, k2, k3⟩ := vx_keep h0 e1 hS hAX hf hL hF
    obtain ⟨t2, a1, b1⟩ := kx E ce q u t T'.heap (locs ++ L) e1.symm (by rw [← e2]; exact X'.warmed.alike) hp hb k1 k2 k3 (by rw [e1]; exact hce) hcv hcl T' rfl X'
    exact ⟨t2, st.trans a1, b1⟩
theorem vx_callf {S SX : Type} {post : UInt32 → S → Prop} {px : SX → Prop} {B : S → State → Prop} {BX : String → SX → State → Prop} {AX : Nat → Prop} (hr : vx_Run p l e R s m args below meth c H locs cells slots mc ms (F0 m pc ls st0) rest (va_Qf post B A1 a) (vx_X px BX AX) free) (hS : va_S A0 H0 H locs) (hA : ∀ q, q < H.size → A1 q → A0 q) (hf : ∀ q, free q → A0 q) (hAX : ∀ q, q < H.size → AX q → A0 q)
    (kx : ∀ (E : String) (ce : Cell) (q9 : Addr) (u : SX) (t : State) (H1 : Heap) (locs1 : List Loc), t.heap = H1 → s.vm.Alike t.vm → px u → BX E u t → H.size ≤ H1.size → (∀ q : Nat, q < H.size → ¬ AX q → H1[q]? = H[q]?) → va_S A0 H0 H1 locs1 → H1[q9]? = some ce → ce.vm = .none → s.vm.findClass E = some ce.cls → vx_W p l e R s m args below meth c H1 locs1 (cells + mc) (slots + ms) Q (F0 m pc ls rest) q9)
    (kk : ∀ (r : UInt32) (u : S) (t : State) (H1 : Heap) (locs1 : List Loc), t.heap = H1 → s.vm.Alike t.vm → post r u → B u t → H.size ≤ H1.size → (∀ q : Nat, q < H.size → ¬ A1 q → H1[q]? = H[q]?) → va_S A0 H0 H1 locs1 → W p l e R s m args below meth c H1 locs1 (cells + mc) (slots + ms) Q (F0 m (pc + 3) ls (.float r :: rest))) : W p l e R s m args below meth c H locs cells slots Q (F0 m pc ls st0) := by
  intro T hT X
  rcases hr T hT X with ⟨v, st₀, t, T', L, h0, X', hL, e1, e2, ⟨⟨r, u, hv, hp, hb⟩, hF⟩, st⟩ | ⟨q, st₀, t, T', L, E, ce, h0, X', hL, e1, e2, ⟨u, hp, hb, hF⟩, hce, hcv, hcl, st⟩
  · cases hv
    obtain ⟨k1, k2, k3⟩ := vx_keep h0 e1 hS hA hf hL hF
    obtain ⟨t2, a1, b1⟩ := kk r u t T'.heap (locs ++ L) e1.symm (by rw [← e2]; exact X'.warmed.alike) hp hb k1 k2 k3 T' rfl X'
    exact ⟨t2, st t2 a1, b1⟩
  · obtain ⟨k1, k2, k3⟩ := vx_keep h0 e1 hS hAX hf hL hF
    obtain ⟨t2, a1, b1⟩ := kx E ce q u t T'.heap (locs ++ L) e1.symm (by rw [← e2]; exact X'.warmed.alike) hp hb k1 k2 k3 (by rw [e1]; exact hce) hcv hcl T' rfl X'
    exact ⟨t2, st.trans a1, b1⟩
theorem vx_calld {S SX : Type} {post : UInt64 → S → Prop} {px : SX → Prop} {B : S → State → Prop} {BX : String → SX → State → Prop} {AX : Nat → Prop} (hr : vx_Run p l e R s m args below meth c H locs cells slots mc ms (F0 m pc ls st0) rest (va_Qd post B A1 a) (vx_X px BX AX) free) (hS : va_S A0 H0 H locs) (hA : ∀ q, q < H.size → A1 q → A0 q) (hf : ∀ q, free q → A0 q) (hAX : ∀ q, q < H.size → AX q → A0 q)
    (kx : ∀ (E : String) (ce : Cell) (q9 : Addr) (u : SX) (t : State) (H1 : Heap) (locs1 : List Loc), t.heap = H1 → s.vm.Alike t.vm → px u → BX E u t → H.size ≤ H1.size → (∀ q : Nat, q < H.size → ¬ AX q → H1[q]? = H[q]?) → va_S A0 H0 H1 locs1 → H1[q9]? = some ce → ce.vm = .none → s.vm.findClass E = some ce.cls → vx_W p l e R s m args below meth c H1 locs1 (cells + mc) (slots + ms) Q (F0 m pc ls rest) q9)
    (kk : ∀ (r : UInt64) (u : S) (t : State) (H1 : Heap) (locs1 : List Loc), t.heap = H1 → s.vm.Alike t.vm → post r u → B u t → H.size ≤ H1.size → (∀ q : Nat, q < H.size → ¬ A1 q → H1[q]? = H[q]?) → va_S A0 H0 H1 locs1 → W p l e R s m args below meth c H1 locs1 (cells + mc) (slots + ms) Q (F0 m (pc + 3) ls (.double r :: rest))) : W p l e R s m args below meth c H locs cells slots Q (F0 m pc ls st0) := by
  intro T hT X
  rcases hr T hT X with ⟨v, st₀, t, T', L, h0, X', hL, e1, e2, ⟨⟨r, u, hv, hp, hb⟩, hF⟩, st⟩ | ⟨q, st₀, t, T', L, E, ce, h0, X', hL, e1, e2, ⟨u, hp, hb, hF⟩, hce, hcv, hcl, st⟩
  · cases hv
    obtain ⟨k1, k2, k3⟩ := vx_keep h0 e1 hS hA hf hL hF
    obtain ⟨t2, a1, b1⟩ := kk r u t T'.heap (locs ++ L) e1.symm (by rw [← e2]; exact X'.warmed.alike) hp hb k1 k2 k3 T' rfl X'
    exact ⟨t2, st t2 a1, b1⟩
  · obtain ⟨k1, k2, k3⟩ := vx_keep h0 e1 hS hAX hf hL hF
    obtain ⟨t2, a1, b1⟩ := kx E ce q u t T'.heap (locs ++ L) e1.symm (by rw [← e2]; exact X'.warmed.alike) hp hb k1 k2 k3 (by rw [e1]; exact hce) hcv hcl T' rfl X'
    exact ⟨t2, st.trans a1, b1⟩
theorem vx_callv {S SX : Type} {post : S → Prop} {px : SX → Prop} {B : S → State → Prop} {BX : String → SX → State → Prop} {AX : Nat → Prop} (hr : vx_Run p l e R s m args below meth c H locs cells slots mc ms (F0 m pc ls st0) rest (va_Qv post B A1 a) (vx_X px BX AX) free) (hS : va_S A0 H0 H locs) (hA : ∀ q, q < H.size → A1 q → A0 q) (hf : ∀ q, free q → A0 q) (hAX : ∀ q, q < H.size → AX q → A0 q)
    (kx : ∀ (E : String) (ce : Cell) (q9 : Addr) (u : SX) (t : State) (H1 : Heap) (locs1 : List Loc), t.heap = H1 → s.vm.Alike t.vm → px u → BX E u t → H.size ≤ H1.size → (∀ q : Nat, q < H.size → ¬ AX q → H1[q]? = H[q]?) → va_S A0 H0 H1 locs1 → H1[q9]? = some ce → ce.vm = .none → s.vm.findClass E = some ce.cls → vx_W p l e R s m args below meth c H1 locs1 (cells + mc) (slots + ms) Q (F0 m pc ls rest) q9)
    (kk : ∀ (u : S) (t : State) (H1 : Heap) (locs1 : List Loc), t.heap = H1 → s.vm.Alike t.vm → post u → B u t → H.size ≤ H1.size → (∀ q : Nat, q < H.size → ¬ A1 q → H1[q]? = H[q]?) → va_S A0 H0 H1 locs1 → W p l e R s m args below meth c H1 locs1 (cells + mc) (slots + ms) Q (F0 m (pc + 3) ls (rest))) : W p l e R s m args below meth c H locs cells slots Q (F0 m pc ls st0) := by
  intro T hT X
  rcases hr T hT X with ⟨v, st₀, t, T', L, h0, X', hL, e1, e2, ⟨⟨u, hv, hp, hb⟩, hF⟩, st⟩ | ⟨q, st₀, t, T', L, E, ce, h0, X', hL, e1, e2, ⟨u, hp, hb, hF⟩, hce, hcv, hcl, st⟩
  · cases hv
    obtain ⟨k1, k2, k3⟩ := vx_keep h0 e1 hS hA hf hL hF
    obtain ⟨t2, a1, b1⟩ := kk u t T'.heap (locs ++ L) e1.symm (by rw [← e2]; exact X'.warmed.alike) hp hb k1 k2 k3 T' rfl X'
    exact ⟨t2, st t2 a1, b1⟩
  · obtain ⟨k1, k2, k3⟩ := vx_keep h0 e1 hS hAX hf hL hF
    obtain ⟨t2, a1, b1⟩ := kx E ce q u t T'.heap (locs ++ L) e1.symm (by rw [← e2]; exact X'.warmed.alike) hp hb k1 k2 k3 (by rw [e1]; exact hce) hcv hcl T' rfl X'
    exact ⟨t2, st.trans a1, b1⟩
/-- caught by the row x of this method's table; the rows ahead don't take it -/
theorem vx_catch {own name : String} {E : String} {ce : Cell} {q : Addr} (hown : s.vm.findClass own = some m.cls) (pre : List ExceptionTableEntry) (x : ExceptionTableEntry) (suf : List ExceptionTableEntry) (hsplit : c.exceptionTable.toList = pre ++ x :: suf)
    (hpass : ∀ z ∈ pre, covers z pc = false ∨ (z.catchType ≠ 0 ∧ ∃ nm : String, (Cond.classLink own z.catchType nm).before args s = true ∧ va_Nc E nm s)) (hx : covers x pc = true) (h0 : x.catchType ≠ 0)
    (hlink : (Cond.classLink own x.catchType name).before args s = true) (hcast : (Cond.castable E name).before args s = true) (hcell : H[q]? = some ce) (hv : ce.vm = .none) (hcl : s.vm.findClass E = some ce.cls)
    (kk : W p l e R s m args below meth c H locs cells slots Q (F0 m x.handlerPc ls [.ref q])) : vx_W p l e R s m args below meth c H locs cells slots Q (F0 m pc ls rest) q := by
  intro T hT X
  have hpl : e.platform.magicAccessors = ({} : Platform).magicAccessors := by rw [X.admits.platform]
  obtain ⟨c3, c4, hc3, hc4, hasg⟩ := Cond.castable_spec hcast
  cases Option.some.inj (hc3.symm.trans hcl)
  obtain ⟨c5, hc5, hcl5⟩ := Cond.classLink_spec hown hlink e.platform hpl
  cases Option.some.inj (hc4.symm.trans hc5)
  obtain ⟨vm', X', st⟩ := X.thenCaughtThrough q (g := F0 m pc ls rest) rfl (Steps.refl _) (by rw [hT]; exact hcell) (by rw [hv]; rfl) (by obtain ⟨k9, h9, -⟩ := Vm.findClass_spec hcl; exact ⟨k9, h9⟩) pre x suf hsplit
    (fun z hz => by
      rcases hpass z hz with h | ⟨hz0, nm, hl1, hn1⟩
      · exact Or.inl h
      · obtain ⟨c6, hc6, hcl6⟩ := Cond.classLink_spec hown hl1 e.platform hpl
        obtain ⟨a8, b8, h1, h2, h3⟩ := hn1
        cases Option.some.inj (h1.symm.trans hcl)
        cases Option.some.inj (h2.symm.trans hc6)
        exact Or.inr ⟨hz0, _, hcl6, h3⟩) hx (Or.inr ⟨h0, c4, hcl5, hasg⟩)
  obtain ⟨t, a1, b1⟩ := kk (T.setVm vm') hT X'
  exact ⟨t, st.trans a1, b1⟩
end Rows
section Ends
variable {p : Program} {l : Launch} {e : Env} {R : Room} {s : State} {m : MethodId} {args : Array Value} {below : List Frame} {meth : Method} {c : Code} {H : Heap} {locs : List Loc} {cells slots : Nat} {Q : State → Prop}
variable {mc ms : Nat} {free : Addr → Prop} {A0 A1 : Nat → Prop} {H0 : Heap} {a : Array Value} {ls : Array Slot} {st0 rest : List Value}
variable {Qc : Array Value → State → Outcome → State → Prop} {XC : String → State → State → Prop}
/-- what a body that may throw owes at its end -/
def vx_MQ (below : List Frame) (Qc : Array Value → State → Outcome → State → Prop) (XC : String → State → State → Prop) (a : Array Value) (s : State) (mc ms : Nat) (free : Addr → Prop) : State → Prop := fun t =>
  ∃ o, t.status = .running ∧ Ended t below o ∧ vx_Q Qc XC mc ms free a s o t
theorem vx_ret {g : JFrame} {mc ms : Nat} (k : W p l e R s m args below meth c H locs cells slots (MQ below Qc args s mc ms free) g) : W p l e R s m args below meth c H locs cells slots (vx_MQ below Qc XC args s mc ms free) g := by
  intro T hT X
  obtain ⟨t, a1, o, b1, b2, b3, b4⟩ := k T hT X
  exact ⟨t, a1, o, b1, b2, Or.inl ⟨b3, b4⟩⟩
/-- not caught here: it goes on to the caller -/
theorem vx_widen {g : JFrame} {q : Addr} {k n : Nat} (h1 : cells ≤ k) (h2 : slots ≤ n) (kk : vx_W p l e R s m args below meth c H locs k n Q g q) : vx_W p l e R s m args below meth c H locs cells slots Q g q := fun T hT X => kk T hT (stand_widen X h1 h2)
theorem vx_out {pc : Nat} {E : String} {ce : Cell} {q : Addr} {mc ms : Nat} (hout : ∀ x ∈ c.exceptionTable.toList, covers x pc = false) (hlocks : meth.locks = false) (hcell : H[q]? = some ce) (hv : ce.vm = .none) (hcl : s.vm.findClass E = some ce.cls)
    (hx : ∀ t : State, t.heap = H → s.vm.Alike t.vm → XC E s t) (hf : ∀ z ∈ locs, free z.base) (hc : cells ≤ mc) (hs : slots ≤ ms) :
    vx_W p l e R s m args below meth c H locs cells slots (vx_MQ below Qc XC args s mc ms free) (F0 m pc ls rest) q := by
  intro T hT X
  obtain ⟨st1, hrun, hend, hW, hsm⟩ := X.leaveThrown q (g := F0 m pc ls rest) rfl rfl rfl hout hlocks
  have hcell9 : (T.setFrames (.throwing q :: below)).heap[q]? = some ce := by
    show T.heap[q]? = some ce
    rw [hT]; exact hcell
  exact ⟨_, st1, .threw q, hrun, hend, Or.inr ⟨q, rfl, E, ce, locs, hx _ hT hW.alike, hcell9, hv, hcl, hW, hsm.mono hc hs, hf⟩⟩
theorem vx_frame {U : State} {k n : Nat} (h : s.sameButNew ({ U with vm := s.vm } : State) locs k n) : s.heap.size ≤ U.heap.size ∧ ∀ q : Nat, q < s.heap.size → (∀ z ∈ locs, z.base ≠ q) → U.heap[q]? = s.heap[q]? := by
  obtain ⟨-, h2, -, -, -, h6⟩ := h
  refine ⟨h2, fun q hq hz => ?_⟩
  obtain ⟨c9, e1, e2, e3, e4⟩ := h6 q _ (Array.getElem?_eq_getElem hq)
  have hs : c9.slots = (s.heap[q]).slots := Array.ext_getElem? fun i => e4 i fun hm => hz _ hm rfl
  have h9 : c9 = s.heap[q] := by
    rw [hs] at e2
    exact e2
  have e5 : U.heap[q]? = some c9 := e1
  rw [e5, h9, Array.getElem?_eq_getElem hq]
/-- the words of a throw but the four that speak of the heap -/
def vx_no (w : Cond) : Bool := decide (w ≠ .isRef (.static Bundle.tN "UNASSIGNED_STACK" Bundle.steD)) && decide (w ≠ .isRef (.static Bundle.tN "SUPPRESSED_SENTINEL" Bundle.listD)) && decide (w ≠ .laysStatic Bundle.tN "UNASSIGNED_STACK" Bundle.steD) && decide (w ≠ .laysStatic Bundle.tN "SUPPRESSED_SENTINEL" Bundle.listD)
def vx_at0 (own : String) (ic : Nat) (X : String) (names : List String) : List Cond := (Bundle.ownAtoms0 own ic X names).filter vx_no
def vx_atS (own : String) (ic : Nat) (X : String) (names : List String) : List Cond := (Bundle.ownAtoms own ic X names).filter vx_no
/-- a word that the tables alone decide, or a good one -/
def vx_ot (w : Cond) : Bool := w.onTables || goodWord w
theorem vx_ot_at {args a' : Array Value} {s U : State} {w : Cond} (hW : s.WarmedH U.vm) (hvm : s.vm = U.vm) (hg : vx_ot w = true) (h : w.before args s = true) : w.before a' U = true := by
  simp only [vx_ot, Bool.or_eq_true] at hg
  rcases hg with hg | hg
  · exact va_tabs hg hvm h
  · exact word_at hW (good_of_word hg) h
/-- a list's words: the good ones out of the method's own list, the others by premises of their own -/
theorem vx_hat {args : Array Value} {s : State} {L B : List Cond} (h1 : ∀ w ∈ L.filter goodWord, w.before args s = true) (h2 : ∀ w ∈ L.filter (fun w => !goodWord w), w ∈ B) (h3 : ∀ w ∈ B, w.before args s = true) : ∀ w ∈ L, w.before args s = true := by
  intro w hw
  by_cases g : goodWord w = true
  · exact h1 w (List.mem_filter.mpr ⟨hw, g⟩)
  · refine h3 w (h2 w (List.mem_filter.mpr ⟨hw, ?_⟩))
    show (!goodWord w) = true
    cases hgw : goodWord w
    · rfl
    · exact absurd hgw g
theorem vx_c {args : Array Value} {s : State} {w : Cond} {B : List Cond} (h : w.before args s = true) (t : ∀ w ∈ B, w.before args s = true) : ∀ w' ∈ w :: B, w'.before args s = true := fun w' h' => (List.mem_cons.mp h').elim (fun e => by rw [e]; exact h) (t w')
theorem vx_n {args : Array Value} {s : State} : ∀ w ∈ ([] : List Cond), w.before args s = true := fun _ h => nomatch h
theorem vx_own {args : Array Value} {s : State} {L : List Cond} (h1 : ∀ w ∈ L.filter vx_no, w.before args s = true)
    (hU : (Cond.isRef (.static Bundle.tN "UNASSIGNED_STACK" Bundle.steD)).before args s = true) (hN : (Cond.isRef (.static Bundle.tN "SUPPRESSED_SENTINEL" Bundle.listD)).before args s = true)
    (lU : (Cond.laysStatic Bundle.tN "UNASSIGNED_STACK" Bundle.steD).before args s = true) (lN : (Cond.laysStatic Bundle.tN "SUPPRESSED_SENTINEL" Bundle.listD).before args s = true) : ∀ w ∈ L, w.before args s = true := by
  intro w hw
  by_cases e1 : w = .isRef (.static Bundle.tN "UNASSIGNED_STACK" Bundle.steD)
  · rw [e1]; exact hU
  · by_cases e2 : w = .isRef (.static Bundle.tN "SUPPRESSED_SENTINEL" Bundle.listD)
    · rw [e2]; exact hN
    · by_cases e3 : w = .laysStatic Bundle.tN "UNASSIGNED_STACK" Bundle.steD
      · rw [e3]; exact lU
      · by_cases e4 : w = .laysStatic Bundle.tN "SUPPRESSED_SENTINEL" Bundle.listD
        · rw [e4]; exact lN
        · exact h1 w (List.mem_filter.mpr ⟨hw, by unfold vx_no; rw [decide_eq_true e1, decide_eq_true e2, decide_eq_true e3, decide_eq_true e4]; rfl⟩)
/-- where a static field lies, its class's statics cell in H -/
def vx_L (C n d : String) (A : Nat → Prop) (U : State) (H : Heap) : Prop := ∃ (c : ClassId) (k : Class) (i : Nat) (f : Field) (a : Nat) (cell : Cell), U.vm.findClass C = some c ∧ U.fieldFound? C n d = some (c, k, i, f) ∧ f.isStatic = true ∧ k.statics = some a ∧ H[a]? = some cell ∧ cell.vm.isStatics = true ∧ cell.cls = c ∧ f.slot < cell.slots.size ∧ k.staticTypes[f.slot]? = some f.type ∧ ¬ A a
theorem vx_L.moved {C n d : String} {A : Nat → Prop} {u U : State} {H : Heap} (hvm : u.vm.Alike U.vm) (h : vx_L C n d A u H) : vx_L C n d A U H := by
  obtain ⟨c, k, i, f, a, cell, h1, h2, h3, h4, h5, h6, h7, h8, h9, h10⟩ := h
  obtain ⟨k', hi', he⟩ := State.fieldFound?_setVm hvm h2
  exact ⟨c, k', i, f, a, cell, by rw [hvm.findClass]; exact h1, hi', h3, by rw [he]; exact h4, h5, h6, h7, h8, by rw [he]; exact h9, h10⟩
theorem vx_L.kept {C n d : String} {A : Nat → Prop} {U : State} {H H1 : Heap} (h : vx_L C n d A U H) (hq : ∀ a : Nat, a < H.size → ¬ A a → H1[a]? = H[a]?) : vx_L C n d A U H1 := by
  obtain ⟨c, k, i, f, a, cell, h1, h2, h3, h4, h5, h6, h7, h8, h9, h10⟩ := h
  exact ⟨c, k, i, f, a, cell, h1, h2, h3, h4, by rw [hq a (Array.getElem?_eq_some_iff.mp h5).1 h10]; exact h5, h6, h7, h8, h9, h10⟩
theorem vx_L.narrow {C n d : String} {A B : Nat → Prop} {U : State} {H : Heap} (h : vx_L C n d A U H) (hAB : ∀ q, B q → A q) : vx_L C n d B U H := by
  obtain ⟨c, k, i, f, a, cell, h1, h2, h3, h4, h5, h6, h7, h8, h9, h10⟩ := h
  exact ⟨c, k, i, f, a, cell, h1, h2, h3, h4, h5, h6, h7, h8, h9, fun z => h10 (hAB _ z)⟩
theorem vx_L.word {C n d : String} {A : Nat → Prop} {s : State} {args : Array Value} (h : vx_L C n d A s s.heap) : (Cond.laysStatic C n d).before args s = true := by
  obtain ⟨c, k, i, f, a, cell, h1, h2, h3, h4, h5, h6, h7, h8, h9, -⟩ := h
  show (Cond.laysStatic C n d).holds args s none s [] = true
  exact Cond.laysStatic_of h1 h2 h3 h4 h5 h6 h7 h8 h9
/-- .. and what it holds: null or some reference -/
def vx_Zq (C n d : String) (A : Nat → Prop) (U : State) (H : Heap) : Prop := va_Zq C n d A U H ∧ vx_L C n d A U H
theorem vx_Zq.moved {C n d : String} {A : Nat → Prop} {u U : State} {H : Heap} (hvm : u.vm.Alike U.vm) (h : vx_Zq C n d A u H) : vx_Zq C n d A U H := ⟨va_Zq.moved hvm h.1, vx_L.moved hvm h.2⟩
theorem vx_Zq.kept {C n d : String} {A : Nat → Prop} {U : State} {H H1 : Heap} (h : vx_Zq C n d A U H) (hq : ∀ a : Nat, a < H.size → ¬ A a → H1[a]? = H[a]?) : vx_Zq C n d A U H1 := ⟨va_Zq.kept h.1 hq, vx_L.kept h.2 hq⟩
theorem vx_Zq.narrow {C n d : String} {A B : Nat → Prop} {U : State} {H : Heap} (h : vx_Zq C n d A U H) (hAB : ∀ q, B q → A q) : vx_Zq C n d B U H := ⟨va_Zq.narrow h.1 hAB, vx_L.narrow h.2 hAB⟩
theorem vx_Zqof {args : Array Value} {s : State} {C n d : String} {A : Nat → Prop} (hl : (Cond.laysStatic C n d).before args s = true) (hini : (Cond.initialized C).before args s = true) (h : (Cond.isRef (.static C n d)).before args s = true) (hA : ∀ a : Nat, a < s.heap.size → ¬ A a) : vx_Zq C n d A s s.heap := by
  refine ⟨va_Zqof hl hini h hA, ?_⟩
  obtain ⟨c, k, i, f, a, cell, h1, h2, h3, h4, h5, h6, h7, h8, h9⟩ := Cond.laysStatic_spec hl
  exact ⟨c, k, i, f, a, cell, h1, h2, h3, h4, h5, h6, h7, h8, h9, hA a (Array.getElem?_eq_some_iff.mp h5).1⟩
theorem vx_isRef {C n d : String} {v : Value} {A : Nat → Prop} {s : State} {args : Array Value} (h : va_Z C n d v A s s.heap) (hv : v.isRef = true) : (Cond.isRef (.static C n d)).before args s = true := by
  obtain ⟨cf, kf, fi, f, a, cell, h1, h2, h3, h4, h5, h6, h7, -⟩ := h
  have he : (Term.static C n d).eval args s none [] s = some v := by
    simp [Term.eval, State.fieldNamed?, h1, h2, h4, h5, h6, h7]
  simp only [Cond.before, Cond.holds, Cond.value, he]
  cases v <;> simp_all [Value.isRef]
theorem vx_isRefq {C n d : String} {A : Nat → Prop} {s : State} {args : Array Value} (h : va_Zq C n d A s s.heap) : (Cond.isRef (.static C n d)).before args s = true := by
  rcases h with h | ⟨t, h⟩
  · exact vx_isRef h rfl
  · exact vx_isRef h rfl
/-- the same frame, seen from here: as if the method were called anew in this heap -/
theorem vx_rebase {T : State} (X : Stand p l e R s m args below meth c T locs cells slots) {R' : Room} (hf : R'.frames ≤ R.frames) (hl : R'.locals ≤ R.locals) (hc : cells + R'.cells ≤ R.cells) (hs : slots + R'.slots ≤ R.slots) :
    Stand p l e R' ((T.setVm s.vm).setFrames (.invoking m args :: below)) m args below meth c T [] 0 0 := by
  have htop : (T.setVm s.vm).topJava?.isSome := X.here.top
  have hF : ((T.setVm s.vm).setFrames (.invoking m args :: below)).frames = .invoking m args :: below := State.frames_setFrames _ (State.cur_lt_of_top htop)
  obtain ⟨g₀, hg0⟩ := Option.isSome_iff_exists.mp htop
  obtain ⟨r, hr⟩ := State.topJava?_eq_some.mp hg0
  have hl9 : e.platform.stackLimits (T.setVm s.vm).me = e.platform.stackLimits s.me := X.limits
  have hb9 : (T.setVm s.vm).me.stackBytes = s.me.stackBytes := X.bytes
  refine ⟨X.admits, X.cas, X.clock, hF, ?_, X.hears, X.method, X.code, X.here, X.tail, X.warmed, ?_, ?_, ?_⟩
  · have h := X.room
    have hU : ((T.setVm s.vm).setFrames (.invoking m args :: below)).localsInUse = s.localsInUse := by
      rw [State.localsInUse_invoking hF (meth := meth) (c := c) X.method X.code, State.localsInUse_invoking X.frames X.method X.code]
    simp only [State.hasRoom, Bool.and_eq_true, decide_eq_true_eq] at h ⊢
    obtain ⟨⟨⟨⟨h1, h2, h3, h4, h5, h6⟩, h7⟩, h8⟩, h9⟩ := h
    rw [X.frames, List.length_cons] at h2 h3
    have q1 := X.heapSize
    have q2 := X.used
    simp only [hF, hU, List.length_cons, State.stackLimits_setFrames, State.stackBytes_setFrames, hl9, hb9]
    refine ⟨⟨⟨⟨by omega, by omega, by omega, by omega, by omega, h6⟩, ?_⟩, ?_⟩, X.book⟩
    · show T.heap.size + R'.cells ≤ e.platform.maxCells
      omega
    · show T.slotsUsed + R'.slots ≤ e.platform.maxSlots
      omega
  · rw [State.stackLimits_setFrames]; rfl
  · rw [State.stackBytes_setFrames]; rfl
  · refine ⟨?_, Nat.le_refl _, Nat.le_refl _, ?_, ?_, fun a c9 h9 => ⟨c9, h9, rfl, rfl, fun _ _ => rfl⟩⟩
    · obtain ⟨t, ht, -⟩ := State.frames_cons hr
      show T.setVm s.vm = { ((T.setVm s.vm).setFrames (.invoking m args :: below)).setFrames (T.setVm s.vm).frames with heap := T.heap, slotsUsed := T.slotsUsed }
      rw [State.setFrames_setFrames, State.setFrames_self ht]
      rfl
    · show T.slotsUsed = T.slotsUsed + ((T.heap.toList.drop T.heap.size).map (·.slots.size)).sum
      rw [List.drop_eq_nil_of_le (Nat.le_of_eq Array.length_toList)]
      rfl
    · show ((T.heap.toList.drop T.heap.size).map (·.slots.size)).sum ≤ 0
      rw [List.drop_eq_nil_of_le (Nat.le_of_eq Array.length_toList)]
      exact Nat.le_refl _
/-- 'throw new E()': new; dup; invokespecial; athrow -/
theorem vx_throw0 {cc : ByteArray} {pc : Nat} (hexec : p.tables.exec = Jvm.exec) (hb : c.code = cc) (hl : l.stackTraces = false) {own cls : String} {names : List String} {ik ic mc ms : Nat} {A : Nat → Prop}
    (hown : s.vm.findClass own = some m.cls) (hcls : Bundle.fit cls = true) (hnames : ∀ n ∈ names, Bundle.fit n = true)
    (hk : (Cond.classLink own ik cls).before args s = true) (hini : (Cond.initialized cls).before args s = true) (hat : ∀ w ∈ vx_at0 own ic cls names, w.before args s = true)
    (hgood : ∀ w ∈ Cond.classLink own ik cls :: Cond.initialized cls :: vx_at0 own ic cls names, vx_ot w = true)
    (hU : vx_Zq Bundle.tN "UNASSIGNED_STACK" Bundle.steD A s s.heap) (hN : vx_Zq Bundle.tN "SUPPRESSED_SENTINEL" Bundle.listD A s s.heap) (hS : va_S A s.heap H locs) (hsize : ls.size = c.maxLocals)
    (d0 : decode cc pc = .ok (.new ik, 3)) (d3 : decode cc (pc + 3) = .ok (.dup, 1)) (d4 : decode cc (pc + 4) = .ok (.invokespecial ic, 3)) (d7 : decode cc (pc + 7) = .ok (.athrow, 1))
    (hout : ∀ x ∈ c.exceptionTable.toList, covers x (pc + 7) = false)
    (hRframes : names.length + 3 < R.frames) (hRlocals : (rest.map fun v => v.category).sum + (13 * (names.length + 1) + 42) ≤ R.locals) (hRcells : cells + 1 ≤ R.cells) (hRslots : slots + 6 ≤ R.slots) (hlocks : meth.locks = false)
    (hx : ∀ t : State, s.vm.Alike t.vm → H.size ≤ t.heap.size → (∀ q : Nat, q < H.size → t.heap[q]? = H[q]?) → XC cls s t)
    (hf : ∀ z ∈ locs, free z.base) (hc : cells + 1 ≤ mc) (hs : slots + 6 ≤ ms) :
    W p l e R s m args below meth c H locs cells slots (vx_MQ below Qc XC args s mc ms free) (F0 m pc ls rest) := by
  intro T hT X
  have htr : e.platform.stackTraces = false := (show e.platform.stackTraces = l.stackTraces by rw [X.admits.platform]).trans hl
  have Y := vx_rebase X (R' := { frames := R.frames, locals := R.locals, cells := 1, slots := 6 }) (Nat.le_refl _) (Nat.le_refl _) hRcells hRslots
  obtain ⟨s', hA⟩ : ∃ z, z = (T.setVm s.vm).setFrames (.invoking m args :: below) := ⟨_, rfl⟩
  rw [← hA] at Y
  have hvm : s'.vm = s.vm := by rw [hA]; rfl
  have hhp : s'.heap = H := by rw [hA]; exact hT
  have hW0 : s.WarmedH s'.vm := by rw [hvm]; exact State.WarmedH.refl s
  have hat' : ∀ w ∈ vx_at0 own ic cls names, w.before args s' = true := fun w hw => vx_ot_at hW0 hvm.symm (hgood w (List.mem_cons_of_mem _ (List.mem_cons_of_mem _ hw))) (hat w hw)
  have hk' : (Cond.classLink own ik cls).before args s' = true := vx_ot_at hW0 hvm.symm (hgood _ List.mem_cons_self) hk
  have hini' : (Cond.initialized cls).before args s' = true := vx_ot_at hW0 hvm.symm (hgood _ (List.mem_cons_of_mem _ List.mem_cons_self)) hini
  have hU' : vx_Zq Bundle.tN "UNASSIGNED_STACK" Bundle.steD A s' s'.heap := by rw [hhp]; exact vx_Zq.moved hW0.alike (hU.kept hS.2.1)
  have hN' : vx_Zq Bundle.tN "SUPPRESSED_SENTINEL" Bundle.listD A s' s'.heap := by rw [hhp]; exact vx_Zq.moved hW0.alike (hN.kept hS.2.1)
  have h : ∀ w ∈ Bundle.ownAtoms0 own ic cls names, w.before args s' = true := vx_own hat' (vx_isRefq hU'.1) (vx_isRefq hN'.1) hU'.2.word hN'.2.word
  have hown' : s'.vm.findClass own = some m.cls := by rw [hvm]; exact hown
  have hins : (Cond.instantiable cls 6).before args s' = true := h _ (by simp [Bundle.ownAtoms0])
  obtain ⟨vm₁, cX, kX, hfX, hkX, -, -, X₁, st1⟩ := Y.newCold hexec (own := own) (C := cls) (index := ik) (n := 6) hown' hk' hins hini'
    (g := F0 m pc ls rest) rfl (by rw [hb]; exact d0) (Nat.le_refl _) (Nat.le_refl _)
  generalize hT1 : (T.setVm vm₁).pushCell { cls := cX, slots := kX.instanceTypes.map defaultValue, vm := .none } = T1 at X₁ st1
  have hcat : (Value.ref T.heap.size).category = 1 := rfl
  have hcellA : T1.heap[T.heap.size]? = some (freshCell cX kX) := by rw [← hT1]; exact State.heap_pushCell_size _ _
  have d3' : decode c.code (pc + 3) = .ok (.dup, 1) := by rw [hb]; exact d3
  obtain ⟨U, hsteps, hrun, hend, hW, hsame, ce, hce, hO⟩ := X₁.ctorThrow0 hexec htr (own := own) (cls := cls) (names := names) (ic := ic) hown' hcls hnames h (fun x hx => nomatch hx) hfX hkX hcellA (by rw [hhp, hT]; exact Nat.le_refl _)
    (g := { method := m, pc := pc + 4, locals := ls, stack := .ref T.heap.size :: .ref T.heap.size :: rest, locked := none }) rfl hsize rfl rfl (rest := rest) rfl
    (by rw [hb]; exact d4) (by rw [hb]; exact d7) hout hRframes (by simp only [List.map_cons, List.sum_cons, hcat]; omega) hlocks
  obtain ⟨f1, f2⟩ := vx_frame hsame
  rw [hhp] at f1 f2
  have hWs : s.WarmedH U.vm := State.WarmedH.trans hW0 hW
  have hcl : s.vm.findClass cls = some ce.cls := by
    have h9 := hO.cls
    rw [hvm] at h9
    exact h9
  have hall : s.sameButNew ({ U with vm := s.vm } : State) locs mc ms := by
    subst hA
    obtain ⟨e1, e2⟩ := hsame
    rw [State.setFrames_setFrames] at e1
    have h2 : (T.setVm s.vm).sameButNew ({ U with vm := s.vm } : State) [] (0 + 1) (0 + 6) := ⟨e1, e2⟩
    have h3 := X.same.trans h2
    rw [List.append_nil] at h3
    exact h3.mono hc hs
  refine ⟨U, ?_, .threw T.heap.size, hrun, hend, Or.inr ⟨T.heap.size, rfl, cls, ce, locs, hx U hWs.alike f1 (fun q hq => f2 q hq (fun z hz => nomatch hz)), hce, hO.vm, hcl, hWs, hall, hf⟩⟩
  refine st1 _ ?_
  show Steps p.tables e below (T1.setTop { method := m, pc := pc + 3, locals := ls, stack := .ref T.heap.size :: rest, locked := none }) _
  jvm_step X₁.here [X₁.here.top, hexec, d3', Value.category]
  exact hsteps
/-- 'throw new E("text")': new; dup; ldc; invokespecial; athrow -/
theorem vx_throwS {cc : ByteArray} {pc : Nat} (hexec : p.tables.exec = Jvm.exec) (hb : c.code = cc) (hl : l.stackTraces = false) {own cls text : String} {names : List String} {ik is ic mc ms sa : Nat} {A : Nat → Prop}
    (hown : s.vm.findClass own = some m.cls) (hcls : Bundle.fit cls = true) (hnames : ∀ n ∈ names, Bundle.fit n = true)
    (hk : (Cond.classLink own ik cls).before args s = true) (hini : (Cond.initialized cls).before args s = true) (hstr : vk_R own is text sa s) (hat : ∀ w ∈ vx_atS own ic cls names, w.before args s = true)
    (hgood : ∀ w ∈ Cond.classLink own ik cls :: Cond.initialized cls :: vx_atS own ic cls names, vx_ot w = true)
    (hU : vx_Zq Bundle.tN "UNASSIGNED_STACK" Bundle.steD A s s.heap) (hN : vx_Zq Bundle.tN "SUPPRESSED_SENTINEL" Bundle.listD A s s.heap) (hS : va_S A s.heap H locs) (hsize : ls.size = c.maxLocals)
    (d0 : decode cc pc = .ok (.new ik, 3)) (d3 : decode cc (pc + 3) = .ok (.dup, 1)) (d4 : decode cc (pc + 4) = .ok (.ldc is, 2)) (d6 : decode cc (pc + 6) = .ok (.invokespecial ic, 3)) (d9 : decode cc (pc + 9) = .ok (.athrow, 1))
    (hout : ∀ x ∈ c.exceptionTable.toList, covers x (pc + 9) = false)
    (hRframes : names.length + 3 < R.frames) (hRlocals : (rest.map fun v => v.category).sum + (13 * (names.length + 1) + 43) ≤ R.locals) (hRcells : cells + 1 ≤ R.cells) (hRslots : slots + 6 ≤ R.slots) (hlocks : meth.locks = false)
    (hx : ∀ t : State, s.vm.Alike t.vm → H.size ≤ t.heap.size → (∀ q : Nat, q < H.size → t.heap[q]? = H[q]?) → XC cls s t)
    (hf : ∀ z ∈ locs, free z.base) (hc : cells + 1 ≤ mc) (hs : slots + 6 ≤ ms) :
    W p l e R s m args below meth c H locs cells slots (vx_MQ below Qc XC args s mc ms free) (F0 m pc ls rest) := by
  intro T hT X
  have htr : e.platform.stackTraces = false := (show e.platform.stackTraces = l.stackTraces by rw [X.admits.platform]).trans hl
  have Y := vx_rebase X (R' := { frames := R.frames, locals := R.locals, cells := 1, slots := 6 }) (Nat.le_refl _) (Nat.le_refl _) hRcells hRslots
  obtain ⟨s', hA⟩ : ∃ z, z = (T.setVm s.vm).setFrames (.invoking m args :: below) := ⟨_, rfl⟩
  rw [← hA] at Y
  have hvm : s'.vm = s.vm := by rw [hA]; rfl
  have hhp : s'.heap = H := by rw [hA]; exact hT
  have hW0 : s.WarmedH s'.vm := by rw [hvm]; exact State.WarmedH.refl s
  have hat' : ∀ w ∈ vx_atS own ic cls names, w.before args s' = true := fun w hw => vx_ot_at hW0 hvm.symm (hgood w (List.mem_cons_of_mem _ (List.mem_cons_of_mem _ hw))) (hat w hw)
  have hk' : (Cond.classLink own ik cls).before args s' = true := vx_ot_at hW0 hvm.symm (hgood _ List.mem_cons_self) hk
  have hini' : (Cond.initialized cls).before args s' = true := vx_ot_at hW0 hvm.symm (hgood _ (List.mem_cons_of_mem _ List.mem_cons_self)) hini
  have hU' : vx_Zq Bundle.tN "UNASSIGNED_STACK" Bundle.steD A s' s'.heap := by rw [hhp]; exact vx_Zq.moved hW0.alike (hU.kept hS.2.1)
  have hN' : vx_Zq Bundle.tN "SUPPRESSED_SENTINEL" Bundle.listD A s' s'.heap := by rw [hhp]; exact vx_Zq.moved hW0.alike (hN.kept hS.2.1)
  have h : ∀ w ∈ Bundle.ownAtoms own ic cls names, w.before args s' = true := vx_own hat' (vx_isRefq hU'.1) (vx_isRefq hN'.1) hU'.2.word hN'.2.word
  have hown' : s'.vm.findClass own = some m.cls := by rw [hvm]; exact hown
  have hins : (Cond.instantiable cls 6).before args s' = true := h _ (by simp [Bundle.ownAtoms])
  obtain ⟨vm₁, cX, kX, hfX, hkX, -, -, X₁, st1⟩ := Y.newCold hexec (own := own) (C := cls) (index := ik) (n := 6) hown' hk' hins hini'
    (g := F0 m pc ls rest) rfl (by rw [hb]; exact d0) (Nat.le_refl _) (Nat.le_refl _)
  generalize hT1 : (T.setVm vm₁).pushCell { cls := cX, slots := kX.instanceTypes.map defaultValue, vm := .none } = T1 at X₁ st1
  have hcat : (Value.ref T.heap.size).category = 1 := rfl
  have hcellA : T1.heap[T.heap.size]? = some (freshCell cX kX) := by rw [← hT1]; exact State.heap_pushCell_size _ _
  have d3' : decode c.code (pc + 3) = .ok (.dup, 1) := by rw [hb]; exact d3
  have d4' : decode c.code (pc + 4) = .ok (.ldc is, 2) := by rw [hb]; exact d4
  have hstr' : vk_R own is text sa s' := vk_R.warm hW0 hstr
  obtain ⟨U, hsteps, hrun, hend, hW, hsame, ce, hce, hO⟩ := X₁.ctorThrowS hexec htr (own := own) (cls := cls) (names := names) (ic := ic) hown' hcls hnames h (fun x hx => nomatch hx) hfX hkX hcellA (by rw [hhp, hT]; exact Nat.le_refl _) (msg := .ref sa) rfl
    (g := { method := m, pc := pc + 6, locals := ls, stack := .ref sa :: .ref T.heap.size :: .ref T.heap.size :: rest, locked := none }) rfl hsize rfl rfl (rest := rest) rfl
    (by rw [hb]; exact d6) (by rw [hb]; exact d9) hout hRframes (by simp only [List.map_cons, List.sum_cons, hcat]; omega) hlocks
  obtain ⟨f1, f2⟩ := vx_frame hsame
  rw [hhp] at f1 f2
  have hWs : s.WarmedH U.vm := State.WarmedH.trans hW0 hW
  have hcl : s.vm.findClass cls = some ce.cls := by
    have h9 := hO.cls
    rw [hvm] at h9
    exact h9
  have hall : s.sameButNew ({ U with vm := s.vm } : State) locs mc ms := by
    subst hA
    obtain ⟨e1, e2⟩ := hsame
    rw [State.setFrames_setFrames] at e1
    have h2 : (T.setVm s.vm).sameButNew ({ U with vm := s.vm } : State) [] (0 + 1) (0 + 6) := ⟨e1, e2⟩
    have h3 := X.same.trans h2
    rw [List.append_nil] at h3
    exact h3.mono hc hs
  refine ⟨U, ?_, .threw T.heap.size, hrun, hend, Or.inr ⟨T.heap.size, rfl, cls, ce, locs, hx U hWs.alike f1 (fun q hq => f2 q hq (fun z hz => nomatch hz)), hce, hO.vm, hcl, hWs, hall, hf⟩⟩
  refine st1 _ ?_
  show Steps p.tables e below (T1.setTop { method := m, pc := pc + 3, locals := ls, stack := .ref T.heap.size :: rest, locked := none }) _
  jvm_step X₁.here [X₁.here.top, hexec, d3', Value.category]
  exact X₁.ldcString hexec (own := own) (text := text) (index := is) (a := sa) hown' hstr'.1 hstr'.2
    (g := { method := m, pc := pc + 4, locals := ls, stack := .ref T.heap.size :: .ref T.heap.size :: rest, locked := none }) rfl d4' _ hsteps
/-- 'throw new E("text")', the text by a wide index -/
theorem vx_throwSW {cc : ByteArray} {pc : Nat} (hexec : p.tables.exec = Jvm.exec) (hb : c.code = cc) (hl : l.stackTraces = false) {own cls text : String} {names : List String} {ik is ic mc ms sa : Nat} {A : Nat → Prop}
    (hown : s.vm.findClass own = some m.cls) (hcls : Bundle.fit cls = true) (hnames : ∀ n ∈ names, Bundle.fit n = true)
    (hk : (Cond.classLink own ik cls).before args s = true) (hini : (Cond.initialized cls).before args s = true) (hstr : vk_R own is text sa s) (hat : ∀ w ∈ vx_atS own ic cls names, w.before args s = true)
    (hgood : ∀ w ∈ Cond.classLink own ik cls :: Cond.initialized cls :: vx_atS own ic cls names, vx_ot w = true)
    (hU : vx_Zq Bundle.tN "UNASSIGNED_STACK" Bundle.steD A s s.heap) (hN : vx_Zq Bundle.tN "SUPPRESSED_SENTINEL" Bundle.listD A s s.heap) (hS : va_S A s.heap H locs) (hsize : ls.size = c.maxLocals)
    (d0 : decode cc pc = .ok (.new ik, 3)) (d3 : decode cc (pc + 3) = .ok (.dup, 1)) (d4 : decode cc (pc + 4) = .ok (.ldc_w is, 3)) (d7 : decode cc (pc + 7) = .ok (.invokespecial ic, 3)) (d10 : decode cc (pc + 10) = .ok (.athrow, 1))
    (hout : ∀ x ∈ c.exceptionTable.toList, covers x (pc + 10) = false)
    (hRframes : names.length + 3 < R.frames) (hRlocals : (rest.map fun v => v.category).sum + (13 * (names.length + 1) + 43) ≤ R.locals) (hRcells : cells + 1 ≤ R.cells) (hRslots : slots + 6 ≤ R.slots) (hlocks : meth.locks = false)
    (hx : ∀ t : State, s.vm.Alike t.vm → H.size ≤ t.heap.size → (∀ q : Nat, q < H.size → t.heap[q]? = H[q]?) → XC cls s t)
    (hf : ∀ z ∈ locs, free z.base) (hc : cells + 1 ≤ mc) (hs : slots + 6 ≤ ms) :
    W p l e R s m args below meth c H locs cells slots (vx_MQ below Qc XC args s mc ms free) (F0 m pc ls rest) := by
  intro T hT X
  have htr : e.platform.stackTraces = false := (show e.platform.stackTraces = l.stackTraces by rw [X.admits.platform]).trans hl
  have Y := vx_rebase X (R' := { frames := R.frames, locals := R.locals, cells := 1, slots := 6 }) (Nat.le_refl _) (Nat.le_refl _) hRcells hRslots
  obtain ⟨s', hA⟩ : ∃ z, z = (T.setVm s.vm).setFrames (.invoking m args :: below) := ⟨_, rfl⟩
  rw [← hA] at Y
  have hvm : s'.vm = s.vm := by rw [hA]; rfl
  have hhp : s'.heap = H := by rw [hA]; exact hT
  have hW0 : s.WarmedH s'.vm := by rw [hvm]; exact State.WarmedH.refl s
  have hat' : ∀ w ∈ vx_atS own ic cls names, w.before args s' = true := fun w hw => vx_ot_at hW0 hvm.symm (hgood w (List.mem_cons_of_mem _ (List.mem_cons_of_mem _ hw))) (hat w hw)
  have hk' : (Cond.classLink own ik cls).before args s' = true := vx_ot_at hW0 hvm.symm (hgood _ List.mem_cons_self) hk
  have hini' : (Cond.initialized cls).before args s' = true := vx_ot_at hW0 hvm.symm (hgood _ (List.mem_cons_of_mem _ List.mem_cons_self)) hini
  have hU' : vx_Zq Bundle.tN "UNASSIGNED_STACK" Bundle.steD A s' s'.heap := by rw [hhp]; exact vx_Zq.moved hW0.alike (hU.kept hS.2.1)
  have hN' : vx_Zq Bundle.tN "SUPPRESSED_SENTINEL" Bundle.listD A s' s'.heap := by rw [hhp]; exact vx_Zq.moved hW0.alike (hN.kept hS.2.1)
  have h : ∀ w ∈ Bundle.ownAtoms own ic cls names, w.before args s' = true := vx_own hat' (vx_isRefq hU'.1) (vx_isRefq hN'.1) hU'.2.word hN'.2.word
  have hown' : s'.vm.findClass own = some m.cls := by rw [hvm]; exact hown
  have hins : (Cond.instantiable cls 6).before args s' = true := h _ (by simp [Bundle.ownAtoms])
  obtain ⟨vm₁, cX, kX, hfX, hkX, -, -, X₁, st1⟩ := Y.newCold hexec (own := own) (C := cls) (index := ik) (n := 6) hown' hk' hins hini'
    (g := F0 m pc ls rest) rfl (by rw [hb]; exact d0) (Nat.le_refl _) (Nat.le_refl _)
  generalize hT1 : (T.setVm vm₁).pushCell { cls := cX, slots := kX.instanceTypes.map defaultValue, vm := .none } = T1 at X₁ st1
  have hcat : (Value.ref T.heap.size).category = 1 := rfl
  have hcellA : T1.heap[T.heap.size]? = some (freshCell cX kX) := by rw [← hT1]; exact State.heap_pushCell_size _ _
  have d3' : decode c.code (pc + 3) = .ok (.dup, 1) := by rw [hb]; exact d3
  have d4' : decode c.code (pc + 4) = .ok (.ldc_w is, 3) := by rw [hb]; exact d4
  have hstr' : vk_R own is text sa s' := vk_R.warm hW0 hstr
  obtain ⟨U, hsteps, hrun, hend, hW, hsame, ce, hce, hO⟩ := X₁.ctorThrowS hexec htr (own := own) (cls := cls) (names := names) (ic := ic) hown' hcls hnames h (fun x hx => nomatch hx) hfX hkX hcellA (by rw [hhp, hT]; exact Nat.le_refl _) (msg := .ref sa) rfl
    (g := { method := m, pc := pc + 7, locals := ls, stack := .ref sa :: .ref T.heap.size :: .ref T.heap.size :: rest, locked := none }) rfl hsize rfl rfl (rest := rest) rfl
    (by rw [hb]; exact d7) (by rw [hb]; exact d10) hout hRframes (by simp only [List.map_cons, List.sum_cons, hcat]; omega) hlocks
  obtain ⟨f1, f2⟩ := vx_frame hsame
  rw [hhp] at f1 f2
  have hWs : s.WarmedH U.vm := State.WarmedH.trans hW0 hW
  have hcl : s.vm.findClass cls = some ce.cls := by
    have h9 := hO.cls
    rw [hvm] at h9
    exact h9
  have hall : s.sameButNew ({ U with vm := s.vm } : State) locs mc ms := by
    subst hA
    obtain ⟨e1, e2⟩ := hsame
    rw [State.setFrames_setFrames] at e1
    have h2 : (T.setVm s.vm).sameButNew ({ U with vm := s.vm } : State) [] (0 + 1) (0 + 6) := ⟨e1, e2⟩
    have h3 := X.same.trans h2
    rw [List.append_nil] at h3
    exact h3.mono hc hs
  refine ⟨U, ?_, .threw T.heap.size, hrun, hend, Or.inr ⟨T.heap.size, rfl, cls, ce, locs, hx U hWs.alike f1 (fun q hq => f2 q hq (fun z hz => nomatch hz)), hce, hO.vm, hcl, hWs, hall, hf⟩⟩
  refine st1 _ ?_
  show Steps p.tables e below (T1.setTop { method := m, pc := pc + 3, locals := ls, stack := .ref T.heap.size :: rest, locked := none }) _
  jvm_step X₁.here [X₁.here.top, hexec, d3', Value.category]
  exact X₁.ldcStringW hexec (own := own) (text := text) (index := is) (a := sa) hown' hstr'.1 hstr'.2
    (g := { method := m, pc := pc + 4, locals := ls, stack := .ref T.heap.size :: .ref T.heap.size :: rest, locked := none }) rfl d4' _ hsteps
end Ends
section Bodies
variable {l : Launch}
theorem vx_ofW {y : MethodName} {ws ws' : List Cond} {rm : Room} {Pc : Array Value → State → Prop} {Qc : Array Value → State → Outcome → State → Prop} {XC : String → State → State → Prop} {mc ms : Nat} {free : Addr → Prop} {cc : ByteArray} {maxL : Nat} {ret : Option FieldType}
    (hy : plainName y.cls = true) (hw : ws = Cond.code y cc maxL ret :: ws')
    (body : ∀ p e s m args below meth c s₁, BodyLoose p l y (headSpec ws rm) cc maxL ret e s m args below meth c s₁ → c.maxLocals = maxL → (∀ x ∈ c.exceptionTable.toList, False) → Pc args s →
      W p l e (headSpec ws rm).room s m args below meth c s.heap [] 0 0 (vx_MQ below Qc XC args s mc ms free) (entryFrame m args maxL)) : vx_Met l y ws rm Pc Qc XC mc ms free := by
  refine MetFree.of_bodyS (code := cc) (maxLocals := maxL) (ret := ret) hy ?_ ?_
  · intro args s m h hn
    obtain ⟨meth, c, h1, h2, h3, h4, h5, h6, -, -⟩ := Cond.code_spec hn (atoms_spec (ws := ws) h _ (by rw [hw]; exact List.mem_cons_self))
    exact ⟨meth, c, h1, h2, h3, h4, h5, h6⟩
  · intro p e s m args below meth c s₁ B hml hP _
    have hh0 : s₁.heap = s.heap := by rw [B.state]; rfl
    have ht : ∀ x ∈ c.exceptionTable.toList, False := by
      obtain ⟨meth9, c9, h1, h2, -, -, -, -, h7, -⟩ := Cond.code_spec B.named (atoms_spec (ws := ws) B.pre _ (by rw [hw]; exact List.mem_cons_self))
      cases Option.some.inj (h1.symm.trans B.method)
      cases Option.some.inj (h2.symm.trans (Stand.of_body B).code)
      intro x hx
      rw [Array.isEmpty_iff.mp h7] at hx
      cases hx
    obtain ⟨t, a1, o, b1, b2, b3⟩ := body p e s m args below meth c s₁ B hml ht hP s₁ hh0 (Stand.of_body B)
    exact ⟨t, o, a1, b1, b2, b3⟩
/-- the table of a body with handlers -/
theorem vx_table {p : Program} {x y : MethodName} {S : Spec} {cc bytes : ByteArray} {maxL maxL' : Nat} {ret ret' : Option FieldType} {e : Env} {s s₁ : State} {m : MethodId} {args : Array Value} {below : List Frame} {meth : Method} {c : Code} {hh : List (Nat × Nat × Nat × Nat)}
    (B : BodyLoose p l y S cc maxL ret e s m args below meth c s₁) (h : (Cond.codeWith y bytes maxL' ret' hh).before args s = true) : c.exceptionTable.toList = tableOf hh := by
  obtain ⟨m9, meth9, c9, hn9, h1, h2, -, -, h6, -⟩ := Cond.codeWith_spec h
  cases Option.some.inj (hn9.symm.trans B.named)
  cases Option.some.inj (h1.symm.trans B.method)
  cases Option.some.inj (h2.symm.trans (Stand.of_body B).code)
  rw [← h6, table_eq]
end Bodies
end VXA
/-! ===== END ===== -/
/-! ===== BEGIN a static call of a method with an exception table ===== -/
section VXS
variable {p : Program} {l : Launch} {e : Env} {R : Room} {s : State} {m : MethodId} {args : Array Value} {below : List Frame} {meth : Method} {c : Code} {T : State} {H : Heap} {locs : List Loc} {cells slots : Nat}
abbrev vx_CSW (R : Room) (s : State) (args : Array Value) (own : String) (index : Nat) (y : MethodName) (bytes : ByteArray) (maxL : Nat) (ret : Option FieldType) (hh : List (Nat × Nat × Nat × Nat)) (ws : List Cond) (rm : Room) (mc ms n : Nat) : Prop :=
  (rm.cells = mc ∧ rm.slots = ms ∧ rm.frames + 1 ≤ R.frames ∧ 8 + (maxL + 11) + rm.locals ≤ R.locals ∧ (∀ w ∈ ws, ∀ (a' : Array Value) (U : State), s.WarmedH U.vm → w.before a' U = true) ∧ Cond.codeWith y bytes maxL ret hh ∈ ws) ∧
  (Cond.codeWith y bytes maxL ret hh).before args s = true ∧ (Cond.initialized y.cls).before args s = true ∧ (y.cls ≠ "java/lang/invoke/MethodHandle" ∧ y.cls ≠ "java/lang/invoke/VarHandle") ∧
  (∀ sig, parseMethodDescriptor y.desc = some sig → n = sig.parameters.length) ∧ (Cond.methodLink own index y).before args s = true ∧ (Cond.static y).before args s = true
theorem vx_cwSW {own : String} {index maxL mc ms : Nat} {y : MethodName} {bytes : ByteArray} {ret : Option FieldType} {hh : List (Nat × Nat × Nat × Nat)} {Ts ws ws' : List Cond} {rm : Room} (n : Nat) (ht : ∀ w ∈ Ts, w.before args s = true) (hT : GoodIn Ts (va_wsS own index y ws)) (hw : ws = Cond.codeWith y bytes maxL ret hh :: ws') (hrc : rm.cells = mc) (hrs : rm.slots = ms)
    (hd : y.cls ≠ "java/lang/invoke/MethodHandle" ∧ y.cls ≠ "java/lang/invoke/VarHandle" ∧ (parseMethodDescriptor y.desc).map (fun d => d.parameters.length) = some n) (hR : rm.frames + 1 ≤ R.frames ∧ 8 + (maxL + 11) + rm.locals ≤ R.locals) :
    vx_CSW R s args own index y bytes maxL ret hh ws rm mc ms n := by
  have ok : ∀ w ∈ va_wsS own index y ws, w.before args s = true := fun w h => ht w (hT w h).1
  have hG : GoodIn Ts ws := fun w h => hT w (by unfold va_wsS; exact List.mem_append_right _ h)
  have hc : Cond.codeWith y bytes maxL ret hh ∈ ws := by rw [hw]; exact List.mem_cons_self
  refine ⟨⟨hrc, hrs, hR.1, hR.2, pay_in ht hG, hc⟩, ht _ (hG _ hc).1, ok _ (by simp [va_wsS]), ⟨hd.1, hd.2.1⟩, fun sig h => ?_, ok _ (by simp [va_wsS]), ok _ (by simp [va_wsS])⟩
  have h2 := hd.2.2
  rw [h] at h2
  exact (Option.some.inj h2).symm
theorem vx_callSW (X : Stand p l e R s m args below meth c T locs cells slots) (hexec : p.tables.exec = Jvm.exec) {own : String} {index : Nat} {y : MethodName} {bytes : ByteArray} {maxL : Nat} {ret : Option FieldType} {hh : List (Nat × Nat × Nat × Nat)}
    (hown : s.vm.findClass own = some m.cls) (hlink : (Cond.methodLink own index y).before args s = true) (hstat : (Cond.static y).before args s = true) (hinit : (Cond.initialized y.cls).before args s = true)
    (hcode : (Cond.codeWith y bytes maxL ret hh).before args s = true) (hy : y.cls ≠ "java/lang/invoke/MethodHandle" ∧ y.cls ≠ "java/lang/invoke/VarHandle")
    {W9 : Nat} {Pre : Pt → Array Value → Prop} {Post : Pt → Array Value → Option Value → Pt → Prop} (hK : Back l R p e below s args y 3 W9 Pre Post)
    {g : JFrame} (hg : g.method = m) (hsize : g.locals.size = c.maxLocals) {argsL rest : List Value} (hlen : ∀ sig, parseMethodDescriptor y.desc = some sig → argsL.length = sig.parameters.length)
    (hstack : g.stack = argsL.reverse ++ rest) (hW : 2 * g.monitorRoom + (rest.map fun v => v.category).sum ≤ W9) (hdg : decode c.code g.pc = .ok (.invokestatic index, 3))
    (hpre : ∀ vm₁, s.WarmedH vm₁ → Pre ⟨T.setVm vm₁, locs, cells, slots⟩ argsL.toArray) :
    ∃ (v : Option Value) (vm₁ : Vm) (B : Pt), s.WarmedH vm₁ ∧ Stand p l e R s m args below meth c B.U B.locs B.cells B.slots ∧ Post ⟨T.setVm vm₁, locs, cells, slots⟩ argsL.toArray v B ∧
      ∀ target, Steps p.tables e below (B.U.setTop { g with pc := g.pc + 3, stack := v.toList ++ rest }) target → Steps p.tables e below (T.setTop g) target := by
  obtain ⟨mk, methM, cM, hnamed, hmethM, -, -, -, -, -, -, hsigM⟩ := Cond.codeWith_spec hcode
  have hstatic : methM.isStatic = true := Cond.static_spec hnamed hmethM hstat
  obtain ⟨kP, hkP, -⟩ := className_of_methodNamed hnamed
  have hinitP : kP.init = .initialized := Cond.initialized_spec (findClass_of_methodNamed hnamed) hkP hinit
  obtain ⟨vm₁, X₁, hstep₁⟩ := X.invokestatic hexec hown hlink hnamed hmethM hstatic hkP hinitP hy (g := g) hg (argsL := argsL) (rest := rest) (hlen _ hsigM) hstack hdg
  obtain ⟨v, B, X', hpost, hsteps⟩ := hK m meth c ⟨T.setVm vm₁, locs, cells, slots⟩ { g with stack := rest } (.invokestatic index) mk argsL.toArray X₁ hg hsize hdg hW (X₁.named hnamed) (hpre vm₁ X₁.warmed)
  exact ⟨v, vm₁, B, X₁.warmed, X', hpost, fun target h => hstep₁ _ fun acts => by rw [doInvoke_state]; exact hsteps.trans h⟩
theorem vx_runSW {y : MethodName} {bytes cc : ByteArray} {maxL nL mc ms n index : Nat} {ret : Option FieldType} {hh : List (Nat × Nat × Nat × Nat)} {ws : List Cond} {rm : Room} {Pc : Array Value → State → Prop} {Qc : Array Value → State → Outcome → State → Prop} {free : Addr → Prop} {Ts : List Cond} {own : String} {As rest : List Value} {g : JFrame}
    (S : CallFix p m c cc nL s args Ts own) (hM : Met l y ws rm Pc Qc mc ms free) (cw : vx_CSW R s args own index y bytes maxL ret hh ws rm mc ms n) (hp : PreS s H Pc As)
    (hg : g.method = m) (hn : As.length = n) (hsize : g.locals.size = nL) (hstack : g.stack = As.reverse ++ rest) (hW : 2 * g.monitorRoom + (rest.map fun v => v.category).sum ≤ 8) (hdg : decode cc g.pc = .ok (.invokestatic index, 3)) (hf : cells + mc ≤ R.cells ∧ slots + ms ≤ R.slots) :
    va_Run p l e R s m args below meth c H locs cells slots mc ms g rest (Qc As.toArray) (free) := by
  obtain ⟨⟨hrc, hrs, hfr, hlo, hws, hcw⟩, hcode, hini, hy, hlen, hl, hstt⟩ := cw
  have hK : Back l R p e below s args y 3 8 (PreOf R mc ms Pc) (PostOf Qc mc ms free) := va_backW (hh := hh) (bytes := bytes) (maxL := maxL) (ret := ret) hM hp.1 hrc hrs hfr hlo hws hcw (fun a' U hW => word_at hW (Or.inl (by first | rfl | simp [Cond.onTables, Cond.keeps, Cond.steady])) hini)
  obtain ⟨hx, hb, hml, ho, -⟩ := S
  intro T hT X
  obtain ⟨v, vm₁, ⟨U', l2, c2, s2⟩, hW₁, X', ⟨g', mk, t, L, e1, e2, hq, h1, hL, h2, h3⟩, st⟩ := vx_callSW X hx (hh := hh) (bytes := bytes) (maxL := maxL) (ret := ret) ho hl hstt hini hcode hy hK hg (hsize.trans hml.symm) (argsL := As) (rest := rest) (fun sig h => hn.trans (hlen sig h)) hstack hW (by rw [hb]; exact hdg)
    (fun vm₁ hW₁ => ⟨hf.1, hf.2, hp.2 (T.setVm vm₁) hT hW₁⟩)
  dsimp only [Pt.U, Pt.locs, Pt.cells, Pt.slots] at X' e1 e2 h1 h2 h3 st
  subst h1; subst h2; subst h3
  exact ⟨v, (T.setVm vm₁).calling g' mk As.toArray, t, U', L, hT, X', hL, e1, e2, hq, st⟩
/-- not caught here, past rows that name other classes: it goes on to the caller -/
theorem vx_outP {p : Program} {l : Launch} {e : Env} {R : Room} {s : State} {m : MethodId} {args : Array Value} {below : List Frame} {meth : Method} {c : Code} {H : Heap} {locs : List Loc} {cells slots : Nat} {free : Addr → Prop} {ls : Array Slot} {rest : List Value} {Qc : Array Value → State → Outcome → State → Prop} {XC : String → State → State → Prop}
    {pc : Nat} {own E : String} {ce : Cell} {q : Addr} {mc ms : Nat} (hown : s.vm.findClass own = some m.cls) (hlocks : meth.locks = false)
    (hpass : ∀ z ∈ c.exceptionTable.toList, covers z pc = false ∨ (z.catchType ≠ 0 ∧ ∃ nm : String, (Cond.classLink own z.catchType nm).before args s = true ∧ va_Nc E nm s)) (hcell : H[q]? = some ce) (hv : ce.vm = .none) (hcl : s.vm.findClass E = some ce.cls)
    (hx : ∀ t : State, t.heap = H → s.vm.Alike t.vm → XC E s t) (hf : ∀ z ∈ locs, free z.base) (hc : cells ≤ mc) (hs : slots ≤ ms) :
    vx_W p l e R s m args below meth c H locs cells slots (vx_MQ below Qc XC args s mc ms free) (F0 m pc ls rest) q := by
  intro T hT X
  have hpl : e.platform.magicAccessors = ({} : Platform).magicAccessors := by rw [X.admits.platform]
  obtain ⟨vm', hW', X', st⟩ := X.outThrough hlocks q (g := F0 m pc ls rest) rfl rfl rfl (cell := ce) (by rw [hT]; exact hcell) (by rw [hv]; rfl)
    (by obtain ⟨k9, h9, -⟩ := Vm.findClass_spec hcl; exact ⟨k9, h9⟩) (fun z hz => by
      rcases hpass z hz with h | ⟨hz0, nm, hl1, hn1⟩
      · exact Or.inl h
      · obtain ⟨c6, hc6, hcl6⟩ := Cond.classLink_spec hown hl1 e.platform hpl
        obtain ⟨a8, b8, h1, h2, h3⟩ := hn1
        cases Option.some.inj (h1.symm.trans hcl)
        cases Option.some.inj (h2.symm.trans hc6)
        exact Or.inr ⟨hz0, _, hcl6, h3⟩)
  obtain ⟨g₀, hfr⟩ := X'.frames_eq
  have hcell9 : ((T.setVm vm').setFrames (.throwing q :: below)).heap[q]? = some ce := by
    show T.heap[q]? = some ce
    rw [hT]; exact hcell
  have hend : Ended ((T.setVm vm').setFrames (.throwing q :: below)) below (.threw q) := State.frames_setFrames _ (State.cur_lt_of_frames hfr)
  refine ⟨(T.setVm vm').setFrames (.throwing q :: below), ?_, .threw q, X'.here.running, hend, Or.inr ⟨q, rfl, E, ce, locs, hx _ hT (X'.ends _).1.alike, hcell9, hv, hcl, (X'.ends _).1, (X'.ends _).2.mono hc hs, hf⟩⟩
  rw [X.pushThrowing_eq]
  exact st
/-- a thing of a world lies in the heap -/
theorem vx_lt {D : va_G} {cl : List vw_C} {ws : va_W} {H1 : Heap} (h : va_P D cl ws H1) {k : Nat} {q : Nat × va_E} (hk : ws[k]? = some q) : q.1 < H1.size := (h k q hk).lt
end VXS
/-! ===== END ===== -/
/-! ===== BEGIN methods with a table of their own: called by a name, returning or throwing ===== -/
section VXH
/-! vx_backW, vx_callVX, vx_callSX, vx_callVW, vx_runVW, vx_runVX, vx_runSX, vx_ofWH follow the same proofs as their sisters above (Free/Laws.lean, Shelf42/LK1.lean); vx_outP calls Shelf42/NT130.lean (outThrough). -/
section
variable {l : Launch} {R : Room} {p : Program} {e : Env} {below : List Frame} {s : State} {sargs : Array Value} {y : MethodName} {len W9 : Nat}
theorem vx_backW {ws : List Cond} {rm : Room} {Pc : Array Value → State → Prop} {Qc : Array Value → State → Outcome → State → Prop} {XC : String → State → State → Prop} {mc ms : Nat} {free : Addr → Prop} {bytes : ByteArray} {maxL : Nat} {ret : Option FieldType} {hh : List (Nat × Nat × Nat × Nat)}
    (hM : vx_Met l y ws rm Pc Qc XC mc ms free) (hblind : FrameBlind Pc) (hrc : rm.cells = mc) (hrs : rm.slots = ms)
    (hframes : rm.frames + 1 ≤ R.frames) (hlocals : W9 + (maxL + 11) + rm.locals ≤ R.locals)
    (hws : ∀ w ∈ ws, ∀ a' U, s.WarmedH U.vm → w.before a' U = true) (hcode : Cond.codeWith y bytes maxL ret hh ∈ ws) (hinit : ∀ a' U, s.WarmedH U.vm → (Cond.initialized y.cls).before a' U = true) :
    vx_Back l R p e below s sargs y len W9 (PreOf R mc ms Pc) (PostOf Qc mc ms free) (vx_Post XC mc ms free) := by
  intro m meth c A g ig mk a X hg hsize hdg hW hn hp
  have h1 : (headSpec ws rm).pre.before a A.U = true := atoms_intro fun w hw => hws w hw _ _ X.warmed
  have h2 : (Cond.codeWith y bytes maxL ret hh).before a A.U = true := hws _ hcode _ _ X.warmed
  have h3 : (Cond.initialized y.cls).before a A.U = true := hinit _ _ X.warmed
  have h4 : A.cells + (headSpec ws rm).room.cells ≤ R.cells := by rw [show (headSpec ws rm).room.cells = mc from hrc]; exact hp.1
  have h5 : A.slots + (headSpec ws rm).room.slots ≤ R.slots := by rw [show (headSpec ws rm).room.slots = ms from hrs]; exact hp.2.1
  have hPc : Pc a (A.U.calling g mk a) := hblind _ _ _ _ hp.2.2
  obtain ⟨U, Ls, c0, s0⟩ := A
  dsimp only [Pt.U, Pt.locs, Pt.cells, Pt.slots] at h1 h2 h3 h4 h5 X hn hPc ⊢
  obtain ⟨m9, methY, cY, hn9, hmY, hcY, -, hlY, -⟩ := Cond.codeWith_spec h2
  cases Option.some.inj (hn9.symm.trans hn)
  obtain ⟨kY, hkY, -⟩ := className_of_methodNamed hn
  have hinitY : kY.init = .initialized := Cond.initialized_spec (findClass_of_methodNamed hn) hkY h3
  have h : At U g.method c below := by rw [hg]; exact X.here
  have hlocals9 : W9 + (maxL + 11) + (headSpec ws rm).room.locals ≤ R.locals := hlocals
  have happ : (headSpec ws rm).appliesLoose y e.platform (U.calling g mk a) = true :=
    Spec.appliesLoose_calling (g := g) h hdg hn hkY hinitY
      (X.room_calling (g := g) (R' := (headSpec ws rm).room) hsize hmY hcY hframes (by rw [hlY]; omega) h4 h5) h1
  obtain ⟨mid, hmid⟩ := h.above
  have hfr : (U.setTop g).frames = (.java g :: mid) ++ below := by rw [State.frames_setTop' g h.top, hmid]; rfl
  obtain ⟨o, s₂, hsteps, -, hend, hq⟩ := Steps.callFree hM p X.admits X.cas X.clock (acts := []) hfr happ hPc trivial
  have hq' : vx_Q Qc XC mc ms free a (U.calling g mk a) o s₂ := hq
  rw [State.frames_setTop' g h.top] at hend
  obtain ⟨g₀, hg0⟩ := Option.isSome_iff_exists.mp h.top
  obtain ⟨r, hr⟩ := State.topJava?_eq_some.mp hg0
  have hr' : (({ U with heap := s₂.heap, slotsUsed := s₂.slotsUsed } : State).setVm s₂.vm).frames = .java g₀ :: r := hr
  rcases hq' with ⟨hqc, L, hfe, hL⟩ | ⟨q, rfl, E, ce, L, hx, hce, hcv, hcl, hW₂, hsm, hL⟩
  · obtain ⟨⟨v, rfl⟩, hW₂, e2, q2, q3, q4, q5, q6⟩ := id hfe
    have e3 : s₂ = ({ (U.calling g mk a).setFrames s₂.frames with heap := s₂.heap, slotsUsed := s₂.slotsUsed } : State).setVm s₂.vm := by
      have : s₂ = ({ s₂ with vm := (U.calling g mk a).vm } : State).setVm s₂.vm := rfl
      rw [e2] at this
      exact this
    obtain ⟨c₂, i₂, len₂, hc₂, hd₂, hf₂⟩ := hend
    have hW' : U.WarmedH s₂.vm := hW₂
    have hcc : c₂ = c := by
      have h1 : s₂.code? g.method = U.code? g.method := by
        rw [State.code?_eq, State.code?_eq, hW'.alike.method?]
      exact Option.some.inj (hc₂.symm.trans (h1.trans h.code))
    subst hcc
    have hlen : len₂ = len := by rw [hdg] at hd₂; cases hd₂; rfl
    subst hlen
    have hs₂ : s₂ = (({ U with heap := s₂.heap, slotsUsed := s₂.slotsUsed } : State).setVm s₂.vm).setTop { g with pc := g.pc + len₂, stack := v.toList ++ g.stack } := by
      refine e3.trans ?_
      rw [hf₂, State.calling_eq h.top, State.setFrames_setFrames, State.setTop_of_frames _ hr', hr]
      rfl
    have hsame : U.sameButNew ({ U with heap := s₂.heap, slotsUsed := s₂.slotsUsed } : State) L mc ms := by
      refine ⟨?_, q2, q3, q4, q5, q6⟩
      obtain ⟨t, ht, -⟩ := State.frames_cons hr
      show ({ U with heap := s₂.heap, slotsUsed := s₂.slotsUsed } : State) = { U.setFrames U.frames with heap := s₂.heap, slotsUsed := s₂.slotsUsed }
      rw [State.setFrames_self ht]
    subst hg
    refine Or.inl ⟨v, ⟨(({ U with heap := s₂.heap, slotsUsed := s₂.slotsUsed } : State).setVm s₂.vm), Ls ++ L, c0 + mc, s0 + ms⟩,
      ⟨X.admits, X.cas, X.clock, X.frames, X.room, X.hears, X.method, X.code, (X.here.setHeapUsed s₂.heap s₂.slotsUsed).setVm hW'.alike, X.tail, State.WarmedH.trans X.warmed hW', X.limits, X.bytes, X.same.trans (hsame.setVm s.vm)⟩,
      ⟨g, mk, s₂, L, rfl, rfl, hqc, rfl, hL, rfl, rfl⟩, ?_⟩
    show Steps p.tables e below _ ((({ U with heap := s₂.heap, slotsUsed := s₂.slotsUsed } : State).setVm s₂.vm).setTop { g with pc := g.pc + len₂, stack := v.toList ++ g.stack })
    rw [← hs₂]
    exact hsteps
  · obtain ⟨e2, q2, q3, q4, q5, q6⟩ := id hsm
    have e3 : s₂ = ({ (U.calling g mk a).setFrames s₂.frames with heap := s₂.heap, slotsUsed := s₂.slotsUsed } : State).setVm s₂.vm := by
      have : s₂ = ({ s₂ with vm := (U.calling g mk a).vm } : State).setVm s₂.vm := rfl
      rw [e2] at this
      exact this
    have hf₂ : s₂.frames = .throwing q :: .java g :: U.frames.tail := hend
    have hW' : U.WarmedH s₂.vm := hW₂
    have hs₂ : s₂ = ((({ U with heap := s₂.heap, slotsUsed := s₂.slotsUsed } : State).setVm s₂.vm).setTop g).pushFrame (.throwing q) := by
      refine e3.trans ?_
      rw [hf₂, State.calling_eq h.top, State.setFrames_setFrames, State.pushFrame, State.frames_setTop _ hr', State.setTop_of_frames _ hr', State.setFrames_setFrames, hr]
      rfl
    have hsame : U.sameButNew ({ U with heap := s₂.heap, slotsUsed := s₂.slotsUsed } : State) L mc ms := by
      refine ⟨?_, q2, q3, q4, q5, q6⟩
      obtain ⟨t, ht, -⟩ := State.frames_cons hr
      show ({ U with heap := s₂.heap, slotsUsed := s₂.slotsUsed } : State) = { U.setFrames U.frames with heap := s₂.heap, slotsUsed := s₂.slotsUsed }
      rw [State.setFrames_self ht]
    subst hg
    refine Or.inr ⟨q, ⟨(({ U with heap := s₂.heap, slotsUsed := s₂.slotsUsed } : State).setVm s₂.vm), Ls ++ L, c0 + mc, s0 + ms⟩,
      ⟨X.admits, X.cas, X.clock, X.frames, X.room, X.hears, X.method, X.code, (X.here.setHeapUsed s₂.heap s₂.slotsUsed).setVm hW'.alike, X.tail, State.WarmedH.trans X.warmed hW', X.limits, X.bytes, X.same.trans (hsame.setVm s.vm)⟩,
      ⟨g, mk, s₂, L, E, ce, rfl, rfl, hx, hce, hcv, hcl, rfl, hL, rfl, rfl⟩, ?_⟩
    show Steps p.tables e below _ (((({ U with heap := s₂.heap, slotsUsed := s₂.slotsUsed } : State).setVm s₂.vm).setTop g).pushFrame (.throwing q))
    rw [← hs₂]
    exact hsteps
end
variable {p : Program} {l : Launch} {e : Env} {R : Room} {s : State} {m : MethodId} {args : Array Value} {below : List Frame} {meth : Method} {c : Code} {T : State} {H : Heap} {locs : List Loc} {cells slots : Nat}
theorem vx_callVX (X : Stand p l e R s m args below meth c T locs cells slots) (hexec : p.tables.exec = Jvm.exec) {own C : String} {index : Nat} {y : MethodName} {bytes : ByteArray} {maxL : Nat} {ret : Option FieldType} {hh : List (Nat × Nat × Nat × Nat)}
    (hown : s.vm.findClass own = some m.cls) (hlink : (Cond.methodLink own index y).before args s = true) (hinst : (Cond.instanceMethod y).before args s = true) (hsel : (Cond.selects C y y).before args s = true)
    (hcode : (Cond.codeWith y bytes maxL ret hh).before args s = true) (hy : y.cls ≠ "java/lang/invoke/MethodHandle" ∧ y.cls ≠ "java/lang/invoke/VarHandle")
    {W9 : Nat} {Pre : Pt → Array Value → Prop} {Post : Pt → Array Value → Option Value → Pt → Prop} {PostX : Pt → Array Value → Addr → Pt → Prop} (hK : vx_Back l R p e below s args y 3 W9 Pre Post PostX)
    {b : Addr} {cellB : Cell} (hcell : T.heap[b]? = some cellB) (hobj : cellB.vm.isStatics = false) (hcls : s.vm.findClass C = some cellB.cls)
    {g : JFrame} (hg : g.method = m) (hsize : g.locals.size = c.maxLocals) {argsL rest : List Value} (hlen : ∀ sig, parseMethodDescriptor y.desc = some sig → argsL.length = sig.parameters.length)
    (hstack : g.stack = argsL.reverse ++ .ref b :: rest) (hW : 2 * g.monitorRoom + (rest.map fun v => v.category).sum ≤ W9) (hdg : decode c.code g.pc = .ok (.invokevirtual index, 3))
    (hpre : ∀ vm₁, s.WarmedH vm₁ → Pre ⟨T.setVm vm₁, locs, cells, slots⟩ (Value.ref b :: argsL).toArray) :
    (∃ (v : Option Value) (vm₁ : Vm) (B : Pt), s.WarmedH vm₁ ∧ Stand p l e R s m args below meth c B.U B.locs B.cells B.slots ∧ Post ⟨T.setVm vm₁, locs, cells, slots⟩ (Value.ref b :: argsL).toArray v B ∧
      ∀ target, Steps p.tables e below (B.U.setTop { g with pc := g.pc + 3, stack := v.toList ++ rest }) target → Steps p.tables e below (T.setTop g) target) ∨
    (∃ (q : Addr) (vm₁ : Vm) (B : Pt), s.WarmedH vm₁ ∧ Stand p l e R s m args below meth c B.U B.locs B.cells B.slots ∧ PostX ⟨T.setVm vm₁, locs, cells, slots⟩ (Value.ref b :: argsL).toArray q B ∧
      Steps p.tables e below (T.setTop g) ((B.U.setTop { g with stack := rest }).pushFrame (.throwing q))) := by
  obtain ⟨mk, methM, hnamed, hmethM, hstM, habM⟩ := Cond.instanceMethod_spec hinst
  obtain ⟨m8, methM', cM, hn8, hmethM', -, -, -, -, -, -, hsigM⟩ := Cond.codeWith_spec hcode
  cases Option.some.inj (hn8.symm.trans hnamed)
  cases hmethM.symm.trans hmethM'
  obtain ⟨c2, r2, m2, q1, q2, q3, q4, kP, hkP, hkPi⟩ := Cond.selects_spec hsel
  cases hcls.symm.trans q1
  cases (State.methodFound?_of_named hnamed hy).symm.trans q2
  cases hnamed.symm.trans q3
  have hselP : selectMethod e.platform s.vm cellB.cls mk = .method mk := by rw [Launch.admits_selectMethod X.admits]; exact q4
  obtain ⟨vm₁, X₁, hstep₁⟩ := X.invokevirtual hexec hown hlink hnamed hmethM hstM hkP hkPi hy (a := b) (cell := cellB) hcell
    (fun z h => by rw [h] at hobj; cases hobj) hselP hmethM habM hkP hkPi (g := g) hg (argsL := argsL) (rest := rest) (hlen _ hsigM) hstack hdg
  rcases hK m meth c ⟨T.setVm vm₁, locs, cells, slots⟩ { g with stack := rest } (.invokevirtual index) mk (Value.ref b :: argsL).toArray X₁ hg hsize hdg hW (X₁.named hnamed) (hpre vm₁ X₁.warmed) with ⟨v, B, X', hpost, hsteps⟩ | ⟨q, B, X', hpost, hsteps⟩
  · exact Or.inl ⟨v, vm₁, B, X₁.warmed, X', hpost, fun target h => hstep₁ _ fun acts => by rw [doInvoke_state]; exact hsteps.trans h⟩
  · exact Or.inr ⟨q, vm₁, B, X₁.warmed, X', hpost, hstep₁ _ fun acts => by rw [doInvoke_state]; exact hsteps⟩
theorem vx_callSX (X : Stand p l e R s m args below meth c T locs cells slots) (hexec : p.tables.exec = Jvm.exec) {own : String} {index : Nat} {y : MethodName} {bytes : ByteArray} {maxL : Nat} {ret : Option FieldType} {hh : List (Nat × Nat × Nat × Nat)}
    (hown : s.vm.findClass own = some m.cls) (hlink : (Cond.methodLink own index y).before args s = true) (hstat : (Cond.static y).before args s = true) (hinit : (Cond.initialized y.cls).before args s = true)
    (hcode : (Cond.codeWith y bytes maxL ret hh).before args s = true) (hy : y.cls ≠ "java/lang/invoke/MethodHandle" ∧ y.cls ≠ "java/lang/invoke/VarHandle")
    {W9 : Nat} {Pre : Pt → Array Value → Prop} {Post : Pt → Array Value → Option Value → Pt → Prop} {PostX : Pt → Array Value → Addr → Pt → Prop} (hK : vx_Back l R p e below s args y 3 W9 Pre Post PostX)
    {g : JFrame} (hg : g.method = m) (hsize : g.locals.size = c.maxLocals) {argsL rest : List Value} (hlen : ∀ sig, parseMethodDescriptor y.desc = some sig → argsL.length = sig.parameters.length)
    (hstack : g.stack = argsL.reverse ++ rest) (hW : 2 * g.monitorRoom + (rest.map fun v => v.category).sum ≤ W9) (hdg : decode c.code g.pc = .ok (.invokestatic index, 3))
    (hpre : ∀ vm₁, s.WarmedH vm₁ → Pre ⟨T.setVm vm₁, locs, cells, slots⟩ argsL.toArray) :
    (∃ (v : Option Value) (vm₁ : Vm) (B : Pt), s.WarmedH vm₁ ∧ Stand p l e R s m args below meth c B.U B.locs B.cells B.slots ∧ Post ⟨T.setVm vm₁, locs, cells, slots⟩ argsL.toArray v B ∧
      ∀ target, Steps p.tables e below (B.U.setTop { g with pc := g.pc + 3, stack := v.toList ++ rest }) target → Steps p.tables e below (T.setTop g) target) ∨
    (∃ (q : Addr) (vm₁ : Vm) (B : Pt), s.WarmedH vm₁ ∧ Stand p l e R s m args below meth c B.U B.locs B.cells B.slots ∧ PostX ⟨T.setVm vm₁, locs, cells, slots⟩ argsL.toArray q B ∧
      Steps p.tables e below (T.setTop g) ((B.U.setTop { g with stack := rest }).pushFrame (.throwing q))) := by
  obtain ⟨mk, methM, cM, hnamed, hmethM, -, -, -, -, -, -, hsigM⟩ := Cond.codeWith_spec hcode
  have hstatic : methM.isStatic = true := Cond.static_spec hnamed hmethM hstat
  obtain ⟨kP, hkP, -⟩ := className_of_methodNamed hnamed
  have hinitP : kP.init = .initialized := Cond.initialized_spec (findClass_of_methodNamed hnamed) hkP hinit
  obtain ⟨vm₁, X₁, hstep₁⟩ := X.invokestatic hexec hown hlink hnamed hmethM hstatic hkP hinitP hy (g := g) hg (argsL := argsL) (rest := rest) (hlen _ hsigM) hstack hdg
  rcases hK m meth c ⟨T.setVm vm₁, locs, cells, slots⟩ { g with stack := rest } (.invokestatic index) mk argsL.toArray X₁ hg hsize hdg hW (X₁.named hnamed) (hpre vm₁ X₁.warmed) with ⟨v, B, X', hpost, hsteps⟩ | ⟨q, B, X', hpost, hsteps⟩
  · exact Or.inl ⟨v, vm₁, B, X₁.warmed, X', hpost, fun target h => hstep₁ _ fun acts => by rw [doInvoke_state]; exact hsteps.trans h⟩
  · exact Or.inr ⟨q, vm₁, B, X₁.warmed, X', hpost, hstep₁ _ fun acts => by rw [doInvoke_state]; exact hsteps⟩
theorem vx_callVW (X : Stand p l e R s m args below meth c T locs cells slots) (hexec : p.tables.exec = Jvm.exec) {own C : String} {index : Nat} {y : MethodName} {bytes : ByteArray} {maxL : Nat} {ret : Option FieldType} {hh : List (Nat × Nat × Nat × Nat)}
    (hown : s.vm.findClass own = some m.cls) (hlink : (Cond.methodLink own index y).before args s = true) (hinst : (Cond.instanceMethod y).before args s = true) (hsel : (Cond.selects C y y).before args s = true)
    (hcode : (Cond.codeWith y bytes maxL ret hh).before args s = true) (hy : y.cls ≠ "java/lang/invoke/MethodHandle" ∧ y.cls ≠ "java/lang/invoke/VarHandle")
    {W9 : Nat} {Pre : Pt → Array Value → Prop} {Post : Pt → Array Value → Option Value → Pt → Prop} (hK : Back l R p e below s args y 3 W9 Pre Post)
    {b : Addr} {cellB : Cell} (hcell : T.heap[b]? = some cellB) (hobj : cellB.vm.isStatics = false) (hcls : s.vm.findClass C = some cellB.cls)
    {g : JFrame} (hg : g.method = m) (hsize : g.locals.size = c.maxLocals) {argsL rest : List Value} (hlen : ∀ sig, parseMethodDescriptor y.desc = some sig → argsL.length = sig.parameters.length)
    (hstack : g.stack = argsL.reverse ++ .ref b :: rest) (hW : 2 * g.monitorRoom + (rest.map fun v => v.category).sum ≤ W9) (hdg : decode c.code g.pc = .ok (.invokevirtual index, 3))
    (hpre : ∀ vm₁, s.WarmedH vm₁ → Pre ⟨T.setVm vm₁, locs, cells, slots⟩ (Value.ref b :: argsL).toArray) :
    ∃ (v : Option Value) (vm₁ : Vm) (B : Pt), s.WarmedH vm₁ ∧ Stand p l e R s m args below meth c B.U B.locs B.cells B.slots ∧ Post ⟨T.setVm vm₁, locs, cells, slots⟩ (Value.ref b :: argsL).toArray v B ∧
      ∀ target, Steps p.tables e below (B.U.setTop { g with pc := g.pc + 3, stack := v.toList ++ rest }) target → Steps p.tables e below (T.setTop g) target := by
  obtain ⟨mk, methM, hnamed, hmethM, hstM, habM⟩ := Cond.instanceMethod_spec hinst
  obtain ⟨m8, methM', cM, hn8, hmethM', -, -, -, -, -, -, hsigM⟩ := Cond.codeWith_spec hcode
  cases Option.some.inj (hn8.symm.trans hnamed)
  cases hmethM.symm.trans hmethM'
  obtain ⟨c2, r2, m2, q1, q2, q3, q4, kP, hkP, hkPi⟩ := Cond.selects_spec hsel
  cases hcls.symm.trans q1
  cases (State.methodFound?_of_named hnamed hy).symm.trans q2
  cases hnamed.symm.trans q3
  have hselP : selectMethod e.platform s.vm cellB.cls mk = .method mk := by rw [Launch.admits_selectMethod X.admits]; exact q4
  obtain ⟨vm₁, X₁, hstep₁⟩ := X.invokevirtual hexec hown hlink hnamed hmethM hstM hkP hkPi hy (a := b) (cell := cellB) hcell
    (fun z h => by rw [h] at hobj; cases hobj) hselP hmethM habM hkP hkPi (g := g) hg (argsL := argsL) (rest := rest) (hlen _ hsigM) hstack hdg
  obtain ⟨v, B, X', hpost, hsteps⟩ := hK m meth c ⟨T.setVm vm₁, locs, cells, slots⟩ { g with stack := rest } (.invokevirtual index) mk (Value.ref b :: argsL).toArray X₁ hg hsize hdg hW (X₁.named hnamed) (hpre vm₁ X₁.warmed)
  exact ⟨v, vm₁, B, X₁.warmed, X', hpost, fun target h => hstep₁ _ fun acts => by rw [doInvoke_state]; exact hsteps.trans h⟩
abbrev vx_CVW (R : Room) (s : State) (args : Array Value) (own C : String) (index : Nat) (y : MethodName) (bytes : ByteArray) (maxL : Nat) (ret : Option FieldType) (hh : List (Nat × Nat × Nat × Nat)) (ws : List Cond) (rm : Room) (mc ms n : Nat) : Prop :=
  (rm.cells = mc ∧ rm.slots = ms ∧ rm.frames + 1 ≤ R.frames ∧ 8 + (maxL + 11) + rm.locals ≤ R.locals ∧ (∀ w ∈ ws, ∀ (a' : Array Value) (U : State), s.WarmedH U.vm → w.before a' U = true) ∧ Cond.codeWith y bytes maxL ret hh ∈ ws) ∧
  (Cond.codeWith y bytes maxL ret hh).before args s = true ∧ (Cond.initialized y.cls).before args s = true ∧ (y.cls ≠ "java/lang/invoke/MethodHandle" ∧ y.cls ≠ "java/lang/invoke/VarHandle") ∧
  (∀ sig, parseMethodDescriptor y.desc = some sig → n = sig.parameters.length) ∧ (Cond.methodLink own index y).before args s = true ∧ (Cond.instanceMethod y).before args s = true ∧ (Cond.selects C y y).before args s = true
theorem vx_cwVW {own C : String} {index maxL mc ms : Nat} {y : MethodName} {bytes : ByteArray} {ret : Option FieldType} {hh : List (Nat × Nat × Nat × Nat)} {Ts ws ws' : List Cond} {rm : Room} (n : Nat) (ht : ∀ w ∈ Ts, w.before args s = true) (hT : GoodIn Ts (wsV own index C y ws)) (hw : ws = Cond.codeWith y bytes maxL ret hh :: ws') (hrc : rm.cells = mc) (hrs : rm.slots = ms)
    (hd : y.cls = C ∧ y.cls ≠ "java/lang/invoke/MethodHandle" ∧ y.cls ≠ "java/lang/invoke/VarHandle" ∧ (parseMethodDescriptor y.desc).map (fun d => d.parameters.length) = some n) (hR : rm.frames + 1 ≤ R.frames ∧ 8 + (maxL + 11) + rm.locals ≤ R.locals) :
    vx_CVW R s args own C index y bytes maxL ret hh ws rm mc ms n := by
  obtain ⟨hC, hd⟩ := hd
  subst hC
  have ok : ∀ w ∈ wsV own index y.cls y ws, w.before args s = true := fun w h => ht w (hT w h).1
  have hG : GoodIn Ts ws := fun w h => hT w (by unfold wsV; exact List.mem_append_right _ h)
  have hc : Cond.codeWith y bytes maxL ret hh ∈ ws := by rw [hw]; exact List.mem_cons_self
  refine ⟨⟨hrc, hrs, hR.1, hR.2, pay_in ht hG, hc⟩, ht _ (hG _ hc).1, ok _ (by simp [wsV]), ⟨hd.1, hd.2.1⟩, fun sig h => ?_, ok _ (by simp [wsV]), ok _ (by simp [wsV]), ok _ (by simp [wsV])⟩
  have h2 := hd.2.2
  rw [h] at h2
  exact (Option.some.inj h2).symm
theorem vx_runVW {y : MethodName} {bytes cc : ByteArray} {maxL nL mc ms n index : Nat} {ret : Option FieldType} {hh : List (Nat × Nat × Nat × Nat)} {ws : List Cond} {rm : Room} {Pc : Array Value → State → Prop} {Qc : Array Value → State → Outcome → State → Prop} {free : Addr → Prop} {Ts : List Cond} {own C : String} {b : Addr} {As rest : List Value} {g : JFrame}
    (S : CallFix p m c cc nL s args Ts own) (hM : Met l y ws rm Pc Qc mc ms free) (cw : vx_CVW R s args own C index y bytes maxL ret hh ws rm mc ms n) (hp : PreV s H C b Pc As)
    (hg : g.method = m) (hn : As.length = n) (hsize : g.locals.size = nL) (hstack : g.stack = As.reverse ++ .ref b :: rest) (hW : 2 * g.monitorRoom + (rest.map fun v => v.category).sum ≤ 8) (hdg : decode cc g.pc = .ok (.invokevirtual index, 3)) (hf : cells + mc ≤ R.cells ∧ slots + ms ≤ R.slots) :
    va_Run p l e R s m args below meth c H locs cells slots mc ms g rest (Qc (Value.ref b :: As).toArray) free := by
  obtain ⟨⟨hrc, hrs, hfr, hlo, hws, hcw⟩, hcode, hini, hy, hlen, hl, hin, hse⟩ := cw
  have hK : Back l R p e below s args y 3 8 (PreOf R mc ms Pc) (PostOf Qc mc ms free) := va_backW (hh := hh) (bytes := bytes) (maxL := maxL) (ret := ret) hM hp.1 hrc hrs hfr hlo hws hcw (fun a' U hW => word_at hW (Or.inl (by first | rfl | simp [Cond.onTables, Cond.keeps, Cond.steady])) hini)
  obtain ⟨hx, hb, hml, ho, -⟩ := S
  obtain ⟨-, ⟨cellB, hcB, hoB, hclB⟩, hPc⟩ := hp
  intro T hT X
  obtain ⟨v, vm₁, ⟨U', l2, c2, s2⟩, hW₁, X', ⟨g', mk, t, L, e1, e2, hq, h1, hL, h2, h3⟩, st⟩ := vx_callVW X hx (C := C) (hh := hh) (bytes := bytes) (maxL := maxL) (ret := ret) ho hl hin hse hcode hy hK (by rw [hT]; exact hcB) hoB hclB hg (hsize.trans hml.symm) (argsL := As) (rest := rest) (fun sig h => hn.trans (hlen sig h)) hstack hW (by rw [hb]; exact hdg)
    (fun vm₁ hW₁ => ⟨hf.1, hf.2, hPc (T.setVm vm₁) hT hW₁⟩)
  dsimp only [Pt.U, Pt.locs, Pt.cells, Pt.slots] at X' e1 e2 h1 h2 h3 st
  subst h1; subst h2; subst h3
  exact ⟨v, (T.setVm vm₁).calling g' mk (Value.ref b :: As).toArray, t, U', L, hT, X', hL, e1, e2, hq, st⟩
section
variable {y : MethodName} {bytes cc : ByteArray} {maxL nL mc ms n index : Nat} {ret : Option FieldType} {ws : List Cond} {rm : Room} {Pc : Array Value → State → Prop} {Qc : Array Value → State → Outcome → State → Prop} {XC : String → State → State → Prop} {free : Addr → Prop} {Ts : List Cond} {own C : String} {b : Addr} {As rest : List Value} {g : JFrame}
theorem vx_runVX {hh : List (Nat × Nat × Nat × Nat)} (S : CallFix p m c cc nL s args Ts own) (hM : vx_Met l y ws rm Pc Qc XC mc ms free) (cw : vx_CVW R s args own C index y bytes maxL ret hh ws rm mc ms n) (hp : PreV s H C b Pc As)
    (hg : g.method = m) (hn : As.length = n) (hsize : g.locals.size = nL) (hstack : g.stack = As.reverse ++ .ref b :: rest) (hW : 2 * g.monitorRoom + (rest.map fun v => v.category).sum ≤ 8) (hdg : decode cc g.pc = .ok (.invokevirtual index, 3)) (hf : cells + mc ≤ R.cells ∧ slots + ms ≤ R.slots) :
    vx_Run p l e R s m args below meth c H locs cells slots mc ms g rest (Qc (Value.ref b :: As).toArray) XC free := by
  obtain ⟨⟨hrc, hrs, hfr, hlo, hws, hcw⟩, hcode, hini, hy, hlen, hl, hin, hse⟩ := cw
  have hK : vx_Back l R p e below s args y 3 8 (PreOf R mc ms Pc) (PostOf Qc mc ms free) (vx_Post XC mc ms free) := vx_backW (hh := hh) (bytes := bytes) (maxL := maxL) (ret := ret) hM hp.1 hrc hrs hfr hlo hws hcw (fun a' U hW => word_at hW (Or.inl (by first | rfl | simp [Cond.onTables, Cond.keeps, Cond.steady])) hini)
  obtain ⟨hx, hb, hml, ho, -⟩ := S
  obtain ⟨-, ⟨cellB, hcB, hoB, hclB⟩, hPc⟩ := hp
  intro T hT X
  rcases vx_callVX X hx (C := C) (hh := hh) (bytes := bytes) (maxL := maxL) (ret := ret) ho hl hin hse hcode hy hK (by rw [hT]; exact hcB) hoB hclB hg (hsize.trans hml.symm) (argsL := As) (rest := rest) (fun sig h => hn.trans (hlen sig h)) hstack hW (by rw [hb]; exact hdg)
    (fun vm₁ hW₁ => ⟨hf.1, hf.2, hPc (T.setVm vm₁) hT hW₁⟩) with ⟨v, vm₁, ⟨U', l2, c2, s2⟩, hW₁, X', ⟨g', mk, t, L, e1, e2, hq, h1, hL, h2, h3⟩, st⟩ | ⟨q, vm₁, ⟨U', l2, c2, s2⟩, hW₁, X', ⟨g', mk, t, L, E, ce, e1, e2, hq, hce, hcv, hcl, h1, hL, h2, h3⟩, st⟩
  · dsimp only [Pt.U, Pt.locs, Pt.cells, Pt.slots] at X' e1 e2 h1 h2 h3 st
    subst h1; subst h2; subst h3
    exact Or.inl ⟨v, (T.setVm vm₁).calling g' mk (Value.ref b :: As).toArray, t, U', L, hT, X', hL, e1, e2, hq, st⟩
  · dsimp only [Pt.U, Pt.locs, Pt.cells, Pt.slots] at X' e1 e2 h1 h2 h3 st hcl
    subst h1; subst h2; subst h3
    exact Or.inr ⟨q, (T.setVm vm₁).calling g' mk (Value.ref b :: As).toArray, t, U', L, E, ce, hT, X', hL, e1, e2, hq, hce, hcv, vx_cls hW₁ hcl, st⟩
theorem vx_runSX {hh : List (Nat × Nat × Nat × Nat)} (S : CallFix p m c cc nL s args Ts own) (hM : vx_Met l y ws rm Pc Qc XC mc ms free) (cw : vx_CSW R s args own index y bytes maxL ret hh ws rm mc ms n) (hp : PreS s H Pc As)
    (hg : g.method = m) (hn : As.length = n) (hsize : g.locals.size = nL) (hstack : g.stack = As.reverse ++ rest) (hW : 2 * g.monitorRoom + (rest.map fun v => v.category).sum ≤ 8) (hdg : decode cc g.pc = .ok (.invokestatic index, 3)) (hf : cells + mc ≤ R.cells ∧ slots + ms ≤ R.slots) :
    vx_Run p l e R s m args below meth c H locs cells slots mc ms g rest (Qc As.toArray) XC free := by
  obtain ⟨⟨hrc, hrs, hfr, hlo, hws, hcw⟩, hcode, hini, hy, hlen, hl, hstt⟩ := cw
  have hK : vx_Back l R p e below s args y 3 8 (PreOf R mc ms Pc) (PostOf Qc mc ms free) (vx_Post XC mc ms free) := vx_backW (hh := hh) (bytes := bytes) (maxL := maxL) (ret := ret) hM hp.1 hrc hrs hfr hlo hws hcw (fun a' U hW => word_at hW (Or.inl (by first | rfl | simp [Cond.onTables, Cond.keeps, Cond.steady])) hini)
  obtain ⟨hx, hb, hml, ho, -⟩ := S
  intro T hT X
  rcases vx_callSX X hx (hh := hh) (bytes := bytes) (maxL := maxL) (ret := ret) ho hl hstt hini hcode hy hK hg (hsize.trans hml.symm) (argsL := As) (rest := rest) (fun sig h => hn.trans (hlen sig h)) hstack hW (by rw [hb]; exact hdg)
    (fun vm₁ hW₁ => ⟨hf.1, hf.2, hp.2 (T.setVm vm₁) hT hW₁⟩) with ⟨v, vm₁, ⟨U', l2, c2, s2⟩, hW₁, X', ⟨g', mk, t, L, e1, e2, hq, h1, hL, h2, h3⟩, st⟩ | ⟨q, vm₁, ⟨U', l2, c2, s2⟩, hW₁, X', ⟨g', mk, t, L, E, ce, e1, e2, hq, hce, hcv, hcl, h1, hL, h2, h3⟩, st⟩
  · dsimp only [Pt.U, Pt.locs, Pt.cells, Pt.slots] at X' e1 e2 h1 h2 h3 st
    subst h1; subst h2; subst h3
    exact Or.inl ⟨v, (T.setVm vm₁).calling g' mk As.toArray, t, U', L, hT, X', hL, e1, e2, hq, st⟩
  · dsimp only [Pt.U, Pt.locs, Pt.cells, Pt.slots] at X' e1 e2 h1 h2 h3 st hcl
    subst h1; subst h2; subst h3
    exact Or.inr ⟨q, (T.setVm vm₁).calling g' mk As.toArray, t, U', L, E, ce, hT, X', hL, e1, e2, hq, hce, hcv, vx_cls hW₁ hcl, st⟩
end
end VXH
theorem vx_ofWH {l : Launch} {y : MethodName} {ws ws' : List Cond} {rm : Room} {Pc : Array Value → State → Prop} {Qc : Array Value → State → Outcome → State → Prop} {XC : String → State → State → Prop} {mc ms : Nat} {free : Addr → Prop} {cc : ByteArray} {maxL : Nat} {ret : Option FieldType} {hh : List (Nat × Nat × Nat × Nat)}
    (hy : plainName y.cls = true) (hw : ws = Cond.codeWith y cc maxL ret hh :: ws')
    (body : ∀ p e s m args below meth c s₁, BodyLoose p l y (headSpec ws rm) cc maxL ret e s m args below meth c s₁ → c.maxLocals = maxL → Pc args s →
      W p l e (headSpec ws rm).room s m args below meth c s.heap [] 0 0 (vx_MQ below Qc XC args s mc ms free) (entryFrame m args maxL)) : vx_Met l y ws rm Pc Qc XC mc ms free := by
  refine MetFree.of_bodyS (code := cc) (maxLocals := maxL) (ret := ret) hy ?_ ?_
  · intro args s m h hn
    obtain ⟨m9, meth, c, hn9, h1, h2, h3, h4, -, h5, h6, -⟩ := Cond.codeWith_spec (atoms_spec (ws := ws) h _ (by rw [hw]; exact List.mem_cons_self))
    cases hn.symm.trans hn9
    exact ⟨meth, c, h1, h2, h3, h4, h5, h6⟩
  · intro p e s m args below meth c s₁ B hml hP _
    have hh0 : s₁.heap = s.heap := by rw [B.state]; rfl
    obtain ⟨t, a1, o, b1, b2, b3⟩ := body p e s m args below meth c s₁ B hml hP s₁ hh0 (Stand.of_body B)
    exact ⟨t, o, a1, b1, b2, b3⟩
/-! ===== END ===== -/

/-! ===== BEGIN printed: names, fields, word lists, decode rows ===== -/
def RX0 : String := "TwoThirds$Game"
def TX0 : u_T := fun k => match k with
  | 0 => ("TwoThirds$Game", "up", "I", false)
  | 1 => ("TwoThirds$Game", "down", "I", false)
  | 2 => ("TwoThirds$Game", "high", "I", false)
  | 3 => ("TwoThirds$Game", "prize", "I", false)
  | 4 => ("TwoThirds$Game", "z", "I", false)
  | 5 => ("TwoThirds$Game", "rounds", "I", false)
  | 6 => ("TwoThirds$Game", "people", "I", false)
  | 7 => ("TwoThirds$Game", "persons", "[LTwoThirds$Person;", true)
  | 8 => ("TwoThirds$Game", "cards", "LTwoThirds$Row;", true)
  | _ => ("TwoThirds$Game", "lastSum", "I", false)
def tyX0 : Nat → FieldType := fun k => match k with
  | 0 => .int
  | 1 => .int
  | 2 => .int
  | 3 => .int
  | 4 => .int
  | 5 => .int
  | 6 => .int
  | 7 => .array (.object "TwoThirds$Person")
  | 8 => .object "TwoThirds$Row"
  | _ => .int
abbrev wsX00 : List Cond := u_ws RX0 TX0 10
theorem nmX0 : ∀ a, a < 10 → ∀ b, b < 10 → a ≠ b → (TX0 a).2.1 ≠ (TX0 b).2.1 := by decide +kernel
theorem tyX0_ok : ∀ k, k < 10 → parseFieldDescriptor (TX0 k).2.2.1 = some (tyX0 k) := by decide +kernel
abbrev cX0_init : ByteArray := prog_2_method_1_code
def yX0_init : MethodName := ⟨RX0, "<init>", "()V"⟩
abbrev cX0_takeFrom : ByteArray := prog_2_method_2_code
def yX0_takeFrom : MethodName := ⟨RX0, "takeFrom", "(LTwoThirds$Game;)V"⟩
abbrev cX0_personAt : ByteArray := prog_2_method_3_code
def yX0_personAt : MethodName := ⟨RX0, "personAt", "(I)LTwoThirds$Person;"⟩
abbrev cX0_allSteps : ByteArray := prog_2_method_4_code
def yX0_allSteps : MethodName := ⟨RX0, "allSteps", "()I"⟩
abbrev cX0_canBe : ByteArray := prog_2_method_5_code
def yX0_canBe : MethodName := ⟨RX0, "canBe", "(II)Z"⟩
abbrev cX0_setting : ByteArray := prog_2_method_6_code
def yX0_setting : MethodName := ⟨RX0, "setting", "(I)I"⟩
abbrev cX0_change : ByteArray := prog_2_method_7_code
def yX0_change : MethodName := ⟨RX0, "change", "(II)V"⟩
abbrev cX0_follows : ByteArray := prog_2_method_8_code
def yX0_follows : MethodName := ⟨RX0, "follows", "(LTwoThirds$Reader;)Z"⟩
abbrev cX0_changeIfCanBe : ByteArray := prog_2_method_9_code
def yX0_changeIfCanBe : MethodName := ⟨RX0, "changeIfCanBe", "(II)Z"⟩
abbrev cX0_addPerson : ByteArray := prog_2_method_10_code
def yX0_addPerson : MethodName := ⟨RX0, "addPerson", "(III)Z"⟩
abbrev cX0_drawBelow : ByteArray := prog_2_method_11_code
def yX0_drawBelow : MethodName := ⟨RX0, "drawBelow", "(I)I"⟩
abbrev cX0_heldToCards : ByteArray := prog_2_method_12_code
def yX0_heldToCards : MethodName := ⟨RX0, "heldToCards", "(I)I"⟩
abbrev cX0_middle : ByteArray := prog_2_method_13_code
def yX0_middle : MethodName := ⟨RX0, "middle", "()I"⟩
abbrev cX0_shareOf : ByteArray := prog_2_method_14_code
def yX0_shareOf : MethodName := ⟨RX0, "shareOf", "(I)I"⟩
abbrev cX0_stepped : ByteArray := prog_2_method_15_code
def yX0_stepped : MethodName := ⟨RX0, "stepped", "(I)I"⟩
abbrev cX0_sharedTimes : ByteArray := prog_2_method_16_code
def yX0_sharedTimes : MethodName := ⟨RX0, "sharedTimes", "(II)I"⟩
abbrev cX0_mixed : ByteArray := prog_2_method_17_code
def yX0_mixed : MethodName := ⟨RX0, "mixed", "(I)I"⟩
abbrev cX0_learned : ByteArray := prog_2_method_18_code
def yX0_learned : MethodName := ⟨RX0, "learned", "(I)I"⟩
abbrev cX0_heldBy : ByteArray := prog_2_method_19_code
def yX0_heldBy : MethodName := ⟨RX0, "heldBy", "(LTwoThirds$Person;)I"⟩
abbrev cX0_cardOf : ByteArray := prog_2_method_20_code
def yX0_cardOf : MethodName := ⟨RX0, "cardOf", "(LTwoThirds$Person;)I"⟩
abbrev cX0_play : ByteArray := prog_2_method_21_code
def yX0_play : MethodName := ⟨RX0, "play", "()V"⟩
abbrev cX0_forgetRounds : ByteArray := prog_2_method_22_code
def yX0_forgetRounds : MethodName := ⟨RX0, "forgetRounds", "()V"⟩
abbrev cX0_isCard : ByteArray := prog_2_method_23_code
def yX0_isCard : MethodName := ⟨RX0, "isCard", "(I)Z"⟩
abbrev cX0_areCards : ByteArray := prog_2_method_24_code
def yX0_areCards : MethodName := ⟨RX0, "areCards", "(LTwoThirds$Row;)Z"⟩
abbrev cX0_targetAbove : ByteArray := prog_2_method_25_code
def yX0_targetAbove : MethodName := ⟨RX0, "targetAbove", "(LTwoThirds$Row;)I"⟩
abbrev cX0_targetLine : ByteArray := prog_2_method_26_code
def yX0_targetLine : MethodName := ⟨RX0, "targetLine", "(LTwoThirds$Row;)I"⟩
abbrev cX0_farFrom : ByteArray := prog_2_method_27_code
def yX0_farFrom : MethodName := ⟨RX0, "farFrom", "(III)I"⟩
abbrev cX0_firstWinner : ByteArray := prog_2_method_28_code
def yX0_firstWinner : MethodName := ⟨RX0, "firstWinner", "(LTwoThirds$Row;)I"⟩
abbrev cX0_countWinners : ByteArray := prog_2_method_29_code
def yX0_countWinners : MethodName := ⟨RX0, "countWinners", "(LTwoThirds$Row;)I"⟩
abbrev cX0_isWinner : ByteArray := prog_2_method_30_code
def yX0_isWinner : MethodName := ⟨RX0, "isWinner", "(LTwoThirds$Row;I)Z"⟩
abbrev cX0_bestAgainst : ByteArray := prog_2_method_31_code
def yX0_bestAgainst : MethodName := ⟨RX0, "bestAgainst", "(LTwoThirds$Row;)I"⟩
abbrev cX0_nearestSteps : ByteArray := prog_2_method_32_code
def yX0_nearestSteps : MethodName := ⟨RX0, "nearestSteps", "(I)I"⟩
abbrev cX0_countSteps : ByteArray := prog_2_method_33_code
def yX0_countSteps : MethodName := ⟨RX0, "countSteps", "(LTwoThirds$Row;[I)V"⟩
def RX1 : String := "TwoThirds$Person"
def TX1 : u_T := fun k => match k with
  | 0 => ("TwoThirds$Person", "number", "I", false)
  | 1 => ("TwoThirds$Person", "kind", "I", false)
  | 2 => ("TwoThirds$Person", "stepCount", "I", false)
  | _ => ("TwoThirds$Person", "slip", "I", false)
def tyX1 : Nat → FieldType := fun k => match k with
  | 0 => .int
  | 1 => .int
  | 2 => .int
  | _ => .int
abbrev wsX10 : List Cond := u_ws RX1 TX1 4
theorem nmX1 : ∀ a, a < 4 → ∀ b, b < 4 → a ≠ b → (TX1 a).2.1 ≠ (TX1 b).2.1 := by decide +kernel
theorem tyX1_ok : ∀ k, k < 4 → parseFieldDescriptor (TX1 k).2.2.1 = some (tyX1 k) := by decide +kernel
abbrev cX1_init : ByteArray := prog_3_method_1_code
def yX1_init : MethodName := ⟨RX1, "<init>", "()V"⟩
abbrev cX1_begin : ByteArray := prog_3_method_2_code
def yX1_begin : MethodName := ⟨RX1, "begin", "(IIII)V"⟩
abbrev cX1_takeFrom : ByteArray := prog_3_method_3_code
def yX1_takeFrom : MethodName := ⟨RX1, "takeFrom", "(LTwoThirds$Person;)V"⟩
abbrev cX1_holdsByDraw : ByteArray := prog_3_method_4_code
def yX1_holdsByDraw : MethodName := ⟨RX1, "holdsByDraw", "()Z"⟩
abbrev cX1_depthOfKind : ByteArray := prog_3_method_5_code
def yX1_depthOfKind : MethodName := ⟨RX1, "depthOfKind", "()I"⟩
abbrev cX1_fail : ByteArray := prog_3_method_6_code
def yX1_fail : MethodName := ⟨RX1, "fail", "()V"⟩
def RX2 : String := "TwoThirds$Reader"
def TX2 : u_T := fun k => match k with
  | 0 => ("TwoThirds$Reader", "text", "LTwoThirds$Row;", true)
  | 1 => ("TwoThirds$Reader", "place", "I", false)
  | 2 => ("TwoThirds$Reader", "letter", "I", false)
  | 3 => ("TwoThirds$Reader", "first", "I", false)
  | 4 => ("TwoThirds$Reader", "second", "I", false)
  | 5 => ("TwoThirds$Reader", "third", "I", false)
  | _ => ("TwoThirds$Reader", "number", "I", false)
def tyX2 : Nat → FieldType := fun k => match k with
  | 0 => .object "TwoThirds$Row"
  | 1 => .int
  | 2 => .int
  | 3 => .int
  | 4 => .int
  | 5 => .int
  | _ => .int
abbrev wsX20 : List Cond := u_ws RX2 TX2 7
theorem nmX2 : ∀ a, a < 7 → ∀ b, b < 7 → a ≠ b → (TX2 a).2.1 ≠ (TX2 b).2.1 := by decide +kernel
theorem tyX2_ok : ∀ k, k < 7 → parseFieldDescriptor (TX2 k).2.2.1 = some (tyX2 k) := by decide +kernel
abbrev cX2_init : ByteArray := prog_4_method_1_code
def yX2_init : MethodName := ⟨RX2, "<init>", "(LTwoThirds$Row;)V"⟩
abbrev cX2_countStatements : ByteArray := prog_4_method_2_code
def yX2_countStatements : MethodName := ⟨RX2, "countStatements", "()I"⟩
abbrev cX2_readStatement : ByteArray := prog_4_method_3_code
def yX2_readStatement : MethodName := ⟨RX2, "readStatement", "()Z"⟩
abbrev cX2_readPerson : ByteArray := prog_4_method_4_code
def yX2_readPerson : MethodName := ⟨RX2, "readPerson", "()Z"⟩
abbrev cX2_readShare : ByteArray := prog_4_method_5_code
def yX2_readShare : MethodName := ⟨RX2, "readShare", "()Z"⟩
abbrev cX2_readHigh : ByteArray := prog_4_method_6_code
def yX2_readHigh : MethodName := ⟨RX2, "readHigh", "()Z"⟩
abbrev cX2_takes : ByteArray := prog_4_method_7_code
def yX2_takes : MethodName := ⟨RX2, "takes", "(I)Z"⟩
abbrev cX2_takesDigit : ByteArray := prog_4_method_8_code
def yX2_takesDigit : MethodName := ⟨RX2, "takesDigit", "()Z"⟩
abbrev cX2_takesNumber : ByteArray := prog_4_method_9_code
def yX2_takesNumber : MethodName := ⟨RX2, "takesNumber", "()Z"⟩
def RX3 : String := "TwoThirds$Row"
def TX3 : u_T := fun k => match k with
  | 0 => ("TwoThirds$Row", "elements", "[I", true)
  | 1 => ("TwoThirds$Row", "sort", "I", false)
  | _ => ("TwoThirds$Row", "size", "I", false)
def tyX3 : Nat → FieldType := fun k => match k with
  | 0 => .array .int
  | 1 => .int
  | _ => .int
abbrev wsX30 : List Cond := u_ws RX3 TX3 3
theorem nmX3 : ∀ a, a < 3 → ∀ b, b < 3 → a ≠ b → (TX3 a).2.1 ≠ (TX3 b).2.1 := by decide +kernel
theorem tyX3_ok : ∀ k, k < 3 → parseFieldDescriptor (TX3 k).2.2.1 = some (tyX3 k) := by decide +kernel
abbrev cX3_init : ByteArray := prog_5_method_1_code
def yX3_init : MethodName := ⟨RX3, "<init>", "(I)V"⟩
abbrev cX3_begin : ByteArray := prog_5_method_2_code
def yX3_begin : MethodName := ⟨RX3, "begin", "(II)V"⟩
abbrev cX3_takeFrom : ByteArray := prog_5_method_3_code
def yX3_takeFrom : MethodName := ⟨RX3, "takeFrom", "(LTwoThirds$Row;)V"⟩
abbrev cX3_hasPlace : ByteArray := prog_5_method_4_code
def yX3_hasPlace : MethodName := ⟨RX3, "hasPlace", "(I)Z"⟩
abbrev cX3_hasPlaces : ByteArray := prog_5_method_5_code
def yX3_hasPlaces : MethodName := ⟨RX3, "hasPlaces", "(II)Z"⟩
abbrev cX3_at : ByteArray := prog_5_method_6_code
def yX3_at : MethodName := ⟨RX3, "at", "(I)I"⟩
abbrev cX3_write : ByteArray := prog_5_method_7_code
def yX3_write : MethodName := ⟨RX3, "write", "(II)V"⟩
abbrev cX3_lowestBits : ByteArray := prog_5_method_8_code
def yX3_lowestBits : MethodName := ⟨RX3, "lowestBits", "(I)I"⟩
abbrev cX3_leastNumber : ByteArray := prog_5_method_9_code
def yX3_leastNumber : MethodName := ⟨RX3, "leastNumber", "()I"⟩
abbrev cX3_sum : ByteArray := prog_5_method_10_code
def yX3_sum : MethodName := ⟨RX3, "sum", "()I"⟩
abbrev cX3_countOf : ByteArray := prog_5_method_11_code
def yX3_countOf : MethodName := ⟨RX3, "countOf", "(I)I"⟩
def RX4 : String := "TwoThirds$Shelf"
def TX4 : u_T := fun k => match k with
  | 0 => ("TwoThirds$Shelf", "holding", "I", false)
  | 1 => ("TwoThirds$Shelf", "row", "LTwoThirds$Row;", true)
  | _ => ("TwoThirds$Shelf", "person", "LTwoThirds$Person;", true)
def tyX4 : Nat → FieldType := fun k => match k with
  | 0 => .int
  | 1 => .object "TwoThirds$Row"
  | _ => .object "TwoThirds$Person"
abbrev wsX40 : List Cond := u_ws RX4 TX4 3
theorem nmX4 : ∀ a, a < 3 → ∀ b, b < 3 → a ≠ b → (TX4 a).2.1 ≠ (TX4 b).2.1 := by decide +kernel
theorem tyX4_ok : ∀ k, k < 3 → parseFieldDescriptor (TX4 k).2.2.1 = some (tyX4 k) := by decide +kernel
abbrev cX4_init : ByteArray := prog_6_method_1_code
def yX4_init : MethodName := ⟨RX4, "<init>", "()V"⟩
def RX5 : String := "TwoThirds"
def TX5 : u_T := fun k => match k with
  | 0 => ("TwoThirds", "now", "LTwoThirds$Game;", true)
  | 1 => ("TwoThirds", "kept", "LTwoThirds$Game;", true)
  | 2 => ("TwoThirds", "mind", "LTwoThirds$Game;", true)
  | 3 => ("TwoThirds", "imageTaken", "Z", false)
  | 4 => ("TwoThirds", "shelves", "[LTwoThirds$Shelf;", true)
  | 5 => ("TwoThirds", "counts", "[I", true)
  | _ => ("TwoThirds", "otherCounts", "[I", true)
def tyX5 : Nat → FieldType := fun k => match k with
  | 0 => .object "TwoThirds$Game"
  | 1 => .object "TwoThirds$Game"
  | 2 => .object "TwoThirds$Game"
  | 3 => .boolean
  | 4 => .array (.object "TwoThirds$Shelf")
  | 5 => .array .int
  | _ => .array .int
abbrev wsX50 : List Cond := u_ws RX5 TX5 7
theorem nmX5 : ∀ a, a < 7 → ∀ b, b < 7 → a ≠ b → (TX5 a).2.1 ≠ (TX5 b).2.1 := by decide +kernel
theorem tyX5_ok : ∀ k, k < 7 → parseFieldDescriptor (TX5 k).2.2.1 = some (tyX5 k) := by decide +kernel
abbrev cX5_init : ByteArray := prog_1_method_1_code
def yX5_init : MethodName := ⟨RX5, "<init>", "()V"⟩
abbrev cX5_crowd : ByteArray := prog_1_method_2_code
def yX5_crowd : MethodName := ⟨RX5, "crowd", "(I)I"⟩
abbrev cX5_of : ByteArray := prog_1_method_3_code
def yX5_of : MethodName := ⟨RX5, "of", "(II)I"⟩
abbrev cX5_set : ByteArray := prog_1_method_4_code
def yX5_set : MethodName := ⟨RX5, "set", "(II)I"⟩
abbrev cX5_steps : ByteArray := prog_1_method_5_code
def yX5_steps : MethodName := ⟨RX5, "steps", "(II)I"⟩
abbrev cX5_holds : ByteArray := prog_1_method_6_code
def yX5_holds : MethodName := ⟨RX5, "holds", "(I)I"⟩
abbrev cX5_round : ByteArray := prog_1_method_7_code
def yX5_round : MethodName := ⟨RX5, "round", "()I"⟩
abbrev cX5_anew : ByteArray := prog_1_method_8_code
def yX5_anew : MethodName := ⟨RX5, "anew", "()I"⟩
abbrev cX5_last : ByteArray := prog_1_method_9_code
def yX5_last : MethodName := ⟨RX5, "last", "(I)I"⟩
abbrev cX5_target : ByteArray := prog_1_method_10_code
def yX5_target : MethodName := ⟨RX5, "target", "(I)I"⟩
abbrev cX5_wins : ByteArray := prog_1_method_11_code
def yX5_wins : MethodName := ⟨RX5, "wins", "(II)I"⟩
abbrev cX5_mean : ByteArray := prog_1_method_12_code
def yX5_mean : MethodName := ⟨RX5, "mean", "(III)I"⟩
abbrev cX5_winners : ByteArray := prog_1_method_13_code
def yX5_winners : MethodName := ⟨RX5, "winners", "(II)I"⟩
abbrev cX5_best : ByteArray := prog_1_method_14_code
def yX5_best : MethodName := ⟨RX5, "best", "(I)I"⟩
abbrev cX5_level : ByteArray := prog_1_method_15_code
def yX5_level : MethodName := ⟨RX5, "level", "(I)I"⟩
abbrev cX5_stepsOf : ByteArray := prog_1_method_16_code
def yX5_stepsOf : MethodName := ⟨RX5, "stepsOf", "(I)I"⟩
abbrev cX5_shares : ByteArray := prog_1_method_17_code
def yX5_shares : MethodName := ⟨RX5, "shares", "(II)I"⟩
abbrev cX5_words : ByteArray := prog_1_method_18_code
def yX5_words : MethodName := ⟨RX5, "words", "(III)I"⟩
abbrev cX5_ahead : ByteArray := prog_1_method_19_code
def yX5_ahead : MethodName := ⟨RX5, "ahead", "(III)I"⟩
abbrev cX5_worth : ByteArray := prog_1_method_20_code
def yX5_worth : MethodName := ⟨RX5, "worth", "(II)J"⟩
abbrev cX5_jokers : ByteArray := prog_1_method_21_code
def yX5_jokers : MethodName := ⟨RX5, "jokers", "(II)I"⟩
abbrev cX5_differ : ByteArray := prog_1_method_22_code
def yX5_differ : MethodName := ⟨RX5, "differ", "(II)I"⟩
abbrev cX5_judge : ByteArray := prog_1_method_23_code
def yX5_judge : MethodName := ⟨RX5, "judge", "(I)I"⟩
abbrev cX5_ends : ByteArray := prog_1_method_24_code
def yX5_ends : MethodName := ⟨RX5, "ends", "(I)I"⟩
abbrev cX5_parts : ByteArray := prog_1_method_25_code
def yX5_parts : MethodName := ⟨RX5, "parts", "(III)I"⟩
abbrev cX5_image : ByteArray := prog_1_method_26_code
def yX5_image : MethodName := ⟨RX5, "image", "()I"⟩
abbrev cX5_restore : ByteArray := prog_1_method_27_code
def yX5_restore : MethodName := ⟨RX5, "restore", "()I"⟩
abbrev cX5_count : ByteArray := prog_1_method_28_code
def yX5_count : MethodName := ⟨RX5, "count", "(I)I"⟩
abbrev cX5_keep : ByteArray := prog_1_method_29_code
def yX5_keep : MethodName := ⟨RX5, "keep", "(III)I"⟩
abbrev cX5_row : ByteArray := prog_1_method_30_code
def yX5_row : MethodName := ⟨RX5, "row", "(III)I"⟩
abbrev cX5_put : ByteArray := prog_1_method_31_code
def yX5_put : MethodName := ⟨RX5, "put", "(III)I"⟩
abbrev cX5_element : ByteArray := prog_1_method_32_code
def yX5_element : MethodName := ⟨RX5, "element", "(II)J"⟩
abbrev cX5_copy : ByteArray := prog_1_method_33_code
def yX5_copy : MethodName := ⟨RX5, "copy", "(IIIII)I"⟩
abbrev cX5_depth : ByteArray := prog_1_method_34_code
def yX5_depth : MethodName := ⟨RX5, "depth", "(I)I"⟩
abbrev cX5_toss : ByteArray := prog_1_method_35_code
def yX5_toss : MethodName := ⟨RX5, "toss", "(I)I"⟩
abbrev cX5_shelfAt : ByteArray := prog_1_method_36_code
def yX5_shelfAt : MethodName := ⟨RX5, "shelfAt", "(I)LTwoThirds$Shelf;"⟩
abbrev cX5_rowRefusal : ByteArray := prog_1_method_37_code
def yX5_rowRefusal : MethodName := ⟨RX5, "rowRefusal", "(LTwoThirds$Shelf;)I"⟩
abbrev cX5_personRefusal : ByteArray := prog_1_method_38_code
def yX5_personRefusal : MethodName := ⟨RX5, "personRefusal", "(LTwoThirds$Shelf;)I"⟩
abbrev cX5_refusalUnless : ByteArray := prog_1_method_39_code
def yX5_refusalUnless : MethodName := ⟨RX5, "refusalUnless", "(LTwoThirds$Shelf;I)I"⟩
abbrev cX5_twoRowsRefusal : ByteArray := prog_1_method_40_code
def yX5_twoRowsRefusal : MethodName := ⟨RX5, "twoRowsRefusal", "(LTwoThirds$Shelf;LTwoThirds$Shelf;)I"⟩
abbrev cX5_cardsRefusal : ByteArray := prog_1_method_41_code
def yX5_cardsRefusal : MethodName := ⟨RX5, "cardsRefusal", "(LTwoThirds$Shelf;)I"⟩
abbrev cX5_isOneOfTwo : ByteArray := prog_1_method_42_code
def yX5_isOneOfTwo : MethodName := ⟨RX5, "isOneOfTwo", "(I)Z"⟩
abbrev cX5_isStepCount : ByteArray := prog_1_method_43_code
def yX5_isStepCount : MethodName := ⟨RX5, "isStepCount", "(I)Z"⟩
abbrev cX5_over : ByteArray := prog_1_method_44_code
def yX5_over : MethodName := ⟨RX5, "over", "(II)I"⟩
abbrev cX5_leastPart : ByteArray := prog_1_method_45_code
def yX5_leastPart : MethodName := ⟨RX5, "leastPart", "(III)I"⟩
abbrev cX5_commonMeasure : ByteArray := prog_1_method_46_code
def yX5_commonMeasure : MethodName := ⟨RX5, "commonMeasure", "(II)I"⟩
def RX6 : String := "TwoThirdsModel"
def TX6 : u_T := fun k => match k with
  | 0 => ("TwoThirdsModel", "s", "[I", true)
  | 1 => ("TwoThirdsModel", "image", "[I", true)
  | 2 => ("TwoThirdsModel", "read", "[I", true)
  | 3 => ("TwoThirdsModel", "saved", "[I", true)
  | 4 => ("TwoThirdsModel", "kept", "[I", true)
  | 5 => ("TwoThirdsModel", "sort", "[I", true)
  | 6 => ("TwoThirdsModel", "size", "[I", true)
  | 7 => ("TwoThirdsModel", "element", "[I", true)
  | 8 => ("TwoThirdsModel", "keptDepth", "[I", true)
  | 9 => ("TwoThirdsModel", "keptToss", "[I", true)
  | 10 => ("TwoThirdsModel", "hasImage", "Z", false)
  | 11 => ("TwoThirdsModel", "thrown", "I", false)
  | 12 => ("TwoThirdsModel", "pos", "I", false)
  | 13 => ("TwoThirdsModel", "base", "I", false)
  | 14 => ("TwoThirdsModel", "end", "I", false)
  | 15 => ("TwoThirdsModel", "told", "I", false)
  | 16 => ("TwoThirdsModel", "numbers", "[I", true)
  | 17 => ("TwoThirdsModel", "cards", "[I", true)
  | 18 => ("TwoThirdsModel", "hand", "[I", true)
  | 19 => ("TwoThirdsModel", "hands", "I", false)
  | _ => ("TwoThirdsModel", "counts", "[I", true)
def tyX6 : Nat → FieldType := fun k => match k with
  | 0 => .array .int
  | 1 => .array .int
  | 2 => .array .int
  | 3 => .array .int
  | 4 => .array .int
  | 5 => .array .int
  | 6 => .array .int
  | 7 => .array .int
  | 8 => .array .int
  | 9 => .array .int
  | 10 => .boolean
  | 11 => .int
  | 12 => .int
  | 13 => .int
  | 14 => .int
  | 15 => .int
  | 16 => .array .int
  | 17 => .array .int
  | 18 => .array .int
  | 19 => .int
  | _ => .array .int
abbrev wsX60 : List Cond := u_ws RX6 TX6 21
theorem nmX6 : ∀ a, a < 21 → ∀ b, b < 21 → a ≠ b → (TX6 a).2.1 ≠ (TX6 b).2.1 := by decide +kernel
theorem tyX6_ok : ∀ k, k < 21 → parseFieldDescriptor (TX6 k).2.2.1 = some (tyX6 k) := by decide +kernel
abbrev cX6_init : ByteArray := prog_8_method_1_code
def yX6_init : MethodName := ⟨RX6, "<init>", "()V"⟩
abbrev cX6_thrown : ByteArray := prog_8_method_2_code
def yX6_thrown : MethodName := ⟨RX6, "thrown", "()I"⟩
abbrev cX6_isIn : ByteArray := prog_8_method_3_code
def yX6_isIn : MethodName := ⟨RX6, "isIn", "(JJJ)Z"⟩
abbrev cX6_isPerson : ByteArray := prog_8_method_4_code
def yX6_isPerson : MethodName := ⟨RX6, "isPerson", "(I)Z"⟩
abbrev cX6_isShelf : ByteArray := prog_8_method_5_code
def yX6_isShelf : MethodName := ⟨RX6, "isShelf", "(I)Z"⟩
abbrev cX6_get : ByteArray := prog_8_method_6_code
def yX6_get : MethodName := ⟨RX6, "get", "(II)I"⟩
abbrev cX6_becomes : ByteArray := prog_8_method_7_code
def yX6_becomes : MethodName := ⟨RX6, "becomes", "(II)I"⟩
abbrev cX6_here : ByteArray := prog_8_method_8_code
def yX6_here : MethodName := ⟨RX6, "here", "()I"⟩
abbrev cX6_isDigit : ByteArray := prog_8_method_9_code
def yX6_isDigit : MethodName := ⟨RX6, "isDigit", "()Z"⟩
abbrev cX6_takes : ByteArray := prog_8_method_10_code
def yX6_takes : MethodName := ⟨RX6, "takes", "(I)Z"⟩
abbrev cX6_readsDigit : ByteArray := prog_8_method_11_code
def yX6_readsDigit : MethodName := ⟨RX6, "readsDigit", "()Z"⟩
abbrev cX6_readsNumber : ByteArray := prog_8_method_12_code
def yX6_readsNumber : MethodName := ⟨RX6, "readsNumber", "()Z"⟩
abbrev cX6_readsStatement : ByteArray := prog_8_method_13_code
def yX6_readsStatement : MethodName := ⟨RX6, "readsStatement", "()Z"⟩
abbrev cX6_comes : ByteArray := prog_8_method_14_code
def yX6_comes : MethodName := ⟨RX6, "comes", "(I)Z"⟩
abbrev cX6_isShare : ByteArray := prog_8_method_15_code
def yX6_isShare : MethodName := ⟨RX6, "isShare", "(II)Z"⟩
abbrev cX6_wrongRow : ByteArray := prog_8_method_16_code
def yX6_wrongRow : MethodName := ⟨RX6, "wrongRow", "(II)I"⟩
abbrev cX6_crowd : ByteArray := prog_8_method_17_code
def yX6_crowd : MethodName := ⟨RX6, "crowd", "(I)I"⟩
abbrev cX6_of : ByteArray := prog_8_method_18_code
def yX6_of : MethodName := ⟨RX6, "of", "(II)I"⟩
abbrev cX6_isValue : ByteArray := prog_8_method_19_code
def yX6_isValue : MethodName := ⟨RX6, "isValue", "(II)Z"⟩
abbrev cX6_set : ByteArray := prog_8_method_20_code
def yX6_set : MethodName := ⟨RX6, "set", "(II)I"⟩
abbrev cX6_steps : ByteArray := prog_8_method_21_code
def yX6_steps : MethodName := ⟨RX6, "steps", "(II)I"⟩
abbrev cX6_held : ByteArray := prog_8_method_22_code
def yX6_held : MethodName := ⟨RX6, "held", "(I)I"⟩
abbrev cX6_shareOf : ByteArray := prog_8_method_23_code
def yX6_shareOf : MethodName := ⟨RX6, "shareOf", "(III)I"⟩
abbrev cX6_levelBy : ByteArray := prog_8_method_24_code
def yX6_levelBy : MethodName := ⟨RX6, "levelBy", "(III)I"⟩
abbrev cX6_mixed : ByteArray := prog_8_method_25_code
def yX6_mixed : MethodName := ⟨RX6, "mixed", "(III)I"⟩
abbrev cX6_lastSum : ByteArray := prog_8_method_26_code
def yX6_lastSum : MethodName := ⟨RX6, "lastSum", "()I"⟩
abbrev cX6_learnt : ByteArray := prog_8_method_27_code
def yX6_learnt : MethodName := ⟨RX6, "learnt", "(III)I"⟩
abbrev cX6_holdsBy : ByteArray := prog_8_method_28_code
def yX6_holdsBy : MethodName := ⟨RX6, "holdsBy", "(III)I"⟩
abbrev cX6_isDrawn : ByteArray := prog_8_method_29_code
def yX6_isDrawn : MethodName := ⟨RX6, "isDrawn", "(I)Z"⟩
abbrev cX6_holds : ByteArray := prog_8_method_30_code
def yX6_holds : MethodName := ⟨RX6, "holds", "(I)I"⟩
abbrev cX6_draw : ByteArray := prog_8_method_31_code
def yX6_draw : MethodName := ⟨RX6, "draw", "(I)I"⟩
abbrev cX6_cardOf : ByteArray := prog_8_method_32_code
def yX6_cardOf : MethodName := ⟨RX6, "cardOf", "(I)I"⟩
abbrev cX6_goesRound : ByteArray := prog_8_method_33_code
def yX6_goesRound : MethodName := ⟨RX6, "goesRound", "()V"⟩
abbrev cX6_round : ByteArray := prog_8_method_34_code
def yX6_round : MethodName := ⟨RX6, "round", "()I"⟩
abbrev cX6_anew : ByteArray := prog_8_method_35_code
def yX6_anew : MethodName := ⟨RX6, "anew", "()I"⟩
abbrev cX6_takesLast : ByteArray := prog_8_method_36_code
def yX6_takesLast : MethodName := ⟨RX6, "takesLast", "()V"⟩
abbrev cX6_sumOf : ByteArray := prog_8_method_37_code
def yX6_sumOf : MethodName := ⟨RX6, "sumOf", "()I"⟩
abbrev cX6_amount : ByteArray := prog_8_method_38_code
def yX6_amount : MethodName := ⟨RX6, "amount", "(I)I"⟩
abbrev cX6_farOf : ByteArray := prog_8_method_39_code
def yX6_farOf : MethodName := ⟨RX6, "farOf", "(III)I"⟩
abbrev cX6_wins : ByteArray := prog_8_method_40_code
def yX6_wins : MethodName := ⟨RX6, "wins", "(III)Z"⟩
abbrev cX6_bestOf : ByteArray := prog_8_method_41_code
def yX6_bestOf : MethodName := ⟨RX6, "bestOf", "(I)I"⟩
abbrev cX6_winnersOf : ByteArray := prog_8_method_42_code
def yX6_winnersOf : MethodName := ⟨RX6, "winnersOf", "(I)I"⟩
abbrev cX6_last : ByteArray := prog_8_method_43_code
def yX6_last : MethodName := ⟨RX6, "last", "(I)I"⟩
abbrev cX6_common : ByteArray := prog_8_method_44_code
def yX6_common : MethodName := ⟨RX6, "common", "(JJ)J"⟩
abbrev cX6_partOf : ByteArray := prog_8_method_45_code
def yX6_partOf : MethodName := ⟨RX6, "partOf", "(JJI)J"⟩
abbrev cX6_targetOf : ByteArray := prog_8_method_46_code
def yX6_targetOf : MethodName := ⟨RX6, "targetOf", "(I)J"⟩
abbrev cX6_target : ByteArray := prog_8_method_47_code
def yX6_target : MethodName := ⟨RX6, "target", "(I)I"⟩
abbrev cX6_wins_ : ByteArray := prog_8_method_48_code
def yX6_wins_ : MethodName := ⟨RX6, "wins", "(II)I"⟩
abbrev cX6_takesRow : ByteArray := prog_8_method_49_code
def yX6_takesRow : MethodName := ⟨RX6, "takesRow", "(I)I"⟩
abbrev cX6_mean : ByteArray := prog_8_method_50_code
def yX6_mean : MethodName := ⟨RX6, "mean", "(III)I"⟩
abbrev cX6_winners : ByteArray := prog_8_method_51_code
def yX6_winners : MethodName := ⟨RX6, "winners", "(II)I"⟩
abbrev cX6_best : ByteArray := prog_8_method_52_code
def yX6_best : MethodName := ⟨RX6, "best", "(I)I"⟩
abbrev cX6_levelOf : ByteArray := prog_8_method_53_code
def yX6_levelOf : MethodName := ⟨RX6, "levelOf", "(I)I"⟩
abbrev cX6_level : ByteArray := prog_8_method_54_code
def yX6_level : MethodName := ⟨RX6, "level", "(I)I"⟩
abbrev cX6_stepsFor : ByteArray := prog_8_method_55_code
def yX6_stepsFor : MethodName := ⟨RX6, "stepsFor", "(I)I"⟩
abbrev cX6_stepsOf : ByteArray := prog_8_method_56_code
def yX6_stepsOf : MethodName := ⟨RX6, "stepsOf", "(I)I"⟩
abbrev cX6_sharesOf : ByteArray := prog_8_method_57_code
def yX6_sharesOf : MethodName := ⟨RX6, "sharesOf", "(I)I"⟩
abbrev cX6_shares : ByteArray := prog_8_method_58_code
def yX6_shares : MethodName := ⟨RX6, "shares", "(II)I"⟩
abbrev cX6_words : ByteArray := prog_8_method_59_code
def yX6_words : MethodName := ⟨RX6, "words", "(III)I"⟩
abbrev cX6_ahead : ByteArray := prog_8_method_60_code
def yX6_ahead : MethodName := ⟨RX6, "ahead", "(III)I"⟩
abbrev cX6_worth : ByteArray := prog_8_method_61_code
def yX6_worth : MethodName := ⟨RX6, "worth", "(II)J"⟩
abbrev cX6_jokers : ByteArray := prog_8_method_62_code
def yX6_jokers : MethodName := ⟨RX6, "jokers", "(II)I"⟩
abbrev cX6_differ : ByteArray := prog_8_method_63_code
def yX6_differ : MethodName := ⟨RX6, "differ", "(II)I"⟩
abbrev cX6_leastOf : ByteArray := prog_8_method_64_code
def yX6_leastOf : MethodName := ⟨RX6, "leastOf", "(I)I"⟩
abbrev cX6_judge : ByteArray := prog_8_method_65_code
def yX6_judge : MethodName := ⟨RX6, "judge", "(I)I"⟩
abbrev cX6_ends : ByteArray := prog_8_method_66_code
def yX6_ends : MethodName := ⟨RX6, "ends", "(I)I"⟩
abbrev cX6_parts : ByteArray := prog_8_method_67_code
def yX6_parts : MethodName := ⟨RX6, "parts", "(III)I"⟩
abbrev cX6_image : ByteArray := prog_8_method_68_code
def yX6_image : MethodName := ⟨RX6, "image", "()I"⟩
abbrev cX6_restore : ByteArray := prog_8_method_69_code
def yX6_restore : MethodName := ⟨RX6, "restore", "()I"⟩
abbrev cX6_count : ByteArray := prog_8_method_70_code
def yX6_count : MethodName := ⟨RX6, "count", "(I)I"⟩
abbrev cX6_depthOf : ByteArray := prog_8_method_71_code
def yX6_depthOf : MethodName := ⟨RX6, "depthOf", "(I)I"⟩
abbrev cX6_keep : ByteArray := prog_8_method_72_code
def yX6_keep : MethodName := ⟨RX6, "keep", "(III)I"⟩
abbrev cX6_row : ByteArray := prog_8_method_73_code
def yX6_row : MethodName := ⟨RX6, "row", "(III)I"⟩
abbrev cX6_put : ByteArray := prog_8_method_74_code
def yX6_put : MethodName := ⟨RX6, "put", "(III)I"⟩
abbrev cX6_element : ByteArray := prog_8_method_75_code
def yX6_element : MethodName := ⟨RX6, "element", "(II)J"⟩
abbrev cX6_copy : ByteArray := prog_8_method_76_code
def yX6_copy : MethodName := ⟨RX6, "copy", "(IIIII)I"⟩
abbrev cX6_wrongKept : ByteArray := prog_8_method_77_code
def yX6_wrongKept : MethodName := ⟨RX6, "wrongKept", "(I)I"⟩
abbrev cX6_depth : ByteArray := prog_8_method_78_code
def yX6_depth : MethodName := ⟨RX6, "depth", "(I)I"⟩
abbrev cX6_toss : ByteArray := prog_8_method_79_code
def yX6_toss : MethodName := ⟨RX6, "toss", "(I)I"⟩
def RJx145de : String := "java/io/Serializable"
def TJx145de : u_T := fun k => match k with
  | _ => ("", "", "", false)
def tyJx145de : Nat → FieldType := fun k => match k with
  | _ => .int
abbrev wsJx145de0 : List Cond := u_ws RJx145de TJx145de 0
theorem nmJx145de : ∀ a, a < 0 → ∀ b, b < 0 → a ≠ b → (TJx145de a).2.1 ≠ (TJx145de b).2.1 := by decide +kernel
theorem tyJx145de_ok : ∀ k, k < 0 → parseFieldDescriptor (TJx145de k).2.2.1 = some (tyJx145de k) := by decide +kernel
def RJ9 : String := "java/lang/Math"
def TJ9 : u_T := fun k => match k with
  | _ => ("", "", "", false)
def tyJ9 : Nat → FieldType := fun k => match k with
  | _ => .int
abbrev wsJ90 : List Cond := u_ws RJ9 TJ9 0
theorem nmJ9 : ∀ a, a < 0 → ∀ b, b < 0 → a ≠ b → (TJ9 a).2.1 ≠ (TJ9 b).2.1 := by decide +kernel
theorem tyJ9_ok : ∀ k, k < 0 → parseFieldDescriptor (TJ9 k).2.2.1 = some (tyJ9 k) := by decide +kernel
abbrev cJ9_abs_0f7a4 : ByteArray := prog_12_method_59_code
def yJ9_abs_0f7a4 : MethodName := ⟨RJ9, "abs", "(I)I"⟩
abbrev cJ9_min_7cf53 : ByteArray := prog_12_method_69_code
def yJ9_min_7cf53 : MethodName := ⟨RJ9, "min", "(II)I"⟩
def RJ0 : String := "java/lang/String"
def TJ0 : u_T := fun k => match k with
  | _ => ("", "", "", false)
def tyJ0 : Nat → FieldType := fun k => match k with
  | _ => .int
abbrev wsJ00 : List Cond := u_ws RJ0 TJ0 0
theorem nmJ0 : ∀ a, a < 0 → ∀ b, b < 0 → a ≠ b → (TJ0 a).2.1 ≠ (TJ0 b).2.1 := by decide +kernel
theorem tyJ0_ok : ∀ k, k < 0 → parseFieldDescriptor (TJ0 k).2.2.1 = some (tyJ0 k) := by decide +kernel
def RJ10 : String := "java/lang/System"
def TJ10 : u_T := fun k => match k with
  | _ => ("", "", "", false)
def tyJ10 : Nat → FieldType := fun k => match k with
  | _ => .int
abbrev wsJ100 : List Cond := u_ws RJ10 TJ10 0
theorem nmJ10 : ∀ a, a < 0 → ∀ b, b < 0 → a ≠ b → (TJ10 a).2.1 ≠ (TJ10 b).2.1 := by decide +kernel
theorem tyJ10_ok : ∀ k, k < 0 → parseFieldDescriptor (TJ10 k).2.2.1 = some (tyJ10 k) := by decide +kernel
def RJ7 : String := "java/util/Arrays"
def TJ7 : u_T := fun k => match k with
  | _ => ("", "", "", false)
def tyJ7 : Nat → FieldType := fun k => match k with
  | _ => .int
abbrev wsJ70 : List Cond := u_ws RJ7 TJ7 0
theorem nmJ7 : ∀ a, a < 0 → ∀ b, b < 0 → a ≠ b → (TJ7 a).2.1 ≠ (TJ7 b).2.1 := by decide +kernel
theorem tyJ7_ok : ∀ k, k < 0 → parseFieldDescriptor (TJ7 k).2.2.1 = some (tyJ7 k) := by decide +kernel
abbrev cJ7_fill_53178 : ByteArray := prog_18_method_103_code
def yJ7_fill_53178 : MethodName := ⟨RJ7, "fill", "([II)V"⟩
def RL : String := "TwoThirdsLaw"
abbrev cL_element : ByteArray := method_3_code
def yL_element : MethodName := ⟨RL, "element", "(LTwoThirds;II[J)I"⟩
abbrev cL_law : ByteArray := code
def yL_law : MethodName := ⟨RL, "law", "([I)Z"⟩
def wsX1_init : List Cond := .code yX1_init cX1_init 1 none :: ([.methodLink RX1 3 objectInit, .instanceMethod objectInit, .code objectInit ⟨#[0xb1]⟩ 1 none])
def wsX3_init : List Cond := .code yX3_init cX3_init 2 none :: ([.methodLink RX3 3 objectInit, .instanceMethod objectInit, .code objectInit ⟨#[0xb1]⟩ 1 none, .arrayClass .int, .fieldLink RX3 9 "TwoThirds$Row" "elements" "[I"] ++ wsX30)
def wsX0_init_r1 : List Cond := [Cond.methodLink RX0 3 objectInit, Cond.instanceMethod objectInit, Cond.code objectInit ⟨#[0xb1]⟩ 1 none, Cond.fieldLink RX0 9 "TwoThirds$Game" "up" "I", Cond.fieldLink RX0 15 "TwoThirds$Game" "down" "I", Cond.fieldLink RX0 18 "TwoThirds$Game" "high" "I", Cond.fieldLink RX0 21 "TwoThirds$Game" "prize" "I", Cond.fieldLink RX0 24 "TwoThirds$Game" "z" "I", Cond.classLink RX0 27 RX1, Cond.fieldLink RX0 29 "TwoThirds$Game" "persons" "[LTwoThirds$Person;", Cond.instantiable RX1 4, Cond.initialized RX1, Cond.classLink RX0 34 RX3, Cond.instantiable RX3 3, Cond.initialized RX3, Cond.fieldLink RX0 39 "TwoThirds$Game" "cards" "LTwoThirds$Row;", Cond.methodLink RX0 33 yX1_init, Cond.instanceMethod yX1_init, Cond.code yX1_init cX1_init 1 none, Cond.methodLink RX1 3 objectInit, Cond.methodLink RX0 36 yX3_init, Cond.instanceMethod yX3_init, Cond.code yX3_init cX3_init 2 none, Cond.methodLink RX3 3 objectInit]
def wsX0_init_r2 : List Cond := [Cond.arrayClass .int, Cond.fieldLink RX3 9 "TwoThirds$Row" "elements" "[I"]
def wsX0_init : List Cond := .code yX0_init cX0_init 2 none :: ((wsX0_init_r1 ++ wsX0_init_r2) ++ wsX00 ++ wsX10 ++ wsX30)
def wsX1_begin : List Cond := .code yX1_begin cX1_begin 5 none :: ([.fieldLink RX1 9 "TwoThirds$Person" "number" "I", .fieldLink RX1 15 "TwoThirds$Person" "kind" "I", .fieldLink RX1 18 "TwoThirds$Person" "stepCount" "I", .fieldLink RX1 21 "TwoThirds$Person" "slip" "I"] ++ wsX10)
def wsX1_takeFrom : List Cond := .code yX1_takeFrom cX1_takeFrom 2 none :: ([.fieldLink RX1 9 "TwoThirds$Person" "number" "I", .fieldLink RX1 15 "TwoThirds$Person" "kind" "I", .fieldLink RX1 18 "TwoThirds$Person" "stepCount" "I", .fieldLink RX1 21 "TwoThirds$Person" "slip" "I", .methodLink RX1 24 yX1_begin, .instanceMethod yX1_begin, .selects RX1 yX1_begin yX1_begin, .initialized RX1, .code yX1_begin cX1_begin 5 none] ++ wsX10)
def wsJ7_fill_53178 : List Cond := .code yJ7_fill_53178 cJ7_fill_53178 4 none :: ([])
def wsX3_begin : List Cond := .code yX3_begin cX3_begin 3 none :: ([.fieldLink RX3 15 "TwoThirds$Row" "sort" "I", .fieldLink RX3 9 "TwoThirds$Row" "elements" "[I", .methodLink RX3 19 Lib.Math.min.name, .static Lib.Math.min.name, .initialized "java/lang/Math", .code Lib.Math.min.name Lib.Math.min.code 2 (some .int), .fieldLink RX3 25 "TwoThirds$Row" "size" "I", .methodLink RX3 28 yJ7_fill_53178, .static yJ7_fill_53178, .initialized RJ7, .code yJ7_fill_53178 cJ7_fill_53178 4 none] ++ wsX30)
def wsX3_at : List Cond := .code yX3_at cX3_at 2 (some .int) :: ([.fieldLink RX3 25 "TwoThirds$Row" "size" "I", .fieldLink RX3 9 "TwoThirds$Row" "elements" "[I"] ++ wsX30)
def wsX3_takeFrom : List Cond := .code yX3_takeFrom cX3_takeFrom 3 none :: ([.fieldLink RX3 15 "TwoThirds$Row" "sort" "I", .fieldLink RX3 25 "TwoThirds$Row" "size" "I", .fieldLink RX3 9 "TwoThirds$Row" "elements" "[I", .methodLink RX3 34 yX3_begin, .instanceMethod yX3_begin, .selects RX3 yX3_begin yX3_begin, .initialized RX3, .code yX3_begin cX3_begin 3 none, .methodLink RX3 19 Lib.Math.min.name, .static Lib.Math.min.name, .initialized "java/lang/Math", .code Lib.Math.min.name Lib.Math.min.code 2 (some .int), .methodLink RX3 28 yJ7_fill_53178, .static yJ7_fill_53178, .initialized RJ7, .code yJ7_fill_53178 cJ7_fill_53178 4 none, .methodLink RX3 38 yX3_at, .instanceMethod yX3_at, .selects RX3 yX3_at yX3_at, .code yX3_at cX3_at 2 (some .int)] ++ wsX30)
def wsX0_takeFrom_r1 : List Cond := [Cond.fieldLink RX0 9 "TwoThirds$Game" "up" "I", Cond.fieldLink RX0 15 "TwoThirds$Game" "down" "I", Cond.fieldLink RX0 18 "TwoThirds$Game" "high" "I", Cond.fieldLink RX0 21 "TwoThirds$Game" "prize" "I", Cond.fieldLink RX0 24 "TwoThirds$Game" "z" "I", Cond.fieldLink RX0 43 "TwoThirds$Game" "rounds" "I", Cond.fieldLink RX0 46 "TwoThirds$Game" "people" "I", Cond.fieldLink RX0 29 "TwoThirds$Game" "persons" "[LTwoThirds$Person;", Cond.fieldLink RX0 39 "TwoThirds$Game" "cards" "LTwoThirds$Row;", Cond.fieldLink RX0 56 "TwoThirds$Game" "lastSum" "I", Cond.methodLink RX0 49 yX1_takeFrom, Cond.instanceMethod yX1_takeFrom, Cond.selects RX1 yX1_takeFrom yX1_takeFrom, Cond.initialized RX1, Cond.code yX1_takeFrom cX1_takeFrom 2 none, Cond.fieldLink RX1 9 "TwoThirds$Person" "number" "I", Cond.fieldLink RX1 15 "TwoThirds$Person" "kind" "I", Cond.fieldLink RX1 18 "TwoThirds$Person" "stepCount" "I", Cond.fieldLink RX1 21 "TwoThirds$Person" "slip" "I", Cond.methodLink RX1 24 yX1_begin, Cond.instanceMethod yX1_begin, Cond.selects RX1 yX1_begin yX1_begin, Cond.code yX1_begin cX1_begin 5 none, Cond.methodLink RX0 53 yX3_takeFrom]
def wsX0_takeFrom_r2 : List Cond := [Cond.instanceMethod yX3_takeFrom, Cond.selects RX3 yX3_takeFrom yX3_takeFrom, Cond.initialized RX3, Cond.code yX3_takeFrom cX3_takeFrom 3 none, Cond.fieldLink RX3 15 "TwoThirds$Row" "sort" "I", Cond.fieldLink RX3 25 "TwoThirds$Row" "size" "I", Cond.fieldLink RX3 9 "TwoThirds$Row" "elements" "[I", Cond.methodLink RX3 34 yX3_begin, Cond.instanceMethod yX3_begin, Cond.selects RX3 yX3_begin yX3_begin, Cond.code yX3_begin cX3_begin 3 none, Cond.methodLink RX3 19 Lib.Math.min.name, Cond.static Lib.Math.min.name, Cond.initialized "java/lang/Math", Cond.code Lib.Math.min.name Lib.Math.min.code 2 (some .int), Cond.methodLink RX3 28 yJ7_fill_53178, Cond.static yJ7_fill_53178, Cond.initialized RJ7, Cond.code yJ7_fill_53178 cJ7_fill_53178 4 none, Cond.methodLink RX3 38 yX3_at, Cond.instanceMethod yX3_at, Cond.selects RX3 yX3_at yX3_at, Cond.code yX3_at cX3_at 2 (some .int)]
def wsX0_takeFrom : List Cond := .code yX0_takeFrom cX0_takeFrom 3 none :: ((wsX0_takeFrom_r1 ++ wsX0_takeFrom_r2) ++ wsX00 ++ wsX10 ++ wsX30)
def wsX0_personAt : List Cond := .code yX0_personAt cX0_personAt 2 (some (.object "TwoThirds$Person")) :: ([.fieldLink RX0 46 "TwoThirds$Game" "people" "I", .fieldLink RX0 29 "TwoThirds$Game" "persons" "[LTwoThirds$Person;"] ++ wsX00)
def wsX0_allSteps : List Cond := .code yX0_allSteps cX0_allSteps 3 (some .int) :: ([.fieldLink RX0 46 "TwoThirds$Game" "people" "I", .fieldLink RX0 29 "TwoThirds$Game" "persons" "[LTwoThirds$Person;", .fieldLink RX0 59 "TwoThirds$Person" "stepCount" "I"] ++ wsX00 ++ wsX10)
def wsX5_isOneOfTwo : List Cond := .code yX5_isOneOfTwo cX5_isOneOfTwo 1 (some .boolean) :: ([])
def wsX0_canBe : List Cond := .code yX0_canBe cX0_canBe 2 (some .boolean) :: ([.static yX5_isOneOfTwo, .initialized RX5, .code yX5_isOneOfTwo cX5_isOneOfTwo 1 (some .boolean)])
def wsX0_setting : List Cond := .code yX0_setting cX0_setting 2 (some .int) :: ([.fieldLink RX0 9 "TwoThirds$Game" "up" "I", .fieldLink RX0 15 "TwoThirds$Game" "down" "I", .fieldLink RX0 18 "TwoThirds$Game" "high" "I", .fieldLink RX0 21 "TwoThirds$Game" "prize" "I", .fieldLink RX0 24 "TwoThirds$Game" "z" "I"] ++ wsX00)
def wsX0_change : List Cond := .code yX0_change cX0_change 3 none :: ([.fieldLink RX0 9 "TwoThirds$Game" "up" "I", .fieldLink RX0 15 "TwoThirds$Game" "down" "I", .fieldLink RX0 18 "TwoThirds$Game" "high" "I", .fieldLink RX0 21 "TwoThirds$Game" "prize" "I", .fieldLink RX0 24 "TwoThirds$Game" "z" "I"] ++ wsX00)
def wsX5_isStepCount : List Cond := .code yX5_isStepCount cX5_isStepCount 1 (some .boolean) :: ([])
def wsX0_addPerson : List Cond := .code yX0_addPerson cX0_addPerson 4 (some .boolean) :: ([.fieldLink RX0 46 "TwoThirds$Game" "people" "I", .fieldLink RX0 29 "TwoThirds$Game" "persons" "[LTwoThirds$Person;", .static yX5_isStepCount, .initialized RX5, .code yX5_isStepCount cX5_isStepCount 1 (some .boolean), .methodLink RX0 98 yX1_begin, .instanceMethod yX1_begin, .selects RX1 yX1_begin yX1_begin, .initialized RX1, .code yX1_begin cX1_begin 5 none, .fieldLink RX1 9 "TwoThirds$Person" "number" "I", .fieldLink RX1 15 "TwoThirds$Person" "kind" "I", .fieldLink RX1 18 "TwoThirds$Person" "stepCount" "I", .fieldLink RX1 21 "TwoThirds$Person" "slip" "I"] ++ wsX00 ++ wsX10)
def wsX0_changeIfCanBe : List Cond := .code yX0_changeIfCanBe cX0_changeIfCanBe 3 (some .boolean) :: ([.methodLink RX0 88 yX0_canBe, .static yX0_canBe, .initialized RX0, .code yX0_canBe cX0_canBe 2 (some .boolean), .static yX5_isOneOfTwo, .initialized RX5, .code yX5_isOneOfTwo cX5_isOneOfTwo 1 (some .boolean), .methodLink RX0 91 yX0_change, .instanceMethod yX0_change, .selects RX0 yX0_change yX0_change, .code yX0_change cX0_change 3 none, .fieldLink RX0 9 "TwoThirds$Game" "up" "I", .fieldLink RX0 15 "TwoThirds$Game" "down" "I", .fieldLink RX0 18 "TwoThirds$Game" "high" "I", .fieldLink RX0 21 "TwoThirds$Game" "prize" "I", .fieldLink RX0 24 "TwoThirds$Game" "z" "I"] ++ wsX00)
def wsX0_follows_r1 : List Cond := [Cond.fieldLink RX0 43 "TwoThirds$Game" "rounds" "I", Cond.fieldLink RX0 66 "TwoThirds$Reader" "letter" "I", Cond.fieldLink RX0 71 "TwoThirds$Reader" "first" "I", Cond.fieldLink RX0 74 "TwoThirds$Reader" "second" "I", Cond.fieldLink RX0 77 "TwoThirds$Reader" "third" "I", Cond.methodLink RX0 80 yX0_addPerson, Cond.instanceMethod yX0_addPerson, Cond.selects RX0 yX0_addPerson yX0_addPerson, Cond.initialized RX0, Cond.code yX0_addPerson cX0_addPerson 4 (some .boolean), Cond.fieldLink RX0 46 "TwoThirds$Game" "people" "I", Cond.fieldLink RX0 29 "TwoThirds$Game" "persons" "[LTwoThirds$Person;", Cond.static yX5_isStepCount, Cond.initialized RX5, Cond.code yX5_isStepCount cX5_isStepCount 1 (some .boolean), Cond.methodLink RX0 98 yX1_begin, Cond.instanceMethod yX1_begin, Cond.selects RX1 yX1_begin yX1_begin, Cond.initialized RX1, Cond.code yX1_begin cX1_begin 5 none, Cond.fieldLink RX1 9 "TwoThirds$Person" "number" "I", Cond.fieldLink RX1 15 "TwoThirds$Person" "kind" "I", Cond.fieldLink RX1 18 "TwoThirds$Person" "stepCount" "I", Cond.fieldLink RX1 21 "TwoThirds$Person" "slip" "I"]
def wsX0_follows_r2 : List Cond := [Cond.methodLink RX0 84 yX0_changeIfCanBe, Cond.instanceMethod yX0_changeIfCanBe, Cond.selects RX0 yX0_changeIfCanBe yX0_changeIfCanBe, Cond.code yX0_changeIfCanBe cX0_changeIfCanBe 3 (some .boolean), Cond.methodLink RX0 88 yX0_canBe, Cond.static yX0_canBe, Cond.code yX0_canBe cX0_canBe 2 (some .boolean), Cond.static yX5_isOneOfTwo, Cond.code yX5_isOneOfTwo cX5_isOneOfTwo 1 (some .boolean), Cond.methodLink RX0 91 yX0_change, Cond.instanceMethod yX0_change, Cond.selects RX0 yX0_change yX0_change, Cond.code yX0_change cX0_change 3 none, Cond.fieldLink RX0 9 "TwoThirds$Game" "up" "I", Cond.fieldLink RX0 15 "TwoThirds$Game" "down" "I", Cond.fieldLink RX0 18 "TwoThirds$Game" "high" "I", Cond.fieldLink RX0 21 "TwoThirds$Game" "prize" "I", Cond.fieldLink RX0 24 "TwoThirds$Game" "z" "I"]
def wsX0_follows : List Cond := .code yX0_follows cX0_follows 2 (some .boolean) :: ((wsX0_follows_r1 ++ wsX0_follows_r2) ++ wsX00 ++ wsX20 ++ wsX10)
def wsX0_drawBelow : List Cond := .code yX0_drawBelow cX0_drawBelow 3 (some .int) :: ([.fieldLink RX0 24 "TwoThirds$Game" "z" "I", .constant RX0 102 (1103515245), .constant RX0 103 (2147483647), .constant RX0 104 (65536)] ++ wsX00)
def wsX0_heldToCards : List Cond := .code yX0_heldToCards cX0_heldToCards 2 (some .int) :: ([.fieldLink RX0 18 "TwoThirds$Game" "high" "I"] ++ wsX00)
def wsX0_middle : List Cond := .code yX0_middle cX0_middle 1 (some .int) :: ([.fieldLink RX0 18 "TwoThirds$Game" "high" "I"] ++ wsX00)
def wsX5_over : List Cond := .code yX5_over cX5_over 2 (some .int) :: ([])
def wsX0_shareOf : List Cond := .code yX0_shareOf cX0_shareOf 2 (some .int) :: ([.fieldLink RX0 9 "TwoThirds$Game" "up" "I", .fieldLink RX0 15 "TwoThirds$Game" "down" "I", .static yX5_over, .initialized RX5, .code yX5_over cX5_over 2 (some .int), .methodLink RX0 109 yX0_heldToCards, .instanceMethod yX0_heldToCards, .selects RX0 yX0_heldToCards yX0_heldToCards, .initialized RX0, .code yX0_heldToCards cX0_heldToCards 2 (some .int), .fieldLink RX0 18 "TwoThirds$Game" "high" "I"] ++ wsX00)
def wsX0_sharedTimes : List Cond := .code yX0_sharedTimes cX0_sharedTimes 5 (some .int) :: ([.methodLink RX0 120 yX0_shareOf, .instanceMethod yX0_shareOf, .selects RX0 yX0_shareOf yX0_shareOf, .initialized RX0, .code yX0_shareOf cX0_shareOf 2 (some .int), .fieldLink RX0 9 "TwoThirds$Game" "up" "I", .fieldLink RX0 15 "TwoThirds$Game" "down" "I", .static yX5_over, .initialized RX5, .code yX5_over cX5_over 2 (some .int), .methodLink RX0 109 yX0_heldToCards, .instanceMethod yX0_heldToCards, .selects RX0 yX0_heldToCards yX0_heldToCards, .code yX0_heldToCards cX0_heldToCards 2 (some .int), .fieldLink RX0 18 "TwoThirds$Game" "high" "I"] ++ wsX00)
def wsX0_stepped : List Cond := .code yX0_stepped cX0_stepped 2 (some .int) :: ([.methodLink RX0 113 yX0_middle, .instanceMethod yX0_middle, .selects RX0 yX0_middle yX0_middle, .initialized RX0, .code yX0_middle cX0_middle 1 (some .int), .fieldLink RX0 18 "TwoThirds$Game" "high" "I", .methodLink RX0 117 yX0_sharedTimes, .instanceMethod yX0_sharedTimes, .selects RX0 yX0_sharedTimes yX0_sharedTimes, .code yX0_sharedTimes cX0_sharedTimes 5 (some .int), .methodLink RX0 120 yX0_shareOf, .instanceMethod yX0_shareOf, .selects RX0 yX0_shareOf yX0_shareOf, .code yX0_shareOf cX0_shareOf 2 (some .int), .fieldLink RX0 9 "TwoThirds$Game" "up" "I", .fieldLink RX0 15 "TwoThirds$Game" "down" "I", .static yX5_over, .initialized RX5, .code yX5_over cX5_over 2 (some .int), .methodLink RX0 109 yX0_heldToCards, .instanceMethod yX0_heldToCards, .selects RX0 yX0_heldToCards yX0_heldToCards, .code yX0_heldToCards cX0_heldToCards 2 (some .int)] ++ wsX00)
def wsX0_mixed : List Cond := .code yX0_mixed cX0_mixed 5 (some .int) :: ([.methodLink RX0 113 yX0_middle, .instanceMethod yX0_middle, .selects RX0 yX0_middle yX0_middle, .initialized RX0, .code yX0_middle cX0_middle 1 (some .int), .fieldLink RX0 18 "TwoThirds$Game" "high" "I", .static yX5_over, .initialized RX5, .code yX5_over cX5_over 2 (some .int), .methodLink RX0 120 yX0_shareOf, .instanceMethod yX0_shareOf, .selects RX0 yX0_shareOf yX0_shareOf, .code yX0_shareOf cX0_shareOf 2 (some .int), .fieldLink RX0 9 "TwoThirds$Game" "up" "I", .fieldLink RX0 15 "TwoThirds$Game" "down" "I", .methodLink RX0 109 yX0_heldToCards, .instanceMethod yX0_heldToCards, .selects RX0 yX0_heldToCards yX0_heldToCards, .code yX0_heldToCards cX0_heldToCards 2 (some .int)] ++ wsX00)
def wsX0_learned_r1 : List Cond := [Cond.fieldLink RX0 43 "TwoThirds$Game" "rounds" "I", Cond.fieldLink RX0 56 "TwoThirds$Game" "lastSum" "I", Cond.fieldLink RX0 46 "TwoThirds$Game" "people" "I", Cond.methodLink RX0 113 yX0_middle, Cond.instanceMethod yX0_middle, Cond.selects RX0 yX0_middle yX0_middle, Cond.initialized RX0, Cond.code yX0_middle cX0_middle 1 (some .int), Cond.fieldLink RX0 18 "TwoThirds$Game" "high" "I", Cond.methodLink RX0 117 yX0_sharedTimes, Cond.instanceMethod yX0_sharedTimes, Cond.selects RX0 yX0_sharedTimes yX0_sharedTimes, Cond.code yX0_sharedTimes cX0_sharedTimes 5 (some .int), Cond.methodLink RX0 120 yX0_shareOf, Cond.instanceMethod yX0_shareOf, Cond.selects RX0 yX0_shareOf yX0_shareOf, Cond.code yX0_shareOf cX0_shareOf 2 (some .int), Cond.fieldLink RX0 9 "TwoThirds$Game" "up" "I", Cond.fieldLink RX0 15 "TwoThirds$Game" "down" "I", Cond.static yX5_over, Cond.initialized RX5, Cond.code yX5_over cX5_over 2 (some .int), Cond.methodLink RX0 109 yX0_heldToCards, Cond.instanceMethod yX0_heldToCards]
def wsX0_learned_r2 : List Cond := [Cond.selects RX0 yX0_heldToCards yX0_heldToCards, Cond.code yX0_heldToCards cX0_heldToCards 2 (some .int)]
def wsX0_learned : List Cond := .code yX0_learned cX0_learned 2 (some .int) :: ((wsX0_learned_r1 ++ wsX0_learned_r2) ++ wsX00)
def wsX0_heldBy_r1 : List Cond := [Cond.fieldLink RX0 123 "TwoThirds$Person" "kind" "I", Cond.fieldLink RX0 18 "TwoThirds$Game" "high" "I", Cond.fieldLink RX0 59 "TwoThirds$Person" "stepCount" "I", Cond.fieldLink RX0 9 "TwoThirds$Game" "up" "I", Cond.fieldLink RX0 15 "TwoThirds$Game" "down" "I", Cond.methodLink RX0 126 yX0_drawBelow, Cond.instanceMethod yX0_drawBelow, Cond.selects RX0 yX0_drawBelow yX0_drawBelow, Cond.initialized RX0, Cond.code yX0_drawBelow cX0_drawBelow 3 (some .int), Cond.fieldLink RX0 24 "TwoThirds$Game" "z" "I", Cond.constant RX0 102 (1103515245), Cond.constant RX0 103 (2147483647), Cond.constant RX0 104 (65536), Cond.methodLink RX0 129 yX0_stepped, Cond.instanceMethod yX0_stepped, Cond.selects RX0 yX0_stepped yX0_stepped, Cond.code yX0_stepped cX0_stepped 2 (some .int), Cond.methodLink RX0 113 yX0_middle, Cond.instanceMethod yX0_middle, Cond.selects RX0 yX0_middle yX0_middle, Cond.code yX0_middle cX0_middle 1 (some .int), Cond.methodLink RX0 117 yX0_sharedTimes, Cond.instanceMethod yX0_sharedTimes]
def wsX0_heldBy_r2 : List Cond := [Cond.selects RX0 yX0_sharedTimes yX0_sharedTimes, Cond.code yX0_sharedTimes cX0_sharedTimes 5 (some .int), Cond.methodLink RX0 120 yX0_shareOf, Cond.instanceMethod yX0_shareOf, Cond.selects RX0 yX0_shareOf yX0_shareOf, Cond.code yX0_shareOf cX0_shareOf 2 (some .int), Cond.static yX5_over, Cond.initialized RX5, Cond.code yX5_over cX5_over 2 (some .int), Cond.methodLink RX0 109 yX0_heldToCards, Cond.instanceMethod yX0_heldToCards, Cond.selects RX0 yX0_heldToCards yX0_heldToCards, Cond.code yX0_heldToCards cX0_heldToCards 2 (some .int), Cond.methodLink RX0 132 yX0_mixed, Cond.instanceMethod yX0_mixed, Cond.selects RX0 yX0_mixed yX0_mixed, Cond.code yX0_mixed cX0_mixed 5 (some .int), Cond.methodLink RX0 135 yX0_learned, Cond.instanceMethod yX0_learned, Cond.selects RX0 yX0_learned yX0_learned, Cond.code yX0_learned cX0_learned 2 (some .int), Cond.fieldLink RX0 43 "TwoThirds$Game" "rounds" "I", Cond.fieldLink RX0 56 "TwoThirds$Game" "lastSum" "I", Cond.fieldLink RX0 46 "TwoThirds$Game" "people" "I"]
def wsX0_heldBy : List Cond := .code yX0_heldBy cX0_heldBy 2 (some .int) :: ((wsX0_heldBy_r1 ++ wsX0_heldBy_r2) ++ wsX10 ++ wsX00)
def wsX0_cardOf_r1 : List Cond := [Cond.fieldLink RX0 142 "TwoThirds$Person" "slip" "I", Cond.methodLink RX0 138 yX0_heldBy, Cond.instanceMethod yX0_heldBy, Cond.selects RX0 yX0_heldBy yX0_heldBy, Cond.initialized RX0, Cond.code yX0_heldBy cX0_heldBy 2 (some .int), Cond.fieldLink RX0 123 "TwoThirds$Person" "kind" "I", Cond.fieldLink RX0 18 "TwoThirds$Game" "high" "I", Cond.fieldLink RX0 59 "TwoThirds$Person" "stepCount" "I", Cond.fieldLink RX0 9 "TwoThirds$Game" "up" "I", Cond.fieldLink RX0 15 "TwoThirds$Game" "down" "I", Cond.methodLink RX0 126 yX0_drawBelow, Cond.instanceMethod yX0_drawBelow, Cond.selects RX0 yX0_drawBelow yX0_drawBelow, Cond.code yX0_drawBelow cX0_drawBelow 3 (some .int), Cond.fieldLink RX0 24 "TwoThirds$Game" "z" "I", Cond.constant RX0 102 (1103515245), Cond.constant RX0 103 (2147483647), Cond.constant RX0 104 (65536), Cond.methodLink RX0 129 yX0_stepped, Cond.instanceMethod yX0_stepped, Cond.selects RX0 yX0_stepped yX0_stepped, Cond.code yX0_stepped cX0_stepped 2 (some .int), Cond.methodLink RX0 113 yX0_middle]
def wsX0_cardOf_r2 : List Cond := [Cond.instanceMethod yX0_middle, Cond.selects RX0 yX0_middle yX0_middle, Cond.code yX0_middle cX0_middle 1 (some .int), Cond.methodLink RX0 117 yX0_sharedTimes, Cond.instanceMethod yX0_sharedTimes, Cond.selects RX0 yX0_sharedTimes yX0_sharedTimes, Cond.code yX0_sharedTimes cX0_sharedTimes 5 (some .int), Cond.methodLink RX0 120 yX0_shareOf, Cond.instanceMethod yX0_shareOf, Cond.selects RX0 yX0_shareOf yX0_shareOf, Cond.code yX0_shareOf cX0_shareOf 2 (some .int), Cond.static yX5_over, Cond.initialized RX5, Cond.code yX5_over cX5_over 2 (some .int), Cond.methodLink RX0 109 yX0_heldToCards, Cond.instanceMethod yX0_heldToCards, Cond.selects RX0 yX0_heldToCards yX0_heldToCards, Cond.code yX0_heldToCards cX0_heldToCards 2 (some .int), Cond.methodLink RX0 132 yX0_mixed, Cond.instanceMethod yX0_mixed, Cond.selects RX0 yX0_mixed yX0_mixed, Cond.code yX0_mixed cX0_mixed 5 (some .int), Cond.methodLink RX0 135 yX0_learned, Cond.instanceMethod yX0_learned]
def wsX0_cardOf_r3 : List Cond := [Cond.selects RX0 yX0_learned yX0_learned, Cond.code yX0_learned cX0_learned 2 (some .int), Cond.fieldLink RX0 43 "TwoThirds$Game" "rounds" "I", Cond.fieldLink RX0 56 "TwoThirds$Game" "lastSum" "I", Cond.fieldLink RX0 46 "TwoThirds$Game" "people" "I"]
def wsX0_cardOf : List Cond := .code yX0_cardOf cX0_cardOf 3 (some .int) :: ((wsX0_cardOf_r1 ++ (wsX0_cardOf_r2 ++ wsX0_cardOf_r3)) ++ wsX10 ++ wsX00)
def wsX3_hasPlace : List Cond := .code yX3_hasPlace cX3_hasPlace 2 (some .boolean) :: ([.fieldLink RX3 25 "TwoThirds$Row" "size" "I"] ++ wsX30)
def wsX3_lowestBits : List Cond := .code yX3_lowestBits cX3_lowestBits 2 (some .int) :: ([.fieldLink RX3 15 "TwoThirds$Row" "sort" "I"] ++ wsX30)
def wsX3_write : List Cond := .code yX3_write cX3_write 3 none :: ([.fieldLink RX3 9 "TwoThirds$Row" "elements" "[I", .methodLink RX3 42 yX3_hasPlace, .instanceMethod yX3_hasPlace, .selects RX3 yX3_hasPlace yX3_hasPlace, .initialized RX3, .code yX3_hasPlace cX3_hasPlace 2 (some .boolean), .fieldLink RX3 25 "TwoThirds$Row" "size" "I", .methodLink RX3 46 yX3_lowestBits, .instanceMethod yX3_lowestBits, .selects RX3 yX3_lowestBits yX3_lowestBits, .code yX3_lowestBits cX3_lowestBits 2 (some .int), .fieldLink RX3 15 "TwoThirds$Row" "sort" "I"] ++ wsX30)
def wsX3_sum : List Cond := .code yX3_sum cX3_sum 3 (some .int) :: ([.fieldLink RX3 25 "TwoThirds$Row" "size" "I", .fieldLink RX3 9 "TwoThirds$Row" "elements" "[I"] ++ wsX30)
def wsX0_play_r1 : List Cond := [Cond.fieldLink RX0 39 "TwoThirds$Game" "cards" "LTwoThirds$Row;", Cond.fieldLink RX0 46 "TwoThirds$Game" "people" "I", Cond.fieldLink RX0 29 "TwoThirds$Game" "persons" "[LTwoThirds$Person;", Cond.fieldLink RX0 56 "TwoThirds$Game" "lastSum" "I", Cond.fieldLink RX0 43 "TwoThirds$Game" "rounds" "I", Cond.methodLink RX0 145 yX3_begin, Cond.instanceMethod yX3_begin, Cond.selects RX3 yX3_begin yX3_begin, Cond.initialized RX3, Cond.code yX3_begin cX3_begin 3 none, Cond.fieldLink RX3 15 "TwoThirds$Row" "sort" "I", Cond.fieldLink RX3 9 "TwoThirds$Row" "elements" "[I", Cond.methodLink RX3 19 Lib.Math.min.name, Cond.static Lib.Math.min.name, Cond.initialized "java/lang/Math", Cond.code Lib.Math.min.name Lib.Math.min.code 2 (some .int), Cond.fieldLink RX3 25 "TwoThirds$Row" "size" "I", Cond.methodLink RX3 28 yJ7_fill_53178, Cond.static yJ7_fill_53178, Cond.initialized RJ7, Cond.code yJ7_fill_53178 cJ7_fill_53178 4 none, Cond.methodLink RX0 147 yX0_cardOf, Cond.instanceMethod yX0_cardOf, Cond.selects RX0 yX0_cardOf yX0_cardOf]
def wsX0_play_r2 : List Cond := [Cond.initialized RX0, Cond.code yX0_cardOf cX0_cardOf 3 (some .int), Cond.fieldLink RX0 142 "TwoThirds$Person" "slip" "I", Cond.methodLink RX0 138 yX0_heldBy, Cond.instanceMethod yX0_heldBy, Cond.selects RX0 yX0_heldBy yX0_heldBy, Cond.code yX0_heldBy cX0_heldBy 2 (some .int), Cond.fieldLink RX0 123 "TwoThirds$Person" "kind" "I", Cond.fieldLink RX0 18 "TwoThirds$Game" "high" "I", Cond.fieldLink RX0 59 "TwoThirds$Person" "stepCount" "I", Cond.fieldLink RX0 9 "TwoThirds$Game" "up" "I", Cond.fieldLink RX0 15 "TwoThirds$Game" "down" "I", Cond.methodLink RX0 126 yX0_drawBelow, Cond.instanceMethod yX0_drawBelow, Cond.selects RX0 yX0_drawBelow yX0_drawBelow, Cond.code yX0_drawBelow cX0_drawBelow 3 (some .int), Cond.fieldLink RX0 24 "TwoThirds$Game" "z" "I", Cond.constant RX0 102 (1103515245), Cond.constant RX0 103 (2147483647), Cond.constant RX0 104 (65536), Cond.methodLink RX0 129 yX0_stepped, Cond.instanceMethod yX0_stepped, Cond.selects RX0 yX0_stepped yX0_stepped, Cond.code yX0_stepped cX0_stepped 2 (some .int)]
def wsX0_play_r3 : List Cond := [Cond.methodLink RX0 113 yX0_middle, Cond.instanceMethod yX0_middle, Cond.selects RX0 yX0_middle yX0_middle, Cond.code yX0_middle cX0_middle 1 (some .int), Cond.methodLink RX0 117 yX0_sharedTimes, Cond.instanceMethod yX0_sharedTimes, Cond.selects RX0 yX0_sharedTimes yX0_sharedTimes, Cond.code yX0_sharedTimes cX0_sharedTimes 5 (some .int), Cond.methodLink RX0 120 yX0_shareOf, Cond.instanceMethod yX0_shareOf, Cond.selects RX0 yX0_shareOf yX0_shareOf, Cond.code yX0_shareOf cX0_shareOf 2 (some .int), Cond.static yX5_over, Cond.initialized RX5, Cond.code yX5_over cX5_over 2 (some .int), Cond.methodLink RX0 109 yX0_heldToCards, Cond.instanceMethod yX0_heldToCards, Cond.selects RX0 yX0_heldToCards yX0_heldToCards, Cond.code yX0_heldToCards cX0_heldToCards 2 (some .int), Cond.methodLink RX0 132 yX0_mixed, Cond.instanceMethod yX0_mixed, Cond.selects RX0 yX0_mixed yX0_mixed, Cond.code yX0_mixed cX0_mixed 5 (some .int), Cond.methodLink RX0 135 yX0_learned]
def wsX0_play_r4 : List Cond := [Cond.instanceMethod yX0_learned, Cond.selects RX0 yX0_learned yX0_learned, Cond.code yX0_learned cX0_learned 2 (some .int), Cond.methodLink RX0 150 yX3_write, Cond.instanceMethod yX3_write, Cond.selects RX3 yX3_write yX3_write, Cond.code yX3_write cX3_write 3 none, Cond.methodLink RX3 42 yX3_hasPlace, Cond.instanceMethod yX3_hasPlace, Cond.selects RX3 yX3_hasPlace yX3_hasPlace, Cond.code yX3_hasPlace cX3_hasPlace 2 (some .boolean), Cond.methodLink RX3 46 yX3_lowestBits, Cond.instanceMethod yX3_lowestBits, Cond.selects RX3 yX3_lowestBits yX3_lowestBits, Cond.code yX3_lowestBits cX3_lowestBits 2 (some .int), Cond.methodLink RX0 153 yX3_sum, Cond.instanceMethod yX3_sum, Cond.selects RX3 yX3_sum yX3_sum, Cond.code yX3_sum cX3_sum 3 (some .int)]
def wsX0_play : List Cond := .code yX0_play cX0_play 2 none :: ((wsX0_play_r1 ++ (wsX0_play_r2 ++ (wsX0_play_r3 ++ wsX0_play_r4))) ++ wsX00 ++ wsX30 ++ wsX10)
def wsX0_forgetRounds : List Cond := .code yX0_forgetRounds cX0_forgetRounds 1 none :: ([.fieldLink RX0 43 "TwoThirds$Game" "rounds" "I", .fieldLink RX0 56 "TwoThirds$Game" "lastSum" "I", .fieldLink RX0 39 "TwoThirds$Game" "cards" "LTwoThirds$Row;", .methodLink RX0 145 yX3_begin, .instanceMethod yX3_begin, .selects RX3 yX3_begin yX3_begin, .initialized RX3, .code yX3_begin cX3_begin 3 none, .fieldLink RX3 15 "TwoThirds$Row" "sort" "I", .fieldLink RX3 9 "TwoThirds$Row" "elements" "[I", .methodLink RX3 19 Lib.Math.min.name, .static Lib.Math.min.name, .initialized "java/lang/Math", .code Lib.Math.min.name Lib.Math.min.code 2 (some .int), .fieldLink RX3 25 "TwoThirds$Row" "size" "I", .methodLink RX3 28 yJ7_fill_53178, .static yJ7_fill_53178, .initialized RJ7, .code yJ7_fill_53178 cJ7_fill_53178 4 none] ++ wsX00 ++ wsX30)
def wsX0_isCard : List Cond := .code yX0_isCard cX0_isCard 2 (some .boolean) :: ([.fieldLink RX0 18 "TwoThirds$Game" "high" "I"] ++ wsX00)
def wsX0_areCards : List Cond := .code yX0_areCards cX0_areCards 3 (some .boolean) :: ([.fieldLink RX0 156 "TwoThirds$Row" "size" "I", .methodLink RX0 159 yX3_at, .instanceMethod yX3_at, .selects RX3 yX3_at yX3_at, .initialized RX3, .code yX3_at cX3_at 2 (some .int), .fieldLink RX3 25 "TwoThirds$Row" "size" "I", .fieldLink RX3 9 "TwoThirds$Row" "elements" "[I", .methodLink RX0 162 yX0_isCard, .instanceMethod yX0_isCard, .selects RX0 yX0_isCard yX0_isCard, .initialized RX0, .code yX0_isCard cX0_isCard 2 (some .boolean), .fieldLink RX0 18 "TwoThirds$Game" "high" "I"] ++ wsX30 ++ wsX00)
def wsX0_targetAbove : List Cond := .code yX0_targetAbove cX0_targetAbove 2 (some .int) :: ([.fieldLink RX0 9 "TwoThirds$Game" "up" "I", .methodLink RX0 153 yX3_sum, .instanceMethod yX3_sum, .selects RX3 yX3_sum yX3_sum, .initialized RX3, .code yX3_sum cX3_sum 3 (some .int), .fieldLink RX3 25 "TwoThirds$Row" "size" "I", .fieldLink RX3 9 "TwoThirds$Row" "elements" "[I"] ++ wsX00 ++ wsX30)
def wsX0_targetLine : List Cond := .code yX0_targetLine cX0_targetLine 2 (some .int) :: ([.fieldLink RX0 15 "TwoThirds$Game" "down" "I", .fieldLink RX0 156 "TwoThirds$Row" "size" "I"] ++ wsX00 ++ wsX30)
def wsX0_farFrom : List Cond := .code yX0_farFrom cX0_farFrom 5 (some .int) :: ([.fieldLink RX0 21 "TwoThirds$Game" "prize" "I", .constant RX0 103 (2147483647)] ++ wsX00)
def wsX0_firstWinner_r1 : List Cond := [Cond.constant RX0 103 (2147483647), Cond.fieldLink RX0 156 "TwoThirds$Row" "size" "I", Cond.methodLink RX0 165 yX0_targetAbove, Cond.instanceMethod yX0_targetAbove, Cond.selects RX0 yX0_targetAbove yX0_targetAbove, Cond.initialized RX0, Cond.code yX0_targetAbove cX0_targetAbove 2 (some .int), Cond.fieldLink RX0 9 "TwoThirds$Game" "up" "I", Cond.methodLink RX0 153 yX3_sum, Cond.instanceMethod yX3_sum, Cond.selects RX3 yX3_sum yX3_sum, Cond.initialized RX3, Cond.code yX3_sum cX3_sum 3 (some .int), Cond.fieldLink RX3 25 "TwoThirds$Row" "size" "I", Cond.fieldLink RX3 9 "TwoThirds$Row" "elements" "[I", Cond.methodLink RX0 169 yX0_targetLine, Cond.instanceMethod yX0_targetLine, Cond.selects RX0 yX0_targetLine yX0_targetLine, Cond.code yX0_targetLine cX0_targetLine 2 (some .int), Cond.fieldLink RX0 15 "TwoThirds$Game" "down" "I", Cond.methodLink RX0 159 yX3_at, Cond.instanceMethod yX3_at, Cond.selects RX3 yX3_at yX3_at, Cond.code yX3_at cX3_at 2 (some .int)]
def wsX0_firstWinner_r2 : List Cond := [Cond.methodLink RX0 172 yX0_farFrom, Cond.instanceMethod yX0_farFrom, Cond.selects RX0 yX0_farFrom yX0_farFrom, Cond.code yX0_farFrom cX0_farFrom 5 (some .int), Cond.fieldLink RX0 21 "TwoThirds$Game" "prize" "I"]
def wsX0_firstWinner : List Cond := .code yX0_firstWinner cX0_firstWinner 8 (some .int) :: ((wsX0_firstWinner_r1 ++ wsX0_firstWinner_r2) ++ wsX30 ++ wsX00)
def wsX0_countWinners_r1 : List Cond := [Cond.fieldLink RX0 156 "TwoThirds$Row" "size" "I", Cond.methodLink RX0 176 yX0_firstWinner, Cond.instanceMethod yX0_firstWinner, Cond.selects RX0 yX0_firstWinner yX0_firstWinner, Cond.initialized RX0, Cond.code yX0_firstWinner cX0_firstWinner 8 (some .int), Cond.constant RX0 103 (2147483647), Cond.methodLink RX0 165 yX0_targetAbove, Cond.instanceMethod yX0_targetAbove, Cond.selects RX0 yX0_targetAbove yX0_targetAbove, Cond.code yX0_targetAbove cX0_targetAbove 2 (some .int), Cond.fieldLink RX0 9 "TwoThirds$Game" "up" "I", Cond.methodLink RX0 153 yX3_sum, Cond.instanceMethod yX3_sum, Cond.selects RX3 yX3_sum yX3_sum, Cond.initialized RX3, Cond.code yX3_sum cX3_sum 3 (some .int), Cond.fieldLink RX3 25 "TwoThirds$Row" "size" "I", Cond.fieldLink RX3 9 "TwoThirds$Row" "elements" "[I", Cond.methodLink RX0 169 yX0_targetLine, Cond.instanceMethod yX0_targetLine, Cond.selects RX0 yX0_targetLine yX0_targetLine, Cond.code yX0_targetLine cX0_targetLine 2 (some .int), Cond.fieldLink RX0 15 "TwoThirds$Game" "down" "I"]
def wsX0_countWinners_r2 : List Cond := [Cond.methodLink RX0 159 yX3_at, Cond.instanceMethod yX3_at, Cond.selects RX3 yX3_at yX3_at, Cond.code yX3_at cX3_at 2 (some .int), Cond.methodLink RX0 172 yX0_farFrom, Cond.instanceMethod yX0_farFrom, Cond.selects RX0 yX0_farFrom yX0_farFrom, Cond.code yX0_farFrom cX0_farFrom 5 (some .int), Cond.fieldLink RX0 21 "TwoThirds$Game" "prize" "I"]
def wsX0_countWinners : List Cond := .code yX0_countWinners cX0_countWinners 8 (some .int) :: ((wsX0_countWinners_r1 ++ wsX0_countWinners_r2) ++ wsX30 ++ wsX00)
def wsX0_isWinner_r1 : List Cond := [Cond.methodLink RX0 176 yX0_firstWinner, Cond.instanceMethod yX0_firstWinner, Cond.selects RX0 yX0_firstWinner yX0_firstWinner, Cond.initialized RX0, Cond.code yX0_firstWinner cX0_firstWinner 8 (some .int), Cond.constant RX0 103 (2147483647), Cond.fieldLink RX0 156 "TwoThirds$Row" "size" "I", Cond.methodLink RX0 165 yX0_targetAbove, Cond.instanceMethod yX0_targetAbove, Cond.selects RX0 yX0_targetAbove yX0_targetAbove, Cond.code yX0_targetAbove cX0_targetAbove 2 (some .int), Cond.fieldLink RX0 9 "TwoThirds$Game" "up" "I", Cond.methodLink RX0 153 yX3_sum, Cond.instanceMethod yX3_sum, Cond.selects RX3 yX3_sum yX3_sum, Cond.initialized RX3, Cond.code yX3_sum cX3_sum 3 (some .int), Cond.fieldLink RX3 25 "TwoThirds$Row" "size" "I", Cond.fieldLink RX3 9 "TwoThirds$Row" "elements" "[I", Cond.methodLink RX0 169 yX0_targetLine, Cond.instanceMethod yX0_targetLine, Cond.selects RX0 yX0_targetLine yX0_targetLine, Cond.code yX0_targetLine cX0_targetLine 2 (some .int), Cond.fieldLink RX0 15 "TwoThirds$Game" "down" "I"]
def wsX0_isWinner_r2 : List Cond := [Cond.methodLink RX0 159 yX3_at, Cond.instanceMethod yX3_at, Cond.selects RX3 yX3_at yX3_at, Cond.code yX3_at cX3_at 2 (some .int), Cond.methodLink RX0 172 yX0_farFrom, Cond.instanceMethod yX0_farFrom, Cond.selects RX0 yX0_farFrom yX0_farFrom, Cond.code yX0_farFrom cX0_farFrom 5 (some .int), Cond.fieldLink RX0 21 "TwoThirds$Game" "prize" "I", Cond.methodLink RX0 179 yX3_hasPlace, Cond.instanceMethod yX3_hasPlace, Cond.selects RX3 yX3_hasPlace yX3_hasPlace, Cond.code yX3_hasPlace cX3_hasPlace 2 (some .boolean)]
def wsX0_isWinner : List Cond := .code yX0_isWinner cX0_isWinner 6 (some .boolean) :: ((wsX0_isWinner_r1 ++ wsX0_isWinner_r2) ++ wsX30 ++ wsX00)
def wsX0_bestAgainst : List Cond := .code yX0_bestAgainst cX0_bestAgainst 8 (some .int) :: ([.fieldLink RX0 15 "TwoThirds$Game" "down" "I", .fieldLink RX0 156 "TwoThirds$Row" "size" "I", .constant RX0 103 (2147483647), .fieldLink RX0 18 "TwoThirds$Game" "high" "I", .fieldLink RX0 9 "TwoThirds$Game" "up" "I", .fieldLink RX0 21 "TwoThirds$Game" "prize" "I", .methodLink RX0 153 yX3_sum, .instanceMethod yX3_sum, .selects RX3 yX3_sum yX3_sum, .initialized RX3, .code yX3_sum cX3_sum 3 (some .int), .fieldLink RX3 25 "TwoThirds$Row" "size" "I", .fieldLink RX3 9 "TwoThirds$Row" "elements" "[I", .methodLink RX0 172 yX0_farFrom, .instanceMethod yX0_farFrom, .selects RX0 yX0_farFrom yX0_farFrom, .initialized RX0, .code yX0_farFrom cX0_farFrom 5 (some .int)] ++ wsX00 ++ wsX30)
def wsX0_nearestSteps : List Cond := .code yX0_nearestSteps cX0_nearestSteps 7 (some .int) :: ([.methodLink RX0 182 Lib.Math.abs.name, .static Lib.Math.abs.name, .initialized "java/lang/Math", .code Lib.Math.abs.name Lib.Math.abs.code 1 (some .int), .methodLink RX0 113 yX0_middle, .instanceMethod yX0_middle, .selects RX0 yX0_middle yX0_middle, .initialized RX0, .code yX0_middle cX0_middle 1 (some .int), .fieldLink RX0 18 "TwoThirds$Game" "high" "I", .methodLink RX0 120 yX0_shareOf, .instanceMethod yX0_shareOf, .selects RX0 yX0_shareOf yX0_shareOf, .code yX0_shareOf cX0_shareOf 2 (some .int), .fieldLink RX0 9 "TwoThirds$Game" "up" "I", .fieldLink RX0 15 "TwoThirds$Game" "down" "I", .static yX5_over, .initialized RX5, .code yX5_over cX5_over 2 (some .int), .methodLink RX0 109 yX0_heldToCards, .instanceMethod yX0_heldToCards, .selects RX0 yX0_heldToCards yX0_heldToCards, .code yX0_heldToCards cX0_heldToCards 2 (some .int)] ++ wsX00)
def wsX0_countSteps_r1 : List Cond := [Cond.fieldLink RX0 156 "TwoThirds$Row" "size" "I", Cond.methodLink RX0 187 yJ7_fill_53178, Cond.static yJ7_fill_53178, Cond.initialized RJ7, Cond.code yJ7_fill_53178 cJ7_fill_53178 4 none, Cond.methodLink RX0 159 yX3_at, Cond.instanceMethod yX3_at, Cond.selects RX3 yX3_at yX3_at, Cond.initialized RX3, Cond.code yX3_at cX3_at 2 (some .int), Cond.fieldLink RX3 25 "TwoThirds$Row" "size" "I", Cond.fieldLink RX3 9 "TwoThirds$Row" "elements" "[I", Cond.methodLink RX0 193 yX0_nearestSteps, Cond.instanceMethod yX0_nearestSteps, Cond.selects RX0 yX0_nearestSteps yX0_nearestSteps, Cond.initialized RX0, Cond.code yX0_nearestSteps cX0_nearestSteps 7 (some .int), Cond.methodLink RX0 182 Lib.Math.abs.name, Cond.static Lib.Math.abs.name, Cond.initialized "java/lang/Math", Cond.code Lib.Math.abs.name Lib.Math.abs.code 1 (some .int), Cond.methodLink RX0 113 yX0_middle, Cond.instanceMethod yX0_middle, Cond.selects RX0 yX0_middle yX0_middle]
def wsX0_countSteps_r2 : List Cond := [Cond.code yX0_middle cX0_middle 1 (some .int), Cond.fieldLink RX0 18 "TwoThirds$Game" "high" "I", Cond.methodLink RX0 120 yX0_shareOf, Cond.instanceMethod yX0_shareOf, Cond.selects RX0 yX0_shareOf yX0_shareOf, Cond.code yX0_shareOf cX0_shareOf 2 (some .int), Cond.fieldLink RX0 9 "TwoThirds$Game" "up" "I", Cond.fieldLink RX0 15 "TwoThirds$Game" "down" "I", Cond.static yX5_over, Cond.initialized RX5, Cond.code yX5_over cX5_over 2 (some .int), Cond.methodLink RX0 109 yX0_heldToCards, Cond.instanceMethod yX0_heldToCards, Cond.selects RX0 yX0_heldToCards yX0_heldToCards, Cond.code yX0_heldToCards cX0_heldToCards 2 (some .int)]
def wsX0_countSteps : List Cond := .code yX0_countSteps cX0_countSteps 5 none :: ((wsX0_countSteps_r1 ++ wsX0_countSteps_r2) ++ wsX30 ++ wsX00)
def wsX1_holdsByDraw : List Cond := .code yX1_holdsByDraw cX1_holdsByDraw 1 (some .boolean) :: ([.fieldLink RX1 15 "TwoThirds$Person" "kind" "I"] ++ wsX10)
def wsX1_depthOfKind : List Cond := .code yX1_depthOfKind cX1_depthOfKind 4 (some .int) :: ([.fieldLink RX1 21 "TwoThirds$Person" "slip" "I", .fieldLink RX1 18 "TwoThirds$Person" "stepCount" "I", .fieldLink RX1 15 "TwoThirds$Person" "kind" "I"] ++ wsX10)
def wsX1_fail : List Cond := .code yX1_fail cX1_fail 1 none :: ([.classLink RX1 28 "java/lang/UnsupportedOperationException", .initialized "java/lang/UnsupportedOperationException", .classLink RX1 35 "java/lang/IllegalArgumentException", .initialized "java/lang/IllegalArgumentException", .classLink RX1 40 "java/lang/IllegalStateException", .initialized "java/lang/IllegalStateException", .fieldLink RX1 15 "TwoThirds$Person" "kind" "I", .fieldLink RX1 18 "TwoThirds$Person" "stepCount" "I"] ++ wsX10 ++ (vx_atS RX1 32 "java/lang/UnsupportedOperationException" ["java/lang/RuntimeException", "java/lang/Exception"]).filter goodWord ++ (vx_atS RX1 39 "java/lang/IllegalArgumentException" ["java/lang/RuntimeException", "java/lang/Exception"]).filter goodWord ++ (vx_atS RX1 44 "java/lang/IllegalStateException" ["java/lang/RuntimeException", "java/lang/Exception"]).filter goodWord)
def wsX2_init : List Cond := .code yX2_init cX2_init 2 none :: ([.methodLink RX2 3 objectInit, .instanceMethod objectInit, .code objectInit ⟨#[0xb1]⟩ 1 none, .fieldLink RX2 9 "TwoThirds$Reader" "text" "LTwoThirds$Row;"] ++ wsX20)
def wsX2_takes : List Cond := .code yX2_takes cX2_takes 2 (some .boolean) :: ([.fieldLink RX2 9 "TwoThirds$Reader" "text" "LTwoThirds$Row;", .fieldLink RX2 19 "TwoThirds$Reader" "place" "I", .methodLink RX2 66 yX3_hasPlace, .instanceMethod yX3_hasPlace, .selects RX3 yX3_hasPlace yX3_hasPlace, .initialized RX3, .code yX3_hasPlace cX3_hasPlace 2 (some .boolean), .fieldLink RX3 25 "TwoThirds$Row" "size" "I", .methodLink RX2 28 yX3_at, .instanceMethod yX3_at, .selects RX3 yX3_at yX3_at, .code yX3_at cX3_at 2 (some .int), .fieldLink RX3 9 "TwoThirds$Row" "elements" "[I"] ++ wsX20 ++ wsX30)
def wsX2_takesDigit : List Cond := .code yX2_takesDigit cX2_takesDigit 2 (some .boolean) :: ([.fieldLink RX2 9 "TwoThirds$Reader" "text" "LTwoThirds$Row;", .fieldLink RX2 19 "TwoThirds$Reader" "place" "I", .fieldLink RX2 51 "TwoThirds$Reader" "number" "I", .methodLink RX2 28 yX3_at, .instanceMethod yX3_at, .selects RX3 yX3_at yX3_at, .initialized RX3, .code yX3_at cX3_at 2 (some .int), .fieldLink RX3 25 "TwoThirds$Row" "size" "I", .fieldLink RX3 9 "TwoThirds$Row" "elements" "[I"] ++ wsX20 ++ wsX30)
def wsX2_takesNumber : List Cond := .code yX2_takesNumber cX2_takesNumber 3 (some .boolean) :: ([.fieldLink RX2 51 "TwoThirds$Reader" "number" "I", .methodLink RX2 48 yX2_takesDigit, .instanceMethod yX2_takesDigit, .selects RX2 yX2_takesDigit yX2_takesDigit, .initialized RX2, .code yX2_takesDigit cX2_takesDigit 2 (some .boolean), .fieldLink RX2 9 "TwoThirds$Reader" "text" "LTwoThirds$Row;", .fieldLink RX2 19 "TwoThirds$Reader" "place" "I", .methodLink RX2 28 yX3_at, .instanceMethod yX3_at, .selects RX3 yX3_at yX3_at, .initialized RX3, .code yX3_at cX3_at 2 (some .int), .fieldLink RX3 25 "TwoThirds$Row" "size" "I", .fieldLink RX3 9 "TwoThirds$Row" "elements" "[I"] ++ wsX20 ++ wsX30)
def wsX2_readPerson_r1 : List Cond := [Cond.fieldLink RX2 51 "TwoThirds$Reader" "number" "I", Cond.fieldLink RX2 54 "TwoThirds$Reader" "first" "I", Cond.fieldLink RX2 57 "TwoThirds$Reader" "second" "I", Cond.fieldLink RX2 63 "TwoThirds$Reader" "third" "I", Cond.methodLink RX2 48 yX2_takesDigit, Cond.instanceMethod yX2_takesDigit, Cond.selects RX2 yX2_takesDigit yX2_takesDigit, Cond.initialized RX2, Cond.code yX2_takesDigit cX2_takesDigit 2 (some .boolean), Cond.fieldLink RX2 9 "TwoThirds$Reader" "text" "LTwoThirds$Row;", Cond.fieldLink RX2 19 "TwoThirds$Reader" "place" "I", Cond.methodLink RX2 28 yX3_at, Cond.instanceMethod yX3_at, Cond.selects RX3 yX3_at yX3_at, Cond.initialized RX3, Cond.code yX3_at cX3_at 2 (some .int), Cond.fieldLink RX3 25 "TwoThirds$Row" "size" "I", Cond.fieldLink RX3 9 "TwoThirds$Row" "elements" "[I", Cond.methodLink RX2 35 yX2_takes, Cond.instanceMethod yX2_takes, Cond.selects RX2 yX2_takes yX2_takes, Cond.code yX2_takes cX2_takes 2 (some .boolean), Cond.methodLink RX2 66 yX3_hasPlace, Cond.instanceMethod yX3_hasPlace]
def wsX2_readPerson_r2 : List Cond := [Cond.selects RX3 yX3_hasPlace yX3_hasPlace, Cond.code yX3_hasPlace cX3_hasPlace 2 (some .boolean), Cond.methodLink RX2 60 yX2_takesNumber, Cond.instanceMethod yX2_takesNumber, Cond.selects RX2 yX2_takesNumber yX2_takesNumber, Cond.code yX2_takesNumber cX2_takesNumber 3 (some .boolean)]
def wsX2_readPerson : List Cond := .code yX2_readPerson cX2_readPerson 1 (some .boolean) :: ((wsX2_readPerson_r1 ++ wsX2_readPerson_r2) ++ wsX20 ++ wsX30)
def wsX2_readShare_r1 : List Cond := [Cond.fieldLink RX2 51 "TwoThirds$Reader" "number" "I", Cond.fieldLink RX2 54 "TwoThirds$Reader" "first" "I", Cond.fieldLink RX2 57 "TwoThirds$Reader" "second" "I", Cond.methodLink RX2 60 yX2_takesNumber, Cond.instanceMethod yX2_takesNumber, Cond.selects RX2 yX2_takesNumber yX2_takesNumber, Cond.initialized RX2, Cond.code yX2_takesNumber cX2_takesNumber 3 (some .boolean), Cond.methodLink RX2 48 yX2_takesDigit, Cond.instanceMethod yX2_takesDigit, Cond.selects RX2 yX2_takesDigit yX2_takesDigit, Cond.code yX2_takesDigit cX2_takesDigit 2 (some .boolean), Cond.fieldLink RX2 9 "TwoThirds$Reader" "text" "LTwoThirds$Row;", Cond.fieldLink RX2 19 "TwoThirds$Reader" "place" "I", Cond.methodLink RX2 28 yX3_at, Cond.instanceMethod yX3_at, Cond.selects RX3 yX3_at yX3_at, Cond.initialized RX3, Cond.code yX3_at cX3_at 2 (some .int), Cond.fieldLink RX3 25 "TwoThirds$Row" "size" "I", Cond.fieldLink RX3 9 "TwoThirds$Row" "elements" "[I", Cond.methodLink RX2 35 yX2_takes, Cond.instanceMethod yX2_takes, Cond.selects RX2 yX2_takes yX2_takes]
def wsX2_readShare_r2 : List Cond := [Cond.code yX2_takes cX2_takes 2 (some .boolean), Cond.methodLink RX2 66 yX3_hasPlace, Cond.instanceMethod yX3_hasPlace, Cond.selects RX3 yX3_hasPlace yX3_hasPlace, Cond.code yX3_hasPlace cX3_hasPlace 2 (some .boolean)]
def wsX2_readShare : List Cond := .code yX2_readShare cX2_readShare 1 (some .boolean) :: ((wsX2_readShare_r1 ++ wsX2_readShare_r2) ++ wsX20 ++ wsX30)
def wsX2_readHigh : List Cond := .code yX2_readHigh cX2_readHigh 1 (some .boolean) :: ([.fieldLink RX2 51 "TwoThirds$Reader" "number" "I", .fieldLink RX2 54 "TwoThirds$Reader" "first" "I", .methodLink RX2 60 yX2_takesNumber, .instanceMethod yX2_takesNumber, .selects RX2 yX2_takesNumber yX2_takesNumber, .initialized RX2, .code yX2_takesNumber cX2_takesNumber 3 (some .boolean), .methodLink RX2 48 yX2_takesDigit, .instanceMethod yX2_takesDigit, .selects RX2 yX2_takesDigit yX2_takesDigit, .code yX2_takesDigit cX2_takesDigit 2 (some .boolean), .fieldLink RX2 9 "TwoThirds$Reader" "text" "LTwoThirds$Row;", .fieldLink RX2 19 "TwoThirds$Reader" "place" "I", .methodLink RX2 28 yX3_at, .instanceMethod yX3_at, .selects RX3 yX3_at yX3_at, .initialized RX3, .code yX3_at cX3_at 2 (some .int), .fieldLink RX3 25 "TwoThirds$Row" "size" "I", .fieldLink RX3 9 "TwoThirds$Row" "elements" "[I"] ++ wsX20 ++ wsX30)
def wsX2_readStatement_r1 : List Cond := [Cond.fieldLink RX2 9 "TwoThirds$Reader" "text" "LTwoThirds$Row;", Cond.fieldLink RX2 19 "TwoThirds$Reader" "place" "I", Cond.fieldLink RX2 32 "TwoThirds$Reader" "letter" "I", Cond.methodLink RX2 28 yX3_at, Cond.instanceMethod yX3_at, Cond.selects RX3 yX3_at yX3_at, Cond.initialized RX3, Cond.code yX3_at cX3_at 2 (some .int), Cond.fieldLink RX3 25 "TwoThirds$Row" "size" "I", Cond.fieldLink RX3 9 "TwoThirds$Row" "elements" "[I", Cond.methodLink RX2 35 yX2_takes, Cond.instanceMethod yX2_takes, Cond.selects RX2 yX2_takes yX2_takes, Cond.initialized RX2, Cond.code yX2_takes cX2_takes 2 (some .boolean), Cond.methodLink RX2 66 yX3_hasPlace, Cond.instanceMethod yX3_hasPlace, Cond.selects RX3 yX3_hasPlace yX3_hasPlace, Cond.code yX3_hasPlace cX3_hasPlace 2 (some .boolean), Cond.methodLink RX2 39 yX2_readPerson, Cond.instanceMethod yX2_readPerson, Cond.selects RX2 yX2_readPerson yX2_readPerson, Cond.code yX2_readPerson cX2_readPerson 1 (some .boolean), Cond.fieldLink RX2 51 "TwoThirds$Reader" "number" "I"]
def wsX2_readStatement_r2 : List Cond := [Cond.fieldLink RX2 54 "TwoThirds$Reader" "first" "I", Cond.fieldLink RX2 57 "TwoThirds$Reader" "second" "I", Cond.fieldLink RX2 63 "TwoThirds$Reader" "third" "I", Cond.methodLink RX2 48 yX2_takesDigit, Cond.instanceMethod yX2_takesDigit, Cond.selects RX2 yX2_takesDigit yX2_takesDigit, Cond.code yX2_takesDigit cX2_takesDigit 2 (some .boolean), Cond.methodLink RX2 60 yX2_takesNumber, Cond.instanceMethod yX2_takesNumber, Cond.selects RX2 yX2_takesNumber yX2_takesNumber, Cond.code yX2_takesNumber cX2_takesNumber 3 (some .boolean), Cond.methodLink RX2 42 yX2_readShare, Cond.instanceMethod yX2_readShare, Cond.selects RX2 yX2_readShare yX2_readShare, Cond.code yX2_readShare cX2_readShare 1 (some .boolean), Cond.methodLink RX2 45 yX2_readHigh, Cond.instanceMethod yX2_readHigh, Cond.selects RX2 yX2_readHigh yX2_readHigh, Cond.code yX2_readHigh cX2_readHigh 1 (some .boolean)]
def wsX2_readStatement : List Cond := .code yX2_readStatement cX2_readStatement 1 (some .boolean) :: ((wsX2_readStatement_r1 ++ wsX2_readStatement_r2) ++ wsX20 ++ wsX30)
def wsX2_countStatements_r1 : List Cond := [Cond.fieldLink RX2 19 "TwoThirds$Reader" "place" "I", Cond.fieldLink RX2 9 "TwoThirds$Reader" "text" "LTwoThirds$Row;", Cond.fieldLink RX2 23 "TwoThirds$Row" "size" "I", Cond.methodLink RX2 15 yX2_readStatement, Cond.instanceMethod yX2_readStatement, Cond.selects RX2 yX2_readStatement yX2_readStatement, Cond.initialized RX2, Cond.code yX2_readStatement cX2_readStatement 1 (some .boolean), Cond.fieldLink RX2 32 "TwoThirds$Reader" "letter" "I", Cond.methodLink RX2 28 yX3_at, Cond.instanceMethod yX3_at, Cond.selects RX3 yX3_at yX3_at, Cond.initialized RX3, Cond.code yX3_at cX3_at 2 (some .int), Cond.fieldLink RX3 25 "TwoThirds$Row" "size" "I", Cond.fieldLink RX3 9 "TwoThirds$Row" "elements" "[I", Cond.methodLink RX2 35 yX2_takes, Cond.instanceMethod yX2_takes, Cond.selects RX2 yX2_takes yX2_takes, Cond.code yX2_takes cX2_takes 2 (some .boolean), Cond.methodLink RX2 66 yX3_hasPlace, Cond.instanceMethod yX3_hasPlace, Cond.selects RX3 yX3_hasPlace yX3_hasPlace, Cond.code yX3_hasPlace cX3_hasPlace 2 (some .boolean)]
def wsX2_countStatements_r2 : List Cond := [Cond.methodLink RX2 39 yX2_readPerson, Cond.instanceMethod yX2_readPerson, Cond.selects RX2 yX2_readPerson yX2_readPerson, Cond.code yX2_readPerson cX2_readPerson 1 (some .boolean), Cond.fieldLink RX2 51 "TwoThirds$Reader" "number" "I", Cond.fieldLink RX2 54 "TwoThirds$Reader" "first" "I", Cond.fieldLink RX2 57 "TwoThirds$Reader" "second" "I", Cond.fieldLink RX2 63 "TwoThirds$Reader" "third" "I", Cond.methodLink RX2 48 yX2_takesDigit, Cond.instanceMethod yX2_takesDigit, Cond.selects RX2 yX2_takesDigit yX2_takesDigit, Cond.code yX2_takesDigit cX2_takesDigit 2 (some .boolean), Cond.methodLink RX2 60 yX2_takesNumber, Cond.instanceMethod yX2_takesNumber, Cond.selects RX2 yX2_takesNumber yX2_takesNumber, Cond.code yX2_takesNumber cX2_takesNumber 3 (some .boolean), Cond.methodLink RX2 42 yX2_readShare, Cond.instanceMethod yX2_readShare, Cond.selects RX2 yX2_readShare yX2_readShare, Cond.code yX2_readShare cX2_readShare 1 (some .boolean), Cond.methodLink RX2 45 yX2_readHigh, Cond.instanceMethod yX2_readHigh, Cond.selects RX2 yX2_readHigh yX2_readHigh, Cond.code yX2_readHigh cX2_readHigh 1 (some .boolean)]
def wsX2_countStatements : List Cond := .code yX2_countStatements cX2_countStatements 3 (some .int) :: ((wsX2_countStatements_r1 ++ wsX2_countStatements_r2) ++ wsX20 ++ wsX30)
def wsX3_hasPlaces : List Cond := .code yX3_hasPlaces cX3_hasPlaces 3 (some .boolean) :: ([.fieldLink RX3 25 "TwoThirds$Row" "size" "I"] ++ wsX30)
def wsX3_leastNumber : List Cond := .code yX3_leastNumber cX3_leastNumber 1 (some .int) :: ([.fieldLink RX3 15 "TwoThirds$Row" "sort" "I", .constant RX3 49 (-2147483648)] ++ wsX30)
def wsX3_countOf : List Cond := .code yX3_countOf cX3_countOf 4 (some .int) :: ([.fieldLink RX3 25 "TwoThirds$Row" "size" "I", .fieldLink RX3 9 "TwoThirds$Row" "elements" "[I"] ++ wsX30)
def wsX4_init : List Cond := .code yX4_init cX4_init 1 none :: ([.methodLink RX4 3 objectInit, .instanceMethod objectInit, .code objectInit ⟨#[0xb1]⟩ 1 none, .classLink RX4 9 RX3, .instantiable RX3 3, .initialized RX3, .fieldLink RX4 14 "TwoThirds$Shelf" "row" "LTwoThirds$Row;", .classLink RX4 20 RX1, .instantiable RX1 4, .initialized RX1, .fieldLink RX4 23 "TwoThirds$Shelf" "person" "LTwoThirds$Person;", .methodLink RX4 11 yX3_init, .instanceMethod yX3_init, .code yX3_init cX3_init 2 none, .methodLink RX3 3 objectInit, .arrayClass .int, .fieldLink RX3 9 "TwoThirds$Row" "elements" "[I", .methodLink RX4 22 yX1_init, .instanceMethod yX1_init, .code yX1_init cX1_init 1 none, .methodLink RX1 3 objectInit] ++ wsX30 ++ wsX40 ++ wsX10)
def wsX5_init_r1 : List Cond := [Cond.methodLink RX5 1 objectInit, Cond.instanceMethod objectInit, Cond.code objectInit ⟨#[0xb1]⟩ 1 none, Cond.classLink RX5 7 RX0, Cond.instantiable RX0 10, Cond.initialized RX0, Cond.fieldLink RX5 10 "TwoThirds" "now" "LTwoThirds$Game;", Cond.fieldLink RX5 16 "TwoThirds" "kept" "LTwoThirds$Game;", Cond.fieldLink RX5 19 "TwoThirds" "mind" "LTwoThirds$Game;", Cond.classLink RX5 22 RX4, Cond.fieldLink RX5 24 "TwoThirds" "shelves" "[LTwoThirds$Shelf;", Cond.instantiable RX4 3, Cond.initialized RX4, Cond.arrayClass .int, Cond.fieldLink RX5 29 "TwoThirds" "counts" "[I", Cond.fieldLink RX5 33 "TwoThirds" "otherCounts" "[I", Cond.methodLink RX5 9 yX0_init, Cond.instanceMethod yX0_init, Cond.code yX0_init cX0_init 2 none, Cond.methodLink RX0 3 objectInit, Cond.fieldLink RX0 9 "TwoThirds$Game" "up" "I", Cond.fieldLink RX0 15 "TwoThirds$Game" "down" "I", Cond.fieldLink RX0 18 "TwoThirds$Game" "high" "I", Cond.fieldLink RX0 21 "TwoThirds$Game" "prize" "I"]
def wsX5_init_r2 : List Cond := [Cond.fieldLink RX0 24 "TwoThirds$Game" "z" "I", Cond.classLink RX0 27 RX1, Cond.fieldLink RX0 29 "TwoThirds$Game" "persons" "[LTwoThirds$Person;", Cond.instantiable RX1 4, Cond.initialized RX1, Cond.classLink RX0 34 RX3, Cond.instantiable RX3 3, Cond.initialized RX3, Cond.fieldLink RX0 39 "TwoThirds$Game" "cards" "LTwoThirds$Row;", Cond.methodLink RX0 33 yX1_init, Cond.instanceMethod yX1_init, Cond.code yX1_init cX1_init 1 none, Cond.methodLink RX1 3 objectInit, Cond.methodLink RX0 36 yX3_init, Cond.instanceMethod yX3_init, Cond.code yX3_init cX3_init 2 none, Cond.methodLink RX3 3 objectInit, Cond.fieldLink RX3 9 "TwoThirds$Row" "elements" "[I", Cond.methodLink RX5 28 yX4_init, Cond.instanceMethod yX4_init, Cond.code yX4_init cX4_init 1 none, Cond.methodLink RX4 3 objectInit, Cond.classLink RX4 9 RX3, Cond.fieldLink RX4 14 "TwoThirds$Shelf" "row" "LTwoThirds$Row;"]
def wsX5_init_r3 : List Cond := [Cond.classLink RX4 20 RX1, Cond.fieldLink RX4 23 "TwoThirds$Shelf" "person" "LTwoThirds$Person;", Cond.methodLink RX4 11 yX3_init, Cond.methodLink RX4 22 yX1_init]
def wsX5_init : List Cond := .code yX5_init cX5_init 2 none :: ((wsX5_init_r1 ++ (wsX5_init_r2 ++ wsX5_init_r3)) ++ wsX00 ++ wsX50 ++ wsX40 ++ wsX10 ++ wsX30)
def wsX5_shelfAt : List Cond := .code yX5_shelfAt cX5_shelfAt 2 (some (.object "TwoThirds$Shelf")) :: ([.fieldLink RX5 24 "TwoThirds" "shelves" "[LTwoThirds$Shelf;"] ++ wsX50)
def wsX5_refusalUnless : List Cond := .code yX5_refusalUnless cX5_refusalUnless 2 (some .int) :: ([.fieldLink RX5 231 "TwoThirds$Shelf" "holding" "I"] ++ wsX40)
def wsX5_rowRefusal : List Cond := .code yX5_rowRefusal cX5_rowRefusal 1 (some .int) :: ([.methodLink RX5 291 yX5_refusalUnless, .static yX5_refusalUnless, .initialized RX5, .code yX5_refusalUnless cX5_refusalUnless 2 (some .int), .fieldLink RX5 231 "TwoThirds$Shelf" "holding" "I"] ++ wsX40)
def wsX5_crowd_r1 : List Cond := [Cond.fieldLink RX5 44 "TwoThirds$Shelf" "row" "LTwoThirds$Row;", Cond.fieldLink RX5 48 "TwoThirds$Row" "sort" "I", Cond.classLink RX5 54 RX2, Cond.instantiable RX2 7, Cond.initialized RX2, Cond.fieldLink RX5 63 "TwoThirds$Reader" "place" "I", Cond.fieldLink RX5 19 "TwoThirds" "mind" "LTwoThirds$Game;", Cond.fieldLink RX5 10 "TwoThirds" "now" "LTwoThirds$Game;", Cond.methodLink RX5 36 yX5_shelfAt, Cond.instanceMethod yX5_shelfAt, Cond.selects RX5 yX5_shelfAt yX5_shelfAt, Cond.initialized RX5, Cond.code yX5_shelfAt cX5_shelfAt 2 (some (.object "TwoThirds$Shelf")), Cond.fieldLink RX5 24 "TwoThirds" "shelves" "[LTwoThirds$Shelf;", Cond.methodLink RX5 40 yX5_rowRefusal, Cond.static yX5_rowRefusal, Cond.code yX5_rowRefusal cX5_rowRefusal 1 (some .int), Cond.methodLink RX5 291 yX5_refusalUnless, Cond.static yX5_refusalUnless, Cond.code yX5_refusalUnless cX5_refusalUnless 2 (some .int), Cond.fieldLink RX5 231 "TwoThirds$Shelf" "holding" "I", Cond.methodLink RX5 56 yX2_init, Cond.instanceMethod yX2_init, Cond.code yX2_init cX2_init 2 none]
def wsX5_crowd_r2 : List Cond := [Cond.methodLink RX2 3 objectInit, Cond.instanceMethod objectInit, Cond.code objectInit ⟨#[0xb1]⟩ 1 none, Cond.fieldLink RX2 9 "TwoThirds$Reader" "text" "LTwoThirds$Row;", Cond.methodLink RX5 59 yX2_countStatements, Cond.instanceMethod yX2_countStatements, Cond.selects RX2 yX2_countStatements yX2_countStatements, Cond.code yX2_countStatements cX2_countStatements 3 (some .int), Cond.fieldLink RX2 19 "TwoThirds$Reader" "place" "I", Cond.fieldLink RX2 23 "TwoThirds$Row" "size" "I", Cond.methodLink RX2 15 yX2_readStatement, Cond.instanceMethod yX2_readStatement, Cond.selects RX2 yX2_readStatement yX2_readStatement, Cond.code yX2_readStatement cX2_readStatement 1 (some .boolean), Cond.fieldLink RX2 32 "TwoThirds$Reader" "letter" "I", Cond.methodLink RX2 28 yX3_at, Cond.instanceMethod yX3_at, Cond.selects RX3 yX3_at yX3_at, Cond.initialized RX3, Cond.code yX3_at cX3_at 2 (some .int), Cond.fieldLink RX3 25 "TwoThirds$Row" "size" "I", Cond.fieldLink RX3 9 "TwoThirds$Row" "elements" "[I", Cond.methodLink RX2 35 yX2_takes, Cond.instanceMethod yX2_takes]
def wsX5_crowd_r3 : List Cond := [Cond.selects RX2 yX2_takes yX2_takes, Cond.code yX2_takes cX2_takes 2 (some .boolean), Cond.methodLink RX2 66 yX3_hasPlace, Cond.instanceMethod yX3_hasPlace, Cond.selects RX3 yX3_hasPlace yX3_hasPlace, Cond.code yX3_hasPlace cX3_hasPlace 2 (some .boolean), Cond.methodLink RX2 39 yX2_readPerson, Cond.instanceMethod yX2_readPerson, Cond.selects RX2 yX2_readPerson yX2_readPerson, Cond.code yX2_readPerson cX2_readPerson 1 (some .boolean), Cond.fieldLink RX2 51 "TwoThirds$Reader" "number" "I", Cond.fieldLink RX2 54 "TwoThirds$Reader" "first" "I", Cond.fieldLink RX2 57 "TwoThirds$Reader" "second" "I", Cond.fieldLink RX2 63 "TwoThirds$Reader" "third" "I", Cond.methodLink RX2 48 yX2_takesDigit, Cond.instanceMethod yX2_takesDigit, Cond.selects RX2 yX2_takesDigit yX2_takesDigit, Cond.code yX2_takesDigit cX2_takesDigit 2 (some .boolean), Cond.methodLink RX2 60 yX2_takesNumber, Cond.instanceMethod yX2_takesNumber, Cond.selects RX2 yX2_takesNumber yX2_takesNumber, Cond.code yX2_takesNumber cX2_takesNumber 3 (some .boolean), Cond.methodLink RX2 42 yX2_readShare, Cond.instanceMethod yX2_readShare]
def wsX5_crowd_r4 : List Cond := [Cond.selects RX2 yX2_readShare yX2_readShare, Cond.code yX2_readShare cX2_readShare 1 (some .boolean), Cond.methodLink RX2 45 yX2_readHigh, Cond.instanceMethod yX2_readHigh, Cond.selects RX2 yX2_readHigh yX2_readHigh, Cond.code yX2_readHigh cX2_readHigh 1 (some .boolean), Cond.methodLink RX5 66 yX0_takeFrom, Cond.instanceMethod yX0_takeFrom, Cond.selects RX0 yX0_takeFrom yX0_takeFrom, Cond.initialized RX0, Cond.code yX0_takeFrom cX0_takeFrom 3 none, Cond.fieldLink RX0 9 "TwoThirds$Game" "up" "I", Cond.fieldLink RX0 15 "TwoThirds$Game" "down" "I", Cond.fieldLink RX0 18 "TwoThirds$Game" "high" "I", Cond.fieldLink RX0 21 "TwoThirds$Game" "prize" "I", Cond.fieldLink RX0 24 "TwoThirds$Game" "z" "I", Cond.fieldLink RX0 43 "TwoThirds$Game" "rounds" "I", Cond.fieldLink RX0 46 "TwoThirds$Game" "people" "I", Cond.fieldLink RX0 29 "TwoThirds$Game" "persons" "[LTwoThirds$Person;", Cond.fieldLink RX0 39 "TwoThirds$Game" "cards" "LTwoThirds$Row;", Cond.fieldLink RX0 56 "TwoThirds$Game" "lastSum" "I", Cond.methodLink RX0 49 yX1_takeFrom, Cond.instanceMethod yX1_takeFrom, Cond.selects RX1 yX1_takeFrom yX1_takeFrom]
def wsX5_crowd_r5 : List Cond := [Cond.initialized RX1, Cond.code yX1_takeFrom cX1_takeFrom 2 none, Cond.fieldLink RX1 9 "TwoThirds$Person" "number" "I", Cond.fieldLink RX1 15 "TwoThirds$Person" "kind" "I", Cond.fieldLink RX1 18 "TwoThirds$Person" "stepCount" "I", Cond.fieldLink RX1 21 "TwoThirds$Person" "slip" "I", Cond.methodLink RX1 24 yX1_begin, Cond.instanceMethod yX1_begin, Cond.selects RX1 yX1_begin yX1_begin, Cond.code yX1_begin cX1_begin 5 none, Cond.methodLink RX0 53 yX3_takeFrom, Cond.instanceMethod yX3_takeFrom, Cond.selects RX3 yX3_takeFrom yX3_takeFrom, Cond.code yX3_takeFrom cX3_takeFrom 3 none, Cond.fieldLink RX3 15 "TwoThirds$Row" "sort" "I", Cond.methodLink RX3 34 yX3_begin, Cond.instanceMethod yX3_begin, Cond.selects RX3 yX3_begin yX3_begin, Cond.code yX3_begin cX3_begin 3 none, Cond.methodLink RX3 19 Lib.Math.min.name, Cond.static Lib.Math.min.name, Cond.initialized "java/lang/Math", Cond.code Lib.Math.min.name Lib.Math.min.code 2 (some .int), Cond.methodLink RX3 28 yJ7_fill_53178]
def wsX5_crowd_r6 : List Cond := [Cond.static yJ7_fill_53178, Cond.initialized RJ7, Cond.code yJ7_fill_53178 cJ7_fill_53178 4 none, Cond.methodLink RX3 38 yX3_at, Cond.methodLink RX5 70 yX2_readStatement, Cond.methodLink RX5 74 yX0_follows, Cond.instanceMethod yX0_follows, Cond.selects RX0 yX0_follows yX0_follows, Cond.code yX0_follows cX0_follows 2 (some .boolean), Cond.fieldLink RX0 66 "TwoThirds$Reader" "letter" "I", Cond.fieldLink RX0 71 "TwoThirds$Reader" "first" "I", Cond.fieldLink RX0 74 "TwoThirds$Reader" "second" "I", Cond.fieldLink RX0 77 "TwoThirds$Reader" "third" "I", Cond.methodLink RX0 80 yX0_addPerson, Cond.instanceMethod yX0_addPerson, Cond.selects RX0 yX0_addPerson yX0_addPerson, Cond.code yX0_addPerson cX0_addPerson 4 (some .boolean), Cond.static yX5_isStepCount, Cond.code yX5_isStepCount cX5_isStepCount 1 (some .boolean), Cond.methodLink RX0 98 yX1_begin, Cond.methodLink RX0 84 yX0_changeIfCanBe, Cond.instanceMethod yX0_changeIfCanBe, Cond.selects RX0 yX0_changeIfCanBe yX0_changeIfCanBe, Cond.code yX0_changeIfCanBe cX0_changeIfCanBe 3 (some .boolean)]
def wsX5_crowd_r7 : List Cond := [Cond.methodLink RX0 88 yX0_canBe, Cond.static yX0_canBe, Cond.code yX0_canBe cX0_canBe 2 (some .boolean), Cond.static yX5_isOneOfTwo, Cond.code yX5_isOneOfTwo cX5_isOneOfTwo 1 (some .boolean), Cond.methodLink RX0 91 yX0_change, Cond.instanceMethod yX0_change, Cond.selects RX0 yX0_change yX0_change, Cond.code yX0_change cX0_change 3 none]
def wsX5_crowd : List Cond := .code yX5_crowd cX5_crowd 8 (some .int) :: ((wsX5_crowd_r1 ++ (wsX5_crowd_r2 ++ (wsX5_crowd_r3 ++ (wsX5_crowd_r4 ++ (wsX5_crowd_r5 ++ (wsX5_crowd_r6 ++ wsX5_crowd_r7)))))) ++ wsX40 ++ wsX30 ++ wsX20 ++ wsX50 ++ wsX00 ++ wsX10)
def wsX5_of : List Cond := .code yX5_of cX5_of 4 (some .int) :: ([.fieldLink RX5 10 "TwoThirds" "now" "LTwoThirds$Game;", .fieldLink RX5 82 "TwoThirds$Person" "kind" "I", .fieldLink RX5 87 "TwoThirds$Person" "stepCount" "I", .fieldLink RX5 90 "TwoThirds$Person" "slip" "I", .fieldLink RX5 93 "TwoThirds$Game" "rounds" "I", .fieldLink RX5 96 "TwoThirds$Game" "cards" "LTwoThirds$Row;", .methodLink RX5 78 yX0_personAt, .instanceMethod yX0_personAt, .selects RX0 yX0_personAt yX0_personAt, .initialized RX0, .code yX0_personAt cX0_personAt 2 (some (.object "TwoThirds$Person")), .fieldLink RX0 46 "TwoThirds$Game" "people" "I", .fieldLink RX0 29 "TwoThirds$Game" "persons" "[LTwoThirds$Person;", .methodLink RX5 99 yX3_at, .instanceMethod yX3_at, .selects RX3 yX3_at yX3_at, .initialized RX3, .code yX3_at cX3_at 2 (some .int), .fieldLink RX3 25 "TwoThirds$Row" "size" "I", .fieldLink RX3 9 "TwoThirds$Row" "elements" "[I"] ++ wsX50 ++ wsX10 ++ wsX00 ++ wsX30)
def wsX5_set : List Cond := .code yX5_set cX5_set 4 (some .int) :: ([.fieldLink RX5 10 "TwoThirds" "now" "LTwoThirds$Game;", .fieldLink RX5 93 "TwoThirds$Game" "rounds" "I", .methodLink RX5 103 yX0_canBe, .static yX0_canBe, .initialized RX0, .code yX0_canBe cX0_canBe 2 (some .boolean), .static yX5_isOneOfTwo, .initialized RX5, .code yX5_isOneOfTwo cX5_isOneOfTwo 1 (some .boolean), .methodLink RX5 107 yX0_setting, .instanceMethod yX0_setting, .selects RX0 yX0_setting yX0_setting, .code yX0_setting cX0_setting 2 (some .int), .fieldLink RX0 9 "TwoThirds$Game" "up" "I", .fieldLink RX0 15 "TwoThirds$Game" "down" "I", .fieldLink RX0 18 "TwoThirds$Game" "high" "I", .fieldLink RX0 21 "TwoThirds$Game" "prize" "I", .fieldLink RX0 24 "TwoThirds$Game" "z" "I", .methodLink RX5 110 yX0_change, .instanceMethod yX0_change, .selects RX0 yX0_change yX0_change, .code yX0_change cX0_change 3 none] ++ wsX50 ++ wsX00)
def wsX5_steps : List Cond := .code yX5_steps cX5_steps 5 (some .int) :: ([.fieldLink RX5 10 "TwoThirds" "now" "LTwoThirds$Game;", .fieldLink RX5 87 "TwoThirds$Person" "stepCount" "I", .methodLink RX5 78 yX0_personAt, .instanceMethod yX0_personAt, .selects RX0 yX0_personAt yX0_personAt, .initialized RX0, .code yX0_personAt cX0_personAt 2 (some (.object "TwoThirds$Person")), .fieldLink RX0 46 "TwoThirds$Game" "people" "I", .fieldLink RX0 29 "TwoThirds$Game" "persons" "[LTwoThirds$Person;", .methodLink RX5 114 yX5_isStepCount, .static yX5_isStepCount, .initialized RX5, .code yX5_isStepCount cX5_isStepCount 1 (some .boolean)] ++ wsX50 ++ wsX10 ++ wsX00)
def wsX5_holds_r1 : List Cond := [Cond.fieldLink RX5 10 "TwoThirds" "now" "LTwoThirds$Game;", Cond.methodLink RX5 78 yX0_personAt, Cond.instanceMethod yX0_personAt, Cond.selects RX0 yX0_personAt yX0_personAt, Cond.initialized RX0, Cond.code yX0_personAt cX0_personAt 2 (some (.object "TwoThirds$Person")), Cond.fieldLink RX0 46 "TwoThirds$Game" "people" "I", Cond.fieldLink RX0 29 "TwoThirds$Game" "persons" "[LTwoThirds$Person;", Cond.methodLink RX5 118 yX1_holdsByDraw, Cond.instanceMethod yX1_holdsByDraw, Cond.selects RX1 yX1_holdsByDraw yX1_holdsByDraw, Cond.initialized RX1, Cond.code yX1_holdsByDraw cX1_holdsByDraw 1 (some .boolean), Cond.fieldLink RX1 15 "TwoThirds$Person" "kind" "I", Cond.methodLink RX5 121 yX0_heldBy, Cond.instanceMethod yX0_heldBy, Cond.selects RX0 yX0_heldBy yX0_heldBy, Cond.code yX0_heldBy cX0_heldBy 2 (some .int), Cond.fieldLink RX0 123 "TwoThirds$Person" "kind" "I", Cond.fieldLink RX0 18 "TwoThirds$Game" "high" "I", Cond.fieldLink RX0 59 "TwoThirds$Person" "stepCount" "I", Cond.fieldLink RX0 9 "TwoThirds$Game" "up" "I", Cond.fieldLink RX0 15 "TwoThirds$Game" "down" "I", Cond.methodLink RX0 126 yX0_drawBelow]
def wsX5_holds_r2 : List Cond := [Cond.instanceMethod yX0_drawBelow, Cond.selects RX0 yX0_drawBelow yX0_drawBelow, Cond.code yX0_drawBelow cX0_drawBelow 3 (some .int), Cond.fieldLink RX0 24 "TwoThirds$Game" "z" "I", Cond.constant RX0 102 (1103515245), Cond.constant RX0 103 (2147483647), Cond.constant RX0 104 (65536), Cond.methodLink RX0 129 yX0_stepped, Cond.instanceMethod yX0_stepped, Cond.selects RX0 yX0_stepped yX0_stepped, Cond.code yX0_stepped cX0_stepped 2 (some .int), Cond.methodLink RX0 113 yX0_middle, Cond.instanceMethod yX0_middle, Cond.selects RX0 yX0_middle yX0_middle, Cond.code yX0_middle cX0_middle 1 (some .int), Cond.methodLink RX0 117 yX0_sharedTimes, Cond.instanceMethod yX0_sharedTimes, Cond.selects RX0 yX0_sharedTimes yX0_sharedTimes, Cond.code yX0_sharedTimes cX0_sharedTimes 5 (some .int), Cond.methodLink RX0 120 yX0_shareOf, Cond.instanceMethod yX0_shareOf, Cond.selects RX0 yX0_shareOf yX0_shareOf, Cond.code yX0_shareOf cX0_shareOf 2 (some .int), Cond.static yX5_over]
def wsX5_holds_r3 : List Cond := [Cond.initialized RX5, Cond.code yX5_over cX5_over 2 (some .int), Cond.methodLink RX0 109 yX0_heldToCards, Cond.instanceMethod yX0_heldToCards, Cond.selects RX0 yX0_heldToCards yX0_heldToCards, Cond.code yX0_heldToCards cX0_heldToCards 2 (some .int), Cond.methodLink RX0 132 yX0_mixed, Cond.instanceMethod yX0_mixed, Cond.selects RX0 yX0_mixed yX0_mixed, Cond.code yX0_mixed cX0_mixed 5 (some .int), Cond.methodLink RX0 135 yX0_learned, Cond.instanceMethod yX0_learned, Cond.selects RX0 yX0_learned yX0_learned, Cond.code yX0_learned cX0_learned 2 (some .int), Cond.fieldLink RX0 43 "TwoThirds$Game" "rounds" "I", Cond.fieldLink RX0 56 "TwoThirds$Game" "lastSum" "I"]
def wsX5_holds : List Cond := .code yX5_holds cX5_holds 3 (some .int) :: ((wsX5_holds_r1 ++ (wsX5_holds_r2 ++ wsX5_holds_r3)) ++ wsX50 ++ wsX00 ++ wsX10)
def wsX5_round_r1 : List Cond := [Cond.fieldLink RX5 10 "TwoThirds" "now" "LTwoThirds$Game;", Cond.fieldLink RX5 93 "TwoThirds$Game" "rounds" "I", Cond.fieldLink RX5 125 "TwoThirds$Game" "people" "I", Cond.methodLink RX5 128 yX0_play, Cond.instanceMethod yX0_play, Cond.selects RX0 yX0_play yX0_play, Cond.initialized RX0, Cond.code yX0_play cX0_play 2 none, Cond.fieldLink RX0 39 "TwoThirds$Game" "cards" "LTwoThirds$Row;", Cond.fieldLink RX0 46 "TwoThirds$Game" "people" "I", Cond.fieldLink RX0 29 "TwoThirds$Game" "persons" "[LTwoThirds$Person;", Cond.fieldLink RX0 56 "TwoThirds$Game" "lastSum" "I", Cond.fieldLink RX0 43 "TwoThirds$Game" "rounds" "I", Cond.methodLink RX0 145 yX3_begin, Cond.instanceMethod yX3_begin, Cond.selects RX3 yX3_begin yX3_begin, Cond.initialized RX3, Cond.code yX3_begin cX3_begin 3 none, Cond.fieldLink RX3 15 "TwoThirds$Row" "sort" "I", Cond.fieldLink RX3 9 "TwoThirds$Row" "elements" "[I", Cond.methodLink RX3 19 Lib.Math.min.name, Cond.static Lib.Math.min.name, Cond.initialized "java/lang/Math", Cond.code Lib.Math.min.name Lib.Math.min.code 2 (some .int)]
def wsX5_round_r2 : List Cond := [Cond.fieldLink RX3 25 "TwoThirds$Row" "size" "I", Cond.methodLink RX3 28 yJ7_fill_53178, Cond.static yJ7_fill_53178, Cond.initialized RJ7, Cond.code yJ7_fill_53178 cJ7_fill_53178 4 none, Cond.methodLink RX0 147 yX0_cardOf, Cond.instanceMethod yX0_cardOf, Cond.selects RX0 yX0_cardOf yX0_cardOf, Cond.code yX0_cardOf cX0_cardOf 3 (some .int), Cond.fieldLink RX0 142 "TwoThirds$Person" "slip" "I", Cond.methodLink RX0 138 yX0_heldBy, Cond.instanceMethod yX0_heldBy, Cond.selects RX0 yX0_heldBy yX0_heldBy, Cond.code yX0_heldBy cX0_heldBy 2 (some .int), Cond.fieldLink RX0 123 "TwoThirds$Person" "kind" "I", Cond.fieldLink RX0 18 "TwoThirds$Game" "high" "I", Cond.fieldLink RX0 59 "TwoThirds$Person" "stepCount" "I", Cond.fieldLink RX0 9 "TwoThirds$Game" "up" "I", Cond.fieldLink RX0 15 "TwoThirds$Game" "down" "I", Cond.methodLink RX0 126 yX0_drawBelow, Cond.instanceMethod yX0_drawBelow, Cond.selects RX0 yX0_drawBelow yX0_drawBelow, Cond.code yX0_drawBelow cX0_drawBelow 3 (some .int), Cond.fieldLink RX0 24 "TwoThirds$Game" "z" "I"]
def wsX5_round_r3 : List Cond := [Cond.constant RX0 102 (1103515245), Cond.constant RX0 103 (2147483647), Cond.constant RX0 104 (65536), Cond.methodLink RX0 129 yX0_stepped, Cond.instanceMethod yX0_stepped, Cond.selects RX0 yX0_stepped yX0_stepped, Cond.code yX0_stepped cX0_stepped 2 (some .int), Cond.methodLink RX0 113 yX0_middle, Cond.instanceMethod yX0_middle, Cond.selects RX0 yX0_middle yX0_middle, Cond.code yX0_middle cX0_middle 1 (some .int), Cond.methodLink RX0 117 yX0_sharedTimes, Cond.instanceMethod yX0_sharedTimes, Cond.selects RX0 yX0_sharedTimes yX0_sharedTimes, Cond.code yX0_sharedTimes cX0_sharedTimes 5 (some .int), Cond.methodLink RX0 120 yX0_shareOf, Cond.instanceMethod yX0_shareOf, Cond.selects RX0 yX0_shareOf yX0_shareOf, Cond.code yX0_shareOf cX0_shareOf 2 (some .int), Cond.static yX5_over, Cond.initialized RX5, Cond.code yX5_over cX5_over 2 (some .int), Cond.methodLink RX0 109 yX0_heldToCards, Cond.instanceMethod yX0_heldToCards]
def wsX5_round_r4 : List Cond := [Cond.selects RX0 yX0_heldToCards yX0_heldToCards, Cond.code yX0_heldToCards cX0_heldToCards 2 (some .int), Cond.methodLink RX0 132 yX0_mixed, Cond.instanceMethod yX0_mixed, Cond.selects RX0 yX0_mixed yX0_mixed, Cond.code yX0_mixed cX0_mixed 5 (some .int), Cond.methodLink RX0 135 yX0_learned, Cond.instanceMethod yX0_learned, Cond.selects RX0 yX0_learned yX0_learned, Cond.code yX0_learned cX0_learned 2 (some .int), Cond.methodLink RX0 150 yX3_write, Cond.instanceMethod yX3_write, Cond.selects RX3 yX3_write yX3_write, Cond.code yX3_write cX3_write 3 none, Cond.methodLink RX3 42 yX3_hasPlace, Cond.instanceMethod yX3_hasPlace, Cond.selects RX3 yX3_hasPlace yX3_hasPlace, Cond.code yX3_hasPlace cX3_hasPlace 2 (some .boolean), Cond.methodLink RX3 46 yX3_lowestBits, Cond.instanceMethod yX3_lowestBits, Cond.selects RX3 yX3_lowestBits yX3_lowestBits, Cond.code yX3_lowestBits cX3_lowestBits 2 (some .int), Cond.methodLink RX0 153 yX3_sum, Cond.instanceMethod yX3_sum]
def wsX5_round_r5 : List Cond := [Cond.selects RX3 yX3_sum yX3_sum, Cond.code yX3_sum cX3_sum 3 (some .int)]
def wsX5_round : List Cond := .code yX5_round cX5_round 1 (some .int) :: ((wsX5_round_r1 ++ (wsX5_round_r2 ++ (wsX5_round_r3 ++ (wsX5_round_r4 ++ wsX5_round_r5)))) ++ wsX50 ++ wsX00 ++ wsX30 ++ wsX10)
def wsX5_anew_r1 : List Cond := [Cond.fieldLink RX5 10 "TwoThirds" "now" "LTwoThirds$Game;", Cond.fieldLink RX5 125 "TwoThirds$Game" "people" "I", Cond.methodLink RX5 131 yX0_forgetRounds, Cond.instanceMethod yX0_forgetRounds, Cond.selects RX0 yX0_forgetRounds yX0_forgetRounds, Cond.initialized RX0, Cond.code yX0_forgetRounds cX0_forgetRounds 1 none, Cond.fieldLink RX0 43 "TwoThirds$Game" "rounds" "I", Cond.fieldLink RX0 56 "TwoThirds$Game" "lastSum" "I", Cond.fieldLink RX0 39 "TwoThirds$Game" "cards" "LTwoThirds$Row;", Cond.methodLink RX0 145 yX3_begin, Cond.instanceMethod yX3_begin, Cond.selects RX3 yX3_begin yX3_begin, Cond.initialized RX3, Cond.code yX3_begin cX3_begin 3 none, Cond.fieldLink RX3 15 "TwoThirds$Row" "sort" "I", Cond.fieldLink RX3 9 "TwoThirds$Row" "elements" "[I", Cond.methodLink RX3 19 Lib.Math.min.name, Cond.static Lib.Math.min.name, Cond.initialized "java/lang/Math", Cond.code Lib.Math.min.name Lib.Math.min.code 2 (some .int), Cond.fieldLink RX3 25 "TwoThirds$Row" "size" "I", Cond.methodLink RX3 28 yJ7_fill_53178, Cond.static yJ7_fill_53178]
def wsX5_anew_r2 : List Cond := [Cond.initialized RJ7, Cond.code yJ7_fill_53178 cJ7_fill_53178 4 none]
def wsX5_anew : List Cond := .code yX5_anew cX5_anew 1 (some .int) :: ((wsX5_anew_r1 ++ wsX5_anew_r2) ++ wsX50 ++ wsX00 ++ wsX30)
def wsX5_last_r1 : List Cond := [Cond.fieldLink RX5 10 "TwoThirds" "now" "LTwoThirds$Game;", Cond.fieldLink RX5 93 "TwoThirds$Game" "rounds" "I", Cond.fieldLink RX5 134 "TwoThirds$Game" "lastSum" "I", Cond.fieldLink RX5 96 "TwoThirds$Game" "cards" "LTwoThirds$Row;", Cond.methodLink RX5 137 yX0_countWinners, Cond.instanceMethod yX0_countWinners, Cond.selects RX0 yX0_countWinners yX0_countWinners, Cond.initialized RX0, Cond.code yX0_countWinners cX0_countWinners 8 (some .int), Cond.fieldLink RX0 156 "TwoThirds$Row" "size" "I", Cond.methodLink RX0 176 yX0_firstWinner, Cond.instanceMethod yX0_firstWinner, Cond.selects RX0 yX0_firstWinner yX0_firstWinner, Cond.code yX0_firstWinner cX0_firstWinner 8 (some .int), Cond.constant RX0 103 (2147483647), Cond.methodLink RX0 165 yX0_targetAbove, Cond.instanceMethod yX0_targetAbove, Cond.selects RX0 yX0_targetAbove yX0_targetAbove, Cond.code yX0_targetAbove cX0_targetAbove 2 (some .int), Cond.fieldLink RX0 9 "TwoThirds$Game" "up" "I", Cond.methodLink RX0 153 yX3_sum, Cond.instanceMethod yX3_sum, Cond.selects RX3 yX3_sum yX3_sum, Cond.initialized RX3]
def wsX5_last_r2 : List Cond := [Cond.code yX3_sum cX3_sum 3 (some .int), Cond.fieldLink RX3 25 "TwoThirds$Row" "size" "I", Cond.fieldLink RX3 9 "TwoThirds$Row" "elements" "[I", Cond.methodLink RX0 169 yX0_targetLine, Cond.instanceMethod yX0_targetLine, Cond.selects RX0 yX0_targetLine yX0_targetLine, Cond.code yX0_targetLine cX0_targetLine 2 (some .int), Cond.fieldLink RX0 15 "TwoThirds$Game" "down" "I", Cond.methodLink RX0 159 yX3_at, Cond.instanceMethod yX3_at, Cond.selects RX3 yX3_at yX3_at, Cond.code yX3_at cX3_at 2 (some .int), Cond.methodLink RX0 172 yX0_farFrom, Cond.instanceMethod yX0_farFrom, Cond.selects RX0 yX0_farFrom yX0_farFrom, Cond.code yX0_farFrom cX0_farFrom 5 (some .int), Cond.fieldLink RX0 21 "TwoThirds$Game" "prize" "I", Cond.methodLink RX5 141 yX0_firstWinner]
def wsX5_last : List Cond := .code yX5_last cX5_last 2 (some .int) :: ((wsX5_last_r1 ++ wsX5_last_r2) ++ wsX50 ++ wsX00 ++ wsX30)
def wsX5_commonMeasure : List Cond := .code yX5_commonMeasure cX5_commonMeasure 6 (some .int) :: ([])
def wsX5_leastPart : List Cond := .code yX5_leastPart cX5_leastPart 3 (some .int) :: ([.methodLink RX5 295 yX5_commonMeasure, .static yX5_commonMeasure, .initialized RX5, .code yX5_commonMeasure cX5_commonMeasure 6 (some .int), .methodLink RX5 299 yX5_over, .static yX5_over, .code yX5_over cX5_over 2 (some .int)])
def wsX5_target_r1 : List Cond := [Cond.fieldLink RX5 10 "TwoThirds" "now" "LTwoThirds$Game;", Cond.fieldLink RX5 93 "TwoThirds$Game" "rounds" "I", Cond.fieldLink RX5 96 "TwoThirds$Game" "cards" "LTwoThirds$Row;", Cond.methodLink RX5 144 yX5_isOneOfTwo, Cond.static yX5_isOneOfTwo, Cond.initialized RX5, Cond.code yX5_isOneOfTwo cX5_isOneOfTwo 1 (some .boolean), Cond.methodLink RX5 147 yX0_targetAbove, Cond.instanceMethod yX0_targetAbove, Cond.selects RX0 yX0_targetAbove yX0_targetAbove, Cond.initialized RX0, Cond.code yX0_targetAbove cX0_targetAbove 2 (some .int), Cond.fieldLink RX0 9 "TwoThirds$Game" "up" "I", Cond.methodLink RX0 153 yX3_sum, Cond.instanceMethod yX3_sum, Cond.selects RX3 yX3_sum yX3_sum, Cond.initialized RX3, Cond.code yX3_sum cX3_sum 3 (some .int), Cond.fieldLink RX3 25 "TwoThirds$Row" "size" "I", Cond.fieldLink RX3 9 "TwoThirds$Row" "elements" "[I", Cond.methodLink RX5 150 yX0_targetLine, Cond.instanceMethod yX0_targetLine, Cond.selects RX0 yX0_targetLine yX0_targetLine, Cond.code yX0_targetLine cX0_targetLine 2 (some .int)]
def wsX5_target_r2 : List Cond := [Cond.fieldLink RX0 15 "TwoThirds$Game" "down" "I", Cond.fieldLink RX0 156 "TwoThirds$Row" "size" "I", Cond.methodLink RX5 153 yX5_leastPart, Cond.static yX5_leastPart, Cond.code yX5_leastPart cX5_leastPart 3 (some .int), Cond.methodLink RX5 295 yX5_commonMeasure, Cond.static yX5_commonMeasure, Cond.code yX5_commonMeasure cX5_commonMeasure 6 (some .int), Cond.methodLink RX5 299 yX5_over, Cond.static yX5_over, Cond.code yX5_over cX5_over 2 (some .int)]
def wsX5_target : List Cond := .code yX5_target cX5_target 2 (some .int) :: ((wsX5_target_r1 ++ wsX5_target_r2) ++ wsX50 ++ wsX00 ++ wsX30)
def wsX5_wins_r1 : List Cond := [Cond.fieldLink RX5 10 "TwoThirds" "now" "LTwoThirds$Game;", Cond.fieldLink RX5 19 "TwoThirds" "mind" "LTwoThirds$Game;", Cond.fieldLink RX5 96 "TwoThirds$Game" "cards" "LTwoThirds$Row;", Cond.methodLink RX5 78 yX0_personAt, Cond.instanceMethod yX0_personAt, Cond.selects RX0 yX0_personAt yX0_personAt, Cond.initialized RX0, Cond.code yX0_personAt cX0_personAt 2 (some (.object "TwoThirds$Person")), Cond.fieldLink RX0 46 "TwoThirds$Game" "people" "I", Cond.fieldLink RX0 29 "TwoThirds$Game" "persons" "[LTwoThirds$Person;", Cond.methodLink RX5 66 yX0_takeFrom, Cond.instanceMethod yX0_takeFrom, Cond.selects RX0 yX0_takeFrom yX0_takeFrom, Cond.code yX0_takeFrom cX0_takeFrom 3 none, Cond.fieldLink RX0 9 "TwoThirds$Game" "up" "I", Cond.fieldLink RX0 15 "TwoThirds$Game" "down" "I", Cond.fieldLink RX0 18 "TwoThirds$Game" "high" "I", Cond.fieldLink RX0 21 "TwoThirds$Game" "prize" "I", Cond.fieldLink RX0 24 "TwoThirds$Game" "z" "I", Cond.fieldLink RX0 43 "TwoThirds$Game" "rounds" "I", Cond.fieldLink RX0 39 "TwoThirds$Game" "cards" "LTwoThirds$Row;", Cond.fieldLink RX0 56 "TwoThirds$Game" "lastSum" "I", Cond.methodLink RX0 49 yX1_takeFrom, Cond.instanceMethod yX1_takeFrom]
def wsX5_wins_r2 : List Cond := [Cond.selects RX1 yX1_takeFrom yX1_takeFrom, Cond.initialized RX1, Cond.code yX1_takeFrom cX1_takeFrom 2 none, Cond.fieldLink RX1 9 "TwoThirds$Person" "number" "I", Cond.fieldLink RX1 15 "TwoThirds$Person" "kind" "I", Cond.fieldLink RX1 18 "TwoThirds$Person" "stepCount" "I", Cond.fieldLink RX1 21 "TwoThirds$Person" "slip" "I", Cond.methodLink RX1 24 yX1_begin, Cond.instanceMethod yX1_begin, Cond.selects RX1 yX1_begin yX1_begin, Cond.code yX1_begin cX1_begin 5 none, Cond.methodLink RX0 53 yX3_takeFrom, Cond.instanceMethod yX3_takeFrom, Cond.selects RX3 yX3_takeFrom yX3_takeFrom, Cond.initialized RX3, Cond.code yX3_takeFrom cX3_takeFrom 3 none, Cond.fieldLink RX3 15 "TwoThirds$Row" "sort" "I", Cond.fieldLink RX3 25 "TwoThirds$Row" "size" "I", Cond.fieldLink RX3 9 "TwoThirds$Row" "elements" "[I", Cond.methodLink RX3 34 yX3_begin, Cond.instanceMethod yX3_begin, Cond.selects RX3 yX3_begin yX3_begin, Cond.code yX3_begin cX3_begin 3 none, Cond.methodLink RX3 19 Lib.Math.min.name]
def wsX5_wins_r3 : List Cond := [Cond.static Lib.Math.min.name, Cond.initialized "java/lang/Math", Cond.code Lib.Math.min.name Lib.Math.min.code 2 (some .int), Cond.methodLink RX3 28 yJ7_fill_53178, Cond.static yJ7_fill_53178, Cond.initialized RJ7, Cond.code yJ7_fill_53178 cJ7_fill_53178 4 none, Cond.methodLink RX3 38 yX3_at, Cond.instanceMethod yX3_at, Cond.selects RX3 yX3_at yX3_at, Cond.code yX3_at cX3_at 2 (some .int), Cond.methodLink RX5 128 yX0_play, Cond.instanceMethod yX0_play, Cond.selects RX0 yX0_play yX0_play, Cond.code yX0_play cX0_play 2 none, Cond.methodLink RX0 145 yX3_begin, Cond.methodLink RX0 147 yX0_cardOf, Cond.instanceMethod yX0_cardOf, Cond.selects RX0 yX0_cardOf yX0_cardOf, Cond.code yX0_cardOf cX0_cardOf 3 (some .int), Cond.fieldLink RX0 142 "TwoThirds$Person" "slip" "I", Cond.methodLink RX0 138 yX0_heldBy, Cond.instanceMethod yX0_heldBy, Cond.selects RX0 yX0_heldBy yX0_heldBy]
def wsX5_wins_r4 : List Cond := [Cond.code yX0_heldBy cX0_heldBy 2 (some .int), Cond.fieldLink RX0 123 "TwoThirds$Person" "kind" "I", Cond.fieldLink RX0 59 "TwoThirds$Person" "stepCount" "I", Cond.methodLink RX0 126 yX0_drawBelow, Cond.instanceMethod yX0_drawBelow, Cond.selects RX0 yX0_drawBelow yX0_drawBelow, Cond.code yX0_drawBelow cX0_drawBelow 3 (some .int), Cond.constant RX0 102 (1103515245), Cond.constant RX0 103 (2147483647), Cond.constant RX0 104 (65536), Cond.methodLink RX0 129 yX0_stepped, Cond.instanceMethod yX0_stepped, Cond.selects RX0 yX0_stepped yX0_stepped, Cond.code yX0_stepped cX0_stepped 2 (some .int), Cond.methodLink RX0 113 yX0_middle, Cond.instanceMethod yX0_middle, Cond.selects RX0 yX0_middle yX0_middle, Cond.code yX0_middle cX0_middle 1 (some .int), Cond.methodLink RX0 117 yX0_sharedTimes, Cond.instanceMethod yX0_sharedTimes, Cond.selects RX0 yX0_sharedTimes yX0_sharedTimes, Cond.code yX0_sharedTimes cX0_sharedTimes 5 (some .int), Cond.methodLink RX0 120 yX0_shareOf, Cond.instanceMethod yX0_shareOf]
def wsX5_wins_r5 : List Cond := [Cond.selects RX0 yX0_shareOf yX0_shareOf, Cond.code yX0_shareOf cX0_shareOf 2 (some .int), Cond.static yX5_over, Cond.initialized RX5, Cond.code yX5_over cX5_over 2 (some .int), Cond.methodLink RX0 109 yX0_heldToCards, Cond.instanceMethod yX0_heldToCards, Cond.selects RX0 yX0_heldToCards yX0_heldToCards, Cond.code yX0_heldToCards cX0_heldToCards 2 (some .int), Cond.methodLink RX0 132 yX0_mixed, Cond.instanceMethod yX0_mixed, Cond.selects RX0 yX0_mixed yX0_mixed, Cond.code yX0_mixed cX0_mixed 5 (some .int), Cond.methodLink RX0 135 yX0_learned, Cond.instanceMethod yX0_learned, Cond.selects RX0 yX0_learned yX0_learned, Cond.code yX0_learned cX0_learned 2 (some .int), Cond.methodLink RX0 150 yX3_write, Cond.instanceMethod yX3_write, Cond.selects RX3 yX3_write yX3_write, Cond.code yX3_write cX3_write 3 none, Cond.methodLink RX3 42 yX3_hasPlace, Cond.instanceMethod yX3_hasPlace, Cond.selects RX3 yX3_hasPlace yX3_hasPlace]
def wsX5_wins_r6 : List Cond := [Cond.code yX3_hasPlace cX3_hasPlace 2 (some .boolean), Cond.methodLink RX3 46 yX3_lowestBits, Cond.instanceMethod yX3_lowestBits, Cond.selects RX3 yX3_lowestBits yX3_lowestBits, Cond.code yX3_lowestBits cX3_lowestBits 2 (some .int), Cond.methodLink RX0 153 yX3_sum, Cond.instanceMethod yX3_sum, Cond.selects RX3 yX3_sum yX3_sum, Cond.code yX3_sum cX3_sum 3 (some .int), Cond.methodLink RX5 157 yX0_isWinner, Cond.instanceMethod yX0_isWinner, Cond.selects RX0 yX0_isWinner yX0_isWinner, Cond.code yX0_isWinner cX0_isWinner 6 (some .boolean), Cond.methodLink RX0 176 yX0_firstWinner, Cond.instanceMethod yX0_firstWinner, Cond.selects RX0 yX0_firstWinner yX0_firstWinner, Cond.code yX0_firstWinner cX0_firstWinner 8 (some .int), Cond.fieldLink RX0 156 "TwoThirds$Row" "size" "I", Cond.methodLink RX0 165 yX0_targetAbove, Cond.instanceMethod yX0_targetAbove, Cond.selects RX0 yX0_targetAbove yX0_targetAbove, Cond.code yX0_targetAbove cX0_targetAbove 2 (some .int), Cond.methodLink RX0 169 yX0_targetLine, Cond.instanceMethod yX0_targetLine]
def wsX5_wins_r7 : List Cond := [Cond.selects RX0 yX0_targetLine yX0_targetLine, Cond.code yX0_targetLine cX0_targetLine 2 (some .int), Cond.methodLink RX0 159 yX3_at, Cond.methodLink RX0 172 yX0_farFrom, Cond.instanceMethod yX0_farFrom, Cond.selects RX0 yX0_farFrom yX0_farFrom, Cond.code yX0_farFrom cX0_farFrom 5 (some .int), Cond.methodLink RX0 179 yX3_hasPlace]
def wsX5_wins : List Cond := .code yX5_wins cX5_wins 5 (some .int) :: ((wsX5_wins_r1 ++ (wsX5_wins_r2 ++ (wsX5_wins_r3 ++ (wsX5_wins_r4 ++ (wsX5_wins_r5 ++ (wsX5_wins_r6 ++ wsX5_wins_r7)))))) ++ wsX50 ++ wsX00 ++ wsX10 ++ wsX30)
def wsX5_cardsRefusal_r1 : List Cond := [Cond.fieldLink RX5 10 "TwoThirds" "now" "LTwoThirds$Game;", Cond.fieldLink RX5 44 "TwoThirds$Shelf" "row" "LTwoThirds$Row;", Cond.methodLink RX5 40 yX5_rowRefusal, Cond.static yX5_rowRefusal, Cond.initialized RX5, Cond.code yX5_rowRefusal cX5_rowRefusal 1 (some .int), Cond.methodLink RX5 291 yX5_refusalUnless, Cond.static yX5_refusalUnless, Cond.code yX5_refusalUnless cX5_refusalUnless 2 (some .int), Cond.fieldLink RX5 231 "TwoThirds$Shelf" "holding" "I", Cond.methodLink RX5 186 yX0_areCards, Cond.instanceMethod yX0_areCards, Cond.selects RX0 yX0_areCards yX0_areCards, Cond.initialized RX0, Cond.code yX0_areCards cX0_areCards 3 (some .boolean), Cond.fieldLink RX0 156 "TwoThirds$Row" "size" "I", Cond.methodLink RX0 159 yX3_at, Cond.instanceMethod yX3_at, Cond.selects RX3 yX3_at yX3_at, Cond.initialized RX3, Cond.code yX3_at cX3_at 2 (some .int), Cond.fieldLink RX3 25 "TwoThirds$Row" "size" "I", Cond.fieldLink RX3 9 "TwoThirds$Row" "elements" "[I", Cond.methodLink RX0 162 yX0_isCard]
def wsX5_cardsRefusal_r2 : List Cond := [Cond.instanceMethod yX0_isCard, Cond.selects RX0 yX0_isCard yX0_isCard, Cond.code yX0_isCard cX0_isCard 2 (some .boolean), Cond.fieldLink RX0 18 "TwoThirds$Game" "high" "I"]
def wsX5_cardsRefusal : List Cond := .code yX5_cardsRefusal cX5_cardsRefusal 3 (some .int) :: ((wsX5_cardsRefusal_r1 ++ wsX5_cardsRefusal_r2) ++ wsX50 ++ wsX40 ++ wsX30 ++ wsX00)
def wsX5_mean_r1 : List Cond := [Cond.fieldLink RX5 44 "TwoThirds$Shelf" "row" "LTwoThirds$Row;", Cond.fieldLink RX5 167 "TwoThirds$Row" "size" "I", Cond.fieldLink RX5 10 "TwoThirds" "now" "LTwoThirds$Game;", Cond.methodLink RX5 36 yX5_shelfAt, Cond.instanceMethod yX5_shelfAt, Cond.selects RX5 yX5_shelfAt yX5_shelfAt, Cond.initialized RX5, Cond.code yX5_shelfAt cX5_shelfAt 2 (some (.object "TwoThirds$Shelf")), Cond.fieldLink RX5 24 "TwoThirds" "shelves" "[LTwoThirds$Shelf;", Cond.methodLink RX5 144 yX5_isOneOfTwo, Cond.static yX5_isOneOfTwo, Cond.code yX5_isOneOfTwo cX5_isOneOfTwo 1 (some .boolean), Cond.methodLink RX5 161 yX5_cardsRefusal, Cond.instanceMethod yX5_cardsRefusal, Cond.selects RX5 yX5_cardsRefusal yX5_cardsRefusal, Cond.code yX5_cardsRefusal cX5_cardsRefusal 3 (some .int), Cond.methodLink RX5 40 yX5_rowRefusal, Cond.static yX5_rowRefusal, Cond.code yX5_rowRefusal cX5_rowRefusal 1 (some .int), Cond.methodLink RX5 291 yX5_refusalUnless, Cond.static yX5_refusalUnless, Cond.code yX5_refusalUnless cX5_refusalUnless 2 (some .int), Cond.fieldLink RX5 231 "TwoThirds$Shelf" "holding" "I", Cond.methodLink RX5 186 yX0_areCards]
def wsX5_mean_r2 : List Cond := [Cond.instanceMethod yX0_areCards, Cond.selects RX0 yX0_areCards yX0_areCards, Cond.initialized RX0, Cond.code yX0_areCards cX0_areCards 3 (some .boolean), Cond.fieldLink RX0 156 "TwoThirds$Row" "size" "I", Cond.methodLink RX0 159 yX3_at, Cond.instanceMethod yX3_at, Cond.selects RX3 yX3_at yX3_at, Cond.initialized RX3, Cond.code yX3_at cX3_at 2 (some .int), Cond.fieldLink RX3 25 "TwoThirds$Row" "size" "I", Cond.fieldLink RX3 9 "TwoThirds$Row" "elements" "[I", Cond.methodLink RX0 162 yX0_isCard, Cond.instanceMethod yX0_isCard, Cond.selects RX0 yX0_isCard yX0_isCard, Cond.code yX0_isCard cX0_isCard 2 (some .boolean), Cond.fieldLink RX0 18 "TwoThirds$Game" "high" "I", Cond.methodLink RX5 164 yX3_sum, Cond.instanceMethod yX3_sum, Cond.selects RX3 yX3_sum yX3_sum, Cond.code yX3_sum cX3_sum 3 (some .int), Cond.methodLink RX5 153 yX5_leastPart, Cond.static yX5_leastPart, Cond.code yX5_leastPart cX5_leastPart 3 (some .int)]
def wsX5_mean_r3 : List Cond := [Cond.methodLink RX5 295 yX5_commonMeasure, Cond.static yX5_commonMeasure, Cond.code yX5_commonMeasure cX5_commonMeasure 6 (some .int), Cond.methodLink RX5 299 yX5_over, Cond.static yX5_over, Cond.code yX5_over cX5_over 2 (some .int), Cond.methodLink RX5 147 yX0_targetAbove, Cond.instanceMethod yX0_targetAbove, Cond.selects RX0 yX0_targetAbove yX0_targetAbove, Cond.code yX0_targetAbove cX0_targetAbove 2 (some .int), Cond.fieldLink RX0 9 "TwoThirds$Game" "up" "I", Cond.methodLink RX0 153 yX3_sum, Cond.methodLink RX5 150 yX0_targetLine, Cond.instanceMethod yX0_targetLine, Cond.selects RX0 yX0_targetLine yX0_targetLine, Cond.code yX0_targetLine cX0_targetLine 2 (some .int), Cond.fieldLink RX0 15 "TwoThirds$Game" "down" "I"]
def wsX5_mean : List Cond := .code yX5_mean cX5_mean 6 (some .int) :: ((wsX5_mean_r1 ++ (wsX5_mean_r2 ++ wsX5_mean_r3)) ++ wsX40 ++ wsX30 ++ wsX50 ++ wsX00)
def wsX5_winners_r1 : List Cond := [Cond.fieldLink RX5 10 "TwoThirds" "now" "LTwoThirds$Game;", Cond.fieldLink RX5 44 "TwoThirds$Shelf" "row" "LTwoThirds$Row;", Cond.methodLink RX5 36 yX5_shelfAt, Cond.instanceMethod yX5_shelfAt, Cond.selects RX5 yX5_shelfAt yX5_shelfAt, Cond.initialized RX5, Cond.code yX5_shelfAt cX5_shelfAt 2 (some (.object "TwoThirds$Shelf")), Cond.fieldLink RX5 24 "TwoThirds" "shelves" "[LTwoThirds$Shelf;", Cond.methodLink RX5 144 yX5_isOneOfTwo, Cond.static yX5_isOneOfTwo, Cond.code yX5_isOneOfTwo cX5_isOneOfTwo 1 (some .boolean), Cond.methodLink RX5 161 yX5_cardsRefusal, Cond.instanceMethod yX5_cardsRefusal, Cond.selects RX5 yX5_cardsRefusal yX5_cardsRefusal, Cond.code yX5_cardsRefusal cX5_cardsRefusal 3 (some .int), Cond.methodLink RX5 40 yX5_rowRefusal, Cond.static yX5_rowRefusal, Cond.code yX5_rowRefusal cX5_rowRefusal 1 (some .int), Cond.methodLink RX5 291 yX5_refusalUnless, Cond.static yX5_refusalUnless, Cond.code yX5_refusalUnless cX5_refusalUnless 2 (some .int), Cond.fieldLink RX5 231 "TwoThirds$Shelf" "holding" "I", Cond.methodLink RX5 186 yX0_areCards, Cond.instanceMethod yX0_areCards]
def wsX5_winners_r2 : List Cond := [Cond.selects RX0 yX0_areCards yX0_areCards, Cond.initialized RX0, Cond.code yX0_areCards cX0_areCards 3 (some .boolean), Cond.fieldLink RX0 156 "TwoThirds$Row" "size" "I", Cond.methodLink RX0 159 yX3_at, Cond.instanceMethod yX3_at, Cond.selects RX3 yX3_at yX3_at, Cond.initialized RX3, Cond.code yX3_at cX3_at 2 (some .int), Cond.fieldLink RX3 25 "TwoThirds$Row" "size" "I", Cond.fieldLink RX3 9 "TwoThirds$Row" "elements" "[I", Cond.methodLink RX0 162 yX0_isCard, Cond.instanceMethod yX0_isCard, Cond.selects RX0 yX0_isCard yX0_isCard, Cond.code yX0_isCard cX0_isCard 2 (some .boolean), Cond.fieldLink RX0 18 "TwoThirds$Game" "high" "I", Cond.methodLink RX5 137 yX0_countWinners, Cond.instanceMethod yX0_countWinners, Cond.selects RX0 yX0_countWinners yX0_countWinners, Cond.code yX0_countWinners cX0_countWinners 8 (some .int), Cond.methodLink RX0 176 yX0_firstWinner, Cond.instanceMethod yX0_firstWinner, Cond.selects RX0 yX0_firstWinner yX0_firstWinner, Cond.code yX0_firstWinner cX0_firstWinner 8 (some .int)]
def wsX5_winners_r3 : List Cond := [Cond.constant RX0 103 (2147483647), Cond.methodLink RX0 165 yX0_targetAbove, Cond.instanceMethod yX0_targetAbove, Cond.selects RX0 yX0_targetAbove yX0_targetAbove, Cond.code yX0_targetAbove cX0_targetAbove 2 (some .int), Cond.fieldLink RX0 9 "TwoThirds$Game" "up" "I", Cond.methodLink RX0 153 yX3_sum, Cond.instanceMethod yX3_sum, Cond.selects RX3 yX3_sum yX3_sum, Cond.code yX3_sum cX3_sum 3 (some .int), Cond.methodLink RX0 169 yX0_targetLine, Cond.instanceMethod yX0_targetLine, Cond.selects RX0 yX0_targetLine yX0_targetLine, Cond.code yX0_targetLine cX0_targetLine 2 (some .int), Cond.fieldLink RX0 15 "TwoThirds$Game" "down" "I", Cond.methodLink RX0 172 yX0_farFrom, Cond.instanceMethod yX0_farFrom, Cond.selects RX0 yX0_farFrom yX0_farFrom, Cond.code yX0_farFrom cX0_farFrom 5 (some .int), Cond.fieldLink RX0 21 "TwoThirds$Game" "prize" "I", Cond.methodLink RX5 141 yX0_firstWinner]
def wsX5_winners : List Cond := .code yX5_winners cX5_winners 5 (some .int) :: ((wsX5_winners_r1 ++ (wsX5_winners_r2 ++ wsX5_winners_r3)) ++ wsX50 ++ wsX40 ++ wsX30 ++ wsX00)
def wsX5_best_r1 : List Cond := [Cond.fieldLink RX5 10 "TwoThirds" "now" "LTwoThirds$Game;", Cond.fieldLink RX5 44 "TwoThirds$Shelf" "row" "LTwoThirds$Row;", Cond.methodLink RX5 36 yX5_shelfAt, Cond.instanceMethod yX5_shelfAt, Cond.selects RX5 yX5_shelfAt yX5_shelfAt, Cond.initialized RX5, Cond.code yX5_shelfAt cX5_shelfAt 2 (some (.object "TwoThirds$Shelf")), Cond.fieldLink RX5 24 "TwoThirds" "shelves" "[LTwoThirds$Shelf;", Cond.methodLink RX5 161 yX5_cardsRefusal, Cond.instanceMethod yX5_cardsRefusal, Cond.selects RX5 yX5_cardsRefusal yX5_cardsRefusal, Cond.code yX5_cardsRefusal cX5_cardsRefusal 3 (some .int), Cond.methodLink RX5 40 yX5_rowRefusal, Cond.static yX5_rowRefusal, Cond.code yX5_rowRefusal cX5_rowRefusal 1 (some .int), Cond.methodLink RX5 291 yX5_refusalUnless, Cond.static yX5_refusalUnless, Cond.code yX5_refusalUnless cX5_refusalUnless 2 (some .int), Cond.fieldLink RX5 231 "TwoThirds$Shelf" "holding" "I", Cond.methodLink RX5 186 yX0_areCards, Cond.instanceMethod yX0_areCards, Cond.selects RX0 yX0_areCards yX0_areCards, Cond.initialized RX0, Cond.code yX0_areCards cX0_areCards 3 (some .boolean)]
def wsX5_best_r2 : List Cond := [Cond.fieldLink RX0 156 "TwoThirds$Row" "size" "I", Cond.methodLink RX0 159 yX3_at, Cond.instanceMethod yX3_at, Cond.selects RX3 yX3_at yX3_at, Cond.initialized RX3, Cond.code yX3_at cX3_at 2 (some .int), Cond.fieldLink RX3 25 "TwoThirds$Row" "size" "I", Cond.fieldLink RX3 9 "TwoThirds$Row" "elements" "[I", Cond.methodLink RX0 162 yX0_isCard, Cond.instanceMethod yX0_isCard, Cond.selects RX0 yX0_isCard yX0_isCard, Cond.code yX0_isCard cX0_isCard 2 (some .boolean), Cond.fieldLink RX0 18 "TwoThirds$Game" "high" "I", Cond.methodLink RX5 170 yX0_bestAgainst, Cond.instanceMethod yX0_bestAgainst, Cond.selects RX0 yX0_bestAgainst yX0_bestAgainst, Cond.code yX0_bestAgainst cX0_bestAgainst 8 (some .int), Cond.fieldLink RX0 15 "TwoThirds$Game" "down" "I", Cond.constant RX0 103 (2147483647), Cond.fieldLink RX0 9 "TwoThirds$Game" "up" "I", Cond.fieldLink RX0 21 "TwoThirds$Game" "prize" "I", Cond.methodLink RX0 153 yX3_sum, Cond.instanceMethod yX3_sum, Cond.selects RX3 yX3_sum yX3_sum]
def wsX5_best_r3 : List Cond := [Cond.code yX3_sum cX3_sum 3 (some .int), Cond.methodLink RX0 172 yX0_farFrom, Cond.instanceMethod yX0_farFrom, Cond.selects RX0 yX0_farFrom yX0_farFrom, Cond.code yX0_farFrom cX0_farFrom 5 (some .int)]
def wsX5_best : List Cond := .code yX5_best cX5_best 4 (some .int) :: ((wsX5_best_r1 ++ (wsX5_best_r2 ++ wsX5_best_r3)) ++ wsX50 ++ wsX40 ++ wsX30 ++ wsX00)
def wsX5_level_r1 : List Cond := [Cond.fieldLink RX5 10 "TwoThirds" "now" "LTwoThirds$Game;", Cond.methodLink RX5 114 yX5_isStepCount, Cond.static yX5_isStepCount, Cond.initialized RX5, Cond.code yX5_isStepCount cX5_isStepCount 1 (some .boolean), Cond.methodLink RX5 173 yX0_stepped, Cond.instanceMethod yX0_stepped, Cond.selects RX0 yX0_stepped yX0_stepped, Cond.initialized RX0, Cond.code yX0_stepped cX0_stepped 2 (some .int), Cond.methodLink RX0 113 yX0_middle, Cond.instanceMethod yX0_middle, Cond.selects RX0 yX0_middle yX0_middle, Cond.code yX0_middle cX0_middle 1 (some .int), Cond.fieldLink RX0 18 "TwoThirds$Game" "high" "I", Cond.methodLink RX0 117 yX0_sharedTimes, Cond.instanceMethod yX0_sharedTimes, Cond.selects RX0 yX0_sharedTimes yX0_sharedTimes, Cond.code yX0_sharedTimes cX0_sharedTimes 5 (some .int), Cond.methodLink RX0 120 yX0_shareOf, Cond.instanceMethod yX0_shareOf, Cond.selects RX0 yX0_shareOf yX0_shareOf, Cond.code yX0_shareOf cX0_shareOf 2 (some .int), Cond.fieldLink RX0 9 "TwoThirds$Game" "up" "I"]
def wsX5_level_r2 : List Cond := [Cond.fieldLink RX0 15 "TwoThirds$Game" "down" "I", Cond.static yX5_over, Cond.code yX5_over cX5_over 2 (some .int), Cond.methodLink RX0 109 yX0_heldToCards, Cond.instanceMethod yX0_heldToCards, Cond.selects RX0 yX0_heldToCards yX0_heldToCards, Cond.code yX0_heldToCards cX0_heldToCards 2 (some .int)]
def wsX5_level : List Cond := .code yX5_level cX5_level 2 (some .int) :: ((wsX5_level_r1 ++ wsX5_level_r2) ++ wsX50 ++ wsX00)
def wsX5_stepsOf_r1 : List Cond := [Cond.fieldLink RX5 10 "TwoThirds" "now" "LTwoThirds$Game;", Cond.methodLink RX5 176 yX0_isCard, Cond.instanceMethod yX0_isCard, Cond.selects RX0 yX0_isCard yX0_isCard, Cond.initialized RX0, Cond.code yX0_isCard cX0_isCard 2 (some .boolean), Cond.fieldLink RX0 18 "TwoThirds$Game" "high" "I", Cond.methodLink RX5 179 yX0_nearestSteps, Cond.instanceMethod yX0_nearestSteps, Cond.selects RX0 yX0_nearestSteps yX0_nearestSteps, Cond.code yX0_nearestSteps cX0_nearestSteps 7 (some .int), Cond.methodLink RX0 182 Lib.Math.abs.name, Cond.static Lib.Math.abs.name, Cond.initialized "java/lang/Math", Cond.code Lib.Math.abs.name Lib.Math.abs.code 1 (some .int), Cond.methodLink RX0 113 yX0_middle, Cond.instanceMethod yX0_middle, Cond.selects RX0 yX0_middle yX0_middle, Cond.code yX0_middle cX0_middle 1 (some .int), Cond.methodLink RX0 120 yX0_shareOf, Cond.instanceMethod yX0_shareOf, Cond.selects RX0 yX0_shareOf yX0_shareOf, Cond.code yX0_shareOf cX0_shareOf 2 (some .int), Cond.fieldLink RX0 9 "TwoThirds$Game" "up" "I"]
def wsX5_stepsOf_r2 : List Cond := [Cond.fieldLink RX0 15 "TwoThirds$Game" "down" "I", Cond.static yX5_over, Cond.initialized RX5, Cond.code yX5_over cX5_over 2 (some .int), Cond.methodLink RX0 109 yX0_heldToCards, Cond.instanceMethod yX0_heldToCards, Cond.selects RX0 yX0_heldToCards yX0_heldToCards, Cond.code yX0_heldToCards cX0_heldToCards 2 (some .int)]
def wsX5_stepsOf : List Cond := .code yX5_stepsOf cX5_stepsOf 2 (some .int) :: ((wsX5_stepsOf_r1 ++ wsX5_stepsOf_r2) ++ wsX50 ++ wsX00)
def wsX5_shares_r1 : List Cond := [Cond.fieldLink RX5 44 "TwoThirds$Shelf" "row" "LTwoThirds$Row;", Cond.fieldLink RX5 167 "TwoThirds$Row" "size" "I", Cond.fieldLink RX5 10 "TwoThirds" "now" "LTwoThirds$Game;", Cond.methodLink RX5 36 yX5_shelfAt, Cond.instanceMethod yX5_shelfAt, Cond.selects RX5 yX5_shelfAt yX5_shelfAt, Cond.initialized RX5, Cond.code yX5_shelfAt cX5_shelfAt 2 (some (.object "TwoThirds$Shelf")), Cond.fieldLink RX5 24 "TwoThirds" "shelves" "[LTwoThirds$Shelf;", Cond.methodLink RX5 114 yX5_isStepCount, Cond.static yX5_isStepCount, Cond.code yX5_isStepCount cX5_isStepCount 1 (some .boolean), Cond.methodLink RX5 161 yX5_cardsRefusal, Cond.instanceMethod yX5_cardsRefusal, Cond.selects RX5 yX5_cardsRefusal yX5_cardsRefusal, Cond.code yX5_cardsRefusal cX5_cardsRefusal 3 (some .int), Cond.methodLink RX5 40 yX5_rowRefusal, Cond.static yX5_rowRefusal, Cond.code yX5_rowRefusal cX5_rowRefusal 1 (some .int), Cond.methodLink RX5 291 yX5_refusalUnless, Cond.static yX5_refusalUnless, Cond.code yX5_refusalUnless cX5_refusalUnless 2 (some .int), Cond.fieldLink RX5 231 "TwoThirds$Shelf" "holding" "I", Cond.methodLink RX5 186 yX0_areCards]
def wsX5_shares_r2 : List Cond := [Cond.instanceMethod yX0_areCards, Cond.selects RX0 yX0_areCards yX0_areCards, Cond.initialized RX0, Cond.code yX0_areCards cX0_areCards 3 (some .boolean), Cond.fieldLink RX0 156 "TwoThirds$Row" "size" "I", Cond.methodLink RX0 159 yX3_at, Cond.instanceMethod yX3_at, Cond.selects RX3 yX3_at yX3_at, Cond.initialized RX3, Cond.code yX3_at cX3_at 2 (some .int), Cond.fieldLink RX3 25 "TwoThirds$Row" "size" "I", Cond.fieldLink RX3 9 "TwoThirds$Row" "elements" "[I", Cond.methodLink RX0 162 yX0_isCard, Cond.instanceMethod yX0_isCard, Cond.selects RX0 yX0_isCard yX0_isCard, Cond.code yX0_isCard cX0_isCard 2 (some .boolean), Cond.fieldLink RX0 18 "TwoThirds$Game" "high" "I", Cond.methodLink RX5 99 yX3_at, Cond.methodLink RX5 179 yX0_nearestSteps, Cond.instanceMethod yX0_nearestSteps, Cond.selects RX0 yX0_nearestSteps yX0_nearestSteps, Cond.code yX0_nearestSteps cX0_nearestSteps 7 (some .int), Cond.methodLink RX0 182 Lib.Math.abs.name, Cond.static Lib.Math.abs.name]
def wsX5_shares_r3 : List Cond := [Cond.initialized "java/lang/Math", Cond.code Lib.Math.abs.name Lib.Math.abs.code 1 (some .int), Cond.methodLink RX0 113 yX0_middle, Cond.instanceMethod yX0_middle, Cond.selects RX0 yX0_middle yX0_middle, Cond.code yX0_middle cX0_middle 1 (some .int), Cond.methodLink RX0 120 yX0_shareOf, Cond.instanceMethod yX0_shareOf, Cond.selects RX0 yX0_shareOf yX0_shareOf, Cond.code yX0_shareOf cX0_shareOf 2 (some .int), Cond.fieldLink RX0 9 "TwoThirds$Game" "up" "I", Cond.fieldLink RX0 15 "TwoThirds$Game" "down" "I", Cond.static yX5_over, Cond.code yX5_over cX5_over 2 (some .int), Cond.methodLink RX0 109 yX0_heldToCards, Cond.instanceMethod yX0_heldToCards, Cond.selects RX0 yX0_heldToCards yX0_heldToCards, Cond.code yX0_heldToCards cX0_heldToCards 2 (some .int)]
def wsX5_shares : List Cond := .code yX5_shares cX5_shares 7 (some .int) :: ((wsX5_shares_r1 ++ (wsX5_shares_r2 ++ wsX5_shares_r3)) ++ wsX40 ++ wsX30 ++ wsX50 ++ wsX00)
def wsX5_twoRowsRefusal : List Cond := .code yX5_twoRowsRefusal cX5_twoRowsRefusal 2 (some .int) :: ([.fieldLink RX5 231 "TwoThirds$Shelf" "holding" "I"] ++ wsX40)
def wsX5_words_r1 : List Cond := [Cond.fieldLink RX5 44 "TwoThirds$Shelf" "row" "LTwoThirds$Row;", Cond.fieldLink RX5 48 "TwoThirds$Row" "sort" "I", Cond.fieldLink RX5 10 "TwoThirds" "now" "LTwoThirds$Game;", Cond.fieldLink RX5 167 "TwoThirds$Row" "size" "I", Cond.methodLink RX5 36 yX5_shelfAt, Cond.instanceMethod yX5_shelfAt, Cond.selects RX5 yX5_shelfAt yX5_shelfAt, Cond.initialized RX5, Cond.code yX5_shelfAt cX5_shelfAt 2 (some (.object "TwoThirds$Shelf")), Cond.fieldLink RX5 24 "TwoThirds" "shelves" "[LTwoThirds$Shelf;", Cond.methodLink RX5 144 yX5_isOneOfTwo, Cond.static yX5_isOneOfTwo, Cond.code yX5_isOneOfTwo cX5_isOneOfTwo 1 (some .boolean), Cond.methodLink RX5 182 yX5_twoRowsRefusal, Cond.static yX5_twoRowsRefusal, Cond.code yX5_twoRowsRefusal cX5_twoRowsRefusal 2 (some .int), Cond.fieldLink RX5 231 "TwoThirds$Shelf" "holding" "I", Cond.methodLink RX5 186 yX0_areCards, Cond.instanceMethod yX0_areCards, Cond.selects RX0 yX0_areCards yX0_areCards, Cond.initialized RX0, Cond.code yX0_areCards cX0_areCards 3 (some .boolean), Cond.fieldLink RX0 156 "TwoThirds$Row" "size" "I", Cond.methodLink RX0 159 yX3_at]
def wsX5_words_r2 : List Cond := [Cond.instanceMethod yX3_at, Cond.selects RX3 yX3_at yX3_at, Cond.initialized RX3, Cond.code yX3_at cX3_at 2 (some .int), Cond.fieldLink RX3 25 "TwoThirds$Row" "size" "I", Cond.fieldLink RX3 9 "TwoThirds$Row" "elements" "[I", Cond.methodLink RX0 162 yX0_isCard, Cond.instanceMethod yX0_isCard, Cond.selects RX0 yX0_isCard yX0_isCard, Cond.code yX0_isCard cX0_isCard 2 (some .boolean), Cond.fieldLink RX0 18 "TwoThirds$Game" "high" "I", Cond.methodLink RX5 99 yX3_at, Cond.methodLink RX5 179 yX0_nearestSteps, Cond.instanceMethod yX0_nearestSteps, Cond.selects RX0 yX0_nearestSteps yX0_nearestSteps, Cond.code yX0_nearestSteps cX0_nearestSteps 7 (some .int), Cond.methodLink RX0 182 Lib.Math.abs.name, Cond.static Lib.Math.abs.name, Cond.initialized "java/lang/Math", Cond.code Lib.Math.abs.name Lib.Math.abs.code 1 (some .int), Cond.methodLink RX0 113 yX0_middle, Cond.instanceMethod yX0_middle, Cond.selects RX0 yX0_middle yX0_middle, Cond.code yX0_middle cX0_middle 1 (some .int)]
def wsX5_words_r3 : List Cond := [Cond.methodLink RX0 120 yX0_shareOf, Cond.instanceMethod yX0_shareOf, Cond.selects RX0 yX0_shareOf yX0_shareOf, Cond.code yX0_shareOf cX0_shareOf 2 (some .int), Cond.fieldLink RX0 9 "TwoThirds$Game" "up" "I", Cond.fieldLink RX0 15 "TwoThirds$Game" "down" "I", Cond.static yX5_over, Cond.code yX5_over cX5_over 2 (some .int), Cond.methodLink RX0 109 yX0_heldToCards, Cond.instanceMethod yX0_heldToCards, Cond.selects RX0 yX0_heldToCards yX0_heldToCards, Cond.code yX0_heldToCards cX0_heldToCards 2 (some .int)]
def wsX5_words : List Cond := .code yX5_words cX5_words 11 (some .int) :: ((wsX5_words_r1 ++ (wsX5_words_r2 ++ wsX5_words_r3)) ++ wsX40 ++ wsX30 ++ wsX50 ++ wsX00)
def wsX5_ahead_r1 : List Cond := [Cond.fieldLink RX5 19 "TwoThirds" "mind" "LTwoThirds$Game;", Cond.fieldLink RX5 10 "TwoThirds" "now" "LTwoThirds$Game;", Cond.fieldLink RX5 190 "TwoThirds$Game" "up" "I", Cond.fieldLink RX5 193 "TwoThirds$Game" "down" "I", Cond.fieldLink RX5 44 "TwoThirds$Shelf" "row" "LTwoThirds$Row;", Cond.fieldLink RX5 167 "TwoThirds$Row" "size" "I", Cond.methodLink RX5 36 yX5_shelfAt, Cond.instanceMethod yX5_shelfAt, Cond.selects RX5 yX5_shelfAt yX5_shelfAt, Cond.initialized RX5, Cond.code yX5_shelfAt cX5_shelfAt 2 (some (.object "TwoThirds$Shelf")), Cond.fieldLink RX5 24 "TwoThirds" "shelves" "[LTwoThirds$Shelf;", Cond.methodLink RX5 103 yX0_canBe, Cond.static yX0_canBe, Cond.initialized RX0, Cond.code yX0_canBe cX0_canBe 2 (some .boolean), Cond.static yX5_isOneOfTwo, Cond.code yX5_isOneOfTwo cX5_isOneOfTwo 1 (some .boolean), Cond.methodLink RX5 161 yX5_cardsRefusal, Cond.instanceMethod yX5_cardsRefusal, Cond.selects RX5 yX5_cardsRefusal yX5_cardsRefusal, Cond.code yX5_cardsRefusal cX5_cardsRefusal 3 (some .int), Cond.methodLink RX5 40 yX5_rowRefusal, Cond.static yX5_rowRefusal]
def wsX5_ahead_r2 : List Cond := [Cond.code yX5_rowRefusal cX5_rowRefusal 1 (some .int), Cond.methodLink RX5 291 yX5_refusalUnless, Cond.static yX5_refusalUnless, Cond.code yX5_refusalUnless cX5_refusalUnless 2 (some .int), Cond.fieldLink RX5 231 "TwoThirds$Shelf" "holding" "I", Cond.methodLink RX5 186 yX0_areCards, Cond.instanceMethod yX0_areCards, Cond.selects RX0 yX0_areCards yX0_areCards, Cond.code yX0_areCards cX0_areCards 3 (some .boolean), Cond.fieldLink RX0 156 "TwoThirds$Row" "size" "I", Cond.methodLink RX0 159 yX3_at, Cond.instanceMethod yX3_at, Cond.selects RX3 yX3_at yX3_at, Cond.initialized RX3, Cond.code yX3_at cX3_at 2 (some .int), Cond.fieldLink RX3 25 "TwoThirds$Row" "size" "I", Cond.fieldLink RX3 9 "TwoThirds$Row" "elements" "[I", Cond.methodLink RX0 162 yX0_isCard, Cond.instanceMethod yX0_isCard, Cond.selects RX0 yX0_isCard yX0_isCard, Cond.code yX0_isCard cX0_isCard 2 (some .boolean), Cond.fieldLink RX0 18 "TwoThirds$Game" "high" "I", Cond.methodLink RX5 66 yX0_takeFrom, Cond.instanceMethod yX0_takeFrom]
def wsX5_ahead_r3 : List Cond := [Cond.selects RX0 yX0_takeFrom yX0_takeFrom, Cond.code yX0_takeFrom cX0_takeFrom 3 none, Cond.fieldLink RX0 9 "TwoThirds$Game" "up" "I", Cond.fieldLink RX0 15 "TwoThirds$Game" "down" "I", Cond.fieldLink RX0 21 "TwoThirds$Game" "prize" "I", Cond.fieldLink RX0 24 "TwoThirds$Game" "z" "I", Cond.fieldLink RX0 43 "TwoThirds$Game" "rounds" "I", Cond.fieldLink RX0 46 "TwoThirds$Game" "people" "I", Cond.fieldLink RX0 29 "TwoThirds$Game" "persons" "[LTwoThirds$Person;", Cond.fieldLink RX0 39 "TwoThirds$Game" "cards" "LTwoThirds$Row;", Cond.fieldLink RX0 56 "TwoThirds$Game" "lastSum" "I", Cond.methodLink RX0 49 yX1_takeFrom, Cond.instanceMethod yX1_takeFrom, Cond.selects RX1 yX1_takeFrom yX1_takeFrom, Cond.initialized RX1, Cond.code yX1_takeFrom cX1_takeFrom 2 none, Cond.fieldLink RX1 9 "TwoThirds$Person" "number" "I", Cond.fieldLink RX1 15 "TwoThirds$Person" "kind" "I", Cond.fieldLink RX1 18 "TwoThirds$Person" "stepCount" "I", Cond.fieldLink RX1 21 "TwoThirds$Person" "slip" "I", Cond.methodLink RX1 24 yX1_begin, Cond.instanceMethod yX1_begin, Cond.selects RX1 yX1_begin yX1_begin, Cond.code yX1_begin cX1_begin 5 none]
def wsX5_ahead_r4 : List Cond := [Cond.methodLink RX0 53 yX3_takeFrom, Cond.instanceMethod yX3_takeFrom, Cond.selects RX3 yX3_takeFrom yX3_takeFrom, Cond.code yX3_takeFrom cX3_takeFrom 3 none, Cond.fieldLink RX3 15 "TwoThirds$Row" "sort" "I", Cond.methodLink RX3 34 yX3_begin, Cond.instanceMethod yX3_begin, Cond.selects RX3 yX3_begin yX3_begin, Cond.code yX3_begin cX3_begin 3 none, Cond.methodLink RX3 19 Lib.Math.min.name, Cond.static Lib.Math.min.name, Cond.initialized "java/lang/Math", Cond.code Lib.Math.min.name Lib.Math.min.code 2 (some .int), Cond.methodLink RX3 28 yJ7_fill_53178, Cond.static yJ7_fill_53178, Cond.initialized RJ7, Cond.code yJ7_fill_53178 cJ7_fill_53178 4 none, Cond.methodLink RX3 38 yX3_at, Cond.methodLink RX5 99 yX3_at, Cond.methodLink RX5 179 yX0_nearestSteps, Cond.instanceMethod yX0_nearestSteps, Cond.selects RX0 yX0_nearestSteps yX0_nearestSteps, Cond.code yX0_nearestSteps cX0_nearestSteps 7 (some .int), Cond.methodLink RX0 182 Lib.Math.abs.name]
def wsX5_ahead_r5 : List Cond := [Cond.static Lib.Math.abs.name, Cond.code Lib.Math.abs.name Lib.Math.abs.code 1 (some .int), Cond.methodLink RX0 113 yX0_middle, Cond.instanceMethod yX0_middle, Cond.selects RX0 yX0_middle yX0_middle, Cond.code yX0_middle cX0_middle 1 (some .int), Cond.methodLink RX0 120 yX0_shareOf, Cond.instanceMethod yX0_shareOf, Cond.selects RX0 yX0_shareOf yX0_shareOf, Cond.code yX0_shareOf cX0_shareOf 2 (some .int), Cond.static yX5_over, Cond.code yX5_over cX5_over 2 (some .int), Cond.methodLink RX0 109 yX0_heldToCards, Cond.instanceMethod yX0_heldToCards, Cond.selects RX0 yX0_heldToCards yX0_heldToCards, Cond.code yX0_heldToCards cX0_heldToCards 2 (some .int), Cond.methodLink RX5 173 yX0_stepped, Cond.instanceMethod yX0_stepped, Cond.selects RX0 yX0_stepped yX0_stepped, Cond.code yX0_stepped cX0_stepped 2 (some .int), Cond.methodLink RX0 117 yX0_sharedTimes, Cond.instanceMethod yX0_sharedTimes, Cond.selects RX0 yX0_sharedTimes yX0_sharedTimes, Cond.code yX0_sharedTimes cX0_sharedTimes 5 (some .int)]
def wsX5_ahead : List Cond := .code yX5_ahead cX5_ahead 8 (some .int) :: ((wsX5_ahead_r1 ++ (wsX5_ahead_r2 ++ (wsX5_ahead_r3 ++ (wsX5_ahead_r4 ++ wsX5_ahead_r5)))) ++ wsX50 ++ wsX00 ++ wsX40 ++ wsX30 ++ wsX10)
def wsX5_worth_r1 : List Cond := [Cond.constantLong RX5 196 (-4000000000000000001), Cond.constantLong RX5 198 (-4000000000000000000), Cond.fieldLink RX5 10 "TwoThirds" "now" "LTwoThirds$Game;", Cond.fieldLink RX5 44 "TwoThirds$Shelf" "row" "LTwoThirds$Row;", Cond.methodLink RX5 200 Lib.Math.abs.name, Cond.static Lib.Math.abs.name, Cond.initialized "java/lang/Math", Cond.code Lib.Math.abs.name Lib.Math.abs.code 1 (some .int), Cond.methodLink RX5 36 yX5_shelfAt, Cond.instanceMethod yX5_shelfAt, Cond.selects RX5 yX5_shelfAt yX5_shelfAt, Cond.initialized RX5, Cond.code yX5_shelfAt cX5_shelfAt 2 (some (.object "TwoThirds$Shelf")), Cond.fieldLink RX5 24 "TwoThirds" "shelves" "[LTwoThirds$Shelf;", Cond.methodLink RX5 161 yX5_cardsRefusal, Cond.instanceMethod yX5_cardsRefusal, Cond.selects RX5 yX5_cardsRefusal yX5_cardsRefusal, Cond.code yX5_cardsRefusal cX5_cardsRefusal 3 (some .int), Cond.methodLink RX5 40 yX5_rowRefusal, Cond.static yX5_rowRefusal, Cond.code yX5_rowRefusal cX5_rowRefusal 1 (some .int), Cond.methodLink RX5 291 yX5_refusalUnless, Cond.static yX5_refusalUnless, Cond.code yX5_refusalUnless cX5_refusalUnless 2 (some .int)]
def wsX5_worth_r2 : List Cond := [Cond.fieldLink RX5 231 "TwoThirds$Shelf" "holding" "I", Cond.methodLink RX5 186 yX0_areCards, Cond.instanceMethod yX0_areCards, Cond.selects RX0 yX0_areCards yX0_areCards, Cond.initialized RX0, Cond.code yX0_areCards cX0_areCards 3 (some .boolean), Cond.fieldLink RX0 156 "TwoThirds$Row" "size" "I", Cond.methodLink RX0 159 yX3_at, Cond.instanceMethod yX3_at, Cond.selects RX3 yX3_at yX3_at, Cond.initialized RX3, Cond.code yX3_at cX3_at 2 (some .int), Cond.fieldLink RX3 25 "TwoThirds$Row" "size" "I", Cond.fieldLink RX3 9 "TwoThirds$Row" "elements" "[I", Cond.methodLink RX0 162 yX0_isCard, Cond.instanceMethod yX0_isCard, Cond.selects RX0 yX0_isCard yX0_isCard, Cond.code yX0_isCard cX0_isCard 2 (some .boolean), Cond.fieldLink RX0 18 "TwoThirds$Game" "high" "I", Cond.methodLink RX5 147 yX0_targetAbove, Cond.instanceMethod yX0_targetAbove, Cond.selects RX0 yX0_targetAbove yX0_targetAbove, Cond.code yX0_targetAbove cX0_targetAbove 2 (some .int), Cond.fieldLink RX0 9 "TwoThirds$Game" "up" "I"]
def wsX5_worth_r3 : List Cond := [Cond.methodLink RX0 153 yX3_sum, Cond.instanceMethod yX3_sum, Cond.selects RX3 yX3_sum yX3_sum, Cond.code yX3_sum cX3_sum 3 (some .int), Cond.methodLink RX5 150 yX0_targetLine, Cond.instanceMethod yX0_targetLine, Cond.selects RX0 yX0_targetLine yX0_targetLine, Cond.code yX0_targetLine cX0_targetLine 2 (some .int), Cond.fieldLink RX0 15 "TwoThirds$Game" "down" "I", Cond.methodLink RX5 153 yX5_leastPart, Cond.static yX5_leastPart, Cond.code yX5_leastPart cX5_leastPart 3 (some .int), Cond.methodLink RX5 295 yX5_commonMeasure, Cond.static yX5_commonMeasure, Cond.code yX5_commonMeasure cX5_commonMeasure 6 (some .int), Cond.methodLink RX5 299 yX5_over, Cond.static yX5_over, Cond.code yX5_over cX5_over 2 (some .int), Cond.methodLink RX5 173 yX0_stepped, Cond.instanceMethod yX0_stepped, Cond.selects RX0 yX0_stepped yX0_stepped, Cond.code yX0_stepped cX0_stepped 2 (some .int), Cond.methodLink RX0 113 yX0_middle, Cond.instanceMethod yX0_middle]
def wsX5_worth_r4 : List Cond := [Cond.selects RX0 yX0_middle yX0_middle, Cond.code yX0_middle cX0_middle 1 (some .int), Cond.methodLink RX0 117 yX0_sharedTimes, Cond.instanceMethod yX0_sharedTimes, Cond.selects RX0 yX0_sharedTimes yX0_sharedTimes, Cond.code yX0_sharedTimes cX0_sharedTimes 5 (some .int), Cond.methodLink RX0 120 yX0_shareOf, Cond.instanceMethod yX0_shareOf, Cond.selects RX0 yX0_shareOf yX0_shareOf, Cond.code yX0_shareOf cX0_shareOf 2 (some .int), Cond.methodLink RX0 109 yX0_heldToCards, Cond.instanceMethod yX0_heldToCards, Cond.selects RX0 yX0_heldToCards yX0_heldToCards, Cond.code yX0_heldToCards cX0_heldToCards 2 (some .int)]
def wsX5_worth : List Cond := .code yX5_worth cX5_worth 9 (some .long) :: ((wsX5_worth_r1 ++ (wsX5_worth_r2 ++ (wsX5_worth_r3 ++ wsX5_worth_r4))) ++ wsX50 ++ wsX40 ++ wsX30 ++ wsX00)
def wsX5_jokers_r1 : List Cond := [Cond.fieldLink RX5 44 "TwoThirds$Shelf" "row" "LTwoThirds$Row;", Cond.fieldLink RX5 167 "TwoThirds$Row" "size" "I", Cond.fieldLink RX5 10 "TwoThirds" "now" "LTwoThirds$Game;", Cond.fieldLink RX5 205 "TwoThirds$Game" "high" "I", Cond.fieldLink RX5 190 "TwoThirds$Game" "up" "I", Cond.fieldLink RX5 193 "TwoThirds$Game" "down" "I", Cond.methodLink RX5 36 yX5_shelfAt, Cond.instanceMethod yX5_shelfAt, Cond.selects RX5 yX5_shelfAt yX5_shelfAt, Cond.initialized RX5, Cond.code yX5_shelfAt cX5_shelfAt 2 (some (.object "TwoThirds$Shelf")), Cond.fieldLink RX5 24 "TwoThirds" "shelves" "[LTwoThirds$Shelf;", Cond.methodLink RX5 144 yX5_isOneOfTwo, Cond.static yX5_isOneOfTwo, Cond.code yX5_isOneOfTwo cX5_isOneOfTwo 1 (some .boolean), Cond.methodLink RX5 161 yX5_cardsRefusal, Cond.instanceMethod yX5_cardsRefusal, Cond.selects RX5 yX5_cardsRefusal yX5_cardsRefusal, Cond.code yX5_cardsRefusal cX5_cardsRefusal 3 (some .int), Cond.methodLink RX5 40 yX5_rowRefusal, Cond.static yX5_rowRefusal, Cond.code yX5_rowRefusal cX5_rowRefusal 1 (some .int), Cond.methodLink RX5 291 yX5_refusalUnless, Cond.static yX5_refusalUnless]
def wsX5_jokers_r2 : List Cond := [Cond.code yX5_refusalUnless cX5_refusalUnless 2 (some .int), Cond.fieldLink RX5 231 "TwoThirds$Shelf" "holding" "I", Cond.methodLink RX5 186 yX0_areCards, Cond.instanceMethod yX0_areCards, Cond.selects RX0 yX0_areCards yX0_areCards, Cond.initialized RX0, Cond.code yX0_areCards cX0_areCards 3 (some .boolean), Cond.fieldLink RX0 156 "TwoThirds$Row" "size" "I", Cond.methodLink RX0 159 yX3_at, Cond.instanceMethod yX3_at, Cond.selects RX3 yX3_at yX3_at, Cond.initialized RX3, Cond.code yX3_at cX3_at 2 (some .int), Cond.fieldLink RX3 25 "TwoThirds$Row" "size" "I", Cond.fieldLink RX3 9 "TwoThirds$Row" "elements" "[I", Cond.methodLink RX0 162 yX0_isCard, Cond.instanceMethod yX0_isCard, Cond.selects RX0 yX0_isCard yX0_isCard, Cond.code yX0_isCard cX0_isCard 2 (some .boolean), Cond.fieldLink RX0 18 "TwoThirds$Game" "high" "I", Cond.methodLink RX5 164 yX3_sum, Cond.instanceMethod yX3_sum, Cond.selects RX3 yX3_sum yX3_sum, Cond.code yX3_sum cX3_sum 3 (some .int)]
def wsX5_jokers_r3 : List Cond := [Cond.methodLink RX5 208 yX3_countOf, Cond.instanceMethod yX3_countOf, Cond.selects RX3 yX3_countOf yX3_countOf, Cond.code yX3_countOf cX3_countOf 4 (some .int), Cond.methodLink RX5 153 yX5_leastPart, Cond.static yX5_leastPart, Cond.code yX5_leastPart cX5_leastPart 3 (some .int), Cond.methodLink RX5 295 yX5_commonMeasure, Cond.static yX5_commonMeasure, Cond.code yX5_commonMeasure cX5_commonMeasure 6 (some .int), Cond.methodLink RX5 299 yX5_over, Cond.static yX5_over, Cond.code yX5_over cX5_over 2 (some .int)]
def wsX5_jokers : List Cond := .code yX5_jokers cX5_jokers 10 (some .int) :: ((wsX5_jokers_r1 ++ (wsX5_jokers_r2 ++ wsX5_jokers_r3)) ++ wsX40 ++ wsX30 ++ wsX50 ++ wsX00)
def wsX5_differ_r1 : List Cond := [Cond.fieldLink RX5 10 "TwoThirds" "now" "LTwoThirds$Game;", Cond.fieldLink RX5 44 "TwoThirds$Shelf" "row" "LTwoThirds$Row;", Cond.fieldLink RX5 29 "TwoThirds" "counts" "[I", Cond.fieldLink RX5 33 "TwoThirds" "otherCounts" "[I", Cond.fieldLink RX5 167 "TwoThirds$Row" "size" "I", Cond.methodLink RX5 200 Lib.Math.abs.name, Cond.static Lib.Math.abs.name, Cond.initialized "java/lang/Math", Cond.code Lib.Math.abs.name Lib.Math.abs.code 1 (some .int), Cond.methodLink RX5 36 yX5_shelfAt, Cond.instanceMethod yX5_shelfAt, Cond.selects RX5 yX5_shelfAt yX5_shelfAt, Cond.initialized RX5, Cond.code yX5_shelfAt cX5_shelfAt 2 (some (.object "TwoThirds$Shelf")), Cond.fieldLink RX5 24 "TwoThirds" "shelves" "[LTwoThirds$Shelf;", Cond.methodLink RX5 182 yX5_twoRowsRefusal, Cond.static yX5_twoRowsRefusal, Cond.code yX5_twoRowsRefusal cX5_twoRowsRefusal 2 (some .int), Cond.fieldLink RX5 231 "TwoThirds$Shelf" "holding" "I", Cond.methodLink RX5 186 yX0_areCards, Cond.instanceMethod yX0_areCards, Cond.selects RX0 yX0_areCards yX0_areCards, Cond.initialized RX0, Cond.code yX0_areCards cX0_areCards 3 (some .boolean)]
def wsX5_differ_r2 : List Cond := [Cond.fieldLink RX0 156 "TwoThirds$Row" "size" "I", Cond.methodLink RX0 159 yX3_at, Cond.instanceMethod yX3_at, Cond.selects RX3 yX3_at yX3_at, Cond.initialized RX3, Cond.code yX3_at cX3_at 2 (some .int), Cond.fieldLink RX3 25 "TwoThirds$Row" "size" "I", Cond.fieldLink RX3 9 "TwoThirds$Row" "elements" "[I", Cond.methodLink RX0 162 yX0_isCard, Cond.instanceMethod yX0_isCard, Cond.selects RX0 yX0_isCard yX0_isCard, Cond.code yX0_isCard cX0_isCard 2 (some .boolean), Cond.fieldLink RX0 18 "TwoThirds$Game" "high" "I", Cond.methodLink RX5 211 yX0_countSteps, Cond.instanceMethod yX0_countSteps, Cond.selects RX0 yX0_countSteps yX0_countSteps, Cond.code yX0_countSteps cX0_countSteps 5 none, Cond.methodLink RX0 187 yJ7_fill_53178, Cond.static yJ7_fill_53178, Cond.initialized RJ7, Cond.code yJ7_fill_53178 cJ7_fill_53178 4 none, Cond.methodLink RX0 193 yX0_nearestSteps, Cond.instanceMethod yX0_nearestSteps, Cond.selects RX0 yX0_nearestSteps yX0_nearestSteps]
def wsX5_differ_r3 : List Cond := [Cond.code yX0_nearestSteps cX0_nearestSteps 7 (some .int), Cond.methodLink RX0 182 Lib.Math.abs.name, Cond.methodLink RX0 113 yX0_middle, Cond.instanceMethod yX0_middle, Cond.selects RX0 yX0_middle yX0_middle, Cond.code yX0_middle cX0_middle 1 (some .int), Cond.methodLink RX0 120 yX0_shareOf, Cond.instanceMethod yX0_shareOf, Cond.selects RX0 yX0_shareOf yX0_shareOf, Cond.code yX0_shareOf cX0_shareOf 2 (some .int), Cond.fieldLink RX0 9 "TwoThirds$Game" "up" "I", Cond.fieldLink RX0 15 "TwoThirds$Game" "down" "I", Cond.static yX5_over, Cond.code yX5_over cX5_over 2 (some .int), Cond.methodLink RX0 109 yX0_heldToCards, Cond.instanceMethod yX0_heldToCards, Cond.selects RX0 yX0_heldToCards yX0_heldToCards, Cond.code yX0_heldToCards cX0_heldToCards 2 (some .int)]
def wsX5_differ : List Cond := .code yX5_differ cX5_differ 8 (some .int) :: ((wsX5_differ_r1 ++ (wsX5_differ_r2 ++ wsX5_differ_r3)) ++ wsX50 ++ wsX40 ++ wsX30 ++ wsX00)
def wsX5_judge_r1 : List Cond := [Cond.fieldLink RX5 10 "TwoThirds" "now" "LTwoThirds$Game;", Cond.fieldLink RX5 93 "TwoThirds$Game" "rounds" "I", Cond.fieldLink RX5 44 "TwoThirds$Shelf" "row" "LTwoThirds$Row;", Cond.fieldLink RX5 167 "TwoThirds$Row" "size" "I", Cond.fieldLink RX5 125 "TwoThirds$Game" "people" "I", Cond.fieldLink RX5 96 "TwoThirds$Game" "cards" "LTwoThirds$Row;", Cond.methodLink RX5 36 yX5_shelfAt, Cond.instanceMethod yX5_shelfAt, Cond.selects RX5 yX5_shelfAt yX5_shelfAt, Cond.initialized RX5, Cond.code yX5_shelfAt cX5_shelfAt 2 (some (.object "TwoThirds$Shelf")), Cond.fieldLink RX5 24 "TwoThirds" "shelves" "[LTwoThirds$Shelf;", Cond.methodLink RX5 40 yX5_rowRefusal, Cond.static yX5_rowRefusal, Cond.code yX5_rowRefusal cX5_rowRefusal 1 (some .int), Cond.methodLink RX5 291 yX5_refusalUnless, Cond.static yX5_refusalUnless, Cond.code yX5_refusalUnless cX5_refusalUnless 2 (some .int), Cond.fieldLink RX5 231 "TwoThirds$Shelf" "holding" "I", Cond.methodLink RX5 215 yX3_leastNumber, Cond.instanceMethod yX3_leastNumber, Cond.selects RX3 yX3_leastNumber yX3_leastNumber, Cond.initialized RX3, Cond.code yX3_leastNumber cX3_leastNumber 1 (some .int)]
def wsX5_judge_r2 : List Cond := [Cond.fieldLink RX3 15 "TwoThirds$Row" "sort" "I", Cond.constant RX3 49 (-2147483648), Cond.methodLink RX5 99 yX3_at, Cond.instanceMethod yX3_at, Cond.selects RX3 yX3_at yX3_at, Cond.code yX3_at cX3_at 2 (some .int), Cond.fieldLink RX3 25 "TwoThirds$Row" "size" "I", Cond.fieldLink RX3 9 "TwoThirds$Row" "elements" "[I"]
def wsX5_judge : List Cond := .code yX5_judge cX5_judge 7 (some .int) :: ((wsX5_judge_r1 ++ wsX5_judge_r2) ++ wsX50 ++ wsX00 ++ wsX40 ++ wsX30)
def wsX5_ends : List Cond := .code yX5_ends cX5_ends 5 (some .int) :: ([.fieldLink RX5 10 "TwoThirds" "now" "LTwoThirds$Game;", .methodLink RX5 144 yX5_isOneOfTwo, .static yX5_isOneOfTwo, .initialized RX5, .code yX5_isOneOfTwo cX5_isOneOfTwo 1 (some .boolean), .methodLink RX5 218 yX0_middle, .instanceMethod yX0_middle, .selects RX0 yX0_middle yX0_middle, .initialized RX0, .code yX0_middle cX0_middle 1 (some .int), .fieldLink RX0 18 "TwoThirds$Game" "high" "I", .methodLink RX5 221 yX0_shareOf, .instanceMethod yX0_shareOf, .selects RX0 yX0_shareOf yX0_shareOf, .code yX0_shareOf cX0_shareOf 2 (some .int), .fieldLink RX0 9 "TwoThirds$Game" "up" "I", .fieldLink RX0 15 "TwoThirds$Game" "down" "I", .static yX5_over, .code yX5_over cX5_over 2 (some .int), .methodLink RX0 109 yX0_heldToCards, .instanceMethod yX0_heldToCards, .selects RX0 yX0_heldToCards yX0_heldToCards, .code yX0_heldToCards cX0_heldToCards 2 (some .int)] ++ wsX50 ++ wsX00)
def wsX5_parts_r1 : List Cond := [Cond.fieldLink RX5 10 "TwoThirds" "now" "LTwoThirds$Game;", Cond.fieldLink RX5 19 "TwoThirds" "mind" "LTwoThirds$Game;", Cond.fieldLink RX5 190 "TwoThirds$Game" "up" "I", Cond.methodLink RX5 200 Lib.Math.abs.name, Cond.static Lib.Math.abs.name, Cond.initialized "java/lang/Math", Cond.code Lib.Math.abs.name Lib.Math.abs.code 1 (some .int), Cond.methodLink RX5 78 yX0_personAt, Cond.instanceMethod yX0_personAt, Cond.selects RX0 yX0_personAt yX0_personAt, Cond.initialized RX0, Cond.code yX0_personAt cX0_personAt 2 (some (.object "TwoThirds$Person")), Cond.fieldLink RX0 46 "TwoThirds$Game" "people" "I", Cond.fieldLink RX0 29 "TwoThirds$Game" "persons" "[LTwoThirds$Person;", Cond.methodLink RX5 144 yX5_isOneOfTwo, Cond.static yX5_isOneOfTwo, Cond.initialized RX5, Cond.code yX5_isOneOfTwo cX5_isOneOfTwo 1 (some .boolean), Cond.methodLink RX5 118 yX1_holdsByDraw, Cond.instanceMethod yX1_holdsByDraw, Cond.selects RX1 yX1_holdsByDraw yX1_holdsByDraw, Cond.initialized RX1, Cond.code yX1_holdsByDraw cX1_holdsByDraw 1 (some .boolean), Cond.fieldLink RX1 15 "TwoThirds$Person" "kind" "I"]
def wsX5_parts_r2 : List Cond := [Cond.methodLink RX5 66 yX0_takeFrom, Cond.instanceMethod yX0_takeFrom, Cond.selects RX0 yX0_takeFrom yX0_takeFrom, Cond.code yX0_takeFrom cX0_takeFrom 3 none, Cond.fieldLink RX0 9 "TwoThirds$Game" "up" "I", Cond.fieldLink RX0 15 "TwoThirds$Game" "down" "I", Cond.fieldLink RX0 18 "TwoThirds$Game" "high" "I", Cond.fieldLink RX0 21 "TwoThirds$Game" "prize" "I", Cond.fieldLink RX0 24 "TwoThirds$Game" "z" "I", Cond.fieldLink RX0 43 "TwoThirds$Game" "rounds" "I", Cond.fieldLink RX0 39 "TwoThirds$Game" "cards" "LTwoThirds$Row;", Cond.fieldLink RX0 56 "TwoThirds$Game" "lastSum" "I", Cond.methodLink RX0 49 yX1_takeFrom, Cond.instanceMethod yX1_takeFrom, Cond.selects RX1 yX1_takeFrom yX1_takeFrom, Cond.code yX1_takeFrom cX1_takeFrom 2 none, Cond.fieldLink RX1 9 "TwoThirds$Person" "number" "I", Cond.fieldLink RX1 18 "TwoThirds$Person" "stepCount" "I", Cond.fieldLink RX1 21 "TwoThirds$Person" "slip" "I", Cond.methodLink RX1 24 yX1_begin, Cond.instanceMethod yX1_begin, Cond.selects RX1 yX1_begin yX1_begin, Cond.code yX1_begin cX1_begin 5 none, Cond.methodLink RX0 53 yX3_takeFrom]
def wsX5_parts_r3 : List Cond := [Cond.instanceMethod yX3_takeFrom, Cond.selects RX3 yX3_takeFrom yX3_takeFrom, Cond.initialized RX3, Cond.code yX3_takeFrom cX3_takeFrom 3 none, Cond.fieldLink RX3 15 "TwoThirds$Row" "sort" "I", Cond.fieldLink RX3 25 "TwoThirds$Row" "size" "I", Cond.fieldLink RX3 9 "TwoThirds$Row" "elements" "[I", Cond.methodLink RX3 34 yX3_begin, Cond.instanceMethod yX3_begin, Cond.selects RX3 yX3_begin yX3_begin, Cond.code yX3_begin cX3_begin 3 none, Cond.methodLink RX3 19 Lib.Math.min.name, Cond.static Lib.Math.min.name, Cond.code Lib.Math.min.name Lib.Math.min.code 2 (some .int), Cond.methodLink RX3 28 yJ7_fill_53178, Cond.static yJ7_fill_53178, Cond.initialized RJ7, Cond.code yJ7_fill_53178 cJ7_fill_53178 4 none, Cond.methodLink RX3 38 yX3_at, Cond.instanceMethod yX3_at, Cond.selects RX3 yX3_at yX3_at, Cond.code yX3_at cX3_at 2 (some .int), Cond.methodLink RX5 121 yX0_heldBy, Cond.instanceMethod yX0_heldBy]
def wsX5_parts_r4 : List Cond := [Cond.selects RX0 yX0_heldBy yX0_heldBy, Cond.code yX0_heldBy cX0_heldBy 2 (some .int), Cond.fieldLink RX0 123 "TwoThirds$Person" "kind" "I", Cond.fieldLink RX0 59 "TwoThirds$Person" "stepCount" "I", Cond.methodLink RX0 126 yX0_drawBelow, Cond.instanceMethod yX0_drawBelow, Cond.selects RX0 yX0_drawBelow yX0_drawBelow, Cond.code yX0_drawBelow cX0_drawBelow 3 (some .int), Cond.constant RX0 102 (1103515245), Cond.constant RX0 103 (2147483647), Cond.constant RX0 104 (65536), Cond.methodLink RX0 129 yX0_stepped, Cond.instanceMethod yX0_stepped, Cond.selects RX0 yX0_stepped yX0_stepped, Cond.code yX0_stepped cX0_stepped 2 (some .int), Cond.methodLink RX0 113 yX0_middle, Cond.instanceMethod yX0_middle, Cond.selects RX0 yX0_middle yX0_middle, Cond.code yX0_middle cX0_middle 1 (some .int), Cond.methodLink RX0 117 yX0_sharedTimes, Cond.instanceMethod yX0_sharedTimes, Cond.selects RX0 yX0_sharedTimes yX0_sharedTimes, Cond.code yX0_sharedTimes cX0_sharedTimes 5 (some .int), Cond.methodLink RX0 120 yX0_shareOf]
def wsX5_parts_r5 : List Cond := [Cond.instanceMethod yX0_shareOf, Cond.selects RX0 yX0_shareOf yX0_shareOf, Cond.code yX0_shareOf cX0_shareOf 2 (some .int), Cond.static yX5_over, Cond.code yX5_over cX5_over 2 (some .int), Cond.methodLink RX0 109 yX0_heldToCards, Cond.instanceMethod yX0_heldToCards, Cond.selects RX0 yX0_heldToCards yX0_heldToCards, Cond.code yX0_heldToCards cX0_heldToCards 2 (some .int), Cond.methodLink RX0 132 yX0_mixed, Cond.instanceMethod yX0_mixed, Cond.selects RX0 yX0_mixed yX0_mixed, Cond.code yX0_mixed cX0_mixed 5 (some .int), Cond.methodLink RX0 135 yX0_learned, Cond.instanceMethod yX0_learned, Cond.selects RX0 yX0_learned yX0_learned, Cond.code yX0_learned cX0_learned 2 (some .int)]
def wsX5_parts : List Cond := .code yX5_parts cX5_parts 10 (some .int) :: ((wsX5_parts_r1 ++ (wsX5_parts_r2 ++ (wsX5_parts_r3 ++ (wsX5_parts_r4 ++ wsX5_parts_r5)))) ++ wsX50 ++ wsX00 ++ wsX10 ++ wsX30)
def wsX5_image_r1 : List Cond := [Cond.fieldLink RX5 16 "TwoThirds" "kept" "LTwoThirds$Game;", Cond.fieldLink RX5 10 "TwoThirds" "now" "LTwoThirds$Game;", Cond.fieldLink RX5 224 "TwoThirds" "imageTaken" "Z", Cond.fieldLink RX5 125 "TwoThirds$Game" "people" "I", Cond.methodLink RX5 66 yX0_takeFrom, Cond.instanceMethod yX0_takeFrom, Cond.selects RX0 yX0_takeFrom yX0_takeFrom, Cond.initialized RX0, Cond.code yX0_takeFrom cX0_takeFrom 3 none, Cond.fieldLink RX0 9 "TwoThirds$Game" "up" "I", Cond.fieldLink RX0 15 "TwoThirds$Game" "down" "I", Cond.fieldLink RX0 18 "TwoThirds$Game" "high" "I", Cond.fieldLink RX0 21 "TwoThirds$Game" "prize" "I", Cond.fieldLink RX0 24 "TwoThirds$Game" "z" "I", Cond.fieldLink RX0 43 "TwoThirds$Game" "rounds" "I", Cond.fieldLink RX0 46 "TwoThirds$Game" "people" "I", Cond.fieldLink RX0 29 "TwoThirds$Game" "persons" "[LTwoThirds$Person;", Cond.fieldLink RX0 39 "TwoThirds$Game" "cards" "LTwoThirds$Row;", Cond.fieldLink RX0 56 "TwoThirds$Game" "lastSum" "I", Cond.methodLink RX0 49 yX1_takeFrom, Cond.instanceMethod yX1_takeFrom, Cond.selects RX1 yX1_takeFrom yX1_takeFrom, Cond.initialized RX1, Cond.code yX1_takeFrom cX1_takeFrom 2 none]
def wsX5_image_r2 : List Cond := [Cond.fieldLink RX1 9 "TwoThirds$Person" "number" "I", Cond.fieldLink RX1 15 "TwoThirds$Person" "kind" "I", Cond.fieldLink RX1 18 "TwoThirds$Person" "stepCount" "I", Cond.fieldLink RX1 21 "TwoThirds$Person" "slip" "I", Cond.methodLink RX1 24 yX1_begin, Cond.instanceMethod yX1_begin, Cond.selects RX1 yX1_begin yX1_begin, Cond.code yX1_begin cX1_begin 5 none, Cond.methodLink RX0 53 yX3_takeFrom, Cond.instanceMethod yX3_takeFrom, Cond.selects RX3 yX3_takeFrom yX3_takeFrom, Cond.initialized RX3, Cond.code yX3_takeFrom cX3_takeFrom 3 none, Cond.fieldLink RX3 15 "TwoThirds$Row" "sort" "I", Cond.fieldLink RX3 25 "TwoThirds$Row" "size" "I", Cond.fieldLink RX3 9 "TwoThirds$Row" "elements" "[I", Cond.methodLink RX3 34 yX3_begin, Cond.instanceMethod yX3_begin, Cond.selects RX3 yX3_begin yX3_begin, Cond.code yX3_begin cX3_begin 3 none, Cond.methodLink RX3 19 Lib.Math.min.name, Cond.static Lib.Math.min.name, Cond.initialized "java/lang/Math", Cond.code Lib.Math.min.name Lib.Math.min.code 2 (some .int)]
def wsX5_image_r3 : List Cond := [Cond.methodLink RX3 28 yJ7_fill_53178, Cond.static yJ7_fill_53178, Cond.initialized RJ7, Cond.code yJ7_fill_53178 cJ7_fill_53178 4 none, Cond.methodLink RX3 38 yX3_at, Cond.instanceMethod yX3_at, Cond.selects RX3 yX3_at yX3_at, Cond.code yX3_at cX3_at 2 (some .int)]
def wsX5_image : List Cond := .code yX5_image cX5_image 1 (some .int) :: ((wsX5_image_r1 ++ (wsX5_image_r2 ++ wsX5_image_r3)) ++ wsX50 ++ wsX00 ++ wsX10 ++ wsX30)
def wsX5_restore_r1 : List Cond := [Cond.fieldLink RX5 224 "TwoThirds" "imageTaken" "Z", Cond.fieldLink RX5 10 "TwoThirds" "now" "LTwoThirds$Game;", Cond.fieldLink RX5 16 "TwoThirds" "kept" "LTwoThirds$Game;", Cond.fieldLink RX5 125 "TwoThirds$Game" "people" "I", Cond.methodLink RX5 66 yX0_takeFrom, Cond.instanceMethod yX0_takeFrom, Cond.selects RX0 yX0_takeFrom yX0_takeFrom, Cond.initialized RX0, Cond.code yX0_takeFrom cX0_takeFrom 3 none, Cond.fieldLink RX0 9 "TwoThirds$Game" "up" "I", Cond.fieldLink RX0 15 "TwoThirds$Game" "down" "I", Cond.fieldLink RX0 18 "TwoThirds$Game" "high" "I", Cond.fieldLink RX0 21 "TwoThirds$Game" "prize" "I", Cond.fieldLink RX0 24 "TwoThirds$Game" "z" "I", Cond.fieldLink RX0 43 "TwoThirds$Game" "rounds" "I", Cond.fieldLink RX0 46 "TwoThirds$Game" "people" "I", Cond.fieldLink RX0 29 "TwoThirds$Game" "persons" "[LTwoThirds$Person;", Cond.fieldLink RX0 39 "TwoThirds$Game" "cards" "LTwoThirds$Row;", Cond.fieldLink RX0 56 "TwoThirds$Game" "lastSum" "I", Cond.methodLink RX0 49 yX1_takeFrom, Cond.instanceMethod yX1_takeFrom, Cond.selects RX1 yX1_takeFrom yX1_takeFrom, Cond.initialized RX1, Cond.code yX1_takeFrom cX1_takeFrom 2 none]
def wsX5_restore_r2 : List Cond := [Cond.fieldLink RX1 9 "TwoThirds$Person" "number" "I", Cond.fieldLink RX1 15 "TwoThirds$Person" "kind" "I", Cond.fieldLink RX1 18 "TwoThirds$Person" "stepCount" "I", Cond.fieldLink RX1 21 "TwoThirds$Person" "slip" "I", Cond.methodLink RX1 24 yX1_begin, Cond.instanceMethod yX1_begin, Cond.selects RX1 yX1_begin yX1_begin, Cond.code yX1_begin cX1_begin 5 none, Cond.methodLink RX0 53 yX3_takeFrom, Cond.instanceMethod yX3_takeFrom, Cond.selects RX3 yX3_takeFrom yX3_takeFrom, Cond.initialized RX3, Cond.code yX3_takeFrom cX3_takeFrom 3 none, Cond.fieldLink RX3 15 "TwoThirds$Row" "sort" "I", Cond.fieldLink RX3 25 "TwoThirds$Row" "size" "I", Cond.fieldLink RX3 9 "TwoThirds$Row" "elements" "[I", Cond.methodLink RX3 34 yX3_begin, Cond.instanceMethod yX3_begin, Cond.selects RX3 yX3_begin yX3_begin, Cond.code yX3_begin cX3_begin 3 none, Cond.methodLink RX3 19 Lib.Math.min.name, Cond.static Lib.Math.min.name, Cond.initialized "java/lang/Math", Cond.code Lib.Math.min.name Lib.Math.min.code 2 (some .int)]
def wsX5_restore_r3 : List Cond := [Cond.methodLink RX3 28 yJ7_fill_53178, Cond.static yJ7_fill_53178, Cond.initialized RJ7, Cond.code yJ7_fill_53178 cJ7_fill_53178 4 none, Cond.methodLink RX3 38 yX3_at, Cond.instanceMethod yX3_at, Cond.selects RX3 yX3_at yX3_at, Cond.code yX3_at cX3_at 2 (some .int)]
def wsX5_restore : List Cond := .code yX5_restore cX5_restore 1 (some .int) :: ((wsX5_restore_r1 ++ (wsX5_restore_r2 ++ wsX5_restore_r3)) ++ wsX50 ++ wsX00 ++ wsX10 ++ wsX30)
def wsX5_count : List Cond := .code yX5_count cX5_count 2 (some .int) :: ([.fieldLink RX5 10 "TwoThirds" "now" "LTwoThirds$Game;", .fieldLink RX5 125 "TwoThirds$Game" "people" "I", .fieldLink RX5 93 "TwoThirds$Game" "rounds" "I", .fieldLink RX5 190 "TwoThirds$Game" "up" "I", .fieldLink RX5 193 "TwoThirds$Game" "down" "I", .fieldLink RX5 205 "TwoThirds$Game" "high" "I", .methodLink RX5 228 yX0_allSteps, .instanceMethod yX0_allSteps, .selects RX0 yX0_allSteps yX0_allSteps, .initialized RX0, .code yX0_allSteps cX0_allSteps 3 (some .int), .fieldLink RX0 46 "TwoThirds$Game" "people" "I", .fieldLink RX0 29 "TwoThirds$Game" "persons" "[LTwoThirds$Person;", .fieldLink RX0 59 "TwoThirds$Person" "stepCount" "I"] ++ wsX50 ++ wsX00 ++ wsX10)
def wsX5_keep_r1 : List Cond := [Cond.fieldLink RX5 231 "TwoThirds$Shelf" "holding" "I", Cond.fieldLink RX5 10 "TwoThirds" "now" "LTwoThirds$Game;", Cond.fieldLink RX5 234 "TwoThirds$Shelf" "person" "LTwoThirds$Person;", Cond.methodLink RX5 36 yX5_shelfAt, Cond.instanceMethod yX5_shelfAt, Cond.selects RX5 yX5_shelfAt yX5_shelfAt, Cond.initialized RX5, Cond.code yX5_shelfAt cX5_shelfAt 2 (some (.object "TwoThirds$Shelf")), Cond.fieldLink RX5 24 "TwoThirds" "shelves" "[LTwoThirds$Shelf;", Cond.methodLink RX5 144 yX5_isOneOfTwo, Cond.static yX5_isOneOfTwo, Cond.code yX5_isOneOfTwo cX5_isOneOfTwo 1 (some .boolean), Cond.methodLink RX5 78 yX0_personAt, Cond.instanceMethod yX0_personAt, Cond.selects RX0 yX0_personAt yX0_personAt, Cond.initialized RX0, Cond.code yX0_personAt cX0_personAt 2 (some (.object "TwoThirds$Person")), Cond.fieldLink RX0 46 "TwoThirds$Game" "people" "I", Cond.fieldLink RX0 29 "TwoThirds$Game" "persons" "[LTwoThirds$Person;", Cond.methodLink RX5 238 yX1_takeFrom, Cond.instanceMethod yX1_takeFrom, Cond.selects RX1 yX1_takeFrom yX1_takeFrom, Cond.initialized RX1, Cond.code yX1_takeFrom cX1_takeFrom 2 none]
def wsX5_keep_r2 : List Cond := [Cond.fieldLink RX1 9 "TwoThirds$Person" "number" "I", Cond.fieldLink RX1 15 "TwoThirds$Person" "kind" "I", Cond.fieldLink RX1 18 "TwoThirds$Person" "stepCount" "I", Cond.fieldLink RX1 21 "TwoThirds$Person" "slip" "I", Cond.methodLink RX1 24 yX1_begin, Cond.instanceMethod yX1_begin, Cond.selects RX1 yX1_begin yX1_begin, Cond.code yX1_begin cX1_begin 5 none]
def wsX5_keep : List Cond := .code yX5_keep cX5_keep 6 (some .int) :: ((wsX5_keep_r1 ++ wsX5_keep_r2) ++ wsX40 ++ wsX50 ++ wsX00 ++ wsX10)
def wsX5_row : List Cond := .code yX5_row cX5_row 5 (some .int) :: ([.fieldLink RX5 231 "TwoThirds$Shelf" "holding" "I", .fieldLink RX5 44 "TwoThirds$Shelf" "row" "LTwoThirds$Row;", .methodLink RX5 36 yX5_shelfAt, .instanceMethod yX5_shelfAt, .selects RX5 yX5_shelfAt yX5_shelfAt, .initialized RX5, .code yX5_shelfAt cX5_shelfAt 2 (some (.object "TwoThirds$Shelf")), .fieldLink RX5 24 "TwoThirds" "shelves" "[LTwoThirds$Shelf;", .methodLink RX5 241 yX3_begin, .instanceMethod yX3_begin, .selects RX3 yX3_begin yX3_begin, .initialized RX3, .code yX3_begin cX3_begin 3 none, .fieldLink RX3 15 "TwoThirds$Row" "sort" "I", .fieldLink RX3 9 "TwoThirds$Row" "elements" "[I", .methodLink RX3 19 Lib.Math.min.name, .static Lib.Math.min.name, .initialized "java/lang/Math", .code Lib.Math.min.name Lib.Math.min.code 2 (some .int), .fieldLink RX3 25 "TwoThirds$Row" "size" "I", .methodLink RX3 28 yJ7_fill_53178, .static yJ7_fill_53178, .initialized RJ7, .code yJ7_fill_53178 cJ7_fill_53178 4 none] ++ wsX40 ++ wsX50 ++ wsX30)
def wsX5_put_r1 : List Cond := [Cond.fieldLink RX5 44 "TwoThirds$Shelf" "row" "LTwoThirds$Row;", Cond.methodLink RX5 36 yX5_shelfAt, Cond.instanceMethod yX5_shelfAt, Cond.selects RX5 yX5_shelfAt yX5_shelfAt, Cond.initialized RX5, Cond.code yX5_shelfAt cX5_shelfAt 2 (some (.object "TwoThirds$Shelf")), Cond.fieldLink RX5 24 "TwoThirds" "shelves" "[LTwoThirds$Shelf;", Cond.methodLink RX5 40 yX5_rowRefusal, Cond.static yX5_rowRefusal, Cond.code yX5_rowRefusal cX5_rowRefusal 1 (some .int), Cond.methodLink RX5 291 yX5_refusalUnless, Cond.static yX5_refusalUnless, Cond.code yX5_refusalUnless cX5_refusalUnless 2 (some .int), Cond.fieldLink RX5 231 "TwoThirds$Shelf" "holding" "I", Cond.methodLink RX5 244 yX3_hasPlace, Cond.instanceMethod yX3_hasPlace, Cond.selects RX3 yX3_hasPlace yX3_hasPlace, Cond.initialized RX3, Cond.code yX3_hasPlace cX3_hasPlace 2 (some .boolean), Cond.fieldLink RX3 25 "TwoThirds$Row" "size" "I", Cond.methodLink RX5 247 yX3_write, Cond.instanceMethod yX3_write, Cond.selects RX3 yX3_write yX3_write, Cond.code yX3_write cX3_write 3 none]
def wsX5_put_r2 : List Cond := [Cond.fieldLink RX3 9 "TwoThirds$Row" "elements" "[I", Cond.methodLink RX3 42 yX3_hasPlace, Cond.methodLink RX3 46 yX3_lowestBits, Cond.instanceMethod yX3_lowestBits, Cond.selects RX3 yX3_lowestBits yX3_lowestBits, Cond.code yX3_lowestBits cX3_lowestBits 2 (some .int), Cond.fieldLink RX3 15 "TwoThirds$Row" "sort" "I"]
def wsX5_put : List Cond := .code yX5_put cX5_put 6 (some .int) :: ((wsX5_put_r1 ++ wsX5_put_r2) ++ wsX40 ++ wsX50 ++ wsX30)
def wsX5_element : List Cond := .code yX5_element cX5_element 4 (some .long) :: ([.classLink RX5 250 "java/lang/IllegalArgumentException", .initialized "java/lang/IllegalArgumentException", .classLink RX5 257 "java/lang/IllegalStateException", .initialized "java/lang/IllegalStateException", .fieldLink RX5 231 "TwoThirds$Shelf" "holding" "I", .fieldLink RX5 44 "TwoThirds$Shelf" "row" "LTwoThirds$Row;", .methodLink RX5 36 yX5_shelfAt, .instanceMethod yX5_shelfAt, .selects RX5 yX5_shelfAt yX5_shelfAt, .initialized RX5, .code yX5_shelfAt cX5_shelfAt 2 (some (.object "TwoThirds$Shelf")), .fieldLink RX5 24 "TwoThirds" "shelves" "[LTwoThirds$Shelf;", .methodLink RX5 244 yX3_hasPlace, .instanceMethod yX3_hasPlace, .selects RX3 yX3_hasPlace yX3_hasPlace, .initialized RX3, .code yX3_hasPlace cX3_hasPlace 2 (some .boolean), .fieldLink RX3 25 "TwoThirds$Row" "size" "I", .methodLink RX5 99 yX3_at, .instanceMethod yX3_at, .selects RX3 yX3_at yX3_at, .code yX3_at cX3_at 2 (some .int), .fieldLink RX3 9 "TwoThirds$Row" "elements" "[I"] ++ wsX40 ++ wsX50 ++ wsX30 ++ (vx_atS RX5 254 "java/lang/IllegalArgumentException" ["java/lang/RuntimeException", "java/lang/Exception"]).filter goodWord ++ (vx_atS RX5 261 "java/lang/IllegalStateException" ["java/lang/RuntimeException", "java/lang/Exception"]).filter goodWord)
def wsX5_copy : List Cond := .code yX5_copy cX5_copy 9 (some .int) :: ([.fieldLink RX5 44 "TwoThirds$Shelf" "row" "LTwoThirds$Row;", .fieldLink RX5 48 "TwoThirds$Row" "sort" "I", .fieldLink RX5 267 "TwoThirds$Row" "elements" "[I", .methodLink RX5 270 arraycopyName, .native arraycopyName, .static arraycopyName, .initialized "java/lang/System", .methodLink RX5 36 yX5_shelfAt, .instanceMethod yX5_shelfAt, .selects RX5 yX5_shelfAt yX5_shelfAt, .initialized RX5, .code yX5_shelfAt cX5_shelfAt 2 (some (.object "TwoThirds$Shelf")), .fieldLink RX5 24 "TwoThirds" "shelves" "[LTwoThirds$Shelf;", .methodLink RX5 182 yX5_twoRowsRefusal, .static yX5_twoRowsRefusal, .code yX5_twoRowsRefusal cX5_twoRowsRefusal 2 (some .int), .fieldLink RX5 231 "TwoThirds$Shelf" "holding" "I", .methodLink RX5 264 yX3_hasPlaces, .instanceMethod yX3_hasPlaces, .selects RX3 yX3_hasPlaces yX3_hasPlaces, .initialized RX3, .code yX3_hasPlaces cX3_hasPlaces 3 (some .boolean), .fieldLink RX3 25 "TwoThirds$Row" "size" "I"] ++ wsX40 ++ wsX30 ++ wsX50)
def wsX5_personRefusal : List Cond := .code yX5_personRefusal cX5_personRefusal 1 (some .int) :: ([.methodLink RX5 291 yX5_refusalUnless, .static yX5_refusalUnless, .initialized RX5, .code yX5_refusalUnless cX5_refusalUnless 2 (some .int), .fieldLink RX5 231 "TwoThirds$Shelf" "holding" "I"] ++ wsX40)
def wsX5_depth : List Cond := .code yX5_depth cX5_depth 4 (some .int) :: ([.constant RX5 279 (-1000000000), .fieldLink RX5 234 "TwoThirds$Shelf" "person" "LTwoThirds$Person;", .methodLink RX5 36 yX5_shelfAt, .instanceMethod yX5_shelfAt, .selects RX5 yX5_shelfAt yX5_shelfAt, .initialized RX5, .code yX5_shelfAt cX5_shelfAt 2 (some (.object "TwoThirds$Shelf")), .fieldLink RX5 24 "TwoThirds" "shelves" "[LTwoThirds$Shelf;", .methodLink RX5 276 yX5_personRefusal, .static yX5_personRefusal, .code yX5_personRefusal cX5_personRefusal 1 (some .int), .methodLink RX5 291 yX5_refusalUnless, .static yX5_refusalUnless, .code yX5_refusalUnless cX5_refusalUnless 2 (some .int), .fieldLink RX5 231 "TwoThirds$Shelf" "holding" "I", .methodLink RX5 280 yX1_depthOfKind, .instanceMethod yX1_depthOfKind, .selects RX1 yX1_depthOfKind yX1_depthOfKind, .initialized RX1, .code yX1_depthOfKind cX1_depthOfKind 4 (some .int), .fieldLink RX1 21 "TwoThirds$Person" "slip" "I", .fieldLink RX1 18 "TwoThirds$Person" "stepCount" "I", .fieldLink RX1 15 "TwoThirds$Person" "kind" "I"] ++ wsX40 ++ wsX50 ++ wsX10)
def wsX5_toss_r1 : List Cond := [Cond.classLink RX5 286 "java/lang/UnsupportedOperationException", Cond.classLink RX5 250 "java/lang/IllegalArgumentException", Cond.classLink RX5 257 "java/lang/IllegalStateException", Cond.fieldLink RX5 234 "TwoThirds$Shelf" "person" "LTwoThirds$Person;", Cond.fieldLink RX5 288 "TwoThirds$Person" "number" "I", Cond.methodLink RX5 36 yX5_shelfAt, Cond.instanceMethod yX5_shelfAt, Cond.selects RX5 yX5_shelfAt yX5_shelfAt, Cond.initialized RX5, Cond.code yX5_shelfAt cX5_shelfAt 2 (some (.object "TwoThirds$Shelf")), Cond.fieldLink RX5 24 "TwoThirds" "shelves" "[LTwoThirds$Shelf;", Cond.methodLink RX5 276 yX5_personRefusal, Cond.static yX5_personRefusal, Cond.code yX5_personRefusal cX5_personRefusal 1 (some .int), Cond.methodLink RX5 291 yX5_refusalUnless, Cond.static yX5_refusalUnless, Cond.code yX5_refusalUnless cX5_refusalUnless 2 (some .int), Cond.fieldLink RX5 231 "TwoThirds$Shelf" "holding" "I", Cond.methodLink RX5 283 yX1_fail, Cond.instanceMethod yX1_fail, Cond.selects RX1 yX1_fail yX1_fail, Cond.initialized RX1, Cond.code yX1_fail cX1_fail 1 none, Cond.classLink RX1 28 "java/lang/UnsupportedOperationException"]
def wsX5_toss_r2 : List Cond := [Cond.initialized "java/lang/UnsupportedOperationException", Cond.classLink RX1 35 "java/lang/IllegalArgumentException", Cond.initialized "java/lang/IllegalArgumentException", Cond.classLink RX1 40 "java/lang/IllegalStateException", Cond.initialized "java/lang/IllegalStateException", Cond.fieldLink RX1 15 "TwoThirds$Person" "kind" "I", Cond.fieldLink RX1 18 "TwoThirds$Person" "stepCount" "I", Cond.methodLink RX5 280 yX1_depthOfKind, Cond.instanceMethod yX1_depthOfKind, Cond.selects RX1 yX1_depthOfKind yX1_depthOfKind, Cond.code yX1_depthOfKind cX1_depthOfKind 4 (some .int), Cond.fieldLink RX1 21 "TwoThirds$Person" "slip" "I"]
def wsX5_toss : List Cond := .codeWith yX5_toss cX5_toss 5 (some .int) [(17, 24, 27, 286), (17, 24, 41, 250), (17, 24, 54, 257)] :: ((wsX5_toss_r1 ++ wsX5_toss_r2) ++ wsX40 ++ wsX10 ++ wsX50 ++ (vx_atS RX1 32 "java/lang/UnsupportedOperationException" ["java/lang/RuntimeException", "java/lang/Exception"]).filter goodWord ++ (vx_atS RX1 39 "java/lang/IllegalArgumentException" ["java/lang/RuntimeException", "java/lang/Exception"]).filter goodWord ++ (vx_atS RX1 44 "java/lang/IllegalStateException" ["java/lang/RuntimeException", "java/lang/Exception"]).filter goodWord)
def wsX6_init : List Cond := .code yX6_init cX6_init 1 none :: ([.methodLink RX6 1 objectInit, .instanceMethod objectInit, .code objectInit ⟨#[0xb1]⟩ 1 none, .arrayClass .int, .fieldLink RX6 9 "TwoThirdsModel" "s" "[I", .fieldLink RX6 13 "TwoThirdsModel" "image" "[I", .fieldLink RX6 16 "TwoThirdsModel" "read" "[I", .fieldLink RX6 19 "TwoThirdsModel" "saved" "[I", .fieldLink RX6 22 "TwoThirdsModel" "kept" "[I", .fieldLink RX6 25 "TwoThirdsModel" "sort" "[I", .fieldLink RX6 28 "TwoThirdsModel" "size" "[I", .fieldLink RX6 31 "TwoThirdsModel" "element" "[I", .fieldLink RX6 34 "TwoThirdsModel" "keptDepth" "[I", .fieldLink RX6 37 "TwoThirdsModel" "keptToss" "[I", .fieldLink RX6 40 "TwoThirdsModel" "numbers" "[I", .fieldLink RX6 43 "TwoThirdsModel" "cards" "[I", .fieldLink RX6 46 "TwoThirdsModel" "hand" "[I", .fieldLink RX6 49 "TwoThirdsModel" "counts" "[I"] ++ wsX60)
def wsX6_thrown : List Cond := .code yX6_thrown cX6_thrown 1 (some .int) :: ([.fieldLink RX6 52 "TwoThirdsModel" "thrown" "I"] ++ wsX60)
def wsX6_isIn : List Cond := .code yX6_isIn cX6_isIn 6 (some .boolean) :: ([])
def wsX6_isPerson : List Cond := .code yX6_isPerson cX6_isPerson 2 (some .boolean) :: ([.fieldLink RX6 9 "TwoThirdsModel" "s" "[I", .methodLink RX6 56 yX6_isIn, .static yX6_isIn, .initialized RX6, .code yX6_isIn cX6_isIn 6 (some .boolean)] ++ wsX60)
def wsX6_isShelf : List Cond := .code yX6_isShelf cX6_isShelf 1 (some .boolean) :: ([.constantLong RX6 60 (7), .methodLink RX6 56 yX6_isIn, .static yX6_isIn, .initialized RX6, .code yX6_isIn cX6_isIn 6 (some .boolean)])
def wsX6_get : List Cond := .code yX6_get cX6_get 3 (some .int) :: ([.fieldLink RX6 9 "TwoThirdsModel" "s" "[I"] ++ wsX60)
def wsX6_becomes : List Cond := .code yX6_becomes cX6_becomes 4 (some .int) :: ([.fieldLink RX6 9 "TwoThirdsModel" "s" "[I"] ++ wsX60)
def wsX6_here : List Cond := .code yX6_here cX6_here 1 (some .int) :: ([.fieldLink RX6 62 "TwoThirdsModel" "pos" "I", .fieldLink RX6 65 "TwoThirdsModel" "end" "I", .fieldLink RX6 31 "TwoThirdsModel" "element" "[I", .fieldLink RX6 68 "TwoThirdsModel" "base" "I"] ++ wsX60)
def wsX6_isDigit : List Cond := .code yX6_isDigit cX6_isDigit 1 (some .boolean) :: ([.constantLong RX6 75 (48), .constantLong RX6 77 (57), .methodLink RX6 71 yX6_here, .instanceMethod yX6_here, .selects RX6 yX6_here yX6_here, .initialized RX6, .code yX6_here cX6_here 1 (some .int), .fieldLink RX6 62 "TwoThirdsModel" "pos" "I", .fieldLink RX6 65 "TwoThirdsModel" "end" "I", .fieldLink RX6 31 "TwoThirdsModel" "element" "[I", .fieldLink RX6 68 "TwoThirdsModel" "base" "I", .methodLink RX6 56 yX6_isIn, .static yX6_isIn, .code yX6_isIn cX6_isIn 6 (some .boolean)] ++ wsX60)
def wsX6_takes : List Cond := .code yX6_takes cX6_takes 2 (some .boolean) :: ([.fieldLink RX6 62 "TwoThirdsModel" "pos" "I", .methodLink RX6 71 yX6_here, .instanceMethod yX6_here, .selects RX6 yX6_here yX6_here, .initialized RX6, .code yX6_here cX6_here 1 (some .int), .fieldLink RX6 65 "TwoThirdsModel" "end" "I", .fieldLink RX6 31 "TwoThirdsModel" "element" "[I", .fieldLink RX6 68 "TwoThirdsModel" "base" "I"] ++ wsX60)
def wsX6_readsDigit : List Cond := .code yX6_readsDigit cX6_readsDigit 1 (some .boolean) :: ([.fieldLink RX6 40 "TwoThirdsModel" "numbers" "[I", .fieldLink RX6 83 "TwoThirdsModel" "told" "I", .fieldLink RX6 62 "TwoThirdsModel" "pos" "I", .methodLink RX6 79 yX6_isDigit, .instanceMethod yX6_isDigit, .selects RX6 yX6_isDigit yX6_isDigit, .initialized RX6, .code yX6_isDigit cX6_isDigit 1 (some .boolean), .constantLong RX6 75 (48), .constantLong RX6 77 (57), .methodLink RX6 71 yX6_here, .instanceMethod yX6_here, .selects RX6 yX6_here yX6_here, .code yX6_here cX6_here 1 (some .int), .fieldLink RX6 65 "TwoThirdsModel" "end" "I", .fieldLink RX6 31 "TwoThirdsModel" "element" "[I", .fieldLink RX6 68 "TwoThirdsModel" "base" "I", .methodLink RX6 56 yX6_isIn, .static yX6_isIn, .code yX6_isIn cX6_isIn 6 (some .boolean)] ++ wsX60)
def wsX6_readsNumber : List Cond := .code yX6_readsNumber cX6_readsNumber 3 (some .boolean) :: ([.fieldLink RX6 40 "TwoThirdsModel" "numbers" "[I", .fieldLink RX6 83 "TwoThirdsModel" "told" "I", .fieldLink RX6 62 "TwoThirdsModel" "pos" "I", .methodLink RX6 86 yX6_readsDigit, .instanceMethod yX6_readsDigit, .selects RX6 yX6_readsDigit yX6_readsDigit, .initialized RX6, .code yX6_readsDigit cX6_readsDigit 1 (some .boolean), .methodLink RX6 79 yX6_isDigit, .instanceMethod yX6_isDigit, .selects RX6 yX6_isDigit yX6_isDigit, .code yX6_isDigit cX6_isDigit 1 (some .boolean), .constantLong RX6 75 (48), .constantLong RX6 77 (57), .methodLink RX6 71 yX6_here, .instanceMethod yX6_here, .selects RX6 yX6_here yX6_here, .code yX6_here cX6_here 1 (some .int), .fieldLink RX6 65 "TwoThirdsModel" "end" "I", .fieldLink RX6 31 "TwoThirdsModel" "element" "[I", .fieldLink RX6 68 "TwoThirdsModel" "base" "I", .methodLink RX6 56 yX6_isIn, .static yX6_isIn, .code yX6_isIn cX6_isIn 6 (some .boolean)] ++ wsX60)
def wsX6_readsStatement_r1 : List Cond := [Cond.fieldLink RX6 83 "TwoThirdsModel" "told" "I", Cond.fieldLink RX6 62 "TwoThirdsModel" "pos" "I", Cond.methodLink RX6 71 yX6_here, Cond.instanceMethod yX6_here, Cond.selects RX6 yX6_here yX6_here, Cond.initialized RX6, Cond.code yX6_here cX6_here 1 (some .int), Cond.fieldLink RX6 65 "TwoThirdsModel" "end" "I", Cond.fieldLink RX6 31 "TwoThirdsModel" "element" "[I", Cond.fieldLink RX6 68 "TwoThirdsModel" "base" "I", Cond.methodLink RX6 86 yX6_readsDigit, Cond.instanceMethod yX6_readsDigit, Cond.selects RX6 yX6_readsDigit yX6_readsDigit, Cond.code yX6_readsDigit cX6_readsDigit 1 (some .boolean), Cond.fieldLink RX6 40 "TwoThirdsModel" "numbers" "[I", Cond.methodLink RX6 79 yX6_isDigit, Cond.instanceMethod yX6_isDigit, Cond.selects RX6 yX6_isDigit yX6_isDigit, Cond.code yX6_isDigit cX6_isDigit 1 (some .boolean), Cond.constantLong RX6 75 (48), Cond.constantLong RX6 77 (57), Cond.methodLink RX6 56 yX6_isIn, Cond.static yX6_isIn, Cond.code yX6_isIn cX6_isIn 6 (some .boolean)]
def wsX6_readsStatement_r2 : List Cond := [Cond.methodLink RX6 89 yX6_takes, Cond.instanceMethod yX6_takes, Cond.selects RX6 yX6_takes yX6_takes, Cond.code yX6_takes cX6_takes 2 (some .boolean), Cond.methodLink RX6 93 yX6_readsNumber, Cond.instanceMethod yX6_readsNumber, Cond.selects RX6 yX6_readsNumber yX6_readsNumber, Cond.code yX6_readsNumber cX6_readsNumber 3 (some .boolean)]
def wsX6_readsStatement : List Cond := .code yX6_readsStatement cX6_readsStatement 2 (some .boolean) :: ((wsX6_readsStatement_r1 ++ wsX6_readsStatement_r2) ++ wsX60)
def wsX6_isShare : List Cond := .code yX6_isShare cX6_isShare 2 (some .boolean) :: ([.constantLong RX6 102 (20), .methodLink RX6 56 yX6_isIn, .static yX6_isIn, .initialized RX6, .code yX6_isIn cX6_isIn 6 (some .boolean)])
def wsX6_comes : List Cond := .code yX6_comes cX6_comes 4 (some .boolean) :: ([.fieldLink RX6 16 "TwoThirdsModel" "read" "[I", .fieldLink RX6 40 "TwoThirdsModel" "numbers" "[I", .constantLong RX6 100 (1000), .methodLink RX6 96 yX6_isShare, .static yX6_isShare, .initialized RX6, .code yX6_isShare cX6_isShare 2 (some .boolean), .constantLong RX6 102 (20), .methodLink RX6 56 yX6_isIn, .static yX6_isIn, .code yX6_isIn cX6_isIn 6 (some .boolean)] ++ wsX60)
def wsX6_wrongRow : List Cond := .code yX6_wrongRow cX6_wrongRow 3 (some .int) :: ([.fieldLink RX6 22 "TwoThirdsModel" "kept" "[I", .fieldLink RX6 25 "TwoThirdsModel" "sort" "[I", .methodLink RX6 104 yX6_isShelf, .static yX6_isShelf, .initialized RX6, .code yX6_isShelf cX6_isShelf 1 (some .boolean), .constantLong RX6 60 (7), .methodLink RX6 56 yX6_isIn, .static yX6_isIn, .code yX6_isIn cX6_isIn 6 (some .boolean)] ++ wsX60)
def wsX6_crowd_r1 : List Cond := [Cond.fieldLink RX6 68 "TwoThirdsModel" "base" "I", Cond.fieldLink RX6 28 "TwoThirdsModel" "size" "[I", Cond.fieldLink RX6 65 "TwoThirdsModel" "end" "I", Cond.fieldLink RX6 62 "TwoThirdsModel" "pos" "I", Cond.fieldLink RX6 16 "TwoThirdsModel" "read" "[I", Cond.fieldLink RX6 9 "TwoThirdsModel" "s" "[I", Cond.methodLink RX6 107 yX6_wrongRow, Cond.instanceMethod yX6_wrongRow, Cond.selects RX6 yX6_wrongRow yX6_wrongRow, Cond.initialized RX6, Cond.code yX6_wrongRow cX6_wrongRow 3 (some .int), Cond.fieldLink RX6 22 "TwoThirdsModel" "kept" "[I", Cond.fieldLink RX6 25 "TwoThirdsModel" "sort" "[I", Cond.methodLink RX6 104 yX6_isShelf, Cond.static yX6_isShelf, Cond.code yX6_isShelf cX6_isShelf 1 (some .boolean), Cond.constantLong RX6 60 (7), Cond.methodLink RX6 56 yX6_isIn, Cond.static yX6_isIn, Cond.code yX6_isIn cX6_isIn 6 (some .boolean), Cond.methodLink RX6 111 yX6_readsStatement, Cond.instanceMethod yX6_readsStatement, Cond.selects RX6 yX6_readsStatement yX6_readsStatement, Cond.code yX6_readsStatement cX6_readsStatement 2 (some .boolean)]
def wsX6_crowd_r2 : List Cond := [Cond.fieldLink RX6 83 "TwoThirdsModel" "told" "I", Cond.methodLink RX6 71 yX6_here, Cond.instanceMethod yX6_here, Cond.selects RX6 yX6_here yX6_here, Cond.code yX6_here cX6_here 1 (some .int), Cond.fieldLink RX6 31 "TwoThirdsModel" "element" "[I", Cond.methodLink RX6 86 yX6_readsDigit, Cond.instanceMethod yX6_readsDigit, Cond.selects RX6 yX6_readsDigit yX6_readsDigit, Cond.code yX6_readsDigit cX6_readsDigit 1 (some .boolean), Cond.fieldLink RX6 40 "TwoThirdsModel" "numbers" "[I", Cond.methodLink RX6 79 yX6_isDigit, Cond.instanceMethod yX6_isDigit, Cond.selects RX6 yX6_isDigit yX6_isDigit, Cond.code yX6_isDigit cX6_isDigit 1 (some .boolean), Cond.constantLong RX6 75 (48), Cond.constantLong RX6 77 (57), Cond.methodLink RX6 89 yX6_takes, Cond.instanceMethod yX6_takes, Cond.selects RX6 yX6_takes yX6_takes, Cond.code yX6_takes cX6_takes 2 (some .boolean), Cond.methodLink RX6 93 yX6_readsNumber, Cond.instanceMethod yX6_readsNumber, Cond.selects RX6 yX6_readsNumber yX6_readsNumber]
def wsX6_crowd_r3 : List Cond := [Cond.code yX6_readsNumber cX6_readsNumber 3 (some .boolean), Cond.methodLink RX6 114 yX6_comes, Cond.instanceMethod yX6_comes, Cond.selects RX6 yX6_comes yX6_comes, Cond.code yX6_comes cX6_comes 4 (some .boolean), Cond.constantLong RX6 100 (1000), Cond.methodLink RX6 96 yX6_isShare, Cond.static yX6_isShare, Cond.code yX6_isShare cX6_isShare 2 (some .boolean), Cond.constantLong RX6 102 (20)]
def wsX6_crowd : List Cond := .code yX6_crowd cX6_crowd 7 (some .int) :: ((wsX6_crowd_r1 ++ (wsX6_crowd_r2 ++ wsX6_crowd_r3)) ++ wsX60)
def wsX6_of : List Cond := .code yX6_of cX6_of 3 (some .int) :: ([.constantLong RX6 120 (3), .methodLink RX6 117 yX6_isPerson, .instanceMethod yX6_isPerson, .selects RX6 yX6_isPerson yX6_isPerson, .initialized RX6, .code yX6_isPerson cX6_isPerson 2 (some .boolean), .fieldLink RX6 9 "TwoThirdsModel" "s" "[I", .methodLink RX6 56 yX6_isIn, .static yX6_isIn, .code yX6_isIn cX6_isIn 6 (some .boolean), .methodLink RX6 122 yX6_get, .instanceMethod yX6_get, .selects RX6 yX6_get yX6_get, .code yX6_get cX6_get 3 (some .int)] ++ wsX60)
def wsX6_isValue : List Cond := .code yX6_isValue cX6_isValue 2 (some .boolean) :: ([.constantLong RX6 102 (20), .constantLong RX6 100 (1000), .methodLink RX6 56 yX6_isIn, .static yX6_isIn, .initialized RX6, .code yX6_isIn cX6_isIn 6 (some .boolean)])
def wsX6_set : List Cond := .code yX6_set cX6_set 3 (some .int) :: ([.fieldLink RX6 9 "TwoThirdsModel" "s" "[I", .methodLink RX6 125 yX6_isValue, .static yX6_isValue, .initialized RX6, .code yX6_isValue cX6_isValue 2 (some .boolean), .constantLong RX6 102 (20), .constantLong RX6 100 (1000), .methodLink RX6 56 yX6_isIn, .static yX6_isIn, .code yX6_isIn cX6_isIn 6 (some .boolean), .methodLink RX6 128 yX6_becomes, .instanceMethod yX6_becomes, .selects RX6 yX6_becomes yX6_becomes, .code yX6_becomes cX6_becomes 4 (some .int)] ++ wsX60)
def wsX6_steps : List Cond := .code yX6_steps cX6_steps 3 (some .int) :: ([.constantLong RX6 131 (9), .methodLink RX6 117 yX6_isPerson, .instanceMethod yX6_isPerson, .selects RX6 yX6_isPerson yX6_isPerson, .initialized RX6, .code yX6_isPerson cX6_isPerson 2 (some .boolean), .fieldLink RX6 9 "TwoThirdsModel" "s" "[I", .methodLink RX6 56 yX6_isIn, .static yX6_isIn, .code yX6_isIn cX6_isIn 6 (some .boolean), .methodLink RX6 128 yX6_becomes, .instanceMethod yX6_becomes, .selects RX6 yX6_becomes yX6_becomes, .code yX6_becomes cX6_becomes 4 (some .int)] ++ wsX60)
def wsX6_held : List Cond := .code yX6_held cX6_held 2 (some .int) :: ([.fieldLink RX6 9 "TwoThirdsModel" "s" "[I"] ++ wsX60)
def wsX6_shareOf : List Cond := .code yX6_shareOf cX6_shareOf 4 (some .int) :: ([.methodLink RX6 133 yX6_held, .instanceMethod yX6_held, .selects RX6 yX6_held yX6_held, .initialized RX6, .code yX6_held cX6_held 2 (some .int), .fieldLink RX6 9 "TwoThirdsModel" "s" "[I"] ++ wsX60)
def wsX6_levelBy : List Cond := .code yX6_levelBy cX6_levelBy 6 (some .int) :: ([.fieldLink RX6 9 "TwoThirdsModel" "s" "[I", .methodLink RX6 137 yX6_shareOf, .instanceMethod yX6_shareOf, .selects RX6 yX6_shareOf yX6_shareOf, .initialized RX6, .code yX6_shareOf cX6_shareOf 4 (some .int), .methodLink RX6 133 yX6_held, .instanceMethod yX6_held, .selects RX6 yX6_held yX6_held, .code yX6_held cX6_held 2 (some .int)] ++ wsX60)
def wsX6_mixed : List Cond := .code yX6_mixed cX6_mixed 7 (some .int) :: ([.fieldLink RX6 9 "TwoThirdsModel" "s" "[I", .methodLink RX6 137 yX6_shareOf, .instanceMethod yX6_shareOf, .selects RX6 yX6_shareOf yX6_shareOf, .initialized RX6, .code yX6_shareOf cX6_shareOf 4 (some .int), .methodLink RX6 133 yX6_held, .instanceMethod yX6_held, .selects RX6 yX6_held yX6_held, .code yX6_held cX6_held 2 (some .int)] ++ wsX60)
def wsX6_lastSum : List Cond := .code yX6_lastSum cX6_lastSum 3 (some .int) :: ([.fieldLink RX6 9 "TwoThirdsModel" "s" "[I", .methodLink RX6 122 yX6_get, .instanceMethod yX6_get, .selects RX6 yX6_get yX6_get, .initialized RX6, .code yX6_get cX6_get 3 (some .int)] ++ wsX60)
def wsX6_learnt : List Cond := .code yX6_learnt cX6_learnt 6 (some .int) :: ([.fieldLink RX6 9 "TwoThirdsModel" "s" "[I", .methodLink RX6 141 yX6_levelBy, .instanceMethod yX6_levelBy, .selects RX6 yX6_levelBy yX6_levelBy, .initialized RX6, .code yX6_levelBy cX6_levelBy 6 (some .int), .methodLink RX6 137 yX6_shareOf, .instanceMethod yX6_shareOf, .selects RX6 yX6_shareOf yX6_shareOf, .code yX6_shareOf cX6_shareOf 4 (some .int), .methodLink RX6 133 yX6_held, .instanceMethod yX6_held, .selects RX6 yX6_held yX6_held, .code yX6_held cX6_held 2 (some .int), .methodLink RX6 144 yX6_lastSum, .instanceMethod yX6_lastSum, .selects RX6 yX6_lastSum yX6_lastSum, .code yX6_lastSum cX6_lastSum 3 (some .int), .methodLink RX6 122 yX6_get, .instanceMethod yX6_get, .selects RX6 yX6_get yX6_get, .code yX6_get cX6_get 3 (some .int)] ++ wsX60)
def wsX6_holdsBy_r1 : List Cond := [Cond.fieldLink RX6 9 "TwoThirdsModel" "s" "[I", Cond.methodLink RX6 122 yX6_get, Cond.instanceMethod yX6_get, Cond.selects RX6 yX6_get yX6_get, Cond.initialized RX6, Cond.code yX6_get cX6_get 3 (some .int), Cond.methodLink RX6 141 yX6_levelBy, Cond.instanceMethod yX6_levelBy, Cond.selects RX6 yX6_levelBy yX6_levelBy, Cond.code yX6_levelBy cX6_levelBy 6 (some .int), Cond.methodLink RX6 137 yX6_shareOf, Cond.instanceMethod yX6_shareOf, Cond.selects RX6 yX6_shareOf yX6_shareOf, Cond.code yX6_shareOf cX6_shareOf 4 (some .int), Cond.methodLink RX6 133 yX6_held, Cond.instanceMethod yX6_held, Cond.selects RX6 yX6_held yX6_held, Cond.code yX6_held cX6_held 2 (some .int), Cond.methodLink RX6 147 yX6_mixed, Cond.instanceMethod yX6_mixed, Cond.selects RX6 yX6_mixed yX6_mixed, Cond.code yX6_mixed cX6_mixed 7 (some .int), Cond.methodLink RX6 150 yX6_learnt, Cond.instanceMethod yX6_learnt]
def wsX6_holdsBy_r2 : List Cond := [Cond.selects RX6 yX6_learnt yX6_learnt, Cond.code yX6_learnt cX6_learnt 6 (some .int), Cond.methodLink RX6 144 yX6_lastSum, Cond.instanceMethod yX6_lastSum, Cond.selects RX6 yX6_lastSum yX6_lastSum, Cond.code yX6_lastSum cX6_lastSum 3 (some .int)]
def wsX6_holdsBy : List Cond := .code yX6_holdsBy cX6_holdsBy 5 (some .int) :: ((wsX6_holdsBy_r1 ++ wsX6_holdsBy_r2) ++ wsX60)
def wsX6_isDrawn : List Cond := .code yX6_isDrawn cX6_isDrawn 2 (some .boolean) :: ([.methodLink RX6 122 yX6_get, .instanceMethod yX6_get, .selects RX6 yX6_get yX6_get, .initialized RX6, .code yX6_get cX6_get 3 (some .int), .fieldLink RX6 9 "TwoThirdsModel" "s" "[I"] ++ wsX60)
def wsX6_holds_r1 : List Cond := [Cond.fieldLink RX6 9 "TwoThirdsModel" "s" "[I", Cond.methodLink RX6 117 yX6_isPerson, Cond.instanceMethod yX6_isPerson, Cond.selects RX6 yX6_isPerson yX6_isPerson, Cond.initialized RX6, Cond.code yX6_isPerson cX6_isPerson 2 (some .boolean), Cond.methodLink RX6 56 yX6_isIn, Cond.static yX6_isIn, Cond.code yX6_isIn cX6_isIn 6 (some .boolean), Cond.methodLink RX6 153 yX6_isDrawn, Cond.instanceMethod yX6_isDrawn, Cond.selects RX6 yX6_isDrawn yX6_isDrawn, Cond.code yX6_isDrawn cX6_isDrawn 2 (some .boolean), Cond.methodLink RX6 122 yX6_get, Cond.instanceMethod yX6_get, Cond.selects RX6 yX6_get yX6_get, Cond.code yX6_get cX6_get 3 (some .int), Cond.methodLink RX6 156 yX6_holdsBy, Cond.instanceMethod yX6_holdsBy, Cond.selects RX6 yX6_holdsBy yX6_holdsBy, Cond.code yX6_holdsBy cX6_holdsBy 5 (some .int), Cond.methodLink RX6 141 yX6_levelBy, Cond.instanceMethod yX6_levelBy, Cond.selects RX6 yX6_levelBy yX6_levelBy]
def wsX6_holds_r2 : List Cond := [Cond.code yX6_levelBy cX6_levelBy 6 (some .int), Cond.methodLink RX6 137 yX6_shareOf, Cond.instanceMethod yX6_shareOf, Cond.selects RX6 yX6_shareOf yX6_shareOf, Cond.code yX6_shareOf cX6_shareOf 4 (some .int), Cond.methodLink RX6 133 yX6_held, Cond.instanceMethod yX6_held, Cond.selects RX6 yX6_held yX6_held, Cond.code yX6_held cX6_held 2 (some .int), Cond.methodLink RX6 147 yX6_mixed, Cond.instanceMethod yX6_mixed, Cond.selects RX6 yX6_mixed yX6_mixed, Cond.code yX6_mixed cX6_mixed 7 (some .int), Cond.methodLink RX6 150 yX6_learnt, Cond.instanceMethod yX6_learnt, Cond.selects RX6 yX6_learnt yX6_learnt, Cond.code yX6_learnt cX6_learnt 6 (some .int), Cond.methodLink RX6 144 yX6_lastSum, Cond.instanceMethod yX6_lastSum, Cond.selects RX6 yX6_lastSum yX6_lastSum, Cond.code yX6_lastSum cX6_lastSum 3 (some .int)]
def wsX6_holds : List Cond := .code yX6_holds cX6_holds 2 (some .int) :: ((wsX6_holds_r1 ++ wsX6_holds_r2) ++ wsX60)
def wsX6_draw : List Cond := .code yX6_draw cX6_draw 2 (some .int) :: ([.fieldLink RX6 9 "TwoThirdsModel" "s" "[I", .constant RX6 159 (1103515245), .constant RX6 160 (2147483647), .constant RX6 161 (65536)] ++ wsX60)
def wsX6_cardOf_r1 : List Cond := [Cond.fieldLink RX6 9 "TwoThirdsModel" "s" "[I", Cond.methodLink RX6 156 yX6_holdsBy, Cond.instanceMethod yX6_holdsBy, Cond.selects RX6 yX6_holdsBy yX6_holdsBy, Cond.initialized RX6, Cond.code yX6_holdsBy cX6_holdsBy 5 (some .int), Cond.methodLink RX6 122 yX6_get, Cond.instanceMethod yX6_get, Cond.selects RX6 yX6_get yX6_get, Cond.code yX6_get cX6_get 3 (some .int), Cond.methodLink RX6 141 yX6_levelBy, Cond.instanceMethod yX6_levelBy, Cond.selects RX6 yX6_levelBy yX6_levelBy, Cond.code yX6_levelBy cX6_levelBy 6 (some .int), Cond.methodLink RX6 137 yX6_shareOf, Cond.instanceMethod yX6_shareOf, Cond.selects RX6 yX6_shareOf yX6_shareOf, Cond.code yX6_shareOf cX6_shareOf 4 (some .int), Cond.methodLink RX6 133 yX6_held, Cond.instanceMethod yX6_held, Cond.selects RX6 yX6_held yX6_held, Cond.code yX6_held cX6_held 2 (some .int), Cond.methodLink RX6 147 yX6_mixed, Cond.instanceMethod yX6_mixed]
def wsX6_cardOf_r2 : List Cond := [Cond.selects RX6 yX6_mixed yX6_mixed, Cond.code yX6_mixed cX6_mixed 7 (some .int), Cond.methodLink RX6 150 yX6_learnt, Cond.instanceMethod yX6_learnt, Cond.selects RX6 yX6_learnt yX6_learnt, Cond.code yX6_learnt cX6_learnt 6 (some .int), Cond.methodLink RX6 144 yX6_lastSum, Cond.instanceMethod yX6_lastSum, Cond.selects RX6 yX6_lastSum yX6_lastSum, Cond.code yX6_lastSum cX6_lastSum 3 (some .int), Cond.methodLink RX6 153 yX6_isDrawn, Cond.instanceMethod yX6_isDrawn, Cond.selects RX6 yX6_isDrawn yX6_isDrawn, Cond.code yX6_isDrawn cX6_isDrawn 2 (some .boolean), Cond.methodLink RX6 162 yX6_draw, Cond.instanceMethod yX6_draw, Cond.selects RX6 yX6_draw yX6_draw, Cond.code yX6_draw cX6_draw 2 (some .int), Cond.constant RX6 159 (1103515245), Cond.constant RX6 160 (2147483647), Cond.constant RX6 161 (65536)]
def wsX6_cardOf : List Cond := .code yX6_cardOf cX6_cardOf 4 (some .int) :: ((wsX6_cardOf_r1 ++ wsX6_cardOf_r2) ++ wsX60)
def wsX6_goesRound_r1 : List Cond := [Cond.fieldLink RX6 9 "TwoThirdsModel" "s" "[I", Cond.fieldLink RX6 43 "TwoThirdsModel" "cards" "[I", Cond.methodLink RX6 165 yX6_cardOf, Cond.instanceMethod yX6_cardOf, Cond.selects RX6 yX6_cardOf yX6_cardOf, Cond.initialized RX6, Cond.code yX6_cardOf cX6_cardOf 4 (some .int), Cond.methodLink RX6 156 yX6_holdsBy, Cond.instanceMethod yX6_holdsBy, Cond.selects RX6 yX6_holdsBy yX6_holdsBy, Cond.code yX6_holdsBy cX6_holdsBy 5 (some .int), Cond.methodLink RX6 122 yX6_get, Cond.instanceMethod yX6_get, Cond.selects RX6 yX6_get yX6_get, Cond.code yX6_get cX6_get 3 (some .int), Cond.methodLink RX6 141 yX6_levelBy, Cond.instanceMethod yX6_levelBy, Cond.selects RX6 yX6_levelBy yX6_levelBy, Cond.code yX6_levelBy cX6_levelBy 6 (some .int), Cond.methodLink RX6 137 yX6_shareOf, Cond.instanceMethod yX6_shareOf, Cond.selects RX6 yX6_shareOf yX6_shareOf, Cond.code yX6_shareOf cX6_shareOf 4 (some .int), Cond.methodLink RX6 133 yX6_held]
def wsX6_goesRound_r2 : List Cond := [Cond.instanceMethod yX6_held, Cond.selects RX6 yX6_held yX6_held, Cond.code yX6_held cX6_held 2 (some .int), Cond.methodLink RX6 147 yX6_mixed, Cond.instanceMethod yX6_mixed, Cond.selects RX6 yX6_mixed yX6_mixed, Cond.code yX6_mixed cX6_mixed 7 (some .int), Cond.methodLink RX6 150 yX6_learnt, Cond.instanceMethod yX6_learnt, Cond.selects RX6 yX6_learnt yX6_learnt, Cond.code yX6_learnt cX6_learnt 6 (some .int), Cond.methodLink RX6 144 yX6_lastSum, Cond.instanceMethod yX6_lastSum, Cond.selects RX6 yX6_lastSum yX6_lastSum, Cond.code yX6_lastSum cX6_lastSum 3 (some .int), Cond.methodLink RX6 153 yX6_isDrawn, Cond.instanceMethod yX6_isDrawn, Cond.selects RX6 yX6_isDrawn yX6_isDrawn, Cond.code yX6_isDrawn cX6_isDrawn 2 (some .boolean), Cond.methodLink RX6 162 yX6_draw, Cond.instanceMethod yX6_draw, Cond.selects RX6 yX6_draw yX6_draw, Cond.code yX6_draw cX6_draw 2 (some .int), Cond.constant RX6 159 (1103515245)]
def wsX6_goesRound_r3 : List Cond := [Cond.constant RX6 160 (2147483647), Cond.constant RX6 161 (65536)]
def wsX6_goesRound : List Cond := .code yX6_goesRound cX6_goesRound 2 none :: ((wsX6_goesRound_r1 ++ (wsX6_goesRound_r2 ++ wsX6_goesRound_r3)) ++ wsX60)
def wsX6_round_r1 : List Cond := [Cond.fieldLink RX6 9 "TwoThirdsModel" "s" "[I", Cond.methodLink RX6 168 yX6_goesRound, Cond.instanceMethod yX6_goesRound, Cond.selects RX6 yX6_goesRound yX6_goesRound, Cond.initialized RX6, Cond.code yX6_goesRound cX6_goesRound 2 none, Cond.fieldLink RX6 43 "TwoThirdsModel" "cards" "[I", Cond.methodLink RX6 165 yX6_cardOf, Cond.instanceMethod yX6_cardOf, Cond.selects RX6 yX6_cardOf yX6_cardOf, Cond.code yX6_cardOf cX6_cardOf 4 (some .int), Cond.methodLink RX6 156 yX6_holdsBy, Cond.instanceMethod yX6_holdsBy, Cond.selects RX6 yX6_holdsBy yX6_holdsBy, Cond.code yX6_holdsBy cX6_holdsBy 5 (some .int), Cond.methodLink RX6 122 yX6_get, Cond.instanceMethod yX6_get, Cond.selects RX6 yX6_get yX6_get, Cond.code yX6_get cX6_get 3 (some .int), Cond.methodLink RX6 141 yX6_levelBy, Cond.instanceMethod yX6_levelBy, Cond.selects RX6 yX6_levelBy yX6_levelBy, Cond.code yX6_levelBy cX6_levelBy 6 (some .int), Cond.methodLink RX6 137 yX6_shareOf]
def wsX6_round_r2 : List Cond := [Cond.instanceMethod yX6_shareOf, Cond.selects RX6 yX6_shareOf yX6_shareOf, Cond.code yX6_shareOf cX6_shareOf 4 (some .int), Cond.methodLink RX6 133 yX6_held, Cond.instanceMethod yX6_held, Cond.selects RX6 yX6_held yX6_held, Cond.code yX6_held cX6_held 2 (some .int), Cond.methodLink RX6 147 yX6_mixed, Cond.instanceMethod yX6_mixed, Cond.selects RX6 yX6_mixed yX6_mixed, Cond.code yX6_mixed cX6_mixed 7 (some .int), Cond.methodLink RX6 150 yX6_learnt, Cond.instanceMethod yX6_learnt, Cond.selects RX6 yX6_learnt yX6_learnt, Cond.code yX6_learnt cX6_learnt 6 (some .int), Cond.methodLink RX6 144 yX6_lastSum, Cond.instanceMethod yX6_lastSum, Cond.selects RX6 yX6_lastSum yX6_lastSum, Cond.code yX6_lastSum cX6_lastSum 3 (some .int), Cond.methodLink RX6 153 yX6_isDrawn, Cond.instanceMethod yX6_isDrawn, Cond.selects RX6 yX6_isDrawn yX6_isDrawn, Cond.code yX6_isDrawn cX6_isDrawn 2 (some .boolean), Cond.methodLink RX6 162 yX6_draw]
def wsX6_round_r3 : List Cond := [Cond.instanceMethod yX6_draw, Cond.selects RX6 yX6_draw yX6_draw, Cond.code yX6_draw cX6_draw 2 (some .int), Cond.constant RX6 159 (1103515245), Cond.constant RX6 160 (2147483647), Cond.constant RX6 161 (65536)]
def wsX6_round : List Cond := .code yX6_round cX6_round 1 (some .int) :: ((wsX6_round_r1 ++ (wsX6_round_r2 ++ wsX6_round_r3)) ++ wsX60)
def wsX6_anew : List Cond := .code yX6_anew cX6_anew 2 (some .int) :: ([.fieldLink RX6 9 "TwoThirdsModel" "s" "[I"] ++ wsX60)
def wsX6_takesLast : List Cond := .code yX6_takesLast cX6_takesLast 2 none :: ([.fieldLink RX6 9 "TwoThirdsModel" "s" "[I", .fieldLink RX6 171 "TwoThirdsModel" "hands" "I", .fieldLink RX6 46 "TwoThirdsModel" "hand" "[I", .methodLink RX6 122 yX6_get, .instanceMethod yX6_get, .selects RX6 yX6_get yX6_get, .initialized RX6, .code yX6_get cX6_get 3 (some .int)] ++ wsX60)
def wsX6_sumOf : List Cond := .code yX6_sumOf cX6_sumOf 3 (some .int) :: ([.fieldLink RX6 171 "TwoThirdsModel" "hands" "I", .fieldLink RX6 46 "TwoThirdsModel" "hand" "[I"] ++ wsX60)
def wsX6_amount : List Cond := .code yX6_amount cX6_amount 1 (some .int) :: ([])
def wsX6_farOf : List Cond := .code yX6_farOf cX6_farOf 4 (some .int) :: ([.fieldLink RX6 9 "TwoThirdsModel" "s" "[I"] ++ wsX60)
def wsX6_wins : List Cond := .code yX6_wins cX6_wins 5 (some .boolean) :: ([.fieldLink RX6 171 "TwoThirdsModel" "hands" "I", .fieldLink RX6 9 "TwoThirdsModel" "s" "[I", .methodLink RX6 174 yX6_farOf, .instanceMethod yX6_farOf, .selects RX6 yX6_farOf yX6_farOf, .initialized RX6, .code yX6_farOf cX6_farOf 4 (some .int), .methodLink RX6 177 yX6_amount, .static yX6_amount, .code yX6_amount cX6_amount 1 (some .int)] ++ wsX60)
def wsX6_bestOf : List Cond := .code yX6_bestOf cX6_bestOf 5 (some .int) :: ([.fieldLink RX6 171 "TwoThirdsModel" "hands" "I", .fieldLink RX6 46 "TwoThirdsModel" "hand" "[I", .fieldLink RX6 9 "TwoThirdsModel" "s" "[I", .methodLink RX6 174 yX6_farOf, .instanceMethod yX6_farOf, .selects RX6 yX6_farOf yX6_farOf, .initialized RX6, .code yX6_farOf cX6_farOf 4 (some .int), .methodLink RX6 177 yX6_amount, .static yX6_amount, .code yX6_amount cX6_amount 1 (some .int)] ++ wsX60)
def wsX6_winnersOf : List Cond := .code yX6_winnersOf cX6_winnersOf 6 (some .int) :: ([.fieldLink RX6 171 "TwoThirdsModel" "hands" "I", .fieldLink RX6 46 "TwoThirdsModel" "hand" "[I", .methodLink RX6 180 yX6_sumOf, .instanceMethod yX6_sumOf, .selects RX6 yX6_sumOf yX6_sumOf, .initialized RX6, .code yX6_sumOf cX6_sumOf 3 (some .int), .methodLink RX6 183 yX6_bestOf, .instanceMethod yX6_bestOf, .selects RX6 yX6_bestOf yX6_bestOf, .code yX6_bestOf cX6_bestOf 5 (some .int), .fieldLink RX6 9 "TwoThirdsModel" "s" "[I", .methodLink RX6 174 yX6_farOf, .instanceMethod yX6_farOf, .selects RX6 yX6_farOf yX6_farOf, .code yX6_farOf cX6_farOf 4 (some .int), .methodLink RX6 177 yX6_amount, .static yX6_amount, .code yX6_amount cX6_amount 1 (some .int), .methodLink RX6 186 yX6_wins, .instanceMethod yX6_wins, .selects RX6 yX6_wins yX6_wins, .code yX6_wins cX6_wins 5 (some .boolean)] ++ wsX60)
def wsX6_last_r1 : List Cond := [Cond.constantLong RX6 190 (2), Cond.fieldLink RX6 9 "TwoThirdsModel" "s" "[I", Cond.methodLink RX6 56 yX6_isIn, Cond.static yX6_isIn, Cond.initialized RX6, Cond.code yX6_isIn cX6_isIn 6 (some .boolean), Cond.methodLink RX6 192 yX6_takesLast, Cond.instanceMethod yX6_takesLast, Cond.selects RX6 yX6_takesLast yX6_takesLast, Cond.code yX6_takesLast cX6_takesLast 2 none, Cond.fieldLink RX6 171 "TwoThirdsModel" "hands" "I", Cond.fieldLink RX6 46 "TwoThirdsModel" "hand" "[I", Cond.methodLink RX6 122 yX6_get, Cond.instanceMethod yX6_get, Cond.selects RX6 yX6_get yX6_get, Cond.code yX6_get cX6_get 3 (some .int), Cond.methodLink RX6 180 yX6_sumOf, Cond.instanceMethod yX6_sumOf, Cond.selects RX6 yX6_sumOf yX6_sumOf, Cond.code yX6_sumOf cX6_sumOf 3 (some .int), Cond.methodLink RX6 195 yX6_winnersOf, Cond.instanceMethod yX6_winnersOf, Cond.selects RX6 yX6_winnersOf yX6_winnersOf, Cond.code yX6_winnersOf cX6_winnersOf 6 (some .int)]
def wsX6_last_r2 : List Cond := [Cond.methodLink RX6 183 yX6_bestOf, Cond.instanceMethod yX6_bestOf, Cond.selects RX6 yX6_bestOf yX6_bestOf, Cond.code yX6_bestOf cX6_bestOf 5 (some .int), Cond.methodLink RX6 174 yX6_farOf, Cond.instanceMethod yX6_farOf, Cond.selects RX6 yX6_farOf yX6_farOf, Cond.code yX6_farOf cX6_farOf 4 (some .int), Cond.methodLink RX6 177 yX6_amount, Cond.static yX6_amount, Cond.code yX6_amount cX6_amount 1 (some .int), Cond.methodLink RX6 186 yX6_wins, Cond.instanceMethod yX6_wins, Cond.selects RX6 yX6_wins yX6_wins, Cond.code yX6_wins cX6_wins 5 (some .boolean)]
def wsX6_last : List Cond := .code yX6_last cX6_last 2 (some .int) :: ((wsX6_last_r1 ++ wsX6_last_r2) ++ wsX60)
def wsX6_common : List Cond := .code yX6_common cX6_common 10 (some .long) :: ([])
def wsX6_partOf : List Cond := .code yX6_partOf cX6_partOf 7 (some .long) :: ([.methodLink RX6 198 yX6_common, .static yX6_common, .initialized RX6, .code yX6_common cX6_common 10 (some .long)])
def wsX6_targetOf : List Cond := .code yX6_targetOf cX6_targetOf 2 (some .long) :: ([.fieldLink RX6 9 "TwoThirdsModel" "s" "[I", .fieldLink RX6 171 "TwoThirdsModel" "hands" "I", .methodLink RX6 180 yX6_sumOf, .instanceMethod yX6_sumOf, .selects RX6 yX6_sumOf yX6_sumOf, .initialized RX6, .code yX6_sumOf cX6_sumOf 3 (some .int), .fieldLink RX6 46 "TwoThirdsModel" "hand" "[I", .methodLink RX6 202 yX6_partOf, .static yX6_partOf, .code yX6_partOf cX6_partOf 7 (some .long), .methodLink RX6 198 yX6_common, .static yX6_common, .code yX6_common cX6_common 10 (some .long)] ++ wsX60)
def wsX6_target_r1 : List Cond := [Cond.fieldLink RX6 9 "TwoThirdsModel" "s" "[I", Cond.methodLink RX6 56 yX6_isIn, Cond.static yX6_isIn, Cond.initialized RX6, Cond.code yX6_isIn cX6_isIn 6 (some .boolean), Cond.methodLink RX6 192 yX6_takesLast, Cond.instanceMethod yX6_takesLast, Cond.selects RX6 yX6_takesLast yX6_takesLast, Cond.code yX6_takesLast cX6_takesLast 2 none, Cond.fieldLink RX6 171 "TwoThirdsModel" "hands" "I", Cond.fieldLink RX6 46 "TwoThirdsModel" "hand" "[I", Cond.methodLink RX6 122 yX6_get, Cond.instanceMethod yX6_get, Cond.selects RX6 yX6_get yX6_get, Cond.code yX6_get cX6_get 3 (some .int), Cond.methodLink RX6 206 yX6_targetOf, Cond.instanceMethod yX6_targetOf, Cond.selects RX6 yX6_targetOf yX6_targetOf, Cond.code yX6_targetOf cX6_targetOf 2 (some .long), Cond.methodLink RX6 180 yX6_sumOf, Cond.instanceMethod yX6_sumOf, Cond.selects RX6 yX6_sumOf yX6_sumOf, Cond.code yX6_sumOf cX6_sumOf 3 (some .int), Cond.methodLink RX6 202 yX6_partOf]
def wsX6_target_r2 : List Cond := [Cond.static yX6_partOf, Cond.code yX6_partOf cX6_partOf 7 (some .long), Cond.methodLink RX6 198 yX6_common, Cond.static yX6_common, Cond.code yX6_common cX6_common 10 (some .long)]
def wsX6_target : List Cond := .code yX6_target cX6_target 2 (some .int) :: ((wsX6_target_r1 ++ wsX6_target_r2) ++ wsX60)
def wsX6_wins__r1 : List Cond := [Cond.constantLong RX6 102 (20), Cond.fieldLink RX6 19 "TwoThirdsModel" "saved" "[I", Cond.fieldLink RX6 9 "TwoThirdsModel" "s" "[I", Cond.fieldLink RX6 46 "TwoThirdsModel" "hand" "[I", Cond.methodLink RX6 117 yX6_isPerson, Cond.instanceMethod yX6_isPerson, Cond.selects RX6 yX6_isPerson yX6_isPerson, Cond.initialized RX6, Cond.code yX6_isPerson cX6_isPerson 2 (some .boolean), Cond.methodLink RX6 56 yX6_isIn, Cond.static yX6_isIn, Cond.code yX6_isIn cX6_isIn 6 (some .boolean), Cond.methodLink RX6 168 yX6_goesRound, Cond.instanceMethod yX6_goesRound, Cond.selects RX6 yX6_goesRound yX6_goesRound, Cond.code yX6_goesRound cX6_goesRound 2 none, Cond.fieldLink RX6 43 "TwoThirdsModel" "cards" "[I", Cond.methodLink RX6 165 yX6_cardOf, Cond.instanceMethod yX6_cardOf, Cond.selects RX6 yX6_cardOf yX6_cardOf, Cond.code yX6_cardOf cX6_cardOf 4 (some .int), Cond.methodLink RX6 156 yX6_holdsBy, Cond.instanceMethod yX6_holdsBy, Cond.selects RX6 yX6_holdsBy yX6_holdsBy]
def wsX6_wins__r2 : List Cond := [Cond.code yX6_holdsBy cX6_holdsBy 5 (some .int), Cond.methodLink RX6 122 yX6_get, Cond.instanceMethod yX6_get, Cond.selects RX6 yX6_get yX6_get, Cond.code yX6_get cX6_get 3 (some .int), Cond.methodLink RX6 141 yX6_levelBy, Cond.instanceMethod yX6_levelBy, Cond.selects RX6 yX6_levelBy yX6_levelBy, Cond.code yX6_levelBy cX6_levelBy 6 (some .int), Cond.methodLink RX6 137 yX6_shareOf, Cond.instanceMethod yX6_shareOf, Cond.selects RX6 yX6_shareOf yX6_shareOf, Cond.code yX6_shareOf cX6_shareOf 4 (some .int), Cond.methodLink RX6 133 yX6_held, Cond.instanceMethod yX6_held, Cond.selects RX6 yX6_held yX6_held, Cond.code yX6_held cX6_held 2 (some .int), Cond.methodLink RX6 147 yX6_mixed, Cond.instanceMethod yX6_mixed, Cond.selects RX6 yX6_mixed yX6_mixed, Cond.code yX6_mixed cX6_mixed 7 (some .int), Cond.methodLink RX6 150 yX6_learnt, Cond.instanceMethod yX6_learnt, Cond.selects RX6 yX6_learnt yX6_learnt]
def wsX6_wins__r3 : List Cond := [Cond.code yX6_learnt cX6_learnt 6 (some .int), Cond.methodLink RX6 144 yX6_lastSum, Cond.instanceMethod yX6_lastSum, Cond.selects RX6 yX6_lastSum yX6_lastSum, Cond.code yX6_lastSum cX6_lastSum 3 (some .int), Cond.methodLink RX6 153 yX6_isDrawn, Cond.instanceMethod yX6_isDrawn, Cond.selects RX6 yX6_isDrawn yX6_isDrawn, Cond.code yX6_isDrawn cX6_isDrawn 2 (some .boolean), Cond.methodLink RX6 162 yX6_draw, Cond.instanceMethod yX6_draw, Cond.selects RX6 yX6_draw yX6_draw, Cond.code yX6_draw cX6_draw 2 (some .int), Cond.constant RX6 159 (1103515245), Cond.constant RX6 160 (2147483647), Cond.constant RX6 161 (65536), Cond.methodLink RX6 192 yX6_takesLast, Cond.instanceMethod yX6_takesLast, Cond.selects RX6 yX6_takesLast yX6_takesLast, Cond.code yX6_takesLast cX6_takesLast 2 none, Cond.fieldLink RX6 171 "TwoThirdsModel" "hands" "I", Cond.methodLink RX6 180 yX6_sumOf, Cond.instanceMethod yX6_sumOf, Cond.selects RX6 yX6_sumOf yX6_sumOf]
def wsX6_wins__r4 : List Cond := [Cond.code yX6_sumOf cX6_sumOf 3 (some .int), Cond.methodLink RX6 183 yX6_bestOf, Cond.instanceMethod yX6_bestOf, Cond.selects RX6 yX6_bestOf yX6_bestOf, Cond.code yX6_bestOf cX6_bestOf 5 (some .int), Cond.methodLink RX6 174 yX6_farOf, Cond.instanceMethod yX6_farOf, Cond.selects RX6 yX6_farOf yX6_farOf, Cond.code yX6_farOf cX6_farOf 4 (some .int), Cond.methodLink RX6 177 yX6_amount, Cond.static yX6_amount, Cond.code yX6_amount cX6_amount 1 (some .int), Cond.methodLink RX6 186 yX6_wins, Cond.instanceMethod yX6_wins, Cond.selects RX6 yX6_wins yX6_wins, Cond.code yX6_wins cX6_wins 5 (some .boolean)]
def wsX6_wins_ : List Cond := .code yX6_wins_ cX6_wins_ 6 (some .int) :: ((wsX6_wins__r1 ++ (wsX6_wins__r2 ++ (wsX6_wins__r3 ++ wsX6_wins__r4))) ++ wsX60)
def wsX6_takesRow : List Cond := .code yX6_takesRow cX6_takesRow 4 (some .int) :: ([.fieldLink RX6 28 "TwoThirdsModel" "size" "[I", .fieldLink RX6 46 "TwoThirdsModel" "hand" "[I", .fieldLink RX6 31 "TwoThirdsModel" "element" "[I", .fieldLink RX6 9 "TwoThirdsModel" "s" "[I", .fieldLink RX6 171 "TwoThirdsModel" "hands" "I", .methodLink RX6 107 yX6_wrongRow, .instanceMethod yX6_wrongRow, .selects RX6 yX6_wrongRow yX6_wrongRow, .initialized RX6, .code yX6_wrongRow cX6_wrongRow 3 (some .int), .fieldLink RX6 22 "TwoThirdsModel" "kept" "[I", .fieldLink RX6 25 "TwoThirdsModel" "sort" "[I", .methodLink RX6 104 yX6_isShelf, .static yX6_isShelf, .code yX6_isShelf cX6_isShelf 1 (some .boolean), .constantLong RX6 60 (7), .methodLink RX6 56 yX6_isIn, .static yX6_isIn, .code yX6_isIn cX6_isIn 6 (some .boolean)] ++ wsX60)
def wsX6_mean_r1 : List Cond := [Cond.fieldLink RX6 171 "TwoThirdsModel" "hands" "I", Cond.methodLink RX6 104 yX6_isShelf, Cond.static yX6_isShelf, Cond.initialized RX6, Cond.code yX6_isShelf cX6_isShelf 1 (some .boolean), Cond.constantLong RX6 60 (7), Cond.methodLink RX6 56 yX6_isIn, Cond.static yX6_isIn, Cond.code yX6_isIn cX6_isIn 6 (some .boolean), Cond.methodLink RX6 210 yX6_takesRow, Cond.instanceMethod yX6_takesRow, Cond.selects RX6 yX6_takesRow yX6_takesRow, Cond.code yX6_takesRow cX6_takesRow 4 (some .int), Cond.fieldLink RX6 28 "TwoThirdsModel" "size" "[I", Cond.fieldLink RX6 46 "TwoThirdsModel" "hand" "[I", Cond.fieldLink RX6 31 "TwoThirdsModel" "element" "[I", Cond.fieldLink RX6 9 "TwoThirdsModel" "s" "[I", Cond.methodLink RX6 107 yX6_wrongRow, Cond.instanceMethod yX6_wrongRow, Cond.selects RX6 yX6_wrongRow yX6_wrongRow, Cond.code yX6_wrongRow cX6_wrongRow 3 (some .int), Cond.fieldLink RX6 22 "TwoThirdsModel" "kept" "[I", Cond.fieldLink RX6 25 "TwoThirdsModel" "sort" "[I", Cond.methodLink RX6 180 yX6_sumOf]
def wsX6_mean_r2 : List Cond := [Cond.instanceMethod yX6_sumOf, Cond.selects RX6 yX6_sumOf yX6_sumOf, Cond.code yX6_sumOf cX6_sumOf 3 (some .int), Cond.methodLink RX6 202 yX6_partOf, Cond.static yX6_partOf, Cond.code yX6_partOf cX6_partOf 7 (some .long), Cond.methodLink RX6 198 yX6_common, Cond.static yX6_common, Cond.code yX6_common cX6_common 10 (some .long), Cond.methodLink RX6 206 yX6_targetOf, Cond.instanceMethod yX6_targetOf, Cond.selects RX6 yX6_targetOf yX6_targetOf, Cond.code yX6_targetOf cX6_targetOf 2 (some .long)]
def wsX6_mean : List Cond := .code yX6_mean cX6_mean 5 (some .int) :: ((wsX6_mean_r1 ++ wsX6_mean_r2) ++ wsX60)
def wsX6_winners_r1 : List Cond := [Cond.methodLink RX6 104 yX6_isShelf, Cond.static yX6_isShelf, Cond.initialized RX6, Cond.code yX6_isShelf cX6_isShelf 1 (some .boolean), Cond.constantLong RX6 60 (7), Cond.methodLink RX6 56 yX6_isIn, Cond.static yX6_isIn, Cond.code yX6_isIn cX6_isIn 6 (some .boolean), Cond.methodLink RX6 210 yX6_takesRow, Cond.instanceMethod yX6_takesRow, Cond.selects RX6 yX6_takesRow yX6_takesRow, Cond.code yX6_takesRow cX6_takesRow 4 (some .int), Cond.fieldLink RX6 28 "TwoThirdsModel" "size" "[I", Cond.fieldLink RX6 46 "TwoThirdsModel" "hand" "[I", Cond.fieldLink RX6 31 "TwoThirdsModel" "element" "[I", Cond.fieldLink RX6 9 "TwoThirdsModel" "s" "[I", Cond.fieldLink RX6 171 "TwoThirdsModel" "hands" "I", Cond.methodLink RX6 107 yX6_wrongRow, Cond.instanceMethod yX6_wrongRow, Cond.selects RX6 yX6_wrongRow yX6_wrongRow, Cond.code yX6_wrongRow cX6_wrongRow 3 (some .int), Cond.fieldLink RX6 22 "TwoThirdsModel" "kept" "[I", Cond.fieldLink RX6 25 "TwoThirdsModel" "sort" "[I", Cond.methodLink RX6 195 yX6_winnersOf]
def wsX6_winners_r2 : List Cond := [Cond.instanceMethod yX6_winnersOf, Cond.selects RX6 yX6_winnersOf yX6_winnersOf, Cond.code yX6_winnersOf cX6_winnersOf 6 (some .int), Cond.methodLink RX6 180 yX6_sumOf, Cond.instanceMethod yX6_sumOf, Cond.selects RX6 yX6_sumOf yX6_sumOf, Cond.code yX6_sumOf cX6_sumOf 3 (some .int), Cond.methodLink RX6 183 yX6_bestOf, Cond.instanceMethod yX6_bestOf, Cond.selects RX6 yX6_bestOf yX6_bestOf, Cond.code yX6_bestOf cX6_bestOf 5 (some .int), Cond.methodLink RX6 174 yX6_farOf, Cond.instanceMethod yX6_farOf, Cond.selects RX6 yX6_farOf yX6_farOf, Cond.code yX6_farOf cX6_farOf 4 (some .int), Cond.methodLink RX6 177 yX6_amount, Cond.static yX6_amount, Cond.code yX6_amount cX6_amount 1 (some .int), Cond.methodLink RX6 186 yX6_wins, Cond.instanceMethod yX6_wins, Cond.selects RX6 yX6_wins yX6_wins, Cond.code yX6_wins cX6_wins 5 (some .boolean)]
def wsX6_winners : List Cond := .code yX6_winners cX6_winners 4 (some .int) :: ((wsX6_winners_r1 ++ wsX6_winners_r2) ++ wsX60)
def wsX6_best_r1 : List Cond := [Cond.fieldLink RX6 9 "TwoThirdsModel" "s" "[I", Cond.fieldLink RX6 171 "TwoThirdsModel" "hands" "I", Cond.methodLink RX6 210 yX6_takesRow, Cond.instanceMethod yX6_takesRow, Cond.selects RX6 yX6_takesRow yX6_takesRow, Cond.initialized RX6, Cond.code yX6_takesRow cX6_takesRow 4 (some .int), Cond.fieldLink RX6 28 "TwoThirdsModel" "size" "[I", Cond.fieldLink RX6 46 "TwoThirdsModel" "hand" "[I", Cond.fieldLink RX6 31 "TwoThirdsModel" "element" "[I", Cond.methodLink RX6 107 yX6_wrongRow, Cond.instanceMethod yX6_wrongRow, Cond.selects RX6 yX6_wrongRow yX6_wrongRow, Cond.code yX6_wrongRow cX6_wrongRow 3 (some .int), Cond.fieldLink RX6 22 "TwoThirdsModel" "kept" "[I", Cond.fieldLink RX6 25 "TwoThirdsModel" "sort" "[I", Cond.methodLink RX6 104 yX6_isShelf, Cond.static yX6_isShelf, Cond.code yX6_isShelf cX6_isShelf 1 (some .boolean), Cond.constantLong RX6 60 (7), Cond.methodLink RX6 56 yX6_isIn, Cond.static yX6_isIn, Cond.code yX6_isIn cX6_isIn 6 (some .boolean), Cond.methodLink RX6 180 yX6_sumOf]
def wsX6_best_r2 : List Cond := [Cond.instanceMethod yX6_sumOf, Cond.selects RX6 yX6_sumOf yX6_sumOf, Cond.code yX6_sumOf cX6_sumOf 3 (some .int), Cond.methodLink RX6 174 yX6_farOf, Cond.instanceMethod yX6_farOf, Cond.selects RX6 yX6_farOf yX6_farOf, Cond.code yX6_farOf cX6_farOf 4 (some .int), Cond.methodLink RX6 177 yX6_amount, Cond.static yX6_amount, Cond.code yX6_amount cX6_amount 1 (some .int)]
def wsX6_best : List Cond := .code yX6_best cX6_best 8 (some .int) :: ((wsX6_best_r1 ++ wsX6_best_r2) ++ wsX60)
def wsX6_levelOf : List Cond := .code yX6_levelOf cX6_levelOf 2 (some .int) :: ([.fieldLink RX6 9 "TwoThirdsModel" "s" "[I", .methodLink RX6 141 yX6_levelBy, .instanceMethod yX6_levelBy, .selects RX6 yX6_levelBy yX6_levelBy, .initialized RX6, .code yX6_levelBy cX6_levelBy 6 (some .int), .methodLink RX6 137 yX6_shareOf, .instanceMethod yX6_shareOf, .selects RX6 yX6_shareOf yX6_shareOf, .code yX6_shareOf cX6_shareOf 4 (some .int), .methodLink RX6 133 yX6_held, .instanceMethod yX6_held, .selects RX6 yX6_held yX6_held, .code yX6_held cX6_held 2 (some .int)] ++ wsX60)
def wsX6_level : List Cond := .code yX6_level cX6_level 2 (some .int) :: ([.constantLong RX6 131 (9), .methodLink RX6 56 yX6_isIn, .static yX6_isIn, .initialized RX6, .code yX6_isIn cX6_isIn 6 (some .boolean), .methodLink RX6 213 yX6_levelOf, .instanceMethod yX6_levelOf, .selects RX6 yX6_levelOf yX6_levelOf, .code yX6_levelOf cX6_levelOf 2 (some .int), .fieldLink RX6 9 "TwoThirdsModel" "s" "[I", .methodLink RX6 141 yX6_levelBy, .instanceMethod yX6_levelBy, .selects RX6 yX6_levelBy yX6_levelBy, .code yX6_levelBy cX6_levelBy 6 (some .int), .methodLink RX6 137 yX6_shareOf, .instanceMethod yX6_shareOf, .selects RX6 yX6_shareOf yX6_shareOf, .code yX6_shareOf cX6_shareOf 4 (some .int), .methodLink RX6 133 yX6_held, .instanceMethod yX6_held, .selects RX6 yX6_held yX6_held, .code yX6_held cX6_held 2 (some .int)] ++ wsX60)
def wsX6_stepsFor : List Cond := .code yX6_stepsFor cX6_stepsFor 4 (some .int) :: ([.methodLink RX6 213 yX6_levelOf, .instanceMethod yX6_levelOf, .selects RX6 yX6_levelOf yX6_levelOf, .initialized RX6, .code yX6_levelOf cX6_levelOf 2 (some .int), .fieldLink RX6 9 "TwoThirdsModel" "s" "[I", .methodLink RX6 141 yX6_levelBy, .instanceMethod yX6_levelBy, .selects RX6 yX6_levelBy yX6_levelBy, .code yX6_levelBy cX6_levelBy 6 (some .int), .methodLink RX6 137 yX6_shareOf, .instanceMethod yX6_shareOf, .selects RX6 yX6_shareOf yX6_shareOf, .code yX6_shareOf cX6_shareOf 4 (some .int), .methodLink RX6 133 yX6_held, .instanceMethod yX6_held, .selects RX6 yX6_held yX6_held, .code yX6_held cX6_held 2 (some .int), .methodLink RX6 177 yX6_amount, .static yX6_amount, .code yX6_amount cX6_amount 1 (some .int)] ++ wsX60)
def wsX6_stepsOf_r1 : List Cond := [Cond.fieldLink RX6 9 "TwoThirdsModel" "s" "[I", Cond.methodLink RX6 56 yX6_isIn, Cond.static yX6_isIn, Cond.initialized RX6, Cond.code yX6_isIn cX6_isIn 6 (some .boolean), Cond.methodLink RX6 216 yX6_stepsFor, Cond.instanceMethod yX6_stepsFor, Cond.selects RX6 yX6_stepsFor yX6_stepsFor, Cond.code yX6_stepsFor cX6_stepsFor 4 (some .int), Cond.methodLink RX6 213 yX6_levelOf, Cond.instanceMethod yX6_levelOf, Cond.selects RX6 yX6_levelOf yX6_levelOf, Cond.code yX6_levelOf cX6_levelOf 2 (some .int), Cond.methodLink RX6 141 yX6_levelBy, Cond.instanceMethod yX6_levelBy, Cond.selects RX6 yX6_levelBy yX6_levelBy, Cond.code yX6_levelBy cX6_levelBy 6 (some .int), Cond.methodLink RX6 137 yX6_shareOf, Cond.instanceMethod yX6_shareOf, Cond.selects RX6 yX6_shareOf yX6_shareOf, Cond.code yX6_shareOf cX6_shareOf 4 (some .int), Cond.methodLink RX6 133 yX6_held, Cond.instanceMethod yX6_held, Cond.selects RX6 yX6_held yX6_held]
def wsX6_stepsOf_r2 : List Cond := [Cond.code yX6_held cX6_held 2 (some .int), Cond.methodLink RX6 177 yX6_amount, Cond.static yX6_amount, Cond.code yX6_amount cX6_amount 1 (some .int)]
def wsX6_stepsOf : List Cond := .code yX6_stepsOf cX6_stepsOf 2 (some .int) :: ((wsX6_stepsOf_r1 ++ wsX6_stepsOf_r2) ++ wsX60)
def wsX6_sharesOf_r1 : List Cond := [Cond.fieldLink RX6 171 "TwoThirdsModel" "hands" "I", Cond.fieldLink RX6 46 "TwoThirdsModel" "hand" "[I", Cond.methodLink RX6 216 yX6_stepsFor, Cond.instanceMethod yX6_stepsFor, Cond.selects RX6 yX6_stepsFor yX6_stepsFor, Cond.initialized RX6, Cond.code yX6_stepsFor cX6_stepsFor 4 (some .int), Cond.methodLink RX6 213 yX6_levelOf, Cond.instanceMethod yX6_levelOf, Cond.selects RX6 yX6_levelOf yX6_levelOf, Cond.code yX6_levelOf cX6_levelOf 2 (some .int), Cond.fieldLink RX6 9 "TwoThirdsModel" "s" "[I", Cond.methodLink RX6 141 yX6_levelBy, Cond.instanceMethod yX6_levelBy, Cond.selects RX6 yX6_levelBy yX6_levelBy, Cond.code yX6_levelBy cX6_levelBy 6 (some .int), Cond.methodLink RX6 137 yX6_shareOf, Cond.instanceMethod yX6_shareOf, Cond.selects RX6 yX6_shareOf yX6_shareOf, Cond.code yX6_shareOf cX6_shareOf 4 (some .int), Cond.methodLink RX6 133 yX6_held, Cond.instanceMethod yX6_held, Cond.selects RX6 yX6_held yX6_held, Cond.code yX6_held cX6_held 2 (some .int)]
def wsX6_sharesOf_r2 : List Cond := [Cond.methodLink RX6 177 yX6_amount, Cond.static yX6_amount, Cond.code yX6_amount cX6_amount 1 (some .int)]
def wsX6_sharesOf : List Cond := .code yX6_sharesOf cX6_sharesOf 4 (some .int) :: ((wsX6_sharesOf_r1 ++ wsX6_sharesOf_r2) ++ wsX60)
def wsX6_shares_r1 : List Cond := [Cond.constantLong RX6 131 (9), Cond.methodLink RX6 104 yX6_isShelf, Cond.static yX6_isShelf, Cond.initialized RX6, Cond.code yX6_isShelf cX6_isShelf 1 (some .boolean), Cond.constantLong RX6 60 (7), Cond.methodLink RX6 56 yX6_isIn, Cond.static yX6_isIn, Cond.code yX6_isIn cX6_isIn 6 (some .boolean), Cond.methodLink RX6 210 yX6_takesRow, Cond.instanceMethod yX6_takesRow, Cond.selects RX6 yX6_takesRow yX6_takesRow, Cond.code yX6_takesRow cX6_takesRow 4 (some .int), Cond.fieldLink RX6 28 "TwoThirdsModel" "size" "[I", Cond.fieldLink RX6 46 "TwoThirdsModel" "hand" "[I", Cond.fieldLink RX6 31 "TwoThirdsModel" "element" "[I", Cond.fieldLink RX6 9 "TwoThirdsModel" "s" "[I", Cond.fieldLink RX6 171 "TwoThirdsModel" "hands" "I", Cond.methodLink RX6 107 yX6_wrongRow, Cond.instanceMethod yX6_wrongRow, Cond.selects RX6 yX6_wrongRow yX6_wrongRow, Cond.code yX6_wrongRow cX6_wrongRow 3 (some .int), Cond.fieldLink RX6 22 "TwoThirdsModel" "kept" "[I", Cond.fieldLink RX6 25 "TwoThirdsModel" "sort" "[I"]
def wsX6_shares_r2 : List Cond := [Cond.methodLink RX6 219 yX6_sharesOf, Cond.instanceMethod yX6_sharesOf, Cond.selects RX6 yX6_sharesOf yX6_sharesOf, Cond.code yX6_sharesOf cX6_sharesOf 4 (some .int), Cond.methodLink RX6 216 yX6_stepsFor, Cond.instanceMethod yX6_stepsFor, Cond.selects RX6 yX6_stepsFor yX6_stepsFor, Cond.code yX6_stepsFor cX6_stepsFor 4 (some .int), Cond.methodLink RX6 213 yX6_levelOf, Cond.instanceMethod yX6_levelOf, Cond.selects RX6 yX6_levelOf yX6_levelOf, Cond.code yX6_levelOf cX6_levelOf 2 (some .int), Cond.methodLink RX6 141 yX6_levelBy, Cond.instanceMethod yX6_levelBy, Cond.selects RX6 yX6_levelBy yX6_levelBy, Cond.code yX6_levelBy cX6_levelBy 6 (some .int), Cond.methodLink RX6 137 yX6_shareOf, Cond.instanceMethod yX6_shareOf, Cond.selects RX6 yX6_shareOf yX6_shareOf, Cond.code yX6_shareOf cX6_shareOf 4 (some .int), Cond.methodLink RX6 133 yX6_held, Cond.instanceMethod yX6_held, Cond.selects RX6 yX6_held yX6_held, Cond.code yX6_held cX6_held 2 (some .int)]
def wsX6_shares_r3 : List Cond := [Cond.methodLink RX6 177 yX6_amount, Cond.static yX6_amount, Cond.code yX6_amount cX6_amount 1 (some .int)]
def wsX6_shares : List Cond := .code yX6_shares cX6_shares 4 (some .int) :: ((wsX6_shares_r1 ++ (wsX6_shares_r2 ++ wsX6_shares_r3)) ++ wsX60)
def wsX6_words_r1 : List Cond := [Cond.fieldLink RX6 22 "TwoThirdsModel" "kept" "[I", Cond.fieldLink RX6 25 "TwoThirdsModel" "sort" "[I", Cond.fieldLink RX6 28 "TwoThirdsModel" "size" "[I", Cond.fieldLink RX6 171 "TwoThirdsModel" "hands" "I", Cond.fieldLink RX6 31 "TwoThirdsModel" "element" "[I", Cond.fieldLink RX6 46 "TwoThirdsModel" "hand" "[I", Cond.methodLink RX6 104 yX6_isShelf, Cond.static yX6_isShelf, Cond.initialized RX6, Cond.code yX6_isShelf cX6_isShelf 1 (some .boolean), Cond.constantLong RX6 60 (7), Cond.methodLink RX6 56 yX6_isIn, Cond.static yX6_isIn, Cond.code yX6_isIn cX6_isIn 6 (some .boolean), Cond.methodLink RX6 210 yX6_takesRow, Cond.instanceMethod yX6_takesRow, Cond.selects RX6 yX6_takesRow yX6_takesRow, Cond.code yX6_takesRow cX6_takesRow 4 (some .int), Cond.fieldLink RX6 9 "TwoThirdsModel" "s" "[I", Cond.methodLink RX6 107 yX6_wrongRow, Cond.instanceMethod yX6_wrongRow, Cond.selects RX6 yX6_wrongRow yX6_wrongRow, Cond.code yX6_wrongRow cX6_wrongRow 3 (some .int), Cond.methodLink RX6 216 yX6_stepsFor]
def wsX6_words_r2 : List Cond := [Cond.instanceMethod yX6_stepsFor, Cond.selects RX6 yX6_stepsFor yX6_stepsFor, Cond.code yX6_stepsFor cX6_stepsFor 4 (some .int), Cond.methodLink RX6 213 yX6_levelOf, Cond.instanceMethod yX6_levelOf, Cond.selects RX6 yX6_levelOf yX6_levelOf, Cond.code yX6_levelOf cX6_levelOf 2 (some .int), Cond.methodLink RX6 141 yX6_levelBy, Cond.instanceMethod yX6_levelBy, Cond.selects RX6 yX6_levelBy yX6_levelBy, Cond.code yX6_levelBy cX6_levelBy 6 (some .int), Cond.methodLink RX6 137 yX6_shareOf, Cond.instanceMethod yX6_shareOf, Cond.selects RX6 yX6_shareOf yX6_shareOf, Cond.code yX6_shareOf cX6_shareOf 4 (some .int), Cond.methodLink RX6 133 yX6_held, Cond.instanceMethod yX6_held, Cond.selects RX6 yX6_held yX6_held, Cond.code yX6_held cX6_held 2 (some .int), Cond.methodLink RX6 177 yX6_amount, Cond.static yX6_amount, Cond.code yX6_amount cX6_amount 1 (some .int)]
def wsX6_words : List Cond := .code yX6_words cX6_words 8 (some .int) :: ((wsX6_words_r1 ++ wsX6_words_r2) ++ wsX60)
def wsX6_ahead_r1 : List Cond := [Cond.fieldLink RX6 171 "TwoThirdsModel" "hands" "I", Cond.fieldLink RX6 46 "TwoThirdsModel" "hand" "[I", Cond.methodLink RX6 104 yX6_isShelf, Cond.static yX6_isShelf, Cond.initialized RX6, Cond.code yX6_isShelf cX6_isShelf 1 (some .boolean), Cond.constantLong RX6 60 (7), Cond.methodLink RX6 56 yX6_isIn, Cond.static yX6_isIn, Cond.code yX6_isIn cX6_isIn 6 (some .boolean), Cond.methodLink RX6 96 yX6_isShare, Cond.static yX6_isShare, Cond.code yX6_isShare cX6_isShare 2 (some .boolean), Cond.constantLong RX6 102 (20), Cond.methodLink RX6 210 yX6_takesRow, Cond.instanceMethod yX6_takesRow, Cond.selects RX6 yX6_takesRow yX6_takesRow, Cond.code yX6_takesRow cX6_takesRow 4 (some .int), Cond.fieldLink RX6 28 "TwoThirdsModel" "size" "[I", Cond.fieldLink RX6 31 "TwoThirdsModel" "element" "[I", Cond.fieldLink RX6 9 "TwoThirdsModel" "s" "[I", Cond.methodLink RX6 107 yX6_wrongRow, Cond.instanceMethod yX6_wrongRow, Cond.selects RX6 yX6_wrongRow yX6_wrongRow]
def wsX6_ahead_r2 : List Cond := [Cond.code yX6_wrongRow cX6_wrongRow 3 (some .int), Cond.fieldLink RX6 22 "TwoThirdsModel" "kept" "[I", Cond.fieldLink RX6 25 "TwoThirdsModel" "sort" "[I", Cond.methodLink RX6 216 yX6_stepsFor, Cond.instanceMethod yX6_stepsFor, Cond.selects RX6 yX6_stepsFor yX6_stepsFor, Cond.code yX6_stepsFor cX6_stepsFor 4 (some .int), Cond.methodLink RX6 213 yX6_levelOf, Cond.instanceMethod yX6_levelOf, Cond.selects RX6 yX6_levelOf yX6_levelOf, Cond.code yX6_levelOf cX6_levelOf 2 (some .int), Cond.methodLink RX6 141 yX6_levelBy, Cond.instanceMethod yX6_levelBy, Cond.selects RX6 yX6_levelBy yX6_levelBy, Cond.code yX6_levelBy cX6_levelBy 6 (some .int), Cond.methodLink RX6 137 yX6_shareOf, Cond.instanceMethod yX6_shareOf, Cond.selects RX6 yX6_shareOf yX6_shareOf, Cond.code yX6_shareOf cX6_shareOf 4 (some .int), Cond.methodLink RX6 133 yX6_held, Cond.instanceMethod yX6_held, Cond.selects RX6 yX6_held yX6_held, Cond.code yX6_held cX6_held 2 (some .int), Cond.methodLink RX6 177 yX6_amount]
def wsX6_ahead_r3 : List Cond := [Cond.static yX6_amount, Cond.code yX6_amount cX6_amount 1 (some .int)]
def wsX6_ahead : List Cond := .code yX6_ahead cX6_ahead 7 (some .int) :: ((wsX6_ahead_r1 ++ (wsX6_ahead_r2 ++ wsX6_ahead_r3)) ++ wsX60)
def wsX6_worth_r1 : List Cond := [Cond.constantLong RX6 222 (8), Cond.constantLong RX6 224 (-4000000000000000001), Cond.constantLong RX6 226 (-4000000000000000000), Cond.methodLink RX6 104 yX6_isShelf, Cond.static yX6_isShelf, Cond.initialized RX6, Cond.code yX6_isShelf cX6_isShelf 1 (some .boolean), Cond.constantLong RX6 60 (7), Cond.methodLink RX6 56 yX6_isIn, Cond.static yX6_isIn, Cond.code yX6_isIn cX6_isIn 6 (some .boolean), Cond.methodLink RX6 210 yX6_takesRow, Cond.instanceMethod yX6_takesRow, Cond.selects RX6 yX6_takesRow yX6_takesRow, Cond.code yX6_takesRow cX6_takesRow 4 (some .int), Cond.fieldLink RX6 28 "TwoThirdsModel" "size" "[I", Cond.fieldLink RX6 46 "TwoThirdsModel" "hand" "[I", Cond.fieldLink RX6 31 "TwoThirdsModel" "element" "[I", Cond.fieldLink RX6 9 "TwoThirdsModel" "s" "[I", Cond.fieldLink RX6 171 "TwoThirdsModel" "hands" "I", Cond.methodLink RX6 107 yX6_wrongRow, Cond.instanceMethod yX6_wrongRow, Cond.selects RX6 yX6_wrongRow yX6_wrongRow, Cond.code yX6_wrongRow cX6_wrongRow 3 (some .int)]
def wsX6_worth_r2 : List Cond := [Cond.fieldLink RX6 22 "TwoThirdsModel" "kept" "[I", Cond.fieldLink RX6 25 "TwoThirdsModel" "sort" "[I", Cond.methodLink RX6 206 yX6_targetOf, Cond.instanceMethod yX6_targetOf, Cond.selects RX6 yX6_targetOf yX6_targetOf, Cond.code yX6_targetOf cX6_targetOf 2 (some .long), Cond.methodLink RX6 180 yX6_sumOf, Cond.instanceMethod yX6_sumOf, Cond.selects RX6 yX6_sumOf yX6_sumOf, Cond.code yX6_sumOf cX6_sumOf 3 (some .int), Cond.methodLink RX6 202 yX6_partOf, Cond.static yX6_partOf, Cond.code yX6_partOf cX6_partOf 7 (some .long), Cond.methodLink RX6 198 yX6_common, Cond.static yX6_common, Cond.code yX6_common cX6_common 10 (some .long), Cond.methodLink RX6 213 yX6_levelOf, Cond.instanceMethod yX6_levelOf, Cond.selects RX6 yX6_levelOf yX6_levelOf, Cond.code yX6_levelOf cX6_levelOf 2 (some .int), Cond.methodLink RX6 141 yX6_levelBy, Cond.instanceMethod yX6_levelBy, Cond.selects RX6 yX6_levelBy yX6_levelBy, Cond.code yX6_levelBy cX6_levelBy 6 (some .int)]
def wsX6_worth_r3 : List Cond := [Cond.methodLink RX6 137 yX6_shareOf, Cond.instanceMethod yX6_shareOf, Cond.selects RX6 yX6_shareOf yX6_shareOf, Cond.code yX6_shareOf cX6_shareOf 4 (some .int), Cond.methodLink RX6 133 yX6_held, Cond.instanceMethod yX6_held, Cond.selects RX6 yX6_held yX6_held, Cond.code yX6_held cX6_held 2 (some .int)]
def wsX6_worth : List Cond := .code yX6_worth cX6_worth 12 (some .long) :: ((wsX6_worth_r1 ++ (wsX6_worth_r2 ++ wsX6_worth_r3)) ++ wsX60)
def wsX6_jokers_r1 : List Cond := [Cond.fieldLink RX6 171 "TwoThirdsModel" "hands" "I", Cond.fieldLink RX6 46 "TwoThirdsModel" "hand" "[I", Cond.fieldLink RX6 9 "TwoThirdsModel" "s" "[I", Cond.methodLink RX6 104 yX6_isShelf, Cond.static yX6_isShelf, Cond.initialized RX6, Cond.code yX6_isShelf cX6_isShelf 1 (some .boolean), Cond.constantLong RX6 60 (7), Cond.methodLink RX6 56 yX6_isIn, Cond.static yX6_isIn, Cond.code yX6_isIn cX6_isIn 6 (some .boolean), Cond.methodLink RX6 210 yX6_takesRow, Cond.instanceMethod yX6_takesRow, Cond.selects RX6 yX6_takesRow yX6_takesRow, Cond.code yX6_takesRow cX6_takesRow 4 (some .int), Cond.fieldLink RX6 28 "TwoThirdsModel" "size" "[I", Cond.fieldLink RX6 31 "TwoThirdsModel" "element" "[I", Cond.methodLink RX6 107 yX6_wrongRow, Cond.instanceMethod yX6_wrongRow, Cond.selects RX6 yX6_wrongRow yX6_wrongRow, Cond.code yX6_wrongRow cX6_wrongRow 3 (some .int), Cond.fieldLink RX6 22 "TwoThirdsModel" "kept" "[I", Cond.fieldLink RX6 25 "TwoThirdsModel" "sort" "[I", Cond.methodLink RX6 180 yX6_sumOf]
def wsX6_jokers_r2 : List Cond := [Cond.instanceMethod yX6_sumOf, Cond.selects RX6 yX6_sumOf yX6_sumOf, Cond.code yX6_sumOf cX6_sumOf 3 (some .int), Cond.methodLink RX6 202 yX6_partOf, Cond.static yX6_partOf, Cond.code yX6_partOf cX6_partOf 7 (some .long), Cond.methodLink RX6 198 yX6_common, Cond.static yX6_common, Cond.code yX6_common cX6_common 10 (some .long)]
def wsX6_jokers : List Cond := .code yX6_jokers cX6_jokers 10 (some .int) :: ((wsX6_jokers_r1 ++ wsX6_jokers_r2) ++ wsX60)
def wsX6_differ_r1 : List Cond := [Cond.fieldLink RX6 22 "TwoThirdsModel" "kept" "[I", Cond.fieldLink RX6 49 "TwoThirdsModel" "counts" "[I", Cond.fieldLink RX6 28 "TwoThirdsModel" "size" "[I", Cond.methodLink RX6 104 yX6_isShelf, Cond.static yX6_isShelf, Cond.initialized RX6, Cond.code yX6_isShelf cX6_isShelf 1 (some .boolean), Cond.constantLong RX6 60 (7), Cond.methodLink RX6 56 yX6_isIn, Cond.static yX6_isIn, Cond.code yX6_isIn cX6_isIn 6 (some .boolean), Cond.methodLink RX6 210 yX6_takesRow, Cond.instanceMethod yX6_takesRow, Cond.selects RX6 yX6_takesRow yX6_takesRow, Cond.code yX6_takesRow cX6_takesRow 4 (some .int), Cond.fieldLink RX6 46 "TwoThirdsModel" "hand" "[I", Cond.fieldLink RX6 31 "TwoThirdsModel" "element" "[I", Cond.fieldLink RX6 9 "TwoThirdsModel" "s" "[I", Cond.fieldLink RX6 171 "TwoThirdsModel" "hands" "I", Cond.methodLink RX6 107 yX6_wrongRow, Cond.instanceMethod yX6_wrongRow, Cond.selects RX6 yX6_wrongRow yX6_wrongRow, Cond.code yX6_wrongRow cX6_wrongRow 3 (some .int), Cond.fieldLink RX6 25 "TwoThirdsModel" "sort" "[I"]
def wsX6_differ_r2 : List Cond := [Cond.methodLink RX6 219 yX6_sharesOf, Cond.instanceMethod yX6_sharesOf, Cond.selects RX6 yX6_sharesOf yX6_sharesOf, Cond.code yX6_sharesOf cX6_sharesOf 4 (some .int), Cond.methodLink RX6 216 yX6_stepsFor, Cond.instanceMethod yX6_stepsFor, Cond.selects RX6 yX6_stepsFor yX6_stepsFor, Cond.code yX6_stepsFor cX6_stepsFor 4 (some .int), Cond.methodLink RX6 213 yX6_levelOf, Cond.instanceMethod yX6_levelOf, Cond.selects RX6 yX6_levelOf yX6_levelOf, Cond.code yX6_levelOf cX6_levelOf 2 (some .int), Cond.methodLink RX6 141 yX6_levelBy, Cond.instanceMethod yX6_levelBy, Cond.selects RX6 yX6_levelBy yX6_levelBy, Cond.code yX6_levelBy cX6_levelBy 6 (some .int), Cond.methodLink RX6 137 yX6_shareOf, Cond.instanceMethod yX6_shareOf, Cond.selects RX6 yX6_shareOf yX6_shareOf, Cond.code yX6_shareOf cX6_shareOf 4 (some .int), Cond.methodLink RX6 133 yX6_held, Cond.instanceMethod yX6_held, Cond.selects RX6 yX6_held yX6_held, Cond.code yX6_held cX6_held 2 (some .int)]
def wsX6_differ_r3 : List Cond := [Cond.methodLink RX6 177 yX6_amount, Cond.static yX6_amount, Cond.code yX6_amount cX6_amount 1 (some .int)]
def wsX6_differ : List Cond := .code yX6_differ cX6_differ 6 (some .int) :: ((wsX6_differ_r1 ++ (wsX6_differ_r2 ++ wsX6_differ_r3)) ++ wsX60)
def wsX6_leastOf : List Cond := .code yX6_leastOf cX6_leastOf 2 (some .int) :: ([.fieldLink RX6 25 "TwoThirdsModel" "sort" "[I", .constant RX6 228 (-2147483648)] ++ wsX60)
def wsX6_judge_r1 : List Cond := [Cond.fieldLink RX6 9 "TwoThirdsModel" "s" "[I", Cond.fieldLink RX6 28 "TwoThirdsModel" "size" "[I", Cond.fieldLink RX6 31 "TwoThirdsModel" "element" "[I", Cond.methodLink RX6 104 yX6_isShelf, Cond.static yX6_isShelf, Cond.initialized RX6, Cond.code yX6_isShelf cX6_isShelf 1 (some .boolean), Cond.constantLong RX6 60 (7), Cond.methodLink RX6 56 yX6_isIn, Cond.static yX6_isIn, Cond.code yX6_isIn cX6_isIn 6 (some .boolean), Cond.methodLink RX6 107 yX6_wrongRow, Cond.instanceMethod yX6_wrongRow, Cond.selects RX6 yX6_wrongRow yX6_wrongRow, Cond.code yX6_wrongRow cX6_wrongRow 3 (some .int), Cond.fieldLink RX6 22 "TwoThirdsModel" "kept" "[I", Cond.fieldLink RX6 25 "TwoThirdsModel" "sort" "[I", Cond.methodLink RX6 229 yX6_leastOf, Cond.instanceMethod yX6_leastOf, Cond.selects RX6 yX6_leastOf yX6_leastOf, Cond.code yX6_leastOf cX6_leastOf 2 (some .int), Cond.constant RX6 228 (-2147483648), Cond.methodLink RX6 122 yX6_get, Cond.instanceMethod yX6_get]
def wsX6_judge_r2 : List Cond := [Cond.selects RX6 yX6_get yX6_get, Cond.code yX6_get cX6_get 3 (some .int)]
def wsX6_judge : List Cond := .code yX6_judge cX6_judge 5 (some .int) :: ((wsX6_judge_r1 ++ wsX6_judge_r2) ++ wsX60)
def wsX6_ends : List Cond := .code yX6_ends cX6_ends 5 (some .int) :: ([.fieldLink RX6 9 "TwoThirdsModel" "s" "[I", .methodLink RX6 56 yX6_isIn, .static yX6_isIn, .initialized RX6, .code yX6_isIn cX6_isIn 6 (some .boolean), .methodLink RX6 137 yX6_shareOf, .instanceMethod yX6_shareOf, .selects RX6 yX6_shareOf yX6_shareOf, .code yX6_shareOf cX6_shareOf 4 (some .int), .methodLink RX6 133 yX6_held, .instanceMethod yX6_held, .selects RX6 yX6_held yX6_held, .code yX6_held cX6_held 2 (some .int)] ++ wsX60)
def wsX6_parts_r1 : List Cond := [Cond.fieldLink RX6 9 "TwoThirdsModel" "s" "[I", Cond.methodLink RX6 117 yX6_isPerson, Cond.instanceMethod yX6_isPerson, Cond.selects RX6 yX6_isPerson yX6_isPerson, Cond.initialized RX6, Cond.code yX6_isPerson cX6_isPerson 2 (some .boolean), Cond.methodLink RX6 56 yX6_isIn, Cond.static yX6_isIn, Cond.code yX6_isIn cX6_isIn 6 (some .boolean), Cond.methodLink RX6 153 yX6_isDrawn, Cond.instanceMethod yX6_isDrawn, Cond.selects RX6 yX6_isDrawn yX6_isDrawn, Cond.code yX6_isDrawn cX6_isDrawn 2 (some .boolean), Cond.methodLink RX6 122 yX6_get, Cond.instanceMethod yX6_get, Cond.selects RX6 yX6_get yX6_get, Cond.code yX6_get cX6_get 3 (some .int), Cond.methodLink RX6 156 yX6_holdsBy, Cond.instanceMethod yX6_holdsBy, Cond.selects RX6 yX6_holdsBy yX6_holdsBy, Cond.code yX6_holdsBy cX6_holdsBy 5 (some .int), Cond.methodLink RX6 141 yX6_levelBy, Cond.instanceMethod yX6_levelBy, Cond.selects RX6 yX6_levelBy yX6_levelBy]
def wsX6_parts_r2 : List Cond := [Cond.code yX6_levelBy cX6_levelBy 6 (some .int), Cond.methodLink RX6 137 yX6_shareOf, Cond.instanceMethod yX6_shareOf, Cond.selects RX6 yX6_shareOf yX6_shareOf, Cond.code yX6_shareOf cX6_shareOf 4 (some .int), Cond.methodLink RX6 133 yX6_held, Cond.instanceMethod yX6_held, Cond.selects RX6 yX6_held yX6_held, Cond.code yX6_held cX6_held 2 (some .int), Cond.methodLink RX6 147 yX6_mixed, Cond.instanceMethod yX6_mixed, Cond.selects RX6 yX6_mixed yX6_mixed, Cond.code yX6_mixed cX6_mixed 7 (some .int), Cond.methodLink RX6 150 yX6_learnt, Cond.instanceMethod yX6_learnt, Cond.selects RX6 yX6_learnt yX6_learnt, Cond.code yX6_learnt cX6_learnt 6 (some .int), Cond.methodLink RX6 144 yX6_lastSum, Cond.instanceMethod yX6_lastSum, Cond.selects RX6 yX6_lastSum yX6_lastSum, Cond.code yX6_lastSum cX6_lastSum 3 (some .int), Cond.methodLink RX6 177 yX6_amount, Cond.static yX6_amount, Cond.code yX6_amount cX6_amount 1 (some .int)]
def wsX6_parts : List Cond := .code yX6_parts cX6_parts 8 (some .int) :: ((wsX6_parts_r1 ++ wsX6_parts_r2) ++ wsX60)
def wsX6_image : List Cond := .code yX6_image cX6_image 2 (some .int) :: ([.fieldLink RX6 13 "TwoThirdsModel" "image" "[I", .fieldLink RX6 9 "TwoThirdsModel" "s" "[I", .fieldLink RX6 232 "TwoThirdsModel" "hasImage" "Z"] ++ wsX60)
def wsX6_restore : List Cond := .code yX6_restore cX6_restore 2 (some .int) :: ([.fieldLink RX6 232 "TwoThirdsModel" "hasImage" "Z", .fieldLink RX6 9 "TwoThirdsModel" "s" "[I", .fieldLink RX6 13 "TwoThirdsModel" "image" "[I"] ++ wsX60)
def wsX6_count : List Cond := .code yX6_count cX6_count 4 (some .int) :: ([.fieldLink RX6 9 "TwoThirdsModel" "s" "[I", .methodLink RX6 122 yX6_get, .instanceMethod yX6_get, .selects RX6 yX6_get yX6_get, .initialized RX6, .code yX6_get cX6_get 3 (some .int)] ++ wsX60)
def wsX6_depthOf : List Cond := .code yX6_depthOf cX6_depthOf 4 (some .int) :: ([.methodLink RX6 122 yX6_get, .instanceMethod yX6_get, .selects RX6 yX6_get yX6_get, .initialized RX6, .code yX6_get cX6_get 3 (some .int), .fieldLink RX6 9 "TwoThirdsModel" "s" "[I"] ++ wsX60)
def wsX6_keep : List Cond := .code yX6_keep cX6_keep 5 (some .int) :: ([.fieldLink RX6 22 "TwoThirdsModel" "kept" "[I", .fieldLink RX6 34 "TwoThirdsModel" "keptDepth" "[I", .fieldLink RX6 37 "TwoThirdsModel" "keptToss" "[I", .methodLink RX6 104 yX6_isShelf, .static yX6_isShelf, .initialized RX6, .code yX6_isShelf cX6_isShelf 1 (some .boolean), .constantLong RX6 60 (7), .methodLink RX6 56 yX6_isIn, .static yX6_isIn, .code yX6_isIn cX6_isIn 6 (some .boolean), .methodLink RX6 117 yX6_isPerson, .instanceMethod yX6_isPerson, .selects RX6 yX6_isPerson yX6_isPerson, .code yX6_isPerson cX6_isPerson 2 (some .boolean), .fieldLink RX6 9 "TwoThirdsModel" "s" "[I", .methodLink RX6 122 yX6_get, .instanceMethod yX6_get, .selects RX6 yX6_get yX6_get, .code yX6_get cX6_get 3 (some .int), .methodLink RX6 236 yX6_depthOf, .instanceMethod yX6_depthOf, .selects RX6 yX6_depthOf yX6_depthOf, .code yX6_depthOf cX6_depthOf 4 (some .int)] ++ wsX60)
def wsX6_row : List Cond := .code yX6_row cX6_row 5 (some .int) :: ([.constantLong RX6 190 (2), .fieldLink RX6 22 "TwoThirdsModel" "kept" "[I", .fieldLink RX6 25 "TwoThirdsModel" "sort" "[I", .fieldLink RX6 28 "TwoThirdsModel" "size" "[I", .fieldLink RX6 31 "TwoThirdsModel" "element" "[I", .methodLink RX6 104 yX6_isShelf, .static yX6_isShelf, .initialized RX6, .code yX6_isShelf cX6_isShelf 1 (some .boolean), .constantLong RX6 60 (7), .methodLink RX6 56 yX6_isIn, .static yX6_isIn, .code yX6_isIn cX6_isIn 6 (some .boolean)] ++ wsX60)
def wsX6_put : List Cond := .code yX6_put cX6_put 5 (some .int) :: ([.fieldLink RX6 28 "TwoThirdsModel" "size" "[I", .fieldLink RX6 31 "TwoThirdsModel" "element" "[I", .fieldLink RX6 25 "TwoThirdsModel" "sort" "[I", .methodLink RX6 107 yX6_wrongRow, .instanceMethod yX6_wrongRow, .selects RX6 yX6_wrongRow yX6_wrongRow, .initialized RX6, .code yX6_wrongRow cX6_wrongRow 3 (some .int), .fieldLink RX6 22 "TwoThirdsModel" "kept" "[I", .methodLink RX6 104 yX6_isShelf, .static yX6_isShelf, .code yX6_isShelf cX6_isShelf 1 (some .boolean), .constantLong RX6 60 (7), .methodLink RX6 56 yX6_isIn, .static yX6_isIn, .code yX6_isIn cX6_isIn 6 (some .boolean)] ++ wsX60)
def wsX6_element : List Cond := .code yX6_element cX6_element 3 (some .long) :: ([.fieldLink RX6 22 "TwoThirdsModel" "kept" "[I", .fieldLink RX6 28 "TwoThirdsModel" "size" "[I", .fieldLink RX6 52 "TwoThirdsModel" "thrown" "I", .fieldLink RX6 31 "TwoThirdsModel" "element" "[I", .methodLink RX6 104 yX6_isShelf, .static yX6_isShelf, .initialized RX6, .code yX6_isShelf cX6_isShelf 1 (some .boolean), .constantLong RX6 60 (7), .methodLink RX6 56 yX6_isIn, .static yX6_isIn, .code yX6_isIn cX6_isIn 6 (some .boolean)] ++ wsX60)
def wsX6_copy : List Cond := .code yX6_copy cX6_copy 8 (some .int) :: ([.fieldLink RX6 22 "TwoThirdsModel" "kept" "[I", .fieldLink RX6 25 "TwoThirdsModel" "sort" "[I", .fieldLink RX6 28 "TwoThirdsModel" "size" "[I", .fieldLink RX6 31 "TwoThirdsModel" "element" "[I", .methodLink RX6 104 yX6_isShelf, .static yX6_isShelf, .initialized RX6, .code yX6_isShelf cX6_isShelf 1 (some .boolean), .constantLong RX6 60 (7), .methodLink RX6 56 yX6_isIn, .static yX6_isIn, .code yX6_isIn cX6_isIn 6 (some .boolean)] ++ wsX60)
def wsX6_wrongKept : List Cond := .code yX6_wrongKept cX6_wrongKept 2 (some .int) :: ([.fieldLink RX6 22 "TwoThirdsModel" "kept" "[I", .methodLink RX6 104 yX6_isShelf, .static yX6_isShelf, .initialized RX6, .code yX6_isShelf cX6_isShelf 1 (some .boolean), .constantLong RX6 60 (7), .methodLink RX6 56 yX6_isIn, .static yX6_isIn, .code yX6_isIn cX6_isIn 6 (some .boolean)] ++ wsX60)
def wsX6_depth : List Cond := .code yX6_depth cX6_depth 3 (some .int) :: ([.constant RX6 242 (-1000000000), .fieldLink RX6 34 "TwoThirdsModel" "keptDepth" "[I", .methodLink RX6 239 yX6_wrongKept, .instanceMethod yX6_wrongKept, .selects RX6 yX6_wrongKept yX6_wrongKept, .initialized RX6, .code yX6_wrongKept cX6_wrongKept 2 (some .int), .fieldLink RX6 22 "TwoThirdsModel" "kept" "[I", .methodLink RX6 104 yX6_isShelf, .static yX6_isShelf, .code yX6_isShelf cX6_isShelf 1 (some .boolean), .constantLong RX6 60 (7), .methodLink RX6 56 yX6_isIn, .static yX6_isIn, .code yX6_isIn cX6_isIn 6 (some .boolean)] ++ wsX60)
def wsX6_toss : List Cond := .code yX6_toss cX6_toss 3 (some .int) :: ([.fieldLink RX6 37 "TwoThirdsModel" "keptToss" "[I", .methodLink RX6 239 yX6_wrongKept, .instanceMethod yX6_wrongKept, .selects RX6 yX6_wrongKept yX6_wrongKept, .initialized RX6, .code yX6_wrongKept cX6_wrongKept 2 (some .int), .fieldLink RX6 22 "TwoThirdsModel" "kept" "[I", .methodLink RX6 104 yX6_isShelf, .static yX6_isShelf, .code yX6_isShelf cX6_isShelf 1 (some .boolean), .constantLong RX6 60 (7), .methodLink RX6 56 yX6_isIn, .static yX6_isIn, .code yX6_isIn cX6_isIn 6 (some .boolean)] ++ wsX60)
def wsJ9_abs_0f7a4 : List Cond := .code yJ9_abs_0f7a4 cJ9_abs_0f7a4 1 (some .int) :: ([])
def wsJ9_min_7cf53 : List Cond := .code yJ9_min_7cf53 cJ9_min_7cf53 2 (some .int) :: ([])
def wsL_element_r1 : List Cond := [Cond.classLink RL 13 "java/lang/IllegalArgumentException", Cond.classLink RL 15 "java/lang/IllegalStateException", Cond.methodLink RL 7 yX5_element, Cond.instanceMethod yX5_element, Cond.selects RX5 yX5_element yX5_element, Cond.initialized RX5, Cond.code yX5_element cX5_element 4 (some .long), Cond.classLink RX5 250 "java/lang/IllegalArgumentException", Cond.initialized "java/lang/IllegalArgumentException", Cond.classLink RX5 257 "java/lang/IllegalStateException", Cond.initialized "java/lang/IllegalStateException", Cond.fieldLink RX5 231 "TwoThirds$Shelf" "holding" "I", Cond.fieldLink RX5 44 "TwoThirds$Shelf" "row" "LTwoThirds$Row;", Cond.methodLink RX5 36 yX5_shelfAt, Cond.instanceMethod yX5_shelfAt, Cond.selects RX5 yX5_shelfAt yX5_shelfAt, Cond.code yX5_shelfAt cX5_shelfAt 2 (some (.object "TwoThirds$Shelf")), Cond.fieldLink RX5 24 "TwoThirds" "shelves" "[LTwoThirds$Shelf;", Cond.methodLink RX5 244 yX3_hasPlace, Cond.instanceMethod yX3_hasPlace, Cond.selects RX3 yX3_hasPlace yX3_hasPlace, Cond.initialized RX3, Cond.code yX3_hasPlace cX3_hasPlace 2 (some .boolean), Cond.fieldLink RX3 25 "TwoThirds$Row" "size" "I"]
def wsL_element_r2 : List Cond := [Cond.methodLink RX5 99 yX3_at, Cond.instanceMethod yX3_at, Cond.selects RX3 yX3_at yX3_at, Cond.code yX3_at cX3_at 2 (some .int), Cond.fieldLink RX3 9 "TwoThirds$Row" "elements" "[I"]
def wsL_element : List Cond := .codeWith yL_element cL_element 5 (some .int) [(0, 9, 12, 13), (0, 9, 16, 15)] :: ((wsL_element_r1 ++ wsL_element_r2) ++ wsX40 ++ wsX50 ++ wsX30 ++ (vx_atS RX5 254 "java/lang/IllegalArgumentException" ["java/lang/RuntimeException", "java/lang/Exception"]).filter goodWord ++ (vx_atS RX5 261 "java/lang/IllegalStateException" ["java/lang/RuntimeException", "java/lang/Exception"]).filter goodWord)
def wsL_law0_r1 : List Cond := [Cond.classLink RL 8 RX5, Cond.instantiable RX5 7, Cond.initialized RX5, Cond.classLink RL 18 RX6, Cond.instantiable RX6 21, Cond.initialized RX6, Cond.arrayClass .long, Cond.methodLink RL 17 yX5_init, Cond.instanceMethod yX5_init, Cond.code yX5_init cX5_init 2 none, Cond.methodLink RX5 1 objectInit, Cond.instanceMethod objectInit, Cond.code objectInit ⟨#[0xb1]⟩ 1 none, Cond.classLink RX5 7 RX0, Cond.instantiable RX0 10, Cond.initialized RX0, Cond.fieldLink RX5 10 "TwoThirds" "now" "LTwoThirds$Game;", Cond.fieldLink RX5 16 "TwoThirds" "kept" "LTwoThirds$Game;", Cond.fieldLink RX5 19 "TwoThirds" "mind" "LTwoThirds$Game;", Cond.classLink RX5 22 RX4, Cond.fieldLink RX5 24 "TwoThirds" "shelves" "[LTwoThirds$Shelf;", Cond.instantiable RX4 3, Cond.initialized RX4, Cond.arrayClass .int]
def wsL_law0_r2 : List Cond := [Cond.fieldLink RX5 29 "TwoThirds" "counts" "[I", Cond.fieldLink RX5 33 "TwoThirds" "otherCounts" "[I", Cond.methodLink RX5 9 yX0_init, Cond.instanceMethod yX0_init, Cond.code yX0_init cX0_init 2 none, Cond.methodLink RX0 3 objectInit, Cond.fieldLink RX0 9 "TwoThirds$Game" "up" "I", Cond.fieldLink RX0 15 "TwoThirds$Game" "down" "I", Cond.fieldLink RX0 18 "TwoThirds$Game" "high" "I", Cond.fieldLink RX0 21 "TwoThirds$Game" "prize" "I", Cond.fieldLink RX0 24 "TwoThirds$Game" "z" "I", Cond.classLink RX0 27 RX1, Cond.fieldLink RX0 29 "TwoThirds$Game" "persons" "[LTwoThirds$Person;", Cond.instantiable RX1 4, Cond.initialized RX1, Cond.classLink RX0 34 RX3, Cond.instantiable RX3 3, Cond.initialized RX3, Cond.fieldLink RX0 39 "TwoThirds$Game" "cards" "LTwoThirds$Row;", Cond.methodLink RX0 33 yX1_init, Cond.instanceMethod yX1_init, Cond.code yX1_init cX1_init 1 none, Cond.methodLink RX1 3 objectInit, Cond.methodLink RX0 36 yX3_init]
def wsL_law0_r3 : List Cond := [Cond.instanceMethod yX3_init, Cond.code yX3_init cX3_init 2 none, Cond.methodLink RX3 3 objectInit, Cond.fieldLink RX3 9 "TwoThirds$Row" "elements" "[I", Cond.methodLink RX5 28 yX4_init, Cond.instanceMethod yX4_init, Cond.code yX4_init cX4_init 1 none, Cond.methodLink RX4 3 objectInit, Cond.classLink RX4 9 RX3, Cond.fieldLink RX4 14 "TwoThirds$Shelf" "row" "LTwoThirds$Row;", Cond.classLink RX4 20 RX1, Cond.fieldLink RX4 23 "TwoThirds$Shelf" "person" "LTwoThirds$Person;", Cond.methodLink RX4 11 yX3_init, Cond.methodLink RX4 22 yX1_init, Cond.methodLink RL 20 yX6_init, Cond.instanceMethod yX6_init, Cond.code yX6_init cX6_init 1 none, Cond.methodLink RX6 1 objectInit, Cond.fieldLink RX6 9 "TwoThirdsModel" "s" "[I", Cond.fieldLink RX6 13 "TwoThirdsModel" "image" "[I", Cond.fieldLink RX6 16 "TwoThirdsModel" "read" "[I", Cond.fieldLink RX6 19 "TwoThirdsModel" "saved" "[I", Cond.fieldLink RX6 22 "TwoThirdsModel" "kept" "[I", Cond.fieldLink RX6 25 "TwoThirdsModel" "sort" "[I"]
def wsL_law0_r4 : List Cond := [Cond.fieldLink RX6 28 "TwoThirdsModel" "size" "[I", Cond.fieldLink RX6 31 "TwoThirdsModel" "element" "[I", Cond.fieldLink RX6 34 "TwoThirdsModel" "keptDepth" "[I", Cond.fieldLink RX6 37 "TwoThirdsModel" "keptToss" "[I", Cond.fieldLink RX6 40 "TwoThirdsModel" "numbers" "[I", Cond.fieldLink RX6 43 "TwoThirdsModel" "cards" "[I", Cond.fieldLink RX6 46 "TwoThirdsModel" "hand" "[I", Cond.fieldLink RX6 49 "TwoThirdsModel" "counts" "[I", Cond.methodLink RL 21 yX5_crowd, Cond.instanceMethod yX5_crowd, Cond.selects RX5 yX5_crowd yX5_crowd, Cond.code yX5_crowd cX5_crowd 8 (some .int), Cond.fieldLink RX5 44 "TwoThirds$Shelf" "row" "LTwoThirds$Row;", Cond.fieldLink RX5 48 "TwoThirds$Row" "sort" "I", Cond.classLink RX5 54 RX2, Cond.instantiable RX2 7, Cond.initialized RX2, Cond.fieldLink RX5 63 "TwoThirds$Reader" "place" "I", Cond.methodLink RX5 36 yX5_shelfAt, Cond.instanceMethod yX5_shelfAt, Cond.selects RX5 yX5_shelfAt yX5_shelfAt, Cond.code yX5_shelfAt cX5_shelfAt 2 (some (.object "TwoThirds$Shelf")), Cond.methodLink RX5 40 yX5_rowRefusal, Cond.static yX5_rowRefusal]
def wsL_law0_r5 : List Cond := [Cond.code yX5_rowRefusal cX5_rowRefusal 1 (some .int), Cond.methodLink RX5 291 yX5_refusalUnless, Cond.static yX5_refusalUnless, Cond.code yX5_refusalUnless cX5_refusalUnless 2 (some .int), Cond.fieldLink RX5 231 "TwoThirds$Shelf" "holding" "I", Cond.methodLink RX5 56 yX2_init, Cond.instanceMethod yX2_init, Cond.code yX2_init cX2_init 2 none, Cond.methodLink RX2 3 objectInit, Cond.fieldLink RX2 9 "TwoThirds$Reader" "text" "LTwoThirds$Row;", Cond.methodLink RX5 59 yX2_countStatements, Cond.instanceMethod yX2_countStatements, Cond.selects RX2 yX2_countStatements yX2_countStatements, Cond.code yX2_countStatements cX2_countStatements 3 (some .int), Cond.fieldLink RX2 19 "TwoThirds$Reader" "place" "I", Cond.fieldLink RX2 23 "TwoThirds$Row" "size" "I", Cond.methodLink RX2 15 yX2_readStatement, Cond.instanceMethod yX2_readStatement, Cond.selects RX2 yX2_readStatement yX2_readStatement, Cond.code yX2_readStatement cX2_readStatement 1 (some .boolean), Cond.fieldLink RX2 32 "TwoThirds$Reader" "letter" "I", Cond.methodLink RX2 28 yX3_at, Cond.instanceMethod yX3_at, Cond.selects RX3 yX3_at yX3_at]
def wsL_law0_r6 : List Cond := [Cond.code yX3_at cX3_at 2 (some .int), Cond.fieldLink RX3 25 "TwoThirds$Row" "size" "I", Cond.methodLink RX2 35 yX2_takes, Cond.instanceMethod yX2_takes, Cond.selects RX2 yX2_takes yX2_takes, Cond.code yX2_takes cX2_takes 2 (some .boolean), Cond.methodLink RX2 66 yX3_hasPlace, Cond.instanceMethod yX3_hasPlace, Cond.selects RX3 yX3_hasPlace yX3_hasPlace, Cond.code yX3_hasPlace cX3_hasPlace 2 (some .boolean), Cond.methodLink RX2 39 yX2_readPerson, Cond.instanceMethod yX2_readPerson, Cond.selects RX2 yX2_readPerson yX2_readPerson, Cond.code yX2_readPerson cX2_readPerson 1 (some .boolean), Cond.fieldLink RX2 51 "TwoThirds$Reader" "number" "I", Cond.fieldLink RX2 54 "TwoThirds$Reader" "first" "I", Cond.fieldLink RX2 57 "TwoThirds$Reader" "second" "I", Cond.fieldLink RX2 63 "TwoThirds$Reader" "third" "I", Cond.methodLink RX2 48 yX2_takesDigit, Cond.instanceMethod yX2_takesDigit, Cond.selects RX2 yX2_takesDigit yX2_takesDigit, Cond.code yX2_takesDigit cX2_takesDigit 2 (some .boolean), Cond.methodLink RX2 60 yX2_takesNumber, Cond.instanceMethod yX2_takesNumber]
def wsL_law0_r7 : List Cond := [Cond.selects RX2 yX2_takesNumber yX2_takesNumber, Cond.code yX2_takesNumber cX2_takesNumber 3 (some .boolean), Cond.methodLink RX2 42 yX2_readShare, Cond.instanceMethod yX2_readShare, Cond.selects RX2 yX2_readShare yX2_readShare, Cond.code yX2_readShare cX2_readShare 1 (some .boolean), Cond.methodLink RX2 45 yX2_readHigh, Cond.instanceMethod yX2_readHigh, Cond.selects RX2 yX2_readHigh yX2_readHigh, Cond.code yX2_readHigh cX2_readHigh 1 (some .boolean), Cond.methodLink RX5 66 yX0_takeFrom, Cond.instanceMethod yX0_takeFrom, Cond.selects RX0 yX0_takeFrom yX0_takeFrom, Cond.code yX0_takeFrom cX0_takeFrom 3 none, Cond.fieldLink RX0 43 "TwoThirds$Game" "rounds" "I", Cond.fieldLink RX0 46 "TwoThirds$Game" "people" "I", Cond.fieldLink RX0 56 "TwoThirds$Game" "lastSum" "I", Cond.methodLink RX0 49 yX1_takeFrom, Cond.instanceMethod yX1_takeFrom, Cond.selects RX1 yX1_takeFrom yX1_takeFrom, Cond.code yX1_takeFrom cX1_takeFrom 2 none, Cond.fieldLink RX1 9 "TwoThirds$Person" "number" "I", Cond.fieldLink RX1 15 "TwoThirds$Person" "kind" "I", Cond.fieldLink RX1 18 "TwoThirds$Person" "stepCount" "I"]
def wsL_law0_r8 : List Cond := [Cond.fieldLink RX1 21 "TwoThirds$Person" "slip" "I", Cond.methodLink RX1 24 yX1_begin, Cond.instanceMethod yX1_begin, Cond.selects RX1 yX1_begin yX1_begin, Cond.code yX1_begin cX1_begin 5 none, Cond.methodLink RX0 53 yX3_takeFrom, Cond.instanceMethod yX3_takeFrom, Cond.selects RX3 yX3_takeFrom yX3_takeFrom, Cond.code yX3_takeFrom cX3_takeFrom 3 none, Cond.fieldLink RX3 15 "TwoThirds$Row" "sort" "I", Cond.methodLink RX3 34 yX3_begin, Cond.instanceMethod yX3_begin, Cond.selects RX3 yX3_begin yX3_begin, Cond.code yX3_begin cX3_begin 3 none, Cond.methodLink RX3 19 Lib.Math.min.name, Cond.static Lib.Math.min.name, Cond.initialized "java/lang/Math", Cond.code Lib.Math.min.name Lib.Math.min.code 2 (some .int), Cond.methodLink RX3 28 yJ7_fill_53178, Cond.static yJ7_fill_53178, Cond.initialized RJ7, Cond.code yJ7_fill_53178 cJ7_fill_53178 4 none, Cond.methodLink RX3 38 yX3_at, Cond.methodLink RX5 70 yX2_readStatement]
def wsL_law0_r9 : List Cond := [Cond.methodLink RX5 74 yX0_follows, Cond.instanceMethod yX0_follows, Cond.selects RX0 yX0_follows yX0_follows, Cond.code yX0_follows cX0_follows 2 (some .boolean), Cond.fieldLink RX0 66 "TwoThirds$Reader" "letter" "I", Cond.fieldLink RX0 71 "TwoThirds$Reader" "first" "I", Cond.fieldLink RX0 74 "TwoThirds$Reader" "second" "I", Cond.fieldLink RX0 77 "TwoThirds$Reader" "third" "I", Cond.methodLink RX0 80 yX0_addPerson, Cond.instanceMethod yX0_addPerson, Cond.selects RX0 yX0_addPerson yX0_addPerson, Cond.code yX0_addPerson cX0_addPerson 4 (some .boolean), Cond.static yX5_isStepCount, Cond.code yX5_isStepCount cX5_isStepCount 1 (some .boolean), Cond.methodLink RX0 98 yX1_begin, Cond.methodLink RX0 84 yX0_changeIfCanBe, Cond.instanceMethod yX0_changeIfCanBe, Cond.selects RX0 yX0_changeIfCanBe yX0_changeIfCanBe, Cond.code yX0_changeIfCanBe cX0_changeIfCanBe 3 (some .boolean), Cond.methodLink RX0 88 yX0_canBe, Cond.static yX0_canBe, Cond.code yX0_canBe cX0_canBe 2 (some .boolean), Cond.static yX5_isOneOfTwo, Cond.code yX5_isOneOfTwo cX5_isOneOfTwo 1 (some .boolean)]
def wsL_law0_r10 : List Cond := [Cond.methodLink RX0 91 yX0_change, Cond.instanceMethod yX0_change, Cond.selects RX0 yX0_change yX0_change, Cond.code yX0_change cX0_change 3 none, Cond.methodLink RL 25 yX6_crowd, Cond.instanceMethod yX6_crowd, Cond.selects RX6 yX6_crowd yX6_crowd, Cond.code yX6_crowd cX6_crowd 7 (some .int), Cond.fieldLink RX6 68 "TwoThirdsModel" "base" "I", Cond.fieldLink RX6 65 "TwoThirdsModel" "end" "I", Cond.fieldLink RX6 62 "TwoThirdsModel" "pos" "I", Cond.methodLink RX6 107 yX6_wrongRow, Cond.instanceMethod yX6_wrongRow, Cond.selects RX6 yX6_wrongRow yX6_wrongRow, Cond.code yX6_wrongRow cX6_wrongRow 3 (some .int), Cond.methodLink RX6 104 yX6_isShelf, Cond.static yX6_isShelf, Cond.code yX6_isShelf cX6_isShelf 1 (some .boolean), Cond.constantLong RX6 60 (7), Cond.methodLink RX6 56 yX6_isIn, Cond.static yX6_isIn, Cond.code yX6_isIn cX6_isIn 6 (some .boolean), Cond.methodLink RX6 111 yX6_readsStatement, Cond.instanceMethod yX6_readsStatement]
def wsL_law0_r11 : List Cond := [Cond.selects RX6 yX6_readsStatement yX6_readsStatement, Cond.code yX6_readsStatement cX6_readsStatement 2 (some .boolean), Cond.fieldLink RX6 83 "TwoThirdsModel" "told" "I", Cond.methodLink RX6 71 yX6_here, Cond.instanceMethod yX6_here, Cond.selects RX6 yX6_here yX6_here, Cond.code yX6_here cX6_here 1 (some .int), Cond.methodLink RX6 86 yX6_readsDigit, Cond.instanceMethod yX6_readsDigit, Cond.selects RX6 yX6_readsDigit yX6_readsDigit, Cond.code yX6_readsDigit cX6_readsDigit 1 (some .boolean), Cond.methodLink RX6 79 yX6_isDigit, Cond.instanceMethod yX6_isDigit, Cond.selects RX6 yX6_isDigit yX6_isDigit, Cond.code yX6_isDigit cX6_isDigit 1 (some .boolean), Cond.constantLong RX6 75 (48), Cond.constantLong RX6 77 (57), Cond.methodLink RX6 89 yX6_takes, Cond.instanceMethod yX6_takes, Cond.selects RX6 yX6_takes yX6_takes, Cond.code yX6_takes cX6_takes 2 (some .boolean), Cond.methodLink RX6 93 yX6_readsNumber, Cond.instanceMethod yX6_readsNumber, Cond.selects RX6 yX6_readsNumber yX6_readsNumber]
def wsL_law0_r12 : List Cond := [Cond.code yX6_readsNumber cX6_readsNumber 3 (some .boolean), Cond.methodLink RX6 114 yX6_comes, Cond.instanceMethod yX6_comes, Cond.selects RX6 yX6_comes yX6_comes, Cond.code yX6_comes cX6_comes 4 (some .boolean), Cond.constantLong RX6 100 (1000), Cond.methodLink RX6 96 yX6_isShare, Cond.static yX6_isShare, Cond.code yX6_isShare cX6_isShare 2 (some .boolean), Cond.constantLong RX6 102 (20), Cond.methodLink RL 26 yX5_of, Cond.instanceMethod yX5_of, Cond.selects RX5 yX5_of yX5_of, Cond.code yX5_of cX5_of 4 (some .int), Cond.fieldLink RX5 82 "TwoThirds$Person" "kind" "I", Cond.fieldLink RX5 87 "TwoThirds$Person" "stepCount" "I", Cond.fieldLink RX5 90 "TwoThirds$Person" "slip" "I", Cond.fieldLink RX5 93 "TwoThirds$Game" "rounds" "I", Cond.fieldLink RX5 96 "TwoThirds$Game" "cards" "LTwoThirds$Row;", Cond.methodLink RX5 78 yX0_personAt, Cond.instanceMethod yX0_personAt, Cond.selects RX0 yX0_personAt yX0_personAt, Cond.code yX0_personAt cX0_personAt 2 (some (.object "TwoThirds$Person")), Cond.methodLink RX5 99 yX3_at]
def wsL_law0_r13 : List Cond := [Cond.methodLink RL 30 yX6_of, Cond.instanceMethod yX6_of, Cond.selects RX6 yX6_of yX6_of, Cond.code yX6_of cX6_of 3 (some .int), Cond.constantLong RX6 120 (3), Cond.methodLink RX6 117 yX6_isPerson, Cond.instanceMethod yX6_isPerson, Cond.selects RX6 yX6_isPerson yX6_isPerson, Cond.code yX6_isPerson cX6_isPerson 2 (some .boolean), Cond.methodLink RX6 122 yX6_get, Cond.instanceMethod yX6_get, Cond.selects RX6 yX6_get yX6_get, Cond.code yX6_get cX6_get 3 (some .int), Cond.methodLink RL 31 yX5_set, Cond.instanceMethod yX5_set, Cond.selects RX5 yX5_set yX5_set, Cond.code yX5_set cX5_set 4 (some .int), Cond.methodLink RX5 103 yX0_canBe, Cond.methodLink RX5 107 yX0_setting, Cond.instanceMethod yX0_setting, Cond.selects RX0 yX0_setting yX0_setting, Cond.code yX0_setting cX0_setting 2 (some .int), Cond.methodLink RX5 110 yX0_change, Cond.methodLink RL 34 yX6_set]
def wsL_law0_r14 : List Cond := [Cond.instanceMethod yX6_set, Cond.selects RX6 yX6_set yX6_set, Cond.code yX6_set cX6_set 3 (some .int), Cond.methodLink RX6 125 yX6_isValue, Cond.static yX6_isValue, Cond.code yX6_isValue cX6_isValue 2 (some .boolean), Cond.methodLink RX6 128 yX6_becomes, Cond.instanceMethod yX6_becomes, Cond.selects RX6 yX6_becomes yX6_becomes, Cond.code yX6_becomes cX6_becomes 4 (some .int), Cond.methodLink RL 35 yX5_steps, Cond.instanceMethod yX5_steps, Cond.selects RX5 yX5_steps yX5_steps, Cond.code yX5_steps cX5_steps 5 (some .int), Cond.methodLink RX5 114 yX5_isStepCount, Cond.methodLink RL 38 yX6_steps, Cond.instanceMethod yX6_steps, Cond.selects RX6 yX6_steps yX6_steps, Cond.code yX6_steps cX6_steps 3 (some .int), Cond.constantLong RX6 131 (9), Cond.methodLink RL 39 yX5_holds, Cond.instanceMethod yX5_holds, Cond.selects RX5 yX5_holds yX5_holds, Cond.code yX5_holds cX5_holds 3 (some .int)]
def wsL_law0_r15 : List Cond := [Cond.methodLink RX5 118 yX1_holdsByDraw, Cond.instanceMethod yX1_holdsByDraw, Cond.selects RX1 yX1_holdsByDraw yX1_holdsByDraw, Cond.code yX1_holdsByDraw cX1_holdsByDraw 1 (some .boolean), Cond.methodLink RX5 121 yX0_heldBy, Cond.instanceMethod yX0_heldBy, Cond.selects RX0 yX0_heldBy yX0_heldBy, Cond.code yX0_heldBy cX0_heldBy 2 (some .int), Cond.fieldLink RX0 123 "TwoThirds$Person" "kind" "I", Cond.fieldLink RX0 59 "TwoThirds$Person" "stepCount" "I", Cond.methodLink RX0 126 yX0_drawBelow, Cond.instanceMethod yX0_drawBelow, Cond.selects RX0 yX0_drawBelow yX0_drawBelow, Cond.code yX0_drawBelow cX0_drawBelow 3 (some .int), Cond.constant RX0 102 (1103515245), Cond.constant RX0 103 (2147483647), Cond.constant RX0 104 (65536), Cond.methodLink RX0 129 yX0_stepped, Cond.instanceMethod yX0_stepped, Cond.selects RX0 yX0_stepped yX0_stepped, Cond.code yX0_stepped cX0_stepped 2 (some .int), Cond.methodLink RX0 113 yX0_middle, Cond.instanceMethod yX0_middle, Cond.selects RX0 yX0_middle yX0_middle]
def wsL_law0_r16 : List Cond := [Cond.code yX0_middle cX0_middle 1 (some .int), Cond.methodLink RX0 117 yX0_sharedTimes, Cond.instanceMethod yX0_sharedTimes, Cond.selects RX0 yX0_sharedTimes yX0_sharedTimes, Cond.code yX0_sharedTimes cX0_sharedTimes 5 (some .int), Cond.methodLink RX0 120 yX0_shareOf, Cond.instanceMethod yX0_shareOf, Cond.selects RX0 yX0_shareOf yX0_shareOf, Cond.code yX0_shareOf cX0_shareOf 2 (some .int), Cond.static yX5_over, Cond.code yX5_over cX5_over 2 (some .int), Cond.methodLink RX0 109 yX0_heldToCards, Cond.instanceMethod yX0_heldToCards, Cond.selects RX0 yX0_heldToCards yX0_heldToCards, Cond.code yX0_heldToCards cX0_heldToCards 2 (some .int), Cond.methodLink RX0 132 yX0_mixed, Cond.instanceMethod yX0_mixed, Cond.selects RX0 yX0_mixed yX0_mixed, Cond.code yX0_mixed cX0_mixed 5 (some .int), Cond.methodLink RX0 135 yX0_learned, Cond.instanceMethod yX0_learned, Cond.selects RX0 yX0_learned yX0_learned, Cond.code yX0_learned cX0_learned 2 (some .int), Cond.methodLink RL 42 yX6_holds]
def wsL_law0_r17 : List Cond := [Cond.instanceMethod yX6_holds, Cond.selects RX6 yX6_holds yX6_holds, Cond.code yX6_holds cX6_holds 2 (some .int), Cond.methodLink RX6 153 yX6_isDrawn, Cond.instanceMethod yX6_isDrawn, Cond.selects RX6 yX6_isDrawn yX6_isDrawn, Cond.code yX6_isDrawn cX6_isDrawn 2 (some .boolean), Cond.methodLink RX6 156 yX6_holdsBy, Cond.instanceMethod yX6_holdsBy, Cond.selects RX6 yX6_holdsBy yX6_holdsBy, Cond.code yX6_holdsBy cX6_holdsBy 5 (some .int), Cond.methodLink RX6 141 yX6_levelBy, Cond.instanceMethod yX6_levelBy, Cond.selects RX6 yX6_levelBy yX6_levelBy, Cond.code yX6_levelBy cX6_levelBy 6 (some .int), Cond.methodLink RX6 137 yX6_shareOf, Cond.instanceMethod yX6_shareOf, Cond.selects RX6 yX6_shareOf yX6_shareOf, Cond.code yX6_shareOf cX6_shareOf 4 (some .int), Cond.methodLink RX6 133 yX6_held, Cond.instanceMethod yX6_held, Cond.selects RX6 yX6_held yX6_held, Cond.code yX6_held cX6_held 2 (some .int), Cond.methodLink RX6 147 yX6_mixed]
def wsL_law0_r18 : List Cond := [Cond.instanceMethod yX6_mixed, Cond.selects RX6 yX6_mixed yX6_mixed, Cond.code yX6_mixed cX6_mixed 7 (some .int), Cond.methodLink RX6 150 yX6_learnt, Cond.instanceMethod yX6_learnt, Cond.selects RX6 yX6_learnt yX6_learnt, Cond.code yX6_learnt cX6_learnt 6 (some .int), Cond.methodLink RX6 144 yX6_lastSum, Cond.instanceMethod yX6_lastSum, Cond.selects RX6 yX6_lastSum yX6_lastSum, Cond.code yX6_lastSum cX6_lastSum 3 (some .int), Cond.methodLink RL 43 yX5_round, Cond.instanceMethod yX5_round, Cond.selects RX5 yX5_round yX5_round, Cond.code yX5_round cX5_round 1 (some .int), Cond.fieldLink RX5 125 "TwoThirds$Game" "people" "I", Cond.methodLink RX5 128 yX0_play, Cond.instanceMethod yX0_play, Cond.selects RX0 yX0_play yX0_play, Cond.code yX0_play cX0_play 2 none, Cond.methodLink RX0 145 yX3_begin, Cond.methodLink RX0 147 yX0_cardOf, Cond.instanceMethod yX0_cardOf, Cond.selects RX0 yX0_cardOf yX0_cardOf]
def wsL_law0_r19 : List Cond := [Cond.code yX0_cardOf cX0_cardOf 3 (some .int), Cond.fieldLink RX0 142 "TwoThirds$Person" "slip" "I", Cond.methodLink RX0 138 yX0_heldBy, Cond.methodLink RX0 150 yX3_write, Cond.instanceMethod yX3_write, Cond.selects RX3 yX3_write yX3_write, Cond.code yX3_write cX3_write 3 none, Cond.methodLink RX3 42 yX3_hasPlace, Cond.methodLink RX3 46 yX3_lowestBits, Cond.instanceMethod yX3_lowestBits, Cond.selects RX3 yX3_lowestBits yX3_lowestBits, Cond.code yX3_lowestBits cX3_lowestBits 2 (some .int), Cond.methodLink RX0 153 yX3_sum, Cond.instanceMethod yX3_sum, Cond.selects RX3 yX3_sum yX3_sum, Cond.code yX3_sum cX3_sum 3 (some .int), Cond.methodLink RL 47 yX6_round, Cond.instanceMethod yX6_round, Cond.selects RX6 yX6_round yX6_round, Cond.code yX6_round cX6_round 1 (some .int), Cond.methodLink RX6 168 yX6_goesRound, Cond.instanceMethod yX6_goesRound, Cond.selects RX6 yX6_goesRound yX6_goesRound, Cond.code yX6_goesRound cX6_goesRound 2 none]
def wsL_law0_r20 : List Cond := [Cond.methodLink RX6 165 yX6_cardOf, Cond.instanceMethod yX6_cardOf, Cond.selects RX6 yX6_cardOf yX6_cardOf, Cond.code yX6_cardOf cX6_cardOf 4 (some .int), Cond.methodLink RX6 162 yX6_draw, Cond.instanceMethod yX6_draw, Cond.selects RX6 yX6_draw yX6_draw, Cond.code yX6_draw cX6_draw 2 (some .int), Cond.constant RX6 159 (1103515245), Cond.constant RX6 160 (2147483647), Cond.constant RX6 161 (65536), Cond.methodLink RL 48 yX5_anew, Cond.instanceMethod yX5_anew, Cond.selects RX5 yX5_anew yX5_anew, Cond.code yX5_anew cX5_anew 1 (some .int), Cond.methodLink RX5 131 yX0_forgetRounds, Cond.instanceMethod yX0_forgetRounds, Cond.selects RX0 yX0_forgetRounds yX0_forgetRounds, Cond.code yX0_forgetRounds cX0_forgetRounds 1 none, Cond.methodLink RL 51 yX6_anew, Cond.instanceMethod yX6_anew, Cond.selects RX6 yX6_anew yX6_anew, Cond.code yX6_anew cX6_anew 2 (some .int), Cond.methodLink RL 52 yX5_last]
def wsL_law0_r21 : List Cond := [Cond.instanceMethod yX5_last, Cond.selects RX5 yX5_last yX5_last, Cond.code yX5_last cX5_last 2 (some .int), Cond.fieldLink RX5 134 "TwoThirds$Game" "lastSum" "I", Cond.methodLink RX5 137 yX0_countWinners, Cond.instanceMethod yX0_countWinners, Cond.selects RX0 yX0_countWinners yX0_countWinners, Cond.code yX0_countWinners cX0_countWinners 8 (some .int), Cond.fieldLink RX0 156 "TwoThirds$Row" "size" "I", Cond.methodLink RX0 176 yX0_firstWinner, Cond.instanceMethod yX0_firstWinner, Cond.selects RX0 yX0_firstWinner yX0_firstWinner, Cond.code yX0_firstWinner cX0_firstWinner 8 (some .int), Cond.methodLink RX0 165 yX0_targetAbove, Cond.instanceMethod yX0_targetAbove, Cond.selects RX0 yX0_targetAbove yX0_targetAbove, Cond.code yX0_targetAbove cX0_targetAbove 2 (some .int), Cond.methodLink RX0 169 yX0_targetLine, Cond.instanceMethod yX0_targetLine, Cond.selects RX0 yX0_targetLine yX0_targetLine, Cond.code yX0_targetLine cX0_targetLine 2 (some .int), Cond.methodLink RX0 159 yX3_at, Cond.methodLink RX0 172 yX0_farFrom, Cond.instanceMethod yX0_farFrom]
def wsL_law0_r22 : List Cond := [Cond.selects RX0 yX0_farFrom yX0_farFrom, Cond.code yX0_farFrom cX0_farFrom 5 (some .int), Cond.methodLink RX5 141 yX0_firstWinner, Cond.methodLink RL 55 yX6_last, Cond.instanceMethod yX6_last, Cond.selects RX6 yX6_last yX6_last, Cond.code yX6_last cX6_last 2 (some .int), Cond.constantLong RX6 190 (2), Cond.methodLink RX6 192 yX6_takesLast, Cond.instanceMethod yX6_takesLast, Cond.selects RX6 yX6_takesLast yX6_takesLast, Cond.code yX6_takesLast cX6_takesLast 2 none, Cond.fieldLink RX6 171 "TwoThirdsModel" "hands" "I", Cond.methodLink RX6 180 yX6_sumOf, Cond.instanceMethod yX6_sumOf, Cond.selects RX6 yX6_sumOf yX6_sumOf, Cond.code yX6_sumOf cX6_sumOf 3 (some .int), Cond.methodLink RX6 195 yX6_winnersOf, Cond.instanceMethod yX6_winnersOf, Cond.selects RX6 yX6_winnersOf yX6_winnersOf, Cond.code yX6_winnersOf cX6_winnersOf 6 (some .int), Cond.methodLink RX6 183 yX6_bestOf, Cond.instanceMethod yX6_bestOf, Cond.selects RX6 yX6_bestOf yX6_bestOf]
def wsL_law0_r23 : List Cond := [Cond.code yX6_bestOf cX6_bestOf 5 (some .int), Cond.methodLink RX6 174 yX6_farOf, Cond.instanceMethod yX6_farOf, Cond.selects RX6 yX6_farOf yX6_farOf, Cond.code yX6_farOf cX6_farOf 4 (some .int), Cond.methodLink RX6 177 yX6_amount, Cond.static yX6_amount, Cond.code yX6_amount cX6_amount 1 (some .int), Cond.methodLink RX6 186 yX6_wins, Cond.instanceMethod yX6_wins, Cond.selects RX6 yX6_wins yX6_wins, Cond.code yX6_wins cX6_wins 5 (some .boolean), Cond.methodLink RL 56 yX5_target, Cond.instanceMethod yX5_target, Cond.selects RX5 yX5_target yX5_target, Cond.code yX5_target cX5_target 2 (some .int), Cond.methodLink RX5 144 yX5_isOneOfTwo, Cond.methodLink RX5 147 yX0_targetAbove, Cond.methodLink RX5 150 yX0_targetLine, Cond.methodLink RX5 153 yX5_leastPart, Cond.static yX5_leastPart, Cond.code yX5_leastPart cX5_leastPart 3 (some .int), Cond.methodLink RX5 295 yX5_commonMeasure, Cond.static yX5_commonMeasure]
def wsL_law0_r24 : List Cond := [Cond.code yX5_commonMeasure cX5_commonMeasure 6 (some .int), Cond.methodLink RX5 299 yX5_over, Cond.methodLink RL 59 yX6_target, Cond.instanceMethod yX6_target, Cond.selects RX6 yX6_target yX6_target, Cond.code yX6_target cX6_target 2 (some .int), Cond.methodLink RX6 206 yX6_targetOf, Cond.instanceMethod yX6_targetOf, Cond.selects RX6 yX6_targetOf yX6_targetOf, Cond.code yX6_targetOf cX6_targetOf 2 (some .long), Cond.methodLink RX6 202 yX6_partOf, Cond.static yX6_partOf, Cond.code yX6_partOf cX6_partOf 7 (some .long), Cond.methodLink RX6 198 yX6_common, Cond.static yX6_common, Cond.code yX6_common cX6_common 10 (some .long), Cond.methodLink RL 60 yX5_wins, Cond.instanceMethod yX5_wins, Cond.selects RX5 yX5_wins yX5_wins, Cond.code yX5_wins cX5_wins 5 (some .int), Cond.methodLink RX5 157 yX0_isWinner, Cond.instanceMethod yX0_isWinner, Cond.selects RX0 yX0_isWinner yX0_isWinner, Cond.code yX0_isWinner cX0_isWinner 6 (some .boolean)]
def wsL_law0_r25 : List Cond := [Cond.methodLink RX0 179 yX3_hasPlace, Cond.methodLink RL 63 yX6_wins_, Cond.instanceMethod yX6_wins_, Cond.selects RX6 yX6_wins_ yX6_wins_, Cond.code yX6_wins_ cX6_wins_ 6 (some .int), Cond.methodLink RL 64 yX5_mean, Cond.instanceMethod yX5_mean, Cond.selects RX5 yX5_mean yX5_mean, Cond.code yX5_mean cX5_mean 6 (some .int), Cond.fieldLink RX5 167 "TwoThirds$Row" "size" "I", Cond.methodLink RX5 161 yX5_cardsRefusal, Cond.instanceMethod yX5_cardsRefusal, Cond.selects RX5 yX5_cardsRefusal yX5_cardsRefusal, Cond.code yX5_cardsRefusal cX5_cardsRefusal 3 (some .int), Cond.methodLink RX5 186 yX0_areCards, Cond.instanceMethod yX0_areCards, Cond.selects RX0 yX0_areCards yX0_areCards, Cond.code yX0_areCards cX0_areCards 3 (some .boolean), Cond.methodLink RX0 162 yX0_isCard, Cond.instanceMethod yX0_isCard, Cond.selects RX0 yX0_isCard yX0_isCard, Cond.code yX0_isCard cX0_isCard 2 (some .boolean), Cond.methodLink RX5 164 yX3_sum, Cond.methodLink RL 68 yX6_mean]
def wsL_law0_r26 : List Cond := [Cond.instanceMethod yX6_mean, Cond.selects RX6 yX6_mean yX6_mean, Cond.code yX6_mean cX6_mean 5 (some .int), Cond.methodLink RX6 210 yX6_takesRow, Cond.instanceMethod yX6_takesRow, Cond.selects RX6 yX6_takesRow yX6_takesRow, Cond.code yX6_takesRow cX6_takesRow 4 (some .int), Cond.methodLink RL 69 yX5_winners, Cond.instanceMethod yX5_winners, Cond.selects RX5 yX5_winners yX5_winners, Cond.code yX5_winners cX5_winners 5 (some .int), Cond.methodLink RL 72 yX6_winners, Cond.instanceMethod yX6_winners, Cond.selects RX6 yX6_winners yX6_winners, Cond.code yX6_winners cX6_winners 4 (some .int), Cond.methodLink RL 73 yX5_best, Cond.instanceMethod yX5_best, Cond.selects RX5 yX5_best yX5_best, Cond.code yX5_best cX5_best 4 (some .int), Cond.methodLink RX5 170 yX0_bestAgainst, Cond.instanceMethod yX0_bestAgainst, Cond.selects RX0 yX0_bestAgainst yX0_bestAgainst, Cond.code yX0_bestAgainst cX0_bestAgainst 8 (some .int), Cond.methodLink RL 76 yX6_best]
def wsL_law0_r27 : List Cond := [Cond.instanceMethod yX6_best, Cond.selects RX6 yX6_best yX6_best, Cond.code yX6_best cX6_best 8 (some .int), Cond.methodLink RL 77 yX5_level, Cond.instanceMethod yX5_level, Cond.selects RX5 yX5_level yX5_level, Cond.code yX5_level cX5_level 2 (some .int), Cond.methodLink RX5 173 yX0_stepped, Cond.methodLink RL 80 yX6_level, Cond.instanceMethod yX6_level, Cond.selects RX6 yX6_level yX6_level, Cond.code yX6_level cX6_level 2 (some .int), Cond.methodLink RX6 213 yX6_levelOf, Cond.instanceMethod yX6_levelOf, Cond.selects RX6 yX6_levelOf yX6_levelOf, Cond.code yX6_levelOf cX6_levelOf 2 (some .int), Cond.methodLink RL 81 yX5_stepsOf, Cond.instanceMethod yX5_stepsOf, Cond.selects RX5 yX5_stepsOf yX5_stepsOf, Cond.code yX5_stepsOf cX5_stepsOf 2 (some .int), Cond.methodLink RX5 176 yX0_isCard, Cond.methodLink RX5 179 yX0_nearestSteps, Cond.instanceMethod yX0_nearestSteps, Cond.selects RX0 yX0_nearestSteps yX0_nearestSteps]
def wsL_law0_r28 : List Cond := [Cond.code yX0_nearestSteps cX0_nearestSteps 7 (some .int), Cond.methodLink RX0 182 Lib.Math.abs.name, Cond.static Lib.Math.abs.name, Cond.code Lib.Math.abs.name Lib.Math.abs.code 1 (some .int), Cond.methodLink RL 84 yX6_stepsOf, Cond.instanceMethod yX6_stepsOf, Cond.selects RX6 yX6_stepsOf yX6_stepsOf, Cond.code yX6_stepsOf cX6_stepsOf 2 (some .int), Cond.methodLink RX6 216 yX6_stepsFor, Cond.instanceMethod yX6_stepsFor, Cond.selects RX6 yX6_stepsFor yX6_stepsFor, Cond.code yX6_stepsFor cX6_stepsFor 4 (some .int), Cond.methodLink RL 85 yX5_shares, Cond.instanceMethod yX5_shares, Cond.selects RX5 yX5_shares yX5_shares, Cond.code yX5_shares cX5_shares 7 (some .int), Cond.methodLink RL 88 yX6_shares, Cond.instanceMethod yX6_shares, Cond.selects RX6 yX6_shares yX6_shares, Cond.code yX6_shares cX6_shares 4 (some .int), Cond.methodLink RX6 219 yX6_sharesOf, Cond.instanceMethod yX6_sharesOf, Cond.selects RX6 yX6_sharesOf yX6_sharesOf, Cond.code yX6_sharesOf cX6_sharesOf 4 (some .int)]
def wsL_law0_r29 : List Cond := [Cond.methodLink RL 89 yX5_words, Cond.instanceMethod yX5_words, Cond.selects RX5 yX5_words yX5_words, Cond.code yX5_words cX5_words 11 (some .int), Cond.methodLink RX5 182 yX5_twoRowsRefusal, Cond.static yX5_twoRowsRefusal, Cond.code yX5_twoRowsRefusal cX5_twoRowsRefusal 2 (some .int), Cond.methodLink RL 92 yX6_words, Cond.instanceMethod yX6_words, Cond.selects RX6 yX6_words yX6_words, Cond.code yX6_words cX6_words 8 (some .int), Cond.methodLink RL 93 yX5_ahead, Cond.instanceMethod yX5_ahead, Cond.selects RX5 yX5_ahead yX5_ahead, Cond.code yX5_ahead cX5_ahead 8 (some .int), Cond.fieldLink RX5 190 "TwoThirds$Game" "up" "I", Cond.fieldLink RX5 193 "TwoThirds$Game" "down" "I", Cond.methodLink RL 96 yX6_ahead, Cond.instanceMethod yX6_ahead, Cond.selects RX6 yX6_ahead yX6_ahead, Cond.code yX6_ahead cX6_ahead 7 (some .int), Cond.methodLink RL 97 yX5_worth, Cond.instanceMethod yX5_worth, Cond.selects RX5 yX5_worth yX5_worth]
def wsL_law0_r30 : List Cond := [Cond.code yX5_worth cX5_worth 9 (some .long), Cond.constantLong RX5 196 (-4000000000000000001), Cond.constantLong RX5 198 (-4000000000000000000), Cond.methodLink RX5 200 Lib.Math.abs.name, Cond.methodLink RL 100 yX6_worth, Cond.instanceMethod yX6_worth, Cond.selects RX6 yX6_worth yX6_worth, Cond.code yX6_worth cX6_worth 12 (some .long), Cond.constantLong RX6 222 (8), Cond.constantLong RX6 224 (-4000000000000000001), Cond.constantLong RX6 226 (-4000000000000000000), Cond.methodLink RL 101 yX5_jokers, Cond.instanceMethod yX5_jokers, Cond.selects RX5 yX5_jokers yX5_jokers, Cond.code yX5_jokers cX5_jokers 10 (some .int), Cond.fieldLink RX5 205 "TwoThirds$Game" "high" "I", Cond.methodLink RX5 208 yX3_countOf, Cond.instanceMethod yX3_countOf, Cond.selects RX3 yX3_countOf yX3_countOf, Cond.code yX3_countOf cX3_countOf 4 (some .int), Cond.methodLink RL 104 yX6_jokers, Cond.instanceMethod yX6_jokers, Cond.selects RX6 yX6_jokers yX6_jokers, Cond.code yX6_jokers cX6_jokers 10 (some .int)]
def wsL_law0_r31 : List Cond := [Cond.methodLink RL 105 yX5_differ, Cond.instanceMethod yX5_differ, Cond.selects RX5 yX5_differ yX5_differ, Cond.code yX5_differ cX5_differ 8 (some .int), Cond.methodLink RX5 211 yX0_countSteps, Cond.instanceMethod yX0_countSteps, Cond.selects RX0 yX0_countSteps yX0_countSteps, Cond.code yX0_countSteps cX0_countSteps 5 none, Cond.methodLink RX0 187 yJ7_fill_53178, Cond.methodLink RX0 193 yX0_nearestSteps, Cond.methodLink RL 108 yX6_differ, Cond.instanceMethod yX6_differ, Cond.selects RX6 yX6_differ yX6_differ, Cond.code yX6_differ cX6_differ 6 (some .int), Cond.methodLink RL 109 yX5_judge, Cond.instanceMethod yX5_judge, Cond.selects RX5 yX5_judge yX5_judge, Cond.code yX5_judge cX5_judge 7 (some .int), Cond.methodLink RX5 215 yX3_leastNumber, Cond.instanceMethod yX3_leastNumber, Cond.selects RX3 yX3_leastNumber yX3_leastNumber, Cond.code yX3_leastNumber cX3_leastNumber 1 (some .int), Cond.constant RX3 49 (-2147483648), Cond.methodLink RL 112 yX6_judge]
def wsL_law0_r32 : List Cond := [Cond.instanceMethod yX6_judge, Cond.selects RX6 yX6_judge yX6_judge, Cond.code yX6_judge cX6_judge 5 (some .int), Cond.methodLink RX6 229 yX6_leastOf, Cond.instanceMethod yX6_leastOf, Cond.selects RX6 yX6_leastOf yX6_leastOf, Cond.code yX6_leastOf cX6_leastOf 2 (some .int), Cond.constant RX6 228 (-2147483648), Cond.methodLink RL 113 yX5_ends, Cond.instanceMethod yX5_ends, Cond.selects RX5 yX5_ends yX5_ends, Cond.code yX5_ends cX5_ends 5 (some .int), Cond.methodLink RX5 218 yX0_middle, Cond.methodLink RX5 221 yX0_shareOf, Cond.methodLink RL 116 yX6_ends, Cond.instanceMethod yX6_ends, Cond.selects RX6 yX6_ends yX6_ends, Cond.code yX6_ends cX6_ends 5 (some .int), Cond.methodLink RL 117 yX5_parts, Cond.instanceMethod yX5_parts, Cond.selects RX5 yX5_parts yX5_parts, Cond.code yX5_parts cX5_parts 10 (some .int), Cond.methodLink RL 120 yX6_parts, Cond.instanceMethod yX6_parts]
def wsL_law0_r33 : List Cond := [Cond.selects RX6 yX6_parts yX6_parts, Cond.code yX6_parts cX6_parts 8 (some .int), Cond.methodLink RL 121 yX5_image, Cond.instanceMethod yX5_image, Cond.selects RX5 yX5_image yX5_image, Cond.code yX5_image cX5_image 1 (some .int), Cond.fieldLink RX5 224 "TwoThirds" "imageTaken" "Z", Cond.methodLink RL 124 yX6_image, Cond.instanceMethod yX6_image, Cond.selects RX6 yX6_image yX6_image, Cond.code yX6_image cX6_image 2 (some .int), Cond.fieldLink RX6 232 "TwoThirdsModel" "hasImage" "Z", Cond.methodLink RL 125 yX5_restore, Cond.instanceMethod yX5_restore, Cond.selects RX5 yX5_restore yX5_restore, Cond.code yX5_restore cX5_restore 1 (some .int), Cond.methodLink RL 128 yX6_restore, Cond.instanceMethod yX6_restore, Cond.selects RX6 yX6_restore yX6_restore, Cond.code yX6_restore cX6_restore 2 (some .int), Cond.methodLink RL 129 yX5_count, Cond.instanceMethod yX5_count, Cond.selects RX5 yX5_count yX5_count, Cond.code yX5_count cX5_count 2 (some .int)]
def wsL_law0_r34 : List Cond := [Cond.methodLink RX5 228 yX0_allSteps, Cond.instanceMethod yX0_allSteps, Cond.selects RX0 yX0_allSteps yX0_allSteps, Cond.code yX0_allSteps cX0_allSteps 3 (some .int), Cond.methodLink RL 132 yX6_count, Cond.instanceMethod yX6_count, Cond.selects RX6 yX6_count yX6_count, Cond.code yX6_count cX6_count 4 (some .int), Cond.methodLink RL 133 yX5_keep, Cond.instanceMethod yX5_keep, Cond.selects RX5 yX5_keep yX5_keep, Cond.code yX5_keep cX5_keep 6 (some .int), Cond.fieldLink RX5 234 "TwoThirds$Shelf" "person" "LTwoThirds$Person;", Cond.methodLink RX5 238 yX1_takeFrom, Cond.methodLink RL 136 yX6_keep, Cond.instanceMethod yX6_keep, Cond.selects RX6 yX6_keep yX6_keep, Cond.code yX6_keep cX6_keep 5 (some .int), Cond.methodLink RX6 236 yX6_depthOf, Cond.instanceMethod yX6_depthOf, Cond.selects RX6 yX6_depthOf yX6_depthOf, Cond.code yX6_depthOf cX6_depthOf 4 (some .int), Cond.methodLink RL 137 yX5_row, Cond.instanceMethod yX5_row]
def wsL_law0_r35 : List Cond := [Cond.selects RX5 yX5_row yX5_row, Cond.code yX5_row cX5_row 5 (some .int), Cond.methodLink RX5 241 yX3_begin, Cond.methodLink RL 140 yX6_row, Cond.instanceMethod yX6_row, Cond.selects RX6 yX6_row yX6_row, Cond.code yX6_row cX6_row 5 (some .int), Cond.methodLink RL 141 yX5_put, Cond.instanceMethod yX5_put, Cond.selects RX5 yX5_put yX5_put, Cond.code yX5_put cX5_put 6 (some .int), Cond.methodLink RX5 244 yX3_hasPlace, Cond.methodLink RX5 247 yX3_write, Cond.methodLink RL 144 yX6_put, Cond.instanceMethod yX6_put, Cond.selects RX6 yX6_put yX6_put, Cond.code yX6_put cX6_put 5 (some .int), Cond.methodLink RL 145 yL_element, Cond.static yL_element, Cond.initialized RL, Cond.codeWith yL_element cL_element 5 (some .int) [(0, 9, 12, 13), (0, 9, 16, 15)], Cond.classLink RL 13 "java/lang/IllegalArgumentException", Cond.classLink RL 15 "java/lang/IllegalStateException", Cond.methodLink RL 7 yX5_element]
def wsL_law0_r36 : List Cond := [Cond.instanceMethod yX5_element, Cond.selects RX5 yX5_element yX5_element, Cond.code yX5_element cX5_element 4 (some .long), Cond.classLink RX5 250 "java/lang/IllegalArgumentException", Cond.initialized "java/lang/IllegalArgumentException", Cond.classLink RX5 257 "java/lang/IllegalStateException", Cond.initialized "java/lang/IllegalStateException", Cond.methodLink RL 150 yX6_element, Cond.instanceMethod yX6_element, Cond.selects RX6 yX6_element yX6_element, Cond.code yX6_element cX6_element 3 (some .long), Cond.fieldLink RX6 52 "TwoThirdsModel" "thrown" "I", Cond.methodLink RL 151 yX6_thrown, Cond.instanceMethod yX6_thrown, Cond.selects RX6 yX6_thrown yX6_thrown, Cond.code yX6_thrown cX6_thrown 1 (some .int), Cond.methodLink RL 154 yX5_copy, Cond.instanceMethod yX5_copy, Cond.selects RX5 yX5_copy yX5_copy, Cond.code yX5_copy cX5_copy 9 (some .int), Cond.fieldLink RX5 267 "TwoThirds$Row" "elements" "[I", Cond.methodLink RX5 270 arraycopyName, Cond.native arraycopyName, Cond.static arraycopyName]
def wsL_law0_r37 : List Cond := [Cond.initialized "java/lang/System", Cond.methodLink RX5 264 yX3_hasPlaces, Cond.instanceMethod yX3_hasPlaces, Cond.selects RX3 yX3_hasPlaces yX3_hasPlaces, Cond.code yX3_hasPlaces cX3_hasPlaces 3 (some .boolean), Cond.methodLink RL 158 yX6_copy, Cond.instanceMethod yX6_copy, Cond.selects RX6 yX6_copy yX6_copy, Cond.code yX6_copy cX6_copy 8 (some .int), Cond.methodLink RL 159 yX5_depth, Cond.instanceMethod yX5_depth, Cond.selects RX5 yX5_depth yX5_depth, Cond.code yX5_depth cX5_depth 4 (some .int), Cond.constant RX5 279 (-1000000000), Cond.methodLink RX5 276 yX5_personRefusal, Cond.static yX5_personRefusal, Cond.code yX5_personRefusal cX5_personRefusal 1 (some .int), Cond.methodLink RX5 280 yX1_depthOfKind, Cond.instanceMethod yX1_depthOfKind, Cond.selects RX1 yX1_depthOfKind yX1_depthOfKind, Cond.code yX1_depthOfKind cX1_depthOfKind 4 (some .int), Cond.methodLink RL 162 yX6_depth, Cond.instanceMethod yX6_depth, Cond.selects RX6 yX6_depth yX6_depth]
def wsL_law0_r38 : List Cond := [Cond.code yX6_depth cX6_depth 3 (some .int), Cond.constant RX6 242 (-1000000000), Cond.methodLink RX6 239 yX6_wrongKept, Cond.instanceMethod yX6_wrongKept, Cond.selects RX6 yX6_wrongKept yX6_wrongKept, Cond.code yX6_wrongKept cX6_wrongKept 2 (some .int), Cond.methodLink RL 163 yX5_toss, Cond.instanceMethod yX5_toss, Cond.selects RX5 yX5_toss yX5_toss, Cond.codeWith yX5_toss cX5_toss 5 (some .int) [(17, 24, 27, 286), (17, 24, 41, 250), (17, 24, 54, 257)], Cond.classLink RX5 286 "java/lang/UnsupportedOperationException", Cond.fieldLink RX5 288 "TwoThirds$Person" "number" "I", Cond.methodLink RX5 283 yX1_fail, Cond.instanceMethod yX1_fail, Cond.selects RX1 yX1_fail yX1_fail, Cond.code yX1_fail cX1_fail 1 none, Cond.classLink RX1 28 "java/lang/UnsupportedOperationException", Cond.initialized "java/lang/UnsupportedOperationException", Cond.classLink RX1 35 "java/lang/IllegalArgumentException", Cond.classLink RX1 40 "java/lang/IllegalStateException", Cond.methodLink RL 166 yX6_toss, Cond.instanceMethod yX6_toss, Cond.selects RX6 yX6_toss yX6_toss, Cond.code yX6_toss cX6_toss 3 (some .int)]
def wsL_law0 : List Cond := (wsL_law0_r1 ++ (wsL_law0_r2 ++ (wsL_law0_r3 ++ (wsL_law0_r4 ++ (wsL_law0_r5 ++ (wsL_law0_r6 ++ (wsL_law0_r7 ++ (wsL_law0_r8 ++ (wsL_law0_r9 ++ (wsL_law0_r10 ++ (wsL_law0_r11 ++ (wsL_law0_r12 ++ (wsL_law0_r13 ++ (wsL_law0_r14 ++ (wsL_law0_r15 ++ (wsL_law0_r16 ++ (wsL_law0_r17 ++ (wsL_law0_r18 ++ (wsL_law0_r19 ++ (wsL_law0_r20 ++ (wsL_law0_r21 ++ (wsL_law0_r22 ++ (wsL_law0_r23 ++ (wsL_law0_r24 ++ (wsL_law0_r25 ++ (wsL_law0_r26 ++ (wsL_law0_r27 ++ (wsL_law0_r28 ++ (wsL_law0_r29 ++ (wsL_law0_r30 ++ (wsL_law0_r31 ++ (wsL_law0_r32 ++ (wsL_law0_r33 ++ (wsL_law0_r34 ++ (wsL_law0_r35 ++ (wsL_law0_r36 ++ (wsL_law0_r37 ++ wsL_law0_r38))))))))))))))))))))))))))))))))))))) ++ wsX50 ++ wsX60 ++ wsX00 ++ wsX40 ++ wsX10 ++ wsX30 ++ wsX20 ++ ([] : List Cond)
def wsL_law : List Cond := wsL_law0 ++ (vx_atS RX5 254 "java/lang/IllegalArgumentException" ["java/lang/RuntimeException", "java/lang/Exception"]).filter goodWord ++ (vx_atS RX5 261 "java/lang/IllegalStateException" ["java/lang/RuntimeException", "java/lang/Exception"]).filter goodWord ++ (vx_atS RX1 32 "java/lang/UnsupportedOperationException" ["java/lang/RuntimeException", "java/lang/Exception"]).filter goodWord ++ (vx_atS RX1 39 "java/lang/IllegalArgumentException" ["java/lang/RuntimeException", "java/lang/Exception"]).filter goodWord ++ (vx_atS RX1 44 "java/lang/IllegalStateException" ["java/lang/RuntimeException", "java/lang/Exception"]).filter goodWord
set_option maxRecDepth 20000 in
theorem ggX0_init_X1_init : GoodIn wsX0_init wsX1_init := goodIn_r _ [19, 20, 2, 3] (by decide +kernel) (by decide +kernel)
set_option maxRecDepth 20000 in
theorem gX0_init_X1_init : GoodIn wsX0_init (wsX1_init) := ggX0_init_X1_init
set_option maxRecDepth 20000 in
theorem ggX0_init_X3_init : GoodIn wsX0_init wsX3_init := goodIn_r _ [23, 24, 2, 3, 25, 26, 41, 42, 43] (by decide +kernel) (by decide +kernel)
set_option maxRecDepth 20000 in
theorem gX0_init_X3_init : GoodIn wsX0_init (wsX3_init) := ggX0_init_X3_init
theorem dX0_init_0 : decode cX0_init 0 = .ok (.aload_n 0, 1) := by decide +kernel
theorem dX0_init_1 : decode cX0_init 1 = .ok (.invokespecial 3, 3) := by decide +kernel
theorem dX0_init_4 : decode cX0_init 4 = .ok (.aload_n 0, 1) := by decide +kernel
theorem dX0_init_5 : decode cX0_init 5 = .ok (.iconst 2, 1) := by decide +kernel
theorem dX0_init_6 : decode cX0_init 6 = .ok (.putfield 9, 3) := by decide +kernel
theorem dX0_init_9 : decode cX0_init 9 = .ok (.aload_n 0, 1) := by decide +kernel
theorem dX0_init_10 : decode cX0_init 10 = .ok (.iconst 3, 1) := by decide +kernel
theorem dX0_init_11 : decode cX0_init 11 = .ok (.putfield 15, 3) := by decide +kernel
theorem dX0_init_14 : decode cX0_init 14 = .ok (.aload_n 0, 1) := by decide +kernel
theorem dX0_init_15 : decode cX0_init 15 = .ok (.bipush 100, 2) := by decide +kernel
theorem dX0_init_17 : decode cX0_init 17 = .ok (.putfield 18, 3) := by decide +kernel
theorem dX0_init_20 : decode cX0_init 20 = .ok (.aload_n 0, 1) := by decide +kernel
theorem dX0_init_21 : decode cX0_init 21 = .ok (.iconst 0, 1) := by decide +kernel
theorem dX0_init_22 : decode cX0_init 22 = .ok (.putfield 21, 3) := by decide +kernel
theorem dX0_init_25 : decode cX0_init 25 = .ok (.aload_n 0, 1) := by decide +kernel
theorem dX0_init_26 : decode cX0_init 26 = .ok (.iconst 1, 1) := by decide +kernel
theorem dX0_init_27 : decode cX0_init 27 = .ok (.putfield 24, 3) := by decide +kernel
theorem dX0_init_30 : decode cX0_init 30 = .ok (.aload_n 0, 1) := by decide +kernel
theorem dX0_init_31 : decode cX0_init 31 = .ok (.bipush 12, 2) := by decide +kernel
theorem dX0_init_33 : decode cX0_init 33 = .ok (.anewarray 27, 3) := by decide +kernel
theorem dX0_init_36 : decode cX0_init 36 = .ok (.putfield 29, 3) := by decide +kernel
theorem dX0_init_39 : decode cX0_init 39 = .ok (.iconst 0, 1) := by decide +kernel
theorem dX0_init_40 : decode cX0_init 40 = .ok (.istore_n 1, 1) := by decide +kernel
theorem dX0_init_41 : decode cX0_init 41 = .ok (.iload_n 1, 1) := by decide +kernel
theorem dX0_init_42 : decode cX0_init 42 = .ok (.bipush 12, 2) := by decide +kernel
theorem dX0_init_44 : decode cX0_init 44 = .ok (.if_icmp .ge 22, 3) := by decide +kernel
theorem dX0_init_47 : decode cX0_init 47 = .ok (.aload_n 0, 1) := by decide +kernel
theorem dX0_init_48 : decode cX0_init 48 = .ok (.getfield 29, 3) := by decide +kernel
theorem dX0_init_51 : decode cX0_init 51 = .ok (.iload_n 1, 1) := by decide +kernel
theorem dX0_init_52 : decode cX0_init 52 = .ok (.new 27, 3) := by decide +kernel
theorem dX0_init_55 : decode cX0_init 55 = .ok (.dup, 1) := by decide +kernel
theorem dX0_init_56 : decode cX0_init 56 = .ok (.invokespecial 33, 3) := by decide +kernel
theorem dX0_init_59 : decode cX0_init 59 = .ok (.aastore, 1) := by decide +kernel
theorem dX0_init_60 : decode cX0_init 60 = .ok (.iinc 1 1, 3) := by decide +kernel
theorem dX0_init_63 : decode cX0_init 63 = .ok (.goto (-22), 3) := by decide +kernel
theorem dX0_init_66 : decode cX0_init 66 = .ok (.aload_n 0, 1) := by decide +kernel
theorem dX0_init_67 : decode cX0_init 67 = .ok (.new 34, 3) := by decide +kernel
theorem dX0_init_70 : decode cX0_init 70 = .ok (.dup, 1) := by decide +kernel
theorem dX0_init_71 : decode cX0_init 71 = .ok (.bipush 12, 2) := by decide +kernel
theorem dX0_init_73 : decode cX0_init 73 = .ok (.invokespecial 36, 3) := by decide +kernel
theorem dX0_init_76 : decode cX0_init 76 = .ok (.putfield 39, 3) := by decide +kernel
theorem dX0_init_79 : decode cX0_init 79 = .ok (.return_, 1) := by decide +kernel
set_option maxRecDepth 20000 in
theorem ggX0_takeFrom_X1_takeFrom : GoodIn wsX0_takeFrom wsX1_takeFrom := goodIn_r _ [15, 16, 17, 18, 19, 20, 21, 22, 14, 23, 58, 59, 60, 61] (by decide +kernel) (by decide +kernel)
set_option maxRecDepth 20000 in
theorem gX0_takeFrom_X1_takeFrom : GoodIn wsX0_takeFrom (wsV RX0 49 RX1 yX1_takeFrom wsX1_takeFrom) := goodIn_app (goodIn_of _ (by decide +kernel)) ggX0_takeFrom_X1_takeFrom
set_option maxRecDepth 20000 in
theorem ggX0_takeFrom_X3_takeFrom : GoodIn wsX0_takeFrom wsX3_takeFrom := goodIn_r _ [28, 29, 30, 31, 32, 33, 34, 27, 35, 36, 37, 38, 39, 40, 41, 42, 43, 44, 45, 46, 47, 62, 63, 64] (by decide +kernel) (by decide +kernel)
set_option maxRecDepth 20000 in
theorem gX0_takeFrom_X3_takeFrom : GoodIn wsX0_takeFrom (wsV RX0 53 RX3 yX3_takeFrom wsX3_takeFrom) := goodIn_app (goodIn_of _ (by decide +kernel)) ggX0_takeFrom_X3_takeFrom
theorem dX0_takeFrom_0 : decode cX0_takeFrom 0 = .ok (.aload_n 0, 1) := by decide +kernel
theorem dX0_takeFrom_1 : decode cX0_takeFrom 1 = .ok (.aload_n 1, 1) := by decide +kernel
theorem dX0_takeFrom_2 : decode cX0_takeFrom 2 = .ok (.getfield 9, 3) := by decide +kernel
theorem dX0_takeFrom_5 : decode cX0_takeFrom 5 = .ok (.putfield 9, 3) := by decide +kernel
theorem dX0_takeFrom_8 : decode cX0_takeFrom 8 = .ok (.aload_n 0, 1) := by decide +kernel
theorem dX0_takeFrom_9 : decode cX0_takeFrom 9 = .ok (.aload_n 1, 1) := by decide +kernel
theorem dX0_takeFrom_10 : decode cX0_takeFrom 10 = .ok (.getfield 15, 3) := by decide +kernel
theorem dX0_takeFrom_13 : decode cX0_takeFrom 13 = .ok (.putfield 15, 3) := by decide +kernel
theorem dX0_takeFrom_16 : decode cX0_takeFrom 16 = .ok (.aload_n 0, 1) := by decide +kernel
theorem dX0_takeFrom_17 : decode cX0_takeFrom 17 = .ok (.aload_n 1, 1) := by decide +kernel
theorem dX0_takeFrom_18 : decode cX0_takeFrom 18 = .ok (.getfield 18, 3) := by decide +kernel
theorem dX0_takeFrom_21 : decode cX0_takeFrom 21 = .ok (.putfield 18, 3) := by decide +kernel
theorem dX0_takeFrom_24 : decode cX0_takeFrom 24 = .ok (.aload_n 0, 1) := by decide +kernel
theorem dX0_takeFrom_25 : decode cX0_takeFrom 25 = .ok (.aload_n 1, 1) := by decide +kernel
theorem dX0_takeFrom_26 : decode cX0_takeFrom 26 = .ok (.getfield 21, 3) := by decide +kernel
theorem dX0_takeFrom_29 : decode cX0_takeFrom 29 = .ok (.putfield 21, 3) := by decide +kernel
theorem dX0_takeFrom_32 : decode cX0_takeFrom 32 = .ok (.aload_n 0, 1) := by decide +kernel
theorem dX0_takeFrom_33 : decode cX0_takeFrom 33 = .ok (.aload_n 1, 1) := by decide +kernel
theorem dX0_takeFrom_34 : decode cX0_takeFrom 34 = .ok (.getfield 24, 3) := by decide +kernel
theorem dX0_takeFrom_37 : decode cX0_takeFrom 37 = .ok (.putfield 24, 3) := by decide +kernel
theorem dX0_takeFrom_40 : decode cX0_takeFrom 40 = .ok (.aload_n 0, 1) := by decide +kernel
theorem dX0_takeFrom_41 : decode cX0_takeFrom 41 = .ok (.aload_n 1, 1) := by decide +kernel
theorem dX0_takeFrom_42 : decode cX0_takeFrom 42 = .ok (.getfield 43, 3) := by decide +kernel
theorem dX0_takeFrom_45 : decode cX0_takeFrom 45 = .ok (.putfield 43, 3) := by decide +kernel
theorem dX0_takeFrom_48 : decode cX0_takeFrom 48 = .ok (.aload_n 0, 1) := by decide +kernel
theorem dX0_takeFrom_49 : decode cX0_takeFrom 49 = .ok (.aload_n 1, 1) := by decide +kernel
theorem dX0_takeFrom_50 : decode cX0_takeFrom 50 = .ok (.getfield 46, 3) := by decide +kernel
theorem dX0_takeFrom_53 : decode cX0_takeFrom 53 = .ok (.putfield 46, 3) := by decide +kernel
theorem dX0_takeFrom_56 : decode cX0_takeFrom 56 = .ok (.iconst 0, 1) := by decide +kernel
theorem dX0_takeFrom_57 : decode cX0_takeFrom 57 = .ok (.istore_n 2, 1) := by decide +kernel
theorem dX0_takeFrom_58 : decode cX0_takeFrom 58 = .ok (.iload_n 2, 1) := by decide +kernel
theorem dX0_takeFrom_59 : decode cX0_takeFrom 59 = .ok (.aload_n 0, 1) := by decide +kernel
theorem dX0_takeFrom_60 : decode cX0_takeFrom 60 = .ok (.getfield 29, 3) := by decide +kernel
theorem dX0_takeFrom_63 : decode cX0_takeFrom 63 = .ok (.arraylength, 1) := by decide +kernel
theorem dX0_takeFrom_64 : decode cX0_takeFrom 64 = .ok (.if_icmp .ge 33, 3) := by decide +kernel
theorem dX0_takeFrom_67 : decode cX0_takeFrom 67 = .ok (.iload_n 2, 1) := by decide +kernel
theorem dX0_takeFrom_68 : decode cX0_takeFrom 68 = .ok (.aload_n 1, 1) := by decide +kernel
theorem dX0_takeFrom_69 : decode cX0_takeFrom 69 = .ok (.getfield 29, 3) := by decide +kernel
theorem dX0_takeFrom_72 : decode cX0_takeFrom 72 = .ok (.arraylength, 1) := by decide +kernel
theorem dX0_takeFrom_73 : decode cX0_takeFrom 73 = .ok (.if_icmp .ge 24, 3) := by decide +kernel
theorem dX0_takeFrom_76 : decode cX0_takeFrom 76 = .ok (.aload_n 0, 1) := by decide +kernel
theorem dX0_takeFrom_77 : decode cX0_takeFrom 77 = .ok (.getfield 29, 3) := by decide +kernel
theorem dX0_takeFrom_80 : decode cX0_takeFrom 80 = .ok (.iload_n 2, 1) := by decide +kernel
theorem dX0_takeFrom_81 : decode cX0_takeFrom 81 = .ok (.aaload, 1) := by decide +kernel
theorem dX0_takeFrom_82 : decode cX0_takeFrom 82 = .ok (.aload_n 1, 1) := by decide +kernel
theorem dX0_takeFrom_83 : decode cX0_takeFrom 83 = .ok (.getfield 29, 3) := by decide +kernel
theorem dX0_takeFrom_86 : decode cX0_takeFrom 86 = .ok (.iload_n 2, 1) := by decide +kernel
theorem dX0_takeFrom_87 : decode cX0_takeFrom 87 = .ok (.aaload, 1) := by decide +kernel
theorem dX0_takeFrom_88 : decode cX0_takeFrom 88 = .ok (.invokevirtual 49, 3) := by decide +kernel
theorem dX0_takeFrom_91 : decode cX0_takeFrom 91 = .ok (.iinc 2 1, 3) := by decide +kernel
theorem dX0_takeFrom_94 : decode cX0_takeFrom 94 = .ok (.goto (-36), 3) := by decide +kernel
theorem dX0_takeFrom_97 : decode cX0_takeFrom 97 = .ok (.aload_n 0, 1) := by decide +kernel
theorem dX0_takeFrom_98 : decode cX0_takeFrom 98 = .ok (.getfield 39, 3) := by decide +kernel
theorem dX0_takeFrom_101 : decode cX0_takeFrom 101 = .ok (.aload_n 1, 1) := by decide +kernel
theorem dX0_takeFrom_102 : decode cX0_takeFrom 102 = .ok (.getfield 39, 3) := by decide +kernel
theorem dX0_takeFrom_105 : decode cX0_takeFrom 105 = .ok (.invokevirtual 53, 3) := by decide +kernel
theorem dX0_takeFrom_108 : decode cX0_takeFrom 108 = .ok (.aload_n 0, 1) := by decide +kernel
theorem dX0_takeFrom_109 : decode cX0_takeFrom 109 = .ok (.aload_n 1, 1) := by decide +kernel
theorem dX0_takeFrom_110 : decode cX0_takeFrom 110 = .ok (.getfield 56, 3) := by decide +kernel
theorem dX0_takeFrom_113 : decode cX0_takeFrom 113 = .ok (.putfield 56, 3) := by decide +kernel
theorem dX0_takeFrom_116 : decode cX0_takeFrom 116 = .ok (.return_, 1) := by decide +kernel
theorem dX0_personAt_0 : decode cX0_personAt 0 = .ok (.iload_n 1, 1) := by decide +kernel
theorem dX0_personAt_1 : decode cX0_personAt 1 = .ok (.ifCond .lt 29, 3) := by decide +kernel
theorem dX0_personAt_4 : decode cX0_personAt 4 = .ok (.iload_n 1, 1) := by decide +kernel
theorem dX0_personAt_5 : decode cX0_personAt 5 = .ok (.aload_n 0, 1) := by decide +kernel
theorem dX0_personAt_6 : decode cX0_personAt 6 = .ok (.getfield 46, 3) := by decide +kernel
theorem dX0_personAt_9 : decode cX0_personAt 9 = .ok (.if_icmp .ge 21, 3) := by decide +kernel
theorem dX0_personAt_12 : decode cX0_personAt 12 = .ok (.iload_n 1, 1) := by decide +kernel
theorem dX0_personAt_13 : decode cX0_personAt 13 = .ok (.aload_n 0, 1) := by decide +kernel
theorem dX0_personAt_14 : decode cX0_personAt 14 = .ok (.getfield 29, 3) := by decide +kernel
theorem dX0_personAt_17 : decode cX0_personAt 17 = .ok (.arraylength, 1) := by decide +kernel
theorem dX0_personAt_18 : decode cX0_personAt 18 = .ok (.if_icmp .ge 12, 3) := by decide +kernel
theorem dX0_personAt_21 : decode cX0_personAt 21 = .ok (.aload_n 0, 1) := by decide +kernel
theorem dX0_personAt_22 : decode cX0_personAt 22 = .ok (.getfield 29, 3) := by decide +kernel
theorem dX0_personAt_25 : decode cX0_personAt 25 = .ok (.iload_n 1, 1) := by decide +kernel
theorem dX0_personAt_26 : decode cX0_personAt 26 = .ok (.aaload, 1) := by decide +kernel
theorem dX0_personAt_27 : decode cX0_personAt 27 = .ok (.goto 4, 3) := by decide +kernel
theorem dX0_personAt_30 : decode cX0_personAt 30 = .ok (.aconst_null, 1) := by decide +kernel
theorem dX0_personAt_31 : decode cX0_personAt 31 = .ok (.areturn, 1) := by decide +kernel
theorem dX0_allSteps_0 : decode cX0_allSteps 0 = .ok (.iconst 0, 1) := by decide +kernel
theorem dX0_allSteps_1 : decode cX0_allSteps 1 = .ok (.istore_n 1, 1) := by decide +kernel
theorem dX0_allSteps_2 : decode cX0_allSteps 2 = .ok (.iconst 0, 1) := by decide +kernel
theorem dX0_allSteps_3 : decode cX0_allSteps 3 = .ok (.istore_n 2, 1) := by decide +kernel
theorem dX0_allSteps_4 : decode cX0_allSteps 4 = .ok (.iload_n 2, 1) := by decide +kernel
theorem dX0_allSteps_5 : decode cX0_allSteps 5 = .ok (.aload_n 0, 1) := by decide +kernel
theorem dX0_allSteps_6 : decode cX0_allSteps 6 = .ok (.getfield 46, 3) := by decide +kernel
theorem dX0_allSteps_9 : decode cX0_allSteps 9 = .ok (.if_icmp .ge 30, 3) := by decide +kernel
theorem dX0_allSteps_12 : decode cX0_allSteps 12 = .ok (.iload_n 2, 1) := by decide +kernel
theorem dX0_allSteps_13 : decode cX0_allSteps 13 = .ok (.aload_n 0, 1) := by decide +kernel
theorem dX0_allSteps_14 : decode cX0_allSteps 14 = .ok (.getfield 29, 3) := by decide +kernel
theorem dX0_allSteps_17 : decode cX0_allSteps 17 = .ok (.arraylength, 1) := by decide +kernel
theorem dX0_allSteps_18 : decode cX0_allSteps 18 = .ok (.if_icmp .ge 21, 3) := by decide +kernel
theorem dX0_allSteps_21 : decode cX0_allSteps 21 = .ok (.iload_n 1, 1) := by decide +kernel
theorem dX0_allSteps_22 : decode cX0_allSteps 22 = .ok (.aload_n 0, 1) := by decide +kernel
theorem dX0_allSteps_23 : decode cX0_allSteps 23 = .ok (.getfield 29, 3) := by decide +kernel
theorem dX0_allSteps_26 : decode cX0_allSteps 26 = .ok (.iload_n 2, 1) := by decide +kernel
theorem dX0_allSteps_27 : decode cX0_allSteps 27 = .ok (.aaload, 1) := by decide +kernel
theorem dX0_allSteps_28 : decode cX0_allSteps 28 = .ok (.getfield 59, 3) := by decide +kernel
theorem dX0_allSteps_31 : decode cX0_allSteps 31 = .ok (.iadd, 1) := by decide +kernel
theorem dX0_allSteps_32 : decode cX0_allSteps 32 = .ok (.istore_n 1, 1) := by decide +kernel
theorem dX0_allSteps_33 : decode cX0_allSteps 33 = .ok (.iinc 2 1, 3) := by decide +kernel
theorem dX0_allSteps_36 : decode cX0_allSteps 36 = .ok (.goto (-32), 3) := by decide +kernel
theorem dX0_allSteps_39 : decode cX0_allSteps 39 = .ok (.iload_n 1, 1) := by decide +kernel
theorem dX0_allSteps_40 : decode cX0_allSteps 40 = .ok (.ireturn, 1) := by decide +kernel
set_option maxRecDepth 20000 in
theorem ggX0_canBe_X5_isOneOfTwo : GoodIn wsX0_canBe wsX5_isOneOfTwo := goodIn_r _ [3] (by decide +kernel) (by decide +kernel)
set_option maxRecDepth 20000 in
theorem gX0_canBe_X5_isOneOfTwo_n62 : GoodIn wsX0_canBe (wsX5_isOneOfTwo) := ggX0_canBe_X5_isOneOfTwo
theorem dX0_canBe_0 : decode cX0_canBe 0 = .ok (.iload_n 0, 1) := by decide +kernel
theorem dX0_canBe_1 : decode cX0_canBe 1 = .ok (.tableswitch 87 0 3 #[31, 47, 64, 82], 31) := by decide +kernel
theorem dX0_canBe_32 : decode cX0_canBe 32 = .ok (.iload_n 1, 1) := by decide +kernel
theorem dX0_canBe_33 : decode cX0_canBe 33 = .ok (.ifCond .lt 13, 3) := by decide +kernel
theorem dX0_canBe_36 : decode cX0_canBe 36 = .ok (.iload_n 1, 1) := by decide +kernel
theorem dX0_canBe_37 : decode cX0_canBe 37 = .ok (.bipush 20, 2) := by decide +kernel
theorem dX0_canBe_39 : decode cX0_canBe 39 = .ok (.if_icmp .gt 7, 3) := by decide +kernel
theorem dX0_canBe_42 : decode cX0_canBe 42 = .ok (.iconst 1, 1) := by decide +kernel
theorem dX0_canBe_43 : decode cX0_canBe 43 = .ok (.goto 4, 3) := by decide +kernel
theorem dX0_canBe_46 : decode cX0_canBe 46 = .ok (.iconst 0, 1) := by decide +kernel
theorem dX0_canBe_47 : decode cX0_canBe 47 = .ok (.ireturn, 1) := by decide +kernel
theorem dX0_canBe_48 : decode cX0_canBe 48 = .ok (.iload_n 1, 1) := by decide +kernel
theorem dX0_canBe_49 : decode cX0_canBe 49 = .ok (.iconst 1, 1) := by decide +kernel
theorem dX0_canBe_50 : decode cX0_canBe 50 = .ok (.if_icmp .lt 13, 3) := by decide +kernel
theorem dX0_canBe_53 : decode cX0_canBe 53 = .ok (.iload_n 1, 1) := by decide +kernel
theorem dX0_canBe_54 : decode cX0_canBe 54 = .ok (.bipush 20, 2) := by decide +kernel
theorem dX0_canBe_56 : decode cX0_canBe 56 = .ok (.if_icmp .gt 7, 3) := by decide +kernel
theorem dX0_canBe_59 : decode cX0_canBe 59 = .ok (.iconst 1, 1) := by decide +kernel
theorem dX0_canBe_60 : decode cX0_canBe 60 = .ok (.goto 4, 3) := by decide +kernel
theorem dX0_canBe_63 : decode cX0_canBe 63 = .ok (.iconst 0, 1) := by decide +kernel
theorem dX0_canBe_64 : decode cX0_canBe 64 = .ok (.ireturn, 1) := by decide +kernel
theorem dX0_canBe_65 : decode cX0_canBe 65 = .ok (.iload_n 1, 1) := by decide +kernel
theorem dX0_canBe_66 : decode cX0_canBe 66 = .ok (.iconst 1, 1) := by decide +kernel
theorem dX0_canBe_67 : decode cX0_canBe 67 = .ok (.if_icmp .lt 14, 3) := by decide +kernel
theorem dX0_canBe_70 : decode cX0_canBe 70 = .ok (.iload_n 1, 1) := by decide +kernel
theorem dX0_canBe_71 : decode cX0_canBe 71 = .ok (.sipush 1000, 3) := by decide +kernel
theorem dX0_canBe_74 : decode cX0_canBe 74 = .ok (.if_icmp .gt 7, 3) := by decide +kernel
theorem dX0_canBe_77 : decode cX0_canBe 77 = .ok (.iconst 1, 1) := by decide +kernel
theorem dX0_canBe_78 : decode cX0_canBe 78 = .ok (.goto 4, 3) := by decide +kernel
theorem dX0_canBe_81 : decode cX0_canBe 81 = .ok (.iconst 0, 1) := by decide +kernel
theorem dX0_canBe_82 : decode cX0_canBe 82 = .ok (.ireturn, 1) := by decide +kernel
theorem dX0_canBe_83 : decode cX0_canBe 83 = .ok (.iload_n 1, 1) := by decide +kernel
theorem dX0_canBe_84 : decode cX0_canBe 84 = .ok (.invokestatic 62, 3) := by decide +kernel
theorem dX0_canBe_87 : decode cX0_canBe 87 = .ok (.ireturn, 1) := by decide +kernel
theorem dX0_canBe_88 : decode cX0_canBe 88 = .ok (.iload_n 0, 1) := by decide +kernel
theorem dX0_canBe_89 : decode cX0_canBe 89 = .ok (.iconst 4, 1) := by decide +kernel
theorem dX0_canBe_90 : decode cX0_canBe 90 = .ok (.if_icmp .ne 7, 3) := by decide +kernel
theorem dX0_canBe_93 : decode cX0_canBe 93 = .ok (.iconst 1, 1) := by decide +kernel
theorem dX0_canBe_94 : decode cX0_canBe 94 = .ok (.goto 4, 3) := by decide +kernel
theorem dX0_canBe_97 : decode cX0_canBe 97 = .ok (.iconst 0, 1) := by decide +kernel
theorem dX0_canBe_98 : decode cX0_canBe 98 = .ok (.ireturn, 1) := by decide +kernel
theorem dX0_setting_0 : decode cX0_setting 0 = .ok (.iload_n 1, 1) := by decide +kernel
theorem dX0_setting_1 : decode cX0_setting 1 = .ok (.tableswitch 51 0 3 #[31, 36, 41, 46], 31) := by decide +kernel
theorem dX0_setting_32 : decode cX0_setting 32 = .ok (.aload_n 0, 1) := by decide +kernel
theorem dX0_setting_33 : decode cX0_setting 33 = .ok (.getfield 9, 3) := by decide +kernel
theorem dX0_setting_36 : decode cX0_setting 36 = .ok (.ireturn, 1) := by decide +kernel
theorem dX0_setting_37 : decode cX0_setting 37 = .ok (.aload_n 0, 1) := by decide +kernel
theorem dX0_setting_38 : decode cX0_setting 38 = .ok (.getfield 15, 3) := by decide +kernel
theorem dX0_setting_41 : decode cX0_setting 41 = .ok (.ireturn, 1) := by decide +kernel
theorem dX0_setting_42 : decode cX0_setting 42 = .ok (.aload_n 0, 1) := by decide +kernel
theorem dX0_setting_43 : decode cX0_setting 43 = .ok (.getfield 18, 3) := by decide +kernel
theorem dX0_setting_46 : decode cX0_setting 46 = .ok (.ireturn, 1) := by decide +kernel
theorem dX0_setting_47 : decode cX0_setting 47 = .ok (.aload_n 0, 1) := by decide +kernel
theorem dX0_setting_48 : decode cX0_setting 48 = .ok (.getfield 21, 3) := by decide +kernel
theorem dX0_setting_51 : decode cX0_setting 51 = .ok (.ireturn, 1) := by decide +kernel
theorem dX0_setting_52 : decode cX0_setting 52 = .ok (.aload_n 0, 1) := by decide +kernel
theorem dX0_setting_53 : decode cX0_setting 53 = .ok (.getfield 24, 3) := by decide +kernel
theorem dX0_setting_56 : decode cX0_setting 56 = .ok (.ireturn, 1) := by decide +kernel
theorem dX0_change_0 : decode cX0_change 0 = .ok (.iload_n 1, 1) := by decide +kernel
theorem dX0_change_1 : decode cX0_change 1 = .ok (.tableswitch 63 0 3 #[31, 39, 47, 55], 31) := by decide +kernel
theorem dX0_change_32 : decode cX0_change 32 = .ok (.aload_n 0, 1) := by decide +kernel
theorem dX0_change_33 : decode cX0_change 33 = .ok (.iload_n 2, 1) := by decide +kernel
theorem dX0_change_34 : decode cX0_change 34 = .ok (.putfield 9, 3) := by decide +kernel
theorem dX0_change_37 : decode cX0_change 37 = .ok (.goto 32, 3) := by decide +kernel
theorem dX0_change_40 : decode cX0_change 40 = .ok (.aload_n 0, 1) := by decide +kernel
theorem dX0_change_41 : decode cX0_change 41 = .ok (.iload_n 2, 1) := by decide +kernel
theorem dX0_change_42 : decode cX0_change 42 = .ok (.putfield 15, 3) := by decide +kernel
theorem dX0_change_45 : decode cX0_change 45 = .ok (.goto 24, 3) := by decide +kernel
theorem dX0_change_48 : decode cX0_change 48 = .ok (.aload_n 0, 1) := by decide +kernel
theorem dX0_change_49 : decode cX0_change 49 = .ok (.iload_n 2, 1) := by decide +kernel
theorem dX0_change_50 : decode cX0_change 50 = .ok (.putfield 18, 3) := by decide +kernel
theorem dX0_change_53 : decode cX0_change 53 = .ok (.goto 16, 3) := by decide +kernel
theorem dX0_change_56 : decode cX0_change 56 = .ok (.aload_n 0, 1) := by decide +kernel
theorem dX0_change_57 : decode cX0_change 57 = .ok (.iload_n 2, 1) := by decide +kernel
theorem dX0_change_58 : decode cX0_change 58 = .ok (.putfield 21, 3) := by decide +kernel
theorem dX0_change_61 : decode cX0_change 61 = .ok (.goto 8, 3) := by decide +kernel
theorem dX0_change_64 : decode cX0_change 64 = .ok (.aload_n 0, 1) := by decide +kernel
theorem dX0_change_65 : decode cX0_change 65 = .ok (.iload_n 2, 1) := by decide +kernel
theorem dX0_change_66 : decode cX0_change 66 = .ok (.putfield 24, 3) := by decide +kernel
theorem dX0_change_69 : decode cX0_change 69 = .ok (.return_, 1) := by decide +kernel
set_option maxRecDepth 20000 in
theorem ggX0_follows_X0_addPerson : GoodIn wsX0_follows wsX0_addPerson := goodIn_r _ [10, 11, 12, 13, 14, 15, 16, 17, 18, 19, 20, 21, 22, 23, 24, 43, 44, 45, 46, 47, 48, 49, 50, 51, 52, 60, 61, 62, 63] (by decide +kernel) (by decide +kernel)
set_option maxRecDepth 20000 in
theorem gX0_follows_X0_addPerson : GoodIn wsX0_follows (wsV RX0 80 RX0 yX0_addPerson wsX0_addPerson) := goodIn_app (goodIn_of _ (by decide +kernel)) ggX0_follows_X0_addPerson
set_option maxRecDepth 20000 in
theorem ggX0_follows_X0_changeIfCanBe : GoodIn wsX0_follows wsX0_changeIfCanBe := goodIn_r _ [28, 29, 30, 9, 31, 32, 14, 33, 34, 35, 36, 37, 38, 39, 40, 41, 42, 43, 44, 45, 46, 47, 48, 49, 50, 51, 52] (by decide +kernel) (by decide +kernel)
set_option maxRecDepth 20000 in
theorem gX0_follows_X0_changeIfCanBe : GoodIn wsX0_follows (wsV RX0 84 RX0 yX0_changeIfCanBe wsX0_changeIfCanBe) := goodIn_app (goodIn_of _ (by decide +kernel)) ggX0_follows_X0_changeIfCanBe
theorem dX0_follows_0 : decode cX0_follows 0 = .ok (.aload_n 0, 1) := by decide +kernel
theorem dX0_follows_1 : decode cX0_follows 1 = .ok (.getfield 43, 3) := by decide +kernel
theorem dX0_follows_4 : decode cX0_follows 4 = .ok (.ifCond .le 5, 3) := by decide +kernel
theorem dX0_follows_7 : decode cX0_follows 7 = .ok (.iconst 0, 1) := by decide +kernel
theorem dX0_follows_8 : decode cX0_follows 8 = .ok (.ireturn, 1) := by decide +kernel
theorem dX0_follows_9 : decode cX0_follows 9 = .ok (.aload_n 1, 1) := by decide +kernel
theorem dX0_follows_10 : decode cX0_follows 10 = .ok (.getfield 66, 3) := by decide +kernel
theorem dX0_follows_13 : decode cX0_follows 13 = .ok (.lookupswitch 107 #[(98, 100), (103, 60), (104, 90), (112, 43)], 43) := by decide +kernel
theorem dX0_follows_56 : decode cX0_follows 56 = .ok (.aload_n 0, 1) := by decide +kernel
theorem dX0_follows_57 : decode cX0_follows 57 = .ok (.aload_n 1, 1) := by decide +kernel
theorem dX0_follows_58 : decode cX0_follows 58 = .ok (.getfield 71, 3) := by decide +kernel
theorem dX0_follows_61 : decode cX0_follows 61 = .ok (.aload_n 1, 1) := by decide +kernel
theorem dX0_follows_62 : decode cX0_follows 62 = .ok (.getfield 74, 3) := by decide +kernel
theorem dX0_follows_65 : decode cX0_follows 65 = .ok (.aload_n 1, 1) := by decide +kernel
theorem dX0_follows_66 : decode cX0_follows 66 = .ok (.getfield 77, 3) := by decide +kernel
theorem dX0_follows_69 : decode cX0_follows 69 = .ok (.invokevirtual 80, 3) := by decide +kernel
theorem dX0_follows_72 : decode cX0_follows 72 = .ok (.ireturn, 1) := by decide +kernel
theorem dX0_follows_73 : decode cX0_follows 73 = .ok (.aload_n 0, 1) := by decide +kernel
theorem dX0_follows_74 : decode cX0_follows 74 = .ok (.iconst 0, 1) := by decide +kernel
theorem dX0_follows_75 : decode cX0_follows 75 = .ok (.aload_n 1, 1) := by decide +kernel
theorem dX0_follows_76 : decode cX0_follows 76 = .ok (.getfield 71, 3) := by decide +kernel
theorem dX0_follows_79 : decode cX0_follows 79 = .ok (.invokevirtual 84, 3) := by decide +kernel
theorem dX0_follows_82 : decode cX0_follows 82 = .ok (.ifCond .eq 19, 3) := by decide +kernel
theorem dX0_follows_85 : decode cX0_follows 85 = .ok (.aload_n 0, 1) := by decide +kernel
theorem dX0_follows_86 : decode cX0_follows 86 = .ok (.iconst 1, 1) := by decide +kernel
theorem dX0_follows_87 : decode cX0_follows 87 = .ok (.aload_n 1, 1) := by decide +kernel
theorem dX0_follows_88 : decode cX0_follows 88 = .ok (.getfield 74, 3) := by decide +kernel
theorem dX0_follows_91 : decode cX0_follows 91 = .ok (.invokevirtual 84, 3) := by decide +kernel
theorem dX0_follows_94 : decode cX0_follows 94 = .ok (.ifCond .eq 7, 3) := by decide +kernel
theorem dX0_follows_97 : decode cX0_follows 97 = .ok (.iconst 1, 1) := by decide +kernel
theorem dX0_follows_98 : decode cX0_follows 98 = .ok (.goto 4, 3) := by decide +kernel
theorem dX0_follows_101 : decode cX0_follows 101 = .ok (.iconst 0, 1) := by decide +kernel
theorem dX0_follows_102 : decode cX0_follows 102 = .ok (.ireturn, 1) := by decide +kernel
theorem dX0_follows_103 : decode cX0_follows 103 = .ok (.aload_n 0, 1) := by decide +kernel
theorem dX0_follows_104 : decode cX0_follows 104 = .ok (.iconst 2, 1) := by decide +kernel
theorem dX0_follows_105 : decode cX0_follows 105 = .ok (.aload_n 1, 1) := by decide +kernel
theorem dX0_follows_106 : decode cX0_follows 106 = .ok (.getfield 71, 3) := by decide +kernel
theorem dX0_follows_109 : decode cX0_follows 109 = .ok (.invokevirtual 84, 3) := by decide +kernel
theorem dX0_follows_112 : decode cX0_follows 112 = .ok (.ireturn, 1) := by decide +kernel
theorem dX0_follows_113 : decode cX0_follows 113 = .ok (.aload_n 0, 1) := by decide +kernel
theorem dX0_follows_114 : decode cX0_follows 114 = .ok (.iconst 3, 1) := by decide +kernel
theorem dX0_follows_115 : decode cX0_follows 115 = .ok (.iconst 1, 1) := by decide +kernel
theorem dX0_follows_116 : decode cX0_follows 116 = .ok (.invokevirtual 84, 3) := by decide +kernel
theorem dX0_follows_119 : decode cX0_follows 119 = .ok (.ireturn, 1) := by decide +kernel
theorem dX0_follows_120 : decode cX0_follows 120 = .ok (.aload_n 0, 1) := by decide +kernel
theorem dX0_follows_121 : decode cX0_follows 121 = .ok (.iconst 3, 1) := by decide +kernel
theorem dX0_follows_122 : decode cX0_follows 122 = .ok (.iconst 0, 1) := by decide +kernel
theorem dX0_follows_123 : decode cX0_follows 123 = .ok (.invokevirtual 84, 3) := by decide +kernel
theorem dX0_follows_126 : decode cX0_follows 126 = .ok (.ireturn, 1) := by decide +kernel
set_option maxRecDepth 20000 in
theorem ggX0_changeIfCanBe_X0_canBe : GoodIn wsX0_changeIfCanBe wsX0_canBe := goodIn_r _ [4, 5, 6, 7] (by decide +kernel) (by decide +kernel)
set_option maxRecDepth 20000 in
theorem gX0_changeIfCanBe_X0_canBe : GoodIn wsX0_changeIfCanBe (va_wsS RX0 88 yX0_canBe wsX0_canBe) := goodIn_app (goodIn_of _ (by decide +kernel)) ggX0_changeIfCanBe_X0_canBe
set_option maxRecDepth 20000 in
theorem ggX0_changeIfCanBe_X0_change : GoodIn wsX0_changeIfCanBe wsX0_change := goodIn_r _ [11, 12, 13, 14, 15, 16, 17, 18, 19, 20, 21, 22, 23, 24, 25, 26] (by decide +kernel) (by decide +kernel)
set_option maxRecDepth 20000 in
theorem gX0_changeIfCanBe_X0_change : GoodIn wsX0_changeIfCanBe (wsV RX0 91 RX0 yX0_change wsX0_change) := goodIn_app (goodIn_of _ (by decide +kernel)) ggX0_changeIfCanBe_X0_change
theorem dX0_changeIfCanBe_0 : decode cX0_changeIfCanBe 0 = .ok (.iload_n 1, 1) := by decide +kernel
theorem dX0_changeIfCanBe_1 : decode cX0_changeIfCanBe 1 = .ok (.iload_n 2, 1) := by decide +kernel
theorem dX0_changeIfCanBe_2 : decode cX0_changeIfCanBe 2 = .ok (.invokestatic 88, 3) := by decide +kernel
theorem dX0_changeIfCanBe_5 : decode cX0_changeIfCanBe 5 = .ok (.ifCond .ne 5, 3) := by decide +kernel
theorem dX0_changeIfCanBe_8 : decode cX0_changeIfCanBe 8 = .ok (.iconst 0, 1) := by decide +kernel
theorem dX0_changeIfCanBe_9 : decode cX0_changeIfCanBe 9 = .ok (.ireturn, 1) := by decide +kernel
theorem dX0_changeIfCanBe_10 : decode cX0_changeIfCanBe 10 = .ok (.aload_n 0, 1) := by decide +kernel
theorem dX0_changeIfCanBe_11 : decode cX0_changeIfCanBe 11 = .ok (.iload_n 1, 1) := by decide +kernel
theorem dX0_changeIfCanBe_12 : decode cX0_changeIfCanBe 12 = .ok (.iload_n 2, 1) := by decide +kernel
theorem dX0_changeIfCanBe_13 : decode cX0_changeIfCanBe 13 = .ok (.invokevirtual 91, 3) := by decide +kernel
theorem dX0_changeIfCanBe_16 : decode cX0_changeIfCanBe 16 = .ok (.iconst 1, 1) := by decide +kernel
theorem dX0_changeIfCanBe_17 : decode cX0_changeIfCanBe 17 = .ok (.ireturn, 1) := by decide +kernel
set_option maxRecDepth 20000 in
theorem ggX0_addPerson_X5_isStepCount : GoodIn wsX0_addPerson wsX5_isStepCount := goodIn_r _ [5] (by decide +kernel) (by decide +kernel)
set_option maxRecDepth 20000 in
theorem gX0_addPerson_X5_isStepCount_n95 : GoodIn wsX0_addPerson (wsX5_isStepCount) := ggX0_addPerson_X5_isStepCount
set_option maxRecDepth 20000 in
theorem ggX0_addPerson_X1_begin : GoodIn wsX0_addPerson wsX1_begin := goodIn_r _ [10, 11, 12, 13, 14, 25, 26, 27, 28] (by decide +kernel) (by decide +kernel)
set_option maxRecDepth 20000 in
theorem gX0_addPerson_X1_begin : GoodIn wsX0_addPerson (wsV RX0 98 RX1 yX1_begin wsX1_begin) := goodIn_app (goodIn_of _ (by decide +kernel)) ggX0_addPerson_X1_begin
theorem dX0_addPerson_0 : decode cX0_addPerson 0 = .ok (.iload_n 1, 1) := by decide +kernel
theorem dX0_addPerson_1 : decode cX0_addPerson 1 = .ok (.ifCond .lt 34, 3) := by decide +kernel
theorem dX0_addPerson_4 : decode cX0_addPerson 4 = .ok (.iload_n 1, 1) := by decide +kernel
theorem dX0_addPerson_5 : decode cX0_addPerson 5 = .ok (.bipush 7, 2) := by decide +kernel
theorem dX0_addPerson_7 : decode cX0_addPerson 7 = .ok (.if_icmp .gt 28, 3) := by decide +kernel
theorem dX0_addPerson_10 : decode cX0_addPerson 10 = .ok (.iload_n 2, 1) := by decide +kernel
theorem dX0_addPerson_11 : decode cX0_addPerson 11 = .ok (.invokestatic 95, 3) := by decide +kernel
theorem dX0_addPerson_14 : decode cX0_addPerson 14 = .ok (.ifCond .eq 21, 3) := by decide +kernel
theorem dX0_addPerson_17 : decode cX0_addPerson 17 = .ok (.iload_n 3, 1) := by decide +kernel
theorem dX0_addPerson_18 : decode cX0_addPerson 18 = .ok (.bipush 20, 2) := by decide +kernel
theorem dX0_addPerson_20 : decode cX0_addPerson 20 = .ok (.if_icmp .gt 15, 3) := by decide +kernel
theorem dX0_addPerson_23 : decode cX0_addPerson 23 = .ok (.aload_n 0, 1) := by decide +kernel
theorem dX0_addPerson_24 : decode cX0_addPerson 24 = .ok (.getfield 46, 3) := by decide +kernel
theorem dX0_addPerson_27 : decode cX0_addPerson 27 = .ok (.aload_n 0, 1) := by decide +kernel
theorem dX0_addPerson_28 : decode cX0_addPerson 28 = .ok (.getfield 29, 3) := by decide +kernel
theorem dX0_addPerson_31 : decode cX0_addPerson 31 = .ok (.arraylength, 1) := by decide +kernel
theorem dX0_addPerson_32 : decode cX0_addPerson 32 = .ok (.if_icmp .lt 5, 3) := by decide +kernel
theorem dX0_addPerson_35 : decode cX0_addPerson 35 = .ok (.iconst 0, 1) := by decide +kernel
theorem dX0_addPerson_36 : decode cX0_addPerson 36 = .ok (.ireturn, 1) := by decide +kernel
theorem dX0_addPerson_37 : decode cX0_addPerson 37 = .ok (.aload_n 0, 1) := by decide +kernel
theorem dX0_addPerson_38 : decode cX0_addPerson 38 = .ok (.getfield 29, 3) := by decide +kernel
theorem dX0_addPerson_41 : decode cX0_addPerson 41 = .ok (.aload_n 0, 1) := by decide +kernel
theorem dX0_addPerson_42 : decode cX0_addPerson 42 = .ok (.getfield 46, 3) := by decide +kernel
theorem dX0_addPerson_45 : decode cX0_addPerson 45 = .ok (.aaload, 1) := by decide +kernel
theorem dX0_addPerson_46 : decode cX0_addPerson 46 = .ok (.aload_n 0, 1) := by decide +kernel
theorem dX0_addPerson_47 : decode cX0_addPerson 47 = .ok (.getfield 46, 3) := by decide +kernel
theorem dX0_addPerson_50 : decode cX0_addPerson 50 = .ok (.iload_n 1, 1) := by decide +kernel
theorem dX0_addPerson_51 : decode cX0_addPerson 51 = .ok (.iload_n 2, 1) := by decide +kernel
theorem dX0_addPerson_52 : decode cX0_addPerson 52 = .ok (.iload_n 3, 1) := by decide +kernel
theorem dX0_addPerson_53 : decode cX0_addPerson 53 = .ok (.invokevirtual 98, 3) := by decide +kernel
theorem dX0_addPerson_56 : decode cX0_addPerson 56 = .ok (.aload_n 0, 1) := by decide +kernel
theorem dX0_addPerson_57 : decode cX0_addPerson 57 = .ok (.dup, 1) := by decide +kernel
theorem dX0_addPerson_58 : decode cX0_addPerson 58 = .ok (.getfield 46, 3) := by decide +kernel
theorem dX0_addPerson_61 : decode cX0_addPerson 61 = .ok (.iconst 1, 1) := by decide +kernel
theorem dX0_addPerson_62 : decode cX0_addPerson 62 = .ok (.iadd, 1) := by decide +kernel
theorem dX0_addPerson_63 : decode cX0_addPerson 63 = .ok (.putfield 46, 3) := by decide +kernel
theorem dX0_addPerson_66 : decode cX0_addPerson 66 = .ok (.iconst 1, 1) := by decide +kernel
theorem dX0_addPerson_67 : decode cX0_addPerson 67 = .ok (.ireturn, 1) := by decide +kernel
theorem dX0_drawBelow_0 : decode cX0_drawBelow 0 = .ok (.aload_n 0, 1) := by decide +kernel
theorem dX0_drawBelow_1 : decode cX0_drawBelow 1 = .ok (.aload_n 0, 1) := by decide +kernel
theorem dX0_drawBelow_2 : decode cX0_drawBelow 2 = .ok (.getfield 24, 3) := by decide +kernel
theorem dX0_drawBelow_5 : decode cX0_drawBelow 5 = .ok (.ldc 102, 2) := by decide +kernel
theorem dX0_drawBelow_7 : decode cX0_drawBelow 7 = .ok (.imul, 1) := by decide +kernel
theorem dX0_drawBelow_8 : decode cX0_drawBelow 8 = .ok (.sipush 12345, 3) := by decide +kernel
theorem dX0_drawBelow_11 : decode cX0_drawBelow 11 = .ok (.iadd, 1) := by decide +kernel
theorem dX0_drawBelow_12 : decode cX0_drawBelow 12 = .ok (.putfield 24, 3) := by decide +kernel
theorem dX0_drawBelow_15 : decode cX0_drawBelow 15 = .ok (.aload_n 0, 1) := by decide +kernel
theorem dX0_drawBelow_16 : decode cX0_drawBelow 16 = .ok (.getfield 24, 3) := by decide +kernel
theorem dX0_drawBelow_19 : decode cX0_drawBelow 19 = .ok (.ldc 103, 2) := by decide +kernel
theorem dX0_drawBelow_21 : decode cX0_drawBelow 21 = .ok (.iand, 1) := by decide +kernel
theorem dX0_drawBelow_22 : decode cX0_drawBelow 22 = .ok (.ldc 104, 2) := by decide +kernel
theorem dX0_drawBelow_24 : decode cX0_drawBelow 24 = .ok (.idiv, 1) := by decide +kernel
theorem dX0_drawBelow_25 : decode cX0_drawBelow 25 = .ok (.istore_n 2, 1) := by decide +kernel
theorem dX0_drawBelow_26 : decode cX0_drawBelow 26 = .ok (.iload_n 1, 1) := by decide +kernel
theorem dX0_drawBelow_27 : decode cX0_drawBelow 27 = .ok (.iconst 1, 1) := by decide +kernel
theorem dX0_drawBelow_28 : decode cX0_drawBelow 28 = .ok (.if_icmp .ge 7, 3) := by decide +kernel
theorem dX0_drawBelow_31 : decode cX0_drawBelow 31 = .ok (.iconst 0, 1) := by decide +kernel
theorem dX0_drawBelow_32 : decode cX0_drawBelow 32 = .ok (.goto 6, 3) := by decide +kernel
theorem dX0_drawBelow_35 : decode cX0_drawBelow 35 = .ok (.iload_n 2, 1) := by decide +kernel
theorem dX0_drawBelow_36 : decode cX0_drawBelow 36 = .ok (.iload_n 1, 1) := by decide +kernel
theorem dX0_drawBelow_37 : decode cX0_drawBelow 37 = .ok (.irem, 1) := by decide +kernel
theorem dX0_drawBelow_38 : decode cX0_drawBelow 38 = .ok (.ireturn, 1) := by decide +kernel
theorem dX0_heldToCards_0 : decode cX0_heldToCards 0 = .ok (.iload_n 1, 1) := by decide +kernel
theorem dX0_heldToCards_1 : decode cX0_heldToCards 1 = .ok (.ifCond .ge 5, 3) := by decide +kernel
theorem dX0_heldToCards_4 : decode cX0_heldToCards 4 = .ok (.iconst 0, 1) := by decide +kernel
theorem dX0_heldToCards_5 : decode cX0_heldToCards 5 = .ok (.ireturn, 1) := by decide +kernel
theorem dX0_heldToCards_6 : decode cX0_heldToCards 6 = .ok (.iload_n 1, 1) := by decide +kernel
theorem dX0_heldToCards_7 : decode cX0_heldToCards 7 = .ok (.aload_n 0, 1) := by decide +kernel
theorem dX0_heldToCards_8 : decode cX0_heldToCards 8 = .ok (.getfield 18, 3) := by decide +kernel
theorem dX0_heldToCards_11 : decode cX0_heldToCards 11 = .ok (.if_icmp .le 10, 3) := by decide +kernel
theorem dX0_heldToCards_14 : decode cX0_heldToCards 14 = .ok (.aload_n 0, 1) := by decide +kernel
theorem dX0_heldToCards_15 : decode cX0_heldToCards 15 = .ok (.getfield 18, 3) := by decide +kernel
theorem dX0_heldToCards_18 : decode cX0_heldToCards 18 = .ok (.goto 4, 3) := by decide +kernel
theorem dX0_heldToCards_21 : decode cX0_heldToCards 21 = .ok (.iload_n 1, 1) := by decide +kernel
theorem dX0_heldToCards_22 : decode cX0_heldToCards 22 = .ok (.ireturn, 1) := by decide +kernel
theorem dX0_middle_0 : decode cX0_middle 0 = .ok (.aload_n 0, 1) := by decide +kernel
theorem dX0_middle_1 : decode cX0_middle 1 = .ok (.getfield 18, 3) := by decide +kernel
theorem dX0_middle_4 : decode cX0_middle 4 = .ok (.iconst 2, 1) := by decide +kernel
theorem dX0_middle_5 : decode cX0_middle 5 = .ok (.idiv, 1) := by decide +kernel
theorem dX0_middle_6 : decode cX0_middle 6 = .ok (.ireturn, 1) := by decide +kernel
set_option maxRecDepth 20000 in
theorem ggX0_shareOf_X5_over : GoodIn wsX0_shareOf wsX5_over := goodIn_r _ [5] (by decide +kernel) (by decide +kernel)
set_option maxRecDepth 20000 in
theorem gX0_shareOf_X5_over_n105 : GoodIn wsX0_shareOf (wsX5_over) := ggX0_shareOf_X5_over
set_option maxRecDepth 20000 in
theorem ggX0_shareOf_X0_heldToCards : GoodIn wsX0_shareOf wsX0_heldToCards := goodIn_r _ [10, 11, 12, 13, 14, 15, 16, 17, 18, 19, 20, 21] (by decide +kernel) (by decide +kernel)
set_option maxRecDepth 20000 in
theorem gX0_shareOf_X0_heldToCards : GoodIn wsX0_shareOf (wsV RX0 109 RX0 yX0_heldToCards wsX0_heldToCards) := goodIn_app (goodIn_of _ (by decide +kernel)) ggX0_shareOf_X0_heldToCards
theorem dX0_shareOf_0 : decode cX0_shareOf 0 = .ok (.aload_n 0, 1) := by decide +kernel
theorem dX0_shareOf_1 : decode cX0_shareOf 1 = .ok (.aload_n 0, 1) := by decide +kernel
theorem dX0_shareOf_2 : decode cX0_shareOf 2 = .ok (.getfield 9, 3) := by decide +kernel
theorem dX0_shareOf_5 : decode cX0_shareOf 5 = .ok (.iload_n 1, 1) := by decide +kernel
theorem dX0_shareOf_6 : decode cX0_shareOf 6 = .ok (.imul, 1) := by decide +kernel
theorem dX0_shareOf_7 : decode cX0_shareOf 7 = .ok (.aload_n 0, 1) := by decide +kernel
theorem dX0_shareOf_8 : decode cX0_shareOf 8 = .ok (.getfield 15, 3) := by decide +kernel
theorem dX0_shareOf_11 : decode cX0_shareOf 11 = .ok (.invokestatic 105, 3) := by decide +kernel
theorem dX0_shareOf_14 : decode cX0_shareOf 14 = .ok (.invokevirtual 109, 3) := by decide +kernel
theorem dX0_shareOf_17 : decode cX0_shareOf 17 = .ok (.ireturn, 1) := by decide +kernel
set_option maxRecDepth 20000 in
theorem ggX0_stepped_X0_middle : GoodIn wsX0_stepped wsX0_middle := goodIn_r _ [5, 6, 24, 25, 26, 27, 28, 29, 30, 31, 32, 33] (by decide +kernel) (by decide +kernel)
set_option maxRecDepth 20000 in
theorem gX0_stepped_X0_middle : GoodIn wsX0_stepped (wsV RX0 113 RX0 yX0_middle wsX0_middle) := goodIn_app (goodIn_of _ (by decide +kernel)) ggX0_stepped_X0_middle
set_option maxRecDepth 20000 in
theorem ggX0_stepped_X0_sharedTimes : GoodIn wsX0_stepped wsX0_sharedTimes := goodIn_r _ [10, 11, 12, 13, 4, 14, 15, 16, 17, 18, 19, 20, 21, 22, 23, 6, 24, 25, 26, 27, 28, 29, 30, 31, 32, 33] (by decide +kernel) (by decide +kernel)
set_option maxRecDepth 20000 in
theorem gX0_stepped_X0_sharedTimes : GoodIn wsX0_stepped (wsV RX0 117 RX0 yX0_sharedTimes wsX0_sharedTimes) := goodIn_app (goodIn_of _ (by decide +kernel)) ggX0_stepped_X0_sharedTimes
theorem dX0_stepped_0 : decode cX0_stepped 0 = .ok (.aload_n 0, 1) := by decide +kernel
theorem dX0_stepped_1 : decode cX0_stepped 1 = .ok (.aload_n 0, 1) := by decide +kernel
theorem dX0_stepped_2 : decode cX0_stepped 2 = .ok (.invokevirtual 113, 3) := by decide +kernel
theorem dX0_stepped_5 : decode cX0_stepped 5 = .ok (.iload_n 1, 1) := by decide +kernel
theorem dX0_stepped_6 : decode cX0_stepped 6 = .ok (.invokevirtual 117, 3) := by decide +kernel
theorem dX0_stepped_9 : decode cX0_stepped 9 = .ok (.ireturn, 1) := by decide +kernel
set_option maxRecDepth 20000 in
theorem ggX0_sharedTimes_X0_shareOf : GoodIn wsX0_sharedTimes wsX0_shareOf := goodIn_r _ [5, 6, 7, 8, 9, 10, 11, 12, 13, 4, 14, 15, 16, 17, 18, 19, 20, 21, 22, 23, 24, 25] (by decide +kernel) (by decide +kernel)
set_option maxRecDepth 20000 in
theorem gX0_sharedTimes_X0_shareOf : GoodIn wsX0_sharedTimes (wsV RX0 120 RX0 yX0_shareOf wsX0_shareOf) := goodIn_app (goodIn_of _ (by decide +kernel)) ggX0_sharedTimes_X0_shareOf
theorem dX0_sharedTimes_0 : decode cX0_sharedTimes 0 = .ok (.iload_n 1, 1) := by decide +kernel
theorem dX0_sharedTimes_1 : decode cX0_sharedTimes 1 = .ok (.istore_n 3, 1) := by decide +kernel
theorem dX0_sharedTimes_2 : decode cX0_sharedTimes 2 = .ok (.iconst 0, 1) := by decide +kernel
theorem dX0_sharedTimes_3 : decode cX0_sharedTimes 3 = .ok (.istore 4, 2) := by decide +kernel
theorem dX0_sharedTimes_5 : decode cX0_sharedTimes 5 = .ok (.iload 4, 2) := by decide +kernel
theorem dX0_sharedTimes_7 : decode cX0_sharedTimes 7 = .ok (.iload_n 2, 1) := by decide +kernel
theorem dX0_sharedTimes_8 : decode cX0_sharedTimes 8 = .ok (.if_icmp .ge 15, 3) := by decide +kernel
theorem dX0_sharedTimes_11 : decode cX0_sharedTimes 11 = .ok (.aload_n 0, 1) := by decide +kernel
theorem dX0_sharedTimes_12 : decode cX0_sharedTimes 12 = .ok (.iload_n 3, 1) := by decide +kernel
theorem dX0_sharedTimes_13 : decode cX0_sharedTimes 13 = .ok (.invokevirtual 120, 3) := by decide +kernel
theorem dX0_sharedTimes_16 : decode cX0_sharedTimes 16 = .ok (.istore_n 3, 1) := by decide +kernel
theorem dX0_sharedTimes_17 : decode cX0_sharedTimes 17 = .ok (.iinc 4 1, 3) := by decide +kernel
theorem dX0_sharedTimes_20 : decode cX0_sharedTimes 20 = .ok (.goto (-15), 3) := by decide +kernel
theorem dX0_sharedTimes_23 : decode cX0_sharedTimes 23 = .ok (.iload_n 3, 1) := by decide +kernel
theorem dX0_sharedTimes_24 : decode cX0_sharedTimes 24 = .ok (.ireturn, 1) := by decide +kernel
set_option maxRecDepth 20000 in
theorem ggX0_mixed_X0_middle : GoodIn wsX0_mixed wsX0_middle := goodIn_r _ [5, 6, 20, 21, 22, 23, 24, 25, 26, 27, 28, 29] (by decide +kernel) (by decide +kernel)
set_option maxRecDepth 20000 in
theorem gX0_mixed_X0_middle : GoodIn wsX0_mixed (wsV RX0 113 RX0 yX0_middle wsX0_middle) := goodIn_app (goodIn_of _ (by decide +kernel)) ggX0_mixed_X0_middle
set_option maxRecDepth 20000 in
theorem ggX0_mixed_X5_over : GoodIn wsX0_mixed wsX5_over := goodIn_r _ [9] (by decide +kernel) (by decide +kernel)
set_option maxRecDepth 20000 in
theorem gX0_mixed_X5_over_n105 : GoodIn wsX0_mixed (wsX5_over) := ggX0_mixed_X5_over
set_option maxRecDepth 20000 in
theorem ggX0_mixed_X0_shareOf : GoodIn wsX0_mixed wsX0_shareOf := goodIn_r _ [13, 14, 15, 7, 8, 9, 16, 17, 18, 4, 19, 6, 20, 21, 22, 23, 24, 25, 26, 27, 28, 29] (by decide +kernel) (by decide +kernel)
set_option maxRecDepth 20000 in
theorem gX0_mixed_X0_shareOf : GoodIn wsX0_mixed (wsV RX0 120 RX0 yX0_shareOf wsX0_shareOf) := goodIn_app (goodIn_of _ (by decide +kernel)) ggX0_mixed_X0_shareOf
theorem dX0_mixed_0 : decode cX0_mixed 0 = .ok (.aload_n 0, 1) := by decide +kernel
theorem dX0_mixed_1 : decode cX0_mixed 1 = .ok (.invokevirtual 113, 3) := by decide +kernel
theorem dX0_mixed_4 : decode cX0_mixed 4 = .ok (.istore_n 2, 1) := by decide +kernel
theorem dX0_mixed_5 : decode cX0_mixed 5 = .ok (.iconst 0, 1) := by decide +kernel
theorem dX0_mixed_6 : decode cX0_mixed 6 = .ok (.istore_n 3, 1) := by decide +kernel
theorem dX0_mixed_7 : decode cX0_mixed 7 = .ok (.iconst 1, 1) := by decide +kernel
theorem dX0_mixed_8 : decode cX0_mixed 8 = .ok (.istore 4, 2) := by decide +kernel
theorem dX0_mixed_10 : decode cX0_mixed 10 = .ok (.iload 4, 2) := by decide +kernel
theorem dX0_mixed_12 : decode cX0_mixed 12 = .ok (.iload_n 1, 1) := by decide +kernel
theorem dX0_mixed_13 : decode cX0_mixed 13 = .ok (.if_icmp .gt 24, 3) := by decide +kernel
theorem dX0_mixed_16 : decode cX0_mixed 16 = .ok (.iload_n 3, 1) := by decide +kernel
theorem dX0_mixed_17 : decode cX0_mixed 17 = .ok (.iload_n 2, 1) := by decide +kernel
theorem dX0_mixed_18 : decode cX0_mixed 18 = .ok (.iadd, 1) := by decide +kernel
theorem dX0_mixed_19 : decode cX0_mixed 19 = .ok (.istore_n 3, 1) := by decide +kernel
theorem dX0_mixed_20 : decode cX0_mixed 20 = .ok (.aload_n 0, 1) := by decide +kernel
theorem dX0_mixed_21 : decode cX0_mixed 21 = .ok (.iload_n 3, 1) := by decide +kernel
theorem dX0_mixed_22 : decode cX0_mixed 22 = .ok (.iload 4, 2) := by decide +kernel
theorem dX0_mixed_24 : decode cX0_mixed 24 = .ok (.invokestatic 105, 3) := by decide +kernel
theorem dX0_mixed_27 : decode cX0_mixed 27 = .ok (.invokevirtual 120, 3) := by decide +kernel
theorem dX0_mixed_30 : decode cX0_mixed 30 = .ok (.istore_n 2, 1) := by decide +kernel
theorem dX0_mixed_31 : decode cX0_mixed 31 = .ok (.iinc 4 1, 3) := by decide +kernel
theorem dX0_mixed_34 : decode cX0_mixed 34 = .ok (.goto (-24), 3) := by decide +kernel
theorem dX0_mixed_37 : decode cX0_mixed 37 = .ok (.iload_n 2, 1) := by decide +kernel
theorem dX0_mixed_38 : decode cX0_mixed 38 = .ok (.ireturn, 1) := by decide +kernel
set_option maxRecDepth 20000 in
theorem ggX0_learned_X0_middle : GoodIn wsX0_learned wsX0_middle := goodIn_r _ [8, 9, 27, 28, 29, 30, 31, 32, 33, 34, 35, 36] (by decide +kernel) (by decide +kernel)
set_option maxRecDepth 20000 in
theorem gX0_learned_X0_middle : GoodIn wsX0_learned (wsV RX0 113 RX0 yX0_middle wsX0_middle) := goodIn_app (goodIn_of _ (by decide +kernel)) ggX0_learned_X0_middle
set_option maxRecDepth 20000 in
theorem ggX0_learned_X0_sharedTimes : GoodIn wsX0_learned wsX0_sharedTimes := goodIn_r _ [13, 14, 15, 16, 7, 17, 18, 19, 20, 21, 22, 23, 24, 25, 26, 9, 27, 28, 29, 30, 31, 32, 33, 34, 35, 36] (by decide +kernel) (by decide +kernel)
set_option maxRecDepth 20000 in
theorem gX0_learned_X0_sharedTimes : GoodIn wsX0_learned (wsV RX0 117 RX0 yX0_sharedTimes wsX0_sharedTimes) := goodIn_app (goodIn_of _ (by decide +kernel)) ggX0_learned_X0_sharedTimes
set_option maxRecDepth 20000 in
theorem ggX0_learned_X5_over : GoodIn wsX0_learned wsX5_over := goodIn_r _ [22] (by decide +kernel) (by decide +kernel)
set_option maxRecDepth 20000 in
theorem gX0_learned_X5_over_n105 : GoodIn wsX0_learned (wsX5_over) := ggX0_learned_X5_over
theorem dX0_learned_0 : decode cX0_learned 0 = .ok (.aload_n 0, 1) := by decide +kernel
theorem dX0_learned_1 : decode cX0_learned 1 = .ok (.getfield 43, 3) := by decide +kernel
theorem dX0_learned_4 : decode cX0_learned 4 = .ok (.ifCond .ne 13, 3) := by decide +kernel
theorem dX0_learned_7 : decode cX0_learned 7 = .ok (.aload_n 0, 1) := by decide +kernel
theorem dX0_learned_8 : decode cX0_learned 8 = .ok (.aload_n 0, 1) := by decide +kernel
theorem dX0_learned_9 : decode cX0_learned 9 = .ok (.invokevirtual 113, 3) := by decide +kernel
theorem dX0_learned_12 : decode cX0_learned 12 = .ok (.iload_n 1, 1) := by decide +kernel
theorem dX0_learned_13 : decode cX0_learned 13 = .ok (.invokevirtual 117, 3) := by decide +kernel
theorem dX0_learned_16 : decode cX0_learned 16 = .ok (.ireturn, 1) := by decide +kernel
theorem dX0_learned_17 : decode cX0_learned 17 = .ok (.aload_n 0, 1) := by decide +kernel
theorem dX0_learned_18 : decode cX0_learned 18 = .ok (.aload_n 0, 1) := by decide +kernel
theorem dX0_learned_19 : decode cX0_learned 19 = .ok (.getfield 56, 3) := by decide +kernel
theorem dX0_learned_22 : decode cX0_learned 22 = .ok (.aload_n 0, 1) := by decide +kernel
theorem dX0_learned_23 : decode cX0_learned 23 = .ok (.getfield 46, 3) := by decide +kernel
theorem dX0_learned_26 : decode cX0_learned 26 = .ok (.invokestatic 105, 3) := by decide +kernel
theorem dX0_learned_29 : decode cX0_learned 29 = .ok (.iload_n 1, 1) := by decide +kernel
theorem dX0_learned_30 : decode cX0_learned 30 = .ok (.ifCond .ne 7, 3) := by decide +kernel
theorem dX0_learned_33 : decode cX0_learned 33 = .ok (.iconst 1, 1) := by decide +kernel
theorem dX0_learned_34 : decode cX0_learned 34 = .ok (.goto 4, 3) := by decide +kernel
theorem dX0_learned_37 : decode cX0_learned 37 = .ok (.iload_n 1, 1) := by decide +kernel
theorem dX0_learned_38 : decode cX0_learned 38 = .ok (.invokevirtual 117, 3) := by decide +kernel
theorem dX0_learned_41 : decode cX0_learned 41 = .ok (.ireturn, 1) := by decide +kernel
set_option maxRecDepth 20000 in
theorem ggX0_heldBy_X0_drawBelow : GoodIn wsX0_heldBy wsX0_drawBelow := goodIn_r _ [10, 11, 12, 13, 14, 53, 54, 55, 56, 57, 58, 59, 60, 61, 62] (by decide +kernel) (by decide +kernel)
set_option maxRecDepth 20000 in
theorem gX0_heldBy_X0_drawBelow : GoodIn wsX0_heldBy (wsV RX0 126 RX0 yX0_drawBelow wsX0_drawBelow) := goodIn_app (goodIn_of _ (by decide +kernel)) ggX0_heldBy_X0_drawBelow
set_option maxRecDepth 20000 in
theorem ggX0_heldBy_X0_stepped : GoodIn wsX0_heldBy wsX0_stepped := goodIn_r _ [18, 19, 20, 21, 9, 22, 2, 23, 24, 25, 26, 27, 28, 29, 30, 4, 5, 31, 32, 33, 34, 35, 36, 37, 53, 54, 55, 56, 57, 58, 59, 60, 61, 62] (by decide +kernel) (by decide +kernel)
set_option maxRecDepth 20000 in
theorem gX0_heldBy_X0_stepped : GoodIn wsX0_heldBy (wsV RX0 129 RX0 yX0_stepped wsX0_stepped) := goodIn_app (goodIn_of _ (by decide +kernel)) ggX0_heldBy_X0_stepped
set_option maxRecDepth 20000 in
theorem ggX0_heldBy_X0_mixed : GoodIn wsX0_heldBy wsX0_mixed := goodIn_r _ [41, 19, 20, 21, 9, 22, 2, 31, 32, 33, 27, 28, 29, 30, 4, 5, 34, 35, 36, 37, 53, 54, 55, 56, 57, 58, 59, 60, 61, 62] (by decide +kernel) (by decide +kernel)
set_option maxRecDepth 20000 in
theorem gX0_heldBy_X0_mixed : GoodIn wsX0_heldBy (wsV RX0 132 RX0 yX0_mixed wsX0_mixed) := goodIn_app (goodIn_of _ (by decide +kernel)) ggX0_heldBy_X0_mixed
set_option maxRecDepth 20000 in
theorem ggX0_heldBy_X0_learned : GoodIn wsX0_heldBy wsX0_learned := goodIn_r _ [45, 46, 47, 48, 19, 20, 21, 9, 22, 2, 23, 24, 25, 26, 27, 28, 29, 30, 4, 5, 31, 32, 33, 34, 35, 36, 37, 53, 54, 55, 56, 57, 58, 59, 60, 61, 62] (by decide +kernel) (by decide +kernel)
set_option maxRecDepth 20000 in
theorem gX0_heldBy_X0_learned : GoodIn wsX0_heldBy (wsV RX0 135 RX0 yX0_learned wsX0_learned) := goodIn_app (goodIn_of _ (by decide +kernel)) ggX0_heldBy_X0_learned
set_option maxRecDepth 20000 in
theorem ggX0_heldBy_X0_middle : GoodIn wsX0_heldBy wsX0_middle := goodIn_r _ [22, 2, 53, 54, 55, 56, 57, 58, 59, 60, 61, 62] (by decide +kernel) (by decide +kernel)
set_option maxRecDepth 20000 in
theorem gX0_heldBy_X0_middle : GoodIn wsX0_heldBy (wsV RX0 113 RX0 yX0_middle wsX0_middle) := goodIn_app (goodIn_of _ (by decide +kernel)) ggX0_heldBy_X0_middle
set_option maxRecDepth 20000 in
theorem ggX0_heldBy_X0_heldToCards : GoodIn wsX0_heldBy wsX0_heldToCards := goodIn_r _ [37, 2, 53, 54, 55, 56, 57, 58, 59, 60, 61, 62] (by decide +kernel) (by decide +kernel)
set_option maxRecDepth 20000 in
theorem gX0_heldBy_X0_heldToCards : GoodIn wsX0_heldBy (wsV RX0 109 RX0 yX0_heldToCards wsX0_heldToCards) := goodIn_app (goodIn_of _ (by decide +kernel)) ggX0_heldBy_X0_heldToCards
theorem dX0_heldBy_0 : decode cX0_heldBy 0 = .ok (.aload_n 1, 1) := by decide +kernel
theorem dX0_heldBy_1 : decode cX0_heldBy 1 = .ok (.getfield 123, 3) := by decide +kernel
theorem dX0_heldBy_4 : decode cX0_heldBy 4 = .ok (.tableswitch 129 1 7 #[44, 55, 64, 73, 93, 98, 107], 44) := by decide +kernel
theorem dX0_heldBy_48 : decode cX0_heldBy 48 = .ok (.aload_n 0, 1) := by decide +kernel
theorem dX0_heldBy_49 : decode cX0_heldBy 49 = .ok (.aload_n 0, 1) := by decide +kernel
theorem dX0_heldBy_50 : decode cX0_heldBy 50 = .ok (.getfield 18, 3) := by decide +kernel
theorem dX0_heldBy_53 : decode cX0_heldBy 53 = .ok (.iconst 1, 1) := by decide +kernel
theorem dX0_heldBy_54 : decode cX0_heldBy 54 = .ok (.iadd, 1) := by decide +kernel
theorem dX0_heldBy_55 : decode cX0_heldBy 55 = .ok (.invokevirtual 126, 3) := by decide +kernel
theorem dX0_heldBy_58 : decode cX0_heldBy 58 = .ok (.ireturn, 1) := by decide +kernel
theorem dX0_heldBy_59 : decode cX0_heldBy 59 = .ok (.aload_n 0, 1) := by decide +kernel
theorem dX0_heldBy_60 : decode cX0_heldBy 60 = .ok (.aload_n 1, 1) := by decide +kernel
theorem dX0_heldBy_61 : decode cX0_heldBy 61 = .ok (.getfield 59, 3) := by decide +kernel
theorem dX0_heldBy_64 : decode cX0_heldBy 64 = .ok (.invokevirtual 129, 3) := by decide +kernel
theorem dX0_heldBy_67 : decode cX0_heldBy 67 = .ok (.ireturn, 1) := by decide +kernel
theorem dX0_heldBy_68 : decode cX0_heldBy 68 = .ok (.aload_n 0, 1) := by decide +kernel
theorem dX0_heldBy_69 : decode cX0_heldBy 69 = .ok (.aload_n 1, 1) := by decide +kernel
theorem dX0_heldBy_70 : decode cX0_heldBy 70 = .ok (.getfield 59, 3) := by decide +kernel
theorem dX0_heldBy_73 : decode cX0_heldBy 73 = .ok (.invokevirtual 132, 3) := by decide +kernel
theorem dX0_heldBy_76 : decode cX0_heldBy 76 = .ok (.ireturn, 1) := by decide +kernel
theorem dX0_heldBy_77 : decode cX0_heldBy 77 = .ok (.aload_n 0, 1) := by decide +kernel
theorem dX0_heldBy_78 : decode cX0_heldBy 78 = .ok (.getfield 9, 3) := by decide +kernel
theorem dX0_heldBy_81 : decode cX0_heldBy 81 = .ok (.aload_n 0, 1) := by decide +kernel
theorem dX0_heldBy_82 : decode cX0_heldBy 82 = .ok (.getfield 15, 3) := by decide +kernel
theorem dX0_heldBy_85 : decode cX0_heldBy 85 = .ok (.if_icmp .gt 7, 3) := by decide +kernel
theorem dX0_heldBy_88 : decode cX0_heldBy 88 = .ok (.iconst 0, 1) := by decide +kernel
theorem dX0_heldBy_89 : decode cX0_heldBy 89 = .ok (.goto 7, 3) := by decide +kernel
theorem dX0_heldBy_92 : decode cX0_heldBy 92 = .ok (.aload_n 0, 1) := by decide +kernel
theorem dX0_heldBy_93 : decode cX0_heldBy 93 = .ok (.getfield 18, 3) := by decide +kernel
theorem dX0_heldBy_96 : decode cX0_heldBy 96 = .ok (.ireturn, 1) := by decide +kernel
theorem dX0_heldBy_97 : decode cX0_heldBy 97 = .ok (.aload_n 0, 1) := by decide +kernel
theorem dX0_heldBy_98 : decode cX0_heldBy 98 = .ok (.getfield 18, 3) := by decide +kernel
theorem dX0_heldBy_101 : decode cX0_heldBy 101 = .ok (.ireturn, 1) := by decide +kernel
theorem dX0_heldBy_102 : decode cX0_heldBy 102 = .ok (.aload_n 0, 1) := by decide +kernel
theorem dX0_heldBy_103 : decode cX0_heldBy 103 = .ok (.aload_n 1, 1) := by decide +kernel
theorem dX0_heldBy_104 : decode cX0_heldBy 104 = .ok (.getfield 59, 3) := by decide +kernel
theorem dX0_heldBy_107 : decode cX0_heldBy 107 = .ok (.invokevirtual 135, 3) := by decide +kernel
theorem dX0_heldBy_110 : decode cX0_heldBy 110 = .ok (.ireturn, 1) := by decide +kernel
theorem dX0_heldBy_111 : decode cX0_heldBy 111 = .ok (.aload_n 0, 1) := by decide +kernel
theorem dX0_heldBy_112 : decode cX0_heldBy 112 = .ok (.aload_n 0, 1) := by decide +kernel
theorem dX0_heldBy_113 : decode cX0_heldBy 113 = .ok (.aload_n 0, 1) := by decide +kernel
theorem dX0_heldBy_114 : decode cX0_heldBy 114 = .ok (.getfield 18, 3) := by decide +kernel
theorem dX0_heldBy_117 : decode cX0_heldBy 117 = .ok (.iconst 1, 1) := by decide +kernel
theorem dX0_heldBy_118 : decode cX0_heldBy 118 = .ok (.iadd, 1) := by decide +kernel
theorem dX0_heldBy_119 : decode cX0_heldBy 119 = .ok (.invokevirtual 126, 3) := by decide +kernel
theorem dX0_heldBy_122 : decode cX0_heldBy 122 = .ok (.iconst 2, 1) := by decide +kernel
theorem dX0_heldBy_123 : decode cX0_heldBy 123 = .ok (.idiv, 1) := by decide +kernel
theorem dX0_heldBy_124 : decode cX0_heldBy 124 = .ok (.aload_n 0, 1) := by decide +kernel
theorem dX0_heldBy_125 : decode cX0_heldBy 125 = .ok (.invokevirtual 113, 3) := by decide +kernel
theorem dX0_heldBy_128 : decode cX0_heldBy 128 = .ok (.iadd, 1) := by decide +kernel
theorem dX0_heldBy_129 : decode cX0_heldBy 129 = .ok (.invokevirtual 109, 3) := by decide +kernel
theorem dX0_heldBy_132 : decode cX0_heldBy 132 = .ok (.ireturn, 1) := by decide +kernel
theorem dX0_heldBy_133 : decode cX0_heldBy 133 = .ok (.aload_n 0, 1) := by decide +kernel
theorem dX0_heldBy_134 : decode cX0_heldBy 134 = .ok (.invokevirtual 113, 3) := by decide +kernel
theorem dX0_heldBy_137 : decode cX0_heldBy 137 = .ok (.ireturn, 1) := by decide +kernel
set_option maxRecDepth 20000 in
theorem ggX0_cardOf_X0_heldBy : GoodIn wsX0_cardOf wsX0_heldBy := goodIn_r _ [6, 7, 8, 9, 10, 11, 12, 13, 14, 5, 15, 16, 17, 18, 19, 20, 21, 22, 23, 24, 25, 26, 27, 28, 29, 30, 31, 32, 33, 34, 35, 36, 37, 38, 39, 40, 41, 42, 43, 44, 45, 46, 47, 48, 49, 50, 51, 52, 53, 54, 55, 56, 57, 58, 59, 60, 61, 62, 63, 64, 65, 66, 67] (by decide +kernel) (by decide +kernel)
set_option maxRecDepth 20000 in
theorem gX0_cardOf_X0_heldBy : GoodIn wsX0_cardOf (wsV RX0 138 RX0 yX0_heldBy wsX0_heldBy) := goodIn_app (goodIn_of _ (by decide +kernel)) ggX0_cardOf_X0_heldBy
set_option maxRecDepth 20000 in
theorem ggX0_cardOf_X0_drawBelow : GoodIn wsX0_cardOf wsX0_drawBelow := goodIn_r _ [15, 16, 17, 18, 19, 58, 59, 60, 61, 62, 63, 64, 65, 66, 67] (by decide +kernel) (by decide +kernel)
set_option maxRecDepth 20000 in
theorem gX0_cardOf_X0_drawBelow : GoodIn wsX0_cardOf (wsV RX0 126 RX0 yX0_drawBelow wsX0_drawBelow) := goodIn_app (goodIn_of _ (by decide +kernel)) ggX0_cardOf_X0_drawBelow
set_option maxRecDepth 20000 in
theorem ggX0_cardOf_X0_heldToCards : GoodIn wsX0_cardOf wsX0_heldToCards := goodIn_r _ [42, 8, 58, 59, 60, 61, 62, 63, 64, 65, 66, 67] (by decide +kernel) (by decide +kernel)
set_option maxRecDepth 20000 in
theorem gX0_cardOf_X0_heldToCards : GoodIn wsX0_cardOf (wsV RX0 109 RX0 yX0_heldToCards wsX0_heldToCards) := goodIn_app (goodIn_of _ (by decide +kernel)) ggX0_cardOf_X0_heldToCards
theorem dX0_cardOf_0 : decode cX0_cardOf 0 = .ok (.aload_n 0, 1) := by decide +kernel
theorem dX0_cardOf_1 : decode cX0_cardOf 1 = .ok (.aload_n 1, 1) := by decide +kernel
theorem dX0_cardOf_2 : decode cX0_cardOf 2 = .ok (.invokevirtual 138, 3) := by decide +kernel
theorem dX0_cardOf_5 : decode cX0_cardOf 5 = .ok (.istore_n 2, 1) := by decide +kernel
theorem dX0_cardOf_6 : decode cX0_cardOf 6 = .ok (.aload_n 1, 1) := by decide +kernel
theorem dX0_cardOf_7 : decode cX0_cardOf 7 = .ok (.getfield 142, 3) := by decide +kernel
theorem dX0_cardOf_10 : decode cX0_cardOf 10 = .ok (.ifCond .ne 5, 3) := by decide +kernel
theorem dX0_cardOf_13 : decode cX0_cardOf 13 = .ok (.iload_n 2, 1) := by decide +kernel
theorem dX0_cardOf_14 : decode cX0_cardOf 14 = .ok (.ireturn, 1) := by decide +kernel
theorem dX0_cardOf_15 : decode cX0_cardOf 15 = .ok (.aload_n 0, 1) := by decide +kernel
theorem dX0_cardOf_16 : decode cX0_cardOf 16 = .ok (.iload_n 2, 1) := by decide +kernel
theorem dX0_cardOf_17 : decode cX0_cardOf 17 = .ok (.aload_n 0, 1) := by decide +kernel
theorem dX0_cardOf_18 : decode cX0_cardOf 18 = .ok (.iconst 2, 1) := by decide +kernel
theorem dX0_cardOf_19 : decode cX0_cardOf 19 = .ok (.aload_n 1, 1) := by decide +kernel
theorem dX0_cardOf_20 : decode cX0_cardOf 20 = .ok (.getfield 142, 3) := by decide +kernel
theorem dX0_cardOf_23 : decode cX0_cardOf 23 = .ok (.imul, 1) := by decide +kernel
theorem dX0_cardOf_24 : decode cX0_cardOf 24 = .ok (.iconst 1, 1) := by decide +kernel
theorem dX0_cardOf_25 : decode cX0_cardOf 25 = .ok (.iadd, 1) := by decide +kernel
theorem dX0_cardOf_26 : decode cX0_cardOf 26 = .ok (.invokevirtual 126, 3) := by decide +kernel
theorem dX0_cardOf_29 : decode cX0_cardOf 29 = .ok (.iadd, 1) := by decide +kernel
theorem dX0_cardOf_30 : decode cX0_cardOf 30 = .ok (.aload_n 1, 1) := by decide +kernel
theorem dX0_cardOf_31 : decode cX0_cardOf 31 = .ok (.getfield 142, 3) := by decide +kernel
theorem dX0_cardOf_34 : decode cX0_cardOf 34 = .ok (.isub, 1) := by decide +kernel
theorem dX0_cardOf_35 : decode cX0_cardOf 35 = .ok (.invokevirtual 109, 3) := by decide +kernel
theorem dX0_cardOf_38 : decode cX0_cardOf 38 = .ok (.ireturn, 1) := by decide +kernel
set_option maxRecDepth 20000 in
theorem ggX0_play_X3_begin : GoodIn wsX0_play wsX3_begin := goodIn_r _ [10, 11, 12, 13, 14, 15, 16, 17, 18, 19, 20, 21, 102, 103, 104] (by decide +kernel) (by decide +kernel)
set_option maxRecDepth 20000 in
theorem gX0_play_X3_begin : GoodIn wsX0_play (wsV RX0 145 RX3 yX3_begin wsX3_begin) := goodIn_app (goodIn_of _ (by decide +kernel)) ggX0_play_X3_begin
set_option maxRecDepth 20000 in
theorem ggX0_play_X0_cardOf : GoodIn wsX0_play wsX0_cardOf := goodIn_r _ [26, 27, 28, 29, 30, 25, 31, 32, 33, 34, 35, 36, 37, 38, 39, 40, 41, 42, 43, 44, 45, 46, 47, 48, 49, 50, 51, 52, 53, 54, 55, 56, 57, 58, 59, 60, 61, 62, 63, 64, 65, 66, 67, 68, 69, 70, 71, 72, 73, 74, 75, 5, 4, 2, 105, 106, 107, 108, 92, 93, 94, 95, 96, 97, 98, 99, 100, 101] (by decide +kernel) (by decide +kernel)
set_option maxRecDepth 20000 in
theorem gX0_play_X0_cardOf : GoodIn wsX0_play (wsV RX0 147 RX0 yX0_cardOf wsX0_cardOf) := goodIn_app (goodIn_of _ (by decide +kernel)) ggX0_play_X0_cardOf
set_option maxRecDepth 20000 in
theorem ggX0_play_X3_write : GoodIn wsX0_play wsX3_write := goodIn_r _ [79, 12, 80, 81, 82, 9, 83, 17, 84, 85, 86, 87, 11, 102, 103, 104] (by decide +kernel) (by decide +kernel)
set_option maxRecDepth 20000 in
theorem gX0_play_X3_write : GoodIn wsX0_play (wsV RX0 150 RX3 yX3_write wsX3_write) := goodIn_app (goodIn_of _ (by decide +kernel)) ggX0_play_X3_write
set_option maxRecDepth 20000 in
theorem ggX0_play_X3_sum : GoodIn wsX0_play wsX3_sum := goodIn_r _ [91, 17, 12, 102, 103, 104] (by decide +kernel) (by decide +kernel)
set_option maxRecDepth 20000 in
theorem gX0_play_X3_sum : GoodIn wsX0_play (wsV RX0 153 RX3 yX3_sum wsX3_sum) := goodIn_app (goodIn_of _ (by decide +kernel)) ggX0_play_X3_sum
theorem dX0_play_0 : decode cX0_play 0 = .ok (.aload_n 0, 1) := by decide +kernel
theorem dX0_play_1 : decode cX0_play 1 = .ok (.getfield 39, 3) := by decide +kernel
theorem dX0_play_4 : decode cX0_play 4 = .ok (.iconst 2, 1) := by decide +kernel
theorem dX0_play_5 : decode cX0_play 5 = .ok (.aload_n 0, 1) := by decide +kernel
theorem dX0_play_6 : decode cX0_play 6 = .ok (.getfield 46, 3) := by decide +kernel
theorem dX0_play_9 : decode cX0_play 9 = .ok (.invokevirtual 145, 3) := by decide +kernel
theorem dX0_play_12 : decode cX0_play 12 = .ok (.iconst 0, 1) := by decide +kernel
theorem dX0_play_13 : decode cX0_play 13 = .ok (.istore_n 1, 1) := by decide +kernel
theorem dX0_play_14 : decode cX0_play 14 = .ok (.iload_n 1, 1) := by decide +kernel
theorem dX0_play_15 : decode cX0_play 15 = .ok (.aload_n 0, 1) := by decide +kernel
theorem dX0_play_16 : decode cX0_play 16 = .ok (.getfield 46, 3) := by decide +kernel
theorem dX0_play_19 : decode cX0_play 19 = .ok (.if_icmp .ge 36, 3) := by decide +kernel
theorem dX0_play_22 : decode cX0_play 22 = .ok (.iload_n 1, 1) := by decide +kernel
theorem dX0_play_23 : decode cX0_play 23 = .ok (.aload_n 0, 1) := by decide +kernel
theorem dX0_play_24 : decode cX0_play 24 = .ok (.getfield 29, 3) := by decide +kernel
theorem dX0_play_27 : decode cX0_play 27 = .ok (.arraylength, 1) := by decide +kernel
theorem dX0_play_28 : decode cX0_play 28 = .ok (.if_icmp .ge 27, 3) := by decide +kernel
theorem dX0_play_31 : decode cX0_play 31 = .ok (.aload_n 0, 1) := by decide +kernel
theorem dX0_play_32 : decode cX0_play 32 = .ok (.getfield 39, 3) := by decide +kernel
theorem dX0_play_35 : decode cX0_play 35 = .ok (.iload_n 1, 1) := by decide +kernel
theorem dX0_play_36 : decode cX0_play 36 = .ok (.aload_n 0, 1) := by decide +kernel
theorem dX0_play_37 : decode cX0_play 37 = .ok (.aload_n 0, 1) := by decide +kernel
theorem dX0_play_38 : decode cX0_play 38 = .ok (.getfield 29, 3) := by decide +kernel
theorem dX0_play_41 : decode cX0_play 41 = .ok (.iload_n 1, 1) := by decide +kernel
theorem dX0_play_42 : decode cX0_play 42 = .ok (.aaload, 1) := by decide +kernel
theorem dX0_play_43 : decode cX0_play 43 = .ok (.invokevirtual 147, 3) := by decide +kernel
theorem dX0_play_46 : decode cX0_play 46 = .ok (.invokevirtual 150, 3) := by decide +kernel
theorem dX0_play_49 : decode cX0_play 49 = .ok (.iinc 1 1, 3) := by decide +kernel
theorem dX0_play_52 : decode cX0_play 52 = .ok (.goto (-38), 3) := by decide +kernel
theorem dX0_play_55 : decode cX0_play 55 = .ok (.aload_n 0, 1) := by decide +kernel
theorem dX0_play_56 : decode cX0_play 56 = .ok (.aload_n 0, 1) := by decide +kernel
theorem dX0_play_57 : decode cX0_play 57 = .ok (.getfield 39, 3) := by decide +kernel
theorem dX0_play_60 : decode cX0_play 60 = .ok (.invokevirtual 153, 3) := by decide +kernel
theorem dX0_play_63 : decode cX0_play 63 = .ok (.putfield 56, 3) := by decide +kernel
theorem dX0_play_66 : decode cX0_play 66 = .ok (.aload_n 0, 1) := by decide +kernel
theorem dX0_play_67 : decode cX0_play 67 = .ok (.dup, 1) := by decide +kernel
theorem dX0_play_68 : decode cX0_play 68 = .ok (.getfield 43, 3) := by decide +kernel
theorem dX0_play_71 : decode cX0_play 71 = .ok (.iconst 1, 1) := by decide +kernel
theorem dX0_play_72 : decode cX0_play 72 = .ok (.iadd, 1) := by decide +kernel
theorem dX0_play_73 : decode cX0_play 73 = .ok (.putfield 43, 3) := by decide +kernel
theorem dX0_play_76 : decode cX0_play 76 = .ok (.return_, 1) := by decide +kernel
set_option maxRecDepth 20000 in
theorem ggX0_forgetRounds_X3_begin : GoodIn wsX0_forgetRounds wsX3_begin := goodIn_r _ [8, 9, 10, 11, 12, 13, 14, 15, 16, 17, 18, 19, 30, 31, 32] (by decide +kernel) (by decide +kernel)
set_option maxRecDepth 20000 in
theorem gX0_forgetRounds_X3_begin : GoodIn wsX0_forgetRounds (wsV RX0 145 RX3 yX3_begin wsX3_begin) := goodIn_app (goodIn_of _ (by decide +kernel)) ggX0_forgetRounds_X3_begin
theorem dX0_forgetRounds_0 : decode cX0_forgetRounds 0 = .ok (.aload_n 0, 1) := by decide +kernel
theorem dX0_forgetRounds_1 : decode cX0_forgetRounds 1 = .ok (.iconst 0, 1) := by decide +kernel
theorem dX0_forgetRounds_2 : decode cX0_forgetRounds 2 = .ok (.putfield 43, 3) := by decide +kernel
theorem dX0_forgetRounds_5 : decode cX0_forgetRounds 5 = .ok (.aload_n 0, 1) := by decide +kernel
theorem dX0_forgetRounds_6 : decode cX0_forgetRounds 6 = .ok (.iconst 0, 1) := by decide +kernel
theorem dX0_forgetRounds_7 : decode cX0_forgetRounds 7 = .ok (.putfield 56, 3) := by decide +kernel
theorem dX0_forgetRounds_10 : decode cX0_forgetRounds 10 = .ok (.aload_n 0, 1) := by decide +kernel
theorem dX0_forgetRounds_11 : decode cX0_forgetRounds 11 = .ok (.getfield 39, 3) := by decide +kernel
theorem dX0_forgetRounds_14 : decode cX0_forgetRounds 14 = .ok (.iconst 2, 1) := by decide +kernel
theorem dX0_forgetRounds_15 : decode cX0_forgetRounds 15 = .ok (.iconst 0, 1) := by decide +kernel
theorem dX0_forgetRounds_16 : decode cX0_forgetRounds 16 = .ok (.invokevirtual 145, 3) := by decide +kernel
theorem dX0_forgetRounds_19 : decode cX0_forgetRounds 19 = .ok (.return_, 1) := by decide +kernel
theorem dX0_isCard_0 : decode cX0_isCard 0 = .ok (.iload_n 1, 1) := by decide +kernel
theorem dX0_isCard_1 : decode cX0_isCard 1 = .ok (.ifCond .lt 15, 3) := by decide +kernel
theorem dX0_isCard_4 : decode cX0_isCard 4 = .ok (.iload_n 1, 1) := by decide +kernel
theorem dX0_isCard_5 : decode cX0_isCard 5 = .ok (.aload_n 0, 1) := by decide +kernel
theorem dX0_isCard_6 : decode cX0_isCard 6 = .ok (.getfield 18, 3) := by decide +kernel
theorem dX0_isCard_9 : decode cX0_isCard 9 = .ok (.if_icmp .gt 7, 3) := by decide +kernel
theorem dX0_isCard_12 : decode cX0_isCard 12 = .ok (.iconst 1, 1) := by decide +kernel
theorem dX0_isCard_13 : decode cX0_isCard 13 = .ok (.goto 4, 3) := by decide +kernel
theorem dX0_isCard_16 : decode cX0_isCard 16 = .ok (.iconst 0, 1) := by decide +kernel
theorem dX0_isCard_17 : decode cX0_isCard 17 = .ok (.ireturn, 1) := by decide +kernel
set_option maxRecDepth 20000 in
theorem ggX0_areCards_X3_at : GoodIn wsX0_areCards wsX3_at := goodIn_r _ [6, 7, 8, 15, 16, 17] (by decide +kernel) (by decide +kernel)
set_option maxRecDepth 20000 in
theorem gX0_areCards_X3_at : GoodIn wsX0_areCards (wsV RX0 159 RX3 yX3_at wsX3_at) := goodIn_app (goodIn_of _ (by decide +kernel)) ggX0_areCards_X3_at
set_option maxRecDepth 20000 in
theorem ggX0_areCards_X0_isCard : GoodIn wsX0_areCards wsX0_isCard := goodIn_r _ [13, 14, 18, 19, 20, 21, 22, 23, 24, 25, 26, 27] (by decide +kernel) (by decide +kernel)
set_option maxRecDepth 20000 in
theorem gX0_areCards_X0_isCard : GoodIn wsX0_areCards (wsV RX0 162 RX0 yX0_isCard wsX0_isCard) := goodIn_app (goodIn_of _ (by decide +kernel)) ggX0_areCards_X0_isCard
theorem dX0_areCards_0 : decode cX0_areCards 0 = .ok (.iconst 0, 1) := by decide +kernel
theorem dX0_areCards_1 : decode cX0_areCards 1 = .ok (.istore_n 2, 1) := by decide +kernel
theorem dX0_areCards_2 : decode cX0_areCards 2 = .ok (.iload_n 2, 1) := by decide +kernel
theorem dX0_areCards_3 : decode cX0_areCards 3 = .ok (.aload_n 1, 1) := by decide +kernel
theorem dX0_areCards_4 : decode cX0_areCards 4 = .ok (.getfield 156, 3) := by decide +kernel
theorem dX0_areCards_7 : decode cX0_areCards 7 = .ok (.if_icmp .ge 23, 3) := by decide +kernel
theorem dX0_areCards_10 : decode cX0_areCards 10 = .ok (.aload_n 0, 1) := by decide +kernel
theorem dX0_areCards_11 : decode cX0_areCards 11 = .ok (.aload_n 1, 1) := by decide +kernel
theorem dX0_areCards_12 : decode cX0_areCards 12 = .ok (.iload_n 2, 1) := by decide +kernel
theorem dX0_areCards_13 : decode cX0_areCards 13 = .ok (.invokevirtual 159, 3) := by decide +kernel
theorem dX0_areCards_16 : decode cX0_areCards 16 = .ok (.invokevirtual 162, 3) := by decide +kernel
theorem dX0_areCards_19 : decode cX0_areCards 19 = .ok (.ifCond .ne 5, 3) := by decide +kernel
theorem dX0_areCards_22 : decode cX0_areCards 22 = .ok (.iconst 0, 1) := by decide +kernel
theorem dX0_areCards_23 : decode cX0_areCards 23 = .ok (.ireturn, 1) := by decide +kernel
theorem dX0_areCards_24 : decode cX0_areCards 24 = .ok (.iinc 2 1, 3) := by decide +kernel
theorem dX0_areCards_27 : decode cX0_areCards 27 = .ok (.goto (-25), 3) := by decide +kernel
theorem dX0_areCards_30 : decode cX0_areCards 30 = .ok (.aload_n 1, 1) := by decide +kernel
theorem dX0_areCards_31 : decode cX0_areCards 31 = .ok (.getfield 156, 3) := by decide +kernel
theorem dX0_areCards_34 : decode cX0_areCards 34 = .ok (.ifCond .le 7, 3) := by decide +kernel
theorem dX0_areCards_37 : decode cX0_areCards 37 = .ok (.iconst 1, 1) := by decide +kernel
theorem dX0_areCards_38 : decode cX0_areCards 38 = .ok (.goto 4, 3) := by decide +kernel
theorem dX0_areCards_41 : decode cX0_areCards 41 = .ok (.iconst 0, 1) := by decide +kernel
theorem dX0_areCards_42 : decode cX0_areCards 42 = .ok (.ireturn, 1) := by decide +kernel
set_option maxRecDepth 20000 in
theorem ggX0_targetAbove_X3_sum : GoodIn wsX0_targetAbove wsX3_sum := goodIn_r _ [6, 7, 8, 19, 20, 21] (by decide +kernel) (by decide +kernel)
set_option maxRecDepth 20000 in
theorem gX0_targetAbove_X3_sum : GoodIn wsX0_targetAbove (wsV RX0 153 RX3 yX3_sum wsX3_sum) := goodIn_app (goodIn_of _ (by decide +kernel)) ggX0_targetAbove_X3_sum
theorem dX0_targetAbove_0 : decode cX0_targetAbove 0 = .ok (.aload_n 0, 1) := by decide +kernel
theorem dX0_targetAbove_1 : decode cX0_targetAbove 1 = .ok (.getfield 9, 3) := by decide +kernel
theorem dX0_targetAbove_4 : decode cX0_targetAbove 4 = .ok (.aload_n 1, 1) := by decide +kernel
theorem dX0_targetAbove_5 : decode cX0_targetAbove 5 = .ok (.invokevirtual 153, 3) := by decide +kernel
theorem dX0_targetAbove_8 : decode cX0_targetAbove 8 = .ok (.imul, 1) := by decide +kernel
theorem dX0_targetAbove_9 : decode cX0_targetAbove 9 = .ok (.ireturn, 1) := by decide +kernel
theorem dX0_targetLine_0 : decode cX0_targetLine 0 = .ok (.aload_n 0, 1) := by decide +kernel
theorem dX0_targetLine_1 : decode cX0_targetLine 1 = .ok (.getfield 15, 3) := by decide +kernel
theorem dX0_targetLine_4 : decode cX0_targetLine 4 = .ok (.aload_n 1, 1) := by decide +kernel
theorem dX0_targetLine_5 : decode cX0_targetLine 5 = .ok (.getfield 156, 3) := by decide +kernel
theorem dX0_targetLine_8 : decode cX0_targetLine 8 = .ok (.imul, 1) := by decide +kernel
theorem dX0_targetLine_9 : decode cX0_targetLine 9 = .ok (.ireturn, 1) := by decide +kernel
theorem dX0_farFrom_0 : decode cX0_farFrom 0 = .ok (.iload_n 3, 1) := by decide +kernel
theorem dX0_farFrom_1 : decode cX0_farFrom 1 = .ok (.iload_n 2, 1) := by decide +kernel
theorem dX0_farFrom_2 : decode cX0_farFrom 2 = .ok (.imul, 1) := by decide +kernel
theorem dX0_farFrom_3 : decode cX0_farFrom 3 = .ok (.iload_n 1, 1) := by decide +kernel
theorem dX0_farFrom_4 : decode cX0_farFrom 4 = .ok (.isub, 1) := by decide +kernel
theorem dX0_farFrom_5 : decode cX0_farFrom 5 = .ok (.istore 4, 2) := by decide +kernel
theorem dX0_farFrom_7 : decode cX0_farFrom 7 = .ok (.iload 4, 2) := by decide +kernel
theorem dX0_farFrom_9 : decode cX0_farFrom 9 = .ok (.ifCond .le 19, 3) := by decide +kernel
theorem dX0_farFrom_12 : decode cX0_farFrom 12 = .ok (.aload_n 0, 1) := by decide +kernel
theorem dX0_farFrom_13 : decode cX0_farFrom 13 = .ok (.getfield 21, 3) := by decide +kernel
theorem dX0_farFrom_16 : decode cX0_farFrom 16 = .ok (.iconst 1, 1) := by decide +kernel
theorem dX0_farFrom_17 : decode cX0_farFrom 17 = .ok (.if_icmp .ne 8, 3) := by decide +kernel
theorem dX0_farFrom_20 : decode cX0_farFrom 20 = .ok (.ldc 103, 2) := by decide +kernel
theorem dX0_farFrom_22 : decode cX0_farFrom 22 = .ok (.goto 5, 3) := by decide +kernel
theorem dX0_farFrom_25 : decode cX0_farFrom 25 = .ok (.iload 4, 2) := by decide +kernel
theorem dX0_farFrom_27 : decode cX0_farFrom 27 = .ok (.ireturn, 1) := by decide +kernel
theorem dX0_farFrom_28 : decode cX0_farFrom 28 = .ok (.iload 4, 2) := by decide +kernel
theorem dX0_farFrom_30 : decode cX0_farFrom 30 = .ok (.ineg, 1) := by decide +kernel
theorem dX0_farFrom_31 : decode cX0_farFrom 31 = .ok (.ireturn, 1) := by decide +kernel
set_option maxRecDepth 20000 in
theorem ggX0_firstWinner_X0_targetAbove : GoodIn wsX0_firstWinner wsX0_targetAbove := goodIn_r _ [7, 8, 9, 10, 11, 12, 13, 14, 15, 33, 34, 35, 36, 37, 38, 39, 40, 41, 42, 30, 31, 32] (by decide +kernel) (by decide +kernel)
set_option maxRecDepth 20000 in
theorem gX0_firstWinner_X0_targetAbove : GoodIn wsX0_firstWinner (wsV RX0 165 RX0 yX0_targetAbove wsX0_targetAbove) := goodIn_app (goodIn_of _ (by decide +kernel)) ggX0_firstWinner_X0_targetAbove
set_option maxRecDepth 20000 in
theorem ggX0_firstWinner_X0_targetLine : GoodIn wsX0_firstWinner wsX0_targetLine := goodIn_r _ [19, 20, 2, 33, 34, 35, 36, 37, 38, 39, 40, 41, 42, 30, 31, 32] (by decide +kernel) (by decide +kernel)
set_option maxRecDepth 20000 in
theorem gX0_firstWinner_X0_targetLine : GoodIn wsX0_firstWinner (wsV RX0 169 RX0 yX0_targetLine wsX0_targetLine) := goodIn_app (goodIn_of _ (by decide +kernel)) ggX0_firstWinner_X0_targetLine
set_option maxRecDepth 20000 in
theorem ggX0_firstWinner_X3_at : GoodIn wsX0_firstWinner wsX3_at := goodIn_r _ [24, 14, 15, 30, 31, 32] (by decide +kernel) (by decide +kernel)
set_option maxRecDepth 20000 in
theorem gX0_firstWinner_X3_at : GoodIn wsX0_firstWinner (wsV RX0 159 RX3 yX3_at wsX3_at) := goodIn_app (goodIn_of _ (by decide +kernel)) ggX0_firstWinner_X3_at
set_option maxRecDepth 20000 in
theorem ggX0_firstWinner_X0_farFrom : GoodIn wsX0_firstWinner wsX0_farFrom := goodIn_r _ [28, 29, 1, 33, 34, 35, 36, 37, 38, 39, 40, 41, 42] (by decide +kernel) (by decide +kernel)
set_option maxRecDepth 20000 in
theorem gX0_firstWinner_X0_farFrom : GoodIn wsX0_firstWinner (wsV RX0 172 RX0 yX0_farFrom wsX0_farFrom) := goodIn_app (goodIn_of _ (by decide +kernel)) ggX0_firstWinner_X0_farFrom
theorem dX0_firstWinner_0 : decode cX0_firstWinner 0 = .ok (.aload_n 0, 1) := by decide +kernel
theorem dX0_firstWinner_1 : decode cX0_firstWinner 1 = .ok (.aload_n 1, 1) := by decide +kernel
theorem dX0_firstWinner_2 : decode cX0_firstWinner 2 = .ok (.invokevirtual 165, 3) := by decide +kernel
theorem dX0_firstWinner_5 : decode cX0_firstWinner 5 = .ok (.istore_n 2, 1) := by decide +kernel
theorem dX0_firstWinner_6 : decode cX0_firstWinner 6 = .ok (.aload_n 0, 1) := by decide +kernel
theorem dX0_firstWinner_7 : decode cX0_firstWinner 7 = .ok (.aload_n 1, 1) := by decide +kernel
theorem dX0_firstWinner_8 : decode cX0_firstWinner 8 = .ok (.invokevirtual 169, 3) := by decide +kernel
theorem dX0_firstWinner_11 : decode cX0_firstWinner 11 = .ok (.istore_n 3, 1) := by decide +kernel
theorem dX0_firstWinner_12 : decode cX0_firstWinner 12 = .ok (.bipush (-4), 2) := by decide +kernel
theorem dX0_firstWinner_14 : decode cX0_firstWinner 14 = .ok (.istore 4, 2) := by decide +kernel
theorem dX0_firstWinner_16 : decode cX0_firstWinner 16 = .ok (.ldc 103, 2) := by decide +kernel
theorem dX0_firstWinner_18 : decode cX0_firstWinner 18 = .ok (.istore 5, 2) := by decide +kernel
theorem dX0_firstWinner_20 : decode cX0_firstWinner 20 = .ok (.iconst 0, 1) := by decide +kernel
theorem dX0_firstWinner_21 : decode cX0_firstWinner 21 = .ok (.istore 6, 2) := by decide +kernel
theorem dX0_firstWinner_23 : decode cX0_firstWinner 23 = .ok (.iload 6, 2) := by decide +kernel
theorem dX0_firstWinner_25 : decode cX0_firstWinner 25 = .ok (.aload_n 1, 1) := by decide +kernel
theorem dX0_firstWinner_26 : decode cX0_firstWinner 26 = .ok (.getfield 156, 3) := by decide +kernel
theorem dX0_firstWinner_29 : decode cX0_firstWinner 29 = .ok (.if_icmp .ge 38, 3) := by decide +kernel
theorem dX0_firstWinner_32 : decode cX0_firstWinner 32 = .ok (.aload_n 0, 1) := by decide +kernel
theorem dX0_firstWinner_33 : decode cX0_firstWinner 33 = .ok (.iload_n 2, 1) := by decide +kernel
theorem dX0_firstWinner_34 : decode cX0_firstWinner 34 = .ok (.iload_n 3, 1) := by decide +kernel
theorem dX0_firstWinner_35 : decode cX0_firstWinner 35 = .ok (.aload_n 1, 1) := by decide +kernel
theorem dX0_firstWinner_36 : decode cX0_firstWinner 36 = .ok (.iload 6, 2) := by decide +kernel
theorem dX0_firstWinner_38 : decode cX0_firstWinner 38 = .ok (.invokevirtual 159, 3) := by decide +kernel
theorem dX0_firstWinner_41 : decode cX0_firstWinner 41 = .ok (.invokevirtual 172, 3) := by decide +kernel
theorem dX0_firstWinner_44 : decode cX0_firstWinner 44 = .ok (.istore 7, 2) := by decide +kernel
theorem dX0_firstWinner_46 : decode cX0_firstWinner 46 = .ok (.iload 7, 2) := by decide +kernel
theorem dX0_firstWinner_48 : decode cX0_firstWinner 48 = .ok (.iload 5, 2) := by decide +kernel
theorem dX0_firstWinner_50 : decode cX0_firstWinner 50 = .ok (.if_icmp .ge 11, 3) := by decide +kernel
theorem dX0_firstWinner_53 : decode cX0_firstWinner 53 = .ok (.iload 7, 2) := by decide +kernel
theorem dX0_firstWinner_55 : decode cX0_firstWinner 55 = .ok (.istore 5, 2) := by decide +kernel
theorem dX0_firstWinner_57 : decode cX0_firstWinner 57 = .ok (.iload 6, 2) := by decide +kernel
theorem dX0_firstWinner_59 : decode cX0_firstWinner 59 = .ok (.istore 4, 2) := by decide +kernel
theorem dX0_firstWinner_61 : decode cX0_firstWinner 61 = .ok (.iinc 6 1, 3) := by decide +kernel
theorem dX0_firstWinner_64 : decode cX0_firstWinner 64 = .ok (.goto (-41), 3) := by decide +kernel
theorem dX0_firstWinner_67 : decode cX0_firstWinner 67 = .ok (.iload 4, 2) := by decide +kernel
theorem dX0_firstWinner_69 : decode cX0_firstWinner 69 = .ok (.ireturn, 1) := by decide +kernel
set_option maxRecDepth 20000 in
theorem ggX0_countWinners_X0_firstWinner : GoodIn wsX0_countWinners wsX0_firstWinner := goodIn_r _ [6, 7, 1, 8, 9, 10, 5, 11, 12, 13, 14, 15, 16, 17, 18, 19, 20, 21, 22, 23, 24, 25, 26, 27, 28, 29, 30, 31, 32, 33, 34, 35, 36, 37, 38, 39, 40, 41, 42, 43, 44, 45, 46] (by decide +kernel) (by decide +kernel)
set_option maxRecDepth 20000 in
theorem gX0_countWinners_X0_firstWinner : GoodIn wsX0_countWinners (wsV RX0 176 RX0 yX0_firstWinner wsX0_firstWinner) := goodIn_app (goodIn_of _ (by decide +kernel)) ggX0_countWinners_X0_firstWinner
set_option maxRecDepth 20000 in
theorem ggX0_countWinners_X0_targetAbove : GoodIn wsX0_countWinners wsX0_targetAbove := goodIn_r _ [11, 12, 13, 14, 15, 16, 17, 18, 19, 37, 38, 39, 40, 41, 42, 43, 44, 45, 46, 34, 35, 36] (by decide +kernel) (by decide +kernel)
set_option maxRecDepth 20000 in
theorem gX0_countWinners_X0_targetAbove : GoodIn wsX0_countWinners (wsV RX0 165 RX0 yX0_targetAbove wsX0_targetAbove) := goodIn_app (goodIn_of _ (by decide +kernel)) ggX0_countWinners_X0_targetAbove
set_option maxRecDepth 20000 in
theorem ggX0_countWinners_X0_targetLine : GoodIn wsX0_countWinners wsX0_targetLine := goodIn_r _ [23, 24, 1, 37, 38, 39, 40, 41, 42, 43, 44, 45, 46, 34, 35, 36] (by decide +kernel) (by decide +kernel)
set_option maxRecDepth 20000 in
theorem gX0_countWinners_X0_targetLine : GoodIn wsX0_countWinners (wsV RX0 169 RX0 yX0_targetLine wsX0_targetLine) := goodIn_app (goodIn_of _ (by decide +kernel)) ggX0_countWinners_X0_targetLine
set_option maxRecDepth 20000 in
theorem ggX0_countWinners_X3_at : GoodIn wsX0_countWinners wsX3_at := goodIn_r _ [28, 18, 19, 34, 35, 36] (by decide +kernel) (by decide +kernel)
set_option maxRecDepth 20000 in
theorem gX0_countWinners_X3_at : GoodIn wsX0_countWinners (wsV RX0 159 RX3 yX3_at wsX3_at) := goodIn_app (goodIn_of _ (by decide +kernel)) ggX0_countWinners_X3_at
set_option maxRecDepth 20000 in
theorem ggX0_countWinners_X0_farFrom : GoodIn wsX0_countWinners wsX0_farFrom := goodIn_r _ [32, 33, 7, 37, 38, 39, 40, 41, 42, 43, 44, 45, 46] (by decide +kernel) (by decide +kernel)
set_option maxRecDepth 20000 in
theorem gX0_countWinners_X0_farFrom : GoodIn wsX0_countWinners (wsV RX0 172 RX0 yX0_farFrom wsX0_farFrom) := goodIn_app (goodIn_of _ (by decide +kernel)) ggX0_countWinners_X0_farFrom
theorem dX0_countWinners_0 : decode cX0_countWinners 0 = .ok (.aload_n 0, 1) := by decide +kernel
theorem dX0_countWinners_1 : decode cX0_countWinners 1 = .ok (.aload_n 1, 1) := by decide +kernel
theorem dX0_countWinners_2 : decode cX0_countWinners 2 = .ok (.invokevirtual 176, 3) := by decide +kernel
theorem dX0_countWinners_5 : decode cX0_countWinners 5 = .ok (.istore_n 2, 1) := by decide +kernel
theorem dX0_countWinners_6 : decode cX0_countWinners 6 = .ok (.iload_n 2, 1) := by decide +kernel
theorem dX0_countWinners_7 : decode cX0_countWinners 7 = .ok (.bipush (-4), 2) := by decide +kernel
theorem dX0_countWinners_9 : decode cX0_countWinners 9 = .ok (.if_icmp .ne 5, 3) := by decide +kernel
theorem dX0_countWinners_12 : decode cX0_countWinners 12 = .ok (.iconst 0, 1) := by decide +kernel
theorem dX0_countWinners_13 : decode cX0_countWinners 13 = .ok (.ireturn, 1) := by decide +kernel
theorem dX0_countWinners_14 : decode cX0_countWinners 14 = .ok (.aload_n 0, 1) := by decide +kernel
theorem dX0_countWinners_15 : decode cX0_countWinners 15 = .ok (.aload_n 1, 1) := by decide +kernel
theorem dX0_countWinners_16 : decode cX0_countWinners 16 = .ok (.invokevirtual 165, 3) := by decide +kernel
theorem dX0_countWinners_19 : decode cX0_countWinners 19 = .ok (.istore_n 3, 1) := by decide +kernel
theorem dX0_countWinners_20 : decode cX0_countWinners 20 = .ok (.aload_n 0, 1) := by decide +kernel
theorem dX0_countWinners_21 : decode cX0_countWinners 21 = .ok (.aload_n 1, 1) := by decide +kernel
theorem dX0_countWinners_22 : decode cX0_countWinners 22 = .ok (.invokevirtual 169, 3) := by decide +kernel
theorem dX0_countWinners_25 : decode cX0_countWinners 25 = .ok (.istore 4, 2) := by decide +kernel
theorem dX0_countWinners_27 : decode cX0_countWinners 27 = .ok (.aload_n 0, 1) := by decide +kernel
theorem dX0_countWinners_28 : decode cX0_countWinners 28 = .ok (.iload_n 3, 1) := by decide +kernel
theorem dX0_countWinners_29 : decode cX0_countWinners 29 = .ok (.iload 4, 2) := by decide +kernel
theorem dX0_countWinners_31 : decode cX0_countWinners 31 = .ok (.aload_n 1, 1) := by decide +kernel
theorem dX0_countWinners_32 : decode cX0_countWinners 32 = .ok (.iload_n 2, 1) := by decide +kernel
theorem dX0_countWinners_33 : decode cX0_countWinners 33 = .ok (.invokevirtual 159, 3) := by decide +kernel
theorem dX0_countWinners_36 : decode cX0_countWinners 36 = .ok (.invokevirtual 172, 3) := by decide +kernel
theorem dX0_countWinners_39 : decode cX0_countWinners 39 = .ok (.istore 5, 2) := by decide +kernel
theorem dX0_countWinners_41 : decode cX0_countWinners 41 = .ok (.iconst 0, 1) := by decide +kernel
theorem dX0_countWinners_42 : decode cX0_countWinners 42 = .ok (.istore 6, 2) := by decide +kernel
theorem dX0_countWinners_44 : decode cX0_countWinners 44 = .ok (.iconst 0, 1) := by decide +kernel
theorem dX0_countWinners_45 : decode cX0_countWinners 45 = .ok (.istore 7, 2) := by decide +kernel
theorem dX0_countWinners_47 : decode cX0_countWinners 47 = .ok (.iload 7, 2) := by decide +kernel
theorem dX0_countWinners_49 : decode cX0_countWinners 49 = .ok (.aload_n 1, 1) := by decide +kernel
theorem dX0_countWinners_50 : decode cX0_countWinners 50 = .ok (.getfield 156, 3) := by decide +kernel
theorem dX0_countWinners_53 : decode cX0_countWinners 53 = .ok (.if_icmp .ge 30, 3) := by decide +kernel
theorem dX0_countWinners_56 : decode cX0_countWinners 56 = .ok (.aload_n 0, 1) := by decide +kernel
theorem dX0_countWinners_57 : decode cX0_countWinners 57 = .ok (.iload_n 3, 1) := by decide +kernel
theorem dX0_countWinners_58 : decode cX0_countWinners 58 = .ok (.iload 4, 2) := by decide +kernel
theorem dX0_countWinners_60 : decode cX0_countWinners 60 = .ok (.aload_n 1, 1) := by decide +kernel
theorem dX0_countWinners_61 : decode cX0_countWinners 61 = .ok (.iload 7, 2) := by decide +kernel
theorem dX0_countWinners_63 : decode cX0_countWinners 63 = .ok (.invokevirtual 159, 3) := by decide +kernel
theorem dX0_countWinners_66 : decode cX0_countWinners 66 = .ok (.invokevirtual 172, 3) := by decide +kernel
theorem dX0_countWinners_69 : decode cX0_countWinners 69 = .ok (.iload 5, 2) := by decide +kernel
theorem dX0_countWinners_71 : decode cX0_countWinners 71 = .ok (.if_icmp .ne 6, 3) := by decide +kernel
theorem dX0_countWinners_74 : decode cX0_countWinners 74 = .ok (.iinc 6 1, 3) := by decide +kernel
theorem dX0_countWinners_77 : decode cX0_countWinners 77 = .ok (.iinc 7 1, 3) := by decide +kernel
theorem dX0_countWinners_80 : decode cX0_countWinners 80 = .ok (.goto (-33), 3) := by decide +kernel
theorem dX0_countWinners_83 : decode cX0_countWinners 83 = .ok (.iload 6, 2) := by decide +kernel
theorem dX0_countWinners_85 : decode cX0_countWinners 85 = .ok (.ireturn, 1) := by decide +kernel
set_option maxRecDepth 20000 in
theorem ggX0_isWinner_X0_firstWinner : GoodIn wsX0_isWinner wsX0_firstWinner := goodIn_r _ [5, 6, 7, 8, 9, 10, 4, 11, 12, 13, 14, 15, 16, 17, 18, 19, 20, 21, 22, 23, 24, 25, 26, 27, 28, 29, 30, 31, 32, 33, 38, 39, 40, 41, 42, 43, 44, 45, 46, 47, 48, 49, 50] (by decide +kernel) (by decide +kernel)
set_option maxRecDepth 20000 in
theorem gX0_isWinner_X0_firstWinner : GoodIn wsX0_isWinner (wsV RX0 176 RX0 yX0_firstWinner wsX0_firstWinner) := goodIn_app (goodIn_of _ (by decide +kernel)) ggX0_isWinner_X0_firstWinner
set_option maxRecDepth 20000 in
theorem ggX0_isWinner_X3_hasPlace : GoodIn wsX0_isWinner wsX3_hasPlace := goodIn_r _ [37, 18, 38, 39, 40] (by decide +kernel) (by decide +kernel)
set_option maxRecDepth 20000 in
theorem gX0_isWinner_X3_hasPlace : GoodIn wsX0_isWinner (wsV RX0 179 RX3 yX3_hasPlace wsX3_hasPlace) := goodIn_app (goodIn_of _ (by decide +kernel)) ggX0_isWinner_X3_hasPlace
set_option maxRecDepth 20000 in
theorem ggX0_isWinner_X0_targetAbove : GoodIn wsX0_isWinner wsX0_targetAbove := goodIn_r _ [11, 12, 13, 14, 15, 16, 17, 18, 19, 41, 42, 43, 44, 45, 46, 47, 48, 49, 50, 38, 39, 40] (by decide +kernel) (by decide +kernel)
set_option maxRecDepth 20000 in
theorem gX0_isWinner_X0_targetAbove : GoodIn wsX0_isWinner (wsV RX0 165 RX0 yX0_targetAbove wsX0_targetAbove) := goodIn_app (goodIn_of _ (by decide +kernel)) ggX0_isWinner_X0_targetAbove
set_option maxRecDepth 20000 in
theorem ggX0_isWinner_X0_targetLine : GoodIn wsX0_isWinner wsX0_targetLine := goodIn_r _ [23, 24, 7, 41, 42, 43, 44, 45, 46, 47, 48, 49, 50, 38, 39, 40] (by decide +kernel) (by decide +kernel)
set_option maxRecDepth 20000 in
theorem gX0_isWinner_X0_targetLine : GoodIn wsX0_isWinner (wsV RX0 169 RX0 yX0_targetLine wsX0_targetLine) := goodIn_app (goodIn_of _ (by decide +kernel)) ggX0_isWinner_X0_targetLine
set_option maxRecDepth 20000 in
theorem ggX0_isWinner_X3_at : GoodIn wsX0_isWinner wsX3_at := goodIn_r _ [28, 18, 19, 38, 39, 40] (by decide +kernel) (by decide +kernel)
set_option maxRecDepth 20000 in
theorem gX0_isWinner_X3_at : GoodIn wsX0_isWinner (wsV RX0 159 RX3 yX3_at wsX3_at) := goodIn_app (goodIn_of _ (by decide +kernel)) ggX0_isWinner_X3_at
set_option maxRecDepth 20000 in
theorem ggX0_isWinner_X0_farFrom : GoodIn wsX0_isWinner wsX0_farFrom := goodIn_r _ [32, 33, 6, 41, 42, 43, 44, 45, 46, 47, 48, 49, 50] (by decide +kernel) (by decide +kernel)
set_option maxRecDepth 20000 in
theorem gX0_isWinner_X0_farFrom : GoodIn wsX0_isWinner (wsV RX0 172 RX0 yX0_farFrom wsX0_farFrom) := goodIn_app (goodIn_of _ (by decide +kernel)) ggX0_isWinner_X0_farFrom
theorem dX0_isWinner_0 : decode cX0_isWinner 0 = .ok (.aload_n 0, 1) := by decide +kernel
theorem dX0_isWinner_1 : decode cX0_isWinner 1 = .ok (.aload_n 1, 1) := by decide +kernel
theorem dX0_isWinner_2 : decode cX0_isWinner 2 = .ok (.invokevirtual 176, 3) := by decide +kernel
theorem dX0_isWinner_5 : decode cX0_isWinner 5 = .ok (.istore_n 3, 1) := by decide +kernel
theorem dX0_isWinner_6 : decode cX0_isWinner 6 = .ok (.iload_n 3, 1) := by decide +kernel
theorem dX0_isWinner_7 : decode cX0_isWinner 7 = .ok (.bipush (-4), 2) := by decide +kernel
theorem dX0_isWinner_9 : decode cX0_isWinner 9 = .ok (.if_icmp .eq 11, 3) := by decide +kernel
theorem dX0_isWinner_12 : decode cX0_isWinner 12 = .ok (.aload_n 1, 1) := by decide +kernel
theorem dX0_isWinner_13 : decode cX0_isWinner 13 = .ok (.iload_n 2, 1) := by decide +kernel
theorem dX0_isWinner_14 : decode cX0_isWinner 14 = .ok (.invokevirtual 179, 3) := by decide +kernel
theorem dX0_isWinner_17 : decode cX0_isWinner 17 = .ok (.ifCond .ne 5, 3) := by decide +kernel
theorem dX0_isWinner_20 : decode cX0_isWinner 20 = .ok (.iconst 0, 1) := by decide +kernel
theorem dX0_isWinner_21 : decode cX0_isWinner 21 = .ok (.ireturn, 1) := by decide +kernel
theorem dX0_isWinner_22 : decode cX0_isWinner 22 = .ok (.aload_n 0, 1) := by decide +kernel
theorem dX0_isWinner_23 : decode cX0_isWinner 23 = .ok (.aload_n 1, 1) := by decide +kernel
theorem dX0_isWinner_24 : decode cX0_isWinner 24 = .ok (.invokevirtual 165, 3) := by decide +kernel
theorem dX0_isWinner_27 : decode cX0_isWinner 27 = .ok (.istore 4, 2) := by decide +kernel
theorem dX0_isWinner_29 : decode cX0_isWinner 29 = .ok (.aload_n 0, 1) := by decide +kernel
theorem dX0_isWinner_30 : decode cX0_isWinner 30 = .ok (.aload_n 1, 1) := by decide +kernel
theorem dX0_isWinner_31 : decode cX0_isWinner 31 = .ok (.invokevirtual 169, 3) := by decide +kernel
theorem dX0_isWinner_34 : decode cX0_isWinner 34 = .ok (.istore 5, 2) := by decide +kernel
theorem dX0_isWinner_36 : decode cX0_isWinner 36 = .ok (.aload_n 0, 1) := by decide +kernel
theorem dX0_isWinner_37 : decode cX0_isWinner 37 = .ok (.iload 4, 2) := by decide +kernel
theorem dX0_isWinner_39 : decode cX0_isWinner 39 = .ok (.iload 5, 2) := by decide +kernel
theorem dX0_isWinner_41 : decode cX0_isWinner 41 = .ok (.aload_n 1, 1) := by decide +kernel
theorem dX0_isWinner_42 : decode cX0_isWinner 42 = .ok (.iload_n 2, 1) := by decide +kernel
theorem dX0_isWinner_43 : decode cX0_isWinner 43 = .ok (.invokevirtual 159, 3) := by decide +kernel
theorem dX0_isWinner_46 : decode cX0_isWinner 46 = .ok (.invokevirtual 172, 3) := by decide +kernel
theorem dX0_isWinner_49 : decode cX0_isWinner 49 = .ok (.aload_n 0, 1) := by decide +kernel
theorem dX0_isWinner_50 : decode cX0_isWinner 50 = .ok (.iload 4, 2) := by decide +kernel
theorem dX0_isWinner_52 : decode cX0_isWinner 52 = .ok (.iload 5, 2) := by decide +kernel
theorem dX0_isWinner_54 : decode cX0_isWinner 54 = .ok (.aload_n 1, 1) := by decide +kernel
theorem dX0_isWinner_55 : decode cX0_isWinner 55 = .ok (.iload_n 3, 1) := by decide +kernel
theorem dX0_isWinner_56 : decode cX0_isWinner 56 = .ok (.invokevirtual 159, 3) := by decide +kernel
theorem dX0_isWinner_59 : decode cX0_isWinner 59 = .ok (.invokevirtual 172, 3) := by decide +kernel
theorem dX0_isWinner_62 : decode cX0_isWinner 62 = .ok (.if_icmp .ne 7, 3) := by decide +kernel
theorem dX0_isWinner_65 : decode cX0_isWinner 65 = .ok (.iconst 1, 1) := by decide +kernel
theorem dX0_isWinner_66 : decode cX0_isWinner 66 = .ok (.goto 4, 3) := by decide +kernel
theorem dX0_isWinner_69 : decode cX0_isWinner 69 = .ok (.iconst 0, 1) := by decide +kernel
theorem dX0_isWinner_70 : decode cX0_isWinner 70 = .ok (.ireturn, 1) := by decide +kernel
set_option maxRecDepth 20000 in
theorem ggX0_bestAgainst_X3_sum : GoodIn wsX0_bestAgainst wsX3_sum := goodIn_r _ [11, 12, 13, 29, 30, 31] (by decide +kernel) (by decide +kernel)
set_option maxRecDepth 20000 in
theorem gX0_bestAgainst_X3_sum : GoodIn wsX0_bestAgainst (wsV RX0 153 RX3 yX3_sum wsX3_sum) := goodIn_app (goodIn_of _ (by decide +kernel)) ggX0_bestAgainst_X3_sum
set_option maxRecDepth 20000 in
theorem ggX0_bestAgainst_X0_farFrom : GoodIn wsX0_bestAgainst wsX0_farFrom := goodIn_r _ [18, 6, 3, 19, 20, 21, 22, 23, 24, 25, 26, 27, 28] (by decide +kernel) (by decide +kernel)
set_option maxRecDepth 20000 in
theorem gX0_bestAgainst_X0_farFrom : GoodIn wsX0_bestAgainst (wsV RX0 172 RX0 yX0_farFrom wsX0_farFrom) := goodIn_app (goodIn_of _ (by decide +kernel)) ggX0_bestAgainst_X0_farFrom
theorem dX0_bestAgainst_0 : decode cX0_bestAgainst 0 = .ok (.aload_n 0, 1) := by decide +kernel
theorem dX0_bestAgainst_1 : decode cX0_bestAgainst 1 = .ok (.getfield 15, 3) := by decide +kernel
theorem dX0_bestAgainst_4 : decode cX0_bestAgainst 4 = .ok (.aload_n 1, 1) := by decide +kernel
theorem dX0_bestAgainst_5 : decode cX0_bestAgainst 5 = .ok (.getfield 156, 3) := by decide +kernel
theorem dX0_bestAgainst_8 : decode cX0_bestAgainst 8 = .ok (.iconst 1, 1) := by decide +kernel
theorem dX0_bestAgainst_9 : decode cX0_bestAgainst 9 = .ok (.iadd, 1) := by decide +kernel
theorem dX0_bestAgainst_10 : decode cX0_bestAgainst 10 = .ok (.imul, 1) := by decide +kernel
theorem dX0_bestAgainst_11 : decode cX0_bestAgainst 11 = .ok (.istore_n 2, 1) := by decide +kernel
theorem dX0_bestAgainst_12 : decode cX0_bestAgainst 12 = .ok (.aload_n 1, 1) := by decide +kernel
theorem dX0_bestAgainst_13 : decode cX0_bestAgainst 13 = .ok (.invokevirtual 153, 3) := by decide +kernel
theorem dX0_bestAgainst_16 : decode cX0_bestAgainst 16 = .ok (.istore_n 3, 1) := by decide +kernel
theorem dX0_bestAgainst_17 : decode cX0_bestAgainst 17 = .ok (.iconst 0, 1) := by decide +kernel
theorem dX0_bestAgainst_18 : decode cX0_bestAgainst 18 = .ok (.istore 4, 2) := by decide +kernel
theorem dX0_bestAgainst_20 : decode cX0_bestAgainst 20 = .ok (.ldc 103, 2) := by decide +kernel
theorem dX0_bestAgainst_22 : decode cX0_bestAgainst 22 = .ok (.istore 5, 2) := by decide +kernel
theorem dX0_bestAgainst_24 : decode cX0_bestAgainst 24 = .ok (.iconst 0, 1) := by decide +kernel
theorem dX0_bestAgainst_25 : decode cX0_bestAgainst 25 = .ok (.istore 6, 2) := by decide +kernel
theorem dX0_bestAgainst_27 : decode cX0_bestAgainst 27 = .ok (.iload 6, 2) := by decide +kernel
theorem dX0_bestAgainst_29 : decode cX0_bestAgainst 29 = .ok (.aload_n 0, 1) := by decide +kernel
theorem dX0_bestAgainst_30 : decode cX0_bestAgainst 30 = .ok (.getfield 18, 3) := by decide +kernel
theorem dX0_bestAgainst_33 : decode cX0_bestAgainst 33 = .ok (.if_icmp .gt 57, 3) := by decide +kernel
theorem dX0_bestAgainst_36 : decode cX0_bestAgainst 36 = .ok (.aload_n 0, 1) := by decide +kernel
theorem dX0_bestAgainst_37 : decode cX0_bestAgainst 37 = .ok (.aload_n 0, 1) := by decide +kernel
theorem dX0_bestAgainst_38 : decode cX0_bestAgainst 38 = .ok (.getfield 9, 3) := by decide +kernel
theorem dX0_bestAgainst_41 : decode cX0_bestAgainst 41 = .ok (.iload_n 3, 1) := by decide +kernel
theorem dX0_bestAgainst_42 : decode cX0_bestAgainst 42 = .ok (.iload 6, 2) := by decide +kernel
theorem dX0_bestAgainst_44 : decode cX0_bestAgainst 44 = .ok (.iadd, 1) := by decide +kernel
theorem dX0_bestAgainst_45 : decode cX0_bestAgainst 45 = .ok (.imul, 1) := by decide +kernel
theorem dX0_bestAgainst_46 : decode cX0_bestAgainst 46 = .ok (.iload_n 2, 1) := by decide +kernel
theorem dX0_bestAgainst_47 : decode cX0_bestAgainst 47 = .ok (.iload 6, 2) := by decide +kernel
theorem dX0_bestAgainst_49 : decode cX0_bestAgainst 49 = .ok (.invokevirtual 172, 3) := by decide +kernel
theorem dX0_bestAgainst_52 : decode cX0_bestAgainst 52 = .ok (.istore 7, 2) := by decide +kernel
theorem dX0_bestAgainst_54 : decode cX0_bestAgainst 54 = .ok (.iload 7, 2) := by decide +kernel
theorem dX0_bestAgainst_56 : decode cX0_bestAgainst 56 = .ok (.iload 5, 2) := by decide +kernel
theorem dX0_bestAgainst_58 : decode cX0_bestAgainst 58 = .ok (.if_icmp .lt 18, 3) := by decide +kernel
theorem dX0_bestAgainst_61 : decode cX0_bestAgainst 61 = .ok (.aload_n 0, 1) := by decide +kernel
theorem dX0_bestAgainst_62 : decode cX0_bestAgainst 62 = .ok (.getfield 21, 3) := by decide +kernel
theorem dX0_bestAgainst_65 : decode cX0_bestAgainst 65 = .ok (.iconst 1, 1) := by decide +kernel
theorem dX0_bestAgainst_66 : decode cX0_bestAgainst 66 = .ok (.if_icmp .ne 18, 3) := by decide +kernel
theorem dX0_bestAgainst_69 : decode cX0_bestAgainst 69 = .ok (.iload 7, 2) := by decide +kernel
theorem dX0_bestAgainst_71 : decode cX0_bestAgainst 71 = .ok (.ldc 103, 2) := by decide +kernel
theorem dX0_bestAgainst_73 : decode cX0_bestAgainst 73 = .ok (.if_icmp .eq 11, 3) := by decide +kernel
theorem dX0_bestAgainst_76 : decode cX0_bestAgainst 76 = .ok (.iload 7, 2) := by decide +kernel
theorem dX0_bestAgainst_78 : decode cX0_bestAgainst 78 = .ok (.istore 5, 2) := by decide +kernel
theorem dX0_bestAgainst_80 : decode cX0_bestAgainst 80 = .ok (.iload 6, 2) := by decide +kernel
theorem dX0_bestAgainst_82 : decode cX0_bestAgainst 82 = .ok (.istore 4, 2) := by decide +kernel
theorem dX0_bestAgainst_84 : decode cX0_bestAgainst 84 = .ok (.iinc 6 1, 3) := by decide +kernel
theorem dX0_bestAgainst_87 : decode cX0_bestAgainst 87 = .ok (.goto (-60), 3) := by decide +kernel
theorem dX0_bestAgainst_90 : decode cX0_bestAgainst 90 = .ok (.iload 4, 2) := by decide +kernel
theorem dX0_bestAgainst_92 : decode cX0_bestAgainst 92 = .ok (.ireturn, 1) := by decide +kernel
set_option maxRecDepth 20000 in
theorem ggX0_nearestSteps_X0_middle : GoodIn wsX0_nearestSteps wsX0_middle := goodIn_r _ [9, 10, 24, 25, 26, 27, 28, 29, 30, 31, 32, 33] (by decide +kernel) (by decide +kernel)
set_option maxRecDepth 20000 in
theorem gX0_nearestSteps_X0_middle : GoodIn wsX0_nearestSteps (wsV RX0 113 RX0 yX0_middle wsX0_middle) := goodIn_app (goodIn_of _ (by decide +kernel)) ggX0_nearestSteps_X0_middle
set_option maxRecDepth 20000 in
theorem ggX0_nearestSteps_X0_shareOf : GoodIn wsX0_nearestSteps wsX0_shareOf := goodIn_r _ [14, 15, 16, 17, 18, 19, 20, 21, 22, 8, 23, 10, 24, 25, 26, 27, 28, 29, 30, 31, 32, 33] (by decide +kernel) (by decide +kernel)
set_option maxRecDepth 20000 in
theorem gX0_nearestSteps_X0_shareOf : GoodIn wsX0_nearestSteps (wsV RX0 120 RX0 yX0_shareOf wsX0_shareOf) := goodIn_app (goodIn_of _ (by decide +kernel)) ggX0_nearestSteps_X0_shareOf
theorem dX0_nearestSteps_0 : decode cX0_nearestSteps 0 = .ok (.aload_n 0, 1) := by decide +kernel
theorem dX0_nearestSteps_1 : decode cX0_nearestSteps 1 = .ok (.invokevirtual 113, 3) := by decide +kernel
theorem dX0_nearestSteps_4 : decode cX0_nearestSteps 4 = .ok (.istore_n 2, 1) := by decide +kernel
theorem dX0_nearestSteps_5 : decode cX0_nearestSteps 5 = .ok (.iload_n 1, 1) := by decide +kernel
theorem dX0_nearestSteps_6 : decode cX0_nearestSteps 6 = .ok (.iload_n 2, 1) := by decide +kernel
theorem dX0_nearestSteps_7 : decode cX0_nearestSteps 7 = .ok (.isub, 1) := by decide +kernel
theorem dX0_nearestSteps_8 : decode cX0_nearestSteps 8 = .ok (.invokestatic 182, 3) := by decide +kernel
theorem dX0_nearestSteps_11 : decode cX0_nearestSteps 11 = .ok (.istore_n 3, 1) := by decide +kernel
theorem dX0_nearestSteps_12 : decode cX0_nearestSteps 12 = .ok (.iconst 0, 1) := by decide +kernel
theorem dX0_nearestSteps_13 : decode cX0_nearestSteps 13 = .ok (.istore 4, 2) := by decide +kernel
theorem dX0_nearestSteps_15 : decode cX0_nearestSteps 15 = .ok (.iconst 1, 1) := by decide +kernel
theorem dX0_nearestSteps_16 : decode cX0_nearestSteps 16 = .ok (.istore 5, 2) := by decide +kernel
theorem dX0_nearestSteps_18 : decode cX0_nearestSteps 18 = .ok (.iload 5, 2) := by decide +kernel
theorem dX0_nearestSteps_20 : decode cX0_nearestSteps 20 = .ok (.bipush 9, 2) := by decide +kernel
theorem dX0_nearestSteps_22 : decode cX0_nearestSteps 22 = .ok (.if_icmp .gt 36, 3) := by decide +kernel
theorem dX0_nearestSteps_25 : decode cX0_nearestSteps 25 = .ok (.aload_n 0, 1) := by decide +kernel
theorem dX0_nearestSteps_26 : decode cX0_nearestSteps 26 = .ok (.iload_n 2, 1) := by decide +kernel
theorem dX0_nearestSteps_27 : decode cX0_nearestSteps 27 = .ok (.invokevirtual 120, 3) := by decide +kernel
theorem dX0_nearestSteps_30 : decode cX0_nearestSteps 30 = .ok (.istore_n 2, 1) := by decide +kernel
theorem dX0_nearestSteps_31 : decode cX0_nearestSteps 31 = .ok (.iload_n 1, 1) := by decide +kernel
theorem dX0_nearestSteps_32 : decode cX0_nearestSteps 32 = .ok (.iload_n 2, 1) := by decide +kernel
theorem dX0_nearestSteps_33 : decode cX0_nearestSteps 33 = .ok (.isub, 1) := by decide +kernel
theorem dX0_nearestSteps_34 : decode cX0_nearestSteps 34 = .ok (.invokestatic 182, 3) := by decide +kernel
theorem dX0_nearestSteps_37 : decode cX0_nearestSteps 37 = .ok (.istore 6, 2) := by decide +kernel
theorem dX0_nearestSteps_39 : decode cX0_nearestSteps 39 = .ok (.iload 6, 2) := by decide +kernel
theorem dX0_nearestSteps_41 : decode cX0_nearestSteps 41 = .ok (.iload_n 3, 1) := by decide +kernel
theorem dX0_nearestSteps_42 : decode cX0_nearestSteps 42 = .ok (.if_icmp .ge 10, 3) := by decide +kernel
theorem dX0_nearestSteps_45 : decode cX0_nearestSteps 45 = .ok (.iload 6, 2) := by decide +kernel
theorem dX0_nearestSteps_47 : decode cX0_nearestSteps 47 = .ok (.istore_n 3, 1) := by decide +kernel
theorem dX0_nearestSteps_48 : decode cX0_nearestSteps 48 = .ok (.iload 5, 2) := by decide +kernel
theorem dX0_nearestSteps_50 : decode cX0_nearestSteps 50 = .ok (.istore 4, 2) := by decide +kernel
theorem dX0_nearestSteps_52 : decode cX0_nearestSteps 52 = .ok (.iinc 5 1, 3) := by decide +kernel
theorem dX0_nearestSteps_55 : decode cX0_nearestSteps 55 = .ok (.goto (-37), 3) := by decide +kernel
theorem dX0_nearestSteps_58 : decode cX0_nearestSteps 58 = .ok (.iload 4, 2) := by decide +kernel
theorem dX0_nearestSteps_60 : decode cX0_nearestSteps 60 = .ok (.ireturn, 1) := by decide +kernel
set_option maxRecDepth 20000 in
theorem ggX0_countSteps_J7_fill_53178 : GoodIn wsX0_countSteps wsJ7_fill_53178 := goodIn_r _ [5] (by decide +kernel) (by decide +kernel)
set_option maxRecDepth 20000 in
theorem gX0_countSteps_J7_fill_53178 : GoodIn wsX0_countSteps (va_wsS RX0 187 yJ7_fill_53178 wsJ7_fill_53178) := goodIn_app (goodIn_of _ (by decide +kernel)) ggX0_countSteps_J7_fill_53178
set_option maxRecDepth 20000 in
theorem ggX0_countSteps_X3_at : GoodIn wsX0_countSteps wsX3_at := goodIn_r _ [10, 11, 12, 40, 41, 42] (by decide +kernel) (by decide +kernel)
set_option maxRecDepth 20000 in
theorem gX0_countSteps_X3_at : GoodIn wsX0_countSteps (wsV RX0 159 RX3 yX3_at wsX3_at) := goodIn_app (goodIn_of _ (by decide +kernel)) ggX0_countSteps_X3_at
set_option maxRecDepth 20000 in
theorem ggX0_countSteps_X0_nearestSteps : GoodIn wsX0_countSteps wsX0_nearestSteps := goodIn_r _ [17, 18, 19, 20, 21, 22, 23, 24, 16, 25, 26, 27, 28, 29, 30, 31, 32, 33, 34, 35, 36, 37, 38, 39, 43, 44, 45, 46, 47, 48, 49, 50, 51, 52] (by decide +kernel) (by decide +kernel)
set_option maxRecDepth 20000 in
theorem gX0_countSteps_X0_nearestSteps : GoodIn wsX0_countSteps (wsV RX0 193 RX0 yX0_nearestSteps wsX0_nearestSteps) := goodIn_app (goodIn_of _ (by decide +kernel)) ggX0_countSteps_X0_nearestSteps
theorem dX0_countSteps_0 : decode cX0_countSteps 0 = .ok (.aload_n 2, 1) := by decide +kernel
theorem dX0_countSteps_1 : decode cX0_countSteps 1 = .ok (.iconst 0, 1) := by decide +kernel
theorem dX0_countSteps_2 : decode cX0_countSteps 2 = .ok (.invokestatic 187, 3) := by decide +kernel
theorem dX0_countSteps_5 : decode cX0_countSteps 5 = .ok (.iconst 0, 1) := by decide +kernel
theorem dX0_countSteps_6 : decode cX0_countSteps 6 = .ok (.istore_n 3, 1) := by decide +kernel
theorem dX0_countSteps_7 : decode cX0_countSteps 7 = .ok (.iload_n 3, 1) := by decide +kernel
theorem dX0_countSteps_8 : decode cX0_countSteps 8 = .ok (.aload_n 1, 1) := by decide +kernel
theorem dX0_countSteps_9 : decode cX0_countSteps 9 = .ok (.getfield 156, 3) := by decide +kernel
theorem dX0_countSteps_12 : decode cX0_countSteps 12 = .ok (.if_icmp .ge 35, 3) := by decide +kernel
theorem dX0_countSteps_15 : decode cX0_countSteps 15 = .ok (.aload_n 0, 1) := by decide +kernel
theorem dX0_countSteps_16 : decode cX0_countSteps 16 = .ok (.aload_n 1, 1) := by decide +kernel
theorem dX0_countSteps_17 : decode cX0_countSteps 17 = .ok (.iload_n 3, 1) := by decide +kernel
theorem dX0_countSteps_18 : decode cX0_countSteps 18 = .ok (.invokevirtual 159, 3) := by decide +kernel
theorem dX0_countSteps_21 : decode cX0_countSteps 21 = .ok (.invokevirtual 193, 3) := by decide +kernel
theorem dX0_countSteps_24 : decode cX0_countSteps 24 = .ok (.istore 4, 2) := by decide +kernel
theorem dX0_countSteps_26 : decode cX0_countSteps 26 = .ok (.iload 4, 2) := by decide +kernel
theorem dX0_countSteps_28 : decode cX0_countSteps 28 = .ok (.aload_n 2, 1) := by decide +kernel
theorem dX0_countSteps_29 : decode cX0_countSteps 29 = .ok (.arraylength, 1) := by decide +kernel
theorem dX0_countSteps_30 : decode cX0_countSteps 30 = .ok (.if_icmp .ge 11, 3) := by decide +kernel
theorem dX0_countSteps_33 : decode cX0_countSteps 33 = .ok (.aload_n 2, 1) := by decide +kernel
theorem dX0_countSteps_34 : decode cX0_countSteps 34 = .ok (.iload 4, 2) := by decide +kernel
theorem dX0_countSteps_36 : decode cX0_countSteps 36 = .ok (.dup2, 1) := by decide +kernel
theorem dX0_countSteps_37 : decode cX0_countSteps 37 = .ok (.iaload, 1) := by decide +kernel
theorem dX0_countSteps_38 : decode cX0_countSteps 38 = .ok (.iconst 1, 1) := by decide +kernel
theorem dX0_countSteps_39 : decode cX0_countSteps 39 = .ok (.iadd, 1) := by decide +kernel
theorem dX0_countSteps_40 : decode cX0_countSteps 40 = .ok (.iastore, 1) := by decide +kernel
theorem dX0_countSteps_41 : decode cX0_countSteps 41 = .ok (.iinc 3 1, 3) := by decide +kernel
theorem dX0_countSteps_44 : decode cX0_countSteps 44 = .ok (.goto (-37), 3) := by decide +kernel
theorem dX0_countSteps_47 : decode cX0_countSteps 47 = .ok (.return_, 1) := by decide +kernel
theorem dX1_init_0 : decode cX1_init 0 = .ok (.aload_n 0, 1) := by decide +kernel
theorem dX1_init_1 : decode cX1_init 1 = .ok (.invokespecial 3, 3) := by decide +kernel
theorem dX1_init_4 : decode cX1_init 4 = .ok (.return_, 1) := by decide +kernel
theorem dX1_begin_0 : decode cX1_begin 0 = .ok (.aload_n 0, 1) := by decide +kernel
theorem dX1_begin_1 : decode cX1_begin 1 = .ok (.iload_n 1, 1) := by decide +kernel
theorem dX1_begin_2 : decode cX1_begin 2 = .ok (.putfield 9, 3) := by decide +kernel
theorem dX1_begin_5 : decode cX1_begin 5 = .ok (.aload_n 0, 1) := by decide +kernel
theorem dX1_begin_6 : decode cX1_begin 6 = .ok (.iload_n 2, 1) := by decide +kernel
theorem dX1_begin_7 : decode cX1_begin 7 = .ok (.putfield 15, 3) := by decide +kernel
theorem dX1_begin_10 : decode cX1_begin 10 = .ok (.aload_n 0, 1) := by decide +kernel
theorem dX1_begin_11 : decode cX1_begin 11 = .ok (.iload_n 3, 1) := by decide +kernel
theorem dX1_begin_12 : decode cX1_begin 12 = .ok (.putfield 18, 3) := by decide +kernel
theorem dX1_begin_15 : decode cX1_begin 15 = .ok (.aload_n 0, 1) := by decide +kernel
theorem dX1_begin_16 : decode cX1_begin 16 = .ok (.iload 4, 2) := by decide +kernel
theorem dX1_begin_18 : decode cX1_begin 18 = .ok (.putfield 21, 3) := by decide +kernel
theorem dX1_begin_21 : decode cX1_begin 21 = .ok (.return_, 1) := by decide +kernel
set_option maxRecDepth 20000 in
theorem ggX1_takeFrom_X1_begin : GoodIn wsX1_takeFrom wsX1_begin := goodIn_r _ [9, 1, 2, 3, 4, 10, 11, 12, 13] (by decide +kernel) (by decide +kernel)
set_option maxRecDepth 20000 in
theorem gX1_takeFrom_X1_begin : GoodIn wsX1_takeFrom (wsV RX1 24 RX1 yX1_begin wsX1_begin) := goodIn_app (goodIn_of _ (by decide +kernel)) ggX1_takeFrom_X1_begin
theorem dX1_takeFrom_0 : decode cX1_takeFrom 0 = .ok (.aload_n 0, 1) := by decide +kernel
theorem dX1_takeFrom_1 : decode cX1_takeFrom 1 = .ok (.aload_n 1, 1) := by decide +kernel
theorem dX1_takeFrom_2 : decode cX1_takeFrom 2 = .ok (.getfield 9, 3) := by decide +kernel
theorem dX1_takeFrom_5 : decode cX1_takeFrom 5 = .ok (.aload_n 1, 1) := by decide +kernel
theorem dX1_takeFrom_6 : decode cX1_takeFrom 6 = .ok (.getfield 15, 3) := by decide +kernel
theorem dX1_takeFrom_9 : decode cX1_takeFrom 9 = .ok (.aload_n 1, 1) := by decide +kernel
theorem dX1_takeFrom_10 : decode cX1_takeFrom 10 = .ok (.getfield 18, 3) := by decide +kernel
theorem dX1_takeFrom_13 : decode cX1_takeFrom 13 = .ok (.aload_n 1, 1) := by decide +kernel
theorem dX1_takeFrom_14 : decode cX1_takeFrom 14 = .ok (.getfield 21, 3) := by decide +kernel
theorem dX1_takeFrom_17 : decode cX1_takeFrom 17 = .ok (.invokevirtual 24, 3) := by decide +kernel
theorem dX1_takeFrom_20 : decode cX1_takeFrom 20 = .ok (.return_, 1) := by decide +kernel
theorem dX1_holdsByDraw_0 : decode cX1_holdsByDraw 0 = .ok (.aload_n 0, 1) := by decide +kernel
theorem dX1_holdsByDraw_1 : decode cX1_holdsByDraw 1 = .ok (.getfield 15, 3) := by decide +kernel
theorem dX1_holdsByDraw_4 : decode cX1_holdsByDraw 4 = .ok (.iconst 1, 1) := by decide +kernel
theorem dX1_holdsByDraw_5 : decode cX1_holdsByDraw 5 = .ok (.if_icmp .eq 12, 3) := by decide +kernel
theorem dX1_holdsByDraw_8 : decode cX1_holdsByDraw 8 = .ok (.aload_n 0, 1) := by decide +kernel
theorem dX1_holdsByDraw_9 : decode cX1_holdsByDraw 9 = .ok (.getfield 15, 3) := by decide +kernel
theorem dX1_holdsByDraw_12 : decode cX1_holdsByDraw 12 = .ok (.bipush 7, 2) := by decide +kernel
theorem dX1_holdsByDraw_14 : decode cX1_holdsByDraw 14 = .ok (.if_icmp .ne 7, 3) := by decide +kernel
theorem dX1_holdsByDraw_17 : decode cX1_holdsByDraw 17 = .ok (.iconst 1, 1) := by decide +kernel
theorem dX1_holdsByDraw_18 : decode cX1_holdsByDraw 18 = .ok (.goto 4, 3) := by decide +kernel
theorem dX1_holdsByDraw_21 : decode cX1_holdsByDraw 21 = .ok (.iconst 0, 1) := by decide +kernel
theorem dX1_holdsByDraw_22 : decode cX1_holdsByDraw 22 = .ok (.ireturn, 1) := by decide +kernel
theorem dX1_depthOfKind_0 : decode cX1_depthOfKind 0 = .ok (.iconst 1, 1) := by decide +kernel
theorem dX1_depthOfKind_1 : decode cX1_depthOfKind 1 = .ok (.istore_n 1, 1) := by decide +kernel
theorem dX1_depthOfKind_2 : decode cX1_depthOfKind 2 = .ok (.iload_n 1, 1) := by decide +kernel
theorem dX1_depthOfKind_3 : decode cX1_depthOfKind 3 = .ok (.aload_n 0, 1) := by decide +kernel
theorem dX1_depthOfKind_4 : decode cX1_depthOfKind 4 = .ok (.getfield 21, 3) := by decide +kernel
theorem dX1_depthOfKind_7 : decode cX1_depthOfKind 7 = .ok (.iadd, 1) := by decide +kernel
theorem dX1_depthOfKind_8 : decode cX1_depthOfKind 8 = .ok (.istore_n 2, 1) := by decide +kernel
theorem dX1_depthOfKind_9 : decode cX1_depthOfKind 9 = .ok (.iload_n 1, 1) := by decide +kernel
theorem dX1_depthOfKind_10 : decode cX1_depthOfKind 10 = .ok (.bipush 10, 2) := by decide +kernel
theorem dX1_depthOfKind_12 : decode cX1_depthOfKind 12 = .ok (.aload_n 0, 1) := by decide +kernel
theorem dX1_depthOfKind_13 : decode cX1_depthOfKind 13 = .ok (.getfield 18, 3) := by decide +kernel
theorem dX1_depthOfKind_16 : decode cX1_depthOfKind 16 = .ok (.imul, 1) := by decide +kernel
theorem dX1_depthOfKind_17 : decode cX1_depthOfKind 17 = .ok (.iadd, 1) := by decide +kernel
theorem dX1_depthOfKind_18 : decode cX1_depthOfKind 18 = .ok (.istore_n 3, 1) := by decide +kernel
theorem dX1_depthOfKind_19 : decode cX1_depthOfKind 19 = .ok (.aload_n 0, 1) := by decide +kernel
theorem dX1_depthOfKind_20 : decode cX1_depthOfKind 20 = .ok (.getfield 15, 3) := by decide +kernel
theorem dX1_depthOfKind_23 : decode cX1_depthOfKind 23 = .ok (.tableswitch 69 1 7 #[41, 43, 45, 49, 54, 61, 65], 41) := by decide +kernel
theorem dX1_depthOfKind_64 : decode cX1_depthOfKind 64 = .ok (.iload_n 2, 1) := by decide +kernel
theorem dX1_depthOfKind_65 : decode cX1_depthOfKind 65 = .ok (.ireturn, 1) := by decide +kernel
theorem dX1_depthOfKind_66 : decode cX1_depthOfKind 66 = .ok (.iload_n 3, 1) := by decide +kernel
theorem dX1_depthOfKind_67 : decode cX1_depthOfKind 67 = .ok (.ireturn, 1) := by decide +kernel
theorem dX1_depthOfKind_68 : decode cX1_depthOfKind 68 = .ok (.iconst 2, 1) := by decide +kernel
theorem dX1_depthOfKind_69 : decode cX1_depthOfKind 69 = .ok (.iload_n 3, 1) := by decide +kernel
theorem dX1_depthOfKind_70 : decode cX1_depthOfKind 70 = .ok (.imul, 1) := by decide +kernel
theorem dX1_depthOfKind_71 : decode cX1_depthOfKind 71 = .ok (.ireturn, 1) := by decide +kernel
theorem dX1_depthOfKind_72 : decode cX1_depthOfKind 72 = .ok (.iload_n 1, 1) := by decide +kernel
theorem dX1_depthOfKind_73 : decode cX1_depthOfKind 73 = .ok (.bipush 90, 2) := by decide +kernel
theorem dX1_depthOfKind_75 : decode cX1_depthOfKind 75 = .ok (.iadd, 1) := by decide +kernel
theorem dX1_depthOfKind_76 : decode cX1_depthOfKind 76 = .ok (.ireturn, 1) := by decide +kernel
theorem dX1_depthOfKind_77 : decode cX1_depthOfKind 77 = .ok (.iload_n 1, 1) := by decide +kernel
theorem dX1_depthOfKind_78 : decode cX1_depthOfKind 78 = .ok (.aload_n 0, 1) := by decide +kernel
theorem dX1_depthOfKind_79 : decode cX1_depthOfKind 79 = .ok (.getfield 21, 3) := by decide +kernel
theorem dX1_depthOfKind_82 : decode cX1_depthOfKind 82 = .ok (.isub, 1) := by decide +kernel
theorem dX1_depthOfKind_83 : decode cX1_depthOfKind 83 = .ok (.ireturn, 1) := by decide +kernel
theorem dX1_depthOfKind_84 : decode cX1_depthOfKind 84 = .ok (.iload_n 3, 1) := by decide +kernel
theorem dX1_depthOfKind_85 : decode cX1_depthOfKind 85 = .ok (.iconst 5, 1) := by decide +kernel
theorem dX1_depthOfKind_86 : decode cX1_depthOfKind 86 = .ok (.iadd, 1) := by decide +kernel
theorem dX1_depthOfKind_87 : decode cX1_depthOfKind 87 = .ok (.ireturn, 1) := by decide +kernel
theorem dX1_depthOfKind_88 : decode cX1_depthOfKind 88 = .ok (.iload_n 2, 1) := by decide +kernel
theorem dX1_depthOfKind_89 : decode cX1_depthOfKind 89 = .ok (.iconst 2, 1) := by decide +kernel
theorem dX1_depthOfKind_90 : decode cX1_depthOfKind 90 = .ok (.idiv, 1) := by decide +kernel
theorem dX1_depthOfKind_91 : decode cX1_depthOfKind 91 = .ok (.ireturn, 1) := by decide +kernel
theorem dX1_depthOfKind_92 : decode cX1_depthOfKind 92 = .ok (.iload_n 1, 1) := by decide +kernel
theorem dX1_depthOfKind_93 : decode cX1_depthOfKind 93 = .ok (.ireturn, 1) := by decide +kernel
theorem dX1_fail_0 : decode cX1_fail 0 = .ok (.aload_n 0, 1) := by decide +kernel
theorem dX1_fail_1 : decode cX1_fail 1 = .ok (.getfield 15, 3) := by decide +kernel
theorem dX1_fail_4 : decode cX1_fail 4 = .ok (.iconst 4, 1) := by decide +kernel
theorem dX1_fail_5 : decode cX1_fail 5 = .ok (.if_icmp .eq 18, 3) := by decide +kernel
theorem dX1_fail_8 : decode cX1_fail 8 = .ok (.aload_n 0, 1) := by decide +kernel
theorem dX1_fail_9 : decode cX1_fail 9 = .ok (.getfield 15, 3) := by decide +kernel
theorem dX1_fail_12 : decode cX1_fail 12 = .ok (.iconst 5, 1) := by decide +kernel
theorem dX1_fail_13 : decode cX1_fail 13 = .ok (.if_icmp .eq 10, 3) := by decide +kernel
theorem dX1_fail_16 : decode cX1_fail 16 = .ok (.aload_n 0, 1) := by decide +kernel
theorem dX1_fail_17 : decode cX1_fail 17 = .ok (.getfield 18, 3) := by decide +kernel
theorem dX1_fail_20 : decode cX1_fail 20 = .ok (.ifCond .ne 4, 3) := by decide +kernel
theorem dX1_fail_23 : decode cX1_fail 23 = .ok (.return_, 1) := by decide +kernel
theorem dX1_fail_24 : decode cX1_fail 24 = .ok (.aload_n 0, 1) := by decide +kernel
theorem dX1_fail_25 : decode cX1_fail 25 = .ok (.getfield 15, 3) := by decide +kernel
theorem dX1_fail_28 : decode cX1_fail 28 = .ok (.bipush 6, 2) := by decide +kernel
theorem dX1_fail_30 : decode cX1_fail 30 = .ok (.if_icmp .ne 13, 3) := by decide +kernel
theorem dX1_fail_33 : decode cX1_fail 33 = .ok (.new 28, 3) := by decide +kernel
theorem dX1_fail_36 : decode cX1_fail 36 = .ok (.dup, 1) := by decide +kernel
theorem dX1_fail_37 : decode cX1_fail 37 = .ok (.ldc 30, 2) := by decide +kernel
theorem dX1_fail_39 : decode cX1_fail 39 = .ok (.invokespecial 32, 3) := by decide +kernel
theorem dX1_fail_42 : decode cX1_fail 42 = .ok (.athrow, 1) := by decide +kernel
theorem dX1_fail_43 : decode cX1_fail 43 = .ok (.aload_n 0, 1) := by decide +kernel
theorem dX1_fail_44 : decode cX1_fail 44 = .ok (.getfield 15, 3) := by decide +kernel
theorem dX1_fail_47 : decode cX1_fail 47 = .ok (.iconst 3, 1) := by decide +kernel
theorem dX1_fail_48 : decode cX1_fail 48 = .ok (.if_icmp .ne 13, 3) := by decide +kernel
theorem dX1_fail_51 : decode cX1_fail 51 = .ok (.new 35, 3) := by decide +kernel
theorem dX1_fail_54 : decode cX1_fail 54 = .ok (.dup, 1) := by decide +kernel
theorem dX1_fail_55 : decode cX1_fail 55 = .ok (.ldc 37, 2) := by decide +kernel
theorem dX1_fail_57 : decode cX1_fail 57 = .ok (.invokespecial 39, 3) := by decide +kernel
theorem dX1_fail_60 : decode cX1_fail 60 = .ok (.athrow, 1) := by decide +kernel
theorem dX1_fail_61 : decode cX1_fail 61 = .ok (.new 40, 3) := by decide +kernel
theorem dX1_fail_64 : decode cX1_fail 64 = .ok (.dup, 1) := by decide +kernel
theorem dX1_fail_65 : decode cX1_fail 65 = .ok (.ldc 42, 2) := by decide +kernel
theorem dX1_fail_67 : decode cX1_fail 67 = .ok (.invokespecial 44, 3) := by decide +kernel
theorem dX1_fail_70 : decode cX1_fail 70 = .ok (.athrow, 1) := by decide +kernel
theorem dX2_init_0 : decode cX2_init 0 = .ok (.aload_n 0, 1) := by decide +kernel
theorem dX2_init_1 : decode cX2_init 1 = .ok (.invokespecial 3, 3) := by decide +kernel
theorem dX2_init_4 : decode cX2_init 4 = .ok (.aload_n 0, 1) := by decide +kernel
theorem dX2_init_5 : decode cX2_init 5 = .ok (.aload_n 1, 1) := by decide +kernel
theorem dX2_init_6 : decode cX2_init 6 = .ok (.putfield 9, 3) := by decide +kernel
theorem dX2_init_9 : decode cX2_init 9 = .ok (.return_, 1) := by decide +kernel
set_option maxRecDepth 20000 in
theorem ggX2_countStatements_X2_readStatement : GoodIn wsX2_countStatements wsX2_readStatement := goodIn_r _ [8, 2, 1, 9, 10, 11, 12, 13, 14, 15, 16, 17, 18, 19, 7, 20, 21, 22, 23, 24, 25, 26, 27, 28, 29, 30, 31, 32, 33, 34, 35, 36, 37, 38, 39, 40, 41, 42, 43, 44, 45, 46, 47, 48, 49, 50, 51, 52, 53, 54, 55, 56, 57, 58] (by decide +kernel) (by decide +kernel)
set_option maxRecDepth 20000 in
theorem gX2_countStatements_X2_readStatement : GoodIn wsX2_countStatements (wsV RX2 15 RX2 yX2_readStatement wsX2_readStatement) := goodIn_app (goodIn_of _ (by decide +kernel)) ggX2_countStatements_X2_readStatement
theorem dX2_countStatements_0 : decode cX2_countStatements 0 = .ok (.iconst 0, 1) := by decide +kernel
theorem dX2_countStatements_1 : decode cX2_countStatements 1 = .ok (.istore_n 1, 1) := by decide +kernel
theorem dX2_countStatements_2 : decode cX2_countStatements 2 = .ok (.iconst 0, 1) := by decide +kernel
theorem dX2_countStatements_3 : decode cX2_countStatements 3 = .ok (.istore_n 2, 1) := by decide +kernel
theorem dX2_countStatements_4 : decode cX2_countStatements 4 = .ok (.iload_n 2, 1) := by decide +kernel
theorem dX2_countStatements_5 : decode cX2_countStatements 5 = .ok (.bipush 100, 2) := by decide +kernel
theorem dX2_countStatements_7 : decode cX2_countStatements 7 = .ok (.if_icmp .ge 37, 3) := by decide +kernel
theorem dX2_countStatements_10 : decode cX2_countStatements 10 = .ok (.aload_n 0, 1) := by decide +kernel
theorem dX2_countStatements_11 : decode cX2_countStatements 11 = .ok (.invokevirtual 15, 3) := by decide +kernel
theorem dX2_countStatements_14 : decode cX2_countStatements 14 = .ok (.ifCond .ne 5, 3) := by decide +kernel
theorem dX2_countStatements_17 : decode cX2_countStatements 17 = .ok (.iconst 0, 1) := by decide +kernel
theorem dX2_countStatements_18 : decode cX2_countStatements 18 = .ok (.ireturn, 1) := by decide +kernel
theorem dX2_countStatements_19 : decode cX2_countStatements 19 = .ok (.iinc 1 1, 3) := by decide +kernel
theorem dX2_countStatements_22 : decode cX2_countStatements 22 = .ok (.aload_n 0, 1) := by decide +kernel
theorem dX2_countStatements_23 : decode cX2_countStatements 23 = .ok (.getfield 19, 3) := by decide +kernel
theorem dX2_countStatements_26 : decode cX2_countStatements 26 = .ok (.aload_n 0, 1) := by decide +kernel
theorem dX2_countStatements_27 : decode cX2_countStatements 27 = .ok (.getfield 9, 3) := by decide +kernel
theorem dX2_countStatements_30 : decode cX2_countStatements 30 = .ok (.getfield 23, 3) := by decide +kernel
theorem dX2_countStatements_33 : decode cX2_countStatements 33 = .ok (.if_icmp .lt 5, 3) := by decide +kernel
theorem dX2_countStatements_36 : decode cX2_countStatements 36 = .ok (.iload_n 1, 1) := by decide +kernel
theorem dX2_countStatements_37 : decode cX2_countStatements 37 = .ok (.ireturn, 1) := by decide +kernel
theorem dX2_countStatements_38 : decode cX2_countStatements 38 = .ok (.iinc 2 1, 3) := by decide +kernel
theorem dX2_countStatements_41 : decode cX2_countStatements 41 = .ok (.goto (-37), 3) := by decide +kernel
theorem dX2_countStatements_44 : decode cX2_countStatements 44 = .ok (.iload_n 1, 1) := by decide +kernel
theorem dX2_countStatements_45 : decode cX2_countStatements 45 = .ok (.ireturn, 1) := by decide +kernel
set_option maxRecDepth 20000 in
theorem ggX2_readStatement_X3_at : GoodIn wsX2_readStatement wsX3_at := goodIn_r _ [8, 9, 10, 51, 52, 53] (by decide +kernel) (by decide +kernel)
set_option maxRecDepth 20000 in
theorem gX2_readStatement_X3_at : GoodIn wsX2_readStatement (wsV RX2 28 RX3 yX3_at wsX3_at) := goodIn_app (goodIn_of _ (by decide +kernel)) ggX2_readStatement_X3_at
set_option maxRecDepth 20000 in
theorem ggX2_readStatement_X2_takes : GoodIn wsX2_readStatement wsX2_takes := goodIn_r _ [15, 1, 2, 16, 17, 18, 7, 19, 9, 4, 5, 6, 8, 10, 44, 45, 46, 47, 48, 49, 50, 51, 52, 53] (by decide +kernel) (by decide +kernel)
set_option maxRecDepth 20000 in
theorem gX2_readStatement_X2_takes : GoodIn wsX2_readStatement (wsV RX2 35 RX2 yX2_takes wsX2_takes) := goodIn_app (goodIn_of _ (by decide +kernel)) ggX2_readStatement_X2_takes
set_option maxRecDepth 20000 in
theorem ggX2_readStatement_X2_readPerson : GoodIn wsX2_readStatement wsX2_readPerson := goodIn_r _ [23, 24, 25, 26, 27, 28, 29, 30, 14, 31, 1, 2, 4, 5, 6, 7, 8, 9, 10, 11, 12, 13, 15, 16, 17, 18, 19, 32, 33, 34, 35, 44, 45, 46, 47, 48, 49, 50, 51, 52, 53] (by decide +kernel) (by decide +kernel)
set_option maxRecDepth 20000 in
theorem gX2_readStatement_X2_readPerson : GoodIn wsX2_readStatement (wsV RX2 39 RX2 yX2_readPerson wsX2_readPerson) := goodIn_app (goodIn_of _ (by decide +kernel)) ggX2_readStatement_X2_readPerson
set_option maxRecDepth 20000 in
theorem ggX2_readStatement_X2_readShare : GoodIn wsX2_readStatement wsX2_readShare := goodIn_r _ [39, 24, 25, 26, 32, 33, 34, 14, 35, 28, 29, 30, 31, 1, 2, 4, 5, 6, 7, 8, 9, 10, 11, 12, 13, 15, 16, 17, 18, 19, 44, 45, 46, 47, 48, 49, 50, 51, 52, 53] (by decide +kernel) (by decide +kernel)
set_option maxRecDepth 20000 in
theorem gX2_readStatement_X2_readShare : GoodIn wsX2_readStatement (wsV RX2 42 RX2 yX2_readShare wsX2_readShare) := goodIn_app (goodIn_of _ (by decide +kernel)) ggX2_readStatement_X2_readShare
set_option maxRecDepth 20000 in
theorem ggX2_readStatement_X2_readHigh : GoodIn wsX2_readStatement wsX2_readHigh := goodIn_r _ [43, 24, 25, 32, 33, 34, 14, 35, 28, 29, 30, 31, 1, 2, 4, 5, 6, 7, 8, 9, 10, 44, 45, 46, 47, 48, 49, 50, 51, 52, 53] (by decide +kernel) (by decide +kernel)
set_option maxRecDepth 20000 in
theorem gX2_readStatement_X2_readHigh : GoodIn wsX2_readStatement (wsV RX2 45 RX2 yX2_readHigh wsX2_readHigh) := goodIn_app (goodIn_of _ (by decide +kernel)) ggX2_readStatement_X2_readHigh
theorem dX2_readStatement_0 : decode cX2_readStatement 0 = .ok (.aload_n 0, 1) := by decide +kernel
theorem dX2_readStatement_1 : decode cX2_readStatement 1 = .ok (.aload_n 0, 1) := by decide +kernel
theorem dX2_readStatement_2 : decode cX2_readStatement 2 = .ok (.getfield 9, 3) := by decide +kernel
theorem dX2_readStatement_5 : decode cX2_readStatement 5 = .ok (.aload_n 0, 1) := by decide +kernel
theorem dX2_readStatement_6 : decode cX2_readStatement 6 = .ok (.getfield 19, 3) := by decide +kernel
theorem dX2_readStatement_9 : decode cX2_readStatement 9 = .ok (.invokevirtual 28, 3) := by decide +kernel
theorem dX2_readStatement_12 : decode cX2_readStatement 12 = .ok (.putfield 32, 3) := by decide +kernel
theorem dX2_readStatement_15 : decode cX2_readStatement 15 = .ok (.aload_n 0, 1) := by decide +kernel
theorem dX2_readStatement_16 : decode cX2_readStatement 16 = .ok (.getfield 32, 3) := by decide +kernel
theorem dX2_readStatement_19 : decode cX2_readStatement 19 = .ok (.tableswitch 192 98 112 #[166, 192, 192, 192, 192, 104, 135, 192, 192, 192, 192, 192, 166, 192, 73], 73) := by decide +kernel
theorem dX2_readStatement_92 : decode cX2_readStatement 92 = .ok (.aload_n 0, 1) := by decide +kernel
theorem dX2_readStatement_93 : decode cX2_readStatement 93 = .ok (.bipush 112, 2) := by decide +kernel
theorem dX2_readStatement_95 : decode cX2_readStatement 95 = .ok (.invokevirtual 35, 3) := by decide +kernel
theorem dX2_readStatement_98 : decode cX2_readStatement 98 = .ok (.ifCond .eq 23, 3) := by decide +kernel
theorem dX2_readStatement_101 : decode cX2_readStatement 101 = .ok (.aload_n 0, 1) := by decide +kernel
theorem dX2_readStatement_102 : decode cX2_readStatement 102 = .ok (.invokevirtual 39, 3) := by decide +kernel
theorem dX2_readStatement_105 : decode cX2_readStatement 105 = .ok (.ifCond .eq 16, 3) := by decide +kernel
theorem dX2_readStatement_108 : decode cX2_readStatement 108 = .ok (.aload_n 0, 1) := by decide +kernel
theorem dX2_readStatement_109 : decode cX2_readStatement 109 = .ok (.bipush 59, 2) := by decide +kernel
theorem dX2_readStatement_111 : decode cX2_readStatement 111 = .ok (.invokevirtual 35, 3) := by decide +kernel
theorem dX2_readStatement_114 : decode cX2_readStatement 114 = .ok (.ifCond .eq 7, 3) := by decide +kernel
theorem dX2_readStatement_117 : decode cX2_readStatement 117 = .ok (.iconst 1, 1) := by decide +kernel
theorem dX2_readStatement_118 : decode cX2_readStatement 118 = .ok (.goto 4, 3) := by decide +kernel
theorem dX2_readStatement_121 : decode cX2_readStatement 121 = .ok (.iconst 0, 1) := by decide +kernel
theorem dX2_readStatement_122 : decode cX2_readStatement 122 = .ok (.ireturn, 1) := by decide +kernel
theorem dX2_readStatement_123 : decode cX2_readStatement 123 = .ok (.aload_n 0, 1) := by decide +kernel
theorem dX2_readStatement_124 : decode cX2_readStatement 124 = .ok (.bipush 103, 2) := by decide +kernel
theorem dX2_readStatement_126 : decode cX2_readStatement 126 = .ok (.invokevirtual 35, 3) := by decide +kernel
theorem dX2_readStatement_129 : decode cX2_readStatement 129 = .ok (.ifCond .eq 23, 3) := by decide +kernel
theorem dX2_readStatement_132 : decode cX2_readStatement 132 = .ok (.aload_n 0, 1) := by decide +kernel
theorem dX2_readStatement_133 : decode cX2_readStatement 133 = .ok (.invokevirtual 42, 3) := by decide +kernel
theorem dX2_readStatement_136 : decode cX2_readStatement 136 = .ok (.ifCond .eq 16, 3) := by decide +kernel
theorem dX2_readStatement_139 : decode cX2_readStatement 139 = .ok (.aload_n 0, 1) := by decide +kernel
theorem dX2_readStatement_140 : decode cX2_readStatement 140 = .ok (.bipush 59, 2) := by decide +kernel
theorem dX2_readStatement_142 : decode cX2_readStatement 142 = .ok (.invokevirtual 35, 3) := by decide +kernel
theorem dX2_readStatement_145 : decode cX2_readStatement 145 = .ok (.ifCond .eq 7, 3) := by decide +kernel
theorem dX2_readStatement_148 : decode cX2_readStatement 148 = .ok (.iconst 1, 1) := by decide +kernel
theorem dX2_readStatement_149 : decode cX2_readStatement 149 = .ok (.goto 4, 3) := by decide +kernel
theorem dX2_readStatement_152 : decode cX2_readStatement 152 = .ok (.iconst 0, 1) := by decide +kernel
theorem dX2_readStatement_153 : decode cX2_readStatement 153 = .ok (.ireturn, 1) := by decide +kernel
theorem dX2_readStatement_154 : decode cX2_readStatement 154 = .ok (.aload_n 0, 1) := by decide +kernel
theorem dX2_readStatement_155 : decode cX2_readStatement 155 = .ok (.bipush 104, 2) := by decide +kernel
theorem dX2_readStatement_157 : decode cX2_readStatement 157 = .ok (.invokevirtual 35, 3) := by decide +kernel
theorem dX2_readStatement_160 : decode cX2_readStatement 160 = .ok (.ifCond .eq 23, 3) := by decide +kernel
theorem dX2_readStatement_163 : decode cX2_readStatement 163 = .ok (.aload_n 0, 1) := by decide +kernel
theorem dX2_readStatement_164 : decode cX2_readStatement 164 = .ok (.invokevirtual 45, 3) := by decide +kernel
theorem dX2_readStatement_167 : decode cX2_readStatement 167 = .ok (.ifCond .eq 16, 3) := by decide +kernel
theorem dX2_readStatement_170 : decode cX2_readStatement 170 = .ok (.aload_n 0, 1) := by decide +kernel
theorem dX2_readStatement_171 : decode cX2_readStatement 171 = .ok (.bipush 59, 2) := by decide +kernel
theorem dX2_readStatement_173 : decode cX2_readStatement 173 = .ok (.invokevirtual 35, 3) := by decide +kernel
theorem dX2_readStatement_176 : decode cX2_readStatement 176 = .ok (.ifCond .eq 7, 3) := by decide +kernel
theorem dX2_readStatement_179 : decode cX2_readStatement 179 = .ok (.iconst 1, 1) := by decide +kernel
theorem dX2_readStatement_180 : decode cX2_readStatement 180 = .ok (.goto 4, 3) := by decide +kernel
theorem dX2_readStatement_183 : decode cX2_readStatement 183 = .ok (.iconst 0, 1) := by decide +kernel
theorem dX2_readStatement_184 : decode cX2_readStatement 184 = .ok (.ireturn, 1) := by decide +kernel
theorem dX2_readStatement_185 : decode cX2_readStatement 185 = .ok (.aload_n 0, 1) := by decide +kernel
theorem dX2_readStatement_186 : decode cX2_readStatement 186 = .ok (.aload_n 0, 1) := by decide +kernel
theorem dX2_readStatement_187 : decode cX2_readStatement 187 = .ok (.getfield 32, 3) := by decide +kernel
theorem dX2_readStatement_190 : decode cX2_readStatement 190 = .ok (.invokevirtual 35, 3) := by decide +kernel
theorem dX2_readStatement_193 : decode cX2_readStatement 193 = .ok (.ifCond .eq 16, 3) := by decide +kernel
theorem dX2_readStatement_196 : decode cX2_readStatement 196 = .ok (.aload_n 0, 1) := by decide +kernel
theorem dX2_readStatement_197 : decode cX2_readStatement 197 = .ok (.bipush 59, 2) := by decide +kernel
theorem dX2_readStatement_199 : decode cX2_readStatement 199 = .ok (.invokevirtual 35, 3) := by decide +kernel
theorem dX2_readStatement_202 : decode cX2_readStatement 202 = .ok (.ifCond .eq 7, 3) := by decide +kernel
theorem dX2_readStatement_205 : decode cX2_readStatement 205 = .ok (.iconst 1, 1) := by decide +kernel
theorem dX2_readStatement_206 : decode cX2_readStatement 206 = .ok (.goto 4, 3) := by decide +kernel
theorem dX2_readStatement_209 : decode cX2_readStatement 209 = .ok (.iconst 0, 1) := by decide +kernel
theorem dX2_readStatement_210 : decode cX2_readStatement 210 = .ok (.ireturn, 1) := by decide +kernel
theorem dX2_readStatement_211 : decode cX2_readStatement 211 = .ok (.iconst 0, 1) := by decide +kernel
theorem dX2_readStatement_212 : decode cX2_readStatement 212 = .ok (.ireturn, 1) := by decide +kernel
set_option maxRecDepth 20000 in
theorem ggX2_readPerson_X2_takesDigit : GoodIn wsX2_readPerson wsX2_takesDigit := goodIn_r _ [9, 10, 11, 1, 12, 13, 14, 15, 16, 17, 18, 31, 32, 33, 34, 35, 36, 37, 38, 39, 40] (by decide +kernel) (by decide +kernel)
set_option maxRecDepth 20000 in
theorem gX2_readPerson_X2_takesDigit : GoodIn wsX2_readPerson (wsV RX2 48 RX2 yX2_takesDigit wsX2_takesDigit) := goodIn_app (goodIn_of _ (by decide +kernel)) ggX2_readPerson_X2_takesDigit
set_option maxRecDepth 20000 in
theorem ggX2_readPerson_X2_takes : GoodIn wsX2_readPerson wsX2_takes := goodIn_r _ [22, 10, 11, 23, 24, 25, 15, 26, 17, 12, 13, 14, 16, 18, 31, 32, 33, 34, 35, 36, 37, 38, 39, 40] (by decide +kernel) (by decide +kernel)
set_option maxRecDepth 20000 in
theorem gX2_readPerson_X2_takes : GoodIn wsX2_readPerson (wsV RX2 35 RX2 yX2_takes wsX2_takes) := goodIn_app (goodIn_of _ (by decide +kernel)) ggX2_readPerson_X2_takes
set_option maxRecDepth 20000 in
theorem ggX2_readPerson_X2_takesNumber : GoodIn wsX2_readPerson wsX2_takesNumber := goodIn_r _ [30, 1, 5, 6, 7, 8, 9, 10, 11, 12, 13, 14, 15, 16, 17, 18, 31, 32, 33, 34, 35, 36, 37, 38, 39, 40] (by decide +kernel) (by decide +kernel)
set_option maxRecDepth 20000 in
theorem gX2_readPerson_X2_takesNumber : GoodIn wsX2_readPerson (wsV RX2 60 RX2 yX2_takesNumber wsX2_takesNumber) := goodIn_app (goodIn_of _ (by decide +kernel)) ggX2_readPerson_X2_takesNumber
theorem dX2_readPerson_0 : decode cX2_readPerson 0 = .ok (.aload_n 0, 1) := by decide +kernel
theorem dX2_readPerson_1 : decode cX2_readPerson 1 = .ok (.invokevirtual 48, 3) := by decide +kernel
theorem dX2_readPerson_4 : decode cX2_readPerson 4 = .ok (.ifCond .ne 5, 3) := by decide +kernel
theorem dX2_readPerson_7 : decode cX2_readPerson 7 = .ok (.iconst 0, 1) := by decide +kernel
theorem dX2_readPerson_8 : decode cX2_readPerson 8 = .ok (.ireturn, 1) := by decide +kernel
theorem dX2_readPerson_9 : decode cX2_readPerson 9 = .ok (.aload_n 0, 1) := by decide +kernel
theorem dX2_readPerson_10 : decode cX2_readPerson 10 = .ok (.aload_n 0, 1) := by decide +kernel
theorem dX2_readPerson_11 : decode cX2_readPerson 11 = .ok (.getfield 51, 3) := by decide +kernel
theorem dX2_readPerson_14 : decode cX2_readPerson 14 = .ok (.putfield 54, 3) := by decide +kernel
theorem dX2_readPerson_17 : decode cX2_readPerson 17 = .ok (.aload_n 0, 1) := by decide +kernel
theorem dX2_readPerson_18 : decode cX2_readPerson 18 = .ok (.bipush 32, 2) := by decide +kernel
theorem dX2_readPerson_20 : decode cX2_readPerson 20 = .ok (.invokevirtual 35, 3) := by decide +kernel
theorem dX2_readPerson_23 : decode cX2_readPerson 23 = .ok (.ifCond .eq 10, 3) := by decide +kernel
theorem dX2_readPerson_26 : decode cX2_readPerson 26 = .ok (.aload_n 0, 1) := by decide +kernel
theorem dX2_readPerson_27 : decode cX2_readPerson 27 = .ok (.invokevirtual 48, 3) := by decide +kernel
theorem dX2_readPerson_30 : decode cX2_readPerson 30 = .ok (.ifCond .ne 5, 3) := by decide +kernel
theorem dX2_readPerson_33 : decode cX2_readPerson 33 = .ok (.iconst 0, 1) := by decide +kernel
theorem dX2_readPerson_34 : decode cX2_readPerson 34 = .ok (.ireturn, 1) := by decide +kernel
theorem dX2_readPerson_35 : decode cX2_readPerson 35 = .ok (.aload_n 0, 1) := by decide +kernel
theorem dX2_readPerson_36 : decode cX2_readPerson 36 = .ok (.aload_n 0, 1) := by decide +kernel
theorem dX2_readPerson_37 : decode cX2_readPerson 37 = .ok (.getfield 51, 3) := by decide +kernel
theorem dX2_readPerson_40 : decode cX2_readPerson 40 = .ok (.putfield 57, 3) := by decide +kernel
theorem dX2_readPerson_43 : decode cX2_readPerson 43 = .ok (.aload_n 0, 1) := by decide +kernel
theorem dX2_readPerson_44 : decode cX2_readPerson 44 = .ok (.bipush 32, 2) := by decide +kernel
theorem dX2_readPerson_46 : decode cX2_readPerson 46 = .ok (.invokevirtual 35, 3) := by decide +kernel
theorem dX2_readPerson_49 : decode cX2_readPerson 49 = .ok (.ifCond .eq 10, 3) := by decide +kernel
theorem dX2_readPerson_52 : decode cX2_readPerson 52 = .ok (.aload_n 0, 1) := by decide +kernel
theorem dX2_readPerson_53 : decode cX2_readPerson 53 = .ok (.invokevirtual 60, 3) := by decide +kernel
theorem dX2_readPerson_56 : decode cX2_readPerson 56 = .ok (.ifCond .ne 5, 3) := by decide +kernel
theorem dX2_readPerson_59 : decode cX2_readPerson 59 = .ok (.iconst 0, 1) := by decide +kernel
theorem dX2_readPerson_60 : decode cX2_readPerson 60 = .ok (.ireturn, 1) := by decide +kernel
theorem dX2_readPerson_61 : decode cX2_readPerson 61 = .ok (.aload_n 0, 1) := by decide +kernel
theorem dX2_readPerson_62 : decode cX2_readPerson 62 = .ok (.aload_n 0, 1) := by decide +kernel
theorem dX2_readPerson_63 : decode cX2_readPerson 63 = .ok (.getfield 51, 3) := by decide +kernel
theorem dX2_readPerson_66 : decode cX2_readPerson 66 = .ok (.putfield 63, 3) := by decide +kernel
theorem dX2_readPerson_69 : decode cX2_readPerson 69 = .ok (.iconst 1, 1) := by decide +kernel
theorem dX2_readPerson_70 : decode cX2_readPerson 70 = .ok (.ireturn, 1) := by decide +kernel
set_option maxRecDepth 20000 in
theorem ggX2_readShare_X2_takesNumber : GoodIn wsX2_readShare wsX2_takesNumber := goodIn_r _ [8, 1, 9, 10, 11, 7, 12, 13, 14, 15, 16, 17, 18, 19, 20, 21, 30, 31, 32, 33, 34, 35, 36, 37, 38, 39] (by decide +kernel) (by decide +kernel)
set_option maxRecDepth 20000 in
theorem gX2_readShare_X2_takesNumber : GoodIn wsX2_readShare (wsV RX2 60 RX2 yX2_takesNumber wsX2_takesNumber) := goodIn_app (goodIn_of _ (by decide +kernel)) ggX2_readShare_X2_takesNumber
set_option maxRecDepth 20000 in
theorem ggX2_readShare_X2_takes : GoodIn wsX2_readShare wsX2_takes := goodIn_r _ [25, 13, 14, 26, 27, 28, 18, 29, 20, 15, 16, 17, 19, 21, 30, 31, 32, 33, 34, 35, 36, 37, 38, 39] (by decide +kernel) (by decide +kernel)
set_option maxRecDepth 20000 in
theorem gX2_readShare_X2_takes : GoodIn wsX2_readShare (wsV RX2 35 RX2 yX2_takes wsX2_takes) := goodIn_app (goodIn_of _ (by decide +kernel)) ggX2_readShare_X2_takes
theorem dX2_readShare_0 : decode cX2_readShare 0 = .ok (.aload_n 0, 1) := by decide +kernel
theorem dX2_readShare_1 : decode cX2_readShare 1 = .ok (.invokevirtual 60, 3) := by decide +kernel
theorem dX2_readShare_4 : decode cX2_readShare 4 = .ok (.ifCond .ne 5, 3) := by decide +kernel
theorem dX2_readShare_7 : decode cX2_readShare 7 = .ok (.iconst 0, 1) := by decide +kernel
theorem dX2_readShare_8 : decode cX2_readShare 8 = .ok (.ireturn, 1) := by decide +kernel
theorem dX2_readShare_9 : decode cX2_readShare 9 = .ok (.aload_n 0, 1) := by decide +kernel
theorem dX2_readShare_10 : decode cX2_readShare 10 = .ok (.aload_n 0, 1) := by decide +kernel
theorem dX2_readShare_11 : decode cX2_readShare 11 = .ok (.getfield 51, 3) := by decide +kernel
theorem dX2_readShare_14 : decode cX2_readShare 14 = .ok (.putfield 54, 3) := by decide +kernel
theorem dX2_readShare_17 : decode cX2_readShare 17 = .ok (.aload_n 0, 1) := by decide +kernel
theorem dX2_readShare_18 : decode cX2_readShare 18 = .ok (.bipush 47, 2) := by decide +kernel
theorem dX2_readShare_20 : decode cX2_readShare 20 = .ok (.invokevirtual 35, 3) := by decide +kernel
theorem dX2_readShare_23 : decode cX2_readShare 23 = .ok (.ifCond .eq 10, 3) := by decide +kernel
theorem dX2_readShare_26 : decode cX2_readShare 26 = .ok (.aload_n 0, 1) := by decide +kernel
theorem dX2_readShare_27 : decode cX2_readShare 27 = .ok (.invokevirtual 60, 3) := by decide +kernel
theorem dX2_readShare_30 : decode cX2_readShare 30 = .ok (.ifCond .ne 5, 3) := by decide +kernel
theorem dX2_readShare_33 : decode cX2_readShare 33 = .ok (.iconst 0, 1) := by decide +kernel
theorem dX2_readShare_34 : decode cX2_readShare 34 = .ok (.ireturn, 1) := by decide +kernel
theorem dX2_readShare_35 : decode cX2_readShare 35 = .ok (.aload_n 0, 1) := by decide +kernel
theorem dX2_readShare_36 : decode cX2_readShare 36 = .ok (.aload_n 0, 1) := by decide +kernel
theorem dX2_readShare_37 : decode cX2_readShare 37 = .ok (.getfield 51, 3) := by decide +kernel
theorem dX2_readShare_40 : decode cX2_readShare 40 = .ok (.putfield 57, 3) := by decide +kernel
theorem dX2_readShare_43 : decode cX2_readShare 43 = .ok (.iconst 1, 1) := by decide +kernel
theorem dX2_readShare_44 : decode cX2_readShare 44 = .ok (.ireturn, 1) := by decide +kernel
set_option maxRecDepth 20000 in
theorem ggX2_readHigh_X2_takesNumber : GoodIn wsX2_readHigh wsX2_takesNumber := goodIn_r _ [7, 1, 8, 9, 10, 6, 11, 12, 13, 14, 15, 16, 17, 18, 19, 20, 21, 22, 23, 24, 25, 26, 27, 28, 29, 30] (by decide +kernel) (by decide +kernel)
set_option maxRecDepth 20000 in
theorem gX2_readHigh_X2_takesNumber : GoodIn wsX2_readHigh (wsV RX2 60 RX2 yX2_takesNumber wsX2_takesNumber) := goodIn_app (goodIn_of _ (by decide +kernel)) ggX2_readHigh_X2_takesNumber
theorem dX2_readHigh_0 : decode cX2_readHigh 0 = .ok (.aload_n 0, 1) := by decide +kernel
theorem dX2_readHigh_1 : decode cX2_readHigh 1 = .ok (.invokevirtual 60, 3) := by decide +kernel
theorem dX2_readHigh_4 : decode cX2_readHigh 4 = .ok (.ifCond .ne 5, 3) := by decide +kernel
theorem dX2_readHigh_7 : decode cX2_readHigh 7 = .ok (.iconst 0, 1) := by decide +kernel
theorem dX2_readHigh_8 : decode cX2_readHigh 8 = .ok (.ireturn, 1) := by decide +kernel
theorem dX2_readHigh_9 : decode cX2_readHigh 9 = .ok (.aload_n 0, 1) := by decide +kernel
theorem dX2_readHigh_10 : decode cX2_readHigh 10 = .ok (.aload_n 0, 1) := by decide +kernel
theorem dX2_readHigh_11 : decode cX2_readHigh 11 = .ok (.getfield 51, 3) := by decide +kernel
theorem dX2_readHigh_14 : decode cX2_readHigh 14 = .ok (.putfield 54, 3) := by decide +kernel
theorem dX2_readHigh_17 : decode cX2_readHigh 17 = .ok (.iconst 1, 1) := by decide +kernel
theorem dX2_readHigh_18 : decode cX2_readHigh 18 = .ok (.ireturn, 1) := by decide +kernel
set_option maxRecDepth 20000 in
theorem ggX2_takes_X3_hasPlace : GoodIn wsX2_takes wsX3_hasPlace := goodIn_r _ [7, 8, 21, 22, 23] (by decide +kernel) (by decide +kernel)
set_option maxRecDepth 20000 in
theorem gX2_takes_X3_hasPlace : GoodIn wsX2_takes (wsV RX2 66 RX3 yX3_hasPlace wsX3_hasPlace) := goodIn_app (goodIn_of _ (by decide +kernel)) ggX2_takes_X3_hasPlace
set_option maxRecDepth 20000 in
theorem ggX2_takes_X3_at : GoodIn wsX2_takes wsX3_at := goodIn_r _ [12, 8, 13, 21, 22, 23] (by decide +kernel) (by decide +kernel)
set_option maxRecDepth 20000 in
theorem gX2_takes_X3_at : GoodIn wsX2_takes (wsV RX2 28 RX3 yX3_at wsX3_at) := goodIn_app (goodIn_of _ (by decide +kernel)) ggX2_takes_X3_at
theorem dX2_takes_0 : decode cX2_takes 0 = .ok (.aload_n 0, 1) := by decide +kernel
theorem dX2_takes_1 : decode cX2_takes 1 = .ok (.getfield 9, 3) := by decide +kernel
theorem dX2_takes_4 : decode cX2_takes 4 = .ok (.aload_n 0, 1) := by decide +kernel
theorem dX2_takes_5 : decode cX2_takes 5 = .ok (.getfield 19, 3) := by decide +kernel
theorem dX2_takes_8 : decode cX2_takes 8 = .ok (.invokevirtual 66, 3) := by decide +kernel
theorem dX2_takes_11 : decode cX2_takes 11 = .ok (.ifCond .eq 18, 3) := by decide +kernel
theorem dX2_takes_14 : decode cX2_takes 14 = .ok (.aload_n 0, 1) := by decide +kernel
theorem dX2_takes_15 : decode cX2_takes 15 = .ok (.getfield 9, 3) := by decide +kernel
theorem dX2_takes_18 : decode cX2_takes 18 = .ok (.aload_n 0, 1) := by decide +kernel
theorem dX2_takes_19 : decode cX2_takes 19 = .ok (.getfield 19, 3) := by decide +kernel
theorem dX2_takes_22 : decode cX2_takes 22 = .ok (.invokevirtual 28, 3) := by decide +kernel
theorem dX2_takes_25 : decode cX2_takes 25 = .ok (.iload_n 1, 1) := by decide +kernel
theorem dX2_takes_26 : decode cX2_takes 26 = .ok (.if_icmp .eq 5, 3) := by decide +kernel
theorem dX2_takes_29 : decode cX2_takes 29 = .ok (.iconst 0, 1) := by decide +kernel
theorem dX2_takes_30 : decode cX2_takes 30 = .ok (.ireturn, 1) := by decide +kernel
theorem dX2_takes_31 : decode cX2_takes 31 = .ok (.aload_n 0, 1) := by decide +kernel
theorem dX2_takes_32 : decode cX2_takes 32 = .ok (.dup, 1) := by decide +kernel
theorem dX2_takes_33 : decode cX2_takes 33 = .ok (.getfield 19, 3) := by decide +kernel
theorem dX2_takes_36 : decode cX2_takes 36 = .ok (.iconst 1, 1) := by decide +kernel
theorem dX2_takes_37 : decode cX2_takes 37 = .ok (.iadd, 1) := by decide +kernel
theorem dX2_takes_38 : decode cX2_takes 38 = .ok (.putfield 19, 3) := by decide +kernel
theorem dX2_takes_41 : decode cX2_takes 41 = .ok (.iconst 1, 1) := by decide +kernel
theorem dX2_takes_42 : decode cX2_takes 42 = .ok (.ireturn, 1) := by decide +kernel
set_option maxRecDepth 20000 in
theorem ggX2_takesDigit_X3_at : GoodIn wsX2_takesDigit wsX3_at := goodIn_r _ [8, 9, 10, 18, 19, 20] (by decide +kernel) (by decide +kernel)
set_option maxRecDepth 20000 in
theorem gX2_takesDigit_X3_at : GoodIn wsX2_takesDigit (wsV RX2 28 RX3 yX3_at wsX3_at) := goodIn_app (goodIn_of _ (by decide +kernel)) ggX2_takesDigit_X3_at
theorem dX2_takesDigit_0 : decode cX2_takesDigit 0 = .ok (.aload_n 0, 1) := by decide +kernel
theorem dX2_takesDigit_1 : decode cX2_takesDigit 1 = .ok (.getfield 9, 3) := by decide +kernel
theorem dX2_takesDigit_4 : decode cX2_takesDigit 4 = .ok (.aload_n 0, 1) := by decide +kernel
theorem dX2_takesDigit_5 : decode cX2_takesDigit 5 = .ok (.getfield 19, 3) := by decide +kernel
theorem dX2_takesDigit_8 : decode cX2_takesDigit 8 = .ok (.invokevirtual 28, 3) := by decide +kernel
theorem dX2_takesDigit_11 : decode cX2_takesDigit 11 = .ok (.istore_n 1, 1) := by decide +kernel
theorem dX2_takesDigit_12 : decode cX2_takesDigit 12 = .ok (.iload_n 1, 1) := by decide +kernel
theorem dX2_takesDigit_13 : decode cX2_takesDigit 13 = .ok (.bipush 48, 2) := by decide +kernel
theorem dX2_takesDigit_15 : decode cX2_takesDigit 15 = .ok (.if_icmp .lt 9, 3) := by decide +kernel
theorem dX2_takesDigit_18 : decode cX2_takesDigit 18 = .ok (.iload_n 1, 1) := by decide +kernel
theorem dX2_takesDigit_19 : decode cX2_takesDigit 19 = .ok (.bipush 57, 2) := by decide +kernel
theorem dX2_takesDigit_21 : decode cX2_takesDigit 21 = .ok (.if_icmp .le 5, 3) := by decide +kernel
theorem dX2_takesDigit_24 : decode cX2_takesDigit 24 = .ok (.iconst 0, 1) := by decide +kernel
theorem dX2_takesDigit_25 : decode cX2_takesDigit 25 = .ok (.ireturn, 1) := by decide +kernel
theorem dX2_takesDigit_26 : decode cX2_takesDigit 26 = .ok (.aload_n 0, 1) := by decide +kernel
theorem dX2_takesDigit_27 : decode cX2_takesDigit 27 = .ok (.iload_n 1, 1) := by decide +kernel
theorem dX2_takesDigit_28 : decode cX2_takesDigit 28 = .ok (.bipush 48, 2) := by decide +kernel
theorem dX2_takesDigit_30 : decode cX2_takesDigit 30 = .ok (.isub, 1) := by decide +kernel
theorem dX2_takesDigit_31 : decode cX2_takesDigit 31 = .ok (.putfield 51, 3) := by decide +kernel
theorem dX2_takesDigit_34 : decode cX2_takesDigit 34 = .ok (.aload_n 0, 1) := by decide +kernel
theorem dX2_takesDigit_35 : decode cX2_takesDigit 35 = .ok (.dup, 1) := by decide +kernel
theorem dX2_takesDigit_36 : decode cX2_takesDigit 36 = .ok (.getfield 19, 3) := by decide +kernel
theorem dX2_takesDigit_39 : decode cX2_takesDigit 39 = .ok (.iconst 1, 1) := by decide +kernel
theorem dX2_takesDigit_40 : decode cX2_takesDigit 40 = .ok (.iadd, 1) := by decide +kernel
theorem dX2_takesDigit_41 : decode cX2_takesDigit 41 = .ok (.putfield 19, 3) := by decide +kernel
theorem dX2_takesDigit_44 : decode cX2_takesDigit 44 = .ok (.iconst 1, 1) := by decide +kernel
theorem dX2_takesDigit_45 : decode cX2_takesDigit 45 = .ok (.ireturn, 1) := by decide +kernel
set_option maxRecDepth 20000 in
theorem ggX2_takesNumber_X2_takesDigit : GoodIn wsX2_takesNumber wsX2_takesDigit := goodIn_r _ [6, 7, 8, 1, 9, 10, 11, 12, 13, 14, 15, 16, 17, 18, 19, 20, 21, 22, 23, 24, 25] (by decide +kernel) (by decide +kernel)
set_option maxRecDepth 20000 in
theorem gX2_takesNumber_X2_takesDigit : GoodIn wsX2_takesNumber (wsV RX2 48 RX2 yX2_takesDigit wsX2_takesDigit) := goodIn_app (goodIn_of _ (by decide +kernel)) ggX2_takesNumber_X2_takesDigit
theorem dX2_takesNumber_0 : decode cX2_takesNumber 0 = .ok (.aload_n 0, 1) := by decide +kernel
theorem dX2_takesNumber_1 : decode cX2_takesNumber 1 = .ok (.invokevirtual 48, 3) := by decide +kernel
theorem dX2_takesNumber_4 : decode cX2_takesNumber 4 = .ok (.ifCond .ne 5, 3) := by decide +kernel
theorem dX2_takesNumber_7 : decode cX2_takesNumber 7 = .ok (.iconst 0, 1) := by decide +kernel
theorem dX2_takesNumber_8 : decode cX2_takesNumber 8 = .ok (.ireturn, 1) := by decide +kernel
theorem dX2_takesNumber_9 : decode cX2_takesNumber 9 = .ok (.aload_n 0, 1) := by decide +kernel
theorem dX2_takesNumber_10 : decode cX2_takesNumber 10 = .ok (.getfield 51, 3) := by decide +kernel
theorem dX2_takesNumber_13 : decode cX2_takesNumber 13 = .ok (.istore_n 1, 1) := by decide +kernel
theorem dX2_takesNumber_14 : decode cX2_takesNumber 14 = .ok (.iconst 1, 1) := by decide +kernel
theorem dX2_takesNumber_15 : decode cX2_takesNumber 15 = .ok (.istore_n 2, 1) := by decide +kernel
theorem dX2_takesNumber_16 : decode cX2_takesNumber 16 = .ok (.iload_n 2, 1) := by decide +kernel
theorem dX2_takesNumber_17 : decode cX2_takesNumber 17 = .ok (.iconst 4, 1) := by decide +kernel
theorem dX2_takesNumber_18 : decode cX2_takesNumber 18 = .ok (.if_icmp .ge 30, 3) := by decide +kernel
theorem dX2_takesNumber_21 : decode cX2_takesNumber 21 = .ok (.iload_n 1, 1) := by decide +kernel
theorem dX2_takesNumber_22 : decode cX2_takesNumber 22 = .ok (.ifCond .eq 26, 3) := by decide +kernel
theorem dX2_takesNumber_25 : decode cX2_takesNumber 25 = .ok (.aload_n 0, 1) := by decide +kernel
theorem dX2_takesNumber_26 : decode cX2_takesNumber 26 = .ok (.invokevirtual 48, 3) := by decide +kernel
theorem dX2_takesNumber_29 : decode cX2_takesNumber 29 = .ok (.ifCond .eq 19, 3) := by decide +kernel
theorem dX2_takesNumber_32 : decode cX2_takesNumber 32 = .ok (.iload_n 1, 1) := by decide +kernel
theorem dX2_takesNumber_33 : decode cX2_takesNumber 33 = .ok (.bipush 10, 2) := by decide +kernel
theorem dX2_takesNumber_35 : decode cX2_takesNumber 35 = .ok (.imul, 1) := by decide +kernel
theorem dX2_takesNumber_36 : decode cX2_takesNumber 36 = .ok (.aload_n 0, 1) := by decide +kernel
theorem dX2_takesNumber_37 : decode cX2_takesNumber 37 = .ok (.getfield 51, 3) := by decide +kernel
theorem dX2_takesNumber_40 : decode cX2_takesNumber 40 = .ok (.iadd, 1) := by decide +kernel
theorem dX2_takesNumber_41 : decode cX2_takesNumber 41 = .ok (.istore_n 1, 1) := by decide +kernel
theorem dX2_takesNumber_42 : decode cX2_takesNumber 42 = .ok (.iinc 2 1, 3) := by decide +kernel
theorem dX2_takesNumber_45 : decode cX2_takesNumber 45 = .ok (.goto (-29), 3) := by decide +kernel
theorem dX2_takesNumber_48 : decode cX2_takesNumber 48 = .ok (.aload_n 0, 1) := by decide +kernel
theorem dX2_takesNumber_49 : decode cX2_takesNumber 49 = .ok (.iload_n 1, 1) := by decide +kernel
theorem dX2_takesNumber_50 : decode cX2_takesNumber 50 = .ok (.putfield 51, 3) := by decide +kernel
theorem dX2_takesNumber_53 : decode cX2_takesNumber 53 = .ok (.iconst 1, 1) := by decide +kernel
theorem dX2_takesNumber_54 : decode cX2_takesNumber 54 = .ok (.ireturn, 1) := by decide +kernel
theorem dX3_init_0 : decode cX3_init 0 = .ok (.aload_n 0, 1) := by decide +kernel
theorem dX3_init_1 : decode cX3_init 1 = .ok (.invokespecial 3, 3) := by decide +kernel
theorem dX3_init_4 : decode cX3_init 4 = .ok (.aload_n 0, 1) := by decide +kernel
theorem dX3_init_5 : decode cX3_init 5 = .ok (.iload_n 1, 1) := by decide +kernel
theorem dX3_init_6 : decode cX3_init 6 = .ok (.newarray .int, 2) := by decide +kernel
theorem dX3_init_8 : decode cX3_init 8 = .ok (.putfield 9, 3) := by decide +kernel
theorem dX3_init_11 : decode cX3_init 11 = .ok (.return_, 1) := by decide +kernel
set_option maxRecDepth 20000 in
theorem ggX3_begin_J7_fill_53178 : GoodIn wsX3_begin wsJ7_fill_53178 := goodIn_r _ [11] (by decide +kernel) (by decide +kernel)
set_option maxRecDepth 20000 in
theorem gX3_begin_J7_fill_53178 : GoodIn wsX3_begin (va_wsS RX3 28 yJ7_fill_53178 wsJ7_fill_53178) := goodIn_app (goodIn_of _ (by decide +kernel)) ggX3_begin_J7_fill_53178
theorem dX3_begin_0 : decode cX3_begin 0 = .ok (.aload_n 0, 1) := by decide +kernel
theorem dX3_begin_1 : decode cX3_begin 1 = .ok (.iload_n 1, 1) := by decide +kernel
theorem dX3_begin_2 : decode cX3_begin 2 = .ok (.putfield 15, 3) := by decide +kernel
theorem dX3_begin_5 : decode cX3_begin 5 = .ok (.aload_n 0, 1) := by decide +kernel
theorem dX3_begin_6 : decode cX3_begin 6 = .ok (.iload_n 2, 1) := by decide +kernel
theorem dX3_begin_7 : decode cX3_begin 7 = .ok (.ifCond .ge 7, 3) := by decide +kernel
theorem dX3_begin_10 : decode cX3_begin 10 = .ok (.iconst 0, 1) := by decide +kernel
theorem dX3_begin_11 : decode cX3_begin 11 = .ok (.goto 12, 3) := by decide +kernel
theorem dX3_begin_14 : decode cX3_begin 14 = .ok (.iload_n 2, 1) := by decide +kernel
theorem dX3_begin_15 : decode cX3_begin 15 = .ok (.aload_n 0, 1) := by decide +kernel
theorem dX3_begin_16 : decode cX3_begin 16 = .ok (.getfield 9, 3) := by decide +kernel
theorem dX3_begin_19 : decode cX3_begin 19 = .ok (.arraylength, 1) := by decide +kernel
theorem dX3_begin_20 : decode cX3_begin 20 = .ok (.invokestatic 19, 3) := by decide +kernel
theorem dX3_begin_23 : decode cX3_begin 23 = .ok (.putfield 25, 3) := by decide +kernel
theorem dX3_begin_26 : decode cX3_begin 26 = .ok (.aload_n 0, 1) := by decide +kernel
theorem dX3_begin_27 : decode cX3_begin 27 = .ok (.getfield 9, 3) := by decide +kernel
theorem dX3_begin_30 : decode cX3_begin 30 = .ok (.iconst 0, 1) := by decide +kernel
theorem dX3_begin_31 : decode cX3_begin 31 = .ok (.invokestatic 28, 3) := by decide +kernel
theorem dX3_begin_34 : decode cX3_begin 34 = .ok (.return_, 1) := by decide +kernel
set_option maxRecDepth 20000 in
theorem ggX3_takeFrom_X3_begin : GoodIn wsX3_takeFrom wsX3_begin := goodIn_r _ [8, 1, 3, 9, 10, 11, 12, 2, 13, 14, 15, 16, 21, 22, 23] (by decide +kernel) (by decide +kernel)
set_option maxRecDepth 20000 in
theorem gX3_takeFrom_X3_begin : GoodIn wsX3_takeFrom (wsV RX3 34 RX3 yX3_begin wsX3_begin) := goodIn_app (goodIn_of _ (by decide +kernel)) ggX3_takeFrom_X3_begin
set_option maxRecDepth 20000 in
theorem ggX3_takeFrom_X3_at : GoodIn wsX3_takeFrom wsX3_at := goodIn_r _ [20, 2, 3, 21, 22, 23] (by decide +kernel) (by decide +kernel)
set_option maxRecDepth 20000 in
theorem gX3_takeFrom_X3_at : GoodIn wsX3_takeFrom (wsV RX3 38 RX3 yX3_at wsX3_at) := goodIn_app (goodIn_of _ (by decide +kernel)) ggX3_takeFrom_X3_at
theorem dX3_takeFrom_0 : decode cX3_takeFrom 0 = .ok (.aload_n 0, 1) := by decide +kernel
theorem dX3_takeFrom_1 : decode cX3_takeFrom 1 = .ok (.aload_n 1, 1) := by decide +kernel
theorem dX3_takeFrom_2 : decode cX3_takeFrom 2 = .ok (.getfield 15, 3) := by decide +kernel
theorem dX3_takeFrom_5 : decode cX3_takeFrom 5 = .ok (.aload_n 1, 1) := by decide +kernel
theorem dX3_takeFrom_6 : decode cX3_takeFrom 6 = .ok (.getfield 25, 3) := by decide +kernel
theorem dX3_takeFrom_9 : decode cX3_takeFrom 9 = .ok (.invokevirtual 34, 3) := by decide +kernel
theorem dX3_takeFrom_12 : decode cX3_takeFrom 12 = .ok (.iconst 0, 1) := by decide +kernel
theorem dX3_takeFrom_13 : decode cX3_takeFrom 13 = .ok (.istore_n 2, 1) := by decide +kernel
theorem dX3_takeFrom_14 : decode cX3_takeFrom 14 = .ok (.iload_n 2, 1) := by decide +kernel
theorem dX3_takeFrom_15 : decode cX3_takeFrom 15 = .ok (.aload_n 0, 1) := by decide +kernel
theorem dX3_takeFrom_16 : decode cX3_takeFrom 16 = .ok (.getfield 25, 3) := by decide +kernel
theorem dX3_takeFrom_19 : decode cX3_takeFrom 19 = .ok (.if_icmp .ge 20, 3) := by decide +kernel
theorem dX3_takeFrom_22 : decode cX3_takeFrom 22 = .ok (.aload_n 0, 1) := by decide +kernel
theorem dX3_takeFrom_23 : decode cX3_takeFrom 23 = .ok (.getfield 9, 3) := by decide +kernel
theorem dX3_takeFrom_26 : decode cX3_takeFrom 26 = .ok (.iload_n 2, 1) := by decide +kernel
theorem dX3_takeFrom_27 : decode cX3_takeFrom 27 = .ok (.aload_n 1, 1) := by decide +kernel
theorem dX3_takeFrom_28 : decode cX3_takeFrom 28 = .ok (.iload_n 2, 1) := by decide +kernel
theorem dX3_takeFrom_29 : decode cX3_takeFrom 29 = .ok (.invokevirtual 38, 3) := by decide +kernel
theorem dX3_takeFrom_32 : decode cX3_takeFrom 32 = .ok (.iastore, 1) := by decide +kernel
theorem dX3_takeFrom_33 : decode cX3_takeFrom 33 = .ok (.iinc 2 1, 3) := by decide +kernel
theorem dX3_takeFrom_36 : decode cX3_takeFrom 36 = .ok (.goto (-22), 3) := by decide +kernel
theorem dX3_takeFrom_39 : decode cX3_takeFrom 39 = .ok (.return_, 1) := by decide +kernel
theorem dX3_hasPlace_0 : decode cX3_hasPlace 0 = .ok (.iload_n 1, 1) := by decide +kernel
theorem dX3_hasPlace_1 : decode cX3_hasPlace 1 = .ok (.ifCond .lt 15, 3) := by decide +kernel
theorem dX3_hasPlace_4 : decode cX3_hasPlace 4 = .ok (.iload_n 1, 1) := by decide +kernel
theorem dX3_hasPlace_5 : decode cX3_hasPlace 5 = .ok (.aload_n 0, 1) := by decide +kernel
theorem dX3_hasPlace_6 : decode cX3_hasPlace 6 = .ok (.getfield 25, 3) := by decide +kernel
theorem dX3_hasPlace_9 : decode cX3_hasPlace 9 = .ok (.if_icmp .ge 7, 3) := by decide +kernel
theorem dX3_hasPlace_12 : decode cX3_hasPlace 12 = .ok (.iconst 1, 1) := by decide +kernel
theorem dX3_hasPlace_13 : decode cX3_hasPlace 13 = .ok (.goto 4, 3) := by decide +kernel
theorem dX3_hasPlace_16 : decode cX3_hasPlace 16 = .ok (.iconst 0, 1) := by decide +kernel
theorem dX3_hasPlace_17 : decode cX3_hasPlace 17 = .ok (.ireturn, 1) := by decide +kernel
theorem dX3_hasPlaces_0 : decode cX3_hasPlaces 0 = .ok (.iload_n 1, 1) := by decide +kernel
theorem dX3_hasPlaces_1 : decode cX3_hasPlaces 1 = .ok (.ifCond .lt 29, 3) := by decide +kernel
theorem dX3_hasPlaces_4 : decode cX3_hasPlaces 4 = .ok (.iload_n 2, 1) := by decide +kernel
theorem dX3_hasPlaces_5 : decode cX3_hasPlaces 5 = .ok (.ifCond .lt 25, 3) := by decide +kernel
theorem dX3_hasPlaces_8 : decode cX3_hasPlaces 8 = .ok (.iload_n 1, 1) := by decide +kernel
theorem dX3_hasPlaces_9 : decode cX3_hasPlaces 9 = .ok (.aload_n 0, 1) := by decide +kernel
theorem dX3_hasPlaces_10 : decode cX3_hasPlaces 10 = .ok (.getfield 25, 3) := by decide +kernel
theorem dX3_hasPlaces_13 : decode cX3_hasPlaces 13 = .ok (.if_icmp .gt 17, 3) := by decide +kernel
theorem dX3_hasPlaces_16 : decode cX3_hasPlaces 16 = .ok (.iload_n 2, 1) := by decide +kernel
theorem dX3_hasPlaces_17 : decode cX3_hasPlaces 17 = .ok (.aload_n 0, 1) := by decide +kernel
theorem dX3_hasPlaces_18 : decode cX3_hasPlaces 18 = .ok (.getfield 25, 3) := by decide +kernel
theorem dX3_hasPlaces_21 : decode cX3_hasPlaces 21 = .ok (.iload_n 1, 1) := by decide +kernel
theorem dX3_hasPlaces_22 : decode cX3_hasPlaces 22 = .ok (.isub, 1) := by decide +kernel
theorem dX3_hasPlaces_23 : decode cX3_hasPlaces 23 = .ok (.if_icmp .gt 7, 3) := by decide +kernel
theorem dX3_hasPlaces_26 : decode cX3_hasPlaces 26 = .ok (.iconst 1, 1) := by decide +kernel
theorem dX3_hasPlaces_27 : decode cX3_hasPlaces 27 = .ok (.goto 4, 3) := by decide +kernel
theorem dX3_hasPlaces_30 : decode cX3_hasPlaces 30 = .ok (.iconst 0, 1) := by decide +kernel
theorem dX3_hasPlaces_31 : decode cX3_hasPlaces 31 = .ok (.ireturn, 1) := by decide +kernel
theorem dX3_at_0 : decode cX3_at 0 = .ok (.iload_n 1, 1) := by decide +kernel
theorem dX3_at_1 : decode cX3_at 1 = .ok (.ifCond .lt 20, 3) := by decide +kernel
theorem dX3_at_4 : decode cX3_at 4 = .ok (.iload_n 1, 1) := by decide +kernel
theorem dX3_at_5 : decode cX3_at 5 = .ok (.aload_n 0, 1) := by decide +kernel
theorem dX3_at_6 : decode cX3_at 6 = .ok (.getfield 25, 3) := by decide +kernel
theorem dX3_at_9 : decode cX3_at 9 = .ok (.if_icmp .ge 12, 3) := by decide +kernel
theorem dX3_at_12 : decode cX3_at 12 = .ok (.aload_n 0, 1) := by decide +kernel
theorem dX3_at_13 : decode cX3_at 13 = .ok (.getfield 9, 3) := by decide +kernel
theorem dX3_at_16 : decode cX3_at 16 = .ok (.iload_n 1, 1) := by decide +kernel
theorem dX3_at_17 : decode cX3_at 17 = .ok (.iaload, 1) := by decide +kernel
theorem dX3_at_18 : decode cX3_at 18 = .ok (.goto 4, 3) := by decide +kernel
theorem dX3_at_21 : decode cX3_at 21 = .ok (.iconst 0, 1) := by decide +kernel
theorem dX3_at_22 : decode cX3_at 22 = .ok (.ireturn, 1) := by decide +kernel
set_option maxRecDepth 20000 in
theorem ggX3_write_X3_hasPlace : GoodIn wsX3_write wsX3_hasPlace := goodIn_r _ [6, 7, 13, 14, 15] (by decide +kernel) (by decide +kernel)
set_option maxRecDepth 20000 in
theorem gX3_write_X3_hasPlace : GoodIn wsX3_write (wsV RX3 42 RX3 yX3_hasPlace wsX3_hasPlace) := goodIn_app (goodIn_of _ (by decide +kernel)) ggX3_write_X3_hasPlace
set_option maxRecDepth 20000 in
theorem ggX3_write_X3_lowestBits : GoodIn wsX3_write wsX3_lowestBits := goodIn_r _ [11, 12, 13, 14, 15] (by decide +kernel) (by decide +kernel)
set_option maxRecDepth 20000 in
theorem gX3_write_X3_lowestBits : GoodIn wsX3_write (wsV RX3 46 RX3 yX3_lowestBits wsX3_lowestBits) := goodIn_app (goodIn_of _ (by decide +kernel)) ggX3_write_X3_lowestBits
theorem dX3_write_0 : decode cX3_write 0 = .ok (.aload_n 0, 1) := by decide +kernel
theorem dX3_write_1 : decode cX3_write 1 = .ok (.iload_n 1, 1) := by decide +kernel
theorem dX3_write_2 : decode cX3_write 2 = .ok (.invokevirtual 42, 3) := by decide +kernel
theorem dX3_write_5 : decode cX3_write 5 = .ok (.ifCond .eq 14, 3) := by decide +kernel
theorem dX3_write_8 : decode cX3_write 8 = .ok (.aload_n 0, 1) := by decide +kernel
theorem dX3_write_9 : decode cX3_write 9 = .ok (.getfield 9, 3) := by decide +kernel
theorem dX3_write_12 : decode cX3_write 12 = .ok (.iload_n 1, 1) := by decide +kernel
theorem dX3_write_13 : decode cX3_write 13 = .ok (.aload_n 0, 1) := by decide +kernel
theorem dX3_write_14 : decode cX3_write 14 = .ok (.iload_n 2, 1) := by decide +kernel
theorem dX3_write_15 : decode cX3_write 15 = .ok (.invokevirtual 46, 3) := by decide +kernel
theorem dX3_write_18 : decode cX3_write 18 = .ok (.iastore, 1) := by decide +kernel
theorem dX3_write_19 : decode cX3_write 19 = .ok (.return_, 1) := by decide +kernel
theorem dX3_lowestBits_0 : decode cX3_lowestBits 0 = .ok (.aload_n 0, 1) := by decide +kernel
theorem dX3_lowestBits_1 : decode cX3_lowestBits 1 = .ok (.getfield 15, 3) := by decide +kernel
theorem dX3_lowestBits_4 : decode cX3_lowestBits 4 = .ok (.ifCond .ne 6, 3) := by decide +kernel
theorem dX3_lowestBits_7 : decode cX3_lowestBits 7 = .ok (.iload_n 1, 1) := by decide +kernel
theorem dX3_lowestBits_8 : decode cX3_lowestBits 8 = .ok (.i2b, 1) := by decide +kernel
theorem dX3_lowestBits_9 : decode cX3_lowestBits 9 = .ok (.ireturn, 1) := by decide +kernel
theorem dX3_lowestBits_10 : decode cX3_lowestBits 10 = .ok (.aload_n 0, 1) := by decide +kernel
theorem dX3_lowestBits_11 : decode cX3_lowestBits 11 = .ok (.getfield 15, 3) := by decide +kernel
theorem dX3_lowestBits_14 : decode cX3_lowestBits 14 = .ok (.iconst 1, 1) := by decide +kernel
theorem dX3_lowestBits_15 : decode cX3_lowestBits 15 = .ok (.if_icmp .ne 8, 3) := by decide +kernel
theorem dX3_lowestBits_18 : decode cX3_lowestBits 18 = .ok (.iload_n 1, 1) := by decide +kernel
theorem dX3_lowestBits_19 : decode cX3_lowestBits 19 = .ok (.i2s, 1) := by decide +kernel
theorem dX3_lowestBits_20 : decode cX3_lowestBits 20 = .ok (.goto 4, 3) := by decide +kernel
theorem dX3_lowestBits_23 : decode cX3_lowestBits 23 = .ok (.iload_n 1, 1) := by decide +kernel
theorem dX3_lowestBits_24 : decode cX3_lowestBits 24 = .ok (.ireturn, 1) := by decide +kernel
theorem dX3_leastNumber_0 : decode cX3_leastNumber 0 = .ok (.aload_n 0, 1) := by decide +kernel
theorem dX3_leastNumber_1 : decode cX3_leastNumber 1 = .ok (.getfield 15, 3) := by decide +kernel
theorem dX3_leastNumber_4 : decode cX3_leastNumber 4 = .ok (.ifCond .ne 6, 3) := by decide +kernel
theorem dX3_leastNumber_7 : decode cX3_leastNumber 7 = .ok (.bipush (-128), 2) := by decide +kernel
theorem dX3_leastNumber_9 : decode cX3_leastNumber 9 = .ok (.ireturn, 1) := by decide +kernel
theorem dX3_leastNumber_10 : decode cX3_leastNumber 10 = .ok (.aload_n 0, 1) := by decide +kernel
theorem dX3_leastNumber_11 : decode cX3_leastNumber 11 = .ok (.getfield 15, 3) := by decide +kernel
theorem dX3_leastNumber_14 : decode cX3_leastNumber 14 = .ok (.iconst 1, 1) := by decide +kernel
theorem dX3_leastNumber_15 : decode cX3_leastNumber 15 = .ok (.if_icmp .ne 9, 3) := by decide +kernel
theorem dX3_leastNumber_18 : decode cX3_leastNumber 18 = .ok (.sipush (-32768), 3) := by decide +kernel
theorem dX3_leastNumber_21 : decode cX3_leastNumber 21 = .ok (.goto 5, 3) := by decide +kernel
theorem dX3_leastNumber_24 : decode cX3_leastNumber 24 = .ok (.ldc 49, 2) := by decide +kernel
theorem dX3_leastNumber_26 : decode cX3_leastNumber 26 = .ok (.ireturn, 1) := by decide +kernel
theorem dX3_sum_0 : decode cX3_sum 0 = .ok (.iconst 0, 1) := by decide +kernel
theorem dX3_sum_1 : decode cX3_sum 1 = .ok (.istore_n 1, 1) := by decide +kernel
theorem dX3_sum_2 : decode cX3_sum 2 = .ok (.iconst 0, 1) := by decide +kernel
theorem dX3_sum_3 : decode cX3_sum 3 = .ok (.istore_n 2, 1) := by decide +kernel
theorem dX3_sum_4 : decode cX3_sum 4 = .ok (.iload_n 2, 1) := by decide +kernel
theorem dX3_sum_5 : decode cX3_sum 5 = .ok (.aload_n 0, 1) := by decide +kernel
theorem dX3_sum_6 : decode cX3_sum 6 = .ok (.getfield 25, 3) := by decide +kernel
theorem dX3_sum_9 : decode cX3_sum 9 = .ok (.if_icmp .ge 18, 3) := by decide +kernel
theorem dX3_sum_12 : decode cX3_sum 12 = .ok (.iload_n 1, 1) := by decide +kernel
theorem dX3_sum_13 : decode cX3_sum 13 = .ok (.aload_n 0, 1) := by decide +kernel
theorem dX3_sum_14 : decode cX3_sum 14 = .ok (.getfield 9, 3) := by decide +kernel
theorem dX3_sum_17 : decode cX3_sum 17 = .ok (.iload_n 2, 1) := by decide +kernel
theorem dX3_sum_18 : decode cX3_sum 18 = .ok (.iaload, 1) := by decide +kernel
theorem dX3_sum_19 : decode cX3_sum 19 = .ok (.iadd, 1) := by decide +kernel
theorem dX3_sum_20 : decode cX3_sum 20 = .ok (.istore_n 1, 1) := by decide +kernel
theorem dX3_sum_21 : decode cX3_sum 21 = .ok (.iinc 2 1, 3) := by decide +kernel
theorem dX3_sum_24 : decode cX3_sum 24 = .ok (.goto (-20), 3) := by decide +kernel
theorem dX3_sum_27 : decode cX3_sum 27 = .ok (.iload_n 1, 1) := by decide +kernel
theorem dX3_sum_28 : decode cX3_sum 28 = .ok (.ireturn, 1) := by decide +kernel
theorem dX3_countOf_0 : decode cX3_countOf 0 = .ok (.iconst 0, 1) := by decide +kernel
theorem dX3_countOf_1 : decode cX3_countOf 1 = .ok (.istore_n 2, 1) := by decide +kernel
theorem dX3_countOf_2 : decode cX3_countOf 2 = .ok (.iconst 0, 1) := by decide +kernel
theorem dX3_countOf_3 : decode cX3_countOf 3 = .ok (.istore_n 3, 1) := by decide +kernel
theorem dX3_countOf_4 : decode cX3_countOf 4 = .ok (.iload_n 3, 1) := by decide +kernel
theorem dX3_countOf_5 : decode cX3_countOf 5 = .ok (.aload_n 0, 1) := by decide +kernel
theorem dX3_countOf_6 : decode cX3_countOf 6 = .ok (.getfield 25, 3) := by decide +kernel
theorem dX3_countOf_9 : decode cX3_countOf 9 = .ok (.if_icmp .ge 22, 3) := by decide +kernel
theorem dX3_countOf_12 : decode cX3_countOf 12 = .ok (.aload_n 0, 1) := by decide +kernel
theorem dX3_countOf_13 : decode cX3_countOf 13 = .ok (.getfield 9, 3) := by decide +kernel
theorem dX3_countOf_16 : decode cX3_countOf 16 = .ok (.iload_n 3, 1) := by decide +kernel
theorem dX3_countOf_17 : decode cX3_countOf 17 = .ok (.iaload, 1) := by decide +kernel
theorem dX3_countOf_18 : decode cX3_countOf 18 = .ok (.iload_n 1, 1) := by decide +kernel
theorem dX3_countOf_19 : decode cX3_countOf 19 = .ok (.if_icmp .ne 6, 3) := by decide +kernel
theorem dX3_countOf_22 : decode cX3_countOf 22 = .ok (.iinc 2 1, 3) := by decide +kernel
theorem dX3_countOf_25 : decode cX3_countOf 25 = .ok (.iinc 3 1, 3) := by decide +kernel
theorem dX3_countOf_28 : decode cX3_countOf 28 = .ok (.goto (-24), 3) := by decide +kernel
theorem dX3_countOf_31 : decode cX3_countOf 31 = .ok (.iload_n 2, 1) := by decide +kernel
theorem dX3_countOf_32 : decode cX3_countOf 32 = .ok (.ireturn, 1) := by decide +kernel
set_option maxRecDepth 20000 in
theorem ggX4_init_X3_init : GoodIn wsX4_init wsX3_init := goodIn_r _ [14, 15, 2, 3, 16, 17, 22, 23, 24] (by decide +kernel) (by decide +kernel)
set_option maxRecDepth 20000 in
theorem gX4_init_X3_init : GoodIn wsX4_init (wsX3_init) := ggX4_init_X3_init
set_option maxRecDepth 20000 in
theorem ggX4_init_X1_init : GoodIn wsX4_init wsX1_init := goodIn_r _ [20, 21, 2, 3] (by decide +kernel) (by decide +kernel)
set_option maxRecDepth 20000 in
theorem gX4_init_X1_init : GoodIn wsX4_init (wsX1_init) := ggX4_init_X1_init
theorem dX4_init_0 : decode cX4_init 0 = .ok (.aload_n 0, 1) := by decide +kernel
theorem dX4_init_1 : decode cX4_init 1 = .ok (.invokespecial 3, 3) := by decide +kernel
theorem dX4_init_4 : decode cX4_init 4 = .ok (.aload_n 0, 1) := by decide +kernel
theorem dX4_init_5 : decode cX4_init 5 = .ok (.new 9, 3) := by decide +kernel
theorem dX4_init_8 : decode cX4_init 8 = .ok (.dup, 1) := by decide +kernel
theorem dX4_init_9 : decode cX4_init 9 = .ok (.bipush 100, 2) := by decide +kernel
theorem dX4_init_11 : decode cX4_init 11 = .ok (.invokespecial 11, 3) := by decide +kernel
theorem dX4_init_14 : decode cX4_init 14 = .ok (.putfield 14, 3) := by decide +kernel
theorem dX4_init_17 : decode cX4_init 17 = .ok (.aload_n 0, 1) := by decide +kernel
theorem dX4_init_18 : decode cX4_init 18 = .ok (.new 20, 3) := by decide +kernel
theorem dX4_init_21 : decode cX4_init 21 = .ok (.dup, 1) := by decide +kernel
theorem dX4_init_22 : decode cX4_init 22 = .ok (.invokespecial 22, 3) := by decide +kernel
theorem dX4_init_25 : decode cX4_init 25 = .ok (.putfield 23, 3) := by decide +kernel
theorem dX4_init_28 : decode cX4_init 28 = .ok (.return_, 1) := by decide +kernel
set_option maxRecDepth 20000 in
theorem ggX5_init_X0_init : GoodIn wsX5_init wsX0_init := goodIn_r _ [19, 20, 2, 3, 21, 22, 23, 24, 25, 26, 27, 28, 29, 30, 31, 32, 33, 34, 35, 36, 37, 38, 39, 40, 41, 14, 42, 53, 54, 55, 56, 57, 58, 59, 60, 61, 62, 73, 74, 75, 76, 77, 78, 79] (by decide +kernel) (by decide +kernel)
set_option maxRecDepth 20000 in
theorem gX5_init_X0_init : GoodIn wsX5_init (wsX0_init) := ggX5_init_X0_init
set_option maxRecDepth 20000 in
theorem ggX5_init_X4_init : GoodIn wsX5_init wsX4_init := goodIn_r _ [45, 46, 2, 3, 47, 31, 32, 48, 49, 28, 29, 50, 51, 39, 40, 41, 14, 42, 52, 35, 36, 37, 77, 78, 79, 70, 71, 72, 73, 74, 75, 76] (by decide +kernel) (by decide +kernel)
set_option maxRecDepth 20000 in
theorem gX5_init_X4_init : GoodIn wsX5_init (wsX4_init) := ggX5_init_X4_init
theorem dX5_init_0 : decode cX5_init 0 = .ok (.aload_n 0, 1) := by decide +kernel
theorem dX5_init_1 : decode cX5_init 1 = .ok (.invokespecial 1, 3) := by decide +kernel
theorem dX5_init_4 : decode cX5_init 4 = .ok (.aload_n 0, 1) := by decide +kernel
theorem dX5_init_5 : decode cX5_init 5 = .ok (.new 7, 3) := by decide +kernel
theorem dX5_init_8 : decode cX5_init 8 = .ok (.dup, 1) := by decide +kernel
theorem dX5_init_9 : decode cX5_init 9 = .ok (.invokespecial 9, 3) := by decide +kernel
theorem dX5_init_12 : decode cX5_init 12 = .ok (.putfield 10, 3) := by decide +kernel
theorem dX5_init_15 : decode cX5_init 15 = .ok (.aload_n 0, 1) := by decide +kernel
theorem dX5_init_16 : decode cX5_init 16 = .ok (.new 7, 3) := by decide +kernel
theorem dX5_init_19 : decode cX5_init 19 = .ok (.dup, 1) := by decide +kernel
theorem dX5_init_20 : decode cX5_init 20 = .ok (.invokespecial 9, 3) := by decide +kernel
theorem dX5_init_23 : decode cX5_init 23 = .ok (.putfield 16, 3) := by decide +kernel
theorem dX5_init_26 : decode cX5_init 26 = .ok (.aload_n 0, 1) := by decide +kernel
theorem dX5_init_27 : decode cX5_init 27 = .ok (.new 7, 3) := by decide +kernel
theorem dX5_init_30 : decode cX5_init 30 = .ok (.dup, 1) := by decide +kernel
theorem dX5_init_31 : decode cX5_init 31 = .ok (.invokespecial 9, 3) := by decide +kernel
theorem dX5_init_34 : decode cX5_init 34 = .ok (.putfield 19, 3) := by decide +kernel
theorem dX5_init_37 : decode cX5_init 37 = .ok (.aload_n 0, 1) := by decide +kernel
theorem dX5_init_38 : decode cX5_init 38 = .ok (.bipush 8, 2) := by decide +kernel
theorem dX5_init_40 : decode cX5_init 40 = .ok (.anewarray 22, 3) := by decide +kernel
theorem dX5_init_43 : decode cX5_init 43 = .ok (.putfield 24, 3) := by decide +kernel
theorem dX5_init_46 : decode cX5_init 46 = .ok (.iconst 0, 1) := by decide +kernel
theorem dX5_init_47 : decode cX5_init 47 = .ok (.istore_n 1, 1) := by decide +kernel
theorem dX5_init_48 : decode cX5_init 48 = .ok (.iload_n 1, 1) := by decide +kernel
theorem dX5_init_49 : decode cX5_init 49 = .ok (.bipush 8, 2) := by decide +kernel
theorem dX5_init_51 : decode cX5_init 51 = .ok (.if_icmp .ge 22, 3) := by decide +kernel
theorem dX5_init_54 : decode cX5_init 54 = .ok (.aload_n 0, 1) := by decide +kernel
theorem dX5_init_55 : decode cX5_init 55 = .ok (.getfield 24, 3) := by decide +kernel
theorem dX5_init_58 : decode cX5_init 58 = .ok (.iload_n 1, 1) := by decide +kernel
theorem dX5_init_59 : decode cX5_init 59 = .ok (.new 22, 3) := by decide +kernel
theorem dX5_init_62 : decode cX5_init 62 = .ok (.dup, 1) := by decide +kernel
theorem dX5_init_63 : decode cX5_init 63 = .ok (.invokespecial 28, 3) := by decide +kernel
theorem dX5_init_66 : decode cX5_init 66 = .ok (.aastore, 1) := by decide +kernel
theorem dX5_init_67 : decode cX5_init 67 = .ok (.iinc 1 1, 3) := by decide +kernel
theorem dX5_init_70 : decode cX5_init 70 = .ok (.goto (-22), 3) := by decide +kernel
theorem dX5_init_73 : decode cX5_init 73 = .ok (.aload_n 0, 1) := by decide +kernel
theorem dX5_init_74 : decode cX5_init 74 = .ok (.bipush 10, 2) := by decide +kernel
theorem dX5_init_76 : decode cX5_init 76 = .ok (.newarray .int, 2) := by decide +kernel
theorem dX5_init_78 : decode cX5_init 78 = .ok (.putfield 29, 3) := by decide +kernel
theorem dX5_init_81 : decode cX5_init 81 = .ok (.aload_n 0, 1) := by decide +kernel
theorem dX5_init_82 : decode cX5_init 82 = .ok (.bipush 10, 2) := by decide +kernel
theorem dX5_init_84 : decode cX5_init 84 = .ok (.newarray .int, 2) := by decide +kernel
theorem dX5_init_86 : decode cX5_init 86 = .ok (.putfield 33, 3) := by decide +kernel
theorem dX5_init_89 : decode cX5_init 89 = .ok (.return_, 1) := by decide +kernel
set_option maxRecDepth 20000 in
theorem ggX5_crowd_X5_shelfAt : GoodIn wsX5_crowd wsX5_shelfAt := goodIn_r _ [13, 14, 167, 168, 169, 170, 171, 172, 173] (by decide +kernel) (by decide +kernel)
set_option maxRecDepth 20000 in
theorem gX5_crowd_X5_shelfAt : GoodIn wsX5_crowd (wsV RX5 36 RX5 yX5_shelfAt wsX5_shelfAt) := goodIn_app (goodIn_of _ (by decide +kernel)) ggX5_crowd_X5_shelfAt
set_option maxRecDepth 20000 in
theorem ggX5_crowd_X5_rowRefusal : GoodIn wsX5_crowd wsX5_rowRefusal := goodIn_r _ [17, 18, 19, 12, 20, 21, 154, 155, 156] (by decide +kernel) (by decide +kernel)
set_option maxRecDepth 20000 in
theorem gX5_crowd_X5_rowRefusal : GoodIn wsX5_crowd (va_wsS RX5 40 yX5_rowRefusal wsX5_rowRefusal) := goodIn_app (goodIn_of _ (by decide +kernel)) ggX5_crowd_X5_rowRefusal
set_option maxRecDepth 20000 in
theorem ggX5_crowd_X2_init : GoodIn wsX5_crowd wsX2_init := goodIn_r _ [24, 25, 26, 27, 28, 160, 161, 162, 163, 164, 165, 166] (by decide +kernel) (by decide +kernel)
set_option maxRecDepth 20000 in
theorem gX5_crowd_X2_init : GoodIn wsX5_crowd (wsX2_init) := ggX5_crowd_X2_init
set_option maxRecDepth 20000 in
theorem ggX5_crowd_X2_countStatements : GoodIn wsX5_crowd wsX2_countStatements := goodIn_r _ [32, 33, 28, 34, 35, 36, 37, 5, 38, 39, 40, 41, 42, 43, 44, 45, 46, 47, 48, 49, 50, 51, 52, 53, 54, 55, 56, 57, 58, 59, 60, 61, 62, 63, 64, 65, 66, 67, 68, 69, 70, 71, 72, 73, 74, 75, 76, 77, 78, 160, 161, 162, 163, 164, 165, 166, 157, 158, 159] (by decide +kernel) (by decide +kernel)
set_option maxRecDepth 20000 in
theorem gX5_crowd_X2_countStatements : GoodIn wsX5_crowd (wsV RX5 59 RX2 yX2_countStatements wsX2_countStatements) := goodIn_app (goodIn_of _ (by decide +kernel)) ggX5_crowd_X2_countStatements
set_option maxRecDepth 20000 in
theorem ggX5_crowd_X0_takeFrom : GoodIn wsX5_crowd wsX0_takeFrom := goodIn_r _ [83, 84, 85, 86, 87, 88, 89, 90, 91, 92, 93, 94, 95, 96, 97, 98, 99, 100, 101, 102, 103, 104, 105, 106, 107, 108, 109, 43, 110, 111, 45, 46, 112, 113, 114, 115, 116, 117, 118, 119, 120, 121, 122, 123, 124, 41, 42, 44, 174, 175, 176, 177, 178, 179, 180, 181, 182, 183, 184, 185, 186, 187, 157, 158, 159] (by decide +kernel) (by decide +kernel)
set_option maxRecDepth 20000 in
theorem gX5_crowd_X0_takeFrom : GoodIn wsX5_crowd (wsV RX5 66 RX0 yX0_takeFrom wsX0_takeFrom) := goodIn_app (goodIn_of _ (by decide +kernel)) ggX5_crowd_X0_takeFrom
set_option maxRecDepth 20000 in
theorem ggX5_crowd_X2_readStatement : GoodIn wsX5_crowd wsX2_readStatement := goodIn_r _ [38, 28, 33, 39, 40, 41, 42, 43, 44, 45, 46, 47, 48, 49, 5, 50, 51, 52, 53, 54, 55, 56, 57, 58, 59, 60, 61, 62, 63, 64, 65, 66, 67, 68, 69, 70, 71, 72, 73, 74, 75, 76, 77, 78, 160, 161, 162, 163, 164, 165, 166, 157, 158, 159] (by decide +kernel) (by decide +kernel)
set_option maxRecDepth 20000 in
theorem gX5_crowd_X2_readStatement : GoodIn wsX5_crowd (wsV RX5 70 RX2 yX2_readStatement wsX2_readStatement) := goodIn_app (goodIn_of _ (by decide +kernel)) ggX5_crowd_X2_readStatement
set_option maxRecDepth 20000 in
theorem ggX5_crowd_X0_follows : GoodIn wsX5_crowd wsX0_follows := goodIn_r _ [129, 89, 130, 131, 132, 133, 134, 135, 136, 82, 137, 90, 91, 138, 12, 139, 140, 104, 105, 97, 106, 99, 100, 101, 102, 141, 142, 143, 144, 145, 146, 147, 148, 149, 150, 151, 152, 153, 84, 85, 86, 87, 88, 174, 175, 176, 177, 178, 179, 180, 181, 182, 183, 160, 161, 162, 163, 164, 165, 166, 184, 185, 186, 187] (by decide +kernel) (by decide +kernel)
set_option maxRecDepth 20000 in
theorem gX5_crowd_X0_follows : GoodIn wsX5_crowd (wsV RX5 74 RX0 yX0_follows wsX0_follows) := goodIn_app (goodIn_of _ (by decide +kernel)) ggX5_crowd_X0_follows
theorem dX5_crowd_0 : decode cX5_crowd 0 = .ok (.aload_n 0, 1) := by decide +kernel
theorem dX5_crowd_1 : decode cX5_crowd 1 = .ok (.iload_n 1, 1) := by decide +kernel
theorem dX5_crowd_2 : decode cX5_crowd 2 = .ok (.invokevirtual 36, 3) := by decide +kernel
theorem dX5_crowd_5 : decode cX5_crowd 5 = .ok (.astore_n 2, 1) := by decide +kernel
theorem dX5_crowd_6 : decode cX5_crowd 6 = .ok (.aload_n 2, 1) := by decide +kernel
theorem dX5_crowd_7 : decode cX5_crowd 7 = .ok (.invokestatic 40, 3) := by decide +kernel
theorem dX5_crowd_10 : decode cX5_crowd 10 = .ok (.istore_n 3, 1) := by decide +kernel
theorem dX5_crowd_11 : decode cX5_crowd 11 = .ok (.iload_n 3, 1) := by decide +kernel
theorem dX5_crowd_12 : decode cX5_crowd 12 = .ok (.ifCond .eq 5, 3) := by decide +kernel
theorem dX5_crowd_15 : decode cX5_crowd 15 = .ok (.iload_n 3, 1) := by decide +kernel
theorem dX5_crowd_16 : decode cX5_crowd 16 = .ok (.ireturn, 1) := by decide +kernel
theorem dX5_crowd_17 : decode cX5_crowd 17 = .ok (.aload_n 2, 1) := by decide +kernel
theorem dX5_crowd_18 : decode cX5_crowd 18 = .ok (.getfield 44, 3) := by decide +kernel
theorem dX5_crowd_21 : decode cX5_crowd 21 = .ok (.getfield 48, 3) := by decide +kernel
theorem dX5_crowd_24 : decode cX5_crowd 24 = .ok (.ifCond .eq 6, 3) := by decide +kernel
theorem dX5_crowd_27 : decode cX5_crowd 27 = .ok (.bipush (-12), 2) := by decide +kernel
theorem dX5_crowd_29 : decode cX5_crowd 29 = .ok (.ireturn, 1) := by decide +kernel
theorem dX5_crowd_30 : decode cX5_crowd 30 = .ok (.new 54, 3) := by decide +kernel
theorem dX5_crowd_33 : decode cX5_crowd 33 = .ok (.dup, 1) := by decide +kernel
theorem dX5_crowd_34 : decode cX5_crowd 34 = .ok (.aload_n 2, 1) := by decide +kernel
theorem dX5_crowd_35 : decode cX5_crowd 35 = .ok (.getfield 44, 3) := by decide +kernel
theorem dX5_crowd_38 : decode cX5_crowd 38 = .ok (.invokespecial 56, 3) := by decide +kernel
theorem dX5_crowd_41 : decode cX5_crowd 41 = .ok (.astore 4, 2) := by decide +kernel
theorem dX5_crowd_43 : decode cX5_crowd 43 = .ok (.aload 4, 2) := by decide +kernel
theorem dX5_crowd_45 : decode cX5_crowd 45 = .ok (.invokevirtual 59, 3) := by decide +kernel
theorem dX5_crowd_48 : decode cX5_crowd 48 = .ok (.istore 5, 2) := by decide +kernel
theorem dX5_crowd_50 : decode cX5_crowd 50 = .ok (.iload 5, 2) := by decide +kernel
theorem dX5_crowd_52 : decode cX5_crowd 52 = .ok (.iconst 1, 1) := by decide +kernel
theorem dX5_crowd_53 : decode cX5_crowd 53 = .ok (.if_icmp .ge 13, 3) := by decide +kernel
theorem dX5_crowd_56 : decode cX5_crowd 56 = .ok (.sipush (-1000), 3) := by decide +kernel
theorem dX5_crowd_59 : decode cX5_crowd 59 = .ok (.aload 4, 2) := by decide +kernel
theorem dX5_crowd_61 : decode cX5_crowd 61 = .ok (.getfield 63, 3) := by decide +kernel
theorem dX5_crowd_64 : decode cX5_crowd 64 = .ok (.isub, 1) := by decide +kernel
theorem dX5_crowd_65 : decode cX5_crowd 65 = .ok (.ireturn, 1) := by decide +kernel
theorem dX5_crowd_66 : decode cX5_crowd 66 = .ok (.aload_n 0, 1) := by decide +kernel
theorem dX5_crowd_67 : decode cX5_crowd 67 = .ok (.getfield 19, 3) := by decide +kernel
theorem dX5_crowd_70 : decode cX5_crowd 70 = .ok (.aload_n 0, 1) := by decide +kernel
theorem dX5_crowd_71 : decode cX5_crowd 71 = .ok (.getfield 10, 3) := by decide +kernel
theorem dX5_crowd_74 : decode cX5_crowd 74 = .ok (.invokevirtual 66, 3) := by decide +kernel
theorem dX5_crowd_77 : decode cX5_crowd 77 = .ok (.aload 4, 2) := by decide +kernel
theorem dX5_crowd_79 : decode cX5_crowd 79 = .ok (.iconst 0, 1) := by decide +kernel
theorem dX5_crowd_80 : decode cX5_crowd 80 = .ok (.putfield 63, 3) := by decide +kernel
theorem dX5_crowd_83 : decode cX5_crowd 83 = .ok (.iconst 0, 1) := by decide +kernel
theorem dX5_crowd_84 : decode cX5_crowd 84 = .ok (.istore 6, 2) := by decide +kernel
theorem dX5_crowd_86 : decode cX5_crowd 86 = .ok (.iload 6, 2) := by decide +kernel
theorem dX5_crowd_88 : decode cX5_crowd 88 = .ok (.iload 5, 2) := by decide +kernel
theorem dX5_crowd_90 : decode cX5_crowd 90 = .ok (.if_icmp .ge 43, 3) := by decide +kernel
theorem dX5_crowd_93 : decode cX5_crowd 93 = .ok (.aload 4, 2) := by decide +kernel
theorem dX5_crowd_95 : decode cX5_crowd 95 = .ok (.getfield 63, 3) := by decide +kernel
theorem dX5_crowd_98 : decode cX5_crowd 98 = .ok (.istore 7, 2) := by decide +kernel
theorem dX5_crowd_100 : decode cX5_crowd 100 = .ok (.aload 4, 2) := by decide +kernel
theorem dX5_crowd_102 : decode cX5_crowd 102 = .ok (.invokevirtual 70, 3) := by decide +kernel
theorem dX5_crowd_105 : decode cX5_crowd 105 = .ok (.ifCond .eq 15, 3) := by decide +kernel
theorem dX5_crowd_108 : decode cX5_crowd 108 = .ok (.aload_n 0, 1) := by decide +kernel
theorem dX5_crowd_109 : decode cX5_crowd 109 = .ok (.getfield 19, 3) := by decide +kernel
theorem dX5_crowd_112 : decode cX5_crowd 112 = .ok (.aload 4, 2) := by decide +kernel
theorem dX5_crowd_114 : decode cX5_crowd 114 = .ok (.invokevirtual 74, 3) := by decide +kernel
theorem dX5_crowd_117 : decode cX5_crowd 117 = .ok (.ifCond .ne 10, 3) := by decide +kernel
theorem dX5_crowd_120 : decode cX5_crowd 120 = .ok (.sipush (-2000), 3) := by decide +kernel
theorem dX5_crowd_123 : decode cX5_crowd 123 = .ok (.iload 7, 2) := by decide +kernel
theorem dX5_crowd_125 : decode cX5_crowd 125 = .ok (.isub, 1) := by decide +kernel
theorem dX5_crowd_126 : decode cX5_crowd 126 = .ok (.ireturn, 1) := by decide +kernel
theorem dX5_crowd_127 : decode cX5_crowd 127 = .ok (.iinc 6 1, 3) := by decide +kernel
theorem dX5_crowd_130 : decode cX5_crowd 130 = .ok (.goto (-44), 3) := by decide +kernel
theorem dX5_crowd_133 : decode cX5_crowd 133 = .ok (.aload_n 0, 1) := by decide +kernel
theorem dX5_crowd_134 : decode cX5_crowd 134 = .ok (.getfield 10, 3) := by decide +kernel
theorem dX5_crowd_137 : decode cX5_crowd 137 = .ok (.aload_n 0, 1) := by decide +kernel
theorem dX5_crowd_138 : decode cX5_crowd 138 = .ok (.getfield 19, 3) := by decide +kernel
theorem dX5_crowd_141 : decode cX5_crowd 141 = .ok (.invokevirtual 66, 3) := by decide +kernel
theorem dX5_crowd_144 : decode cX5_crowd 144 = .ok (.iload 5, 2) := by decide +kernel
theorem dX5_crowd_146 : decode cX5_crowd 146 = .ok (.ireturn, 1) := by decide +kernel
set_option maxRecDepth 20000 in
theorem ggX5_of_X0_personAt : GoodIn wsX5_of wsX0_personAt := goodIn_r _ [11, 12, 13, 32, 33, 34, 35, 36, 37, 38, 39, 40, 41] (by decide +kernel) (by decide +kernel)
set_option maxRecDepth 20000 in
theorem gX5_of_X0_personAt : GoodIn wsX5_of (wsV RX5 78 RX0 yX0_personAt wsX0_personAt) := goodIn_app (goodIn_of _ (by decide +kernel)) ggX5_of_X0_personAt
set_option maxRecDepth 20000 in
theorem ggX5_of_X3_at : GoodIn wsX5_of wsX3_at := goodIn_r _ [18, 19, 20, 42, 43, 44] (by decide +kernel) (by decide +kernel)
set_option maxRecDepth 20000 in
theorem gX5_of_X3_at : GoodIn wsX5_of (wsV RX5 99 RX3 yX3_at wsX3_at) := goodIn_app (goodIn_of _ (by decide +kernel)) ggX5_of_X3_at
theorem dX5_of_0 : decode cX5_of 0 = .ok (.aload_n 0, 1) := by decide +kernel
theorem dX5_of_1 : decode cX5_of 1 = .ok (.getfield 10, 3) := by decide +kernel
theorem dX5_of_4 : decode cX5_of 4 = .ok (.iload_n 1, 1) := by decide +kernel
theorem dX5_of_5 : decode cX5_of 5 = .ok (.invokevirtual 78, 3) := by decide +kernel
theorem dX5_of_8 : decode cX5_of 8 = .ok (.astore_n 3, 1) := by decide +kernel
theorem dX5_of_9 : decode cX5_of 9 = .ok (.aload_n 3, 1) := by decide +kernel
theorem dX5_of_10 : decode cX5_of 10 = .ok (.ifnonnull 5, 3) := by decide +kernel
theorem dX5_of_13 : decode cX5_of 13 = .ok (.iconst (-1), 1) := by decide +kernel
theorem dX5_of_14 : decode cX5_of 14 = .ok (.ireturn, 1) := by decide +kernel
theorem dX5_of_15 : decode cX5_of 15 = .ok (.iload_n 2, 1) := by decide +kernel
theorem dX5_of_16 : decode cX5_of 16 = .ok (.tableswitch 74 0 3 #[32, 37, 42, 47], 32) := by decide +kernel
theorem dX5_of_48 : decode cX5_of 48 = .ok (.aload_n 3, 1) := by decide +kernel
theorem dX5_of_49 : decode cX5_of 49 = .ok (.getfield 82, 3) := by decide +kernel
theorem dX5_of_52 : decode cX5_of 52 = .ok (.ireturn, 1) := by decide +kernel
theorem dX5_of_53 : decode cX5_of 53 = .ok (.aload_n 3, 1) := by decide +kernel
theorem dX5_of_54 : decode cX5_of 54 = .ok (.getfield 87, 3) := by decide +kernel
theorem dX5_of_57 : decode cX5_of 57 = .ok (.ireturn, 1) := by decide +kernel
theorem dX5_of_58 : decode cX5_of 58 = .ok (.aload_n 3, 1) := by decide +kernel
theorem dX5_of_59 : decode cX5_of 59 = .ok (.getfield 90, 3) := by decide +kernel
theorem dX5_of_62 : decode cX5_of 62 = .ok (.ireturn, 1) := by decide +kernel
theorem dX5_of_63 : decode cX5_of 63 = .ok (.aload_n 0, 1) := by decide +kernel
theorem dX5_of_64 : decode cX5_of 64 = .ok (.getfield 10, 3) := by decide +kernel
theorem dX5_of_67 : decode cX5_of 67 = .ok (.getfield 93, 3) := by decide +kernel
theorem dX5_of_70 : decode cX5_of 70 = .ok (.ifCond .ne 8, 3) := by decide +kernel
theorem dX5_of_73 : decode cX5_of 73 = .ok (.bipush (-4), 2) := by decide +kernel
theorem dX5_of_75 : decode cX5_of 75 = .ok (.goto 14, 3) := by decide +kernel
theorem dX5_of_78 : decode cX5_of 78 = .ok (.aload_n 0, 1) := by decide +kernel
theorem dX5_of_79 : decode cX5_of 79 = .ok (.getfield 10, 3) := by decide +kernel
theorem dX5_of_82 : decode cX5_of 82 = .ok (.getfield 96, 3) := by decide +kernel
theorem dX5_of_85 : decode cX5_of 85 = .ok (.iload_n 1, 1) := by decide +kernel
theorem dX5_of_86 : decode cX5_of 86 = .ok (.invokevirtual 99, 3) := by decide +kernel
theorem dX5_of_89 : decode cX5_of 89 = .ok (.ireturn, 1) := by decide +kernel
theorem dX5_of_90 : decode cX5_of 90 = .ok (.iconst (-1), 1) := by decide +kernel
theorem dX5_of_91 : decode cX5_of 91 = .ok (.ireturn, 1) := by decide +kernel
set_option maxRecDepth 20000 in
theorem ggX5_set_X0_canBe : GoodIn wsX5_set wsX0_canBe := goodIn_r _ [6, 7, 8, 9] (by decide +kernel) (by decide +kernel)
set_option maxRecDepth 20000 in
theorem gX5_set_X0_canBe : GoodIn wsX5_set (va_wsS RX5 103 yX0_canBe wsX0_canBe) := goodIn_app (goodIn_of _ (by decide +kernel)) ggX5_set_X0_canBe
set_option maxRecDepth 20000 in
theorem ggX5_set_X0_setting : GoodIn wsX5_set wsX0_setting := goodIn_r _ [13, 14, 15, 16, 17, 18, 30, 31, 32, 33, 34, 35, 36, 37, 38, 39] (by decide +kernel) (by decide +kernel)
set_option maxRecDepth 20000 in
theorem gX5_set_X0_setting : GoodIn wsX5_set (wsV RX5 107 RX0 yX0_setting wsX0_setting) := goodIn_app (goodIn_of _ (by decide +kernel)) ggX5_set_X0_setting
set_option maxRecDepth 20000 in
theorem ggX5_set_X0_change : GoodIn wsX5_set wsX0_change := goodIn_r _ [22, 14, 15, 16, 17, 18, 30, 31, 32, 33, 34, 35, 36, 37, 38, 39] (by decide +kernel) (by decide +kernel)
set_option maxRecDepth 20000 in
theorem gX5_set_X0_change : GoodIn wsX5_set (wsV RX5 110 RX0 yX0_change wsX0_change) := goodIn_app (goodIn_of _ (by decide +kernel)) ggX5_set_X0_change
theorem dX5_set_0 : decode cX5_set 0 = .ok (.iload_n 1, 1) := by decide +kernel
theorem dX5_set_1 : decode cX5_set 1 = .ok (.iload_n 2, 1) := by decide +kernel
theorem dX5_set_2 : decode cX5_set 2 = .ok (.invokestatic 103, 3) := by decide +kernel
theorem dX5_set_5 : decode cX5_set 5 = .ok (.ifCond .ne 5, 3) := by decide +kernel
theorem dX5_set_8 : decode cX5_set 8 = .ok (.iconst (-1), 1) := by decide +kernel
theorem dX5_set_9 : decode cX5_set 9 = .ok (.ireturn, 1) := by decide +kernel
theorem dX5_set_10 : decode cX5_set 10 = .ok (.iload_n 1, 1) := by decide +kernel
theorem dX5_set_11 : decode cX5_set 11 = .ok (.iconst 4, 1) := by decide +kernel
theorem dX5_set_12 : decode cX5_set 12 = .ok (.if_icmp .eq 16, 3) := by decide +kernel
theorem dX5_set_15 : decode cX5_set 15 = .ok (.aload_n 0, 1) := by decide +kernel
theorem dX5_set_16 : decode cX5_set 16 = .ok (.getfield 10, 3) := by decide +kernel
theorem dX5_set_19 : decode cX5_set 19 = .ok (.getfield 93, 3) := by decide +kernel
theorem dX5_set_22 : decode cX5_set 22 = .ok (.ifCond .le 6, 3) := by decide +kernel
