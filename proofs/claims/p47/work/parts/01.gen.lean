/-! ===== BEGIN words of one list among another's, by their places ===== -/
theorem goodIn_r {big : List Cond} (ws : List Cond) (ps : List Nat) (hp : ws = ps.filterMap (fun i => big[i]?)) (h : ws.all goodWord = true) : GoodIn big ws := by
  intro w hw
  have h1 := List.all_eq_true.mp h w hw
  rw [hp] at hw
  obtain ⟨i, -, hi⟩ := List.mem_filterMap.mp hw
  have hm : w ∈ big := by first | exact List.mem_of_getElem? hi | exact List.getElem?_mem hi
  exact ⟨hm, good_of_word h1⟩
theorem goodIn_app {big a b : List Cond} (ha : GoodIn big a) (hb : GoodIn big b) : GoodIn big (a ++ b) := fun w h => (List.mem_append.mp h).elim (ha w) (hb w)
theorem goodIn_ca {big a b : List Cond} {c : Cond} (ha : GoodIn big (c :: a)) (hb : GoodIn big b) : GoodIn big (c :: (a ++ b)) := fun w h => (List.mem_cons.mp h).elim (fun e => ha w (List.mem_cons.mpr (Or.inl e))) (fun h => (List.mem_append.mp h).elim (fun h => ha w (List.mem_cons.mpr (Or.inr h))) (hb w))
theorem goodIn_sub {big ws : List Cond} (hm : ∀ w ∈ ws, w ∈ big) (h : ws.all goodWord = true) : GoodIn big ws := fun w hw => ⟨hm w hw, good_of_word (List.all_eq_true.mp h w hw)⟩
/-! ===== END ===== -/
/-! ===== BEGIN exceptions that leave a method, and their catching by the caller (launches without stack traces) ===== -/
section VXA
/-! The laws vx_back, vx_callV, vx_callS, vx_callSW, vx_throw0, vx_throwS follow proofs of the library, with one case more: JvmDerived/Free/Laws.lean (Back.of_free), Shelf42/LK1.lean (callV, callS), Shelf/KitTraced.lean (throwNew0V, throwNewS). -/
/-- where a method has thrown q: the class by its name, the cell, what was written, the world -/
def vx_T (XC : String → State → State → Prop) (st : State) (q : Addr) (t : State) (mc ms : Nat) (free : Addr → Prop) : Prop :=
  ∃ (E : String) (ce : Cell) (L : List Loc), XC E st t ∧ t.heap[q]? = some ce ∧ ce.vm = .none ∧ st.vm.findClass E = some ce.cls ∧ st.WarmedH t.vm ∧ st.sameButNew ({ t with vm := st.vm } : State) L mc ms ∧ ∀ z ∈ L, free z.base
def vx_Q (Qc : Array Value → State → Outcome → State → Prop) (XC : String → State → State → Prop) (mc ms : Nat) (free : Addr → Prop) : Array Value → State → Outcome → State → Prop := fun a st o t =>
  (Qc a st o t ∧ ∃ L, FrameEnd st o t L mc ms ∧ ∀ q ∈ L, free q.base) ∨ ∃ q, o = .threw q ∧ vx_T XC st q t mc ms free
/-- a callee that returns or throws -/
def vx_Met (l : Launch) (y : MethodName) (ws : List Cond) (rm : Room) (Pc : Array Value → State → Prop) (Qc : Array Value → State → Outcome → State → Prop) (XC : String → State → State → Prop) (mc ms : Nat) (free : Addr → Prop) : Prop :=
  MetFree l y (headSpec ws rm) Pc (fun _ _ _ _ _ => True) (vx_Q Qc XC mc ms free)
def vx_Post (XC : String → State → State → Prop) (mc ms : Nat) (free : Addr → Prop) : Pt → Array Value → Addr → Pt → Prop := fun A a q B =>
  ∃ (g : JFrame) (mk : MethodId) (t : State) (L : List Loc) (E : String) (ce : Cell), B.U.heap = t.heap ∧ B.U.vm = t.vm ∧ XC E (A.U.calling g mk a) t ∧ t.heap[q]? = some ce ∧ ce.vm = .none ∧ A.U.vm.findClass E = some ce.cls ∧ B.locs = A.locs ++ L ∧ (∀ z ∈ L, free z.base) ∧ B.cells = A.cells + mc ∧ B.slots = A.slots + ms
def vx_Back (l : Launch) (R : Room) (p : Program) (e : Env) (below : List Frame) (s : State) (sargs : Array Value) (y : MethodName) (len W9 : Nat)
    (Pre : Pt → Array Value → Prop) (Post : Pt → Array Value → Option Value → Pt → Prop) (PostX : Pt → Array Value → Addr → Pt → Prop) : Prop :=
  ∀ (m : MethodId) (meth : Method) (c : Code) (A : Pt) (g : JFrame) (ig : Instr) (mk : MethodId) (a : Array Value),
    Stand p l e R s m sargs below meth c A.U A.locs A.cells A.slots → g.method = m → g.locals.size = c.maxLocals → decode c.code g.pc = .ok (ig, len) →
    2 * g.monitorRoom + (g.stack.map fun v => v.category).sum ≤ W9 → A.U.methodNamed? y = some mk → Pre A a →
    (∃ (v : Option Value) (B : Pt), Stand p l e R s m sargs below meth c B.U B.locs B.cells B.slots ∧ Post A a v B ∧
      Steps p.tables e below (doInvoke e (A.U.setTop g) [] mk a).1 (B.U.setTop { g with pc := g.pc + len, stack := v.toList ++ g.stack })) ∨
    (∃ (q : Addr) (B : Pt), Stand p l e R s m sargs below meth c B.U B.locs B.cells B.slots ∧ PostX A a q B ∧
      Steps p.tables e below (doInvoke e (A.U.setTop g) [] mk a).1 ((B.U.setTop g).pushFrame (.throwing q)))
section Payer
variable {l : Launch} {R : Room} {p : Program} {e : Env} {below : List Frame} {s : State} {sargs : Array Value} {y : MethodName} {len W9 : Nat}
theorem vx_back {ws : List Cond} {rm : Room} {Pc : Array Value → State → Prop} {Qc : Array Value → State → Outcome → State → Prop} {XC : String → State → State → Prop} {mc ms : Nat} {free : Addr → Prop} {bytes : ByteArray} {maxL : Nat} {ret : Option FieldType}
    (hM : vx_Met l y ws rm Pc Qc XC mc ms free) (hblind : FrameBlind Pc) (hrc : rm.cells = mc) (hrs : rm.slots = ms)
    (hframes : rm.frames + 1 ≤ R.frames) (hlocals : W9 + (maxL + 11) + rm.locals ≤ R.locals)
    (hws : ∀ w ∈ ws, ∀ a' U, s.WarmedH U.vm → w.before a' U = true) (hcode : Cond.code y bytes maxL ret ∈ ws) (hinit : ∀ a' U, s.WarmedH U.vm → (Cond.initialized y.cls).before a' U = true) :
    vx_Back l R p e below s sargs y len W9 (PreOf R mc ms Pc) (PostOf Qc mc ms free) (vx_Post XC mc ms free) := by
  intro m meth c A g ig mk a X hg hsize hdg hW hn hp
  have h1 : (headSpec ws rm).pre.before a A.U = true := atoms_intro fun w hw => hws w hw _ _ X.warmed
  have h2 : (Cond.code y bytes maxL ret).before a A.U = true := hws _ hcode _ _ X.warmed
  have h3 : (Cond.initialized y.cls).before a A.U = true := hinit _ _ X.warmed
  have h4 : A.cells + (headSpec ws rm).room.cells ≤ R.cells := by rw [show (headSpec ws rm).room.cells = mc from hrc]; exact hp.1
  have h5 : A.slots + (headSpec ws rm).room.slots ≤ R.slots := by rw [show (headSpec ws rm).room.slots = ms from hrs]; exact hp.2.1
  have hPc : Pc a (A.U.calling g mk a) := hblind _ _ _ _ hp.2.2
  obtain ⟨U, Ls, c0, s0⟩ := A
  dsimp only [Pt.U, Pt.locs, Pt.cells, Pt.slots] at h1 h2 h3 h4 h5 X hn hPc ⊢
  obtain ⟨methY, cY, hmY, hcY, -, hlY, -, -, -, -⟩ := Cond.code_spec hn h2
  obtain ⟨kY, hkY, -⟩ := className_of_methodNamed hn
  have hinitY : kY.init = .initialized := Cond.initialized_spec (findClass_of_methodNamed hn) hkY h3
  have h : At U g.method c below := by rw [hg]; exact X.here
  have hlocals9 : W9 + (maxL + 11) + (headSpec ws rm).room.locals ≤ R.locals := hlocals
  have happ : (headSpec ws rm).appliesLoose y e.platform (U.calling g mk a) = true :=
    Spec.appliesLoose_calling (g := g) h hdg hn hkY hinitY
      (X.room_calling (g := g) (R' := (headSpec ws rm).room) hsize hmY hcY hframes (by rw [hlY]; omega) h4 h5) h1
  obtain ⟨mid, hmid⟩ := h.above
  have hfr : (U.setTop g).frames = (.java g :: mid) ++ below := by rw [State.frames_setTop' g h.top, hmid]; rfl
  obtain ⟨o, s₂, hsteps, -, hend, hq⟩ := Steps.callFree hM p X.admits X.cas X.clock (acts := []) hfr happ hPc trivial
  have hq' : vx_Q Qc XC mc ms free a (U.calling g mk a) o s₂ := hq
  rw [State.frames_setTop' g h.top] at hend
  obtain ⟨g₀, hg0⟩ := Option.isSome_iff_exists.mp h.top
  obtain ⟨r, hr⟩ := State.topJava?_eq_some.mp hg0
  have hr' : (({ U with heap := s₂.heap, slotsUsed := s₂.slotsUsed } : State).setVm s₂.vm).frames = .java g₀ :: r := hr
  rcases hq' with ⟨hqc, L, hfe, hL⟩ | ⟨q, rfl, E, ce, L, hx, hce, hcv, hcl, hW₂, hsm, hL⟩
  · obtain ⟨⟨v, rfl⟩, hW₂, e2, q2, q3, q4, q5, q6⟩ := id hfe
    have e3 : s₂ = ({ (U.calling g mk a).setFrames s₂.frames with heap := s₂.heap, slotsUsed := s₂.slotsUsed } : State).setVm s₂.vm := by
      have : s₂ = ({ s₂ with vm := (U.calling g mk a).vm } : State).setVm s₂.vm := rfl
      rw [e2] at this
      exact this
    obtain ⟨c₂, i₂, len₂, hc₂, hd₂, hf₂⟩ := hend
    have hW' : U.WarmedH s₂.vm := hW₂
    have hcc : c₂ = c := by
      have h1 : s₂.code? g.method = U.code? g.method := by
        rw [State.code?_eq, State.code?_eq, hW'.alike.method?]
      exact Option.some.inj (hc₂.symm.trans (h1.trans h.code))
    subst hcc
    have hlen : len₂ = len := by rw [hdg] at hd₂; cases hd₂; rfl
    subst hlen
    have hs₂ : s₂ = (({ U with heap := s₂.heap, slotsUsed := s₂.slotsUsed } : State).setVm s₂.vm).setTop { g with pc := g.pc + len₂, stack := v.toList ++ g.stack } := by
      refine e3.trans ?_
      rw [hf₂, State.calling_eq h.top, State.setFrames_setFrames, State.setTop_of_frames _ hr', hr]
      rfl
    have hsame : U.sameButNew ({ U with heap := s₂.heap, slotsUsed := s₂.slotsUsed } : State) L mc ms := by
      refine ⟨?_, q2, q3, q4, q5, q6⟩
      obtain ⟨t, ht, -⟩ := State.frames_cons hr
      show ({ U with heap := s₂.heap, slotsUsed := s₂.slotsUsed } : State) = { U.setFrames U.frames with heap := s₂.heap, slotsUsed := s₂.slotsUsed }
      rw [State.setFrames_self ht]
    subst hg
    refine Or.inl ⟨v, ⟨(({ U with heap := s₂.heap, slotsUsed := s₂.slotsUsed } : State).setVm s₂.vm), Ls ++ L, c0 + mc, s0 + ms⟩,
      ⟨X.admits, X.cas, X.clock, X.frames, X.room, X.hears, X.method, X.code, (X.here.setHeapUsed s₂.heap s₂.slotsUsed).setVm hW'.alike, X.tail, State.WarmedH.trans X.warmed hW', X.limits, X.bytes, X.same.trans (hsame.setVm s.vm)⟩,
      ⟨g, mk, s₂, L, rfl, rfl, hqc, rfl, hL, rfl, rfl⟩, ?_⟩
    show Steps p.tables e below _ ((({ U with heap := s₂.heap, slotsUsed := s₂.slotsUsed } : State).setVm s₂.vm).setTop { g with pc := g.pc + len₂, stack := v.toList ++ g.stack })
    rw [← hs₂]
    exact hsteps
  · obtain ⟨e2, q2, q3, q4, q5, q6⟩ := id hsm
    have e3 : s₂ = ({ (U.calling g mk a).setFrames s₂.frames with heap := s₂.heap, slotsUsed := s₂.slotsUsed } : State).setVm s₂.vm := by
      have : s₂ = ({ s₂ with vm := (U.calling g mk a).vm } : State).setVm s₂.vm := rfl
      rw [e2] at this
      exact this
    have hf₂ : s₂.frames = .throwing q :: .java g :: U.frames.tail := hend
    have hW' : U.WarmedH s₂.vm := hW₂
    have hs₂ : s₂ = ((({ U with heap := s₂.heap, slotsUsed := s₂.slotsUsed } : State).setVm s₂.vm).setTop g).pushFrame (.throwing q) := by
      refine e3.trans ?_
      rw [hf₂, State.calling_eq h.top, State.setFrames_setFrames, State.pushFrame, State.frames_setTop _ hr', State.setTop_of_frames _ hr', State.setFrames_setFrames, hr]
      rfl
    have hsame : U.sameButNew ({ U with heap := s₂.heap, slotsUsed := s₂.slotsUsed } : State) L mc ms := by
      refine ⟨?_, q2, q3, q4, q5, q6⟩
      obtain ⟨t, ht, -⟩ := State.frames_cons hr
      show ({ U with heap := s₂.heap, slotsUsed := s₂.slotsUsed } : State) = { U.setFrames U.frames with heap := s₂.heap, slotsUsed := s₂.slotsUsed }
      rw [State.setFrames_self ht]
    subst hg
    refine Or.inr ⟨q, ⟨(({ U with heap := s₂.heap, slotsUsed := s₂.slotsUsed } : State).setVm s₂.vm), Ls ++ L, c0 + mc, s0 + ms⟩,
      ⟨X.admits, X.cas, X.clock, X.frames, X.room, X.hears, X.method, X.code, (X.here.setHeapUsed s₂.heap s₂.slotsUsed).setVm hW'.alike, X.tail, State.WarmedH.trans X.warmed hW', X.limits, X.bytes, X.same.trans (hsame.setVm s.vm)⟩,
      ⟨g, mk, s₂, L, E, ce, rfl, rfl, hx, hce, hcv, hcl, rfl, hL, rfl, rfl⟩, ?_⟩
    show Steps p.tables e below _ (((({ U with heap := s₂.heap, slotsUsed := s₂.slotsUsed } : State).setVm s₂.vm).setTop g).pushFrame (.throwing q))
    rw [← hs₂]
    exact hsteps
end Payer
section Calls
variable {p : Program} {l : Launch} {e : Env} {R : Room} {s : State} {m : MethodId} {args : Array Value} {below : List Frame} {meth : Method} {c : Code} {T : State} {locs : List Loc} {cells slots : Nat}
theorem vx_callV (X : Stand p l e R s m args below meth c T locs cells slots) (hexec : p.tables.exec = Jvm.exec) {own C : String} {index : Nat} {y : MethodName} {bytes : ByteArray} {maxL : Nat} {ret : Option FieldType}
    (hown : s.vm.findClass own = some m.cls) (hlink : (Cond.methodLink own index y).before args s = true) (hinst : (Cond.instanceMethod y).before args s = true) (hsel : (Cond.selects C y y).before args s = true)
    (hcode : (Cond.code y bytes maxL ret).before args s = true) (hy : y.cls ≠ "java/lang/invoke/MethodHandle" ∧ y.cls ≠ "java/lang/invoke/VarHandle")
    {W9 : Nat} {Pre : Pt → Array Value → Prop} {Post : Pt → Array Value → Option Value → Pt → Prop} {PostX : Pt → Array Value → Addr → Pt → Prop} (hK : vx_Back l R p e below s args y 3 W9 Pre Post PostX)
    {b : Addr} {cellB : Cell} (hcell : T.heap[b]? = some cellB) (hobj : cellB.vm.isStatics = false) (hcls : s.vm.findClass C = some cellB.cls)
    {g : JFrame} (hg : g.method = m) (hsize : g.locals.size = c.maxLocals) {argsL rest : List Value} (hlen : ∀ sig, parseMethodDescriptor y.desc = some sig → argsL.length = sig.parameters.length)
    (hstack : g.stack = argsL.reverse ++ .ref b :: rest) (hW : 2 * g.monitorRoom + (rest.map fun v => v.category).sum ≤ W9) (hdg : decode c.code g.pc = .ok (.invokevirtual index, 3))
    (hpre : ∀ vm₁, s.WarmedH vm₁ → Pre ⟨T.setVm vm₁, locs, cells, slots⟩ (Value.ref b :: argsL).toArray) :
    (∃ (v : Option Value) (vm₁ : Vm) (B : Pt), s.WarmedH vm₁ ∧ Stand p l e R s m args below meth c B.U B.locs B.cells B.slots ∧ Post ⟨T.setVm vm₁, locs, cells, slots⟩ (Value.ref b :: argsL).toArray v B ∧
      ∀ target, Steps p.tables e below (B.U.setTop { g with pc := g.pc + 3, stack := v.toList ++ rest }) target → Steps p.tables e below (T.setTop g) target) ∨
    (∃ (q : Addr) (vm₁ : Vm) (B : Pt), s.WarmedH vm₁ ∧ Stand p l e R s m args below meth c B.U B.locs B.cells B.slots ∧ PostX ⟨T.setVm vm₁, locs, cells, slots⟩ (Value.ref b :: argsL).toArray q B ∧
      Steps p.tables e below (T.setTop g) ((B.U.setTop { g with stack := rest }).pushFrame (.throwing q))) := by
  obtain ⟨mk, methM, hnamed, hmethM, hstM, habM⟩ := Cond.instanceMethod_spec hinst
  obtain ⟨methM', cM, hmethM', -, -, -, -, -, -, hsigM⟩ := Cond.code_spec hnamed hcode
  cases hmethM.symm.trans hmethM'
  obtain ⟨c2, r2, m2, q1, q2, q3, q4, kP, hkP, hkPi⟩ := Cond.selects_spec hsel
  cases hcls.symm.trans q1
  cases (State.methodFound?_of_named hnamed hy).symm.trans q2
  cases hnamed.symm.trans q3
  have hselP : selectMethod e.platform s.vm cellB.cls mk = .method mk := by rw [Launch.admits_selectMethod X.admits]; exact q4
  obtain ⟨vm₁, X₁, hstep₁⟩ := X.invokevirtual hexec hown hlink hnamed hmethM hstM hkP hkPi hy (a := b) (cell := cellB) hcell
    (fun z h => by rw [h] at hobj; cases hobj) hselP hmethM habM hkP hkPi (g := g) hg (argsL := argsL) (rest := rest) (hlen _ hsigM) hstack hdg
  rcases hK m meth c ⟨T.setVm vm₁, locs, cells, slots⟩ { g with stack := rest } (.invokevirtual index) mk (Value.ref b :: argsL).toArray X₁ hg hsize hdg hW (X₁.named hnamed) (hpre vm₁ X₁.warmed) with ⟨v, B, X', hpost, hsteps⟩ | ⟨q, B, X', hpost, hsteps⟩
  · exact Or.inl ⟨v, vm₁, B, X₁.warmed, X', hpost, fun target h => hstep₁ _ fun acts => by rw [doInvoke_state]; exact hsteps.trans h⟩
  · exact Or.inr ⟨q, vm₁, B, X₁.warmed, X', hpost, hstep₁ _ fun acts => by rw [doInvoke_state]; exact hsteps⟩
theorem vx_callS (X : Stand p l e R s m args below meth c T locs cells slots) (hexec : p.tables.exec = Jvm.exec) {own : String} {index : Nat} {y : MethodName} {bytes : ByteArray} {maxL : Nat} {ret : Option FieldType}
    (hown : s.vm.findClass own = some m.cls) (hlink : (Cond.methodLink own index y).before args s = true) (hstat : (Cond.static y).before args s = true) (hinit : (Cond.initialized y.cls).before args s = true)
    (hcode : (Cond.code y bytes maxL ret).before args s = true) (hy : y.cls ≠ "java/lang/invoke/MethodHandle" ∧ y.cls ≠ "java/lang/invoke/VarHandle")
    {W9 : Nat} {Pre : Pt → Array Value → Prop} {Post : Pt → Array Value → Option Value → Pt → Prop} {PostX : Pt → Array Value → Addr → Pt → Prop} (hK : vx_Back l R p e below s args y 3 W9 Pre Post PostX)
    {g : JFrame} (hg : g.method = m) (hsize : g.locals.size = c.maxLocals) {argsL rest : List Value} (hlen : ∀ sig, parseMethodDescriptor y.desc = some sig → argsL.length = sig.parameters.length)
    (hstack : g.stack = argsL.reverse ++ rest) (hW : 2 * g.monitorRoom + (rest.map fun v => v.category).sum ≤ W9) (hdg : decode c.code g.pc = .ok (.invokestatic index, 3))
    (hpre : ∀ vm₁, s.WarmedH vm₁ → Pre ⟨T.setVm vm₁, locs, cells, slots⟩ argsL.toArray) :
    (∃ (v : Option Value) (vm₁ : Vm) (B : Pt), s.WarmedH vm₁ ∧ Stand p l e R s m args below meth c B.U B.locs B.cells B.slots ∧ Post ⟨T.setVm vm₁, locs, cells, slots⟩ argsL.toArray v B ∧
      ∀ target, Steps p.tables e below (B.U.setTop { g with pc := g.pc + 3, stack := v.toList ++ rest }) target → Steps p.tables e below (T.setTop g) target) ∨
    (∃ (q : Addr) (vm₁ : Vm) (B : Pt), s.WarmedH vm₁ ∧ Stand p l e R s m args below meth c B.U B.locs B.cells B.slots ∧ PostX ⟨T.setVm vm₁, locs, cells, slots⟩ argsL.toArray q B ∧
      Steps p.tables e below (T.setTop g) ((B.U.setTop { g with stack := rest }).pushFrame (.throwing q))) := by
  obtain ⟨mk, hnamed⟩ := Cond.code_named hcode
  obtain ⟨methM, cM, hmethM, -, -, -, -, -, -, hsigM⟩ := Cond.code_spec hnamed hcode
  have hstatic : methM.isStatic = true := Cond.static_spec hnamed hmethM hstat
  obtain ⟨kP, hkP, -⟩ := className_of_methodNamed hnamed
  have hinitP : kP.init = .initialized := Cond.initialized_spec (findClass_of_methodNamed hnamed) hkP hinit
  obtain ⟨vm₁, X₁, hstep₁⟩ := X.invokestatic hexec hown hlink hnamed hmethM hstatic hkP hinitP hy (g := g) hg (argsL := argsL) (rest := rest) (hlen _ hsigM) hstack hdg
  rcases hK m meth c ⟨T.setVm vm₁, locs, cells, slots⟩ { g with stack := rest } (.invokestatic index) mk argsL.toArray X₁ hg hsize hdg hW (X₁.named hnamed) (hpre vm₁ X₁.warmed) with ⟨v, B, X', hpost, hsteps⟩ | ⟨q, B, X', hpost, hsteps⟩
  · exact Or.inl ⟨v, vm₁, B, X₁.warmed, X', hpost, fun target h => hstep₁ _ fun acts => by rw [doInvoke_state]; exact hsteps.trans h⟩
  · exact Or.inr ⟨q, vm₁, B, X₁.warmed, X', hpost, hstep₁ _ fun acts => by rw [doInvoke_state]; exact hsteps⟩
end Calls
theorem vx_cls {s : State} {T : State} {vm₁ : Vm} {E : String} {k : ClassId} (hW : s.WarmedH vm₁) (h : (T.setVm vm₁).vm.findClass E = some k) : s.vm.findClass E = some k := by
  have h1 : vm₁.findClass E = some k := h
  rw [hW.alike.findClass] at h1
  exact h1
/-- the method's frame g, with q thrown over it -/
def vx_W (p : Program) (l : Launch) (e : Env) (R : Room) (s : State) (m : MethodId) (args : Array Value) (below : List Frame) (meth : Method) (c : Code) (H : Heap) (locs : List Loc) (cells slots : Nat) (Q : State → Prop) (g : JFrame) (q : Addr) : Prop :=
  ∀ T : State, T.heap = H → Stand p l e R s m args below meth c T locs cells slots → ∃ t, Steps p.tables e below ((T.setTop g).pushFrame (.throwing q)) t ∧ Q t
def vx_Run (p : Program) (l : Launch) (e : Env) (R : Room) (s : State) (m : MethodId) (args : Array Value) (below : List Frame) (meth : Method) (c : Code) (H : Heap) (locs : List Loc) (cells slots mc ms : Nat) (g : JFrame) (rest : List Value) (Qa : State → Outcome → State → Prop) (XC : String → State → State → Prop) (free : Addr → Prop) : Prop :=
  ∀ T : State, T.heap = H → Stand p l e R s m args below meth c T locs cells slots →
    (∃ (v : Option Value) (st₀ t T' : State) (L : List Loc), st₀.heap = H ∧ Stand p l e R s m args below meth c T' (locs ++ L) (cells + mc) (slots + ms) ∧ (∀ q ∈ L, free q.base) ∧ T'.heap = t.heap ∧ T'.vm = t.vm ∧ Qa st₀ (.returned v) t ∧
      Goes p e below T g T' { g with pc := g.pc + 3, stack := v.toList ++ rest }) ∨
    (∃ (q : Addr) (st₀ t T' : State) (L : List Loc) (E : String) (ce : Cell), st₀.heap = H ∧ Stand p l e R s m args below meth c T' (locs ++ L) (cells + mc) (slots + ms) ∧ (∀ z ∈ L, free z.base) ∧ T'.heap = t.heap ∧ T'.vm = t.vm ∧ XC E st₀ t ∧ t.heap[q]? = some ce ∧ ce.vm = .none ∧ s.vm.findClass E = some ce.cls ∧
      Steps p.tables e below (T.setTop g) ((T'.setTop { g with stack := rest }).pushFrame (.throwing q)))
def vx_X {S : Type} (px : S → Prop) (B : String → S → State → Prop) (A : Nat → Prop) : String → State → State → Prop := fun E st t => ∃ u : S, px u ∧ B E u t ∧ va_F A st t
section Runs
variable {p : Program} {l : Launch} {e : Env} {R : Room} {s : State} {m : MethodId} {args : Array Value} {below : List Frame} {meth : Method} {c : Code} {H : Heap} {locs : List Loc} {cells slots : Nat}
variable {y : MethodName} {bytes cc : ByteArray} {maxL nL mc ms n index : Nat} {ret : Option FieldType} {ws : List Cond} {rm : Room} {Pc : Array Value → State → Prop} {Qc : Array Value → State → Outcome → State → Prop} {XC : String → State → State → Prop} {free : Addr → Prop} {Ts : List Cond} {own C : String} {b : Addr} {As rest : List Value} {g : JFrame}
theorem vx_callBack (cb : CallB R s args own index y bytes maxL ret ws rm mc ms n) (hM : vx_Met l y ws rm Pc Qc XC mc ms free) (hbl : FrameBlind Pc) : vx_Back l R p e below s args y 3 8 (PreOf R mc ms Pc) (PostOf Qc mc ms free) (vx_Post XC mc ms free) := by
  obtain ⟨hrc, hrs, hfr, hlo, hws, hcw, -, hini, -⟩ := cb
  exact vx_back (bytes := bytes) (maxL := maxL) (ret := ret) hM hbl hrc hrs hfr hlo hws hcw (fun a' U hW => word_at hW (Or.inl (by first | rfl | simp [Cond.onTables, Cond.keeps, Cond.steady])) hini)
theorem vx_runV (S : CallFix p m c cc nL s args Ts own) (hM : vx_Met l y ws rm Pc Qc XC mc ms free) (cw : CallW R s args own C index y bytes maxL ret ws rm mc ms n) (hp : PreV s H C b Pc As)
    (hg : g.method = m) (hn : As.length = n) (hsize : g.locals.size = nL) (hstack : g.stack = As.reverse ++ .ref b :: rest) (hW : 2 * g.monitorRoom + (rest.map fun v => v.category).sum ≤ 8) (hdg : decode cc g.pc = .ok (.invokevirtual index, 3)) (hf : cells + mc ≤ R.cells ∧ slots + ms ≤ R.slots) :
    vx_Run p l e R s m args below meth c H locs cells slots mc ms g rest (Qc (Value.ref b :: As).toArray) XC free := by
  have hK : vx_Back l R p e below s args y 3 8 (PreOf R mc ms Pc) (PostOf Qc mc ms free) (vx_Post XC mc ms free) := vx_callBack cw.1 hM hp.1
  obtain ⟨⟨-, -, -, -, -, -, hcode, -, hy, hlen, hl⟩, hin, hse⟩ := cw
  obtain ⟨hx, hb, hml, ho, -⟩ := S
  obtain ⟨-, ⟨cellB, hcB, hoB, hclB⟩, hPc⟩ := hp
  intro T hT X
  rcases vx_callV X hx (C := C) (bytes := bytes) (maxL := maxL) (ret := ret) ho hl hin hse hcode hy hK (by rw [hT]; exact hcB) hoB hclB hg (hsize.trans hml.symm) (argsL := As) (rest := rest) (fun sig h => hn.trans (hlen sig h)) hstack hW (by rw [hb]; exact hdg)
    (fun vm₁ hW₁ => ⟨hf.1, hf.2, hPc (T.setVm vm₁) hT hW₁⟩) with ⟨v, vm₁, ⟨U', l2, c2, s2⟩, hW₁, X', ⟨g', mk, t, L, e1, e2, hq, h1, hL, h2, h3⟩, st⟩ | ⟨q, vm₁, ⟨U', l2, c2, s2⟩, hW₁, X', ⟨g', mk, t, L, E, ce, e1, e2, hq, hce, hcv, hcl, h1, hL, h2, h3⟩, st⟩
  · dsimp only [Pt.U, Pt.locs, Pt.cells, Pt.slots] at X' e1 e2 h1 h2 h3 st
    subst h1; subst h2; subst h3
    exact Or.inl ⟨v, (T.setVm vm₁).calling g' mk (Value.ref b :: As).toArray, t, U', L, hT, X', hL, e1, e2, hq, st⟩
  · dsimp only [Pt.U, Pt.locs, Pt.cells, Pt.slots] at X' e1 e2 h1 h2 h3 st hcl
    subst h1; subst h2; subst h3
    exact Or.inr ⟨q, (T.setVm vm₁).calling g' mk (Value.ref b :: As).toArray, t, U', L, E, ce, hT, X', hL, e1, e2, hq, hce, hcv, vx_cls hW₁ hcl, st⟩
theorem vx_runS (S : CallFix p m c cc nL s args Ts own) (hM : vx_Met l y ws rm Pc Qc XC mc ms free) (cw : CallB R s args own index y bytes maxL ret ws rm mc ms n ∧ (Cond.static y).before args s = true) (hp : PreS s H Pc As)
    (hg : g.method = m) (hn : As.length = n) (hsize : g.locals.size = nL) (hstack : g.stack = As.reverse ++ rest) (hW : 2 * g.monitorRoom + (rest.map fun v => v.category).sum ≤ 8) (hdg : decode cc g.pc = .ok (.invokestatic index, 3)) (hf : cells + mc ≤ R.cells ∧ slots + ms ≤ R.slots) :
    vx_Run p l e R s m args below meth c H locs cells slots mc ms g rest (Qc As.toArray) XC free := by
  have hK : vx_Back l R p e below s args y 3 8 (PreOf R mc ms Pc) (PostOf Qc mc ms free) (vx_Post XC mc ms free) := vx_callBack cw.1 hM hp.1
  obtain ⟨⟨-, -, -, -, -, -, hcode, hini, hy, hlen, hl⟩, hstt⟩ := cw
  obtain ⟨hx, hb, hml, ho, -⟩ := S
  intro T hT X
  rcases vx_callS X hx (bytes := bytes) (maxL := maxL) (ret := ret) ho hl hstt hini hcode hy hK hg (hsize.trans hml.symm) (argsL := As) (rest := rest) (fun sig h => hn.trans (hlen sig h)) hstack hW (by rw [hb]; exact hdg)
    (fun vm₁ hW₁ => ⟨hf.1, hf.2, hp.2 (T.setVm vm₁) hT hW₁⟩) with ⟨v, vm₁, ⟨U', l2, c2, s2⟩, hW₁, X', ⟨g', mk, t, L, e1, e2, hq, h1, hL, h2, h3⟩, st⟩ | ⟨q, vm₁, ⟨U', l2, c2, s2⟩, hW₁, X', ⟨g', mk, t, L, E, ce, e1, e2, hq, hce, hcv, hcl, h1, hL, h2, h3⟩, st⟩
  · dsimp only [Pt.U, Pt.locs, Pt.cells, Pt.slots] at X' e1 e2 h1 h2 h3 st
    subst h1; subst h2; subst h3
    exact Or.inl ⟨v, (T.setVm vm₁).calling g' mk As.toArray, t, U', L, hT, X', hL, e1, e2, hq, st⟩
  · dsimp only [Pt.U, Pt.locs, Pt.cells, Pt.slots] at X' e1 e2 h1 h2 h3 st hcl
    subst h1; subst h2; subst h3
    exact Or.inr ⟨q, (T.setVm vm₁).calling g' mk As.toArray, t, U', L, E, ce, hT, X', hL, e1, e2, hq, hce, hcv, vx_cls hW₁ hcl, st⟩
end Runs
section Rows
variable {p : Program} {l : Launch} {e : Env} {R : Room} {s : State} {m : MethodId} {args : Array Value} {below : List Frame} {meth : Method} {c : Code} {H : Heap} {locs : List Loc} {cells slots : Nat} {Q : State → Prop}
variable {mc ms : Nat} {free : Addr → Prop} {A0 A1 : Nat → Prop} {H0 : Heap} {a : Array Value} {pc : Nat} {ls : Array Slot} {st0 rest : List Value}
theorem vx_keep {st₀ t T' : State} {L : List Loc} (h0 : st₀.heap = H) (e1 : T'.heap = t.heap) (hS : va_S A0 H0 H locs) (hA : ∀ q, q < H.size → A1 q → A0 q) (hf : ∀ q, free q → A0 q) (hL : ∀ q ∈ L, free q.base) (hF : va_F A1 st₀ t) :
    H.size ≤ T'.heap.size ∧ (∀ q : Nat, q < H.size → ¬ A1 q → T'.heap[q]? = H[q]?) ∧ va_S A0 H0 T'.heap (locs ++ L) := by
  obtain ⟨hz, hk⟩ := hF
  rw [h0] at hz hk
  exact ⟨by rw [e1]; exact hz, fun q h1 h2 => by rw [e1]; exact hk q h1 h2,
    ⟨Nat.le_trans hS.1 (by rw [e1]; exact hz), fun q h1 h2 => by rw [e1, hk q (Nat.lt_of_lt_of_le h1 hS.1) (fun z => h2 (hA q (Nat.lt_of_lt_of_le h1 hS.1) z))]; exact hS.2.1 q h1 h2, fun q hq => by
      rcases List.mem_append.mp hq with h | h
      · exact hS.2.2 q h
      · exact hf _ (hL q h)⟩⟩
theorem vx_calli {S SX : Type} {post : Int32 → S → Prop} {px : SX → Prop} {B : S → State → Prop} {BX : String → SX → State → Prop} {AX : Nat → Prop} (hr : vx_Run p l e R s m args below meth c H locs cells slots mc ms (F0 m pc ls st0) rest (va_Qi post B A1 a) (vx_X px BX AX) free) (hS : va_S A0 H0 H locs) (hA : ∀ q, q < H.size → A1 q → A0 q) (hf : ∀ q, free q → A0 q) (hAX : ∀ q, q < H.size → AX q → A0 q)
    (kx : ∀ (E : String) (ce : Cell) (q9 : Addr) (u : SX) (t : State) (H1 : Heap) (locs1 : List Loc), t.heap = H1 → s.vm.Alike t.vm → px u → BX E u t → H.size ≤ H1.size → (∀ q : Nat, q < H.size → ¬ AX q → H1[q]? = H[q]?) → va_S A0 H0 H1 locs1 → H1[q9]? = some ce → ce.vm = .none → s.vm.findClass E = some ce.cls → vx_W p l e R s m args below meth c H1 locs1 (cells + mc) (slots + ms) Q (F0 m pc ls rest) q9)
    (kk : ∀ (r : Int32) (u : S) (t : State) (H1 : Heap) (locs1 : List Loc), t.heap = H1 → s.vm.Alike t.vm → post r u → B u t → H.size ≤ H1.size → (∀ q : Nat, q < H.size → ¬ A1 q → H1[q]? = H[q]?) → va_S A0 H0 H1 locs1 → W p l e R s m args below meth c H1 locs1 (cells + mc) (slots + ms) Q (F0 m (pc + 3) ls (.int r :: rest))) : W p l e R s m args below meth c H locs cells slots Q (F0 m pc ls st0) := by
  intro T hT X
  rcases hr T hT X with ⟨v, st₀, t, T', L, h0, X', hL, e1, e2, ⟨⟨r, u, hv, hp, hb⟩, hF⟩, st⟩ | ⟨q, st₀, t, T', L, E, ce, h0, X', hL, e1, e2, ⟨u, hp, hb, hF⟩, hce, hcv, hcl, st⟩
  · cases hv
    obtain ⟨k1, k2, k3⟩ := vx_keep h0 e1 hS hA hf hL hF
    obtain ⟨t2, a1, b1⟩ := kk r u t T'.heap (locs ++ L) e1.symm (by rw [← e2]; exact X'.warmed.alike) hp hb k1 k2 k3 T' rfl X'
    exact ⟨t2, st t2 a1, b1⟩
  · obtain ⟨k1, k2, k3⟩ := vx_keep h0 e1 hS hAX hf hL hF
    obtain ⟨t2, a1, b1⟩ := kx E ce q u t T'.heap (locs ++ L) e1.symm (by rw [← e2]; exact X'.warmed.alike) hp hb k1 k2 k3 (by rw [e1]; exact hce) hcv hcl T' rfl X'
    exact ⟨t2, st.trans a1, b1⟩
theorem vx_calll {S SX : Type} {post : Int64 → S → Prop} {px : SX → Prop} {B : S → State → Prop} {BX : String → SX → State → Prop} {AX : Nat → Prop} (hr : vx_Run p l e R s m args below meth c H locs cells slots mc ms (F0 m pc ls st0) rest (va_Ql post B A1 a) (vx_X px BX AX) free) (hS : va_S A0 H0 H locs) (hA : ∀ q, q < H.size → A1 q → A0 q) (hf : ∀ q, free q → A0 q) (hAX : ∀ q, q < H.size → AX q → A0 q)
    (kx : ∀ (E : String) (ce : Cell) (q9 : Addr) (u : SX) (t : State) (H1 : Heap) (locs1 : List Loc), t.heap = H1 → s.vm.Alike t.vm → px u → BX E u t → H.size ≤ H1.size → (∀ q : Nat, q < H.size → ¬ AX q → H1[q]? = H[q]?) → va_S A0 H0 H1 locs1 → H1[q9]? = some ce → ce.vm = .none → s.vm.findClass E = some ce.cls → vx_W p l e R s m args below meth c H1 locs1 (cells + mc) (slots + ms) Q (F0 m pc ls rest) q9)
    (kk : ∀ (r : Int64) (u : S) (t : State) (H1 : Heap) (locs1 : List Loc), t.heap = H1 → s.vm.Alike t.vm → post r u → B u t → H.size ≤ H1.size → (∀ q : Nat, q < H.size → ¬ A1 q → H1[q]? = H[q]?) → va_S A0 H0 H1 locs1 → W p l e R s m args below meth c H1 locs1 (cells + mc) (slots + ms) Q (F0 m (pc + 3) ls (.long r :: rest))) : W p l e R s m args below meth c H locs cells slots Q (F0 m pc ls st0) := by
  intro T hT X
  rcases hr T hT X with ⟨v, st₀, t, T', L, h0, X', hL, e1, e2, ⟨⟨r, u, hv, hp, hb⟩, hF⟩, st⟩ | ⟨q, st₀, t, T', L, E, ce, h0, X', hL, e1, e2, ⟨u, hp, hb, hF⟩, hce, hcv, hcl, st⟩
  · cases hv
    obtain ⟨k1, k2, k3⟩ := vx_keep h0 e1 hS hA hf hL hF
    obtain ⟨t2, a1, b1⟩ := kk r u t T'.heap (locs ++ L) e1.symm (by rw [← e2]; exact X'.warmed.alike) hp hb k1 k2 k3 T' rfl X'
    exact ⟨t2, st t2 a1, b1⟩
  · obtain ⟨k1, k2, k3⟩ := vx_keep h0 e1 hS hAX hf hL hF
    obtain ⟨t2, a1, b1⟩ := kx E ce q u t T'.heap (locs ++ L) e1.symm (by rw [← e2]; exact X'.warmed.alike) hp hb k1 k2 k3 (by rw [e1]; exact hce) hcv hcl T' rfl X'
    exact ⟨t2, st.trans a1, b1⟩
theorem vx_callf {S SX : Type} {post : UInt32 → S → Prop} {px : SX → Prop} {B : S → State → Prop} {BX : String → SX → State → Prop} {AX : Nat → Prop} (hr : vx_Run p l e R s m args below meth c H locs cells slots mc ms (F0 m pc ls st0) rest (va_Qf post B A1 a) (vx_X px BX AX) free) (hS : va_S A0 H0 H locs) (hA : ∀ q, q < H.size → A1 q → A0 q) (hf : ∀ q, free q → A0 q) (hAX : ∀ q, q < H.size → AX q → A0 q)
    (kx : ∀ (E : String) (ce : Cell) (q9 : Addr) (u : SX) (t : State) (H1 : Heap) (locs1 : List Loc), t.heap = H1 → s.vm.Alike t.vm → px u → BX E u t → H.size ≤ H1.size → (∀ q : Nat, q < H.size → ¬ AX q → H1[q]? = H[q]?) → va_S A0 H0 H1 locs1 → H1[q9]? = some ce → ce.vm = .none → s.vm.findClass E = some ce.cls → vx_W p l e R s m args below meth c H1 locs1 (cells + mc) (slots + ms) Q (F0 m pc ls rest) q9)
    (kk : ∀ (r : UInt32) (u : S) (t : State) (H1 : Heap) (locs1 : List Loc), t.heap = H1 → s.vm.Alike t.vm → post r u → B u t → H.size ≤ H1.size → (∀ q : Nat, q < H.size → ¬ A1 q → H1[q]? = H[q]?) → va_S A0 H0 H1 locs1 → W p l e R s m args below meth c H1 locs1 (cells + mc) (slots + ms) Q (F0 m (pc + 3) ls (.float r :: rest))) : W p l e R s m args below meth c H locs cells slots Q (F0 m pc ls st0) := by
  intro T hT X
  rcases hr T hT X with ⟨v, st₀, t, T', L, h0, X', hL, e1, e2, ⟨⟨r, u, hv, hp, hb⟩, hF⟩, st⟩ | ⟨q, st₀, t, T', L, E, ce, h0, X', hL, e1, e2, ⟨u, hp, hb, hF⟩, hce, hcv, hcl, st⟩
  · cases hv
    obtain ⟨k1, k2, k3⟩ := vx_keep h0 e1 hS hA hf hL hF
    obtain ⟨t2, a1, b1⟩ := kk r u t T'.heap (locs ++ L) e1.symm (by rw [← e2]; exact X'.warmed.alike) hp hb k1 k2 k3 T' rfl X'
    exact ⟨t2, st t2 a1, b1⟩
  · obtain ⟨k1, k2, k3⟩ := vx_keep h0 e1 hS hAX hf hL hF
    obtain ⟨t2, a1, b1⟩ := kx E ce q u t T'.heap (locs ++ L) e1.symm (by rw [← e2]; exact X'.warmed.alike) hp hb k1 k2 k3 (by rw [e1]; exact hce) hcv hcl T' rfl X'
    exact ⟨t2, st.trans a1, b1⟩
theorem vx_calld {S SX : Type} {post : UInt64 → S → Prop} {px : SX → Prop} {B : S → State → Prop} {BX : String → SX → State → Prop} {AX : Nat → Prop} (hr : vx_Run p l e R s m args below meth c H locs cells slots mc ms (F0 m pc ls st0) rest (va_Qd post B A1 a) (vx_X px BX AX) free) (hS : va_S A0 H0 H locs) (hA : ∀ q, q < H.size → A1 q → A0 q) (hf : ∀ q, free q → A0 q) (hAX : ∀ q, q < H.size → AX q → A0 q)
    (kx : ∀ (E : String) (ce : Cell) (q9 : Addr) (u : SX) (t : State) (H1 : Heap) (locs1 : List Loc), t.heap = H1 → s.vm.Alike t.vm → px u → BX E u t → H.size ≤ H1.size → (∀ q : Nat, q < H.size → ¬ AX q → H1[q]? = H[q]?) → va_S A0 H0 H1 locs1 → H1[q9]? = some ce → ce.vm = .none → s.vm.findClass E = some ce.cls → vx_W p l e R s m args below meth c H1 locs1 (cells + mc) (slots + ms) Q (F0 m pc ls rest) q9)
    (kk : ∀ (r : UInt64) (u : S) (t : State) (H1 : Heap) (locs1 : List Loc), t.heap = H1 → s.vm.Alike t.vm → post r u → B u t → H.size ≤ H1.size → (∀ q : Nat, q < H.size → ¬ A1 q → H1[q]? = H[q]?) → va_S A0 H0 H1 locs1 → W p l e R s m args below meth c H1 locs1 (cells + mc) (slots + ms) Q (F0 m (pc + 3) ls (.double r :: rest))) : W p l e R s m args below meth c H locs cells slots Q (F0 m pc ls st0) := by
  intro T hT X
  rcases hr T hT X with ⟨v, st₀, t, T', L, h0, X', hL, e1, e2, ⟨⟨r, u, hv, hp, hb⟩, hF⟩, st⟩ | ⟨q, st₀, t, T', L, E, ce, h0, X', hL, e1, e2, ⟨u, hp, hb, hF⟩, hce, hcv, hcl, st⟩
  · cases hv
    obtain ⟨k1, k2, k3⟩ := vx_keep h0 e1 hS hA hf hL hF
    obtain ⟨t2, a1, b1⟩ := kk r u t T'.heap (locs ++ L) e1.symm (by rw [← e2]; exact X'.warmed.alike) hp hb k1 k2 k3 T' rfl X'
    exact ⟨t2, st t2 a1, b1⟩
  · obtain ⟨k1, k2, k3⟩ := vx_keep h0 e1 hS hAX hf hL hF
    obtain ⟨t2, a1, b1⟩ := kx E ce q u t T'.heap (locs ++ L) e1.symm (by rw [← e2]; exact X'.warmed.alike) hp hb k1 k2 k3 (by rw [e1]; exact hce) hcv hcl T' rfl X'
    exact ⟨t2, st.trans a1, b1⟩
theorem vx_callv {S SX : Type} {post : S → Prop} {px : SX → Prop} {B : S → State → Prop} {BX : String → SX → State → Prop} {AX : Nat → Prop} (hr : vx_Run p l e R s m args below meth c H locs cells slots mc ms (F0 m pc ls st0) rest (va_Qv post B A1 a) (vx_X px BX AX) free) (hS : va_S A0 H0 H locs) (hA : ∀ q, q < H.size → A1 q → A0 q) (hf : ∀ q, free q → A0 q) (hAX : ∀ q, q < H.size → AX q → A0 q)
    (kx : ∀ (E : String) (ce : Cell) (q9 : Addr) (u : SX) (t : State) (H1 : Heap) (locs1 : List Loc), t.heap = H1 → s.vm.Alike t.vm → px u → BX E u t → H.size ≤ H1.size → (∀ q : Nat, q < H.size → ¬ AX q → H1[q]? = H[q]?) → va_S A0 H0 H1 locs1 → H1[q9]? = some ce → ce.vm = .none → s.vm.findClass E = some ce.cls → vx_W p l e R s m args below meth c H1 locs1 (cells + mc) (slots + ms) Q (F0 m pc ls rest) q9)
    (kk : ∀ (u : S) (t : State) (H1 : Heap) (locs1 : List Loc), t.heap = H1 → s.vm.Alike t.vm → post u → B u t → H.size ≤ H1.size → (∀ q : Nat, q < H.size → ¬ A1 q → H1[q]? = H[q]?) → va_S A0 H0 H1 locs1 → W p l e R s m args below meth c H1 locs1 (cells + mc) (slots + ms) Q (F0 m (pc + 3) ls (rest))) : W p l e R s m args below meth c H locs cells slots Q (F0 m pc ls st0) := by
  intro T hT X
  rcases hr T hT X with ⟨v, st₀, t, T', L, h0, X', hL, e1, e2, ⟨⟨u, hv, hp, hb⟩, hF⟩, st⟩ | ⟨q, st₀, t, T', L, E, ce, h0, X', hL, e1, e2, ⟨u, hp, hb, hF⟩, hce, hcv, hcl, st⟩
  · cases hv
    obtain ⟨k1, k2, k3⟩ := vx_keep h0 e1 hS hA hf hL hF
    obtain ⟨t2, a1, b1⟩ := kk u t T'.heap (locs ++ L) e1.symm (by rw [← e2]; exact X'.warmed.alike) hp hb k1 k2 k3 T' rfl X'
    exact ⟨t2, st t2 a1, b1⟩
  · obtain ⟨k1, k2, k3⟩ := vx_keep h0 e1 hS hAX hf hL hF
    obtain ⟨t2, a1, b1⟩ := kx E ce q u t T'.heap (locs ++ L) e1.symm (by rw [← e2]; exact X'.warmed.alike) hp hb k1 k2 k3 (by rw [e1]; exact hce) hcv hcl T' rfl X'
    exact ⟨t2, st.trans a1, b1⟩
/-- caught by the row x of this method's table; the rows ahead don't take it -/
theorem vx_catch {own name : String} {E : String} {ce : Cell} {q : Addr} (hown : s.vm.findClass own = some m.cls) (pre : List ExceptionTableEntry) (x : ExceptionTableEntry) (suf : List ExceptionTableEntry) (hsplit : c.exceptionTable.toList = pre ++ x :: suf)
    (hpass : ∀ z ∈ pre, covers z pc = false ∨ (z.catchType ≠ 0 ∧ ∃ nm : String, (Cond.classLink own z.catchType nm).before args s = true ∧ va_Nc E nm s)) (hx : covers x pc = true) (h0 : x.catchType ≠ 0)
    (hlink : (Cond.classLink own x.catchType name).before args s = true) (hcast : (Cond.castable E name).before args s = true) (hcell : H[q]? = some ce) (hv : ce.vm = .none) (hcl : s.vm.findClass E = some ce.cls)
    (kk : W p l e R s m args below meth c H locs cells slots Q (F0 m x.handlerPc ls [.ref q])) : vx_W p l e R s m args below meth c H locs cells slots Q (F0 m pc ls rest) q := by
  intro T hT X
  have hpl : e.platform.magicAccessors = ({} : Platform).magicAccessors := by rw [X.admits.platform]
  obtain ⟨c3, c4, hc3, hc4, hasg⟩ := Cond.castable_spec hcast
  cases Option.some.inj (hc3.symm.trans hcl)
  obtain ⟨c5, hc5, hcl5⟩ := Cond.classLink_spec hown hlink e.platform hpl
  cases Option.some.inj (hc4.symm.trans hc5)
  obtain ⟨vm', X', st⟩ := X.thenCaughtThrough q (g := F0 m pc ls rest) rfl (Steps.refl _) (by rw [hT]; exact hcell) (by rw [hv]; rfl) (by obtain ⟨k9, h9, -⟩ := Vm.findClass_spec hcl; exact ⟨k9, h9⟩) pre x suf hsplit
    (fun z hz => by
      rcases hpass z hz with h | ⟨hz0, nm, hl1, hn1⟩
      · exact Or.inl h
      · obtain ⟨c6, hc6, hcl6⟩ := Cond.classLink_spec hown hl1 e.platform hpl
        obtain ⟨a8, b8, h1, h2, h3⟩ := hn1
        cases Option.some.inj (h1.symm.trans hcl)
        cases Option.some.inj (h2.symm.trans hc6)
        exact Or.inr ⟨hz0, _, hcl6, h3⟩) hx (Or.inr ⟨h0, c4, hcl5, hasg⟩)
  obtain ⟨t, a1, b1⟩ := kk (T.setVm vm') hT X'
  exact ⟨t, st.trans a1, b1⟩
end Rows
section Ends
variable {p : Program} {l : Launch} {e : Env} {R : Room} {s : State} {m : MethodId} {args : Array Value} {below : List Frame} {meth : Method} {c : Code} {H : Heap} {locs : List Loc} {cells slots : Nat} {Q : State → Prop}
variable {mc ms : Nat} {free : Addr → Prop} {A0 A1 : Nat → Prop} {H0 : Heap} {a : Array Value} {ls : Array Slot} {st0 rest : List Value}
variable {Qc : Array Value → State → Outcome → State → Prop} {XC : String → State → State → Prop}
/-- what a body that may throw owes at its end -/
def vx_MQ (below : List Frame) (Qc : Array Value → State → Outcome → State → Prop) (XC : String → State → State → Prop) (a : Array Value) (s : State) (mc ms : Nat) (free : Addr → Prop) : State → Prop := fun t =>
  ∃ o, t.status = .running ∧ Ended t below o ∧ vx_Q Qc XC mc ms free a s o t
theorem vx_ret {g : JFrame} {mc ms : Nat} (k : W p l e R s m args below meth c H locs cells slots (MQ below Qc args s mc ms free) g) : W p l e R s m args below meth c H locs cells slots (vx_MQ below Qc XC args s mc ms free) g := by
  intro T hT X
  obtain ⟨t, a1, o, b1, b2, b3, b4⟩ := k T hT X
  exact ⟨t, a1, o, b1, b2, Or.inl ⟨b3, b4⟩⟩
/-- not caught here: it goes on to the caller -/
theorem vx_widen {g : JFrame} {q : Addr} {k n : Nat} (h1 : cells ≤ k) (h2 : slots ≤ n) (kk : vx_W p l e R s m args below meth c H locs k n Q g q) : vx_W p l e R s m args below meth c H locs cells slots Q g q := fun T hT X => kk T hT (stand_widen X h1 h2)
theorem vx_out {pc : Nat} {E : String} {ce : Cell} {q : Addr} {mc ms : Nat} (hout : ∀ x ∈ c.exceptionTable.toList, covers x pc = false) (hlocks : meth.locks = false) (hcell : H[q]? = some ce) (hv : ce.vm = .none) (hcl : s.vm.findClass E = some ce.cls)
    (hx : ∀ t : State, t.heap = H → s.vm.Alike t.vm → XC E s t) (hf : ∀ z ∈ locs, free z.base) (hc : cells ≤ mc) (hs : slots ≤ ms) :
    vx_W p l e R s m args below meth c H locs cells slots (vx_MQ below Qc XC args s mc ms free) (F0 m pc ls rest) q := by
  intro T hT X
  obtain ⟨st1, hrun, hend, hW, hsm⟩ := X.leaveThrown q (g := F0 m pc ls rest) rfl rfl rfl hout hlocks
  have hcell9 : (T.setFrames (.throwing q :: below)).heap[q]? = some ce := by
    show T.heap[q]? = some ce
    rw [hT]; exact hcell
  exact ⟨_, st1, .threw q, hrun, hend, Or.inr ⟨q, rfl, E, ce, locs, hx _ hT hW.alike, hcell9, hv, hcl, hW, hsm.mono hc hs, hf⟩⟩
theorem vx_frame {U : State} {k n : Nat} (h : s.sameButNew ({ U with vm := s.vm } : State) locs k n) : s.heap.size ≤ U.heap.size ∧ ∀ q : Nat, q < s.heap.size → (∀ z ∈ locs, z.base ≠ q) → U.heap[q]? = s.heap[q]? := by
  obtain ⟨-, h2, -, -, -, h6⟩ := h
  refine ⟨h2, fun q hq hz => ?_⟩
  obtain ⟨c9, e1, e2, e3, e4⟩ := h6 q _ (Array.getElem?_eq_getElem hq)
  have hs : c9.slots = (s.heap[q]).slots := Array.ext_getElem? fun i => e4 i fun hm => hz _ hm rfl
  have h9 : c9 = s.heap[q] := by
    rw [hs] at e2
    exact e2
  have e5 : U.heap[q]? = some c9 := e1
  rw [e5, h9, Array.getElem?_eq_getElem hq]
/-- the words of a throw but the four that speak of the heap -/
def vx_no (w : Cond) : Bool := decide (w ≠ .isRef (.static Bundle.tN "UNASSIGNED_STACK" Bundle.steD)) && decide (w ≠ .isRef (.static Bundle.tN "SUPPRESSED_SENTINEL" Bundle.listD)) && decide (w ≠ .laysStatic Bundle.tN "UNASSIGNED_STACK" Bundle.steD) && decide (w ≠ .laysStatic Bundle.tN "SUPPRESSED_SENTINEL" Bundle.listD)
def vx_at0 (own : String) (ic : Nat) (X : String) (names : List String) : List Cond := (Bundle.ownAtoms0 own ic X names).filter vx_no
def vx_atS (own : String) (ic : Nat) (X : String) (names : List String) : List Cond := (Bundle.ownAtoms own ic X names).filter vx_no
/-- a word that the tables alone decide, or a good one -/
def vx_ot (w : Cond) : Bool := w.onTables || goodWord w
theorem vx_ot_at {args a' : Array Value} {s U : State} {w : Cond} (hW : s.WarmedH U.vm) (hvm : s.vm = U.vm) (hg : vx_ot w = true) (h : w.before args s = true) : w.before a' U = true := by
  simp only [vx_ot, Bool.or_eq_true] at hg
  rcases hg with hg | hg
  · exact va_tabs hg hvm h
  · exact word_at hW (good_of_word hg) h
/-- a list's words: the good ones out of the method's own list, the others by premises of their own -/
theorem vx_hat {args : Array Value} {s : State} {L B : List Cond} (h1 : ∀ w ∈ L.filter goodWord, w.before args s = true) (h2 : ∀ w ∈ L.filter (fun w => !goodWord w), w ∈ B) (h3 : ∀ w ∈ B, w.before args s = true) : ∀ w ∈ L, w.before args s = true := by
  intro w hw
  by_cases g : goodWord w = true
  · exact h1 w (List.mem_filter.mpr ⟨hw, g⟩)
  · refine h3 w (h2 w (List.mem_filter.mpr ⟨hw, ?_⟩))
    show (!goodWord w) = true
    cases hgw : goodWord w
    · rfl
    · exact absurd hgw g
theorem vx_c {args : Array Value} {s : State} {w : Cond} {B : List Cond} (h : w.before args s = true) (t : ∀ w ∈ B, w.before args s = true) : ∀ w' ∈ w :: B, w'.before args s = true := fun w' h' => (List.mem_cons.mp h').elim (fun e => by rw [e]; exact h) (t w')
theorem vx_n {args : Array Value} {s : State} : ∀ w ∈ ([] : List Cond), w.before args s = true := fun _ h => nomatch h
theorem vx_own {args : Array Value} {s : State} {L : List Cond} (h1 : ∀ w ∈ L.filter vx_no, w.before args s = true)
    (hU : (Cond.isRef (.static Bundle.tN "UNASSIGNED_STACK" Bundle.steD)).before args s = true) (hN : (Cond.isRef (.static Bundle.tN "SUPPRESSED_SENTINEL" Bundle.listD)).before args s = true)
    (lU : (Cond.laysStatic Bundle.tN "UNASSIGNED_STACK" Bundle.steD).before args s = true) (lN : (Cond.laysStatic Bundle.tN "SUPPRESSED_SENTINEL" Bundle.listD).before args s = true) : ∀ w ∈ L, w.before args s = true := by
  intro w hw
  by_cases e1 : w = .isRef (.static Bundle.tN "UNASSIGNED_STACK" Bundle.steD)
  · rw [e1]; exact hU
  · by_cases e2 : w = .isRef (.static Bundle.tN "SUPPRESSED_SENTINEL" Bundle.listD)
    · rw [e2]; exact hN
    · by_cases e3 : w = .laysStatic Bundle.tN "UNASSIGNED_STACK" Bundle.steD
      · rw [e3]; exact lU
      · by_cases e4 : w = .laysStatic Bundle.tN "SUPPRESSED_SENTINEL" Bundle.listD
        · rw [e4]; exact lN
        · exact h1 w (List.mem_filter.mpr ⟨hw, by unfold vx_no; rw [decide_eq_true e1, decide_eq_true e2, decide_eq_true e3, decide_eq_true e4]; rfl⟩)
/-- where a static field lies, its class's statics cell in H -/
def vx_L (C n d : String) (A : Nat → Prop) (U : State) (H : Heap) : Prop := ∃ (c : ClassId) (k : Class) (i : Nat) (f : Field) (a : Nat) (cell : Cell), U.vm.findClass C = some c ∧ U.fieldFound? C n d = some (c, k, i, f) ∧ f.isStatic = true ∧ k.statics = some a ∧ H[a]? = some cell ∧ cell.vm.isStatics = true ∧ cell.cls = c ∧ f.slot < cell.slots.size ∧ k.staticTypes[f.slot]? = some f.type ∧ ¬ A a
theorem vx_L.moved {C n d : String} {A : Nat → Prop} {u U : State} {H : Heap} (hvm : u.vm.Alike U.vm) (h : vx_L C n d A u H) : vx_L C n d A U H := by
  obtain ⟨c, k, i, f, a, cell, h1, h2, h3, h4, h5, h6, h7, h8, h9, h10⟩ := h
  obtain ⟨k', hi', he⟩ := State.fieldFound?_setVm hvm h2
  exact ⟨c, k', i, f, a, cell, by rw [hvm.findClass]; exact h1, hi', h3, by rw [he]; exact h4, h5, h6, h7, h8, by rw [he]; exact h9, h10⟩
theorem vx_L.kept {C n d : String} {A : Nat → Prop} {U : State} {H H1 : Heap} (h : vx_L C n d A U H) (hq : ∀ a : Nat, a < H.size → ¬ A a → H1[a]? = H[a]?) : vx_L C n d A U H1 := by
  obtain ⟨c, k, i, f, a, cell, h1, h2, h3, h4, h5, h6, h7, h8, h9, h10⟩ := h
  exact ⟨c, k, i, f, a, cell, h1, h2, h3, h4, by rw [hq a (Array.getElem?_eq_some_iff.mp h5).1 h10]; exact h5, h6, h7, h8, h9, h10⟩
theorem vx_L.narrow {C n d : String} {A B : Nat → Prop} {U : State} {H : Heap} (h : vx_L C n d A U H) (hAB : ∀ q, B q → A q) : vx_L C n d B U H := by
  obtain ⟨c, k, i, f, a, cell, h1, h2, h3, h4, h5, h6, h7, h8, h9, h10⟩ := h
  exact ⟨c, k, i, f, a, cell, h1, h2, h3, h4, h5, h6, h7, h8, h9, fun z => h10 (hAB _ z)⟩
theorem vx_L.word {C n d : String} {A : Nat → Prop} {s : State} {args : Array Value} (h : vx_L C n d A s s.heap) : (Cond.laysStatic C n d).before args s = true := by
  obtain ⟨c, k, i, f, a, cell, h1, h2, h3, h4, h5, h6, h7, h8, h9, -⟩ := h
  show (Cond.laysStatic C n d).holds args s none s [] = true
  exact Cond.laysStatic_of h1 h2 h3 h4 h5 h6 h7 h8 h9
/-- .. and what it holds: null or some reference -/
def vx_Zq (C n d : String) (A : Nat → Prop) (U : State) (H : Heap) : Prop := va_Zq C n d A U H ∧ vx_L C n d A U H
theorem vx_Zq.moved {C n d : String} {A : Nat → Prop} {u U : State} {H : Heap} (hvm : u.vm.Alike U.vm) (h : vx_Zq C n d A u H) : vx_Zq C n d A U H := ⟨va_Zq.moved hvm h.1, vx_L.moved hvm h.2⟩
theorem vx_Zq.kept {C n d : String} {A : Nat → Prop} {U : State} {H H1 : Heap} (h : vx_Zq C n d A U H) (hq : ∀ a : Nat, a < H.size → ¬ A a → H1[a]? = H[a]?) : vx_Zq C n d A U H1 := ⟨va_Zq.kept h.1 hq, vx_L.kept h.2 hq⟩
theorem vx_Zq.narrow {C n d : String} {A B : Nat → Prop} {U : State} {H : Heap} (h : vx_Zq C n d A U H) (hAB : ∀ q, B q → A q) : vx_Zq C n d B U H := ⟨va_Zq.narrow h.1 hAB, vx_L.narrow h.2 hAB⟩
theorem vx_Zqof {args : Array Value} {s : State} {C n d : String} {A : Nat → Prop} (hl : (Cond.laysStatic C n d).before args s = true) (hini : (Cond.initialized C).before args s = true) (h : (Cond.isRef (.static C n d)).before args s = true) (hA : ∀ a : Nat, a < s.heap.size → ¬ A a) : vx_Zq C n d A s s.heap := by
  refine ⟨va_Zqof hl hini h hA, ?_⟩
  obtain ⟨c, k, i, f, a, cell, h1, h2, h3, h4, h5, h6, h7, h8, h9⟩ := Cond.laysStatic_spec hl
  exact ⟨c, k, i, f, a, cell, h1, h2, h3, h4, h5, h6, h7, h8, h9, hA a (Array.getElem?_eq_some_iff.mp h5).1⟩
theorem vx_isRef {C n d : String} {v : Value} {A : Nat → Prop} {s : State} {args : Array Value} (h : va_Z C n d v A s s.heap) (hv : v.isRef = true) : (Cond.isRef (.static C n d)).before args s = true := by
  obtain ⟨cf, kf, fi, f, a, cell, h1, h2, h3, h4, h5, h6, h7, -⟩ := h
  have he : (Term.static C n d).eval args s none [] s = some v := by
    simp [Term.eval, State.fieldNamed?, h1, h2, h4, h5, h6, h7]
  simp only [Cond.before, Cond.holds, Cond.value, he]
  cases v <;> simp_all [Value.isRef]
theorem vx_isRefq {C n d : String} {A : Nat → Prop} {s : State} {args : Array Value} (h : va_Zq C n d A s s.heap) : (Cond.isRef (.static C n d)).before args s = true := by
  rcases h with h | ⟨t, h⟩
  · exact vx_isRef h rfl
  · exact vx_isRef h rfl
/-- the same frame, seen from here: as if the method were called anew in this heap -/
theorem vx_rebase {T : State} (X : Stand p l e R s m args below meth c T locs cells slots) {R' : Room} (hf : R'.frames ≤ R.frames) (hl : R'.locals ≤ R.locals) (hc : cells + R'.cells ≤ R.cells) (hs : slots + R'.slots ≤ R.slots) :
    Stand p l e R' ((T.setVm s.vm).setFrames (.invoking m args :: below)) m args below meth c T [] 0 0 := by
  have htop : (T.setVm s.vm).topJava?.isSome := X.here.top
  have hF : ((T.setVm s.vm).setFrames (.invoking m args :: below)).frames = .invoking m args :: below := State.frames_setFrames _ (State.cur_lt_of_top htop)
  obtain ⟨g₀, hg0⟩ := Option.isSome_iff_exists.mp htop
  obtain ⟨r, hr⟩ := State.topJava?_eq_some.mp hg0
  have hl9 : e.platform.stackLimits (T.setVm s.vm).me = e.platform.stackLimits s.me := X.limits
  have hb9 : (T.setVm s.vm).me.stackBytes = s.me.stackBytes := X.bytes
  refine ⟨X.admits, X.cas, X.clock, hF, ?_, X.hears, X.method, X.code, X.here, X.tail, X.warmed, ?_, ?_, ?_⟩
  · have h := X.room
    have hU : ((T.setVm s.vm).setFrames (.invoking m args :: below)).localsInUse = s.localsInUse := by
      rw [State.localsInUse_invoking hF (meth := meth) (c := c) X.method X.code, State.localsInUse_invoking X.frames X.method X.code]
    simp only [State.hasRoom, Bool.and_eq_true, decide_eq_true_eq] at h ⊢
    obtain ⟨⟨⟨⟨h1, h2, h3, h4, h5, h6⟩, h7⟩, h8⟩, h9⟩ := h
    rw [X.frames, List.length_cons] at h2 h3
    have q1 := X.heapSize
    have q2 := X.used
    simp only [hF, hU, List.length_cons, State.stackLimits_setFrames, State.stackBytes_setFrames, hl9, hb9]
    refine ⟨⟨⟨⟨by omega, by omega, by omega, by omega, by omega, h6⟩, ?_⟩, ?_⟩, X.book⟩
    · show T.heap.size + R'.cells ≤ e.platform.maxCells
      omega
    · show T.slotsUsed + R'.slots ≤ e.platform.maxSlots
      omega
  · rw [State.stackLimits_setFrames]; rfl
  · rw [State.stackBytes_setFrames]; rfl
  · refine ⟨?_, Nat.le_refl _, Nat.le_refl _, ?_, ?_, fun a c9 h9 => ⟨c9, h9, rfl, rfl, fun _ _ => rfl⟩⟩
    · obtain ⟨t, ht, -⟩ := State.frames_cons hr
      show T.setVm s.vm = { ((T.setVm s.vm).setFrames (.invoking m args :: below)).setFrames (T.setVm s.vm).frames with heap := T.heap, slotsUsed := T.slotsUsed }
      rw [State.setFrames_setFrames, State.setFrames_self ht]
      rfl
    · show T.slotsUsed = T.slotsUsed + ((T.heap.toList.drop T.heap.size).map (·.slots.size)).sum
      rw [List.drop_eq_nil_of_le (Nat.le_of_eq Array.length_toList)]
      rfl
    · show ((T.heap.toList.drop T.heap.size).map (·.slots.size)).sum ≤ 0
      rw [List.drop_eq_nil_of_le (Nat.le_of_eq Array.length_toList)]
      exact Nat.le_refl _
/-- 'throw new E()': new; dup; invokespecial; athrow -/
theorem vx_throw0 {cc : ByteArray} {pc : Nat} (hexec : p.tables.exec = Jvm.exec) (hb : c.code = cc) (hl : l.stackTraces = false) {own cls : String} {names : List String} {ik ic mc ms : Nat} {A : Nat → Prop}
    (hown : s.vm.findClass own = some m.cls) (hcls : Bundle.fit cls = true) (hnames : ∀ n ∈ names, Bundle.fit n = true)
    (hk : (Cond.classLink own ik cls).before args s = true) (hini : (Cond.initialized cls).before args s = true) (hat : ∀ w ∈ vx_at0 own ic cls names, w.before args s = true)
    (hgood : ∀ w ∈ Cond.classLink own ik cls :: Cond.initialized cls :: vx_at0 own ic cls names, vx_ot w = true)
    (hU : vx_Zq Bundle.tN "UNASSIGNED_STACK" Bundle.steD A s s.heap) (hN : vx_Zq Bundle.tN "SUPPRESSED_SENTINEL" Bundle.listD A s s.heap) (hS : va_S A s.heap H locs) (hsize : ls.size = c.maxLocals)
    (d0 : decode cc pc = .ok (.new ik, 3)) (d3 : decode cc (pc + 3) = .ok (.dup, 1)) (d4 : decode cc (pc + 4) = .ok (.invokespecial ic, 3)) (d7 : decode cc (pc + 7) = .ok (.athrow, 1))
    (hout : ∀ x ∈ c.exceptionTable.toList, covers x (pc + 7) = false)
    (hRframes : names.length + 3 < R.frames) (hRlocals : (rest.map fun v => v.category).sum + (13 * (names.length + 1) + 42) ≤ R.locals) (hRcells : cells + 1 ≤ R.cells) (hRslots : slots + 6 ≤ R.slots) (hlocks : meth.locks = false)
    (hx : ∀ t : State, s.vm.Alike t.vm → H.size ≤ t.heap.size → (∀ q : Nat, q < H.size → t.heap[q]? = H[q]?) → XC cls s t)
    (hf : ∀ z ∈ locs, free z.base) (hc : cells + 1 ≤ mc) (hs : slots + 6 ≤ ms) :
    W p l e R s m args below meth c H locs cells slots (vx_MQ below Qc XC args s mc ms free) (F0 m pc ls rest) := by
  intro T hT X
  have htr : e.platform.stackTraces = false := (show e.platform.stackTraces = l.stackTraces by rw [X.admits.platform]).trans hl
  have Y := vx_rebase X (R' := { frames := R.frames, locals := R.locals, cells := 1, slots := 6 }) (Nat.le_refl _) (Nat.le_refl _) hRcells hRslots
  obtain ⟨s', hA⟩ : ∃ z, z = (T.setVm s.vm).setFrames (.invoking m args :: below) := ⟨_, rfl⟩
  rw [← hA] at Y
  have hvm : s'.vm = s.vm := by rw [hA]; rfl
  have hhp : s'.heap = H := by rw [hA]; exact hT
  have hW0 : s.WarmedH s'.vm := by rw [hvm]; exact State.WarmedH.refl s
  have hat' : ∀ w ∈ vx_at0 own ic cls names, w.before args s' = true := fun w hw => vx_ot_at hW0 hvm.symm (hgood w (List.mem_cons_of_mem _ (List.mem_cons_of_mem _ hw))) (hat w hw)
  have hk' : (Cond.classLink own ik cls).before args s' = true := vx_ot_at hW0 hvm.symm (hgood _ List.mem_cons_self) hk
  have hini' : (Cond.initialized cls).before args s' = true := vx_ot_at hW0 hvm.symm (hgood _ (List.mem_cons_of_mem _ List.mem_cons_self)) hini
  have hU' : vx_Zq Bundle.tN "UNASSIGNED_STACK" Bundle.steD A s' s'.heap := by rw [hhp]; exact vx_Zq.moved hW0.alike (hU.kept hS.2.1)
  have hN' : vx_Zq Bundle.tN "SUPPRESSED_SENTINEL" Bundle.listD A s' s'.heap := by rw [hhp]; exact vx_Zq.moved hW0.alike (hN.kept hS.2.1)
  have h : ∀ w ∈ Bundle.ownAtoms0 own ic cls names, w.before args s' = true := vx_own hat' (vx_isRefq hU'.1) (vx_isRefq hN'.1) hU'.2.word hN'.2.word
  have hown' : s'.vm.findClass own = some m.cls := by rw [hvm]; exact hown
  have hins : (Cond.instantiable cls 6).before args s' = true := h _ (by simp [Bundle.ownAtoms0])
  obtain ⟨vm₁, cX, kX, hfX, hkX, -, -, X₁, st1⟩ := Y.newCold hexec (own := own) (C := cls) (index := ik) (n := 6) hown' hk' hins hini'
    (g := F0 m pc ls rest) rfl (by rw [hb]; exact d0) (Nat.le_refl _) (Nat.le_refl _)
  generalize hT1 : (T.setVm vm₁).pushCell { cls := cX, slots := kX.instanceTypes.map defaultValue, vm := .none } = T1 at X₁ st1
  have hcat : (Value.ref T.heap.size).category = 1 := rfl
  have hcellA : T1.heap[T.heap.size]? = some (freshCell cX kX) := by rw [← hT1]; exact State.heap_pushCell_size _ _
  have d3' : decode c.code (pc + 3) = .ok (.dup, 1) := by rw [hb]; exact d3
  obtain ⟨U, hsteps, hrun, hend, hW, hsame, ce, hce, hO⟩ := X₁.ctorThrow0 hexec htr (own := own) (cls := cls) (names := names) (ic := ic) hown' hcls hnames h (fun x hx => nomatch hx) hfX hkX hcellA (by rw [hhp, hT]; exact Nat.le_refl _)
    (g := { method := m, pc := pc + 4, locals := ls, stack := .ref T.heap.size :: .ref T.heap.size :: rest, locked := none }) rfl hsize rfl rfl (rest := rest) rfl
    (by rw [hb]; exact d4) (by rw [hb]; exact d7) hout hRframes (by simp only [List.map_cons, List.sum_cons, hcat]; omega) hlocks
  obtain ⟨f1, f2⟩ := vx_frame hsame
  rw [hhp] at f1 f2
  have hWs : s.WarmedH U.vm := State.WarmedH.trans hW0 hW
  have hcl : s.vm.findClass cls = some ce.cls := by
    have h9 := hO.cls
    rw [hvm] at h9
    exact h9
  have hall : s.sameButNew ({ U with vm := s.vm } : State) locs mc ms := by
    subst hA
    obtain ⟨e1, e2⟩ := hsame
    rw [State.setFrames_setFrames] at e1
    have h2 : (T.setVm s.vm).sameButNew ({ U with vm := s.vm } : State) [] (0 + 1) (0 + 6) := ⟨e1, e2⟩
    have h3 := X.same.trans h2
    rw [List.append_nil] at h3
    exact h3.mono hc hs
  refine ⟨U, ?_, .threw T.heap.size, hrun, hend, Or.inr ⟨T.heap.size, rfl, cls, ce, locs, hx U hWs.alike f1 (fun q hq => f2 q hq (fun z hz => nomatch hz)), hce, hO.vm, hcl, hWs, hall, hf⟩⟩
  refine st1 _ ?_
  show Steps p.tables e below (T1.setTop { method := m, pc := pc + 3, locals := ls, stack := .ref T.heap.size :: rest, locked := none }) _
  jvm_step X₁.here [X₁.here.top, hexec, d3', Value.category]
  exact hsteps
/-- 'throw new E("text")': new; dup; ldc; invokespecial; athrow -/
theorem vx_throwS {cc : ByteArray} {pc : Nat} (hexec : p.tables.exec = Jvm.exec) (hb : c.code = cc) (hl : l.stackTraces = false) {own cls text : String} {names : List String} {ik is ic mc ms sa : Nat} {A : Nat → Prop}
    (hown : s.vm.findClass own = some m.cls) (hcls : Bundle.fit cls = true) (hnames : ∀ n ∈ names, Bundle.fit n = true)
    (hk : (Cond.classLink own ik cls).before args s = true) (hini : (Cond.initialized cls).before args s = true) (hstr : vk_R own is text sa s) (hat : ∀ w ∈ vx_atS own ic cls names, w.before args s = true)
    (hgood : ∀ w ∈ Cond.classLink own ik cls :: Cond.initialized cls :: vx_atS own ic cls names, vx_ot w = true)
    (hU : vx_Zq Bundle.tN "UNASSIGNED_STACK" Bundle.steD A s s.heap) (hN : vx_Zq Bundle.tN "SUPPRESSED_SENTINEL" Bundle.listD A s s.heap) (hS : va_S A s.heap H locs) (hsize : ls.size = c.maxLocals)
    (d0 : decode cc pc = .ok (.new ik, 3)) (d3 : decode cc (pc + 3) = .ok (.dup, 1)) (d4 : decode cc (pc + 4) = .ok (.ldc is, 2)) (d6 : decode cc (pc + 6) = .ok (.invokespecial ic, 3)) (d9 : decode cc (pc + 9) = .ok (.athrow, 1))
    (hout : ∀ x ∈ c.exceptionTable.toList, covers x (pc + 9) = false)
    (hRframes : names.length + 3 < R.frames) (hRlocals : (rest.map fun v => v.category).sum + (13 * (names.length + 1) + 43) ≤ R.locals) (hRcells : cells + 1 ≤ R.cells) (hRslots : slots + 6 ≤ R.slots) (hlocks : meth.locks = false)
    (hx : ∀ t : State, s.vm.Alike t.vm → H.size ≤ t.heap.size → (∀ q : Nat, q < H.size → t.heap[q]? = H[q]?) → XC cls s t)
    (hf : ∀ z ∈ locs, free z.base) (hc : cells + 1 ≤ mc) (hs : slots + 6 ≤ ms) :
    W p l e R s m args below meth c H locs cells slots (vx_MQ below Qc XC args s mc ms free) (F0 m pc ls rest) := by
  intro T hT X
  have htr : e.platform.stackTraces = false := (show e.platform.stackTraces = l.stackTraces by rw [X.admits.platform]).trans hl
  have Y := vx_rebase X (R' := { frames := R.frames, locals := R.locals, cells := 1, slots := 6 }) (Nat.le_refl _) (Nat.le_refl _) hRcells hRslots
  obtain ⟨s', hA⟩ : ∃ z, z = (T.setVm s.vm).setFrames (.invoking m args :: below) := ⟨_, rfl⟩
  rw [← hA] at Y
  have hvm : s'.vm = s.vm := by rw [hA]; rfl
  have hhp : s'.heap = H := by rw [hA]; exact hT
  have hW0 : s.WarmedH s'.vm := by rw [hvm]; exact State.WarmedH.refl s
  have hat' : ∀ w ∈ vx_atS own ic cls names, w.before args s' = true := fun w hw => vx_ot_at hW0 hvm.symm (hgood w (List.mem_cons_of_mem _ (List.mem_cons_of_mem _ hw))) (hat w hw)
  have hk' : (Cond.classLink own ik cls).before args s' = true := vx_ot_at hW0 hvm.symm (hgood _ List.mem_cons_self) hk
  have hini' : (Cond.initialized cls).before args s' = true := vx_ot_at hW0 hvm.symm (hgood _ (List.mem_cons_of_mem _ List.mem_cons_self)) hini
  have hU' : vx_Zq Bundle.tN "UNASSIGNED_STACK" Bundle.steD A s' s'.heap := by rw [hhp]; exact vx_Zq.moved hW0.alike (hU.kept hS.2.1)
  have hN' : vx_Zq Bundle.tN "SUPPRESSED_SENTINEL" Bundle.listD A s' s'.heap := by rw [hhp]; exact vx_Zq.moved hW0.alike (hN.kept hS.2.1)
  have h : ∀ w ∈ Bundle.ownAtoms own ic cls names, w.before args s' = true := vx_own hat' (vx_isRefq hU'.1) (vx_isRefq hN'.1) hU'.2.word hN'.2.word
  have hown' : s'.vm.findClass own = some m.cls := by rw [hvm]; exact hown
  have hins : (Cond.instantiable cls 6).before args s' = true := h _ (by simp [Bundle.ownAtoms])
  obtain ⟨vm₁, cX, kX, hfX, hkX, -, -, X₁, st1⟩ := Y.newCold hexec (own := own) (C := cls) (index := ik) (n := 6) hown' hk' hins hini'
    (g := F0 m pc ls rest) rfl (by rw [hb]; exact d0) (Nat.le_refl _) (Nat.le_refl _)
  generalize hT1 : (T.setVm vm₁).pushCell { cls := cX, slots := kX.instanceTypes.map defaultValue, vm := .none } = T1 at X₁ st1
  have hcat : (Value.ref T.heap.size).category = 1 := rfl
  have hcellA : T1.heap[T.heap.size]? = some (freshCell cX kX) := by rw [← hT1]; exact State.heap_pushCell_size _ _
  have d3' : decode c.code (pc + 3) = .ok (.dup, 1) := by rw [hb]; exact d3
  have d4' : decode c.code (pc + 4) = .ok (.ldc is, 2) := by rw [hb]; exact d4
  have hstr' : vk_R own is text sa s' := vk_R.warm hW0 hstr
  obtain ⟨U, hsteps, hrun, hend, hW, hsame, ce, hce, hO⟩ := X₁.ctorThrowS hexec htr (own := own) (cls := cls) (names := names) (ic := ic) hown' hcls hnames h (fun x hx => nomatch hx) hfX hkX hcellA (by rw [hhp, hT]; exact Nat.le_refl _) (msg := .ref sa) rfl
    (g := { method := m, pc := pc + 6, locals := ls, stack := .ref sa :: .ref T.heap.size :: .ref T.heap.size :: rest, locked := none }) rfl hsize rfl rfl (rest := rest) rfl
    (by rw [hb]; exact d6) (by rw [hb]; exact d9) hout hRframes (by simp only [List.map_cons, List.sum_cons, hcat]; omega) hlocks
  obtain ⟨f1, f2⟩ := vx_frame hsame
  rw [hhp] at f1 f2
  have hWs : s.WarmedH U.vm := State.WarmedH.trans hW0 hW
  have hcl : s.vm.findClass cls = some ce.cls := by
    have h9 := hO.cls
    rw [hvm] at h9
    exact h9
  have hall : s.sameButNew ({ U with vm := s.vm } : State) locs mc ms := by
    subst hA
    obtain ⟨e1, e2⟩ := hsame
    rw [State.setFrames_setFrames] at e1
    have h2 : (T.setVm s.vm).sameButNew ({ U with vm := s.vm } : State) [] (0 + 1) (0 + 6) := ⟨e1, e2⟩
    have h3 := X.same.trans h2
    rw [List.append_nil] at h3
    exact h3.mono hc hs
  refine ⟨U, ?_, .threw T.heap.size, hrun, hend, Or.inr ⟨T.heap.size, rfl, cls, ce, locs, hx U hWs.alike f1 (fun q hq => f2 q hq (fun z hz => nomatch hz)), hce, hO.vm, hcl, hWs, hall, hf⟩⟩
  refine st1 _ ?_
  show Steps p.tables e below (T1.setTop { method := m, pc := pc + 3, locals := ls, stack := .ref T.heap.size :: rest, locked := none }) _
  jvm_step X₁.here [X₁.here.top, hexec, d3', Value.category]
  exact X₁.ldcString hexec (own := own) (text := text) (index := is) (a := sa) hown' hstr'.1 hstr'.2
    (g := { method := m, pc := pc + 4, locals := ls, stack := .ref T.heap.size :: .ref T.heap.size :: rest, locked := none }) rfl d4' _ hsteps
/-- 'throw new E("text")', the text by a wide index -/
theorem vx_throwSW {cc : ByteArray} {pc : Nat} (hexec : p.tables.exec = Jvm.exec) (hb : c.code = cc) (hl : l.stackTraces = false) {own cls text : String} {names : List String} {ik is ic mc ms sa : Nat} {A : Nat → Prop}
    (hown : s.vm.findClass own = some m.cls) (hcls : Bundle.fit cls = true) (hnames : ∀ n ∈ names, Bundle.fit n = true)
    (hk : (Cond.classLink own ik cls).before args s = true) (hini : (Cond.initialized cls).before args s = true) (hstr : vk_R own is text sa s) (hat : ∀ w ∈ vx_atS own ic cls names, w.before args s = true)
    (hgood : ∀ w ∈ Cond.classLink own ik cls :: Cond.initialized cls :: vx_atS own ic cls names, vx_ot w = true)
    (hU : vx_Zq Bundle.tN "UNASSIGNED_STACK" Bundle.steD A s s.heap) (hN : vx_Zq Bundle.tN "SUPPRESSED_SENTINEL" Bundle.listD A s s.heap) (hS : va_S A s.heap H locs) (hsize : ls.size = c.maxLocals)
    (d0 : decode cc pc = .ok (.new ik, 3)) (d3 : decode cc (pc + 3) = .ok (.dup, 1)) (d4 : decode cc (pc + 4) = .ok (.ldc_w is, 3)) (d7 : decode cc (pc + 7) = .ok (.invokespecial ic, 3)) (d10 : decode cc (pc + 10) = .ok (.athrow, 1))
    (hout : ∀ x ∈ c.exceptionTable.toList, covers x (pc + 10) = false)
    (hRframes : names.length + 3 < R.frames) (hRlocals : (rest.map fun v => v.category).sum + (13 * (names.length + 1) + 43) ≤ R.locals) (hRcells : cells + 1 ≤ R.cells) (hRslots : slots + 6 ≤ R.slots) (hlocks : meth.locks = false)
    (hx : ∀ t : State, s.vm.Alike t.vm → H.size ≤ t.heap.size → (∀ q : Nat, q < H.size → t.heap[q]? = H[q]?) → XC cls s t)
    (hf : ∀ z ∈ locs, free z.base) (hc : cells + 1 ≤ mc) (hs : slots + 6 ≤ ms) :
    W p l e R s m args below meth c H locs cells slots (vx_MQ below Qc XC args s mc ms free) (F0 m pc ls rest) := by
  intro T hT X
  have htr : e.platform.stackTraces = false := (show e.platform.stackTraces = l.stackTraces by rw [X.admits.platform]).trans hl
  have Y := vx_rebase X (R' := { frames := R.frames, locals := R.locals, cells := 1, slots := 6 }) (Nat.le_refl _) (Nat.le_refl _) hRcells hRslots
  obtain ⟨s', hA⟩ : ∃ z, z = (T.setVm s.vm).setFrames (.invoking m args :: below) := ⟨_, rfl⟩
  rw [← hA] at Y
  have hvm : s'.vm = s.vm := by rw [hA]; rfl
  have hhp : s'.heap = H := by rw [hA]; exact hT
  have hW0 : s.WarmedH s'.vm := by rw [hvm]; exact State.WarmedH.refl s
  have hat' : ∀ w ∈ vx_atS own ic cls names, w.before args s' = true := fun w hw => vx_ot_at hW0 hvm.symm (hgood w (List.mem_cons_of_mem _ (List.mem_cons_of_mem _ hw))) (hat w hw)
  have hk' : (Cond.classLink own ik cls).before args s' = true := vx_ot_at hW0 hvm.symm (hgood _ List.mem_cons_self) hk
  have hini' : (Cond.initialized cls).before args s' = true := vx_ot_at hW0 hvm.symm (hgood _ (List.mem_cons_of_mem _ List.mem_cons_self)) hini
  have hU' : vx_Zq Bundle.tN "UNASSIGNED_STACK" Bundle.steD A s' s'.heap := by rw [hhp]; exact vx_Zq.moved hW0.alike (hU.kept hS.2.1)
  have hN' : vx_Zq Bundle.tN "SUPPRESSED_SENTINEL" Bundle.listD A s' s'.heap := by rw [hhp]; exact vx_Zq.moved hW0.alike (hN.kept hS.2.1)
  have h : ∀ w ∈ Bundle.ownAtoms own ic cls names, w.before args s' = true := vx_own hat' (vx_isRefq hU'.1) (vx_isRefq hN'.1) hU'.2.word hN'.2.word
  have hown' : s'.vm.findClass own = some m.cls := by rw [hvm]; exact hown
  have hins : (Cond.instantiable cls 6).before args s' = true := h _ (by simp [Bundle.ownAtoms])
  obtain ⟨vm₁, cX, kX, hfX, hkX, -, -, X₁, st1⟩ := Y.newCold hexec (own := own) (C := cls) (index := ik) (n := 6) hown' hk' hins hini'
    (g := F0 m pc ls rest) rfl (by rw [hb]; exact d0) (Nat.le_refl _) (Nat.le_refl _)
  generalize hT1 : (T.setVm vm₁).pushCell { cls := cX, slots := kX.instanceTypes.map defaultValue, vm := .none } = T1 at X₁ st1
  have hcat : (Value.ref T.heap.size).category = 1 := rfl
  have hcellA : T1.heap[T.heap.size]? = some (freshCell cX kX) := by rw [← hT1]; exact State.heap_pushCell_size _ _
  have d3' : decode c.code (pc + 3) = .ok (.dup, 1) := by rw [hb]; exact d3
  have d4' : decode c.code (pc + 4) = .ok (.ldc_w is, 3) := by rw [hb]; exact d4
  have hstr' : vk_R own is text sa s' := vk_R.warm hW0 hstr
  obtain ⟨U, hsteps, hrun, hend, hW, hsame, ce, hce, hO⟩ := X₁.ctorThrowS hexec htr (own := own) (cls := cls) (names := names) (ic := ic) hown' hcls hnames h (fun x hx => nomatch hx) hfX hkX hcellA (by rw [hhp, hT]; exact Nat.le_refl _) (msg := .ref sa) rfl
    (g := { method := m, pc := pc + 7, locals := ls, stack := .ref sa :: .ref T.heap.size :: .ref T.heap.size :: rest, locked := none }) rfl hsize rfl rfl (rest := rest) rfl
    (by rw [hb]; exact d7) (by rw [hb]; exact d10) hout hRframes (by simp only [List.map_cons, List.sum_cons, hcat]; omega) hlocks
  obtain ⟨f1, f2⟩ := vx_frame hsame
  rw [hhp] at f1 f2
  have hWs : s.WarmedH U.vm := State.WarmedH.trans hW0 hW
  have hcl : s.vm.findClass cls = some ce.cls := by
    have h9 := hO.cls
    rw [hvm] at h9
    exact h9
  have hall : s.sameButNew ({ U with vm := s.vm } : State) locs mc ms := by
    subst hA
    obtain ⟨e1, e2⟩ := hsame
    rw [State.setFrames_setFrames] at e1
    have h2 : (T.setVm s.vm).sameButNew ({ U with vm := s.vm } : State) [] (0 + 1) (0 + 6) := ⟨e1, e2⟩
    have h3 := X.same.trans h2
    rw [List.append_nil] at h3
    exact h3.mono hc hs
  refine ⟨U, ?_, .threw T.heap.size, hrun, hend, Or.inr ⟨T.heap.size, rfl, cls, ce, locs, hx U hWs.alike f1 (fun q hq => f2 q hq (fun z hz => nomatch hz)), hce, hO.vm, hcl, hWs, hall, hf⟩⟩
  refine st1 _ ?_
  show Steps p.tables e below (T1.setTop { method := m, pc := pc + 3, locals := ls, stack := .ref T.heap.size :: rest, locked := none }) _
  jvm_step X₁.here [X₁.here.top, hexec, d3', Value.category]
  exact X₁.ldcStringW hexec (own := own) (text := text) (index := is) (a := sa) hown' hstr'.1 hstr'.2
    (g := { method := m, pc := pc + 4, locals := ls, stack := .ref T.heap.size :: .ref T.heap.size :: rest, locked := none }) rfl d4' _ hsteps
end Ends
section Bodies
variable {l : Launch}
theorem vx_ofW {y : MethodName} {ws ws' : List Cond} {rm : Room} {Pc : Array Value → State → Prop} {Qc : Array Value → State → Outcome → State → Prop} {XC : String → State → State → Prop} {mc ms : Nat} {free : Addr → Prop} {cc : ByteArray} {maxL : Nat} {ret : Option FieldType}
    (hy : plainName y.cls = true) (hw : ws = Cond.code y cc maxL ret :: ws')
    (body : ∀ p e s m args below meth c s₁, BodyLoose p l y (headSpec ws rm) cc maxL ret e s m args below meth c s₁ → c.maxLocals = maxL → (∀ x ∈ c.exceptionTable.toList, False) → Pc args s →
      W p l e (headSpec ws rm).room s m args below meth c s.heap [] 0 0 (vx_MQ below Qc XC args s mc ms free) (entryFrame m args maxL)) : vx_Met l y ws rm Pc Qc XC mc ms free := by
  refine MetFree.of_bodyS (code := cc) (maxLocals := maxL) (ret := ret) hy ?_ ?_
  · intro args s m h hn
    obtain ⟨meth, c, h1, h2, h3, h4, h5, h6, -, -⟩ := Cond.code_spec hn (atoms_spec (ws := ws) h _ (by rw [hw]; exact List.mem_cons_self))
    exact ⟨meth, c, h1, h2, h3, h4, h5, h6⟩
  · intro p e s m args below meth c s₁ B hml hP _
    have hh0 : s₁.heap = s.heap := by rw [B.state]; rfl
    have ht : ∀ x ∈ c.exceptionTable.toList, False := by
      obtain ⟨meth9, c9, h1, h2, -, -, -, -, h7, -⟩ := Cond.code_spec B.named (atoms_spec (ws := ws) B.pre _ (by rw [hw]; exact List.mem_cons_self))
      cases Option.some.inj (h1.symm.trans B.method)
      cases Option.some.inj (h2.symm.trans (Stand.of_body B).code)
      intro x hx
      rw [Array.isEmpty_iff.mp h7] at hx
      cases hx
    obtain ⟨t, a1, o, b1, b2, b3⟩ := body p e s m args below meth c s₁ B hml ht hP s₁ hh0 (Stand.of_body B)
    exact ⟨t, o, a1, b1, b2, b3⟩
/-- the table of a body with handlers -/
theorem vx_table {p : Program} {x y : MethodName} {S : Spec} {cc bytes : ByteArray} {maxL maxL' : Nat} {ret ret' : Option FieldType} {e : Env} {s s₁ : State} {m : MethodId} {args : Array Value} {below : List Frame} {meth : Method} {c : Code} {hh : List (Nat × Nat × Nat × Nat)}
    (B : BodyLoose p l y S cc maxL ret e s m args below meth c s₁) (h : (Cond.codeWith y bytes maxL' ret' hh).before args s = true) : c.exceptionTable.toList = tableOf hh := by
  obtain ⟨m9, meth9, c9, hn9, h1, h2, -, -, h6, -⟩ := Cond.codeWith_spec h
  cases Option.some.inj (hn9.symm.trans B.named)
  cases Option.some.inj (h1.symm.trans B.method)
  cases Option.some.inj (h2.symm.trans (Stand.of_body B).code)
  rw [← h6, table_eq]
end Bodies
end VXA
/-! ===== END ===== -/
/-! ===== BEGIN a static call of a method with an exception table ===== -/
section VXS
variable {p : Program} {l : Launch} {e : Env} {R : Room} {s : State} {m : MethodId} {args : Array Value} {below : List Frame} {meth : Method} {c : Code} {T : State} {H : Heap} {locs : List Loc} {cells slots : Nat}
abbrev vx_CSW (R : Room) (s : State) (args : Array Value) (own : String) (index : Nat) (y : MethodName) (bytes : ByteArray) (maxL : Nat) (ret : Option FieldType) (hh : List (Nat × Nat × Nat × Nat)) (ws : List Cond) (rm : Room) (mc ms n : Nat) : Prop :=
  (rm.cells = mc ∧ rm.slots = ms ∧ rm.frames + 1 ≤ R.frames ∧ 8 + (maxL + 11) + rm.locals ≤ R.locals ∧ (∀ w ∈ ws, ∀ (a' : Array Value) (U : State), s.WarmedH U.vm → w.before a' U = true) ∧ Cond.codeWith y bytes maxL ret hh ∈ ws) ∧
  (Cond.codeWith y bytes maxL ret hh).before args s = true ∧ (Cond.initialized y.cls).before args s = true ∧ (y.cls ≠ "java/lang/invoke/MethodHandle" ∧ y.cls ≠ "java/lang/invoke/VarHandle") ∧
  (∀ sig, parseMethodDescriptor y.desc = some sig → n = sig.parameters.length) ∧ (Cond.methodLink own index y).before args s = true ∧ (Cond.static y).before args s = true
theorem vx_cwSW {own : String} {index maxL mc ms : Nat} {y : MethodName} {bytes : ByteArray} {ret : Option FieldType} {hh : List (Nat × Nat × Nat × Nat)} {Ts ws ws' : List Cond} {rm : Room} (n : Nat) (ht : ∀ w ∈ Ts, w.before args s = true) (hT : GoodIn Ts (va_wsS own index y ws)) (hw : ws = Cond.codeWith y bytes maxL ret hh :: ws') (hrc : rm.cells = mc) (hrs : rm.slots = ms)
    (hd : y.cls ≠ "java/lang/invoke/MethodHandle" ∧ y.cls ≠ "java/lang/invoke/VarHandle" ∧ (parseMethodDescriptor y.desc).map (fun d => d.parameters.length) = some n) (hR : rm.frames + 1 ≤ R.frames ∧ 8 + (maxL + 11) + rm.locals ≤ R.locals) :
    vx_CSW R s args own index y bytes maxL ret hh ws rm mc ms n := by
  have ok : ∀ w ∈ va_wsS own index y ws, w.before args s = true := fun w h => ht w (hT w h).1
  have hG : GoodIn Ts ws := fun w h => hT w (by unfold va_wsS; exact List.mem_append_right _ h)
  have hc : Cond.codeWith y bytes maxL ret hh ∈ ws := by rw [hw]; exact List.mem_cons_self
  refine ⟨⟨hrc, hrs, hR.1, hR.2, pay_in ht hG, hc⟩, ht _ (hG _ hc).1, ok _ (by simp [va_wsS]), ⟨hd.1, hd.2.1⟩, fun sig h => ?_, ok _ (by simp [va_wsS]), ok _ (by simp [va_wsS])⟩
  have h2 := hd.2.2
  rw [h] at h2
  exact (Option.some.inj h2).symm
theorem vx_callSW (X : Stand p l e R s m args below meth c T locs cells slots) (hexec : p.tables.exec = Jvm.exec) {own : String} {index : Nat} {y : MethodName} {bytes : ByteArray} {maxL : Nat} {ret : Option FieldType} {hh : List (Nat × Nat × Nat × Nat)}
    (hown : s.vm.findClass own = some m.cls) (hlink : (Cond.methodLink own index y).before args s = true) (hstat : (Cond.static y).before args s = true) (hinit : (Cond.initialized y.cls).before args s = true)
    (hcode : (Cond.codeWith y bytes maxL ret hh).before args s = true) (hy : y.cls ≠ "java/lang/invoke/MethodHandle" ∧ y.cls ≠ "java/lang/invoke/VarHandle")
    {W9 : Nat} {Pre : Pt → Array Value → Prop} {Post : Pt → Array Value → Option Value → Pt → Prop} (hK : Back l R p e below s args y 3 W9 Pre Post)
    {g : JFrame} (hg : g.method = m) (hsize : g.locals.size = c.maxLocals) {argsL rest : List Value} (hlen : ∀ sig, parseMethodDescriptor y.desc = some sig → argsL.length = sig.parameters.length)
    (hstack : g.stack = argsL.reverse ++ rest) (hW : 2 * g.monitorRoom + (rest.map fun v => v.category).sum ≤ W9) (hdg : decode c.code g.pc = .ok (.invokestatic index, 3))
    (hpre : ∀ vm₁, s.WarmedH vm₁ → Pre ⟨T.setVm vm₁, locs, cells, slots⟩ argsL.toArray) :
    ∃ (v : Option Value) (vm₁ : Vm) (B : Pt), s.WarmedH vm₁ ∧ Stand p l e R s m args below meth c B.U B.locs B.cells B.slots ∧ Post ⟨T.setVm vm₁, locs, cells, slots⟩ argsL.toArray v B ∧
      ∀ target, Steps p.tables e below (B.U.setTop { g with pc := g.pc + 3, stack := v.toList ++ rest }) target → Steps p.tables e below (T.setTop g) target := by
  obtain ⟨mk, methM, cM, hnamed, hmethM, -, -, -, -, -, -, hsigM⟩ := Cond.codeWith_spec hcode
  have hstatic : methM.isStatic = true := Cond.static_spec hnamed hmethM hstat
  obtain ⟨kP, hkP, -⟩ := className_of_methodNamed hnamed
  have hinitP : kP.init = .initialized := Cond.initialized_spec (findClass_of_methodNamed hnamed) hkP hinit
  obtain ⟨vm₁, X₁, hstep₁⟩ := X.invokestatic hexec hown hlink hnamed hmethM hstatic hkP hinitP hy (g := g) hg (argsL := argsL) (rest := rest) (hlen _ hsigM) hstack hdg
  obtain ⟨v, B, X', hpost, hsteps⟩ := hK m meth c ⟨T.setVm vm₁, locs, cells, slots⟩ { g with stack := rest } (.invokestatic index) mk argsL.toArray X₁ hg hsize hdg hW (X₁.named hnamed) (hpre vm₁ X₁.warmed)
  exact ⟨v, vm₁, B, X₁.warmed, X', hpost, fun target h => hstep₁ _ fun acts => by rw [doInvoke_state]; exact hsteps.trans h⟩
theorem vx_runSW {y : MethodName} {bytes cc : ByteArray} {maxL nL mc ms n index : Nat} {ret : Option FieldType} {hh : List (Nat × Nat × Nat × Nat)} {ws : List Cond} {rm : Room} {Pc : Array Value → State → Prop} {Qc : Array Value → State → Outcome → State → Prop} {free : Addr → Prop} {Ts : List Cond} {own : String} {As rest : List Value} {g : JFrame}
    (S : CallFix p m c cc nL s args Ts own) (hM : Met l y ws rm Pc Qc mc ms free) (cw : vx_CSW R s args own index y bytes maxL ret hh ws rm mc ms n) (hp : PreS s H Pc As)
    (hg : g.method = m) (hn : As.length = n) (hsize : g.locals.size = nL) (hstack : g.stack = As.reverse ++ rest) (hW : 2 * g.monitorRoom + (rest.map fun v => v.category).sum ≤ 8) (hdg : decode cc g.pc = .ok (.invokestatic index, 3)) (hf : cells + mc ≤ R.cells ∧ slots + ms ≤ R.slots) :
    va_Run p l e R s m args below meth c H locs cells slots mc ms g rest (Qc As.toArray) (free) := by
  obtain ⟨⟨hrc, hrs, hfr, hlo, hws, hcw⟩, hcode, hini, hy, hlen, hl, hstt⟩ := cw
  have hK : Back l R p e below s args y 3 8 (PreOf R mc ms Pc) (PostOf Qc mc ms free) := va_backW (hh := hh) (bytes := bytes) (maxL := maxL) (ret := ret) hM hp.1 hrc hrs hfr hlo hws hcw (fun a' U hW => word_at hW (Or.inl (by first | rfl | simp [Cond.onTables, Cond.keeps, Cond.steady])) hini)
  obtain ⟨hx, hb, hml, ho, -⟩ := S
  intro T hT X
  obtain ⟨v, vm₁, ⟨U', l2, c2, s2⟩, hW₁, X', ⟨g', mk, t, L, e1, e2, hq, h1, hL, h2, h3⟩, st⟩ := vx_callSW X hx (hh := hh) (bytes := bytes) (maxL := maxL) (ret := ret) ho hl hstt hini hcode hy hK hg (hsize.trans hml.symm) (argsL := As) (rest := rest) (fun sig h => hn.trans (hlen sig h)) hstack hW (by rw [hb]; exact hdg)
    (fun vm₁ hW₁ => ⟨hf.1, hf.2, hp.2 (T.setVm vm₁) hT hW₁⟩)
  dsimp only [Pt.U, Pt.locs, Pt.cells, Pt.slots] at X' e1 e2 h1 h2 h3 st
  subst h1; subst h2; subst h3
  exact ⟨v, (T.setVm vm₁).calling g' mk As.toArray, t, U', L, hT, X', hL, e1, e2, hq, st⟩
/-- not caught here, past rows that name other classes: it goes on to the caller -/
theorem vx_outP {p : Program} {l : Launch} {e : Env} {R : Room} {s : State} {m : MethodId} {args : Array Value} {below : List Frame} {meth : Method} {c : Code} {H : Heap} {locs : List Loc} {cells slots : Nat} {free : Addr → Prop} {ls : Array Slot} {rest : List Value} {Qc : Array Value → State → Outcome → State → Prop} {XC : String → State → State → Prop}
    {pc : Nat} {own E : String} {ce : Cell} {q : Addr} {mc ms : Nat} (hown : s.vm.findClass own = some m.cls) (hlocks : meth.locks = false)
    (hpass : ∀ z ∈ c.exceptionTable.toList, covers z pc = false ∨ (z.catchType ≠ 0 ∧ ∃ nm : String, (Cond.classLink own z.catchType nm).before args s = true ∧ va_Nc E nm s)) (hcell : H[q]? = some ce) (hv : ce.vm = .none) (hcl : s.vm.findClass E = some ce.cls)
    (hx : ∀ t : State, t.heap = H → s.vm.Alike t.vm → XC E s t) (hf : ∀ z ∈ locs, free z.base) (hc : cells ≤ mc) (hs : slots ≤ ms) :
    vx_W p l e R s m args below meth c H locs cells slots (vx_MQ below Qc XC args s mc ms free) (F0 m pc ls rest) q := by
  intro T hT X
  have hpl : e.platform.magicAccessors = ({} : Platform).magicAccessors := by rw [X.admits.platform]
  obtain ⟨vm', hW', X', st⟩ := X.outThrough hlocks q (g := F0 m pc ls rest) rfl rfl rfl (cell := ce) (by rw [hT]; exact hcell) (by rw [hv]; rfl)
    (by obtain ⟨k9, h9, -⟩ := Vm.findClass_spec hcl; exact ⟨k9, h9⟩) (fun z hz => by
      rcases hpass z hz with h | ⟨hz0, nm, hl1, hn1⟩
      · exact Or.inl h
      · obtain ⟨c6, hc6, hcl6⟩ := Cond.classLink_spec hown hl1 e.platform hpl
        obtain ⟨a8, b8, h1, h2, h3⟩ := hn1
        cases Option.some.inj (h1.symm.trans hcl)
        cases Option.some.inj (h2.symm.trans hc6)
        exact Or.inr ⟨hz0, _, hcl6, h3⟩)
  obtain ⟨g₀, hfr⟩ := X'.frames_eq
  have hcell9 : ((T.setVm vm').setFrames (.throwing q :: below)).heap[q]? = some ce := by
    show T.heap[q]? = some ce
    rw [hT]; exact hcell
  have hend : Ended ((T.setVm vm').setFrames (.throwing q :: below)) below (.threw q) := State.frames_setFrames _ (State.cur_lt_of_frames hfr)
  refine ⟨(T.setVm vm').setFrames (.throwing q :: below), ?_, .threw q, X'.here.running, hend, Or.inr ⟨q, rfl, E, ce, locs, hx _ hT (X'.ends _).1.alike, hcell9, hv, hcl, (X'.ends _).1, (X'.ends _).2.mono hc hs, hf⟩⟩
  rw [X.pushThrowing_eq]
  exact st
/-- a thing of a world lies in the heap -/
theorem vx_lt {D : va_G} {cl : List vw_C} {ws : va_W} {H1 : Heap} (h : va_P D cl ws H1) {k : Nat} {q : Nat × va_E} (hk : ws[k]? = some q) : q.1 < H1.size := (h k q hk).lt
end VXS
/-! ===== END ===== -/
/-! ===== BEGIN methods with a table of their own: called by a name, returning or throwing ===== -/
section VXH
/-! vx_backW, vx_callVX, vx_callSX, vx_callVW, vx_runVW, vx_runVX, vx_runSX, vx_ofWH follow the same proofs as their sisters above (Free/Laws.lean, Shelf42/LK1.lean); vx_outP calls Shelf42/NT130.lean (outThrough). -/
section
variable {l : Launch} {R : Room} {p : Program} {e : Env} {below : List Frame} {s : State} {sargs : Array Value} {y : MethodName} {len W9 : Nat}
theorem vx_backW {ws : List Cond} {rm : Room} {Pc : Array Value → State → Prop} {Qc : Array Value → State → Outcome → State → Prop} {XC : String → State → State → Prop} {mc ms : Nat} {free : Addr → Prop} {bytes : ByteArray} {maxL : Nat} {ret : Option FieldType} {hh : List (Nat × Nat × Nat × Nat)}
    (hM : vx_Met l y ws rm Pc Qc XC mc ms free) (hblind : FrameBlind Pc) (hrc : rm.cells = mc) (hrs : rm.slots = ms)
    (hframes : rm.frames + 1 ≤ R.frames) (hlocals : W9 + (maxL + 11) + rm.locals ≤ R.locals)
    (hws : ∀ w ∈ ws, ∀ a' U, s.WarmedH U.vm → w.before a' U = true) (hcode : Cond.codeWith y bytes maxL ret hh ∈ ws) (hinit : ∀ a' U, s.WarmedH U.vm → (Cond.initialized y.cls).before a' U = true) :
    vx_Back l R p e below s sargs y len W9 (PreOf R mc ms Pc) (PostOf Qc mc ms free) (vx_Post XC mc ms free) := by
  intro m meth c A g ig mk a X hg hsize hdg hW hn hp
  have h1 : (headSpec ws rm).pre.before a A.U = true := atoms_intro fun w hw => hws w hw _ _ X.warmed
  have h2 : (Cond.codeWith y bytes maxL ret hh).before a A.U = true := hws _ hcode _ _ X.warmed
  have h3 : (Cond.initialized y.cls).before a A.U = true := hinit _ _ X.warmed
  have h4 : A.cells + (headSpec ws rm).room.cells ≤ R.cells := by rw [show (headSpec ws rm).room.cells = mc from hrc]; exact hp.1
  have h5 : A.slots + (headSpec ws rm).room.slots ≤ R.slots := by rw [show (headSpec ws rm).room.slots = ms from hrs]; exact hp.2.1
  have hPc : Pc a (A.U.calling g mk a) := hblind _ _ _ _ hp.2.2
  obtain ⟨U, Ls, c0, s0⟩ := A
  dsimp only [Pt.U, Pt.locs, Pt.cells, Pt.slots] at h1 h2 h3 h4 h5 X hn hPc ⊢
  obtain ⟨m9, methY, cY, hn9, hmY, hcY, -, hlY, -⟩ := Cond.codeWith_spec h2
  cases Option.some.inj (hn9.symm.trans hn)
  obtain ⟨kY, hkY, -⟩ := className_of_methodNamed hn
  have hinitY : kY.init = .initialized := Cond.initialized_spec (findClass_of_methodNamed hn) hkY h3
  have h : At U g.method c below := by rw [hg]; exact X.here
  have hlocals9 : W9 + (maxL + 11) + (headSpec ws rm).room.locals ≤ R.locals := hlocals
  have happ : (headSpec ws rm).appliesLoose y e.platform (U.calling g mk a) = true :=
    Spec.appliesLoose_calling (g := g) h hdg hn hkY hinitY
      (X.room_calling (g := g) (R' := (headSpec ws rm).room) hsize hmY hcY hframes (by rw [hlY]; omega) h4 h5) h1
  obtain ⟨mid, hmid⟩ := h.above
  have hfr : (U.setTop g).frames = (.java g :: mid) ++ below := by rw [State.frames_setTop' g h.top, hmid]; rfl
  obtain ⟨o, s₂, hsteps, -, hend, hq⟩ := Steps.callFree hM p X.admits X.cas X.clock (acts := []) hfr happ hPc trivial
  have hq' : vx_Q Qc XC mc ms free a (U.calling g mk a) o s₂ := hq
  rw [State.frames_setTop' g h.top] at hend
  obtain ⟨g₀, hg0⟩ := Option.isSome_iff_exists.mp h.top
  obtain ⟨r, hr⟩ := State.topJava?_eq_some.mp hg0
  have hr' : (({ U with heap := s₂.heap, slotsUsed := s₂.slotsUsed } : State).setVm s₂.vm).frames = .java g₀ :: r := hr
  rcases hq' with ⟨hqc, L, hfe, hL⟩ | ⟨q, rfl, E, ce, L, hx, hce, hcv, hcl, hW₂, hsm, hL⟩
  · obtain ⟨⟨v, rfl⟩, hW₂, e2, q2, q3, q4, q5, q6⟩ := id hfe
    have e3 : s₂ = ({ (U.calling g mk a).setFrames s₂.frames with heap := s₂.heap, slotsUsed := s₂.slotsUsed } : State).setVm s₂.vm := by
      have : s₂ = ({ s₂ with vm := (U.calling g mk a).vm } : State).setVm s₂.vm := rfl
      rw [e2] at this
      exact this
    obtain ⟨c₂, i₂, len₂, hc₂, hd₂, hf₂⟩ := hend
    have hW' : U.WarmedH s₂.vm := hW₂
    have hcc : c₂ = c := by
      have h1 : s₂.code? g.method = U.code? g.method := by
        rw [State.code?_eq, State.code?_eq, hW'.alike.method?]
      exact Option.some.inj (hc₂.symm.trans (h1.trans h.code))
    subst hcc
    have hlen : len₂ = len := by rw [hdg] at hd₂; cases hd₂; rfl
    subst hlen
    have hs₂ : s₂ = (({ U with heap := s₂.heap, slotsUsed := s₂.slotsUsed } : State).setVm s₂.vm).setTop { g with pc := g.pc + len₂, stack := v.toList ++ g.stack } := by
      refine e3.trans ?_
      rw [hf₂, State.calling_eq h.top, State.setFrames_setFrames, State.setTop_of_frames _ hr', hr]
      rfl
    have hsame : U.sameButNew ({ U with heap := s₂.heap, slotsUsed := s₂.slotsUsed } : State) L mc ms := by
      refine ⟨?_, q2, q3, q4, q5, q6⟩
      obtain ⟨t, ht, -⟩ := State.frames_cons hr
      show ({ U with heap := s₂.heap, slotsUsed := s₂.slotsUsed } : State) = { U.setFrames U.frames with heap := s₂.heap, slotsUsed := s₂.slotsUsed }
      rw [State.setFrames_self ht]
    subst hg
    refine Or.inl ⟨v, ⟨(({ U with heap := s₂.heap, slotsUsed := s₂.slotsUsed } : State).setVm s₂.vm), Ls ++ L, c0 + mc, s0 + ms⟩,
      ⟨X.admits, X.cas, X.clock, X.frames, X.room, X.hears, X.method, X.code, (X.here.setHeapUsed s₂.heap s₂.slotsUsed).setVm hW'.alike, X.tail, State.WarmedH.trans X.warmed hW', X.limits, X.bytes, X.same.trans (hsame.setVm s.vm)⟩,
      ⟨g, mk, s₂, L, rfl, rfl, hqc, rfl, hL, rfl, rfl⟩, ?_⟩
    show Steps p.tables e below _ ((({ U with heap := s₂.heap, slotsUsed := s₂.slotsUsed } : State).setVm s₂.vm).setTop { g with pc := g.pc + len₂, stack := v.toList ++ g.stack })
    rw [← hs₂]
    exact hsteps
  · obtain ⟨e2, q2, q3, q4, q5, q6⟩ := id hsm
    have e3 : s₂ = ({ (U.calling g mk a).setFrames s₂.frames with heap := s₂.heap, slotsUsed := s₂.slotsUsed } : State).setVm s₂.vm := by
      have : s₂ = ({ s₂ with vm := (U.calling g mk a).vm } : State).setVm s₂.vm := rfl
      rw [e2] at this
      exact this
    have hf₂ : s₂.frames = .throwing q :: .java g :: U.frames.tail := hend
    have hW' : U.WarmedH s₂.vm := hW₂
    have hs₂ : s₂ = ((({ U with heap := s₂.heap, slotsUsed := s₂.slotsUsed } : State).setVm s₂.vm).setTop g).pushFrame (.throwing q) := by
      refine e3.trans ?_
      rw [hf₂, State.calling_eq h.top, State.setFrames_setFrames, State.pushFrame, State.frames_setTop _ hr', State.setTop_of_frames _ hr', State.setFrames_setFrames, hr]
      rfl
    have hsame : U.sameButNew ({ U with heap := s₂.heap, slotsUsed := s₂.slotsUsed } : State) L mc ms := by
      refine ⟨?_, q2, q3, q4, q5, q6⟩
      obtain ⟨t, ht, -⟩ := State.frames_cons hr
      show ({ U with heap := s₂.heap, slotsUsed := s₂.slotsUsed } : State) = { U.setFrames U.frames with heap := s₂.heap, slotsUsed := s₂.slotsUsed }
      rw [State.setFrames_self ht]
    subst hg
    refine Or.inr ⟨q, ⟨(({ U with heap := s₂.heap, slotsUsed := s₂.slotsUsed } : State).setVm s₂.vm), Ls ++ L, c0 + mc, s0 + ms⟩,
      ⟨X.admits, X.cas, X.clock, X.frames, X.room, X.hears, X.method, X.code, (X.here.setHeapUsed s₂.heap s₂.slotsUsed).setVm hW'.alike, X.tail, State.WarmedH.trans X.warmed hW', X.limits, X.bytes, X.same.trans (hsame.setVm s.vm)⟩,
      ⟨g, mk, s₂, L, E, ce, rfl, rfl, hx, hce, hcv, hcl, rfl, hL, rfl, rfl⟩, ?_⟩
    show Steps p.tables e below _ (((({ U with heap := s₂.heap, slotsUsed := s₂.slotsUsed } : State).setVm s₂.vm).setTop g).pushFrame (.throwing q))
    rw [← hs₂]
    exact hsteps
end
variable {p : Program} {l : Launch} {e : Env} {R : Room} {s : State} {m : MethodId} {args : Array Value} {below : List Frame} {meth : Method} {c : Code} {T : State} {H : Heap} {locs : List Loc} {cells slots : Nat}
theorem vx_callVX (X : Stand p l e R s m args below meth c T locs cells slots) (hexec : p.tables.exec = Jvm.exec) {own C : String} {index : Nat} {y : MethodName} {bytes : ByteArray} {maxL : Nat} {ret : Option FieldType} {hh : List (Nat × Nat × Nat × Nat)}
    (hown : s.vm.findClass own = some m.cls) (hlink : (Cond.methodLink own index y).before args s = true) (hinst : (Cond.instanceMethod y).before args s = true) (hsel : (Cond.selects C y y).before args s = true)
    (hcode : (Cond.codeWith y bytes maxL ret hh).before args s = true) (hy : y.cls ≠ "java/lang/invoke/MethodHandle" ∧ y.cls ≠ "java/lang/invoke/VarHandle")
    {W9 : Nat} {Pre : Pt → Array Value → Prop} {Post : Pt → Array Value → Option Value → Pt → Prop} {PostX : Pt → Array Value → Addr → Pt → Prop} (hK : vx_Back l R p e below s args y 3 W9 Pre Post PostX)
    {b : Addr} {cellB : Cell} (hcell : T.heap[b]? = some cellB) (hobj : cellB.vm.isStatics = false) (hcls : s.vm.findClass C = some cellB.cls)
    {g : JFrame} (hg : g.method = m) (hsize : g.locals.size = c.maxLocals) {argsL rest : List Value} (hlen : ∀ sig, parseMethodDescriptor y.desc = some sig → argsL.length = sig.parameters.length)
    (hstack : g.stack = argsL.reverse ++ .ref b :: rest) (hW : 2 * g.monitorRoom + (rest.map fun v => v.category).sum ≤ W9) (hdg : decode c.code g.pc = .ok (.invokevirtual index, 3))
    (hpre : ∀ vm₁, s.WarmedH vm₁ → Pre ⟨T.setVm vm₁, locs, cells, slots⟩ (Value.ref b :: argsL).toArray) :
    (∃ (v : Option Value) (vm₁ : Vm) (B : Pt), s.WarmedH vm₁ ∧ Stand p l e R s m args below meth c B.U B.locs B.cells B.slots ∧ Post ⟨T.setVm vm₁, locs, cells, slots⟩ (Value.ref b :: argsL).toArray v B ∧
      ∀ target, Steps p.tables e below (B.U.setTop { g with pc := g.pc + 3, stack := v.toList ++ rest }) target → Steps p.tables e below (T.setTop g) target) ∨
    (∃ (q : Addr) (vm₁ : Vm) (B : Pt), s.WarmedH vm₁ ∧ Stand p l e R s m args below meth c B.U B.locs B.cells B.slots ∧ PostX ⟨T.setVm vm₁, locs, cells, slots⟩ (Value.ref b :: argsL).toArray q B ∧
      Steps p.tables e below (T.setTop g) ((B.U.setTop { g with stack := rest }).pushFrame (.throwing q))) := by
  obtain ⟨mk, methM, hnamed, hmethM, hstM, habM⟩ := Cond.instanceMethod_spec hinst
  obtain ⟨m8, methM', cM, hn8, hmethM', -, -, -, -, -, -, hsigM⟩ := Cond.codeWith_spec hcode
  cases Option.some.inj (hn8.symm.trans hnamed)
  cases hmethM.symm.trans hmethM'
  obtain ⟨c2, r2, m2, q1, q2, q3, q4, kP, hkP, hkPi⟩ := Cond.selects_spec hsel
  cases hcls.symm.trans q1
  cases (State.methodFound?_of_named hnamed hy).symm.trans q2
  cases hnamed.symm.trans q3
  have hselP : selectMethod e.platform s.vm cellB.cls mk = .method mk := by rw [Launch.admits_selectMethod X.admits]; exact q4
  obtain ⟨vm₁, X₁, hstep₁⟩ := X.invokevirtual hexec hown hlink hnamed hmethM hstM hkP hkPi hy (a := b) (cell := cellB) hcell
    (fun z h => by rw [h] at hobj; cases hobj) hselP hmethM habM hkP hkPi (g := g) hg (argsL := argsL) (rest := rest) (hlen _ hsigM) hstack hdg
  rcases hK m meth c ⟨T.setVm vm₁, locs, cells, slots⟩ { g with stack := rest } (.invokevirtual index) mk (Value.ref b :: argsL).toArray X₁ hg hsize hdg hW (X₁.named hnamed) (hpre vm₁ X₁.warmed) with ⟨v, B, X', hpost, hsteps⟩ | ⟨q, B, X', hpost, hsteps⟩
  · exact Or.inl ⟨v, vm₁, B, X₁.warmed, X', hpost, fun target h => hstep₁ _ fun acts => by rw [doInvoke_state]; exact hsteps.trans h⟩
  · exact Or.inr ⟨q, vm₁, B, X₁.warmed, X', hpost, hstep₁ _ fun acts => by rw [doInvoke_state]; exact hsteps⟩
theorem vx_callSX (X : Stand p l e R s m args below meth c T locs cells slots) (hexec : p.tables.exec = Jvm.exec) {own : String} {index : Nat} {y : MethodName} {bytes : ByteArray} {maxL : Nat} {ret : Option FieldType} {hh : List (Nat × Nat × Nat × Nat)}
    (hown : s.vm.findClass own = some m.cls) (hlink : (Cond.methodLink own index y).before args s = true) (hstat : (Cond.static y).before args s = true) (hinit : (Cond.initialized y.cls).before args s = true)
    (hcode : (Cond.codeWith y bytes maxL ret hh).before args s = true) (hy : y.cls ≠ "java/lang/invoke/MethodHandle" ∧ y.cls ≠ "java/lang/invoke/VarHandle")
    {W9 : Nat} {Pre : Pt → Array Value → Prop} {Post : Pt → Array Value → Option Value → Pt → Prop} {PostX : Pt → Array Value → Addr → Pt → Prop} (hK : vx_Back l R p e below s args y 3 W9 Pre Post PostX)
    {g : JFrame} (hg : g.method = m) (hsize : g.locals.size = c.maxLocals) {argsL rest : List Value} (hlen : ∀ sig, parseMethodDescriptor y.desc = some sig → argsL.length = sig.parameters.length)
    (hstack : g.stack = argsL.reverse ++ rest) (hW : 2 * g.monitorRoom + (rest.map fun v => v.category).sum ≤ W9) (hdg : decode c.code g.pc = .ok (.invokestatic index, 3))
    (hpre : ∀ vm₁, s.WarmedH vm₁ → Pre ⟨T.setVm vm₁, locs, cells, slots⟩ argsL.toArray) :
    (∃ (v : Option Value) (vm₁ : Vm) (B : Pt), s.WarmedH vm₁ ∧ Stand p l e R s m args below meth c B.U B.locs B.cells B.slots ∧ Post ⟨T.setVm vm₁, locs, cells, slots⟩ argsL.toArray v B ∧
      ∀ target, Steps p.tables e below (B.U.setTop { g with pc := g.pc + 3, stack := v.toList ++ rest }) target → Steps p.tables e below (T.setTop g) target) ∨
    (∃ (q : Addr) (vm₁ : Vm) (B : Pt), s.WarmedH vm₁ ∧ Stand p l e R s m args below meth c B.U B.locs B.cells B.slots ∧ PostX ⟨T.setVm vm₁, locs, cells, slots⟩ argsL.toArray q B ∧
      Steps p.tables e below (T.setTop g) ((B.U.setTop { g with stack := rest }).pushFrame (.throwing q))) := by
  obtain ⟨mk, methM, cM, hnamed, hmethM, -, -, -, -, -, -, hsigM⟩ := Cond.codeWith_spec hcode
  have hstatic : methM.isStatic = true := Cond.static_spec hnamed hmethM hstat
  obtain ⟨kP, hkP, -⟩ := className_of_methodNamed hnamed
  have hinitP : kP.init = .initialized := Cond.initialized_spec (findClass_of_methodNamed hnamed) hkP hinit
  obtain ⟨vm₁, X₁, hstep₁⟩ := X.invokestatic hexec hown hlink hnamed hmethM hstatic hkP hinitP hy (g := g) hg (argsL := argsL) (rest := rest) (hlen _ hsigM) hstack hdg
  rcases hK m meth c ⟨T.setVm vm₁, locs, cells, slots⟩ { g with stack := rest } (.invokestatic index) mk argsL.toArray X₁ hg hsize hdg hW (X₁.named hnamed) (hpre vm₁ X₁.warmed) with ⟨v, B, X', hpost, hsteps⟩ | ⟨q, B, X', hpost, hsteps⟩
  · exact Or.inl ⟨v, vm₁, B, X₁.warmed, X', hpost, fun target h => hstep₁ _ fun acts => by rw [doInvoke_state]; exact hsteps.trans h⟩
  · exact Or.inr ⟨q, vm₁, B, X₁.warmed, X', hpost, hstep₁ _ fun acts => by rw [doInvoke_state]; exact hsteps⟩
theorem vx_callVW (X : Stand p l e R s m args below meth c T locs cells slots) (hexec : p.tables.exec = Jvm.exec) {own C : String} {index : Nat} {y : MethodName} {bytes : ByteArray} {maxL : Nat} {ret : Option FieldType} {hh : List (Nat × Nat × Nat × Nat)}
    (hown : s.vm.findClass own = some m.cls) (hlink : (Cond.methodLink own index y).before args s = true) (hinst : (Cond.instanceMethod y).before args s = true) (hsel : (Cond.selects C y y).before args s = true)
    (hcode : (Cond.codeWith y bytes maxL ret hh).before args s = true) (hy : y.cls ≠ "java/lang/invoke/MethodHandle" ∧ y.cls ≠ "java/lang/invoke/VarHandle")
    {W9 : Nat} {Pre : Pt → Array Value → Prop} {Post : Pt → Array Value → Option Value → Pt → Prop} (hK : Back l R p e below s args y 3 W9 Pre Post)
    {b : Addr} {cellB : Cell} (hcell : T.heap[b]? = some cellB) (hobj : cellB.vm.isStatics = false) (hcls : s.vm.findClass C = some cellB.cls)
    {g : JFrame} (hg : g.method = m) (hsize : g.locals.size = c.maxLocals) {argsL rest : List Value} (hlen : ∀ sig, parseMethodDescriptor y.desc = some sig → argsL.length = sig.parameters.length)
    (hstack : g.stack = argsL.reverse ++ .ref b :: rest) (hW : 2 * g.monitorRoom + (rest.map fun v => v.category).sum ≤ W9) (hdg : decode c.code g.pc = .ok (.invokevirtual index, 3))
    (hpre : ∀ vm₁, s.WarmedH vm₁ → Pre ⟨T.setVm vm₁, locs, cells, slots⟩ (Value.ref b :: argsL).toArray) :
    ∃ (v : Option Value) (vm₁ : Vm) (B : Pt), s.WarmedH vm₁ ∧ Stand p l e R s m args below meth c B.U B.locs B.cells B.slots ∧ Post ⟨T.setVm vm₁, locs, cells, slots⟩ (Value.ref b :: argsL).toArray v B ∧
      ∀ target, Steps p.tables e below (B.U.setTop { g with pc := g.pc + 3, stack := v.toList ++ rest }) target → Steps p.tables e below (T.setTop g) target := by
  obtain ⟨mk, methM, hnamed, hmethM, hstM, habM⟩ := Cond.instanceMethod_spec hinst
  obtain ⟨m8, methM', cM, hn8, hmethM', -, -, -, -, -, -, hsigM⟩ := Cond.codeWith_spec hcode
  cases Option.some.inj (hn8.symm.trans hnamed)
  cases hmethM.symm.trans hmethM'
  obtain ⟨c2, r2, m2, q1, q2, q3, q4, kP, hkP, hkPi⟩ := Cond.selects_spec hsel
  cases hcls.symm.trans q1
  cases (State.methodFound?_of_named hnamed hy).symm.trans q2
  cases hnamed.symm.trans q3
  have hselP : selectMethod e.platform s.vm cellB.cls mk = .method mk := by rw [Launch.admits_selectMethod X.admits]; exact q4
  obtain ⟨vm₁, X₁, hstep₁⟩ := X.invokevirtual hexec hown hlink hnamed hmethM hstM hkP hkPi hy (a := b) (cell := cellB) hcell
    (fun z h => by rw [h] at hobj; cases hobj) hselP hmethM habM hkP hkPi (g := g) hg (argsL := argsL) (rest := rest) (hlen _ hsigM) hstack hdg
  obtain ⟨v, B, X', hpost, hsteps⟩ := hK m meth c ⟨T.setVm vm₁, locs, cells, slots⟩ { g with stack := rest } (.invokevirtual index) mk (Value.ref b :: argsL).toArray X₁ hg hsize hdg hW (X₁.named hnamed) (hpre vm₁ X₁.warmed)
  exact ⟨v, vm₁, B, X₁.warmed, X', hpost, fun target h => hstep₁ _ fun acts => by rw [doInvoke_state]; exact hsteps.trans h⟩
abbrev vx_CVW (R : Room) (s : State) (args : Array Value) (own C : String) (index : Nat) (y : MethodName) (bytes : ByteArray) (maxL : Nat) (ret : Option FieldType) (hh : List (Nat × Nat × Nat × Nat)) (ws : List Cond) (rm : Room) (mc ms n : Nat) : Prop :=
  (rm.cells = mc ∧ rm.slots = ms ∧ rm.frames + 1 ≤ R.frames ∧ 8 + (maxL + 11) + rm.locals ≤ R.locals ∧ (∀ w ∈ ws, ∀ (a' : Array Value) (U : State), s.WarmedH U.vm → w.before a' U = true) ∧ Cond.codeWith y bytes maxL ret hh ∈ ws) ∧
  (Cond.codeWith y bytes maxL ret hh).before args s = true ∧ (Cond.initialized y.cls).before args s = true ∧ (y.cls ≠ "java/lang/invoke/MethodHandle" ∧ y.cls ≠ "java/lang/invoke/VarHandle") ∧
  (∀ sig, parseMethodDescriptor y.desc = some sig → n = sig.parameters.length) ∧ (Cond.methodLink own index y).before args s = true ∧ (Cond.instanceMethod y).before args s = true ∧ (Cond.selects C y y).before args s = true
theorem vx_cwVW {own C : String} {index maxL mc ms : Nat} {y : MethodName} {bytes : ByteArray} {ret : Option FieldType} {hh : List (Nat × Nat × Nat × Nat)} {Ts ws ws' : List Cond} {rm : Room} (n : Nat) (ht : ∀ w ∈ Ts, w.before args s = true) (hT : GoodIn Ts (wsV own index C y ws)) (hw : ws = Cond.codeWith y bytes maxL ret hh :: ws') (hrc : rm.cells = mc) (hrs : rm.slots = ms)
    (hd : y.cls = C ∧ y.cls ≠ "java/lang/invoke/MethodHandle" ∧ y.cls ≠ "java/lang/invoke/VarHandle" ∧ (parseMethodDescriptor y.desc).map (fun d => d.parameters.length) = some n) (hR : rm.frames + 1 ≤ R.frames ∧ 8 + (maxL + 11) + rm.locals ≤ R.locals) :
    vx_CVW R s args own C index y bytes maxL ret hh ws rm mc ms n := by
  obtain ⟨hC, hd⟩ := hd
  subst hC
  have ok : ∀ w ∈ wsV own index y.cls y ws, w.before args s = true := fun w h => ht w (hT w h).1
  have hG : GoodIn Ts ws := fun w h => hT w (by unfold wsV; exact List.mem_append_right _ h)
  have hc : Cond.codeWith y bytes maxL ret hh ∈ ws := by rw [hw]; exact List.mem_cons_self
  refine ⟨⟨hrc, hrs, hR.1, hR.2, pay_in ht hG, hc⟩, ht _ (hG _ hc).1, ok _ (by simp [wsV]), ⟨hd.1, hd.2.1⟩, fun sig h => ?_, ok _ (by simp [wsV]), ok _ (by simp [wsV]), ok _ (by simp [wsV])⟩
  have h2 := hd.2.2
  rw [h] at h2
  exact (Option.some.inj h2).symm
theorem vx_runVW {y : MethodName} {bytes cc : ByteArray} {maxL nL mc ms n index : Nat} {ret : Option FieldType} {hh : List (Nat × Nat × Nat × Nat)} {ws : List Cond} {rm : Room} {Pc : Array Value → State → Prop} {Qc : Array Value → State → Outcome → State → Prop} {free : Addr → Prop} {Ts : List Cond} {own C : String} {b : Addr} {As rest : List Value} {g : JFrame}
    (S : CallFix p m c cc nL s args Ts own) (hM : Met l y ws rm Pc Qc mc ms free) (cw : vx_CVW R s args own C index y bytes maxL ret hh ws rm mc ms n) (hp : PreV s H C b Pc As)
    (hg : g.method = m) (hn : As.length = n) (hsize : g.locals.size = nL) (hstack : g.stack = As.reverse ++ .ref b :: rest) (hW : 2 * g.monitorRoom + (rest.map fun v => v.category).sum ≤ 8) (hdg : decode cc g.pc = .ok (.invokevirtual index, 3)) (hf : cells + mc ≤ R.cells ∧ slots + ms ≤ R.slots) :
    va_Run p l e R s m args below meth c H locs cells slots mc ms g rest (Qc (Value.ref b :: As).toArray) free := by
  obtain ⟨⟨hrc, hrs, hfr, hlo, hws, hcw⟩, hcode, hini, hy, hlen, hl, hin, hse⟩ := cw
  have hK : Back l R p e below s args y 3 8 (PreOf R mc ms Pc) (PostOf Qc mc ms free) := va_backW (hh := hh) (bytes := bytes) (maxL := maxL) (ret := ret) hM hp.1 hrc hrs hfr hlo hws hcw (fun a' U hW => word_at hW (Or.inl (by first | rfl | simp [Cond.onTables, Cond.keeps, Cond.steady])) hini)
  obtain ⟨hx, hb, hml, ho, -⟩ := S
  obtain ⟨-, ⟨cellB, hcB, hoB, hclB⟩, hPc⟩ := hp
  intro T hT X
  obtain ⟨v, vm₁, ⟨U', l2, c2, s2⟩, hW₁, X', ⟨g', mk, t, L, e1, e2, hq, h1, hL, h2, h3⟩, st⟩ := vx_callVW X hx (C := C) (hh := hh) (bytes := bytes) (maxL := maxL) (ret := ret) ho hl hin hse hcode hy hK (by rw [hT]; exact hcB) hoB hclB hg (hsize.trans hml.symm) (argsL := As) (rest := rest) (fun sig h => hn.trans (hlen sig h)) hstack hW (by rw [hb]; exact hdg)
    (fun vm₁ hW₁ => ⟨hf.1, hf.2, hPc (T.setVm vm₁) hT hW₁⟩)
  dsimp only [Pt.U, Pt.locs, Pt.cells, Pt.slots] at X' e1 e2 h1 h2 h3 st
  subst h1; subst h2; subst h3
  exact ⟨v, (T.setVm vm₁).calling g' mk (Value.ref b :: As).toArray, t, U', L, hT, X', hL, e1, e2, hq, st⟩
section
variable {y : MethodName} {bytes cc : ByteArray} {maxL nL mc ms n index : Nat} {ret : Option FieldType} {ws : List Cond} {rm : Room} {Pc : Array Value → State → Prop} {Qc : Array Value → State → Outcome → State → Prop} {XC : String → State → State → Prop} {free : Addr → Prop} {Ts : List Cond} {own C : String} {b : Addr} {As rest : List Value} {g : JFrame}
theorem vx_runVX {hh : List (Nat × Nat × Nat × Nat)} (S : CallFix p m c cc nL s args Ts own) (hM : vx_Met l y ws rm Pc Qc XC mc ms free) (cw : vx_CVW R s args own C index y bytes maxL ret hh ws rm mc ms n) (hp : PreV s H C b Pc As)
    (hg : g.method = m) (hn : As.length = n) (hsize : g.locals.size = nL) (hstack : g.stack = As.reverse ++ .ref b :: rest) (hW : 2 * g.monitorRoom + (rest.map fun v => v.category).sum ≤ 8) (hdg : decode cc g.pc = .ok (.invokevirtual index, 3)) (hf : cells + mc ≤ R.cells ∧ slots + ms ≤ R.slots) :
    vx_Run p l e R s m args below meth c H locs cells slots mc ms g rest (Qc (Value.ref b :: As).toArray) XC free := by
  obtain ⟨⟨hrc, hrs, hfr, hlo, hws, hcw⟩, hcode, hini, hy, hlen, hl, hin, hse⟩ := cw
  have hK : vx_Back l R p e below s args y 3 8 (PreOf R mc ms Pc) (PostOf Qc mc ms free) (vx_Post XC mc ms free) := vx_backW (hh := hh) (bytes := bytes) (maxL := maxL) (ret := ret) hM hp.1 hrc hrs hfr hlo hws hcw (fun a' U hW => word_at hW (Or.inl (by first | rfl | simp [Cond.onTables, Cond.keeps, Cond.steady])) hini)
  obtain ⟨hx, hb, hml, ho, -⟩ := S
  obtain ⟨-, ⟨cellB, hcB, hoB, hclB⟩, hPc⟩ := hp
  intro T hT X
  rcases vx_callVX X hx (C := C) (hh := hh) (bytes := bytes) (maxL := maxL) (ret := ret) ho hl hin hse hcode hy hK (by rw [hT]; exact hcB) hoB hclB hg (hsize.trans hml.symm) (argsL := As) (rest := rest) (fun sig h => hn.trans (hlen sig h)) hstack hW (by rw [hb]; exact hdg)
    (fun vm₁ hW₁ => ⟨hf.1, hf.2, hPc (T.setVm vm₁) hT hW₁⟩) with ⟨v, vm₁, ⟨U', l2, c2, s2⟩, hW₁, X', ⟨g', mk, t, L, e1, e2, hq, h1, hL, h2, h3⟩, st⟩ | ⟨q, vm₁, ⟨U', l2, c2, s2⟩, hW₁, X', ⟨g', mk, t, L, E, ce, e1, e2, hq, hce, hcv, hcl, h1, hL, h2, h3⟩, st⟩
  · dsimp only [Pt.U, Pt.locs, Pt.cells, Pt.slots] at X' e1 e2 h1 h2 h3 st
    subst h1; subst h2; subst h3
    exact Or.inl ⟨v, (T.setVm vm₁).calling g' mk (Value.ref b :: As).toArray, t, U', L, hT, X', hL, e1, e2, hq, st⟩
  · dsimp only [Pt.U, Pt.locs, Pt.cells, Pt.slots] at X' e1 e2 h1 h2 h3 st hcl
    subst h1; subst h2; subst h3
    exact Or.inr ⟨q, (T.setVm vm₁).calling g' mk (Value.ref b :: As).toArray, t, U', L, E, ce, hT, X', hL, e1, e2, hq, hce, hcv, vx_cls hW₁ hcl, st⟩
theorem vx_runSX {hh : List (Nat × Nat × Nat × Nat)} (S : CallFix p m c cc nL s args Ts own) (hM : vx_Met l y ws rm Pc Qc XC mc ms free) (cw : vx_CSW R s args own index y bytes maxL ret hh ws rm mc ms n) (hp : PreS s H Pc As)
    (hg : g.method = m) (hn : As.length = n) (hsize : g.locals.size = nL) (hstack : g.stack = As.reverse ++ rest) (hW : 2 * g.monitorRoom + (rest.map fun v => v.category).sum ≤ 8) (hdg : decode cc g.pc = .ok (.invokestatic index, 3)) (hf : cells + mc ≤ R.cells ∧ slots + ms ≤ R.slots) :
    vx_Run p l e R s m args below meth c H locs cells slots mc ms g rest (Qc As.toArray) XC free := by
  obtain ⟨⟨hrc, hrs, hfr, hlo, hws, hcw⟩, hcode, hini, hy, hlen, hl, hstt⟩ := cw
  have hK : vx_Back l R p e below s args y 3 8 (PreOf R mc ms Pc) (PostOf Qc mc ms free) (vx_Post XC mc ms free) := vx_backW (hh := hh) (bytes := bytes) (maxL := maxL) (ret := ret) hM hp.1 hrc hrs hfr hlo hws hcw (fun a' U hW => word_at hW (Or.inl (by first | rfl | simp [Cond.onTables, Cond.keeps, Cond.steady])) hini)
  obtain ⟨hx, hb, hml, ho, -⟩ := S
  intro T hT X
  rcases vx_callSX X hx (hh := hh) (bytes := bytes) (maxL := maxL) (ret := ret) ho hl hstt hini hcode hy hK hg (hsize.trans hml.symm) (argsL := As) (rest := rest) (fun sig h => hn.trans (hlen sig h)) hstack hW (by rw [hb]; exact hdg)
    (fun vm₁ hW₁ => ⟨hf.1, hf.2, hp.2 (T.setVm vm₁) hT hW₁⟩) with ⟨v, vm₁, ⟨U', l2, c2, s2⟩, hW₁, X', ⟨g', mk, t, L, e1, e2, hq, h1, hL, h2, h3⟩, st⟩ | ⟨q, vm₁, ⟨U', l2, c2, s2⟩, hW₁, X', ⟨g', mk, t, L, E, ce, e1, e2, hq, hce, hcv, hcl, h1, hL, h2, h3⟩, st⟩
  · dsimp only [Pt.U, Pt.locs, Pt.cells, Pt.slots] at X' e1 e2 h1 h2 h3 st
    subst h1; subst h2; subst h3
    exact Or.inl ⟨v, (T.setVm vm₁).calling g' mk As.toArray, t, U', L, hT, X', hL, e1, e2, hq, st⟩
  · dsimp only [Pt.U, Pt.locs, Pt.cells, Pt.slots] at X' e1 e2 h1 h2 h3 st hcl
    subst h1; subst h2; subst h3
    exact Or.inr ⟨q, (T.setVm vm₁).calling g' mk As.toArray, t, U', L, E, ce, hT, X', hL, e1, e2, hq, hce, hcv, vx_cls hW₁ hcl, st⟩
end
end VXH
theorem vx_ofWH {l : Launch} {y : MethodName} {ws ws' : List Cond} {rm : Room} {Pc : Array Value → State → Prop} {Qc : Array Value → State → Outcome → State → Prop} {XC : String → State → State → Prop} {mc ms : Nat} {free : Addr → Prop} {cc : ByteArray} {maxL : Nat} {ret : Option FieldType} {hh : List (Nat × Nat × Nat × Nat)}
    (hy : plainName y.cls = true) (hw : ws = Cond.codeWith y cc maxL ret hh :: ws')
    (body : ∀ p e s m args below meth c s₁, BodyLoose p l y (headSpec ws rm) cc maxL ret e s m args below meth c s₁ → c.maxLocals = maxL → Pc args s →
      W p l e (headSpec ws rm).room s m args below meth c s.heap [] 0 0 (vx_MQ below Qc XC args s mc ms free) (entryFrame m args maxL)) : vx_Met l y ws rm Pc Qc XC mc ms free := by
  refine MetFree.of_bodyS (code := cc) (maxLocals := maxL) (ret := ret) hy ?_ ?_
  · intro args s m h hn
    obtain ⟨m9, meth, c, hn9, h1, h2, h3, h4, -, h5, h6, -⟩ := Cond.codeWith_spec (atoms_spec (ws := ws) h _ (by rw [hw]; exact List.mem_cons_self))
    cases hn.symm.trans hn9
    exact ⟨meth, c, h1, h2, h3, h4, h5, h6⟩
  · intro p e s m args below meth c s₁ B hml hP _
    have hh0 : s₁.heap = s.heap := by rw [B.state]; rfl
    obtain ⟨t, a1, o, b1, b2, b3⟩ := body p e s m args below meth c s₁ B hml hP s₁ hh0 (Stand.of_body B)
    exact ⟨t, o, a1, b1, b2, b3⟩
/-! ===== END ===== -/
/-! ===== BEGIN what the machine throws by itself, no traces kept ===== -/
section VXM
set_option maxHeartbeats 1000000 in
/-- the machine throws cls with the message text, no traces kept: from its note over the frame g to 'throwing' over the same frame (follows the proofs of Stand.vmThrowsMessage, Shelf/KitTracedVmS.lean, and Stand.throwsMessageColdBareV, StandMessageColdV.lean, without the step out of the frame) -/
theorem vx_vmAt {p : Program} {l : Launch} {e : Env} {R : Room} {s : State} {m₀ : MethodId} {args : Array Value} {below : List Frame} {meth : Method} {c : Code} {W : State} {locs : List Loc} {cells slots : Nat}
    (X : Stand p l e R s m₀ args below meth c W locs cells slots) (hexec : p.tables.exec = Jvm.exec) (htr : e.platform.stackTraces = false) {cls : String} {names : List String} {text : String}
    (hcls : Bundle.fit cls = true) (hnames : ∀ n ∈ names, Bundle.fit n = true) (hsoe : (cls == "java/lang/StackOverflowError") = false) (hoom : (cls == "java/lang/OutOfMemoryError") = false)
    (h : ∀ a ∈ Bundle.messageArmAtoms cls names, a.before args s = true)
    (hlocs : ∀ x ∈ locs, ∀ cell, s.heap[x.base]? = some cell → cell.vm.isStatics = false)
    (htext : (text == notModelled) = false) (hlimit : ¬ (stringBytes (stringToUtf16 text)).size > e.platform.arrayLengthLimit) (hheap : ¬ (stringBytes (stringToUtf16 text)).size * componentBytes .byte > e.platform.maxHeapBytes)
    {g : JFrame} (hg : g.method = m₀) (hsize : g.locals.size = c.maxLocals)
    (hRframes : names.length + 4 < R.frames) (hRlocals : 2 * g.monitorRoom + (g.stack.map fun v => v.category).sum + 10240 ≤ R.locals) (hshort : 13 * names.length + 55 ≤ 10240)
    (hRcells : cells + 3 ≤ R.cells) (hRslots : slots + ((stringBytes (stringToUtf16 text)).size + 4 + 6) ≤ R.slots) (hlocks : meth.locks = false) :
    ∃ (S : State) (q : Addr) (ce : Cell), (∀ target, Steps p.tables e below ((S.setTop g).pushFrame (.throwing q)) target → Steps p.tables e below ((W.setTop g).pushFrame (.throwNew cls (some text) none)) target) ∧
      Stand p l e R s m₀ args below meth c S locs (cells + 3) (slots + ((stringBytes (stringToUtf16 text)).size + 4 + 6)) ∧ S.heap[q]? = some ce ∧ s.vm.findClass cls = some ce.cls ∧ ce.vm = .none := by
  have howns : e.platform.frameOwnsMonitors = true := by rw [X.admits.platform]
  have hfin : e.platform.finalization = false := by rw [X.admits.platform]
  have hpl : e.platform.magicAccessors = ({} : Platform).magicAccessors := by rw [X.admits.platform]
  have a : ∀ x, x ∈ Bundle.messageArmAtoms cls names → x.holds args s none s [] = true := fun x hx => h x hx
  obtain ⟨T, Z0, L, -, Y⟩ := ThrowableC.of_atoms (args := args) howns hfin hpl (fun x hx => h x (by simp [Bundle.messageArmAtoms, hx]))
  obtain ⟨Z, M, LZ, LM, hnZ⟩ := Init0T.ofS_atoms (args := args) hpl L Y (fun x hx => h x (by simp [Bundle.messageArmAtoms, hx]))
  obtain ⟨P1, Ps, hlen, L1, hL, hP1m, hlink1, hlink⟩ := Bundle.chainS (args := args) hpl hnZ names cls hcls hnames (fun x hx => h x (by simp [Bundle.messageArmAtoms, hx]))
  obtain ⟨Zs, LZs, hn4, hfitv, hfitc⟩ := StringT.of_atoms (args := args) (fun x hx => h x (by simp [Bundle.messageArmAtoms, hx]))
  have hfound : s.vm.findClass cls = some P1.m.cls := findClass_of_methodNamed hP1m
  obtain ⟨c1, kX, hc1, hk, hord, -, -, hn6⟩ := Cond.instantiable_spec (a (.instantiable cls 6) (by simp [Bundle.messageArmAtoms]))
  cases Option.some.inj (hc1.symm.trans hfound)
  have hinit := Cond.initialized_spec hfound hk (a (.initialized cls) (by simp [Bundle.messageArmAtoms]))
  have hctor : kX.findMethod "<init>" "(Ljava/lang/String;)V" = some P1.m.idx := findMethod_of_methodNamed hP1m hk
  have hsel0 : selectMethod e.platform s.vm P1.m.cls T.fill0 = .method T.fill0 := by
    obtain ⟨c2, r2, m2, q1, q2, q3, q4, -⟩ := Cond.selects_spec (a (.selects cls Bundle.tFill0 Bundle.tFill0) (by simp [Bundle.messageArmAtoms]))
    cases Option.some.inj (q1.symm.trans hfound)
    cases Option.some.inj (q2.symm.trans (State.methodFound?_of_named Y.fill0 (by decide)))
    cases Option.some.inj (q3.symm.trans Y.fill0)
    rw [Launch.admits_selectMethod X.admits]; exact q4
  have hselF : selectMethod e.platform s.vm P1.m.cls T.fill = .method T.fill := by
    obtain ⟨c2, r2, m2, q1, q2, q3, q4, -⟩ := Cond.selects_spec (a (.selects cls Bundle.tFill Bundle.tFill) (by simp [Bundle.messageArmAtoms]))
    cases Option.some.inj (q1.symm.trans hfound)
    cases Option.some.inj (q2.symm.trans (State.methodFound?_of_named Y.fill (by decide)))
    cases Option.some.inj (q3.symm.trans Y.fill)
    rw [Launch.admits_selectMethod X.admits]; exact q4
  obtain ⟨cellS0, hcS0, hiss⟩ := Y.statics
  obtain ⟨u0, hu0⟩ := Cond.staticRefV Y.unassigned L.unassignedStatic L.statics hcS0 hiss (a (.isRef (.static Bundle.tN "UNASSIGNED_STACK" Bundle.steD)) (by simp [Bundle.messageArmAtoms]))
  obtain ⟨sen, hsen⟩ := Cond.staticRefV Y.sentinel L.sentinelStatic L.statics hcS0 hiss (a (.isRef (.static Bundle.tN "SUPPRESSED_SENTINEL" Bundle.listD)) (by simp [Bundle.messageArmAtoms]))
  obtain ⟨ci198, i198, fB, hk198, hg198, ha198, hsB, -, hnB, htB, hffB⟩ := Cond.ownField (t := .object "java/lang/Object") Y.found L.cls (by decide +kernel) (a (.fieldLink Bundle.tN 198 Bundle.tN "backtrace" "Ljava/lang/Object;") (by simp [Bundle.messageArmAtoms])) (a (.lays Bundle.tN Bundle.tN "backtrace" "Ljava/lang/Object;") (by simp [Bundle.messageArmAtoms])) e.platform hpl
  obtain ⟨cellS, hcS', heS, -, hkeep⟩ := X.same.2.2.2.2.2 T.aS cellS0 hcS0
  have hcellS : W.heap[T.aS]? = some cellS := hcS'
  have hout' : ∀ i, (⟨T.aS, i⟩ : Loc) ∉ locs := fun i hmem => by
    have := hlocs _ hmem cellS0 hcS0
    rw [hiss] at this; cases this
  have hknownS : cellS.vm ≠ .unknown := by
    rw [heS]; intro hu
    rw [show cellS0.vm = .unknown from hu] at hiss
    cases hiss
  have hvU : cellS.slots[T.fUnassigned.slot]? = some u0.v := by rw [hkeep _ (hout' _)]; exact hu0
  have hvSen : cellS.slots[T.fSentinel.slot]? = some sen.v := by rw [hkeep _ (hout' _)]; exact hsen
  obtain ⟨iM, hffM⟩ := Y.msg
  obtain ⟨tyC, dC, hdC, hdnC⟩ := Cond.laysAt hfound hk Y.cause (a (.lays cls Bundle.tN "cause" "Ljava/lang/Throwable;") (by simp [Bundle.messageArmAtoms]))
  obtain ⟨tyS, dS, hdS, hdnS⟩ := Cond.laysAt hfound hk Y.stack (a (.lays cls Bundle.tN "stackTrace" Bundle.steD) (by simp [Bundle.messageArmAtoms]))
  obtain ⟨tyP, dP, hdP, hdnP⟩ := Cond.laysAt hfound hk Y.supp (a (.lays cls Bundle.tN "suppressedExceptions" Bundle.listD) (by simp [Bundle.messageArmAtoms]))
  obtain ⟨tyM, dM, hdM, hdnM⟩ := Cond.laysAt hfound hk hffM (a (.lays cls Bundle.tN "detailMessage" "Ljava/lang/String;") (by simp [Bundle.messageArmAtoms]))
  obtain ⟨tyB, dB, hdB, hdnB⟩ := Cond.laysAt hfound hk hffB (a (.lays cls Bundle.tN "backtrace" "Ljava/lang/Object;") (by simp [Bundle.messageArmAtoms]))
  have bC := Cond.laysApart hdB hdC hdnB hdnC (by rw [hnB, Y.causeName]; decide)
  have bS := Cond.laysApart hdB hdS hdnB hdnS (by rw [hnB, Y.stackName]; decide)
  have bP := Cond.laysApart hdB hdP hdnB hdnP (by rw [hnB, Y.suppName]; decide)
  have hbk : ((preparedCellV T.toThrowableT (freshCell P1.m.cls kX) (W.heap.size + 2) u0 sen).withEntry W.cur).slots[fB.slot]? = some .null := by
    have := fresh_default (c := P1.m.cls) tyB
    rw [htB] at this
    simpa [preparedCellV, Cell.setSlot, Cell.withEntry, Array.getElem?_setIfInBounds, bC, bS, bP, bC.symm, bS.symm, bP.symm, defaultValue] using this
  have tkC := Takes.of_laid (v := .ref (W.heap.size + 2)) hk hord tyC (by rw [Y.causeType]; rfl)
  have tkS := Takes.of_laid (v := u0.v) hk hord tyS (by rw [Y.stackType]; exact fits_refV_array _ u0)
  have tkP := Takes.of_laid (v := sen.v) hk hord tyP (by rw [Y.suppType]; exact fits_refV_object _ sen)
  have tkM := Takes.of_laid (v := .ref (W.heap.size + 1)) hk hord tyM (by rw [Y.msgType]; rfl)
  have hskip : SkipFacts T e.platform s (fun u => u) u0 ((preparedCellV T.toThrowableT (freshCell P1.m.cls kX) (W.heap.size + 2) u0 sen).withEntry W.cur) := ⟨{ ci198 := ci198, i198 := i198, fBack := fB }, ⟨hk198, hg198, ha198, hsB⟩, hbk, fun _ _ => rfl⟩
  have h0 : At W g.method c below := by rw [hg]; exact X.here
  obtain ⟨hbeyond, hfreeW⟩ := X.vmMayThrow hsize (.throwNew cls (some text) none) (fun f hf => by cases hf) rfl hRlocals
  have hfr' : W.frames.length + Ps.length + 4 < (e.platform.stackLimits W.me).1 := by have := X.framesAbove hRframes; omega
  have hwd' : (stackUse (.java g :: W.frames.tail)).2 + 13 * Ps.length + 55 ≤ (e.platform.stackLimits W.me).2 := by have := X.stackAbove hsize (K := 13 * Ps.length + 55) (by omega); omega
  have hslots : W.slotsUsed + (stringBytes (stringToUtf16 text)).size + Zs.kS.instanceTypes.size + kX.instanceTypes.size ≤ e.platform.maxSlots := by
    have := X.slotsAbove hRslots
    rw [hn4, hn6]
    omega
  obtain ⟨vm', hW', st⟩ := Steps.vmThrowsMessageColdByV p (s₀ := s) (S := W) (g := g) h0 hexec T L Z LZ M LM X.warmed (t := W.cur) rfl Zs LZs P1 L1 Ps hL hlink1 hlink hsoe hoom hfound hk hinit hord hctor
    (Launch.admits_hotImplicitExceptions X.admits) hbeyond hfreeW htext hlimit hheap (X.cellsAbove hRcells) hslots (hfitv _) (hfitc _)
    (Nn := fun u => u) heapOnly_id (fun _ _ => rfl) (fun _ => rfl) (fun u x y => setCell_twice _ _ _ _) (fun _ => Nat.le_refl _) (cN := ((preparedCellV T.toThrowableT (freshCell P1.m.cls kX) (W.heap.size + 2) u0 sen).withEntry W.cur))
    hsel0 hcellS hknownS hvU tkS (fun _ hu => hu) (fun _ hu => hu) rfl rfl rfl (by simp [preparedCellV, Cell.setSlot, Cell.withEntry]) hskip (fun _ _ hA hW _ hroom _ hrest => L.nativeOff p htr hA hW hroom hrest) hselF hvSen tkC tkP tkM Y.objLocals rfl hfr' hwd'
  rw [plainBareV_eq T.toThrowableT (W.heap.size + 2) u0 sen (.ref (W.heap.size + 1)) W.cur rfl rfl] at st
  obtain ⟨-, -, w3, w4, -, -, -⟩ := withThrown_facts e.platform W Zs text P1.m.cls kX
  have X3 := ((X.pushed (bytesOf Zs.cB (stringToUtf16 text))).pushed (stringAt Zs.cS Zs.kS Zs.fv Zs.fc (stringToUtf16 text) W.heap.size)).pushed (freshCell P1.m.cls kX)
  rw [← withString_eq] at X3
  have X4 := X3.noted hW'
  have ha : (W.heap.size + 2) < ((withThrown W Zs text P1.m.cls kX).setVm vm').heap.size := by show _ < (withThrown W Zs text P1.m.cls kX).heap.size; rw [w3]; omega
  have hcell : ((withThrown W Zs text P1.m.cls kX).setVm vm').heap[(W.heap.size + 2)]? = some (freshCell P1.m.cls kX) := w4
  have X5 := ((((X4.stored hcell T.fCause.slot (.ref (W.heap.size + 2))).storedAgain ha T.fStack.slot u0.v).storedAgain ha T.fSupp.slot sen.v).storedAgain ha T.fStack.slot u0.v).storedAgain ha T.fMsg.slot (.ref (W.heap.size + 1))
  obtain ⟨g₁, hfrM⟩ := X5.frames_eq
  have hU : ((((withThrown W Zs text P1.m.cls kX).setVm vm').setCell (W.heap.size + 2) (plainBareV T.toThrowableT (freshCell P1.m.cls kX) (W.heap.size + 2) u0 sen (.ref (W.heap.size + 1)))).setTop g).pushFrame (.throwing (W.heap.size + 2)) = (((withThrown W Zs text P1.m.cls kX).setVm vm').setCell (W.heap.size + 2) (plainBareV T.toThrowableT (freshCell P1.m.cls kX) (W.heap.size + 2) u0 sen (.ref (W.heap.size + 1)))).setFrames (.throwing (W.heap.size + 2) :: .java g :: below) := by
    rw [State.pushFrame, State.frames_setTop _ hfrM, State.setTop_of_frames _ hfrM, State.setFrames_setFrames]
  have b1 : (bytesOf Zs.cB (stringToUtf16 text)).slots.size = (stringBytes (stringToUtf16 text)).size := by
    rw [(Cell.writeAll_facts _ _).2.2]; simp [bytes0]
  have b2 : (stringAt Zs.cS Zs.kS Zs.fv Zs.fc (stringToUtf16 text) W.heap.size).slots.size = 4 := by simp [string0, Cell.setSlot, hn4]
  have b3 : (freshCell P1.m.cls kX).slots.size = 6 := by simp [hn6]
  rw [b1, b2, b3] at X5
  have e9 : slots + (stringBytes (stringToUtf16 text)).size + 4 + 6 = slots + ((stringBytes (stringToUtf16 text)).size + 4 + 6) := by omega
  rw [e9] at X5
  simp only [List.append_assoc, List.cons_append, List.nil_append] at X5
  refine ⟨((withThrown W Zs text P1.m.cls kX).setVm vm').setCell (W.heap.size + 2) (plainBareV T.toThrowableT (freshCell P1.m.cls kX) (W.heap.size + 2) u0 sen (.ref (W.heap.size + 1))), W.heap.size + 2, _, fun target ht => st _ (by rw [X.tail, ← hU]; exact ht),
    X5.forget (fun y hy => ?_), heapAt_setCell_self _ ha, hfound, rfl⟩
  simp only [List.mem_cons, List.not_mem_nil, or_false] at hy
  have hge : s.heap.size ≤ W.heap.size := X.same.2.1
  rcases hy with rfl | rfl | rfl | rfl | rfl <;> exact Nat.le_trans hge (Nat.le_add_right _ 2)
set_option maxHeartbeats 1000000 in
/-- the machine throws NullPointerException, no traces kept: from its note over the frame g to 'throwing' over the same frame (follows the proof of Stand.vmThrowsNpe, Shelf42/KT2.lean; throwsNpeColdBareVAt, Shelf42/NT91.lean, called) -/
theorem vx_npeAt {p : Program} {l : Launch} {e : Env} {R : Room} {s : State} {m₀ : MethodId} {args : Array Value} {below : List Frame} {meth : Method} {c : Code} {W : State} {locs : List Loc} {cells slots : Nat}
    (X : Stand p l e R s m₀ args below meth c W locs cells slots) (hexec : p.tables.exec = Jvm.exec) (htr : e.platform.stackTraces = false) {n : Nat}
    (h : ∀ a ∈ Bundle.npeArmAtoms n, a.before args s = true)
    (hlocs : ∀ x ∈ locs, ∀ cell, s.heap[x.base]? = some cell → cell.vm.isStatics = false)
    {g : JFrame} (hg : g.method = m₀) (hsize : g.locals.size = c.maxLocals)
    (hRframes : 7 < R.frames) (hRlocals : 2 * g.monitorRoom + (g.stack.map fun v => v.category).sum + 10240 ≤ R.locals)
    (hRcells : cells + 1 ≤ R.cells) (hRslots : slots + n ≤ R.slots) (hlocks : meth.locks = false) :
    ∃ (S : State) (q : Addr) (ce : Cell), (∀ target, Steps p.tables e below ((S.setTop g).pushFrame (.throwing q)) target → Steps p.tables e below ((W.setTop g).pushFrame (.throwNew "java/lang/NullPointerException" none none)) target) ∧
      Stand p l e R s m₀ args below meth c S locs (cells + 1) (slots + n) ∧ S.heap[q]? = some ce ∧ s.vm.findClass "java/lang/NullPointerException" = some ce.cls ∧ ce.vm = .none := by
  have howns : e.platform.frameOwnsMonitors = true := by rw [X.admits.platform]
  have hfin : e.platform.finalization = false := by rw [X.admits.platform]
  have hpl : e.platform.magicAccessors = ({} : Platform).magicAccessors := by rw [X.admits.platform]
  have hpl2 : e.platform.arrayCloneIsPublic = true := by rw [X.admits.platform]
  have a' : ∀ x, x ∈ Bundle.npeArmAtoms n → x.holds args s none s [] = true := fun x hx => h x hx
  obtain ⟨T, Z, L, LZ, Y⟩ := ThrowableC.of_atoms (args := args) howns hfin hpl (fun x hx => h x (by simp [Bundle.npeArmAtoms, hx]))
  obtain ⟨N, LN, hcN, hnNF, hordN, hffS⟩ := NpeC.of_atoms (args := args) hpl hpl2 L Y (fun x hx => h x (by simp [Bundle.npeArmAtoms, hx]))
  obtain ⟨P1, L1, hP1m, hP1s⟩ := PassC.of_atoms (args := args) (s := s) hpl (X := Bundle.nN) (Y := Bundle.rN) (by decide) (by decide) LibCode.NullPointerException.Init0.at_0 LibCode.NullPointerException.Init0.at_1 LibCode.NullPointerException.Init0.at_4 (fun x hx => h x (by simp [Bundle.npeArmAtoms, hx]))
  obtain ⟨PR, LR, hPRm, hPRs⟩ := PassC.of_atoms (args := args) (s := s) hpl (X := Bundle.rN) (Y := Bundle.eN) (by decide) (by decide) LibCode.RuntimeException.Init0.at_0 LibCode.RuntimeException.Init0.at_1 LibCode.RuntimeException.Init0.at_4 (fun x hx => h x (by simp [Bundle.npeArmAtoms, hx]))
  obtain ⟨PE, LEx, hPEm, hPEs⟩ := PassC.of_atoms (args := args) (s := s) hpl (X := Bundle.eN) (Y := Bundle.tN) (by decide) (by decide) LibCode.Exception.Init0.at_0 LibCode.Exception.Init0.at_1 LibCode.Exception.Init0.at_4 (fun x hx => h x (by simp [Bundle.npeArmAtoms, hx]))
  have hfound : s.vm.findClass Bundle.nN = some P1.m.cls := findClass_of_methodNamed hP1m
  have ecls : N.cN = P1.m.cls := Option.some.inj (hcN.symm.trans hfound)
  have hk : s.vm.classes[P1.m.cls]? = some N.kN := by rw [← ecls]; exact LN.cls
  have hinit := Cond.initialized_spec hfound hk (a' (.initialized Bundle.nN) (by simp [Bundle.npeArmAtoms]))
  have hctor : N.kN.findMethod "<init>" "()V" = some P1.m.idx := findMethod_of_methodNamed hP1m hk
  obtain ⟨c1, k1, hc1, hk1, -, -, -, hn⟩ := Cond.instantiable_spec (a' (.instantiable Bundle.nN n) (by simp [Bundle.npeArmAtoms]))
  cases Option.some.inj (hc1.symm.trans hfound)
  cases Option.some.inj (hk1.symm.trans hk)
  have hfsz : (freshCell P1.m.cls N.kN).slots.size = n := by simp [hn]
  have hlink1 : P1.sup = PR.m := Option.some.inj (hP1s.symm.trans hPRm)
  have hlinkR : PR.sup = PE.m := Option.some.inj (hPRs.symm.trans hPEm)
  have hlinkE : PE.sup = Z.m T.toThrowableT := Option.some.inj (hPEs.symm.trans Y.init0)
  have hLs : ∀ P, P ∈ [PR, PE] → P.Links0 e.platform s := fun P hP => by
    simp only [List.mem_cons, List.not_mem_nil, or_false] at hP
    rcases hP with rfl | rfl
    · exact LR
    · exact LEx
  have hsel0 : selectMethod e.platform s.vm P1.m.cls T.fill0 = .method T.fill0 := by
    obtain ⟨c2, r2, m2, q1, q2, q3, q4, -⟩ := Cond.selects_spec (a' (.selects Bundle.nN Bundle.tFill0 Bundle.tFill0) (by simp [Bundle.npeArmAtoms]))
    cases Option.some.inj (q1.symm.trans hfound)
    cases Option.some.inj (q2.symm.trans (State.methodFound?_of_named Y.fill0 (by decide)))
    cases Option.some.inj (q3.symm.trans Y.fill0)
    rw [Launch.admits_selectMethod X.admits]; exact q4
  have hselF : selectMethod e.platform s.vm P1.m.cls T.fill = .method N.fill := by
    obtain ⟨c2, r2, m2, q1, q2, q3, q4, -⟩ := Cond.selects_spec (a' (.selects Bundle.nN Bundle.tFill Bundle.nFill) (by simp [Bundle.npeArmAtoms]))
    cases Option.some.inj (q1.symm.trans hfound)
    cases Option.some.inj (q2.symm.trans (State.methodFound?_of_named Y.fill (by decide)))
    cases Option.some.inj (q3.symm.trans hnNF)
    rw [Launch.admits_selectMethod X.admits]; exact q4
  obtain ⟨cellS0, hcS0, hiss⟩ := Y.statics
  obtain ⟨u0, hu0⟩ := Cond.staticRefV Y.unassigned L.unassignedStatic L.statics hcS0 hiss (a' (.isRef (.static Bundle.tN "UNASSIGNED_STACK" Bundle.steD)) (by simp [Bundle.npeArmAtoms]))
  obtain ⟨sen, hsen⟩ := Cond.staticRefV Y.sentinel L.sentinelStatic L.statics hcS0 hiss (a' (.isRef (.static Bundle.tN "SUPPRESSED_SENTINEL" Bundle.listD)) (by simp [Bundle.npeArmAtoms]))
  obtain ⟨ci198, i198, fB, hk198, hg198, ha198, hsB, -, hnB, htB, hffB⟩ := Cond.ownField (t := .object "java/lang/Object") Y.found L.cls (by decide +kernel) (a' (.fieldLink Bundle.tN 198 Bundle.tN "backtrace" Bundle.objD) (by simp [Bundle.npeArmAtoms])) (a' (.lays Bundle.tN Bundle.tN "backtrace" Bundle.objD) (by simp [Bundle.npeArmAtoms])) e.platform hpl
  obtain ⟨cellS, hcS', heS, -, hkeep⟩ := X.same.2.2.2.2.2 T.aS cellS0 hcS0
  have hcellS : W.heap[T.aS]? = some cellS := hcS'
  have hout' : ∀ i, (⟨T.aS, i⟩ : Loc) ∉ locs := fun i hmem => by
    have := hlocs _ hmem cellS0 hcS0
    rw [hiss] at this; cases this
  have hknownS : cellS.vm ≠ .unknown := by
    rw [heS]; intro hu
    rw [show cellS0.vm = .unknown from hu] at hiss
    cases hiss
  have hvU : cellS.slots[T.fUnassigned.slot]? = some u0.v := by rw [hkeep _ (hout' _)]; exact hu0
  have hvSen : cellS.slots[T.fSentinel.slot]? = some sen.v := by rw [hkeep _ (hout' _)]; exact hsen
  obtain ⟨tyC, dC, hdC, hdnC⟩ := Cond.laysAt hfound hk Y.cause (a' (.lays Bundle.nN Bundle.tN "cause" "Ljava/lang/Throwable;") (by simp [Bundle.npeArmAtoms]))
  obtain ⟨tyS, dS, hdS, hdnS⟩ := Cond.laysAt hfound hk Y.stack (a' (.lays Bundle.nN Bundle.tN "stackTrace" Bundle.steD) (by simp [Bundle.npeArmAtoms]))
  obtain ⟨tyP, dP, hdP, hdnP⟩ := Cond.laysAt hfound hk Y.supp (a' (.lays Bundle.nN Bundle.tN "suppressedExceptions" Bundle.listD) (by simp [Bundle.npeArmAtoms]))
  obtain ⟨tyX, dX, hdX, hdnX⟩ := Cond.laysAt hfound hk hffS (a' (.lays Bundle.nN Bundle.nN "extendedMessageState" "I") (by simp [Bundle.npeArmAtoms, Bundle.npeAtoms]))
  obtain ⟨hnX, htX⟩ := State.fieldFound?_type hffS (t := .int) (by decide +kernel)
  have xC := Cond.laysApart hdC hdX hdnC hdnX (by rw [hnX, Y.causeName]; decide)
  have xS := Cond.laysApart hdS hdX hdnS hdnX (by rw [hnX, Y.stackName]; decide)
  have xP := Cond.laysApart hdP hdX hdnP hdnX (by rw [hnX, Y.suppName]; decide)
  have hv0 : (freshCell P1.m.cls N.kN).slots[N.fState.slot]? = some (.int 0) := by
    have := fresh_default (c := P1.m.cls) tyX
    rw [htX] at this; exact this
  obtain ⟨tyB, dB, hdB, hdnB⟩ := Cond.laysAt hfound hk hffB (a' (.lays Bundle.nN Bundle.tN "backtrace" Bundle.objD) (by simp [Bundle.npeArmAtoms]))
  have bC := Cond.laysApart hdB hdC hdnB hdnC (by rw [hnB, Y.causeName]; decide)
  have bS := Cond.laysApart hdB hdS hdnB hdnS (by rw [hnB, Y.stackName]; decide)
  have bP := Cond.laysApart hdB hdP hdnB hdnP (by rw [hnB, Y.suppName]; decide)
  have bX := Cond.laysApart hdB hdX hdnB hdnX (by rw [hnB, hnX]; decide)
  have hbk : ((npeCell N.toNpeT (preparedCellV T.toThrowableT (freshCell P1.m.cls N.kN) W.heap.size u0 sen) W.cur).withEntry W.cur).slots[fB.slot]? = some .null := by
    have := fresh_default (c := P1.m.cls) tyB
    rw [htB] at this
    simpa [npeCell, preparedCellV, Cell.setSlot, Cell.withEntry, Array.getElem?_setIfInBounds, bC, bS, bP, bX, bC.symm, bS.symm, bP.symm, bX.symm, defaultValue] using this
  have tkC := Takes.of_laid (v := .ref W.heap.size) hk hordN tyC (by rw [Y.causeType]; rfl)
  have tkS := Takes.of_laid (v := u0.v) hk hordN tyS (by rw [Y.stackType]; exact fits_refV_array _ u0)
  have tkP := Takes.of_laid (v := sen.v) hk hordN tyP (by rw [Y.suppType]; exact fits_refV_object _ sen)
  have tkX := Takes.of_laid (v := .int 1) hk hordN tyX (by rw [htX]; rfl)
  have hskip : SkipFacts T e.platform s (fun u => u) u0 ((npeCell N.toNpeT (preparedCellV T.toThrowableT (freshCell P1.m.cls N.kN) W.heap.size u0 sen) W.cur).withEntry W.cur) := ⟨{ ci198 := ci198, i198 := i198, fBack := fB }, ⟨hk198, hg198, ha198, hsB⟩, hbk, fun _ _ => rfl⟩
  obtain ⟨vm', X3, st, -⟩ := X.throwsNpeColdBareVAt hexec hg hsize T L Z LZ N LN P1 L1 [PR, PE] hLs hlink1 ⟨hlinkR, hlinkE, trivial⟩ hfound hk hinit hordN hctor hsel0 hselF hcellS hknownS hvU hvSen
    hv0 xC xS xP tkC tkS tkP tkX Y.objLocals hskip (fun _ _ hA hW _ hroom _ hrest => L.nativeOff p htr hA hW hroom hrest) (by simpa using hRframes) hRlocals (by simp) hRcells (by rw [hn]; exact hRslots)
  have hlt : W.heap.size < ((W.pushCell (freshCell P1.m.cls N.kN)).setVm vm').heap.size := by
    show W.heap.size < (W.pushCell (freshCell P1.m.cls N.kN)).heap.size
    rw [State.heap_size_pushCell]; omega
  rw [hfsz] at X3
  obtain ⟨g₁, hfrM⟩ := X3.frames_eq
  have hU : ((((W.pushCell (freshCell P1.m.cls N.kN)).setVm vm').setCell W.heap.size (npeBareV T.toThrowableT N.toNpeT (freshCell P1.m.cls N.kN) W.heap.size u0 sen)).setTop g).pushFrame (.throwing W.heap.size) = (((W.pushCell (freshCell P1.m.cls N.kN)).setVm vm').setCell W.heap.size (npeBareV T.toThrowableT N.toNpeT (freshCell P1.m.cls N.kN) W.heap.size u0 sen)).setFrames (.throwing W.heap.size :: .java g :: below) := by
    rw [State.pushFrame, State.frames_setTop _ hfrM, State.setTop_of_frames _ hfrM, State.setFrames_setFrames]
  refine ⟨_, W.heap.size, _, fun target ht => st.trans (by rw [← hU]; exact ht), X3.forget (fun y hy => ?_), heapAt_setCell_self _ hlt, hfound, rfl⟩
  simp only [List.mem_cons, List.not_mem_nil, or_false] at hy
  have hge : s.heap.size ≤ W.heap.size := X.same.2.1
  rcases hy with rfl | rfl | rfl | rfl | rfl <;> exact hge
/-- the words of a machine's NullPointerException, but the four that speak of the heap -/
def vx_atN (n : Nat) : List Cond := (Bundle.npeArmAtoms n).filter vx_no
/-- the words of a machine's throw with a message, but the four that speak of the heap -/
def vx_atM (X : String) (names : List String) : List Cond := (Bundle.messageArmAtoms X names).filter vx_no
section
variable {p : Program} {l : Launch} {e : Env} {R : Room} {s : State} {m : MethodId} {args : Array Value} {below : List Frame} {meth : Method} {c : Code} {H : Heap} {locs : List Loc} {cells slots : Nat}
/-- a frame seen from a rebased start, seen from the first start again -/
theorem vx_back9 {T S : State} {R' : Room} {k n : Nat} (X : Stand p l e R s m args below meth c T locs cells slots) (Y : Stand p l e R' ((T.setVm s.vm).setFrames (.invoking m args :: below)) m args below meth c T [] 0 0) (Z : Stand p l e R' ((T.setVm s.vm).setFrames (.invoking m args :: below)) m args below meth c S [] k n) :
    Stand p l e R s m args below meth c S locs (cells + k) (slots + n) := by
  have hW0 : s.WarmedH ((T.setVm s.vm).setFrames (.invoking m args :: below)).vm := State.WarmedH.refl s
  refine { admits := X.admits, cas := X.cas, clock := X.clock, frames := X.frames, room := X.room, hears := X.hears, method := X.method, code := X.code, here := Z.here, tail := Z.tail, warmed := State.WarmedH.trans hW0 Z.warmed, limits := Z.limits.trans (Y.limits.symm.trans X.limits), bytes := Z.bytes.trans (Y.bytes.symm.trans X.bytes), same := ?_ }
  obtain ⟨e1, e2⟩ := Z.same
  rw [State.setFrames_setFrames] at e1
  have h2 : (T.setVm s.vm).sameButNew (S.setVm s.vm) [] k n := ⟨e1, e2⟩
  have h3 := X.same.trans h2
  rw [List.append_nil] at h3
  exact h3
/-- from the machine's note that E is thrown here with this text -/
def vx_Note (p : Program) (l : Launch) (e : Env) (R : Room) (s : State) (m : MethodId) (args : Array Value) (below : List Frame) (meth : Method) (c : Code) (H : Heap) (locs : List Loc) (cells slots : Nat) (Q : State → Prop) (g : JFrame) (E text : String) : Prop :=
  ∀ T : State, T.heap = H → Stand p l e R s m args below meth c T locs cells slots → ∃ t, Steps p.tables e below ((T.setTop g).pushFrame (.throwNew E (some text) none)) t ∧ Q t
theorem vx_vm {pc : Nat} {ls : Array Slot} {rest : List Value} {Q : State → Prop} (hexec : p.tables.exec = Jvm.exec) (hl : l.stackTraces = false) {cls text : String} {names : List String} {nb : Nat} {A : Nat → Prop}
    (hcls : Bundle.fit cls = true) (hnames : ∀ n ∈ names, Bundle.fit n = true) (hsoe : (cls == "java/lang/StackOverflowError") = false) (hoom : (cls == "java/lang/OutOfMemoryError") = false)
    (hat : ∀ w ∈ vx_atM cls names, w.before args s = true) (hgood : ∀ w ∈ vx_atM cls names, vx_ot w = true)
    (hU : vx_Zq Bundle.tN "UNASSIGNED_STACK" Bundle.steD A s s.heap) (hN : vx_Zq Bundle.tN "SUPPRESSED_SENTINEL" Bundle.listD A s s.heap) (hS : va_S A s.heap H locs) (hsize : ls.size = c.maxLocals)
    (htext : (text == notModelled) = false) (hnb : (stringBytes (stringToUtf16 text)).size ≤ nb) (hnb1 : nb ≤ 1000)
    (hRframes : names.length + 4 < R.frames) (hRlocals : (rest.map fun v => v.category).sum + 10240 ≤ R.locals) (hshort : 13 * names.length + 55 ≤ 10240) (hRcells : cells + 3 ≤ R.cells) (hRslots : slots + (nb + 10) ≤ R.slots) (hlocks : meth.locks = false)
    (k : ∀ (H1 : Heap) (q9 : Addr) (ce : Cell), H.size ≤ H1.size → (∀ q : Nat, q < H.size → H1[q]? = H[q]?) → va_S A s.heap H1 locs → H1[q9]? = some ce → ce.vm = .none → s.vm.findClass cls = some ce.cls → vx_W p l e R s m args below meth c H1 locs (cells + 3) (slots + (nb + 10)) Q (F0 m pc ls rest) q9) :
    vx_Note p l e R s m args below meth c H locs cells slots Q (F0 m pc ls rest) cls text := by
  intro T hT X
  have htr : e.platform.stackTraces = false := (show e.platform.stackTraces = l.stackTraces by rw [X.admits.platform]).trans hl
  have Y := vx_rebase X (R' := { frames := R.frames, locals := R.locals, cells := 3, slots := nb + 10 }) (Nat.le_refl _) (Nat.le_refl _) hRcells hRslots
  have hhp : ((T.setVm s.vm).setFrames (.invoking m args :: below)).heap = H := hT
  have hW0 : s.WarmedH ((T.setVm s.vm).setFrames (.invoking m args :: below)).vm := State.WarmedH.refl s
  have hat' : ∀ w ∈ vx_atM cls names, w.before args ((T.setVm s.vm).setFrames (.invoking m args :: below)) = true := fun w hw => vx_ot_at hW0 rfl (hgood w hw) (hat w hw)
  have hU' : vx_Zq Bundle.tN "UNASSIGNED_STACK" Bundle.steD A ((T.setVm s.vm).setFrames (.invoking m args :: below)) ((T.setVm s.vm).setFrames (.invoking m args :: below)).heap := by rw [hhp]; exact vx_Zq.moved hW0.alike (hU.kept hS.2.1)
  have hN' : vx_Zq Bundle.tN "SUPPRESSED_SENTINEL" Bundle.listD A ((T.setVm s.vm).setFrames (.invoking m args :: below)) ((T.setVm s.vm).setFrames (.invoking m args :: below)).heap := by rw [hhp]; exact vx_Zq.moved hW0.alike (hN.kept hS.2.1)
  obtain ⟨S, q, ce, st, Z, hce, hcl', hv⟩ := vx_vmAt Y hexec htr (cls := cls) (names := names) (text := text) hcls hnames hsoe hoom (vx_own hat' (vx_isRefq hU'.1) (vx_isRefq hN'.1) hU'.2.word hN'.2.word) (fun x hx => nomatch hx) htext
    (by rw [Launch.admits_arrayLengthLimit X.admits]; omega) (by rw [Launch.admits_maxHeapBytes X.admits]; simp only [componentBytes]; omega)
    (g := F0 m pc ls rest) rfl hsize hRframes (by show 2 * 0 + (rest.map fun v => v.category).sum + 10240 ≤ R.locals; omega) hshort (by show 0 + 3 ≤ 3; omega) (by show 0 + (_ + 4 + 6) ≤ nb + 10; omega) hlocks
  obtain ⟨f1, f2⟩ := vx_frame Z.same
  have f1' : H.size ≤ S.heap.size := by rw [← hT]; exact f1
  have f2' : ∀ q : Nat, q < H.size → S.heap[q]? = H[q]? := fun q hq => by
    rw [← hT]
    exact f2 q (by rw [← hT] at hq; exact hq) (fun z hz => nomatch hz)
  have X5 := vx_back9 X Y Z
  have X6 : Stand p l e R s m args below meth c S locs (cells + 3) (slots + (nb + 10)) := { X5 with same := X5.same.mono (by omega) (by omega) }
  obtain ⟨t, a1, b1⟩ := k S.heap q ce f1' f2' ⟨Nat.le_trans hS.1 f1', fun q h1 h2 => (f2' q (Nat.lt_of_lt_of_le h1 hS.1)).trans (hS.2.1 q h1 h2), hS.2.2⟩ hce hv hcl' S rfl X6
  exact ⟨t, st t a1, b1⟩
/-- from the machine's note that NullPointerException is thrown here -/
def vx_NoteN (p : Program) (l : Launch) (e : Env) (R : Room) (s : State) (m : MethodId) (args : Array Value) (below : List Frame) (meth : Method) (c : Code) (H : Heap) (locs : List Loc) (cells slots : Nat) (Q : State → Prop) (g : JFrame) : Prop :=
  ∀ T : State, T.heap = H → Stand p l e R s m args below meth c T locs cells slots → ∃ t, Steps p.tables e below ((T.setTop g).pushFrame (.throwNew "java/lang/NullPointerException" none none)) t ∧ Q t
theorem vx_npe {pc : Nat} {ls : Array Slot} {rest : List Value} {Q : State → Prop} (hexec : p.tables.exec = Jvm.exec) (hl : l.stackTraces = false) {nb : Nat} {A : Nat → Prop}
    (hat : ∀ w ∈ vx_atN nb, w.before args s = true) (hgood : ∀ w ∈ vx_atN nb, vx_ot w = true)
    (hU : vx_Zq Bundle.tN "UNASSIGNED_STACK" Bundle.steD A s s.heap) (hN : vx_Zq Bundle.tN "SUPPRESSED_SENTINEL" Bundle.listD A s s.heap) (hS : va_S A s.heap H locs) (hsize : ls.size = c.maxLocals)
    (hRframes : 7 < R.frames) (hRlocals : (rest.map fun v => v.category).sum + 10240 ≤ R.locals) (hRcells : cells + 1 ≤ R.cells) (hRslots : slots + nb ≤ R.slots) (hlocks : meth.locks = false)
    (k : ∀ (H1 : Heap) (q9 : Addr) (ce : Cell), H.size ≤ H1.size → (∀ q : Nat, q < H.size → H1[q]? = H[q]?) → va_S A s.heap H1 locs → H1[q9]? = some ce → ce.vm = .none → s.vm.findClass "java/lang/NullPointerException" = some ce.cls → vx_W p l e R s m args below meth c H1 locs (cells + 1) (slots + nb) Q (F0 m pc ls rest) q9) :
    vx_NoteN p l e R s m args below meth c H locs cells slots Q (F0 m pc ls rest) := by
  intro T hT X
  have htr : e.platform.stackTraces = false := (show e.platform.stackTraces = l.stackTraces by rw [X.admits.platform]).trans hl
  have Y := vx_rebase X (R' := { frames := R.frames, locals := R.locals, cells := 1, slots := nb }) (Nat.le_refl _) (Nat.le_refl _) hRcells hRslots
  have hhp : ((T.setVm s.vm).setFrames (.invoking m args :: below)).heap = H := hT
  have hW0 : s.WarmedH ((T.setVm s.vm).setFrames (.invoking m args :: below)).vm := State.WarmedH.refl s
  have hat' : ∀ w ∈ vx_atN nb, w.before args ((T.setVm s.vm).setFrames (.invoking m args :: below)) = true := fun w hw => vx_ot_at hW0 rfl (hgood w hw) (hat w hw)
  have hU' : vx_Zq Bundle.tN "UNASSIGNED_STACK" Bundle.steD A ((T.setVm s.vm).setFrames (.invoking m args :: below)) ((T.setVm s.vm).setFrames (.invoking m args :: below)).heap := by rw [hhp]; exact vx_Zq.moved hW0.alike (hU.kept hS.2.1)
  have hN' : vx_Zq Bundle.tN "SUPPRESSED_SENTINEL" Bundle.listD A ((T.setVm s.vm).setFrames (.invoking m args :: below)) ((T.setVm s.vm).setFrames (.invoking m args :: below)).heap := by rw [hhp]; exact vx_Zq.moved hW0.alike (hN.kept hS.2.1)
  obtain ⟨S, q, ce, st, Z, hce, hcl', hv⟩ := vx_npeAt Y hexec htr (n := nb) (vx_own hat' (vx_isRefq hU'.1) (vx_isRefq hN'.1) hU'.2.word hN'.2.word) (fun x hx => nomatch hx)
    (g := F0 m pc ls rest) rfl hsize hRframes (by show 2 * 0 + (rest.map fun v => v.category).sum + 10240 ≤ R.locals; omega) (by show 0 + 1 ≤ 1; omega) (by show 0 + nb ≤ nb; omega) hlocks
  obtain ⟨f1, f2⟩ := vx_frame Z.same
  have f1' : H.size ≤ S.heap.size := by rw [← hT]; exact f1
  have f2' : ∀ q : Nat, q < H.size → S.heap[q]? = H[q]? := fun q hq => by
    rw [← hT]
    exact f2 q (by rw [← hT] at hq; exact hq) (fun z hz => nomatch hz)
  have X5 := vx_back9 X Y Z
  have X6 : Stand p l e R s m args below meth c S locs (cells + 1) (slots + nb) := { X5 with same := X5.same.mono (by omega) (by omega) }
  obtain ⟨t, a1, b1⟩ := k S.heap q ce f1' f2' ⟨Nat.le_trans hS.1 f1', fun q h1 h2 => (f2' q (Nat.lt_of_lt_of_le h1 hS.1)).trans (hS.2.1 q h1 h2), hS.2.2⟩ hce hv hcl' S rfl X6
  exact ⟨t, st t a1, b1⟩
variable {Q : State → Prop} {cc : ByteArray} {pc : Nat} {ls : Array Slot} {rest : List Value}
theorem vx_idivZ (hexec : p.tables.exec = Jvm.exec) (hb : c.code = cc) {a b : Int32} (h0 : b = 0) (d : decode cc pc = .ok (.idiv, 1)) (k : vx_Note p l e R s m args below meth c H locs cells slots Q (F0 m pc ls rest) "java/lang/ArithmeticException" "/ by zero") :
    W p l e R s m args below meth c H locs cells slots Q (F0 m pc ls (.int b :: .int a :: rest)) := by
  intro T hT X
  obtain ⟨t, st, q⟩ := k T hT X
  exact ⟨t, X.idivZero hexec (g := F0 m pc ls (.int b :: .int a :: rest)) rfl (a := a) (rest := rest) (by rw [h0]) (by rw [hb]; exact d) t st, q⟩
theorem vx_iremZ (hexec : p.tables.exec = Jvm.exec) (hb : c.code = cc) {a b : Int32} (h0 : b = 0) (d : decode cc pc = .ok (.irem, 1)) (k : vx_Note p l e R s m args below meth c H locs cells slots Q (F0 m pc ls rest) "java/lang/ArithmeticException" "/ by zero") :
    W p l e R s m args below meth c H locs cells slots Q (F0 m pc ls (.int b :: .int a :: rest)) := by
  intro T hT X
  obtain ⟨t, st, q⟩ := k T hT X
  exact ⟨t, X.iremZero hexec (g := F0 m pc ls (.int b :: .int a :: rest)) rfl (a := a) (rest := rest) (by rw [h0]) (by rw [hb]; exact d) t st, q⟩
theorem vx_ldivZ (hexec : p.tables.exec = Jvm.exec) (hb : c.code = cc) {a b : Int64} (h0 : b = 0) (d : decode cc pc = .ok (.ldiv, 1)) (k : vx_Note p l e R s m args below meth c H locs cells slots Q (F0 m pc ls rest) "java/lang/ArithmeticException" "/ by zero") :
    W p l e R s m args below meth c H locs cells slots Q (F0 m pc ls (.long b :: .long a :: rest)) := by
  intro T hT X
  obtain ⟨t, st, q⟩ := k T hT X
  exact ⟨t, X.ldivZero hexec (g := F0 m pc ls (.long b :: .long a :: rest)) rfl (a := a) (rest := rest) (by rw [h0]) (by rw [hb]; exact d) t st, q⟩
theorem vx_lremZ (hexec : p.tables.exec = Jvm.exec) (hb : c.code = cc) {a b : Int64} (h0 : b = 0) (d : decode cc pc = .ok (.lrem, 1)) (k : vx_Note p l e R s m args below meth c H locs cells slots Q (F0 m pc ls rest) "java/lang/ArithmeticException" "/ by zero") :
    W p l e R s m args below meth c H locs cells slots Q (F0 m pc ls (.long b :: .long a :: rest)) := by
  intro T hT X
  obtain ⟨t, st, q⟩ := k T hT X
  exact ⟨t, X.lremZero hexec (g := F0 m pc ls (.long b :: .long a :: rest)) rfl (a := a) (rest := rest) (by rw [h0]) (by rw [hb]; exact d) t st, q⟩
theorem vx_ialdZ {D : va_G} {cl : List vw_C} {ws : va_W} {tys : List (ClassId × FieldType)} {a : Nat} (hexec : p.tables.exec = Jvm.exec) (hb : c.code = cc) (hK : va_K D cl tys s) (hP : va_P D cl ws H) (q0 t0 : Nat) {cA : ClassId} {n : Nat} {f : Nat → Int32} (ha : ws[q0]? = some (a, .inl (cA, n, .inl f))) (ht : tys[t0]? = some (cA, .int)) {i : Int32} (hout : ¬ vp_in i n) (hdg : decode cc pc = .ok (.iaload, 1))
    (k : ∀ tx : String, tx = (toString "Index " ++ toString i ++ toString " out of bounds for length " ++ toString n : String) → vx_Note p l e R s m args below meth c H locs cells slots Q (F0 m pc ls rest) "java/lang/ArrayIndexOutOfBoundsException" tx) : W p l e R s m args below meth c H locs cells slots Q (F0 m pc ls (.int i :: .ref a :: rest)) := by
  intro T hT X
  obtain ⟨t, st, q⟩ := k _ rfl T hT X
  refine ⟨t, ?_, q⟩
  have h1 := X.ialoadOut hexec (by rw [hT]; exact hP q0 _ ha) ((hK.2 t0 _ ht).1 n (fun j => .int (f j))) (j := i) (by show (i < 0 ∨ (arrV _ _ _).slots.size ≤ _); rw [arrV_size]; exact Classical.byContradiction hout) (g := F0 m pc ls (.int i :: .ref a :: rest)) rfl (rest := rest) rfl (by rw [hb]; exact hdg) t
  simp only [arrV_size] at h1
  exact h1 st
theorem vx_iastZ {D : va_G} {cl : List vw_C} {ws : va_W} {tys : List (ClassId × FieldType)} {a : Nat} (hexec : p.tables.exec = Jvm.exec) (hb : c.code = cc) (hK : va_K D cl tys s) (hP : va_P D cl ws H) (q0 t0 : Nat) {cA : ClassId} {n : Nat} {f : Nat → Int32} (ha : ws[q0]? = some (a, .inl (cA, n, .inl f))) (ht : tys[t0]? = some (cA, .int)) {i : Int32} {x : Int32} (hout : ¬ vp_in i n) (hdg : decode cc pc = .ok (.iastore, 1))
    (k : ∀ tx : String, tx = (toString "Index " ++ toString i ++ toString " out of bounds for length " ++ toString n : String) → vx_Note p l e R s m args below meth c H locs cells slots Q (F0 m pc ls rest) "java/lang/ArrayIndexOutOfBoundsException" tx) : W p l e R s m args below meth c H locs cells slots Q (F0 m pc ls (.int x :: .int i :: .ref a :: rest)) := by
  intro T hT X
  obtain ⟨t, st, q⟩ := k _ rfl T hT X
  refine ⟨t, ?_, q⟩
  have h1 := X.iastoreOut hexec (by rw [hT]; exact hP q0 _ ha) ((hK.2 t0 _ ht).1 n (fun j => .int (f j))) (j := i) (by show (i < 0 ∨ (arrV _ _ _).slots.size ≤ _); rw [arrV_size]; exact Classical.byContradiction hout) (g := F0 m pc ls (.int x :: .int i :: .ref a :: rest)) rfl (rest := rest) rfl (by rw [hb]; exact hdg) t
  simp only [arrV_size] at h1
  exact h1 st
theorem vx_baldZ {D : va_G} {cl : List vw_C} {ws : va_W} {tys : List (ClassId × FieldType)} {a : Nat} (hexec : p.tables.exec = Jvm.exec) (hb : c.code = cc) (hK : va_K D cl tys s) (hP : va_P D cl ws H) (q0 t0 : Nat) {cA : ClassId} {n : Nat} {f : Nat → Int32} (ha : ws[q0]? = some (a, .inl (cA, n, .inl f))) (ht : tys[t0]? = some (cA, .byte)) {i : Int32} (hout : ¬ vp_in i n) (hdg : decode cc pc = .ok (.baload, 1))
    (k : ∀ tx : String, tx = (toString "Index " ++ toString i ++ toString " out of bounds for length " ++ toString n : String) → vx_Note p l e R s m args below meth c H locs cells slots Q (F0 m pc ls rest) "java/lang/ArrayIndexOutOfBoundsException" tx) : W p l e R s m args below meth c H locs cells slots Q (F0 m pc ls (.int i :: .ref a :: rest)) := by
  intro T hT X
  obtain ⟨t, st, q⟩ := k _ rfl T hT X
  refine ⟨t, ?_, q⟩
  have h1 := X.baloadOut hexec (by rw [hT]; exact hP q0 _ ha) ((hK.2 t0 _ ht).1 n (fun j => .int (f j))) (j := i) (by show (i < 0 ∨ (arrV _ _ _).slots.size ≤ _); rw [arrV_size]; exact Classical.byContradiction hout) (g := F0 m pc ls (.int i :: .ref a :: rest)) rfl (rest := rest) rfl (by rw [hb]; exact hdg) t
  simp only [arrV_size] at h1
  exact h1 st
theorem vx_bastZ {D : va_G} {cl : List vw_C} {ws : va_W} {tys : List (ClassId × FieldType)} {a : Nat} (hexec : p.tables.exec = Jvm.exec) (hb : c.code = cc) (hK : va_K D cl tys s) (hP : va_P D cl ws H) (q0 t0 : Nat) {cA : ClassId} {n : Nat} {f : Nat → Int32} (ha : ws[q0]? = some (a, .inl (cA, n, .inl f))) (ht : tys[t0]? = some (cA, .byte)) {i : Int32} {x : Int32} (hout : ¬ vp_in i n) (hdg : decode cc pc = .ok (.bastore, 1))
    (k : ∀ tx : String, tx = (toString "Index " ++ toString i ++ toString " out of bounds for length " ++ toString n : String) → vx_Note p l e R s m args below meth c H locs cells slots Q (F0 m pc ls rest) "java/lang/ArrayIndexOutOfBoundsException" tx) : W p l e R s m args below meth c H locs cells slots Q (F0 m pc ls (.int x :: .int i :: .ref a :: rest)) := by
  intro T hT X
  obtain ⟨t, st, q⟩ := k _ rfl T hT X
  refine ⟨t, ?_, q⟩
  have h1 := X.bastoreOut hexec (by rw [hT]; exact hP q0 _ ha) ((hK.2 t0 _ ht).1 n (fun j => .int (f j))) (j := i) (by show (i < 0 ∨ (arrV _ _ _).slots.size ≤ _); rw [arrV_size]; exact Classical.byContradiction hout) (g := F0 m pc ls (.int x :: .int i :: .ref a :: rest)) rfl (rest := rest) rfl (by rw [hb]; exact hdg) t
  simp only [arrV_size] at h1
  exact h1 st
theorem vx_zaldZ {D : va_G} {cl : List vw_C} {ws : va_W} {tys : List (ClassId × FieldType)} {a : Nat} (hexec : p.tables.exec = Jvm.exec) (hb : c.code = cc) (hK : va_K D cl tys s) (hP : va_P D cl ws H) (q0 t0 : Nat) {cA : ClassId} {n : Nat} {f : Nat → Int32} (ha : ws[q0]? = some (a, .inl (cA, n, .inl f))) (ht : tys[t0]? = some (cA, .boolean)) {i : Int32} (hout : ¬ vp_in i n) (hdg : decode cc pc = .ok (.baload, 1))
    (k : ∀ tx : String, tx = (toString "Index " ++ toString i ++ toString " out of bounds for length " ++ toString n : String) → vx_Note p l e R s m args below meth c H locs cells slots Q (F0 m pc ls rest) "java/lang/ArrayIndexOutOfBoundsException" tx) : W p l e R s m args below meth c H locs cells slots Q (F0 m pc ls (.int i :: .ref a :: rest)) := by
  intro T hT X
  obtain ⟨t, st, q⟩ := k _ rfl T hT X
  refine ⟨t, ?_, q⟩
  have h1 := X.baloadOut hexec (by rw [hT]; exact hP q0 _ ha) ((hK.2 t0 _ ht).1 n (fun j => .int (f j))) (j := i) (by show (i < 0 ∨ (arrV _ _ _).slots.size ≤ _); rw [arrV_size]; exact Classical.byContradiction hout) (g := F0 m pc ls (.int i :: .ref a :: rest)) rfl (rest := rest) rfl (by rw [hb]; exact hdg) t
  simp only [arrV_size] at h1
  exact h1 st
theorem vx_zastZ {D : va_G} {cl : List vw_C} {ws : va_W} {tys : List (ClassId × FieldType)} {a : Nat} (hexec : p.tables.exec = Jvm.exec) (hb : c.code = cc) (hK : va_K D cl tys s) (hP : va_P D cl ws H) (q0 t0 : Nat) {cA : ClassId} {n : Nat} {f : Nat → Int32} (ha : ws[q0]? = some (a, .inl (cA, n, .inl f))) (ht : tys[t0]? = some (cA, .boolean)) {i : Int32} {x : Int32} (hout : ¬ vp_in i n) (hdg : decode cc pc = .ok (.bastore, 1))
    (k : ∀ tx : String, tx = (toString "Index " ++ toString i ++ toString " out of bounds for length " ++ toString n : String) → vx_Note p l e R s m args below meth c H locs cells slots Q (F0 m pc ls rest) "java/lang/ArrayIndexOutOfBoundsException" tx) : W p l e R s m args below meth c H locs cells slots Q (F0 m pc ls (.int x :: .int i :: .ref a :: rest)) := by
  intro T hT X
  obtain ⟨t, st, q⟩ := k _ rfl T hT X
  refine ⟨t, ?_, q⟩
  have h1 := X.bastoreOut hexec (by rw [hT]; exact hP q0 _ ha) ((hK.2 t0 _ ht).1 n (fun j => .int (f j))) (j := i) (by show (i < 0 ∨ (arrV _ _ _).slots.size ≤ _); rw [arrV_size]; exact Classical.byContradiction hout) (g := F0 m pc ls (.int x :: .int i :: .ref a :: rest)) rfl (rest := rest) rfl (by rw [hb]; exact hdg) t
  simp only [arrV_size] at h1
  exact h1 st
theorem vx_caldZ {D : va_G} {cl : List vw_C} {ws : va_W} {tys : List (ClassId × FieldType)} {a : Nat} (hexec : p.tables.exec = Jvm.exec) (hb : c.code = cc) (hK : va_K D cl tys s) (hP : va_P D cl ws H) (q0 t0 : Nat) {cA : ClassId} {n : Nat} {f : Nat → Int32} (ha : ws[q0]? = some (a, .inl (cA, n, .inl f))) (ht : tys[t0]? = some (cA, .char)) {i : Int32} (hout : ¬ vp_in i n) (hdg : decode cc pc = .ok (.caload, 1))
    (k : ∀ tx : String, tx = (toString "Index " ++ toString i ++ toString " out of bounds for length " ++ toString n : String) → vx_Note p l e R s m args below meth c H locs cells slots Q (F0 m pc ls rest) "java/lang/ArrayIndexOutOfBoundsException" tx) : W p l e R s m args below meth c H locs cells slots Q (F0 m pc ls (.int i :: .ref a :: rest)) := by
  intro T hT X
  obtain ⟨t, st, q⟩ := k _ rfl T hT X
  refine ⟨t, ?_, q⟩
  have h1 := X.caloadOut hexec (by rw [hT]; exact hP q0 _ ha) ((hK.2 t0 _ ht).1 n (fun j => .int (f j))) (j := i) (by show (i < 0 ∨ (arrV _ _ _).slots.size ≤ _); rw [arrV_size]; exact Classical.byContradiction hout) (g := F0 m pc ls (.int i :: .ref a :: rest)) rfl (rest := rest) rfl (by rw [hb]; exact hdg) t
  simp only [arrV_size] at h1
  exact h1 st
theorem vx_castZ {D : va_G} {cl : List vw_C} {ws : va_W} {tys : List (ClassId × FieldType)} {a : Nat} (hexec : p.tables.exec = Jvm.exec) (hb : c.code = cc) (hK : va_K D cl tys s) (hP : va_P D cl ws H) (q0 t0 : Nat) {cA : ClassId} {n : Nat} {f : Nat → Int32} (ha : ws[q0]? = some (a, .inl (cA, n, .inl f))) (ht : tys[t0]? = some (cA, .char)) {i : Int32} {x : Int32} (hout : ¬ vp_in i n) (hdg : decode cc pc = .ok (.castore, 1))
    (k : ∀ tx : String, tx = (toString "Index " ++ toString i ++ toString " out of bounds for length " ++ toString n : String) → vx_Note p l e R s m args below meth c H locs cells slots Q (F0 m pc ls rest) "java/lang/ArrayIndexOutOfBoundsException" tx) : W p l e R s m args below meth c H locs cells slots Q (F0 m pc ls (.int x :: .int i :: .ref a :: rest)) := by
  intro T hT X
  obtain ⟨t, st, q⟩ := k _ rfl T hT X
  refine ⟨t, ?_, q⟩
  have h1 := X.castoreOut hexec (by rw [hT]; exact hP q0 _ ha) ((hK.2 t0 _ ht).1 n (fun j => .int (f j))) (j := i) (by show (i < 0 ∨ (arrV _ _ _).slots.size ≤ _); rw [arrV_size]; exact Classical.byContradiction hout) (g := F0 m pc ls (.int x :: .int i :: .ref a :: rest)) rfl (rest := rest) rfl (by rw [hb]; exact hdg) t
  simp only [arrV_size] at h1
  exact h1 st
theorem vx_saldZ {D : va_G} {cl : List vw_C} {ws : va_W} {tys : List (ClassId × FieldType)} {a : Nat} (hexec : p.tables.exec = Jvm.exec) (hb : c.code = cc) (hK : va_K D cl tys s) (hP : va_P D cl ws H) (q0 t0 : Nat) {cA : ClassId} {n : Nat} {f : Nat → Int32} (ha : ws[q0]? = some (a, .inl (cA, n, .inl f))) (ht : tys[t0]? = some (cA, .short)) {i : Int32} (hout : ¬ vp_in i n) (hdg : decode cc pc = .ok (.saload, 1))
    (k : ∀ tx : String, tx = (toString "Index " ++ toString i ++ toString " out of bounds for length " ++ toString n : String) → vx_Note p l e R s m args below meth c H locs cells slots Q (F0 m pc ls rest) "java/lang/ArrayIndexOutOfBoundsException" tx) : W p l e R s m args below meth c H locs cells slots Q (F0 m pc ls (.int i :: .ref a :: rest)) := by
  intro T hT X
  obtain ⟨t, st, q⟩ := k _ rfl T hT X
  refine ⟨t, ?_, q⟩
  have h1 := X.saloadOut hexec (by rw [hT]; exact hP q0 _ ha) ((hK.2 t0 _ ht).1 n (fun j => .int (f j))) (j := i) (by show (i < 0 ∨ (arrV _ _ _).slots.size ≤ _); rw [arrV_size]; exact Classical.byContradiction hout) (g := F0 m pc ls (.int i :: .ref a :: rest)) rfl (rest := rest) rfl (by rw [hb]; exact hdg) t
  simp only [arrV_size] at h1
  exact h1 st
theorem vx_sastZ {D : va_G} {cl : List vw_C} {ws : va_W} {tys : List (ClassId × FieldType)} {a : Nat} (hexec : p.tables.exec = Jvm.exec) (hb : c.code = cc) (hK : va_K D cl tys s) (hP : va_P D cl ws H) (q0 t0 : Nat) {cA : ClassId} {n : Nat} {f : Nat → Int32} (ha : ws[q0]? = some (a, .inl (cA, n, .inl f))) (ht : tys[t0]? = some (cA, .short)) {i : Int32} {x : Int32} (hout : ¬ vp_in i n) (hdg : decode cc pc = .ok (.sastore, 1))
    (k : ∀ tx : String, tx = (toString "Index " ++ toString i ++ toString " out of bounds for length " ++ toString n : String) → vx_Note p l e R s m args below meth c H locs cells slots Q (F0 m pc ls rest) "java/lang/ArrayIndexOutOfBoundsException" tx) : W p l e R s m args below meth c H locs cells slots Q (F0 m pc ls (.int x :: .int i :: .ref a :: rest)) := by
  intro T hT X
  obtain ⟨t, st, q⟩ := k _ rfl T hT X
  refine ⟨t, ?_, q⟩
  have h1 := X.sastoreOut hexec (by rw [hT]; exact hP q0 _ ha) ((hK.2 t0 _ ht).1 n (fun j => .int (f j))) (j := i) (by show (i < 0 ∨ (arrV _ _ _).slots.size ≤ _); rw [arrV_size]; exact Classical.byContradiction hout) (g := F0 m pc ls (.int x :: .int i :: .ref a :: rest)) rfl (rest := rest) rfl (by rw [hb]; exact hdg) t
  simp only [arrV_size] at h1
  exact h1 st
theorem vx_laldZ {D : va_G} {cl : List vw_C} {ws : va_W} {tys : List (ClassId × FieldType)} {a : Nat} (hexec : p.tables.exec = Jvm.exec) (hb : c.code = cc) (hK : va_K D cl tys s) (hP : va_P D cl ws H) (q0 t0 : Nat) {cA : ClassId} {n : Nat} {f : Nat → Int64} (ha : ws[q0]? = some (a, .inl (cA, n, .inr (.inl f)))) (ht : tys[t0]? = some (cA, .long)) {i : Int32} (hout : ¬ vp_in i n) (hdg : decode cc pc = .ok (.laload, 1))
    (k : ∀ tx : String, tx = (toString "Index " ++ toString i ++ toString " out of bounds for length " ++ toString n : String) → vx_Note p l e R s m args below meth c H locs cells slots Q (F0 m pc ls rest) "java/lang/ArrayIndexOutOfBoundsException" tx) : W p l e R s m args below meth c H locs cells slots Q (F0 m pc ls (.int i :: .ref a :: rest)) := by
  intro T hT X
  obtain ⟨t, st, q⟩ := k _ rfl T hT X
  refine ⟨t, ?_, q⟩
  have h1 := X.laloadOut hexec (by rw [hT]; exact hP q0 _ ha) ((hK.2 t0 _ ht).1 n (fun j => .long (f j))) (j := i) (by show (i < 0 ∨ (arrV _ _ _).slots.size ≤ _); rw [arrV_size]; exact Classical.byContradiction hout) (g := F0 m pc ls (.int i :: .ref a :: rest)) rfl (rest := rest) rfl (by rw [hb]; exact hdg) t
  simp only [arrV_size] at h1
  exact h1 st
theorem vx_lastZ {D : va_G} {cl : List vw_C} {ws : va_W} {tys : List (ClassId × FieldType)} {a : Nat} (hexec : p.tables.exec = Jvm.exec) (hb : c.code = cc) (hK : va_K D cl tys s) (hP : va_P D cl ws H) (q0 t0 : Nat) {cA : ClassId} {n : Nat} {f : Nat → Int64} (ha : ws[q0]? = some (a, .inl (cA, n, .inr (.inl f)))) (ht : tys[t0]? = some (cA, .long)) {i : Int32} {x : Int64} (hout : ¬ vp_in i n) (hdg : decode cc pc = .ok (.lastore, 1))
    (k : ∀ tx : String, tx = (toString "Index " ++ toString i ++ toString " out of bounds for length " ++ toString n : String) → vx_Note p l e R s m args below meth c H locs cells slots Q (F0 m pc ls rest) "java/lang/ArrayIndexOutOfBoundsException" tx) : W p l e R s m args below meth c H locs cells slots Q (F0 m pc ls (.long x :: .int i :: .ref a :: rest)) := by
  intro T hT X
  obtain ⟨t, st, q⟩ := k _ rfl T hT X
  refine ⟨t, ?_, q⟩
  have h1 := X.lastoreOut hexec (by rw [hT]; exact hP q0 _ ha) ((hK.2 t0 _ ht).1 n (fun j => .long (f j))) (j := i) (by show (i < 0 ∨ (arrV _ _ _).slots.size ≤ _); rw [arrV_size]; exact Classical.byContradiction hout) (g := F0 m pc ls (.long x :: .int i :: .ref a :: rest)) rfl (rest := rest) rfl (by rw [hb]; exact hdg) t
  simp only [arrV_size] at h1
  exact h1 st
theorem vx_faldZ {D : va_G} {cl : List vw_C} {ws : va_W} {tys : List (ClassId × FieldType)} {a : Nat} (hexec : p.tables.exec = Jvm.exec) (hb : c.code = cc) (hK : va_K D cl tys s) (hP : va_P D cl ws H) (q0 t0 : Nat) {cA : ClassId} {n : Nat} {f : Nat → UInt32} (ha : ws[q0]? = some (a, .inl (cA, n, .inr (.inr (.inl f))))) (ht : tys[t0]? = some (cA, .float)) {i : Int32} (hout : ¬ vp_in i n) (hdg : decode cc pc = .ok (.faload, 1))
    (k : ∀ tx : String, tx = (toString "Index " ++ toString i ++ toString " out of bounds for length " ++ toString n : String) → vx_Note p l e R s m args below meth c H locs cells slots Q (F0 m pc ls rest) "java/lang/ArrayIndexOutOfBoundsException" tx) : W p l e R s m args below meth c H locs cells slots Q (F0 m pc ls (.int i :: .ref a :: rest)) := by
  intro T hT X
  obtain ⟨t, st, q⟩ := k _ rfl T hT X
  refine ⟨t, ?_, q⟩
  have h1 := X.faloadOut hexec (by rw [hT]; exact hP q0 _ ha) ((hK.2 t0 _ ht).1 n (fun j => .float (f j))) (j := i) (by show (i < 0 ∨ (arrV _ _ _).slots.size ≤ _); rw [arrV_size]; exact Classical.byContradiction hout) (g := F0 m pc ls (.int i :: .ref a :: rest)) rfl (rest := rest) rfl (by rw [hb]; exact hdg) t
  simp only [arrV_size] at h1
  exact h1 st
theorem vx_fastZ {D : va_G} {cl : List vw_C} {ws : va_W} {tys : List (ClassId × FieldType)} {a : Nat} (hexec : p.tables.exec = Jvm.exec) (hb : c.code = cc) (hK : va_K D cl tys s) (hP : va_P D cl ws H) (q0 t0 : Nat) {cA : ClassId} {n : Nat} {f : Nat → UInt32} (ha : ws[q0]? = some (a, .inl (cA, n, .inr (.inr (.inl f))))) (ht : tys[t0]? = some (cA, .float)) {i : Int32} {x : UInt32} (hout : ¬ vp_in i n) (hdg : decode cc pc = .ok (.fastore, 1))
    (k : ∀ tx : String, tx = (toString "Index " ++ toString i ++ toString " out of bounds for length " ++ toString n : String) → vx_Note p l e R s m args below meth c H locs cells slots Q (F0 m pc ls rest) "java/lang/ArrayIndexOutOfBoundsException" tx) : W p l e R s m args below meth c H locs cells slots Q (F0 m pc ls (.float x :: .int i :: .ref a :: rest)) := by
  intro T hT X
  obtain ⟨t, st, q⟩ := k _ rfl T hT X
  refine ⟨t, ?_, q⟩
  have h1 := X.fastoreOut hexec (by rw [hT]; exact hP q0 _ ha) ((hK.2 t0 _ ht).1 n (fun j => .float (f j))) (j := i) (by show (i < 0 ∨ (arrV _ _ _).slots.size ≤ _); rw [arrV_size]; exact Classical.byContradiction hout) (g := F0 m pc ls (.float x :: .int i :: .ref a :: rest)) rfl (rest := rest) rfl (by rw [hb]; exact hdg) t
  simp only [arrV_size] at h1
  exact h1 st
theorem vx_daldZ {D : va_G} {cl : List vw_C} {ws : va_W} {tys : List (ClassId × FieldType)} {a : Nat} (hexec : p.tables.exec = Jvm.exec) (hb : c.code = cc) (hK : va_K D cl tys s) (hP : va_P D cl ws H) (q0 t0 : Nat) {cA : ClassId} {n : Nat} {f : Nat → UInt64} (ha : ws[q0]? = some (a, .inl (cA, n, .inr (.inr (.inr (.inl f)))))) (ht : tys[t0]? = some (cA, .double)) {i : Int32} (hout : ¬ vp_in i n) (hdg : decode cc pc = .ok (.daload, 1))
    (k : ∀ tx : String, tx = (toString "Index " ++ toString i ++ toString " out of bounds for length " ++ toString n : String) → vx_Note p l e R s m args below meth c H locs cells slots Q (F0 m pc ls rest) "java/lang/ArrayIndexOutOfBoundsException" tx) : W p l e R s m args below meth c H locs cells slots Q (F0 m pc ls (.int i :: .ref a :: rest)) := by
  intro T hT X
  obtain ⟨t, st, q⟩ := k _ rfl T hT X
  refine ⟨t, ?_, q⟩
  have h1 := X.daloadOut hexec (by rw [hT]; exact hP q0 _ ha) ((hK.2 t0 _ ht).1 n (fun j => .double (f j))) (j := i) (by show (i < 0 ∨ (arrV _ _ _).slots.size ≤ _); rw [arrV_size]; exact Classical.byContradiction hout) (g := F0 m pc ls (.int i :: .ref a :: rest)) rfl (rest := rest) rfl (by rw [hb]; exact hdg) t
  simp only [arrV_size] at h1
  exact h1 st
theorem vx_dastZ {D : va_G} {cl : List vw_C} {ws : va_W} {tys : List (ClassId × FieldType)} {a : Nat} (hexec : p.tables.exec = Jvm.exec) (hb : c.code = cc) (hK : va_K D cl tys s) (hP : va_P D cl ws H) (q0 t0 : Nat) {cA : ClassId} {n : Nat} {f : Nat → UInt64} (ha : ws[q0]? = some (a, .inl (cA, n, .inr (.inr (.inr (.inl f)))))) (ht : tys[t0]? = some (cA, .double)) {i : Int32} {x : UInt64} (hout : ¬ vp_in i n) (hdg : decode cc pc = .ok (.dastore, 1))
    (k : ∀ tx : String, tx = (toString "Index " ++ toString i ++ toString " out of bounds for length " ++ toString n : String) → vx_Note p l e R s m args below meth c H locs cells slots Q (F0 m pc ls rest) "java/lang/ArrayIndexOutOfBoundsException" tx) : W p l e R s m args below meth c H locs cells slots Q (F0 m pc ls (.double x :: .int i :: .ref a :: rest)) := by
  intro T hT X
  obtain ⟨t, st, q⟩ := k _ rfl T hT X
  refine ⟨t, ?_, q⟩
  have h1 := X.dastoreOut hexec (by rw [hT]; exact hP q0 _ ha) ((hK.2 t0 _ ht).1 n (fun j => .double (f j))) (j := i) (by show (i < 0 ∨ (arrV _ _ _).slots.size ≤ _); rw [arrV_size]; exact Classical.byContradiction hout) (g := F0 m pc ls (.double x :: .int i :: .ref a :: rest)) rfl (rest := rest) rfl (by rw [hb]; exact hdg) t
  simp only [arrV_size] at h1
  exact h1 st
theorem vx_arraylengthN (hexec : p.tables.exec = Jvm.exec) (hb : c.code = cc) (hdg : decode cc pc = .ok (.arraylength, 1)) (k : vx_NoteN p l e R s m args below meth c H locs cells slots Q (F0 m pc ls rest)) : W p l e R s m args below meth c H locs cells slots Q (F0 m pc ls (.null :: rest)) := by
  intro T hT X
  obtain ⟨t, st, q⟩ := k T hT X
  exact ⟨t, X.arraylengthNull hexec (g := F0 m pc ls (.null :: rest)) rfl (rest := rest) rfl (by rw [hb]; exact hdg) t st, q⟩
theorem vx_ialoadN (hexec : p.tables.exec = Jvm.exec) (hb : c.code = cc) {i : Int32} (hdg : decode cc pc = .ok (.iaload, 1)) (k : vx_NoteN p l e R s m args below meth c H locs cells slots Q (F0 m pc ls rest)) : W p l e R s m args below meth c H locs cells slots Q (F0 m pc ls (.int i :: .null :: rest)) := by
  intro T hT X
  obtain ⟨t, st, q⟩ := k T hT X
  exact ⟨t, X.ialoadNull hexec (g := F0 m pc ls (.int i :: .null :: rest)) rfl (rest := rest) rfl (by rw [hb]; exact hdg) t st, q⟩
theorem vx_laloadN (hexec : p.tables.exec = Jvm.exec) (hb : c.code = cc) {i : Int32} (hdg : decode cc pc = .ok (.laload, 1)) (k : vx_NoteN p l e R s m args below meth c H locs cells slots Q (F0 m pc ls rest)) : W p l e R s m args below meth c H locs cells slots Q (F0 m pc ls (.int i :: .null :: rest)) := by
  intro T hT X
  obtain ⟨t, st, q⟩ := k T hT X
  exact ⟨t, X.laloadNull hexec (g := F0 m pc ls (.int i :: .null :: rest)) rfl (rest := rest) rfl (by rw [hb]; exact hdg) t st, q⟩
theorem vx_faloadN (hexec : p.tables.exec = Jvm.exec) (hb : c.code = cc) {i : Int32} (hdg : decode cc pc = .ok (.faload, 1)) (k : vx_NoteN p l e R s m args below meth c H locs cells slots Q (F0 m pc ls rest)) : W p l e R s m args below meth c H locs cells slots Q (F0 m pc ls (.int i :: .null :: rest)) := by
  intro T hT X
  obtain ⟨t, st, q⟩ := k T hT X
  exact ⟨t, X.faloadNull hexec (g := F0 m pc ls (.int i :: .null :: rest)) rfl (rest := rest) rfl (by rw [hb]; exact hdg) t st, q⟩
theorem vx_daloadN (hexec : p.tables.exec = Jvm.exec) (hb : c.code = cc) {i : Int32} (hdg : decode cc pc = .ok (.daload, 1)) (k : vx_NoteN p l e R s m args below meth c H locs cells slots Q (F0 m pc ls rest)) : W p l e R s m args below meth c H locs cells slots Q (F0 m pc ls (.int i :: .null :: rest)) := by
  intro T hT X
  obtain ⟨t, st, q⟩ := k T hT X
  exact ⟨t, X.daloadNull hexec (g := F0 m pc ls (.int i :: .null :: rest)) rfl (rest := rest) rfl (by rw [hb]; exact hdg) t st, q⟩
theorem vx_aaloadN (hexec : p.tables.exec = Jvm.exec) (hb : c.code = cc) {i : Int32} (hdg : decode cc pc = .ok (.aaload, 1)) (k : vx_NoteN p l e R s m args below meth c H locs cells slots Q (F0 m pc ls rest)) : W p l e R s m args below meth c H locs cells slots Q (F0 m pc ls (.int i :: .null :: rest)) := by
  intro T hT X
  obtain ⟨t, st, q⟩ := k T hT X
  exact ⟨t, X.aaloadNull hexec (g := F0 m pc ls (.int i :: .null :: rest)) rfl (rest := rest) rfl (by rw [hb]; exact hdg) t st, q⟩
theorem vx_baloadN (hexec : p.tables.exec = Jvm.exec) (hb : c.code = cc) {i : Int32} (hdg : decode cc pc = .ok (.baload, 1)) (k : vx_NoteN p l e R s m args below meth c H locs cells slots Q (F0 m pc ls rest)) : W p l e R s m args below meth c H locs cells slots Q (F0 m pc ls (.int i :: .null :: rest)) := by
  intro T hT X
  obtain ⟨t, st, q⟩ := k T hT X
  exact ⟨t, X.baloadNull hexec (g := F0 m pc ls (.int i :: .null :: rest)) rfl (rest := rest) rfl (by rw [hb]; exact hdg) t st, q⟩
theorem vx_caloadN (hexec : p.tables.exec = Jvm.exec) (hb : c.code = cc) {i : Int32} (hdg : decode cc pc = .ok (.caload, 1)) (k : vx_NoteN p l e R s m args below meth c H locs cells slots Q (F0 m pc ls rest)) : W p l e R s m args below meth c H locs cells slots Q (F0 m pc ls (.int i :: .null :: rest)) := by
  intro T hT X
  obtain ⟨t, st, q⟩ := k T hT X
  exact ⟨t, X.caloadNull hexec (g := F0 m pc ls (.int i :: .null :: rest)) rfl (rest := rest) rfl (by rw [hb]; exact hdg) t st, q⟩
theorem vx_saloadN (hexec : p.tables.exec = Jvm.exec) (hb : c.code = cc) {i : Int32} (hdg : decode cc pc = .ok (.saload, 1)) (k : vx_NoteN p l e R s m args below meth c H locs cells slots Q (F0 m pc ls rest)) : W p l e R s m args below meth c H locs cells slots Q (F0 m pc ls (.int i :: .null :: rest)) := by
  intro T hT X
  obtain ⟨t, st, q⟩ := k T hT X
  exact ⟨t, X.saloadNull hexec (g := F0 m pc ls (.int i :: .null :: rest)) rfl (rest := rest) rfl (by rw [hb]; exact hdg) t st, q⟩
theorem vx_iastoreN (hexec : p.tables.exec = Jvm.exec) (hb : c.code = cc) {x : Int32} {i : Int32} (hdg : decode cc pc = .ok (.iastore, 1)) (k : vx_NoteN p l e R s m args below meth c H locs cells slots Q (F0 m pc ls rest)) : W p l e R s m args below meth c H locs cells slots Q (F0 m pc ls (.int x :: .int i :: .null :: rest)) := by
  intro T hT X
  obtain ⟨t, st, q⟩ := k T hT X
  exact ⟨t, X.iastoreNull hexec (g := F0 m pc ls (.int x :: .int i :: .null :: rest)) rfl (rest := rest) rfl (by rw [hb]; exact hdg) t st, q⟩
theorem vx_lastoreN (hexec : p.tables.exec = Jvm.exec) (hb : c.code = cc) {x : Int64} {i : Int32} (hdg : decode cc pc = .ok (.lastore, 1)) (k : vx_NoteN p l e R s m args below meth c H locs cells slots Q (F0 m pc ls rest)) : W p l e R s m args below meth c H locs cells slots Q (F0 m pc ls (.long x :: .int i :: .null :: rest)) := by
  intro T hT X
  obtain ⟨t, st, q⟩ := k T hT X
  exact ⟨t, X.lastoreNull hexec (g := F0 m pc ls (.long x :: .int i :: .null :: rest)) rfl (rest := rest) rfl (by rw [hb]; exact hdg) t st, q⟩
theorem vx_fastoreN (hexec : p.tables.exec = Jvm.exec) (hb : c.code = cc) {x : UInt32} {i : Int32} (hdg : decode cc pc = .ok (.fastore, 1)) (k : vx_NoteN p l e R s m args below meth c H locs cells slots Q (F0 m pc ls rest)) : W p l e R s m args below meth c H locs cells slots Q (F0 m pc ls (.float x :: .int i :: .null :: rest)) := by
  intro T hT X
  obtain ⟨t, st, q⟩ := k T hT X
  exact ⟨t, X.fastoreNull hexec (g := F0 m pc ls (.float x :: .int i :: .null :: rest)) rfl (rest := rest) rfl (by rw [hb]; exact hdg) t st, q⟩
theorem vx_dastoreN (hexec : p.tables.exec = Jvm.exec) (hb : c.code = cc) {x : UInt64} {i : Int32} (hdg : decode cc pc = .ok (.dastore, 1)) (k : vx_NoteN p l e R s m args below meth c H locs cells slots Q (F0 m pc ls rest)) : W p l e R s m args below meth c H locs cells slots Q (F0 m pc ls (.double x :: .int i :: .null :: rest)) := by
  intro T hT X
  obtain ⟨t, st, q⟩ := k T hT X
  exact ⟨t, X.dastoreNull hexec (g := F0 m pc ls (.double x :: .int i :: .null :: rest)) rfl (rest := rest) rfl (by rw [hb]; exact hdg) t st, q⟩
theorem vx_bastoreN (hexec : p.tables.exec = Jvm.exec) (hb : c.code = cc) {x : Int32} {i : Int32} (hdg : decode cc pc = .ok (.bastore, 1)) (k : vx_NoteN p l e R s m args below meth c H locs cells slots Q (F0 m pc ls rest)) : W p l e R s m args below meth c H locs cells slots Q (F0 m pc ls (.int x :: .int i :: .null :: rest)) := by
  intro T hT X
  obtain ⟨t, st, q⟩ := k T hT X
  exact ⟨t, X.bastoreNull hexec (g := F0 m pc ls (.int x :: .int i :: .null :: rest)) rfl (rest := rest) rfl (by rw [hb]; exact hdg) t st, q⟩
theorem vx_castoreN (hexec : p.tables.exec = Jvm.exec) (hb : c.code = cc) {x : Int32} {i : Int32} (hdg : decode cc pc = .ok (.castore, 1)) (k : vx_NoteN p l e R s m args below meth c H locs cells slots Q (F0 m pc ls rest)) : W p l e R s m args below meth c H locs cells slots Q (F0 m pc ls (.int x :: .int i :: .null :: rest)) := by
  intro T hT X
  obtain ⟨t, st, q⟩ := k T hT X
  exact ⟨t, X.castoreNull hexec (g := F0 m pc ls (.int x :: .int i :: .null :: rest)) rfl (rest := rest) rfl (by rw [hb]; exact hdg) t st, q⟩
theorem vx_sastoreN (hexec : p.tables.exec = Jvm.exec) (hb : c.code = cc) {x : Int32} {i : Int32} (hdg : decode cc pc = .ok (.sastore, 1)) (k : vx_NoteN p l e R s m args below meth c H locs cells slots Q (F0 m pc ls rest)) : W p l e R s m args below meth c H locs cells slots Q (F0 m pc ls (.int x :: .int i :: .null :: rest)) := by
  intro T hT X
  obtain ⟨t, st, q⟩ := k T hT X
  exact ⟨t, X.sastoreNull hexec (g := F0 m pc ls (.int x :: .int i :: .null :: rest)) rfl (rest := rest) rfl (by rw [hb]; exact hdg) t st, q⟩
theorem vx_invokeN {own C : String} {index maxL : Nat} {y : MethodName} {bytes : ByteArray} {ret : Option FieldType} (hexec : p.tables.exec = Jvm.exec) (hb : c.code = cc) (hown : s.vm.findClass own = some m.cls) (hlink : (Cond.methodLink own index y).before args s = true) (hinst : (Cond.instanceMethod y).before args s = true) (hcode : (Cond.code y bytes maxL ret).before args s = true) (hsel : (Cond.selects C y y).before args s = true)
    (hx : y.cls ≠ "java/lang/invoke/MethodHandle" ∧ y.cls ≠ "java/lang/invoke/VarHandle") {As : List Value} (hlen : (parseMethodDescriptor y.desc).map (fun d => d.parameters.length) = some As.length) (hdg : decode cc pc = .ok (.invokevirtual index, 3))
    (k : vx_NoteN p l e R s m args below meth c H locs cells slots Q (F0 m pc ls rest)) {st0 : List Value} (hst : st0 = As.reverse ++ .null :: rest) : W p l e R s m args below meth c H locs cells slots Q (F0 m pc ls st0) := by
  intro T hT X
  obtain ⟨r0, r, hn, hrm, hstR, hsigR⟩ := va_Decl.of hinst hcode
  obtain ⟨c2, r2, m2, q1, q2, q3, q4, kP, hkP, hkPi⟩ := Cond.selects_spec hsel
  cases hn.symm.trans q3
  have hl9 : As.length = r.sig.parameters.length := by
    rw [hsigR] at hlen
    exact (Option.some.inj hlen).symm
  obtain ⟨vm', X1, st1⟩ := X.invokevirtualNull hexec hown hlink hn hrm hstR hkP hkPi hx (g := F0 m pc ls st0) rfl (argsL := As) (rest := rest) hl9 hst (by rw [hb]; exact hdg)
  obtain ⟨t, st, q⟩ := k (T.setVm vm') hT X1
  exact ⟨t, st1 t st, q⟩
theorem vx_newarrayZ {atype : ArrayType} (hexec : p.tables.exec = Jvm.exec) (hb : c.code = cc) {n : Int32} (h0 : n < 0) (hdg : decode cc pc = .ok (.newarray atype, 2)) (k : ∀ tx : String, tx = toString n → vx_Note p l e R s m args below meth c H locs cells slots Q (F0 m pc ls rest) "java/lang/NegativeArraySizeException" tx) : W p l e R s m args below meth c H locs cells slots Q (F0 m pc ls (.int n :: rest)) := by
  intro T hT X
  obtain ⟨t, st, q⟩ := k _ rfl T hT X
  exact ⟨t, X.newarrayNegative hexec (g := F0 m pc ls (.int n :: rest)) rfl h0 (rest := rest) rfl (by rw [hb]; exact hdg) t st, q⟩
end
end VXM
/-! ===== END ===== -/
/-! ===== BEGIN an exception as an object: made, kept, thrown later (no traces kept) ===== -/
section VXK
variable {p : Program} {l : Launch} {e : Env} {R : Room} {s : State} {m₀ : MethodId} {args : Array Value} {below : List Frame} {meth : Method} {c : Code} {W : State} {locs : List Loc} {cells slots : Nat}
set_option maxHeartbeats 1000000 in
theorem vx_ctorMadeS (X : Stand p l e R s m₀ args below meth c W locs cells slots) (hexec : p.tables.exec = Jvm.exec) (htr : e.platform.stackTraces = false) {own cls : String} {names : List String} {ic : Nat}
    (hown : s.vm.findClass own = some m₀.cls) (hcls : Bundle.fit cls = true) (hnames : ∀ n ∈ names, Bundle.fit n = true)
    (h : ∀ a ∈ Bundle.ownAtoms own ic cls names, a.before args s = true)
    (hlocs : ∀ x ∈ locs, ∀ cell, s.heap[x.base]? = some cell → cell.vm.isStatics = false)
    {a : Addr} {cX : ClassId} {kX : Class} (hfoundX : s.vm.findClass cls = some cX) (hkX : s.vm.classes[cX]? = some kX) (hcell : W.heap[a]? = some (freshCell cX kX)) (hnew : s.heap.size ≤ a)
    {msg : Value} (hmsg : msg.isRef = true)
    {g : JFrame} (hg : g.method = m₀) (hsize : g.locals.size = c.maxLocals) {rest : List Value} (hstack : g.stack = msg :: .ref a :: .ref a :: rest)
    (hd6 : decode c.code g.pc = .ok (.invokespecial ic, 3))
    (hRframes : names.length + 3 < R.frames) (hRlocals : 2 * g.monitorRoom + ((Value.ref a :: rest).map fun v => v.category).sum + (13 * (names.length + 1) + 42) ≤ R.locals) :
    ∃ (V : State) (ce : Cell) (L : List Loc), Stand p l e R s m₀ args below meth c (V.setCell a ce) (locs ++ L) cells slots ∧ (∀ y ∈ L, y.base = a) ∧ a < V.heap.size ∧ ce.cls = cX ∧ ce.vm = .none ∧
      ∀ target, Steps p.tables e below ((V.setCell a ce).setTop { g with stack := .ref a :: rest, pc := g.pc + 3 }) target → Steps p.tables e below (W.setTop g) target := by
  have howns : e.platform.frameOwnsMonitors = true := by rw [X.admits.platform]
  have hfin : e.platform.finalization = false := by rw [X.admits.platform]
  have hpl : e.platform.magicAccessors = ({} : Platform).magicAccessors := by rw [X.admits.platform]
  have a' : ∀ x, x ∈ Bundle.ownAtoms own ic cls names → x.holds args s none s [] = true := fun x hx => h x hx
  obtain ⟨T, Z0, L, -, Y⟩ := ThrowableC.of_atoms (args := args) howns hfin hpl (fun x hx => h x (by simp [Bundle.ownAtoms, hx]))
  obtain ⟨Z, M, LZ, LM, hnZ⟩ := Init0T.ofS_atoms (args := args) hpl L Y (fun x hx => h x (by simp [Bundle.ownAtoms, hx]))
  obtain ⟨P1, Ps, hlen, L1, hL, hP1m, hlink1, hlink⟩ := Bundle.chainS (args := args) hpl hnZ names cls hcls hnames (fun x hx => h x (by simp [Bundle.ownAtoms, hx]))
  have hfound : s.vm.findClass cls = some P1.m.cls := findClass_of_methodNamed hP1m
  cases Option.some.inj (hfoundX.symm.trans hfound)
  obtain ⟨c1, kX', hc1, hk, hord, -, -, hn6⟩ := Cond.instantiable_spec (a' (.instantiable cls 6) (by simp [Bundle.ownAtoms]))
  cases Option.some.inj (hc1.symm.trans hfound)
  cases Option.some.inj (hkX.symm.trans hk)
  have hsel0 : selectMethod e.platform s.vm P1.m.cls T.fill0 = .method T.fill0 := by
    obtain ⟨c2, r2, m2, q1, q2, q3, q4, -⟩ := Cond.selects_spec (a' (.selects cls Bundle.tFill0 Bundle.tFill0) (by simp [Bundle.ownAtoms]))
    cases Option.some.inj (q1.symm.trans hfound)
    cases Option.some.inj (q2.symm.trans (State.methodFound?_of_named Y.fill0 (by decide)))
    cases Option.some.inj (q3.symm.trans Y.fill0)
    rw [Launch.admits_selectMethod X.admits]; exact q4
  have hselF : selectMethod e.platform s.vm P1.m.cls T.fill = .method T.fill := by
    obtain ⟨c2, r2, m2, q1, q2, q3, q4, -⟩ := Cond.selects_spec (a' (.selects cls Bundle.tFill Bundle.tFill) (by simp [Bundle.ownAtoms]))
    cases Option.some.inj (q1.symm.trans hfound)
    cases Option.some.inj (q2.symm.trans (State.methodFound?_of_named Y.fill (by decide)))
    cases Option.some.inj (q3.symm.trans Y.fill)
    rw [Launch.admits_selectMethod X.admits]; exact q4
  obtain ⟨cellS0, hcS0, hiss⟩ := Y.statics
  obtain ⟨u0, hu0⟩ := Cond.staticRefV Y.unassigned L.unassignedStatic L.statics hcS0 hiss (a' (.isRef (.static Bundle.tN "UNASSIGNED_STACK" Bundle.steD)) (by simp [Bundle.ownAtoms]))
  obtain ⟨sen, hsen⟩ := Cond.staticRefV Y.sentinel L.sentinelStatic L.statics hcS0 hiss (a' (.isRef (.static Bundle.tN "SUPPRESSED_SENTINEL" Bundle.listD)) (by simp [Bundle.ownAtoms]))
  obtain ⟨ci198, i198, fB, hk198, hg198, ha198, hsB, -, hnB, htB, hffB⟩ := Cond.ownField (t := .object "java/lang/Object") Y.found L.cls (by decide +kernel) (a' (.fieldLink Bundle.tN 198 Bundle.tN "backtrace" "Ljava/lang/Object;") (by simp [Bundle.ownAtoms])) (a' (.lays Bundle.tN Bundle.tN "backtrace" "Ljava/lang/Object;") (by simp [Bundle.ownAtoms])) e.platform hpl
  obtain ⟨cellS, hcS', heS, -, hkeep⟩ := X.same.2.2.2.2.2 T.aS cellS0 hcS0
  have hcellS : W.heap[T.aS]? = some cellS := hcS'
  have hout' : ∀ i, (⟨T.aS, i⟩ : Loc) ∉ locs := fun i hmem => by
    have := hlocs _ hmem cellS0 hcS0
    rw [hiss] at this; cases this
  have hknownS : cellS.vm ≠ .unknown := by
    rw [heS]; intro hu
    rw [show cellS0.vm = .unknown from hu] at hiss
    cases hiss
  have hneS : T.aS ≠ a := Nat.ne_of_lt (Nat.lt_of_lt_of_le (Array.getElem?_eq_some_iff.mp hcS0).1 hnew)
  obtain ⟨iM, hffM⟩ := Y.msg
  obtain ⟨tyC, dC, hdC, hdnC⟩ := Cond.laysAt hfound hk Y.cause (a' (.lays cls Bundle.tN "cause" "Ljava/lang/Throwable;") (by simp [Bundle.ownAtoms]))
  obtain ⟨tyS, dS, hdS, hdnS⟩ := Cond.laysAt hfound hk Y.stack (a' (.lays cls Bundle.tN "stackTrace" Bundle.steD) (by simp [Bundle.ownAtoms]))
  obtain ⟨tyP, dP, hdP, hdnP⟩ := Cond.laysAt hfound hk Y.supp (a' (.lays cls Bundle.tN "suppressedExceptions" Bundle.listD) (by simp [Bundle.ownAtoms]))
  obtain ⟨tyM, dM, hdM, hdnM⟩ := Cond.laysAt hfound hk hffM (a' (.lays cls Bundle.tN "detailMessage" "Ljava/lang/String;") (by simp [Bundle.ownAtoms]))
  obtain ⟨tyB, dB, hdB, hdnB⟩ := Cond.laysAt hfound hk hffB (a' (.lays cls Bundle.tN "backtrace" "Ljava/lang/Object;") (by simp [Bundle.ownAtoms]))
  have bC := Cond.laysApart hdB hdC hdnB hdnC (by rw [hnB, Y.causeName]; decide)
  have bS := Cond.laysApart hdB hdS hdnB hdnS (by rw [hnB, Y.stackName]; decide)
  have bP := Cond.laysApart hdB hdP hdnB hdnP (by rw [hnB, Y.suppName]; decide)
  have hskip : SkipFacts T e.platform s (fun u => u) u0 ((preparedCellV T.toThrowableT (freshCell P1.m.cls kX) a u0 sen).withEntry W.cur) :=
    ⟨{ ci198 := ci198, i198 := i198, fBack := fB }, ⟨hk198, hg198, ha198, hsB⟩, by
      have := fresh_default (c := P1.m.cls) tyB
      rw [htB] at this
      simpa [preparedCellV, Cell.setSlot, Cell.withEntry, Array.getElem?_setIfInBounds, bC, bS, bP, bC.symm, bS.symm, bP.symm, defaultValue] using this, fun _ _ => rfl⟩
  obtain ⟨tm, methC, cdC, kC, vm₁, hnC, -, -, -, -, -, -, -, hW₁, st1⟩ := Steps.initColdS (tb := p.tables) (e := e) (below := below) (s := s) (U := W) X.here hexec X.warmed hpl hown (t := Bundle.initS cls) rfl rfl (Bundle.fit_spec hcls).2
    (a' (.methodLink own ic (Bundle.initS cls)) (by simp [Bundle.ownAtoms])) (h (.instanceMethod (Bundle.initS cls)) (by cases names <;> simp [Bundle.ownAtoms, Bundle.chainSAtoms, Bundle.passSAtoms])) (bytes := Bundle.six) (maxL := 2) (h (.code (Bundle.initS cls) Bundle.six 2 none) (by cases names <;> simp [Bundle.ownAtoms, Bundle.chainSAtoms, Bundle.passSAtoms]))
    (f := g) hg (a := a) (msg := msg) (rest := .ref a :: rest) hstack hd6
  cases Option.some.inj (hnC.symm.trans hP1m)
  have X₁ := X.noted hW₁
  obtain ⟨vm₂, X₂, st2⟩ := X₁.ctorMessageOffV hexec (g := { g with stack := .ref a :: rest }) hg hsize T L Z LZ M LM (P1 :: Ps)
    (fun P hP => by rcases List.mem_cons.mp hP with rfl | hP; exact L1; exact hL P hP) ⟨hlink1, hlink⟩ (u0 := u0) (sen := sen) (self := a) hmsg (cell := freshCell P1.m.cls kX) (cellS := cellS)
    hcell (fun _ => by simp) (by simp) rfl rfl hsel0 hselF hcellS hneS hknownS (by rw [hkeep _ (hout' _)]; exact hu0) (by rw [hkeep _ (hout' _)]; exact hsen)
    (Takes.of_laid hk hord tyC (by rw [Y.causeType]; rfl)) (Takes.of_laid hk hord tyS (by rw [Y.stackType]; exact fits_refV_array _ u0)) (Takes.of_laid hk hord tyP (by rw [Y.suppType]; exact fits_refV_object _ sen))
    (Takes.of_laid hk hord tyM (by rw [Y.msgType]; exact fits_refV_object _ ⟨msg, hmsg⟩)) Y.objLocals hskip htr [] hd6
    (by simp only [List.length_cons, hlen]; omega) (by simp only [List.length_cons, hlen]; exact hRlocals)
  have hlt : a < ((W.setVm vm₁).setVm vm₂).heap.size := (Array.getElem?_eq_some_iff.mp hcell).1
  refine ⟨(W.setVm vm₁).setVm vm₂, _, _, X₂, fun y hy => ?_, hlt, rfl, rfl, fun target hwalk => st1 _ (fun acts => ?_)⟩
  · simp only [List.mem_cons, List.not_mem_nil, or_false] at hy
    rcases hy with rfl | rfl | rfl | rfl | rfl <;> rfl
  · rw [doInvoke_state]
    exact st2 _ hwalk
set_option maxHeartbeats 1000000 in
theorem vx_ctorMade0 (X : Stand p l e R s m₀ args below meth c W locs cells slots) (hexec : p.tables.exec = Jvm.exec) (htr : e.platform.stackTraces = false) {own cls : String} {names : List String} {ic : Nat}
    (hown : s.vm.findClass own = some m₀.cls) (hcls : Bundle.fit cls = true) (hnames : ∀ n ∈ names, Bundle.fit n = true)
    (h : ∀ a ∈ Bundle.ownAtoms0 own ic cls names, a.before args s = true)
    (hlocs : ∀ x ∈ locs, ∀ cell, s.heap[x.base]? = some cell → cell.vm.isStatics = false)
    {a : Addr} {cX : ClassId} {kX : Class} (hfoundX : s.vm.findClass cls = some cX) (hkX : s.vm.classes[cX]? = some kX) (hcell : W.heap[a]? = some (freshCell cX kX)) (hnew : s.heap.size ≤ a)
    {g : JFrame} (hg : g.method = m₀) (hsize : g.locals.size = c.maxLocals) {rest : List Value} (hstack : g.stack = .ref a :: .ref a :: rest)
    (hd6 : decode c.code g.pc = .ok (.invokespecial ic, 3))
    (hRframes : names.length + 3 < R.frames) (hRlocals : 2 * g.monitorRoom + ((Value.ref a :: rest).map fun v => v.category).sum + (13 * (names.length + 1) + 41) ≤ R.locals) :
    ∃ (V : State) (ce : Cell) (L : List Loc), Stand p l e R s m₀ args below meth c (V.setCell a ce) (locs ++ L) cells slots ∧ (∀ y ∈ L, y.base = a) ∧ a < V.heap.size ∧ ce.cls = cX ∧ ce.vm = .none ∧
      ∀ target, Steps p.tables e below ((V.setCell a ce).setTop { g with stack := .ref a :: rest, pc := g.pc + 3 }) target → Steps p.tables e below (W.setTop g) target := by
  have howns : e.platform.frameOwnsMonitors = true := by rw [X.admits.platform]
  have hfin : e.platform.finalization = false := by rw [X.admits.platform]
  have hpl : e.platform.magicAccessors = ({} : Platform).magicAccessors := by rw [X.admits.platform]
  have a' : ∀ x, x ∈ Bundle.ownAtoms0 own ic cls names → x.holds args s none s [] = true := fun x hx => h x hx
  obtain ⟨T, Z, L, LZ, Y⟩ := ThrowableC.of_atoms (args := args) howns hfin hpl (fun x hx => h x (by simp [Bundle.ownAtoms0, hx]))
  obtain ⟨P1, Ps, hlen, L1, hL, hP1m, hlink1, hlink⟩ := Bundle.chain0 (args := args) hpl Y.init0 names cls hcls hnames (fun x hx => h x (by simp [Bundle.ownAtoms0, hx]))
  have hfound : s.vm.findClass cls = some P1.m.cls := findClass_of_methodNamed hP1m
  cases Option.some.inj (hfoundX.symm.trans hfound)
  obtain ⟨c1, kX', hc1, hk, hord, -, -, hn6⟩ := Cond.instantiable_spec (a' (.instantiable cls 6) (by simp [Bundle.ownAtoms0]))
  cases Option.some.inj (hc1.symm.trans hfound)
  cases Option.some.inj (hkX.symm.trans hk)
  have hsel0 : selectMethod e.platform s.vm P1.m.cls T.fill0 = .method T.fill0 := by
    obtain ⟨c2, r2, m2, q1, q2, q3, q4, -⟩ := Cond.selects_spec (a' (.selects cls Bundle.tFill0 Bundle.tFill0) (by simp [Bundle.ownAtoms0]))
    cases Option.some.inj (q1.symm.trans hfound)
    cases Option.some.inj (q2.symm.trans (State.methodFound?_of_named Y.fill0 (by decide)))
    cases Option.some.inj (q3.symm.trans Y.fill0)
    rw [Launch.admits_selectMethod X.admits]; exact q4
  have hselF : selectMethod e.platform s.vm P1.m.cls T.fill = .method T.fill := by
    obtain ⟨c2, r2, m2, q1, q2, q3, q4, -⟩ := Cond.selects_spec (a' (.selects cls Bundle.tFill Bundle.tFill) (by simp [Bundle.ownAtoms0]))
    cases Option.some.inj (q1.symm.trans hfound)
    cases Option.some.inj (q2.symm.trans (State.methodFound?_of_named Y.fill (by decide)))
    cases Option.some.inj (q3.symm.trans Y.fill)
    rw [Launch.admits_selectMethod X.admits]; exact q4
  obtain ⟨cellS0, hcS0, hiss⟩ := Y.statics
  obtain ⟨u0, hu0⟩ := Cond.staticRefV Y.unassigned L.unassignedStatic L.statics hcS0 hiss (a' (.isRef (.static Bundle.tN "UNASSIGNED_STACK" Bundle.steD)) (by simp [Bundle.ownAtoms0]))
  obtain ⟨sen, hsen⟩ := Cond.staticRefV Y.sentinel L.sentinelStatic L.statics hcS0 hiss (a' (.isRef (.static Bundle.tN "SUPPRESSED_SENTINEL" Bundle.listD)) (by simp [Bundle.ownAtoms0]))
  obtain ⟨ci198, i198, fB, hk198, hg198, ha198, hsB, -, hnB, htB, hffB⟩ := Cond.ownField (t := .object "java/lang/Object") Y.found L.cls (by decide +kernel) (a' (.fieldLink Bundle.tN 198 Bundle.tN "backtrace" "Ljava/lang/Object;") (by simp [Bundle.ownAtoms0])) (a' (.lays Bundle.tN Bundle.tN "backtrace" "Ljava/lang/Object;") (by simp [Bundle.ownAtoms0])) e.platform hpl
  obtain ⟨cellS, hcS', heS, -, hkeep⟩ := X.same.2.2.2.2.2 T.aS cellS0 hcS0
  have hcellS : W.heap[T.aS]? = some cellS := hcS'
  have hout' : ∀ i, (⟨T.aS, i⟩ : Loc) ∉ locs := fun i hmem => by
    have := hlocs _ hmem cellS0 hcS0
    rw [hiss] at this; cases this
  have hknownS : cellS.vm ≠ .unknown := by
    rw [heS]; intro hu
    rw [show cellS0.vm = .unknown from hu] at hiss
    cases hiss
  have hneS : T.aS ≠ a := Nat.ne_of_lt (Nat.lt_of_lt_of_le (Array.getElem?_eq_some_iff.mp hcS0).1 hnew)
  obtain ⟨iM, hffM⟩ := Y.msg
  obtain ⟨tyC, dC, hdC, hdnC⟩ := Cond.laysAt hfound hk Y.cause (a' (.lays cls Bundle.tN "cause" "Ljava/lang/Throwable;") (by simp [Bundle.ownAtoms0]))
  obtain ⟨tyS, dS, hdS, hdnS⟩ := Cond.laysAt hfound hk Y.stack (a' (.lays cls Bundle.tN "stackTrace" Bundle.steD) (by simp [Bundle.ownAtoms0]))
  obtain ⟨tyP, dP, hdP, hdnP⟩ := Cond.laysAt hfound hk Y.supp (a' (.lays cls Bundle.tN "suppressedExceptions" Bundle.listD) (by simp [Bundle.ownAtoms0]))
  obtain ⟨tyM, dM, hdM, hdnM⟩ := Cond.laysAt hfound hk hffM (a' (.lays cls Bundle.tN "detailMessage" "Ljava/lang/String;") (by simp [Bundle.ownAtoms0]))
  obtain ⟨tyB, dB, hdB, hdnB⟩ := Cond.laysAt hfound hk hffB (a' (.lays cls Bundle.tN "backtrace" "Ljava/lang/Object;") (by simp [Bundle.ownAtoms0]))
  have bC := Cond.laysApart hdB hdC hdnB hdnC (by rw [hnB, Y.causeName]; decide)
  have bS := Cond.laysApart hdB hdS hdnB hdnS (by rw [hnB, Y.stackName]; decide)
  have bP := Cond.laysApart hdB hdP hdnB hdnP (by rw [hnB, Y.suppName]; decide)
  have hskip : SkipFacts T e.platform s (fun u => u) u0 ((preparedCellV T.toThrowableT (freshCell P1.m.cls kX) a u0 sen).withEntry W.cur) :=
    ⟨{ ci198 := ci198, i198 := i198, fBack := fB }, ⟨hk198, hg198, ha198, hsB⟩, by
      have := fresh_default (c := P1.m.cls) tyB
      rw [htB] at this
      simpa [preparedCellV, Cell.setSlot, Cell.withEntry, Array.getElem?_setIfInBounds, bC, bS, bP, bC.symm, bS.symm, bP.symm, defaultValue] using this, fun _ _ => rfl⟩
  obtain ⟨tm, methC, cdC, kC, vm₁, hnC, -, -, -, -, -, -, -, hW₁, st1⟩ := Steps.initCold (tb := p.tables) (e := e) (below := below) (s := s) (U := W) X.here hexec X.warmed hpl hown (t := Bundle.init0 cls) rfl rfl (Bundle.fit_spec hcls).2
    (a' (.methodLink own ic (Bundle.init0 cls)) (by simp [Bundle.ownAtoms0])) (h (.instanceMethod (Bundle.init0 cls)) (by cases names <;> simp [Bundle.ownAtoms0, Bundle.chain0Atoms, Bundle.passAtoms])) (bytes := Bundle.five) (maxL := 1) (h (.code (Bundle.init0 cls) Bundle.five 1 none) (by cases names <;> simp [Bundle.ownAtoms0, Bundle.chain0Atoms, Bundle.passAtoms]))
    (f := g) hg (a := a) (rest := .ref a :: rest) hstack hd6
  cases Option.some.inj (hnC.symm.trans hP1m)
  have X₁ := X.noted hW₁
  obtain ⟨vm₂, X₂, st2⟩ := X₁.ctorPlainOffV hexec (g := { g with stack := .ref a :: rest }) hg hsize T L Z LZ (P1 :: Ps)
    (fun P hP => by rcases List.mem_cons.mp hP with rfl | hP; exact L1; exact hL P hP) ⟨hlink1, hlink⟩ (u0 := u0) (sen := sen) (self := a) (cell := freshCell P1.m.cls kX) (cellS := cellS)
    hcell (fun _ => by simp) (by simp) rfl rfl hsel0 hselF hcellS hneS hknownS (by rw [hkeep _ (hout' _)]; exact hu0) (by rw [hkeep _ (hout' _)]; exact hsen)
    (Takes.of_laid hk hord tyC (by rw [Y.causeType]; rfl)) (Takes.of_laid hk hord tyS (by rw [Y.stackType]; exact fits_refV_array _ u0)) (Takes.of_laid hk hord tyP (by rw [Y.suppType]; exact fits_refV_object _ sen)) Y.objLocals hskip htr [] hd6
    (by simp only [List.length_cons, hlen]; omega) (by simp only [List.length_cons, hlen]; exact hRlocals)
  have hlt : a < ((W.setVm vm₁).setVm vm₂).heap.size := (Array.getElem?_eq_some_iff.mp hcell).1
  refine ⟨(W.setVm vm₁).setVm vm₂, _, _, X₂, fun y hy => ?_, hlt, rfl, rfl, fun target hwalk => st1 _ (fun acts => ?_)⟩
  · simp only [List.mem_cons, List.not_mem_nil, or_false] at hy
    rcases hy with rfl | rfl | rfl | rfl <;> rfl
  · rw [doInvoke_state]
    exact st2 _ hwalk
end VXK
section VXK2
variable {p : Program} {l : Launch} {e : Env} {R : Room} {s : State} {m : MethodId} {args : Array Value} {below : List Frame} {meth : Method} {c : Code} {H : Heap} {locs : List Loc} {cells slots : Nat} {Q : State → Prop}
variable {ls : Array Slot} {rest : List Value} {D : va_G} {cl : List vw_C} {tys : List (ClassId × FieldType)} {ws : va_W}
/-- 'new E("text")' that isn't thrown at once: the object goes on the stack -/
theorem vx_makeS {cc : ByteArray} {pc : Nat} (hexec : p.tables.exec = Jvm.exec) (hb : c.code = cc) (hl : l.stackTraces = false) {own cls text : String} {names : List String} {ik is ic sa ci : Nat} {A : Nat → Prop} {T0 : u_T}
    (hown : s.vm.findClass own = some m.cls) (hcls : Bundle.fit cls = true) (hnames : ∀ n ∈ names, Bundle.fit n = true)
    (hk : (Cond.classLink own ik cls).before args s = true) (hini : (Cond.initialized cls).before args s = true) (hstr : vk_R own is text sa s) (hat : ∀ w ∈ vx_atS own ic cls names, w.before args s = true)
    (hgood : ∀ w ∈ Cond.classLink own ik cls :: Cond.initialized cls :: vx_atS own ic cls names, vx_ot w = true)
    (hU : vx_Zq Bundle.tN "UNASSIGNED_STACK" Bundle.steD A s s.heap) (hN : vx_Zq Bundle.tN "SUPPRESSED_SENTINEL" Bundle.listD A s s.heap) (hS : va_S A s.heap H locs) (hsize : ls.size = c.maxLocals)
    (d0 : decode cc pc = .ok (.new ik, 3)) (d3 : decode cc (pc + 3) = .ok (.dup, 1)) (d4 : decode cc (pc + 4) = .ok (.ldc is, 2)) (d6 : decode cc (pc + 6) = .ok (.invokespecial ic, 3))
    (hK : va_K D cl tys s) (hP : va_P D cl ws H) (hD : va_D A ws) (hA : ∀ q, s.heap.size ≤ q → A q) (hc : cl[ci]? = some (cls, T0, 0))
    (hRframes : names.length + 3 < R.frames) (hRlocals : (rest.map fun v => v.category).sum + (13 * (names.length + 1) + 43) ≤ R.locals) (hRcells : cells + 1 ≤ R.cells) (hRslots : slots + 6 ≤ R.slots)
    (kk : ∀ (q : Nat) (H1 : Heap), va_P D cl (ws ++ [(q, .inr (ci, []))]) H1 → va_D A (ws ++ [(q, .inr (ci, []))]) → va_S A s.heap H1 locs → W p l e R s m args below meth c H1 locs (cells + 1) (slots + 6) Q (F0 m (pc + 9) ls (.ref q :: rest))) :
    W p l e R s m args below meth c H locs cells slots Q (F0 m pc ls rest) := by
  intro T hT X
  subst hT
  have htr : e.platform.stackTraces = false := (show e.platform.stackTraces = l.stackTraces by rw [X.admits.platform]).trans hl
  have Y := vx_rebase X (R' := { frames := R.frames, locals := R.locals, cells := 1, slots := 6 }) (Nat.le_refl _) (Nat.le_refl _) hRcells hRslots
  obtain ⟨s', hA'⟩ : ∃ z, z = (T.setVm s.vm).setFrames (.invoking m args :: below) := ⟨_, rfl⟩
  rw [← hA'] at Y
  have hvm : s'.vm = s.vm := by rw [hA']; rfl
  have hhp : s'.heap = T.heap := by rw [hA']; rfl
  have hW0 : s.WarmedH s'.vm := by rw [hvm]; exact State.WarmedH.refl s
  have hat' : ∀ w ∈ vx_atS own ic cls names, w.before args s' = true := fun w hw => vx_ot_at hW0 hvm.symm (hgood w (List.mem_cons_of_mem _ (List.mem_cons_of_mem _ hw))) (hat w hw)
  have hk' : (Cond.classLink own ik cls).before args s' = true := vx_ot_at hW0 hvm.symm (hgood _ List.mem_cons_self) hk
  have hini' : (Cond.initialized cls).before args s' = true := vx_ot_at hW0 hvm.symm (hgood _ (List.mem_cons_of_mem _ List.mem_cons_self)) hini
  have hU' : vx_Zq Bundle.tN "UNASSIGNED_STACK" Bundle.steD A s' s'.heap := by rw [hhp]; exact vx_Zq.moved hW0.alike (hU.kept hS.2.1)
  have hN' : vx_Zq Bundle.tN "SUPPRESSED_SENTINEL" Bundle.listD A s' s'.heap := by rw [hhp]; exact vx_Zq.moved hW0.alike (hN.kept hS.2.1)
  have h : ∀ w ∈ Bundle.ownAtoms own ic cls names, w.before args s' = true := vx_own hat' (vx_isRefq hU'.1) (vx_isRefq hN'.1) hU'.2.word hN'.2.word
  have hown' : s'.vm.findClass own = some m.cls := by rw [hvm]; exact hown
  have hins : (Cond.instantiable cls 6).before args s' = true := h _ (by simp [Bundle.ownAtoms])
  obtain ⟨vm₁, cX, kX, hfX, hkX, -, -, X₁, st1⟩ := Y.newCold hexec (own := own) (C := cls) (index := ik) (n := 6) hown' hk' hins hini'
    (g := F0 m pc ls rest) rfl (by rw [hb]; exact d0) (Nat.le_refl _) (Nat.le_refl _)
  generalize hT1 : (T.setVm vm₁).pushCell { cls := cX, slots := kX.instanceTypes.map defaultValue, vm := .none } = T1 at X₁ st1
  have hcat : (Value.ref T.heap.size).category = 1 := rfl
  have hcellA : T1.heap[T.heap.size]? = some (freshCell cX kX) := by rw [← hT1]; exact State.heap_pushCell_size _ _
  have d3' : decode c.code (pc + 3) = .ok (.dup, 1) := by rw [hb]; exact d3
  have d4' : decode c.code (pc + 4) = .ok (.ldc is, 2) := by rw [hb]; exact d4
  have hstr' : vk_R own is text sa s' := vk_R.warm hW0 hstr
  obtain ⟨V, ce, L, Z, hL, hlt, hcl9, hvm9, st⟩ := vx_ctorMadeS X₁ hexec htr (own := own) (cls := cls) (names := names) (ic := ic) hown' hcls hnames h (fun x hx => nomatch hx) hfX hkX hcellA (by rw [hhp]; exact Nat.le_refl _) (msg := .ref sa) rfl
    (g := { method := m, pc := pc + 6, locals := ls, stack := .ref sa :: .ref T.heap.size :: .ref T.heap.size :: rest, locked := none }) rfl hsize (rest := rest) rfl
    (by rw [hb]; exact d6) hRframes (by simp only [List.map_cons, List.sum_cons, hcat]; omega)
  have Z0 := Stand.forget (locs := []) Z (fun y hy => by rw [hL y hy, hhp]; exact Nat.le_refl _)
  obtain ⟨f1, f2⟩ := vx_frame Z0.same
  rw [hhp] at f1 f2
  have hcid : ce.cls = D.1 ci := by
    rw [hcl9]
    have h1 := (hK.1 ci _ hc).2.1
    rw [hvm] at hfX
    exact Option.some.inj (hfX.symm.trans h1)
  have hh : (V.setCell T.heap.size ce).heap[T.heap.size]? = some ce := heapAt_setCell_self (s := V) ce hlt
  subst hA'
  have X5 := vx_back9 X Y Z0
  have X6 : Stand p l e R s m args below meth c (V.setCell T.heap.size ce) locs (cells + 1) (slots + 6) := { X5 with same := X5.same.mono (by omega) (by omega) }
  have hk9 : ∀ (k : Nat) (x : Nat × va_E), ws[k]? = some x → (V.setCell T.heap.size ce).heap[x.1]? = T.heap[x.1]? := fun k x hx => f2 x.1 ((hP k x hx).lt) (fun z hz => nomatch hz)
  obtain ⟨t, a1, b1⟩ := kk T.heap.size (V.setCell T.heap.size ce).heap ((hP.kept hk9).app (fun k x hx => by
      have hz : k < 1 := (List.getElem?_eq_some_iff.mp hx).1
      rw [show k = 0 by omega] at hx
      cases hx
      exact ⟨_, hc, ce, hh, hcid, hvm9, fun k hk => absurd hk (Nat.not_lt_zero k)⟩)) (hD.push hP rfl (hA _ hS.1)) ⟨Nat.le_trans hS.1 f1, fun q h1 h2 => (f2 q (Nat.lt_of_lt_of_le h1 hS.1) (fun z hz => nomatch hz)).trans (hS.2.1 q h1 h2), hS.2.2⟩ _ rfl X6
  refine ⟨t, st1 _ ?_, b1⟩
  show Steps p.tables e below (T1.setTop { method := m, pc := pc + 3, locals := ls, stack := .ref T.heap.size :: rest, locked := none }) _
  jvm_step X₁.here [X₁.here.top, hexec, d3', Value.category]
  exact X₁.ldcString hexec (own := own) (text := text) (index := is) (a := sa) hown' hstr'.1 hstr'.2
    (g := { method := m, pc := pc + 4, locals := ls, stack := .ref T.heap.size :: .ref T.heap.size :: rest, locked := none }) rfl d4' _ (st _ a1)
/-- 'new E()' that isn't thrown at once: the object goes on the stack -/
theorem vx_make0 {cc : ByteArray} {pc : Nat} (hexec : p.tables.exec = Jvm.exec) (hb : c.code = cc) (hl : l.stackTraces = false) {own cls : String} {names : List String} {ik ic ci : Nat} {A : Nat → Prop} {T0 : u_T}
    (hown : s.vm.findClass own = some m.cls) (hcls : Bundle.fit cls = true) (hnames : ∀ n ∈ names, Bundle.fit n = true)
    (hk : (Cond.classLink own ik cls).before args s = true) (hini : (Cond.initialized cls).before args s = true) (hat : ∀ w ∈ vx_at0 own ic cls names, w.before args s = true)
    (hgood : ∀ w ∈ Cond.classLink own ik cls :: Cond.initialized cls :: vx_at0 own ic cls names, vx_ot w = true)
    (hU : vx_Zq Bundle.tN "UNASSIGNED_STACK" Bundle.steD A s s.heap) (hN : vx_Zq Bundle.tN "SUPPRESSED_SENTINEL" Bundle.listD A s s.heap) (hS : va_S A s.heap H locs) (hsize : ls.size = c.maxLocals)
    (d0 : decode cc pc = .ok (.new ik, 3)) (d3 : decode cc (pc + 3) = .ok (.dup, 1)) (d4 : decode cc (pc + 4) = .ok (.invokespecial ic, 3))
    (hK : va_K D cl tys s) (hP : va_P D cl ws H) (hD : va_D A ws) (hA : ∀ q, s.heap.size ≤ q → A q) (hc : cl[ci]? = some (cls, T0, 0))
    (hRframes : names.length + 3 < R.frames) (hRlocals : (rest.map fun v => v.category).sum + (13 * (names.length + 1) + 42) ≤ R.locals) (hRcells : cells + 1 ≤ R.cells) (hRslots : slots + 6 ≤ R.slots)
    (kk : ∀ (q : Nat) (H1 : Heap), va_P D cl (ws ++ [(q, .inr (ci, []))]) H1 → va_D A (ws ++ [(q, .inr (ci, []))]) → va_S A s.heap H1 locs → W p l e R s m args below meth c H1 locs (cells + 1) (slots + 6) Q (F0 m (pc + 7) ls (.ref q :: rest))) :
    W p l e R s m args below meth c H locs cells slots Q (F0 m pc ls rest) := by
  intro T hT X
  subst hT
  have htr : e.platform.stackTraces = false := (show e.platform.stackTraces = l.stackTraces by rw [X.admits.platform]).trans hl
  have Y := vx_rebase X (R' := { frames := R.frames, locals := R.locals, cells := 1, slots := 6 }) (Nat.le_refl _) (Nat.le_refl _) hRcells hRslots
  obtain ⟨s', hA'⟩ : ∃ z, z = (T.setVm s.vm).setFrames (.invoking m args :: below) := ⟨_, rfl⟩
  rw [← hA'] at Y
  have hvm : s'.vm = s.vm := by rw [hA']; rfl
  have hhp : s'.heap = T.heap := by rw [hA']; rfl
  have hW0 : s.WarmedH s'.vm := by rw [hvm]; exact State.WarmedH.refl s
  have hat' : ∀ w ∈ vx_at0 own ic cls names, w.before args s' = true := fun w hw => vx_ot_at hW0 hvm.symm (hgood w (List.mem_cons_of_mem _ (List.mem_cons_of_mem _ hw))) (hat w hw)
  have hk' : (Cond.classLink own ik cls).before args s' = true := vx_ot_at hW0 hvm.symm (hgood _ List.mem_cons_self) hk
  have hini' : (Cond.initialized cls).before args s' = true := vx_ot_at hW0 hvm.symm (hgood _ (List.mem_cons_of_mem _ List.mem_cons_self)) hini
  have hU' : vx_Zq Bundle.tN "UNASSIGNED_STACK" Bundle.steD A s' s'.heap := by rw [hhp]; exact vx_Zq.moved hW0.alike (hU.kept hS.2.1)
  have hN' : vx_Zq Bundle.tN "SUPPRESSED_SENTINEL" Bundle.listD A s' s'.heap := by rw [hhp]; exact vx_Zq.moved hW0.alike (hN.kept hS.2.1)
  have h : ∀ w ∈ Bundle.ownAtoms0 own ic cls names, w.before args s' = true := vx_own hat' (vx_isRefq hU'.1) (vx_isRefq hN'.1) hU'.2.word hN'.2.word
  have hown' : s'.vm.findClass own = some m.cls := by rw [hvm]; exact hown
  have hins : (Cond.instantiable cls 6).before args s' = true := h _ (by simp [Bundle.ownAtoms0])
  obtain ⟨vm₁, cX, kX, hfX, hkX, -, -, X₁, st1⟩ := Y.newCold hexec (own := own) (C := cls) (index := ik) (n := 6) hown' hk' hins hini'
    (g := F0 m pc ls rest) rfl (by rw [hb]; exact d0) (Nat.le_refl _) (Nat.le_refl _)
  generalize hT1 : (T.setVm vm₁).pushCell { cls := cX, slots := kX.instanceTypes.map defaultValue, vm := .none } = T1 at X₁ st1
  have hcat : (Value.ref T.heap.size).category = 1 := rfl
  have hcellA : T1.heap[T.heap.size]? = some (freshCell cX kX) := by rw [← hT1]; exact State.heap_pushCell_size _ _
  have d3' : decode c.code (pc + 3) = .ok (.dup, 1) := by rw [hb]; exact d3
  obtain ⟨V, ce, L, Z, hL, hlt, hcl9, hvm9, st⟩ := vx_ctorMade0 X₁ hexec htr (own := own) (cls := cls) (names := names) (ic := ic) hown' hcls hnames h (fun x hx => nomatch hx) hfX hkX hcellA (by rw [hhp]; exact Nat.le_refl _)
    (g := { method := m, pc := pc + 4, locals := ls, stack := .ref T.heap.size :: .ref T.heap.size :: rest, locked := none }) rfl hsize (rest := rest) rfl
    (by rw [hb]; exact d4) hRframes (by simp only [List.map_cons, List.sum_cons, hcat]; omega)
  have Z0 := Stand.forget (locs := []) Z (fun y hy => by rw [hL y hy, hhp]; exact Nat.le_refl _)
  obtain ⟨f1, f2⟩ := vx_frame Z0.same
  rw [hhp] at f1 f2
  have hcid : ce.cls = D.1 ci := by
    rw [hcl9]
    have h1 := (hK.1 ci _ hc).2.1
    rw [hvm] at hfX
    exact Option.some.inj (hfX.symm.trans h1)
  have hh : (V.setCell T.heap.size ce).heap[T.heap.size]? = some ce := heapAt_setCell_self (s := V) ce hlt
  subst hA'
  have X5 := vx_back9 X Y Z0
  have X6 : Stand p l e R s m args below meth c (V.setCell T.heap.size ce) locs (cells + 1) (slots + 6) := { X5 with same := X5.same.mono (by omega) (by omega) }
  have hk9 : ∀ (k : Nat) (x : Nat × va_E), ws[k]? = some x → (V.setCell T.heap.size ce).heap[x.1]? = T.heap[x.1]? := fun k x hx => f2 x.1 ((hP k x hx).lt) (fun z hz => nomatch hz)
  obtain ⟨t, a1, b1⟩ := kk T.heap.size (V.setCell T.heap.size ce).heap ((hP.kept hk9).app (fun k x hx => by
      have hz : k < 1 := (List.getElem?_eq_some_iff.mp hx).1
      rw [show k = 0 by omega] at hx
      cases hx
      exact ⟨_, hc, ce, hh, hcid, hvm9, fun k hk => absurd hk (Nat.not_lt_zero k)⟩)) (hD.push hP rfl (hA _ hS.1)) ⟨Nat.le_trans hS.1 f1, fun q h1 h2 => (f2 q (Nat.lt_of_lt_of_le h1 hS.1) (fun z hz => nomatch hz)).trans (hS.2.1 q h1 h2), hS.2.2⟩ _ rfl X6
  refine ⟨t, st1 _ ?_, b1⟩
  show Steps p.tables e below (T1.setTop { method := m, pc := pc + 3, locals := ls, stack := .ref T.heap.size :: rest, locked := none }) _
  jvm_step X₁.here [X₁.here.top, hexec, d3', Value.category]
  exact st _ a1
/-- 'throw x' of an object that was made before -/
theorem vx_athrow {cc : ByteArray} {pc : Nat} (hexec : p.tables.exec = Jvm.exec) (hb : c.code = cc) {q : Addr} (hdg : decode cc pc = .ok (.athrow, 1)) (k : vx_W p l e R s m args below meth c H locs cells slots Q (F0 m pc ls rest) q) : W p l e R s m args below meth c H locs cells slots Q (F0 m pc ls (.ref q :: rest)) := by
  intro T hT X
  obtain ⟨t, st, hq⟩ := k T hT X
  refine ⟨t, ?_, hq⟩
  have hdg' : decode c.code pc = .ok (.athrow, 1) := by rw [hb]; exact hdg
  jvm_step X.here [X.here.top, hexec, hdg', athrow.wp_sem]
  exact st
end VXK2
/-! ===== END ===== -/
/-! ===== BEGIN a constructor that throws (launches without stack traces) ===== -/
section VXIA
variable {p : Program} {l : Launch} {e : Env} {R : Room} {s : State} {m : MethodId} {args : Array Value} {below : List Frame} {meth : Method} {c : Code} {T : State} {locs : List Loc} {cells slots : Nat}
theorem vx_callI (X : Stand p l e R s m args below meth c T locs cells slots) (hexec : p.tables.exec = Jvm.exec) {own : String} {index : Nat} {y : MethodName} {bytes : ByteArray} {maxL : Nat}
    (hown : s.vm.findClass own = some m.cls) (hy1 : y.name = "<init>") (hlink : (Cond.methodLink own index y).before args s = true) (hinst : (Cond.instanceMethod y).before args s = true)
    (hcode : (Cond.code y bytes maxL none).before args s = true) (hy : y.cls ≠ "java/lang/invoke/MethodHandle" ∧ y.cls ≠ "java/lang/invoke/VarHandle")
    {W9 : Nat} {Pre : Pt → Array Value → Prop} {Post : Pt → Array Value → Option Value → Pt → Prop} {PostX : Pt → Array Value → Addr → Pt → Prop} (hK : vx_Back l R p e below s args y 3 W9 Pre Post PostX)
    {g : JFrame} (hg : g.method = m) (hsize : g.locals.size = c.maxLocals) {a : Addr} {argsL rest : List Value} (hlen : ∀ sig, parseMethodDescriptor y.desc = some sig → argsL.length = sig.parameters.length)
    (hstack : g.stack = argsL.reverse ++ .ref a :: rest) (hW : 2 * g.monitorRoom + (rest.map fun v => v.category).sum ≤ W9) (hdg : decode c.code g.pc = .ok (.invokespecial index, 3))
    (hpre : ∀ vm₁, s.WarmedH vm₁ → Pre ⟨T.setVm vm₁, locs, cells, slots⟩ (Value.ref a :: argsL).toArray) :
    (∃ (v : Option Value) (vm₁ : Vm) (B : Pt), s.WarmedH vm₁ ∧ Stand p l e R s m args below meth c B.U B.locs B.cells B.slots ∧ Post ⟨T.setVm vm₁, locs, cells, slots⟩ (Value.ref a :: argsL).toArray v B ∧
      ∀ target, Steps p.tables e below (B.U.setTop { g with pc := g.pc + 3, stack := v.toList ++ rest }) target → Steps p.tables e below (T.setTop g) target) ∨
    (∃ (q : Addr) (vm₁ : Vm) (B : Pt), s.WarmedH vm₁ ∧ Stand p l e R s m args below meth c B.U B.locs B.cells B.slots ∧ PostX ⟨T.setVm vm₁, locs, cells, slots⟩ (Value.ref a :: argsL).toArray q B ∧
      Steps p.tables e below (T.setTop g) ((B.U.setTop { g with stack := rest }).pushFrame (.throwing q))) := by
  subst hg
  have hpl : e.platform.magicAccessors = ({} : Platform).magicAccessors := by rw [X.admits.platform]
  obtain ⟨mk, methM, cM, kP, vm₁, hnamed, hmethM, hcodeM, -, hlocalsM, -, hkP, -, hW₁, hstep₁⟩ := Steps.initColdArgs (e := e) X.here hexec X.warmed hpl hown hy1 hy hlink hinst hcode (f := g) rfl hlen hstack hdg
  have X₁ := X.noted hW₁
  rcases hK g.method meth c ⟨T.setVm vm₁, locs, cells, slots⟩ { g with stack := rest } (.invokespecial index) mk (Value.ref a :: argsL).toArray X₁ rfl hsize hdg hW (X₁.named hnamed) (hpre vm₁ X₁.warmed) with ⟨v, B, X', hpost, hsteps⟩ | ⟨q, B, X', hpost, hsteps⟩
  · exact Or.inl ⟨v, vm₁, B, X₁.warmed, X', hpost, fun target h => hstep₁ _ fun acts => by rw [doInvoke_state]; exact hsteps.trans h⟩
  · exact Or.inr ⟨q, vm₁, B, X₁.warmed, X', hpost, hstep₁ _ fun acts => by rw [doInvoke_state]; exact hsteps⟩
end VXIA
section VXIB
variable {p : Program} {l : Launch} {e : Env} {R : Room} {s : State} {m : MethodId} {args : Array Value} {below : List Frame} {meth : Method} {c : Code} {H : Heap} {locs : List Loc} {cells slots : Nat}
variable {y : MethodName} {bytes cc : ByteArray} {maxL nL mc ms n index : Nat} {ret : Option FieldType} {ws : List Cond} {rm : Room} {Pc : Array Value → State → Prop} {Qc : Array Value → State → Outcome → State → Prop} {XC : String → State → State → Prop} {free : Addr → Prop} {Ts : List Cond} {own C : String} {b : Addr} {As rest : List Value} {g : JFrame}
theorem vx_runI (S : CallFix p m c cc nL s args Ts own) (hM : vx_Met l y ws rm Pc Qc XC mc ms free) (cw : CallB R s args own index y bytes maxL none ws rm mc ms n ∧ y.name = "<init>" ∧ (Cond.instanceMethod y).before args s = true) (hp : PreS s H Pc (.ref b :: As))
    (hg : g.method = m) (hn : As.length = n) (hsize : g.locals.size = nL) (hstack : g.stack = As.reverse ++ .ref b :: rest) (hW : 2 * g.monitorRoom + (rest.map fun v => v.category).sum ≤ 8) (hdg : decode cc g.pc = .ok (.invokespecial index, 3)) (hf : cells + mc ≤ R.cells ∧ slots + ms ≤ R.slots) :
    vx_Run p l e R s m args below meth c H locs cells slots mc ms g rest (Qc (Value.ref b :: As).toArray) XC free := by
  have hK : vx_Back l R p e below s args y 3 8 (PreOf R mc ms Pc) (PostOf Qc mc ms free) (vx_Post XC mc ms free) := vx_callBack cw.1 hM hp.1
  obtain ⟨⟨-, -, -, -, -, -, hcode, -, hy, hlen, hl⟩, hy1, hin⟩ := cw
  obtain ⟨hx, hb, hml, ho, -⟩ := S
  have hPc := hp.2
  intro T hT X
  rcases vx_callI X hx (bytes := bytes) (maxL := maxL) ho hy1 hl hin hcode hy hK hg (hsize.trans hml.symm) (a := b) (argsL := As) (rest := rest) (fun sig h => hn.trans (hlen sig h)) hstack hW (by rw [hb]; exact hdg)
    (fun vm₁ hW₁ => ⟨hf.1, hf.2, hPc (T.setVm vm₁) hT hW₁⟩) with ⟨v, vm₁, ⟨U', l2, c2, s2⟩, hW₁, X', ⟨g', mk, t, L, e1, e2, hq, h1, hL, h2, h3⟩, st⟩ | ⟨q, vm₁, ⟨U', l2, c2, s2⟩, hW₁, X', ⟨g', mk, t, L, E, ce, e1, e2, hq, hce, hcv, hcl, h1, hL, h2, h3⟩, st⟩
  · dsimp only [Pt.U, Pt.locs, Pt.cells, Pt.slots] at X' e1 e2 h1 h2 h3 st
    subst h1; subst h2; subst h3
    exact Or.inl ⟨v, (T.setVm vm₁).calling g' mk (Value.ref b :: As).toArray, t, U', L, hT, X', hL, e1, e2, hq, st⟩
  · dsimp only [Pt.U, Pt.locs, Pt.cells, Pt.slots] at X' e1 e2 h1 h2 h3 st hcl
    subst h1; subst h2; subst h3
    exact Or.inr ⟨q, (T.setVm vm₁).calling g' mk (Value.ref b :: As).toArray, t, U', L, E, ce, hT, X', hL, e1, e2, hq, hce, hcv, vx_cls hW₁ hcl, st⟩
end VXIB
/-! ===== END ===== -/
/-! ===== BEGIN a private constructor of a nest mate that throws ===== -/
section VXIC
variable {p : Program} {l : Launch} {e : Env} {R : Room} {s : State} {m : MethodId} {args : Array Value} {below : List Frame} {meth : Method} {c : Code} {T : State} {locs : List Loc} {cells slots : Nat}
theorem vx_callIN (X : Stand p l e R s m args below meth c T locs cells slots) (hexec : p.tables.exec = Jvm.exec) {own : String} {index : Nat} {host : String} {y : MethodName} {bytes : ByteArray} {maxL : Nat}
    (hown : s.vm.findClass own = some m.cls) (hy1 : y.name = "<init>") (hlink : (Cond.methodLinkNest own index y host).before args s = true) (hinst : (Cond.instanceMethod y).before args s = true)
    (hcode : (Cond.code y bytes maxL none).before args s = true) (hy : y.cls ≠ "java/lang/invoke/MethodHandle" ∧ y.cls ≠ "java/lang/invoke/VarHandle")
    {W9 : Nat} {Pre : Pt → Array Value → Prop} {Post : Pt → Array Value → Option Value → Pt → Prop} {PostX : Pt → Array Value → Addr → Pt → Prop} (hK : vx_Back l R p e below s args y 3 W9 Pre Post PostX)
    {g : JFrame} (hg : g.method = m) (hsize : g.locals.size = c.maxLocals) {a : Addr} {argsL rest : List Value} (hlen : ∀ sig, parseMethodDescriptor y.desc = some sig → argsL.length = sig.parameters.length)
    (hstack : g.stack = argsL.reverse ++ .ref a :: rest) (hW : 2 * g.monitorRoom + (rest.map fun v => v.category).sum ≤ W9) (hdg : decode c.code g.pc = .ok (.invokespecial index, 3))
    (hpre : ∀ vm₁, s.WarmedH vm₁ → Pre ⟨T.setVm vm₁, locs, cells, slots⟩ (Value.ref a :: argsL).toArray) :
    (∃ (v : Option Value) (vm₁ : Vm) (B : Pt), s.WarmedH vm₁ ∧ Stand p l e R s m args below meth c B.U B.locs B.cells B.slots ∧ Post ⟨T.setVm vm₁, locs, cells, slots⟩ (Value.ref a :: argsL).toArray v B ∧
      ∀ target, Steps p.tables e below (B.U.setTop { g with pc := g.pc + 3, stack := v.toList ++ rest }) target → Steps p.tables e below (T.setTop g) target) ∨
    (∃ (q : Addr) (vm₁ : Vm) (B : Pt), s.WarmedH vm₁ ∧ Stand p l e R s m args below meth c B.U B.locs B.cells B.slots ∧ PostX ⟨T.setVm vm₁, locs, cells, slots⟩ (Value.ref a :: argsL).toArray q B ∧
      Steps p.tables e below (T.setTop g) ((B.U.setTop { g with stack := rest }).pushFrame (.throwing q))) := by
  subst hg
  have hpl : e.platform.magicAccessors = ({} : Platform).magicAccessors := by rw [X.admits.platform]
  obtain ⟨mk, methM, cM, kP, vm₁, hnamed, hmethM, hcodeM, -, hlocalsM, -, hkP, -, hW₁, hstep₁⟩ := Steps.initColdArgsNest (e := e) X.here hexec X.warmed hpl hown hy1 hy hlink hinst hcode (f := g) rfl hlen hstack hdg
  have X₁ := X.noted hW₁
  rcases hK g.method meth c ⟨T.setVm vm₁, locs, cells, slots⟩ { g with stack := rest } (.invokespecial index) mk (Value.ref a :: argsL).toArray X₁ rfl hsize hdg hW (X₁.named hnamed) (hpre vm₁ X₁.warmed) with ⟨v, B, X', hpost, hsteps⟩ | ⟨q, B, X', hpost, hsteps⟩
  · exact Or.inl ⟨v, vm₁, B, X₁.warmed, X', hpost, fun target h => hstep₁ _ fun acts => by rw [doInvoke_state]; exact hsteps.trans h⟩
  · exact Or.inr ⟨q, vm₁, B, X₁.warmed, X', hpost, hstep₁ _ fun acts => by rw [doInvoke_state]; exact hsteps⟩
end VXIC
section VXID
variable {p : Program} {l : Launch} {e : Env} {R : Room} {s : State} {m : MethodId} {args : Array Value} {below : List Frame} {meth : Method} {c : Code} {H : Heap} {locs : List Loc} {cells slots : Nat}
theorem vx_runIN {y : MethodName} {bytes cc : ByteArray} {maxL nL mc ms n index : Nat} {ws : List Cond} {rm : Room} {Pc : Array Value → State → Prop} {Qc : Array Value → State → Outcome → State → Prop} {XC : String → State → State → Prop} {free : Addr → Prop} {Ts : List Cond} {own host : String} {b : Addr} {As rest : List Value} {g : JFrame}
    (S : CallFix p m c cc nL s args Ts own) (hM : vx_Met l y ws rm Pc Qc XC mc ms free) (cw : va_CN R s args own index y host bytes maxL none ws rm mc ms n ∧ y.name = "<init>" ∧ (Cond.instanceMethod y).before args s = true) (hp : PreS s H Pc (.ref b :: As))
    (hg : g.method = m) (hn : As.length = n) (hsize : g.locals.size = nL) (hstack : g.stack = As.reverse ++ .ref b :: rest) (hW : 2 * g.monitorRoom + (rest.map fun v => v.category).sum ≤ 8) (hdg : decode cc g.pc = .ok (.invokespecial index, 3)) (hf : cells + mc ≤ R.cells ∧ slots + ms ≤ R.slots) :
    vx_Run p l e R s m args below meth c H locs cells slots mc ms g rest (Qc (Value.ref b :: As).toArray) XC free := by
  obtain ⟨⟨⟨hrc, hrs, hfr, hlo, hws, hcw⟩, hcode, hini, hy, hlen, hl⟩, hx1, hx2⟩ := cw
  have hK : vx_Back l R p e below s args y 3 8 (PreOf R mc ms Pc) (PostOf Qc mc ms free) (vx_Post XC mc ms free) := vx_back (bytes := bytes) (maxL := maxL) (ret := none) hM hp.1 hrc hrs hfr hlo hws hcw (fun a' U hW => word_at hW (Or.inl (by first | rfl | simp [Cond.onTables, Cond.keeps, Cond.steady])) hini)
  obtain ⟨hx, hb, hml, ho, -⟩ := S
  have hPc := hp.2
  intro T hT X
  rcases vx_callIN X hx (bytes := bytes) (maxL := maxL) ho hx1 hl hx2 hcode hy hK hg (hsize.trans hml.symm) (a := b) (argsL := As) (rest := rest) (fun sig h => hn.trans (hlen sig h)) hstack hW (by rw [hb]; exact hdg)
    (fun vm₁ hW₁ => ⟨hf.1, hf.2, hPc (T.setVm vm₁) hT hW₁⟩) with ⟨v, vm₁, ⟨U', l2, c2, s2⟩, hW₁, X', ⟨g', mk, t, L, e1, e2, hq, h1, hL, h2, h3⟩, st⟩ | ⟨q, vm₁, ⟨U', l2, c2, s2⟩, hW₁, X', ⟨g', mk, t, L, E, ce, e1, e2, hq, hce, hcv, hcl, h1, hL, h2, h3⟩, st⟩
  · dsimp only [Pt.U, Pt.locs, Pt.cells, Pt.slots] at X' e1 e2 h1 h2 h3 st
    subst h1; subst h2; subst h3
    exact Or.inl ⟨v, (T.setVm vm₁).calling g' mk (Value.ref b :: As).toArray, t, U', L, hT, X', hL, e1, e2, hq, st⟩
  · dsimp only [Pt.U, Pt.locs, Pt.cells, Pt.slots] at X' e1 e2 h1 h2 h3 st hcl
    subst h1; subst h2; subst h3
    exact Or.inr ⟨q, (T.setVm vm₁).calling g' mk (Value.ref b :: As).toArray, t, U', L, E, ce, hT, X', hL, e1, e2, hq, hce, hcv, vx_cls hW₁ hcl, st⟩
end VXID
/-! ===== END ===== -/
/-! ===== BEGIN a method of a class above, found by the receiver, that may throw (follows va_callVU, va_runU of this kit) ===== -/
section
variable {p : Program} {l : Launch} {e : Env} {R : Room} {s : State} {m : MethodId} {args : Array Value} {below : List Frame} {meth : Method} {c : Code} {H : Heap} {locs : List Loc} {cells slots : Nat}
theorem vx_callVU {T : State} {locs : List Loc} {cells slots : Nat} (X : Stand p l e R s m args below meth c T locs cells slots) (hexec : p.tables.exec = Jvm.exec) {own C owner : String} {index : Nat} {x y : MethodName} {bytes : ByteArray} {maxL : Nat} {ret : Option FieldType}
    (hown : s.vm.findClass own = some m.cls) (hlink : (Cond.methodLink own index x).before args s = true) (hsame : (Cond.sameMethod x.cls owner x.name x.desc).before args s = true)
    (hd0 : va_Decl s ⟨owner, x.name, x.desc⟩) (howner : owner ≠ "java/lang/invoke/MethodHandle" ∧ owner ≠ "java/lang/invoke/VarHandle")
    (hsel : (Cond.selects C x y).before args s = true) (hinst : (Cond.instanceMethod y).before args s = true) (hcode : (Cond.code y bytes maxL ret).before args s = true)
    {W : Nat} {Pre : Pt → Array Value → Prop} {Post : Pt → Array Value → Option Value → Pt → Prop} {PostX : Pt → Array Value → Addr → Pt → Prop} (hK : vx_Back l R p e below s args y 3 W Pre Post PostX)
    {b : Addr} {cellB : Cell} (hcell : T.heap[b]? = some cellB) (hobj : cellB.vm.isStatics = false) (hcls : s.vm.findClass C = some cellB.cls)
    {g : JFrame} (hg : g.method = m) (hsize : g.locals.size = c.maxLocals) {argsL rest : List Value} (hlen : ∀ sig, parseMethodDescriptor x.desc = some sig → argsL.length = sig.parameters.length)
    (hstack : g.stack = argsL.reverse ++ .ref b :: rest) (hW : 2 * g.monitorRoom + (rest.map fun v => v.category).sum ≤ W) (hdg : decode c.code g.pc = .ok (.invokevirtual index, 3))
    (hpre : ∀ vm₁, s.WarmedH vm₁ → Pre ⟨T.setVm vm₁, locs, cells, slots⟩ (Value.ref b :: argsL).toArray) :
    (∃ (v : Option Value) (vm₁ : Vm) (B : Pt), s.WarmedH vm₁ ∧ Stand p l e R s m args below meth c B.U B.locs B.cells B.slots ∧ Post ⟨T.setVm vm₁, locs, cells, slots⟩ (Value.ref b :: argsL).toArray v B ∧
      ∀ target, Steps p.tables e below (B.U.setTop { g with pc := g.pc + 3, stack := v.toList ++ rest }) target → Steps p.tables e below (T.setTop g) target) ∨
    (∃ (q : Addr) (vm₁ : Vm) (B : Pt), s.WarmedH vm₁ ∧ Stand p l e R s m args below meth c B.U B.locs B.cells B.slots ∧ PostX ⟨T.setVm vm₁, locs, cells, slots⟩ (Value.ref b :: argsL).toArray q B ∧
      Steps p.tables e below (T.setTop g) ((B.U.setTop { g with stack := rest }).pushFrame (.throwing q))) := by
  obtain ⟨r0, r, hn, hrm, hstR, hsigR⟩ := hd0
  obtain ⟨cn, ck, r1, hcn, hck, hni, hf, hn1⟩ := Cond.sameMethod_found hsame
  cases hn.symm.trans hn1
  obtain ⟨mk, methM, hnamed, hmethM, -, habM⟩ := Cond.instanceMethod_spec hinst
  obtain ⟨c2, r2, m2, q1, q2, q3, q4, kP, hkP, hkPi⟩ := Cond.selects_spec hsel
  cases hcls.symm.trans q1
  cases hf.symm.trans q2
  cases hnamed.symm.trans q3
  have hselP : selectMethod e.platform s.vm cellB.cls r0 = .method mk := by rw [Launch.admits_selectMethod X.admits]; exact q4
  obtain ⟨vm₁, X₁, hstep₁⟩ := X.invokevirtualUp hexec hown hlink hsame howner hn hrm hstR (a := b) (cell := cellB) hcell
    (fun z h => by rw [h] at hobj; cases hobj) hselP hmethM habM hkP hkPi (g := g) hg (argsL := argsL) (rest := rest) (hlen _ hsigR) hstack hdg
  rcases hK m meth c ⟨T.setVm vm₁, locs, cells, slots⟩ { g with stack := rest } (.invokevirtual index) mk (Value.ref b :: argsL).toArray X₁ hg hsize hdg hW (X₁.named hnamed) (hpre vm₁ X₁.warmed) with ⟨v, B, X', hpost, hsteps⟩ | ⟨q, B, X', hpost, hsteps⟩
  · exact Or.inl ⟨v, vm₁, B, X₁.warmed, X', hpost, fun target h => hstep₁ _ fun acts => by rw [doInvoke_state]; exact hsteps.trans h⟩
  · exact Or.inr ⟨q, vm₁, B, X₁.warmed, X', hpost, hstep₁ _ fun acts => by rw [doInvoke_state]; exact hsteps⟩
theorem vx_runU {x y : MethodName} {bytes cc : ByteArray} {maxL nL mc ms n index : Nat} {ret : Option FieldType} {ws : List Cond} {rm : Room} {Pc : Array Value → State → Prop} {Qc : Array Value → State → Outcome → State → Prop} {XC : String → State → State → Prop} {free : Addr → Prop} {Ts : List Cond} {own C owner : String} {b : Addr} {As rest : List Value} {g : JFrame}
    (S : CallFix p m c cc nL s args Ts own) (hM : vx_Met l y ws rm Pc Qc XC mc ms free) (cw : va_CU R s args own C owner index x y bytes maxL ret ws rm mc ms n) (hp : PreV s H C b Pc As)
    (hg : g.method = m) (hn : As.length = n) (hsize : g.locals.size = nL) (hstack : g.stack = As.reverse ++ .ref b :: rest) (hW : 2 * g.monitorRoom + (rest.map fun v => v.category).sum ≤ 8) (hdg : decode cc g.pc = .ok (.invokevirtual index, 3)) (hf : cells + mc ≤ R.cells ∧ slots + ms ≤ R.slots) :
    vx_Run p l e R s m args below meth c H locs cells slots mc ms g rest (Qc (Value.ref b :: As).toArray) XC free := by
  obtain ⟨hrc, hrs, hfr, hlo, hws, hcw⟩ := cw.back
  have hini := cw.init
  have hK : vx_Back l R p e below s args y 3 8 (PreOf R mc ms Pc) (PostOf Qc mc ms free) (vx_Post XC mc ms free) := vx_back (bytes := bytes) (maxL := maxL) (ret := ret) hM hp.1 hrc hrs hfr hlo hws hcw (fun a' U hW => word_at hW (Or.inl (by first | rfl | simp [Cond.onTables, Cond.keeps, Cond.steady])) hini)
  obtain ⟨hx, hb, hml, ho, -⟩ := S
  obtain ⟨-, ⟨cellB, hcB, hoB, hclB⟩, hPc⟩ := hp
  intro T hT X
  rcases vx_callVU X hx (C := C) (owner := owner) (bytes := bytes) (maxL := maxL) (ret := ret) ho cw.link cw.same cw.decl cw.notMH cw.sel cw.inst cw.code hK (by rw [hT]; exact hcB) hoB hclB hg (hsize.trans hml.symm) (argsL := As) (rest := rest) (fun sig h => hn.trans (cw.len sig h)) hstack hW (by rw [hb]; exact hdg)
    (fun vm₁ hW₁ => ⟨hf.1, hf.2, hPc (T.setVm vm₁) hT hW₁⟩) with ⟨v, vm₁, ⟨U', l2, c2, s2⟩, hW₁, X', ⟨g', mk, t, L, e1, e2, hq, h1, hL, h2, h3⟩, st⟩ | ⟨q, vm₁, ⟨U', l2, c2, s2⟩, hW₁, X', ⟨g', mk, t, L, E, ce, e1, e2, hq, hce, hcv, hcl, h1, hL, h2, h3⟩, st⟩
  · dsimp only [Pt.U, Pt.locs, Pt.cells, Pt.slots] at X' e1 e2 h1 h2 h3 st
    subst h1; subst h2; subst h3
    exact Or.inl ⟨v, (T.setVm vm₁).calling g' mk (Value.ref b :: As).toArray, t, U', L, hT, X', hL, e1, e2, hq, st⟩
  · dsimp only [Pt.U, Pt.locs, Pt.cells, Pt.slots] at X' e1 e2 h1 h2 h3 st hcl
    subst h1; subst h2; subst h3
    exact Or.inr ⟨q, (T.setVm vm₁).calling g' mk (Value.ref b :: As).toArray, t, U', L, E, ce, hT, X', hL, e1, e2, hq, hce, hcv, vx_cls hW₁ hcl, st⟩
end
/-! ===== END ===== -/
/-! ===== BEGIN super.m(..) that may throw (follows va_callSU, va_runSU) ===== -/
section
variable {p : Program} {l : Launch} {e : Env} {R : Room} {s : State} {m : MethodId} {args : Array Value} {below : List Frame} {meth : Method} {c : Code} {H : Heap} {locs : List Loc} {cells slots : Nat}
theorem vx_callSU {T : State} {locs : List Loc} {cells slots : Nat} (X : Stand p l e R s m args below meth c T locs cells slots) (hexec : p.tables.exec = Jvm.exec) {own : String} {index : Nat} {y : MethodName} {bytes : ByteArray} {maxL : Nat} {ret : Option FieldType}
    (hown : s.vm.findClass own = some m.cls) (hlink : (Cond.methodLink own index y).before args s = true) (hsame : (Cond.sameMethod y.cls y.cls y.name y.desc).before args s = true) (hsup : (Cond.superclass own y.cls).before args s = true)
    (hinst : (Cond.instanceMethod y).before args s = true) (hcode : (Cond.code y bytes maxL ret).before args s = true) (hno : y.name ≠ "<init>")
    {W : Nat} {Pre : Pt → Array Value → Prop} {Post : Pt → Array Value → Option Value → Pt → Prop} {PostX : Pt → Array Value → Addr → Pt → Prop} (hK : vx_Back l R p e below s args y 3 W Pre Post PostX)
    {b : Addr} {cellB : Cell} {kB : Class} (hcell : T.heap[b]? = some cellB) (hobj : cellB.vm.isStatics = false) (hkB : s.vm.classes[cellB.cls]? = some kB)
    {g : JFrame} (hg : g.method = m) (hsize : g.locals.size = c.maxLocals) {argsL rest : List Value} (hlen : ∀ sig, parseMethodDescriptor y.desc = some sig → argsL.length = sig.parameters.length)
    (hstack : g.stack = argsL.reverse ++ .ref b :: rest) (hW : 2 * g.monitorRoom + (rest.map fun v => v.category).sum ≤ W) (hdg : decode c.code g.pc = .ok (.invokespecial index, 3))
    (hpre : ∀ vm₁, s.WarmedH vm₁ → Pre ⟨T.setVm vm₁, locs, cells, slots⟩ (Value.ref b :: argsL).toArray) :
    (∃ (v : Option Value) (vm₁ : Vm) (B : Pt), s.WarmedH vm₁ ∧ Stand p l e R s m args below meth c B.U B.locs B.cells B.slots ∧ Post ⟨T.setVm vm₁, locs, cells, slots⟩ (Value.ref b :: argsL).toArray v B ∧
      ∀ target, Steps p.tables e below (B.U.setTop { g with pc := g.pc + 3, stack := v.toList ++ rest }) target → Steps p.tables e below (T.setTop g) target) ∨
    (∃ (q : Addr) (vm₁ : Vm) (B : Pt), s.WarmedH vm₁ ∧ Stand p l e R s m args below meth c B.U B.locs B.cells B.slots ∧ PostX ⟨T.setVm vm₁, locs, cells, slots⟩ (Value.ref b :: argsL).toArray q B ∧
      Steps p.tables e below (T.setTop g) ((B.U.setTop { g with stack := rest }).pushFrame (.throwing q))) := by
  obtain ⟨mk, methM, hnamed, hmethM, hstM, habM⟩ := Cond.instanceMethod_spec hinst
  obtain ⟨methM', cM, hmethM', -, -, -, -, -, -, hsigM⟩ := Cond.code_spec hnamed hcode
  cases hmethM.symm.trans hmethM'
  obtain ⟨ps, dk, kp, hps, hdk, hkp, hsuper, -, -, hnid⟩ := Cond.superclass_spec hown hsup
  have hn : s.methodNamed? ⟨y.cls, y.name, y.desc⟩ = some mk := hnamed
  have hpm : ps = mk.cls := Option.some.inj (hps.symm.trans (findClass_of_methodNamed hnamed))
  have hsub : s.vm.isSubclass ps mk.cls = true := by rw [hpm]; simp [Vm.isSubclass, Vm.isSubclassAux]
  obtain ⟨vm₁, X₁, hstep₁⟩ := X.invokespecialUp hexec hown hlink hsame hn hmethM hstM habM hno hdk hnid hps hsuper hsub (a := b) (cell := cellB) hcell
    (fun z h => by rw [h] at hobj; cases hobj) hkB (g := g) hg (argsL := argsL) (rest := rest) (hlen _ hsigM) hstack hdg
  rcases hK m meth c ⟨T.setVm vm₁, locs, cells, slots⟩ { g with stack := rest } (.invokespecial index) mk (Value.ref b :: argsL).toArray X₁ hg hsize hdg hW (X₁.named hnamed) (hpre vm₁ X₁.warmed) with ⟨v, B, X', hpost, hsteps⟩ | ⟨q, B, X', hpost, hsteps⟩
  · exact Or.inl ⟨v, vm₁, B, X₁.warmed, X', hpost, fun target h => hstep₁ _ (by rw [doInvoke_state]; exact hsteps.trans h)⟩
  · exact Or.inr ⟨q, vm₁, B, X₁.warmed, X', hpost, hstep₁ _ (by rw [doInvoke_state]; exact hsteps)⟩
theorem vx_runSU {y : MethodName} {bytes cc : ByteArray} {maxL nL mc ms n index : Nat} {ret : Option FieldType} {ws : List Cond} {rm : Room} {Pc : Array Value → State → Prop} {Qc : Array Value → State → Outcome → State → Prop} {XC : String → State → State → Prop} {free : Addr → Prop} {Ts : List Cond} {own C : String} {cC : ClassId} {b : Addr} {As rest : List Value} {g : JFrame}
    (hat : ClassAt s C cC) (S : CallFix p m c cc nL s args Ts own) (hM : vx_Met l y ws rm Pc Qc XC mc ms free) (cw : va_CS R s args own index y bytes maxL ret ws rm mc ms n) (hp : PreV s H C b Pc As)
    (hg : g.method = m) (hn : As.length = n) (hsize : g.locals.size = nL) (hstack : g.stack = As.reverse ++ .ref b :: rest) (hW : 2 * g.monitorRoom + (rest.map fun v => v.category).sum ≤ 8) (hdg : decode cc g.pc = .ok (.invokespecial index, 3)) (hf : cells + mc ≤ R.cells ∧ slots + ms ≤ R.slots) :
    vx_Run p l e R s m args below meth c H locs cells slots mc ms g rest (Qc (Value.ref b :: As).toArray) XC free := by
  obtain ⟨⟨hrc, hrs, hfr, hlo, hws, hcw⟩, hl1, hl2, hl3, hl4, hini, hcode, hno, hlen⟩ := cw
  have hK : vx_Back l R p e below s args y 3 8 (PreOf R mc ms Pc) (PostOf Qc mc ms free) (vx_Post XC mc ms free) := vx_back (bytes := bytes) (maxL := maxL) (ret := ret) hM hp.1 hrc hrs hfr hlo hws hcw (fun a' U hW => word_at hW (Or.inl (by first | rfl | simp [Cond.onTables, Cond.keeps, Cond.steady])) hini)
  obtain ⟨hx, hb, hml, ho, -⟩ := S
  obtain ⟨-, ⟨cellB, hcB, hoB, hclB⟩, hPc⟩ := hp
  obtain ⟨hfc, kB, hkB, -⟩ := hat
  cases hfc.symm.trans hclB
  intro T hT X
  rcases vx_callSU X hx (bytes := bytes) (maxL := maxL) (ret := ret) ho hl1 hl2 hl3 hl4 hcode hno hK (by rw [hT]; exact hcB) hoB hkB hg (hsize.trans hml.symm) (argsL := As) (rest := rest) (fun sig h => hn.trans (hlen sig h)) hstack hW (by rw [hb]; exact hdg)
    (fun vm₁ hW₁ => ⟨hf.1, hf.2, hPc (T.setVm vm₁) hT hW₁⟩) with ⟨v, vm₁, ⟨U', l2, c2, s2⟩, hW₁, X', ⟨g', mk, t, L, e1, e2, hq, h1, hL, h2, h3⟩, st⟩ | ⟨q, vm₁, ⟨U', l2, c2, s2⟩, hW₁, X', ⟨g', mk, t, L, E, ce, e1, e2, hq, hce, hcv, hcl, h1, hL, h2, h3⟩, st⟩
  · dsimp only [Pt.U, Pt.locs, Pt.cells, Pt.slots] at X' e1 e2 h1 h2 h3 st
    subst h1; subst h2; subst h3
    exact Or.inl ⟨v, (T.setVm vm₁).calling g' mk (Value.ref b :: As).toArray, t, U', L, hT, X', hL, e1, e2, hq, st⟩
  · dsimp only [Pt.U, Pt.locs, Pt.cells, Pt.slots] at X' e1 e2 h1 h2 h3 st hcl
    subst h1; subst h2; subst h3
    exact Or.inr ⟨q, (T.setVm vm₁).calling g' mk (Value.ref b :: As).toArray, t, U', L, E, ce, hT, X', hL, e1, e2, hq, hce, hcv, vx_cls hW₁ hcl, st⟩
end
/-! ===== END ===== -/
/-! ===== BEGIN a private method of a nest mate that may throw (follows va_callVN, va_callSN, va_runVN, va_runSN) ===== -/
section
variable {p : Program} {l : Launch} {e : Env} {R : Room} {s : State} {m : MethodId} {args : Array Value} {below : List Frame} {meth : Method} {c : Code} {H : Heap} {locs : List Loc} {cells slots : Nat}
variable {T : State}
theorem vx_callVN (X : Stand p l e R s m args below meth c T locs cells slots) (hexec : p.tables.exec = Jvm.exec) {own C : String} {index : Nat} {host : String} {y : MethodName} {bytes : ByteArray} {maxL : Nat} {ret : Option FieldType}
    (hown : s.vm.findClass own = some m.cls) (hlink : (Cond.methodLinkNest own index y host).before args s = true) (hinst : (Cond.instanceMethod y).before args s = true) (hsel : (Cond.selects C y y).before args s = true)
    (hcode : (Cond.code y bytes maxL ret).before args s = true) (hy : y.cls ≠ "java/lang/invoke/MethodHandle" ∧ y.cls ≠ "java/lang/invoke/VarHandle")
    {W : Nat} {Pre : Pt → Array Value → Prop} {Post : Pt → Array Value → Option Value → Pt → Prop} {PostX : Pt → Array Value → Addr → Pt → Prop} (hK : vx_Back l R p e below s args y 3 W Pre Post PostX)
    {b : Addr} {cellB : Cell} (hcell : T.heap[b]? = some cellB) (hobj : cellB.vm.isStatics = false) (hcls : s.vm.findClass C = some cellB.cls)
    {g : JFrame} (hg : g.method = m) (hsize : g.locals.size = c.maxLocals) {argsL rest : List Value} (hlen : ∀ sig, parseMethodDescriptor y.desc = some sig → argsL.length = sig.parameters.length)
    (hstack : g.stack = argsL.reverse ++ .ref b :: rest) (hW : 2 * g.monitorRoom + (rest.map fun v => v.category).sum ≤ W) (hdg : decode c.code g.pc = .ok (.invokevirtual index, 3))
    (hpre : ∀ vm₁, s.WarmedH vm₁ → Pre ⟨T.setVm vm₁, locs, cells, slots⟩ (Value.ref b :: argsL).toArray) :
    (∃ (v : Option Value) (vm₁ : Vm) (B : Pt), s.WarmedH vm₁ ∧ Stand p l e R s m args below meth c B.U B.locs B.cells B.slots ∧ Post ⟨T.setVm vm₁, locs, cells, slots⟩ (Value.ref b :: argsL).toArray v B ∧
      ∀ target, Steps p.tables e below (B.U.setTop { g with pc := g.pc + 3, stack := v.toList ++ rest }) target → Steps p.tables e below (T.setTop g) target) ∨
    (∃ (q : Addr) (vm₁ : Vm) (B : Pt), s.WarmedH vm₁ ∧ Stand p l e R s m args below meth c B.U B.locs B.cells B.slots ∧ PostX ⟨T.setVm vm₁, locs, cells, slots⟩ (Value.ref b :: argsL).toArray q B ∧
      Steps p.tables e below (T.setTop g) ((B.U.setTop { g with stack := rest }).pushFrame (.throwing q))) := by
  obtain ⟨mk, methM, hnamed, hmethM, hstM, habM⟩ := Cond.instanceMethod_spec hinst
  obtain ⟨methM', cM, hmethM', -, -, -, -, -, -, hsigM⟩ := Cond.code_spec hnamed hcode
  cases hmethM.symm.trans hmethM'
  obtain ⟨c2, r2, m2, q1, q2, q3, q4, kP, hkP, hkPi⟩ := Cond.selects_spec hsel
  cases hcls.symm.trans q1
  cases (State.methodFound?_of_named hnamed hy).symm.trans q2
  cases hnamed.symm.trans q3
  have hselP : selectMethod e.platform s.vm cellB.cls mk = .method mk := by rw [Launch.admits_selectMethod X.admits]; exact q4
  obtain ⟨vm₁, X₁, hstep₁⟩ := X.invokevirtualNest hexec hown hlink hnamed hmethM hstM hkP hkPi hy (a := b) (cell := cellB) hcell
    (fun z h => by rw [h] at hobj; cases hobj) hselP hmethM habM hkP hkPi (g := g) hg (argsL := argsL) (rest := rest) (hlen _ hsigM) hstack hdg
  rcases hK m meth c ⟨T.setVm vm₁, locs, cells, slots⟩ { g with stack := rest } (.invokevirtual index) mk (Value.ref b :: argsL).toArray X₁ hg hsize hdg hW (X₁.named hnamed) (hpre vm₁ X₁.warmed) with ⟨v, B, X', hpost, hsteps⟩ | ⟨q, B, X', hpost, hsteps⟩
  · exact Or.inl ⟨v, vm₁, B, X₁.warmed, X', hpost, fun target h => hstep₁ _ fun acts => by rw [doInvoke_state]; exact hsteps.trans h⟩
  · exact Or.inr ⟨q, vm₁, B, X₁.warmed, X', hpost, hstep₁ _ fun acts => by rw [doInvoke_state]; exact hsteps⟩
theorem vx_callSN (X : Stand p l e R s m args below meth c T locs cells slots) (hexec : p.tables.exec = Jvm.exec) {own : String} {index : Nat} {host : String} {y : MethodName} {bytes : ByteArray} {maxL : Nat} {ret : Option FieldType}
    (hown : s.vm.findClass own = some m.cls) (hlink : (Cond.methodLinkNest own index y host).before args s = true) (hstat : (Cond.static y).before args s = true) (hinit : (Cond.initialized y.cls).before args s = true)
    (hcode : (Cond.code y bytes maxL ret).before args s = true) (hy : y.cls ≠ "java/lang/invoke/MethodHandle" ∧ y.cls ≠ "java/lang/invoke/VarHandle")
    {W : Nat} {Pre : Pt → Array Value → Prop} {Post : Pt → Array Value → Option Value → Pt → Prop} {PostX : Pt → Array Value → Addr → Pt → Prop} (hK : vx_Back l R p e below s args y 3 W Pre Post PostX)
    {g : JFrame} (hg : g.method = m) (hsize : g.locals.size = c.maxLocals) {argsL rest : List Value} (hlen : ∀ sig, parseMethodDescriptor y.desc = some sig → argsL.length = sig.parameters.length)
    (hstack : g.stack = argsL.reverse ++ rest) (hW : 2 * g.monitorRoom + (rest.map fun v => v.category).sum ≤ W) (hdg : decode c.code g.pc = .ok (.invokestatic index, 3))
    (hpre : ∀ vm₁, s.WarmedH vm₁ → Pre ⟨T.setVm vm₁, locs, cells, slots⟩ argsL.toArray) :
    (∃ (v : Option Value) (vm₁ : Vm) (B : Pt), s.WarmedH vm₁ ∧ Stand p l e R s m args below meth c B.U B.locs B.cells B.slots ∧ Post ⟨T.setVm vm₁, locs, cells, slots⟩ argsL.toArray v B ∧
      ∀ target, Steps p.tables e below (B.U.setTop { g with pc := g.pc + 3, stack := v.toList ++ rest }) target → Steps p.tables e below (T.setTop g) target) ∨
    (∃ (q : Addr) (vm₁ : Vm) (B : Pt), s.WarmedH vm₁ ∧ Stand p l e R s m args below meth c B.U B.locs B.cells B.slots ∧ PostX ⟨T.setVm vm₁, locs, cells, slots⟩ argsL.toArray q B ∧
      Steps p.tables e below (T.setTop g) ((B.U.setTop { g with stack := rest }).pushFrame (.throwing q))) := by
  obtain ⟨mk, hnamed⟩ := Cond.code_named hcode
  obtain ⟨methM, cM, hmethM, -, -, -, -, -, -, hsigM⟩ := Cond.code_spec hnamed hcode
  have hstatic : methM.isStatic = true := Cond.static_spec hnamed hmethM hstat
  obtain ⟨kP, hkP, -⟩ := className_of_methodNamed hnamed
  have hinitP : kP.init = .initialized := Cond.initialized_spec (findClass_of_methodNamed hnamed) hkP hinit
  obtain ⟨vm₁, X₁, hstep₁⟩ := X.invokestaticNest hexec hown hlink hnamed hmethM hstatic hkP hinitP hy (g := g) hg (argsL := argsL) (rest := rest) (hlen _ hsigM) hstack hdg
  rcases hK m meth c ⟨T.setVm vm₁, locs, cells, slots⟩ { g with stack := rest } (.invokestatic index) mk argsL.toArray X₁ hg hsize hdg hW (X₁.named hnamed) (hpre vm₁ X₁.warmed) with ⟨v, B, X', hpost, hsteps⟩ | ⟨q, B, X', hpost, hsteps⟩
  · exact Or.inl ⟨v, vm₁, B, X₁.warmed, X', hpost, fun target h => hstep₁ _ fun acts => by rw [doInvoke_state]; exact hsteps.trans h⟩
  · exact Or.inr ⟨q, vm₁, B, X₁.warmed, X', hpost, hstep₁ _ fun acts => by rw [doInvoke_state]; exact hsteps⟩
theorem vx_runVN {y : MethodName} {bytes cc : ByteArray} {maxL nL mc ms n index : Nat} {ret : Option FieldType} {ws : List Cond} {rm : Room} {Pc : Array Value → State → Prop} {Qc : Array Value → State → Outcome → State → Prop} {XC : String → State → State → Prop} {free : Addr → Prop} {Ts : List Cond} {own C host : String} {b : Addr} {As rest : List Value} {g : JFrame}
    (S : CallFix p m c cc nL s args Ts own) (hM : vx_Met l y ws rm Pc Qc XC mc ms free) (cw : va_CN R s args own index y host bytes maxL ret ws rm mc ms n ∧ (Cond.instanceMethod y).before args s = true ∧ (Cond.selects C y y).before args s = true) (hp : PreV s H C b Pc As)
    (hg : g.method = m) (hn : As.length = n) (hsize : g.locals.size = nL) (hstack : g.stack = As.reverse ++ .ref b :: rest) (hW : 2 * g.monitorRoom + (rest.map fun v => v.category).sum ≤ 8) (hdg : decode cc g.pc = .ok (.invokevirtual index, 3)) (hf : cells + mc ≤ R.cells ∧ slots + ms ≤ R.slots) :
    vx_Run p l e R s m args below meth c H locs cells slots mc ms g rest (Qc (Value.ref b :: As).toArray) XC free := by
  obtain ⟨⟨⟨hrc, hrs, hfr, hlo, hws, hcw⟩, hcode, hini, hy, hlen, hl⟩, hx1, hx2⟩ := cw
  have hK : vx_Back l R p e below s args y 3 8 (PreOf R mc ms Pc) (PostOf Qc mc ms free) (vx_Post XC mc ms free) := vx_back (bytes := bytes) (maxL := maxL) (ret := ret) hM hp.1 hrc hrs hfr hlo hws hcw (fun a' U hW => word_at hW (Or.inl (by first | rfl | simp [Cond.onTables, Cond.keeps, Cond.steady])) hini)
  obtain ⟨hx, hb, hml, ho, -⟩ := S
  obtain ⟨-, ⟨cellB, hcB, hoB, hclB⟩, hPc⟩ := hp
  intro T hT X
  rcases vx_callVN X hx (C := C) (bytes := bytes) (maxL := maxL) (ret := ret) ho hl hx1 hx2 hcode hy hK (by rw [hT]; exact hcB) hoB hclB hg (hsize.trans hml.symm) (argsL := As) (rest := rest) (fun sig h => hn.trans (hlen sig h)) hstack hW (by rw [hb]; exact hdg)
    (fun vm₁ hW₁ => ⟨hf.1, hf.2, hPc (T.setVm vm₁) hT hW₁⟩) with ⟨v, vm₁, ⟨U', l2, c2, s2⟩, hW₁, X', ⟨g', mk, t, L, e1, e2, hq, h1, hL, h2, h3⟩, st⟩ | ⟨q, vm₁, ⟨U', l2, c2, s2⟩, hW₁, X', ⟨g', mk, t, L, E, ce, e1, e2, hq, hce, hcv, hcl, h1, hL, h2, h3⟩, st⟩
  · dsimp only [Pt.U, Pt.locs, Pt.cells, Pt.slots] at X' e1 e2 h1 h2 h3 st
    subst h1; subst h2; subst h3
    exact Or.inl ⟨v, (T.setVm vm₁).calling g' mk (Value.ref b :: As).toArray, t, U', L, hT, X', hL, e1, e2, hq, st⟩
  · dsimp only [Pt.U, Pt.locs, Pt.cells, Pt.slots] at X' e1 e2 h1 h2 h3 st hcl
    subst h1; subst h2; subst h3
    exact Or.inr ⟨q, (T.setVm vm₁).calling g' mk (Value.ref b :: As).toArray, t, U', L, E, ce, hT, X', hL, e1, e2, hq, hce, hcv, vx_cls hW₁ hcl, st⟩
theorem vx_runSN {y : MethodName} {bytes cc : ByteArray} {maxL nL mc ms n index : Nat} {ret : Option FieldType} {ws : List Cond} {rm : Room} {Pc : Array Value → State → Prop} {Qc : Array Value → State → Outcome → State → Prop} {XC : String → State → State → Prop} {free : Addr → Prop} {Ts : List Cond} {own host : String} {As rest : List Value} {g : JFrame}
    (S : CallFix p m c cc nL s args Ts own) (hM : vx_Met l y ws rm Pc Qc XC mc ms free) (cw : va_CN R s args own index y host bytes maxL ret ws rm mc ms n ∧ (Cond.static y).before args s = true ∧ True) (hp : PreS s H Pc As)
    (hg : g.method = m) (hn : As.length = n) (hsize : g.locals.size = nL) (hstack : g.stack = As.reverse ++ rest) (hW : 2 * g.monitorRoom + (rest.map fun v => v.category).sum ≤ 8) (hdg : decode cc g.pc = .ok (.invokestatic index, 3)) (hf : cells + mc ≤ R.cells ∧ slots + ms ≤ R.slots) :
    vx_Run p l e R s m args below meth c H locs cells slots mc ms g rest (Qc As.toArray) XC free := by
  obtain ⟨⟨⟨hrc, hrs, hfr, hlo, hws, hcw⟩, hcode, hini, hy, hlen, hl⟩, hx1, hx2⟩ := cw
  have hK : vx_Back l R p e below s args y 3 8 (PreOf R mc ms Pc) (PostOf Qc mc ms free) (vx_Post XC mc ms free) := vx_back (bytes := bytes) (maxL := maxL) (ret := ret) hM hp.1 hrc hrs hfr hlo hws hcw (fun a' U hW => word_at hW (Or.inl (by first | rfl | simp [Cond.onTables, Cond.keeps, Cond.steady])) hini)
  obtain ⟨hx, hb, hml, ho, -⟩ := S
  have hPc := hp.2
  intro T hT X
  rcases vx_callSN X hx (bytes := bytes) (maxL := maxL) (ret := ret) ho hl hx1 hini hcode hy hK hg (hsize.trans hml.symm) (argsL := As) (rest := rest) (fun sig h => hn.trans (hlen sig h)) hstack hW (by rw [hb]; exact hdg)
    (fun vm₁ hW₁ => ⟨hf.1, hf.2, hPc (T.setVm vm₁) hT hW₁⟩) with ⟨v, vm₁, ⟨U', l2, c2, s2⟩, hW₁, X', ⟨g', mk, t, L, e1, e2, hq, h1, hL, h2, h3⟩, st⟩ | ⟨q, vm₁, ⟨U', l2, c2, s2⟩, hW₁, X', ⟨g', mk, t, L, E, ce, e1, e2, hq, hce, hcv, hcl, h1, hL, h2, h3⟩, st⟩
  · dsimp only [Pt.U, Pt.locs, Pt.cells, Pt.slots] at X' e1 e2 h1 h2 h3 st
    subst h1; subst h2; subst h3
    exact Or.inl ⟨v, (T.setVm vm₁).calling g' mk As.toArray, t, U', L, hT, X', hL, e1, e2, hq, st⟩
  · dsimp only [Pt.U, Pt.locs, Pt.cells, Pt.slots] at X' e1 e2 h1 h2 h3 st hcl
    subst h1; subst h2; subst h3
    exact Or.inr ⟨q, (T.setVm vm₁).calling g' mk As.toArray, t, U', L, E, ce, hT, X', hL, e1, e2, hq, hce, hcv, vx_cls hW₁ hcl, st⟩
end
/-! ===== END ===== -/
/-! ===== BEGIN calls by an interface of methods that may throw (vx_callIF, vx_runF follow va_callIF, va_runF of this kit) ===== -/
section
variable {p : Program} {l : Launch} {e : Env} {R : Room} {s : State} {m : MethodId} {args : Array Value} {below : List Frame} {meth : Method} {c : Code} {H : Heap} {locs : List Loc} {cells slots : Nat} {Q : State → Prop}
variable {mc ms : Nat} {free : Addr → Prop} {A0 A1 : Nat → Prop} {H0 : Heap} {a : Array Value} {pc : Nat} {ls : Array Slot} {st0 rest : List Value}
def vx_Run5 (p : Program) (l : Launch) (e : Env) (R : Room) (s : State) (m : MethodId) (args : Array Value) (below : List Frame) (meth : Method) (c : Code) (H : Heap) (locs : List Loc) (cells slots mc ms : Nat) (g : JFrame) (rest : List Value) (Qa : State → Outcome → State → Prop) (XC : String → State → State → Prop) (free : Addr → Prop) : Prop :=
  ∀ T : State, T.heap = H → Stand p l e R s m args below meth c T locs cells slots →
    (∃ (v : Option Value) (st₀ t T' : State) (L : List Loc), st₀.heap = H ∧ Stand p l e R s m args below meth c T' (locs ++ L) (cells + mc) (slots + ms) ∧ (∀ q ∈ L, free q.base) ∧ T'.heap = t.heap ∧ T'.vm = t.vm ∧ Qa st₀ (.returned v) t ∧
      Goes p e below T g T' { g with pc := g.pc + 5, stack := v.toList ++ rest }) ∨
    (∃ (q : Addr) (st₀ t T' : State) (L : List Loc) (E : String) (ce : Cell), st₀.heap = H ∧ Stand p l e R s m args below meth c T' (locs ++ L) (cells + mc) (slots + ms) ∧ (∀ z ∈ L, free z.base) ∧ T'.heap = t.heap ∧ T'.vm = t.vm ∧ XC E st₀ t ∧ t.heap[q]? = some ce ∧ ce.vm = .none ∧ s.vm.findClass E = some ce.cls ∧
      Steps p.tables e below (T.setTop g) ((T'.setTop { g with stack := rest }).pushFrame (.throwing q)))
theorem vx_callIF {T : State} (X : Stand p l e R s m args below meth c T locs cells slots) (hexec : p.tables.exec = Jvm.exec) {own C : String} {index count : Nat} {x y : MethodName} {bytes : ByteArray} {maxL : Nat} {ret : Option FieldType}
    (hown : s.vm.findClass own = some m.cls) (hlink : (Cond.methodLink own index x).before args s = true) (hdecl : (Cond.declares x).before args s = true) (hface : (Cond.interfaceMethod x.cls x.cls x.name x.desc).before args s = true)
    (hsel : (Cond.selects C x y).before args s = true) (hinst : (Cond.instanceMethod y).before args s = true) (hpub : (Cond.publicMethod y).before args s = true) (hunh : (Cond.unhidden C x.name x.desc).before args s = true)
    (hcast : (Cond.castable C x.cls).before args s = true) (hcode : (Cond.code y bytes maxL ret).before args s = true) (hx : x.cls ≠ "java/lang/invoke/MethodHandle" ∧ x.cls ≠ "java/lang/invoke/VarHandle")
    {W9 : Nat} {Pre : Pt → Array Value → Prop} {Post : Pt → Array Value → Option Value → Pt → Prop} {PostX : Pt → Array Value → Addr → Pt → Prop} (hK : vx_Back l R p e below s args y 5 W9 Pre Post PostX)
    {b : Addr} {cellB : Cell} {kB : Class} (hcell : T.heap[b]? = some cellB) (hobj : cellB.vm.isStatics = false) (hcls : s.vm.findClass C = some cellB.cls) (hkB : s.vm.classes[cellB.cls]? = some kB)
    {g : JFrame} (hg : g.method = m) (hsize : g.locals.size = c.maxLocals) {argsL rest : List Value} (hlen : ∀ sig, parseMethodDescriptor x.desc = some sig → argsL.length = sig.parameters.length)
    (hstack : g.stack = argsL.reverse ++ .ref b :: rest) (hW : 2 * g.monitorRoom + (rest.map fun v => v.category).sum ≤ W9) (hdg : decode c.code g.pc = .ok (.invokeinterface index count, 5))
    (hpre : ∀ vm₁, s.WarmedH vm₁ → Pre ⟨T.setVm vm₁, locs, cells, slots⟩ (Value.ref b :: argsL).toArray) :
    (∃ (v : Option Value) (vm₁ : Vm) (B : Pt), s.WarmedH vm₁ ∧ Stand p l e R s m args below meth c B.U B.locs B.cells B.slots ∧ Post ⟨T.setVm vm₁, locs, cells, slots⟩ (Value.ref b :: argsL).toArray v B ∧
      ∀ target, Steps p.tables e below (B.U.setTop { g with pc := g.pc + 5, stack := v.toList ++ rest }) target → Steps p.tables e below (T.setTop g) target) ∨
    (∃ (q : Addr) (vm₁ : Vm) (B : Pt), s.WarmedH vm₁ ∧ Stand p l e R s m args below meth c B.U B.locs B.cells B.slots ∧ PostX ⟨T.setVm vm₁, locs, cells, slots⟩ (Value.ref b :: argsL).toArray q B ∧
      Steps p.tables e below (T.setTop g) ((B.U.setTop { g with stack := rest }).pushFrame (.throwing q))) := by
  obtain ⟨r0, r, hn, hrm, hstR, hsigR⟩ := Cond.declares_spec hdecl
  obtain ⟨cL, kL, r1, hcL, hkL, hiL, hfoundL, hn1⟩ := Cond.interfaceMethod_spec hface
  cases hn.symm.trans hn1
  have hr0cls : r0.cls = cL := Option.some.inj ((findClass_of_methodNamed hn).symm.trans hcL)
  obtain ⟨hnameR, hdescR⟩ := name_of_methodNamed hn hrm
  obtain ⟨mk, methM, hnamed, hmethM, -, habM⟩ := Cond.instanceMethod_spec hinst
  obtain ⟨c2, r2, m2, q1, q2, q3, q4, -⟩ := Cond.selects_spec hsel
  cases hcls.symm.trans q1
  cases hfoundL.symm.trans q2
  cases hnamed.symm.trans q3
  have hselP : selectMethod e.platform s.vm cellB.cls r0 = .method mk := by rw [Launch.admits_selectMethod X.admits]; exact q4
  have hpubM : hasFlag methM.accessFlags Acc.public_ = true := Cond.publicMethod_spec hnamed hmethM hpub
  have hway : ((cellB.cls :: s.vm.superclasses cellB.cls).any fun k => (declaredIn s.vm r.name r.desc k).any fun (_, z) => z.isPrivate || z.isStatic) = false := by
    rw [hnameR, hdescR]; exact Cond.unhidden_spec hcls hunh
  obtain ⟨c3, t3, w1, w2, w3⟩ := Cond.castable_spec hcast
  cases hcls.symm.trans w1
  cases hcL.symm.trans w2
  obtain ⟨vm₁, X₁, hstep₁⟩ := X.invokeinterface hexec hown hlink hn hrm hstR (by rw [hr0cls]; exact hkL) hiL hx (a := b) (cell := cellB) (kcell := kB) hcell
    (fun z h => by rw [h] at hobj; cases hobj) hkB (by rw [hr0cls]; exact w3) hselP hmethM hway hpubM habM (g := g) hg (argsL := argsL) (rest := rest) (hlen _ hsigR) hstack hdg
  rcases hK m meth c ⟨T.setVm vm₁, locs, cells, slots⟩ { g with stack := rest } (.invokeinterface index count) mk (Value.ref b :: argsL).toArray X₁ hg hsize hdg hW (X₁.named hnamed) (hpre vm₁ X₁.warmed) with ⟨v, B, X', hpost, hsteps⟩ | ⟨q, B, X', hpost, hsteps⟩
  · exact Or.inl ⟨v, vm₁, B, X₁.warmed, X', hpost, fun target h => hstep₁ _ fun acts => by rw [doInvoke_state]; exact hsteps.trans h⟩
  · exact Or.inr ⟨q, vm₁, B, X₁.warmed, X', hpost, hstep₁ _ fun acts => by rw [doInvoke_state]; exact hsteps⟩
theorem vx_runF {x y : MethodName} {bytes cc : ByteArray} {maxL nL mc ms n index count : Nat} {ret : Option FieldType} {ws : List Cond} {rm : Room} {Pc : Array Value → State → Prop} {Qc : Array Value → State → Outcome → State → Prop} {XC : String → State → State → Prop} {free : Addr → Prop} {Ts : List Cond} {own C : String} {cC : ClassId} {b : Addr} {As rest : List Value} {g : JFrame}
    (hat : ClassAt s C cC) (S : CallFix p m c cc nL s args Ts own) (hM : vx_Met l y ws rm Pc Qc XC mc ms free) (cw : va_CI R s args own C index x y bytes maxL ret ws rm mc ms n) (hp : PreV s H C b Pc As)
    (hg : g.method = m) (hn : As.length = n) (hsize : g.locals.size = nL) (hstack : g.stack = As.reverse ++ .ref b :: rest) (hW : 2 * g.monitorRoom + (rest.map fun v => v.category).sum ≤ 8) (hdg : decode cc g.pc = .ok (.invokeinterface index count, 5)) (hf : cells + mc ≤ R.cells ∧ slots + ms ≤ R.slots) :
    vx_Run5 p l e R s m args below meth c H locs cells slots mc ms g rest (Qc (Value.ref b :: As).toArray) XC free := by
  obtain ⟨hrc, hrs, hfr, hlo, hws, hcw⟩ := cw.back
  have hini := cw.init
  have hK : vx_Back l R p e below s args y 5 8 (PreOf R mc ms Pc) (PostOf Qc mc ms free) (vx_Post XC mc ms free) := vx_back (bytes := bytes) (maxL := maxL) (ret := ret) hM hp.1 hrc hrs hfr hlo hws hcw (fun a' U hW => word_at hW (Or.inl (by first | rfl | simp [Cond.onTables, Cond.keeps, Cond.steady])) hini)
  obtain ⟨hx, hb, hml, ho, -⟩ := S
  obtain ⟨-, ⟨cellB, hcB, hoB, hclB⟩, hPc⟩ := hp
  obtain ⟨hfc, kB, hkB, -⟩ := hat
  cases hfc.symm.trans hclB
  intro T hT X
  rcases vx_callIF X hx (C := C) (bytes := bytes) (maxL := maxL) (ret := ret) ho cw.link cw.decl cw.face cw.sel cw.inst cw.pub cw.unh cw.cast cw.code cw.notMH hK (by rw [hT]; exact hcB) hoB hclB hkB hg (hsize.trans hml.symm) (argsL := As) (rest := rest) (fun sig h => hn.trans (cw.len sig h)) hstack hW (by rw [hb]; exact hdg)
    (fun vm₁ hW₁ => ⟨hf.1, hf.2, hPc (T.setVm vm₁) hT hW₁⟩) with ⟨v, vm₁, ⟨U', l2, c2, s2⟩, hW₁, X', ⟨g', mk, t, L, e1, e2, hq, h1, hL, h2, h3⟩, st⟩ | ⟨q, vm₁, ⟨U', l2, c2, s2⟩, hW₁, X', ⟨g', mk, t, L, E, ce, e1, e2, hq, hce, hcv, hcl, h1, hL, h2, h3⟩, st⟩
  · dsimp only [Pt.U, Pt.locs, Pt.cells, Pt.slots] at X' e1 e2 h1 h2 h3 st
    subst h1; subst h2; subst h3
    exact Or.inl ⟨v, (T.setVm vm₁).calling g' mk (Value.ref b :: As).toArray, t, U', L, hT, X', hL, e1, e2, hq, st⟩
  · dsimp only [Pt.U, Pt.locs, Pt.cells, Pt.slots] at X' e1 e2 h1 h2 h3 st hcl
    subst h1; subst h2; subst h3
    exact Or.inr ⟨q, (T.setVm vm₁).calling g' mk (Value.ref b :: As).toArray, t, U', L, E, ce, hT, X', hL, e1, e2, hq, hce, hcv, vx_cls hW₁ hcl, st⟩
theorem vx_callFv {S SX : Type} {post : S → Prop} {px : SX → Prop} {B : S → State → Prop} {BX : String → SX → State → Prop} {AX : Nat → Prop} (hr : vx_Run5 p l e R s m args below meth c H locs cells slots mc ms (F0 m pc ls st0) rest (va_Qv post B A1 a) (vx_X px BX AX) free) (hS : va_S A0 H0 H locs) (hA : ∀ q, q < H.size → A1 q → A0 q) (hf : ∀ q, free q → A0 q) (hAX : ∀ q, q < H.size → AX q → A0 q)
    (kx : ∀ (E : String) (ce : Cell) (q9 : Addr) (u : SX) (t : State) (H1 : Heap) (locs1 : List Loc), t.heap = H1 → s.vm.Alike t.vm → px u → BX E u t → H.size ≤ H1.size → (∀ q : Nat, q < H.size → ¬ AX q → H1[q]? = H[q]?) → va_S A0 H0 H1 locs1 → H1[q9]? = some ce → ce.vm = .none → s.vm.findClass E = some ce.cls → vx_W p l e R s m args below meth c H1 locs1 (cells + mc) (slots + ms) Q (F0 m pc ls rest) q9)
    (kk : ∀ (u : S) (t : State) (H1 : Heap) (locs1 : List Loc), t.heap = H1 → s.vm.Alike t.vm → post u → B u t → H.size ≤ H1.size → (∀ q : Nat, q < H.size → ¬ A1 q → H1[q]? = H[q]?) → va_S A0 H0 H1 locs1 → W p l e R s m args below meth c H1 locs1 (cells + mc) (slots + ms) Q (F0 m (pc + 5) ls (rest))) : W p l e R s m args below meth c H locs cells slots Q (F0 m pc ls st0) := by
  intro T hT X
  rcases hr T hT X with ⟨v, st₀, t, T', L, h0, X', hL, e1, e2, ⟨⟨u, hv, hp, hb⟩, hF⟩, st⟩ | ⟨q, st₀, t, T', L, E, ce, h0, X', hL, e1, e2, ⟨u, hp, hb, hF⟩, hce, hcv, hcl, st⟩
  · cases hv
    obtain ⟨k1, k2, k3⟩ := vx_keep h0 e1 hS hA hf hL hF
    obtain ⟨t2, a1, b1⟩ := kk u t T'.heap (locs ++ L) e1.symm (by rw [← e2]; exact X'.warmed.alike) hp hb k1 k2 k3 T' rfl X'
    exact ⟨t2, st t2 a1, b1⟩
  · obtain ⟨k1, k2, k3⟩ := vx_keep h0 e1 hS hAX hf hL hF
    obtain ⟨t2, a1, b1⟩ := kx E ce q u t T'.heap (locs ++ L) e1.symm (by rw [← e2]; exact X'.warmed.alike) hp hb k1 k2 k3 (by rw [e1]; exact hce) hcv hcl T' rfl X'
    exact ⟨t2, st.trans a1, b1⟩
theorem vx_callFi {S SX : Type} {post : Int32 → S → Prop} {px : SX → Prop} {B : S → State → Prop} {BX : String → SX → State → Prop} {AX : Nat → Prop} (hr : vx_Run5 p l e R s m args below meth c H locs cells slots mc ms (F0 m pc ls st0) rest (va_Qi post B A1 a) (vx_X px BX AX) free) (hS : va_S A0 H0 H locs) (hA : ∀ q, q < H.size → A1 q → A0 q) (hf : ∀ q, free q → A0 q) (hAX : ∀ q, q < H.size → AX q → A0 q)
    (kx : ∀ (E : String) (ce : Cell) (q9 : Addr) (u : SX) (t : State) (H1 : Heap) (locs1 : List Loc), t.heap = H1 → s.vm.Alike t.vm → px u → BX E u t → H.size ≤ H1.size → (∀ q : Nat, q < H.size → ¬ AX q → H1[q]? = H[q]?) → va_S A0 H0 H1 locs1 → H1[q9]? = some ce → ce.vm = .none → s.vm.findClass E = some ce.cls → vx_W p l e R s m args below meth c H1 locs1 (cells + mc) (slots + ms) Q (F0 m pc ls rest) q9)
    (kk : ∀ (r : Int32) (u : S) (t : State) (H1 : Heap) (locs1 : List Loc), t.heap = H1 → s.vm.Alike t.vm → post r u → B u t → H.size ≤ H1.size → (∀ q : Nat, q < H.size → ¬ A1 q → H1[q]? = H[q]?) → va_S A0 H0 H1 locs1 → W p l e R s m args below meth c H1 locs1 (cells + mc) (slots + ms) Q (F0 m (pc + 5) ls (.int r :: rest))) : W p l e R s m args below meth c H locs cells slots Q (F0 m pc ls st0) := by
  intro T hT X
  rcases hr T hT X with ⟨v, st₀, t, T', L, h0, X', hL, e1, e2, ⟨⟨r, u, hv, hp, hb⟩, hF⟩, st⟩ | ⟨q, st₀, t, T', L, E, ce, h0, X', hL, e1, e2, ⟨u, hp, hb, hF⟩, hce, hcv, hcl, st⟩
  · cases hv
    obtain ⟨k1, k2, k3⟩ := vx_keep h0 e1 hS hA hf hL hF
    obtain ⟨t2, a1, b1⟩ := kk r u t T'.heap (locs ++ L) e1.symm (by rw [← e2]; exact X'.warmed.alike) hp hb k1 k2 k3 T' rfl X'
    exact ⟨t2, st t2 a1, b1⟩
  · obtain ⟨k1, k2, k3⟩ := vx_keep h0 e1 hS hAX hf hL hF
    obtain ⟨t2, a1, b1⟩ := kx E ce q u t T'.heap (locs ++ L) e1.symm (by rw [← e2]; exact X'.warmed.alike) hp hb k1 k2 k3 (by rw [e1]; exact hce) hcv hcl T' rfl X'
    exact ⟨t2, st.trans a1, b1⟩
theorem vx_callFl {S SX : Type} {post : Int64 → S → Prop} {px : SX → Prop} {B : S → State → Prop} {BX : String → SX → State → Prop} {AX : Nat → Prop} (hr : vx_Run5 p l e R s m args below meth c H locs cells slots mc ms (F0 m pc ls st0) rest (va_Ql post B A1 a) (vx_X px BX AX) free) (hS : va_S A0 H0 H locs) (hA : ∀ q, q < H.size → A1 q → A0 q) (hf : ∀ q, free q → A0 q) (hAX : ∀ q, q < H.size → AX q → A0 q)
    (kx : ∀ (E : String) (ce : Cell) (q9 : Addr) (u : SX) (t : State) (H1 : Heap) (locs1 : List Loc), t.heap = H1 → s.vm.Alike t.vm → px u → BX E u t → H.size ≤ H1.size → (∀ q : Nat, q < H.size → ¬ AX q → H1[q]? = H[q]?) → va_S A0 H0 H1 locs1 → H1[q9]? = some ce → ce.vm = .none → s.vm.findClass E = some ce.cls → vx_W p l e R s m args below meth c H1 locs1 (cells + mc) (slots + ms) Q (F0 m pc ls rest) q9)
    (kk : ∀ (r : Int64) (u : S) (t : State) (H1 : Heap) (locs1 : List Loc), t.heap = H1 → s.vm.Alike t.vm → post r u → B u t → H.size ≤ H1.size → (∀ q : Nat, q < H.size → ¬ A1 q → H1[q]? = H[q]?) → va_S A0 H0 H1 locs1 → W p l e R s m args below meth c H1 locs1 (cells + mc) (slots + ms) Q (F0 m (pc + 5) ls (.long r :: rest))) : W p l e R s m args below meth c H locs cells slots Q (F0 m pc ls st0) := by
  intro T hT X
  rcases hr T hT X with ⟨v, st₀, t, T', L, h0, X', hL, e1, e2, ⟨⟨r, u, hv, hp, hb⟩, hF⟩, st⟩ | ⟨q, st₀, t, T', L, E, ce, h0, X', hL, e1, e2, ⟨u, hp, hb, hF⟩, hce, hcv, hcl, st⟩
  · cases hv
    obtain ⟨k1, k2, k3⟩ := vx_keep h0 e1 hS hA hf hL hF
    obtain ⟨t2, a1, b1⟩ := kk r u t T'.heap (locs ++ L) e1.symm (by rw [← e2]; exact X'.warmed.alike) hp hb k1 k2 k3 T' rfl X'
    exact ⟨t2, st t2 a1, b1⟩
  · obtain ⟨k1, k2, k3⟩ := vx_keep h0 e1 hS hAX hf hL hF
    obtain ⟨t2, a1, b1⟩ := kx E ce q u t T'.heap (locs ++ L) e1.symm (by rw [← e2]; exact X'.warmed.alike) hp hb k1 k2 k3 (by rw [e1]; exact hce) hcv hcl T' rfl X'
    exact ⟨t2, st.trans a1, b1⟩
theorem vx_callFf {S SX : Type} {post : UInt32 → S → Prop} {px : SX → Prop} {B : S → State → Prop} {BX : String → SX → State → Prop} {AX : Nat → Prop} (hr : vx_Run5 p l e R s m args below meth c H locs cells slots mc ms (F0 m pc ls st0) rest (va_Qf post B A1 a) (vx_X px BX AX) free) (hS : va_S A0 H0 H locs) (hA : ∀ q, q < H.size → A1 q → A0 q) (hf : ∀ q, free q → A0 q) (hAX : ∀ q, q < H.size → AX q → A0 q)
    (kx : ∀ (E : String) (ce : Cell) (q9 : Addr) (u : SX) (t : State) (H1 : Heap) (locs1 : List Loc), t.heap = H1 → s.vm.Alike t.vm → px u → BX E u t → H.size ≤ H1.size → (∀ q : Nat, q < H.size → ¬ AX q → H1[q]? = H[q]?) → va_S A0 H0 H1 locs1 → H1[q9]? = some ce → ce.vm = .none → s.vm.findClass E = some ce.cls → vx_W p l e R s m args below meth c H1 locs1 (cells + mc) (slots + ms) Q (F0 m pc ls rest) q9)
    (kk : ∀ (r : UInt32) (u : S) (t : State) (H1 : Heap) (locs1 : List Loc), t.heap = H1 → s.vm.Alike t.vm → post r u → B u t → H.size ≤ H1.size → (∀ q : Nat, q < H.size → ¬ A1 q → H1[q]? = H[q]?) → va_S A0 H0 H1 locs1 → W p l e R s m args below meth c H1 locs1 (cells + mc) (slots + ms) Q (F0 m (pc + 5) ls (.float r :: rest))) : W p l e R s m args below meth c H locs cells slots Q (F0 m pc ls st0) := by
  intro T hT X
  rcases hr T hT X with ⟨v, st₀, t, T', L, h0, X', hL, e1, e2, ⟨⟨r, u, hv, hp, hb⟩, hF⟩, st⟩ | ⟨q, st₀, t, T', L, E, ce, h0, X', hL, e1, e2, ⟨u, hp, hb, hF⟩, hce, hcv, hcl, st⟩
  · cases hv
    obtain ⟨k1, k2, k3⟩ := vx_keep h0 e1 hS hA hf hL hF
    obtain ⟨t2, a1, b1⟩ := kk r u t T'.heap (locs ++ L) e1.symm (by rw [← e2]; exact X'.warmed.alike) hp hb k1 k2 k3 T' rfl X'
    exact ⟨t2, st t2 a1, b1⟩
  · obtain ⟨k1, k2, k3⟩ := vx_keep h0 e1 hS hAX hf hL hF
    obtain ⟨t2, a1, b1⟩ := kx E ce q u t T'.heap (locs ++ L) e1.symm (by rw [← e2]; exact X'.warmed.alike) hp hb k1 k2 k3 (by rw [e1]; exact hce) hcv hcl T' rfl X'
    exact ⟨t2, st.trans a1, b1⟩
theorem vx_callFd {S SX : Type} {post : UInt64 → S → Prop} {px : SX → Prop} {B : S → State → Prop} {BX : String → SX → State → Prop} {AX : Nat → Prop} (hr : vx_Run5 p l e R s m args below meth c H locs cells slots mc ms (F0 m pc ls st0) rest (va_Qd post B A1 a) (vx_X px BX AX) free) (hS : va_S A0 H0 H locs) (hA : ∀ q, q < H.size → A1 q → A0 q) (hf : ∀ q, free q → A0 q) (hAX : ∀ q, q < H.size → AX q → A0 q)
    (kx : ∀ (E : String) (ce : Cell) (q9 : Addr) (u : SX) (t : State) (H1 : Heap) (locs1 : List Loc), t.heap = H1 → s.vm.Alike t.vm → px u → BX E u t → H.size ≤ H1.size → (∀ q : Nat, q < H.size → ¬ AX q → H1[q]? = H[q]?) → va_S A0 H0 H1 locs1 → H1[q9]? = some ce → ce.vm = .none → s.vm.findClass E = some ce.cls → vx_W p l e R s m args below meth c H1 locs1 (cells + mc) (slots + ms) Q (F0 m pc ls rest) q9)
    (kk : ∀ (r : UInt64) (u : S) (t : State) (H1 : Heap) (locs1 : List Loc), t.heap = H1 → s.vm.Alike t.vm → post r u → B u t → H.size ≤ H1.size → (∀ q : Nat, q < H.size → ¬ A1 q → H1[q]? = H[q]?) → va_S A0 H0 H1 locs1 → W p l e R s m args below meth c H1 locs1 (cells + mc) (slots + ms) Q (F0 m (pc + 5) ls (.double r :: rest))) : W p l e R s m args below meth c H locs cells slots Q (F0 m pc ls st0) := by
  intro T hT X
  rcases hr T hT X with ⟨v, st₀, t, T', L, h0, X', hL, e1, e2, ⟨⟨r, u, hv, hp, hb⟩, hF⟩, st⟩ | ⟨q, st₀, t, T', L, E, ce, h0, X', hL, e1, e2, ⟨u, hp, hb, hF⟩, hce, hcv, hcl, st⟩
  · cases hv
    obtain ⟨k1, k2, k3⟩ := vx_keep h0 e1 hS hA hf hL hF
    obtain ⟨t2, a1, b1⟩ := kk r u t T'.heap (locs ++ L) e1.symm (by rw [← e2]; exact X'.warmed.alike) hp hb k1 k2 k3 T' rfl X'
    exact ⟨t2, st t2 a1, b1⟩
  · obtain ⟨k1, k2, k3⟩ := vx_keep h0 e1 hS hAX hf hL hF
    obtain ⟨t2, a1, b1⟩ := kx E ce q u t T'.heap (locs ++ L) e1.symm (by rw [← e2]; exact X'.warmed.alike) hp hb k1 k2 k3 (by rw [e1]; exact hce) hcv hcl T' rfl X'
    exact ⟨t2, st.trans a1, b1⟩
end
/-! ===== END ===== -/
/-! ===== BEGIN by an interface, a method with a table of its own that may throw (follows va_callIFW, va_runFW) ===== -/
section
variable {p : Program} {l : Launch} {e : Env} {R : Room} {s : State} {m : MethodId} {args : Array Value} {below : List Frame} {meth : Method} {c : Code} {H : Heap} {locs : List Loc} {cells slots : Nat}
theorem vx_callIFW {T : State} (X : Stand p l e R s m args below meth c T locs cells slots) (hexec : p.tables.exec = Jvm.exec) {own C : String} {index count : Nat} {x y : MethodName} {bytes : ByteArray} {maxL : Nat} {ret : Option FieldType} {hh : List (Nat × Nat × Nat × Nat)}
    (hown : s.vm.findClass own = some m.cls) (hlink : (Cond.methodLink own index x).before args s = true) (hdecl : (Cond.declares x).before args s = true) (hface : (Cond.interfaceMethod x.cls x.cls x.name x.desc).before args s = true)
    (hsel : (Cond.selects C x y).before args s = true) (hinst : (Cond.instanceMethod y).before args s = true) (hpub : (Cond.publicMethod y).before args s = true) (hunh : (Cond.unhidden C x.name x.desc).before args s = true)
    (hcast : (Cond.castable C x.cls).before args s = true) (hcode : (Cond.codeWith y bytes maxL ret hh).before args s = true) (hx : x.cls ≠ "java/lang/invoke/MethodHandle" ∧ x.cls ≠ "java/lang/invoke/VarHandle")
    {W : Nat} {Pre : Pt → Array Value → Prop} {Post : Pt → Array Value → Option Value → Pt → Prop} {PostX : Pt → Array Value → Addr → Pt → Prop} (hK : vx_Back l R p e below s args y 5 W Pre Post PostX)
    {b : Addr} {cellB : Cell} {kB : Class} (hcell : T.heap[b]? = some cellB) (hobj : cellB.vm.isStatics = false) (hcls : s.vm.findClass C = some cellB.cls) (hkB : s.vm.classes[cellB.cls]? = some kB)
    {g : JFrame} (hg : g.method = m) (hsize : g.locals.size = c.maxLocals) {argsL rest : List Value} (hlen : ∀ sig, parseMethodDescriptor x.desc = some sig → argsL.length = sig.parameters.length)
    (hstack : g.stack = argsL.reverse ++ .ref b :: rest) (hW : 2 * g.monitorRoom + (rest.map fun v => v.category).sum ≤ W) (hdg : decode c.code g.pc = .ok (.invokeinterface index count, 5))
    (hpre : ∀ vm₁, s.WarmedH vm₁ → Pre ⟨T.setVm vm₁, locs, cells, slots⟩ (Value.ref b :: argsL).toArray) :
    (∃ (v : Option Value) (vm₁ : Vm) (B : Pt), s.WarmedH vm₁ ∧ Stand p l e R s m args below meth c B.U B.locs B.cells B.slots ∧ Post ⟨T.setVm vm₁, locs, cells, slots⟩ (Value.ref b :: argsL).toArray v B ∧
      ∀ target, Steps p.tables e below (B.U.setTop { g with pc := g.pc + 5, stack := v.toList ++ rest }) target → Steps p.tables e below (T.setTop g) target) ∨
    (∃ (q : Addr) (vm₁ : Vm) (B : Pt), s.WarmedH vm₁ ∧ Stand p l e R s m args below meth c B.U B.locs B.cells B.slots ∧ PostX ⟨T.setVm vm₁, locs, cells, slots⟩ (Value.ref b :: argsL).toArray q B ∧
      Steps p.tables e below (T.setTop g) ((B.U.setTop { g with stack := rest }).pushFrame (.throwing q))) := by
  obtain ⟨r0, r, hn, hrm, hstR, hsigR⟩ := Cond.declares_spec hdecl
  obtain ⟨cL, kL, r1, hcL, hkL, hiL, hfoundL, hn1⟩ := Cond.interfaceMethod_spec hface
  cases hn.symm.trans hn1
  have hr0cls : r0.cls = cL := Option.some.inj ((findClass_of_methodNamed hn).symm.trans hcL)
  obtain ⟨hnameR, hdescR⟩ := name_of_methodNamed hn hrm
  obtain ⟨mk, methM, hnamed, hmethM, -, habM⟩ := Cond.instanceMethod_spec hinst
  obtain ⟨c2, r2, m2, q1, q2, q3, q4, -⟩ := Cond.selects_spec hsel
  cases hcls.symm.trans q1
  cases hfoundL.symm.trans q2
  cases hnamed.symm.trans q3
  have hselP : selectMethod e.platform s.vm cellB.cls r0 = .method mk := by rw [Launch.admits_selectMethod X.admits]; exact q4
  have hpubM : hasFlag methM.accessFlags Acc.public_ = true := Cond.publicMethod_spec hnamed hmethM hpub
  have hway : ((cellB.cls :: s.vm.superclasses cellB.cls).any fun k => (declaredIn s.vm r.name r.desc k).any fun (_, z) => z.isPrivate || z.isStatic) = false := by
    rw [hnameR, hdescR]; exact Cond.unhidden_spec hcls hunh
  obtain ⟨c3, t3, w1, w2, w3⟩ := Cond.castable_spec hcast
  cases hcls.symm.trans w1
  cases hcL.symm.trans w2
  obtain ⟨vm₁, X₁, hstep₁⟩ := X.invokeinterface hexec hown hlink hn hrm hstR (by rw [hr0cls]; exact hkL) hiL hx (a := b) (cell := cellB) (kcell := kB) hcell
    (fun z h => by rw [h] at hobj; cases hobj) hkB (by rw [hr0cls]; exact w3) hselP hmethM hway hpubM habM (g := g) hg (argsL := argsL) (rest := rest) (hlen _ hsigR) hstack hdg
  rcases hK m meth c ⟨T.setVm vm₁, locs, cells, slots⟩ { g with stack := rest } (.invokeinterface index count) mk (Value.ref b :: argsL).toArray X₁ hg hsize hdg hW (X₁.named hnamed) (hpre vm₁ X₁.warmed) with ⟨v, B, X', hpost, hsteps⟩ | ⟨q, B, X', hpost, hsteps⟩
  · exact Or.inl ⟨v, vm₁, B, X₁.warmed, X', hpost, fun target h => hstep₁ _ fun acts => by rw [doInvoke_state]; exact hsteps.trans h⟩
  · exact Or.inr ⟨q, vm₁, B, X₁.warmed, X', hpost, hstep₁ _ fun acts => by rw [doInvoke_state]; exact hsteps⟩
theorem vx_runFW {x y : MethodName} {bytes cc : ByteArray} {maxL nL mc ms n index count : Nat} {ret : Option FieldType} {hh : List (Nat × Nat × Nat × Nat)} {ws : List Cond} {rm : Room} {Pc : Array Value → State → Prop} {Qc : Array Value → State → Outcome → State → Prop} {XC : String → State → State → Prop} {free : Addr → Prop} {Ts : List Cond} {own C : String} {cC : ClassId} {b : Addr} {As rest : List Value} {g : JFrame}
    (hat : ClassAt s C cC) (S : CallFix p m c cc nL s args Ts own) (hM : vx_Met l y ws rm Pc Qc XC mc ms free) (cw : va_CIW R s args own C index x y bytes maxL ret hh ws rm mc ms n) (hp : PreV s H C b Pc As)
    (hg : g.method = m) (hn : As.length = n) (hsize : g.locals.size = nL) (hstack : g.stack = As.reverse ++ .ref b :: rest) (hW : 2 * g.monitorRoom + (rest.map fun v => v.category).sum ≤ 8) (hdg : decode cc g.pc = .ok (.invokeinterface index count, 5)) (hf : cells + mc ≤ R.cells ∧ slots + ms ≤ R.slots) :
    vx_Run5 p l e R s m args below meth c H locs cells slots mc ms g rest (Qc (Value.ref b :: As).toArray) XC free := by
  obtain ⟨hrc, hrs, hfr, hlo, hws, hcw⟩ := cw.back
  have hini := cw.init
  have hK : vx_Back l R p e below s args y 5 8 (PreOf R mc ms Pc) (PostOf Qc mc ms free) (vx_Post XC mc ms free) := vx_backW (hh := hh) (bytes := bytes) (maxL := maxL) (ret := ret) hM hp.1 hrc hrs hfr hlo hws hcw (fun a' U hW => word_at hW (Or.inl (by first | rfl | simp [Cond.onTables, Cond.keeps, Cond.steady])) hini)
  obtain ⟨hx, hb, hml, ho, -⟩ := S
  obtain ⟨-, ⟨cellB, hcB, hoB, hclB⟩, hPc⟩ := hp
  obtain ⟨hfc, kB, hkB, -⟩ := hat
  cases hfc.symm.trans hclB
  intro T hT X
  rcases vx_callIFW X hx (C := C) (hh := hh) (bytes := bytes) (maxL := maxL) (ret := ret) ho cw.link cw.decl cw.face cw.sel cw.inst cw.pub cw.unh cw.cast cw.code cw.notMH hK (by rw [hT]; exact hcB) hoB hclB hkB hg (hsize.trans hml.symm) (argsL := As) (rest := rest) (fun sig h => hn.trans (cw.len sig h)) hstack hW (by rw [hb]; exact hdg)
    (fun vm₁ hW₁ => ⟨hf.1, hf.2, hPc (T.setVm vm₁) hT hW₁⟩) with ⟨v, vm₁, ⟨U', l2, c2, s2⟩, hW₁, X', ⟨g', mk, t, L, e1, e2, hq, h1, hL, h2, h3⟩, st⟩ | ⟨q, vm₁, ⟨U', l2, c2, s2⟩, hW₁, X', ⟨g', mk, t, L, E, ce, e1, e2, hq, hce, hcv, hcl, h1, hL, h2, h3⟩, st⟩
  · dsimp only [Pt.U, Pt.locs, Pt.cells, Pt.slots] at X' e1 e2 h1 h2 h3 st
    subst h1; subst h2; subst h3
    exact Or.inl ⟨v, (T.setVm vm₁).calling g' mk (Value.ref b :: As).toArray, t, U', L, hT, X', hL, e1, e2, hq, st⟩
  · dsimp only [Pt.U, Pt.locs, Pt.cells, Pt.slots] at X' e1 e2 h1 h2 h3 st hcl
    subst h1; subst h2; subst h3
    exact Or.inr ⟨q, (T.setVm vm₁).calling g' mk (Value.ref b :: As).toArray, t, U', L, E, ce, hT, X', hL, e1, e2, hq, hce, hcv, vx_cls hW₁ hcl, st⟩
end
/-! ===== END ===== -/
/-! ===== BEGIN .. of methods that hand back an object of the pool ===== -/
section
variable {p : Program} {l : Launch} {e : Env} {R : Room} {s : State} {m : MethodId} {args : Array Value} {below : List Frame} {meth : Method} {c : Code} {H : Heap} {locs : List Loc} {cells slots : Nat} {Q : State → Prop}
variable {mc ms : Nat} {free : Addr → Prop} {A0 A1 : Nat → Prop} {H0 : Heap} {a : Array Value} {pc : Nat} {ls : Array Slot} {st0 rest : List Value}
theorem vx_callq {S SX : Type} {post : Option Nat → S → Prop} {px : SX → Prop} {B : S → State → Prop} {BX : String → SX → State → Prop} {AX : Nat → Prop} (hr : vx_Run p l e R s m args below meth c H locs cells slots mc ms (F0 m pc ls st0) rest (va_Qq post B A1 a) (vx_X px BX AX) free) (hS : va_S A0 H0 H locs) (hA : ∀ q, q < H.size → A1 q → A0 q) (hf : ∀ q, free q → A0 q) (hAX : ∀ q, q < H.size → AX q → A0 q)
    (kx : ∀ (E : String) (ce : Cell) (q9 : Addr) (u : SX) (t : State) (H1 : Heap) (locs1 : List Loc), t.heap = H1 → s.vm.Alike t.vm → px u → BX E u t → H.size ≤ H1.size → (∀ q : Nat, q < H.size → ¬ AX q → H1[q]? = H[q]?) → va_S A0 H0 H1 locs1 → H1[q9]? = some ce → ce.vm = .none → s.vm.findClass E = some ce.cls → vx_W p l e R s m args below meth c H1 locs1 (cells + mc) (slots + ms) Q (F0 m pc ls rest) q9)
    (kk : ∀ (r : Option Nat) (u : S) (t : State) (H1 : Heap) (locs1 : List Loc), t.heap = H1 → s.vm.Alike t.vm → post r u → B u t → H.size ≤ H1.size → (∀ q : Nat, q < H.size → ¬ A1 q → H1[q]? = H[q]?) → va_S A0 H0 H1 locs1 → W p l e R s m args below meth c H1 locs1 (cells + mc) (slots + ms) Q (F0 m (pc + 3) ls (va_rf r :: rest))) : W p l e R s m args below meth c H locs cells slots Q (F0 m pc ls st0) := by
  intro T hT X
  rcases hr T hT X with ⟨v, st₀, t, T', L, h0, X', hL, e1, e2, ⟨⟨r, u, hv, hp, hb⟩, hF⟩, st⟩ | ⟨q, st₀, t, T', L, E, ce, h0, X', hL, e1, e2, ⟨u, hp, hb, hF⟩, hce, hcv, hcl, st⟩
  · cases hv
    obtain ⟨k1, k2, k3⟩ := vx_keep h0 e1 hS hA hf hL hF
    obtain ⟨t2, a1, b1⟩ := kk r u t T'.heap (locs ++ L) e1.symm (by rw [← e2]; exact X'.warmed.alike) hp hb k1 k2 k3 T' rfl X'
    exact ⟨t2, st t2 a1, b1⟩
  · obtain ⟨k1, k2, k3⟩ := vx_keep h0 e1 hS hAX hf hL hF
    obtain ⟨t2, a1, b1⟩ := kx E ce q u t T'.heap (locs ++ L) e1.symm (by rw [← e2]; exact X'.warmed.alike) hp hb k1 k2 k3 (by rw [e1]; exact hce) hcv hcl T' rfl X'
    exact ⟨t2, st.trans a1, b1⟩
end
/-! ===== END ===== -/
/-! ===== BEGIN .. a constant ===== -/
section
variable {p : Program} {l : Launch} {e : Env} {R : Room} {s : State} {m : MethodId} {args : Array Value} {below : List Frame} {meth : Method} {c : Code} {H : Heap} {locs : List Loc} {cells slots : Nat} {Q : State → Prop}
variable {mc ms : Nat} {free : Addr → Prop} {A0 A1 : Nat → Prop} {H0 : Heap} {a : Array Value} {pc : Nat} {ls : Array Slot} {st0 rest : List Value}
theorem vx_calle {ad : Nat → Nat} {S SX : Type} {post : Option Nat → S → Prop} {px : SX → Prop} {B : S → State → Prop} {BX : String → SX → State → Prop} {AX : Nat → Prop} (hr : vx_Run p l e R s m args below meth c H locs cells slots mc ms (F0 m pc ls st0) rest (va_Qe ad post B A1 a) (vx_X px BX AX) free) (hS : va_S A0 H0 H locs) (hA : ∀ q, q < H.size → A1 q → A0 q) (hf : ∀ q, free q → A0 q) (hAX : ∀ q, q < H.size → AX q → A0 q)
    (kx : ∀ (E : String) (ce : Cell) (q9 : Addr) (u : SX) (t : State) (H1 : Heap) (locs1 : List Loc), t.heap = H1 → s.vm.Alike t.vm → px u → BX E u t → H.size ≤ H1.size → (∀ q : Nat, q < H.size → ¬ AX q → H1[q]? = H[q]?) → va_S A0 H0 H1 locs1 → H1[q9]? = some ce → ce.vm = .none → s.vm.findClass E = some ce.cls → vx_W p l e R s m args below meth c H1 locs1 (cells + mc) (slots + ms) Q (F0 m pc ls rest) q9)
    (kk : ∀ (r : Option Nat) (u : S) (t : State) (H1 : Heap) (locs1 : List Loc), t.heap = H1 → s.vm.Alike t.vm → post r u → B u t → H.size ≤ H1.size → (∀ q : Nat, q < H.size → ¬ A1 q → H1[q]? = H[q]?) → va_S A0 H0 H1 locs1 → W p l e R s m args below meth c H1 locs1 (cells + mc) (slots + ms) Q (F0 m (pc + 3) ls (va_re ad r :: rest))) : W p l e R s m args below meth c H locs cells slots Q (F0 m pc ls st0) := by
  intro T hT X
  rcases hr T hT X with ⟨v, st₀, t, T', L, h0, X', hL, e1, e2, ⟨⟨r, u, hv, hp, hb⟩, hF⟩, st⟩ | ⟨q, st₀, t, T', L, E, ce, h0, X', hL, e1, e2, ⟨u, hp, hb, hF⟩, hce, hcv, hcl, st⟩
  · cases hv
    obtain ⟨k1, k2, k3⟩ := vx_keep h0 e1 hS hA hf hL hF
    obtain ⟨t2, a1, b1⟩ := kk r u t T'.heap (locs ++ L) e1.symm (by rw [← e2]; exact X'.warmed.alike) hp hb k1 k2 k3 T' rfl X'
    exact ⟨t2, st t2 a1, b1⟩
  · obtain ⟨k1, k2, k3⟩ := vx_keep h0 e1 hS hAX hf hL hF
    obtain ⟨t2, a1, b1⟩ := kx E ce q u t T'.heap (locs ++ L) e1.symm (by rw [← e2]; exact X'.warmed.alike) hp hb k1 k2 k3 (by rw [e1]; exact hce) hcv hcl T' rfl X'
    exact ⟨t2, st.trans a1, b1⟩
end
/-! ===== END ===== -/
/-! ===== BEGIN .. by an interface, an object ===== -/
section
variable {p : Program} {l : Launch} {e : Env} {R : Room} {s : State} {m : MethodId} {args : Array Value} {below : List Frame} {meth : Method} {c : Code} {H : Heap} {locs : List Loc} {cells slots : Nat} {Q : State → Prop}
variable {mc ms : Nat} {free : Addr → Prop} {A0 A1 : Nat → Prop} {H0 : Heap} {a : Array Value} {pc : Nat} {ls : Array Slot} {st0 rest : List Value}
theorem vx_callFq {S SX : Type} {post : Option Nat → S → Prop} {px : SX → Prop} {B : S → State → Prop} {BX : String → SX → State → Prop} {AX : Nat → Prop} (hr : vx_Run5 p l e R s m args below meth c H locs cells slots mc ms (F0 m pc ls st0) rest (va_Qq post B A1 a) (vx_X px BX AX) free) (hS : va_S A0 H0 H locs) (hA : ∀ q, q < H.size → A1 q → A0 q) (hf : ∀ q, free q → A0 q) (hAX : ∀ q, q < H.size → AX q → A0 q)
    (kx : ∀ (E : String) (ce : Cell) (q9 : Addr) (u : SX) (t : State) (H1 : Heap) (locs1 : List Loc), t.heap = H1 → s.vm.Alike t.vm → px u → BX E u t → H.size ≤ H1.size → (∀ q : Nat, q < H.size → ¬ AX q → H1[q]? = H[q]?) → va_S A0 H0 H1 locs1 → H1[q9]? = some ce → ce.vm = .none → s.vm.findClass E = some ce.cls → vx_W p l e R s m args below meth c H1 locs1 (cells + mc) (slots + ms) Q (F0 m pc ls rest) q9)
    (kk : ∀ (r : Option Nat) (u : S) (t : State) (H1 : Heap) (locs1 : List Loc), t.heap = H1 → s.vm.Alike t.vm → post r u → B u t → H.size ≤ H1.size → (∀ q : Nat, q < H.size → ¬ A1 q → H1[q]? = H[q]?) → va_S A0 H0 H1 locs1 → W p l e R s m args below meth c H1 locs1 (cells + mc) (slots + ms) Q (F0 m (pc + 5) ls (va_rf r :: rest))) : W p l e R s m args below meth c H locs cells slots Q (F0 m pc ls st0) := by
  intro T hT X
  rcases hr T hT X with ⟨v, st₀, t, T', L, h0, X', hL, e1, e2, ⟨⟨r, u, hv, hp, hb⟩, hF⟩, st⟩ | ⟨q, st₀, t, T', L, E, ce, h0, X', hL, e1, e2, ⟨u, hp, hb, hF⟩, hce, hcv, hcl, st⟩
  · cases hv
    obtain ⟨k1, k2, k3⟩ := vx_keep h0 e1 hS hA hf hL hF
    obtain ⟨t2, a1, b1⟩ := kk r u t T'.heap (locs ++ L) e1.symm (by rw [← e2]; exact X'.warmed.alike) hp hb k1 k2 k3 T' rfl X'
    exact ⟨t2, st t2 a1, b1⟩
  · obtain ⟨k1, k2, k3⟩ := vx_keep h0 e1 hS hAX hf hL hF
    obtain ⟨t2, a1, b1⟩ := kx E ce q u t T'.heap (locs ++ L) e1.symm (by rw [← e2]; exact X'.warmed.alike) hp hb k1 k2 k3 (by rw [e1]; exact hce) hcv hcl T' rfl X'
    exact ⟨t2, st.trans a1, b1⟩
end
/-! ===== END ===== -/
/-! ===== BEGIN .. by an interface, a constant ===== -/
section
variable {p : Program} {l : Launch} {e : Env} {R : Room} {s : State} {m : MethodId} {args : Array Value} {below : List Frame} {meth : Method} {c : Code} {H : Heap} {locs : List Loc} {cells slots : Nat} {Q : State → Prop}
variable {mc ms : Nat} {free : Addr → Prop} {A0 A1 : Nat → Prop} {H0 : Heap} {a : Array Value} {pc : Nat} {ls : Array Slot} {st0 rest : List Value}
theorem vx_callFe {ad : Nat → Nat} {S SX : Type} {post : Option Nat → S → Prop} {px : SX → Prop} {B : S → State → Prop} {BX : String → SX → State → Prop} {AX : Nat → Prop} (hr : vx_Run5 p l e R s m args below meth c H locs cells slots mc ms (F0 m pc ls st0) rest (va_Qe ad post B A1 a) (vx_X px BX AX) free) (hS : va_S A0 H0 H locs) (hA : ∀ q, q < H.size → A1 q → A0 q) (hf : ∀ q, free q → A0 q) (hAX : ∀ q, q < H.size → AX q → A0 q)
    (kx : ∀ (E : String) (ce : Cell) (q9 : Addr) (u : SX) (t : State) (H1 : Heap) (locs1 : List Loc), t.heap = H1 → s.vm.Alike t.vm → px u → BX E u t → H.size ≤ H1.size → (∀ q : Nat, q < H.size → ¬ AX q → H1[q]? = H[q]?) → va_S A0 H0 H1 locs1 → H1[q9]? = some ce → ce.vm = .none → s.vm.findClass E = some ce.cls → vx_W p l e R s m args below meth c H1 locs1 (cells + mc) (slots + ms) Q (F0 m pc ls rest) q9)
    (kk : ∀ (r : Option Nat) (u : S) (t : State) (H1 : Heap) (locs1 : List Loc), t.heap = H1 → s.vm.Alike t.vm → post r u → B u t → H.size ≤ H1.size → (∀ q : Nat, q < H.size → ¬ A1 q → H1[q]? = H[q]?) → va_S A0 H0 H1 locs1 → W p l e R s m args below meth c H1 locs1 (cells + mc) (slots + ms) Q (F0 m (pc + 5) ls (va_re ad r :: rest))) : W p l e R s m args below meth c H locs cells slots Q (F0 m pc ls st0) := by
  intro T hT X
  rcases hr T hT X with ⟨v, st₀, t, T', L, h0, X', hL, e1, e2, ⟨⟨r, u, hv, hp, hb⟩, hF⟩, st⟩ | ⟨q, st₀, t, T', L, E, ce, h0, X', hL, e1, e2, ⟨u, hp, hb, hF⟩, hce, hcv, hcl, st⟩
  · cases hv
    obtain ⟨k1, k2, k3⟩ := vx_keep h0 e1 hS hA hf hL hF
    obtain ⟨t2, a1, b1⟩ := kk r u t T'.heap (locs ++ L) e1.symm (by rw [← e2]; exact X'.warmed.alike) hp hb k1 k2 k3 T' rfl X'
    exact ⟨t2, st t2 a1, b1⟩
  · obtain ⟨k1, k2, k3⟩ := vx_keep h0 e1 hS hAX hf hL hF
    obtain ⟨t2, a1, b1⟩ := kx E ce q u t T'.heap (locs ++ L) e1.symm (by rw [← e2]; exact X'.warmed.alike) hp hb k1 k2 k3 (by rw [e1]; exact hce) hcv hcl T' rfl X'
    exact ⟨t2, st.trans a1, b1⟩
end
/-! ===== END ===== -/
/-! ===== BEGIN what the machine throws by itself: null at a field, at athrow ===== -/
section VXM2
variable {p : Program} {l : Launch} {e : Env} {R : Room} {s : State} {m : MethodId} {args : Array Value} {below : List Frame} {meth : Method} {c : Code} {H : Heap} {locs : List Loc} {cells slots : Nat}
variable {Q : State → Prop} {cc : ByteArray} {pc : Nat} {ls : Array Slot} {rest : List Value}
theorem vx_getfN {D cl tys} {own ref C : String} {T : u_T} {N ci index : Nat} {Ts : List Cond} (hexec : p.tables.exec = Jvm.exec) (hb : c.code = cc) (hts : ∀ w ∈ Ts, w.before args s = true) (hin : ∀ w ∈ u_ws C T N, w ∈ Ts) (hown : s.vm.findClass own = some m.cls) (hK : va_K D cl tys s) (hc : cl[ci]? = some (C, T, N)) (k : Nat) (hk : k < N) (hlink : (Cond.fieldLink own index ref (T k).2.1 (T k).2.2.1).before args s = true) (hsame : ∀ x, s.fieldFound? (T k).1 (T k).2.1 (T k).2.2.1 = some x → s.fieldFound? ref (T k).2.1 (T k).2.2.1 = some x) (hdg : decode cc pc = .ok (.getfield index, 3)) (kk : vx_NoteN p l e R s m args below meth c H locs cells slots Q (F0 m pc ls rest)) : W p l e R s m args below meth c H locs cells slots Q (F0 m pc ls (.null :: rest)) := by
  obtain ⟨hS, hfc, kC, hkC, -⟩ := hK.1 ci _ hc
  obtain ⟨cf, kf, fi, f, hi, -⟩ := hS k hk
  intro U hU X
  obtain ⟨vm', X1, st1⟩ := X.getfieldNull hexec hown hlink (hsame _ hi) (u_facts hfc hkC (u_lays hts hin hk) hi).1 (g := F0 m pc ls (.null :: rest)) rfl (rest := rest) rfl (by rw [hb]; exact hdg)
  obtain ⟨t, st, q⟩ := kk (U.setVm vm') hU X1
  exact ⟨t, st1 t st, q⟩
theorem vx_getfNN {D cl tys} {own ref C host : String} {T : u_T} {N ci index : Nat} {Ts : List Cond} (hexec : p.tables.exec = Jvm.exec) (hb : c.code = cc) (hts : ∀ w ∈ Ts, w.before args s = true) (hin : ∀ w ∈ u_ws C T N, w ∈ Ts) (hown : s.vm.findClass own = some m.cls) (hK : va_K D cl tys s) (hc : cl[ci]? = some (C, T, N)) (k : Nat) (hk : k < N) (hlink : (Cond.fieldLinkNest own index ref (T k).2.1 (T k).2.2.1 host).before args s = true) (hsame : ∀ x, s.fieldFound? (T k).1 (T k).2.1 (T k).2.2.1 = some x → s.fieldFound? ref (T k).2.1 (T k).2.2.1 = some x) (hdg : decode cc pc = .ok (.getfield index, 3)) (kk : vx_NoteN p l e R s m args below meth c H locs cells slots Q (F0 m pc ls rest)) : W p l e R s m args below meth c H locs cells slots Q (F0 m pc ls (.null :: rest)) := by
  obtain ⟨hS, hfc, kC, hkC, -⟩ := hK.1 ci _ hc
  obtain ⟨cf, kf, fi, f, hi, -⟩ := hS k hk
  intro U hU X
  obtain ⟨vm', X1, st1⟩ := X.getfieldNullNest hexec hown hlink (hsame _ hi) (u_facts hfc hkC (u_lays hts hin hk) hi).1 (g := F0 m pc ls (.null :: rest)) rfl (rest := rest) rfl (by rw [hb]; exact hdg)
  obtain ⟨t, st, q⟩ := kk (U.setVm vm') hU X1
  exact ⟨t, st1 t st, q⟩
theorem vx_putfN {D cl tys} {own ref C : String} {T : u_T} {N ci index : Nat} {Ts : List Cond} (hexec : p.tables.exec = Jvm.exec) (hb : c.code = cc) (hts : ∀ w ∈ Ts, w.before args s = true) (hin : ∀ w ∈ u_ws C T N, w ∈ Ts) (hown : s.vm.findClass own = some m.cls) (hK : va_K D cl tys s) (hc : cl[ci]? = some (C, T, N)) (k : Nat) (hk : k < N) (hlink : (Cond.fieldLink own index ref (T k).2.1 (T k).2.2.1).before args s = true) (hsame : ∀ x, s.fieldFound? (T k).1 (T k).2.1 (T k).2.2.1 = some x → s.fieldFound? ref (T k).2.1 (T k).2.2.1 = some x) (hfin : (T k).2.2.2 = false) {v : Value} (hdg : decode cc pc = .ok (.putfield index, 3)) (kk : vx_NoteN p l e R s m args below meth c H locs cells slots Q (F0 m pc ls rest)) : W p l e R s m args below meth c H locs cells slots Q (F0 m pc ls (v :: .null :: rest)) := by
  obtain ⟨hS, hfc, kC, hkC, -⟩ := hK.1 ci _ hc
  obtain ⟨cf, kf, fi, f, hi, -⟩ := hS k hk
  have hlay := hts _ (hin _ (u_in_lay hk))
  unfold u_lay at hlay
  rw [if_neg (by rw [hfin]; decide)] at hlay
  obtain ⟨c9, k9, cf9, kf9, fi9, f9, -, -, hi9, hst9, hnf9, -⟩ := Cond.lays_spec hlay
  cases hi.symm.trans hi9
  intro U hU X
  obtain ⟨vm', X1, st1⟩ := X.putfieldNull hexec hown hlink (hsame _ hi) hst9 hnf9 (g := F0 m pc ls (v :: .null :: rest)) rfl (v := v) (rest := rest) rfl (by rw [hb]; exact hdg)
  obtain ⟨t, st, q⟩ := kk (U.setVm vm') hU X1
  exact ⟨t, st1 t st, q⟩
theorem vx_putfNN {D cl tys} {own ref C host : String} {T : u_T} {N ci index : Nat} {Ts : List Cond} (hexec : p.tables.exec = Jvm.exec) (hb : c.code = cc) (hts : ∀ w ∈ Ts, w.before args s = true) (hin : ∀ w ∈ u_ws C T N, w ∈ Ts) (hown : s.vm.findClass own = some m.cls) (hK : va_K D cl tys s) (hc : cl[ci]? = some (C, T, N)) (k : Nat) (hk : k < N) (hlink : (Cond.fieldLinkNest own index ref (T k).2.1 (T k).2.2.1 host).before args s = true) (hsame : ∀ x, s.fieldFound? (T k).1 (T k).2.1 (T k).2.2.1 = some x → s.fieldFound? ref (T k).2.1 (T k).2.2.1 = some x) (hfin : (T k).2.2.2 = false) {v : Value} (hdg : decode cc pc = .ok (.putfield index, 3)) (kk : vx_NoteN p l e R s m args below meth c H locs cells slots Q (F0 m pc ls rest)) : W p l e R s m args below meth c H locs cells slots Q (F0 m pc ls (v :: .null :: rest)) := by
  obtain ⟨hS, hfc, kC, hkC, -⟩ := hK.1 ci _ hc
  obtain ⟨cf, kf, fi, f, hi, -⟩ := hS k hk
  have hlay := hts _ (hin _ (u_in_lay hk))
  unfold u_lay at hlay
  rw [if_neg (by rw [hfin]; decide)] at hlay
  obtain ⟨c9, k9, cf9, kf9, fi9, f9, -, -, hi9, hst9, hnf9, -⟩ := Cond.lays_spec hlay
  cases hi.symm.trans hi9
  intro U hU X
  obtain ⟨vm', X1, st1⟩ := X.putfieldNullNest hexec hown hlink (hsame _ hi) hst9 hnf9 (g := F0 m pc ls (v :: .null :: rest)) rfl (v := v) (rest := rest) rfl (by rw [hb]; exact hdg)
  obtain ⟨t, st, q⟩ := kk (U.setVm vm') hU X1
  exact ⟨t, st1 t st, q⟩
theorem vx_athrowN (hexec : p.tables.exec = Jvm.exec) (hb : c.code = cc) (hdg : decode cc pc = .ok (.athrow, 1)) (k : vx_NoteN p l e R s m args below meth c H locs cells slots Q (F0 m pc ls rest)) : W p l e R s m args below meth c H locs cells slots Q (F0 m pc ls (.null :: rest)) := by
  intro T hT X
  obtain ⟨t, st, q⟩ := k T hT X
  exact ⟨t, X.athrowNull hexec (g := F0 m pc ls (.null :: rest)) rfl (rest := rest) rfl (by rw [hb]; exact hdg) t st, q⟩
end VXM2
/-! ===== END ===== -/

/-! A pure interpreter of resolved instructions: tables, heap, one step, a method's run, calls by depth. Nothing of the machine here. -/
/-- (operation, i, j, x, length) -/
abbrev zI : Type := Nat × Nat × Nat × Int × Nat
/-- a cell: its kind (0: not known; 1..19: an object of the class kind - 1, by its fields; 20..26: an array; 27, 28: an array that nobody writes), its contents -/
abbrev zC : Type := Nat × List Value
/-- the cells, the heap's size, the slots that were made so far -/
abbrev zH : Type := (Nat → zC) × Nat × Nat
/-- how a method ends: with a value or without, or by throwing the exception of that number -/
abbrev zO : Type := Option Value ⊕ Nat
/-- what a step leads to: the next place; a call (method, arguments, the stack that is left); the end -/
abbrev zS : Type := Option ((Nat × List Slot × List Value × zH) ⊕ ((Nat × List Value × List Value) ⊕ (zO × zH)))
/-- the program: instructions, locals, handlers (from, to, exception, the local that takes it, the number that is returned), switches, a new object's fields -/
abbrev zProg : Type := (Nat → Nat → zI) × (Nat → Nat) × (Nat → List (Nat × Nat × Nat × Nat × Int)) × (Nat → List (Int × Nat)) × (Nat → List Value)
def zup (h : zH) (a : Nat) (c : zC) : zH := (fun q => if q = a then c else h.1 q, h.2)
def znew (h : zH) (c : zC) (n : Nat) : zH := (fun q => if q = h.2.1 then c else h.1 q, h.2.1 + 1, h.2.2 + n)
def zty : Nat → Value → Bool
  | 0, .int _ => true
  | 1, .long _ => true
  | 2, .float _ => true
  | 3, .double _ => true
  | 4, .ref _ => true
  | 4, .null => true
  | 5, .int v => v == 0 || v == 1
  | 6, .int v => decide (-128 ≤ v) && decide (v ≤ 127)
  | 7, .int v => decide (0 ≤ v) && decide (v ≤ 65535)
  | _, _ => false
def zcond : Nat → Int32 → Int32 → Bool
  | 0, x, y => decide (x = y)
  | 1, x, y => decide (¬ x = y)
  | 2, x, y => decide (x < y)
  | 3, x, y => decide (y ≤ x)
  | 4, x, y => decide (y < x)
  | _, x, y => decide (x ≤ y)
def zbin : Nat → Int32 → Int32 → Option Int32
  | 0, x, y => some (x + y)
  | 1, x, y => some (x - y)
  | 2, x, y => some (x * y)
  | 3, x, y => some (x &&& y)
  | 4, x, y => some (x ||| y)
  | 5, x, y => some (x ^^^ y)
  | 6, x, y => some (x <<< (y &&& 31))
  | 7, x, y => some (x >>> (y &&& 31))
  | 8, x, y => if y = 0 then none else some (x / y)
  | 9, x, y => if y = 0 then none else some (x - x / y * y)
  | 10, x, y => some ((x.toUInt32 >>> (y.toUInt32 &&& Int32.toUInt32 31)).toInt32)
  | _, _, _ => none
def zlbin : Nat → Int64 → Int64 → Option Int64
  | 0, x, y => some (x + y)
  | 1, x, y => some (x - y)
  | 2, x, y => if y = 0 then none else some (x / y)
  | 3, x, y => if y = 0 then none else some (x - x / y * y)
  | _, _, _ => none
/-- one operand: negations and conversions -/
def zun : Nat → Value → Option Value
  | 0, .int x => some (.int (-x))
  | 1, .int x => some (.long x.toInt64)
  | 2, .long x => some (.int x.toInt32)
  | 3, .int x => some (.int (x.toUInt32 % 65536).toInt32)
  | 4, .int x => some (.int x.toInt8.toInt32)
  | 5, .int x => some (.double (FP.i2d x))
  | 6, .int x => some (.float (FP.i2f x))
  | 7, .float x => if FP.f2d x &&& 0x7fffffffffffffff ≤ 0x7ff0000000000000 then some (.double (FP.f2d x)) else none
  | 8, .long x => some (.long (-x))
  | _, _ => none
/-- an index into an array of n -/
def zix (i : Int32) (n : Nat) : Bool := decide (¬ i < 0) && decide (i.toNatClampNeg < n)
/-- what an array of a kind keeps of a value -/
def znar : Nat → Value → Option Value
  | 20, .int x => some (.int x)
  | 21, .int x => some (narrow .char (.int x))
  | 22, .long x => some (.long x)
  | 23, .double x => some (.double x)
  | 24, .int x => some (narrow .byte (.int x))
  | _, _ => none
/-- a new array's elements -/
def zel : Nat → Value
  | 22 => .long 0
  | 23 => .double 0
  | 25 => .null
  | 26 => .null
  | _ => .int 0
def zgo (pc : Nat) (ls : List Slot) (st : List Value) (h : zH) : zS := some (.inl (pc, ls, st, h))
def zld (t : Nat) (x : Option Slot) (k : Value → zS) : zS := match x with
  | some (.val v) => if zty t v then k v else none
  | _ => none
def zstore (t i pc : Nat) (ls : List Slot) (st : List Value) (h : zH) : zS := match st with
  | v :: st' => if zty t v then (match storeLocals ls.toArray i v with
    | some l => zgo pc l.toList st' h
    | none => none) else none
  | _ => none
def ziinc (i pc : Nat) (x : Int) (ls : List Slot) (st : List Value) (h : zH) : zS := match ls[i]? with
  | some (.val (.int v)) => (match storeLocals ls.toArray i (.int (v + Int32.ofInt x)) with
    | some l => zgo pc l.toList st h
    | none => none)
  | _ => none
/-- stack, heap -/
def zstk (o pc : Nat) (ls : List Slot) (st : List Value) (h : zH) : zS := match o with
  | 0 => (match st with
    | a :: st' => if a.category = 1 then zgo pc ls (a :: a :: st') h else none
    | _ => none)
  | 1 => (match st with
    | a :: b :: st' => if a.category = 1 ∧ b.category = 1 then zgo pc ls (a :: b :: a :: st') h else none
    | _ => none)
  | 2 => (match st with
    | a :: b :: d :: st' => if a.category = 1 ∧ b.category = 1 ∧ d.category = 1 then zgo pc ls (a :: b :: d :: a :: st') h else none
    | _ => none)
  | 3 => (match st with
    | a :: b :: st' => if a.category = 1 ∧ b.category = 1 then zgo pc ls (a :: b :: a :: b :: st') h else none
    | _ => none)
  | 4 => (match st with
    | a :: st' => if a.category = 1 then zgo pc ls st' h else none
    | _ => none)
  | _ => none
def zgetf (kd j pc : Nat) (ls : List Slot) (st : List Value) (h : zH) : zS := match st with
  | .ref a :: st' => if (h.1 a).1 = kd ∧ j < (h.1 a).2.length then zgo pc ls ((h.1 a).2.getD j .null :: st') h else none
  | _ => none
def zputf (kd j t pc : Nat) (ls : List Slot) (st : List Value) (h : zH) : zS := match st with
  | v :: .ref a :: st' => if (h.1 a).1 = kd ∧ j < (h.1 a).2.length ∧ zty t v = true then zgo pc ls st' (zup h a (kd, (h.1 a).2.set j v)) else none
  | _ => none
def zald (kd pc : Nat) (ls : List Slot) (st : List Value) (h : zH) : zS := match st with
  | .int i :: .ref a :: st' => if (h.1 a).1 = kd ∧ zix i (h.1 a).2.length = true then zgo pc ls ((h.1 a).2.getD i.toNatClampNeg .null :: st') h else none
  | _ => none
def zast (kd pc : Nat) (ls : List Slot) (st : List Value) (h : zH) : zS := match st with
  | v :: .int i :: .ref a :: st' => if (h.1 a).1 = kd ∧ zix i (h.1 a).2.length = true then (match znar kd v with
    | some w => zgo pc ls st' (zup h a (kd, (h.1 a).2.set i.toNatClampNeg w))
    | none => none) else none
  | _ => none
/-- into an array of references to objects of one kind -/
def zastq (kd ko pc : Nat) (ls : List Slot) (st : List Value) (h : zH) : zS := match st with
  | .ref b :: .int i :: .ref a :: st' => if (h.1 a).1 = kd ∧ (h.1 b).1 = ko ∧ zix i (h.1 a).2.length = true then zgo pc ls st' (zup h a (kd, (h.1 a).2.set i.toNatClampNeg (.ref b))) else none
  | .null :: .int i :: .ref a :: st' => if (h.1 a).1 = kd ∧ zix i (h.1 a).2.length = true then zgo pc ls st' (zup h a (kd, (h.1 a).2.set i.toNatClampNeg .null)) else none
  | _ => none
def zalen (pc : Nat) (ls : List Slot) (st : List Value) (h : zH) : zS := match st with
  | .ref a :: st' => if 20 ≤ (h.1 a).1 then zgo pc ls (.int (Int32.ofNat (h.1 a).2.length) :: st') h else none
  | _ => none
def znewo (P : zProg) (kd pc : Nat) (ls : List Slot) (st : List Value) (h : zH) : zS :=
  zgo pc ls (.ref h.2.1 :: st) (znew h (kd, P.2.2.2.2 kd) (P.2.2.2.2 kd).length)
def znewa (kd pc : Nat) (ls : List Slot) (st : List Value) (h : zH) : zS := match st with
  | .int n :: st' => if ¬ n < 0 ∧ n.toNatClampNeg ≤ 65536 then zgo pc ls (.ref h.2.1 :: st') (znew h (kd, List.replicate n.toNatClampNeg (zel kd)) n.toNatClampNeg) else none
  | _ => none
/-- System.arraycopy of bytes -/
def zcopy (pc : Nat) (ls : List Slot) (st : List Value) (h : zH) : zS := match st with
  | .int n :: .int dp :: .ref b :: .int sp :: .ref a :: st' =>
    if (h.1 a).1 = 24 ∧ (h.1 b).1 = 24 ∧ a ≠ b ∧ ¬ sp < 0 ∧ ¬ dp < 0 ∧ ¬ n < 0 ∧ sp.toNatClampNeg + n.toNatClampNeg ≤ (h.1 a).2.length ∧ dp.toNatClampNeg + n.toNatClampNeg ≤ (h.1 b).2.length ∧ st'.length ≤ 4 ∧ (h.1 a).2.all (zty 6) = true then
      zgo pc ls st' (zup h b (24, (h.1 b).2.take dp.toNatClampNeg ++ (((h.1 a).2.drop sp.toNatClampNeg).take n.toNatClampNeg ++ (h.1 b).2.drop (dp.toNatClampNeg + n.toNatClampNeg)))) else none
  | _ => none
/-- what runs without a frame of its own: arraycopy, Math.max, min of ints, abs of longs -/
def znat (o pc : Nat) (ls : List Slot) (st : List Value) (h : zH) : zS := match o with
  | 0 => zcopy pc ls st h
  | 1 => (match st with
    | .int y :: .int x :: st' => if st'.length ≤ 4 then zgo pc ls (.int (if x < y then y else x) :: st') h else none
    | _ => none)
  | 2 => (match st with
    | .int y :: .int x :: st' => if st'.length ≤ 4 then zgo pc ls (.int (if y < x then y else x) :: st') h else none
    | _ => none)
  | 3 => (match st with
    | .long x :: st' => if st'.length ≤ 4 then zgo pc ls (.long (if 0 < x then x else -x) :: st') h else none
    | _ => none)
  | _ => none
def zswt (P : zProg) (i j : Nat) (ls : List Slot) (st : List Value) (h : zH) : zS := match st with
  | .int x :: st' => zgo (((P.2.2.2.1 i).find? (fun q => q.1 == x.toInt)).elim j (fun q => q.2)) ls st' h
  | _ => none
def zcmp (o pc : Nat) (ls : List Slot) (st : List Value) (h : zH) : zS := match o with
  | 0 => (match st with
    | .long y :: .long x :: st' => zgo pc ls (.int (lg_cmp x y) :: st') h
    | _ => none)
  | 1 => (match st with
    | .double y :: .double x :: st' => zgo pc ls (.int (Op.cmpValue (FP.dcmp x y) .l) :: st') h
    | _ => none)
  | 2 => (match st with
    | .float y :: .float x :: st' => zgo pc ls (.int (Op.cmpValue (FP.fcmp x y) .l) :: st') h
    | _ => none)
  | 3 => (match st with
    | .double y :: .double x :: st' => if FP.ddiv x y &&& 0x7fffffffffffffff ≤ 0x7ff0000000000000 then zgo pc ls (.double (FP.ddiv x y) :: st') h else none
    | _ => none)
  | 4 => (match st with
    | .float y :: .float x :: st' => if FP.fdiv x y &&& 0x7fffffff ≤ 0x7f800000 then zgo pc ls (.float (FP.fdiv x y) :: st') h else none
    | _ => none)
  | _ => none
def zif (o j pc : Nat) (ls : List Slot) (st : List Value) (h : zH) : zS := match st with
  | .int x :: st' => if zcond o x 0 then zgo j ls st' h else zgo pc ls st' h
  | _ => none
def zicmp (o j pc : Nat) (ls : List Slot) (st : List Value) (h : zH) : zS := match st with
  | .int y :: .int x :: st' => if zcond o x y then zgo j ls st' h else zgo pc ls st' h
  | _ => none
/-- o = 0: goes to j on null -/
def zifn (o j pc : Nat) (ls : List Slot) (st : List Value) (h : zH) : zS := match st with
  | .null :: st' => zgo (if o = 0 then j else pc) ls st' h
  | .ref _ :: st' => zgo (if o = 0 then pc else j) ls st' h
  | _ => none
/-- the receiver, where there is one, is an object of that kind -/
def zrecv (kd : Nat) (vs : List Value) (h : zH) : Bool := kd == 0 || (match vs with
  | .ref b :: _ => (h.1 b).1 == kd
  | _ => false)
/-- few enough words stay on the stack -/
def zfew (st : List Value) (j : Nat) : Bool := Nat.ble (st.length - j) 4 || Nat.ble ((st.drop j).map fun v => v.category).sum 8
def zcalls (i j kd : Nat) (st : List Value) (h : zH) : zS := if j ≤ st.length ∧ zfew st j = true ∧ zrecv kd (st.take j).reverse h = true then some (.inr (.inl (i, (st.take j).reverse, st.drop j))) else none
def zrets (t : Nat) (st : List Value) (h : zH) : zS := match st with
  | [v] => if zty t v then some (.inr (.inr (.inl (some v), h))) else none
  | _ => none
def zstep (P : zProg) (sv : Nat → Value) (I : zI) (pc : Nat) (ls : List Slot) (st : List Value) (h : zH) : zS :=
  match I.1 with
  | 0 => zgo (pc + I.2.2.2.2) ls (.int (Int32.ofInt I.2.2.2.1) :: st) h
  | 1 => zgo (pc + I.2.2.2.2) ls (.null :: st) h
  | 2 => zgo (pc + I.2.2.2.2) ls (.long (Int64.ofInt I.2.2.2.1) :: st) h
  | 3 => zgo (pc + I.2.2.2.2) ls (.float FP.fconst0 :: st) h
  | 4 => zld I.2.2.1 (ls[I.2.1]?) (fun v => zgo (pc + I.2.2.2.2) ls (v :: st) h)
  | 5 => zstore I.2.2.1 I.2.1 (pc + I.2.2.2.2) ls st h
  | 6 => ziinc I.2.1 (pc + I.2.2.2.2) I.2.2.2.1 ls st h
  | 7 => (match st with
    | .int y :: .int x :: st' => (match zbin I.2.1 x y with
      | some v => zgo (pc + I.2.2.2.2) ls (.int v :: st') h
      | none => none)
    | _ => none)
  | 8 => (match st with
    | .long y :: .long x :: st' => (match zlbin I.2.1 x y with
      | some v => zgo (pc + I.2.2.2.2) ls (.long v :: st') h
      | none => none)
    | _ => none)
  | 9 => (match st with
    | v :: st' => (match zun I.2.1 v with
      | some w => zgo (pc + I.2.2.2.2) ls (w :: st') h
      | none => none)
    | _ => none)
  | 10 => zcmp I.2.1 (pc + I.2.2.2.2) ls st h
  | 11 => zstk I.2.1 (pc + I.2.2.2.2) ls st h
  | 12 => zif I.2.1 I.2.2.1 (pc + 3) ls st h
  | 13 => zicmp I.2.1 I.2.2.1 (pc + 3) ls st h
  | 14 => zifn I.2.1 I.2.2.1 (pc + 3) ls st h
  | 15 => zgo I.2.2.1 ls st h
  | 16 => zgetf I.2.1 I.2.2.1 (pc + 3) ls st h
  | 17 => zputf I.2.1 I.2.2.1 I.2.2.2.1.toNat (pc + 3) ls st h
  | 18 => zald I.2.1 (pc + 1) ls st h
  | 19 => zast I.2.1 (pc + 1) ls st h
  | 20 => zastq I.2.1 I.2.2.1 (pc + 1) ls st h
  | 21 => zalen (pc + 1) ls st h
  | 22 => znewo P I.2.1 (pc + 3) ls st h
  | 23 => znewa I.2.1 (pc + I.2.2.2.2) ls st h
  | 24 => zcalls I.2.1 I.2.2.1 I.2.2.2.1.toNat st h
  | 25 => (match st with
    | .ref _ :: st' => if st'.length ≤ 4 then zgo (pc + 3) ls st' h else none
    | _ => none)
  | 26 => zrets I.2.1 st h
  | 27 => (match st with
    | [] => some (.inr (.inr (.inl none, h)))
    | _ => none)
  | 28 => if st.length ≤ 4 then some (.inr (.inr (.inr I.2.1, znew h (0, []) 6))) else none
  | 29 => zswt P I.2.1 I.2.2.1 ls st h
  | 30 => zgo (pc + 3) ls (sv I.2.1 :: st) h
  | 31 => znat I.2.1 (pc + 3) ls st h
  | _ => none
/-- the handler of a method for an exception thrown by the call at pc; a method without handlers hands it on -/
def zcatch (P : zProg) (k pc E : Nat) (ls : List Slot) (h : zH) : Option (zO × zH) := match P.2.2.1 k with
  | [] => some (.inr E, h)
  | hs => (match hs.find? (fun q => decide (q.1 ≤ pc) && decide (pc < q.2.1) && decide (q.2.2.1 = E)) with
    | some q => if ls[q.2.2.2.1]? = some .unset then some (.inl (some (.int (Int32.ofInt q.2.2.2.2))), h) else none
    | none => none)
abbrev zCall : Type := Nat → List Value → zH → Option (zO × zH)
def zrun (P : zProg) (sv : Nat → Value) (C : zCall) (k pc : Nat) (ls : List Slot) (st : List Value) (h : zH) : Option (zO × zH) :=
  match zstep P sv (P.1 k pc) pc ls st h with
  | some (.inl q) => zrun P sv C k q.1 q.2.1 q.2.2.1 q.2.2.2
  | some (.inr (.inl q)) => (match C q.1 q.2.1 h with
    | some (.inl v, h') => zrun P sv C k (pc + 3) ls (v.toList ++ q.2.2) h'
    | some (.inr E, h') => zcatch P k pc E ls h'
    | none => none)
  | some (.inr (.inr q)) => some q
  | none => none
partial_fixpoint
/-- behind a call -/
def zback (P : zProg) (sv : Nat → Value) (C : zCall) (k pc : Nat) (ls : List Slot) (st : List Value) (r : Option (zO × zH)) : Option (zO × zH) := match r with
  | some (.inl v, h') => zrun P sv C k (pc + 3) ls (v.toList ++ st) h'
  | some (.inr E, h') => zcatch P k pc E ls h'
  | none => none
/-- the locals at a method's entry -/
def zent (vs : List Value) (n : Nat) : List Slot := lg_sl vs ++ List.replicate (n - (lg_sl vs).length) Slot.unset
def zcall (P : zProg) (sv : Nat → Value) : Nat → zCall
  | 0, _, _, _ => none
  | d + 1, k, vs, h => if (lg_sl vs).length ≤ P.2.1 k then zrun P sv (zcall P sv d) k 0 (zent vs (P.2.1 k)) [] h else none

/-! The pure heap and the machine's. -/
/-- which classes the objects' kinds are, which classes the arrays' kinds are, the state at the law's entry -/
abbrev zG : Type := va_G × (Nat → ClassId) × State
def ztyK : Nat → FieldType
  | 20 => .int
  | 21 => .char
  | 22 => .long
  | 23 => .double
  | 24 => .byte
  | 25 => .object "ExpressionCompiler$Tree"
  | 26 => .object "ExpressionCompiler$State"
  | 27 => .byte
  | _ => .int
def zcellA (cA : ClassId) (vs : List Value) : Cell := { cls := cA, slots := vs.toArray, vm := .none }
theorem zcellA_eq (cA : ClassId) (vs : List Value) : zcellA cA vs = arrV cA vs.length (fun j => vs.getD j .null) := by
  unfold zcellA arrV
  congr 1
  apply Array.ext
  · simp
  · intro i h1 h2
    simp at h1
    simp [h1]
theorem zcellA_size (cA : ClassId) (vs : List Value) : (zcellA cA vs).slots.size = vs.length := by simp [zcellA]
theorem zcellA_get (cA : ClassId) (vs : List Value) {j : Nat} (h : j < vs.length) : (zcellA cA vs).slots[j]? = some (vs.getD j .null) := by
  simp [zcellA, h]
theorem zcellA_set (cA : ClassId) (vs : List Value) (j : Nat) (v : Value) : (zcellA cA vs).setSlot j v = zcellA cA (vs.set j v) := by
  simp [zcellA, Cell.setSlot]
def zat (cl : List vw_C) (G : zG) (a : Nat) (c : zC) (H : Heap) : Prop :=
  if c.1 = 0 then True
  else if c.1 < 20 then ∃ r : vw_C, cl[c.1 - 1]? = some r ∧ c.2.length = r.2.2 ∧ t_OB a (G.1.1 (c.1 - 1)) r.2.2 (G.1.2 (c.1 - 1)) H (vp_V c.2)
  else if c.1 < 27 then H[a]? = some (zcellA (G.2.1 c.1) c.2)
  else ∃ cell : Cell, H[a]? = some cell ∧ G.2.2.isArrayOf cell (ztyK c.1) ∧ cell.vm ≠ .unknown ∧ cell.slots.toList = c.2
def zrel (cl : List vw_C) (G : zG) (h : zH) (H : Heap) : Prop :=
  H.size = h.2.1 ∧ G.2.2.heap.size ≤ h.2.1 ∧ (∀ q : Nat, q < G.2.2.heap.size → H[q]? = G.2.2.heap[q]?) ∧ (∀ a : Nat, zat cl G a (h.1 a) H) ∧ ∀ a : Nat, (h.1 a).1 ≠ 0 → (h.1 a).1 < 27 → G.2.2.heap.size ≤ a
theorem zat.lt {cl : List vw_C} {G : zG} {a : Nat} {c : zC} {H : Heap} (h : zat cl G a c H) (h0 : c.1 ≠ 0) : a < H.size := by
  unfold zat at h
  rw [if_neg h0] at h
  split at h
  · obtain ⟨r, -, -, cell, h1, -⟩ := h
    exact (Array.getElem?_eq_some_iff.mp h1).1
  · split at h
    · exact (Array.getElem?_eq_some_iff.mp h).1
    · obtain ⟨cell, h1, -⟩ := h
      exact (Array.getElem?_eq_some_iff.mp h1).1
theorem zat.zero {cl : List vw_C} {G : zG} {a : Nat} {c : zC} {H : Heap} (h : c.1 = 0) : zat cl G a c H := by
  unfold zat
  rw [if_pos h]
  trivial
theorem zat.obj {cl : List vw_C} {G : zG} {a : Nat} {c : zC} {H : Heap} {ci : Nat} (h : zat cl G a c H) (hk : c.1 = ci + 1) (hc : ci < 19) : ∃ r : vw_C, cl[ci]? = some r ∧ c.2.length = r.2.2 ∧ t_OB a (G.1.1 ci) r.2.2 (G.1.2 ci) H (vp_V c.2) := by
  unfold zat at h
  rw [if_neg (by omega), if_pos (by omega)] at h
  rw [show c.1 - 1 = ci by omega] at h
  exact h
theorem zat.mkobj {cl : List vw_C} {G : zG} {a : Nat} {c : zC} {H : Heap} {ci : Nat} (hk : c.1 = ci + 1) (hc : ci < 19) (h : ∃ r : vw_C, cl[ci]? = some r ∧ c.2.length = r.2.2 ∧ t_OB a (G.1.1 ci) r.2.2 (G.1.2 ci) H (vp_V c.2)) : zat cl G a c H := by
  unfold zat
  rw [if_neg (by omega), if_pos (by omega)]
  rw [show c.1 - 1 = ci by omega]
  exact h
theorem zat.arr {cl : List vw_C} {G : zG} {a : Nat} {c : zC} {H : Heap} (h : zat cl G a c H) (h1 : 20 ≤ c.1) (h2 : c.1 < 27) : H[a]? = some (zcellA (G.2.1 c.1) c.2) := by
  unfold zat at h
  rw [if_neg (by omega), if_neg (by omega), if_pos h2] at h
  exact h
theorem zat.mkarr {cl : List vw_C} {G : zG} {a : Nat} {c : zC} {H : Heap} (h1 : 20 ≤ c.1) (h2 : c.1 < 27) (h : H[a]? = some (zcellA (G.2.1 c.1) c.2)) : zat cl G a c H := by
  unfold zat
  rw [if_neg (by omega), if_neg (by omega), if_pos h2]
  exact h
theorem zat.ro {cl : List vw_C} {G : zG} {a : Nat} {c : zC} {H : Heap} (h : zat cl G a c H) (h1 : 27 ≤ c.1) : ∃ cell : Cell, H[a]? = some cell ∧ G.2.2.isArrayOf cell (ztyK c.1) ∧ cell.vm ≠ .unknown ∧ cell.slots.toList = c.2 := by
  unfold zat at h
  rw [if_neg (by omega), if_neg (by omega), if_neg (by omega)] at h
  exact h
theorem zat.kept {cl : List vw_C} {G : zG} {a : Nat} {c : zC} {H H1 : Heap} (h : zat cl G a c H) (hq : H1[a]? = H[a]?) : zat cl G a c H1 := by
  by_cases h0 : c.1 = 0
  · exact zat.zero h0
  · by_cases h1 : c.1 < 20
    · obtain ⟨r, e1, e2, e3⟩ := h.obj (ci := c.1 - 1) (by omega) (by omega)
      exact zat.mkobj (ci := c.1 - 1) (by omega) (by omega) ⟨r, e1, e2, e3.kept hq⟩
    · by_cases h2 : c.1 < 27
      · exact zat.mkarr (by omega) h2 (hq.trans (h.arr (by omega) h2))
      · obtain ⟨cell, e1, e2⟩ := h.ro (by omega)
        unfold zat
        rw [if_neg h0, if_neg h1, if_neg h2]
        exact ⟨cell, hq.trans e1, e2⟩
theorem zrel.at {cl : List vw_C} {G : zG} {h : zH} {H : Heap} (hr : zrel cl G h H) (a : Nat) : zat cl G a (h.1 a) H := hr.2.2.2.1 a
theorem zrel.up {cl : List vw_C} {G : zG} {h : zH} {H H1 : Heap} {a : Nat} {c : zC} (hr : zrel cl G h H) (hk : (h.1 a).1 = c.1) (h0 : c.1 ≠ 0) (h27 : c.1 < 27) (hz : H1.size = H.size) (ho : ∀ q : Nat, q ≠ a → H1[q]? = H[q]?) (hc : zat cl G a c H1) : zrel cl G (zup h a c) H1 := by
  obtain ⟨r1, r2, r3, r4, r5⟩ := hr
  have hn : G.2.2.heap.size ≤ a := r5 a (by rw [hk]; exact h0) (by rw [hk]; exact h27)
  refine ⟨hz.trans r1, r2, fun q hq => ?_, fun q => ?_, fun q => ?_⟩
  · rw [ho q (by omega)]
    exact r3 q hq
  · show zat cl G q (if q = a then c else h.1 q) H1
    split
    · next e => rw [e]; exact hc
    · next e => exact (r4 q).kept (ho q e)
  · show (if q = a then c else h.1 q).1 ≠ 0 → (if q = a then c else h.1 q).1 < 27 → _
    split
    · next e => rw [e]; exact fun _ _ => hn
    · exact r5 q
theorem zrel.new {cl : List vw_C} {G : zG} {h : zH} {H H1 : Heap} {c : zC} {n : Nat} (hr : zrel cl G h H) (hz : H1.size = H.size + 1) (ho : ∀ q : Nat, q < H.size → H1[q]? = H[q]?) (hc : zat cl G H.size c H1) : zrel cl G (znew h c n) H1 := by
  obtain ⟨r1, r2, r3, r4, r5⟩ := hr
  refine ⟨by show H1.size = h.2.1 + 1; omega, by show _ ≤ h.2.1 + 1; omega, fun q hq => ?_, fun q => ?_, fun q => ?_⟩
  · rw [ho q (by omega)]
    exact r3 q hq
  · show zat cl G q (if q = h.2.1 then c else h.1 q) H1
    split
    · next e => rw [e, ← r1]; exact hc
    · next e =>
      by_cases h0 : (h.1 q).1 = 0
      · exact zat.zero h0
      · exact (r4 q).kept (ho q ((r4 q).lt h0))
  · show (if q = h.2.1 then c else h.1 q).1 ≠ 0 → (if q = h.2.1 then c else h.1 q).1 < 27 → _
    split
    · next e => rw [e]; exact fun _ _ => r2
    · exact r5 q
theorem zix_in {i : Int32} {n : Nat} (h : zix i n = true) : ¬ (i < 0 ∨ n ≤ i.toNatClampNeg) ∧ i.toNatClampNeg < n := by
  unfold zix at h
  rw [Bool.and_eq_true, decide_eq_true_eq, decide_eq_true_eq] at h
  exact ⟨fun q => q.elim h.1 (fun q => by omega), h.2⟩

/-! The instructions that touch the heap, over the machine. -/
def zK (cl : List vw_C) (G : zG) (s : State) : Prop :=
  (∀ (c : Nat) (q : vw_C), cl[c]? = some q → u_Kn s q.1 q.2.1 q.2.2 (G.1.1 c) (G.1.2 c)) ∧ (∀ k, 20 ≤ k → k < 27 → ArrOfT s (G.2.1 k) (ztyK k) ∧ va_RA s (G.2.1 k) (ztyK k)) ∧ G.2.2.WarmedH s.vm
theorem zK.moved {cl : List vw_C} {G : zG} {s t : State} (h : zK cl G s) (hW : s.WarmedH t.vm) : zK cl G t :=
  ⟨fun c q hq => u_Kn_moved hW.alike (h.1 c q hq), fun k h1 h2 => ⟨arrOfT_moved hW.alike (h.2.1 k h1 h2).1, (h.2.1 k h1 h2).2.moved hW.alike⟩, State.WarmedH.trans h.2.2 hW⟩
section ZOPS
variable {p : Program} {l : Launch} {e : Env} {R : Room} {s : State} {m : MethodId} {args : Array Value} {below : List Frame} {meth : Method} {c : Code} {H : Heap} {locs : List Loc} {cells slots : Nat} {Q : State → Prop}
variable {cc : ByteArray} {pc : Nat} {ls : Array Slot} {rest : List Value} {cl : List vw_C} {G : zG} {h : zH} {a : Nat} {Ts : List Cond} {own : String}
theorem zl_add {n0 a i : Nat} (hL : ∀ z ∈ locs, n0 ≤ z.base) (ha : n0 ≤ a) : ∀ z ∈ locs ++ [(⟨a, i⟩ : Loc)], n0 ≤ z.base := by
  intro z hz
  rcases List.mem_append.mp hz with hz | hz
  · exact hL z hz
  · rw [List.mem_singleton.mp hz]
    exact ha
theorem zw_getf (hexec : p.tables.exec = Jvm.exec) (hb : c.code = cc) (hts : ∀ w ∈ Ts, w.before args s = true) (hown : s.vm.findClass own = some m.cls) (hK : zK cl G s) (hr : zrel cl G h H)
    {ref C : String} {T : u_T} {N ci j index : Nat} (hin : ∀ w ∈ u_ws C T N, w ∈ Ts) (hc : cl[ci]? = some (C, T, N)) (hci : ci < 19) (hk : (h.1 a).1 = ci + 1) (hj : j < N)
    (hlink : (Cond.fieldLink own index ref (T j).2.1 (T j).2.2.1).before args s = true) (hsame : ∀ x, s.fieldFound? (T j).1 (T j).2.1 (T j).2.2.1 = some x → s.fieldFound? ref (T j).2.1 (T j).2.2.1 = some x) (hdg : decode cc pc = .ok (.getfield index, 3))
    (kk : W p l e R s m args below meth c H locs cells slots Q (F0 m (pc + 3) ls ((h.1 a).2.getD j .null :: rest))) : W p l e R s m args below meth c H locs cells slots Q (F0 m pc ls (.ref a :: rest)) := by
  obtain ⟨r, h1, hlen, cell, q1, q2, q3, q4⟩ := (hr.at a).obj hk hci
  have hr' : r = (C, T, N) := Option.some.inj (h1.symm.trans hc)
  subst hr'
  obtain ⟨hS, hfc, kC, hkC, hkind⟩ := hK.1 ci _ hc
  obtain ⟨cf, kf, fi, f, hi, hsl⟩ := hS j hj
  refine W.getf hexec hb hown hlink (hsame _ hi) (u_facts hfc hkC (u_lays hts hin hj) hi).1 q1 (by rw [q3]; exact fun h => by cases h) (v := (h.1 a).2.getD j .null) ?_ rfl rfl hdg kk
  rw [hsl, q4 j hj]
  rfl
theorem zw_apart (hts : ∀ w ∈ Ts, w.before args s = true) (hK : zK cl G s) {C : String} {T : u_T} {N ci : Nat} (hin : ∀ w ∈ u_ws C T N, w ∈ Ts) (hc : cl[ci]? = some (C, T, N)) (ty : Nat → FieldType) (hty : ∀ k, k < N → parseFieldDescriptor (T k).2.2.1 = some (ty k)) (hnm : ∀ a, a < N → ∀ b, b < N → a ≠ b → (T a).2.1 ≠ (T b).2.1) : ∀ x y, x < N → y < N → x ≠ y → (G.1.2 ci) x ≠ (G.1.2 ci) y := by
  intro x y hx hy hne
  obtain ⟨hS, -⟩ := hK.1 ci _ hc
  obtain ⟨_, _, _, fa, hia, ea⟩ := hS x hx
  obtain ⟨_, _, _, fb, hib, eb⟩ := hS y hy
  rw [← ea, ← eb]
  refine u_apart (u_lays hts hin hx) (u_lays hts hin hy) hia hib ?_
  rw [(State.fieldFound?_type hia (hty x hx)).1, (State.fieldFound?_type hib (hty y hy)).1]
  exact hnm x hx y hy hne
theorem zt_fits {t : Nat} {v : Value} {ty : FieldType} (h : zty t v = true) (hty : (t = 0 ∧ ty = .int) ∨ (t = 1 ∧ ty = .long) ∨ (t = 4 ∧ ∃ n, ty = .object n) ∨ (t = 4 ∧ ∃ n, ty = .array n) ∨ (t = 5 ∧ ty = .boolean) ∨ (t = 6 ∧ ty = .byte) ∨ (t = 7 ∧ ty = .char)) : narrow ty v = v ∧ fits ty v = true := by
  rcases hty with ⟨rfl, rfl⟩ | ⟨rfl, rfl⟩ | ⟨rfl, n, rfl⟩ | ⟨rfl, n, rfl⟩ | ⟨rfl, rfl⟩ | ⟨rfl, rfl⟩ | ⟨rfl, rfl⟩
  · cases v <;> first | exact ⟨rfl, rfl⟩ | cases h
  · cases v <;> first | exact ⟨rfl, rfl⟩ | cases h
  · cases v <;> first | exact ⟨rfl, rfl⟩ | cases h
  · cases v <;> first | exact ⟨rfl, rfl⟩ | cases h
  · cases v with
    | int v =>
      have h9 : (v == 0 || v == 1) = true := h
      rw [Bool.or_eq_true, beq_iff_eq, beq_iff_eq] at h9
      rcases h9 with rfl | rfl <;> exact ⟨by decide, by decide⟩
    | _ => cases h
  · cases v with
    | int v =>
      have h9 : (decide (-128 ≤ v) && decide (v ≤ 127)) = true := h
      refine ⟨?_, h9⟩
      rw [Bool.and_eq_true, decide_eq_true_eq, decide_eq_true_eq, Int32.le_iff_toInt_le, Int32.le_iff_toInt_le] at h9
      have e1 : (-128 : Int32).toInt = -128 := by decide
      have e2 : (127 : Int32).toInt = 127 := by decide
      rw [e1, e2] at h9
      show Value.int v.toInt8.toInt32 = .int v
      congr 1
      rw [← Int32.toInt_inj, Int8.toInt_toInt32, Int32.toInt_toInt8, Int.bmod_eq_of_le (by omega) (by omega)]
    | _ => cases h
  · cases v with
    | int v =>
      have h9 : (decide (0 ≤ v) && decide (v ≤ 65535)) = true := h
      refine ⟨?_, h9⟩
      rw [Bool.and_eq_true, decide_eq_true_eq, decide_eq_true_eq, Int32.le_iff_toInt_le, Int32.le_iff_toInt_le] at h9
      have e1 : (0 : Int32).toInt = 0 := by decide
      have e2 : (65535 : Int32).toInt = 65535 := by decide
      rw [e1, e2] at h9
      obtain ⟨n, hn, rfl⟩ := nI_of (x := v) (by rw [Int32.lt_iff_toInt_lt, e1]; omega)
      rw [nI_toInt hn] at h9
      exact (pk_charN (by omega)).1
    | _ => cases h
theorem zw_putf (hexec : p.tables.exec = Jvm.exec) (hb : c.code = cc) (hts : ∀ w ∈ Ts, w.before args s = true) (hown : s.vm.findClass own = some m.cls) (hK : zK cl G s) (hr : zrel cl G h H) (hL : ∀ z ∈ locs, G.2.2.heap.size ≤ z.base)
    {ref C : String} {T : u_T} {N ci j index : Nat} {v : Value} (hin : ∀ w ∈ u_ws C T N, w ∈ Ts) (ty0 : Nat → FieldType) (hty : ∀ k, k < N → parseFieldDescriptor (T k).2.2.1 = some (ty0 k)) (hnm : ∀ a, a < N → ∀ b, b < N → a ≠ b → (T a).2.1 ≠ (T b).2.1) (hc : cl[ci]? = some (C, T, N)) (hci : ci < 19) (hk : (h.1 a).1 = ci + 1) (hj : j < N)
    (hlink : (Cond.fieldLink own index ref (T j).2.1 (T j).2.2.1).before args s = true) (hsame : ∀ x, s.fieldFound? (T j).1 (T j).2.1 (T j).2.2.1 = some x → s.fieldFound? ref (T j).2.1 (T j).2.2.1 = some x) (hfin : (T j).2.2.2 = true → meth.name = "<init>" ∧ (T j).1 = own)
    (hv : narrow (ty0 j) v = v ∧ fits (ty0 j) v = true) (hdg : decode cc pc = .ok (.putfield index, 3))
    (kk : ∀ (H1 : Heap) (locs1 : List Loc), zrel cl G (zup h a (ci + 1, (h.1 a).2.set j v)) H1 → (∀ z ∈ locs1, G.2.2.heap.size ≤ z.base) → W p l e R s m args below meth c H1 locs1 cells slots Q (F0 m (pc + 3) ls rest)) : W p l e R s m args below meth c H locs cells slots Q (F0 m pc ls (v :: .ref a :: rest)) := by
  have hap := zw_apart hts hK hin hc ty0 hty hnm
  obtain ⟨r, h1, hlen, cell, q1, q2, q3, q4⟩ := (hr.at a).obj hk hci
  have hr' : r = (C, T, N) := Option.some.inj (h1.symm.trans hc)
  subst hr'
  obtain ⟨hS, hfc, kC, hkC, hkind⟩ := hK.1 ci _ hc
  obtain ⟨cf, kf, fi, f, hi, hsl⟩ := hS j hj
  have hlay := hts _ (hin _ (u_in_lay hj))
  have hn0 : G.2.2.heap.size ≤ a := hr.2.2.2.2 a (by omega) (by omega)
  have fin : ∀ H' : Heap, H'[a]? = some (cell.setSlot f.slot v) → H'.size = H.size → (∀ q, q ≠ a → H'[q]? = H[q]?) → W p l e R s m args below meth c H' (locs ++ [⟨a, f.slot⟩]) cells slots Q { (F0 m pc ls (v :: .ref a :: rest)) with pc := pc + 3, stack := rest } := by
    intro H' e1 e2 e3
    rw [hsl] at e1
    refine kk H' _ (hr.up (by rw [hk]) (by show ci + 1 ≠ 0; omega) (by show ci + 1 < 27; omega) e2 e3 (zat.mkobj rfl hci ⟨_, hc, by rw [List.length_set]; exact hlen, t_OB.to (V := updV (vp_V (h.1 a).2) j v) ⟨_, e1, q2, q3, t_set q4 hap hj v⟩ (fun i _ => vp_updV_set (by rw [hlen]; exact hj) v i)⟩)) (zl_add hL hn0)
  unfold u_lay at hlay
  have hst := (u_facts hfc hkC (u_lays hts hin hj) hi).1
  cases hf : (T j).2.2.2 with
  | false =>
    rw [if_neg (by rw [hf]; decide)] at hlay
    have h6 := u_store hfc hkC hkind hlay hi (hty j hj) hv.1 hv.2
    exact W.putK hexec hb (f := f) ⟨hown, hlink, ⟨_, _, _, hsame _ hi⟩, hst⟩ (by rw [q2]; exact h6) q1 q3 (by rw [hsl]; exact k2_hasslot (q4 j hj)) rfl rfl hdg fin
  | true =>
    rw [if_pos hf] at hlay
    obtain ⟨hin2, hdecl⟩ := hfin hf
    have hcf : m.cls = cf := by
      obtain ⟨_, _, c', _, _, _, -, -, hf', -, -, -, hown2, -⟩ := Cond.laysFinal_spec hlay
      have e1 : c' = cf := by have := hi.symm.trans hf'; simp at this; exact this.1.symm
      rw [hdecl] at hown2
      rw [← e1]; exact Option.some.inj (hown.symm.trans hown2)
    have h6 := u_fits hfc hkC hkind (Or.inr hlay) hi (hty j hj) hv.1 hv.2
    exact W.putFinK hexec hb hown hlink (hsame _ hi) hst hcf hin2 (by rw [q2]; exact h6) q1 q3 (by rw [hsl]; exact k2_hasslot (q4 j hj)) rfl rfl hdg fin
theorem zw_cell (hK : zK cl G s) (hr : zrel cl G h H) (hk : 20 ≤ (h.1 a).1) : ∃ cell : Cell, H[a]? = some cell ∧ s.isArrayOf cell (ztyK (h.1 a).1) ∧ cell.vm ≠ .unknown ∧ cell.slots.size = (h.1 a).2.length ∧ ∀ j, j < (h.1 a).2.length → cell.slots[j]? = some ((h.1 a).2.getD j .null) := by
  by_cases h27 : (h.1 a).1 < 27
  · refine ⟨_, (hr.at a).arr hk h27, ?_, (fun q => by cases q), zcellA_size _ _, fun j hj => zcellA_get _ _ hj⟩
    rw [zcellA_eq]
    exact (hK.2.1 _ hk h27).1 _ _
  · obtain ⟨cell, e1, e2, e3, e4⟩ := (hr.at a).ro (by omega)
    refine ⟨cell, e1, State.isArrayOf_alike hK.2.2.alike e2, e3, by rw [← e4]; simp, fun j hj => ?_⟩
    rw [← e4] at hj ⊢
    simp at hj
    simp [hj]
theorem zw_ald (hexec : p.tables.exec = Jvm.exec) (hb : c.code = cc) (hK : zK cl G s) (hr : zrel cl G h H) {i : Int32} {kd : Nat} (hk : (h.1 a).1 = kd) (h20 : 20 ≤ kd) (hi : zix i (h.1 a).2.length = true) {ins : Instr}
    (hins : (ins = .iaload ∧ ztyK kd = .int) ∨ (ins = .caload ∧ ztyK kd = .char) ∨ (ins = .laload ∧ ztyK kd = .long) ∨ (ins = .daload ∧ ztyK kd = .double) ∨ (ins = .baload ∧ ztyK kd = .byte) ∨ (ins = .aaload ∧ (ztyK kd).isReference = true)) (hdg : decode cc pc = .ok (ins, 1))
    (kk : W p l e R s m args below meth c H locs cells slots Q (F0 m (pc + 1) ls ((h.1 a).2.getD i.toNatClampNeg .null :: rest))) : W p l e R s m args below meth c H locs cells slots Q (F0 m pc ls (.int i :: .ref a :: rest)) := by
  obtain ⟨hi1, hi2⟩ := zix_in hi
  obtain ⟨cell, e1, e2, e3, e4, e5⟩ := zw_cell hK hr (a := a) (by omega)
  rw [hk] at e2
  have e6 := e5 _ hi2
  rw [← e4] at hi1
  rcases hins with ⟨rfl, ht⟩ | ⟨rfl, ht⟩ | ⟨rfl, ht⟩ | ⟨rfl, ht⟩ | ⟨rfl, ht⟩ | ⟨rfl, ht⟩
  · rw [ht] at e2; exact W.iald hexec hb e1 e2 e3 hi1 e6 rfl rfl hdg kk
  · rw [ht] at e2; exact W.cald hexec hb e1 e2 e3 hi1 e6 rfl rfl hdg kk
  · rw [ht] at e2; exact W.lald hexec hb e1 e2 e3 hi1 e6 rfl rfl hdg kk
  · rw [ht] at e2; exact W.dald hexec hb e1 e2 e3 hi1 e6 rfl rfl hdg kk
  · rw [ht] at e2; exact W.bald hexec hb e1 e2 e3 hi1 e6 rfl rfl hdg kk
  · exact W.aald hexec hb e1 e2 ht e3 hi1 e6 rfl rfl hdg kk
theorem zw_alen (hexec : p.tables.exec = Jvm.exec) (hb : c.code = cc) (hK : zK cl G s) (hr : zrel cl G h H) (hk : 20 ≤ (h.1 a).1) (hdg : decode cc pc = .ok (.arraylength, 1))
    (kk : W p l e R s m args below meth c H locs cells slots Q (F0 m (pc + 1) ls (.int (Int32.ofNat (h.1 a).2.length) :: rest))) : W p l e R s m args below meth c H locs cells slots Q (F0 m pc ls (.ref a :: rest)) := by
  obtain ⟨cell, e1, e2, e3, e4, e5⟩ := zw_cell hK hr (a := a) hk
  exact W.alen hexec hb e1 e2 (by rw [e4] <;> rfl) rfl rfl hdg kk
theorem zw_ast (hexec : p.tables.exec = Jvm.exec) (hb : c.code = cc) (hK : zK cl G s) (hr : zrel cl G h H) (hL : ∀ z ∈ locs, G.2.2.heap.size ≤ z.base) {i : Int32} {kd : Nat} {v w : Value} (hk : (h.1 a).1 = kd) (h20 : 20 ≤ kd) (h27 : kd < 27) (hi : zix i (h.1 a).2.length = true) (hw : znar kd v = some w) {ins : Instr}
    (hins : (ins = .iastore ∧ kd = 20) ∨ (ins = .castore ∧ kd = 21) ∨ (ins = .lastore ∧ kd = 22) ∨ (ins = .dastore ∧ kd = 23) ∨ (ins = .bastore ∧ kd = 24)) (hdg : decode cc pc = .ok (ins, 1))
    (kk : ∀ (H1 : Heap) (locs1 : List Loc), zrel cl G (zup h a (kd, (h.1 a).2.set i.toNatClampNeg w)) H1 → (∀ z ∈ locs1, G.2.2.heap.size ≤ z.base) → W p l e R s m args below meth c H1 locs1 cells slots Q (F0 m (pc + 1) ls rest)) : W p l e R s m args below meth c H locs cells slots Q (F0 m pc ls (v :: .int i :: .ref a :: rest)) := by
  obtain ⟨hi1, hi2⟩ := zix_in hi
  have e1 := (hr.at a).arr (by omega) (by omega)
  rw [hk] at e1
  have e2 : s.isArrayOf (zcellA (G.2.1 kd) (h.1 a).2) (ztyK kd) := by rw [zcellA_eq]; exact (hK.2.1 _ h20 h27).1 _ _
  have hi3 : ¬ (i < 0 ∨ (zcellA (G.2.1 kd) (h.1 a).2).slots.size ≤ i.toNatClampNeg) := by rw [zcellA_size]; exact hi1
  have hn0 : G.2.2.heap.size ≤ a := hr.2.2.2.2 a (by omega) (by omega)
  have fin : ∀ H' : Heap, H'[a]? = some ((zcellA (G.2.1 kd) (h.1 a).2).setSlot i.toNatClampNeg w) → H'.size = H.size → (∀ q, q ≠ a → H'[q]? = H[q]?) → W p l e R s m args below meth c H' (locs ++ [⟨a, i.toNatClampNeg⟩]) cells slots Q (F0 m (pc + 1) ls rest) := by
    intro H' f1 f2 f3
    rw [zcellA_set] at f1
    exact kk H' _ (hr.up hk (by show kd ≠ 0; omega) h27 f2 f3 (zat.mkarr h20 h27 f1)) (zl_add hL hn0)
  rcases hins with ⟨rfl, rfl⟩ | ⟨rfl, rfl⟩ | ⟨rfl, rfl⟩ | ⟨rfl, rfl⟩ | ⟨rfl, rfl⟩
  · cases v <;> first | (cases hw; exact W.iast hexec hb e1 e2 (fun q => by cases q) hi3 rfl rfl hdg fin) | cases hw
  · cases v <;> first | (cases hw; exact W.cast hexec hb e1 e2 (fun q => by cases q) hi3 rfl rfl hdg fin) | cases hw
  · cases v <;> first | (cases hw; exact W.last hexec hb e1 e2 (fun q => by cases q) hi3 rfl rfl hdg fin) | cases hw
  · cases v <;> first | (cases hw; exact W.dast hexec hb e1 e2 (fun q => by cases q) hi3 rfl rfl hdg fin) | cases hw
  · cases v <;> first | (cases hw; exact W.bast hexec hb e1 e2 (fun q => by cases q) hi3 rfl rfl hdg fin) | cases hw
theorem zw_astq (hexec : p.tables.exec = Jvm.exec) (hb : c.code = cc) (hK : zK cl G s) (hr : zrel cl G h H) (hL : ∀ z ∈ locs, G.2.2.heap.size ≤ z.base) {i : Int32} {kd ci b : Nat} {r : vw_C} (hk : (h.1 a).1 = kd) (h20 : 20 ≤ kd) (h27 : kd < 27) (hkb : (h.1 b).1 = ci + 1) (hci : ci < 19) (hc : cl[ci]? = some r) (hty : ztyK kd = .object r.1) (hi : zix i (h.1 a).2.length = true) (hdg : decode cc pc = .ok (.aastore, 1))
    (kk : ∀ (H1 : Heap) (locs1 : List Loc), zrel cl G (zup h a (kd, (h.1 a).2.set i.toNatClampNeg (.ref b))) H1 → (∀ z ∈ locs1, G.2.2.heap.size ≤ z.base) → W p l e R s m args below meth c H1 locs1 cells slots Q (F0 m (pc + 1) ls rest)) : W p l e R s m args below meth c H locs cells slots Q (F0 m pc ls (.ref b :: .int i :: .ref a :: rest)) := by
  obtain ⟨hi1, hi2⟩ := zix_in hi
  have e1 := (hr.at a).arr (by omega) (by omega)
  rw [hk] at e1
  obtain ⟨r', hr', hlen, cellV, g1, g2, g3, -⟩ := (hr.at b).obj hkb hci
  have hrr : r' = r := Option.some.inj (hr'.symm.trans hc)
  subst hrr
  have hcls := (hK.1 ci _ hc).2
  have hRA := (hK.2.1 kd h20 h27).2
  rw [hty] at hRA
  obtain ⟨kA, comp, k1, k2, k3, -⟩ := hRA
  have hcomp : comp = G.1.1 ci := Option.some.inj (k3.symm.trans hcls.1)
  subst hcomp
  obtain ⟨kC, hkC, -⟩ := hcls.2
  have hn0 : G.2.2.heap.size ≤ a := hr.2.2.2.2 a (by omega) (by omega)
  refine W.aast hexec hb e1 (fun q h => by cases h) (fun h => by cases h) k1 k2 rfl hkC ⟨fun q => hi1 (Or.inl q), by rw [zcellA_size]; exact hi2⟩ g1 (fun q h => by rw [g3] at h; cases h) (by rw [g2]; exact hkC) (by rw [g2]; exact va_assign hcls) rfl rfl hdg fun H1 f1 f2 f3 => ?_
  rw [zcellA_set] at f1
  exact kk H1 _ (hr.up hk (by show kd ≠ 0; omega) h27 f2 f3 (zat.mkarr h20 h27 f1)) (zl_add hL hn0)
theorem zw_astN (hexec : p.tables.exec = Jvm.exec) (hb : c.code = cc) (hK : zK cl G s) (hr : zrel cl G h H) (hL : ∀ z ∈ locs, G.2.2.heap.size ≤ z.base) {i : Int32} {kd : Nat} {C : String} (hk : (h.1 a).1 = kd) (h20 : 20 ≤ kd) (h27 : kd < 27) (hty : ztyK kd = .object C) (hi : zix i (h.1 a).2.length = true) (hdg : decode cc pc = .ok (.aastore, 1))
    (kk : ∀ (H1 : Heap) (locs1 : List Loc), zrel cl G (zup h a (kd, (h.1 a).2.set i.toNatClampNeg .null)) H1 → (∀ z ∈ locs1, G.2.2.heap.size ≤ z.base) → W p l e R s m args below meth c H1 locs1 cells slots Q (F0 m (pc + 1) ls rest)) : W p l e R s m args below meth c H locs cells slots Q (F0 m pc ls (.null :: .int i :: .ref a :: rest)) := by
  obtain ⟨hi1, hi2⟩ := zix_in hi
  have e1 := (hr.at a).arr (by omega) (by omega)
  rw [hk] at e1
  have e2 : s.isArrayOf (zcellA (G.2.1 kd) (h.1 a).2) (.object C) := by rw [zcellA_eq, ← hty]; exact (hK.2.1 _ h20 h27).1 _ _
  have hn0 : G.2.2.heap.size ≤ a := hr.2.2.2.2 a (by omega) (by omega)
  refine va_WaastN (C := C) hexec hb e1 e2 (fun h => by cases h) (by rw [zcellA_size]; exact hi1) rfl rfl hdg fun H1 f1 f2 f3 => ?_
  rw [zcellA_set] at f1
  exact kk H1 _ (hr.up hk (by show kd ≠ 0; omega) h27 f2 f3 (zat.mkarr h20 h27 f1)) (zl_add hL hn0)
theorem zw_newo (hexec : p.tables.exec = Jvm.exec) (hb : c.code = cc) (hts : ∀ w ∈ Ts, w.before args s = true) (hown : s.vm.findClass own = some m.cls) (hK : zK cl G s) (hr : zrel cl G h H)
    {C : String} {T : u_T} {N ci index : Nat} {fs : List Value} (hin : ∀ w ∈ u_ws C T N, w ∈ Ts) (ty0 : Nat → FieldType) (hty : ∀ k, k < N → parseFieldDescriptor (T k).2.2.1 = some (ty0 k)) (hc : cl[ci]? = some (C, T, N)) (hci : ci < 19) (hN : fs.length = N) (hfs : ∀ j, j < N → defaultValue (ty0 j) = vp_V fs j)
    (hcl : (Cond.classLink own index C).before args s = true) (hinst : (Cond.instantiable C N).before args s = true) (hini : (Cond.initialized C).before args s = true) (hcells : cells + 1 ≤ R.cells) (hslots : slots + N ≤ R.slots) (hdg : decode cc pc = .ok (.new index, 3))
    (kk : ∀ (H1 : Heap), zrel cl G (znew h (ci + 1, fs) N) H1 → W p l e R s m args below meth c H1 locs (cells + 1) (slots + N) Q (F0 m (pc + 3) ls (.ref h.2.1 :: rest))) : W p l e R s m args below meth c H locs cells slots Q (F0 m pc ls rest) := by
  have hKn := hK.1 ci _ hc
  refine W.newcK hexec hb hown hcl hinst hini rfl hdg hcells hslots hKn.2.1 hr.1 fun H1 kC hkC e1 z1 o1 => ?_
  rw [← hr.1] at z1 o1 e1
  exact kk H1 (hr.new z1 o1 (zat.mkobj rfl hci ⟨_, hc, hN, (u_born ty0 hts hin hKn hkC e1 hty).to hfs⟩))
theorem zw_newa (hexec : p.tables.exec = Jvm.exec) (hb : c.code = cc) (hK : zK cl G s) (hr : zrel cl G h H) {n : Int32} {kd : Nat} {atype : ArrayType} (h20 : 20 ≤ kd) (h25 : kd < 25) (hty : newarray.typeOf atype = ztyK kd) (hdv : defaultValue (ztyK kd) = zel kd) (hn : ¬ n < 0) (hle : n.toNatClampNeg ≤ 65536)
    (harr : (Cond.arrayClass (newarray.typeOf atype)).before args s = true) (hcells : cells + 1 ≤ R.cells) (hslots : slots + n.toNatClampNeg ≤ R.slots) (hdg : decode cc pc = .ok (.newarray atype, 2))
    (kk : ∀ (H1 : Heap), zrel cl G (znew h (kd, List.replicate n.toNatClampNeg (zel kd)) n.toNatClampNeg) H1 → W p l e R s m args below meth c H1 locs (cells + 1) (slots + n.toNatClampNeg) Q (F0 m (pc + 2) ls (.ref h.2.1 :: rest))) : W p l e R s m args below meth c H locs cells slots Q (F0 m pc ls (.int n :: rest)) := by
  have hbytes : n.toNatClampNeg * componentBytes (newarray.typeOf atype) ≤ 536870912 := by
    have : componentBytes (newarray.typeOf atype) ≤ 8 := by cases atype <;> decide
    exact Nat.le_trans (Nat.mul_le_mul hle this) (by decide)
  refine va_newaK hexec hb harr rfl hdg rfl hn rfl hbytes hcells hslots hr.1 fun H1 cA e1 z1 o1 hAr hNm => ?_
  rw [← hr.1] at z1 o1 e1
  have hRA := (hK.2.1 kd h20 (by omega)).2
  have hcA : cA = G.2.1 kd := by
    rw [hty] at hNm
    have h9 : s.vm.findClass ("[" ++ (ztyK kd).toString) = some (G.2.1 kd) := by
      rcases (show kd = 20 ∨ kd = 21 ∨ kd = 22 ∨ kd = 23 ∨ kd = 24 by omega) with rfl | rfl | rfl | rfl | rfl <;> exact hRA
    exact Option.some.inj (hNm.symm.trans h9)
  refine kk H1 (hr.new z1 o1 (zat.mkarr h20 (by show kd < 27; omega) ?_))
  rw [e1, hcA, zcellA_eq, hty, hdv]
  congr 1
  simp only [List.length_replicate]
  unfold arrV
  congr 1
  apply Array.ext
  · simp
  · intro i h1 h2
    simp at h1
    simp [h1]
theorem zw_newq (hexec : p.tables.exec = Jvm.exec) (hb : c.code = cc) (hown : s.vm.findClass own = some m.cls) (hK : zK cl G s) (hr : zrel cl G h H) {n : Int32} {kd index : Nat} {C : String} (h25 : 25 ≤ kd) (h27 : kd < 27) (hty : ztyK kd = .object C) (hn : ¬ n < 0) (hle : n.toNatClampNeg ≤ 65536)
    (hclink : (Cond.classLink own index C).before args s = true) (hover : (Cond.arrayOver (.object C)).before args s = true) (hcells : cells + 1 ≤ R.cells) (hslots : slots + n.toNatClampNeg ≤ R.slots) (hdg : decode cc pc = .ok (.anewarray index, 3))
    (kk : ∀ (H1 : Heap), zrel cl G (znew h (kd, List.replicate n.toNatClampNeg (zel kd)) n.toNatClampNeg) H1 → W p l e R s m args below meth c H1 locs (cells + 1) (slots + n.toNatClampNeg) Q (F0 m (pc + 3) ls (.ref h.2.1 :: rest))) : W p l e R s m args below meth c H locs cells slots Q (F0 m pc ls (.int n :: rest)) := by
  refine W.anew hexec hb hown hclink hover rfl hdg rfl hn (by omega) hcells hslots fun cA kA comp f1 f2 f3 f4 => ?_
  generalize hH1 : H.push ({ cls := cA, slots := Array.replicate n.toNatClampNeg .null, vm := .none } : Cell) = H1
  have z1 : H1.size = H.size + 1 := by rw [← hH1, Array.size_push]
  have e1 : H1[H.size]? = some ({ cls := cA, slots := Array.replicate n.toNatClampNeg .null, vm := .none } : Cell) := by rw [← hH1, Array.getElem?_push_size]
  have o1 : ∀ q : Nat, q < H.size → H1[q]? = H[q]? := fun q hq => by rw [← hH1, Array.getElem?_push, if_neg (Nat.ne_of_lt hq)]
  have hRA := (hK.2.1 kd (by omega) h27).2
  rw [hty] at hRA
  obtain ⟨kA2, comp2, k1, k2, k3, k4⟩ := hRA
  have hcA : cA = G.2.1 kd := Option.some.inj (f1.symm.trans k4)
  have hz : zel kd = .null := by rcases (show kd = 25 ∨ kd = 26 by omega) with rfl | rfl <;> rfl
  rw [hr.1]
  refine kk H1 (hr.new z1 o1 (zat.mkarr (by show 20 ≤ kd; omega) h27 ?_))
  rw [e1, hcA, hz]
  simp [zcellA]
theorem zw_gets (hexec : p.tables.exec = Jvm.exec) (hb : c.code = cc) (hown : s.vm.findClass own = some m.cls) (hK : zK cl G s) (hr : zrel cl G h H) {C n d ref : String} {v : Value} {index : Nat} (hZ : va_Z C n d v (fun q => G.2.2.heap.size ≤ q) G.2.2 G.2.2.heap)
    (hlink : (Cond.fieldLink own index ref n d).before args s = true) (hsame : ∀ x, s.fieldFound? C n d = some x → s.fieldFound? ref n d = some x) (hdg : decode cc pc = .ok (.getstatic index, 3))
    (kk : W p l e R s m args below meth c H locs cells slots Q (F0 m (pc + 3) ls (v :: rest))) : W p l e R s m args below meth c H locs cells slots Q (F0 m pc ls rest) := by
  obtain ⟨cf, kf, fi, f, a, cell, h1, h2, h3, h4, h5, h6, h7, h8⟩ := hZ.moved hK.2.2.alike
  exact W.gets hexec hb hown hlink (hsame _ h1) h2 h3 h4 (by rw [hr.2.2.1 a (by omega)]; exact h5) (fun e => by rw [e] at h6; cases h6) h7 rfl hdg kk
theorem zcopied {cA : ClassId} {xs ys : List Value} {sp dp n : Nat} (h1 : sp + n ≤ xs.length) (h2 : dp + n ≤ ys.length) : (zcellA cA ys).storeRun dp ((zcellA cA xs).stretch sp n) = zcellA cA (ys.take dp ++ ((xs.drop sp).take n ++ ys.drop (dp + n))) := by
  rw [zcellA_eq cA ys, va_copiedX (fun z => z) (zcellA cA xs) cA (fun j => xs.getD j .null) (fun j => ys.getD j .null) (fun j hj => zcellA_get cA xs hj) h1]
  rw [zcellA_eq]
  have e1 : (ys.take dp ++ ((xs.drop sp).take n ++ ys.drop (dp + n))).length = ys.length := by simp; omega
  rw [e1]
  unfold arrV
  congr 1
  apply Array.ext
  · simp
  · intro i i1 i2
    simp at i1
    simp only [Array.getElem_ofFn, va_cpy]
    by_cases hi1 : i < dp
    · rw [if_neg (by omega), List.getD_eq_getElem?_getD, List.getD_eq_getElem?_getD, List.getElem?_append_left (by simp; omega), List.getElem?_take_of_lt hi1]
    · by_cases hi2 : i < dp + n
      · rw [if_pos ⟨by omega, hi2⟩, List.getD_eq_getElem?_getD, List.getD_eq_getElem?_getD, List.getElem?_append_right (by simp; omega), List.getElem?_append_left (by simp; omega), List.getElem?_take_of_lt (by simp; omega), List.getElem?_drop]
        congr 2
        simp
        omega
      · rw [if_neg (by omega), List.getD_eq_getElem?_getD, List.getD_eq_getElem?_getD, List.getElem?_append_right (by simp; omega), List.getElem?_append_right (by simp; omega), List.getElem?_drop]
        congr 2
        simp
        omega
theorem zw_copy (hexec : p.tables.exec = Jvm.exec) (hb : c.code = cc) (hK : zK cl G s) (hr : zrel cl G h H) (hL : ∀ z ∈ locs, G.2.2.heap.size ≤ z.base) (hml : c.maxLocals = ls.size) {index : Nat} (hown : s.vm.findClass own = some m.cls) (hlink : (Cond.methodLink own index arraycopyName).before args s = true) (hnat : (Cond.native arraycopyName).before args s = true) (hstat : (Cond.static arraycopyName).before args s = true) (hini : (Cond.initialized "java/lang/System").before args s = true)
    {b : Nat} {sp dp n : Int32} (ha : (h.1 a).1 = 24) (hbk : (h.1 b).1 = 24) (h1 : ¬ sp < 0) (h2 : ¬ dp < 0) (h3 : ¬ n < 0) (h4 : sp.toNatClampNeg + n.toNatClampNeg ≤ (h.1 a).2.length) (h5 : dp.toNatClampNeg + n.toNatClampNeg ≤ (h.1 b).2.length) (hfit : (h.1 a).2.all (zty 6) = true)
    (hframes : 1 ≤ R.frames) (hlocals : (rest.map fun v => v.category).sum + (nativeFrameWords "java/lang/System" "arraycopy" 5 + 11) ≤ R.locals) (hdg : decode cc pc = .ok (.invokestatic index, 3))
    (kk : ∀ (H1 : Heap) (locs1 : List Loc), zrel cl G (zup h b (24, (h.1 b).2.take dp.toNatClampNeg ++ (((h.1 a).2.drop sp.toNatClampNeg).take n.toNatClampNeg ++ (h.1 b).2.drop (dp.toNatClampNeg + n.toNatClampNeg)))) H1 → (∀ z ∈ locs1, G.2.2.heap.size ≤ z.base) → W p l e R s m args below meth c H1 locs1 cells slots Q (F0 m (pc + 3) ls rest)) : W p l e R s m args below meth c H locs cells slots Q (F0 m pc ls (.int n :: .int dp :: .ref b :: .int sp :: .ref a :: rest)) := by
  have nn : ∀ z : Int32, ¬ z < 0 → z.toInt = (z.toNatClampNeg : Int) := by
    intro z hz
    have hz0 : (0 : Int) ≤ z.toInt := by
      have := Int32.not_lt.mp hz
      simpa using Int32.le_iff_toInt_le.mp this
    show z.toInt = ((z.toInt.toNat : Nat) : Int)
    omega
  intro T hT X
  have hc0 : H[a]? = some (zcellA (G.2.1 24) (h.1 a).2) := by have := (hr.at a).arr (by omega) (by omega); rw [ha] at this; exact this
  have hc1 : H[b]? = some (zcellA (G.2.1 24) (h.1 b).2) := by have := (hr.at b).arr (by omega) (by omega); rw [hbk] at this; exact this
  have hn0 : G.2.2.heap.size ≤ b := hr.2.2.2.2 b (by omega) (by omega)
  obtain ⟨-, k0, hk0, cm0, hkk0⟩ := (hK.2.1 24 (by omega) (by omega)).1 (h.1 a).2.length (fun j => (h.1 a).2.getD j .null)
  obtain ⟨vm', X', step⟩ := X.arraycopy hexec hown hlink hnat hstat hini (src := a) (dst := b) (cs := zcellA (G.2.1 24) (h.1 a).2) (cd := zcellA (G.2.1 24) (h.1 b).2) (srcPos := sp) (destPos := dp) (n := n) (by rw [hT]; exact hc0) (by rw [hT]; exact hc1)
    (fun _ h => by cases h) (fun _ h => by cases h) (fun h => by cases h) (fun h => by cases h) hk0 hk0 hkk0 hkk0 (by simp [refKind, ztyK]) h1 h2 h3
    (by rw [nn sp h1, nn n h3, zcellA_size]; omega)
    (by rw [nn dp h2, nn n h3, zcellA_size]; omega)
    (fun vm₁ _ i hi => by
      have e : (zcellA (G.2.1 24) (h.1 a).2).slots.getD (sp.toNatClampNeg + i) .null = (h.1 a).2.getD (sp.toNatClampNeg + i) .null := by
        rw [Array.getD_eq_getD_getElem?, zcellA_get _ _ (by omega)]
        rfl
      have hz : zty 6 ((h.1 a).2.getD (sp.toNatClampNeg + i) .null) = true := by
        rw [List.getD_eq_getElem?_getD, List.getElem?_eq_getElem (by omega)]
        exact List.all_eq_true.mp hfit _ (List.getElem_mem _)
      rw [e]
      generalize (h.1 a).2.getD (sp.toNatClampNeg + i) .null = v at hz
      cases v with
      | int x => exact ⟨hz, trivial⟩
      | _ => cases hz)
    (g := F0 m pc ls (.int n :: .int dp :: .ref b :: .int sp :: .ref a :: rest)) rfl (by rw [hml]) (rest := rest) rfl (by rw [hb]; exact hdg) hframes (by show 2 * 0 + _ + _ ≤ _; omega)
  have e1 : copied (zcellA (G.2.1 24) (h.1 a).2) (zcellA (G.2.1 24) (h.1 b).2) sp dp n = zcellA (G.2.1 24) ((h.1 b).2.take dp.toNatClampNeg ++ (((h.1 a).2.drop sp.toNatClampNeg).take n.toNatClampNeg ++ (h.1 b).2.drop (dp.toNatClampNeg + n.toNatClampNeg))) := zcopied h4 h5
  rw [e1] at X' step
  have hl : b < H.size := (Array.getElem?_eq_some_iff.mp hc1).1
  obtain ⟨Y, hY⟩ : ∃ z, z = (h.1 b).2.take dp.toNatClampNeg ++ (((h.1 a).2.drop sp.toNatClampNeg).take n.toNatClampNeg ++ (h.1 b).2.drop (dp.toNatClampNeg + n.toNatClampNeg)) := ⟨_, rfl⟩
  rw [← hY] at X' step kk
  have hheap : ((T.setVm vm').setCell b (zcellA (G.2.1 24) Y)).heap = H.setIfInBounds b (zcellA (G.2.1 24) Y) := by rw [← hT]; rfl
  have oq : ∀ q : Nat, q ≠ b → (H.setIfInBounds b (zcellA (G.2.1 24) Y))[q]? = H[q]? := fun q hq => by simp [Array.getElem?_setIfInBounds, Ne.symm hq]
  obtain ⟨t, a1, b1⟩ := kk _ _ (hr.up (c := (24, Y)) hbk (by show 24 ≠ 0; omega) (by show 24 < 27; omega) (by simp) oq (zat.mkarr (by show 20 ≤ 24; omega) (by show 24 < 27; omega) (show (H.setIfInBounds b _)[b]? = some _ by simp [Array.getElem?_setIfInBounds, hl]))) (fun z hz => by
      rcases List.mem_append.mp hz with hz | hz
      · exact hL z hz
      · obtain ⟨q, -, hq⟩ := List.mem_map.mp hz
        rw [← hq]
        exact hn0) _ hheap X'
  exact ⟨t, step t a1, b1⟩
end ZOPS

/-! Locals, exactly. -/
section ZLOC
variable {p : Program} {l : Launch} {e : Env} {R : Room} {s : State} {m : MethodId} {args : Array Value} {below : List Frame} {meth : Method} {c : Code} {H : Heap} {locs : List Loc} {cells slots : Nat} {Q : State → Prop}
variable {cc : ByteArray} {pc : Nat} {ls ls' : Array Slot} {rest : List Value}
theorem zw_istore_n (hexec : p.tables.exec = Jvm.exec) (hb : c.code = cc) {k : Fin 4} {i : Nat} {x : Int32} (hdg : decode cc pc = .ok (.istore_n k, 1)) (hi : (k : Nat) = i) (e' : storeLocals ls i (.int x) = some ls')
    (kk : W p l e R s m args below meth c H locs cells slots Q (F0 m (pc + 1) ls' rest)) : W p l e R s m args below meth c H locs cells slots Q (F0 m pc ls (.int x :: rest)) := by
  subst hi
  intro T hT X
  obtain ⟨t, a, b⟩ := kk T hT X
  refine ⟨t, ?_, b⟩
  jvm_step X.here [X.here.top, ↓top_set X.here.top, hexec, hb, hdg, e']
  exact a
theorem zw_istore (hexec : p.tables.exec = Jvm.exec) (hb : c.code = cc) {i : Nat} {x : Int32} (hdg : decode cc pc = .ok (.istore i, 2)) (e' : storeLocals ls i (.int x) = some ls')
    (kk : W p l e R s m args below meth c H locs cells slots Q (F0 m (pc + 2) ls' rest)) : W p l e R s m args below meth c H locs cells slots Q (F0 m pc ls (.int x :: rest)) := by
  intro T hT X
  obtain ⟨t, a, b⟩ := kk T hT X
  refine ⟨t, ?_, b⟩
  jvm_step X.here [X.here.top, ↓top_set X.here.top, hexec, hb, hdg, e']
  exact a
theorem zw_astore_n (hexec : p.tables.exec = Jvm.exec) (hb : c.code = cc) {k : Fin 4} {i : Nat} {v : Value} (hv : zty 4 v = true) (hdg : decode cc pc = .ok (.astore_n k, 1)) (hi : (k : Nat) = i) (e' : storeLocals ls i v = some ls')
    (kk : W p l e R s m args below meth c H locs cells slots Q (F0 m (pc + 1) ls' rest)) : W p l e R s m args below meth c H locs cells slots Q (F0 m pc ls (v :: rest)) := by
  subst hi
  intro T hT X
  obtain ⟨t, a, b⟩ := kk T hT X
  refine ⟨t, ?_, b⟩
  cases v with
  | ref x => jvm_step X.here [X.here.top, ↓top_set X.here.top, hexec, hb, hdg, e', Value.isRef]; exact a
  | null => jvm_step X.here [X.here.top, ↓top_set X.here.top, hexec, hb, hdg, e', Value.isRef]; exact a
  | _ => cases hv
theorem zw_astore (hexec : p.tables.exec = Jvm.exec) (hb : c.code = cc) {i : Nat} {v : Value} (hv : zty 4 v = true) (hdg : decode cc pc = .ok (.astore i, 2)) (e' : storeLocals ls i v = some ls')
    (kk : W p l e R s m args below meth c H locs cells slots Q (F0 m (pc + 2) ls' rest)) : W p l e R s m args below meth c H locs cells slots Q (F0 m pc ls (v :: rest)) := by
  intro T hT X
  obtain ⟨t, a, b⟩ := kk T hT X
  refine ⟨t, ?_, b⟩
  cases v with
  | ref x => jvm_step X.here [X.here.top, ↓top_set X.here.top, hexec, hb, hdg, e', Value.isRef]; exact a
  | null => jvm_step X.here [X.here.top, ↓top_set X.here.top, hexec, hb, hdg, e', Value.isRef]; exact a
  | _ => cases hv
theorem zw_fstore (hexec : p.tables.exec = Jvm.exec) (hb : c.code = cc) {i : Nat} {x : UInt32} (hdg : decode cc pc = .ok (.fstore i, 2)) (e' : storeLocals ls i (.float x) = some ls')
    (kk : W p l e R s m args below meth c H locs cells slots Q (F0 m (pc + 2) ls' rest)) : W p l e R s m args below meth c H locs cells slots Q (F0 m pc ls (.float x :: rest)) := by
  intro T hT X
  obtain ⟨t, a, b⟩ := kk T hT X
  refine ⟨t, ?_, b⟩
  jvm_step X.here [X.here.top, ↓top_set X.here.top, hexec, hb, hdg, e']
  exact a
theorem zw_dstore (hexec : p.tables.exec = Jvm.exec) (hb : c.code = cc) {i : Nat} {x : UInt64} (hdg : decode cc pc = .ok (.dstore i, 2)) (e' : storeLocals ls i (.double x) = some ls')
    (kk : W p l e R s m args below meth c H locs cells slots Q (F0 m (pc + 2) ls' rest)) : W p l e R s m args below meth c H locs cells slots Q (F0 m pc ls (.double x :: rest)) := by
  intro T hT X
  obtain ⟨t, a, b⟩ := kk T hT X
  refine ⟨t, ?_, b⟩
  jvm_step X.here [X.here.top, ↓top_set X.here.top, hexec, hb, hdg, e']
  exact a
theorem zw_iinc (hexec : p.tables.exec = Jvm.exec) (hb : c.code = cc) {i : Nat} {n : Int} {x : Int32} (hdg : decode cc pc = .ok (.iinc i n, 3)) (hg : ls[i]? = some (.val (.int x))) (e' : storeLocals ls i (.int (x + Int32.ofInt n)) = some ls')
    (kk : W p l e R s m args below meth c H locs cells slots Q (F0 m (pc + 3) ls' rest)) : W p l e R s m args below meth c H locs cells slots Q (F0 m pc ls rest) := by
  intro T hT X
  obtain ⟨t, a, b⟩ := kk T hT X
  refine ⟨t, ?_, b⟩
  jvm_step X.here [X.here.top, ↓top_set X.here.top, hexec, hb, hdg, hg, e']
  exact a
theorem zw_size {i : Nat} {v : Value} (h : storeLocals ls i v = some ls') : ls'.size = ls.size := by
  have hs : ∀ {l l2 : Array Slot} {j : Nat} {x : Slot}, setAt l j x = some l2 → l2.size = l.size := by
    intro l l2 j x h9
    unfold setAt at h9
    split at h9
    · cases h9; simp
    · cases h9
  have hself : ∀ {l l2 : Array Slot}, storeSelf l i v = some l2 → l2.size = l.size := by
    intro l l2 h9
    unfold storeSelf at h9
    simp only [Option.bind_eq_bind, Option.bind_eq_some_iff] at h9
    obtain ⟨l3, h3, h9⟩ := h9
    split at h9
    · obtain ⟨x, hx, h9⟩ := Option.bind_eq_some_iff.mp h9
      split at h9
      · split at h9
        · obtain ⟨l4, h4, h9⟩ := Option.bind_eq_some_iff.mp h9
          rw [hs h9, hs h4, hs h3]
        · rw [hs h9, hs h3]
      · rw [hs h9, hs h3]
    · cases h9
      exact hs h3
  unfold storeLocals at h
  simp only [Option.bind_eq_bind, Option.bind_eq_some_iff] at h
  obtain ⟨x, hx, h⟩ := h
  split at h
  · obtain ⟨l4, h4, h⟩ := Option.bind_eq_some_iff.mp h
    rw [hself h, hs h4]
  · split at h
    · obtain ⟨l4, h4, h⟩ := Option.bind_eq_some_iff.mp h
      rw [hself h, hs h4]
    · exact hself h
  · exact hself h
end ZLOC

/-! What a resolved instruction has to do with the bytes and the tables. -/
/-- words that hold of any later tables -/
def zgw (w : Cond) : Bool := goodWord w || (match w with
  | .castable _ _ => true
  | .declares _ => true
  | .methodLinkNest _ _ _ _ => true
  | .arrayOver (.object _) => true
  | _ => false)
theorem zgw_at {args a' : Array Value} {s U : State} {w : Cond} (hW : s.WarmedH U.vm) (hg : zgw w = true) (h : w.before args s = true) : w.before a' U = true := by
  unfold zgw at hg
  rw [Bool.or_eq_true] at hg
  rcases hg with hg | hg
  · exact word_at hW (good_of_word hg) h
  · have h0 : ∀ {c : Cond}, c.onTables = true → c.before args s = true → c.before args (s.setVm U.vm) = true → c.before a' U = true := fun {c} hc _ h2 => va_tabs hc (rfl : (s.setVm U.vm).vm = U.vm) h2
    cases w with
    | castable a b => exact h0 rfl h (by rw [Cond.castable_setVm hW.alike]; exact h)
    | declares y => exact h0 rfl h (by rw [Cond.declares_setVm hW.alike]; exact h)
    | methodLinkNest a i y b => exact va_Nw.use rfl (va_Nw.warmM hW (va_Nw.of rfl h))
    | arrayOver t =>
      cases t with
      | object n => exact va_AO.use (va_AO.moved hW.alike (va_AO.of h))
      | _ => cases hg
    | _ => cases hg
/-- the field types by number -/
def ztyF (t : Nat) (ty : FieldType) : Prop := (t = 0 ∧ ty = .int) ∨ (t = 1 ∧ ty = .long) ∨ (t = 4 ∧ ∃ n, ty = .object n) ∨ (t = 4 ∧ ∃ n, ty = .array n) ∨ (t = 5 ∧ ty = .boolean) ∨ (t = 6 ∧ ty = .byte) ∨ (t = 7 ∧ ty = .char)
/-- a kind of objects: its class, laid as the tables say -/
def zkind (P : zProg) (zW : List Cond) (C : String) (T : u_T) (N ci : Nat) : Prop :=
  ci < 19 ∧ (∀ w ∈ u_ws C T N, w ∈ zW) ∧ Cond.instantiable C N ∈ zW ∧ Cond.initialized C ∈ zW ∧ (∀ a, a < N → ∀ b, b < N → a ≠ b → (T a).2.1 ≠ (T b).2.1) ∧ (P.2.2.2.2 (ci + 1)).length = N ∧
  ∃ ty0 : Nat → FieldType, (∀ k, k < N → parseFieldDescriptor (T k).2.2.1 = some (ty0 k)) ∧ ∀ j, j < N → defaultValue (ty0 j) = vp_V (P.2.2.2.2 (ci + 1)) j
def zsame (zW : List Cond) (ref O n d : String) : Prop := ref = O ∨ Cond.sameField ref O n d ∈ zW
def zcc : Nat → ClassFile.Cond
  | 0 => .eq
  | 1 => .ne
  | 2 => .lt
  | 3 => .ge
  | 4 => .gt
  | _ => .le
def zlkN (zW : List Cond) (own : String) (index o : Nat) : Prop :=
  (o = 0 ∧ Cond.methodLink own index arraycopyName ∈ zW ∧ Cond.native arraycopyName ∈ zW ∧ Cond.static arraycopyName ∈ zW ∧ Cond.initialized "java/lang/System" ∈ zW) ∨
  (o = 1 ∧ Cond.methodLink own index Lib.Math.max.name ∈ zW ∧ Cond.static Lib.Math.max.name ∈ zW ∧ Cond.initialized "java/lang/Math" ∈ zW ∧ Cond.code Lib.Math.max.name Lib.Math.max.code 2 (some .int) ∈ zW) ∨
  (o = 2 ∧ Cond.methodLink own index Lib.Math.min.name ∈ zW ∧ Cond.static Lib.Math.min.name ∈ zW ∧ Cond.initialized "java/lang/Math" ∈ zW ∧ Cond.code Lib.Math.min.name Lib.Math.min.code 2 (some .int) ∈ zW) ∨
  (o = 3 ∧ Cond.methodLink own index Lib.MathLoose.abs_long.x ∈ zW ∧ Cond.static Lib.MathLoose.abs_long.x ∈ zW ∧ Cond.initialized "java/lang/Math" ∈ zW ∧ Cond.code Lib.MathLoose.abs_long.x Lib.MathLoose.abs_long.code 2 (some .long) ∈ zW)
def zlkI (P : zProg) (zW : List Cond) (cl : List vw_C) (ss : Nat → String × String × String) (own nm : String) (cc : ByteArray) (pc : Nat) (I : zI) : Prop :=
  match I with
  | (0, _, _, x, n) => (∃ q, decode cc pc = .ok (.iconst q, 1) ∧ n = 1 ∧ Int32.ofInt q = Int32.ofInt x) ∨ (∃ q, decode cc pc = .ok (.bipush q, 2) ∧ n = 2 ∧ (Int8.ofInt q).toInt32 = Int32.ofInt x) ∨ (∃ q, decode cc pc = .ok (.sipush q, 3) ∧ n = 3 ∧ (Int16.ofInt q).toInt32 = Int32.ofInt x) ∨
      (∃ q, decode cc pc = .ok (.ldc q, 2) ∧ n = 2 ∧ Cond.constant own q (Int32.ofInt x) ∈ zW) ∨ (∃ q, decode cc pc = .ok (.ldc_w q, 3) ∧ n = 3 ∧ Cond.constant own q (Int32.ofInt x) ∈ zW)
  | (1, _, _, _, n) => decode cc pc = .ok (.aconst_null, 1) ∧ n = 1
  | (2, _, _, x, n) => (∃ q : Fin 2, decode cc pc = .ok (.lconst q, 1) ∧ n = 1 ∧ Int64.ofNat (q : Nat) = Int64.ofInt x) ∨ (∃ q, decode cc pc = .ok (.ldc2_w q, 3) ∧ n = 3 ∧ Cond.constantLong own q (Int64.ofInt x) ∈ zW)
  | (3, _, _, _, n) => decode cc pc = .ok (.fconst 0, 1) ∧ n = 1
  | (4, i, t, _, n) => (t = 0 ∧ ((∃ q : Fin 4, decode cc pc = .ok (.iload_n q, 1) ∧ (q : Nat) = i ∧ n = 1) ∨ (decode cc pc = .ok (.iload i, 2) ∧ n = 2))) ∨ (t = 1 ∧ ((∃ q : Fin 4, decode cc pc = .ok (.lload_n q, 1) ∧ (q : Nat) = i ∧ n = 1) ∨ (decode cc pc = .ok (.lload i, 2) ∧ n = 2))) ∨
      (t = 2 ∧ ((∃ q : Fin 4, decode cc pc = .ok (.fload_n q, 1) ∧ (q : Nat) = i ∧ n = 1) ∨ (decode cc pc = .ok (.fload i, 2) ∧ n = 2))) ∨ (t = 3 ∧ ((∃ q : Fin 4, decode cc pc = .ok (.dload_n q, 1) ∧ (q : Nat) = i ∧ n = 1) ∨ (decode cc pc = .ok (.dload i, 2) ∧ n = 2))) ∨
      (t = 4 ∧ ((∃ q : Fin 4, decode cc pc = .ok (.aload_n q, 1) ∧ (q : Nat) = i ∧ n = 1) ∨ (decode cc pc = .ok (.aload i, 2) ∧ n = 2)))
  | (5, i, t, _, n) => (t = 0 ∧ ((∃ q : Fin 4, decode cc pc = .ok (.istore_n q, 1) ∧ (q : Nat) = i ∧ n = 1) ∨ (decode cc pc = .ok (.istore i, 2) ∧ n = 2))) ∨ (t = 4 ∧ ((∃ q : Fin 4, decode cc pc = .ok (.astore_n q, 1) ∧ (q : Nat) = i ∧ n = 1) ∨ (decode cc pc = .ok (.astore i, 2) ∧ n = 2))) ∨
      (t = 2 ∧ decode cc pc = .ok (.fstore i, 2) ∧ n = 2) ∨ (t = 3 ∧ decode cc pc = .ok (.dstore i, 2) ∧ n = 2)
  | (6, i, _, x, n) => decode cc pc = .ok (.iinc i x, 3) ∧ n = 3
  | (7, o, _, _, n) => n = 1 ∧ ((o = 0 ∧ decode cc pc = .ok (.iadd, 1)) ∨ (o = 1 ∧ decode cc pc = .ok (.isub, 1)) ∨ (o = 2 ∧ decode cc pc = .ok (.imul, 1)) ∨ (o = 3 ∧ decode cc pc = .ok (.iand, 1)) ∨ (o = 4 ∧ decode cc pc = .ok (.ior, 1)) ∨ (o = 5 ∧ decode cc pc = .ok (.ixor, 1)) ∨
      (o = 6 ∧ decode cc pc = .ok (.ishl, 1)) ∨ (o = 7 ∧ decode cc pc = .ok (.ishr, 1)) ∨ (o = 8 ∧ decode cc pc = .ok (.idiv, 1)) ∨ (o = 9 ∧ decode cc pc = .ok (.irem, 1)) ∨ (o = 10 ∧ decode cc pc = .ok (.iushr, 1)))
  | (8, o, _, _, n) => n = 1 ∧ ((o = 0 ∧ decode cc pc = .ok (.ladd, 1)) ∨ (o = 1 ∧ decode cc pc = .ok (.lsub, 1)) ∨ (o = 2 ∧ decode cc pc = .ok (.ldiv, 1)) ∨ (o = 3 ∧ decode cc pc = .ok (.lrem, 1)))
  | (9, o, _, _, n) => n = 1 ∧ ((o = 0 ∧ decode cc pc = .ok (.ineg, 1)) ∨ (o = 1 ∧ decode cc pc = .ok (.i2l, 1)) ∨ (o = 2 ∧ decode cc pc = .ok (.l2i, 1)) ∨ (o = 3 ∧ decode cc pc = .ok (.i2c, 1)) ∨ (o = 4 ∧ decode cc pc = .ok (.i2b, 1)) ∨ (o = 5 ∧ decode cc pc = .ok (.i2d, 1)) ∨ (o = 6 ∧ decode cc pc = .ok (.i2f, 1)) ∨ (o = 7 ∧ decode cc pc = .ok (.f2d, 1)) ∨ (o = 8 ∧ decode cc pc = .ok (.lneg, 1)))
  | (10, o, _, _, n) => n = 1 ∧ ((o = 0 ∧ decode cc pc = .ok (.lcmp, 1)) ∨ (o = 1 ∧ decode cc pc = .ok (.dcmp .l, 1)) ∨ (o = 2 ∧ decode cc pc = .ok (.fcmp .l, 1)) ∨ (o = 3 ∧ decode cc pc = .ok (.ddiv, 1)) ∨ (o = 4 ∧ decode cc pc = .ok (.fdiv, 1)))
  | (11, o, _, _, n) => n = 1 ∧ ((o = 0 ∧ decode cc pc = .ok (.dup, 1)) ∨ (o = 1 ∧ decode cc pc = .ok (.dup_x1, 1)) ∨ (o = 2 ∧ decode cc pc = .ok (.dup_x2, 1)) ∨ (o = 3 ∧ decode cc pc = .ok (.dup2, 1)) ∨ (o = 4 ∧ decode cc pc = .ok (.pop, 1)))
  | (12, o, j, _, _) => o < 6 ∧ ∃ off, decode cc pc = .ok (.ifCond (zcc o) off, 3) ∧ (pc : Int) + off = (j : Int)
  | (13, o, j, _, _) => o < 6 ∧ ∃ off, decode cc pc = .ok (.if_icmp (zcc o) off, 3) ∧ (pc : Int) + off = (j : Int)
  | (14, o, j, _, _) => ∃ off, ((o = 0 ∧ decode cc pc = .ok (.ifnull off, 3)) ∨ (o = 1 ∧ decode cc pc = .ok (.ifnonnull off, 3))) ∧ (pc : Int) + off = (j : Int)
  | (15, _, j, _, _) => ∃ off, decode cc pc = .ok (.goto off, 3) ∧ (pc : Int) + off = (j : Int)
  | (16, kd, j, _, _) => ∃ (ci : Nat) (C : String) (T : u_T) (N index : Nat) (ref : String), kd = ci + 1 ∧ cl[ci]? = some (C, T, N) ∧ j < N ∧ zkind P zW C T N ci ∧ Cond.fieldLink own index ref (T j).2.1 (T j).2.2.1 ∈ zW ∧ zsame zW ref (T j).1 (T j).2.1 (T j).2.2.1 ∧ decode cc pc = .ok (.getfield index, 3)
  | (17, kd, j, x, _) => ∃ (ci : Nat) (C : String) (T : u_T) (N index : Nat) (ref : String), kd = ci + 1 ∧ cl[ci]? = some (C, T, N) ∧ j < N ∧ zkind P zW C T N ci ∧ Cond.fieldLink own index ref (T j).2.1 (T j).2.2.1 ∈ zW ∧ zsame zW ref (T j).1 (T j).2.1 (T j).2.2.1 ∧
      ((T j).2.2.2 = true → nm = "<init>" ∧ (T j).1 = own) ∧ (∃ ty, parseFieldDescriptor (T j).2.2.1 = some ty ∧ ztyF x.toNat ty) ∧ decode cc pc = .ok (.putfield index, 3)
  | (18, kd, _, _, _) => 20 ≤ kd ∧ ∃ ins, decode cc pc = .ok (ins, 1) ∧ ((ins = .iaload ∧ ztyK kd = .int) ∨ (ins = .caload ∧ ztyK kd = .char) ∨ (ins = .laload ∧ ztyK kd = .long) ∨ (ins = .daload ∧ ztyK kd = .double) ∨ (ins = .baload ∧ ztyK kd = .byte) ∨ (ins = .aaload ∧ (ztyK kd).isReference = true))
  | (19, kd, _, _, _) => ∃ ins, decode cc pc = .ok (ins, 1) ∧ ((ins = .iastore ∧ kd = 20) ∨ (ins = .castore ∧ kd = 21) ∨ (ins = .lastore ∧ kd = 22) ∨ (ins = .dastore ∧ kd = 23) ∨ (ins = .bastore ∧ kd = 24))
  | (20, kd, ko, _, _) => decode cc pc = .ok (.aastore, 1) ∧ 25 ≤ kd ∧ kd < 27 ∧ ∃ (ci : Nat) (r : vw_C), ko = ci + 1 ∧ ci < 19 ∧ cl[ci]? = some r ∧ ztyK kd = .object r.1
  | (21, _, _, _, _) => decode cc pc = .ok (.arraylength, 1)
  | (22, kd, _, _, _) => ∃ (ci : Nat) (C : String) (T : u_T) (N index : Nat), kd = ci + 1 ∧ cl[ci]? = some (C, T, N) ∧ zkind P zW C T N ci ∧ Cond.classLink own index C ∈ zW ∧ decode cc pc = .ok (.new index, 3)
  | (23, kd, _, _, n) => (n = 2 ∧ 20 ≤ kd ∧ kd < 25 ∧ ∃ atype, newarray.typeOf atype = ztyK kd ∧ Cond.arrayClass (newarray.typeOf atype) ∈ zW ∧ decode cc pc = .ok (.newarray atype, 2)) ∨
      (n = 3 ∧ 25 ≤ kd ∧ kd < 27 ∧ ∃ (C : String) (index : Nat), ztyK kd = .object C ∧ Cond.classLink own index C ∈ zW ∧ Cond.arrayOver (.object C) ∈ zW ∧ decode cc pc = .ok (.anewarray index, 3))
  | (25, _, _, _, _) => ∃ index, decode cc pc = .ok (.invokespecial index, 3) ∧ Cond.methodLink own index objectInit ∈ zW ∧ Cond.instanceMethod objectInit ∈ zW ∧ Cond.code objectInit ⟨#[0xb1]⟩ 1 none ∈ zW
  | (29, i, j, _, _) => (∃ (dflt : Int) (ps : Array (Int × Int)) (len : Nat), decode cc pc = .ok (.lookupswitch dflt ps, len) ∧ (ps.toList.zip (ps.toList.drop 1)).all (fun (a, next) => a.1 < next.1) = true ∧ (pc : Int) + dflt = (j : Int) ∧ (P.2.2.2.1 i) = ps.toList.map (fun q => (q.1, ((pc : Int) + q.2).toNat)) ∧ ps.toList.all (fun q => decide (0 ≤ (pc : Int) + q.2)) = true) ∨
      (∃ (dflt lo hi : Int) (offs : Array Int) (len : Nat), decode cc pc = .ok (.tableswitch dflt lo hi offs, len) ∧ (pc : Int) + dflt = (j : Int) ∧ (offs.size : Int) = hi - lo + 1 ∧ (P.2.2.2.1 i) = (List.range offs.size).map (fun (q : Nat) => (lo + (q : Int), ((pc : Int) + offs.getD q 0).toNat)) ∧ offs.toList.all (fun q => decide (0 ≤ (pc : Int) + q)) = true)
  | (30, i, _, _, _) => i < 4 ∧ ∃ (index : Nat) (ref : String), decode cc pc = .ok (.getstatic index, 3) ∧ Cond.fieldLink own index ref (ss i).2.1 (ss i).2.2 ∈ zW ∧ zsame zW ref (ss i).1 (ss i).2.1 (ss i).2.2
  | (31, o, _, _, _) => ∃ index, decode cc pc = .ok (.invokestatic index, 3) ∧ zlkN zW own index o
  | _ => False

theorem zgo_inj {pc pc' : Nat} {ls ls' : List Slot} {st st' : List Value} {h h' : zH} (e : zgo pc ls st h = some (.inl (pc', ls', st', h'))) : pc = pc' ∧ ls = ls' ∧ st = st' ∧ h = h' := by
  unfold zgo at e
  cases e
  exact ⟨rfl, rfl, rfl, rfl⟩
theorem zsame_of {zW : List Cond} {args : Array Value} {s : State} (hts : ∀ w ∈ zW, w.before args s = true) {ref O n d : String} (h : zsame zW ref O n d) : ∀ x, s.fieldFound? O n d = some x → s.fieldFound? ref n d = some x := by
  rcases h with rfl | h
  · exact fun _ h9 => h9
  · exact u_same (hts _ h)
theorem zty_int {v : Value} (h : zty 0 v = true) : ∃ x, v = .int x := by cases v <;> first | exact ⟨_, rfl⟩ | cases h
theorem zty_long {v : Value} (h : zty 1 v = true) : ∃ x, v = .long x := by cases v <;> first | exact ⟨_, rfl⟩ | cases h
theorem zty_float {v : Value} (h : zty 2 v = true) : ∃ x, v = .float x := by cases v <;> first | exact ⟨_, rfl⟩ | cases h
theorem zty_double {v : Value} (h : zty 3 v = true) : ∃ x, v = .double x := by cases v <;> first | exact ⟨_, rfl⟩ | cases h
theorem zty_ref {v : Value} (h : zty 4 v = true) : v = .null ∨ ∃ x, v = .ref x := by cases v <;> first | exact Or.inl rfl | exact Or.inr ⟨_, rfl⟩ | cases h
section ZGO
variable {p : Program} {l : Launch} {e : Env} {R : Room} {s : State} {m : MethodId} {args : Array Value} {below : List Frame} {meth : Method} {c : Code} {H : Heap} {locs : List Loc} {cells slots : Nat} {Q : State → Prop}
variable {cc : ByteArray} {pc : Nat} {st : List Value} {cl : List vw_C} {G : zG} {h : zH} {P : zProg} {zW : List Cond} {ss : Nat → String × String × String} {own nm : String} {sv : Nat → Value}
/-- what a method's walk rests on throughout -/
def zcx (p : Program) (s : State) (m : MethodId) (args : Array Value) (meth : Method) (c : Code) (R : Room) (P : zProg) (zW : List Cond) (cl : List vw_C) (G : zG) (ss : Nat → String × String × String) (sv : Nat → Value) (own nm : String) (cc : ByteArray) (nL : Nat) : Prop :=
  p.tables.exec = Jvm.exec ∧ c.code = cc ∧ (∀ w ∈ zW, w.before args s = true) ∧ s.vm.findClass own = some m.cls ∧ meth.name = nm ∧ zK cl G s ∧ (∀ i, i < 4 → va_Z (ss i).1 (ss i).2.1 (ss i).2.2 (sv i) (fun q => G.2.2.heap.size ≤ q) G.2.2 G.2.2.heap) ∧ 1 ≤ R.frames ∧ 100 ≤ R.locals ∧ c.maxLocals = nL
theorem zcat_sum {st : List Value} : (st.map fun v => v.category).sum ≤ 2 * st.length := by
  induction st with
  | nil => exact Nat.le_refl _
  | cons v st ih =>
    simp only [List.map_cons, List.sum_cons, List.length_cons]
    rcases lv_cat v with h | h <;> omega
theorem zlook {x : Int} {pc j : Nat} {d : Int} (hd : (pc : Int) + d = (j : Int)) : ∀ (ps : List (Int × Int)), ps.all (fun q => decide (0 ≤ (pc : Int) + q.2)) = true →
    (pc : Int) + Op.lookupswitch.offset ps d x = (((((ps.map (fun q => (q.1, ((pc : Int) + q.2).toNat))).find? (fun q => q.1 == x)).elim j (fun q => q.2)) : Nat) : Int) := by
  intro ps
  induction ps with
  | nil => intro _; simpa [Op.lookupswitch.offset] using hd
  | cons a ps ih =>
    intro ha
    obtain ⟨k, o⟩ := a
    simp only [List.all_cons, Bool.and_eq_true, decide_eq_true_eq] at ha
    rw [Op.lookupswitch.offset_cons]
    by_cases hk : k = x
    · rw [if_pos hk]
      simp only [List.map_cons]
      rw [List.find?_cons_of_pos (by simp [hk])]
      simp only [Option.elim]
      omega
    · rw [if_neg hk]
      simp only [List.map_cons]
      rw [List.find?_cons_of_neg (by simpa using hk)]
      exact ih ha.2
set_option maxHeartbeats 4000000 in
theorem zs_go {ls ls' : List Slot} {pc' : Nat} {st' : List Value} {h' : zH} {I : zI} (X : zcx p s m args meth c R P zW cl G ss sv own nm cc ls.length) (hr : zrel cl G h H) (hL : ∀ z ∈ locs, G.2.2.heap.size ≤ z.base)
    (hlk : zlkI P zW cl ss own nm cc pc I) (hs : zstep P sv I pc ls st h = some (.inl (pc', ls', st', h'))) (hcells : cells + (h'.2.1 - h.2.1) ≤ R.cells) (hslots : slots + (h'.2.2 - h.2.2) ≤ R.slots)
    (kk : ∀ (H1 : Heap) (locs1 : List Loc), zrel cl G h' H1 → (∀ z ∈ locs1, G.2.2.heap.size ≤ z.base) → W p l e R s m args below meth c H1 locs1 (cells + (h'.2.1 - h.2.1)) (slots + (h'.2.2 - h.2.2)) Q (F0 m pc' ls'.toArray st')) :
    W p l e R s m args below meth c H locs cells slots Q (F0 m pc ls.toArray st) := by
  obtain ⟨hx, hb, hts, hown, hnm, hK, hsv, hR1, hR2, hml⟩ := X
  have k0 : h' = h → W p l e R s m args below meth c H locs cells slots Q (F0 m pc' ls'.toArray st') := by
    intro e0
    subst e0
    have := kk H locs hr hL
    simpa using this
  unfold zlkI at hlk
  split at hlk
  · -- push int
    obtain ⟨rfl, rfl, rfl, e9⟩ := zgo_inj hs
    have k1 := k0 e9.symm
    rcases hlk with ⟨q, hd, rfl, hv⟩ | ⟨q, hd, rfl, hv⟩ | ⟨q, hd, rfl, hv⟩ | ⟨q, hd, rfl, hv⟩ | ⟨q, hd, rfl, hv⟩
    · exact lv_iconst hx hb hd hv k1
    · exact lv_bipush hx hb hd hv k1
    · exact lv_sipush hx hb hd hv k1
    · exact lv_ldc hx hb hown (hts _ hv) hd k1
    · exact lv_ldcw hx hb hown (hts _ hv) hd k1
  · obtain ⟨rfl, rfl, rfl, e9⟩ := zgo_inj hs
    have k1 := k0 e9.symm
    obtain ⟨hd, rfl⟩ := hlk
    exact lv_null hx hb hd k1
  · obtain ⟨rfl, rfl, rfl, e9⟩ := zgo_inj hs
    have k1 := k0 e9.symm
    rcases hlk with ⟨q, hd, rfl, hv⟩ | ⟨q, hd, rfl, hv⟩
    · exact lv_lconst hx hb hd hv k1
    · exact lv_ldc2 hx hb hown (hts _ hv) hd k1
  · obtain ⟨rfl, rfl, rfl, e9⟩ := zgo_inj hs
    have k1 := k0 e9.symm
    obtain ⟨hd, rfl⟩ := hlk
    exact lv_fconst0 hx hb hd k1
  · -- load
    rename_i i t x n
    replace hs : zld t (ls[i]?) (fun v => zgo (pc + n) ls (v :: st) h) = some (.inl (pc', ls', st', h')) := hs
    unfold zld at hs
    split at hs
    · next v hv =>
      split at hs
      · next ht =>
        obtain ⟨rfl, rfl, rfl, e9⟩ := zgo_inj hs
        have k1 := k0 e9.symm
        have hv2 : ls.toArray[i]? = some (.val v) := by simpa using hv
        rcases hlk with ⟨rfl, hlk⟩ | ⟨rfl, hlk⟩ | ⟨rfl, hlk⟩ | ⟨rfl, hlk⟩ | ⟨rfl, hlk⟩
        · obtain ⟨y, rfl⟩ := zty_int ht
          rcases hlk with ⟨q, hd, hq, rfl⟩ | ⟨hd, rfl⟩
          · exact lv_iload_n hx hb hd hq hv2 k1
          · exact lv_iload hx hb hd hv2 k1
        · obtain ⟨y, rfl⟩ := zty_long ht
          rcases hlk with ⟨q, hd, hq, rfl⟩ | ⟨hd, rfl⟩
          · exact lv_lload_n hx hb hd hq hv2 k1
          · exact lv_lload hx hb hd hv2 k1
        · obtain ⟨y, rfl⟩ := zty_float ht
          rcases hlk with ⟨q, hd, hq, rfl⟩ | ⟨hd, rfl⟩
          · exact lv_fload_n hx hb hd hq hv2 k1
          · exact lv_fload hx hb hd hv2 k1
        · obtain ⟨y, rfl⟩ := zty_double ht
          rcases hlk with ⟨q, hd, hq, rfl⟩ | ⟨hd, rfl⟩
          · exact lv_dload_n hx hb hd hq hv2 k1
          · exact lv_dload hx hb hd hv2 k1
        · rcases zty_ref ht with rfl | ⟨y, rfl⟩
          · rcases hlk with ⟨q, hd, hq, rfl⟩ | ⟨hd, rfl⟩
            · exact lv_aload_nN hx hb hd hq hv2 k1
            · exact lv_aloadN hx hb hd hv2 k1
          · rcases hlk with ⟨q, hd, hq, rfl⟩ | ⟨hd, rfl⟩
            · exact lv_aload_n hx hb hd hq hv2 k1
            · exact lv_aload hx hb hd hv2 k1
      · cases hs
    · cases hs
  · -- store
    rename_i i t x n
    replace hs : zstore t i (pc + n) ls st h = some (.inl (pc', ls', st', h')) := hs
    unfold zstore at hs
    split at hs
    · next v st0 =>
      split at hs
      · next ht =>
        split at hs
        · next l2 hl2 =>
          obtain ⟨rfl, rfl, rfl, e9⟩ := zgo_inj hs
          have k1 := k0 e9.symm
          have k1 : W p l e R s m args below meth c H locs cells slots Q (F0 m (pc + n) l2 st0) := k1
          rcases hlk with ⟨rfl, hlk⟩ | ⟨rfl, hlk⟩ | ⟨rfl, hd, rfl⟩ | ⟨rfl, hd, rfl⟩
          · obtain ⟨y, rfl⟩ := zty_int ht
            rcases hlk with ⟨q, hd, hq, rfl⟩ | ⟨hd, rfl⟩
            · exact zw_istore_n hx hb hd hq hl2 k1
            · exact zw_istore hx hb hd hl2 k1
          · rcases hlk with ⟨q, hd, hq, rfl⟩ | ⟨hd, rfl⟩
            · exact zw_astore_n hx hb ht hd hq hl2 k1
            · exact zw_astore hx hb ht hd hl2 k1
          · obtain ⟨y, rfl⟩ := zty_float ht
            exact zw_fstore hx hb hd hl2 k1
          · obtain ⟨y, rfl⟩ := zty_double ht
            exact zw_dstore hx hb hd hl2 k1
        · cases hs
      · cases hs
    · cases hs
  · -- iinc
    rename_i i y x n
    replace hs : ziinc i (pc + n) x ls st h = some (.inl (pc', ls', st', h')) := hs
    unfold ziinc at hs
    split at hs
    · next v hv =>
      split at hs
      · next l2 hl2 =>
        obtain ⟨rfl, rfl, rfl, e9⟩ := zgo_inj hs
        have k1 := k0 e9.symm
        have k1 : W p l e R s m args below meth c H locs cells slots Q (F0 m (pc + n) l2 st) := k1
        obtain ⟨hd, rfl⟩ := hlk
        exact zw_iinc hx hb hd (by simpa using hv) hl2 k1
      · cases hs
    · cases hs
  · -- two ints
    rename_i o y x n
    replace hs : (match st with
      | .int y :: .int x :: st' => (match zbin o x y with
        | some v => zgo (pc + n) ls (.int v :: st') h
        | none => none)
      | _ => none) = some (.inl (pc', ls', st', h')) := hs
    split at hs
    · next b a st0 =>
      split at hs
      · next v hv =>
        obtain ⟨rfl, rfl, rfl, e9⟩ := zgo_inj hs
        have k1 := k0 e9.symm
        obtain ⟨rfl, hlk⟩ := hlk
        rcases hlk with ⟨rfl, hd⟩ | ⟨rfl, hd⟩ | ⟨rfl, hd⟩ | ⟨rfl, hd⟩ | ⟨rfl, hd⟩ | ⟨rfl, hd⟩ | ⟨rfl, hd⟩ | ⟨rfl, hd⟩ | ⟨rfl, hd⟩ | ⟨rfl, hd⟩ | ⟨rfl, hd⟩
        · cases hv; exact lv_iadd hx hb hd k1
        · cases hv; exact lv_isub hx hb hd k1
        · cases hv; exact lv_imul hx hb hd k1
        · cases hv; exact lv_iand hx hb hd k1
        · cases hv; exact lv_ior hx hb hd k1
        · cases hv; exact lv_ixor hx hb hd k1
        · cases hv; exact lv_ishl hx hb hd k1
        · cases hv; exact lv_ishr hx hb hd k1
        · replace hv : (if b = 0 then none else some (a / b)) = some v := hv
          split at hv
          · cases hv
          · next hne => cases hv; exact lv_idiv hx hb hd hne k1
        · replace hv : (if b = 0 then none else some (a - a / b * b)) = some v := hv
          split at hv
          · cases hv
          · next hne => cases hv; exact lv_irem hx hb hd hne k1
        · cases hv; exact lv_iushr hx hb hd rfl k1
      · cases hs
    · cases hs
  · -- two longs
    rename_i o y x n
    replace hs : (match st with
      | .long y :: .long x :: st' => (match zlbin o x y with
        | some v => zgo (pc + n) ls (.long v :: st') h
        | none => none)
      | _ => none) = some (.inl (pc', ls', st', h')) := hs
    split at hs
    · next b a st0 =>
      split at hs
      · next v hv =>
        obtain ⟨rfl, rfl, rfl, e9⟩ := zgo_inj hs
        have k1 := k0 e9.symm
        obtain ⟨rfl, hlk⟩ := hlk
        rcases hlk with ⟨rfl, hd⟩ | ⟨rfl, hd⟩ | ⟨rfl, hd⟩ | ⟨rfl, hd⟩
        · cases hv; exact lv_ladd hx hb hd k1
        · cases hv; exact lv_lsub hx hb hd k1
        · replace hv : (if b = 0 then none else some (a / b)) = some v := hv
          split at hv
          · cases hv
          · next hne => cases hv; exact lv_ldiv hx hb hd hne k1
        · replace hv : (if b = 0 then none else some (a - a / b * b)) = some v := hv
          split at hv
          · cases hv
          · next hne => cases hv; exact lv_lrem hx hb hd hne k1
      · cases hs
    · cases hs
  · -- one operand
    rename_i o y x n
    replace hs : (match st with
      | v :: st' => (match zun o v with
        | some w => zgo (pc + n) ls (w :: st') h
        | none => none)
      | _ => none) = some (.inl (pc', ls', st', h')) := hs
    split at hs
    · next v st0 =>
      split at hs
      · next w hw =>
        obtain ⟨rfl, rfl, rfl, e9⟩ := zgo_inj hs
        have k1 := k0 e9.symm
        obtain ⟨rfl, hlk⟩ := hlk
        rcases hlk with ⟨rfl, hd⟩ | ⟨rfl, hd⟩ | ⟨rfl, hd⟩ | ⟨rfl, hd⟩ | ⟨rfl, hd⟩ | ⟨rfl, hd⟩ | ⟨rfl, hd⟩ | ⟨rfl, hd⟩ | ⟨rfl, hd⟩
        · cases v <;> first | (cases hw; exact lv_ineg hx hb hd k1) | cases hw
        · cases v <;> first | (cases hw; exact lv_i2l hx hb hd rfl k1) | cases hw
        · cases v <;> first | (cases hw; exact lv_l2i hx hb hd rfl k1) | cases hw
        · cases v <;> first | (cases hw; exact lv_i2c hx hb hd rfl k1) | cases hw
        · cases v <;> first | (cases hw; exact lv_i2b hx hb hd rfl k1) | cases hw
        · cases v <;> first | (cases hw; exact lv_i2d hx hb hd k1) | cases hw
        · cases v <;> first | (cases hw; exact lv_i2f hx hb hd k1) | cases hw
        · cases v with
          | float a =>
            replace hw : (if FP.f2d a &&& 0x7fffffffffffffff ≤ 0x7ff0000000000000 then some (Value.double (FP.f2d a)) else none) = some w := hw
            split at hw
            · next hne => cases hw; exact lv_f2d hx hb hd hne k1
            · cases hw
          | _ => cases hw
        · cases v <;> first | (cases hw; exact lv_lneg hx hb hd k1) | cases hw
      · cases hs
    · cases hs
  · -- comparisons, divisions of floats
    rename_i o y x n
    replace hs : zcmp o (pc + n) ls st h = some (.inl (pc', ls', st', h')) := hs
    obtain ⟨rfl, hlk⟩ := hlk
    rcases hlk with ⟨rfl, hd⟩ | ⟨rfl, hd⟩ | ⟨rfl, hd⟩ | ⟨rfl, hd⟩ | ⟨rfl, hd⟩
    · replace hs : (match st with
        | .long y :: .long x :: st' => zgo (pc + 1) ls (.int (lg_cmp x y) :: st') h
        | _ => none) = some (.inl (pc', ls', st', h')) := hs
      split at hs
      · obtain ⟨rfl, rfl, rfl, e9⟩ := zgo_inj hs
        exact W.lcmp hx hb hd (k0 e9.symm)
      · cases hs
    · replace hs : (match st with
        | .double y :: .double x :: st' => zgo (pc + 1) ls (.int (Op.cmpValue (FP.dcmp x y) .l) :: st') h
        | _ => none) = some (.inl (pc', ls', st', h')) := hs
      split at hs
      · obtain ⟨rfl, rfl, rfl, e9⟩ := zgo_inj hs
        exact lv_dcmp hx hb hd (k0 e9.symm)
      · cases hs
    · replace hs : (match st with
        | .float y :: .float x :: st' => zgo (pc + 1) ls (.int (Op.cmpValue (FP.fcmp x y) .l) :: st') h
        | _ => none) = some (.inl (pc', ls', st', h')) := hs
      split at hs
      · obtain ⟨rfl, rfl, rfl, e9⟩ := zgo_inj hs
        exact lv_fcmp hx hb hd (k0 e9.symm)
      · cases hs
    · replace hs : (match st with
        | .double y :: .double x :: st' => if FP.ddiv x y &&& 0x7fffffffffffffff ≤ 0x7ff0000000000000 then zgo (pc + 1) ls (.double (FP.ddiv x y) :: st') h else none
        | _ => none) = some (.inl (pc', ls', st', h')) := hs
      split at hs
      · split at hs
        · next hne =>
          obtain ⟨rfl, rfl, rfl, e9⟩ := zgo_inj hs
          exact lv_ddiv hx hb hd hne (k0 e9.symm)
        · cases hs
      · cases hs
    · replace hs : (match st with
        | .float y :: .float x :: st' => if FP.fdiv x y &&& 0x7fffffff ≤ 0x7f800000 then zgo (pc + 1) ls (.float (FP.fdiv x y) :: st') h else none
        | _ => none) = some (.inl (pc', ls', st', h')) := hs
      split at hs
      · split at hs
        · next hne =>
          obtain ⟨rfl, rfl, rfl, e9⟩ := zgo_inj hs
          exact lv_fdiv hx hb hd hne (k0 e9.symm)
        · cases hs
      · cases hs
  · -- the stack
    rename_i o y x n
    replace hs : zstk o (pc + n) ls st h = some (.inl (pc', ls', st', h')) := hs
    obtain ⟨rfl, hlk⟩ := hlk
    rcases hlk with ⟨rfl, hd⟩ | ⟨rfl, hd⟩ | ⟨rfl, hd⟩ | ⟨rfl, hd⟩ | ⟨rfl, hd⟩
    · replace hs : (match st with
        | a :: st' => if a.category = 1 then zgo (pc + 1) ls (a :: a :: st') h else none
        | _ => none) = some (.inl (pc', ls', st', h')) := hs
      split at hs
      · split at hs
        · next hne =>
          obtain ⟨rfl, rfl, rfl, e9⟩ := zgo_inj hs
          exact lv_dup hx hb hd hne (k0 e9.symm)
        · cases hs
      · cases hs
    · replace hs : (match st with
        | a :: b :: st' => if a.category = 1 ∧ b.category = 1 then zgo (pc + 1) ls (a :: b :: a :: st') h else none
        | _ => none) = some (.inl (pc', ls', st', h')) := hs
      split at hs
      · split at hs
        · next hne =>
          obtain ⟨rfl, rfl, rfl, e9⟩ := zgo_inj hs
          exact lv_dup_x1 hx hb hd hne.1 hne.2 (k0 e9.symm)
        · cases hs
      · cases hs
    · replace hs : (match st with
        | a :: b :: d :: st' => if a.category = 1 ∧ b.category = 1 ∧ d.category = 1 then zgo (pc + 1) ls (a :: b :: d :: a :: st') h else none
        | _ => none) = some (.inl (pc', ls', st', h')) := hs
      split at hs
      · split at hs
        · next hne =>
          obtain ⟨rfl, rfl, rfl, e9⟩ := zgo_inj hs
          exact lv_dup_x2 hx hb hd hne.1 hne.2.1 hne.2.2 (k0 e9.symm)
        · cases hs
      · cases hs
    · replace hs : (match st with
        | a :: b :: st' => if a.category = 1 ∧ b.category = 1 then zgo (pc + 1) ls (a :: b :: a :: b :: st') h else none
        | _ => none) = some (.inl (pc', ls', st', h')) := hs
      split at hs
      · split at hs
        · next hne =>
          obtain ⟨rfl, rfl, rfl, e9⟩ := zgo_inj hs
          exact lv_dup2_11 hx hb hd hne.1 hne.2 (k0 e9.symm)
        · cases hs
      · cases hs
    · replace hs : (match st with
        | a :: st' => if a.category = 1 then zgo (pc + 1) ls st' h else none
        | _ => none) = some (.inl (pc', ls', st', h')) := hs
      split at hs
      · split at hs
        · next hne =>
          obtain ⟨rfl, rfl, rfl, e9⟩ := zgo_inj hs
          exact lv_pop hx hb hd hne (k0 e9.symm)
        · cases hs
      · cases hs
  · -- if
    rename_i o j x n
    replace hs : zif o j (pc + 3) ls st h = some (.inl (pc', ls', st', h')) := hs
    obtain ⟨ho, off, hd, ht⟩ := hlk
    unfold zif at hs
    split at hs
    · next v st0 =>
      have key : (zcond o v 0 = true → W p l e R s m args below meth c H locs cells slots Q (F0 m j ls.toArray st0)) ∧ (¬ zcond o v 0 = true → W p l e R s m args below meth c H locs cells slots Q (F0 m (pc + 3) ls.toArray st0)) := by
        constructor
        · intro hc
          rw [if_pos hc] at hs
          obtain ⟨rfl, rfl, rfl, e9⟩ := zgo_inj hs
          exact k0 e9.symm
        · intro hc
          rw [if_neg hc] at hs
          obtain ⟨rfl, rfl, rfl, e9⟩ := zgo_inj hs
          exact k0 e9.symm
      rcases (show o = 0 ∨ o = 1 ∨ o = 2 ∨ o = 3 ∨ o = 4 ∨ o = 5 by omega) with rfl | rfl | rfl | rfl | rfl | rfl
      · exact lv_if_eq hx hb hd ht (fun h9 => key.1 (by simpa [zcond] using h9)) (fun h9 => key.2 (by simpa [zcond] using h9))
      · exact lv_if_ne hx hb hd ht (fun h9 => key.1 (by simpa [zcond] using h9)) (fun h9 => key.2 (by simpa [zcond] using h9))
      · exact lv_if_lt hx hb hd ht (fun h9 => key.1 (by simpa [zcond] using h9)) (fun h9 => key.2 (by simpa [zcond] using h9))
      · exact lv_if_ge hx hb hd ht (fun h9 => key.1 (by simpa [zcond] using h9)) (fun h9 => key.2 (by simpa [zcond] using h9))
      · exact lv_if_gt hx hb hd ht (fun h9 => key.1 (by simpa [zcond] using h9)) (fun h9 => key.2 (by simpa [zcond] using h9))
      · exact lv_if_le hx hb hd ht (fun h9 => key.1 (by simpa [zcond] using h9)) (fun h9 => key.2 (by simpa [zcond] using h9))
    · cases hs
  · -- if_icmp
    rename_i o j x n
    replace hs : zicmp o j (pc + 3) ls st h = some (.inl (pc', ls', st', h')) := hs
    obtain ⟨ho, off, hd, ht⟩ := hlk
    unfold zicmp at hs
    split at hs
    · next y v st0 =>
      have key : (zcond o v y = true → W p l e R s m args below meth c H locs cells slots Q (F0 m j ls.toArray st0)) ∧ (¬ zcond o v y = true → W p l e R s m args below meth c H locs cells slots Q (F0 m (pc + 3) ls.toArray st0)) := by
        constructor
        · intro hc
          rw [if_pos hc] at hs
          obtain ⟨rfl, rfl, rfl, e9⟩ := zgo_inj hs
          exact k0 e9.symm
        · intro hc
          rw [if_neg hc] at hs
          obtain ⟨rfl, rfl, rfl, e9⟩ := zgo_inj hs
          exact k0 e9.symm
      rcases (show o = 0 ∨ o = 1 ∨ o = 2 ∨ o = 3 ∨ o = 4 ∨ o = 5 by omega) with rfl | rfl | rfl | rfl | rfl | rfl
      · exact lv_icmp_eq hx hb hd ht (fun h9 => key.1 (by simpa [zcond] using h9)) (fun h9 => key.2 (by simpa [zcond] using h9))
      · exact lv_icmp_ne hx hb hd ht (fun h9 => key.1 (by simpa [zcond] using h9)) (fun h9 => key.2 (by simpa [zcond] using h9))
      · exact lv_icmp_lt hx hb hd ht (fun h9 => key.1 (by simpa [zcond] using h9)) (fun h9 => key.2 (by simpa [zcond] using h9))
      · exact lv_icmp_ge hx hb hd ht (fun h9 => key.1 (by simpa [zcond] using h9)) (fun h9 => key.2 (by simpa [zcond] using h9))
      · exact lv_icmp_gt hx hb hd ht (fun h9 => key.1 (by simpa [zcond] using h9)) (fun h9 => key.2 (by simpa [zcond] using h9))
      · exact lv_icmp_le hx hb hd ht (fun h9 => key.1 (by simpa [zcond] using h9)) (fun h9 => key.2 (by simpa [zcond] using h9))
    · cases hs
  · -- ifnull, ifnonnull
    rename_i o j x n
    replace hs : zifn o j (pc + 3) ls st h = some (.inl (pc', ls', st', h')) := hs
    obtain ⟨off, hd, ht⟩ := hlk
    unfold zifn at hs
    split at hs
    · obtain ⟨e1, rfl, rfl, e9⟩ := zgo_inj hs
      rcases hd with ⟨rfl, hd⟩ | ⟨rfl, hd⟩
      · rw [if_pos rfl] at e1; subst e1
        exact lv_ifnullN hx hb hd ht (k0 e9.symm)
      · rw [if_neg (by decide)] at e1; subst e1
        exact lv_ifnonnullN hx hb hd (k0 e9.symm)
    · obtain ⟨e1, rfl, rfl, e9⟩ := zgo_inj hs
      rcases hd with ⟨rfl, hd⟩ | ⟨rfl, hd⟩
      · rw [if_pos rfl] at e1; subst e1
        exact lv_ifnull hx hb hd (k0 e9.symm)
      · rw [if_neg (by decide)] at e1; subst e1
        exact lv_ifnonnull hx hb hd ht (k0 e9.symm)
    · cases hs
  · -- goto
    obtain ⟨rfl, rfl, rfl, e9⟩ := zgo_inj hs
    obtain ⟨off, hd, ht⟩ := hlk
    exact lv_goto hx hb hd ht (k0 e9.symm)
  · -- getfield
    rename_i kd j x n
    replace hs : zgetf kd j (pc + 3) ls st h = some (.inl (pc', ls', st', h')) := hs
    obtain ⟨ci, C, T, N, index, ref, rfl, hc, hj, hkd, hw, hsm, hd⟩ := hlk
    unfold zgetf at hs
    split at hs
    · next a st0 =>
      split at hs
      · next hk =>
        obtain ⟨rfl, rfl, rfl, e9⟩ := zgo_inj hs
        exact zw_getf hx hb hts hown hK hr hkd.2.1 hc hkd.1 hk.1 hj (hts _ hw) (zsame_of hts hsm) hd (k0 e9.symm)
      · cases hs
    · cases hs
  · -- putfield
    rename_i kd j x n
    replace hs : zputf kd j x.toNat (pc + 3) ls st h = some (.inl (pc', ls', st', h')) := hs
    obtain ⟨ci, C, T, N, index, ref, rfl, hc, hj, hkd, hw, hsm, hfin, ⟨ty, hty, htt⟩, hd⟩ := hlk
    obtain ⟨hci, hin, hinst, hini, hnms, hlen, ty0, hty0, hdef⟩ := hkd
    unfold zputf at hs
    split at hs
    · next v a st0 =>
      split at hs
      · next hk =>
        obtain ⟨rfl, rfl, rfl, rfl⟩ := zgo_inj hs
        have hty9 : ty0 j = ty := Option.some.inj ((hty0 j hj).symm.trans hty)
        refine zw_putf hx hb hts hown hK hr hL hin ty0 hty0 hnms hc hci hk.1 hj (hts _ hw) (zsame_of hts hsm) (fun hf => by rw [hnm]; exact hfin hf) (by rw [hty9]; exact zt_fits hk.2.2 htt) hd (fun H1 locs1 hr1 hL1 => ?_)
        have := kk H1 locs1 hr1 hL1
        simpa [zup] using this
      · cases hs
    · cases hs
  · -- array load
    rename_i kd j x n
    replace hs : zald kd (pc + 1) ls st h = some (.inl (pc', ls', st', h')) := hs
    obtain ⟨h20, ins, hd, hins⟩ := hlk
    unfold zald at hs
    split at hs
    · next i a st0 =>
      split at hs
      · next hk =>
        obtain ⟨rfl, rfl, rfl, e9⟩ := zgo_inj hs
        exact zw_ald hx hb hK hr hk.1 h20 hk.2 hins hd (k0 e9.symm)
      · cases hs
    · cases hs
  · -- array store
    rename_i kd j x n
    replace hs : zast kd (pc + 1) ls st h = some (.inl (pc', ls', st', h')) := hs
    obtain ⟨ins, hd, hins⟩ := hlk
    unfold zast at hs
    split at hs
    · next v i a st0 =>
      split at hs
      · next hk =>
        split at hs
        · next w hw =>
          obtain ⟨rfl, rfl, rfl, rfl⟩ := zgo_inj hs
          have hkd : 20 ≤ kd ∧ kd < 27 := by rcases hins with ⟨-, rfl⟩ | ⟨-, rfl⟩ | ⟨-, rfl⟩ | ⟨-, rfl⟩ | ⟨-, rfl⟩ <;> decide
          refine zw_ast hx hb hK hr hL hk.1 hkd.1 hkd.2 hk.2 hw hins hd (fun H1 locs1 hr1 hL1 => ?_)
          have := kk H1 locs1 hr1 hL1
          simpa [zup] using this
        · cases hs
      · cases hs
    · cases hs
  · -- aastore
    rename_i kd ko x n
    replace hs : zastq kd ko (pc + 1) ls st h = some (.inl (pc', ls', st', h')) := hs
    obtain ⟨hd, h25, h27, ci, r, rfl, hci, hc, hty⟩ := hlk
    unfold zastq at hs
    split at hs
    · next b i a st0 =>
      split at hs
      · next hk =>
        obtain ⟨rfl, rfl, rfl, rfl⟩ := zgo_inj hs
        refine zw_astq hx hb hK hr hL hk.1 (by omega) h27 hk.2.1 hci hc hty hk.2.2 hd (fun H1 locs1 hr1 hL1 => ?_)
        have := kk H1 locs1 hr1 hL1
        simpa [zup] using this
      · cases hs
    · next i a st0 =>
      split at hs
      · next hk =>
        obtain ⟨rfl, rfl, rfl, rfl⟩ := zgo_inj hs
        refine zw_astN hx hb hK hr hL hk.1 (by omega) h27 hty hk.2 hd (fun H1 locs1 hr1 hL1 => ?_)
        have := kk H1 locs1 hr1 hL1
        simpa [zup] using this
      · cases hs
    · cases hs
  · -- arraylength
    replace hs : zalen (pc + 1) ls st h = some (.inl (pc', ls', st', h')) := hs
    unfold zalen at hs
    split at hs
    · next a st0 =>
      split at hs
      · next hk =>
        obtain ⟨rfl, rfl, rfl, e9⟩ := zgo_inj hs
        exact zw_alen hx hb hK hr hk hlk (k0 e9.symm)
      · cases hs
    · cases hs
  · -- new
    rename_i kd j x n
    replace hs : znewo P kd (pc + 3) ls st h = some (.inl (pc', ls', st', h')) := hs
    obtain ⟨ci, C, T, N, index, rfl, hc, ⟨hci, hin, hinst, hini, hnms, hlen, ty0, hty0, hdef⟩, hw, hd⟩ := hlk
    unfold znewo at hs
    obtain ⟨rfl, rfl, rfl, rfl⟩ := zgo_inj hs
    rw [hlen] at kk hcells hslots
    have e1 : (znew h (ci + 1, P.2.2.2.2 (ci + 1)) N).2.1 - h.2.1 = 1 := by simp [znew]
    have e2 : (znew h (ci + 1, P.2.2.2.2 (ci + 1)) N).2.2 - h.2.2 = N := by simp [znew]
    rw [e1] at kk hcells
    rw [e2] at kk hslots
    exact zw_newo hx hb hts hown hK hr hin ty0 hty0 hc hci hlen hdef (hts _ hw) (hts _ hinst) (hts _ hini) hcells hslots hd (fun H1 hr1 => kk H1 locs hr1 hL)
  · -- new arrays
    rename_i kd j x n
    replace hs : znewa kd (pc + n) ls st h = some (.inl (pc', ls', st', h')) := hs
    unfold znewa at hs
    split at hs
    · next k st0 =>
      split at hs
      · next hk =>
        obtain ⟨rfl, rfl, rfl, rfl⟩ := zgo_inj hs
        have e1 : (znew h (kd, List.replicate k.toNatClampNeg (zel kd)) k.toNatClampNeg).2.1 - h.2.1 = 1 := by simp [znew]
        have e2 : (znew h (kd, List.replicate k.toNatClampNeg (zel kd)) k.toNatClampNeg).2.2 - h.2.2 = k.toNatClampNeg := by simp [znew]
        rw [e1] at kk hcells
        rw [e2] at kk hslots
        rcases hlk with ⟨rfl, h20, h25, atype, hty, hw, hd⟩ | ⟨rfl, h25, h27, C, index, hty, hw, hw2, hd⟩
        · refine zw_newa hx hb hK hr h20 h25 hty ?_ hk.1 hk.2 (hts _ hw) hcells hslots hd (fun H1 hr1 => kk H1 locs hr1 hL)
          rcases (show kd = 20 ∨ kd = 21 ∨ kd = 22 ∨ kd = 23 ∨ kd = 24 by omega) with rfl | rfl | rfl | rfl | rfl <;> rfl
        · exact zw_newq hx hb hown hK hr h25 h27 hty hk.1 hk.2 (hts _ hw) (hts _ hw2) hcells hslots hd (fun H1 hr1 => kk H1 locs hr1 hL)
      · cases hs
    · cases hs
  · -- Object's constructor
    replace hs : (match st with
      | .ref _ :: st' => if st'.length ≤ 4 then zgo (pc + 3) ls st' h else none
      | _ => none) = some (.inl (pc', ls', st', h')) := hs
    obtain ⟨index, hd, hw1, hw2, hw3⟩ := hlk
    split at hs
    · next a st0 =>
      split at hs
      · next hk =>
        obtain ⟨rfl, rfl, rfl, e9⟩ := zgo_inj hs
        have hcs := zcat_sum (st := st0)
        exact W.objInit hx hb hown (hts _ hw1) (hts _ hw2) (hts _ hw3) rfl (by rw [hml]; simp) rfl hd hR1 (by show 2 * 0 + _ + 12 ≤ _; omega) (k0 e9.symm)
      · cases hs
    · cases hs
  · -- switches
    rename_i i j x n
    replace hs : zswt P i j ls st h = some (.inl (pc', ls', st', h')) := hs
    unfold zswt at hs
    split at hs
    · next v st0 =>
      obtain ⟨rfl, rfl, rfl, e9⟩ := zgo_inj hs
      have k1 := k0 e9.symm
      rcases hlk with ⟨dflt, ps, len, hd, hsort, hdf, htab, hpos⟩ | ⟨dflt, lo, hi, offs, len, hd, hdf, hsz, htab, hpos⟩
      · rw [htab] at k1
        exact lv_lookup hx hb hd hsort rfl (zlook hdf ps.toList hpos) k1
      · rw [htab] at k1
        by_cases h1 : v.toInt < lo ∨ hi < v.toInt
        · refine lv_tableOut hx hb hd h1 hdf ?_
          have hnone : ((List.range offs.size).map (fun (q : Nat) => (lo + (q : Int), ((pc : Int) + offs.getD q 0).toNat))).find? (fun q => q.1 == v.toInt) = none := by
            rw [List.find?_eq_none]
            intro q hq
            obtain ⟨k, hk, rfl⟩ := List.mem_map.mp hq
            have := List.mem_range.mp hk
            simp only [beq_iff_eq]
            omega
          rw [hnone] at k1
          exact k1
        · have hlo : ¬ v.toInt < lo := fun q => h1 (Or.inl q)
          have hhi : ¬ hi < v.toInt := fun q => h1 (Or.inr q)
          have hq : (v.toInt - lo).toNat < offs.size := by omega
          have hget : offs[(v.toInt - lo).toNat]? = some (offs.getD (v.toInt - lo).toNat 0) := by
            rw [Array.getElem?_eq_getElem hq, Array.getD_eq_getD_getElem?, Array.getElem?_eq_getElem hq]
            rfl
          have hp9 : (0 : Int) ≤ (pc : Int) + offs.getD (v.toInt - lo).toNat 0 := by
            have := List.all_eq_true.mp hpos (offs.getD (v.toInt - lo).toNat 0) (by
              rw [Array.getD_eq_getD_getElem?, Array.getElem?_eq_getElem hq]
              simp)
            simpa using this
          refine lv_tableIn hx hb hd hlo hhi hget (tgt := ((pc : Int) + offs.getD (v.toInt - lo).toNat 0).toNat) (by omega) ?_
          have hsome : ((List.range offs.size).map (fun (q : Nat) => (lo + (q : Int), ((pc : Int) + offs.getD q 0).toNat))).find? (fun q => q.1 == v.toInt) = some (v.toInt, ((pc : Int) + offs.getD (v.toInt - lo).toNat 0).toNat) := by
            rw [List.find?_eq_some_iff_getElem]
            refine ⟨by simp, (v.toInt - lo).toNat, by simpa using hq, ?_, ?_⟩
            · simp
              omega
            · intro k hk
              simp
              omega
          rw [hsome] at k1
          exact k1
    · cases hs
  · -- getstatic
    rename_i i j x n
    obtain ⟨rfl, rfl, rfl, e9⟩ := zgo_inj hs
    obtain ⟨hi, index, ref, hd, hw, hsm⟩ := hlk
    exact zw_gets hx hb hown hK hr (hsv i hi) (hts _ hw) (zsame_of hts hsm) hd (k0 e9.symm)
  · -- arraycopy, Math
    rename_i o j x n
    replace hs : znat o (pc + 3) ls st h = some (.inl (pc', ls', st', h')) := hs
    obtain ⟨index, hd, hN⟩ := hlk
    have hls : c.maxLocals = ls.toArray.size := by rw [hml]; rfl
    rcases hN with ⟨rfl, hw1, hw2, hw3, hw4⟩ | ⟨rfl, hw1, hw2, hw3, hw4⟩ | ⟨rfl, hw1, hw2, hw3, hw4⟩ | ⟨rfl, hw1, hw2, hw3, hw4⟩
    · replace hs : zcopy (pc + 3) ls st h = some (.inl (pc', ls', st', h')) := hs
      unfold zcopy at hs
      split at hs
      · next n dp b sp a st0 =>
        split at hs
        · next hk =>
          obtain ⟨rfl, rfl, rfl, rfl⟩ := zgo_inj hs
          obtain ⟨g1, g2, g3, g4, g5, g6, g7, g8, g9, g10⟩ := hk
          have hcs := zcat_sum (st := st0)
          have e7 : nativeFrameWords "java/lang/System" "arraycopy" 5 = 7 := by decide +kernel
          have e8 : (st0.map fun v => v.category).sum + (nativeFrameWords "java/lang/System" "arraycopy" 5 + 11) ≤ R.locals := by omega
          refine zw_copy hx hb hK hr hL hls hown (hts _ hw1) (hts _ hw2) (hts _ hw3) (hts _ hw4) g1 g2 g4 g5 g6 g7 g8 g10 hR1 e8 hd (fun H1 locs1 hr1 hL1 => ?_)
          have := kk H1 locs1 hr1 hL1
          simpa [zup] using this
        · cases hs
      · cases hs
    · replace hs : (match st with
        | .int y :: .int x :: st' => if st'.length ≤ 4 then zgo (pc + 3) ls (.int (if x < y then y else x) :: st') h else none
        | _ => none) = some (.inl (pc', ls', st', h')) := hs
      split at hs
      · next y x st0 =>
        split at hs
        · next hk =>
          obtain ⟨rfl, rfl, rfl, e9⟩ := zgo_inj hs
          have hcs := zcat_sum (st := st0)
          exact va_mmax hx hb hls hown (hts _ hw1) (hts _ hw2) (hts _ hw3) (hts _ hw4) hR1 (by omega) (by omega) (by omega) hd (k0 e9.symm)
        · cases hs
      · cases hs
    · replace hs : (match st with
        | .int y :: .int x :: st' => if st'.length ≤ 4 then zgo (pc + 3) ls (.int (if y < x then y else x) :: st') h else none
        | _ => none) = some (.inl (pc', ls', st', h')) := hs
      split at hs
      · next y x st0 =>
        split at hs
        · next hk =>
          obtain ⟨rfl, rfl, rfl, e9⟩ := zgo_inj hs
          have hcs := zcat_sum (st := st0)
          exact va_mmin hx hb hls hown (hts _ hw1) (hts _ hw2) (hts _ hw3) (hts _ hw4) hR1 (by omega) (by omega) (by omega) hd (k0 e9.symm)
        · cases hs
      · cases hs
    · replace hs : (match st with
        | .long x :: st' => if st'.length ≤ 4 then zgo (pc + 3) ls (.long (if 0 < x then x else -x) :: st') h else none
        | _ => none) = some (.inl (pc', ls', st', h')) := hs
      split at hs
      · next x st0 =>
        split at hs
        · next hk =>
          obtain ⟨rfl, rfl, rfl, e9⟩ := zgo_inj hs
          have hcs := zcat_sum (st := st0)
          exact va_mabs_long hx hb hls hown (hts _ hw1) (hts _ hw2) (hts _ hw3) (hts _ hw4) hR1 (by omega) (by omega) (by omega) hd (k0 e9.symm)
        · cases hs
      · cases hs
  · cases hlk
end ZGO

/-! 'new E(text)' thrown, where E's constructor calls its superclass's by any place of its pool (the library's row knows the place 7 alone): the same walk, less said of the object. -/
def zxA (own : String) (ic : Nat) (X : String) (ix : Nat) (rx : ByteArray) (Y : String) (r : List String) : List Jvm.Cond :=
  Bundle.throwableAtoms ++ Bundle.throwableSAtoms ++ (Bundle.passSAtoms X Y ix rx ++ Bundle.chainSAtoms Y r) ++
  [.methodLink own ic (Bundle.initS X), .instantiable X 6, .castable X X, .selects X Bundle.tFill0 Bundle.tFill0, .selects X Bundle.tFill Bundle.tFill,
   .lays X Bundle.tN "cause" "Ljava/lang/Throwable;", .lays X Bundle.tN "stackTrace" Bundle.steD, .lays X Bundle.tN "suppressedExceptions" Bundle.listD, .lays X Bundle.tN "detailMessage" "Ljava/lang/String;",
   .isRef (.static Bundle.tN "UNASSIGNED_STACK" Bundle.steD), .isRef (.static Bundle.tN "SUPPRESSED_SENTINEL" Bundle.listD),
   .fieldLink Bundle.tN 198 Bundle.tN "backtrace" "Ljava/lang/Object;", .lays Bundle.tN Bundle.tN "backtrace" "Ljava/lang/Object;", .lays X Bundle.tN "backtrace" "Ljava/lang/Object;"]
def zxS (own : String) (ic : Nat) (X : String) (ix : Nat) (rx : ByteArray) (Y : String) (r : List String) : List Jvm.Cond := (zxA own ic X ix rx Y r).filter vx_no
section ZCTOR
variable {p : Program} {l : Launch} {e : Env} {R : Room} {s : State} {m₀ : MethodId} {args : Array Value} {below : List Frame} {meth : Method} {c : Code} {W : State} {locs : List Loc} {cells slots : Nat}
set_option maxHeartbeats 1000000 in
theorem z_ctorX (X : Stand p l e R s m₀ args below meth c W locs cells slots) (hexec : p.tables.exec = Jvm.exec) (htr : e.platform.stackTraces = false) {own cls Y0 : String} {names : List String} {ic ix : Nat} {rx : ByteArray}
    (x0 : decode rx 0 = .ok (.aload_n 0, 1)) (x1 : decode rx 1 = .ok (.aload_n 1, 1)) (x2 : decode rx 2 = .ok (.invokespecial ix, 3)) (x5 : decode rx 5 = .ok (.return_, 1))
    (hown : s.vm.findClass own = some m₀.cls) (hcls : Bundle.fit cls = true) (hY0 : Bundle.fit Y0 = true) (hnames : ∀ n ∈ names, Bundle.fit n = true)
    (h : ∀ a ∈ zxA own ic cls ix rx Y0 names, a.before args s = true)
    (hlocs : ∀ x ∈ locs, ∀ cell, s.heap[x.base]? = some cell → cell.vm.isStatics = false)
    {a : Addr} {cX : ClassId} {kX : Class} (hfoundX : s.vm.findClass cls = some cX) (hkX : s.vm.classes[cX]? = some kX) (hcell : W.heap[a]? = some (freshCell cX kX)) (hnew : s.heap.size ≤ a)
    {msg : Value} (hmsg : msg.isRef = true)
    {g : JFrame} (hg : g.method = m₀) (hsize : g.locals.size = c.maxLocals) (hlocked : g.locked = none) (hentered : g.entered = []) {rest : List Value} (hstack : g.stack = msg :: .ref a :: .ref a :: rest)
    (hd6 : decode c.code g.pc = .ok (.invokespecial ic, 3)) (hd9 : decode c.code (g.pc + 3) = .ok (.athrow, 1)) (hout : ∀ x ∈ c.exceptionTable.toList, covers x (g.pc + 3) = false)
    (hRframes : names.length + 4 < R.frames) (hRlocals : 2 * g.monitorRoom + ((Value.ref a :: rest).map fun v => v.category).sum + (13 * (names.length + 2) + 42) ≤ R.locals) (hlocks : meth.locks = false) :
    ∃ U : State, Steps p.tables e below (W.setTop g) U ∧ U.status = .running ∧ Ended U below (.threw a) ∧ s.WarmedH U.vm ∧ s.sameButNew ({ U with vm := s.vm } : State) locs cells slots ∧
      ∃ ce : Cell, U.heap[a]? = some ce ∧ s.vm.findClass cls = some ce.cls ∧ ce.vm = .none := by
  have howns : e.platform.frameOwnsMonitors = true := by rw [X.admits.platform]
  have hfin : e.platform.finalization = false := by rw [X.admits.platform]
  have hpl : e.platform.magicAccessors = ({} : Platform).magicAccessors := by rw [X.admits.platform]
  have w : ∀ x, x ∈ zxA own ic cls ix rx Y0 names → x.holds args s none s [] = true := fun x hx => h x hx
  have i1 : ∀ x, x ∈ Bundle.throwableAtoms → x ∈ zxA own ic cls ix rx Y0 names := fun x hx => by simp [zxA, hx]
  have i2 : ∀ x, x ∈ Bundle.throwableSAtoms → x ∈ zxA own ic cls ix rx Y0 names := fun x hx => by simp [zxA, hx]
  have i3 : ∀ x, x ∈ Bundle.passSAtoms cls Y0 ix rx → x ∈ zxA own ic cls ix rx Y0 names := fun x hx => by simp [zxA, hx]
  have i4 : ∀ x, x ∈ Bundle.chainSAtoms Y0 names → x ∈ zxA own ic cls ix rx Y0 names := fun x hx => by simp [zxA, hx]
  obtain ⟨T, Z0, L, -, Y⟩ := ThrowableC.of_atoms (args := args) howns hfin hpl (fun x hx => h x (i1 x hx))
  obtain ⟨Z, M, LZ, LM, hnZ⟩ := Init0T.ofS_atoms (args := args) hpl L Y (fun x hx => h x (i2 x hx))
  obtain ⟨P0, L0, hP0m, hP0s⟩ := PassC.ofS_atoms (args := args) (s := s) hpl (X := cls) (Y := Y0) (Bundle.fit_spec hcls).1 (Bundle.fit_spec hY0).2 x0 x1 x2 x5 (fun x hx => h x (i3 x hx))
  obtain ⟨P1, Ps, hlen, L1, hL, hP1m, hlink1, hlink⟩ := Bundle.chainS (args := args) hpl hnZ names Y0 hY0 hnames (fun x hx => h x (i4 x hx))
  have hlink0 : P0.sup = P1.m := Option.some.inj (hP0s.symm.trans hP1m)
  have hfound : s.vm.findClass cls = some P0.m.cls := findClass_of_methodNamed hP0m
  cases Option.some.inj (hfoundX.symm.trans hfound)
  obtain ⟨c1, kX', hc1, hk, hord, -, -, -⟩ := Cond.instantiable_spec (w (.instantiable cls 6) (by simp [zxA]))
  cases Option.some.inj (hc1.symm.trans hfound)
  cases Option.some.inj (hkX.symm.trans hk)
  have sel : ∀ {y : MethodName} {k : MethodId}, (.selects cls y y : Jvm.Cond) ∈ zxA own ic cls ix rx Y0 names → s.methodNamed? y = some k → (y.cls ≠ "java/lang/invoke/MethodHandle" ∧ y.cls ≠ "java/lang/invoke/VarHandle") → selectMethod e.platform s.vm P0.m.cls k = .method k := by
    intro y k hy hn hne
    obtain ⟨c2, r2, m2, q1, q2, q3, q4, -⟩ := Cond.selects_spec (w _ hy)
    cases Option.some.inj (q1.symm.trans hfound)
    cases Option.some.inj (q2.symm.trans (State.methodFound?_of_named hn hne))
    cases Option.some.inj (q3.symm.trans hn)
    rw [Launch.admits_selectMethod X.admits]
    exact q4
  have hsel0 := sel (y := Bundle.tFill0) (by simp [zxA]) Y.fill0 (by decide)
  have hselF := sel (y := Bundle.tFill) (by simp [zxA]) Y.fill (by decide)
  obtain ⟨cellS0, hcS0, hiss⟩ := Y.statics
  obtain ⟨u0, hu0⟩ := Cond.staticRefV Y.unassigned L.unassignedStatic L.statics hcS0 hiss (w (.isRef (.static Bundle.tN "UNASSIGNED_STACK" Bundle.steD)) (by simp [zxA]))
  obtain ⟨sen, hsen⟩ := Cond.staticRefV Y.sentinel L.sentinelStatic L.statics hcS0 hiss (w (.isRef (.static Bundle.tN "SUPPRESSED_SENTINEL" Bundle.listD)) (by simp [zxA]))
  obtain ⟨ci198, i198, fB, hk198, hg198, ha198, hsB, -, hnB, htB, hffB⟩ := Cond.ownField (t := .object "java/lang/Object") Y.found L.cls (by decide +kernel) (w (.fieldLink Bundle.tN 198 Bundle.tN "backtrace" "Ljava/lang/Object;") (by simp [zxA])) (w (.lays Bundle.tN Bundle.tN "backtrace" "Ljava/lang/Object;") (by simp [zxA])) e.platform hpl
  obtain ⟨cellS, hcS', heS, -, hkeep⟩ := X.same.2.2.2.2.2 T.aS cellS0 hcS0
  have hcellS : W.heap[T.aS]? = some cellS := hcS'
  have hout' : ∀ i, (⟨T.aS, i⟩ : Loc) ∉ locs := fun i hmem => by
    have := hlocs _ hmem cellS0 hcS0
    rw [hiss] at this
    cases this
  have hknownS : cellS.vm ≠ .unknown := by
    rw [heS]
    intro hu
    rw [show cellS0.vm = .unknown from hu] at hiss
    cases hiss
  have hneS : T.aS ≠ a := Nat.ne_of_lt (Nat.lt_of_lt_of_le (Array.getElem?_eq_some_iff.mp hcS0).1 hnew)
  obtain ⟨iM, hffM⟩ := Y.msg
  obtain ⟨tyC, dC, hdC, hdnC⟩ := Cond.laysAt hfound hk Y.cause (w (.lays cls Bundle.tN "cause" "Ljava/lang/Throwable;") (by simp [zxA]))
  obtain ⟨tyS, dS, hdS, hdnS⟩ := Cond.laysAt hfound hk Y.stack (w (.lays cls Bundle.tN "stackTrace" Bundle.steD) (by simp [zxA]))
  obtain ⟨tyP, dP, hdP, hdnP⟩ := Cond.laysAt hfound hk Y.supp (w (.lays cls Bundle.tN "suppressedExceptions" Bundle.listD) (by simp [zxA]))
  obtain ⟨tyM, dM, hdM, hdnM⟩ := Cond.laysAt hfound hk hffM (w (.lays cls Bundle.tN "detailMessage" "Ljava/lang/String;") (by simp [zxA]))
  obtain ⟨tyB, dB, hdB, hdnB⟩ := Cond.laysAt hfound hk hffB (w (.lays cls Bundle.tN "backtrace" "Ljava/lang/Object;") (by simp [zxA]))
  have bC := Cond.laysApart hdB hdC hdnB hdnC (by rw [hnB, Y.causeName]; decide)
  have bS := Cond.laysApart hdB hdS hdnB hdnS (by rw [hnB, Y.stackName]; decide)
  have bP := Cond.laysApart hdB hdP hdnB hdnP (by rw [hnB, Y.suppName]; decide)
  have hskip : SkipFacts T e.platform s (fun u => u) u0 ((preparedCellV T.toThrowableT (freshCell P0.m.cls kX) a u0 sen).withEntry W.cur) := by
    refine ⟨{ ci198 := ci198, i198 := i198, fBack := fB }, ⟨hk198, hg198, ha198, hsB⟩, ?_, fun _ _ => rfl⟩
    have := fresh_default (c := P0.m.cls) tyB
    rw [htB] at this
    simpa [preparedCellV, Cell.setSlot, Cell.withEntry, Array.getElem?_setIfInBounds, bC, bS, bP, bC.symm, bS.symm, bP.symm, defaultValue] using this
  obtain ⟨tm, methC, cdC, kC, vm₁, hnC, -, -, -, -, -, -, -, hW₁, st1⟩ := Steps.initColdS (tb := p.tables) (e := e) (below := below) (s := s) (U := W) X.here hexec X.warmed hpl hown (t := Bundle.initS cls) rfl rfl (Bundle.fit_spec hcls).2
    (w (.methodLink own ic (Bundle.initS cls)) (by simp [zxA])) (h (.instanceMethod (Bundle.initS cls)) (i3 _ (by simp [Bundle.passSAtoms]))) (bytes := rx) (maxL := 2) (h (.code (Bundle.initS cls) rx 2 none) (i3 _ (by simp [Bundle.passSAtoms])))
    (f := g) hg (a := a) (msg := msg) (rest := .ref a :: rest) hstack hd6
  cases Option.some.inj (hnC.symm.trans hP0m)
  have X₁ := X.noted hW₁
  obtain ⟨vm₂, X₂, st2⟩ := X₁.ctorMessageOffV hexec (g := { g with stack := .ref a :: rest }) hg hsize T L Z LZ M LM (P0 :: P1 :: Ps)
    (fun P hP => by
      rcases List.mem_cons.mp hP with rfl | hP
      · exact L0
      · rcases List.mem_cons.mp hP with rfl | hP
        · exact L1
        · exact hL P hP) ⟨hlink0, hlink1, hlink⟩ (u0 := u0) (sen := sen) (self := a) hmsg (cell := freshCell P0.m.cls kX) (cellS := cellS)
    hcell (fun _ => by simp) (by simp) rfl rfl hsel0 hselF hcellS hneS hknownS (by rw [hkeep _ (hout' _)]; exact hu0) (by rw [hkeep _ (hout' _)]; exact hsen)
    (Takes.of_laid hk hord tyC (by rw [Y.causeType]; rfl)) (Takes.of_laid hk hord tyS (by rw [Y.stackType]; exact fits_refV_array _ u0)) (Takes.of_laid hk hord tyP (by rw [Y.suppType]; exact fits_refV_object _ sen))
    (Takes.of_laid hk hord tyM (by rw [Y.msgType]; exact fits_refV_object _ ⟨msg, hmsg⟩)) Y.objLocals hskip htr [] hd6
    (by simp only [List.length_cons, hlen]; omega) (by simp only [List.length_cons, hlen]; exact hRlocals)
  obtain ⟨hwalk, hrun, hended, hWU, hsame⟩ := X₂.athrowLeaves hexec (g := { g with stack := .ref a :: rest, pc := g.pc + 3 }) hg hlocked hentered hout (a := a) (rest := rest) rfl hd9
  have hlt : a < ((W.setVm vm₁).setVm vm₂).heap.size := (Array.getElem?_eq_some_iff.mp hcell).1
  have hU := heapAt_setCell_self (s := (W.setVm vm₁).setVm vm₂) (plainBareV T.toThrowableT (freshCell P0.m.cls kX) a u0 sen msg) hlt
  refine ⟨_, st1 _ (fun acts => ?_), hrun, hended, hWU, hsame.weaken (fun y hy hlt' => ?_) (Nat.le_refl _) (Nat.le_refl _), _, hU, hfound, rfl⟩
  · rw [doInvoke_state]
    exact st2 _ hwalk
  · rcases List.mem_append.mp hy with h1 | h1
    · exact h1
    · exfalso
      have hb : y.base = a := by
        simp only [List.mem_cons, List.not_mem_nil, or_false] at h1
        rcases h1 with rfl | rfl | rfl | rfl | rfl <;> rfl
      rw [hb] at hlt'
      exact Nat.not_lt.mpr hnew hlt'
end ZCTOR

/-! 'throw new E("text")' with the heap's size behind it (begun from the kit's vx_throwS, vx_throwSW). -/
section ZTHROW
variable {p : Program} {l : Launch} {e : Env} {R : Room} {s : State} {m : MethodId} {args : Array Value} {below : List Frame} {meth : Method} {c : Code} {H : Heap} {locs : List Loc} {cells slots : Nat} {Q : State → Prop}
variable {mc ms : Nat} {free : Addr → Prop} {A0 A1 : Nat → Prop} {H0 : Heap} {a : Array Value} {ls : Array Slot} {st0 rest : List Value}
variable {Qc : Array Value → State → Outcome → State → Prop} {XC : String → State → State → Prop}
theorem zx_throwS {cc : ByteArray} {pc : Nat} (hexec : p.tables.exec = Jvm.exec) (hb : c.code = cc) (hl : l.stackTraces = false) {own cls Y0 text : String} {names : List String} {ik is ic ix mc ms sa : Nat} {rx : ByteArray} {A : Nat → Prop}
    (x0 : decode rx 0 = .ok (.aload_n 0, 1)) (x1 : decode rx 1 = .ok (.aload_n 1, 1)) (x2 : decode rx 2 = .ok (.invokespecial ix, 3)) (x5 : decode rx 5 = .ok (.return_, 1)) (hY0 : Bundle.fit Y0 = true)
    (hown : s.vm.findClass own = some m.cls) (hcls : Bundle.fit cls = true) (hnames : ∀ n ∈ names, Bundle.fit n = true)
    (hk : (Cond.classLink own ik cls).before args s = true) (hini : (Cond.initialized cls).before args s = true) (hstr : vk_R own is text sa s) (hat : ∀ w ∈ zxS own ic cls ix rx Y0 names, w.before args s = true)
    (hgood : ∀ w ∈ Cond.classLink own ik cls :: Cond.initialized cls :: zxS own ic cls ix rx Y0 names, vx_ot w = true)
    (hU : vx_Zq Bundle.tN "UNASSIGNED_STACK" Bundle.steD A s s.heap) (hN : vx_Zq Bundle.tN "SUPPRESSED_SENTINEL" Bundle.listD A s s.heap) (hS : va_S A s.heap H locs) (hsize : ls.size = c.maxLocals)
    (d0 : decode cc pc = .ok (.new ik, 3)) (d3 : decode cc (pc + 3) = .ok (.dup, 1)) (d4 : decode cc (pc + 4) = .ok (.ldc is, 2)) (d6 : decode cc (pc + 6) = .ok (.invokespecial ic, 3)) (d9 : decode cc (pc + 9) = .ok (.athrow, 1))
    (hout : ∀ x ∈ c.exceptionTable.toList, covers x (pc + 9) = false)
    (hRframes : names.length + 4 < R.frames) (hRlocals : (rest.map fun v => v.category).sum + (13 * (names.length + 2) + 43) ≤ R.locals) (hRcells : cells + 1 ≤ R.cells) (hRslots : slots + 6 ≤ R.slots) (hlocks : meth.locks = false)
    (hx : ∀ t : State, s.WarmedH t.vm → t.heap.size = H.size + 1 → (∀ q : Nat, q < H.size → t.heap[q]? = H[q]?) → XC cls s t)
    (hf : ∀ z ∈ locs, free z.base) (hc : cells + 1 ≤ mc) (hs : slots + 6 ≤ ms) :
    W p l e R s m args below meth c H locs cells slots (vx_MQ below Qc XC args s mc ms free) (F0 m pc ls rest) := by
  intro T hT X
  have htr : e.platform.stackTraces = false := (show e.platform.stackTraces = l.stackTraces by rw [X.admits.platform]).trans hl
  have Y := vx_rebase X (R' := { frames := R.frames, locals := R.locals, cells := 1, slots := 6 }) (Nat.le_refl _) (Nat.le_refl _) hRcells hRslots
  obtain ⟨s', hA⟩ : ∃ z, z = (T.setVm s.vm).setFrames (.invoking m args :: below) := ⟨_, rfl⟩
  rw [← hA] at Y
  have hvm : s'.vm = s.vm := by rw [hA]; rfl
  have hhp : s'.heap = H := by rw [hA]; exact hT
  have hW0 : s.WarmedH s'.vm := by rw [hvm]; exact State.WarmedH.refl s
  have hat' : ∀ w ∈ zxS own ic cls ix rx Y0 names, w.before args s' = true := fun w hw => vx_ot_at hW0 hvm.symm (hgood w (List.mem_cons_of_mem _ (List.mem_cons_of_mem _ hw))) (hat w hw)
  have hk' : (Cond.classLink own ik cls).before args s' = true := vx_ot_at hW0 hvm.symm (hgood _ List.mem_cons_self) hk
  have hini' : (Cond.initialized cls).before args s' = true := vx_ot_at hW0 hvm.symm (hgood _ (List.mem_cons_of_mem _ List.mem_cons_self)) hini
  have hU' : vx_Zq Bundle.tN "UNASSIGNED_STACK" Bundle.steD A s' s'.heap := by rw [hhp]; exact vx_Zq.moved hW0.alike (hU.kept hS.2.1)
  have hN' : vx_Zq Bundle.tN "SUPPRESSED_SENTINEL" Bundle.listD A s' s'.heap := by rw [hhp]; exact vx_Zq.moved hW0.alike (hN.kept hS.2.1)
  have h : ∀ w ∈ zxA own ic cls ix rx Y0 names, w.before args s' = true := vx_own hat' (vx_isRefq hU'.1) (vx_isRefq hN'.1) hU'.2.word hN'.2.word
  have hown' : s'.vm.findClass own = some m.cls := by rw [hvm]; exact hown
  have hins : (Cond.instantiable cls 6).before args s' = true := h _ (by simp [zxA])
  obtain ⟨vm₁, cX, kX, hfX, hkX, -, -, X₁, st1⟩ := Y.newCold hexec (own := own) (C := cls) (index := ik) (n := 6) hown' hk' hins hini'
    (g := F0 m pc ls rest) rfl (by rw [hb]; exact d0) (Nat.le_refl _) (Nat.le_refl _)
  generalize hT1 : (T.setVm vm₁).pushCell { cls := cX, slots := kX.instanceTypes.map defaultValue, vm := .none } = T1 at X₁ st1
  have hcat : (Value.ref T.heap.size).category = 1 := rfl
  have hcellA : T1.heap[T.heap.size]? = some (freshCell cX kX) := by rw [← hT1]; exact State.heap_pushCell_size _ _
  have d3' : decode c.code (pc + 3) = .ok (.dup, 1) := by rw [hb]; exact d3
  have d4' : decode c.code (pc + 4) = .ok (.ldc is, 2) := by rw [hb]; exact d4
  have hstr' : vk_R own is text sa s' := vk_R.warm hW0 hstr
  obtain ⟨U, hsteps, hrun, hend, hW, hsame, ce, hce, hOc, hOv⟩ := z_ctorX X₁ hexec htr (own := own) (cls := cls) (Y0 := Y0) (names := names) (ic := ic) x0 x1 x2 x5 hown' hcls hY0 hnames h (fun x hx => nomatch hx) hfX hkX hcellA (by rw [hhp, hT]; exact Nat.le_refl _) (msg := .ref sa) rfl
    (g := { method := m, pc := pc + 6, locals := ls, stack := .ref sa :: .ref T.heap.size :: .ref T.heap.size :: rest, locked := none }) rfl hsize rfl rfl (rest := rest) rfl
    (by rw [hb]; exact d6) (by rw [hb]; exact d9) hout hRframes (by simp only [List.map_cons, List.sum_cons, hcat]; omega) hlocks
  obtain ⟨f1, f2⟩ := vx_frame hsame
  have f3 := hsame.2.2.1
  rw [hhp] at f1 f2 f3
  have f4 : T.heap.size < U.heap.size := (Array.getElem?_eq_some_iff.mp hce).1
  rw [hT] at f4
  have f0 : U.heap.size = H.size + 1 := Nat.le_antisymm f3 f4
  have hWs : s.WarmedH U.vm := State.WarmedH.trans hW0 hW
  have hcl : s.vm.findClass cls = some ce.cls := by
    have h9 := hOc
    rw [hvm] at h9
    exact h9
  have hall : s.sameButNew ({ U with vm := s.vm } : State) locs mc ms := by
    subst hA
    obtain ⟨e1, e2⟩ := hsame
    rw [State.setFrames_setFrames] at e1
    have h2 : (T.setVm s.vm).sameButNew ({ U with vm := s.vm } : State) [] (0 + 1) (0 + 6) := ⟨e1, e2⟩
    have h3 := X.same.trans h2
    rw [List.append_nil] at h3
    exact h3.mono hc hs
  refine ⟨U, ?_, .threw T.heap.size, hrun, hend, Or.inr ⟨T.heap.size, rfl, cls, ce, locs, hx U hWs f0 (fun q hq => f2 q hq (fun z hz => nomatch hz)), hce, hOv, hcl, hWs, hall, hf⟩⟩
  refine st1 _ ?_
  show Steps p.tables e below (T1.setTop { method := m, pc := pc + 3, locals := ls, stack := .ref T.heap.size :: rest, locked := none }) _
  jvm_step X₁.here [X₁.here.top, hexec, d3', Value.category]
  exact X₁.ldcString hexec (own := own) (text := text) (index := is) (a := sa) hown' hstr'.1 hstr'.2
    (g := { method := m, pc := pc + 4, locals := ls, stack := .ref T.heap.size :: .ref T.heap.size :: rest, locked := none }) rfl d4' _ hsteps
/-- 'throw new E("text")', the text by a wide index -/
theorem zx_throwSW {cc : ByteArray} {pc : Nat} (hexec : p.tables.exec = Jvm.exec) (hb : c.code = cc) (hl : l.stackTraces = false) {own cls Y0 text : String} {names : List String} {ik is ic ix mc ms sa : Nat} {rx : ByteArray} {A : Nat → Prop}
    (x0 : decode rx 0 = .ok (.aload_n 0, 1)) (x1 : decode rx 1 = .ok (.aload_n 1, 1)) (x2 : decode rx 2 = .ok (.invokespecial ix, 3)) (x5 : decode rx 5 = .ok (.return_, 1)) (hY0 : Bundle.fit Y0 = true)
    (hown : s.vm.findClass own = some m.cls) (hcls : Bundle.fit cls = true) (hnames : ∀ n ∈ names, Bundle.fit n = true)
    (hk : (Cond.classLink own ik cls).before args s = true) (hini : (Cond.initialized cls).before args s = true) (hstr : vk_R own is text sa s) (hat : ∀ w ∈ zxS own ic cls ix rx Y0 names, w.before args s = true)
    (hgood : ∀ w ∈ Cond.classLink own ik cls :: Cond.initialized cls :: zxS own ic cls ix rx Y0 names, vx_ot w = true)
    (hU : vx_Zq Bundle.tN "UNASSIGNED_STACK" Bundle.steD A s s.heap) (hN : vx_Zq Bundle.tN "SUPPRESSED_SENTINEL" Bundle.listD A s s.heap) (hS : va_S A s.heap H locs) (hsize : ls.size = c.maxLocals)
    (d0 : decode cc pc = .ok (.new ik, 3)) (d3 : decode cc (pc + 3) = .ok (.dup, 1)) (d4 : decode cc (pc + 4) = .ok (.ldc_w is, 3)) (d7 : decode cc (pc + 7) = .ok (.invokespecial ic, 3)) (d10 : decode cc (pc + 10) = .ok (.athrow, 1))
    (hout : ∀ x ∈ c.exceptionTable.toList, covers x (pc + 10) = false)
    (hRframes : names.length + 4 < R.frames) (hRlocals : (rest.map fun v => v.category).sum + (13 * (names.length + 2) + 43) ≤ R.locals) (hRcells : cells + 1 ≤ R.cells) (hRslots : slots + 6 ≤ R.slots) (hlocks : meth.locks = false)
    (hx : ∀ t : State, s.WarmedH t.vm → t.heap.size = H.size + 1 → (∀ q : Nat, q < H.size → t.heap[q]? = H[q]?) → XC cls s t)
    (hf : ∀ z ∈ locs, free z.base) (hc : cells + 1 ≤ mc) (hs : slots + 6 ≤ ms) :
    W p l e R s m args below meth c H locs cells slots (vx_MQ below Qc XC args s mc ms free) (F0 m pc ls rest) := by
  intro T hT X
  have htr : e.platform.stackTraces = false := (show e.platform.stackTraces = l.stackTraces by rw [X.admits.platform]).trans hl
  have Y := vx_rebase X (R' := { frames := R.frames, locals := R.locals, cells := 1, slots := 6 }) (Nat.le_refl _) (Nat.le_refl _) hRcells hRslots
  obtain ⟨s', hA⟩ : ∃ z, z = (T.setVm s.vm).setFrames (.invoking m args :: below) := ⟨_, rfl⟩
  rw [← hA] at Y
  have hvm : s'.vm = s.vm := by rw [hA]; rfl
  have hhp : s'.heap = H := by rw [hA]; exact hT
  have hW0 : s.WarmedH s'.vm := by rw [hvm]; exact State.WarmedH.refl s
  have hat' : ∀ w ∈ zxS own ic cls ix rx Y0 names, w.before args s' = true := fun w hw => vx_ot_at hW0 hvm.symm (hgood w (List.mem_cons_of_mem _ (List.mem_cons_of_mem _ hw))) (hat w hw)
  have hk' : (Cond.classLink own ik cls).before args s' = true := vx_ot_at hW0 hvm.symm (hgood _ List.mem_cons_self) hk
  have hini' : (Cond.initialized cls).before args s' = true := vx_ot_at hW0 hvm.symm (hgood _ (List.mem_cons_of_mem _ List.mem_cons_self)) hini
  have hU' : vx_Zq Bundle.tN "UNASSIGNED_STACK" Bundle.steD A s' s'.heap := by rw [hhp]; exact vx_Zq.moved hW0.alike (hU.kept hS.2.1)
  have hN' : vx_Zq Bundle.tN "SUPPRESSED_SENTINEL" Bundle.listD A s' s'.heap := by rw [hhp]; exact vx_Zq.moved hW0.alike (hN.kept hS.2.1)
  have h : ∀ w ∈ zxA own ic cls ix rx Y0 names, w.before args s' = true := vx_own hat' (vx_isRefq hU'.1) (vx_isRefq hN'.1) hU'.2.word hN'.2.word
  have hown' : s'.vm.findClass own = some m.cls := by rw [hvm]; exact hown
  have hins : (Cond.instantiable cls 6).before args s' = true := h _ (by simp [zxA])
  obtain ⟨vm₁, cX, kX, hfX, hkX, -, -, X₁, st1⟩ := Y.newCold hexec (own := own) (C := cls) (index := ik) (n := 6) hown' hk' hins hini'
    (g := F0 m pc ls rest) rfl (by rw [hb]; exact d0) (Nat.le_refl _) (Nat.le_refl _)
  generalize hT1 : (T.setVm vm₁).pushCell { cls := cX, slots := kX.instanceTypes.map defaultValue, vm := .none } = T1 at X₁ st1
  have hcat : (Value.ref T.heap.size).category = 1 := rfl
  have hcellA : T1.heap[T.heap.size]? = some (freshCell cX kX) := by rw [← hT1]; exact State.heap_pushCell_size _ _
  have d3' : decode c.code (pc + 3) = .ok (.dup, 1) := by rw [hb]; exact d3
  have d4' : decode c.code (pc + 4) = .ok (.ldc_w is, 3) := by rw [hb]; exact d4
  have hstr' : vk_R own is text sa s' := vk_R.warm hW0 hstr
  obtain ⟨U, hsteps, hrun, hend, hW, hsame, ce, hce, hOc, hOv⟩ := z_ctorX X₁ hexec htr (own := own) (cls := cls) (Y0 := Y0) (names := names) (ic := ic) x0 x1 x2 x5 hown' hcls hY0 hnames h (fun x hx => nomatch hx) hfX hkX hcellA (by rw [hhp, hT]; exact Nat.le_refl _) (msg := .ref sa) rfl
    (g := { method := m, pc := pc + 7, locals := ls, stack := .ref sa :: .ref T.heap.size :: .ref T.heap.size :: rest, locked := none }) rfl hsize rfl rfl (rest := rest) rfl
    (by rw [hb]; exact d7) (by rw [hb]; exact d10) hout hRframes (by simp only [List.map_cons, List.sum_cons, hcat]; omega) hlocks
  obtain ⟨f1, f2⟩ := vx_frame hsame
  have f3 := hsame.2.2.1
  rw [hhp] at f1 f2 f3
  have f4 : T.heap.size < U.heap.size := (Array.getElem?_eq_some_iff.mp hce).1
  rw [hT] at f4
  have f0 : U.heap.size = H.size + 1 := Nat.le_antisymm f3 f4
  have hWs : s.WarmedH U.vm := State.WarmedH.trans hW0 hW
  have hcl : s.vm.findClass cls = some ce.cls := by
    have h9 := hOc
    rw [hvm] at h9
    exact h9
  have hall : s.sameButNew ({ U with vm := s.vm } : State) locs mc ms := by
    subst hA
    obtain ⟨e1, e2⟩ := hsame
    rw [State.setFrames_setFrames] at e1
    have h2 : (T.setVm s.vm).sameButNew ({ U with vm := s.vm } : State) [] (0 + 1) (0 + 6) := ⟨e1, e2⟩
    have h3 := X.same.trans h2
    rw [List.append_nil] at h3
    exact h3.mono hc hs
  refine ⟨U, ?_, .threw T.heap.size, hrun, hend, Or.inr ⟨T.heap.size, rfl, cls, ce, locs, hx U hWs f0 (fun q hq => f2 q hq (fun z hz => nomatch hz)), hce, hOv, hcl, hWs, hall, hf⟩⟩
  refine st1 _ ?_
  show Steps p.tables e below (T1.setTop { method := m, pc := pc + 3, locals := ls, stack := .ref T.heap.size :: rest, locked := none }) _
  jvm_step X₁.here [X₁.here.top, hexec, d3', Value.category]
  exact X₁.ldcStringW hexec (own := own) (text := text) (index := is) (a := sa) hown' hstr'.1 hstr'.2
    (g := { method := m, pc := pc + 4, locals := ls, stack := .ref T.heap.size :: .ref T.heap.size :: rest, locked := none }) rfl d4' _ hsteps
end ZTHROW

/-! What the interpreter answers, the machine does. -/
/-- names, bytes, return types, tables of handlers, the exceptions' names, how many methods -/
abbrev zL : Type := (Nat → MethodName) × (Nat → ByteArray) × (Nat → Option FieldType) × (Nat → List (Nat × Nat × Nat × Nat)) × (Nat → String) × Nat
def zcw (P : zProg) (L : zL) (k : Nat) : Jvm.Cond := if L.2.2.2.1 k = [] then .code (L.1 k) (L.2.1 k) (P.2.1 k) (L.2.2.1 k) else .codeWith (L.1 k) (L.2.1 k) (P.2.1 k) (L.2.2.1 k) (L.2.2.2.1 k)
def zlkC (P : zProg) (L : zL) (zW : List Jvm.Cond) (cl : List vw_C) (own : String) (cc : ByteArray) (pc k' j kd : Nat) : Prop :=
  k' < L.2.2.2.2.2 ∧ zcw P L k' ∈ zW ∧ ((L.1 k').cls ≠ "java/lang/invoke/MethodHandle" ∧ (L.1 k').cls ≠ "java/lang/invoke/VarHandle") ∧ Cond.initialized (L.1 k').cls ∈ zW ∧ ∃ index n : Nat, (parseMethodDescriptor (L.1 k').desc).map (fun d => d.parameters.length) = some n ∧
    ((∃ ci T N, kd = ci + 1 ∧ ci < 19 ∧ cl[ci]? = some ((L.1 k').cls, T, N) ∧ L.2.2.2.1 k' = [] ∧ j = n + 1 ∧ decode cc pc = .ok (.invokevirtual index, 3) ∧ Cond.methodLink own index (L.1 k') ∈ zW ∧ Cond.instanceMethod (L.1 k') ∈ zW ∧ Cond.selects (L.1 k').cls (L.1 k') (L.1 k') ∈ zW) ∨
     (L.2.2.2.1 k' = [] ∧ j = n ∧ decode cc pc = .ok (.invokestatic index, 3) ∧ Cond.methodLink own index (L.1 k') ∈ zW ∧ Cond.static (L.1 k') ∈ zW) ∨
     (∃ host, L.2.2.2.1 k' = [] ∧ j = n ∧ decode cc pc = .ok (.invokestatic index, 3) ∧ Cond.methodLinkNest own index (L.1 k') host ∈ zW ∧ Cond.static (L.1 k') ∈ zW) ∨
     (L.2.2.2.1 k' ≠ [] ∧ j = n ∧ decode cc pc = .ok (.invokestatic index, 3) ∧ Cond.methodLink own index (L.1 k') ∈ zW ∧ Cond.static (L.1 k') ∈ zW) ∨
     (kd ≠ 0 ∧ L.2.2.2.1 k' = [] ∧ L.2.2.1 k' = none ∧ j = n + 1 ∧ decode cc pc = .ok (.invokespecial index, 3) ∧ (L.1 k').name = "<init>" ∧ Cond.methodLink own index (L.1 k') ∈ zW ∧ Cond.instanceMethod (L.1 k') ∈ zW) ∨
     (∃ ci C T N, kd = ci + 1 ∧ ci < 19 ∧ cl[ci]? = some (C, T, N) ∧ L.2.2.2.1 k' = [] ∧ j = n + 1 ∧ decode cc pc = .ok (.invokespecial index, 3) ∧ (L.1 k').name ≠ "<init>" ∧ Cond.methodLink own index (L.1 k') ∈ zW ∧ Cond.sameMethod (L.1 k').cls (L.1 k').cls (L.1 k').name (L.1 k').desc ∈ zW ∧ Cond.superclass own (L.1 k').cls ∈ zW ∧ Cond.instanceMethod (L.1 k') ∈ zW) ∨
     (∃ ci C T N, kd = ci + 1 ∧ ci < 19 ∧ cl[ci]? = some (C, T, N) ∧ L.2.2.2.1 k' = [] ∧ j = n + 1 ∧ decode cc pc = .ok (.invokevirtual index, 3) ∧ Cond.methodLink own index (L.1 k') ∈ zW ∧ Cond.sameMethod (L.1 k').cls (L.1 k').cls (L.1 k').name (L.1 k').desc ∈ zW ∧ Cond.selects C (L.1 k') (L.1 k') ∈ zW ∧ Cond.instanceMethod (L.1 k') ∈ zW))
def zlkR (L : zL) (cc : ByteArray) (pc k t : Nat) : Prop :=
  (t = 0 ∧ decode cc pc = .ok (.ireturn, 1) ∧ L.2.2.1 k = some .int) ∨ (t = 5 ∧ decode cc pc = .ok (.ireturn, 1) ∧ L.2.2.1 k = some .boolean) ∨ (t = 7 ∧ decode cc pc = .ok (.ireturn, 1) ∧ L.2.2.1 k = some .char) ∨
  (t = 1 ∧ decode cc pc = .ok (.lreturn, 1) ∧ L.2.2.1 k = some .long) ∨ (t = 2 ∧ decode cc pc = .ok (.freturn, 1) ∧ L.2.2.1 k = some .float) ∨ (t = 3 ∧ decode cc pc = .ok (.dreturn, 1) ∧ L.2.2.1 k = some .double) ∨
  (t = 4 ∧ decode cc pc = .ok (.areturn, 1) ∧ ∃ rt, L.2.2.1 k = some rt ∧ ((∃ n, rt = .object n) ∨ ∃ t, rt = .array t))
def zlkX (L : zL) (zW : List Jvm.Cond) (G : zG) (own : String) (cc : ByteArray) (pc E : Nat) : Prop :=
  ∃ (ik is ic ix : Nat) (rx : ByteArray) (text Y0 : String) (names : List String), (decode rx 0 = .ok (.aload_n 0, 1) ∧ decode rx 1 = .ok (.aload_n 1, 1) ∧ decode rx 2 = .ok (.invokespecial ix, 3) ∧ decode rx 5 = .ok (.return_, 1) ∧ Bundle.fit Y0 = true) ∧ Bundle.fit (L.2.2.2.2.1 E) = true ∧ (∀ n ∈ names, Bundle.fit n = true) ∧ names.length ≤ 2 ∧ Cond.classLink own ik (L.2.2.2.2.1 E) ∈ zW ∧ Cond.initialized (L.2.2.2.2.1 E) ∈ zW ∧ (∀ w ∈ zxS own ic (L.2.2.2.2.1 E) ix rx Y0 names, w ∈ zW ∧ vx_ot w = true) ∧ (∃ sa, vk_R own is text sa G.2.2) ∧
    decode cc pc = .ok (.new ik, 3) ∧ decode cc (pc + 3) = .ok (.dup, 1) ∧
    ((decode cc (pc + 4) = .ok (.ldc is, 2) ∧ decode cc (pc + 6) = .ok (.invokespecial ic, 3) ∧ decode cc (pc + 9) = .ok (.athrow, 1)) ∨ (decode cc (pc + 4) = .ok (.ldc_w is, 3) ∧ decode cc (pc + 7) = .ok (.invokespecial ic, 3) ∧ decode cc (pc + 10) = .ok (.athrow, 1)))
/-- a handler: the exception into a local, a number, back -/
def zlkHand (cc : ByteArray) (hp i : Nat) (r : Int) : Prop := ∃ v : Int, Int32.ofInt v = Int32.ofInt r ∧
  ((∃ q : Fin 4, (q : Nat) = i ∧ decode cc hp = .ok (.astore_n q, 1) ∧ decode cc (hp + 1) = .ok (.iconst v, 1) ∧ decode cc (hp + 1 + 1) = .ok (.ireturn, 1)) ∨ (decode cc hp = .ok (.astore i, 2) ∧ decode cc (hp + 2) = .ok (.iconst v, 1) ∧ decode cc (hp + 2 + 1) = .ok (.ireturn, 1)))
def zlkH (L : zL) (zW : List Jvm.Cond) (G : zG) (own : String) (cc : ByteArray) : List (Nat × Nat × Nat × Nat × Int) → List (Nat × Nat × Nat × Nat) → Prop
  | [], [] => True
  | (a, b, n, i, r) :: hs, (a', b', hp, ct) :: ts => a = a' ∧ b = b' ∧ ct ≠ 0 ∧ Cond.classLink own ct (L.2.2.2.2.1 n) ∈ zW ∧ Cond.castable (L.2.2.2.2.1 n) (L.2.2.2.2.1 n) ∈ zW ∧ zlkHand cc hp i r ∧ (∀ q ∈ hs, va_Nc (L.2.2.2.2.1 q.2.2.1) (L.2.2.2.2.1 n) G.2.2) ∧ zlkH L zW G own cc hs ts
  | _, _ => False
/-- one instruction -/
def zlk (P : zProg) (L : zL) (zW : List Jvm.Cond) (cl : List vw_C) (G : zG) (ss : Nat → String × String × String) (k pc : Nat) : Prop :=
  match P.1 k pc with
  | (24, i, j, x, _) => zlkC P L zW cl (L.1 k).cls (L.2.1 k) pc i j x.toNat
  | (26, t, _, _, _) => zlkR L (L.2.1 k) pc k t
  | (27, _, _, _, _) => decode (L.2.1 k) pc = .ok (.return_, 1) ∧ L.2.2.1 k = none
  | (28, E, _, _, _) => zlkX L zW G (L.1 k).cls (L.2.1 k) pc E ∧ L.2.2.2.1 k = []
  | I => zlkI P zW cl ss (L.1 k).cls (L.1 k).name (L.2.1 k) pc I
/-- a method -/
def zmok (P : zProg) (L : zL) (zW : List Jvm.Cond) (cl : List vw_C) (G : zG) (ss : Nat → String × String × String) (k : Nat) : Prop :=
  plainName (L.1 k).cls = true ∧ P.2.1 k ≤ 80 ∧ zlkH L zW G (L.1 k).cls (L.2.1 k) (P.2.2.1 k) (L.2.2.2.1 k) ∧ (L.2.2.2.1 k ≠ [] → L.2.2.1 k = some .int) ∧ ∀ pc, (P.1 k pc).1 ≤ 31 → zlk P L zW cl G ss k pc
/-- what the law's start gives -/
def zfacts (L : zL) (zW : List Jvm.Cond) (G : zG) (ss : Nat → String × String × String) (sv : Nat → Value) : Prop :=
  (∀ w ∈ zW, (∃ A, w.before A G.2.2 = true) ∧ zgw w = true) ∧ (∀ i, i < 4 → va_Z (ss i).1 (ss i).2.1 (ss i).2.2 (sv i) (fun q => G.2.2.heap.size ≤ q) G.2.2 G.2.2.heap) ∧
  vx_Zq Bundle.tN "UNASSIGNED_STACK" Bundle.steD (fun q => G.2.2.heap.size ≤ q) G.2.2 G.2.2.heap ∧ vx_Zq Bundle.tN "SUPPRESSED_SENTINEL" Bundle.listD (fun q => G.2.2.heap.size ≤ q) G.2.2 G.2.2.heap
def zPc (cl : List vw_C) (G : zG) (vs : List Value) (h : zH) : Array Value → State → Prop := fun a U => a = vs.toArray ∧ zK cl G U ∧ zrel cl G h U.heap
def zQc (cl : List vw_C) (G : zG) (r : zO × zH) : Array Value → State → Outcome → State → Prop := fun _ _ oc t => ∃ v, r.1 = .inl v ∧ oc = .returned v ∧ zrel cl G r.2 t.heap
def zXC (cl : List vw_C) (G : zG) (L : zL) (r : zO × zH) : String → State → State → Prop := fun E _ t => ∃ n, r.1 = .inr n ∧ E = L.2.2.2.2.1 n ∧ zrel cl G r.2 t.heap
def zrm (d c s : Nat) : Room := { frames := 10 + d, cells := c, slots := s, locals := 200 + 100 * d }
def zMet (P : zProg) (L : zL) (cl : List vw_C) (G : zG) (l : Launch) (d k : Nat) (vs : List Value) (h : zH) (r : zO × zH) : Prop :=
  vx_Met l (L.1 k) [zcw P L k] (zrm d (r.2.2.1 - h.2.1) (r.2.2.2 - h.2.2)) (zPc cl G vs h) (zQc cl G r) (zXC cl G L r) (r.2.2.1 - h.2.1) (r.2.2.2 - h.2.2) (fun q => G.2.2.heap.size ≤ q)
theorem zPc_blind {cl : List vw_C} {G : zG} {vs : List Value} {h : zH} : FrameBlind (zPc cl G vs h) := fun a U g mk ⟨h1, h2, h3⟩ => ⟨h1, h2.moved (t := U.calling g mk a) (State.WarmedH.refl U), h3⟩
theorem zcw_good {P : zProg} {L : zL} {k : Nat} : goodWord (zcw P L k) = true := by
  unfold zcw
  split <;> rfl
section ZS
variable {p : Program} {l : Launch} {e : Env} {R : Room} {s : State} {m : MethodId} {args : Array Value} {below : List Frame} {meth : Method} {c : Code} {H : Heap} {locs : List Loc} {cells slots : Nat} {Q : State → Prop}
variable {cl : List vw_C} {G : zG} {L : zL} {P : zProg} {zW : List Jvm.Cond} {ss : Nat → String × String × String} {sv : Nat → Value}
theorem zw_call {pc : Nat} {ls : Array Slot} {st0 rest : List Value} {mc ms : Nat} {A : Array Value} {r : zO × zH} (hL : ∀ z ∈ locs, G.2.2.heap.size ≤ z.base)
    (hr : vx_Run p l e R s m args below meth c H locs cells slots mc ms (F0 m pc ls st0) rest (zQc cl G r A) (zXC cl G L r) (fun q => G.2.2.heap.size ≤ q))
    (kv : ∀ v, r.1 = .inl v → ∀ (H1 : Heap) (locs1 : List Loc), zrel cl G r.2 H1 → (∀ z ∈ locs1, G.2.2.heap.size ≤ z.base) → W p l e R s m args below meth c H1 locs1 (cells + mc) (slots + ms) Q (F0 m (pc + 3) ls (v.toList ++ rest)))
    (kx : ∀ n, r.1 = .inr n → ∀ (H1 : Heap) (locs1 : List Loc) (q : Addr) (ce : Cell), zrel cl G r.2 H1 → (∀ z ∈ locs1, G.2.2.heap.size ≤ z.base) → H1[q]? = some ce → ce.vm = .none → s.vm.findClass (L.2.2.2.2.1 n) = some ce.cls → vx_W p l e R s m args below meth c H1 locs1 (cells + mc) (slots + ms) Q (F0 m pc ls rest) q) :
    W p l e R s m args below meth c H locs cells slots Q (F0 m pc ls st0) := by
  intro T hT X
  have hLL : ∀ {L9 : List Loc}, (∀ z ∈ L9, G.2.2.heap.size ≤ z.base) → ∀ z ∈ locs ++ L9, G.2.2.heap.size ≤ z.base := by
    intro L9 h9 z hz
    rcases List.mem_append.mp hz with hz | hz
    · exact hL z hz
    · exact h9 z hz
  rcases hr T hT X with ⟨v, st₀, t, T', L9, h0, X', hL9, e1, e2, ⟨v', hv1, hv2, hz⟩, st⟩ | ⟨q, st₀, t, T', L9, E, ce, h0, X', hL9, e1, e2, ⟨n, hn1, hn2, hz⟩, hce, hcv, hcl, st⟩
  · cases hv2
    rw [← e1] at hz
    obtain ⟨t2, a1, b1⟩ := kv v hv1 T'.heap (locs ++ L9) hz (hLL hL9) T' rfl X'
    exact ⟨t2, st t2 a1, b1⟩
  · subst hn2
    rw [← e1] at hz hce
    obtain ⟨t2, a1, b1⟩ := kx n hn1 T'.heap (locs ++ L9) q ce hz (hLL hL9) hce hcv hcl T' rfl X'
    exact ⟨t2, st.trans a1, b1⟩
end ZS

section ZC
variable {p : Program} {l : Launch} {e : Env} {R : Room} {s : State} {m : MethodId} {args : Array Value} {below : List Frame} {meth : Method} {c : Code} {H : Heap} {locs : List Loc} {cells slots : Nat} {Q : State → Prop}
variable {cl : List vw_C} {G : zG} {L : zL} {P : zProg} {zW : List Jvm.Cond} {ss : Nat → String × String × String} {sv : Nat → Value}
theorem zgood_in {ws : List Jvm.Cond} (h : ∀ w ∈ ws, w ∈ zW ∧ goodWord w = true) : GoodIn zW ws := fun w hw => ⟨(h w hw).1, good_of_word (h w hw).2⟩
theorem zgood_1 {w : Jvm.Cond} (h : w ∈ zW ∧ goodWord w = true) : GoodIn zW [w] := zgood_in fun w' hw => by rw [List.mem_singleton.mp hw]; exact h
theorem zcw_code {k : Nat} (h : L.2.2.2.1 k = []) : [zcw P L k] = Cond.code (L.1 k) (L.2.1 k) (P.2.1 k) (L.2.2.1 k) :: [] := by
  unfold zcw
  rw [if_pos h]
theorem zcw_with {k : Nat} (h : L.2.2.2.1 k ≠ []) : [zcw P L k] = Cond.codeWith (L.1 k) (L.2.1 k) (P.2.1 k) (L.2.2.1 k) (L.2.2.2.1 k) :: [] := by
  unfold zcw
  rw [if_neg h]
theorem zs_vrun {own : String} {cc : ByteArray} {pc k' j kd d : Nat} {ls : Array Slot} {vs rest : List Value} {h : zH} {r : zO × zH} (hx : p.tables.exec = Jvm.exec) (hb : c.code = cc) (hts : ∀ w ∈ zW, w.before args s = true) (hown : s.vm.findClass own = some m.cls) (hK : zK cl G s) (hml : c.maxLocals = ls.size)
    (hr : zrel cl G h H) (hlk : zlkC P L zW cl own cc pc k' j kd) (hj : vs.length = j) (hrest : (rest.map fun v => v.category).sum ≤ 8) (hrv : zrecv kd vs h = true) (hM : zMet P L cl G l d k' vs h r)
    (hRf : 10 + d + 1 ≤ R.frames) (hRl : 8 + (P.2.1 k' + 11) + (200 + 100 * d) ≤ R.locals) (hcells : cells + (r.2.2.1 - h.2.1) ≤ R.cells) (hslots : slots + (r.2.2.2 - h.2.2) ≤ R.slots) :
    vx_Run p l e R s m args below meth c H locs cells slots (r.2.2.1 - h.2.1) (r.2.2.2 - h.2.2) (F0 m pc ls (vs.reverse ++ rest)) rest (zQc cl G r vs.toArray) (zXC cl G L r) (fun q => G.2.2.heap.size ≤ q) := by
  obtain ⟨hk', hcw, hnm, hini, index, n, hpar, hmode⟩ := hlk
  have hS : CallFix p m c cc ls.size s args zW own := ⟨hx, hb, hml, hown, hts⟩
  have hW8 : 2 * (F0 m pc ls (vs.reverse ++ rest)).monitorRoom + (rest.map fun v => v.category).sum ≤ 8 := by show 2 * 0 + _ ≤ 8; omega
  have hRR : (zrm d (r.2.2.1 - h.2.1) (r.2.2.2 - h.2.2)).frames + 1 ≤ R.frames ∧ 8 + (P.2.1 k' + 11) + (zrm d (r.2.2.1 - h.2.1) (r.2.2.2 - h.2.2)).locals ≤ R.locals := ⟨hRf, hRl⟩
  have hg1 := zgood_1 (zW := zW) ⟨hcw, zcw_good (P := P) (L := L) (k := k')⟩
  have hpre : ∀ U : State, U.heap = H → s.WarmedH U.vm → zPc cl G vs h vs.toArray U := fun U hU hW => ⟨rfl, hK.moved hW, by rw [hU]; exact hr⟩
  have hd : (L.1 k').cls ≠ "java/lang/invoke/MethodHandle" ∧ (L.1 k').cls ≠ "java/lang/invoke/VarHandle" ∧ (parseMethodDescriptor (L.1 k').desc).map (fun d => d.parameters.length) = some n := ⟨hnm.1, hnm.2, hpar⟩
  rcases hmode with ⟨ci, T, N, rfl, hci, hc, hh, hjn, hdg, w1, w2, w3⟩ | ⟨hh, hjn, hdg, w1, w2⟩ | ⟨host, hh, hjn, hdg, w1, w2⟩ | ⟨hh, hjn, hdg, w1, w2⟩ | ⟨hkd, hh, hret, hjn, hdg, hyn, w1, w2⟩ | ⟨ci, C, T, N, rfl, hci, hc, hh, hjn, hdg, hyn, w1, w2, w3, w4⟩ | ⟨ci, C, T, N, rfl, hci, hc, hh, hjn, hdg, w1, w2, w3, w4⟩
  · -- virtual
    match vs, hj, hrv, hM, hpre with
    | [], hj, hrv, hM, hpre => simp at hj; omega
    | v :: As, hj, hrv, hM, hpre =>
      cases v with
      | ref b =>
        have hkb : (h.1 b).1 = ci + 1 := by
          unfold zrecv at hrv
          simpa using hrv
        obtain ⟨r9, hr9, hlen9, cellB, g1, g2, g3, -⟩ := (hr.at b).obj hkb hci
        have hfc := (hK.1 ci _ hc).2.1
        have hn : As.length = n := by simp at hj; omega
        have hT : GoodIn zW (wsV own index (L.1 k').cls (L.1 k') [zcw P L k']) := zgood_in (by
          intro w hw
          unfold wsV at hw
          simp only [List.cons_append, List.nil_append, List.mem_cons, List.not_mem_nil, or_false] at hw
          rcases hw with rfl | rfl | rfl | rfl | rfl
          · exact ⟨w1, rfl⟩
          · exact ⟨w2, rfl⟩
          · exact ⟨w3, rfl⟩
          · exact ⟨hini, rfl⟩
          · exact ⟨hcw, zcw_good⟩)
        exact vx_runV (As := As) (b := b) (C := (L.1 k').cls) hS hM (cwV n hts hT (zcw_code hh) rfl rfl ⟨rfl, hd⟩ hRR) ⟨zPc_blind, ⟨cellB, g1, by rw [g3]; rfl, by rw [g2]; exact hfc⟩, hpre⟩ rfl hn rfl (by simp) hW8 hdg ⟨hcells, hslots⟩
      | _ => simp [zrecv] at hrv
  · -- static
    have hT : GoodIn zW (va_wsS own index (L.1 k') [zcw P L k']) := zgood_in (by
      intro w hw
      unfold va_wsS at hw
      simp only [List.cons_append, List.nil_append, List.mem_cons, List.not_mem_nil, or_false] at hw
      rcases hw with rfl | rfl | rfl | rfl
      · exact ⟨w1, rfl⟩
      · exact ⟨w2, rfl⟩
      · exact ⟨hini, rfl⟩
      · exact ⟨hcw, zcw_good⟩)
    exact vx_runS (As := vs) hS hM ⟨callB_of n hts hg1 (zcw_code hh) rfl rfl (hts _ hini) (hts _ w1) hd hRR, hts _ w2⟩ ⟨zPc_blind, hpre⟩ rfl (by omega) rfl rfl hW8 hdg ⟨hcells, hslots⟩
  · -- static of a nest mate
    exact vx_runSN (As := vs) hS hM ⟨va_cnB n hts hg1 (zcw_code hh) rfl rfl (va_Nw.of rfl (hts _ w1)) (hts _ hini) hd hRR, hts _ w2, trivial⟩ ⟨zPc_blind, hpre⟩ rfl (by omega) rfl rfl hW8 hdg ⟨hcells, hslots⟩
  · -- static with handlers
    have hT : GoodIn zW (va_wsS own index (L.1 k') [zcw P L k']) := zgood_in (by
      intro w hw
      unfold va_wsS at hw
      simp only [List.cons_append, List.nil_append, List.mem_cons, List.not_mem_nil, or_false] at hw
      rcases hw with rfl | rfl | rfl | rfl
      · exact ⟨w1, rfl⟩
      · exact ⟨w2, rfl⟩
      · exact ⟨hini, rfl⟩
      · exact ⟨hcw, zcw_good⟩)
    exact vx_runSX (As := vs) hS hM (vx_cwSW n hts hT (zcw_with hh) rfl rfl hd hRR) ⟨zPc_blind, hpre⟩ rfl (by omega) rfl rfl hW8 hdg ⟨hcells, hslots⟩
  · -- a constructor
    match vs, hj, hrv, hM, hpre with
    | [], hj, hrv, hM, hpre => simp at hj; omega
    | v :: As, hj, hrv, hM, hpre =>
      cases v with
      | ref b =>
        have hn : As.length = n := by simp at hj; omega
        have hcd := zcw_code (P := P) hh
        rw [hret] at hcd
        exact vx_runI (As := As) (b := b) hS hM (cwI n hts hg1 hcd rfl rfl (hts _ hini) (hts _ w1) (hts _ w2) hyn hd hRR) ⟨zPc_blind, hpre⟩ rfl hn rfl (by simp) hW8 hdg ⟨hcells, hslots⟩
      | _ => simp [zrecv, hkd] at hrv
  · -- super.m
    match vs, hj, hrv, hM, hpre with
    | [], hj, hrv, hM, hpre => simp at hj; omega
    | v :: As, hj, hrv, hM, hpre =>
      cases v with
      | ref b =>
        have hkb : (h.1 b).1 = ci + 1 := by
          unfold zrecv at hrv
          simpa using hrv
        obtain ⟨r9, hr9, hlen9, cellB, g1, g2, g3, -⟩ := (hr.at b).obj hkb hci
        have hfc := (hK.1 ci _ hc).2
        have hn : As.length = n := by simp at hj; omega
        have hT : GoodIn zW (va_wsSU own index (L.1 k') [zcw P L k']) := zgood_in (by
          intro w hw
          unfold va_wsSU at hw
          simp only [List.cons_append, List.nil_append, List.mem_cons, List.not_mem_nil, or_false] at hw
          rcases hw with rfl | rfl | rfl | rfl | rfl | rfl
          · exact ⟨w1, rfl⟩
          · exact ⟨w2, rfl⟩
          · exact ⟨w3, rfl⟩
          · exact ⟨w4, rfl⟩
          · exact ⟨hini, rfl⟩
          · exact ⟨hcw, zcw_good⟩)
        exact vx_runSU (As := As) (b := b) (C := C) hfc hS hM (va_cwSU n hts hT (zcw_code hh) rfl rfl ⟨hyn, hpar⟩ hRR) ⟨zPc_blind, ⟨cellB, g1, by rw [g3]; rfl, by rw [g2]; exact hfc.1⟩, hpre⟩ rfl hn rfl (by simp) hW8 hdg ⟨hcells, hslots⟩
      | _ => simp [zrecv] at hrv
  · -- an inherited method
    match vs, hj, hrv, hM, hpre with
    | [], hj, hrv, hM, hpre => simp at hj; omega
    | v :: As, hj, hrv, hM, hpre =>
      cases v with
      | ref b =>
        have hkb : (h.1 b).1 = ci + 1 := by
          unfold zrecv at hrv
          simpa using hrv
        obtain ⟨r9, hr9, hlen9, cellB, g1, g2, g3, -⟩ := (hr.at b).obj hkb hci
        have hfc := (hK.1 ci _ hc).2.1
        have hn : As.length = n := by simp at hj; omega
        have hT : GoodIn zW (va_wsU own index C (L.1 k').cls (L.1 k') (L.1 k') [zcw P L k']) := zgood_in (by
          intro w hw
          unfold va_wsU at hw
          simp only [List.cons_append, List.nil_append, List.mem_cons, List.not_mem_nil, or_false] at hw
          rcases hw with rfl | rfl | rfl | rfl | rfl | rfl
          · exact ⟨w1, rfl⟩
          · exact ⟨w2, rfl⟩
          · exact ⟨w3, rfl⟩
          · exact ⟨w4, rfl⟩
          · exact ⟨hini, rfl⟩
          · exact ⟨hcw, zcw_good⟩)
        exact vx_runU (As := As) (b := b) (C := C) (owner := (L.1 k').cls) hS hM (va_cwU n hts hT (zcw_code hh) rfl rfl rfl ⟨hnm.1, hnm.2, hpar⟩ hRR) ⟨zPc_blind, ⟨cellB, g1, by rw [g3]; rfl, by rw [g2]; exact hfc⟩, hpre⟩ rfl hn rfl (by simp) hW8 hdg ⟨hcells, hslots⟩
      | _ => simp [zrecv] at hrv
end ZC

/-- a step keeps the number of locals, and heap and slots never shrink -/
theorem zgo_mono {pc pc' : Nat} {ls ls' l0 : List Slot} {st st' : List Value} {h h' h0 : zH} (e : zgo pc ls st h = some (.inl (pc', ls', st', h'))) (hl : ls.length = l0.length) (h1 : h0.2.1 ≤ h.2.1) (h2 : h0.2.2 ≤ h.2.2) : h0.2.1 ≤ h'.2.1 ∧ h0.2.2 ≤ h'.2.2 ∧ ls'.length = l0.length := by
  obtain ⟨rfl, rfl, rfl, rfl⟩ := zgo_inj e
  exact ⟨h1, h2, hl⟩
theorem zstep_mono {P : zProg} {sv : Nat → Value} {I : zI} {pc pc' : Nat} {ls ls' : List Slot} {st st' : List Value} {h h' : zH} (hs : zstep P sv I pc ls st h = some (.inl (pc', ls', st', h'))) : h.2.1 ≤ h'.2.1 ∧ h.2.2 ≤ h'.2.2 ∧ ls'.length = ls.length := by
  have hup : ∀ {a : Nat} {c : zC}, h.2.1 ≤ (zup h a c).2.1 ∧ h.2.2 ≤ (zup h a c).2.2 := ⟨Nat.le_refl _, Nat.le_refl _⟩
  have hnew : ∀ {c : zC} {n : Nat}, h.2.1 ≤ (znew h c n).2.1 ∧ h.2.2 ≤ (znew h c n).2.2 := ⟨Nat.le_succ _, Nat.le_add_right _ _⟩
  obtain ⟨op, i, j, x, n⟩ := I
  unfold zstep at hs
  split at hs
  case h_5 =>
    unfold zld at hs
    repeat' split at hs
    all_goals first | exact zgo_mono hs rfl (Nat.le_refl _) (Nat.le_refl _) | cases hs
  case h_6 =>
    unfold zstore at hs
    repeat' split at hs
    all_goals first | (rename_i l2 hl2; exact zgo_mono hs (by have := zw_size hl2; simpa using this) (Nat.le_refl _) (Nat.le_refl _)) | cases hs
  case h_7 =>
    unfold ziinc at hs
    repeat' split at hs
    all_goals first | (rename_i l2 hl2; exact zgo_mono hs (by have := zw_size hl2; simpa using this) (Nat.le_refl _) (Nat.le_refl _)) | cases hs
  case h_11 =>
    unfold zcmp at hs
    repeat' split at hs
    all_goals first | exact zgo_mono hs rfl (Nat.le_refl _) (Nat.le_refl _) | cases hs
  case h_12 =>
    unfold zstk at hs
    repeat' split at hs
    all_goals first | exact zgo_mono hs rfl (Nat.le_refl _) (Nat.le_refl _) | cases hs
  case h_13 =>
    unfold zif at hs
    repeat' split at hs
    all_goals first | exact zgo_mono hs rfl (Nat.le_refl _) (Nat.le_refl _) | cases hs
  case h_14 =>
    unfold zicmp at hs
    repeat' split at hs
    all_goals first | exact zgo_mono hs rfl (Nat.le_refl _) (Nat.le_refl _) | cases hs
  case h_15 =>
    unfold zifn at hs
    split at hs
    all_goals first | exact zgo_mono hs rfl (Nat.le_refl _) (Nat.le_refl _) | cases hs
  case h_17 =>
    unfold zgetf at hs
    repeat' split at hs
    all_goals first | exact zgo_mono hs rfl (Nat.le_refl _) (Nat.le_refl _) | cases hs
  case h_18 =>
    unfold zputf at hs
    repeat' split at hs
    all_goals first | exact zgo_mono hs rfl hup.1 hup.2 | cases hs
  case h_19 =>
    unfold zald at hs
    repeat' split at hs
    all_goals first | exact zgo_mono hs rfl (Nat.le_refl _) (Nat.le_refl _) | cases hs
  case h_20 =>
    unfold zast at hs
    repeat' split at hs
    all_goals first | exact zgo_mono hs rfl hup.1 hup.2 | cases hs
  case h_21 =>
    unfold zastq at hs
    repeat' split at hs
    all_goals first | exact zgo_mono hs rfl hup.1 hup.2 | cases hs
  case h_22 =>
    unfold zalen at hs
    repeat' split at hs
    all_goals first | exact zgo_mono hs rfl (Nat.le_refl _) (Nat.le_refl _) | cases hs
  case h_23 => exact zgo_mono hs rfl hnew.1 hnew.2
  case h_24 =>
    unfold znewa at hs
    repeat' split at hs
    all_goals first | exact zgo_mono hs rfl hnew.1 hnew.2 | cases hs
  case h_25 =>
    unfold zcalls at hs
    split at hs <;> cases hs
  case h_27 =>
    unfold zrets at hs
    repeat' split at hs
    all_goals cases hs
  case h_30 =>
    unfold zswt at hs
    split at hs
    all_goals first | exact zgo_mono hs rfl (Nat.le_refl _) (Nat.le_refl _) | cases hs
  case h_32 =>
    unfold znat zcopy at hs
    repeat' split at hs
    all_goals first | exact zgo_mono hs rfl hup.1 hup.2 | exact zgo_mono hs rfl (Nat.le_refl _) (Nat.le_refl _) | exact ⟨Nat.le_refl _, Nat.le_refl _, rfl⟩ | cases hs
  all_goals (repeat' split at hs)
  all_goals first | exact zgo_mono hs rfl (Nat.le_refl _) (Nat.le_refl _) | cases hs
theorem zgo_nr {pc : Nat} {ls : List Slot} {st : List Value} {h : zH} {y : (Nat × List Value × List Value) ⊕ (zO × zH)} (e : zgo pc ls st h = some (.inr y)) : False := by
  unfold zgo at e
  cases e
theorem zstep_inr {P : zProg} {sv : Nat → Value} {I : zI} {pc : Nat} {ls : List Slot} {st : List Value} {h : zH} {y : (Nat × List Value × List Value) ⊕ (zO × zH)} (hs : zstep P sv I pc ls st h = some (.inr y)) :
    (I.1 = 24 ∧ zcalls I.2.1 I.2.2.1 I.2.2.2.1.toNat st h = some (.inr y)) ∨ (I.1 = 26 ∧ zrets I.2.1 st h = some (.inr y)) ∨ (I.1 = 27 ∧ st = [] ∧ y = .inr (.inl none, h)) ∨ (I.1 = 28 ∧ st.length ≤ 4 ∧ y = .inr (.inr I.2.1, znew h (0, []) 6)) := by
  obtain ⟨op, i, j, x, n⟩ := I
  unfold zstep at hs
  split at hs
  case h_5 =>
    unfold zld at hs
    repeat' split at hs
    all_goals first | exact absurd (zgo_nr hs) id | cases hs
  case h_6 =>
    unfold zstore at hs
    repeat' split at hs
    all_goals first | exact absurd (zgo_nr hs) id | cases hs
  case h_7 =>
    unfold ziinc at hs
    repeat' split at hs
    all_goals first | exact absurd (zgo_nr hs) id | cases hs
  case h_11 =>
    unfold zcmp at hs
    repeat' split at hs
    all_goals first | exact absurd (zgo_nr hs) id | cases hs
  case h_12 =>
    unfold zstk at hs
    repeat' split at hs
    all_goals first | exact absurd (zgo_nr hs) id | cases hs
  case h_13 =>
    unfold zif at hs
    repeat' split at hs
    all_goals first | exact absurd (zgo_nr hs) id | cases hs
  case h_14 =>
    unfold zicmp at hs
    repeat' split at hs
    all_goals first | exact absurd (zgo_nr hs) id | cases hs
  case h_15 =>
    unfold zifn at hs
    split at hs
    all_goals first | exact absurd (zgo_nr hs) id | cases hs
  case h_17 =>
    unfold zgetf at hs
    repeat' split at hs
    all_goals first | exact absurd (zgo_nr hs) id | cases hs
  case h_18 =>
    unfold zputf at hs
    repeat' split at hs
    all_goals first | exact absurd (zgo_nr hs) id | cases hs
  case h_19 =>
    unfold zald at hs
    repeat' split at hs
    all_goals first | exact absurd (zgo_nr hs) id | cases hs
  case h_20 =>
    unfold zast at hs
    repeat' split at hs
    all_goals first | exact absurd (zgo_nr hs) id | cases hs
  case h_21 =>
    unfold zastq at hs
    repeat' split at hs
    all_goals first | exact absurd (zgo_nr hs) id | cases hs
  case h_22 =>
    unfold zalen at hs
    repeat' split at hs
    all_goals first | exact absurd (zgo_nr hs) id | cases hs
  case h_23 => exact absurd (zgo_nr hs) id
  case h_24 =>
    unfold znewa at hs
    repeat' split at hs
    all_goals first | exact absurd (zgo_nr hs) id | cases hs
  case h_25 => rename_i e9; exact Or.inl ⟨e9, hs⟩
  case h_27 => rename_i e9; exact Or.inr (Or.inl ⟨e9, hs⟩)
  case h_28 =>
    rename_i e9
    split at hs
    · cases hs; exact Or.inr (Or.inr (Or.inl ⟨e9, rfl, rfl⟩))
    · cases hs
  case h_29 =>
    rename_i e9
    split at hs
    · next hl => cases hs; exact Or.inr (Or.inr (Or.inr ⟨e9, hl, rfl⟩))
    · cases hs
  case h_30 =>
    unfold zswt at hs
    split at hs
    all_goals first | exact absurd (zgo_nr hs) id | cases hs
  case h_32 =>
    unfold znat zcopy at hs
    repeat' split at hs
    all_goals first | exact absurd (zgo_nr hs) id | cases hs
  all_goals (repeat' split at hs)
  all_goals first | exact absurd (zgo_nr hs) id | cases hs
theorem zcalls_spec {i j kd : Nat} {st : List Value} {h : zH} {y : (Nat × List Value × List Value) ⊕ (zO × zH)} (hs : zcalls i j kd st h = some (.inr y)) : j ≤ st.length ∧ zfew st j = true ∧ zrecv kd (st.take j).reverse h = true ∧ y = .inl (i, (st.take j).reverse, st.drop j) := by
  unfold zcalls at hs
  split at hs
  · next hc => cases hs; exact ⟨hc.1, hc.2.1, hc.2.2, rfl⟩
  · cases hs
theorem zrets_spec {t : Nat} {st : List Value} {h : zH} {y : (Nat × List Value × List Value) ⊕ (zO × zH)} (hs : zrets t st h = some (.inr y)) : ∃ v, st = [v] ∧ zty t v = true ∧ y = .inr (.inl (some v), h) := by
  unfold zrets at hs
  split at hs
  · next v =>
    split at hs
    · next ht => cases hs; exact ⟨v, rfl, ht, rfl⟩
    · cases hs
  · cases hs
theorem zcatch_spec {P : zProg} {k pc E : Nat} {ls : List Slot} {h : zH} {r : zO × zH} (hs : zcatch P k pc E ls h = some r) : r.2 = h := by
  unfold zcatch at hs
  split at hs
  · cases hs; rfl
  · split at hs
    · split at hs
      · cases hs; rfl
      · cases hs
    · cases hs
theorem zrun_mono {P : zProg} {sv : Nat → Value} {C : zCall} {k : Nat} (hC : ∀ k vs h r, C k vs h = some r → h.2.1 ≤ r.2.2.1 ∧ h.2.2 ≤ r.2.2.2) : ∀ (pc : Nat) (ls : List Slot) (st : List Value) (h : zH) (r : zO × zH), zrun P sv C k pc ls st h = some r → h.2.1 ≤ r.2.2.1 ∧ h.2.2 ≤ r.2.2.2 := by
  apply zrun.partial_correctness
  intro f ih pc ls st h r hs
  split at hs
  · next q hq =>
    obtain ⟨pc', ls', st', h'⟩ := q
    obtain ⟨m1, m2, -⟩ := zstep_mono hq
    obtain ⟨m3, m4⟩ := ih _ _ _ _ _ hs
    exact ⟨Nat.le_trans m1 m3, Nat.le_trans m2 m4⟩
  · next q hq =>
    split at hs
    · next v h' hc =>
      obtain ⟨m1, m2⟩ := hC _ _ _ _ hc
      obtain ⟨m3, m4⟩ := ih _ _ _ _ _ hs
      exact ⟨Nat.le_trans m1 m3, Nat.le_trans m2 m4⟩
    · next E h' hc =>
      obtain ⟨m1, m2⟩ := hC _ _ _ _ hc
      rw [zcatch_spec hs]
      exact ⟨m1, m2⟩
    · cases hs
  · next q hq =>
    cases hs
    rcases zstep_inr hq with ⟨-, h1⟩ | ⟨-, h1⟩ | ⟨-, -, h1⟩ | ⟨-, -, h1⟩
    · have := (zcalls_spec h1).2.2.2
      cases this
    · obtain ⟨v, -, -, h2⟩ := zrets_spec h1
      cases h2
      exact ⟨Nat.le_refl _, Nat.le_refl _⟩
    · cases h1
      exact ⟨Nat.le_refl _, Nat.le_refl _⟩
    · cases h1
      exact ⟨Nat.le_succ _, Nat.le_add_right _ _⟩
  · cases hs
theorem zcall_mono {P : zProg} {sv : Nat → Value} : ∀ (d k : Nat) (vs : List Value) (h : zH) (r : zO × zH), zcall P sv d k vs h = some r → h.2.1 ≤ r.2.2.1 ∧ h.2.2 ≤ r.2.2.2 := by
  intro d
  induction d with
  | zero => intro k vs h r hs; cases hs
  | succ d ih =>
    intro k vs h r hs
    unfold zcall at hs
    split at hs
    · exact zrun_mono ih _ _ _ _ _ hs
    · cases hs

theorem zstep_op {P : zProg} {sv : Nat → Value} {I : zI} {pc : Nat} {ls : List Slot} {st : List Value} {h : zH} (hn : 31 < I.1) : zstep P sv I pc ls st h = none := by
  obtain ⟨op, i, j, x, n⟩ := I
  unfold zstep
  split <;> first | rfl | (rename_i e9; simp only at e9 hn; omega)
theorem zstep_inl27 {P : zProg} {sv : Nat → Value} {i j n : Nat} {x : Int} {pc : Nat} {ls : List Slot} {st : List Value} {h : zH} {q : Nat × List Slot × List Value × zH} (hs : zstep P sv (27, i, j, x, n) pc ls st h = some (.inl q)) : False := by
  cases st with
  | nil =>
    have h9 : (some (.inr (.inr (.inl none, h))) : zS) = some (.inl q) := hs
    cases h9
  | cons a b =>
    have h9 : (none : zS) = some (.inl q) := hs
    cases h9
theorem zlk_go {P : zProg} {L : zL} {zW : List Jvm.Cond} {cl : List vw_C} {G : zG} {ss : Nat → String × String × String} {k pc : Nat} {sv : Nat → Value} {ls : List Slot} {st : List Value} {h : zH} {q : Nat × List Slot × List Value × zH} (hlk : zlk P L zW cl G ss k pc) (hs : zstep P sv (P.1 k pc) pc ls st h = some (.inl q)) : zlkI P zW cl ss (L.1 k).cls (L.1 k).name (L.2.1 k) pc (P.1 k pc) := by
  unfold zlk at hlk
  split at hlk
  · next i j x n e9 =>
    rw [e9] at hs
    replace hs : zcalls i j x.toNat st h = some (.inl q) := hs
    unfold zcalls at hs
    split at hs <;> cases hs
  · next t j x n e9 =>
    rw [e9] at hs
    replace hs : zrets t st h = some (.inl q) := hs
    unfold zrets at hs
    repeat' split at hs
    all_goals cases hs
  · next i j x n e9 =>
    rw [e9] at hs
    rcases zstep_inl27 hs
  · next i j x n e9 =>
    rw [e9] at hs
    replace hs : ((if st.length ≤ 4 then some (.inr (.inr (.inr i, znew h (0, []) 6))) else none) : zS) = some (.inl q) := hs
    split at hs <;> cases hs
  · exact hlk
theorem zcatch_find {L : zL} {zW : List Jvm.Cond} {G : zG} {own : String} {cc : ByteArray} {pc E : Nat} {q : Nat × Nat × Nat × Nat × Int} : ∀ (hs : List (Nat × Nat × Nat × Nat × Int)) (ts : List (Nat × Nat × Nat × Nat)), zlkH L zW G own cc hs ts → hs.find? (fun q => decide (q.1 ≤ pc) && decide (pc < q.2.1) && decide (q.2.2.1 = E)) = some q →
    ∃ (pre : List ExceptionTableEntry) (x : ExceptionTableEntry) (suf : List ExceptionTableEntry), tableOf ts = pre ++ x :: suf ∧ (∀ z ∈ pre, covers z pc = false ∨ (z.catchType ≠ 0 ∧ ∃ nm : String, Cond.classLink own z.catchType nm ∈ zW ∧ va_Nc (L.2.2.2.2.1 E) nm G.2.2)) ∧
      covers x pc = true ∧ x.catchType ≠ 0 ∧ Cond.classLink own x.catchType (L.2.2.2.2.1 E) ∈ zW ∧ Cond.castable (L.2.2.2.2.1 E) (L.2.2.2.2.1 E) ∈ zW ∧ zlkHand cc x.handlerPc q.2.2.2.1 q.2.2.2.2 ∧ q ∈ hs ∧ q.2.2.1 = E := by
  intro hs
  induction hs with
  | nil => intro ts _ hf; cases hf
  | cons a hs ih =>
    intro ts hlk hf
    obtain ⟨a1, b1, n1, i1, r1⟩ := a
    cases ts with
    | nil => cases hlk
    | cons t ts =>
      obtain ⟨a2, b2, hp, ct⟩ := t
      obtain ⟨rfl, rfl, hct, hcl, hcast, hhand, hnc, hrest⟩ := hlk
      by_cases hp9 : (decide (a1 ≤ pc) && decide (pc < b1) && decide (n1 = E)) = true
      · rw [List.find?_cons_of_pos (by simpa using hp9)] at hf
        cases hf
        simp only [Bool.and_eq_true, decide_eq_true_eq] at hp9
        obtain ⟨⟨h1, h2⟩, rfl⟩ := hp9
        exact ⟨[], ⟨a1, b1, hp, ct⟩, tableOf ts, rfl, (fun z hz => by cases hz), (by simp [covers, h1, h2]), hct, hcl, hcast, hhand, List.mem_cons_self, rfl⟩
      · rw [List.find?_cons_of_neg (by simpa using hp9)] at hf
        obtain ⟨pre, x, suf, e1, e2, e3, e4, e5, e6, e7, e8, e9⟩ := ih ts hrest hf
        refine ⟨⟨a1, b1, hp, ct⟩ :: pre, x, suf, by show _ :: tableOf ts = _; rw [e1]; rfl, ?_, e3, e4, e5, e6, e7, List.mem_cons_of_mem _ e8, e9⟩
        intro z hz
        rcases List.mem_cons.mp hz with rfl | hz
        · have h3 := hnc q e8
          rw [e9] at h3
          exact Or.inr ⟨hct, _, hcl, h3⟩
        · exact e2 z hz

section ZSND
variable {p : Program} {l : Launch} {e : Env} {R : Room} {s : State} {m : MethodId} {args : Array Value} {below : List Frame} {meth : Method} {c : Code} {H : Heap} {locs : List Loc} {cells slots : Nat} {Q : State → Prop}
variable {cl : List vw_C} {G : zG} {L : zL} {P : zProg} {zW : List Jvm.Cond} {ss : Nat → String × String × String} {sv : Nat → Value}
theorem zs_ret {own nm : String} {nL : Nat} {k pc t : Nat} {ls : Array Slot} {v : Value} {h : zH} (X : zcx p s m args meth c R P zW cl G ss sv own nm (L.2.1 k) nL) (hret : meth.sig.returnType = L.2.2.1 k) (hlocks : meth.locks = false) (hr : zrel cl G h H) (hL : ∀ z ∈ locs, G.2.2.heap.size ≤ z.base)
    (hlk : zlkR L (L.2.1 k) pc k t) (hv : zty t v = true) (hc : cells ≤ R.cells) (hs : slots ≤ R.slots) :
    W p l e R s m args below meth c H locs cells slots (vx_MQ below (zQc cl G (.inl (some v), h)) (zXC cl G L (.inl (some v), h)) args s R.cells R.slots (fun q => G.2.2.heap.size ≤ q)) (F0 m pc ls [v]) := by
  obtain ⟨hx, hb, hts, hown, hnm, hK, hsv, hR1, hR2, hml⟩ := X
  refine W.widen hc hs (vx_ret ?_)
  have hq : ∀ t : State, t.heap = H → s.WarmedH t.vm → zQc cl G (.inl (some v), h) args s (.returned (some v)) t := fun t ht hW => ⟨_, rfl, rfl, by rw [ht]; exact hr⟩
  rcases hlk with ⟨rfl, hd, hrt⟩ | ⟨rfl, hd, hrt⟩ | ⟨rfl, hd, hrt⟩ | ⟨rfl, hd, hrt⟩ | ⟨rfl, hd, hrt⟩ | ⟨rfl, hd, hrt⟩ | ⟨rfl, hd, rt, hrt, hrt2⟩
  · obtain ⟨y, rfl⟩ := zty_int hv
    exact W.iret hx hb (hret.trans hrt) hq hL hd
  · have hn := (zt_fits hv (Or.inr (Or.inr (Or.inr (Or.inr (Or.inl ⟨rfl, rfl⟩)))))).1
    cases v <;> first | exact W.zret hx hb (hret.trans hrt) hn hq hL hd | cases hv
  · have hn := (zt_fits hv (Or.inr (Or.inr (Or.inr (Or.inr (Or.inr (Or.inr ⟨rfl, rfl⟩))))))).1
    cases v <;> first | exact W.zret hx hb (hret.trans hrt) hn hq hL hd | cases hv
  · obtain ⟨y, rfl⟩ := zty_long hv
    exact W.lret hx hb (hret.trans hrt) hq hL hd
  · obtain ⟨y, rfl⟩ := zty_float hv
    exact W.fret hx hb (hret.trans hrt) hq hL hd
  · obtain ⟨y, rfl⟩ := zty_double hv
    exact W.dret hx hb (hret.trans hrt) hq hL hd
  · exact W.aret hx hb (hret.trans hrt) hrt2 (zty_ref hv) hq hL hd
theorem zs_catch {k pc E : Nat} {nL : Nat} {ls : List Slot} {rest : List Value} {h : zH} {r : zO × zH} {q : Addr} {ce : Cell} (X : zcx p s m args meth c R P zW cl G ss sv (L.1 k).cls (L.1 k).name (L.2.1 k) nL) (hret : meth.sig.returnType = L.2.2.1 k) (hlocks : meth.locks = false) (htab : c.exceptionTable.toList = tableOf (L.2.2.2.1 k))
    (hlk : zlkH L zW G (L.1 k).cls (L.2.1 k) (P.2.2.1 k) (L.2.2.2.1 k)) (hrt : L.2.2.2.1 k ≠ [] → L.2.2.1 k = some .int) (hr : zrel cl G h H) (hL : ∀ z ∈ locs, G.2.2.heap.size ≤ z.base)
    (hs : zcatch P k pc E ls h = some r) (hce : H[q]? = some ce) (hcv : ce.vm = .none) (hcl : s.vm.findClass (L.2.2.2.2.1 E) = some ce.cls) (hc : cells ≤ R.cells) (hsl : slots ≤ R.slots) :
    vx_W p l e R s m args below meth c H locs cells slots (vx_MQ below (zQc cl G r) (zXC cl G L r) args s R.cells R.slots (fun q => G.2.2.heap.size ≤ q)) (F0 m pc ls.toArray rest) q := by
  have X0 := X
  obtain ⟨hx, hb, hts, hown, hnm, hK, hsv, hR1, hR2, hml⟩ := X
  unfold zcatch at hs
  split at hs
  · next hP =>
    cases hs
    have ht0 : L.2.2.2.1 k = [] := by
      cases h9 : L.2.2.2.1 k with
      | nil => rfl
      | cons a b => rw [hP, h9] at hlk; cases hlk
    rw [ht0] at htab
    exact vx_out (fun x hx9 => by rw [htab] at hx9; cases hx9) hlocks hce hcv hcl (fun t ht hW => ⟨E, rfl, rfl, by rw [ht]; exact hr⟩) hL hc hsl
  · split at hs
    · next q9 hq9 =>
      split at hs
      · next hun =>
        cases hs
        obtain ⟨pre, x, suf, e1, e2, e3, e4, e5, e6, ⟨v, hv, hhand⟩, e8, e9⟩ := zcatch_find _ _ hlk hq9
        have hne : L.2.2.2.1 k ≠ [] := by
          intro h9
          rw [h9] at e1
          have := congrArg List.length e1
          simp [tableOf] at this
        have hri := hrt hne
        refine vx_catch hown pre x suf (htab.trans e1) (fun z hz => ?_) e3 e4 (hts _ e5) (hts _ e6) hce hcv hcl ?_
        · rcases e2 z hz with h1 | ⟨h1, nm9, h2, h3⟩
          · exact Or.inl h1
          · exact Or.inr ⟨h1, nm9, hts _ h2, h3.moved hK.2.2.alike⟩
        · have hst : storeLocals ls.toArray q9.2.2.2.1 (.ref q) = some (ls.toArray.setIfInBounds q9.2.2.2.1 (.val (.ref q))) := storeLocals_cat1 (x := .unset) (by simpa using hun) rfl trivial
          have hend : ∀ (pc9 : Nat) (ls9 : Array Slot), decode (L.2.1 k) pc9 = .ok (.ireturn, 1) → W p l e R s m args below meth c H locs cells slots (vx_MQ below (zQc cl G (.inl (some (.int (Int32.ofInt q9.2.2.2.2))), h)) (zXC cl G L (.inl (some (.int (Int32.ofInt q9.2.2.2.2))), h)) args s R.cells R.slots (fun q => G.2.2.heap.size ≤ q)) (F0 m pc9 ls9 [.int (Int32.ofInt q9.2.2.2.2)]) :=
            fun pc9 ls9 hd9 => zs_ret X0 hret hlocks hr hL (t := 0) (Or.inl ⟨rfl, hd9, hri⟩) rfl hc hsl
          rcases hhand with ⟨q4, hq4, d1, d2, d3⟩ | ⟨d1, d2, d3⟩
          · exact zw_astore_n hx hb rfl d1 hq4 hst (lv_iconst hx hb d2 hv (hend _ _ d3))
          · exact zw_astore hx hb rfl d1 hst (lv_iconst hx hb d2 hv (hend _ _ d3))
      · cases hs
    · cases hs
theorem zs_throw {k pc E : Nat} {nL : Nat} {ls : List Slot} {st : List Value} {h h0 : zH} (hl : l.stackTraces = false) (F : zfacts L zW G ss sv) (X : zcx p s m args meth c R P zW cl G ss sv (L.1 k).cls (L.1 k).name (L.2.1 k) nL) (hnl : ls.length = nL) (hlocks : meth.locks = false) (htab : c.exceptionTable.toList = tableOf (L.2.2.2.1 k)) (h0t : L.2.2.2.1 k = [])
    (hlk : zlkX L zW G (L.1 k).cls (L.2.1 k) pc E) (hr0 : zrel cl G h0 s.heap) (hmono : h0.2.1 ≤ h.2.1) (hr : zrel cl G h H) (hL : ∀ z ∈ locs, G.2.2.heap.size ≤ z.base) (hst : st.length ≤ 4) (hRf : 11 ≤ R.frames) (hRl : 300 ≤ R.locals) (hc : cells + 1 ≤ R.cells) (hsl : slots + 6 ≤ R.slots) :
    W p l e R s m args below meth c H locs cells slots (vx_MQ below (zQc cl G (.inr E, znew h (0, []) 6)) (zXC cl G L (.inr E, znew h (0, []) 6)) args s R.cells R.slots (fun q => G.2.2.heap.size ≤ q)) (F0 m pc ls.toArray st) := by
  obtain ⟨hx, hb, hts, hown, hnm, hK, hsv, hR1, hR2, hml⟩ := X
  obtain ⟨ik, is, ic, ix, rx, text, Y0, names, ⟨x0, x1, x2, x5, hY0⟩, f1, f2, f3, w1, w2, w3, ⟨sa, hsa⟩, d0, d3, hdd⟩ := hlk
  have hU := F.2.2.1
  have hN := F.2.2.2
  rw [h0t] at htab
  have hout : ∀ (q : Nat) (x : ExceptionTableEntry), x ∈ c.exceptionTable.toList → covers x q = false := fun q x hx9 => by rw [htab] at hx9; cases hx9
  have hkept : ∀ q : Nat, q < G.2.2.heap.size → ¬ (G.2.2.heap.size ≤ q) → s.heap[q]? = G.2.2.heap[q]? := fun q h1 _ => hr0.2.2.1 q h1
  have hU' : vx_Zq Bundle.tN "UNASSIGNED_STACK" Bundle.steD (fun q => G.2.2.heap.size ≤ q) s s.heap := vx_Zq.moved hK.2.2.alike (hU.kept (fun q h1 h2 => hkept q h1 h2))
  have hN' : vx_Zq Bundle.tN "SUPPRESSED_SENTINEL" Bundle.listD (fun q => G.2.2.heap.size ≤ q) s s.heap := vx_Zq.moved hK.2.2.alike (hN.kept (fun q h1 h2 => hkept q h1 h2))
  have hS : va_S (fun q => G.2.2.heap.size ≤ q) s.heap H locs := ⟨by rw [hr0.1, hr.1]; exact hmono, fun q h1 h2 => by rw [hr.2.2.1 q (by omega), hr0.2.2.1 q (by omega)], hL⟩
  have hsum := zcat_sum (st := st)
  have hgood : ∀ w ∈ Cond.classLink (L.1 k).cls ik (L.2.2.2.2.1 E) :: Cond.initialized (L.2.2.2.2.1 E) :: zxS (L.1 k).cls ic (L.2.2.2.2.1 E) ix rx Y0 names, vx_ot w = true := by
    intro w hw
    rcases List.mem_cons.mp hw with rfl | hw
    · rfl
    · rcases List.mem_cons.mp hw with rfl | hw
      · rfl
      · exact (w3 w hw).2
  have hxx : ∀ t : State, s.WarmedH t.vm → t.heap.size = H.size + 1 → (∀ q : Nat, q < H.size → t.heap[q]? = H[q]?) → zXC cl G L (.inr E, znew h (0, []) 6) (L.2.2.2.2.1 E) s t :=
    fun t hW hz ho => ⟨E, rfl, rfl, hr.new hz ho (zat.zero rfl)⟩
  rcases hdd with ⟨d4, d6, d9⟩ | ⟨d4, d7, d10⟩
  · exact zx_throwS (A := fun q => G.2.2.heap.size ≤ q) hx hb hl x0 x1 x2 x5 hY0 hown f1 f2 (hts _ w1) (hts _ w2) (vk_R.warm hK.2.2 hsa) (fun w hw => hts _ (w3 w hw).1) hgood hU' hN' hS (by rw [hml]; simpa using hnl) d0 d3 d4 d6 d9 (hout _) (by omega) (by omega) hc hsl hlocks hxx hL hc hsl
  · exact zx_throwSW (A := fun q => G.2.2.heap.size ≤ q) hx hb hl x0 x1 x2 x5 hY0 hown f1 f2 (hts _ w1) (hts _ w2) (vk_R.warm hK.2.2 hsa) (fun w hw => hts _ (w3 w hw).1) hgood hU' hN' hS (by rw [hml]; simpa using hnl) d0 d3 d4 d7 d10 (hout _) (by omega) (by omega) hc hsl hlocks hxx hL hc hsl
end ZSND

section ZALL
variable {p : Program} {l : Launch} {e : Env} {R : Room} {s : State} {m : MethodId} {args : Array Value} {below : List Frame} {meth : Method} {c : Code}
variable {cl : List vw_C} {G : zG} {L : zL} {P : zProg} {zW : List Jvm.Cond} {ss : Nat → String × String × String} {sv : Nat → Value}
set_option maxHeartbeats 4000000 in
theorem zs_run {k d : Nat} {h0 : zH} (hl : l.stackTraces = false) (F : zfacts L zW G ss sv) (hmk : zmok P L zW cl G ss k) (X : zcx p s m args meth c R P zW cl G ss sv (L.1 k).cls (L.1 k).name (L.2.1 k) (P.2.1 k)) (hr0 : zrel cl G h0 s.heap) (hret : meth.sig.returnType = L.2.2.1 k) (hlocks : meth.locks = false) (htab : c.exceptionTable.toList = tableOf (L.2.2.2.1 k))
    (hRf : 10 + (d + 1) ≤ R.frames) (hRl : 200 + 100 * (d + 1) ≤ R.locals) (hM : ∀ k', k' < L.2.2.2.2.2 → P.2.1 k' ≤ 80) (hC : ∀ k' vs h r, k' < L.2.2.2.2.2 → zcall P sv d k' vs h = some r → zMet P L cl G l d k' vs h r) :
    ∀ (pc : Nat) (ls : List Slot) (st : List Value) (h : zH) (r : zO × zH), zrun P sv (zcall P sv d) k pc ls st h = some r →
      (h.2.1 ≤ r.2.2.1 ∧ h.2.2 ≤ r.2.2.2) ∧ ∀ (H : Heap) (locs : List Loc) (cells slots : Nat), zrel cl G h H → (∀ z ∈ locs, G.2.2.heap.size ≤ z.base) → ls.length = P.2.1 k → h0.2.1 ≤ h.2.1 → cells + (r.2.2.1 - h.2.1) ≤ R.cells → slots + (r.2.2.2 - h.2.2) ≤ R.slots →
        W p l e R s m args below meth c H locs cells slots (vx_MQ below (zQc cl G r) (zXC cl G L r) args s R.cells R.slots (fun q => G.2.2.heap.size ≤ q)) (F0 m pc ls.toArray st) := by
  apply zrun.partial_correctness
  intro f ih pc ls st h r hs
  split at hs
  · -- a plain step
    next q hq =>
    obtain ⟨pc', ls', st', h'⟩ := q
    obtain ⟨m1, m2, m3⟩ := zstep_mono hq
    obtain ⟨⟨n1, n2⟩, ihW⟩ := ih _ _ _ _ _ hs
    replace n1 : h'.2.1 ≤ r.2.2.1 := n1
    replace n2 : h'.2.2 ≤ r.2.2.2 := n2
    refine ⟨⟨Nat.le_trans m1 n1, Nat.le_trans m2 n2⟩, fun H locs cells slots hr hL hnl hm0 hcells hslots => ?_⟩
    have hop : (P.1 k pc).1 ≤ 31 := by
      rcases Nat.lt_or_ge 31 (P.1 k pc).1 with h9 | h9
      · rw [zstep_op h9] at hq; cases hq
      · exact h9
    have hlk := zlk_go (hmk.2.2.2.2 pc hop) hq
    rw [← hnl] at X
    refine zs_go X hr hL hlk hq (by omega) (by omega) (fun H1 locs1 hr1 hL1 => ?_)
    exact ihW H1 locs1 _ _ hr1 hL1 (m3.trans hnl) (by show h0.2.1 ≤ h'.2.1; omega) (by show cells + (h'.2.1 - h.2.1) + (r.2.2.1 - h'.2.1) ≤ _; omega) (by show slots + (h'.2.2 - h.2.2) + (r.2.2.2 - h'.2.2) ≤ _; omega)
  · -- a call
    next q hq =>
    rcases zstep_inr hq with ⟨e9, h1⟩ | ⟨-, h1⟩ | ⟨-, -, h1⟩ | ⟨-, -, h1⟩
    · obtain ⟨hj, hj4, hrv, hy⟩ := zcalls_spec h1
      have hlk := hmk.2.2.2.2 pc (by omega)
      have hI : P.1 k pc = (24, (P.1 k pc).2.1, (P.1 k pc).2.2.1, (P.1 k pc).2.2.2.1, (P.1 k pc).2.2.2.2) := by rw [← e9]
      generalize (P.1 k pc).2.1 = k' at *
      generalize (P.1 k pc).2.2.1 = j at *
      generalize (P.1 k pc).2.2.2.1 = x at *
      generalize (P.1 k pc).2.2.2.2 = n at *
      unfold zlk at hlk
      rw [hI] at hlk
      replace hlk : zlkC P L zW cl (L.1 k).cls (L.2.1 k) pc k' j x.toNat := hlk
      cases hy
      dsimp only at hs
      have hvl : (st.take j).reverse.length = j := by simp [hj]
      have hrl : ((st.drop j).map fun v => v.category).sum ≤ 8 := by
        unfold zfew at hj4
        rw [Bool.or_eq_true] at hj4
        rcases hj4 with h9 | h9
        · have h8 := Nat.le_of_ble_eq_true h9
          have h7 := zcat_sum (st := st.drop j)
          rw [List.length_drop] at h7
          omega
        · exact Nat.le_of_ble_eq_true h9
      have hst : st = (st.take j).reverse.reverse ++ st.drop j := by simp
      generalize hvs : (st.take j).reverse = vs at *
      generalize hrest : st.drop j = rest at *
      -- what the callee answers
      cases hcall : zcall P sv d k' vs h with
      | none => rw [hcall] at hs; cases hs
      | some rc =>
        rw [hcall] at hs
        have hmono := zcall_mono d k' vs h rc hcall
        have hMc := hC k' vs h rc hlk.1 hcall
        obtain ⟨oc, hc'⟩ := rc
        have hmono1 : h.2.1 ≤ hc'.2.1 := hmono.1
        have hmono2 : h.2.2 ≤ hc'.2.2 := hmono.2
        have hm80 := hM k' hlk.1
        have key : ∀ (H : Heap) (locs : List Loc) (cells slots : Nat), zrel cl G h H → (∀ z ∈ locs, G.2.2.heap.size ≤ z.base) → ls.length = P.2.1 k → cells + (hc'.2.1 - h.2.1) ≤ R.cells → slots + (hc'.2.2 - h.2.2) ≤ R.slots →
            vx_Run p l e R s m args below meth c H locs cells slots (hc'.2.1 - h.2.1) (hc'.2.2 - h.2.2) (F0 m pc ls.toArray (vs.reverse ++ rest)) rest (zQc cl G (oc, hc') vs.toArray) (zXC cl G L (oc, hc')) (fun q => G.2.2.heap.size ≤ q) :=
          fun H locs cells slots hr hL hnl hcells hslots => zs_vrun X.1 X.2.1 X.2.2.1 X.2.2.2.1 X.2.2.2.2.2.1 (by rw [X.2.2.2.2.2.2.2.2.2]; simpa using hnl.symm) hr hlk hvl hrl hrv hMc (by omega) (by omega) hcells hslots
        cases oc with
        | inl v =>
          replace hs : f (pc + 3) ls (v.toList ++ rest) hc' = some r := hs
          obtain ⟨⟨n1, n2⟩, ihW⟩ := ih _ _ _ _ _ hs
          refine ⟨⟨Nat.le_trans hmono1 n1, Nat.le_trans hmono2 n2⟩, fun H locs cells slots hr hL hnl hm0 hcells hslots => ?_⟩
          rw [hst]
          refine zw_call hL (key H locs cells slots hr hL hnl (by omega) (by omega)) (fun v' hv' H1 locs1 hr1 hL1 => ?_) (fun n' hn' => by cases hn')
          cases hv'
          exact ihW H1 locs1 _ _ hr1 hL1 hnl (by omega) (by omega) (by omega)
        | inr E =>
          replace hs : zcatch P k pc E ls hc' = some r := hs
          have hre := zcatch_spec hs
          refine ⟨⟨by rw [hre]; exact hmono1, by rw [hre]; exact hmono2⟩, fun H locs cells slots hr hL hnl hm0 hcells hslots => ?_⟩
          rw [hre] at hcells hslots
          rw [hst]
          refine zw_call hL (key H locs cells slots hr hL hnl hcells hslots) (fun v' hv' => by cases hv') (fun n' hn' H1 locs1 q9 ce hr1 hL1 hce hcv hcl => ?_)
          cases hn'
          exact zs_catch X hret hlocks htab hmk.2.2.1 hmk.2.2.2.1 hr1 hL1 hs hce hcv hcl hcells hslots
    · obtain ⟨v, -, -, h2⟩ := zrets_spec h1
      cases h2
    · cases h1
    · cases h1
  · -- an end
    next q hq =>
    cases hs
    rcases zstep_inr hq with ⟨-, h1⟩ | ⟨e9, h1⟩ | ⟨e9, rfl, h1⟩ | ⟨e9, hst, h1⟩
    · have := (zcalls_spec h1).2.2.2
      cases this
    · obtain ⟨v, rfl, hv, h2⟩ := zrets_spec h1
      cases h2
      have hlk := hmk.2.2.2.2 pc (by omega)
      have hI : P.1 k pc = (26, (P.1 k pc).2.1, (P.1 k pc).2.2.1, (P.1 k pc).2.2.2.1, (P.1 k pc).2.2.2.2) := by rw [← e9]
      generalize (P.1 k pc).2.1 = t at *
      unfold zlk at hlk
      rw [hI] at hlk
      replace hlk : zlkR L (L.2.1 k) pc k t := hlk
      exact ⟨⟨Nat.le_refl _, Nat.le_refl _⟩, fun H locs cells slots hr hL hnl hm0 hcells hslots => zs_ret X hret hlocks hr hL hlk hv (by omega) (by omega)⟩
    · cases h1
      have hlk := hmk.2.2.2.2 pc (by omega)
      have hI : P.1 k pc = (27, (P.1 k pc).2.1, (P.1 k pc).2.2.1, (P.1 k pc).2.2.2.1, (P.1 k pc).2.2.2.2) := by rw [← e9]
      unfold zlk at hlk
      rw [hI] at hlk
      replace hlk : decode (L.2.1 k) pc = .ok (.return_, 1) ∧ L.2.2.1 k = none := hlk
      exact ⟨⟨Nat.le_refl _, Nat.le_refl _⟩, fun H locs cells slots hr hL hnl hm0 hcells hslots => W.widen (by omega) (by omega) (vx_ret (W.vret X.1 X.2.1 (hret.trans hlk.2) (fun t ht hW => ⟨_, rfl, rfl, by rw [ht]; exact hr⟩) hL hlk.1))⟩
    · cases h1
      have hlk := hmk.2.2.2.2 pc (by omega)
      have hI : P.1 k pc = (28, (P.1 k pc).2.1, (P.1 k pc).2.2.1, (P.1 k pc).2.2.2.1, (P.1 k pc).2.2.2.2) := by rw [← e9]
      generalize (P.1 k pc).2.1 = E at *
      unfold zlk at hlk
      rw [hI] at hlk
      replace hlk : zlkX L zW G (L.1 k).cls (L.2.1 k) pc E ∧ L.2.2.2.1 k = [] := hlk
      refine ⟨⟨Nat.le_succ _, Nat.le_add_right _ _⟩, fun H locs cells slots hr hL hnl hm0 hcells hslots => ?_⟩
      have e1 : (znew h (0, []) 6).2.1 - h.2.1 = 1 := by simp [znew]
      have e2 : (znew h (0, []) 6).2.2 - h.2.2 = 6 := by simp [znew]
      exact zs_throw hl F X hnl hlocks htab hlk.2 hlk.1 hr0 hm0 hr hL hst (by omega) (by omega) (by rw [← e1]; exact hcells) (by rw [← e2]; exact hslots)
  · cases hs
theorem zs_met (hl : l.stackTraces = false) (F : zfacts L zW G ss sv) (hMM : ∀ k, k < L.2.2.2.2.2 → zmok P L zW cl G ss k) : ∀ (d k : Nat) (vs : List Value) (h : zH) (r : zO × zH), k < L.2.2.2.2.2 → zcall P sv d k vs h = some r → zMet P L cl G l d k vs h r := by
  intro d
  induction d with
  | zero => intro k vs h r _ hs; cases hs
  | succ d ih =>
    intro k vs h r hk hs
    unfold zcall at hs
    split at hs
    · next hlen =>
      have hmk := hMM k hk
      have body : ∀ (p : Program) (e : Env) (s : State) (m : MethodId) (args : Array Value) (below : List Frame) (meth : Method) (c : Code), p.tables.exec = Jvm.exec → c.code = L.2.1 k → s.vm.findClass (L.1 k).cls = some m.cls → meth.name = (L.1 k).name → meth.sig.returnType = L.2.2.1 k → meth.locks = false → c.maxLocals = P.2.1 k → c.exceptionTable.toList = tableOf (L.2.2.2.1 k) → zPc cl G vs h args s →
          W p l e (zrm (d + 1) (r.2.2.1 - h.2.1) (r.2.2.2 - h.2.2)) s m args below meth c s.heap [] 0 0 (vx_MQ below (zQc cl G r) (zXC cl G L r) args s (r.2.2.1 - h.2.1) (r.2.2.2 - h.2.2) (fun q => G.2.2.heap.size ≤ q)) (entryFrame m args (P.2.1 k)) := by
        intro p e s m args below meth c hx hb hown hnm hret hlocks hml htab hPc
        obtain ⟨rfl, hK, hr⟩ := hPc
        rw [lg_entry_eq]
        have hnl : (zent vs (P.2.1 k)).length = P.2.1 k := by simp [zent]; omega
        have hts : ∀ w ∈ zW, w.before vs.toArray s = true := fun w hw => by
          obtain ⟨⟨A, hA⟩, hg⟩ := F.1 w hw
          exact zgw_at hK.2.2 hg hA
        have X : zcx p s m vs.toArray meth c (zrm (d + 1) (r.2.2.1 - h.2.1) (r.2.2.2 - h.2.2)) P zW cl G ss sv (L.1 k).cls (L.1 k).name (L.2.1 k) (P.2.1 k) :=
          ⟨hx, hb, hts, hown, hnm, hK, F.2.1, by show 1 ≤ 10 + (d + 1); omega, by show 100 ≤ 200 + 100 * (d + 1); omega, hml⟩
        exact (zs_run hl F hmk X hr hret hlocks htab (Nat.le_refl _) (Nat.le_refl _) (fun k' hk' => (hMM k' hk').2.1) (fun k' vs h r hk' hs' => ih k' vs h r hk' hs') 0 _ [] h r hs).2 s.heap [] 0 0 hr (fun z hz => by cases hz) hnl (Nat.le_refl _) (by show 0 + _ ≤ _; exact Nat.le_of_eq (Nat.zero_add _)) (by show 0 + _ ≤ _; exact Nat.le_of_eq (Nat.zero_add _))
      unfold zMet
      by_cases ht : L.2.2.2.1 k = []
      · refine vx_ofW (cc := L.2.1 k) (maxL := P.2.1 k) (ret := L.2.2.1 k) (ws' := []) hmk.1 (zcw_code ht) ?_
        intro p e s m args below meth c s₁ B hml hte hPc
        refine body p e s m args below meth c B.exec B.bytes (findClass_of_methodNamed B.named) (name_of_methodNamed B.named B.method).1 B.returns B.notSynchronized hml ?_ hPc
        rw [ht]
        cases h9 : c.exceptionTable.toList with
        | nil => rfl
        | cons a b => exact absurd (hte a (by rw [h9]; exact List.mem_cons_self)) id
      · refine vx_ofWH (cc := L.2.1 k) (maxL := P.2.1 k) (ret := L.2.2.1 k) (hh := L.2.2.2.1 k) (ws' := []) hmk.1 (zcw_with ht) ?_
        intro p e s m args below meth c s₁ B hml hPc
        refine body p e s m args below meth c B.exec B.bytes (findClass_of_methodNamed B.named) (name_of_methodNamed B.named B.method).1 B.returns B.notSynchronized hml ?_ hPc
        have hw := atoms_spec (ws := [zcw P L k]) B.pre (zcw P L k) List.mem_cons_self
        unfold zcw at hw
        rw [if_neg ht] at hw
        exact vx_table (x := L.1 k) B hw
    · cases hs
end ZALL

/-! A method's instructions held against its bytes and the tables by one evaluation. -/
/-- (tag, place in the class's pool, a, b, x) -/
abbrev zE : Type := Nat × Nat × Nat × Nat × Int
/-- each method's own class (a number), the classes' names, their entries, the methods' numbers of parameters, whether a constructor -/
abbrev zT : Type := (Nat → Nat) × (Nat → String) × (Nat → List zE) × (Nat → Nat) × (Nat → Bool)
def zmeanC (P : zProg) (L : zL) (zW : List Jvm.Cond) (cl : List vw_C) (own : String) (idx k' md kd : Nat) : Prop :=
  match md with
  | 0 => ∃ ci T N, kd = ci + 1 ∧ ci < 19 ∧ cl[ci]? = some ((L.1 k').cls, T, N) ∧ L.2.2.2.1 k' = [] ∧ Cond.methodLink own idx (L.1 k') ∈ zW ∧ Cond.instanceMethod (L.1 k') ∈ zW ∧ Cond.selects (L.1 k').cls (L.1 k') (L.1 k') ∈ zW
  | 1 => L.2.2.2.1 k' = [] ∧ Cond.methodLink own idx (L.1 k') ∈ zW ∧ Cond.static (L.1 k') ∈ zW
  | 2 => ∃ host, L.2.2.2.1 k' = [] ∧ Cond.methodLinkNest own idx (L.1 k') host ∈ zW ∧ Cond.static (L.1 k') ∈ zW
  | 3 => L.2.2.2.1 k' ≠ [] ∧ Cond.methodLink own idx (L.1 k') ∈ zW ∧ Cond.static (L.1 k') ∈ zW
  | 4 => kd ≠ 0 ∧ L.2.2.2.1 k' = [] ∧ L.2.2.1 k' = none ∧ (L.1 k').name = "<init>" ∧ Cond.methodLink own idx (L.1 k') ∈ zW ∧ Cond.instanceMethod (L.1 k') ∈ zW
  | 5 => ∃ ci C T N, kd = ci + 1 ∧ ci < 19 ∧ cl[ci]? = some (C, T, N) ∧ L.2.2.2.1 k' = [] ∧ (L.1 k').name ≠ "<init>" ∧ Cond.methodLink own idx (L.1 k') ∈ zW ∧ Cond.sameMethod (L.1 k').cls (L.1 k').cls (L.1 k').name (L.1 k').desc ∈ zW ∧ Cond.superclass own (L.1 k').cls ∈ zW ∧ Cond.instanceMethod (L.1 k') ∈ zW
  | 6 => ∃ ci C T N, kd = ci + 1 ∧ ci < 19 ∧ cl[ci]? = some (C, T, N) ∧ L.2.2.2.1 k' = [] ∧ Cond.methodLink own idx (L.1 k') ∈ zW ∧ Cond.sameMethod (L.1 k').cls (L.1 k').cls (L.1 k').name (L.1 k').desc ∈ zW ∧ Cond.selects C (L.1 k') (L.1 k') ∈ zW ∧ Cond.instanceMethod (L.1 k') ∈ zW
  | _ => False
/-- what an entry says -/
def zmean (P : zProg) (L : zL) (zW : List Jvm.Cond) (cl : List vw_C) (G : zG) (ss : Nat → String × String × String) (np : Nat → Nat) (own : String) (e : zE) : Prop :=
  match e with
  | (1, idx, k', md, kd) => (k' < L.2.2.2.2.2 ∧ zcw P L k' ∈ zW ∧ ((L.1 k').cls ≠ "java/lang/invoke/MethodHandle" ∧ (L.1 k').cls ≠ "java/lang/invoke/VarHandle") ∧ Cond.initialized (L.1 k').cls ∈ zW ∧ (parseMethodDescriptor (L.1 k').desc).map (fun d => d.parameters.length) = some (np k')) ∧ zmeanC P L zW cl own idx k' md kd.toNat
  | (3, idx, kd, j, _) => ∃ (ci : Nat) (C : String) (T : u_T) (N : Nat) (ref : String), kd = ci + 1 ∧ cl[ci]? = some (C, T, N) ∧ j < N ∧ zkind P zW C T N ci ∧ Cond.fieldLink own idx ref (T j).2.1 (T j).2.2.1 ∈ zW ∧ zsame zW ref (T j).1 (T j).2.1 (T j).2.2.1
  | (13, idx, kd, j, x) => ∃ (ci : Nat) (C : String) (T : u_T) (N : Nat) (ref : String), kd = ci + 1 ∧ cl[ci]? = some (C, T, N) ∧ j < N ∧ zkind P zW C T N ci ∧ Cond.fieldLink own idx ref (T j).2.1 (T j).2.2.1 ∈ zW ∧ zsame zW ref (T j).1 (T j).2.1 (T j).2.2.1 ∧ (T j).2.2.2 = false ∧ ∃ ty, parseFieldDescriptor (T j).2.2.1 = some ty ∧ ztyF x.toNat ty
  | (14, idx, kd, j, x) => ∃ (ci : Nat) (C : String) (T : u_T) (N : Nat) (ref : String), kd = ci + 1 ∧ cl[ci]? = some (C, T, N) ∧ j < N ∧ zkind P zW C T N ci ∧ Cond.fieldLink own idx ref (T j).2.1 (T j).2.2.1 ∈ zW ∧ zsame zW ref (T j).1 (T j).2.1 (T j).2.2.1 ∧ (T j).1 = own ∧ ∃ ty, parseFieldDescriptor (T j).2.2.1 = some ty ∧ ztyF x.toNat ty
  | (4, idx, kd, _, _) => ∃ (ci : Nat) (C : String) (T : u_T) (N : Nat), kd = ci + 1 ∧ cl[ci]? = some (C, T, N) ∧ zkind P zW C T N ci ∧ Cond.classLink own idx C ∈ zW
  | (5, idx, kd, _, _) => 25 ≤ kd ∧ kd < 27 ∧ ∃ C : String, ztyK kd = .object C ∧ Cond.classLink own idx C ∈ zW ∧ Cond.arrayOver (.object C) ∈ zW
  | (6, idx, _, _, x) => Cond.constant own idx (Int32.ofInt x) ∈ zW
  | (7, idx, _, _, x) => Cond.constantLong own idx (Int64.ofInt x) ∈ zW
  | (8, idx, _, _, _) => Cond.methodLink own idx objectInit ∈ zW ∧ Cond.instanceMethod objectInit ∈ zW ∧ Cond.code objectInit ⟨#[0xb1]⟩ 1 none ∈ zW
  | (9, idx, i, _, _) => i < 4 ∧ ∃ ref : String, Cond.fieldLink own idx ref (ss i).2.1 (ss i).2.2 ∈ zW ∧ zsame zW ref (ss i).1 (ss i).2.1 (ss i).2.2
  | (10, is, ik, ic, x) => ∃ (ix : Nat) (rx : ByteArray) (text Y0 : String) (names : List String), (decode rx 0 = .ok (.aload_n 0, 1) ∧ decode rx 1 = .ok (.aload_n 1, 1) ∧ decode rx 2 = .ok (.invokespecial ix, 3) ∧ decode rx 5 = .ok (.return_, 1) ∧ Bundle.fit Y0 = true) ∧ Bundle.fit (L.2.2.2.2.1 x.toNat) = true ∧ (∀ n ∈ names, Bundle.fit n = true) ∧ names.length ≤ 2 ∧ Cond.classLink own ik (L.2.2.2.2.1 x.toNat) ∈ zW ∧ Cond.initialized (L.2.2.2.2.1 x.toNat) ∈ zW ∧ (∀ w ∈ zxS own ic (L.2.2.2.2.1 x.toNat) ix rx Y0 names, w ∈ zW ∧ vx_ot w = true) ∧ ∃ sa, vk_R own is text sa G.2.2
  | (15, kd, _, _, _) => Cond.arrayClass (newarray.typeOf (match kd with | 20 => .int | 21 => .char | 22 => .long | 23 => .double | _ => .byte)) ∈ zW
  | (16, kd, ko, _, _) => 25 ≤ kd ∧ kd < 27 ∧ ∃ (ci : Nat) (r : vw_C), ko = ci + 1 ∧ ci < 19 ∧ cl[ci]? = some r ∧ ztyK kd = .object r.1
  | (11, idx, o, _, _) => zlkN zW own idx o
  | _ => False
/-- an entry of that tag at that place that says (a, b, x) -/
def zhas (t i a b : Nat) (x : Int) (T : List zE) : Bool := match T with
  | [] => false
  | e :: r => bif Nat.beq e.2.1 i then (bif Nat.beq e.1 t then decide (e = (t, i, a, b, x)) else zhas t i a b x r) else zhas t i a b x r
theorem zhas_mem {t i a b : Nat} {x : Int} {T : List zE} (h : zhas t i a b x T = true) : (t, i, a, b, x) ∈ T := by
  induction T with
  | nil => cases h
  | cons e r ih =>
    unfold zhas at h
    cases h1 : Nat.beq e.2.1 i with
    | false =>
      rw [h1] at h
      exact List.mem_cons_of_mem _ (ih h)
    | true =>
      rw [h1] at h
      cases h2 : Nat.beq e.1 t with
      | false =>
        rw [h2] at h
        exact List.mem_cons_of_mem _ (ih h)
      | true =>
        rw [h2] at h
        have h3 : e = (t, i, a, b, x) := of_decide_eq_true h
        rw [h3]
        exact List.mem_cons_self
def zckN (pc : Nat) (j : Nat) (off : Int) : Bool := decide ((pc : Int) + off = (j : Int))
theorem zckN_ok {pc j : Nat} {off : Int} (h : zckN pc j off = true) : (pc : Int) + off = (j : Int) := of_decide_eq_true h
abbrev zD : Type := Except DecodeError (Instr × Nat)
def zdis (d : zD) (ins : Instr) (n : Nat) : Bool := decide (d = .ok (ins, n))
theorem zdis_ok {d : zD} {ins : Instr} {n : Nat} (h : zdis d ins n = true) : d = .ok (ins, n) := of_decide_eq_true h
def zbinI : Nat → Instr
  | 0 => .iadd | 1 => .isub | 2 => .imul | 3 => .iand | 4 => .ior | 5 => .ixor | 6 => .ishl | 7 => .ishr | 8 => .idiv | 9 => .irem | _ => .iushr
def zlbinI : Nat → Instr
  | 0 => .ladd | 1 => .lsub | 2 => .ldiv | _ => .lrem
def zunI : Nat → Instr
  | 0 => .ineg | 1 => .i2l | 2 => .l2i | 3 => .i2c | 4 => .i2b | 5 => .i2d | 6 => .i2f | 7 => .f2d | _ => .lneg
def zcmpI : Nat → Instr
  | 0 => .lcmp | 1 => .dcmp .l | 2 => .fcmp .l | 3 => .ddiv | _ => .fdiv
def zstkI : Nat → Instr
  | 0 => .dup | 1 => .dup_x1 | 2 => .dup_x2 | 3 => .dup2 | _ => .pop
def zaldI : Nat → Instr
  | 20 => .iaload | 21 => .caload | 22 => .laload | 23 => .daload | 24 => .baload | 25 => .aaload | 26 => .aaload | 27 => .baload | _ => .iaload
def zastI : Nat → Instr
  | 20 => .iastore | 21 => .castore | 22 => .lastore | 23 => .dastore | _ => .bastore
def zatI : Nat → ArrayType
  | 20 => .int | 21 => .char | 22 => .long | 23 => .double | _ => .byte
def zld_n : Nat → Fin 4 → Instr
  | 0, q => .iload_n q | 1, q => .lload_n q | 2, q => .fload_n q | 3, q => .dload_n q | _, q => .aload_n q
def zld_w : Nat → Nat → Instr
  | 0, q => .iload q | 1, q => .lload q | 2, q => .fload q | 3, q => .dload q | _, q => .aload q
def zst_n : Nat → Fin 4 → Instr
  | 0, q => .istore_n q | _, q => .astore_n q
def zst_w : Nat → Nat → Instr
  | 0, q => .istore q | 2, q => .fstore q | 3, q => .dstore q | _, q => .astore q
def zc0 (d : zD) (T : List zE) (x : Int) (n : Nat) : Bool :=
  match d with
  | .ok (.iconst q, 1) => n == 1 && decide (Int32.ofInt q = Int32.ofInt x)
  | .ok (.bipush q, 2) => n == 2 && decide ((Int8.ofInt q).toInt32 = Int32.ofInt x)
  | .ok (.sipush q, 3) => n == 3 && decide ((Int16.ofInt q).toInt32 = Int32.ofInt x)
  | .ok (.ldc q, 2) => n == 2 && zhas 6 q 0 0 x T
  | .ok (.ldc_w q, 3) => n == 3 && zhas 6 q 0 0 x T
  | _ => false
def zc2 (d : zD) (T : List zE) (x : Int) (n : Nat) : Bool :=
  match d with
  | .ok (.lconst q, 1) => n == 1 && decide (Int64.ofNat (q : Nat) = Int64.ofInt x)
  | .ok (.ldc2_w q, 3) => n == 3 && zhas 7 q 0 0 x T
  | _ => false
/-- a load: the short form where the index is below 4, or the long one -/
def zc4 (d : zD) (i t n : Nat) : Bool := decide (t < 5) && ((n == 1 && (if h : i < 4 then zdis d (zld_n t ⟨i, h⟩) 1 else false)) || (n == 2 && zdis d (zld_w t i) 2))
def zc5 (d : zD) (i t n : Nat) : Bool := (decide (t = 0 ∨ t = 4) && n == 1 && (if h : i < 4 then zdis d (zst_n t ⟨i, h⟩) 1 else false)) || (decide (t = 0 ∨ t = 4 ∨ t = 2 ∨ t = 3) && n == 2 && zdis d (zst_w t i) 2)
def zc12 (d : zD) (pc o j : Nat) : Bool :=
  match d with
  | .ok (.ifCond cnd off, 3) => decide (o < 6) && decide (cnd = zcc o) && zckN pc j off
  | _ => false
def zc13 (d : zD) (pc o j : Nat) : Bool :=
  match d with
  | .ok (.if_icmp cnd off, 3) => decide (o < 6) && decide (cnd = zcc o) && zckN pc j off
  | _ => false
def zc14 (d : zD) (pc o j : Nat) : Bool :=
  match d with
  | .ok (.ifnull off, 3) => decide (o = 0) && zckN pc j off
  | .ok (.ifnonnull off, 3) => decide (o = 1) && zckN pc j off
  | _ => false
def zc15 (d : zD) (pc j : Nat) : Bool :=
  match d with
  | .ok (.goto off, 3) => zckN pc j off
  | _ => false
def zc16 (d : zD) (T : List zE) (kd j : Nat) : Bool :=
  match d with
  | .ok (.getfield q, 3) => zhas 3 q kd j 0 T
  | _ => false
def zc17 (d : zD) (ini : Bool) (T : List zE) (kd j : Nat) (x : Int) : Bool :=
  match d with
  | .ok (.putfield q, 3) => zhas 13 q kd j x T || (ini && zhas 14 q kd j x T)
  | _ => false
def zc22 (d : zD) (T : List zE) (kd : Nat) : Bool :=
  match d with
  | .ok (.new q, 3) => zhas 4 q kd 0 0 T
  | _ => false
def zc23 (d : zD) (T : List zE) (kd n : Nat) : Bool :=
  match d with
  | .ok (.newarray a, 2) => n == 2 && decide (20 ≤ kd) && decide (kd < 25) && decide (zatI kd = a) && zhas 15 kd 0 0 0 T
  | .ok (.anewarray q, 3) => n == 3 && zhas 5 q kd 0 0 T
  | _ => false
def zc24 (d : zD) (np : Nat → Nat) (T : List zE) (i j : Nat) (x : Int) : Bool :=
  match d with
  | .ok (.invokevirtual q, 3) => (zhas 1 q i 0 x T || zhas 1 q i 6 x T) && j == np i + 1
  | .ok (.invokestatic q, 3) => (zhas 1 q i 1 x T || zhas 1 q i 2 x T || zhas 1 q i 3 x T) && j == np i
  | .ok (.invokespecial q, 3) => (zhas 1 q i 4 x T || zhas 1 q i 5 x T) && j == np i + 1
  | _ => false
def zc25 (d : zD) (T : List zE) : Bool :=
  match d with
  | .ok (.invokespecial q, 3) => zhas 8 q 0 0 0 T
  | _ => false
def zc26 (d : zD) (ret : Option FieldType) (t : Nat) : Bool :=
  match t, ret with
  | 0, some .int => zdis d .ireturn 1
  | 5, some .boolean => zdis d .ireturn 1
  | 7, some .char => zdis d .ireturn 1
  | 1, some .long => zdis d .lreturn 1
  | 2, some .float => zdis d .freturn 1
  | 3, some .double => zdis d .dreturn 1
  | 4, some (.object _) => zdis d .areturn 1
  | 4, some (.array _) => zdis d .areturn 1
  | _, _ => false
def zc28 (cc : ByteArray) (T : List zE) (pc E : Nat) : Bool :=
  match decode cc pc, decode cc (pc + 3), decode cc (pc + 4) with
  | .ok (.new q, 3), .ok (.dup, 1), .ok (.ldc s, 2) => (match decode cc (pc + 6) with
    | .ok (.invokespecial c, 3) => zhas 10 s q c (E : Int) T && zdis (decode cc (pc + 9)) .athrow 1
    | _ => false)
  | .ok (.new q, 3), .ok (.dup, 1), .ok (.ldc_w s, 3) => (match decode cc (pc + 7) with
    | .ok (.invokespecial c, 3) => zhas 10 s q c (E : Int) T && zdis (decode cc (pc + 10)) .athrow 1
    | _ => false)
  | _, _, _ => false
def zc29 (d : zD) (tab : List (Int × Nat)) (pc j : Nat) : Bool :=
  match d with
  | .ok (.lookupswitch dflt ps, _) => (ps.toList.zip (ps.toList.drop 1)).all (fun (a, next) => a.1 < next.1) && zckN pc j dflt && decide (tab = ps.toList.map (fun q => (q.1, ((pc : Int) + q.2).toNat))) && ps.toList.all (fun q => decide (0 ≤ (pc : Int) + q.2))
  | .ok (.tableswitch dflt lo hi offs, _) => zckN pc j dflt && decide ((offs.size : Int) = hi - lo + 1) && decide (tab = (List.range offs.size).map (fun (q : Nat) => (lo + (q : Int), ((pc : Int) + offs.getD q 0).toNat))) && offs.toList.all (fun q => decide (0 ≤ (pc : Int) + q))
  | _ => false
def zc30 (d : zD) (T : List zE) (i : Nat) : Bool :=
  match d with
  | .ok (.getstatic q, 3) => zhas 9 q i 0 0 T
  | _ => false
def zc31 (d : zD) (T : List zE) (o : Nat) : Bool :=
  match d with
  | .ok (.invokestatic q, 3) => zhas 11 q o 0 0 T
  | _ => false
/-- the instruction's check; sw: the switches' tables, np: parameters, ini: a constructor, cc: the bytes, ret: the return type, h0: no handlers -/
def zck (sw : Nat → List (Int × Nat)) (np : Nat → Nat) (ini : Bool) (cc : ByteArray) (ret : Option FieldType) (h0 : Bool) (T : List zE) (pc : Nat) (I : zI) : Bool :=
  match I with
  | (0, _, _, x, n) => zc0 (decode cc pc) T x n
  | (1, _, _, _, n) => n == 1 && zdis (decode cc pc) .aconst_null 1
  | (2, _, _, x, n) => zc2 (decode cc pc) T x n
  | (3, _, _, _, n) => n == 1 && zdis (decode cc pc) (.fconst 0) 1
  | (4, i, t, _, n) => zc4 (decode cc pc) i t n
  | (5, i, t, _, n) => zc5 (decode cc pc) i t n
  | (6, i, _, x, n) => n == 3 && zdis (decode cc pc) (.iinc i x) 3
  | (7, o, _, _, n) => n == 1 && decide (o < 11) && zdis (decode cc pc) (zbinI o) 1
  | (8, o, _, _, n) => n == 1 && decide (o < 4) && zdis (decode cc pc) (zlbinI o) 1
  | (9, o, _, _, n) => n == 1 && decide (o < 9) && zdis (decode cc pc) (zunI o) 1
  | (10, o, _, _, n) => n == 1 && decide (o < 5) && zdis (decode cc pc) (zcmpI o) 1
  | (11, o, _, _, n) => n == 1 && decide (o < 5) && zdis (decode cc pc) (zstkI o) 1
  | (12, o, j, _, _) => zc12 (decode cc pc) pc o j
  | (13, o, j, _, _) => zc13 (decode cc pc) pc o j
  | (14, o, j, _, _) => zc14 (decode cc pc) pc o j
  | (15, _, j, _, _) => zc15 (decode cc pc) pc j
  | (16, kd, j, _, _) => zc16 (decode cc pc) T kd j
  | (17, kd, j, x, _) => zc17 (decode cc pc) ini T kd j x
  | (18, kd, _, _, _) => decide (20 ≤ kd) && decide (kd < 29) && zdis (decode cc pc) (zaldI kd) 1
  | (19, kd, _, _, _) => decide (20 ≤ kd) && decide (kd < 25) && zdis (decode cc pc) (zastI kd) 1
  | (20, kd, ko, _, _) => zhas 16 kd ko 0 0 T && zdis (decode cc pc) .aastore 1
  | (21, _, _, _, _) => zdis (decode cc pc) .arraylength 1
  | (22, kd, _, _, _) => zc22 (decode cc pc) T kd
  | (23, kd, _, _, n) => zc23 (decode cc pc) T kd n
  | (24, i, j, x, _) => zc24 (decode cc pc) np T i j x
  | (25, _, _, _, _) => zc25 (decode cc pc) T
  | (26, t, _, _, _) => zc26 (decode cc pc) ret t
  | (27, _, _, _, _) => zdis (decode cc pc) .return_ 1 && decide (ret = none)
  | (28, E, _, _, _) => h0 && zc28 cc T pc E
  | (29, i, j, _, _) => zc29 (decode cc pc) (sw i) pc j
  | (30, i, _, _, _) => zc30 (decode cc pc) T i
  | (31, o, _, _, _) => zc31 (decode cc pc) T o
  | _ => false

/-! The checks are sound. -/
section ZCK
variable {P : zProg} {L : zL} {zW : List Jvm.Cond} {cl : List vw_C} {G : zG} {ss : Nat → String × String × String} {np : Nat → Nat} {own nm : String} {cc : ByteArray} {T : List zE} {pc : Nat}
theorem zc0_ok (hT : ∀ e ∈ T, zmean P L zW cl G ss np own e) {i j : Nat} {x : Int} {n : Nat} (h : zc0 (decode cc pc) T x n = true) : zlkI P zW cl ss own nm cc pc (0, i, j, x, n) := by
  unfold zc0 at h
  show (∃ q, decode cc pc = .ok (.iconst q, 1) ∧ n = 1 ∧ Int32.ofInt q = Int32.ofInt x) ∨ (∃ q, decode cc pc = .ok (.bipush q, 2) ∧ n = 2 ∧ (Int8.ofInt q).toInt32 = Int32.ofInt x) ∨ (∃ q, decode cc pc = .ok (.sipush q, 3) ∧ n = 3 ∧ (Int16.ofInt q).toInt32 = Int32.ofInt x) ∨
      (∃ q, decode cc pc = .ok (.ldc q, 2) ∧ n = 2 ∧ Cond.constant own q (Int32.ofInt x) ∈ zW) ∨ (∃ q, decode cc pc = .ok (.ldc_w q, 3) ∧ n = 3 ∧ Cond.constant own q (Int32.ofInt x) ∈ zW)
  split at h
  · next q e => simp only [Bool.and_eq_true, beq_iff_eq, decide_eq_true_eq] at h; exact Or.inl ⟨q, e, h⟩
  · next q e => simp only [Bool.and_eq_true, beq_iff_eq, decide_eq_true_eq] at h; exact Or.inr (Or.inl ⟨q, e, h⟩)
  · next q e => simp only [Bool.and_eq_true, beq_iff_eq, decide_eq_true_eq] at h; exact Or.inr (Or.inr (Or.inl ⟨q, e, h⟩))
  · next q e => simp only [Bool.and_eq_true, beq_iff_eq] at h; exact Or.inr (Or.inr (Or.inr (Or.inl ⟨q, e, h.1, hT _ (zhas_mem h.2)⟩)))
  · next q e => simp only [Bool.and_eq_true, beq_iff_eq] at h; exact Or.inr (Or.inr (Or.inr (Or.inr ⟨q, e, h.1, hT _ (zhas_mem h.2)⟩)))
  · cases h
theorem zc2_ok (hT : ∀ e ∈ T, zmean P L zW cl G ss np own e) {i j : Nat} {x : Int} {n : Nat} (h : zc2 (decode cc pc) T x n = true) : zlkI P zW cl ss own nm cc pc (2, i, j, x, n) := by
  unfold zc2 at h
  show (∃ q : Fin 2, decode cc pc = .ok (.lconst q, 1) ∧ n = 1 ∧ Int64.ofNat (q : Nat) = Int64.ofInt x) ∨ (∃ q, decode cc pc = .ok (.ldc2_w q, 3) ∧ n = 3 ∧ Cond.constantLong own q (Int64.ofInt x) ∈ zW)
  split at h
  · next q e => simp only [Bool.and_eq_true, beq_iff_eq, decide_eq_true_eq] at h; exact Or.inl ⟨q, e, h⟩
  · next q e => simp only [Bool.and_eq_true, beq_iff_eq] at h; exact Or.inr ⟨q, e, h.1, hT _ (zhas_mem h.2)⟩
  · cases h
theorem zc4_ok {i t : Nat} {x : Int} {n : Nat} (h : zc4 (decode cc pc) i t n = true) : zlkI P zW cl ss own nm cc pc (4, i, t, x, n) := by
  unfold zc4 at h
  simp only [Bool.and_eq_true, Bool.or_eq_true, beq_iff_eq, decide_eq_true_eq] at h
  obtain ⟨ht, h⟩ := h
  show (t = 0 ∧ ((∃ q : Fin 4, decode cc pc = .ok (.iload_n q, 1) ∧ (q : Nat) = i ∧ n = 1) ∨ (decode cc pc = .ok (.iload i, 2) ∧ n = 2))) ∨ (t = 1 ∧ ((∃ q : Fin 4, decode cc pc = .ok (.lload_n q, 1) ∧ (q : Nat) = i ∧ n = 1) ∨ (decode cc pc = .ok (.lload i, 2) ∧ n = 2))) ∨
      (t = 2 ∧ ((∃ q : Fin 4, decode cc pc = .ok (.fload_n q, 1) ∧ (q : Nat) = i ∧ n = 1) ∨ (decode cc pc = .ok (.fload i, 2) ∧ n = 2))) ∨ (t = 3 ∧ ((∃ q : Fin 4, decode cc pc = .ok (.dload_n q, 1) ∧ (q : Nat) = i ∧ n = 1) ∨ (decode cc pc = .ok (.dload i, 2) ∧ n = 2))) ∨
      (t = 4 ∧ ((∃ q : Fin 4, decode cc pc = .ok (.aload_n q, 1) ∧ (q : Nat) = i ∧ n = 1) ∨ (decode cc pc = .ok (.aload i, 2) ∧ n = 2)))
  rcases h with ⟨hn, h⟩ | ⟨hn, h⟩
  · split at h
    · next hi =>
      have e := zdis_ok h
      rcases (show t = 0 ∨ t = 1 ∨ t = 2 ∨ t = 3 ∨ t = 4 by omega) with rfl | rfl | rfl | rfl | rfl
      · exact Or.inl ⟨rfl, Or.inl ⟨⟨i, hi⟩, e, rfl, hn⟩⟩
      · exact Or.inr (Or.inl ⟨rfl, Or.inl ⟨⟨i, hi⟩, e, rfl, hn⟩⟩)
      · exact Or.inr (Or.inr (Or.inl ⟨rfl, Or.inl ⟨⟨i, hi⟩, e, rfl, hn⟩⟩))
      · exact Or.inr (Or.inr (Or.inr (Or.inl ⟨rfl, Or.inl ⟨⟨i, hi⟩, e, rfl, hn⟩⟩)))
      · exact Or.inr (Or.inr (Or.inr (Or.inr ⟨rfl, Or.inl ⟨⟨i, hi⟩, e, rfl, hn⟩⟩)))
    · cases h
  · have e := zdis_ok h
    rcases (show t = 0 ∨ t = 1 ∨ t = 2 ∨ t = 3 ∨ t = 4 by omega) with rfl | rfl | rfl | rfl | rfl
    · exact Or.inl ⟨rfl, Or.inr ⟨e, hn⟩⟩
    · exact Or.inr (Or.inl ⟨rfl, Or.inr ⟨e, hn⟩⟩)
    · exact Or.inr (Or.inr (Or.inl ⟨rfl, Or.inr ⟨e, hn⟩⟩))
    · exact Or.inr (Or.inr (Or.inr (Or.inl ⟨rfl, Or.inr ⟨e, hn⟩⟩)))
    · exact Or.inr (Or.inr (Or.inr (Or.inr ⟨rfl, Or.inr ⟨e, hn⟩⟩)))
theorem zc5_ok {i t : Nat} {x : Int} {n : Nat} (h : zc5 (decode cc pc) i t n = true) : zlkI P zW cl ss own nm cc pc (5, i, t, x, n) := by
  unfold zc5 at h
  simp only [Bool.and_eq_true, Bool.or_eq_true, beq_iff_eq, decide_eq_true_eq] at h
  show (t = 0 ∧ ((∃ q : Fin 4, decode cc pc = .ok (.istore_n q, 1) ∧ (q : Nat) = i ∧ n = 1) ∨ (decode cc pc = .ok (.istore i, 2) ∧ n = 2))) ∨ (t = 4 ∧ ((∃ q : Fin 4, decode cc pc = .ok (.astore_n q, 1) ∧ (q : Nat) = i ∧ n = 1) ∨ (decode cc pc = .ok (.astore i, 2) ∧ n = 2))) ∨
      (t = 2 ∧ decode cc pc = .ok (.fstore i, 2) ∧ n = 2) ∨ (t = 3 ∧ decode cc pc = .ok (.dstore i, 2) ∧ n = 2)
  rcases h with ⟨⟨ht, hn⟩, h⟩ | ⟨⟨ht, hn⟩, h⟩
  · split at h
    · next hi =>
      have e := zdis_ok h
      rcases ht with rfl | rfl
      · exact Or.inl ⟨rfl, Or.inl ⟨⟨i, hi⟩, e, rfl, hn⟩⟩
      · exact Or.inr (Or.inl ⟨rfl, Or.inl ⟨⟨i, hi⟩, e, rfl, hn⟩⟩)
    · cases h
  · have e := zdis_ok h
    rcases ht with rfl | rfl | rfl | rfl
    · exact Or.inl ⟨rfl, Or.inr ⟨e, hn⟩⟩
    · exact Or.inr (Or.inl ⟨rfl, Or.inr ⟨e, hn⟩⟩)
    · exact Or.inr (Or.inr (Or.inl ⟨rfl, e, hn⟩))
    · exact Or.inr (Or.inr (Or.inr ⟨rfl, e, hn⟩))
theorem zc7_ok {o j : Nat} {x : Int} {n : Nat} (hn : n = 1) (ho : o < 11) (h : zdis (decode cc pc) (zbinI o) 1 = true) : zlkI P zW cl ss own nm cc pc (7, o, j, x, n) := by
  have e := zdis_ok h
  refine ⟨hn, ?_⟩
  rcases (show o = 0 ∨ o = 1 ∨ o = 2 ∨ o = 3 ∨ o = 4 ∨ o = 5 ∨ o = 6 ∨ o = 7 ∨ o = 8 ∨ o = 9 ∨ o = 10 by omega) with rfl | rfl | rfl | rfl | rfl | rfl | rfl | rfl | rfl | rfl | rfl <;> simp only [e, zbinI] <;> simp
theorem zc8_ok {o j : Nat} {x : Int} {n : Nat} (hn : n = 1) (ho : o < 4) (h : zdis (decode cc pc) (zlbinI o) 1 = true) : zlkI P zW cl ss own nm cc pc (8, o, j, x, n) := by
  have e := zdis_ok h
  refine ⟨hn, ?_⟩
  rcases (show o = 0 ∨ o = 1 ∨ o = 2 ∨ o = 3 by omega) with rfl | rfl | rfl | rfl <;> simp only [e, zlbinI] <;> simp
theorem zc9_ok {o j : Nat} {x : Int} {n : Nat} (hn : n = 1) (ho : o < 9) (h : zdis (decode cc pc) (zunI o) 1 = true) : zlkI P zW cl ss own nm cc pc (9, o, j, x, n) := by
  have e := zdis_ok h
  refine ⟨hn, ?_⟩
  rcases (show o = 0 ∨ o = 1 ∨ o = 2 ∨ o = 3 ∨ o = 4 ∨ o = 5 ∨ o = 6 ∨ o = 7 ∨ o = 8 by omega) with rfl | rfl | rfl | rfl | rfl | rfl | rfl | rfl | rfl <;> simp only [e, zunI] <;> simp
theorem zc10_ok {o j : Nat} {x : Int} {n : Nat} (hn : n = 1) (ho : o < 5) (h : zdis (decode cc pc) (zcmpI o) 1 = true) : zlkI P zW cl ss own nm cc pc (10, o, j, x, n) := by
  have e := zdis_ok h
  refine ⟨hn, ?_⟩
  rcases (show o = 0 ∨ o = 1 ∨ o = 2 ∨ o = 3 ∨ o = 4 by omega) with rfl | rfl | rfl | rfl | rfl <;> simp only [e, zcmpI] <;> simp
theorem zc11_ok {o j : Nat} {x : Int} {n : Nat} (hn : n = 1) (ho : o < 5) (h : zdis (decode cc pc) (zstkI o) 1 = true) : zlkI P zW cl ss own nm cc pc (11, o, j, x, n) := by
  have e := zdis_ok h
  refine ⟨hn, ?_⟩
  rcases (show o = 0 ∨ o = 1 ∨ o = 2 ∨ o = 3 ∨ o = 4 by omega) with rfl | rfl | rfl | rfl | rfl <;> simp only [e, zstkI] <;> simp
theorem zc12_ok {o j : Nat} {x : Int} {n : Nat} (h : zc12 (decode cc pc) pc o j = true) : zlkI P zW cl ss own nm cc pc (12, o, j, x, n) := by
  unfold zc12 at h
  split at h
  · next cnd off e =>
    simp only [Bool.and_eq_true, decide_eq_true_eq] at h
    obtain ⟨⟨h1, rfl⟩, h3⟩ := h
    exact ⟨h1, off, e, zckN_ok h3⟩
  · cases h
theorem zc13_ok {o j : Nat} {x : Int} {n : Nat} (h : zc13 (decode cc pc) pc o j = true) : zlkI P zW cl ss own nm cc pc (13, o, j, x, n) := by
  unfold zc13 at h
  split at h
  · next cnd off e =>
    simp only [Bool.and_eq_true, decide_eq_true_eq] at h
    obtain ⟨⟨h1, rfl⟩, h3⟩ := h
    exact ⟨h1, off, e, zckN_ok h3⟩
  · cases h
theorem zc14_ok {o j : Nat} {x : Int} {n : Nat} (h : zc14 (decode cc pc) pc o j = true) : zlkI P zW cl ss own nm cc pc (14, o, j, x, n) := by
  unfold zc14 at h
  split at h
  · next off e =>
    simp only [Bool.and_eq_true, decide_eq_true_eq] at h
    exact ⟨off, Or.inl ⟨h.1, e⟩, zckN_ok h.2⟩
  · next off e =>
    simp only [Bool.and_eq_true, decide_eq_true_eq] at h
    exact ⟨off, Or.inr ⟨h.1, e⟩, zckN_ok h.2⟩
  · cases h
theorem zc15_ok {i j : Nat} {x : Int} {n : Nat} (h : zc15 (decode cc pc) pc j = true) : zlkI P zW cl ss own nm cc pc (15, i, j, x, n) := by
  unfold zc15 at h
  split at h
  · next off e => exact ⟨off, e, zckN_ok h⟩
  · cases h
theorem zc16_ok (hT : ∀ e ∈ T, zmean P L zW cl G ss np own e) {kd j : Nat} {x : Int} {n : Nat} (h : zc16 (decode cc pc) T kd j = true) : zlkI P zW cl ss own nm cc pc (16, kd, j, x, n) := by
  unfold zc16 at h
  split at h
  · next q e =>
    obtain ⟨ci, C, T9, N, ref, h1, h2, h3, h4, h5, h6⟩ := hT _ (zhas_mem h)
    exact ⟨ci, C, T9, N, q, ref, h1, h2, h3, h4, h5, h6, e⟩
  · cases h
theorem zc17_ok (hT : ∀ e ∈ T, zmean P L zW cl G ss np own e) {ini : Bool} (hi : ini = true → nm = "<init>") {kd j : Nat} {x : Int} {n : Nat} (h : zc17 (decode cc pc) ini T kd j x = true) : zlkI P zW cl ss own nm cc pc (17, kd, j, x, n) := by
  unfold zc17 at h
  split at h
  · next q e =>
    rw [Bool.or_eq_true, Bool.and_eq_true] at h
    rcases h with h | ⟨h0, h⟩
    · obtain ⟨ci, C, T9, N, ref, h1, h2, h3, h4, h5, h6, h7, h8⟩ := hT _ (zhas_mem h)
      exact ⟨ci, C, T9, N, q, ref, h1, h2, h3, h4, h5, h6, (fun h9 => by rw [h7] at h9; cases h9), h8, e⟩
    · obtain ⟨ci, C, T9, N, ref, h1, h2, h3, h4, h5, h6, h7, h8⟩ := hT _ (zhas_mem h)
      exact ⟨ci, C, T9, N, q, ref, h1, h2, h3, h4, h5, h6, (fun _ => ⟨hi h0, h7⟩), h8, e⟩
  · cases h
theorem zc18_ok {kd j : Nat} {x : Int} {n : Nat} (h1 : 20 ≤ kd) (h2 : kd < 29) (h : zdis (decode cc pc) (zaldI kd) 1 = true) : zlkI P zW cl ss own nm cc pc (18, kd, j, x, n) := by
  refine ⟨h1, _, zdis_ok h, ?_⟩
  rcases (show kd = 20 ∨ kd = 21 ∨ kd = 22 ∨ kd = 23 ∨ kd = 24 ∨ kd = 25 ∨ kd = 26 ∨ kd = 27 ∨ kd = 28 by omega) with rfl | rfl | rfl | rfl | rfl | rfl | rfl | rfl | rfl <;> simp [zaldI, ztyK, FieldType.isReference]
theorem zc19_ok {kd j : Nat} {x : Int} {n : Nat} (h1 : 20 ≤ kd) (h2 : kd < 25) (h : zdis (decode cc pc) (zastI kd) 1 = true) : zlkI P zW cl ss own nm cc pc (19, kd, j, x, n) := by
  refine ⟨_, zdis_ok h, ?_⟩
  rcases (show kd = 20 ∨ kd = 21 ∨ kd = 22 ∨ kd = 23 ∨ kd = 24 by omega) with rfl | rfl | rfl | rfl | rfl <;> simp [zastI]
theorem zc22_ok (hT : ∀ e ∈ T, zmean P L zW cl G ss np own e) {kd j : Nat} {x : Int} {n : Nat} (h : zc22 (decode cc pc) T kd = true) : zlkI P zW cl ss own nm cc pc (22, kd, j, x, n) := by
  unfold zc22 at h
  split at h
  · next q e =>
    obtain ⟨ci, C, T9, N, h1, h2, h3, h4⟩ := hT _ (zhas_mem h)
    exact ⟨ci, C, T9, N, q, h1, h2, h3, h4, e⟩
  · cases h
theorem zc23_ok (hT : ∀ e ∈ T, zmean P L zW cl G ss np own e) {kd j : Nat} {x : Int} {n : Nat} (h : zc23 (decode cc pc) T kd n = true) : zlkI P zW cl ss own nm cc pc (23, kd, j, x, n) := by
  unfold zc23 at h
  split at h
  · next a e =>
    simp only [Bool.and_eq_true, beq_iff_eq, decide_eq_true_eq] at h
    obtain ⟨⟨⟨⟨h1, h2⟩, h3⟩, h4⟩, h5⟩ := h
    have hm := hT _ (zhas_mem h5)
    refine Or.inl ⟨h1, h2, h3, a, ?_, ?_, e⟩
    · rw [← h4]
      rcases (show kd = 20 ∨ kd = 21 ∨ kd = 22 ∨ kd = 23 ∨ kd = 24 by omega) with rfl | rfl | rfl | rfl | rfl <;> rfl
    · rw [← h4]
      rcases (show kd = 20 ∨ kd = 21 ∨ kd = 22 ∨ kd = 23 ∨ kd = 24 by omega) with rfl | rfl | rfl | rfl | rfl <;> exact hm
  · next q e =>
    simp only [Bool.and_eq_true, beq_iff_eq] at h
    obtain ⟨h1, h2⟩ := h
    obtain ⟨g1, g2, C, g3, g4, g5⟩ := hT _ (zhas_mem h2)
    exact Or.inr ⟨h1, g1, g2, C, q, g3, g4, g5, e⟩
  · cases h
theorem zc24_ok (hT : ∀ e ∈ T, zmean P L zW cl G ss np own e) {i j : Nat} {x : Int} (h : zc24 (decode cc pc) np T i j x = true) : zlkC P L zW cl own cc pc i j x.toNat := by
  unfold zc24 at h
  split at h
  · next q e =>
    simp only [Bool.and_eq_true, Bool.or_eq_true, beq_iff_eq] at h
    obtain ⟨h | h, hj⟩ := h
    · obtain ⟨⟨g1, g2, g3, g4, g5⟩, ci, T9, N, f1, f2, f3, f4, f5, f6, f7⟩ := hT _ (zhas_mem h)
      exact ⟨g1, g2, g3, g4, q, np i, g5, Or.inl ⟨ci, T9, N, f1, f2, f3, f4, hj, e, f5, f6, f7⟩⟩
    · obtain ⟨⟨g1, g2, g3, g4, g5⟩, ci, C, T9, N, f1, f2, f3, f4, f5, f6, f7, f8⟩ := hT _ (zhas_mem h)
      exact ⟨g1, g2, g3, g4, q, np i, g5, Or.inr (Or.inr (Or.inr (Or.inr (Or.inr (Or.inr ⟨ci, C, T9, N, f1, f2, f3, f4, hj, e, f5, f6, f7, f8⟩)))))⟩
  · next q e =>
    simp only [Bool.and_eq_true, Bool.or_eq_true, beq_iff_eq] at h
    obtain ⟨(h | h) | h, hj⟩ := h
    · obtain ⟨⟨g1, g2, g3, g4, g5⟩, f1, f2, f3⟩ := hT _ (zhas_mem h)
      exact ⟨g1, g2, g3, g4, q, np i, g5, Or.inr (Or.inl ⟨f1, hj, e, f2, f3⟩)⟩
    · obtain ⟨⟨g1, g2, g3, g4, g5⟩, host, f1, f2, f3⟩ := hT _ (zhas_mem h)
      exact ⟨g1, g2, g3, g4, q, np i, g5, Or.inr (Or.inr (Or.inl ⟨host, f1, hj, e, f2, f3⟩))⟩
    · obtain ⟨⟨g1, g2, g3, g4, g5⟩, f1, f2, f3⟩ := hT _ (zhas_mem h)
      exact ⟨g1, g2, g3, g4, q, np i, g5, Or.inr (Or.inr (Or.inr (Or.inl ⟨f1, hj, e, f2, f3⟩)))⟩
  · next q e =>
    simp only [Bool.and_eq_true, Bool.or_eq_true, beq_iff_eq] at h
    obtain ⟨h | h, hj⟩ := h
    · obtain ⟨⟨g1, g2, g3, g4, g5⟩, f1, f2, f3, f4, f5, f6⟩ := hT _ (zhas_mem h)
      exact ⟨g1, g2, g3, g4, q, np i, g5, Or.inr (Or.inr (Or.inr (Or.inr (Or.inl ⟨f1, f2, f3, hj, e, f4, f5, f6⟩))))⟩
    · obtain ⟨⟨g1, g2, g3, g4, g5⟩, ci, C, T9, N, f1, f2, f3, f4, f5, f6, f7, f8, f9⟩ := hT _ (zhas_mem h)
      exact ⟨g1, g2, g3, g4, q, np i, g5, Or.inr (Or.inr (Or.inr (Or.inr (Or.inr (Or.inl ⟨ci, C, T9, N, f1, f2, f3, f4, hj, e, f5, f6, f7, f8, f9⟩)))))⟩
  · cases h
theorem zc25_ok (hT : ∀ e ∈ T, zmean P L zW cl G ss np own e) {i j : Nat} {x : Int} {n : Nat} (h : zc25 (decode cc pc) T = true) : zlkI P zW cl ss own nm cc pc (25, i, j, x, n) := by
  unfold zc25 at h
  split at h
  · next q e =>
    obtain ⟨h1, h2, h3⟩ := hT _ (zhas_mem h)
    exact ⟨q, e, h1, h2, h3⟩
  · cases h
theorem zc26_ok {k t : Nat} (h : zc26 (decode cc pc) (L.2.2.1 k) t = true) : zlkR L cc pc k t := by
  unfold zc26 at h
  unfold zlkR
  split at h
  · next e => exact Or.inl ⟨rfl, zdis_ok h, e⟩
  · next e => exact Or.inr (Or.inl ⟨rfl, zdis_ok h, e⟩)
  · next e => exact Or.inr (Or.inr (Or.inl ⟨rfl, zdis_ok h, e⟩))
  · next e => exact Or.inr (Or.inr (Or.inr (Or.inl ⟨rfl, zdis_ok h, e⟩)))
  · next e => exact Or.inr (Or.inr (Or.inr (Or.inr (Or.inl ⟨rfl, zdis_ok h, e⟩))))
  · next e => exact Or.inr (Or.inr (Or.inr (Or.inr (Or.inr (Or.inl ⟨rfl, zdis_ok h, e⟩)))))
  · next e => exact Or.inr (Or.inr (Or.inr (Or.inr (Or.inr (Or.inr ⟨rfl, zdis_ok h, _, e, Or.inl ⟨_, rfl⟩⟩)))))
  · next e => exact Or.inr (Or.inr (Or.inr (Or.inr (Or.inr (Or.inr ⟨rfl, zdis_ok h, _, e, Or.inr ⟨_, rfl⟩⟩)))))
  · cases h
theorem zc28_ok (hT : ∀ e ∈ T, zmean P L zW cl G ss np own e) {E : Nat} (h : zc28 cc T pc E = true) : zlkX L zW G own cc pc E := by
  unfold zc28 at h
  split at h
  · next q s e1 e2 e3 =>
    split at h
    · next c e4 =>
      rw [Bool.and_eq_true] at h
      obtain ⟨ix, rx, text, Y0, names, g0, g1, g2, g3, g4, g5, g6, g7⟩ := hT _ (zhas_mem h.1)
      exact ⟨q, s, c, ix, rx, text, Y0, names, g0, g1, g2, g3, g4, g5, g6, g7, e1, e2, Or.inl ⟨e3, e4, zdis_ok h.2⟩⟩
    · cases h
  · next q s e1 e2 e3 =>
    split at h
    · next c e4 =>
      rw [Bool.and_eq_true] at h
      obtain ⟨ix, rx, text, Y0, names, g0, g1, g2, g3, g4, g5, g6, g7⟩ := hT _ (zhas_mem h.1)
      exact ⟨q, s, c, ix, rx, text, Y0, names, g0, g1, g2, g3, g4, g5, g6, g7, e1, e2, Or.inr ⟨e3, e4, zdis_ok h.2⟩⟩
    · cases h
  · cases h
theorem zc29_ok {i j : Nat} {x : Int} {n : Nat} (h : zc29 (decode cc pc) (P.2.2.2.1 i) pc j = true) : zlkI P zW cl ss own nm cc pc (29, i, j, x, n) := by
  unfold zc29 at h
  split at h
  · next dflt ps len e =>
    simp only [Bool.and_eq_true] at h
    obtain ⟨⟨⟨h1, h2⟩, h3⟩, h4⟩ := h
    exact Or.inl ⟨dflt, ps, len, e, h1, zckN_ok h2, of_decide_eq_true h3, h4⟩
  · next dflt lo hi offs len e =>
    simp only [Bool.and_eq_true] at h
    obtain ⟨⟨⟨h1, h2⟩, h3⟩, h4⟩ := h
    exact Or.inr ⟨dflt, lo, hi, offs, len, e, zckN_ok h1, of_decide_eq_true h2, of_decide_eq_true h3, h4⟩
  · cases h
theorem zc30_ok (hT : ∀ e ∈ T, zmean P L zW cl G ss np own e) {i j : Nat} {x : Int} {n : Nat} (h : zc30 (decode cc pc) T i = true) : zlkI P zW cl ss own nm cc pc (30, i, j, x, n) := by
  unfold zc30 at h
  split at h
  · next q e =>
    obtain ⟨h1, ref, h2, h3⟩ := hT _ (zhas_mem h)
    exact ⟨h1, q, ref, e, h2, h3⟩
  · cases h
theorem zc31_ok (hT : ∀ e ∈ T, zmean P L zW cl G ss np own e) {i j : Nat} {x : Int} {n : Nat} (h : zc31 (decode cc pc) T i = true) : zlkI P zW cl ss own nm cc pc (31, i, j, x, n) := by
  unfold zc31 at h
  split at h
  · next q e => exact ⟨q, e, hT _ (zhas_mem h)⟩
  · cases h
set_option maxHeartbeats 4000000 in
theorem zck_ok {k : Nat} {ini : Bool} (hT : ∀ e ∈ T, zmean P L zW cl G ss np (L.1 k).cls e) (hi : ini = true → (L.1 k).name = "<init>") (h : zck P.2.2.2.1 np ini (L.2.1 k) (L.2.2.1 k) (decide (L.2.2.2.1 k = [])) T pc (P.1 k pc) = true) : zlk P L zW cl G ss k pc := by
  unfold zlk
  revert h
  generalize P.1 k pc = I
  intro h
  unfold zck at h
  split at h
  · exact zc0_ok hT h
  · simp only [Bool.and_eq_true, beq_iff_eq] at h; exact ⟨zdis_ok h.2, h.1⟩
  · exact zc2_ok hT h
  · simp only [Bool.and_eq_true, beq_iff_eq] at h; exact ⟨zdis_ok h.2, h.1⟩
  · exact zc4_ok h
  · exact zc5_ok h
  · simp only [Bool.and_eq_true, beq_iff_eq] at h; exact ⟨zdis_ok h.2, h.1⟩
  · simp only [Bool.and_eq_true, beq_iff_eq, decide_eq_true_eq] at h; exact zc7_ok h.1.1 h.1.2 h.2
  · simp only [Bool.and_eq_true, beq_iff_eq, decide_eq_true_eq] at h; exact zc8_ok h.1.1 h.1.2 h.2
  · simp only [Bool.and_eq_true, beq_iff_eq, decide_eq_true_eq] at h; exact zc9_ok h.1.1 h.1.2 h.2
  · simp only [Bool.and_eq_true, beq_iff_eq, decide_eq_true_eq] at h; exact zc10_ok h.1.1 h.1.2 h.2
  · simp only [Bool.and_eq_true, beq_iff_eq, decide_eq_true_eq] at h; exact zc11_ok h.1.1 h.1.2 h.2
  · exact zc12_ok h
  · exact zc13_ok h
  · exact zc14_ok h
  · exact zc15_ok h
  · exact zc16_ok hT h
  · exact zc17_ok hT hi h
  · simp only [Bool.and_eq_true, decide_eq_true_eq] at h; exact zc18_ok h.1.1 h.1.2 h.2
  · simp only [Bool.and_eq_true, decide_eq_true_eq] at h; exact zc19_ok h.1.1 h.1.2 h.2
  · rw [Bool.and_eq_true] at h; exact ⟨zdis_ok h.2, hT _ (zhas_mem h.1)⟩
  · exact zdis_ok h
  · exact zc22_ok hT h
  · exact zc23_ok hT h
  · exact zc24_ok hT h
  · exact zc25_ok hT h
  · exact zc26_ok h
  · simp only [Bool.and_eq_true, decide_eq_true_eq] at h; exact ⟨zdis_ok h.1, h.2⟩
  · simp only [Bool.and_eq_true, decide_eq_true_eq] at h; exact ⟨zc28_ok hT h.2, h.1⟩
  · exact zc29_ok h
  · exact zc30_ok hT h
  · exact zc31_ok hT h
  · cases h
end ZCK
def z99 : zI := (99, 0, 0, 0, 0)
/-- a method's instructions with their places -/
abbrev zM : Type := List (Nat × zI)
def zlu (m : zM) (pc : Nat) : zI := match m with
  | [] => z99
  | q :: r => if q.1 = pc then q.2 else zlu r pc
/-- the check over a method's instructions -/
def zall (f : Nat → zI → Bool) (m : zM) : Bool := m.all (fun q => Nat.ble 32 q.2.1 || f q.1 q.2)
theorem zall_app {f : Nat → zI → Bool} {a b : zM} (h1 : zall f a = true) (h2 : zall f b = true) : zall f (a ++ b) = true := by
  unfold zall at *
  rw [List.all_append, h1, h2]
  rfl
theorem zall_ok {f : Nat → zI → Bool} {m : zM} {pc : Nat} (h : zall f m = true) (hp : (zlu m pc).1 ≤ 31) : f pc (zlu m pc) = true := by
  unfold zall at h
  induction m with
  | nil =>
    have h9 : (99 : Nat) ≤ 31 := hp
    omega
  | cons q r ih =>
    rw [List.all_cons, Bool.and_eq_true, Bool.or_eq_true] at h
    unfold zlu at hp ⊢
    by_cases hq : q.1 = pc
    · rw [if_pos hq] at hp ⊢
      rcases h.1 with h1 | h1
      · have := Nat.le_of_ble_eq_true h1
        omega
      · rw [← hq]
        exact h1
    · rw [if_neg hq] at hp ⊢
      exact ih h.2 hp
/-- a method without handlers -/
theorem zmok_of {P : zProg} {L : zL} {zW : List Jvm.Cond} {cl : List vw_C} {G : zG} {ss : Nat → String × String × String} {np : Nat → Nat} {T : List zE} {k : Nat} {ini : Bool} {m : zM} {cc : ByteArray} {ret : Option FieldType} {own : String}
    (hT : ∀ e ∈ T, zmean P L zW cl G ss np own e) (h1 : plainName own = true) (ho : (L.1 k).cls = own) (hcc : L.2.1 k = cc) (hret : L.2.2.1 k = ret) (hm : P.1 k = zlu m) (hl : P.2.1 k ≤ 80) (hi : ini = true → (L.1 k).name = "<init>") (hh : L.2.2.2.1 k = []) (hh2 : P.2.2.1 k = [])
    (h : zall (zck P.2.2.2.1 np ini cc ret true T) m = true) : zmok P L zW cl G ss k := by
  subst ho hcc hret
  refine ⟨h1, hl, by rw [hh, hh2]; exact trivial, fun h9 => absurd hh h9, fun pc hp => ?_⟩
  have e : P.1 k pc = zlu m pc := by rw [hm]
  refine zck_ok hT hi ?_
  rw [e] at hp ⊢
  rw [hh]
  exact zall_ok h hp
/-- a method with handlers -/
theorem zmok_hof {P : zProg} {L : zL} {zW : List Jvm.Cond} {cl : List vw_C} {G : zG} {ss : Nat → String × String × String} {np : Nat → Nat} {T : List zE} {k : Nat} {m : zM} {cc : ByteArray} {own : String}
    (hT : ∀ e ∈ T, zmean P L zW cl G ss np own e) (h1 : plainName own = true) (ho : (L.1 k).cls = own) (hcc : L.2.1 k = cc) (hret : L.2.2.1 k = some .int) (hm : P.1 k = zlu m) (hl : P.2.1 k ≤ 80) (hh : zlkH L zW G own cc (P.2.2.1 k) (L.2.2.2.1 k)) (hn : (decide (L.2.2.2.1 k = [])) = false)
    (h : zall (zck P.2.2.2.1 np false cc (some .int) false T) m = true) : zmok P L zW cl G ss k := by
  subst ho hcc
  refine ⟨h1, hl, hh, fun h9 => hret, fun pc hp => ?_⟩
  have e : P.1 k pc = zlu m pc := by rw [hm]
  refine zck_ok (ini := false) hT (fun h9 => by cases h9) ?_
  rw [e] at hp ⊢
  rw [hn, hret]
  exact zall_ok h hp
def zix2 {α : Type} (d : α) (L : List (List α)) (k : Nat) : α := (L.getD (k / 16) []).getD (k % 16) d
/-- a private method of a class is selected for an object of a class below it, as another method of that class is -/
theorem z_sel_inh {C : String} {y0 y : MethodName} {s : State} {args : Array Value} (hc : y0.cls = y.cls) (hy : y.cls ≠ "java/lang/invoke/MethodHandle" ∧ y.cls ≠ "java/lang/invoke/VarHandle")
    (h1 : (Cond.selects C y0 y0).before args s = true) (hpriv : (Cond.privateMethod y).before args s = true) (hinst : (Cond.instanceMethod y).before args s = true) : (Cond.selects C y y).before args s = true := by
  obtain ⟨c, r, m0, q1, q2, q3, q4, kM, hkM, hni⟩ := Cond.selects_spec h1
  obtain ⟨mk, methM, hnamed, hmethM, -, -⟩ := Cond.instanceMethod_spec hinst
  have hfound : s.methodFound? y.cls y.name y.desc = some mk := State.methodFound?_of_named hnamed hy
  have e1 := findClass_of_methodNamed q3
  have e2 := findClass_of_methodNamed hnamed
  rw [hc] at e1
  have hcls : mk.cls = m0.cls := Option.some.inj (e2.symm.trans e1)
  have hsel : selectMethod {} s.vm c mk = .method mk := selectMethod_private hmethM (Cond.privateMethod_at hpriv mk methM hnamed hmethM)
  simp only [Cond.before, Cond.holds, Cond.value, q1, hfound, hnamed, hsel, hcls, hkM]
  simp; exact hni

/-! Short instructions decoded by their bytes alone, wherever they stand. Printed by wip/gen/ops.py. -/
abbrev zU (cc : ByteArray) (p b : Nat) : Prop := (Reader.u1 : Decoder Nat).runAt cc p = .ok (b, p + 1)
theorem zu1 {cc : ByteArray} {p b : Nat} (h : cc.data.toList[p]? = some (UInt8.ofNat b)) (hb : b < 256) : zU cc p b := by
  have h1 : p < cc.size := by
    have := (List.getElem?_eq_some_iff.mp h).1
    simpa using this
  have h2 : cc[p] = UInt8.ofNat b := by
    obtain ⟨h3, h4⟩ := List.getElem?_eq_some_iff.mp h
    exact h4
  have h3 : (cc[p]).toNat = b := by rw [h2]; simp; omega
  have e : (Reader.u1 : Decoder Nat).runAt cc p = ((if h : p < cc.size then (do set (p + 1); Pure.pure cc[p].toNat : Decoder Nat) else throw (HasTruncated.truncated p)) : Decoder Nat).runAt cc p := rfl
  show (Reader.u1 : Decoder Nat).runAt cc p = _
  rw [e, dif_pos h1, h3]
  rfl
theorem zd_of {cc : ByteArray} {pc n : Nat} {ins : Instr} (e : (Decoder.instr pc).runAt cc pc = .ok (ins, pc + n)) : decode cc pc = .ok (ins, n) := by
  unfold decode
  rw [e]
  show (.ok (ins, pc + n - pc) : Except DecodeError (Instr × Nat)) = _
  rw [Nat.add_sub_cancel_left]
theorem zd_1 {cc : ByteArray} {pc : Nat} (h : zU cc pc 1) : decode cc pc = .ok (.aconst_null, 1) := zd_of (by
  show Except.bind ((Reader.u1 : Decoder Nat).runAt cc pc) _ = _
  rw [show (Reader.u1 : Decoder Nat).runAt cc pc = _ from h]
  rfl)
theorem zd_2 {cc : ByteArray} {pc : Nat} (h : zU cc pc 2) : decode cc pc = .ok (.iconst (-1), 1) := zd_of (by
  show Except.bind ((Reader.u1 : Decoder Nat).runAt cc pc) _ = _
  rw [show (Reader.u1 : Decoder Nat).runAt cc pc = _ from h]
  rfl)
theorem zd_3 {cc : ByteArray} {pc : Nat} (h : zU cc pc 3) : decode cc pc = .ok (.iconst 0, 1) := zd_of (by
  show Except.bind ((Reader.u1 : Decoder Nat).runAt cc pc) _ = _
  rw [show (Reader.u1 : Decoder Nat).runAt cc pc = _ from h]
  rfl)
theorem zd_4 {cc : ByteArray} {pc : Nat} (h : zU cc pc 4) : decode cc pc = .ok (.iconst 1, 1) := zd_of (by
  show Except.bind ((Reader.u1 : Decoder Nat).runAt cc pc) _ = _
  rw [show (Reader.u1 : Decoder Nat).runAt cc pc = _ from h]
  rfl)
theorem zd_5 {cc : ByteArray} {pc : Nat} (h : zU cc pc 5) : decode cc pc = .ok (.iconst 2, 1) := zd_of (by
  show Except.bind ((Reader.u1 : Decoder Nat).runAt cc pc) _ = _
  rw [show (Reader.u1 : Decoder Nat).runAt cc pc = _ from h]
  rfl)
theorem zd_6 {cc : ByteArray} {pc : Nat} (h : zU cc pc 6) : decode cc pc = .ok (.iconst 3, 1) := zd_of (by
  show Except.bind ((Reader.u1 : Decoder Nat).runAt cc pc) _ = _
  rw [show (Reader.u1 : Decoder Nat).runAt cc pc = _ from h]
  rfl)
theorem zd_7 {cc : ByteArray} {pc : Nat} (h : zU cc pc 7) : decode cc pc = .ok (.iconst 4, 1) := zd_of (by
  show Except.bind ((Reader.u1 : Decoder Nat).runAt cc pc) _ = _
  rw [show (Reader.u1 : Decoder Nat).runAt cc pc = _ from h]
  rfl)
theorem zd_8 {cc : ByteArray} {pc : Nat} (h : zU cc pc 8) : decode cc pc = .ok (.iconst 5, 1) := zd_of (by
  show Except.bind ((Reader.u1 : Decoder Nat).runAt cc pc) _ = _
  rw [show (Reader.u1 : Decoder Nat).runAt cc pc = _ from h]
  rfl)
theorem zd_9 {cc : ByteArray} {pc : Nat} (h : zU cc pc 9) : decode cc pc = .ok (.lconst 0, 1) := zd_of (by
  show Except.bind ((Reader.u1 : Decoder Nat).runAt cc pc) _ = _
  rw [show (Reader.u1 : Decoder Nat).runAt cc pc = _ from h]
  rfl)
theorem zd_10 {cc : ByteArray} {pc : Nat} (h : zU cc pc 10) : decode cc pc = .ok (.lconst 1, 1) := zd_of (by
  show Except.bind ((Reader.u1 : Decoder Nat).runAt cc pc) _ = _
  rw [show (Reader.u1 : Decoder Nat).runAt cc pc = _ from h]
  rfl)
theorem zd_11 {cc : ByteArray} {pc : Nat} (h : zU cc pc 11) : decode cc pc = .ok (.fconst 0, 1) := zd_of (by
  show Except.bind ((Reader.u1 : Decoder Nat).runAt cc pc) _ = _
  rw [show (Reader.u1 : Decoder Nat).runAt cc pc = _ from h]
  rfl)
theorem zd_26 {cc : ByteArray} {pc : Nat} (h : zU cc pc 26) : decode cc pc = .ok (.iload_n 0, 1) := zd_of (by
  show Except.bind ((Reader.u1 : Decoder Nat).runAt cc pc) _ = _
  rw [show (Reader.u1 : Decoder Nat).runAt cc pc = _ from h]
  rfl)
theorem zd_27 {cc : ByteArray} {pc : Nat} (h : zU cc pc 27) : decode cc pc = .ok (.iload_n 1, 1) := zd_of (by
  show Except.bind ((Reader.u1 : Decoder Nat).runAt cc pc) _ = _
  rw [show (Reader.u1 : Decoder Nat).runAt cc pc = _ from h]
  rfl)
theorem zd_28 {cc : ByteArray} {pc : Nat} (h : zU cc pc 28) : decode cc pc = .ok (.iload_n 2, 1) := zd_of (by
  show Except.bind ((Reader.u1 : Decoder Nat).runAt cc pc) _ = _
  rw [show (Reader.u1 : Decoder Nat).runAt cc pc = _ from h]
  rfl)
theorem zd_29 {cc : ByteArray} {pc : Nat} (h : zU cc pc 29) : decode cc pc = .ok (.iload_n 3, 1) := zd_of (by
  show Except.bind ((Reader.u1 : Decoder Nat).runAt cc pc) _ = _
  rw [show (Reader.u1 : Decoder Nat).runAt cc pc = _ from h]
  rfl)
theorem zd_30 {cc : ByteArray} {pc : Nat} (h : zU cc pc 30) : decode cc pc = .ok (.lload_n 0, 1) := zd_of (by
  show Except.bind ((Reader.u1 : Decoder Nat).runAt cc pc) _ = _
  rw [show (Reader.u1 : Decoder Nat).runAt cc pc = _ from h]
  rfl)
theorem zd_31 {cc : ByteArray} {pc : Nat} (h : zU cc pc 31) : decode cc pc = .ok (.lload_n 1, 1) := zd_of (by
  show Except.bind ((Reader.u1 : Decoder Nat).runAt cc pc) _ = _
  rw [show (Reader.u1 : Decoder Nat).runAt cc pc = _ from h]
  rfl)
theorem zd_32 {cc : ByteArray} {pc : Nat} (h : zU cc pc 32) : decode cc pc = .ok (.lload_n 2, 1) := zd_of (by
  show Except.bind ((Reader.u1 : Decoder Nat).runAt cc pc) _ = _
  rw [show (Reader.u1 : Decoder Nat).runAt cc pc = _ from h]
  rfl)
theorem zd_33 {cc : ByteArray} {pc : Nat} (h : zU cc pc 33) : decode cc pc = .ok (.lload_n 3, 1) := zd_of (by
  show Except.bind ((Reader.u1 : Decoder Nat).runAt cc pc) _ = _
  rw [show (Reader.u1 : Decoder Nat).runAt cc pc = _ from h]
  rfl)
theorem zd_34 {cc : ByteArray} {pc : Nat} (h : zU cc pc 34) : decode cc pc = .ok (.fload_n 0, 1) := zd_of (by
  show Except.bind ((Reader.u1 : Decoder Nat).runAt cc pc) _ = _
  rw [show (Reader.u1 : Decoder Nat).runAt cc pc = _ from h]
  rfl)
theorem zd_35 {cc : ByteArray} {pc : Nat} (h : zU cc pc 35) : decode cc pc = .ok (.fload_n 1, 1) := zd_of (by
  show Except.bind ((Reader.u1 : Decoder Nat).runAt cc pc) _ = _
  rw [show (Reader.u1 : Decoder Nat).runAt cc pc = _ from h]
  rfl)
theorem zd_36 {cc : ByteArray} {pc : Nat} (h : zU cc pc 36) : decode cc pc = .ok (.fload_n 2, 1) := zd_of (by
  show Except.bind ((Reader.u1 : Decoder Nat).runAt cc pc) _ = _
  rw [show (Reader.u1 : Decoder Nat).runAt cc pc = _ from h]
  rfl)
theorem zd_37 {cc : ByteArray} {pc : Nat} (h : zU cc pc 37) : decode cc pc = .ok (.fload_n 3, 1) := zd_of (by
  show Except.bind ((Reader.u1 : Decoder Nat).runAt cc pc) _ = _
  rw [show (Reader.u1 : Decoder Nat).runAt cc pc = _ from h]
  rfl)
theorem zd_38 {cc : ByteArray} {pc : Nat} (h : zU cc pc 38) : decode cc pc = .ok (.dload_n 0, 1) := zd_of (by
  show Except.bind ((Reader.u1 : Decoder Nat).runAt cc pc) _ = _
  rw [show (Reader.u1 : Decoder Nat).runAt cc pc = _ from h]
  rfl)
theorem zd_39 {cc : ByteArray} {pc : Nat} (h : zU cc pc 39) : decode cc pc = .ok (.dload_n 1, 1) := zd_of (by
  show Except.bind ((Reader.u1 : Decoder Nat).runAt cc pc) _ = _
  rw [show (Reader.u1 : Decoder Nat).runAt cc pc = _ from h]
  rfl)
theorem zd_40 {cc : ByteArray} {pc : Nat} (h : zU cc pc 40) : decode cc pc = .ok (.dload_n 2, 1) := zd_of (by
  show Except.bind ((Reader.u1 : Decoder Nat).runAt cc pc) _ = _
  rw [show (Reader.u1 : Decoder Nat).runAt cc pc = _ from h]
  rfl)
theorem zd_41 {cc : ByteArray} {pc : Nat} (h : zU cc pc 41) : decode cc pc = .ok (.dload_n 3, 1) := zd_of (by
  show Except.bind ((Reader.u1 : Decoder Nat).runAt cc pc) _ = _
  rw [show (Reader.u1 : Decoder Nat).runAt cc pc = _ from h]
  rfl)
theorem zd_42 {cc : ByteArray} {pc : Nat} (h : zU cc pc 42) : decode cc pc = .ok (.aload_n 0, 1) := zd_of (by
  show Except.bind ((Reader.u1 : Decoder Nat).runAt cc pc) _ = _
  rw [show (Reader.u1 : Decoder Nat).runAt cc pc = _ from h]
  rfl)
theorem zd_43 {cc : ByteArray} {pc : Nat} (h : zU cc pc 43) : decode cc pc = .ok (.aload_n 1, 1) := zd_of (by
  show Except.bind ((Reader.u1 : Decoder Nat).runAt cc pc) _ = _
  rw [show (Reader.u1 : Decoder Nat).runAt cc pc = _ from h]
  rfl)
theorem zd_44 {cc : ByteArray} {pc : Nat} (h : zU cc pc 44) : decode cc pc = .ok (.aload_n 2, 1) := zd_of (by
  show Except.bind ((Reader.u1 : Decoder Nat).runAt cc pc) _ = _
  rw [show (Reader.u1 : Decoder Nat).runAt cc pc = _ from h]
  rfl)
theorem zd_45 {cc : ByteArray} {pc : Nat} (h : zU cc pc 45) : decode cc pc = .ok (.aload_n 3, 1) := zd_of (by
  show Except.bind ((Reader.u1 : Decoder Nat).runAt cc pc) _ = _
  rw [show (Reader.u1 : Decoder Nat).runAt cc pc = _ from h]
  rfl)
theorem zd_46 {cc : ByteArray} {pc : Nat} (h : zU cc pc 46) : decode cc pc = .ok (.iaload, 1) := zd_of (by
  show Except.bind ((Reader.u1 : Decoder Nat).runAt cc pc) _ = _
  rw [show (Reader.u1 : Decoder Nat).runAt cc pc = _ from h]
  rfl)
theorem zd_47 {cc : ByteArray} {pc : Nat} (h : zU cc pc 47) : decode cc pc = .ok (.laload, 1) := zd_of (by
  show Except.bind ((Reader.u1 : Decoder Nat).runAt cc pc) _ = _
  rw [show (Reader.u1 : Decoder Nat).runAt cc pc = _ from h]
  rfl)
theorem zd_49 {cc : ByteArray} {pc : Nat} (h : zU cc pc 49) : decode cc pc = .ok (.daload, 1) := zd_of (by
  show Except.bind ((Reader.u1 : Decoder Nat).runAt cc pc) _ = _
  rw [show (Reader.u1 : Decoder Nat).runAt cc pc = _ from h]
  rfl)
theorem zd_50 {cc : ByteArray} {pc : Nat} (h : zU cc pc 50) : decode cc pc = .ok (.aaload, 1) := zd_of (by
  show Except.bind ((Reader.u1 : Decoder Nat).runAt cc pc) _ = _
  rw [show (Reader.u1 : Decoder Nat).runAt cc pc = _ from h]
  rfl)
theorem zd_51 {cc : ByteArray} {pc : Nat} (h : zU cc pc 51) : decode cc pc = .ok (.baload, 1) := zd_of (by
  show Except.bind ((Reader.u1 : Decoder Nat).runAt cc pc) _ = _
  rw [show (Reader.u1 : Decoder Nat).runAt cc pc = _ from h]
  rfl)
theorem zd_52 {cc : ByteArray} {pc : Nat} (h : zU cc pc 52) : decode cc pc = .ok (.caload, 1) := zd_of (by
  show Except.bind ((Reader.u1 : Decoder Nat).runAt cc pc) _ = _
  rw [show (Reader.u1 : Decoder Nat).runAt cc pc = _ from h]
  rfl)
theorem zd_59 {cc : ByteArray} {pc : Nat} (h : zU cc pc 59) : decode cc pc = .ok (.istore_n 0, 1) := zd_of (by
  show Except.bind ((Reader.u1 : Decoder Nat).runAt cc pc) _ = _
  rw [show (Reader.u1 : Decoder Nat).runAt cc pc = _ from h]
  rfl)
theorem zd_60 {cc : ByteArray} {pc : Nat} (h : zU cc pc 60) : decode cc pc = .ok (.istore_n 1, 1) := zd_of (by
  show Except.bind ((Reader.u1 : Decoder Nat).runAt cc pc) _ = _
  rw [show (Reader.u1 : Decoder Nat).runAt cc pc = _ from h]
  rfl)
theorem zd_61 {cc : ByteArray} {pc : Nat} (h : zU cc pc 61) : decode cc pc = .ok (.istore_n 2, 1) := zd_of (by
  show Except.bind ((Reader.u1 : Decoder Nat).runAt cc pc) _ = _
  rw [show (Reader.u1 : Decoder Nat).runAt cc pc = _ from h]
  rfl)
theorem zd_62 {cc : ByteArray} {pc : Nat} (h : zU cc pc 62) : decode cc pc = .ok (.istore_n 3, 1) := zd_of (by
  show Except.bind ((Reader.u1 : Decoder Nat).runAt cc pc) _ = _
  rw [show (Reader.u1 : Decoder Nat).runAt cc pc = _ from h]
  rfl)
theorem zd_75 {cc : ByteArray} {pc : Nat} (h : zU cc pc 75) : decode cc pc = .ok (.astore_n 0, 1) := zd_of (by
  show Except.bind ((Reader.u1 : Decoder Nat).runAt cc pc) _ = _
  rw [show (Reader.u1 : Decoder Nat).runAt cc pc = _ from h]
  rfl)
theorem zd_76 {cc : ByteArray} {pc : Nat} (h : zU cc pc 76) : decode cc pc = .ok (.astore_n 1, 1) := zd_of (by
  show Except.bind ((Reader.u1 : Decoder Nat).runAt cc pc) _ = _
  rw [show (Reader.u1 : Decoder Nat).runAt cc pc = _ from h]
  rfl)
theorem zd_77 {cc : ByteArray} {pc : Nat} (h : zU cc pc 77) : decode cc pc = .ok (.astore_n 2, 1) := zd_of (by
  show Except.bind ((Reader.u1 : Decoder Nat).runAt cc pc) _ = _
  rw [show (Reader.u1 : Decoder Nat).runAt cc pc = _ from h]
  rfl)
theorem zd_78 {cc : ByteArray} {pc : Nat} (h : zU cc pc 78) : decode cc pc = .ok (.astore_n 3, 1) := zd_of (by
  show Except.bind ((Reader.u1 : Decoder Nat).runAt cc pc) _ = _
  rw [show (Reader.u1 : Decoder Nat).runAt cc pc = _ from h]
  rfl)
theorem zd_79 {cc : ByteArray} {pc : Nat} (h : zU cc pc 79) : decode cc pc = .ok (.iastore, 1) := zd_of (by
  show Except.bind ((Reader.u1 : Decoder Nat).runAt cc pc) _ = _
  rw [show (Reader.u1 : Decoder Nat).runAt cc pc = _ from h]
  rfl)
theorem zd_80 {cc : ByteArray} {pc : Nat} (h : zU cc pc 80) : decode cc pc = .ok (.lastore, 1) := zd_of (by
  show Except.bind ((Reader.u1 : Decoder Nat).runAt cc pc) _ = _
  rw [show (Reader.u1 : Decoder Nat).runAt cc pc = _ from h]
  rfl)
theorem zd_82 {cc : ByteArray} {pc : Nat} (h : zU cc pc 82) : decode cc pc = .ok (.dastore, 1) := zd_of (by
  show Except.bind ((Reader.u1 : Decoder Nat).runAt cc pc) _ = _
  rw [show (Reader.u1 : Decoder Nat).runAt cc pc = _ from h]
  rfl)
theorem zd_83 {cc : ByteArray} {pc : Nat} (h : zU cc pc 83) : decode cc pc = .ok (.aastore, 1) := zd_of (by
  show Except.bind ((Reader.u1 : Decoder Nat).runAt cc pc) _ = _
  rw [show (Reader.u1 : Decoder Nat).runAt cc pc = _ from h]
  rfl)
theorem zd_84 {cc : ByteArray} {pc : Nat} (h : zU cc pc 84) : decode cc pc = .ok (.bastore, 1) := zd_of (by
  show Except.bind ((Reader.u1 : Decoder Nat).runAt cc pc) _ = _
  rw [show (Reader.u1 : Decoder Nat).runAt cc pc = _ from h]
  rfl)
theorem zd_85 {cc : ByteArray} {pc : Nat} (h : zU cc pc 85) : decode cc pc = .ok (.castore, 1) := zd_of (by
  show Except.bind ((Reader.u1 : Decoder Nat).runAt cc pc) _ = _
  rw [show (Reader.u1 : Decoder Nat).runAt cc pc = _ from h]
  rfl)
theorem zd_87 {cc : ByteArray} {pc : Nat} (h : zU cc pc 87) : decode cc pc = .ok (.pop, 1) := zd_of (by
  show Except.bind ((Reader.u1 : Decoder Nat).runAt cc pc) _ = _
  rw [show (Reader.u1 : Decoder Nat).runAt cc pc = _ from h]
  rfl)
theorem zd_89 {cc : ByteArray} {pc : Nat} (h : zU cc pc 89) : decode cc pc = .ok (.dup, 1) := zd_of (by
  show Except.bind ((Reader.u1 : Decoder Nat).runAt cc pc) _ = _
  rw [show (Reader.u1 : Decoder Nat).runAt cc pc = _ from h]
  rfl)
theorem zd_90 {cc : ByteArray} {pc : Nat} (h : zU cc pc 90) : decode cc pc = .ok (.dup_x1, 1) := zd_of (by
  show Except.bind ((Reader.u1 : Decoder Nat).runAt cc pc) _ = _
  rw [show (Reader.u1 : Decoder Nat).runAt cc pc = _ from h]
  rfl)
theorem zd_91 {cc : ByteArray} {pc : Nat} (h : zU cc pc 91) : decode cc pc = .ok (.dup_x2, 1) := zd_of (by
  show Except.bind ((Reader.u1 : Decoder Nat).runAt cc pc) _ = _
  rw [show (Reader.u1 : Decoder Nat).runAt cc pc = _ from h]
  rfl)
theorem zd_92 {cc : ByteArray} {pc : Nat} (h : zU cc pc 92) : decode cc pc = .ok (.dup2, 1) := zd_of (by
  show Except.bind ((Reader.u1 : Decoder Nat).runAt cc pc) _ = _
  rw [show (Reader.u1 : Decoder Nat).runAt cc pc = _ from h]
  rfl)
theorem zd_96 {cc : ByteArray} {pc : Nat} (h : zU cc pc 96) : decode cc pc = .ok (.iadd, 1) := zd_of (by
  show Except.bind ((Reader.u1 : Decoder Nat).runAt cc pc) _ = _
  rw [show (Reader.u1 : Decoder Nat).runAt cc pc = _ from h]
  rfl)
theorem zd_97 {cc : ByteArray} {pc : Nat} (h : zU cc pc 97) : decode cc pc = .ok (.ladd, 1) := zd_of (by
  show Except.bind ((Reader.u1 : Decoder Nat).runAt cc pc) _ = _
  rw [show (Reader.u1 : Decoder Nat).runAt cc pc = _ from h]
  rfl)
theorem zd_100 {cc : ByteArray} {pc : Nat} (h : zU cc pc 100) : decode cc pc = .ok (.isub, 1) := zd_of (by
  show Except.bind ((Reader.u1 : Decoder Nat).runAt cc pc) _ = _
  rw [show (Reader.u1 : Decoder Nat).runAt cc pc = _ from h]
  rfl)
theorem zd_101 {cc : ByteArray} {pc : Nat} (h : zU cc pc 101) : decode cc pc = .ok (.lsub, 1) := zd_of (by
  show Except.bind ((Reader.u1 : Decoder Nat).runAt cc pc) _ = _
  rw [show (Reader.u1 : Decoder Nat).runAt cc pc = _ from h]
  rfl)
theorem zd_104 {cc : ByteArray} {pc : Nat} (h : zU cc pc 104) : decode cc pc = .ok (.imul, 1) := zd_of (by
  show Except.bind ((Reader.u1 : Decoder Nat).runAt cc pc) _ = _
  rw [show (Reader.u1 : Decoder Nat).runAt cc pc = _ from h]
  rfl)
theorem zd_108 {cc : ByteArray} {pc : Nat} (h : zU cc pc 108) : decode cc pc = .ok (.idiv, 1) := zd_of (by
  show Except.bind ((Reader.u1 : Decoder Nat).runAt cc pc) _ = _
  rw [show (Reader.u1 : Decoder Nat).runAt cc pc = _ from h]
  rfl)
theorem zd_109 {cc : ByteArray} {pc : Nat} (h : zU cc pc 109) : decode cc pc = .ok (.ldiv, 1) := zd_of (by
  show Except.bind ((Reader.u1 : Decoder Nat).runAt cc pc) _ = _
  rw [show (Reader.u1 : Decoder Nat).runAt cc pc = _ from h]
  rfl)
theorem zd_110 {cc : ByteArray} {pc : Nat} (h : zU cc pc 110) : decode cc pc = .ok (.fdiv, 1) := zd_of (by
  show Except.bind ((Reader.u1 : Decoder Nat).runAt cc pc) _ = _
  rw [show (Reader.u1 : Decoder Nat).runAt cc pc = _ from h]
  rfl)
theorem zd_111 {cc : ByteArray} {pc : Nat} (h : zU cc pc 111) : decode cc pc = .ok (.ddiv, 1) := zd_of (by
  show Except.bind ((Reader.u1 : Decoder Nat).runAt cc pc) _ = _
  rw [show (Reader.u1 : Decoder Nat).runAt cc pc = _ from h]
  rfl)
theorem zd_112 {cc : ByteArray} {pc : Nat} (h : zU cc pc 112) : decode cc pc = .ok (.irem, 1) := zd_of (by
  show Except.bind ((Reader.u1 : Decoder Nat).runAt cc pc) _ = _
  rw [show (Reader.u1 : Decoder Nat).runAt cc pc = _ from h]
  rfl)
theorem zd_113 {cc : ByteArray} {pc : Nat} (h : zU cc pc 113) : decode cc pc = .ok (.lrem, 1) := zd_of (by
  show Except.bind ((Reader.u1 : Decoder Nat).runAt cc pc) _ = _
  rw [show (Reader.u1 : Decoder Nat).runAt cc pc = _ from h]
  rfl)
theorem zd_116 {cc : ByteArray} {pc : Nat} (h : zU cc pc 116) : decode cc pc = .ok (.ineg, 1) := zd_of (by
  show Except.bind ((Reader.u1 : Decoder Nat).runAt cc pc) _ = _
  rw [show (Reader.u1 : Decoder Nat).runAt cc pc = _ from h]
  rfl)
theorem zd_117 {cc : ByteArray} {pc : Nat} (h : zU cc pc 117) : decode cc pc = .ok (.lneg, 1) := zd_of (by
  show Except.bind ((Reader.u1 : Decoder Nat).runAt cc pc) _ = _
  rw [show (Reader.u1 : Decoder Nat).runAt cc pc = _ from h]
  rfl)
theorem zd_120 {cc : ByteArray} {pc : Nat} (h : zU cc pc 120) : decode cc pc = .ok (.ishl, 1) := zd_of (by
  show Except.bind ((Reader.u1 : Decoder Nat).runAt cc pc) _ = _
  rw [show (Reader.u1 : Decoder Nat).runAt cc pc = _ from h]
  rfl)
theorem zd_122 {cc : ByteArray} {pc : Nat} (h : zU cc pc 122) : decode cc pc = .ok (.ishr, 1) := zd_of (by
  show Except.bind ((Reader.u1 : Decoder Nat).runAt cc pc) _ = _
  rw [show (Reader.u1 : Decoder Nat).runAt cc pc = _ from h]
  rfl)
theorem zd_124 {cc : ByteArray} {pc : Nat} (h : zU cc pc 124) : decode cc pc = .ok (.iushr, 1) := zd_of (by
  show Except.bind ((Reader.u1 : Decoder Nat).runAt cc pc) _ = _
  rw [show (Reader.u1 : Decoder Nat).runAt cc pc = _ from h]
  rfl)
theorem zd_126 {cc : ByteArray} {pc : Nat} (h : zU cc pc 126) : decode cc pc = .ok (.iand, 1) := zd_of (by
  show Except.bind ((Reader.u1 : Decoder Nat).runAt cc pc) _ = _
  rw [show (Reader.u1 : Decoder Nat).runAt cc pc = _ from h]
  rfl)
theorem zd_128 {cc : ByteArray} {pc : Nat} (h : zU cc pc 128) : decode cc pc = .ok (.ior, 1) := zd_of (by
  show Except.bind ((Reader.u1 : Decoder Nat).runAt cc pc) _ = _
  rw [show (Reader.u1 : Decoder Nat).runAt cc pc = _ from h]
  rfl)
theorem zd_130 {cc : ByteArray} {pc : Nat} (h : zU cc pc 130) : decode cc pc = .ok (.ixor, 1) := zd_of (by
  show Except.bind ((Reader.u1 : Decoder Nat).runAt cc pc) _ = _
  rw [show (Reader.u1 : Decoder Nat).runAt cc pc = _ from h]
  rfl)
theorem zd_133 {cc : ByteArray} {pc : Nat} (h : zU cc pc 133) : decode cc pc = .ok (.i2l, 1) := zd_of (by
  show Except.bind ((Reader.u1 : Decoder Nat).runAt cc pc) _ = _
  rw [show (Reader.u1 : Decoder Nat).runAt cc pc = _ from h]
  rfl)
theorem zd_134 {cc : ByteArray} {pc : Nat} (h : zU cc pc 134) : decode cc pc = .ok (.i2f, 1) := zd_of (by
  show Except.bind ((Reader.u1 : Decoder Nat).runAt cc pc) _ = _
  rw [show (Reader.u1 : Decoder Nat).runAt cc pc = _ from h]
  rfl)
theorem zd_135 {cc : ByteArray} {pc : Nat} (h : zU cc pc 135) : decode cc pc = .ok (.i2d, 1) := zd_of (by
  show Except.bind ((Reader.u1 : Decoder Nat).runAt cc pc) _ = _
  rw [show (Reader.u1 : Decoder Nat).runAt cc pc = _ from h]
  rfl)
theorem zd_136 {cc : ByteArray} {pc : Nat} (h : zU cc pc 136) : decode cc pc = .ok (.l2i, 1) := zd_of (by
  show Except.bind ((Reader.u1 : Decoder Nat).runAt cc pc) _ = _
  rw [show (Reader.u1 : Decoder Nat).runAt cc pc = _ from h]
  rfl)
theorem zd_141 {cc : ByteArray} {pc : Nat} (h : zU cc pc 141) : decode cc pc = .ok (.f2d, 1) := zd_of (by
  show Except.bind ((Reader.u1 : Decoder Nat).runAt cc pc) _ = _
  rw [show (Reader.u1 : Decoder Nat).runAt cc pc = _ from h]
  rfl)
theorem zd_145 {cc : ByteArray} {pc : Nat} (h : zU cc pc 145) : decode cc pc = .ok (.i2b, 1) := zd_of (by
  show Except.bind ((Reader.u1 : Decoder Nat).runAt cc pc) _ = _
  rw [show (Reader.u1 : Decoder Nat).runAt cc pc = _ from h]
  rfl)
theorem zd_146 {cc : ByteArray} {pc : Nat} (h : zU cc pc 146) : decode cc pc = .ok (.i2c, 1) := zd_of (by
  show Except.bind ((Reader.u1 : Decoder Nat).runAt cc pc) _ = _
  rw [show (Reader.u1 : Decoder Nat).runAt cc pc = _ from h]
  rfl)
theorem zd_148 {cc : ByteArray} {pc : Nat} (h : zU cc pc 148) : decode cc pc = .ok (.lcmp, 1) := zd_of (by
  show Except.bind ((Reader.u1 : Decoder Nat).runAt cc pc) _ = _
  rw [show (Reader.u1 : Decoder Nat).runAt cc pc = _ from h]
  rfl)
theorem zd_149 {cc : ByteArray} {pc : Nat} (h : zU cc pc 149) : decode cc pc = .ok (.fcmp .l, 1) := zd_of (by
  show Except.bind ((Reader.u1 : Decoder Nat).runAt cc pc) _ = _
  rw [show (Reader.u1 : Decoder Nat).runAt cc pc = _ from h]
  rfl)
theorem zd_151 {cc : ByteArray} {pc : Nat} (h : zU cc pc 151) : decode cc pc = .ok (.dcmp .l, 1) := zd_of (by
  show Except.bind ((Reader.u1 : Decoder Nat).runAt cc pc) _ = _
  rw [show (Reader.u1 : Decoder Nat).runAt cc pc = _ from h]
  rfl)
theorem zd_172 {cc : ByteArray} {pc : Nat} (h : zU cc pc 172) : decode cc pc = .ok (.ireturn, 1) := zd_of (by
  show Except.bind ((Reader.u1 : Decoder Nat).runAt cc pc) _ = _
  rw [show (Reader.u1 : Decoder Nat).runAt cc pc = _ from h]
  rfl)
theorem zd_173 {cc : ByteArray} {pc : Nat} (h : zU cc pc 173) : decode cc pc = .ok (.lreturn, 1) := zd_of (by
  show Except.bind ((Reader.u1 : Decoder Nat).runAt cc pc) _ = _
  rw [show (Reader.u1 : Decoder Nat).runAt cc pc = _ from h]
  rfl)
theorem zd_174 {cc : ByteArray} {pc : Nat} (h : zU cc pc 174) : decode cc pc = .ok (.freturn, 1) := zd_of (by
  show Except.bind ((Reader.u1 : Decoder Nat).runAt cc pc) _ = _
  rw [show (Reader.u1 : Decoder Nat).runAt cc pc = _ from h]
  rfl)
theorem zd_175 {cc : ByteArray} {pc : Nat} (h : zU cc pc 175) : decode cc pc = .ok (.dreturn, 1) := zd_of (by
  show Except.bind ((Reader.u1 : Decoder Nat).runAt cc pc) _ = _
  rw [show (Reader.u1 : Decoder Nat).runAt cc pc = _ from h]
  rfl)
theorem zd_176 {cc : ByteArray} {pc : Nat} (h : zU cc pc 176) : decode cc pc = .ok (.areturn, 1) := zd_of (by
  show Except.bind ((Reader.u1 : Decoder Nat).runAt cc pc) _ = _
  rw [show (Reader.u1 : Decoder Nat).runAt cc pc = _ from h]
  rfl)
theorem zd_177 {cc : ByteArray} {pc : Nat} (h : zU cc pc 177) : decode cc pc = .ok (.return_, 1) := zd_of (by
  show Except.bind ((Reader.u1 : Decoder Nat).runAt cc pc) _ = _
  rw [show (Reader.u1 : Decoder Nat).runAt cc pc = _ from h]
  rfl)
theorem zd_190 {cc : ByteArray} {pc : Nat} (h : zU cc pc 190) : decode cc pc = .ok (.arraylength, 1) := zd_of (by
  show Except.bind ((Reader.u1 : Decoder Nat).runAt cc pc) _ = _
  rw [show (Reader.u1 : Decoder Nat).runAt cc pc = _ from h]
  rfl)
theorem zd_191 {cc : ByteArray} {pc : Nat} (h : zU cc pc 191) : decode cc pc = .ok (.athrow, 1) := zd_of (by
  show Except.bind ((Reader.u1 : Decoder Nat).runAt cc pc) _ = _
  rw [show (Reader.u1 : Decoder Nat).runAt cc pc = _ from h]
  rfl)
theorem zd_16 {cc : ByteArray} {pc a : Nat} (h : zU cc pc 16) (h1 : zU cc (pc + 1) a) : decode cc pc = .ok (.bipush (Reader.signed 8 a), 2) := zd_of (by
  show Except.bind ((Reader.u1 : Decoder Nat).runAt cc pc) _ = _
  rw [show (Reader.u1 : Decoder Nat).runAt cc pc = _ from h]
  (first | (show Except.bind ((Reader.u1 : Decoder Nat).runAt cc (pc + 1)) _ = _; rw [show (Reader.u1 : Decoder Nat).runAt cc (pc + 1) = _ from h1]) | (show Except.bind (Except.bind ((Reader.u1 : Decoder Nat).runAt cc (pc + 1)) _) _ = _; rw [show (Reader.u1 : Decoder Nat).runAt cc (pc + 1) = _ from h1]) | (show Except.bind (Except.bind (Except.bind ((Reader.u1 : Decoder Nat).runAt cc (pc + 1)) _) _) _ = _; rw [show (Reader.u1 : Decoder Nat).runAt cc (pc + 1) = _ from h1]))
  rfl)
theorem zd_18 {cc : ByteArray} {pc a : Nat} (h : zU cc pc 18) (h1 : zU cc (pc + 1) a) : decode cc pc = .ok (.ldc a, 2) := zd_of (by
  show Except.bind ((Reader.u1 : Decoder Nat).runAt cc pc) _ = _
  rw [show (Reader.u1 : Decoder Nat).runAt cc pc = _ from h]
  (first | (show Except.bind ((Reader.u1 : Decoder Nat).runAt cc (pc + 1)) _ = _; rw [show (Reader.u1 : Decoder Nat).runAt cc (pc + 1) = _ from h1]) | (show Except.bind (Except.bind ((Reader.u1 : Decoder Nat).runAt cc (pc + 1)) _) _ = _; rw [show (Reader.u1 : Decoder Nat).runAt cc (pc + 1) = _ from h1]) | (show Except.bind (Except.bind (Except.bind ((Reader.u1 : Decoder Nat).runAt cc (pc + 1)) _) _) _ = _; rw [show (Reader.u1 : Decoder Nat).runAt cc (pc + 1) = _ from h1]))
  rfl)
theorem zd_21 {cc : ByteArray} {pc a : Nat} (h : zU cc pc 21) (h1 : zU cc (pc + 1) a) : decode cc pc = .ok (.iload a, 2) := zd_of (by
  show Except.bind ((Reader.u1 : Decoder Nat).runAt cc pc) _ = _
  rw [show (Reader.u1 : Decoder Nat).runAt cc pc = _ from h]
  (first | (show Except.bind ((Reader.u1 : Decoder Nat).runAt cc (pc + 1)) _ = _; rw [show (Reader.u1 : Decoder Nat).runAt cc (pc + 1) = _ from h1]) | (show Except.bind (Except.bind ((Reader.u1 : Decoder Nat).runAt cc (pc + 1)) _) _ = _; rw [show (Reader.u1 : Decoder Nat).runAt cc (pc + 1) = _ from h1]) | (show Except.bind (Except.bind (Except.bind ((Reader.u1 : Decoder Nat).runAt cc (pc + 1)) _) _) _ = _; rw [show (Reader.u1 : Decoder Nat).runAt cc (pc + 1) = _ from h1]))
  rfl)
theorem zd_22 {cc : ByteArray} {pc a : Nat} (h : zU cc pc 22) (h1 : zU cc (pc + 1) a) : decode cc pc = .ok (.lload a, 2) := zd_of (by
  show Except.bind ((Reader.u1 : Decoder Nat).runAt cc pc) _ = _
  rw [show (Reader.u1 : Decoder Nat).runAt cc pc = _ from h]
  (first | (show Except.bind ((Reader.u1 : Decoder Nat).runAt cc (pc + 1)) _ = _; rw [show (Reader.u1 : Decoder Nat).runAt cc (pc + 1) = _ from h1]) | (show Except.bind (Except.bind ((Reader.u1 : Decoder Nat).runAt cc (pc + 1)) _) _ = _; rw [show (Reader.u1 : Decoder Nat).runAt cc (pc + 1) = _ from h1]) | (show Except.bind (Except.bind (Except.bind ((Reader.u1 : Decoder Nat).runAt cc (pc + 1)) _) _) _ = _; rw [show (Reader.u1 : Decoder Nat).runAt cc (pc + 1) = _ from h1]))
  rfl)
theorem zd_23 {cc : ByteArray} {pc a : Nat} (h : zU cc pc 23) (h1 : zU cc (pc + 1) a) : decode cc pc = .ok (.fload a, 2) := zd_of (by
  show Except.bind ((Reader.u1 : Decoder Nat).runAt cc pc) _ = _
  rw [show (Reader.u1 : Decoder Nat).runAt cc pc = _ from h]
  (first | (show Except.bind ((Reader.u1 : Decoder Nat).runAt cc (pc + 1)) _ = _; rw [show (Reader.u1 : Decoder Nat).runAt cc (pc + 1) = _ from h1]) | (show Except.bind (Except.bind ((Reader.u1 : Decoder Nat).runAt cc (pc + 1)) _) _ = _; rw [show (Reader.u1 : Decoder Nat).runAt cc (pc + 1) = _ from h1]) | (show Except.bind (Except.bind (Except.bind ((Reader.u1 : Decoder Nat).runAt cc (pc + 1)) _) _) _ = _; rw [show (Reader.u1 : Decoder Nat).runAt cc (pc + 1) = _ from h1]))
  rfl)
theorem zd_24 {cc : ByteArray} {pc a : Nat} (h : zU cc pc 24) (h1 : zU cc (pc + 1) a) : decode cc pc = .ok (.dload a, 2) := zd_of (by
  show Except.bind ((Reader.u1 : Decoder Nat).runAt cc pc) _ = _
  rw [show (Reader.u1 : Decoder Nat).runAt cc pc = _ from h]
  (first | (show Except.bind ((Reader.u1 : Decoder Nat).runAt cc (pc + 1)) _ = _; rw [show (Reader.u1 : Decoder Nat).runAt cc (pc + 1) = _ from h1]) | (show Except.bind (Except.bind ((Reader.u1 : Decoder Nat).runAt cc (pc + 1)) _) _ = _; rw [show (Reader.u1 : Decoder Nat).runAt cc (pc + 1) = _ from h1]) | (show Except.bind (Except.bind (Except.bind ((Reader.u1 : Decoder Nat).runAt cc (pc + 1)) _) _) _ = _; rw [show (Reader.u1 : Decoder Nat).runAt cc (pc + 1) = _ from h1]))
  rfl)
theorem zd_25 {cc : ByteArray} {pc a : Nat} (h : zU cc pc 25) (h1 : zU cc (pc + 1) a) : decode cc pc = .ok (.aload a, 2) := zd_of (by
  show Except.bind ((Reader.u1 : Decoder Nat).runAt cc pc) _ = _
  rw [show (Reader.u1 : Decoder Nat).runAt cc pc = _ from h]
  (first | (show Except.bind ((Reader.u1 : Decoder Nat).runAt cc (pc + 1)) _ = _; rw [show (Reader.u1 : Decoder Nat).runAt cc (pc + 1) = _ from h1]) | (show Except.bind (Except.bind ((Reader.u1 : Decoder Nat).runAt cc (pc + 1)) _) _ = _; rw [show (Reader.u1 : Decoder Nat).runAt cc (pc + 1) = _ from h1]) | (show Except.bind (Except.bind (Except.bind ((Reader.u1 : Decoder Nat).runAt cc (pc + 1)) _) _) _ = _; rw [show (Reader.u1 : Decoder Nat).runAt cc (pc + 1) = _ from h1]))
  rfl)
theorem zd_54 {cc : ByteArray} {pc a : Nat} (h : zU cc pc 54) (h1 : zU cc (pc + 1) a) : decode cc pc = .ok (.istore a, 2) := zd_of (by
  show Except.bind ((Reader.u1 : Decoder Nat).runAt cc pc) _ = _
  rw [show (Reader.u1 : Decoder Nat).runAt cc pc = _ from h]
  (first | (show Except.bind ((Reader.u1 : Decoder Nat).runAt cc (pc + 1)) _ = _; rw [show (Reader.u1 : Decoder Nat).runAt cc (pc + 1) = _ from h1]) | (show Except.bind (Except.bind ((Reader.u1 : Decoder Nat).runAt cc (pc + 1)) _) _ = _; rw [show (Reader.u1 : Decoder Nat).runAt cc (pc + 1) = _ from h1]) | (show Except.bind (Except.bind (Except.bind ((Reader.u1 : Decoder Nat).runAt cc (pc + 1)) _) _) _ = _; rw [show (Reader.u1 : Decoder Nat).runAt cc (pc + 1) = _ from h1]))
  rfl)
theorem zd_56 {cc : ByteArray} {pc a : Nat} (h : zU cc pc 56) (h1 : zU cc (pc + 1) a) : decode cc pc = .ok (.fstore a, 2) := zd_of (by
  show Except.bind ((Reader.u1 : Decoder Nat).runAt cc pc) _ = _
  rw [show (Reader.u1 : Decoder Nat).runAt cc pc = _ from h]
  (first | (show Except.bind ((Reader.u1 : Decoder Nat).runAt cc (pc + 1)) _ = _; rw [show (Reader.u1 : Decoder Nat).runAt cc (pc + 1) = _ from h1]) | (show Except.bind (Except.bind ((Reader.u1 : Decoder Nat).runAt cc (pc + 1)) _) _ = _; rw [show (Reader.u1 : Decoder Nat).runAt cc (pc + 1) = _ from h1]) | (show Except.bind (Except.bind (Except.bind ((Reader.u1 : Decoder Nat).runAt cc (pc + 1)) _) _) _ = _; rw [show (Reader.u1 : Decoder Nat).runAt cc (pc + 1) = _ from h1]))
  rfl)
theorem zd_57 {cc : ByteArray} {pc a : Nat} (h : zU cc pc 57) (h1 : zU cc (pc + 1) a) : decode cc pc = .ok (.dstore a, 2) := zd_of (by
  show Except.bind ((Reader.u1 : Decoder Nat).runAt cc pc) _ = _
  rw [show (Reader.u1 : Decoder Nat).runAt cc pc = _ from h]
  (first | (show Except.bind ((Reader.u1 : Decoder Nat).runAt cc (pc + 1)) _ = _; rw [show (Reader.u1 : Decoder Nat).runAt cc (pc + 1) = _ from h1]) | (show Except.bind (Except.bind ((Reader.u1 : Decoder Nat).runAt cc (pc + 1)) _) _ = _; rw [show (Reader.u1 : Decoder Nat).runAt cc (pc + 1) = _ from h1]) | (show Except.bind (Except.bind (Except.bind ((Reader.u1 : Decoder Nat).runAt cc (pc + 1)) _) _) _ = _; rw [show (Reader.u1 : Decoder Nat).runAt cc (pc + 1) = _ from h1]))
  rfl)
theorem zd_58 {cc : ByteArray} {pc a : Nat} (h : zU cc pc 58) (h1 : zU cc (pc + 1) a) : decode cc pc = .ok (.astore a, 2) := zd_of (by
  show Except.bind ((Reader.u1 : Decoder Nat).runAt cc pc) _ = _
  rw [show (Reader.u1 : Decoder Nat).runAt cc pc = _ from h]
  (first | (show Except.bind ((Reader.u1 : Decoder Nat).runAt cc (pc + 1)) _ = _; rw [show (Reader.u1 : Decoder Nat).runAt cc (pc + 1) = _ from h1]) | (show Except.bind (Except.bind ((Reader.u1 : Decoder Nat).runAt cc (pc + 1)) _) _ = _; rw [show (Reader.u1 : Decoder Nat).runAt cc (pc + 1) = _ from h1]) | (show Except.bind (Except.bind (Except.bind ((Reader.u1 : Decoder Nat).runAt cc (pc + 1)) _) _) _ = _; rw [show (Reader.u1 : Decoder Nat).runAt cc (pc + 1) = _ from h1]))
  rfl)
theorem zd_17 {cc : ByteArray} {pc a b : Nat} (h : zU cc pc 17) (h1 : zU cc (pc + 1) a) (h2 : zU cc (pc + 2) b) : decode cc pc = .ok (.sipush (Reader.signed 16 (a * 256 + b)), 3) := zd_of (by
  show Except.bind ((Reader.u1 : Decoder Nat).runAt cc pc) _ = _
  rw [show (Reader.u1 : Decoder Nat).runAt cc pc = _ from h]
  (first | (show Except.bind ((Reader.u1 : Decoder Nat).runAt cc (pc + 1)) _ = _; rw [show (Reader.u1 : Decoder Nat).runAt cc (pc + 1) = _ from h1]) | (show Except.bind (Except.bind ((Reader.u1 : Decoder Nat).runAt cc (pc + 1)) _) _ = _; rw [show (Reader.u1 : Decoder Nat).runAt cc (pc + 1) = _ from h1]) | (show Except.bind (Except.bind (Except.bind ((Reader.u1 : Decoder Nat).runAt cc (pc + 1)) _) _) _ = _; rw [show (Reader.u1 : Decoder Nat).runAt cc (pc + 1) = _ from h1]))
  (first | (show Except.bind ((Reader.u1 : Decoder Nat).runAt cc (pc + 2)) _ = _; rw [show (Reader.u1 : Decoder Nat).runAt cc (pc + 2) = _ from h2]) | (show Except.bind (Except.bind ((Reader.u1 : Decoder Nat).runAt cc (pc + 2)) _) _ = _; rw [show (Reader.u1 : Decoder Nat).runAt cc (pc + 2) = _ from h2]) | (show Except.bind (Except.bind (Except.bind ((Reader.u1 : Decoder Nat).runAt cc (pc + 2)) _) _) _ = _; rw [show (Reader.u1 : Decoder Nat).runAt cc (pc + 2) = _ from h2]))
  rfl)
theorem zd_19 {cc : ByteArray} {pc a b : Nat} (h : zU cc pc 19) (h1 : zU cc (pc + 1) a) (h2 : zU cc (pc + 2) b) : decode cc pc = .ok (.ldc_w (a * 256 + b), 3) := zd_of (by
  show Except.bind ((Reader.u1 : Decoder Nat).runAt cc pc) _ = _
  rw [show (Reader.u1 : Decoder Nat).runAt cc pc = _ from h]
  (first | (show Except.bind ((Reader.u1 : Decoder Nat).runAt cc (pc + 1)) _ = _; rw [show (Reader.u1 : Decoder Nat).runAt cc (pc + 1) = _ from h1]) | (show Except.bind (Except.bind ((Reader.u1 : Decoder Nat).runAt cc (pc + 1)) _) _ = _; rw [show (Reader.u1 : Decoder Nat).runAt cc (pc + 1) = _ from h1]) | (show Except.bind (Except.bind (Except.bind ((Reader.u1 : Decoder Nat).runAt cc (pc + 1)) _) _) _ = _; rw [show (Reader.u1 : Decoder Nat).runAt cc (pc + 1) = _ from h1]))
  (first | (show Except.bind ((Reader.u1 : Decoder Nat).runAt cc (pc + 2)) _ = _; rw [show (Reader.u1 : Decoder Nat).runAt cc (pc + 2) = _ from h2]) | (show Except.bind (Except.bind ((Reader.u1 : Decoder Nat).runAt cc (pc + 2)) _) _ = _; rw [show (Reader.u1 : Decoder Nat).runAt cc (pc + 2) = _ from h2]) | (show Except.bind (Except.bind (Except.bind ((Reader.u1 : Decoder Nat).runAt cc (pc + 2)) _) _) _ = _; rw [show (Reader.u1 : Decoder Nat).runAt cc (pc + 2) = _ from h2]))
  rfl)
theorem zd_20 {cc : ByteArray} {pc a b : Nat} (h : zU cc pc 20) (h1 : zU cc (pc + 1) a) (h2 : zU cc (pc + 2) b) : decode cc pc = .ok (.ldc2_w (a * 256 + b), 3) := zd_of (by
  show Except.bind ((Reader.u1 : Decoder Nat).runAt cc pc) _ = _
  rw [show (Reader.u1 : Decoder Nat).runAt cc pc = _ from h]
  (first | (show Except.bind ((Reader.u1 : Decoder Nat).runAt cc (pc + 1)) _ = _; rw [show (Reader.u1 : Decoder Nat).runAt cc (pc + 1) = _ from h1]) | (show Except.bind (Except.bind ((Reader.u1 : Decoder Nat).runAt cc (pc + 1)) _) _ = _; rw [show (Reader.u1 : Decoder Nat).runAt cc (pc + 1) = _ from h1]) | (show Except.bind (Except.bind (Except.bind ((Reader.u1 : Decoder Nat).runAt cc (pc + 1)) _) _) _ = _; rw [show (Reader.u1 : Decoder Nat).runAt cc (pc + 1) = _ from h1]))
  (first | (show Except.bind ((Reader.u1 : Decoder Nat).runAt cc (pc + 2)) _ = _; rw [show (Reader.u1 : Decoder Nat).runAt cc (pc + 2) = _ from h2]) | (show Except.bind (Except.bind ((Reader.u1 : Decoder Nat).runAt cc (pc + 2)) _) _ = _; rw [show (Reader.u1 : Decoder Nat).runAt cc (pc + 2) = _ from h2]) | (show Except.bind (Except.bind (Except.bind ((Reader.u1 : Decoder Nat).runAt cc (pc + 2)) _) _) _ = _; rw [show (Reader.u1 : Decoder Nat).runAt cc (pc + 2) = _ from h2]))
  rfl)
theorem zd_132 {cc : ByteArray} {pc a b : Nat} (h : zU cc pc 132) (h1 : zU cc (pc + 1) a) (h2 : zU cc (pc + 2) b) : decode cc pc = .ok (.iinc a (Reader.signed 8 b), 3) := zd_of (by
  show Except.bind ((Reader.u1 : Decoder Nat).runAt cc pc) _ = _
  rw [show (Reader.u1 : Decoder Nat).runAt cc pc = _ from h]
  (first | (show Except.bind ((Reader.u1 : Decoder Nat).runAt cc (pc + 1)) _ = _; rw [show (Reader.u1 : Decoder Nat).runAt cc (pc + 1) = _ from h1]) | (show Except.bind (Except.bind ((Reader.u1 : Decoder Nat).runAt cc (pc + 1)) _) _ = _; rw [show (Reader.u1 : Decoder Nat).runAt cc (pc + 1) = _ from h1]) | (show Except.bind (Except.bind (Except.bind ((Reader.u1 : Decoder Nat).runAt cc (pc + 1)) _) _) _ = _; rw [show (Reader.u1 : Decoder Nat).runAt cc (pc + 1) = _ from h1]))
  (first | (show Except.bind ((Reader.u1 : Decoder Nat).runAt cc (pc + 2)) _ = _; rw [show (Reader.u1 : Decoder Nat).runAt cc (pc + 2) = _ from h2]) | (show Except.bind (Except.bind ((Reader.u1 : Decoder Nat).runAt cc (pc + 2)) _) _ = _; rw [show (Reader.u1 : Decoder Nat).runAt cc (pc + 2) = _ from h2]) | (show Except.bind (Except.bind (Except.bind ((Reader.u1 : Decoder Nat).runAt cc (pc + 2)) _) _) _ = _; rw [show (Reader.u1 : Decoder Nat).runAt cc (pc + 2) = _ from h2]))
  rfl)
theorem zd_153 {cc : ByteArray} {pc a b : Nat} (h : zU cc pc 153) (h1 : zU cc (pc + 1) a) (h2 : zU cc (pc + 2) b) : decode cc pc = .ok (.ifCond .eq (Reader.signed 16 (a * 256 + b)), 3) := zd_of (by
  show Except.bind ((Reader.u1 : Decoder Nat).runAt cc pc) _ = _
  rw [show (Reader.u1 : Decoder Nat).runAt cc pc = _ from h]
  (first | (show Except.bind ((Reader.u1 : Decoder Nat).runAt cc (pc + 1)) _ = _; rw [show (Reader.u1 : Decoder Nat).runAt cc (pc + 1) = _ from h1]) | (show Except.bind (Except.bind ((Reader.u1 : Decoder Nat).runAt cc (pc + 1)) _) _ = _; rw [show (Reader.u1 : Decoder Nat).runAt cc (pc + 1) = _ from h1]) | (show Except.bind (Except.bind (Except.bind ((Reader.u1 : Decoder Nat).runAt cc (pc + 1)) _) _) _ = _; rw [show (Reader.u1 : Decoder Nat).runAt cc (pc + 1) = _ from h1]))
  (first | (show Except.bind ((Reader.u1 : Decoder Nat).runAt cc (pc + 2)) _ = _; rw [show (Reader.u1 : Decoder Nat).runAt cc (pc + 2) = _ from h2]) | (show Except.bind (Except.bind ((Reader.u1 : Decoder Nat).runAt cc (pc + 2)) _) _ = _; rw [show (Reader.u1 : Decoder Nat).runAt cc (pc + 2) = _ from h2]) | (show Except.bind (Except.bind (Except.bind ((Reader.u1 : Decoder Nat).runAt cc (pc + 2)) _) _) _ = _; rw [show (Reader.u1 : Decoder Nat).runAt cc (pc + 2) = _ from h2]))
  rfl)
theorem zd_154 {cc : ByteArray} {pc a b : Nat} (h : zU cc pc 154) (h1 : zU cc (pc + 1) a) (h2 : zU cc (pc + 2) b) : decode cc pc = .ok (.ifCond .ne (Reader.signed 16 (a * 256 + b)), 3) := zd_of (by
  show Except.bind ((Reader.u1 : Decoder Nat).runAt cc pc) _ = _
  rw [show (Reader.u1 : Decoder Nat).runAt cc pc = _ from h]
  (first | (show Except.bind ((Reader.u1 : Decoder Nat).runAt cc (pc + 1)) _ = _; rw [show (Reader.u1 : Decoder Nat).runAt cc (pc + 1) = _ from h1]) | (show Except.bind (Except.bind ((Reader.u1 : Decoder Nat).runAt cc (pc + 1)) _) _ = _; rw [show (Reader.u1 : Decoder Nat).runAt cc (pc + 1) = _ from h1]) | (show Except.bind (Except.bind (Except.bind ((Reader.u1 : Decoder Nat).runAt cc (pc + 1)) _) _) _ = _; rw [show (Reader.u1 : Decoder Nat).runAt cc (pc + 1) = _ from h1]))
  (first | (show Except.bind ((Reader.u1 : Decoder Nat).runAt cc (pc + 2)) _ = _; rw [show (Reader.u1 : Decoder Nat).runAt cc (pc + 2) = _ from h2]) | (show Except.bind (Except.bind ((Reader.u1 : Decoder Nat).runAt cc (pc + 2)) _) _ = _; rw [show (Reader.u1 : Decoder Nat).runAt cc (pc + 2) = _ from h2]) | (show Except.bind (Except.bind (Except.bind ((Reader.u1 : Decoder Nat).runAt cc (pc + 2)) _) _) _ = _; rw [show (Reader.u1 : Decoder Nat).runAt cc (pc + 2) = _ from h2]))
  rfl)
theorem zd_155 {cc : ByteArray} {pc a b : Nat} (h : zU cc pc 155) (h1 : zU cc (pc + 1) a) (h2 : zU cc (pc + 2) b) : decode cc pc = .ok (.ifCond .lt (Reader.signed 16 (a * 256 + b)), 3) := zd_of (by
  show Except.bind ((Reader.u1 : Decoder Nat).runAt cc pc) _ = _
  rw [show (Reader.u1 : Decoder Nat).runAt cc pc = _ from h]
  (first | (show Except.bind ((Reader.u1 : Decoder Nat).runAt cc (pc + 1)) _ = _; rw [show (Reader.u1 : Decoder Nat).runAt cc (pc + 1) = _ from h1]) | (show Except.bind (Except.bind ((Reader.u1 : Decoder Nat).runAt cc (pc + 1)) _) _ = _; rw [show (Reader.u1 : Decoder Nat).runAt cc (pc + 1) = _ from h1]) | (show Except.bind (Except.bind (Except.bind ((Reader.u1 : Decoder Nat).runAt cc (pc + 1)) _) _) _ = _; rw [show (Reader.u1 : Decoder Nat).runAt cc (pc + 1) = _ from h1]))
  (first | (show Except.bind ((Reader.u1 : Decoder Nat).runAt cc (pc + 2)) _ = _; rw [show (Reader.u1 : Decoder Nat).runAt cc (pc + 2) = _ from h2]) | (show Except.bind (Except.bind ((Reader.u1 : Decoder Nat).runAt cc (pc + 2)) _) _ = _; rw [show (Reader.u1 : Decoder Nat).runAt cc (pc + 2) = _ from h2]) | (show Except.bind (Except.bind (Except.bind ((Reader.u1 : Decoder Nat).runAt cc (pc + 2)) _) _) _ = _; rw [show (Reader.u1 : Decoder Nat).runAt cc (pc + 2) = _ from h2]))
  rfl)
theorem zd_156 {cc : ByteArray} {pc a b : Nat} (h : zU cc pc 156) (h1 : zU cc (pc + 1) a) (h2 : zU cc (pc + 2) b) : decode cc pc = .ok (.ifCond .ge (Reader.signed 16 (a * 256 + b)), 3) := zd_of (by
  show Except.bind ((Reader.u1 : Decoder Nat).runAt cc pc) _ = _
  rw [show (Reader.u1 : Decoder Nat).runAt cc pc = _ from h]
  (first | (show Except.bind ((Reader.u1 : Decoder Nat).runAt cc (pc + 1)) _ = _; rw [show (Reader.u1 : Decoder Nat).runAt cc (pc + 1) = _ from h1]) | (show Except.bind (Except.bind ((Reader.u1 : Decoder Nat).runAt cc (pc + 1)) _) _ = _; rw [show (Reader.u1 : Decoder Nat).runAt cc (pc + 1) = _ from h1]) | (show Except.bind (Except.bind (Except.bind ((Reader.u1 : Decoder Nat).runAt cc (pc + 1)) _) _) _ = _; rw [show (Reader.u1 : Decoder Nat).runAt cc (pc + 1) = _ from h1]))
  (first | (show Except.bind ((Reader.u1 : Decoder Nat).runAt cc (pc + 2)) _ = _; rw [show (Reader.u1 : Decoder Nat).runAt cc (pc + 2) = _ from h2]) | (show Except.bind (Except.bind ((Reader.u1 : Decoder Nat).runAt cc (pc + 2)) _) _ = _; rw [show (Reader.u1 : Decoder Nat).runAt cc (pc + 2) = _ from h2]) | (show Except.bind (Except.bind (Except.bind ((Reader.u1 : Decoder Nat).runAt cc (pc + 2)) _) _) _ = _; rw [show (Reader.u1 : Decoder Nat).runAt cc (pc + 2) = _ from h2]))
  rfl)
theorem zd_157 {cc : ByteArray} {pc a b : Nat} (h : zU cc pc 157) (h1 : zU cc (pc + 1) a) (h2 : zU cc (pc + 2) b) : decode cc pc = .ok (.ifCond .gt (Reader.signed 16 (a * 256 + b)), 3) := zd_of (by
  show Except.bind ((Reader.u1 : Decoder Nat).runAt cc pc) _ = _
  rw [show (Reader.u1 : Decoder Nat).runAt cc pc = _ from h]
  (first | (show Except.bind ((Reader.u1 : Decoder Nat).runAt cc (pc + 1)) _ = _; rw [show (Reader.u1 : Decoder Nat).runAt cc (pc + 1) = _ from h1]) | (show Except.bind (Except.bind ((Reader.u1 : Decoder Nat).runAt cc (pc + 1)) _) _ = _; rw [show (Reader.u1 : Decoder Nat).runAt cc (pc + 1) = _ from h1]) | (show Except.bind (Except.bind (Except.bind ((Reader.u1 : Decoder Nat).runAt cc (pc + 1)) _) _) _ = _; rw [show (Reader.u1 : Decoder Nat).runAt cc (pc + 1) = _ from h1]))
  (first | (show Except.bind ((Reader.u1 : Decoder Nat).runAt cc (pc + 2)) _ = _; rw [show (Reader.u1 : Decoder Nat).runAt cc (pc + 2) = _ from h2]) | (show Except.bind (Except.bind ((Reader.u1 : Decoder Nat).runAt cc (pc + 2)) _) _ = _; rw [show (Reader.u1 : Decoder Nat).runAt cc (pc + 2) = _ from h2]) | (show Except.bind (Except.bind (Except.bind ((Reader.u1 : Decoder Nat).runAt cc (pc + 2)) _) _) _ = _; rw [show (Reader.u1 : Decoder Nat).runAt cc (pc + 2) = _ from h2]))
  rfl)
theorem zd_158 {cc : ByteArray} {pc a b : Nat} (h : zU cc pc 158) (h1 : zU cc (pc + 1) a) (h2 : zU cc (pc + 2) b) : decode cc pc = .ok (.ifCond .le (Reader.signed 16 (a * 256 + b)), 3) := zd_of (by
  show Except.bind ((Reader.u1 : Decoder Nat).runAt cc pc) _ = _
  rw [show (Reader.u1 : Decoder Nat).runAt cc pc = _ from h]
  (first | (show Except.bind ((Reader.u1 : Decoder Nat).runAt cc (pc + 1)) _ = _; rw [show (Reader.u1 : Decoder Nat).runAt cc (pc + 1) = _ from h1]) | (show Except.bind (Except.bind ((Reader.u1 : Decoder Nat).runAt cc (pc + 1)) _) _ = _; rw [show (Reader.u1 : Decoder Nat).runAt cc (pc + 1) = _ from h1]) | (show Except.bind (Except.bind (Except.bind ((Reader.u1 : Decoder Nat).runAt cc (pc + 1)) _) _) _ = _; rw [show (Reader.u1 : Decoder Nat).runAt cc (pc + 1) = _ from h1]))
  (first | (show Except.bind ((Reader.u1 : Decoder Nat).runAt cc (pc + 2)) _ = _; rw [show (Reader.u1 : Decoder Nat).runAt cc (pc + 2) = _ from h2]) | (show Except.bind (Except.bind ((Reader.u1 : Decoder Nat).runAt cc (pc + 2)) _) _ = _; rw [show (Reader.u1 : Decoder Nat).runAt cc (pc + 2) = _ from h2]) | (show Except.bind (Except.bind (Except.bind ((Reader.u1 : Decoder Nat).runAt cc (pc + 2)) _) _) _ = _; rw [show (Reader.u1 : Decoder Nat).runAt cc (pc + 2) = _ from h2]))
  rfl)
theorem zd_159 {cc : ByteArray} {pc a b : Nat} (h : zU cc pc 159) (h1 : zU cc (pc + 1) a) (h2 : zU cc (pc + 2) b) : decode cc pc = .ok (.if_icmp .eq (Reader.signed 16 (a * 256 + b)), 3) := zd_of (by
  show Except.bind ((Reader.u1 : Decoder Nat).runAt cc pc) _ = _
  rw [show (Reader.u1 : Decoder Nat).runAt cc pc = _ from h]
  (first | (show Except.bind ((Reader.u1 : Decoder Nat).runAt cc (pc + 1)) _ = _; rw [show (Reader.u1 : Decoder Nat).runAt cc (pc + 1) = _ from h1]) | (show Except.bind (Except.bind ((Reader.u1 : Decoder Nat).runAt cc (pc + 1)) _) _ = _; rw [show (Reader.u1 : Decoder Nat).runAt cc (pc + 1) = _ from h1]) | (show Except.bind (Except.bind (Except.bind ((Reader.u1 : Decoder Nat).runAt cc (pc + 1)) _) _) _ = _; rw [show (Reader.u1 : Decoder Nat).runAt cc (pc + 1) = _ from h1]))
  (first | (show Except.bind ((Reader.u1 : Decoder Nat).runAt cc (pc + 2)) _ = _; rw [show (Reader.u1 : Decoder Nat).runAt cc (pc + 2) = _ from h2]) | (show Except.bind (Except.bind ((Reader.u1 : Decoder Nat).runAt cc (pc + 2)) _) _ = _; rw [show (Reader.u1 : Decoder Nat).runAt cc (pc + 2) = _ from h2]) | (show Except.bind (Except.bind (Except.bind ((Reader.u1 : Decoder Nat).runAt cc (pc + 2)) _) _) _ = _; rw [show (Reader.u1 : Decoder Nat).runAt cc (pc + 2) = _ from h2]))
  rfl)
theorem zd_160 {cc : ByteArray} {pc a b : Nat} (h : zU cc pc 160) (h1 : zU cc (pc + 1) a) (h2 : zU cc (pc + 2) b) : decode cc pc = .ok (.if_icmp .ne (Reader.signed 16 (a * 256 + b)), 3) := zd_of (by
  show Except.bind ((Reader.u1 : Decoder Nat).runAt cc pc) _ = _
  rw [show (Reader.u1 : Decoder Nat).runAt cc pc = _ from h]
  (first | (show Except.bind ((Reader.u1 : Decoder Nat).runAt cc (pc + 1)) _ = _; rw [show (Reader.u1 : Decoder Nat).runAt cc (pc + 1) = _ from h1]) | (show Except.bind (Except.bind ((Reader.u1 : Decoder Nat).runAt cc (pc + 1)) _) _ = _; rw [show (Reader.u1 : Decoder Nat).runAt cc (pc + 1) = _ from h1]) | (show Except.bind (Except.bind (Except.bind ((Reader.u1 : Decoder Nat).runAt cc (pc + 1)) _) _) _ = _; rw [show (Reader.u1 : Decoder Nat).runAt cc (pc + 1) = _ from h1]))
  (first | (show Except.bind ((Reader.u1 : Decoder Nat).runAt cc (pc + 2)) _ = _; rw [show (Reader.u1 : Decoder Nat).runAt cc (pc + 2) = _ from h2]) | (show Except.bind (Except.bind ((Reader.u1 : Decoder Nat).runAt cc (pc + 2)) _) _ = _; rw [show (Reader.u1 : Decoder Nat).runAt cc (pc + 2) = _ from h2]) | (show Except.bind (Except.bind (Except.bind ((Reader.u1 : Decoder Nat).runAt cc (pc + 2)) _) _) _ = _; rw [show (Reader.u1 : Decoder Nat).runAt cc (pc + 2) = _ from h2]))
  rfl)
theorem zd_161 {cc : ByteArray} {pc a b : Nat} (h : zU cc pc 161) (h1 : zU cc (pc + 1) a) (h2 : zU cc (pc + 2) b) : decode cc pc = .ok (.if_icmp .lt (Reader.signed 16 (a * 256 + b)), 3) := zd_of (by
  show Except.bind ((Reader.u1 : Decoder Nat).runAt cc pc) _ = _
  rw [show (Reader.u1 : Decoder Nat).runAt cc pc = _ from h]
  (first | (show Except.bind ((Reader.u1 : Decoder Nat).runAt cc (pc + 1)) _ = _; rw [show (Reader.u1 : Decoder Nat).runAt cc (pc + 1) = _ from h1]) | (show Except.bind (Except.bind ((Reader.u1 : Decoder Nat).runAt cc (pc + 1)) _) _ = _; rw [show (Reader.u1 : Decoder Nat).runAt cc (pc + 1) = _ from h1]) | (show Except.bind (Except.bind (Except.bind ((Reader.u1 : Decoder Nat).runAt cc (pc + 1)) _) _) _ = _; rw [show (Reader.u1 : Decoder Nat).runAt cc (pc + 1) = _ from h1]))
  (first | (show Except.bind ((Reader.u1 : Decoder Nat).runAt cc (pc + 2)) _ = _; rw [show (Reader.u1 : Decoder Nat).runAt cc (pc + 2) = _ from h2]) | (show Except.bind (Except.bind ((Reader.u1 : Decoder Nat).runAt cc (pc + 2)) _) _ = _; rw [show (Reader.u1 : Decoder Nat).runAt cc (pc + 2) = _ from h2]) | (show Except.bind (Except.bind (Except.bind ((Reader.u1 : Decoder Nat).runAt cc (pc + 2)) _) _) _ = _; rw [show (Reader.u1 : Decoder Nat).runAt cc (pc + 2) = _ from h2]))
  rfl)
theorem zd_162 {cc : ByteArray} {pc a b : Nat} (h : zU cc pc 162) (h1 : zU cc (pc + 1) a) (h2 : zU cc (pc + 2) b) : decode cc pc = .ok (.if_icmp .ge (Reader.signed 16 (a * 256 + b)), 3) := zd_of (by
  show Except.bind ((Reader.u1 : Decoder Nat).runAt cc pc) _ = _
  rw [show (Reader.u1 : Decoder Nat).runAt cc pc = _ from h]
  (first | (show Except.bind ((Reader.u1 : Decoder Nat).runAt cc (pc + 1)) _ = _; rw [show (Reader.u1 : Decoder Nat).runAt cc (pc + 1) = _ from h1]) | (show Except.bind (Except.bind ((Reader.u1 : Decoder Nat).runAt cc (pc + 1)) _) _ = _; rw [show (Reader.u1 : Decoder Nat).runAt cc (pc + 1) = _ from h1]) | (show Except.bind (Except.bind (Except.bind ((Reader.u1 : Decoder Nat).runAt cc (pc + 1)) _) _) _ = _; rw [show (Reader.u1 : Decoder Nat).runAt cc (pc + 1) = _ from h1]))
  (first | (show Except.bind ((Reader.u1 : Decoder Nat).runAt cc (pc + 2)) _ = _; rw [show (Reader.u1 : Decoder Nat).runAt cc (pc + 2) = _ from h2]) | (show Except.bind (Except.bind ((Reader.u1 : Decoder Nat).runAt cc (pc + 2)) _) _ = _; rw [show (Reader.u1 : Decoder Nat).runAt cc (pc + 2) = _ from h2]) | (show Except.bind (Except.bind (Except.bind ((Reader.u1 : Decoder Nat).runAt cc (pc + 2)) _) _) _ = _; rw [show (Reader.u1 : Decoder Nat).runAt cc (pc + 2) = _ from h2]))
  rfl)
theorem zd_163 {cc : ByteArray} {pc a b : Nat} (h : zU cc pc 163) (h1 : zU cc (pc + 1) a) (h2 : zU cc (pc + 2) b) : decode cc pc = .ok (.if_icmp .gt (Reader.signed 16 (a * 256 + b)), 3) := zd_of (by
  show Except.bind ((Reader.u1 : Decoder Nat).runAt cc pc) _ = _
  rw [show (Reader.u1 : Decoder Nat).runAt cc pc = _ from h]
  (first | (show Except.bind ((Reader.u1 : Decoder Nat).runAt cc (pc + 1)) _ = _; rw [show (Reader.u1 : Decoder Nat).runAt cc (pc + 1) = _ from h1]) | (show Except.bind (Except.bind ((Reader.u1 : Decoder Nat).runAt cc (pc + 1)) _) _ = _; rw [show (Reader.u1 : Decoder Nat).runAt cc (pc + 1) = _ from h1]) | (show Except.bind (Except.bind (Except.bind ((Reader.u1 : Decoder Nat).runAt cc (pc + 1)) _) _) _ = _; rw [show (Reader.u1 : Decoder Nat).runAt cc (pc + 1) = _ from h1]))
  (first | (show Except.bind ((Reader.u1 : Decoder Nat).runAt cc (pc + 2)) _ = _; rw [show (Reader.u1 : Decoder Nat).runAt cc (pc + 2) = _ from h2]) | (show Except.bind (Except.bind ((Reader.u1 : Decoder Nat).runAt cc (pc + 2)) _) _ = _; rw [show (Reader.u1 : Decoder Nat).runAt cc (pc + 2) = _ from h2]) | (show Except.bind (Except.bind (Except.bind ((Reader.u1 : Decoder Nat).runAt cc (pc + 2)) _) _) _ = _; rw [show (Reader.u1 : Decoder Nat).runAt cc (pc + 2) = _ from h2]))
  rfl)
theorem zd_164 {cc : ByteArray} {pc a b : Nat} (h : zU cc pc 164) (h1 : zU cc (pc + 1) a) (h2 : zU cc (pc + 2) b) : decode cc pc = .ok (.if_icmp .le (Reader.signed 16 (a * 256 + b)), 3) := zd_of (by
  show Except.bind ((Reader.u1 : Decoder Nat).runAt cc pc) _ = _
  rw [show (Reader.u1 : Decoder Nat).runAt cc pc = _ from h]
  (first | (show Except.bind ((Reader.u1 : Decoder Nat).runAt cc (pc + 1)) _ = _; rw [show (Reader.u1 : Decoder Nat).runAt cc (pc + 1) = _ from h1]) | (show Except.bind (Except.bind ((Reader.u1 : Decoder Nat).runAt cc (pc + 1)) _) _ = _; rw [show (Reader.u1 : Decoder Nat).runAt cc (pc + 1) = _ from h1]) | (show Except.bind (Except.bind (Except.bind ((Reader.u1 : Decoder Nat).runAt cc (pc + 1)) _) _) _ = _; rw [show (Reader.u1 : Decoder Nat).runAt cc (pc + 1) = _ from h1]))
  (first | (show Except.bind ((Reader.u1 : Decoder Nat).runAt cc (pc + 2)) _ = _; rw [show (Reader.u1 : Decoder Nat).runAt cc (pc + 2) = _ from h2]) | (show Except.bind (Except.bind ((Reader.u1 : Decoder Nat).runAt cc (pc + 2)) _) _ = _; rw [show (Reader.u1 : Decoder Nat).runAt cc (pc + 2) = _ from h2]) | (show Except.bind (Except.bind (Except.bind ((Reader.u1 : Decoder Nat).runAt cc (pc + 2)) _) _) _ = _; rw [show (Reader.u1 : Decoder Nat).runAt cc (pc + 2) = _ from h2]))
  rfl)
theorem zd_167 {cc : ByteArray} {pc a b : Nat} (h : zU cc pc 167) (h1 : zU cc (pc + 1) a) (h2 : zU cc (pc + 2) b) : decode cc pc = .ok (.goto (Reader.signed 16 (a * 256 + b)), 3) := zd_of (by
  show Except.bind ((Reader.u1 : Decoder Nat).runAt cc pc) _ = _
  rw [show (Reader.u1 : Decoder Nat).runAt cc pc = _ from h]
  (first | (show Except.bind ((Reader.u1 : Decoder Nat).runAt cc (pc + 1)) _ = _; rw [show (Reader.u1 : Decoder Nat).runAt cc (pc + 1) = _ from h1]) | (show Except.bind (Except.bind ((Reader.u1 : Decoder Nat).runAt cc (pc + 1)) _) _ = _; rw [show (Reader.u1 : Decoder Nat).runAt cc (pc + 1) = _ from h1]) | (show Except.bind (Except.bind (Except.bind ((Reader.u1 : Decoder Nat).runAt cc (pc + 1)) _) _) _ = _; rw [show (Reader.u1 : Decoder Nat).runAt cc (pc + 1) = _ from h1]))
  (first | (show Except.bind ((Reader.u1 : Decoder Nat).runAt cc (pc + 2)) _ = _; rw [show (Reader.u1 : Decoder Nat).runAt cc (pc + 2) = _ from h2]) | (show Except.bind (Except.bind ((Reader.u1 : Decoder Nat).runAt cc (pc + 2)) _) _ = _; rw [show (Reader.u1 : Decoder Nat).runAt cc (pc + 2) = _ from h2]) | (show Except.bind (Except.bind (Except.bind ((Reader.u1 : Decoder Nat).runAt cc (pc + 2)) _) _) _ = _; rw [show (Reader.u1 : Decoder Nat).runAt cc (pc + 2) = _ from h2]))
  rfl)
theorem zd_178 {cc : ByteArray} {pc a b : Nat} (h : zU cc pc 178) (h1 : zU cc (pc + 1) a) (h2 : zU cc (pc + 2) b) : decode cc pc = .ok (.getstatic (a * 256 + b), 3) := zd_of (by
  show Except.bind ((Reader.u1 : Decoder Nat).runAt cc pc) _ = _
  rw [show (Reader.u1 : Decoder Nat).runAt cc pc = _ from h]
  (first | (show Except.bind ((Reader.u1 : Decoder Nat).runAt cc (pc + 1)) _ = _; rw [show (Reader.u1 : Decoder Nat).runAt cc (pc + 1) = _ from h1]) | (show Except.bind (Except.bind ((Reader.u1 : Decoder Nat).runAt cc (pc + 1)) _) _ = _; rw [show (Reader.u1 : Decoder Nat).runAt cc (pc + 1) = _ from h1]) | (show Except.bind (Except.bind (Except.bind ((Reader.u1 : Decoder Nat).runAt cc (pc + 1)) _) _) _ = _; rw [show (Reader.u1 : Decoder Nat).runAt cc (pc + 1) = _ from h1]))
  (first | (show Except.bind ((Reader.u1 : Decoder Nat).runAt cc (pc + 2)) _ = _; rw [show (Reader.u1 : Decoder Nat).runAt cc (pc + 2) = _ from h2]) | (show Except.bind (Except.bind ((Reader.u1 : Decoder Nat).runAt cc (pc + 2)) _) _ = _; rw [show (Reader.u1 : Decoder Nat).runAt cc (pc + 2) = _ from h2]) | (show Except.bind (Except.bind (Except.bind ((Reader.u1 : Decoder Nat).runAt cc (pc + 2)) _) _) _ = _; rw [show (Reader.u1 : Decoder Nat).runAt cc (pc + 2) = _ from h2]))
  rfl)
theorem zd_180 {cc : ByteArray} {pc a b : Nat} (h : zU cc pc 180) (h1 : zU cc (pc + 1) a) (h2 : zU cc (pc + 2) b) : decode cc pc = .ok (.getfield (a * 256 + b), 3) := zd_of (by
  show Except.bind ((Reader.u1 : Decoder Nat).runAt cc pc) _ = _
  rw [show (Reader.u1 : Decoder Nat).runAt cc pc = _ from h]
  (first | (show Except.bind ((Reader.u1 : Decoder Nat).runAt cc (pc + 1)) _ = _; rw [show (Reader.u1 : Decoder Nat).runAt cc (pc + 1) = _ from h1]) | (show Except.bind (Except.bind ((Reader.u1 : Decoder Nat).runAt cc (pc + 1)) _) _ = _; rw [show (Reader.u1 : Decoder Nat).runAt cc (pc + 1) = _ from h1]) | (show Except.bind (Except.bind (Except.bind ((Reader.u1 : Decoder Nat).runAt cc (pc + 1)) _) _) _ = _; rw [show (Reader.u1 : Decoder Nat).runAt cc (pc + 1) = _ from h1]))
  (first | (show Except.bind ((Reader.u1 : Decoder Nat).runAt cc (pc + 2)) _ = _; rw [show (Reader.u1 : Decoder Nat).runAt cc (pc + 2) = _ from h2]) | (show Except.bind (Except.bind ((Reader.u1 : Decoder Nat).runAt cc (pc + 2)) _) _ = _; rw [show (Reader.u1 : Decoder Nat).runAt cc (pc + 2) = _ from h2]) | (show Except.bind (Except.bind (Except.bind ((Reader.u1 : Decoder Nat).runAt cc (pc + 2)) _) _) _ = _; rw [show (Reader.u1 : Decoder Nat).runAt cc (pc + 2) = _ from h2]))
  rfl)
theorem zd_181 {cc : ByteArray} {pc a b : Nat} (h : zU cc pc 181) (h1 : zU cc (pc + 1) a) (h2 : zU cc (pc + 2) b) : decode cc pc = .ok (.putfield (a * 256 + b), 3) := zd_of (by
  show Except.bind ((Reader.u1 : Decoder Nat).runAt cc pc) _ = _
  rw [show (Reader.u1 : Decoder Nat).runAt cc pc = _ from h]
  (first | (show Except.bind ((Reader.u1 : Decoder Nat).runAt cc (pc + 1)) _ = _; rw [show (Reader.u1 : Decoder Nat).runAt cc (pc + 1) = _ from h1]) | (show Except.bind (Except.bind ((Reader.u1 : Decoder Nat).runAt cc (pc + 1)) _) _ = _; rw [show (Reader.u1 : Decoder Nat).runAt cc (pc + 1) = _ from h1]) | (show Except.bind (Except.bind (Except.bind ((Reader.u1 : Decoder Nat).runAt cc (pc + 1)) _) _) _ = _; rw [show (Reader.u1 : Decoder Nat).runAt cc (pc + 1) = _ from h1]))
  (first | (show Except.bind ((Reader.u1 : Decoder Nat).runAt cc (pc + 2)) _ = _; rw [show (Reader.u1 : Decoder Nat).runAt cc (pc + 2) = _ from h2]) | (show Except.bind (Except.bind ((Reader.u1 : Decoder Nat).runAt cc (pc + 2)) _) _ = _; rw [show (Reader.u1 : Decoder Nat).runAt cc (pc + 2) = _ from h2]) | (show Except.bind (Except.bind (Except.bind ((Reader.u1 : Decoder Nat).runAt cc (pc + 2)) _) _) _ = _; rw [show (Reader.u1 : Decoder Nat).runAt cc (pc + 2) = _ from h2]))
  rfl)
theorem zd_182 {cc : ByteArray} {pc a b : Nat} (h : zU cc pc 182) (h1 : zU cc (pc + 1) a) (h2 : zU cc (pc + 2) b) : decode cc pc = .ok (.invokevirtual (a * 256 + b), 3) := zd_of (by
  show Except.bind ((Reader.u1 : Decoder Nat).runAt cc pc) _ = _
  rw [show (Reader.u1 : Decoder Nat).runAt cc pc = _ from h]
  (first | (show Except.bind ((Reader.u1 : Decoder Nat).runAt cc (pc + 1)) _ = _; rw [show (Reader.u1 : Decoder Nat).runAt cc (pc + 1) = _ from h1]) | (show Except.bind (Except.bind ((Reader.u1 : Decoder Nat).runAt cc (pc + 1)) _) _ = _; rw [show (Reader.u1 : Decoder Nat).runAt cc (pc + 1) = _ from h1]) | (show Except.bind (Except.bind (Except.bind ((Reader.u1 : Decoder Nat).runAt cc (pc + 1)) _) _) _ = _; rw [show (Reader.u1 : Decoder Nat).runAt cc (pc + 1) = _ from h1]))
  (first | (show Except.bind ((Reader.u1 : Decoder Nat).runAt cc (pc + 2)) _ = _; rw [show (Reader.u1 : Decoder Nat).runAt cc (pc + 2) = _ from h2]) | (show Except.bind (Except.bind ((Reader.u1 : Decoder Nat).runAt cc (pc + 2)) _) _ = _; rw [show (Reader.u1 : Decoder Nat).runAt cc (pc + 2) = _ from h2]) | (show Except.bind (Except.bind (Except.bind ((Reader.u1 : Decoder Nat).runAt cc (pc + 2)) _) _) _ = _; rw [show (Reader.u1 : Decoder Nat).runAt cc (pc + 2) = _ from h2]))
  rfl)
theorem zd_183 {cc : ByteArray} {pc a b : Nat} (h : zU cc pc 183) (h1 : zU cc (pc + 1) a) (h2 : zU cc (pc + 2) b) : decode cc pc = .ok (.invokespecial (a * 256 + b), 3) := zd_of (by
  show Except.bind ((Reader.u1 : Decoder Nat).runAt cc pc) _ = _
  rw [show (Reader.u1 : Decoder Nat).runAt cc pc = _ from h]
  (first | (show Except.bind ((Reader.u1 : Decoder Nat).runAt cc (pc + 1)) _ = _; rw [show (Reader.u1 : Decoder Nat).runAt cc (pc + 1) = _ from h1]) | (show Except.bind (Except.bind ((Reader.u1 : Decoder Nat).runAt cc (pc + 1)) _) _ = _; rw [show (Reader.u1 : Decoder Nat).runAt cc (pc + 1) = _ from h1]) | (show Except.bind (Except.bind (Except.bind ((Reader.u1 : Decoder Nat).runAt cc (pc + 1)) _) _) _ = _; rw [show (Reader.u1 : Decoder Nat).runAt cc (pc + 1) = _ from h1]))
  (first | (show Except.bind ((Reader.u1 : Decoder Nat).runAt cc (pc + 2)) _ = _; rw [show (Reader.u1 : Decoder Nat).runAt cc (pc + 2) = _ from h2]) | (show Except.bind (Except.bind ((Reader.u1 : Decoder Nat).runAt cc (pc + 2)) _) _ = _; rw [show (Reader.u1 : Decoder Nat).runAt cc (pc + 2) = _ from h2]) | (show Except.bind (Except.bind (Except.bind ((Reader.u1 : Decoder Nat).runAt cc (pc + 2)) _) _) _ = _; rw [show (Reader.u1 : Decoder Nat).runAt cc (pc + 2) = _ from h2]))
  rfl)
theorem zd_184 {cc : ByteArray} {pc a b : Nat} (h : zU cc pc 184) (h1 : zU cc (pc + 1) a) (h2 : zU cc (pc + 2) b) : decode cc pc = .ok (.invokestatic (a * 256 + b), 3) := zd_of (by
  show Except.bind ((Reader.u1 : Decoder Nat).runAt cc pc) _ = _
  rw [show (Reader.u1 : Decoder Nat).runAt cc pc = _ from h]
  (first | (show Except.bind ((Reader.u1 : Decoder Nat).runAt cc (pc + 1)) _ = _; rw [show (Reader.u1 : Decoder Nat).runAt cc (pc + 1) = _ from h1]) | (show Except.bind (Except.bind ((Reader.u1 : Decoder Nat).runAt cc (pc + 1)) _) _ = _; rw [show (Reader.u1 : Decoder Nat).runAt cc (pc + 1) = _ from h1]) | (show Except.bind (Except.bind (Except.bind ((Reader.u1 : Decoder Nat).runAt cc (pc + 1)) _) _) _ = _; rw [show (Reader.u1 : Decoder Nat).runAt cc (pc + 1) = _ from h1]))
  (first | (show Except.bind ((Reader.u1 : Decoder Nat).runAt cc (pc + 2)) _ = _; rw [show (Reader.u1 : Decoder Nat).runAt cc (pc + 2) = _ from h2]) | (show Except.bind (Except.bind ((Reader.u1 : Decoder Nat).runAt cc (pc + 2)) _) _ = _; rw [show (Reader.u1 : Decoder Nat).runAt cc (pc + 2) = _ from h2]) | (show Except.bind (Except.bind (Except.bind ((Reader.u1 : Decoder Nat).runAt cc (pc + 2)) _) _) _ = _; rw [show (Reader.u1 : Decoder Nat).runAt cc (pc + 2) = _ from h2]))
  rfl)
theorem zd_187 {cc : ByteArray} {pc a b : Nat} (h : zU cc pc 187) (h1 : zU cc (pc + 1) a) (h2 : zU cc (pc + 2) b) : decode cc pc = .ok (.new (a * 256 + b), 3) := zd_of (by
  show Except.bind ((Reader.u1 : Decoder Nat).runAt cc pc) _ = _
  rw [show (Reader.u1 : Decoder Nat).runAt cc pc = _ from h]
  (first | (show Except.bind ((Reader.u1 : Decoder Nat).runAt cc (pc + 1)) _ = _; rw [show (Reader.u1 : Decoder Nat).runAt cc (pc + 1) = _ from h1]) | (show Except.bind (Except.bind ((Reader.u1 : Decoder Nat).runAt cc (pc + 1)) _) _ = _; rw [show (Reader.u1 : Decoder Nat).runAt cc (pc + 1) = _ from h1]) | (show Except.bind (Except.bind (Except.bind ((Reader.u1 : Decoder Nat).runAt cc (pc + 1)) _) _) _ = _; rw [show (Reader.u1 : Decoder Nat).runAt cc (pc + 1) = _ from h1]))
  (first | (show Except.bind ((Reader.u1 : Decoder Nat).runAt cc (pc + 2)) _ = _; rw [show (Reader.u1 : Decoder Nat).runAt cc (pc + 2) = _ from h2]) | (show Except.bind (Except.bind ((Reader.u1 : Decoder Nat).runAt cc (pc + 2)) _) _ = _; rw [show (Reader.u1 : Decoder Nat).runAt cc (pc + 2) = _ from h2]) | (show Except.bind (Except.bind (Except.bind ((Reader.u1 : Decoder Nat).runAt cc (pc + 2)) _) _) _ = _; rw [show (Reader.u1 : Decoder Nat).runAt cc (pc + 2) = _ from h2]))
  rfl)
theorem zd_189 {cc : ByteArray} {pc a b : Nat} (h : zU cc pc 189) (h1 : zU cc (pc + 1) a) (h2 : zU cc (pc + 2) b) : decode cc pc = .ok (.anewarray (a * 256 + b), 3) := zd_of (by
  show Except.bind ((Reader.u1 : Decoder Nat).runAt cc pc) _ = _
  rw [show (Reader.u1 : Decoder Nat).runAt cc pc = _ from h]
  (first | (show Except.bind ((Reader.u1 : Decoder Nat).runAt cc (pc + 1)) _ = _; rw [show (Reader.u1 : Decoder Nat).runAt cc (pc + 1) = _ from h1]) | (show Except.bind (Except.bind ((Reader.u1 : Decoder Nat).runAt cc (pc + 1)) _) _ = _; rw [show (Reader.u1 : Decoder Nat).runAt cc (pc + 1) = _ from h1]) | (show Except.bind (Except.bind (Except.bind ((Reader.u1 : Decoder Nat).runAt cc (pc + 1)) _) _) _ = _; rw [show (Reader.u1 : Decoder Nat).runAt cc (pc + 1) = _ from h1]))
  (first | (show Except.bind ((Reader.u1 : Decoder Nat).runAt cc (pc + 2)) _ = _; rw [show (Reader.u1 : Decoder Nat).runAt cc (pc + 2) = _ from h2]) | (show Except.bind (Except.bind ((Reader.u1 : Decoder Nat).runAt cc (pc + 2)) _) _ = _; rw [show (Reader.u1 : Decoder Nat).runAt cc (pc + 2) = _ from h2]) | (show Except.bind (Except.bind (Except.bind ((Reader.u1 : Decoder Nat).runAt cc (pc + 2)) _) _) _ = _; rw [show (Reader.u1 : Decoder Nat).runAt cc (pc + 2) = _ from h2]))
  rfl)
theorem zd_198 {cc : ByteArray} {pc a b : Nat} (h : zU cc pc 198) (h1 : zU cc (pc + 1) a) (h2 : zU cc (pc + 2) b) : decode cc pc = .ok (.ifnull (Reader.signed 16 (a * 256 + b)), 3) := zd_of (by
  show Except.bind ((Reader.u1 : Decoder Nat).runAt cc pc) _ = _
  rw [show (Reader.u1 : Decoder Nat).runAt cc pc = _ from h]
  (first | (show Except.bind ((Reader.u1 : Decoder Nat).runAt cc (pc + 1)) _ = _; rw [show (Reader.u1 : Decoder Nat).runAt cc (pc + 1) = _ from h1]) | (show Except.bind (Except.bind ((Reader.u1 : Decoder Nat).runAt cc (pc + 1)) _) _ = _; rw [show (Reader.u1 : Decoder Nat).runAt cc (pc + 1) = _ from h1]) | (show Except.bind (Except.bind (Except.bind ((Reader.u1 : Decoder Nat).runAt cc (pc + 1)) _) _) _ = _; rw [show (Reader.u1 : Decoder Nat).runAt cc (pc + 1) = _ from h1]))
  (first | (show Except.bind ((Reader.u1 : Decoder Nat).runAt cc (pc + 2)) _ = _; rw [show (Reader.u1 : Decoder Nat).runAt cc (pc + 2) = _ from h2]) | (show Except.bind (Except.bind ((Reader.u1 : Decoder Nat).runAt cc (pc + 2)) _) _ = _; rw [show (Reader.u1 : Decoder Nat).runAt cc (pc + 2) = _ from h2]) | (show Except.bind (Except.bind (Except.bind ((Reader.u1 : Decoder Nat).runAt cc (pc + 2)) _) _) _ = _; rw [show (Reader.u1 : Decoder Nat).runAt cc (pc + 2) = _ from h2]))
  rfl)
theorem zd_199 {cc : ByteArray} {pc a b : Nat} (h : zU cc pc 199) (h1 : zU cc (pc + 1) a) (h2 : zU cc (pc + 2) b) : decode cc pc = .ok (.ifnonnull (Reader.signed 16 (a * 256 + b)), 3) := zd_of (by
  show Except.bind ((Reader.u1 : Decoder Nat).runAt cc pc) _ = _
  rw [show (Reader.u1 : Decoder Nat).runAt cc pc = _ from h]
  (first | (show Except.bind ((Reader.u1 : Decoder Nat).runAt cc (pc + 1)) _ = _; rw [show (Reader.u1 : Decoder Nat).runAt cc (pc + 1) = _ from h1]) | (show Except.bind (Except.bind ((Reader.u1 : Decoder Nat).runAt cc (pc + 1)) _) _ = _; rw [show (Reader.u1 : Decoder Nat).runAt cc (pc + 1) = _ from h1]) | (show Except.bind (Except.bind (Except.bind ((Reader.u1 : Decoder Nat).runAt cc (pc + 1)) _) _) _ = _; rw [show (Reader.u1 : Decoder Nat).runAt cc (pc + 1) = _ from h1]))
  (first | (show Except.bind ((Reader.u1 : Decoder Nat).runAt cc (pc + 2)) _ = _; rw [show (Reader.u1 : Decoder Nat).runAt cc (pc + 2) = _ from h2]) | (show Except.bind (Except.bind ((Reader.u1 : Decoder Nat).runAt cc (pc + 2)) _) _ = _; rw [show (Reader.u1 : Decoder Nat).runAt cc (pc + 2) = _ from h2]) | (show Except.bind (Except.bind (Except.bind ((Reader.u1 : Decoder Nat).runAt cc (pc + 2)) _) _) _ = _; rw [show (Reader.u1 : Decoder Nat).runAt cc (pc + 2) = _ from h2]))
  rfl)
def zdec0 (op : Nat) : Option (Instr × Nat) := bif Nat.blt op 80 then (bif Nat.blt op 38 then (bif Nat.blt op 26 then (bif Nat.blt op 6 then (bif Nat.blt op 3 then (bif Nat.blt op 2 then (bif Nat.beq op 1 then some (.aconst_null, 1) else none) else (bif Nat.beq op 2 then some (.iconst (-1), 1) else none)) else (bif Nat.blt op 4 then (bif Nat.beq op 3 then some (.iconst 0, 1) else none) else (bif Nat.blt op 5 then (bif Nat.beq op 4 then some (.iconst 1, 1) else none) else (bif Nat.beq op 5 then some (.iconst 2, 1) else none)))) else (bif Nat.blt op 9 then (bif Nat.blt op 7 then (bif Nat.beq op 6 then some (.iconst 3, 1) else none) else (bif Nat.blt op 8 then (bif Nat.beq op 7 then some (.iconst 4, 1) else none) else (bif Nat.beq op 8 then some (.iconst 5, 1) else none))) else (bif Nat.blt op 10 then (bif Nat.beq op 9 then some (.lconst 0, 1) else none) else (bif Nat.blt op 11 then (bif Nat.beq op 10 then some (.lconst 1, 1) else none) else (bif Nat.beq op 11 then some (.fconst 0, 1) else none))))) else (bif Nat.blt op 32 then (bif Nat.blt op 29 then (bif Nat.blt op 27 then (bif Nat.beq op 26 then some (.iload_n 0, 1) else none) else (bif Nat.blt op 28 then (bif Nat.beq op 27 then some (.iload_n 1, 1) else none) else (bif Nat.beq op 28 then some (.iload_n 2, 1) else none))) else (bif Nat.blt op 30 then (bif Nat.beq op 29 then some (.iload_n 3, 1) else none) else (bif Nat.blt op 31 then (bif Nat.beq op 30 then some (.lload_n 0, 1) else none) else (bif Nat.beq op 31 then some (.lload_n 1, 1) else none)))) else (bif Nat.blt op 35 then (bif Nat.blt op 33 then (bif Nat.beq op 32 then some (.lload_n 2, 1) else none) else (bif Nat.blt op 34 then (bif Nat.beq op 33 then some (.lload_n 3, 1) else none) else (bif Nat.beq op 34 then some (.fload_n 0, 1) else none))) else (bif Nat.blt op 36 then (bif Nat.beq op 35 then some (.fload_n 1, 1) else none) else (bif Nat.blt op 37 then (bif Nat.beq op 36 then some (.fload_n 2, 1) else none) else (bif Nat.beq op 37 then some (.fload_n 3, 1) else none)))))) else (bif Nat.blt op 50 then (bif Nat.blt op 43 then (bif Nat.blt op 40 then (bif Nat.blt op 39 then (bif Nat.beq op 38 then some (.dload_n 0, 1) else none) else (bif Nat.beq op 39 then some (.dload_n 1, 1) else none)) else (bif Nat.blt op 41 then (bif Nat.beq op 40 then some (.dload_n 2, 1) else none) else (bif Nat.blt op 42 then (bif Nat.beq op 41 then some (.dload_n 3, 1) else none) else (bif Nat.beq op 42 then some (.aload_n 0, 1) else none)))) else (bif Nat.blt op 46 then (bif Nat.blt op 44 then (bif Nat.beq op 43 then some (.aload_n 1, 1) else none) else (bif Nat.blt op 45 then (bif Nat.beq op 44 then some (.aload_n 2, 1) else none) else (bif Nat.beq op 45 then some (.aload_n 3, 1) else none))) else (bif Nat.blt op 47 then (bif Nat.beq op 46 then some (.iaload, 1) else none) else (bif Nat.blt op 49 then (bif Nat.beq op 47 then some (.laload, 1) else none) else (bif Nat.beq op 49 then some (.daload, 1) else none))))) else (bif Nat.blt op 62 then (bif Nat.blt op 59 then (bif Nat.blt op 51 then (bif Nat.beq op 50 then some (.aaload, 1) else none) else (bif Nat.blt op 52 then (bif Nat.beq op 51 then some (.baload, 1) else none) else (bif Nat.beq op 52 then some (.caload, 1) else none))) else (bif Nat.blt op 60 then (bif Nat.beq op 59 then some (.istore_n 0, 1) else none) else (bif Nat.blt op 61 then (bif Nat.beq op 60 then some (.istore_n 1, 1) else none) else (bif Nat.beq op 61 then some (.istore_n 2, 1) else none)))) else (bif Nat.blt op 77 then (bif Nat.blt op 75 then (bif Nat.beq op 62 then some (.istore_n 3, 1) else none) else (bif Nat.blt op 76 then (bif Nat.beq op 75 then some (.astore_n 0, 1) else none) else (bif Nat.beq op 76 then some (.astore_n 1, 1) else none))) else (bif Nat.blt op 78 then (bif Nat.beq op 77 then some (.astore_n 2, 1) else none) else (bif Nat.blt op 79 then (bif Nat.beq op 78 then some (.astore_n 3, 1) else none) else (bif Nat.beq op 79 then some (.iastore, 1) else none))))))) else (bif Nat.blt op 120 then (bif Nat.blt op 97 then (bif Nat.blt op 87 then (bif Nat.blt op 83 then (bif Nat.blt op 82 then (bif Nat.beq op 80 then some (.lastore, 1) else none) else (bif Nat.beq op 82 then some (.dastore, 1) else none)) else (bif Nat.blt op 84 then (bif Nat.beq op 83 then some (.aastore, 1) else none) else (bif Nat.blt op 85 then (bif Nat.beq op 84 then some (.bastore, 1) else none) else (bif Nat.beq op 85 then some (.castore, 1) else none)))) else (bif Nat.blt op 91 then (bif Nat.blt op 89 then (bif Nat.beq op 87 then some (.pop, 1) else none) else (bif Nat.blt op 90 then (bif Nat.beq op 89 then some (.dup, 1) else none) else (bif Nat.beq op 90 then some (.dup_x1, 1) else none))) else (bif Nat.blt op 92 then (bif Nat.beq op 91 then some (.dup_x2, 1) else none) else (bif Nat.blt op 96 then (bif Nat.beq op 92 then some (.dup2, 1) else none) else (bif Nat.beq op 96 then some (.iadd, 1) else none))))) else (bif Nat.blt op 110 then (bif Nat.blt op 104 then (bif Nat.blt op 100 then (bif Nat.beq op 97 then some (.ladd, 1) else none) else (bif Nat.blt op 101 then (bif Nat.beq op 100 then some (.isub, 1) else none) else (bif Nat.beq op 101 then some (.lsub, 1) else none))) else (bif Nat.blt op 108 then (bif Nat.beq op 104 then some (.imul, 1) else none) else (bif Nat.blt op 109 then (bif Nat.beq op 108 then some (.idiv, 1) else none) else (bif Nat.beq op 109 then some (.ldiv, 1) else none)))) else (bif Nat.blt op 113 then (bif Nat.blt op 111 then (bif Nat.beq op 110 then some (.fdiv, 1) else none) else (bif Nat.blt op 112 then (bif Nat.beq op 111 then some (.ddiv, 1) else none) else (bif Nat.beq op 112 then some (.irem, 1) else none))) else (bif Nat.blt op 116 then (bif Nat.beq op 113 then some (.lrem, 1) else none) else (bif Nat.blt op 117 then (bif Nat.beq op 116 then some (.ineg, 1) else none) else (bif Nat.beq op 117 then some (.lneg, 1) else none)))))) else (bif Nat.blt op 146 then (bif Nat.blt op 133 then (bif Nat.blt op 126 then (bif Nat.blt op 122 then (bif Nat.beq op 120 then some (.ishl, 1) else none) else (bif Nat.blt op 124 then (bif Nat.beq op 122 then some (.ishr, 1) else none) else (bif Nat.beq op 124 then some (.iushr, 1) else none))) else (bif Nat.blt op 128 then (bif Nat.beq op 126 then some (.iand, 1) else none) else (bif Nat.blt op 130 then (bif Nat.beq op 128 then some (.ior, 1) else none) else (bif Nat.beq op 130 then some (.ixor, 1) else none)))) else (bif Nat.blt op 136 then (bif Nat.blt op 134 then (bif Nat.beq op 133 then some (.i2l, 1) else none) else (bif Nat.blt op 135 then (bif Nat.beq op 134 then some (.i2f, 1) else none) else (bif Nat.beq op 135 then some (.i2d, 1) else none))) else (bif Nat.blt op 141 then (bif Nat.beq op 136 then some (.l2i, 1) else none) else (bif Nat.blt op 145 then (bif Nat.beq op 141 then some (.f2d, 1) else none) else (bif Nat.beq op 145 then some (.i2b, 1) else none))))) else (bif Nat.blt op 174 then (bif Nat.blt op 151 then (bif Nat.blt op 148 then (bif Nat.beq op 146 then some (.i2c, 1) else none) else (bif Nat.blt op 149 then (bif Nat.beq op 148 then some (.lcmp, 1) else none) else (bif Nat.beq op 149 then some (.fcmp .l, 1) else none))) else (bif Nat.blt op 172 then (bif Nat.beq op 151 then some (.dcmp .l, 1) else none) else (bif Nat.blt op 173 then (bif Nat.beq op 172 then some (.ireturn, 1) else none) else (bif Nat.beq op 173 then some (.lreturn, 1) else none)))) else (bif Nat.blt op 177 then (bif Nat.blt op 175 then (bif Nat.beq op 174 then some (.freturn, 1) else none) else (bif Nat.blt op 176 then (bif Nat.beq op 175 then some (.dreturn, 1) else none) else (bif Nat.beq op 176 then some (.areturn, 1) else none))) else (bif Nat.blt op 190 then (bif Nat.beq op 177 then some (.return_, 1) else none) else (bif Nat.blt op 191 then (bif Nat.beq op 190 then some (.arraylength, 1) else none) else (bif Nat.beq op 191 then some (.athrow, 1) else none)))))))
def zdec1 (op a : Nat) : Option (Instr × Nat) := bif Nat.blt op 24 then (bif Nat.blt op 21 then (bif Nat.blt op 18 then (bif Nat.beq op 16 then some (.bipush (Reader.signed 8 a), 2) else none) else (bif Nat.beq op 18 then some (.ldc a, 2) else none)) else (bif Nat.blt op 22 then (bif Nat.beq op 21 then some (.iload a, 2) else none) else (bif Nat.blt op 23 then (bif Nat.beq op 22 then some (.lload a, 2) else none) else (bif Nat.beq op 23 then some (.fload a, 2) else none)))) else (bif Nat.blt op 56 then (bif Nat.blt op 25 then (bif Nat.beq op 24 then some (.dload a, 2) else none) else (bif Nat.blt op 54 then (bif Nat.beq op 25 then some (.aload a, 2) else none) else (bif Nat.beq op 54 then some (.istore a, 2) else none))) else (bif Nat.blt op 57 then (bif Nat.beq op 56 then some (.fstore a, 2) else none) else (bif Nat.blt op 58 then (bif Nat.beq op 57 then some (.dstore a, 2) else none) else (bif Nat.beq op 58 then some (.astore a, 2) else none))))
def zdec2 (op a b : Nat) : Option (Instr × Nat) := bif Nat.blt op 162 then (bif Nat.blt op 155 then (bif Nat.blt op 132 then (bif Nat.blt op 19 then (bif Nat.beq op 17 then some (.sipush (Reader.signed 16 (a * 256 + b)), 3) else none) else (bif Nat.blt op 20 then (bif Nat.beq op 19 then some (.ldc_w (a * 256 + b), 3) else none) else (bif Nat.beq op 20 then some (.ldc2_w (a * 256 + b), 3) else none))) else (bif Nat.blt op 153 then (bif Nat.beq op 132 then some (.iinc a (Reader.signed 8 b), 3) else none) else (bif Nat.blt op 154 then (bif Nat.beq op 153 then some (.ifCond .eq (Reader.signed 16 (a * 256 + b)), 3) else none) else (bif Nat.beq op 154 then some (.ifCond .ne (Reader.signed 16 (a * 256 + b)), 3) else none)))) else (bif Nat.blt op 158 then (bif Nat.blt op 156 then (bif Nat.beq op 155 then some (.ifCond .lt (Reader.signed 16 (a * 256 + b)), 3) else none) else (bif Nat.blt op 157 then (bif Nat.beq op 156 then some (.ifCond .ge (Reader.signed 16 (a * 256 + b)), 3) else none) else (bif Nat.beq op 157 then some (.ifCond .gt (Reader.signed 16 (a * 256 + b)), 3) else none))) else (bif Nat.blt op 160 then (bif Nat.blt op 159 then (bif Nat.beq op 158 then some (.ifCond .le (Reader.signed 16 (a * 256 + b)), 3) else none) else (bif Nat.beq op 159 then some (.if_icmp .eq (Reader.signed 16 (a * 256 + b)), 3) else none)) else (bif Nat.blt op 161 then (bif Nat.beq op 160 then some (.if_icmp .ne (Reader.signed 16 (a * 256 + b)), 3) else none) else (bif Nat.beq op 161 then some (.if_icmp .lt (Reader.signed 16 (a * 256 + b)), 3) else none))))) else (bif Nat.blt op 182 then (bif Nat.blt op 167 then (bif Nat.blt op 163 then (bif Nat.beq op 162 then some (.if_icmp .ge (Reader.signed 16 (a * 256 + b)), 3) else none) else (bif Nat.blt op 164 then (bif Nat.beq op 163 then some (.if_icmp .gt (Reader.signed 16 (a * 256 + b)), 3) else none) else (bif Nat.beq op 164 then some (.if_icmp .le (Reader.signed 16 (a * 256 + b)), 3) else none))) else (bif Nat.blt op 180 then (bif Nat.blt op 178 then (bif Nat.beq op 167 then some (.goto (Reader.signed 16 (a * 256 + b)), 3) else none) else (bif Nat.beq op 178 then some (.getstatic (a * 256 + b), 3) else none)) else (bif Nat.blt op 181 then (bif Nat.beq op 180 then some (.getfield (a * 256 + b), 3) else none) else (bif Nat.beq op 181 then some (.putfield (a * 256 + b), 3) else none)))) else (bif Nat.blt op 187 then (bif Nat.blt op 183 then (bif Nat.beq op 182 then some (.invokevirtual (a * 256 + b), 3) else none) else (bif Nat.blt op 184 then (bif Nat.beq op 183 then some (.invokespecial (a * 256 + b), 3) else none) else (bif Nat.beq op 184 then some (.invokestatic (a * 256 + b), 3) else none))) else (bif Nat.blt op 198 then (bif Nat.blt op 189 then (bif Nat.beq op 187 then some (.new (a * 256 + b), 3) else none) else (bif Nat.beq op 189 then some (.anewarray (a * 256 + b), 3) else none)) else (bif Nat.blt op 199 then (bif Nat.beq op 198 then some (.ifnull (Reader.signed 16 (a * 256 + b)), 3) else none) else (bif Nat.beq op 199 then some (.ifnonnull (Reader.signed 16 (a * 256 + b)), 3) else none)))))
def zdec (bs : List Nat) : Option (Instr × Nat) := match bs with
  | [op] => zdec0 op
  | [op, a] => zdec1 op a
  | [op, a, b] => zdec2 op a b
  | _ => none
theorem zcond_beq {α : Type} {op k : Nat} {x y : Option α} {z : α} (h : (bif Nat.beq op k then x else y) = some z) (hy : y = none) : op = k ∧ x = some z := by
  cases e : Nat.beq op k with
  | true =>
    rw [e] at h
    exact ⟨Nat.eq_of_beq_eq_true e, h⟩
  | false =>
    rw [e, hy] at h
    cases h
theorem zcond_blt {α : Type} {op k : Nat} {x y : Option α} {z : α} {Q : Prop} (h : (bif Nat.blt op k then x else y) = some z) (h1 : x = some z → Q) (h2 : y = some z → Q) : Q := by
  cases e : Nat.blt op k with
  | true =>
    rw [e] at h
    exact h1 h
  | false =>
    rw [e] at h
    exact h2 h
theorem zdec0_ok {cc : ByteArray} {pc op : Nat} {r : Instr × Nat} (h : zU cc pc op) : zdec0 op = some r → decode cc pc = .ok r := fun e => zcond_blt e (fun e => zcond_blt e (fun e => zcond_blt e (fun e => zcond_blt e (fun e => zcond_blt e (fun e => zcond_blt e (fun e => by
                obtain ⟨rfl, e9⟩ := zcond_beq e rfl
                cases e9
                exact zd_1 h) (fun e => by
                obtain ⟨rfl, e9⟩ := zcond_beq e rfl
                cases e9
                exact zd_2 h)) (fun e => zcond_blt e (fun e => by
                obtain ⟨rfl, e9⟩ := zcond_beq e rfl
                cases e9
                exact zd_3 h) (fun e => zcond_blt e (fun e => by
                  obtain ⟨rfl, e9⟩ := zcond_beq e rfl
                  cases e9
                  exact zd_4 h) (fun e => by
                  obtain ⟨rfl, e9⟩ := zcond_beq e rfl
                  cases e9
                  exact zd_5 h)))) (fun e => zcond_blt e (fun e => zcond_blt e (fun e => by
                obtain ⟨rfl, e9⟩ := zcond_beq e rfl
                cases e9
                exact zd_6 h) (fun e => zcond_blt e (fun e => by
                  obtain ⟨rfl, e9⟩ := zcond_beq e rfl
                  cases e9
                  exact zd_7 h) (fun e => by
                  obtain ⟨rfl, e9⟩ := zcond_beq e rfl
                  cases e9
                  exact zd_8 h))) (fun e => zcond_blt e (fun e => by
                obtain ⟨rfl, e9⟩ := zcond_beq e rfl
                cases e9
                exact zd_9 h) (fun e => zcond_blt e (fun e => by
                  obtain ⟨rfl, e9⟩ := zcond_beq e rfl
                  cases e9
                  exact zd_10 h) (fun e => by
                  obtain ⟨rfl, e9⟩ := zcond_beq e rfl
                  cases e9
                  exact zd_11 h))))) (fun e => zcond_blt e (fun e => zcond_blt e (fun e => zcond_blt e (fun e => by
                obtain ⟨rfl, e9⟩ := zcond_beq e rfl
                cases e9
                exact zd_26 h) (fun e => zcond_blt e (fun e => by
                  obtain ⟨rfl, e9⟩ := zcond_beq e rfl
                  cases e9
                  exact zd_27 h) (fun e => by
                  obtain ⟨rfl, e9⟩ := zcond_beq e rfl
                  cases e9
                  exact zd_28 h))) (fun e => zcond_blt e (fun e => by
                obtain ⟨rfl, e9⟩ := zcond_beq e rfl
                cases e9
                exact zd_29 h) (fun e => zcond_blt e (fun e => by
                  obtain ⟨rfl, e9⟩ := zcond_beq e rfl
                  cases e9
                  exact zd_30 h) (fun e => by
                  obtain ⟨rfl, e9⟩ := zcond_beq e rfl
                  cases e9
                  exact zd_31 h)))) (fun e => zcond_blt e (fun e => zcond_blt e (fun e => by
                obtain ⟨rfl, e9⟩ := zcond_beq e rfl
                cases e9
                exact zd_32 h) (fun e => zcond_blt e (fun e => by
                  obtain ⟨rfl, e9⟩ := zcond_beq e rfl
                  cases e9
                  exact zd_33 h) (fun e => by
                  obtain ⟨rfl, e9⟩ := zcond_beq e rfl
                  cases e9
                  exact zd_34 h))) (fun e => zcond_blt e (fun e => by
                obtain ⟨rfl, e9⟩ := zcond_beq e rfl
                cases e9
                exact zd_35 h) (fun e => zcond_blt e (fun e => by
                  obtain ⟨rfl, e9⟩ := zcond_beq e rfl
                  cases e9
                  exact zd_36 h) (fun e => by
                  obtain ⟨rfl, e9⟩ := zcond_beq e rfl
                  cases e9
                  exact zd_37 h)))))) (fun e => zcond_blt e (fun e => zcond_blt e (fun e => zcond_blt e (fun e => zcond_blt e (fun e => by
                obtain ⟨rfl, e9⟩ := zcond_beq e rfl
                cases e9
                exact zd_38 h) (fun e => by
                obtain ⟨rfl, e9⟩ := zcond_beq e rfl
                cases e9
                exact zd_39 h)) (fun e => zcond_blt e (fun e => by
                obtain ⟨rfl, e9⟩ := zcond_beq e rfl
                cases e9
                exact zd_40 h) (fun e => zcond_blt e (fun e => by
                  obtain ⟨rfl, e9⟩ := zcond_beq e rfl
                  cases e9
                  exact zd_41 h) (fun e => by
                  obtain ⟨rfl, e9⟩ := zcond_beq e rfl
                  cases e9
                  exact zd_42 h)))) (fun e => zcond_blt e (fun e => zcond_blt e (fun e => by
                obtain ⟨rfl, e9⟩ := zcond_beq e rfl
                cases e9
                exact zd_43 h) (fun e => zcond_blt e (fun e => by
                  obtain ⟨rfl, e9⟩ := zcond_beq e rfl
                  cases e9
                  exact zd_44 h) (fun e => by
                  obtain ⟨rfl, e9⟩ := zcond_beq e rfl
                  cases e9
                  exact zd_45 h))) (fun e => zcond_blt e (fun e => by
                obtain ⟨rfl, e9⟩ := zcond_beq e rfl
                cases e9
                exact zd_46 h) (fun e => zcond_blt e (fun e => by
                  obtain ⟨rfl, e9⟩ := zcond_beq e rfl
                  cases e9
                  exact zd_47 h) (fun e => by
                  obtain ⟨rfl, e9⟩ := zcond_beq e rfl
                  cases e9
                  exact zd_49 h))))) (fun e => zcond_blt e (fun e => zcond_blt e (fun e => zcond_blt e (fun e => by
                obtain ⟨rfl, e9⟩ := zcond_beq e rfl
                cases e9
                exact zd_50 h) (fun e => zcond_blt e (fun e => by
                  obtain ⟨rfl, e9⟩ := zcond_beq e rfl
                  cases e9
                  exact zd_51 h) (fun e => by
                  obtain ⟨rfl, e9⟩ := zcond_beq e rfl
                  cases e9
                  exact zd_52 h))) (fun e => zcond_blt e (fun e => by
                obtain ⟨rfl, e9⟩ := zcond_beq e rfl
                cases e9
                exact zd_59 h) (fun e => zcond_blt e (fun e => by
                  obtain ⟨rfl, e9⟩ := zcond_beq e rfl
                  cases e9
                  exact zd_60 h) (fun e => by
                  obtain ⟨rfl, e9⟩ := zcond_beq e rfl
                  cases e9
                  exact zd_61 h)))) (fun e => zcond_blt e (fun e => zcond_blt e (fun e => by
                obtain ⟨rfl, e9⟩ := zcond_beq e rfl
                cases e9
                exact zd_62 h) (fun e => zcond_blt e (fun e => by
                  obtain ⟨rfl, e9⟩ := zcond_beq e rfl
                  cases e9
                  exact zd_75 h) (fun e => by
                  obtain ⟨rfl, e9⟩ := zcond_beq e rfl
                  cases e9
                  exact zd_76 h))) (fun e => zcond_blt e (fun e => by
                obtain ⟨rfl, e9⟩ := zcond_beq e rfl
                cases e9
                exact zd_77 h) (fun e => zcond_blt e (fun e => by
                  obtain ⟨rfl, e9⟩ := zcond_beq e rfl
                  cases e9
                  exact zd_78 h) (fun e => by
                  obtain ⟨rfl, e9⟩ := zcond_beq e rfl
                  cases e9
                  exact zd_79 h))))))) (fun e => zcond_blt e (fun e => zcond_blt e (fun e => zcond_blt e (fun e => zcond_blt e (fun e => zcond_blt e (fun e => by
                obtain ⟨rfl, e9⟩ := zcond_beq e rfl
                cases e9
                exact zd_80 h) (fun e => by
                obtain ⟨rfl, e9⟩ := zcond_beq e rfl
                cases e9
                exact zd_82 h)) (fun e => zcond_blt e (fun e => by
                obtain ⟨rfl, e9⟩ := zcond_beq e rfl
                cases e9
                exact zd_83 h) (fun e => zcond_blt e (fun e => by
                  obtain ⟨rfl, e9⟩ := zcond_beq e rfl
                  cases e9
                  exact zd_84 h) (fun e => by
                  obtain ⟨rfl, e9⟩ := zcond_beq e rfl
                  cases e9
                  exact zd_85 h)))) (fun e => zcond_blt e (fun e => zcond_blt e (fun e => by
                obtain ⟨rfl, e9⟩ := zcond_beq e rfl
                cases e9
                exact zd_87 h) (fun e => zcond_blt e (fun e => by
                  obtain ⟨rfl, e9⟩ := zcond_beq e rfl
                  cases e9
                  exact zd_89 h) (fun e => by
                  obtain ⟨rfl, e9⟩ := zcond_beq e rfl
                  cases e9
                  exact zd_90 h))) (fun e => zcond_blt e (fun e => by
                obtain ⟨rfl, e9⟩ := zcond_beq e rfl
                cases e9
                exact zd_91 h) (fun e => zcond_blt e (fun e => by
                  obtain ⟨rfl, e9⟩ := zcond_beq e rfl
                  cases e9
                  exact zd_92 h) (fun e => by
                  obtain ⟨rfl, e9⟩ := zcond_beq e rfl
                  cases e9
                  exact zd_96 h))))) (fun e => zcond_blt e (fun e => zcond_blt e (fun e => zcond_blt e (fun e => by
                obtain ⟨rfl, e9⟩ := zcond_beq e rfl
                cases e9
                exact zd_97 h) (fun e => zcond_blt e (fun e => by
                  obtain ⟨rfl, e9⟩ := zcond_beq e rfl
                  cases e9
                  exact zd_100 h) (fun e => by
                  obtain ⟨rfl, e9⟩ := zcond_beq e rfl
                  cases e9
                  exact zd_101 h))) (fun e => zcond_blt e (fun e => by
                obtain ⟨rfl, e9⟩ := zcond_beq e rfl
                cases e9
                exact zd_104 h) (fun e => zcond_blt e (fun e => by
                  obtain ⟨rfl, e9⟩ := zcond_beq e rfl
                  cases e9
                  exact zd_108 h) (fun e => by
                  obtain ⟨rfl, e9⟩ := zcond_beq e rfl
                  cases e9
                  exact zd_109 h)))) (fun e => zcond_blt e (fun e => zcond_blt e (fun e => by
                obtain ⟨rfl, e9⟩ := zcond_beq e rfl
                cases e9
                exact zd_110 h) (fun e => zcond_blt e (fun e => by
                  obtain ⟨rfl, e9⟩ := zcond_beq e rfl
                  cases e9
                  exact zd_111 h) (fun e => by
                  obtain ⟨rfl, e9⟩ := zcond_beq e rfl
                  cases e9
                  exact zd_112 h))) (fun e => zcond_blt e (fun e => by
                obtain ⟨rfl, e9⟩ := zcond_beq e rfl
                cases e9
                exact zd_113 h) (fun e => zcond_blt e (fun e => by
                  obtain ⟨rfl, e9⟩ := zcond_beq e rfl
                  cases e9
                  exact zd_116 h) (fun e => by
                  obtain ⟨rfl, e9⟩ := zcond_beq e rfl
                  cases e9
                  exact zd_117 h)))))) (fun e => zcond_blt e (fun e => zcond_blt e (fun e => zcond_blt e (fun e => zcond_blt e (fun e => by
                obtain ⟨rfl, e9⟩ := zcond_beq e rfl
                cases e9
                exact zd_120 h) (fun e => zcond_blt e (fun e => by
                  obtain ⟨rfl, e9⟩ := zcond_beq e rfl
                  cases e9
                  exact zd_122 h) (fun e => by
                  obtain ⟨rfl, e9⟩ := zcond_beq e rfl
                  cases e9
                  exact zd_124 h))) (fun e => zcond_blt e (fun e => by
                obtain ⟨rfl, e9⟩ := zcond_beq e rfl
                cases e9
                exact zd_126 h) (fun e => zcond_blt e (fun e => by
                  obtain ⟨rfl, e9⟩ := zcond_beq e rfl
                  cases e9
                  exact zd_128 h) (fun e => by
                  obtain ⟨rfl, e9⟩ := zcond_beq e rfl
                  cases e9
                  exact zd_130 h)))) (fun e => zcond_blt e (fun e => zcond_blt e (fun e => by
                obtain ⟨rfl, e9⟩ := zcond_beq e rfl
                cases e9
                exact zd_133 h) (fun e => zcond_blt e (fun e => by
                  obtain ⟨rfl, e9⟩ := zcond_beq e rfl
                  cases e9
                  exact zd_134 h) (fun e => by
                  obtain ⟨rfl, e9⟩ := zcond_beq e rfl
                  cases e9
                  exact zd_135 h))) (fun e => zcond_blt e (fun e => by
                obtain ⟨rfl, e9⟩ := zcond_beq e rfl
                cases e9
                exact zd_136 h) (fun e => zcond_blt e (fun e => by
                  obtain ⟨rfl, e9⟩ := zcond_beq e rfl
                  cases e9
                  exact zd_141 h) (fun e => by
                  obtain ⟨rfl, e9⟩ := zcond_beq e rfl
                  cases e9
                  exact zd_145 h))))) (fun e => zcond_blt e (fun e => zcond_blt e (fun e => zcond_blt e (fun e => by
                obtain ⟨rfl, e9⟩ := zcond_beq e rfl
                cases e9
                exact zd_146 h) (fun e => zcond_blt e (fun e => by
                  obtain ⟨rfl, e9⟩ := zcond_beq e rfl
                  cases e9
                  exact zd_148 h) (fun e => by
                  obtain ⟨rfl, e9⟩ := zcond_beq e rfl
                  cases e9
                  exact zd_149 h))) (fun e => zcond_blt e (fun e => by
                obtain ⟨rfl, e9⟩ := zcond_beq e rfl
                cases e9
                exact zd_151 h) (fun e => zcond_blt e (fun e => by
                  obtain ⟨rfl, e9⟩ := zcond_beq e rfl
                  cases e9
                  exact zd_172 h) (fun e => by
                  obtain ⟨rfl, e9⟩ := zcond_beq e rfl
                  cases e9
                  exact zd_173 h)))) (fun e => zcond_blt e (fun e => zcond_blt e (fun e => by
                obtain ⟨rfl, e9⟩ := zcond_beq e rfl
                cases e9
                exact zd_174 h) (fun e => zcond_blt e (fun e => by
                  obtain ⟨rfl, e9⟩ := zcond_beq e rfl
                  cases e9
                  exact zd_175 h) (fun e => by
                  obtain ⟨rfl, e9⟩ := zcond_beq e rfl
                  cases e9
                  exact zd_176 h))) (fun e => zcond_blt e (fun e => by
                obtain ⟨rfl, e9⟩ := zcond_beq e rfl
                cases e9
                exact zd_177 h) (fun e => zcond_blt e (fun e => by
                  obtain ⟨rfl, e9⟩ := zcond_beq e rfl
                  cases e9
                  exact zd_190 h) (fun e => by
                  obtain ⟨rfl, e9⟩ := zcond_beq e rfl
                  cases e9
                  exact zd_191 h)))))))
theorem zdec1_ok {cc : ByteArray} {pc op a : Nat} {r : Instr × Nat} (h : zU cc pc op) (h1 : zU cc (pc + 1) a) : zdec1 op a = some r → decode cc pc = .ok r := fun e => zcond_blt e (fun e => zcond_blt e (fun e => zcond_blt e (fun e => by
          obtain ⟨rfl, e9⟩ := zcond_beq e rfl
          cases e9
          exact zd_16 h h1) (fun e => by
          obtain ⟨rfl, e9⟩ := zcond_beq e rfl
          cases e9
          exact zd_18 h h1)) (fun e => zcond_blt e (fun e => by
          obtain ⟨rfl, e9⟩ := zcond_beq e rfl
          cases e9
          exact zd_21 h h1) (fun e => zcond_blt e (fun e => by
            obtain ⟨rfl, e9⟩ := zcond_beq e rfl
            cases e9
            exact zd_22 h h1) (fun e => by
            obtain ⟨rfl, e9⟩ := zcond_beq e rfl
            cases e9
            exact zd_23 h h1)))) (fun e => zcond_blt e (fun e => zcond_blt e (fun e => by
          obtain ⟨rfl, e9⟩ := zcond_beq e rfl
          cases e9
          exact zd_24 h h1) (fun e => zcond_blt e (fun e => by
            obtain ⟨rfl, e9⟩ := zcond_beq e rfl
            cases e9
            exact zd_25 h h1) (fun e => by
            obtain ⟨rfl, e9⟩ := zcond_beq e rfl
            cases e9
            exact zd_54 h h1))) (fun e => zcond_blt e (fun e => by
          obtain ⟨rfl, e9⟩ := zcond_beq e rfl
          cases e9
          exact zd_56 h h1) (fun e => zcond_blt e (fun e => by
            obtain ⟨rfl, e9⟩ := zcond_beq e rfl
            cases e9
            exact zd_57 h h1) (fun e => by
            obtain ⟨rfl, e9⟩ := zcond_beq e rfl
            cases e9
            exact zd_58 h h1))))
theorem zdec2_ok {cc : ByteArray} {pc op a b : Nat} {r : Instr × Nat} (h : zU cc pc op) (h1 : zU cc (pc + 1) a) (h2 : zU cc (pc + 2) b) : zdec2 op a b = some r → decode cc pc = .ok r := fun e => zcond_blt e (fun e => zcond_blt e (fun e => zcond_blt e (fun e => zcond_blt e (fun e => by
            obtain ⟨rfl, e9⟩ := zcond_beq e rfl
            cases e9
            exact zd_17 h h1 h2) (fun e => zcond_blt e (fun e => by
              obtain ⟨rfl, e9⟩ := zcond_beq e rfl
              cases e9
              exact zd_19 h h1 h2) (fun e => by
              obtain ⟨rfl, e9⟩ := zcond_beq e rfl
              cases e9
              exact zd_20 h h1 h2))) (fun e => zcond_blt e (fun e => by
            obtain ⟨rfl, e9⟩ := zcond_beq e rfl
            cases e9
            exact zd_132 h h1 h2) (fun e => zcond_blt e (fun e => by
              obtain ⟨rfl, e9⟩ := zcond_beq e rfl
              cases e9
              exact zd_153 h h1 h2) (fun e => by
              obtain ⟨rfl, e9⟩ := zcond_beq e rfl
              cases e9
              exact zd_154 h h1 h2)))) (fun e => zcond_blt e (fun e => zcond_blt e (fun e => by
            obtain ⟨rfl, e9⟩ := zcond_beq e rfl
            cases e9
            exact zd_155 h h1 h2) (fun e => zcond_blt e (fun e => by
              obtain ⟨rfl, e9⟩ := zcond_beq e rfl
              cases e9
              exact zd_156 h h1 h2) (fun e => by
              obtain ⟨rfl, e9⟩ := zcond_beq e rfl
              cases e9
              exact zd_157 h h1 h2))) (fun e => zcond_blt e (fun e => zcond_blt e (fun e => by
              obtain ⟨rfl, e9⟩ := zcond_beq e rfl
              cases e9
              exact zd_158 h h1 h2) (fun e => by
              obtain ⟨rfl, e9⟩ := zcond_beq e rfl
              cases e9
              exact zd_159 h h1 h2)) (fun e => zcond_blt e (fun e => by
              obtain ⟨rfl, e9⟩ := zcond_beq e rfl
              cases e9
              exact zd_160 h h1 h2) (fun e => by
              obtain ⟨rfl, e9⟩ := zcond_beq e rfl
              cases e9
              exact zd_161 h h1 h2))))) (fun e => zcond_blt e (fun e => zcond_blt e (fun e => zcond_blt e (fun e => by
            obtain ⟨rfl, e9⟩ := zcond_beq e rfl
            cases e9
            exact zd_162 h h1 h2) (fun e => zcond_blt e (fun e => by
              obtain ⟨rfl, e9⟩ := zcond_beq e rfl
              cases e9
              exact zd_163 h h1 h2) (fun e => by
              obtain ⟨rfl, e9⟩ := zcond_beq e rfl
              cases e9
              exact zd_164 h h1 h2))) (fun e => zcond_blt e (fun e => zcond_blt e (fun e => by
              obtain ⟨rfl, e9⟩ := zcond_beq e rfl
              cases e9
              exact zd_167 h h1 h2) (fun e => by
              obtain ⟨rfl, e9⟩ := zcond_beq e rfl
              cases e9
              exact zd_178 h h1 h2)) (fun e => zcond_blt e (fun e => by
              obtain ⟨rfl, e9⟩ := zcond_beq e rfl
              cases e9
              exact zd_180 h h1 h2) (fun e => by
              obtain ⟨rfl, e9⟩ := zcond_beq e rfl
              cases e9
              exact zd_181 h h1 h2)))) (fun e => zcond_blt e (fun e => zcond_blt e (fun e => by
            obtain ⟨rfl, e9⟩ := zcond_beq e rfl
            cases e9
            exact zd_182 h h1 h2) (fun e => zcond_blt e (fun e => by
              obtain ⟨rfl, e9⟩ := zcond_beq e rfl
              cases e9
              exact zd_183 h h1 h2) (fun e => by
              obtain ⟨rfl, e9⟩ := zcond_beq e rfl
              cases e9
              exact zd_184 h h1 h2))) (fun e => zcond_blt e (fun e => zcond_blt e (fun e => by
              obtain ⟨rfl, e9⟩ := zcond_beq e rfl
              cases e9
              exact zd_187 h h1 h2) (fun e => by
              obtain ⟨rfl, e9⟩ := zcond_beq e rfl
              cases e9
              exact zd_189 h h1 h2)) (fun e => zcond_blt e (fun e => by
              obtain ⟨rfl, e9⟩ := zcond_beq e rfl
              cases e9
              exact zd_198 h h1 h2) (fun e => by
              obtain ⟨rfl, e9⟩ := zcond_beq e rfl
              cases e9
              exact zd_199 h h1 h2)))))
/-- the bytes at a place -/
def zbs (cc : ByteArray) (pc : Nat) (bs : List Nat) : Prop := ∀ j b, bs[j]? = some b → cc.data.toList[pc + j]? = some (UInt8.ofNat b)
theorem zdec_ok {cc : ByteArray} {pc : Nat} {bs : List Nat} {r : Instr × Nat} (hb : zbs cc pc bs) (h8 : bs.all (fun b => Nat.blt b 256) = true) (h : zdec bs = some r) : decode cc pc = .ok r := by
  have key : ∀ j b, bs[j]? = some b → zU cc (pc + j) b := fun j b hj => zu1 (hb j b hj) (by
    have := List.all_eq_true.mp h8 b (List.mem_of_getElem? hj)
    simpa using this)
  unfold zdec at h
  split at h
  · exact zdec0_ok (key 0 _ rfl) h
  · exact zdec1_ok (key 0 _ rfl) (key 1 _ rfl) h
  · exact zdec2_ok (key 0 _ rfl) (key 1 _ rfl) (key 2 _ rfl) h
  · cases h
/-- the check with what is decoded given -/
def zckD (sw : Nat → List (Int × Nat)) (np : Nat → Nat) (ini : Bool) (cc : ByteArray) (ret : Option FieldType) (h0 : Bool) (T : List zE) (d : zD) (pc : Nat) (I : zI) : Bool :=
  match I with
  | (0, _, _, x, n) => zc0 d T x n
  | (1, _, _, _, n) => n == 1 && zdis d .aconst_null 1
  | (2, _, _, x, n) => zc2 d T x n
  | (3, _, _, _, n) => n == 1 && zdis d (.fconst 0) 1
  | (4, i, t, _, n) => zc4 d i t n
  | (5, i, t, _, n) => zc5 d i t n
  | (6, i, _, x, n) => n == 3 && zdis d (.iinc i x) 3
  | (7, o, _, _, n) => n == 1 && decide (o < 11) && zdis d (zbinI o) 1
  | (8, o, _, _, n) => n == 1 && decide (o < 4) && zdis d (zlbinI o) 1
  | (9, o, _, _, n) => n == 1 && decide (o < 9) && zdis d (zunI o) 1
  | (10, o, _, _, n) => n == 1 && decide (o < 5) && zdis d (zcmpI o) 1
  | (11, o, _, _, n) => n == 1 && decide (o < 5) && zdis d (zstkI o) 1
  | (12, o, j, _, _) => zc12 d pc o j
  | (13, o, j, _, _) => zc13 d pc o j
  | (14, o, j, _, _) => zc14 d pc o j
  | (15, _, j, _, _) => zc15 d pc j
  | (16, kd, j, _, _) => zc16 d T kd j
  | (17, kd, j, x, _) => zc17 d ini T kd j x
  | (18, kd, _, _, _) => decide (20 ≤ kd) && decide (kd < 29) && zdis d (zaldI kd) 1
  | (19, kd, _, _, _) => decide (20 ≤ kd) && decide (kd < 25) && zdis d (zastI kd) 1
  | (20, kd, ko, _, _) => zhas 16 kd ko 0 0 T && zdis d .aastore 1
  | (21, _, _, _, _) => zdis d .arraylength 1
  | (22, kd, _, _, _) => zc22 d T kd
  | (23, kd, _, _, n) => zc23 d T kd n
  | (24, i, j, x, _) => zc24 d np T i j x
  | (25, _, _, _, _) => zc25 d T
  | (26, t, _, _, _) => zc26 d ret t
  | (27, _, _, _, _) => zdis d .return_ 1 && decide (ret = none)
  | (30, i, _, _, _) => zc30 d T i
  | (31, o, _, _, _) => zc31 d T o
  | _ => zck sw np ini cc ret h0 T pc I
theorem zckD_eq {sw : Nat → List (Int × Nat)} {np : Nat → Nat} {ini : Bool} {cc : ByteArray} {ret : Option FieldType} {h0 : Bool} {T : List zE} {pc : Nat} {I : zI} : zckD sw np ini cc ret h0 T (decode cc pc) pc I = zck sw np ini cc ret h0 T pc I := by
  unfold zckD
  split <;> rfl
/-- one pass over a method's bytes and instructions -/
def zrow (sw : Nat → List (Int × Nat)) (np : Nat → Nat) (ini : Bool) (cc : ByteArray) (ret : Option FieldType) (h0 : Bool) (T : List zE) (pc : Nat) (bs : List Nat) (I : zI) : Bool :=
  Nat.ble 32 I.1 || (match zdec bs with
    | some r => zckD sw np ini cc ret h0 T (.ok r) pc I
    | none => zck sw np ini cc ret h0 T pc I)
def zpass (sw : Nat → List (Int × Nat)) (np : Nat → Nat) (ini : Bool) (cc : ByteArray) (ret : Option FieldType) (h0 : Bool) (T : List zE) : Nat → List (List Nat) → zM → Bool
  | _, [], [] => true
  | pc, bs :: B, q :: m => Nat.beq q.1 pc && (zrow sw np ini cc ret h0 T pc bs q.2 && zpass sw np ini cc ret h0 T (pc + bs.length) B m)
  | _, _, _ => false
theorem zpass_ok {sw : Nat → List (Int × Nat)} {np : Nat → Nat} {ini : Bool} {cc : ByteArray} {ret : Option FieldType} {h0 : Bool} {T : List zE} : ∀ (B : List (List Nat)) (m : zM) (pc : Nat), zpass sw np ini cc ret h0 T pc B m = true → (∀ j b, B.flatten[j]? = some b → cc.data.toList[pc + j]? = some (UInt8.ofNat b)) → (∀ bs ∈ B, bs.all (fun b => Nat.blt b 256) = true) → zall (zck sw np ini cc ret h0 T) m = true := by
  intro B
  induction B with
  | nil =>
    intro m pc h hb h8
    cases m with
    | nil => rfl
    | cons q m => cases h
  | cons bs B ih =>
    intro m pc h hb h8
    cases m with
    | nil => cases h
    | cons q m =>
      unfold zpass at h
      rw [Bool.and_eq_true, Bool.and_eq_true] at h
      obtain ⟨h1, h2, h3⟩ := h
      have hq : q.1 = pc := Nat.eq_of_beq_eq_true h1
      have hbs : zbs cc pc bs := fun j b hj => hb j b (by
        rw [List.flatten_cons, List.getElem?_append_left (List.getElem?_eq_some_iff.mp hj).1]
        exact hj)
      have rest := ih m (pc + bs.length) h3 (fun j b hj => by
        have := hb (bs.length + j) b (by
          rw [List.flatten_cons, List.getElem?_append_right (by omega), Nat.add_sub_cancel_left]
          exact hj)
        rw [Nat.add_assoc]
        exact this) (fun bs' hbs' => h8 bs' (List.mem_cons_of_mem _ hbs'))
      unfold zall at rest ⊢
      rw [List.all_cons, rest, Bool.and_true, hq]
      unfold zrow at h2
      rw [Bool.or_eq_true] at h2 ⊢
      rcases h2 with h2 | h2
      · exact Or.inl h2
      · refine Or.inr ?_
        split at h2
        · next r hr =>
          rw [← zckD_eq, zdec_ok hbs (h8 bs List.mem_cons_self) hr]
          exact h2
        · exact h2
theorem zpass_fin {sw : Nat → List (Int × Nat)} {np : Nat → Nat} {ini : Bool} {cc : ByteArray} {ret : Option FieldType} {h0 : Bool} {T : List zE} {B : List (List Nat)} {m : zM} (h : zpass sw np ini cc ret h0 T 0 B m = true) (hb : cc.data.toList = B.flatten.map UInt8.ofNat) (h8 : B.all (fun bs => bs.all (fun b => Nat.blt b 256)) = true) : zall (zck sw np ini cc ret h0 T) m = true :=
  zpass_ok B m 0 h (fun j b hj => by rw [hb, Nat.zero_add, List.getElem?_map, hj]; rfl) (fun bs hbs => List.all_eq_true.mp h8 bs hbs)
