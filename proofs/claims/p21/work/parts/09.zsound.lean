/-! What the interpreter answers, the machine does. -/
/-- names, bytes, return types, tables of handlers, the exceptions' names, how many methods -/
abbrev zL : Type := (Nat → MethodName) × (Nat → ByteArray) × (Nat → Option FieldType) × (Nat → List (Nat × Nat × Nat × Nat)) × (Nat → String) × Nat
def zcw (P : zProg) (L : zL) (k : Nat) : Jvm.Cond := if L.2.2.2.1 k = [] then .code (L.1 k) (L.2.1 k) (P.2.1 k) (L.2.2.1 k) else .codeWith (L.1 k) (L.2.1 k) (P.2.1 k) (L.2.2.1 k) (L.2.2.2.1 k)
def zlkC (P : zProg) (L : zL) (zW : List Jvm.Cond) (cl : List vw_C) (own : String) (cc : ByteArray) (pc k' j kd : Nat) : Prop :=
  k' < L.2.2.2.2.2 ∧ zcw P L k' ∈ zW ∧ ((L.1 k').cls ≠ "java/lang/invoke/MethodHandle" ∧ (L.1 k').cls ≠ "java/lang/invoke/VarHandle") ∧ Cond.initialized (L.1 k').cls ∈ zW ∧ ∃ index n : Nat, (parseMethodDescriptor (L.1 k').desc).map (fun d => d.parameters.length) = some n ∧
    ((∃ ci T N, kd = ci + 1 ∧ ci < 19 ∧ cl[ci]? = some ((L.1 k').cls, T, N) ∧ L.2.2.2.1 k' = [] ∧ j = n + 1 ∧ decode cc pc = .ok (.invokevirtual index, 3) ∧ Cond.methodLink own index (L.1 k') ∈ zW ∧ Cond.instanceMethod (L.1 k') ∈ zW ∧ Cond.selects (L.1 k').cls (L.1 k') (L.1 k') ∈ zW) ∨
     (L.2.2.2.1 k' = [] ∧ j = n ∧ decode cc pc = .ok (.invokestatic index, 3) ∧ Cond.methodLink own index (L.1 k') ∈ zW ∧ Cond.static (L.1 k') ∈ zW) ∨
     (∃ host, L.2.2.2.1 k' = [] ∧ j = n ∧ decode cc pc = .ok (.invokestatic index, 3) ∧ Cond.methodLinkNest own index (L.1 k') host ∈ zW ∧ Cond.static (L.1 k') ∈ zW) ∨
     (L.2.2.2.1 k' ≠ [] ∧ j = n ∧ decode cc pc = .ok (.invokestatic index, 3) ∧ Cond.methodLink own index (L.1 k') ∈ zW ∧ Cond.static (L.1 k') ∈ zW) ∨
     (kd ≠ 0 ∧ L.2.2.2.1 k' = [] ∧ L.2.2.1 k' = none ∧ j = n + 1 ∧ decode cc pc = .ok (.invokespecial index, 3) ∧ (L.1 k').name = "<init>" ∧ Cond.methodLink own index (L.1 k') ∈ zW ∧ Cond.instanceMethod (L.1 k') ∈ zW) ∨
     (∃ ci C T N, kd = ci + 1 ∧ ci < 19 ∧ cl[ci]? = some (C, T, N) ∧ L.2.2.2.1 k' = [] ∧ j = n + 1 ∧ decode cc pc = .ok (.invokespecial index, 3) ∧ (L.1 k').name ≠ "<init>" ∧ Cond.methodLink own index (L.1 k') ∈ zW ∧ Cond.sameMethod (L.1 k').cls (L.1 k').cls (L.1 k').name (L.1 k').desc ∈ zW ∧ Cond.superclass own (L.1 k').cls ∈ zW ∧ Cond.instanceMethod (L.1 k') ∈ zW) ∨
     (∃ ci C T N, kd = ci + 1 ∧ ci < 19 ∧ cl[ci]? = some (C, T, N) ∧ L.2.2.2.1 k' = [] ∧ j = n + 1 ∧ decode cc pc = .ok (.invokevirtual index, 3) ∧ Cond.methodLink own index (L.1 k') ∈ zW ∧ Cond.sameMethod (L.1 k').cls (L.1 k').cls (L.1 k').name (L.1 k').desc ∈ zW ∧ Cond.selects C (L.1 k') (L.1 k') ∈ zW ∧ Cond.instanceMethod (L.1 k') ∈ zW))
def zlkR (L : zL) (cc : ByteArray) (pc k t : Nat) : Prop :=
  (t = 0 ∧ decode cc pc = .ok (.ireturn, 1) ∧ L.2.2.1 k = some .int) ∨ (t = 5 ∧ decode cc pc = .ok (.ireturn, 1) ∧ L.2.2.1 k = some .boolean) ∨ (t = 7 ∧ decode cc pc = .ok (.ireturn, 1) ∧ L.2.2.1 k = some .char) ∨
  (t = 1 ∧ decode cc pc = .ok (.lreturn, 1) ∧ L.2.2.1 k = some .long) ∨ (t = 2 ∧ decode cc pc = .ok (.freturn, 1) ∧ L.2.2.1 k = some .float) ∨ (t = 3 ∧ decode cc pc = .ok (.dreturn, 1) ∧ L.2.2.1 k = some .double) ∨
  (t = 4 ∧ decode cc pc = .ok (.areturn, 1) ∧ ∃ rt, L.2.2.1 k = some rt ∧ ((∃ n, rt = .object n) ∨ ∃ t, rt = .array t))
def zlkX (L : zL) (zW : List Jvm.Cond) (G : zG) (own : String) (cc : ByteArray) (pc E : Nat) : Prop :=
  ∃ (ik is ic ix : Nat) (rx : ByteArray) (text Y0 : String) (names : List String), (decode rx 0 = .ok (.aload_n 0, 1) ∧ decode rx 1 = .ok (.aload_n 1, 1) ∧ decode rx 2 = .ok (.invokespecial ix, 3) ∧ decode rx 5 = .ok (.return_, 1) ∧ Bundle.fit Y0 = true) ∧ Bundle.fit (L.2.2.2.2.1 E) = true ∧ (∀ n ∈ names, Bundle.fit n = true) ∧ names.length ≤ 2 ∧ Cond.classLink own ik (L.2.2.2.2.1 E) ∈ zW ∧ Cond.initialized (L.2.2.2.2.1 E) ∈ zW ∧ (∀ w ∈ zxS own ic (L.2.2.2.2.1 E) ix rx Y0 names, w ∈ zW ∧ vx_ot w = true) ∧ (∃ sa, vk_R own is text sa G.2.2) ∧
    decode cc pc = .ok (.new ik, 3) ∧ decode cc (pc + 3) = .ok (.dup, 1) ∧
    ((decode cc (pc + 4) = .ok (.ldc is, 2) ∧ decode cc (pc + 6) = .ok (.invokespecial ic, 3) ∧ decode cc (pc + 9) = .ok (.athrow, 1)) ∨ (decode cc (pc + 4) = .ok (.ldc_w is, 3) ∧ decode cc (pc + 7) = .ok (.invokespecial ic, 3) ∧ decode cc (pc + 10) = .ok (.athrow, 1)))
/-- a handler: the exception into a local, a number, back -/
def zlkHand (cc : ByteArray) (hp i : Nat) (r : Int) : Prop := ∃ v : Int, Int32.ofInt v = Int32.ofInt r ∧
  ((∃ q : Fin 4, (q : Nat) = i ∧ decode cc hp = .ok (.astore_n q, 1) ∧ decode cc (hp + 1) = .ok (.iconst v, 1) ∧ decode cc (hp + 1 + 1) = .ok (.ireturn, 1)) ∨ (decode cc hp = .ok (.astore i, 2) ∧ decode cc (hp + 2) = .ok (.iconst v, 1) ∧ decode cc (hp + 2 + 1) = .ok (.ireturn, 1)))
def zlkH (L : zL) (zW : List Jvm.Cond) (G : zG) (own : String) (cc : ByteArray) : List (Nat × Nat × Nat × Nat × Int) → List (Nat × Nat × Nat × Nat) → Prop
  | [], [] => True
  | (a, b, n, i, r) :: hs, (a', b', hp, ct) :: ts => a = a' ∧ b = b' ∧ ct ≠ 0 ∧ Cond.classLink own ct (L.2.2.2.2.1 n) ∈ zW ∧ Cond.castable (L.2.2.2.2.1 n) (L.2.2.2.2.1 n) ∈ zW ∧ zlkHand cc hp i r ∧ (∀ q ∈ hs, va_Nc (L.2.2.2.2.1 q.2.2.1) (L.2.2.2.2.1 n) G.2.2) ∧ zlkH L zW G own cc hs ts
  | _, _ => False
/-- one instruction -/
def zlk (P : zProg) (L : zL) (zW : List Jvm.Cond) (cl : List vw_C) (G : zG) (ss : Nat → String × String × String) (k pc : Nat) : Prop :=
  match P.1 k pc with
  | (24, i, j, x, _) => zlkC P L zW cl (L.1 k).cls (L.2.1 k) pc i j x.toNat
  | (26, t, _, _, _) => zlkR L (L.2.1 k) pc k t
  | (27, _, _, _, _) => decode (L.2.1 k) pc = .ok (.return_, 1) ∧ L.2.2.1 k = none
  | (28, E, _, _, _) => zlkX L zW G (L.1 k).cls (L.2.1 k) pc E ∧ L.2.2.2.1 k = []
  | I => zlkI P zW cl ss (L.1 k).cls (L.1 k).name (L.2.1 k) pc I
/-- a method -/
def zmok (P : zProg) (L : zL) (zW : List Jvm.Cond) (cl : List vw_C) (G : zG) (ss : Nat → String × String × String) (k : Nat) : Prop :=
  plainName (L.1 k).cls = true ∧ P.2.1 k ≤ 80 ∧ zlkH L zW G (L.1 k).cls (L.2.1 k) (P.2.2.1 k) (L.2.2.2.1 k) ∧ (L.2.2.2.1 k ≠ [] → L.2.2.1 k = some .int) ∧ ∀ pc, (P.1 k pc).1 ≤ 31 → zlk P L zW cl G ss k pc
/-- what the law's start gives -/
def zfacts (L : zL) (zW : List Jvm.Cond) (G : zG) (ss : Nat → String × String × String) (sv : Nat → Value) : Prop :=
  (∀ w ∈ zW, (∃ A, w.before A G.2.2 = true) ∧ zgw w = true) ∧ (∀ i, i < 4 → va_Z (ss i).1 (ss i).2.1 (ss i).2.2 (sv i) (fun q => G.2.2.heap.size ≤ q) G.2.2 G.2.2.heap) ∧
  vx_Zq Bundle.tN "UNASSIGNED_STACK" Bundle.steD (fun q => G.2.2.heap.size ≤ q) G.2.2 G.2.2.heap ∧ vx_Zq Bundle.tN "SUPPRESSED_SENTINEL" Bundle.listD (fun q => G.2.2.heap.size ≤ q) G.2.2 G.2.2.heap
def zPc (cl : List vw_C) (G : zG) (vs : List Value) (h : zH) : Array Value → State → Prop := fun a U => a = vs.toArray ∧ zK cl G U ∧ zrel cl G h U.heap
def zQc (cl : List vw_C) (G : zG) (r : zO × zH) : Array Value → State → Outcome → State → Prop := fun _ _ oc t => ∃ v, r.1 = .inl v ∧ oc = .returned v ∧ zrel cl G r.2 t.heap
def zXC (cl : List vw_C) (G : zG) (L : zL) (r : zO × zH) : String → State → State → Prop := fun E _ t => ∃ n, r.1 = .inr n ∧ E = L.2.2.2.2.1 n ∧ zrel cl G r.2 t.heap
def zrm (d c s : Nat) : Room := { frames := 10 + d, cells := c, slots := s, locals := 200 + 100 * d }
def zMet (P : zProg) (L : zL) (cl : List vw_C) (G : zG) (l : Launch) (d k : Nat) (vs : List Value) (h : zH) (r : zO × zH) : Prop :=
  vx_Met l (L.1 k) [zcw P L k] (zrm d (r.2.2.1 - h.2.1) (r.2.2.2 - h.2.2)) (zPc cl G vs h) (zQc cl G r) (zXC cl G L r) (r.2.2.1 - h.2.1) (r.2.2.2 - h.2.2) (fun q => G.2.2.heap.size ≤ q)
theorem zPc_blind {cl : List vw_C} {G : zG} {vs : List Value} {h : zH} : FrameBlind (zPc cl G vs h) := fun a U g mk ⟨h1, h2, h3⟩ => ⟨h1, h2.moved (t := U.calling g mk a) (State.WarmedH.refl U), h3⟩
theorem zcw_good {P : zProg} {L : zL} {k : Nat} : goodWord (zcw P L k) = true := by
  unfold zcw
  split <;> rfl
section ZS
variable {p : Program} {l : Launch} {e : Env} {R : Room} {s : State} {m : MethodId} {args : Array Value} {below : List Frame} {meth : Method} {c : Code} {H : Heap} {locs : List Loc} {cells slots : Nat} {Q : State → Prop}
variable {cl : List vw_C} {G : zG} {L : zL} {P : zProg} {zW : List Jvm.Cond} {ss : Nat → String × String × String} {sv : Nat → Value}
theorem zw_call {pc : Nat} {ls : Array Slot} {st0 rest : List Value} {mc ms : Nat} {A : Array Value} {r : zO × zH} (hL : ∀ z ∈ locs, G.2.2.heap.size ≤ z.base)
    (hr : vx_Run p l e R s m args below meth c H locs cells slots mc ms (F0 m pc ls st0) rest (zQc cl G r A) (zXC cl G L r) (fun q => G.2.2.heap.size ≤ q))
    (kv : ∀ v, r.1 = .inl v → ∀ (H1 : Heap) (locs1 : List Loc), zrel cl G r.2 H1 → (∀ z ∈ locs1, G.2.2.heap.size ≤ z.base) → W p l e R s m args below meth c H1 locs1 (cells + mc) (slots + ms) Q (F0 m (pc + 3) ls (v.toList ++ rest)))
    (kx : ∀ n, r.1 = .inr n → ∀ (H1 : Heap) (locs1 : List Loc) (q : Addr) (ce : Cell), zrel cl G r.2 H1 → (∀ z ∈ locs1, G.2.2.heap.size ≤ z.base) → H1[q]? = some ce → ce.vm = .none → s.vm.findClass (L.2.2.2.2.1 n) = some ce.cls → vx_W p l e R s m args below meth c H1 locs1 (cells + mc) (slots + ms) Q (F0 m pc ls rest) q) :
    W p l e R s m args below meth c H locs cells slots Q (F0 m pc ls st0) := by
  intro T hT X
  have hLL : ∀ {L9 : List Loc}, (∀ z ∈ L9, G.2.2.heap.size ≤ z.base) → ∀ z ∈ locs ++ L9, G.2.2.heap.size ≤ z.base := by
    intro L9 h9 z hz
    rcases List.mem_append.mp hz with hz | hz
    · exact hL z hz
    · exact h9 z hz
  rcases hr T hT X with ⟨v, st₀, t, T', L9, h0, X', hL9, e1, e2, ⟨v', hv1, hv2, hz⟩, st⟩ | ⟨q, st₀, t, T', L9, E, ce, h0, X', hL9, e1, e2, ⟨n, hn1, hn2, hz⟩, hce, hcv, hcl, st⟩
  · cases hv2
    rw [← e1] at hz
    obtain ⟨t2, a1, b1⟩ := kv v hv1 T'.heap (locs ++ L9) hz (hLL hL9) T' rfl X'
    exact ⟨t2, st t2 a1, b1⟩
  · subst hn2
    rw [← e1] at hz hce
    obtain ⟨t2, a1, b1⟩ := kx n hn1 T'.heap (locs ++ L9) q ce hz (hLL hL9) hce hcv hcl T' rfl X'
    exact ⟨t2, st.trans a1, b1⟩
end ZS
