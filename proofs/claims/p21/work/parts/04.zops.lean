/-! The instructions that touch the heap, over the machine. -/
def zK (cl : List vw_C) (G : zG) (s : State) : Prop :=
  (∀ (c : Nat) (q : vw_C), cl[c]? = some q → u_Kn s q.1 q.2.1 q.2.2 (G.1.1 c) (G.1.2 c)) ∧ (∀ k, 20 ≤ k → k < 27 → ArrOfT s (G.2.1 k) (ztyK k) ∧ va_RA s (G.2.1 k) (ztyK k)) ∧ G.2.2.WarmedH s.vm
theorem zK.moved {cl : List vw_C} {G : zG} {s t : State} (h : zK cl G s) (hW : s.WarmedH t.vm) : zK cl G t :=
  ⟨fun c q hq => u_Kn_moved hW.alike (h.1 c q hq), fun k h1 h2 => ⟨arrOfT_moved hW.alike (h.2.1 k h1 h2).1, (h.2.1 k h1 h2).2.moved hW.alike⟩, State.WarmedH.trans h.2.2 hW⟩
section ZOPS
variable {p : Program} {l : Launch} {e : Env} {R : Room} {s : State} {m : MethodId} {args : Array Value} {below : List Frame} {meth : Method} {c : Code} {H : Heap} {locs : List Loc} {cells slots : Nat} {Q : State → Prop}
variable {cc : ByteArray} {pc : Nat} {ls : Array Slot} {rest : List Value} {cl : List vw_C} {G : zG} {h : zH} {a : Nat} {Ts : List Cond} {own : String}
theorem zl_add {n0 a i : Nat} (hL : ∀ z ∈ locs, n0 ≤ z.base) (ha : n0 ≤ a) : ∀ z ∈ locs ++ [(⟨a, i⟩ : Loc)], n0 ≤ z.base := by
  intro z hz
  rcases List.mem_append.mp hz with hz | hz
  · exact hL z hz
  · rw [List.mem_singleton.mp hz]
    exact ha
theorem zw_getf (hexec : p.tables.exec = Jvm.exec) (hb : c.code = cc) (hts : ∀ w ∈ Ts, w.before args s = true) (hown : s.vm.findClass own = some m.cls) (hK : zK cl G s) (hr : zrel cl G h H)
    {ref C : String} {T : u_T} {N ci j index : Nat} (hin : ∀ w ∈ u_ws C T N, w ∈ Ts) (hc : cl[ci]? = some (C, T, N)) (hci : ci < 19) (hk : (h.1 a).1 = ci + 1) (hj : j < N)
    (hlink : (Cond.fieldLink own index ref (T j).2.1 (T j).2.2.1).before args s = true) (hsame : ∀ x, s.fieldFound? (T j).1 (T j).2.1 (T j).2.2.1 = some x → s.fieldFound? ref (T j).2.1 (T j).2.2.1 = some x) (hdg : decode cc pc = .ok (.getfield index, 3))
    (kk : W p l e R s m args below meth c H locs cells slots Q (F0 m (pc + 3) ls ((h.1 a).2.getD j .null :: rest))) : W p l e R s m args below meth c H locs cells slots Q (F0 m pc ls (.ref a :: rest)) := by
  obtain ⟨r, h1, hlen, cell, q1, q2, q3, q4⟩ := (hr.at a).obj hk hci
  have hr' : r = (C, T, N) := Option.some.inj (h1.symm.trans hc)
  subst hr'
  obtain ⟨hS, hfc, kC, hkC, hkind⟩ := hK.1 ci _ hc
  obtain ⟨cf, kf, fi, f, hi, hsl⟩ := hS j hj
  refine W.getf hexec hb hown hlink (hsame _ hi) (u_facts hfc hkC (u_lays hts hin hj) hi).1 q1 (by rw [q3]; exact fun h => by cases h) (v := (h.1 a).2.getD j .null) ?_ rfl rfl hdg kk
  rw [hsl, q4 j hj]
  rfl
theorem zw_apart (hts : ∀ w ∈ Ts, w.before args s = true) (hK : zK cl G s) {C : String} {T : u_T} {N ci : Nat} (hin : ∀ w ∈ u_ws C T N, w ∈ Ts) (hc : cl[ci]? = some (C, T, N)) (ty : Nat → FieldType) (hty : ∀ k, k < N → parseFieldDescriptor (T k).2.2.1 = some (ty k)) (hnm : ∀ a, a < N → ∀ b, b < N → a ≠ b → (T a).2.1 ≠ (T b).2.1) : ∀ x y, x < N → y < N → x ≠ y → (G.1.2 ci) x ≠ (G.1.2 ci) y := by
  intro x y hx hy hne
  obtain ⟨hS, -⟩ := hK.1 ci _ hc
  obtain ⟨_, _, _, fa, hia, ea⟩ := hS x hx
  obtain ⟨_, _, _, fb, hib, eb⟩ := hS y hy
  rw [← ea, ← eb]
  refine u_apart (u_lays hts hin hx) (u_lays hts hin hy) hia hib ?_
  rw [(State.fieldFound?_type hia (hty x hx)).1, (State.fieldFound?_type hib (hty y hy)).1]
  exact hnm x hx y hy hne
theorem zt_fits {t : Nat} {v : Value} {ty : FieldType} (h : zty t v = true) (hty : (t = 0 ∧ ty = .int) ∨ (t = 1 ∧ ty = .long) ∨ (t = 4 ∧ ∃ n, ty = .object n) ∨ (t = 4 ∧ ∃ n, ty = .array n) ∨ (t = 5 ∧ ty = .boolean) ∨ (t = 6 ∧ ty = .byte) ∨ (t = 7 ∧ ty = .char)) : narrow ty v = v ∧ fits ty v = true := by
  rcases hty with ⟨rfl, rfl⟩ | ⟨rfl, rfl⟩ | ⟨rfl, n, rfl⟩ | ⟨rfl, n, rfl⟩ | ⟨rfl, rfl⟩ | ⟨rfl, rfl⟩ | ⟨rfl, rfl⟩
  · cases v <;> first | exact ⟨rfl, rfl⟩ | cases h
  · cases v <;> first | exact ⟨rfl, rfl⟩ | cases h
  · cases v <;> first | exact ⟨rfl, rfl⟩ | cases h
  · cases v <;> first | exact ⟨rfl, rfl⟩ | cases h
  · cases v with
    | int v =>
      have h9 : (v == 0 || v == 1) = true := h
      rw [Bool.or_eq_true, beq_iff_eq, beq_iff_eq] at h9
      rcases h9 with rfl | rfl <;> exact ⟨by decide, by decide⟩
    | _ => cases h
  · cases v with
    | int v =>
      have h9 : (decide (-128 ≤ v) && decide (v ≤ 127)) = true := h
      refine ⟨?_, h9⟩
      rw [Bool.and_eq_true, decide_eq_true_eq, decide_eq_true_eq, Int32.le_iff_toInt_le, Int32.le_iff_toInt_le] at h9
      have e1 : (-128 : Int32).toInt = -128 := by decide
      have e2 : (127 : Int32).toInt = 127 := by decide
      rw [e1, e2] at h9
      show Value.int v.toInt8.toInt32 = .int v
      congr 1
      rw [← Int32.toInt_inj, Int8.toInt_toInt32, Int32.toInt_toInt8, Int.bmod_eq_of_le (by omega) (by omega)]
    | _ => cases h
  · cases v with
    | int v =>
      have h9 : (decide (0 ≤ v) && decide (v ≤ 65535)) = true := h
      refine ⟨?_, h9⟩
      rw [Bool.and_eq_true, decide_eq_true_eq, decide_eq_true_eq, Int32.le_iff_toInt_le, Int32.le_iff_toInt_le] at h9
      have e1 : (0 : Int32).toInt = 0 := by decide
      have e2 : (65535 : Int32).toInt = 65535 := by decide
      rw [e1, e2] at h9
      obtain ⟨n, hn, rfl⟩ := nI_of (x := v) (by rw [Int32.lt_iff_toInt_lt, e1]; omega)
      rw [nI_toInt hn] at h9
      exact (pk_charN (by omega)).1
    | _ => cases h
theorem zw_putf (hexec : p.tables.exec = Jvm.exec) (hb : c.code = cc) (hts : ∀ w ∈ Ts, w.before args s = true) (hown : s.vm.findClass own = some m.cls) (hK : zK cl G s) (hr : zrel cl G h H) (hL : ∀ z ∈ locs, G.2.2.heap.size ≤ z.base)
    {ref C : String} {T : u_T} {N ci j index : Nat} {v : Value} (hin : ∀ w ∈ u_ws C T N, w ∈ Ts) (ty0 : Nat → FieldType) (hty : ∀ k, k < N → parseFieldDescriptor (T k).2.2.1 = some (ty0 k)) (hnm : ∀ a, a < N → ∀ b, b < N → a ≠ b → (T a).2.1 ≠ (T b).2.1) (hc : cl[ci]? = some (C, T, N)) (hci : ci < 19) (hk : (h.1 a).1 = ci + 1) (hj : j < N)
    (hlink : (Cond.fieldLink own index ref (T j).2.1 (T j).2.2.1).before args s = true) (hsame : ∀ x, s.fieldFound? (T j).1 (T j).2.1 (T j).2.2.1 = some x → s.fieldFound? ref (T j).2.1 (T j).2.2.1 = some x) (hfin : (T j).2.2.2 = true → meth.name = "<init>" ∧ (T j).1 = own)
    (hv : narrow (ty0 j) v = v ∧ fits (ty0 j) v = true) (hdg : decode cc pc = .ok (.putfield index, 3))
    (kk : ∀ (H1 : Heap) (locs1 : List Loc), zrel cl G (zup h a (ci + 1, (h.1 a).2.set j v)) H1 → (∀ z ∈ locs1, G.2.2.heap.size ≤ z.base) → W p l e R s m args below meth c H1 locs1 cells slots Q (F0 m (pc + 3) ls rest)) : W p l e R s m args below meth c H locs cells slots Q (F0 m pc ls (v :: .ref a :: rest)) := by
  have hap := zw_apart hts hK hin hc ty0 hty hnm
  obtain ⟨r, h1, hlen, cell, q1, q2, q3, q4⟩ := (hr.at a).obj hk hci
  have hr' : r = (C, T, N) := Option.some.inj (h1.symm.trans hc)
  subst hr'
  obtain ⟨hS, hfc, kC, hkC, hkind⟩ := hK.1 ci _ hc
  obtain ⟨cf, kf, fi, f, hi, hsl⟩ := hS j hj
  have hlay := hts _ (hin _ (u_in_lay hj))
  have hn0 : G.2.2.heap.size ≤ a := hr.2.2.2.2 a (by omega) (by omega)
  have fin : ∀ H' : Heap, H'[a]? = some (cell.setSlot f.slot v) → H'.size = H.size → (∀ q, q ≠ a → H'[q]? = H[q]?) → W p l e R s m args below meth c H' (locs ++ [⟨a, f.slot⟩]) cells slots Q { (F0 m pc ls (v :: .ref a :: rest)) with pc := pc + 3, stack := rest } := by
    intro H' e1 e2 e3
    rw [hsl] at e1
    refine kk H' _ (hr.up (by rw [hk]) (by show ci + 1 ≠ 0; omega) (by show ci + 1 < 27; omega) e2 e3 (zat.mkobj rfl hci ⟨_, hc, by rw [List.length_set]; exact hlen, t_OB.to (V := updV (vp_V (h.1 a).2) j v) ⟨_, e1, q2, q3, t_set q4 hap hj v⟩ (fun i _ => vp_updV_set (by rw [hlen]; exact hj) v i)⟩)) (zl_add hL hn0)
  unfold u_lay at hlay
  have hst := (u_facts hfc hkC (u_lays hts hin hj) hi).1
  cases hf : (T j).2.2.2 with
  | false =>
    rw [if_neg (by rw [hf]; decide)] at hlay
    have h6 := u_store hfc hkC hkind hlay hi (hty j hj) hv.1 hv.2
    exact W.putK hexec hb (f := f) ⟨hown, hlink, ⟨_, _, _, hsame _ hi⟩, hst⟩ (by rw [q2]; exact h6) q1 q3 (by rw [hsl]; exact k2_hasslot (q4 j hj)) rfl rfl hdg fin
  | true =>
    rw [if_pos hf] at hlay
    obtain ⟨hin2, hdecl⟩ := hfin hf
    have hcf : m.cls = cf := by
      obtain ⟨_, _, c', _, _, _, -, -, hf', -, -, -, hown2, -⟩ := Cond.laysFinal_spec hlay
      have e1 : c' = cf := by have := hi.symm.trans hf'; simp at this; exact this.1.symm
      rw [hdecl] at hown2
      rw [← e1]; exact Option.some.inj (hown.symm.trans hown2)
    have h6 := u_fits hfc hkC hkind (Or.inr hlay) hi (hty j hj) hv.1 hv.2
    exact W.putFinK hexec hb hown hlink (hsame _ hi) hst hcf hin2 (by rw [q2]; exact h6) q1 q3 (by rw [hsl]; exact k2_hasslot (q4 j hj)) rfl rfl hdg fin
theorem zw_cell (hK : zK cl G s) (hr : zrel cl G h H) (hk : 20 ≤ (h.1 a).1) : ∃ cell : Cell, H[a]? = some cell ∧ s.isArrayOf cell (ztyK (h.1 a).1) ∧ cell.vm ≠ .unknown ∧ cell.slots.size = (h.1 a).2.length ∧ ∀ j, j < (h.1 a).2.length → cell.slots[j]? = some ((h.1 a).2.getD j .null) := by
  by_cases h27 : (h.1 a).1 < 27
  · refine ⟨_, (hr.at a).arr hk h27, ?_, (fun q => by cases q), zcellA_size _ _, fun j hj => zcellA_get _ _ hj⟩
    rw [zcellA_eq]
    exact (hK.2.1 _ hk h27).1 _ _
  · obtain ⟨cell, e1, e2, e3, e4⟩ := (hr.at a).ro (by omega)
    refine ⟨cell, e1, State.isArrayOf_alike hK.2.2.alike e2, e3, by rw [← e4]; simp, fun j hj => ?_⟩
    rw [← e4] at hj ⊢
    simp at hj
    simp [hj]
theorem zw_ald (hexec : p.tables.exec = Jvm.exec) (hb : c.code = cc) (hK : zK cl G s) (hr : zrel cl G h H) {i : Int32} {kd : Nat} (hk : (h.1 a).1 = kd) (h20 : 20 ≤ kd) (hi : zix i (h.1 a).2.length = true) {ins : Instr}
    (hins : (ins = .iaload ∧ ztyK kd = .int) ∨ (ins = .caload ∧ ztyK kd = .char) ∨ (ins = .laload ∧ ztyK kd = .long) ∨ (ins = .daload ∧ ztyK kd = .double) ∨ (ins = .baload ∧ ztyK kd = .byte) ∨ (ins = .aaload ∧ (ztyK kd).isReference = true)) (hdg : decode cc pc = .ok (ins, 1))
    (kk : W p l e R s m args below meth c H locs cells slots Q (F0 m (pc + 1) ls ((h.1 a).2.getD i.toNatClampNeg .null :: rest))) : W p l e R s m args below meth c H locs cells slots Q (F0 m pc ls (.int i :: .ref a :: rest)) := by
  obtain ⟨hi1, hi2⟩ := zix_in hi
  obtain ⟨cell, e1, e2, e3, e4, e5⟩ := zw_cell hK hr (a := a) (by omega)
  rw [hk] at e2
  have e6 := e5 _ hi2
  rw [← e4] at hi1
  rcases hins with ⟨rfl, ht⟩ | ⟨rfl, ht⟩ | ⟨rfl, ht⟩ | ⟨rfl, ht⟩ | ⟨rfl, ht⟩ | ⟨rfl, ht⟩
  · rw [ht] at e2; exact W.iald hexec hb e1 e2 e3 hi1 e6 rfl rfl hdg kk
  · rw [ht] at e2; exact W.cald hexec hb e1 e2 e3 hi1 e6 rfl rfl hdg kk
  · rw [ht] at e2; exact W.lald hexec hb e1 e2 e3 hi1 e6 rfl rfl hdg kk
  · rw [ht] at e2; exact W.dald hexec hb e1 e2 e3 hi1 e6 rfl rfl hdg kk
  · rw [ht] at e2; exact W.bald hexec hb e1 e2 e3 hi1 e6 rfl rfl hdg kk
  · exact W.aald hexec hb e1 e2 ht e3 hi1 e6 rfl rfl hdg kk
theorem zw_alen (hexec : p.tables.exec = Jvm.exec) (hb : c.code = cc) (hK : zK cl G s) (hr : zrel cl G h H) (hk : 20 ≤ (h.1 a).1) (hdg : decode cc pc = .ok (.arraylength, 1))
    (kk : W p l e R s m args below meth c H locs cells slots Q (F0 m (pc + 1) ls (.int (Int32.ofNat (h.1 a).2.length) :: rest))) : W p l e R s m args below meth c H locs cells slots Q (F0 m pc ls (.ref a :: rest)) := by
  obtain ⟨cell, e1, e2, e3, e4, e5⟩ := zw_cell hK hr (a := a) hk
  exact W.alen hexec hb e1 e2 (by rw [e4] <;> rfl) rfl rfl hdg kk
theorem zw_ast (hexec : p.tables.exec = Jvm.exec) (hb : c.code = cc) (hK : zK cl G s) (hr : zrel cl G h H) (hL : ∀ z ∈ locs, G.2.2.heap.size ≤ z.base) {i : Int32} {kd : Nat} {v w : Value} (hk : (h.1 a).1 = kd) (h20 : 20 ≤ kd) (h27 : kd < 27) (hi : zix i (h.1 a).2.length = true) (hw : znar kd v = some w) {ins : Instr}
    (hins : (ins = .iastore ∧ kd = 20) ∨ (ins = .castore ∧ kd = 21) ∨ (ins = .lastore ∧ kd = 22) ∨ (ins = .dastore ∧ kd = 23) ∨ (ins = .bastore ∧ kd = 24)) (hdg : decode cc pc = .ok (ins, 1))
    (kk : ∀ (H1 : Heap) (locs1 : List Loc), zrel cl G (zup h a (kd, (h.1 a).2.set i.toNatClampNeg w)) H1 → (∀ z ∈ locs1, G.2.2.heap.size ≤ z.base) → W p l e R s m args below meth c H1 locs1 cells slots Q (F0 m (pc + 1) ls rest)) : W p l e R s m args below meth c H locs cells slots Q (F0 m pc ls (v :: .int i :: .ref a :: rest)) := by
  obtain ⟨hi1, hi2⟩ := zix_in hi
  have e1 := (hr.at a).arr (by omega) (by omega)
  rw [hk] at e1
  have e2 : s.isArrayOf (zcellA (G.2.1 kd) (h.1 a).2) (ztyK kd) := by rw [zcellA_eq]; exact (hK.2.1 _ h20 h27).1 _ _
  have hi3 : ¬ (i < 0 ∨ (zcellA (G.2.1 kd) (h.1 a).2).slots.size ≤ i.toNatClampNeg) := by rw [zcellA_size]; exact hi1
  have hn0 : G.2.2.heap.size ≤ a := hr.2.2.2.2 a (by omega) (by omega)
  have fin : ∀ H' : Heap, H'[a]? = some ((zcellA (G.2.1 kd) (h.1 a).2).setSlot i.toNatClampNeg w) → H'.size = H.size → (∀ q, q ≠ a → H'[q]? = H[q]?) → W p l e R s m args below meth c H' (locs ++ [⟨a, i.toNatClampNeg⟩]) cells slots Q (F0 m (pc + 1) ls rest) := by
    intro H' f1 f2 f3
    rw [zcellA_set] at f1
    exact kk H' _ (hr.up hk (by show kd ≠ 0; omega) h27 f2 f3 (zat.mkarr h20 h27 f1)) (zl_add hL hn0)
  rcases hins with ⟨rfl, rfl⟩ | ⟨rfl, rfl⟩ | ⟨rfl, rfl⟩ | ⟨rfl, rfl⟩ | ⟨rfl, rfl⟩
  · cases v <;> first | (cases hw; exact W.iast hexec hb e1 e2 (fun q => by cases q) hi3 rfl rfl hdg fin) | cases hw
  · cases v <;> first | (cases hw; exact W.cast hexec hb e1 e2 (fun q => by cases q) hi3 rfl rfl hdg fin) | cases hw
  · cases v <;> first | (cases hw; exact W.last hexec hb e1 e2 (fun q => by cases q) hi3 rfl rfl hdg fin) | cases hw
  · cases v <;> first | (cases hw; exact W.dast hexec hb e1 e2 (fun q => by cases q) hi3 rfl rfl hdg fin) | cases hw
  · cases v <;> first | (cases hw; exact W.bast hexec hb e1 e2 (fun q => by cases q) hi3 rfl rfl hdg fin) | cases hw
theorem zw_astq (hexec : p.tables.exec = Jvm.exec) (hb : c.code = cc) (hK : zK cl G s) (hr : zrel cl G h H) (hL : ∀ z ∈ locs, G.2.2.heap.size ≤ z.base) {i : Int32} {kd ci b : Nat} {r : vw_C} (hk : (h.1 a).1 = kd) (h20 : 20 ≤ kd) (h27 : kd < 27) (hkb : (h.1 b).1 = ci + 1) (hci : ci < 19) (hc : cl[ci]? = some r) (hty : ztyK kd = .object r.1) (hi : zix i (h.1 a).2.length = true) (hdg : decode cc pc = .ok (.aastore, 1))
    (kk : ∀ (H1 : Heap) (locs1 : List Loc), zrel cl G (zup h a (kd, (h.1 a).2.set i.toNatClampNeg (.ref b))) H1 → (∀ z ∈ locs1, G.2.2.heap.size ≤ z.base) → W p l e R s m args below meth c H1 locs1 cells slots Q (F0 m (pc + 1) ls rest)) : W p l e R s m args below meth c H locs cells slots Q (F0 m pc ls (.ref b :: .int i :: .ref a :: rest)) := by
  obtain ⟨hi1, hi2⟩ := zix_in hi
  have e1 := (hr.at a).arr (by omega) (by omega)
  rw [hk] at e1
  obtain ⟨r', hr', hlen, cellV, g1, g2, g3, -⟩ := (hr.at b).obj hkb hci
  have hrr : r' = r := Option.some.inj (hr'.symm.trans hc)
  subst hrr
  have hcls := (hK.1 ci _ hc).2
  have hRA := (hK.2.1 kd h20 h27).2
  rw [hty] at hRA
  obtain ⟨kA, comp, k1, k2, k3, -⟩ := hRA
  have hcomp : comp = G.1.1 ci := Option.some.inj (k3.symm.trans hcls.1)
  subst hcomp
  obtain ⟨kC, hkC, -⟩ := hcls.2
  have hn0 : G.2.2.heap.size ≤ a := hr.2.2.2.2 a (by omega) (by omega)
  refine W.aast hexec hb e1 (fun q h => by cases h) (fun h => by cases h) k1 k2 rfl hkC ⟨fun q => hi1 (Or.inl q), by rw [zcellA_size]; exact hi2⟩ g1 (fun q h => by rw [g3] at h; cases h) (by rw [g2]; exact hkC) (by rw [g2]; exact va_assign hcls) rfl rfl hdg fun H1 f1 f2 f3 => ?_
  rw [zcellA_set] at f1
  exact kk H1 _ (hr.up hk (by show kd ≠ 0; omega) h27 f2 f3 (zat.mkarr h20 h27 f1)) (zl_add hL hn0)
theorem zw_astN (hexec : p.tables.exec = Jvm.exec) (hb : c.code = cc) (hK : zK cl G s) (hr : zrel cl G h H) (hL : ∀ z ∈ locs, G.2.2.heap.size ≤ z.base) {i : Int32} {kd : Nat} {C : String} (hk : (h.1 a).1 = kd) (h20 : 20 ≤ kd) (h27 : kd < 27) (hty : ztyK kd = .object C) (hi : zix i (h.1 a).2.length = true) (hdg : decode cc pc = .ok (.aastore, 1))
    (kk : ∀ (H1 : Heap) (locs1 : List Loc), zrel cl G (zup h a (kd, (h.1 a).2.set i.toNatClampNeg .null)) H1 → (∀ z ∈ locs1, G.2.2.heap.size ≤ z.base) → W p l e R s m args below meth c H1 locs1 cells slots Q (F0 m (pc + 1) ls rest)) : W p l e R s m args below meth c H locs cells slots Q (F0 m pc ls (.null :: .int i :: .ref a :: rest)) := by
  obtain ⟨hi1, hi2⟩ := zix_in hi
  have e1 := (hr.at a).arr (by omega) (by omega)
  rw [hk] at e1
  have e2 : s.isArrayOf (zcellA (G.2.1 kd) (h.1 a).2) (.object C) := by rw [zcellA_eq, ← hty]; exact (hK.2.1 _ h20 h27).1 _ _
  have hn0 : G.2.2.heap.size ≤ a := hr.2.2.2.2 a (by omega) (by omega)
  refine va_WaastN (C := C) hexec hb e1 e2 (fun h => by cases h) (by rw [zcellA_size]; exact hi1) rfl rfl hdg fun H1 f1 f2 f3 => ?_
  rw [zcellA_set] at f1
  exact kk H1 _ (hr.up hk (by show kd ≠ 0; omega) h27 f2 f3 (zat.mkarr h20 h27 f1)) (zl_add hL hn0)
theorem zw_newo (hexec : p.tables.exec = Jvm.exec) (hb : c.code = cc) (hts : ∀ w ∈ Ts, w.before args s = true) (hown : s.vm.findClass own = some m.cls) (hK : zK cl G s) (hr : zrel cl G h H)
    {C : String} {T : u_T} {N ci index : Nat} {fs : List Value} (hin : ∀ w ∈ u_ws C T N, w ∈ Ts) (ty0 : Nat → FieldType) (hty : ∀ k, k < N → parseFieldDescriptor (T k).2.2.1 = some (ty0 k)) (hc : cl[ci]? = some (C, T, N)) (hci : ci < 19) (hN : fs.length = N) (hfs : ∀ j, j < N → defaultValue (ty0 j) = vp_V fs j)
    (hcl : (Cond.classLink own index C).before args s = true) (hinst : (Cond.instantiable C N).before args s = true) (hini : (Cond.initialized C).before args s = true) (hcells : cells + 1 ≤ R.cells) (hslots : slots + N ≤ R.slots) (hdg : decode cc pc = .ok (.new index, 3))
    (kk : ∀ (H1 : Heap), zrel cl G (znew h (ci + 1, fs) N) H1 → W p l e R s m args below meth c H1 locs (cells + 1) (slots + N) Q (F0 m (pc + 3) ls (.ref h.2.1 :: rest))) : W p l e R s m args below meth c H locs cells slots Q (F0 m pc ls rest) := by
  have hKn := hK.1 ci _ hc
  refine W.newcK hexec hb hown hcl hinst hini rfl hdg hcells hslots hKn.2.1 hr.1 fun H1 kC hkC e1 z1 o1 => ?_
  rw [← hr.1] at z1 o1 e1
  exact kk H1 (hr.new z1 o1 (zat.mkobj rfl hci ⟨_, hc, hN, (u_born ty0 hts hin hKn hkC e1 hty).to hfs⟩))
theorem zw_newa (hexec : p.tables.exec = Jvm.exec) (hb : c.code = cc) (hK : zK cl G s) (hr : zrel cl G h H) {n : Int32} {kd : Nat} {atype : ArrayType} (h20 : 20 ≤ kd) (h25 : kd < 25) (hty : newarray.typeOf atype = ztyK kd) (hdv : defaultValue (ztyK kd) = zel kd) (hn : ¬ n < 0) (hle : n.toNatClampNeg ≤ 65536)
    (harr : (Cond.arrayClass (newarray.typeOf atype)).before args s = true) (hcells : cells + 1 ≤ R.cells) (hslots : slots + n.toNatClampNeg ≤ R.slots) (hdg : decode cc pc = .ok (.newarray atype, 2))
    (kk : ∀ (H1 : Heap), zrel cl G (znew h (kd, List.replicate n.toNatClampNeg (zel kd)) n.toNatClampNeg) H1 → W p l e R s m args below meth c H1 locs (cells + 1) (slots + n.toNatClampNeg) Q (F0 m (pc + 2) ls (.ref h.2.1 :: rest))) : W p l e R s m args below meth c H locs cells slots Q (F0 m pc ls (.int n :: rest)) := by
  have hbytes : n.toNatClampNeg * componentBytes (newarray.typeOf atype) ≤ 536870912 := by
    have : componentBytes (newarray.typeOf atype) ≤ 8 := by cases atype <;> decide
    exact Nat.le_trans (Nat.mul_le_mul hle this) (by decide)
  refine va_newaK hexec hb harr rfl hdg rfl hn rfl hbytes hcells hslots hr.1 fun H1 cA e1 z1 o1 hAr hNm => ?_
  rw [← hr.1] at z1 o1 e1
  have hRA := (hK.2.1 kd h20 (by omega)).2
  have hcA : cA = G.2.1 kd := by
    rw [hty] at hNm
    have h9 : s.vm.findClass ("[" ++ (ztyK kd).toString) = some (G.2.1 kd) := by
      rcases (show kd = 20 ∨ kd = 21 ∨ kd = 22 ∨ kd = 23 ∨ kd = 24 by omega) with rfl | rfl | rfl | rfl | rfl <;> exact hRA
    exact Option.some.inj (hNm.symm.trans h9)
  refine kk H1 (hr.new z1 o1 (zat.mkarr h20 (by show kd < 27; omega) ?_))
  rw [e1, hcA, zcellA_eq, hty, hdv]
  congr 1
  simp only [List.length_replicate]
  unfold arrV
  congr 1
  apply Array.ext
  · simp
  · intro i h1 h2
    simp at h1
    simp [h1]
theorem zw_newq (hexec : p.tables.exec = Jvm.exec) (hb : c.code = cc) (hown : s.vm.findClass own = some m.cls) (hK : zK cl G s) (hr : zrel cl G h H) {n : Int32} {kd index : Nat} {C : String} (h25 : 25 ≤ kd) (h27 : kd < 27) (hty : ztyK kd = .object C) (hn : ¬ n < 0) (hle : n.toNatClampNeg ≤ 65536)
    (hclink : (Cond.classLink own index C).before args s = true) (hover : (Cond.arrayOver (.object C)).before args s = true) (hcells : cells + 1 ≤ R.cells) (hslots : slots + n.toNatClampNeg ≤ R.slots) (hdg : decode cc pc = .ok (.anewarray index, 3))
    (kk : ∀ (H1 : Heap), zrel cl G (znew h (kd, List.replicate n.toNatClampNeg (zel kd)) n.toNatClampNeg) H1 → W p l e R s m args below meth c H1 locs (cells + 1) (slots + n.toNatClampNeg) Q (F0 m (pc + 3) ls (.ref h.2.1 :: rest))) : W p l e R s m args below meth c H locs cells slots Q (F0 m pc ls (.int n :: rest)) := by
  refine W.anew hexec hb hown hclink hover rfl hdg rfl hn (by omega) hcells hslots fun cA kA comp f1 f2 f3 f4 => ?_
  generalize hH1 : H.push ({ cls := cA, slots := Array.replicate n.toNatClampNeg .null, vm := .none } : Cell) = H1
  have z1 : H1.size = H.size + 1 := by rw [← hH1, Array.size_push]
  have e1 : H1[H.size]? = some ({ cls := cA, slots := Array.replicate n.toNatClampNeg .null, vm := .none } : Cell) := by rw [← hH1, Array.getElem?_push_size]
  have o1 : ∀ q : Nat, q < H.size → H1[q]? = H[q]? := fun q hq => by rw [← hH1, Array.getElem?_push, if_neg (Nat.ne_of_lt hq)]
  have hRA := (hK.2.1 kd (by omega) h27).2
  rw [hty] at hRA
  obtain ⟨kA2, comp2, k1, k2, k3, k4⟩ := hRA
  have hcA : cA = G.2.1 kd := Option.some.inj (f1.symm.trans k4)
  have hz : zel kd = .null := by rcases (show kd = 25 ∨ kd = 26 by omega) with rfl | rfl <;> rfl
  rw [hr.1]
  refine kk H1 (hr.new z1 o1 (zat.mkarr (by show 20 ≤ kd; omega) h27 ?_))
  rw [e1, hcA, hz]
  simp [zcellA]
theorem zw_gets (hexec : p.tables.exec = Jvm.exec) (hb : c.code = cc) (hown : s.vm.findClass own = some m.cls) (hK : zK cl G s) (hr : zrel cl G h H) {C n d ref : String} {v : Value} {index : Nat} (hZ : va_Z C n d v (fun q => G.2.2.heap.size ≤ q) G.2.2 G.2.2.heap)
    (hlink : (Cond.fieldLink own index ref n d).before args s = true) (hsame : ∀ x, s.fieldFound? C n d = some x → s.fieldFound? ref n d = some x) (hdg : decode cc pc = .ok (.getstatic index, 3))
    (kk : W p l e R s m args below meth c H locs cells slots Q (F0 m (pc + 3) ls (v :: rest))) : W p l e R s m args below meth c H locs cells slots Q (F0 m pc ls rest) := by
  obtain ⟨cf, kf, fi, f, a, cell, h1, h2, h3, h4, h5, h6, h7, h8⟩ := hZ.moved hK.2.2.alike
  exact W.gets hexec hb hown hlink (hsame _ h1) h2 h3 h4 (by rw [hr.2.2.1 a (by omega)]; exact h5) (fun e => by rw [e] at h6; cases h6) h7 rfl hdg kk
theorem zcopied {cA : ClassId} {xs ys : List Value} {sp dp n : Nat} (h1 : sp + n ≤ xs.length) (h2 : dp + n ≤ ys.length) : (zcellA cA ys).storeRun dp ((zcellA cA xs).stretch sp n) = zcellA cA (ys.take dp ++ ((xs.drop sp).take n ++ ys.drop (dp + n))) := by
  rw [zcellA_eq cA ys, va_copiedX (fun z => z) (zcellA cA xs) cA (fun j => xs.getD j .null) (fun j => ys.getD j .null) (fun j hj => zcellA_get cA xs hj) h1]
  rw [zcellA_eq]
  have e1 : (ys.take dp ++ ((xs.drop sp).take n ++ ys.drop (dp + n))).length = ys.length := by simp; omega
  rw [e1]
  unfold arrV
  congr 1
  apply Array.ext
  · simp
  · intro i i1 i2
    simp at i1
    simp only [Array.getElem_ofFn, va_cpy]
    by_cases hi1 : i < dp
    · rw [if_neg (by omega), List.getD_eq_getElem?_getD, List.getD_eq_getElem?_getD, List.getElem?_append_left (by simp; omega), List.getElem?_take_of_lt hi1]
    · by_cases hi2 : i < dp + n
      · rw [if_pos ⟨by omega, hi2⟩, List.getD_eq_getElem?_getD, List.getD_eq_getElem?_getD, List.getElem?_append_right (by simp; omega), List.getElem?_append_left (by simp; omega), List.getElem?_take_of_lt (by simp; omega), List.getElem?_drop]
        congr 2
        simp
        omega
      · rw [if_neg (by omega), List.getD_eq_getElem?_getD, List.getD_eq_getElem?_getD, List.getElem?_append_right (by simp; omega), List.getElem?_append_right (by simp; omega), List.getElem?_drop]
        congr 2
        simp
        omega
theorem zw_copy (hexec : p.tables.exec = Jvm.exec) (hb : c.code = cc) (hK : zK cl G s) (hr : zrel cl G h H) (hL : ∀ z ∈ locs, G.2.2.heap.size ≤ z.base) (hml : c.maxLocals = ls.size) {index : Nat} (hown : s.vm.findClass own = some m.cls) (hlink : (Cond.methodLink own index arraycopyName).before args s = true) (hnat : (Cond.native arraycopyName).before args s = true) (hstat : (Cond.static arraycopyName).before args s = true) (hini : (Cond.initialized "java/lang/System").before args s = true)
    {b : Nat} {sp dp n : Int32} (ha : (h.1 a).1 = 24) (hbk : (h.1 b).1 = 24) (h1 : ¬ sp < 0) (h2 : ¬ dp < 0) (h3 : ¬ n < 0) (h4 : sp.toNatClampNeg + n.toNatClampNeg ≤ (h.1 a).2.length) (h5 : dp.toNatClampNeg + n.toNatClampNeg ≤ (h.1 b).2.length) (hfit : (h.1 a).2.all (zty 6) = true)
    (hframes : 1 ≤ R.frames) (hlocals : (rest.map fun v => v.category).sum + (nativeFrameWords "java/lang/System" "arraycopy" 5 + 11) ≤ R.locals) (hdg : decode cc pc = .ok (.invokestatic index, 3))
    (kk : ∀ (H1 : Heap) (locs1 : List Loc), zrel cl G (zup h b (24, (h.1 b).2.take dp.toNatClampNeg ++ (((h.1 a).2.drop sp.toNatClampNeg).take n.toNatClampNeg ++ (h.1 b).2.drop (dp.toNatClampNeg + n.toNatClampNeg)))) H1 → (∀ z ∈ locs1, G.2.2.heap.size ≤ z.base) → W p l e R s m args below meth c H1 locs1 cells slots Q (F0 m (pc + 3) ls rest)) : W p l e R s m args below meth c H locs cells slots Q (F0 m pc ls (.int n :: .int dp :: .ref b :: .int sp :: .ref a :: rest)) := by
  have nn : ∀ z : Int32, ¬ z < 0 → z.toInt = (z.toNatClampNeg : Int) := by
    intro z hz
    have hz0 : (0 : Int) ≤ z.toInt := by
      have := Int32.not_lt.mp hz
      simpa using Int32.le_iff_toInt_le.mp this
    show z.toInt = ((z.toInt.toNat : Nat) : Int)
    omega
  intro T hT X
  have hc0 : H[a]? = some (zcellA (G.2.1 24) (h.1 a).2) := by have := (hr.at a).arr (by omega) (by omega); rw [ha] at this; exact this
  have hc1 : H[b]? = some (zcellA (G.2.1 24) (h.1 b).2) := by have := (hr.at b).arr (by omega) (by omega); rw [hbk] at this; exact this
  have hn0 : G.2.2.heap.size ≤ b := hr.2.2.2.2 b (by omega) (by omega)
  obtain ⟨-, k0, hk0, cm0, hkk0⟩ := (hK.2.1 24 (by omega) (by omega)).1 (h.1 a).2.length (fun j => (h.1 a).2.getD j .null)
  obtain ⟨vm', X', step⟩ := X.arraycopy hexec hown hlink hnat hstat hini (src := a) (dst := b) (cs := zcellA (G.2.1 24) (h.1 a).2) (cd := zcellA (G.2.1 24) (h.1 b).2) (srcPos := sp) (destPos := dp) (n := n) (by rw [hT]; exact hc0) (by rw [hT]; exact hc1)
    (fun _ h => by cases h) (fun _ h => by cases h) (fun h => by cases h) (fun h => by cases h) hk0 hk0 hkk0 hkk0 (by simp [refKind, ztyK]) h1 h2 h3
    (by rw [nn sp h1, nn n h3, zcellA_size]; omega)
    (by rw [nn dp h2, nn n h3, zcellA_size]; omega)
    (fun vm₁ _ i hi => by
      have e : (zcellA (G.2.1 24) (h.1 a).2).slots.getD (sp.toNatClampNeg + i) .null = (h.1 a).2.getD (sp.toNatClampNeg + i) .null := by
        rw [Array.getD_eq_getD_getElem?, zcellA_get _ _ (by omega)]
        rfl
      have hz : zty 6 ((h.1 a).2.getD (sp.toNatClampNeg + i) .null) = true := by
        rw [List.getD_eq_getElem?_getD, List.getElem?_eq_getElem (by omega)]
        exact List.all_eq_true.mp hfit _ (List.getElem_mem _)
      rw [e]
      generalize (h.1 a).2.getD (sp.toNatClampNeg + i) .null = v at hz
      cases v with
      | int x => exact ⟨hz, trivial⟩
      | _ => cases hz)
    (g := F0 m pc ls (.int n :: .int dp :: .ref b :: .int sp :: .ref a :: rest)) rfl (by rw [hml]) (rest := rest) rfl (by rw [hb]; exact hdg) hframes (by show 2 * 0 + _ + _ ≤ _; omega)
  have e1 : copied (zcellA (G.2.1 24) (h.1 a).2) (zcellA (G.2.1 24) (h.1 b).2) sp dp n = zcellA (G.2.1 24) ((h.1 b).2.take dp.toNatClampNeg ++ (((h.1 a).2.drop sp.toNatClampNeg).take n.toNatClampNeg ++ (h.1 b).2.drop (dp.toNatClampNeg + n.toNatClampNeg))) := zcopied h4 h5
  rw [e1] at X' step
  have hl : b < H.size := (Array.getElem?_eq_some_iff.mp hc1).1
  obtain ⟨Y, hY⟩ : ∃ z, z = (h.1 b).2.take dp.toNatClampNeg ++ (((h.1 a).2.drop sp.toNatClampNeg).take n.toNatClampNeg ++ (h.1 b).2.drop (dp.toNatClampNeg + n.toNatClampNeg)) := ⟨_, rfl⟩
  rw [← hY] at X' step kk
  have hheap : ((T.setVm vm').setCell b (zcellA (G.2.1 24) Y)).heap = H.setIfInBounds b (zcellA (G.2.1 24) Y) := by rw [← hT]; rfl
  have oq : ∀ q : Nat, q ≠ b → (H.setIfInBounds b (zcellA (G.2.1 24) Y))[q]? = H[q]? := fun q hq => by simp [Array.getElem?_setIfInBounds, Ne.symm hq]
  obtain ⟨t, a1, b1⟩ := kk _ _ (hr.up (c := (24, Y)) hbk (by show 24 ≠ 0; omega) (by show 24 < 27; omega) (by simp) oq (zat.mkarr (by show 20 ≤ 24; omega) (by show 24 < 27; omega) (show (H.setIfInBounds b _)[b]? = some _ by simp [Array.getElem?_setIfInBounds, hl]))) (fun z hz => by
      rcases List.mem_append.mp hz with hz | hz
      · exact hL z hz
      · obtain ⟨q, -, hq⟩ := List.mem_map.mp hz
        rw [← hq]
        exact hn0) _ hheap X'
  exact ⟨t, step t a1, b1⟩
end ZOPS
