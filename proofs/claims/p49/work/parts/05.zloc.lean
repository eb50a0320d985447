/-! Locals, exactly. -/
section ZLOC
variable {p : Program} {l : Launch} {e : Env} {R : Room} {s : State} {m : MethodId} {args : Array Value} {below : List Frame} {meth : Method} {c : Code} {H : Heap} {locs : List Loc} {cells slots : Nat} {Q : State → Prop}
variable {cc : ByteArray} {pc : Nat} {ls ls' : Array Slot} {rest : List Value}
theorem zw_istore_n (hexec : p.tables.exec = Jvm.exec) (hb : c.code = cc) {k : Fin 4} {i : Nat} {x : Int32} (hdg : decode cc pc = .ok (.istore_n k, 1)) (hi : (k : Nat) = i) (e' : storeLocals ls i (.int x) = some ls')
    (kk : W p l e R s m args below meth c H locs cells slots Q (F0 m (pc + 1) ls' rest)) : W p l e R s m args below meth c H locs cells slots Q (F0 m pc ls (.int x :: rest)) := by
  subst hi
  intro T hT X
  obtain ⟨t, a, b⟩ := kk T hT X
  refine ⟨t, ?_, b⟩
  jvm_step X.here [X.here.top, ↓top_set X.here.top, hexec, hb, hdg, e']
  exact a
theorem zw_istore (hexec : p.tables.exec = Jvm.exec) (hb : c.code = cc) {i : Nat} {x : Int32} (hdg : decode cc pc = .ok (.istore i, 2)) (e' : storeLocals ls i (.int x) = some ls')
    (kk : W p l e R s m args below meth c H locs cells slots Q (F0 m (pc + 2) ls' rest)) : W p l e R s m args below meth c H locs cells slots Q (F0 m pc ls (.int x :: rest)) := by
  intro T hT X
  obtain ⟨t, a, b⟩ := kk T hT X
  refine ⟨t, ?_, b⟩
  jvm_step X.here [X.here.top, ↓top_set X.here.top, hexec, hb, hdg, e']
  exact a
theorem zw_astore_n (hexec : p.tables.exec = Jvm.exec) (hb : c.code = cc) {k : Fin 4} {i : Nat} {v : Value} (hv : zty 4 v = true) (hdg : decode cc pc = .ok (.astore_n k, 1)) (hi : (k : Nat) = i) (e' : storeLocals ls i v = some ls')
    (kk : W p l e R s m args below meth c H locs cells slots Q (F0 m (pc + 1) ls' rest)) : W p l e R s m args below meth c H locs cells slots Q (F0 m pc ls (v :: rest)) := by
  subst hi
  intro T hT X
  obtain ⟨t, a, b⟩ := kk T hT X
  refine ⟨t, ?_, b⟩
  cases v with
  | ref x => jvm_step X.here [X.here.top, ↓top_set X.here.top, hexec, hb, hdg, e', Value.isRef]; exact a
  | null => jvm_step X.here [X.here.top, ↓top_set X.here.top, hexec, hb, hdg, e', Value.isRef]; exact a
  | _ => cases hv
theorem zw_astore (hexec : p.tables.exec = Jvm.exec) (hb : c.code = cc) {i : Nat} {v : Value} (hv : zty 4 v = true) (hdg : decode cc pc = .ok (.astore i, 2)) (e' : storeLocals ls i v = some ls')
    (kk : W p l e R s m args below meth c H locs cells slots Q (F0 m (pc + 2) ls' rest)) : W p l e R s m args below meth c H locs cells slots Q (F0 m pc ls (v :: rest)) := by
  intro T hT X
  obtain ⟨t, a, b⟩ := kk T hT X
  refine ⟨t, ?_, b⟩
  cases v with
  | ref x => jvm_step X.here [X.here.top, ↓top_set X.here.top, hexec, hb, hdg, e', Value.isRef]; exact a
  | null => jvm_step X.here [X.here.top, ↓top_set X.here.top, hexec, hb, hdg, e', Value.isRef]; exact a
  | _ => cases hv
theorem zw_fstore (hexec : p.tables.exec = Jvm.exec) (hb : c.code = cc) {i : Nat} {x : UInt32} (hdg : decode cc pc = .ok (.fstore i, 2)) (e' : storeLocals ls i (.float x) = some ls')
    (kk : W p l e R s m args below meth c H locs cells slots Q (F0 m (pc + 2) ls' rest)) : W p l e R s m args below meth c H locs cells slots Q (F0 m pc ls (.float x :: rest)) := by
  intro T hT X
  obtain ⟨t, a, b⟩ := kk T hT X
  refine ⟨t, ?_, b⟩
  jvm_step X.here [X.here.top, ↓top_set X.here.top, hexec, hb, hdg, e']
  exact a
theorem zw_dstore (hexec : p.tables.exec = Jvm.exec) (hb : c.code = cc) {i : Nat} {x : UInt64} (hdg : decode cc pc = .ok (.dstore i, 2)) (e' : storeLocals ls i (.double x) = some ls')
    (kk : W p l e R s m args below meth c H locs cells slots Q (F0 m (pc + 2) ls' rest)) : W p l e R s m args below meth c H locs cells slots Q (F0 m pc ls (.double x :: rest)) := by
  intro T hT X
  obtain ⟨t, a, b⟩ := kk T hT X
  refine ⟨t, ?_, b⟩
  jvm_step X.here [X.here.top, ↓top_set X.here.top, hexec, hb, hdg, e']
  exact a
theorem zw_lstore_n (hexec : p.tables.exec = Jvm.exec) (hb : c.code = cc) {k : Fin 4} {i : Nat} {x : Int64} (hdg : decode cc pc = .ok (.lstore_n k, 1)) (hi : (k : Nat) = i) (e' : storeLocals ls i (.long x) = some ls')
    (kk : W p l e R s m args below meth c H locs cells slots Q (F0 m (pc + 1) ls' rest)) : W p l e R s m args below meth c H locs cells slots Q (F0 m pc ls (.long x :: rest)) := by
  subst hi
  intro T hT X
  obtain ⟨t, a, b⟩ := kk T hT X
  refine ⟨t, ?_, b⟩
  jvm_step X.here [X.here.top, ↓top_set X.here.top, hexec, hb, hdg, e']
  exact a
theorem zw_lstore (hexec : p.tables.exec = Jvm.exec) (hb : c.code = cc) {i : Nat} {x : Int64} (hdg : decode cc pc = .ok (.lstore i, 2)) (e' : storeLocals ls i (.long x) = some ls')
    (kk : W p l e R s m args below meth c H locs cells slots Q (F0 m (pc + 2) ls' rest)) : W p l e R s m args below meth c H locs cells slots Q (F0 m pc ls (.long x :: rest)) := by
  intro T hT X
  obtain ⟨t, a, b⟩ := kk T hT X
  refine ⟨t, ?_, b⟩
  jvm_step X.here [X.here.top, ↓top_set X.here.top, hexec, hb, hdg, e']
  exact a
theorem zw_iinc (hexec : p.tables.exec = Jvm.exec) (hb : c.code = cc) {i : Nat} {n : Int} {x : Int32} (hdg : decode cc pc = .ok (.iinc i n, 3)) (hg : ls[i]? = some (.val (.int x))) (e' : storeLocals ls i (.int (x + Int32.ofInt n)) = some ls')
    (kk : W p l e R s m args below meth c H locs cells slots Q (F0 m (pc + 3) ls' rest)) : W p l e R s m args below meth c H locs cells slots Q (F0 m pc ls rest) := by
  intro T hT X
  obtain ⟨t, a, b⟩ := kk T hT X
  refine ⟨t, ?_, b⟩
  jvm_step X.here [X.here.top, ↓top_set X.here.top, hexec, hb, hdg, hg, e']
  exact a
theorem zw_size {i : Nat} {v : Value} (h : storeLocals ls i v = some ls') : ls'.size = ls.size := by
  have hs : ∀ {l l2 : Array Slot} {j : Nat} {x : Slot}, setAt l j x = some l2 → l2.size = l.size := by
    intro l l2 j x h9
    unfold setAt at h9
    split at h9
    · cases h9; simp
    · cases h9
  have hself : ∀ {l l2 : Array Slot}, storeSelf l i v = some l2 → l2.size = l.size := by
    intro l l2 h9
    unfold storeSelf at h9
    simp only [Option.bind_eq_bind, Option.bind_eq_some_iff] at h9
    obtain ⟨l3, h3, h9⟩ := h9
    split at h9
    · obtain ⟨x, hx, h9⟩ := Option.bind_eq_some_iff.mp h9
      split at h9
      · split at h9
        · obtain ⟨l4, h4, h9⟩ := Option.bind_eq_some_iff.mp h9
          rw [hs h9, hs h4, hs h3]
        · rw [hs h9, hs h3]
      · rw [hs h9, hs h3]
    · cases h9
      exact hs h3
  unfold storeLocals at h
  simp only [Option.bind_eq_bind, Option.bind_eq_some_iff] at h
  obtain ⟨x, hx, h⟩ := h
  split at h
  · obtain ⟨l4, h4, h⟩ := Option.bind_eq_some_iff.mp h
    rw [hself h, hs h4]
  · split at h
    · obtain ⟨l4, h4, h⟩ := Option.bind_eq_some_iff.mp h
      rw [hself h, hs h4]
    · exact hself h
  · exact hself h
end ZLOC
/-! Locals of which less is known. -/
def zle1 (x y : Slot) : Prop := x = y ∨ (x = .unset ∧ ∃ q, y = .val (.ref q))
def zle (l l1 : Array Slot) : Prop := l.size = l1.size ∧ ∀ (i : Nat) (x : Slot), l[i]? = some x → ∃ y, l1[i]? = some y ∧ zle1 x y
theorem zle_rfl {l : Array Slot} : zle l l := ⟨rfl, fun _ x h => ⟨x, h, Or.inl rfl⟩⟩
theorem zle_set {l l1 l2 : Array Slot} {i : Nat} {x y : Slot} (h : setAt l i x = some l2) (hl : zle l l1) (hxy : zle1 x y) : ∃ l3, setAt l1 i y = some l3 ∧ zle l2 l3 := by
  unfold setAt at h ⊢
  split at h
  · next hi =>
    cases h
    rw [if_pos (by rw [← hl.1]; exact hi)]
    refine ⟨_, rfl, by simpa using hl.1, fun j z hj => ?_⟩
    rw [Array.getElem?_setIfInBounds] at hj ⊢
    by_cases e : i = j
    · rw [if_pos e] at hj ⊢
      have hi1 : i < l1.size := by rw [← hl.1]; exact hi
      rw [if_pos hi] at hj
      rw [if_pos hi1]
      cases hj
      exact ⟨y, rfl, hxy⟩
    · rw [if_neg e] at hj ⊢
      exact hl.2 j z hj
  · cases h
theorem zle_self {l l1 l2 : Array Slot} {i : Nat} {v : Value} (h : storeSelf l i v = some l2) (hl : zle l l1) : ∃ l3, storeSelf l1 i v = some l3 ∧ zle l2 l3 := by
  unfold storeSelf at h ⊢
  simp only [Option.bind_eq_bind, Option.bind_eq_some_iff] at h ⊢
  obtain ⟨a, ha, h⟩ := h
  obtain ⟨b, hb, hab⟩ := zle_set ha hl (Or.inl rfl)
  split at h
  · next hv =>
    obtain ⟨x, hx, h⟩ := Option.bind_eq_some_iff.mp h
    obtain ⟨y, hy, hxy⟩ := hab.2 _ _ hx
    have key : ∀ {z}, setAt a (i + 1) .second = some z → ∃ l3, setAt b (i + 1) .second = some l3 ∧ zle z l3 := fun h9 => zle_set h9 hab (Or.inl rfl)
    rcases hxy with rfl | ⟨rfl, q, rfl⟩
    · split at h
      · next old =>
        split at h
        · next ho =>
          obtain ⟨a2, ha2, h⟩ := Option.bind_eq_some_iff.mp h
          obtain ⟨b2, hb2, hab2⟩ := zle_set ha2 hab (Or.inl rfl)
          obtain ⟨b3, hb3, hab3⟩ := zle_set h hab2 (Or.inl rfl)
          exact ⟨b3, ⟨b, hb, by rw [if_pos hv]; exact Option.bind_eq_some_iff.mpr ⟨_, hy, by simp only [if_pos ho]; exact Option.bind_eq_some_iff.mpr ⟨b2, hb2, hb3⟩⟩⟩, hab3⟩
        · next ho =>
          obtain ⟨b3, hb3, hab3⟩ := key h
          exact ⟨b3, ⟨b, hb, by rw [if_pos hv]; exact Option.bind_eq_some_iff.mpr ⟨_, hy, by simp only [if_neg ho]; exact hb3⟩⟩, hab3⟩
      · next hno =>
        obtain ⟨b3, hb3, hab3⟩ := key h
        refine ⟨b3, ⟨b, hb, ?_⟩, hab3⟩
        rw [if_pos hv]
        refine Option.bind_eq_some_iff.mpr ⟨_, hy, ?_⟩
        cases x with
        | val old => exact absurd rfl (hno old)
        | unset => exact hb3
        | second => exact hb3
    · obtain ⟨b3, hb3, hab3⟩ := key h
      refine ⟨b3, ⟨b, hb, ?_⟩, hab3⟩
      rw [if_pos hv]
      refine Option.bind_eq_some_iff.mpr ⟨_, hy, ?_⟩
      have hc : ¬ (Value.ref q).category = 2 := by show ¬ 1 = 2; decide
      simp only [if_neg hc]
      exact hb3
  · next hv =>
    cases h
    exact ⟨b, ⟨b, hb, by rw [if_neg hv]⟩, hab⟩
theorem zle_store {l l1 l2 : Array Slot} {i : Nat} {v : Value} (h : storeLocals l i v = some l2) (hl : zle l l1) : ∃ l3, storeLocals l1 i v = some l3 ∧ zle l2 l3 := by
  unfold storeLocals at h ⊢
  simp only [Option.bind_eq_bind, Option.bind_eq_some_iff] at h ⊢
  obtain ⟨x, hx, h⟩ := h
  obtain ⟨y, hy, hxy⟩ := hl.2 _ _ hx
  rcases hxy with rfl | ⟨rfl, q, rfl⟩
  · cases x with
    | second =>
      obtain ⟨a, ha, h⟩ := Option.bind_eq_some_iff.mp h
      obtain ⟨b, hb, hab⟩ := zle_set ha hl (Or.inl rfl)
      obtain ⟨b3, hb3, hab3⟩ := zle_self h hab
      exact ⟨b3, ⟨_, hy, Option.bind_eq_some_iff.mpr ⟨b, hb, hb3⟩⟩, hab3⟩
    | unset =>
      obtain ⟨b3, hb3, hab3⟩ := zle_self h hl
      exact ⟨b3, ⟨_, hy, hb3⟩, hab3⟩
    | val old =>
      dsimp only at h
      split at h
      · next ho =>
        obtain ⟨a, ha, h⟩ := Option.bind_eq_some_iff.mp h
        obtain ⟨b, hb, hab⟩ := zle_set ha hl (Or.inl rfl)
        obtain ⟨b3, hb3, hab3⟩ := zle_self h hab
        exact ⟨b3, ⟨_, hy, by simp only [if_pos ho]; exact Option.bind_eq_some_iff.mpr ⟨b, hb, hb3⟩⟩, hab3⟩
      · next ho =>
        obtain ⟨b3, hb3, hab3⟩ := zle_self h hl
        exact ⟨b3, ⟨_, hy, by simp only [if_neg ho]; exact hb3⟩, hab3⟩
  · obtain ⟨b3, hb3, hab3⟩ := zle_self h hl
    have hc : ¬ (Value.ref q).category = 2 := by show ¬ 1 = 2; decide
    exact ⟨b3, ⟨_, hy, by simp only [if_neg hc]; exact hb3⟩, hab3⟩
