/-! The pure heap and the machine's. -/
/-- which classes the objects' kinds are, which classes the arrays' kinds are, the state at the law's entry -/
abbrev zG : Type := va_G × (Nat → ClassId) × State
def ztyK : Nat → FieldType
  | 20 => .int
  | 21 => .char
  | 22 => .long
  | 23 => .double
  | 24 => .byte
  | 25 => .object "ExpressionCompiler$Tree"
  | 26 => .object "ExpressionCompiler$State"
  | 27 => .byte
  | _ => .int
def zcellA (cA : ClassId) (vs : List Value) : Cell := { cls := cA, slots := vs.toArray, vm := .none }
theorem zcellA_eq (cA : ClassId) (vs : List Value) : zcellA cA vs = arrV cA vs.length (fun j => vs.getD j .null) := by
  unfold zcellA arrV
  congr 1
  apply Array.ext
  · simp
  · intro i h1 h2
    simp at h1
    simp [h1]
theorem zcellA_size (cA : ClassId) (vs : List Value) : (zcellA cA vs).slots.size = vs.length := by simp [zcellA]
theorem zcellA_get (cA : ClassId) (vs : List Value) {j : Nat} (h : j < vs.length) : (zcellA cA vs).slots[j]? = some (vs.getD j .null) := by
  simp [zcellA, h]
theorem zcellA_set (cA : ClassId) (vs : List Value) (j : Nat) (v : Value) : (zcellA cA vs).setSlot j v = zcellA cA (vs.set j v) := by
  simp [zcellA, Cell.setSlot]
def zat (cl : List vw_C) (G : zG) (a : Nat) (c : zC) (H : Heap) : Prop :=
  if c.1 = 0 then True
  else if c.1 < 20 then ∃ r : vw_C, cl[c.1 - 1]? = some r ∧ c.2.length = r.2.2 ∧ t_OB a (G.1.1 (c.1 - 1)) r.2.2 (G.1.2 (c.1 - 1)) H (vp_V c.2)
  else if c.1 < 27 then H[a]? = some (zcellA (G.2.1 c.1) c.2)
  else ∃ cell : Cell, H[a]? = some cell ∧ G.2.2.isArrayOf cell (ztyK c.1) ∧ cell.vm ≠ .unknown ∧ cell.slots.toList = c.2
def zrel (cl : List vw_C) (G : zG) (h : zH) (H : Heap) : Prop :=
  H.size = h.2.1 ∧ G.2.2.heap.size ≤ h.2.1 ∧ (∀ q : Nat, q < G.2.2.heap.size → H[q]? = G.2.2.heap[q]?) ∧ (∀ a : Nat, zat cl G a (h.1 a) H) ∧ ∀ a : Nat, (h.1 a).1 ≠ 0 → (h.1 a).1 < 27 → G.2.2.heap.size ≤ a
theorem zat.lt {cl : List vw_C} {G : zG} {a : Nat} {c : zC} {H : Heap} (h : zat cl G a c H) (h0 : c.1 ≠ 0) : a < H.size := by
  unfold zat at h
  rw [if_neg h0] at h
  split at h
  · obtain ⟨r, -, -, cell, h1, -⟩ := h
    exact (Array.getElem?_eq_some_iff.mp h1).1
  · split at h
    · exact (Array.getElem?_eq_some_iff.mp h).1
    · obtain ⟨cell, h1, -⟩ := h
      exact (Array.getElem?_eq_some_iff.mp h1).1
theorem zat.zero {cl : List vw_C} {G : zG} {a : Nat} {c : zC} {H : Heap} (h : c.1 = 0) : zat cl G a c H := by
  unfold zat
  rw [if_pos h]
  trivial
theorem zat.obj {cl : List vw_C} {G : zG} {a : Nat} {c : zC} {H : Heap} {ci : Nat} (h : zat cl G a c H) (hk : c.1 = ci + 1) (hc : ci < 19) : ∃ r : vw_C, cl[ci]? = some r ∧ c.2.length = r.2.2 ∧ t_OB a (G.1.1 ci) r.2.2 (G.1.2 ci) H (vp_V c.2) := by
  unfold zat at h
  rw [if_neg (by omega), if_pos (by omega)] at h
  rw [show c.1 - 1 = ci by omega] at h
  exact h
theorem zat.mkobj {cl : List vw_C} {G : zG} {a : Nat} {c : zC} {H : Heap} {ci : Nat} (hk : c.1 = ci + 1) (hc : ci < 19) (h : ∃ r : vw_C, cl[ci]? = some r ∧ c.2.length = r.2.2 ∧ t_OB a (G.1.1 ci) r.2.2 (G.1.2 ci) H (vp_V c.2)) : zat cl G a c H := by
  unfold zat
  rw [if_neg (by omega), if_pos (by omega)]
  rw [show c.1 - 1 = ci by omega]
  exact h
theorem zat.arr {cl : List vw_C} {G : zG} {a : Nat} {c : zC} {H : Heap} (h : zat cl G a c H) (h1 : 20 ≤ c.1) (h2 : c.1 < 27) : H[a]? = some (zcellA (G.2.1 c.1) c.2) := by
  unfold zat at h
  rw [if_neg (by omega), if_neg (by omega), if_pos h2] at h
  exact h
theorem zat.mkarr {cl : List vw_C} {G : zG} {a : Nat} {c : zC} {H : Heap} (h1 : 20 ≤ c.1) (h2 : c.1 < 27) (h : H[a]? = some (zcellA (G.2.1 c.1) c.2)) : zat cl G a c H := by
  unfold zat
  rw [if_neg (by omega), if_neg (by omega), if_pos h2]
  exact h
theorem zat.ro {cl : List vw_C} {G : zG} {a : Nat} {c : zC} {H : Heap} (h : zat cl G a c H) (h1 : 27 ≤ c.1) : ∃ cell : Cell, H[a]? = some cell ∧ G.2.2.isArrayOf cell (ztyK c.1) ∧ cell.vm ≠ .unknown ∧ cell.slots.toList = c.2 := by
  unfold zat at h
  rw [if_neg (by omega), if_neg (by omega), if_neg (by omega)] at h
  exact h
theorem zat.kept {cl : List vw_C} {G : zG} {a : Nat} {c : zC} {H H1 : Heap} (h : zat cl G a c H) (hq : H1[a]? = H[a]?) : zat cl G a c H1 := by
  by_cases h0 : c.1 = 0
  · exact zat.zero h0
  · by_cases h1 : c.1 < 20
    · obtain ⟨r, e1, e2, e3⟩ := h.obj (ci := c.1 - 1) (by omega) (by omega)
      exact zat.mkobj (ci := c.1 - 1) (by omega) (by omega) ⟨r, e1, e2, e3.kept hq⟩
    · by_cases h2 : c.1 < 27
      · exact zat.mkarr (by omega) h2 (hq.trans (h.arr (by omega) h2))
      · obtain ⟨cell, e1, e2⟩ := h.ro (by omega)
        unfold zat
        rw [if_neg h0, if_neg h1, if_neg h2]
        exact ⟨cell, hq.trans e1, e2⟩
theorem zrel.at {cl : List vw_C} {G : zG} {h : zH} {H : Heap} (hr : zrel cl G h H) (a : Nat) : zat cl G a (h.1 a) H := hr.2.2.2.1 a
theorem zrel.up {cl : List vw_C} {G : zG} {h : zH} {H H1 : Heap} {a : Nat} {c : zC} (hr : zrel cl G h H) (hk : (h.1 a).1 = c.1) (h0 : c.1 ≠ 0) (h27 : c.1 < 27) (hz : H1.size = H.size) (ho : ∀ q : Nat, q ≠ a → H1[q]? = H[q]?) (hc : zat cl G a c H1) : zrel cl G (zup h a c) H1 := by
  obtain ⟨r1, r2, r3, r4, r5⟩ := hr
  have hn : G.2.2.heap.size ≤ a := r5 a (by rw [hk]; exact h0) (by rw [hk]; exact h27)
  refine ⟨hz.trans r1, r2, fun q hq => ?_, fun q => ?_, fun q => ?_⟩
  · rw [ho q (by omega)]
    exact r3 q hq
  · show zat cl G q (if q = a then c else h.1 q) H1
    split
    · next e => rw [e]; exact hc
    · next e => exact (r4 q).kept (ho q e)
  · show (if q = a then c else h.1 q).1 ≠ 0 → (if q = a then c else h.1 q).1 < 27 → _
    split
    · next e => rw [e]; exact fun _ _ => hn
    · exact r5 q
theorem zrel.new {cl : List vw_C} {G : zG} {h : zH} {H H1 : Heap} {c : zC} {n : Nat} (hr : zrel cl G h H) (hz : H1.size = H.size + 1) (ho : ∀ q : Nat, q < H.size → H1[q]? = H[q]?) (hc : zat cl G H.size c H1) : zrel cl G (znew h c n) H1 := by
  obtain ⟨r1, r2, r3, r4, r5⟩ := hr
  refine ⟨by show H1.size = h.2.1 + 1; omega, by show _ ≤ h.2.1 + 1; omega, fun q hq => ?_, fun q => ?_, fun q => ?_⟩
  · rw [ho q (by omega)]
    exact r3 q hq
  · show zat cl G q (if q = h.2.1 then c else h.1 q) H1
    split
    · next e => rw [e, ← r1]; exact hc
    · next e =>
      by_cases h0 : (h.1 q).1 = 0
      · exact zat.zero h0
      · exact (r4 q).kept (ho q ((r4 q).lt h0))
  · show (if q = h.2.1 then c else h.1 q).1 ≠ 0 → (if q = h.2.1 then c else h.1 q).1 < 27 → _
    split
    · next e => rw [e]; exact fun _ _ => r2
    · exact r5 q
theorem zix_in {i : Int32} {n : Nat} (h : zix i n = true) : ¬ (i < 0 ∨ n ≤ i.toNatClampNeg) ∧ i.toNatClampNeg < n := by
  unfold zix at h
  rw [Bool.and_eq_true, decide_eq_true_eq, decide_eq_true_eq] at h
  exact ⟨fun q => q.elim h.1 (fun q => by omega), h.2⟩
