theorem zstep_op {P : zProg} {sv : Nat → Value} {I : zI} {pc : Nat} {ls : List Slot} {st : List Value} {h : zH} (hn : 31 < I.1) : zstep P sv I pc ls st h = none := by
  obtain ⟨op, i, j, x, n⟩ := I
  unfold zstep
  split <;> first | rfl | (rename_i e9; simp only at e9 hn; omega)
theorem zstep_inl27 {P : zProg} {sv : Nat → Value} {i j n : Nat} {x : Int} {pc : Nat} {ls : List Slot} {st : List Value} {h : zH} {q : Nat × List Slot × List Value × zH} (hs : zstep P sv (27, i, j, x, n) pc ls st h = some (.inl q)) : False := by
  cases st with
  | nil =>
    have h9 : (some (.inr (.inr (.inl none, h))) : zS) = some (.inl q) := hs
    cases h9
  | cons a b =>
    have h9 : (none : zS) = some (.inl q) := hs
    cases h9
theorem zlk_go {P : zProg} {L : zL} {zW : List Jvm.Cond} {cl : List vw_C} {G : zG} {ss : Nat → String × String × String} {k pc : Nat} {sv : Nat → Value} {ls : List Slot} {st : List Value} {h : zH} {q : Nat × List Slot × List Value × zH} (hlk : zlk P L zW cl G ss k pc) (hs : zstep P sv (P.1 k pc) pc ls st h = some (.inl q)) : zlkI P zW cl ss (L.1 k).cls (L.1 k).name (L.2.1 k) pc (P.1 k pc) := by
  unfold zlk at hlk
  split at hlk
  · next i j x n e9 =>
    rw [e9] at hs
    replace hs : zcalls i j x.toNat st h = some (.inl q) := hs
    unfold zcalls at hs
    split at hs <;> cases hs
  · next t j x n e9 =>
    rw [e9] at hs
    replace hs : zrets t st h = some (.inl q) := hs
    unfold zrets at hs
    repeat' split at hs
    all_goals cases hs
  · next i j x n e9 =>
    rw [e9] at hs
    rcases zstep_inl27 hs
  · next i j x n e9 =>
    rw [e9] at hs
    replace hs : ((if st.length ≤ 4 then some (.inr (.inr (.inr i, znew h (0, []) 6))) else none) : zS) = some (.inl q) := hs
    split at hs <;> cases hs
  · exact hlk
theorem zcatch_find {L : zL} {zW : List Jvm.Cond} {G : zG} {own : String} {cc : ByteArray} {pc E : Nat} {q : Nat × Nat × Nat × Nat × Int} : ∀ (hs : List (Nat × Nat × Nat × Nat × Int)) (ts : List (Nat × Nat × Nat × Nat)), zlkH L zW G own cc hs ts → hs.find? (fun q => decide (q.1 ≤ pc) && decide (pc < q.2.1) && decide (q.2.2.1 = E)) = some q →
    ∃ (pre : List ExceptionTableEntry) (x : ExceptionTableEntry) (suf : List ExceptionTableEntry), tableOf ts = pre ++ x :: suf ∧ (∀ z ∈ pre, covers z pc = false ∨ (z.catchType ≠ 0 ∧ ∃ nm : String, Cond.classLink own z.catchType nm ∈ zW ∧ va_Nc (L.2.2.2.2.1 E) nm G.2.2)) ∧
      covers x pc = true ∧ x.catchType ≠ 0 ∧ Cond.classLink own x.catchType (L.2.2.2.2.1 E) ∈ zW ∧ Cond.castable (L.2.2.2.2.1 E) (L.2.2.2.2.1 E) ∈ zW ∧ zlkHand cc x.handlerPc q.2.2.2.1 q.2.2.2.2 ∧ q ∈ hs ∧ q.2.2.1 = E := by
  intro hs
  induction hs with
  | nil => intro ts _ hf; cases hf
  | cons a hs ih =>
    intro ts hlk hf
    obtain ⟨a1, b1, n1, i1, r1⟩ := a
    cases ts with
    | nil => cases hlk
    | cons t ts =>
      obtain ⟨a2, b2, hp, ct⟩ := t
      obtain ⟨rfl, rfl, hct, hcl, hcast, hhand, hnc, hrest⟩ := hlk
      by_cases hp9 : (decide (a1 ≤ pc) && decide (pc < b1) && decide (n1 = E)) = true
      · rw [List.find?_cons_of_pos (by simpa using hp9)] at hf
        cases hf
        simp only [Bool.and_eq_true, decide_eq_true_eq] at hp9
        obtain ⟨⟨h1, h2⟩, rfl⟩ := hp9
        exact ⟨[], ⟨a1, b1, hp, ct⟩, tableOf ts, rfl, (fun z hz => by cases hz), (by simp [covers, h1, h2]), hct, hcl, hcast, hhand, List.mem_cons_self, rfl⟩
      · rw [List.find?_cons_of_neg (by simpa using hp9)] at hf
        obtain ⟨pre, x, suf, e1, e2, e3, e4, e5, e6, e7, e8, e9⟩ := ih ts hrest hf
        refine ⟨⟨a1, b1, hp, ct⟩ :: pre, x, suf, by show _ :: tableOf ts = _; rw [e1]; rfl, ?_, e3, e4, e5, e6, e7, List.mem_cons_of_mem _ e8, e9⟩
        intro z hz
        rcases List.mem_cons.mp hz with rfl | hz
        · have h3 := hnc q e8
          rw [e9] at h3
          exact Or.inr ⟨hct, _, hcl, h3⟩
        · exact e2 z hz
