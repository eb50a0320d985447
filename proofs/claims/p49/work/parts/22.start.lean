/-! What the law's start gives. Printed by wip/gen/gen.py. -/
theorem zc_l {a b : Jvm.Cond} {args : Array Value} {s : State} (h : (Jvm.Cond.and a b).before args s = true) : a.before args s = true := by
  rw [Cond.before_and, Bool.and_eq_true] at h
  exact h.1
theorem zc_r {a b : Jvm.Cond} {args : Array Value} {s : State} (h : (Jvm.Cond.and a b).before args s = true) : b.before args s = true := by
  rw [Cond.before_and, Bool.and_eq_true] at h
  exact h.2
theorem z_strR {own tx : String} {k : Nat} {A : Array Value} {s : State} (h1 : (Cond.stringRef own k tx).before A s = true) (h2 : (Cond.exactly (.string own k) "java/lang/String").before A s = true) : ∃ sa, vk_R own k tx sa s := by
  obtain ⟨a, c, cA, kA, q1, -⟩ := Cond.exactly_spec (args := A) (first := s) (o := none) (s := s) (idx := []) (t := .string own k) (cls := "java/lang/String") h2
  exact ⟨a, vk_R.of h1 q1⟩
theorem z_ev {t : Term} {ty : FieldType} {A : Array Value} {s : State} (h : (Cond.arrayOf t ty).before A s = true) : ∃ v, t.eval A s none [] s = some v := by
  cases e : t.eval A s none [] s with
  | none => simp [Cond.before, Cond.holds, Cond.value, e] at h
  | some v => exact ⟨v, rfl⟩
/-- the heap at the law's entry: the script alone is known -/
def zh0 (n0 b : Nat) (xs : List Int32) : zH := (fun q => if q = b then (28, xs.map Value.int) else (0, []), n0, 0)
theorem z_strs {A : Array Value} {s : State} (ht : ∀ w ∈ tables_1, w.before A s = true) (hg : (Jvm.Cond.and given_1 narrow_1).before A s = true) : zstrs s :=
  ⟨z_strR (ht (Cond.stringRef "ExpressionCompiler" 100 "the input buffer is full") (zt_2 (List.mem_of_getElem? (i := 195) rfl))) (zc_r (zc_l (zc_l (zc_r (zc_r (zc_r (zc_r (zc_l (zc_r (zc_l (zc_r hg))))))))))),
  z_strR (ht (Cond.stringRef "ExpressionCompiler" 124 "the text is malformed") (zt_3 (List.mem_of_getElem? (i := 93) rfl))) (zc_r (zc_l (zc_r (zc_l (zc_r (zc_l (zc_l (zc_r (zc_r (zc_l (zc_r hg))))))))))),
  z_strR (ht (Cond.stringRef "ExpressionCompiler" 187 "the value is out of range") (zt_4 (List.mem_of_getElem? (i := 198) rfl))) (zc_r (zc_r (zc_l (zc_r (zc_l (zc_l (zc_l (zc_r (zc_l (zc_r (zc_r hg))))))))))),
  z_strR (ht (Cond.stringRef "ExpressionCompiler" 193 "the number of registers is out of range") (zt_4 (List.mem_of_getElem? (i := 122) rfl))) (zc_l (zc_l (zc_l (zc_r (zc_r (zc_l (zc_l (zc_l (zc_l (zc_r (zc_r hg))))))))))),
  z_strR (ht (Cond.stringRef "ExpressionCompiler" 269 "the code stores a register with every machine") (zt_7 (List.mem_of_getElem? (i := 121) rfl))) (zc_r (zc_l (zc_l (zc_l (zc_l (zc_r (zc_l (zc_r (zc_r (zc_r (zc_r hg))))))))))),
  z_strR (ht (Cond.stringRef "ExpressionCompiler" 295 "no such character") (zt_7 (List.mem_of_getElem? (i := 26) rfl))) (zc_l (zc_l (zc_l (zc_l (zc_l (zc_r (zc_r (zc_l (zc_r (zc_r (zc_r hg))))))))))),
  z_strR (ht (Cond.stringRef "ExpressionCompiler" 304 "no such rank") (zt_6 (List.mem_of_getElem? (i := 130) rfl))) (zc_l (zc_r (zc_r (zc_r (zc_l (zc_r (zc_r (zc_r (zc_l (zc_r (zc_r hg))))))))))),
  z_strR (ht (Cond.stringRef "ExpressionCompiler" 311 "there are no formulas") (zt_6 (List.mem_of_getElem? (i := 23) rfl))) (zc_r (zc_l (zc_r (zc_l (zc_r (zc_l (zc_r (zc_r (zc_l (zc_r (zc_r hg))))))))))),
  z_strR (ht (Cond.stringRef "ExpressionCompiler" 318 "no text was malformed") (zt_4 (List.mem_of_getElem? (i := 159) rfl))) (zc_r (zc_r (zc_l (zc_l (zc_l (zc_l (zc_r (zc_l (zc_l (zc_r (zc_r hg))))))))))),
  z_strR (ht (Cond.stringRef "ExpressionCompiler" 321 "no call can be undone") (zt_4 (List.mem_of_getElem? (i := 173) rfl))) (zc_l (zc_l (zc_r (zc_r (zc_r (zc_l (zc_r (zc_l (zc_l (zc_r (zc_r hg))))))))))),
  z_strR (ht (Cond.stringRef "ExpressionCompiler" 329 "no state was saved") (zt_4 (List.mem_of_getElem? (i := 186) rfl))) (zc_r (zc_l (zc_r (zc_l (zc_r (zc_r (zc_r (zc_l (zc_l (zc_r (zc_r hg))))))))))),
  z_strR (ht (Cond.stringRef "ExpressionCompiler" 337 "no such formula") (zt_3 (List.mem_of_getElem? (i := 238) rfl))) (zc_l (zc_l (zc_l (zc_l (zc_r (zc_r (zc_r (zc_r (zc_r (zc_l (zc_r hg))))))))))),
  z_strR (ht (Cond.stringRef "ExpressionCompiler" 339 "no such instruction") (zt_7 (List.mem_of_getElem? (i := 59) rfl))) (zc_r (zc_l (zc_r (zc_l (zc_r (zc_r (zc_r (zc_l (zc_r (zc_r (zc_r hg))))))))))),
  z_strR (ht (Cond.stringRef "ExpressionCompiler" 341 "no such variable") (zt_4 (List.mem_of_getElem? (i := 85) rfl))) (zc_l (zc_l (zc_r (zc_l (zc_l (zc_l (zc_l (zc_l (zc_l (zc_r (zc_r hg))))))))))),
  z_strR (ht (Cond.stringRef "ExpressionCompiler" 343 "there are six formulas") (zt_3 (List.mem_of_getElem? (i := 104) rfl))) (zc_l (zc_r (zc_r (zc_r (zc_l (zc_r (zc_l (zc_r (zc_r (zc_l (zc_r hg))))))))))),
  z_strR (ht (Cond.stringRef "ExpressionCompiler" 350 "the formula is too large or too deep") (zt_3 (List.mem_of_getElem? (i := 148) rfl))) (zc_l (zc_l (zc_l (zc_r (zc_l (zc_l (zc_r (zc_r (zc_r (zc_l (zc_r hg)))))))))))⟩
theorem z_nocast {A : Array Value} {s : State} (hg : (Jvm.Cond.and given_1 narrow_1).before A s = true) : znocast s :=
  ⟨va_Nc.of (zc_l (zc_r (zc_l (zc_l (zc_l (zc_r (zc_l (zc_l (zc_r (zc_l (zc_r hg))))))))))),
  va_Nc.of (zc_l (zc_l (zc_l (zc_r (zc_r (zc_r (zc_r (zc_r (zc_l (zc_l (zc_r hg))))))))))),
  va_Nc.of (zc_r (zc_l (zc_l (zc_l (zc_l (zc_r (zc_l (zc_l (zc_r (zc_l (zc_r hg))))))))))),
  va_Nc.of (zc_r (zc_l (zc_r (zc_r (zc_r (zc_r (zc_r (zc_r (zc_l (zc_l (zc_r hg))))))))))),
  va_Nc.of (zc_r (zc_l (zc_l (zc_r (zc_r (zc_r (zc_r (zc_r (zc_l (zc_l (zc_r hg))))))))))),
  va_Nc.of (zc_r (zc_l (zc_r (zc_l (zc_l (zc_r (zc_r (zc_r (zc_l (zc_l (zc_r hg))))))))))),
  va_Nc.of (zc_r (zc_r (zc_l (zc_l (zc_l (zc_r (zc_l (zc_l (zc_r (zc_l (zc_r hg))))))))))),
  va_Nc.of (zc_l (zc_l (zc_r (zc_l (zc_l (zc_r (zc_l (zc_l (zc_r (zc_l (zc_r hg)))))))))))⟩
theorem z_un {A : Array Value} {s : State} (ht : ∀ w ∈ tables_1, w.before A s = true) (hg : (Jvm.Cond.and given_1 narrow_1).before A s = true) : vx_Zq Bundle.tN "UNASSIGNED_STACK" "[Ljava/lang/StackTraceElement;" (fun q => s.heap.size ≤ q) s s.heap :=
  vx_Zqof (ht (Cond.laysStatic "java/lang/Throwable" "UNASSIGNED_STACK" "[Ljava/lang/StackTraceElement;") (zt_2 (List.mem_of_getElem? (i := 176) rfl))) (ht (Cond.initialized "java/lang/Throwable") (zt_1 (List.mem_of_getElem? (i := 16) rfl))) (zc_l (zc_l (zc_r (zc_l (zc_l (zc_l (zc_l (zc_l (zc_l (zc_l (zc_r hg))))))))))) (fun a h => Nat.not_le.mpr h)
theorem z_se {A : Array Value} {s : State} (ht : ∀ w ∈ tables_1, w.before A s = true) (hg : (Jvm.Cond.and given_1 narrow_1).before A s = true) : vx_Zq Bundle.tN "SUPPRESSED_SENTINEL" "Ljava/util/List;" (fun q => s.heap.size ≤ q) s s.heap :=
  vx_Zqof (ht (Cond.laysStatic "java/lang/Throwable" "SUPPRESSED_SENTINEL" "Ljava/util/List;") (zt_2 (List.mem_of_getElem? (i := 178) rfl))) (ht (Cond.initialized "java/lang/Throwable") (zt_1 (List.mem_of_getElem? (i := 16) rfl))) (zc_r (zc_l (zc_r (zc_l (zc_l (zc_l (zc_l (zc_l (zc_l (zc_l (zc_r hg))))))))))) (fun a h => Nat.not_le.mpr h)
theorem z_known {A : Array Value} {s : State} (ht : ∀ w ∈ tables_1, w.before A s = true) : ∃ D : va_G, ∀ (c : Nat) (q : vw_C), zcl[c]? = some q → u_Kn s q.1 q.2.1 q.2.2 (D.1 c) (D.2 c) := by
  have hw : ∀ w ∈ zW, w.before A s = true := fun w h => lw_hts ht w (List.mem_filter.mp h).1
  obtain ⟨c0, i0, k0⟩ := u_known (C := "ExpressionCompiler") (T := zTf_0) (N := 13) (n := 13) hw zkd_0.2.1 (hw _ zkd_0.2.2.1)
  obtain ⟨c1, i1, k1⟩ := u_known (C := "java/lang/StringBuilder") (T := zTf_1) (N := 4) (n := 4) hw zkd_1.2.1 (hw _ zkd_1.2.2.1)
  obtain ⟨c2, i2, k2⟩ := u_known (C := "ExpressionCompiler$State") (T := zTf_2) (N := 5) (n := 5) hw zkd_2.2.1 (hw _ zkd_2.2.2.1)
  obtain ⟨c3, i3, k3⟩ := u_known (C := "ExpressionCompiler$Row") (T := zTf_3) (N := 1) (n := 1) hw zkd_3.2.1 (hw _ zkd_3.2.2.1)
  obtain ⟨c4, i4, k4⟩ := u_known (C := "ExpressionCompiler$History") (T := zTf_4) (N := 3) (n := 3) hw zkd_4.2.1 (hw _ zkd_4.2.2.1)
  obtain ⟨c5, i5, k5⟩ := u_known (C := "ExpressionCompiler$Tree") (T := zTf_5) (N := 6) (n := 6) hw zkd_5.2.1 (hw _ zkd_5.2.2.1)
  obtain ⟨c6, i6, k6⟩ := u_known (C := "ExpressionCompiler$Parser") (T := zTf_6) (N := 3) (n := 3) hw zkd_6.2.1 (hw _ zkd_6.2.2.1)
  obtain ⟨c7, i7, k7⟩ := u_known (C := "ExpressionCompiler$Input") (T := zTf_7) (N := 2) (n := 2) hw zkd_7.2.1 (hw _ zkd_7.2.2.1)
  obtain ⟨c8, i8, k8⟩ := u_known (C := "ExpressionCompiler$Algebra") (T := zTf_8) (N := 1) (n := 1) hw zkd_8.2.1 (hw _ zkd_8.2.2.1)
  obtain ⟨c9, i9, k9⟩ := u_known (C := "ExpressionCompiler$Gauge") (T := zTf_9) (N := 3) (n := 3) hw zkd_9.2.1 (hw _ zkd_9.2.2.1)
  obtain ⟨c10, i10, k10⟩ := u_known (C := "ExpressionCompiler$Numbering") (T := zTf_10) (N := 2) (n := 2) hw zkd_10.2.1 (hw _ zkd_10.2.2.1)
  obtain ⟨c11, i11, k11⟩ := u_known (C := "ExpressionCompiler$Code") (T := zTf_11) (N := 10) (n := 10) hw zkd_11.2.1 (hw _ zkd_11.2.2.1)
  obtain ⟨c12, i12, k12⟩ := u_known (C := "java/lang/String") (T := zTf_12) (N := 4) (n := 4) hw zkd_12.2.1 (hw _ zkd_12.2.2.1)
  refine ⟨(fun k => [c0, c1, c2, c3, c4, c5, c6, c7, c8, c9, c10, c11, c12].getD k c0, fun k => ([i0, i1, i2, i3, i4, i5, i6, i7, i8, i9, i10, i11, i12] : List (Nat → Nat)).getD k i0), fun c q hq => ?_⟩
  match c, hq with
  | 0, hq => cases hq; exact k0
  | 1, hq => cases hq; exact k1
  | 2, hq => cases hq; exact k2
  | 3, hq => cases hq; exact k3
  | 4, hq => cases hq; exact k4
  | 5, hq => cases hq; exact k5
  | 6, hq => cases hq; exact k6
  | 7, hq => cases hq; exact k7
  | 8, hq => cases hq; exact k8
  | 9, hq => cases hq; exact k9
  | 10, hq => cases hq; exact k10
  | 11, hq => cases hq; exact k11
  | 12, hq => cases hq; exact k12
  | k + 13, hq => simp [zcl] at hq
theorem z_arrT {A : Array Value} {s : State} {ty : FieldType} (h : (Cond.arrayClass ty).before A s = true) : ∃ cA : ClassId, ArrOfT s cA ty ∧ s.vm.findClass ("[" ++ ty.toString) = some cA := by
  obtain ⟨c, k, comp, h1, h2, h3⟩ := Cond.arrayClass_spec h
  exact ⟨c, fun N z => ⟨(fun k h => by cases h), k, h2, comp, h3⟩, h1⟩
theorem z_arrO {A : Array Value} {s : State} {C : String} (h : (Cond.arrayOver (.object C)).before A s = true) : ∃ cA : ClassId, ArrOfT s cA (.object C) ∧ va_RA s cA (.object C) := by
  obtain ⟨comp, c, k, h1, h2, h3, h4, h5⟩ := Cond.arrayOver_spec h
  exact ⟨c, fun N z => ⟨(fun k h => by cases h), k, h3, comp, h4⟩, k, comp, h3, h4, h1, h5⟩
theorem z_arrs {A : Array Value} {s : State} (ht : ∀ w ∈ tables_1, w.before A s = true) : ∃ cA : Nat → ClassId, ∀ k, 20 ≤ k → k < 27 → ArrOfT s (cA k) (ztyK k) ∧ va_RA s (cA k) (ztyK k) := by
  obtain ⟨c20, a20, b20⟩ := z_arrT (ht (Cond.arrayClass .int) (zt_1 (List.mem_of_getElem? (i := 95) rfl)))
  obtain ⟨c21, a21, b21⟩ := z_arrT (ht (Cond.arrayClass .char) (zt_1 (List.mem_of_getElem? (i := 177) rfl)))
  obtain ⟨c22, a22, b22⟩ := z_arrT (ht (Cond.arrayClass .long) (zt_7 (List.mem_of_getElem? (i := 233) rfl)))
  obtain ⟨c23, a23, b23⟩ := z_arrT (ht (Cond.arrayClass .int) (zt_1 (List.mem_of_getElem? (i := 95) rfl)))
  obtain ⟨c24, a24, b24⟩ := z_arrT (ht (Cond.arrayClass .byte) (zt_1 (List.mem_of_getElem? (i := 76) rfl)))
  obtain ⟨c25, a25, b25⟩ := z_arrO (ht (Cond.arrayOver (.object "ExpressionCompiler$Tree")) (zt_1 (List.mem_of_getElem? (i := 84) rfl)))
  obtain ⟨c26, a26, b26⟩ := z_arrO (ht (Cond.arrayOver (.object "ExpressionCompiler$State")) (zt_1 (List.mem_of_getElem? (i := 119) rfl)))
  refine ⟨fun k => match k with | 20 => c20 | 21 => c21 | 22 => c22 | 23 => c23 | 24 => c24 | 25 => c25 | _ => c26, fun k h1 h2 => ?_⟩
  rcases (show k = 20 ∨ k = 21 ∨ k = 22 ∨ k = 23 ∨ k = 24 ∨ k = 25 ∨ k = 26 by omega) with rfl | rfl | rfl | rfl | rfl | rfl | rfl
  · exact ⟨a20, b20⟩
  · exact ⟨a21, b21⟩
  · exact ⟨a22, b22⟩
  · exact ⟨a23, b23⟩
  · exact ⟨a24, b24⟩
  · exact ⟨a25, b25⟩
  · exact ⟨a26, b26⟩
theorem zeqi {args : Array Value} {s : State} {t : Term} {z : Int32} (h : (Cond.eq t (.int z)).before args s = true) : t.eval args s none [] s = some (.int z) := va_eqt h
theorem zbytes {args : Array Value} {s : State} {t : Term} {n : Nat} {bs : List Int32} (hn : bs.length = n) (hn31 : n < 2 ^ 31) (hl : (Cond.eq (.length t) (.int (nI n))).before args s = true) (ha : (Cond.arrayOf t .byte).before args s = true) (he : ∀ j, j < n → (Term.elem t (.int j.toInt32)).eval args s none [] s = some (.int (bs.getD j 0))) : ∃ (a : Nat) (cell : Cell), t.eval args s none [] s = some (.ref a) ∧ s.heap[a]? = some cell ∧ s.isArrayOf cell .byte ∧ cell.vm ≠ .unknown ∧ cell.slots.toList = bs.map Value.int := by
  have hv2 := zeqi hl
  obtain ⟨b, cell, ht, harr, -⟩ := Term.length_spec hv2
  obtain ⟨hcell, hkn, -, -⟩ := State.arrayAt?_spec harr
  have hof := (Cond.arrayOf_spec ha ht hcell).1
  have hsz : cell.slots.size = n := by
    simp only [Term.eval, ht, harr, Option.bind_eq_bind, Option.bind_some] at hv2
    by_cases hlt : cell.slots.size < 2 ^ 31
    · rw [if_pos hlt] at hv2
      injection hv2 with q
      injection q with q
      have q2 : nI cell.slots.size = nI n := q
      have q3 := congrArg Int32.toInt q2
      rw [nI_toInt hlt, nI_toInt hn31] at q3
      omega
    · rw [if_neg hlt] at hv2
      cases hv2
  have hint : ∀ j, j < n → cell.slots.toList[j]? = some (.int (bs.getD j 0)) := by
    intro j hj
    have hz := he j hj
    simp only [Term.eval, ht, harr, Option.bind_eq_bind, Option.bind_some] at hz
    have e1 : ¬ j.toInt32 < 0 := nI_pos (show j < 2 ^ 31 by omega)
    have e2 : (j.toInt32).toNatClampNeg = j := nI_clamp (show j < 2 ^ 31 by omega)
    rw [if_neg e1, e2] at hz
    rw [Array.getElem?_toList]
    exact hz
  refine ⟨b, cell, ht, hcell, hof, hkn, ?_⟩
  apply List.ext_getElem?
  intro j
  by_cases hj : j < n
  · rw [hint j hj, List.getElem?_map, List.getElem?_eq_getElem (by omega), List.getD_eq_getElem?_getD, List.getElem?_eq_getElem (by omega)]
    rfl
  · rw [List.getElem?_eq_none (by rw [Array.length_toList]; omega), List.getElem?_eq_none (by simp; omega)]
/-- what is known of a String constant -/
def zStr0 (s : State) (own : String) (k : Nat) (tx : String) (bs : List Int32) (q : Nat × Nat) : Prop := vk_R own k tx q.1 s ∧ va_O "java/lang/String" q.1 (fun q => s.heap.size ≤ q) s s.heap ∧ va_OF "java/lang/String" "coder" "B" (.int 0) q.1 (fun q => s.heap.size ≤ q) s s.heap ∧ va_OF "java/lang/String" "value" "[B" (.ref q.2) q.1 (fun q => s.heap.size ≤ q) s s.heap ∧ ∃ cell, s.heap[q.2]? = some cell ∧ s.isArrayOf cell .byte ∧ cell.vm ≠ .unknown ∧ cell.slots.toList = bs.map Value.int
theorem z_cst {A : Array Value} {s : State} {own tx : String} {k n : Nat} {bs : List Int32} (hn : bs.length = n) (hn31 : n < 2 ^ 31) (h1 : (Cond.stringRef own k tx).before A s = true) (h2 : (Cond.exactly (.string own k) "java/lang/String").before A s = true) (h3 : (Cond.eq (.field (.string own k) "java/lang/String" "coder" "B") (.int 0)).before A s = true) (h4 : (Cond.arrayOf (.field (.string own k) "java/lang/String" "value" "[B") .byte).before A s = true) (h5 : (Cond.eq (.length (.field (.string own k) "java/lang/String" "value" "[B")) (.int (nI n))).before A s = true) (he : ∀ j, j < n → (Term.elem (.field (.string own k) "java/lang/String" "value" "[B") (.int j.toInt32)).eval A s none [] s = some (.int (bs.getD j 0))) : ∃ q : Nat × Nat, zStr0 s own k tx bs q := by
  have hA : ∀ a : Nat, a < s.heap.size → ¬ (fun q => s.heap.size ≤ q) a := fun a h => Nat.not_le.mpr h
  obtain ⟨a, c, cA, kA, q1, q2, q3, q4, q5, q6, -⟩ := Cond.exactly_spec (args := A) (first := s) (o := none) (s := s) (idx := []) (t := .string own k) (cls := "java/lang/String") h2
  obtain ⟨t, cell, ht, r⟩ := zbytes hn hn31 h5 h4 he
  exact ⟨(a, t), vk_R.of h1 q1, ⟨cA, q3, q5, by rw [q6]; exact q2, hA a (Array.getElem?_eq_some_iff.mp q3).1⟩, vk_OFof q1 (va_eqt h3) hA, vk_OFof q1 ht hA, cell, r⟩
/-- the texts' bytes -/
def zbyt : List (List Int32) := [[], [45], [42], [43], [40], [41], [97, 42, 40, 98, 43], [97, 43], [45, 45, 40, 45, 45, 45, 45, 45, 45, 97, 41], [98, 42], [97]]
theorem zcs_0 {A : Array Value} {s : State} (ht : ∀ w ∈ tables_1, w.before A s = true) (hg : (Jvm.Cond.and given_1 narrow_1).before A s = true) : ∃ q : Nat × Nat, zStr0 s (zst 0).1 (zst 0).2.1 (zst 0).2.2 (zbyt.getD 0 []) q := by
  refine z_cst (own := "ExpressionCompilerLaw") (k := 173) (tx := "") (n := 0) (bs := []) rfl (by decide) (ht _ (zt_5 (List.mem_of_getElem? (i := 32) rfl))) (zc_l (zc_l (zc_l (zc_r (zc_l (zc_r (zc_l (zc_r (zc_l (zc_r (zc_r hg))))))))))) (zc_r (zc_l (zc_l (zc_r (zc_l (zc_r (zc_l (zc_r (zc_l (zc_r (zc_r hg))))))))))) (zc_l (zc_r (zc_l (zc_r (zc_l (zc_r (zc_l (zc_r (zc_l (zc_r (zc_r hg))))))))))) (zc_r (zc_r (zc_l (zc_r (zc_l (zc_r (zc_l (zc_r (zc_l (zc_r (zc_r hg))))))))))) (fun j hj => ?_)
  exact absurd hj (by omega)
theorem zcs_1 {A : Array Value} {s : State} (ht : ∀ w ∈ tables_1, w.before A s = true) (hg : (Jvm.Cond.and given_1 narrow_1).before A s = true) : ∃ q : Nat × Nat, zStr0 s (zst 1).1 (zst 1).2.1 (zst 1).2.2 (zbyt.getD 1 []) q := by
  refine z_cst (own := "ExpressionCompilerLaw") (k := 189) (tx := "-") (n := 1) (bs := [45]) rfl (by decide) (ht _ (zt_5 (List.mem_of_getElem? (i := 228) rfl))) (zc_r (zc_r (zc_l (zc_l (zc_r (zc_r (zc_l (zc_r (zc_l (zc_r (zc_r hg))))))))))) (zc_l (zc_l (zc_r (zc_l (zc_r (zc_r (zc_l (zc_r (zc_l (zc_r (zc_r hg))))))))))) (zc_r (zc_l (zc_r (zc_l (zc_r (zc_r (zc_l (zc_r (zc_l (zc_r (zc_r hg))))))))))) (zc_l (zc_r (zc_r (zc_l (zc_r (zc_r (zc_l (zc_r (zc_l (zc_r (zc_r hg))))))))))) (fun j hj => ?_)
  match j, hj with
  | 0, _ => exact zeqi (zc_r (zc_r (zc_r (zc_l (zc_r (zc_r (zc_l (zc_r (zc_l (zc_r (zc_r hg)))))))))))
  | j + 1, hj => exact absurd hj (by omega)
theorem zcs_2 {A : Array Value} {s : State} (ht : ∀ w ∈ tables_1, w.before A s = true) (hg : (Jvm.Cond.and given_1 narrow_1).before A s = true) : ∃ q : Nat × Nat, zStr0 s (zst 2).1 (zst 2).2.1 (zst 2).2.2 (zbyt.getD 2 []) q := by
  refine z_cst (own := "ExpressionCompilerLaw") (k := 199) (tx := "*") (n := 1) (bs := [42]) rfl (by decide) (ht _ (zt_5 (List.mem_of_getElem? (i := 234) rfl))) (zc_l (zc_r (zc_l (zc_l (zc_l (zc_l (zc_r (zc_r (zc_l (zc_r (zc_r hg))))))))))) (zc_r (zc_r (zc_l (zc_l (zc_l (zc_l (zc_r (zc_r (zc_l (zc_r (zc_r hg))))))))))) (zc_l (zc_l (zc_r (zc_l (zc_l (zc_l (zc_r (zc_r (zc_l (zc_r (zc_r hg))))))))))) (zc_r (zc_l (zc_r (zc_l (zc_l (zc_l (zc_r (zc_r (zc_l (zc_r (zc_r hg))))))))))) (fun j hj => ?_)
  match j, hj with
  | 0, _ => exact zeqi (zc_l (zc_r (zc_r (zc_l (zc_l (zc_l (zc_r (zc_r (zc_l (zc_r (zc_r hg)))))))))))
  | j + 1, hj => exact absurd hj (by omega)
theorem zcs_3 {A : Array Value} {s : State} (ht : ∀ w ∈ tables_1, w.before A s = true) (hg : (Jvm.Cond.and given_1 narrow_1).before A s = true) : ∃ q : Nat × Nat, zStr0 s (zst 3).1 (zst 3).2.1 (zst 3).2.2 (zbyt.getD 3 []) q := by
  refine z_cst (own := "ExpressionCompilerLaw") (k := 201) (tx := "+") (n := 1) (bs := [43]) rfl (by decide) (ht _ (zt_5 (List.mem_of_getElem? (i := 235) rfl))) (zc_r (zc_r (zc_r (zc_l (zc_l (zc_l (zc_r (zc_r (zc_l (zc_r (zc_r hg))))))))))) (zc_l (zc_l (zc_l (zc_r (zc_l (zc_l (zc_r (zc_r (zc_l (zc_r (zc_r hg))))))))))) (zc_r (zc_l (zc_l (zc_r (zc_l (zc_l (zc_r (zc_r (zc_l (zc_r (zc_r hg))))))))))) (zc_l (zc_r (zc_l (zc_r (zc_l (zc_l (zc_r (zc_r (zc_l (zc_r (zc_r hg))))))))))) (fun j hj => ?_)
  match j, hj with
  | 0, _ => exact zeqi (zc_r (zc_r (zc_l (zc_r (zc_l (zc_l (zc_r (zc_r (zc_l (zc_r (zc_r hg)))))))))))
  | j + 1, hj => exact absurd hj (by omega)
theorem zcs_4 {A : Array Value} {s : State} (ht : ∀ w ∈ tables_1, w.before A s = true) (hg : (Jvm.Cond.and given_1 narrow_1).before A s = true) : ∃ q : Nat × Nat, zStr0 s (zst 4).1 (zst 4).2.1 (zst 4).2.2 (zbyt.getD 4 []) q := by
  refine z_cst (own := "ExpressionCompilerLaw") (k := 203) (tx := "(") (n := 1) (bs := [40]) rfl (by decide) (ht _ (zt_5 (List.mem_of_getElem? (i := 232) rfl))) (zc_l (zc_l (zc_l (zc_r (zc_r (zc_r (zc_l (zc_r (zc_l (zc_r (zc_r hg))))))))))) (zc_r (zc_l (zc_l (zc_r (zc_r (zc_r (zc_l (zc_r (zc_l (zc_r (zc_r hg))))))))))) (zc_l (zc_r (zc_l (zc_r (zc_r (zc_r (zc_l (zc_r (zc_l (zc_r (zc_r hg))))))))))) (zc_r (zc_r (zc_l (zc_r (zc_r (zc_r (zc_l (zc_r (zc_l (zc_r (zc_r hg))))))))))) (fun j hj => ?_)
  match j, hj with
  | 0, _ => exact zeqi (zc_l (zc_l (zc_r (zc_r (zc_r (zc_r (zc_l (zc_r (zc_l (zc_r (zc_r hg)))))))))))
  | j + 1, hj => exact absurd hj (by omega)
theorem zcs_5 {A : Array Value} {s : State} (ht : ∀ w ∈ tables_1, w.before A s = true) (hg : (Jvm.Cond.and given_1 narrow_1).before A s = true) : ∃ q : Nat × Nat, zStr0 s (zst 5).1 (zst 5).2.1 (zst 5).2.2 (zbyt.getD 5 []) q := by
  refine z_cst (own := "ExpressionCompilerLaw") (k := 205) (tx := ")") (n := 1) (bs := [41]) rfl (by decide) (ht _ (zt_5 (List.mem_of_getElem? (i := 233) rfl))) (zc_r (zc_l (zc_r (zc_r (zc_r (zc_r (zc_l (zc_r (zc_l (zc_r (zc_r hg))))))))))) (zc_l (zc_r (zc_r (zc_r (zc_r (zc_r (zc_l (zc_r (zc_l (zc_r (zc_r hg))))))))))) (zc_r (zc_r (zc_r (zc_r (zc_r (zc_r (zc_l (zc_r (zc_l (zc_r (zc_r hg))))))))))) (zc_l (zc_l (zc_l (zc_l (zc_l (zc_l (zc_r (zc_r (zc_l (zc_r (zc_r hg))))))))))) (fun j hj => ?_)
  match j, hj with
  | 0, _ => exact zeqi (zc_r (zc_l (zc_l (zc_l (zc_l (zc_l (zc_r (zc_r (zc_l (zc_r (zc_r hg)))))))))))
  | j + 1, hj => exact absurd hj (by omega)
theorem zcs_6 {A : Array Value} {s : State} (ht : ∀ w ∈ tables_1, w.before A s = true) (hg : (Jvm.Cond.and given_1 narrow_1).before A s = true) : ∃ q : Nat × Nat, zStr0 s (zst 6).1 (zst 6).2.1 (zst 6).2.2 (zbyt.getD 6 []) q := by
  refine z_cst (own := "ExpressionCompilerLaw") (k := 211) (tx := "a*(b+") (n := 5) (bs := [97, 42, 40, 98, 43]) rfl (by decide) (ht _ (zt_5 (List.mem_of_getElem? (i := 236) rfl))) (zc_l (zc_l (zc_r (zc_r (zc_l (zc_l (zc_r (zc_r (zc_l (zc_r (zc_r hg))))))))))) (zc_r (zc_l (zc_r (zc_r (zc_l (zc_l (zc_r (zc_r (zc_l (zc_r (zc_r hg))))))))))) (zc_l (zc_r (zc_r (zc_r (zc_l (zc_l (zc_r (zc_r (zc_l (zc_r (zc_r hg))))))))))) (zc_r (zc_r (zc_r (zc_r (zc_l (zc_l (zc_r (zc_r (zc_l (zc_r (zc_r hg))))))))))) (fun j hj => ?_)
  match j, hj with
  | 0, _ => exact zeqi (zc_l (zc_l (zc_l (zc_l (zc_r (zc_l (zc_r (zc_r (zc_l (zc_r (zc_r hg)))))))))))
  | 1, _ => exact zeqi (zc_r (zc_l (zc_l (zc_l (zc_r (zc_l (zc_r (zc_r (zc_l (zc_r (zc_r hg)))))))))))
  | 2, _ => exact zeqi (zc_l (zc_r (zc_l (zc_l (zc_r (zc_l (zc_r (zc_r (zc_l (zc_r (zc_r hg)))))))))))
  | 3, _ => exact zeqi (zc_r (zc_r (zc_l (zc_l (zc_r (zc_l (zc_r (zc_r (zc_l (zc_r (zc_r hg)))))))))))
  | 4, _ => exact zeqi (zc_l (zc_l (zc_r (zc_l (zc_r (zc_l (zc_r (zc_r (zc_l (zc_r (zc_r hg)))))))))))
  | j + 5, hj => exact absurd hj (by omega)
theorem zcs_7 {A : Array Value} {s : State} (ht : ∀ w ∈ tables_1, w.before A s = true) (hg : (Jvm.Cond.and given_1 narrow_1).before A s = true) : ∃ q : Nat × Nat, zStr0 s (zst 7).1 (zst 7).2.1 (zst 7).2.2 (zbyt.getD 7 []) q := by
  refine z_cst (own := "ExpressionCompilerLaw") (k := 293) (tx := "a+") (n := 2) (bs := [97, 43]) rfl (by decide) (ht _ (zt_7 (List.mem_of_getElem? (i := 90) rfl))) (zc_l (zc_l (zc_r (zc_r (zc_l (zc_l (zc_l (zc_r (zc_r (zc_r (zc_r hg))))))))))) (zc_r (zc_l (zc_r (zc_r (zc_l (zc_l (zc_l (zc_r (zc_r (zc_r (zc_r hg))))))))))) (zc_l (zc_r (zc_r (zc_r (zc_l (zc_l (zc_l (zc_r (zc_r (zc_r (zc_r hg))))))))))) (zc_r (zc_r (zc_r (zc_r (zc_l (zc_l (zc_l (zc_r (zc_r (zc_r (zc_r hg))))))))))) (fun j hj => ?_)
  match j, hj with
  | 0, _ => exact zeqi (zc_l (zc_l (zc_l (zc_l (zc_r (zc_l (zc_l (zc_r (zc_r (zc_r (zc_r hg)))))))))))
  | 1, _ => exact zeqi (zc_r (zc_l (zc_l (zc_l (zc_r (zc_l (zc_l (zc_r (zc_r (zc_r (zc_r hg)))))))))))
  | j + 2, hj => exact absurd hj (by omega)
theorem zcs_8 {A : Array Value} {s : State} (ht : ∀ w ∈ tables_1, w.before A s = true) (hg : (Jvm.Cond.and given_1 narrow_1).before A s = true) : ∃ q : Nat × Nat, zStr0 s (zst 8).1 (zst 8).2.1 (zst 8).2.2 (zbyt.getD 8 []) q := by
  refine z_cst (own := "ExpressionCompilerLaw") (k := 297) (tx := "--(------a)") (n := 11) (bs := [45, 45, 40, 45, 45, 45, 45, 45, 45, 97, 41]) rfl (by decide) (ht _ (zt_7 (List.mem_of_getElem? (i := 91) rfl))) (zc_l (zc_r (zc_l (zc_l (zc_r (zc_l (zc_l (zc_r (zc_r (zc_r (zc_r hg))))))))))) (zc_r (zc_r (zc_l (zc_l (zc_r (zc_l (zc_l (zc_r (zc_r (zc_r (zc_r hg))))))))))) (zc_l (zc_l (zc_r (zc_l (zc_r (zc_l (zc_l (zc_r (zc_r (zc_r (zc_r hg))))))))))) (zc_r (zc_l (zc_r (zc_l (zc_r (zc_l (zc_l (zc_r (zc_r (zc_r (zc_r hg))))))))))) (fun j hj => ?_)
  match j, hj with
  | 0, _ => exact zeqi (zc_l (zc_r (zc_r (zc_l (zc_r (zc_l (zc_l (zc_r (zc_r (zc_r (zc_r hg)))))))))))
  | 1, _ => exact zeqi (zc_r (zc_r (zc_r (zc_l (zc_r (zc_l (zc_l (zc_r (zc_r (zc_r (zc_r hg)))))))))))
  | 2, _ => exact zeqi (zc_l (zc_l (zc_l (zc_r (zc_r (zc_l (zc_l (zc_r (zc_r (zc_r (zc_r hg)))))))))))
  | 3, _ => exact zeqi (zc_r (zc_l (zc_l (zc_r (zc_r (zc_l (zc_l (zc_r (zc_r (zc_r (zc_r hg)))))))))))
  | 4, _ => exact zeqi (zc_l (zc_r (zc_l (zc_r (zc_r (zc_l (zc_l (zc_r (zc_r (zc_r (zc_r hg)))))))))))
  | 5, _ => exact zeqi (zc_r (zc_r (zc_l (zc_r (zc_r (zc_l (zc_l (zc_r (zc_r (zc_r (zc_r hg)))))))))))
  | 6, _ => exact zeqi (zc_l (zc_l (zc_r (zc_r (zc_r (zc_l (zc_l (zc_r (zc_r (zc_r (zc_r hg)))))))))))
  | 7, _ => exact zeqi (zc_r (zc_l (zc_r (zc_r (zc_r (zc_l (zc_l (zc_r (zc_r (zc_r (zc_r hg)))))))))))
  | 8, _ => exact zeqi (zc_l (zc_r (zc_r (zc_r (zc_r (zc_l (zc_l (zc_r (zc_r (zc_r (zc_r hg)))))))))))
  | 9, _ => exact zeqi (zc_r (zc_r (zc_r (zc_r (zc_r (zc_l (zc_l (zc_r (zc_r (zc_r (zc_r hg)))))))))))
  | 10, _ => exact zeqi (zc_l (zc_l (zc_l (zc_l (zc_l (zc_r (zc_l (zc_r (zc_r (zc_r (zc_r hg)))))))))))
  | j + 11, hj => exact absurd hj (by omega)
theorem zcs_9 {A : Array Value} {s : State} (ht : ∀ w ∈ tables_1, w.before A s = true) (hg : (Jvm.Cond.and given_1 narrow_1).before A s = true) : ∃ q : Nat × Nat, zStr0 s (zst 9).1 (zst 9).2.1 (zst 9).2.2 (zbyt.getD 9 []) q := by
  refine z_cst (own := "ExpressionCompilerLaw") (k := 348) (tx := "b*") (n := 2) (bs := [98, 42]) rfl (by decide) (ht _ (zt_7 (List.mem_of_getElem? (i := 231) rfl))) (zc_l (zc_r (zc_l (zc_l (zc_r (zc_l (zc_r (zc_r (zc_r (zc_r (zc_r hg))))))))))) (zc_r (zc_r (zc_l (zc_l (zc_r (zc_l (zc_r (zc_r (zc_r (zc_r (zc_r hg))))))))))) (zc_l (zc_l (zc_r (zc_l (zc_r (zc_l (zc_r (zc_r (zc_r (zc_r (zc_r hg))))))))))) (zc_r (zc_l (zc_r (zc_l (zc_r (zc_l (zc_r (zc_r (zc_r (zc_r (zc_r hg))))))))))) (fun j hj => ?_)
  match j, hj with
  | 0, _ => exact zeqi (zc_l (zc_r (zc_r (zc_l (zc_r (zc_l (zc_r (zc_r (zc_r (zc_r (zc_r hg)))))))))))
  | 1, _ => exact zeqi (zc_r (zc_r (zc_r (zc_l (zc_r (zc_l (zc_r (zc_r (zc_r (zc_r (zc_r hg)))))))))))
  | j + 2, hj => exact absurd hj (by omega)
theorem zcs_10 {A : Array Value} {s : State} (ht : ∀ w ∈ tables_1, w.before A s = true) (hg : (Jvm.Cond.and given_1 narrow_1).before A s = true) : ∃ q : Nat × Nat, zStr0 s (zst 10).1 (zst 10).2.1 (zst 10).2.2 (zbyt.getD 10 []) q := by
  refine z_cst (own := "ExpressionCompilerLaw") (k := 350) (tx := "a") (n := 1) (bs := [97]) rfl (by decide) (ht _ (zt_7 (List.mem_of_getElem? (i := 232) rfl))) (zc_l (zc_l (zc_l (zc_r (zc_r (zc_l (zc_r (zc_r (zc_r (zc_r (zc_r hg))))))))))) (zc_r (zc_l (zc_l (zc_r (zc_r (zc_l (zc_r (zc_r (zc_r (zc_r (zc_r hg))))))))))) (zc_l (zc_r (zc_l (zc_r (zc_r (zc_l (zc_r (zc_r (zc_r (zc_r (zc_r hg))))))))))) (zc_r (zc_r (zc_l (zc_r (zc_r (zc_l (zc_r (zc_r (zc_r (zc_r (zc_r hg))))))))))) (fun j hj => ?_)
  match j, hj with
  | 0, _ => exact zeqi (zc_l (zc_l (zc_r (zc_r (zc_r (zc_l (zc_r (zc_r (zc_r (zc_r (zc_r hg)))))))))))
  | j + 1, hj => exact absurd hj (by omega)
theorem z_allstr {A : Array Value} {s : State} (ht : ∀ w ∈ tables_1, w.before A s = true) (hg : (Jvm.Cond.and given_1 narrow_1).before A s = true) : ∀ i, i < zstN → ∃ q : Nat × Nat, zStr0 s (zst i).1 (zst i).2.1 (zst i).2.2 (zbyt.getD i []) q := by
  intro i hi
  match i, hi with
  | 0, _ => exact zcs_0 ht hg
  | 1, _ => exact zcs_1 ht hg
  | 2, _ => exact zcs_2 ht hg
  | 3, _ => exact zcs_3 ht hg
  | 4, _ => exact zcs_4 ht hg
  | 5, _ => exact zcs_5 ht hg
  | 6, _ => exact zcs_6 ht hg
  | 7, _ => exact zcs_7 ht hg
  | 8, _ => exact zcs_8 ht hg
  | 9, _ => exact zcs_9 ht hg
  | 10, _ => exact zcs_10 ht hg
  | j + 11, hi => exact absurd hi (by show ¬ _ < 11; omega)
def zdg_1 : List Int32 := [48, 49, 50, 51, 52, 53, 54, 55, 56, 57, 48, 49, 50, 51, 52, 53, 54, 55, 56, 57, 48, 49, 50, 51, 52, 53, 54, 55, 56, 57, 48, 49, 50, 51, 52, 53, 54, 55, 56, 57, 48, 49, 50, 51, 52, 53, 54, 55, 56, 57, 48, 49, 50, 51, 52, 53, 54, 55, 56, 57, 48, 49, 50, 51, 52, 53, 54, 55, 56, 57, 48, 49, 50, 51, 52, 53, 54, 55, 56, 57, 48, 49, 50, 51, 52, 53, 54, 55, 56, 57, 48, 49, 50, 51, 52, 53, 54, 55, 56, 57]
set_option maxRecDepth 10000 in
theorem zdig_1 {A : Array Value} {s : State} (hg : (Jvm.Cond.and given_1 narrow_1).before A s = true) : ∃ (a : Nat) (cell : Cell), ((Jvm.Term.static "java/lang/Integer" "DigitOnes" "[B")).eval A s none [] s = some (.ref a) ∧ s.heap[a]? = some cell ∧ s.isArrayOf cell .byte ∧ cell.vm ≠ .unknown ∧ cell.slots.toList = zdg_1.map Value.int := by
  refine zbytes (n := 100) rfl (by decide) (zc_l (zc_l (zc_r (zc_r (zc_l (zc_l (zc_l (zc_l (zc_l (zc_l (zc_r hg))))))))))) (zc_r (zc_r (zc_l (zc_r (zc_l (zc_l (zc_l (zc_l (zc_l (zc_l (zc_r hg))))))))))) (fun j hj => ?_)
  match j, hj with
  | 0, _ => exact zeqi (zc_r (zc_l (zc_r (zc_r (zc_l (zc_l (zc_l (zc_l (zc_l (zc_l (zc_r hg)))))))))))
  | 1, _ => exact zeqi (zc_l (zc_r (zc_r (zc_r (zc_l (zc_l (zc_l (zc_l (zc_l (zc_l (zc_r hg)))))))))))
  | 2, _ => exact zeqi (zc_r (zc_r (zc_r (zc_r (zc_l (zc_l (zc_l (zc_l (zc_l (zc_l (zc_r hg)))))))))))
  | 3, _ => exact zeqi (zc_l (zc_l (zc_l (zc_l (zc_r (zc_l (zc_l (zc_l (zc_l (zc_l (zc_r hg)))))))))))
  | 4, _ => exact zeqi (zc_r (zc_l (zc_l (zc_l (zc_r (zc_l (zc_l (zc_l (zc_l (zc_l (zc_r hg)))))))))))
  | 5, _ => exact zeqi (zc_l (zc_r (zc_l (zc_l (zc_r (zc_l (zc_l (zc_l (zc_l (zc_l (zc_r hg)))))))))))
  | 6, _ => exact zeqi (zc_r (zc_r (zc_l (zc_l (zc_r (zc_l (zc_l (zc_l (zc_l (zc_l (zc_r hg)))))))))))
  | 7, _ => exact zeqi (zc_l (zc_l (zc_r (zc_l (zc_r (zc_l (zc_l (zc_l (zc_l (zc_l (zc_r hg)))))))))))
  | 8, _ => exact zeqi (zc_r (zc_l (zc_r (zc_l (zc_r (zc_l (zc_l (zc_l (zc_l (zc_l (zc_r hg)))))))))))
  | 9, _ => exact zeqi (zc_l (zc_r (zc_r (zc_l (zc_r (zc_l (zc_l (zc_l (zc_l (zc_l (zc_r hg)))))))))))
  | 10, _ => exact zeqi (zc_r (zc_r (zc_r (zc_l (zc_r (zc_l (zc_l (zc_l (zc_l (zc_l (zc_r hg)))))))))))
  | 11, _ => exact zeqi (zc_l (zc_l (zc_l (zc_r (zc_r (zc_l (zc_l (zc_l (zc_l (zc_l (zc_r hg)))))))))))
  | 12, _ => exact zeqi (zc_r (zc_l (zc_l (zc_r (zc_r (zc_l (zc_l (zc_l (zc_l (zc_l (zc_r hg)))))))))))
  | 13, _ => exact zeqi (zc_l (zc_r (zc_l (zc_r (zc_r (zc_l (zc_l (zc_l (zc_l (zc_l (zc_r hg)))))))))))
  | 14, _ => exact zeqi (zc_r (zc_r (zc_l (zc_r (zc_r (zc_l (zc_l (zc_l (zc_l (zc_l (zc_r hg)))))))))))
  | 15, _ => exact zeqi (zc_l (zc_l (zc_r (zc_r (zc_r (zc_l (zc_l (zc_l (zc_l (zc_l (zc_r hg)))))))))))
  | 16, _ => exact zeqi (zc_r (zc_l (zc_r (zc_r (zc_r (zc_l (zc_l (zc_l (zc_l (zc_l (zc_r hg)))))))))))
  | 17, _ => exact zeqi (zc_l (zc_r (zc_r (zc_r (zc_r (zc_l (zc_l (zc_l (zc_l (zc_l (zc_r hg)))))))))))
  | 18, _ => exact zeqi (zc_r (zc_r (zc_r (zc_r (zc_r (zc_l (zc_l (zc_l (zc_l (zc_l (zc_r hg)))))))))))
  | 19, _ => exact zeqi (zc_l (zc_l (zc_l (zc_l (zc_l (zc_r (zc_l (zc_l (zc_l (zc_l (zc_r hg)))))))))))
  | 20, _ => exact zeqi (zc_r (zc_l (zc_l (zc_l (zc_l (zc_r (zc_l (zc_l (zc_l (zc_l (zc_r hg)))))))))))
  | 21, _ => exact zeqi (zc_l (zc_r (zc_l (zc_l (zc_l (zc_r (zc_l (zc_l (zc_l (zc_l (zc_r hg)))))))))))
  | 22, _ => exact zeqi (zc_r (zc_r (zc_l (zc_l (zc_l (zc_r (zc_l (zc_l (zc_l (zc_l (zc_r hg)))))))))))
  | 23, _ => exact zeqi (zc_l (zc_l (zc_r (zc_l (zc_l (zc_r (zc_l (zc_l (zc_l (zc_l (zc_r hg)))))))))))
  | 24, _ => exact zeqi (zc_r (zc_l (zc_r (zc_l (zc_l (zc_r (zc_l (zc_l (zc_l (zc_l (zc_r hg)))))))))))
  | 25, _ => exact zeqi (zc_l (zc_r (zc_r (zc_l (zc_l (zc_r (zc_l (zc_l (zc_l (zc_l (zc_r hg)))))))))))
  | 26, _ => exact zeqi (zc_r (zc_r (zc_r (zc_l (zc_l (zc_r (zc_l (zc_l (zc_l (zc_l (zc_r hg)))))))))))
  | 27, _ => exact zeqi (zc_l (zc_l (zc_l (zc_r (zc_l (zc_r (zc_l (zc_l (zc_l (zc_l (zc_r hg)))))))))))
  | 28, _ => exact zeqi (zc_r (zc_l (zc_l (zc_r (zc_l (zc_r (zc_l (zc_l (zc_l (zc_l (zc_r hg)))))))))))
  | 29, _ => exact zeqi (zc_l (zc_r (zc_l (zc_r (zc_l (zc_r (zc_l (zc_l (zc_l (zc_l (zc_r hg)))))))))))
  | 30, _ => exact zeqi (zc_r (zc_r (zc_l (zc_r (zc_l (zc_r (zc_l (zc_l (zc_l (zc_l (zc_r hg)))))))))))
  | 31, _ => exact zeqi (zc_l (zc_l (zc_r (zc_r (zc_l (zc_r (zc_l (zc_l (zc_l (zc_l (zc_r hg)))))))))))
  | 32, _ => exact zeqi (zc_r (zc_l (zc_r (zc_r (zc_l (zc_r (zc_l (zc_l (zc_l (zc_l (zc_r hg)))))))))))
  | 33, _ => exact zeqi (zc_l (zc_r (zc_r (zc_r (zc_l (zc_r (zc_l (zc_l (zc_l (zc_l (zc_r hg)))))))))))
  | 34, _ => exact zeqi (zc_r (zc_r (zc_r (zc_r (zc_l (zc_r (zc_l (zc_l (zc_l (zc_l (zc_r hg)))))))))))
  | 35, _ => exact zeqi (zc_l (zc_l (zc_l (zc_l (zc_r (zc_r (zc_l (zc_l (zc_l (zc_l (zc_r hg)))))))))))
  | 36, _ => exact zeqi (zc_r (zc_l (zc_l (zc_l (zc_r (zc_r (zc_l (zc_l (zc_l (zc_l (zc_r hg)))))))))))
  | 37, _ => exact zeqi (zc_l (zc_r (zc_l (zc_l (zc_r (zc_r (zc_l (zc_l (zc_l (zc_l (zc_r hg)))))))))))
  | 38, _ => exact zeqi (zc_r (zc_r (zc_l (zc_l (zc_r (zc_r (zc_l (zc_l (zc_l (zc_l (zc_r hg)))))))))))
  | 39, _ => exact zeqi (zc_l (zc_l (zc_r (zc_l (zc_r (zc_r (zc_l (zc_l (zc_l (zc_l (zc_r hg)))))))))))
  | 40, _ => exact zeqi (zc_r (zc_l (zc_r (zc_l (zc_r (zc_r (zc_l (zc_l (zc_l (zc_l (zc_r hg)))))))))))
  | 41, _ => exact zeqi (zc_l (zc_r (zc_r (zc_l (zc_r (zc_r (zc_l (zc_l (zc_l (zc_l (zc_r hg)))))))))))
  | 42, _ => exact zeqi (zc_r (zc_r (zc_r (zc_l (zc_r (zc_r (zc_l (zc_l (zc_l (zc_l (zc_r hg)))))))))))
  | 43, _ => exact zeqi (zc_l (zc_l (zc_l (zc_r (zc_r (zc_r (zc_l (zc_l (zc_l (zc_l (zc_r hg)))))))))))
  | 44, _ => exact zeqi (zc_r (zc_l (zc_l (zc_r (zc_r (zc_r (zc_l (zc_l (zc_l (zc_l (zc_r hg)))))))))))
  | 45, _ => exact zeqi (zc_l (zc_r (zc_l (zc_r (zc_r (zc_r (zc_l (zc_l (zc_l (zc_l (zc_r hg)))))))))))
  | 46, _ => exact zeqi (zc_r (zc_r (zc_l (zc_r (zc_r (zc_r (zc_l (zc_l (zc_l (zc_l (zc_r hg)))))))))))
  | 47, _ => exact zeqi (zc_l (zc_l (zc_r (zc_r (zc_r (zc_r (zc_l (zc_l (zc_l (zc_l (zc_r hg)))))))))))
  | 48, _ => exact zeqi (zc_r (zc_l (zc_r (zc_r (zc_r (zc_r (zc_l (zc_l (zc_l (zc_l (zc_r hg)))))))))))
  | 49, _ => exact zeqi (zc_l (zc_r (zc_r (zc_r (zc_r (zc_r (zc_l (zc_l (zc_l (zc_l (zc_r hg)))))))))))
  | 50, _ => exact zeqi (zc_r (zc_r (zc_r (zc_r (zc_r (zc_r (zc_l (zc_l (zc_l (zc_l (zc_r hg)))))))))))
  | 51, _ => exact zeqi (zc_l (zc_l (zc_l (zc_l (zc_l (zc_l (zc_r (zc_l (zc_l (zc_l (zc_r hg)))))))))))
  | 52, _ => exact zeqi (zc_r (zc_l (zc_l (zc_l (zc_l (zc_l (zc_r (zc_l (zc_l (zc_l (zc_r hg)))))))))))
  | 53, _ => exact zeqi (zc_l (zc_r (zc_l (zc_l (zc_l (zc_l (zc_r (zc_l (zc_l (zc_l (zc_r hg)))))))))))
  | 54, _ => exact zeqi (zc_r (zc_r (zc_l (zc_l (zc_l (zc_l (zc_r (zc_l (zc_l (zc_l (zc_r hg)))))))))))
  | 55, _ => exact zeqi (zc_l (zc_l (zc_r (zc_l (zc_l (zc_l (zc_r (zc_l (zc_l (zc_l (zc_r hg)))))))))))
  | 56, _ => exact zeqi (zc_r (zc_l (zc_r (zc_l (zc_l (zc_l (zc_r (zc_l (zc_l (zc_l (zc_r hg)))))))))))
  | 57, _ => exact zeqi (zc_l (zc_r (zc_r (zc_l (zc_l (zc_l (zc_r (zc_l (zc_l (zc_l (zc_r hg)))))))))))
  | 58, _ => exact zeqi (zc_r (zc_r (zc_r (zc_l (zc_l (zc_l (zc_r (zc_l (zc_l (zc_l (zc_r hg)))))))))))
  | 59, _ => exact zeqi (zc_l (zc_l (zc_l (zc_r (zc_l (zc_l (zc_r (zc_l (zc_l (zc_l (zc_r hg)))))))))))
  | 60, _ => exact zeqi (zc_r (zc_l (zc_l (zc_r (zc_l (zc_l (zc_r (zc_l (zc_l (zc_l (zc_r hg)))))))))))
  | 61, _ => exact zeqi (zc_l (zc_r (zc_l (zc_r (zc_l (zc_l (zc_r (zc_l (zc_l (zc_l (zc_r hg)))))))))))
  | 62, _ => exact zeqi (zc_r (zc_r (zc_l (zc_r (zc_l (zc_l (zc_r (zc_l (zc_l (zc_l (zc_r hg)))))))))))
  | 63, _ => exact zeqi (zc_l (zc_l (zc_r (zc_r (zc_l (zc_l (zc_r (zc_l (zc_l (zc_l (zc_r hg)))))))))))
  | 64, _ => exact zeqi (zc_r (zc_l (zc_r (zc_r (zc_l (zc_l (zc_r (zc_l (zc_l (zc_l (zc_r hg)))))))))))
  | 65, _ => exact zeqi (zc_l (zc_r (zc_r (zc_r (zc_l (zc_l (zc_r (zc_l (zc_l (zc_l (zc_r hg)))))))))))
  | 66, _ => exact zeqi (zc_r (zc_r (zc_r (zc_r (zc_l (zc_l (zc_r (zc_l (zc_l (zc_l (zc_r hg)))))))))))
  | 67, _ => exact zeqi (zc_l (zc_l (zc_l (zc_l (zc_r (zc_l (zc_r (zc_l (zc_l (zc_l (zc_r hg)))))))))))
  | 68, _ => exact zeqi (zc_r (zc_l (zc_l (zc_l (zc_r (zc_l (zc_r (zc_l (zc_l (zc_l (zc_r hg)))))))))))
  | 69, _ => exact zeqi (zc_l (zc_r (zc_l (zc_l (zc_r (zc_l (zc_r (zc_l (zc_l (zc_l (zc_r hg)))))))))))
  | 70, _ => exact zeqi (zc_r (zc_r (zc_l (zc_l (zc_r (zc_l (zc_r (zc_l (zc_l (zc_l (zc_r hg)))))))))))
  | 71, _ => exact zeqi (zc_l (zc_l (zc_r (zc_l (zc_r (zc_l (zc_r (zc_l (zc_l (zc_l (zc_r hg)))))))))))
  | 72, _ => exact zeqi (zc_r (zc_l (zc_r (zc_l (zc_r (zc_l (zc_r (zc_l (zc_l (zc_l (zc_r hg)))))))))))
  | 73, _ => exact zeqi (zc_l (zc_r (zc_r (zc_l (zc_r (zc_l (zc_r (zc_l (zc_l (zc_l (zc_r hg)))))))))))
  | 74, _ => exact zeqi (zc_r (zc_r (zc_r (zc_l (zc_r (zc_l (zc_r (zc_l (zc_l (zc_l (zc_r hg)))))))))))
  | 75, _ => exact zeqi (zc_l (zc_l (zc_l (zc_r (zc_r (zc_l (zc_r (zc_l (zc_l (zc_l (zc_r hg)))))))))))
  | 76, _ => exact zeqi (zc_r (zc_l (zc_l (zc_r (zc_r (zc_l (zc_r (zc_l (zc_l (zc_l (zc_r hg)))))))))))
  | 77, _ => exact zeqi (zc_l (zc_r (zc_l (zc_r (zc_r (zc_l (zc_r (zc_l (zc_l (zc_l (zc_r hg)))))))))))
  | 78, _ => exact zeqi (zc_r (zc_r (zc_l (zc_r (zc_r (zc_l (zc_r (zc_l (zc_l (zc_l (zc_r hg)))))))))))
  | 79, _ => exact zeqi (zc_l (zc_l (zc_r (zc_r (zc_r (zc_l (zc_r (zc_l (zc_l (zc_l (zc_r hg)))))))))))
  | 80, _ => exact zeqi (zc_r (zc_l (zc_r (zc_r (zc_r (zc_l (zc_r (zc_l (zc_l (zc_l (zc_r hg)))))))))))
  | 81, _ => exact zeqi (zc_l (zc_r (zc_r (zc_r (zc_r (zc_l (zc_r (zc_l (zc_l (zc_l (zc_r hg)))))))))))
  | 82, _ => exact zeqi (zc_r (zc_r (zc_r (zc_r (zc_r (zc_l (zc_r (zc_l (zc_l (zc_l (zc_r hg)))))))))))
  | 83, _ => exact zeqi (zc_l (zc_l (zc_l (zc_l (zc_l (zc_r (zc_r (zc_l (zc_l (zc_l (zc_r hg)))))))))))
  | 84, _ => exact zeqi (zc_r (zc_l (zc_l (zc_l (zc_l (zc_r (zc_r (zc_l (zc_l (zc_l (zc_r hg)))))))))))
  | 85, _ => exact zeqi (zc_l (zc_r (zc_l (zc_l (zc_l (zc_r (zc_r (zc_l (zc_l (zc_l (zc_r hg)))))))))))
  | 86, _ => exact zeqi (zc_r (zc_r (zc_l (zc_l (zc_l (zc_r (zc_r (zc_l (zc_l (zc_l (zc_r hg)))))))))))
  | 87, _ => exact zeqi (zc_l (zc_l (zc_r (zc_l (zc_l (zc_r (zc_r (zc_l (zc_l (zc_l (zc_r hg)))))))))))
  | 88, _ => exact zeqi (zc_r (zc_l (zc_r (zc_l (zc_l (zc_r (zc_r (zc_l (zc_l (zc_l (zc_r hg)))))))))))
  | 89, _ => exact zeqi (zc_l (zc_r (zc_r (zc_l (zc_l (zc_r (zc_r (zc_l (zc_l (zc_l (zc_r hg)))))))))))
  | 90, _ => exact zeqi (zc_r (zc_r (zc_r (zc_l (zc_l (zc_r (zc_r (zc_l (zc_l (zc_l (zc_r hg)))))))))))
  | 91, _ => exact zeqi (zc_l (zc_l (zc_l (zc_r (zc_l (zc_r (zc_r (zc_l (zc_l (zc_l (zc_r hg)))))))))))
  | 92, _ => exact zeqi (zc_r (zc_l (zc_l (zc_r (zc_l (zc_r (zc_r (zc_l (zc_l (zc_l (zc_r hg)))))))))))
  | 93, _ => exact zeqi (zc_l (zc_r (zc_l (zc_r (zc_l (zc_r (zc_r (zc_l (zc_l (zc_l (zc_r hg)))))))))))
  | 94, _ => exact zeqi (zc_r (zc_r (zc_l (zc_r (zc_l (zc_r (zc_r (zc_l (zc_l (zc_l (zc_r hg)))))))))))
  | 95, _ => exact zeqi (zc_l (zc_l (zc_r (zc_r (zc_l (zc_r (zc_r (zc_l (zc_l (zc_l (zc_r hg)))))))))))
  | 96, _ => exact zeqi (zc_r (zc_l (zc_r (zc_r (zc_l (zc_r (zc_r (zc_l (zc_l (zc_l (zc_r hg)))))))))))
  | 97, _ => exact zeqi (zc_l (zc_r (zc_r (zc_r (zc_l (zc_r (zc_r (zc_l (zc_l (zc_l (zc_r hg)))))))))))
  | 98, _ => exact zeqi (zc_r (zc_r (zc_r (zc_r (zc_l (zc_r (zc_r (zc_l (zc_l (zc_l (zc_r hg)))))))))))
  | 99, _ => exact zeqi (zc_l (zc_l (zc_l (zc_l (zc_r (zc_r (zc_r (zc_l (zc_l (zc_l (zc_r hg)))))))))))
  | j + 100, hj => exact absurd hj (by omega)
def zdg_2 : List Int32 := [48, 48, 48, 48, 48, 48, 48, 48, 48, 48, 49, 49, 49, 49, 49, 49, 49, 49, 49, 49, 50, 50, 50, 50, 50, 50, 50, 50, 50, 50, 51, 51, 51, 51, 51, 51, 51, 51, 51, 51, 52, 52, 52, 52, 52, 52, 52, 52, 52, 52, 53, 53, 53, 53, 53, 53, 53, 53, 53, 53, 54, 54, 54, 54, 54, 54, 54, 54, 54, 54, 55, 55, 55, 55, 55, 55, 55, 55, 55, 55, 56, 56, 56, 56, 56, 56, 56, 56, 56, 56, 57, 57, 57, 57, 57, 57, 57, 57, 57, 57]
set_option maxRecDepth 10000 in
theorem zdig_2 {A : Array Value} {s : State} (hg : (Jvm.Cond.and given_1 narrow_1).before A s = true) : ∃ (a : Nat) (cell : Cell), ((Jvm.Term.static "java/lang/Integer" "DigitTens" "[B")).eval A s none [] s = some (.ref a) ∧ s.heap[a]? = some cell ∧ s.isArrayOf cell .byte ∧ cell.vm ≠ .unknown ∧ cell.slots.toList = zdg_2.map Value.int := by
  refine zbytes (n := 100) rfl (by decide) (zc_r (zc_r (zc_l (zc_l (zc_r (zc_r (zc_r (zc_l (zc_l (zc_l (zc_r hg))))))))))) (zc_l (zc_r (zc_l (zc_l (zc_r (zc_r (zc_r (zc_l (zc_l (zc_l (zc_r hg))))))))))) (fun j hj => ?_)
  match j, hj with
  | 0, _ => exact zeqi (zc_l (zc_l (zc_r (zc_l (zc_r (zc_r (zc_r (zc_l (zc_l (zc_l (zc_r hg)))))))))))
  | 1, _ => exact zeqi (zc_r (zc_l (zc_r (zc_l (zc_r (zc_r (zc_r (zc_l (zc_l (zc_l (zc_r hg)))))))))))
  | 2, _ => exact zeqi (zc_l (zc_r (zc_r (zc_l (zc_r (zc_r (zc_r (zc_l (zc_l (zc_l (zc_r hg)))))))))))
  | 3, _ => exact zeqi (zc_r (zc_r (zc_r (zc_l (zc_r (zc_r (zc_r (zc_l (zc_l (zc_l (zc_r hg)))))))))))
  | 4, _ => exact zeqi (zc_l (zc_l (zc_l (zc_r (zc_r (zc_r (zc_r (zc_l (zc_l (zc_l (zc_r hg)))))))))))
  | 5, _ => exact zeqi (zc_r (zc_l (zc_l (zc_r (zc_r (zc_r (zc_r (zc_l (zc_l (zc_l (zc_r hg)))))))))))
  | 6, _ => exact zeqi (zc_l (zc_r (zc_l (zc_r (zc_r (zc_r (zc_r (zc_l (zc_l (zc_l (zc_r hg)))))))))))
  | 7, _ => exact zeqi (zc_r (zc_r (zc_l (zc_r (zc_r (zc_r (zc_r (zc_l (zc_l (zc_l (zc_r hg)))))))))))
  | 8, _ => exact zeqi (zc_l (zc_l (zc_r (zc_r (zc_r (zc_r (zc_r (zc_l (zc_l (zc_l (zc_r hg)))))))))))
  | 9, _ => exact zeqi (zc_r (zc_l (zc_r (zc_r (zc_r (zc_r (zc_r (zc_l (zc_l (zc_l (zc_r hg)))))))))))
  | 10, _ => exact zeqi (zc_l (zc_r (zc_r (zc_r (zc_r (zc_r (zc_r (zc_l (zc_l (zc_l (zc_r hg)))))))))))
  | 11, _ => exact zeqi (zc_r (zc_r (zc_r (zc_r (zc_r (zc_r (zc_r (zc_l (zc_l (zc_l (zc_r hg)))))))))))
  | 12, _ => exact zeqi (zc_l (zc_l (zc_l (zc_l (zc_l (zc_l (zc_l (zc_r (zc_l (zc_l (zc_r hg)))))))))))
  | 13, _ => exact zeqi (zc_r (zc_l (zc_l (zc_l (zc_l (zc_l (zc_l (zc_r (zc_l (zc_l (zc_r hg)))))))))))
  | 14, _ => exact zeqi (zc_l (zc_r (zc_l (zc_l (zc_l (zc_l (zc_l (zc_r (zc_l (zc_l (zc_r hg)))))))))))
  | 15, _ => exact zeqi (zc_r (zc_r (zc_l (zc_l (zc_l (zc_l (zc_l (zc_r (zc_l (zc_l (zc_r hg)))))))))))
  | 16, _ => exact zeqi (zc_l (zc_l (zc_r (zc_l (zc_l (zc_l (zc_l (zc_r (zc_l (zc_l (zc_r hg)))))))))))
  | 17, _ => exact zeqi (zc_r (zc_l (zc_r (zc_l (zc_l (zc_l (zc_l (zc_r (zc_l (zc_l (zc_r hg)))))))))))
  | 18, _ => exact zeqi (zc_l (zc_r (zc_r (zc_l (zc_l (zc_l (zc_l (zc_r (zc_l (zc_l (zc_r hg)))))))))))
  | 19, _ => exact zeqi (zc_r (zc_r (zc_r (zc_l (zc_l (zc_l (zc_l (zc_r (zc_l (zc_l (zc_r hg)))))))))))
  | 20, _ => exact zeqi (zc_l (zc_l (zc_l (zc_r (zc_l (zc_l (zc_l (zc_r (zc_l (zc_l (zc_r hg)))))))))))
  | 21, _ => exact zeqi (zc_r (zc_l (zc_l (zc_r (zc_l (zc_l (zc_l (zc_r (zc_l (zc_l (zc_r hg)))))))))))
  | 22, _ => exact zeqi (zc_l (zc_r (zc_l (zc_r (zc_l (zc_l (zc_l (zc_r (zc_l (zc_l (zc_r hg)))))))))))
  | 23, _ => exact zeqi (zc_r (zc_r (zc_l (zc_r (zc_l (zc_l (zc_l (zc_r (zc_l (zc_l (zc_r hg)))))))))))
  | 24, _ => exact zeqi (zc_l (zc_l (zc_r (zc_r (zc_l (zc_l (zc_l (zc_r (zc_l (zc_l (zc_r hg)))))))))))
  | 25, _ => exact zeqi (zc_r (zc_l (zc_r (zc_r (zc_l (zc_l (zc_l (zc_r (zc_l (zc_l (zc_r hg)))))))))))
  | 26, _ => exact zeqi (zc_l (zc_r (zc_r (zc_r (zc_l (zc_l (zc_l (zc_r (zc_l (zc_l (zc_r hg)))))))))))
  | 27, _ => exact zeqi (zc_r (zc_r (zc_r (zc_r (zc_l (zc_l (zc_l (zc_r (zc_l (zc_l (zc_r hg)))))))))))
  | 28, _ => exact zeqi (zc_l (zc_l (zc_l (zc_l (zc_r (zc_l (zc_l (zc_r (zc_l (zc_l (zc_r hg)))))))))))
  | 29, _ => exact zeqi (zc_r (zc_l (zc_l (zc_l (zc_r (zc_l (zc_l (zc_r (zc_l (zc_l (zc_r hg)))))))))))
  | 30, _ => exact zeqi (zc_l (zc_r (zc_l (zc_l (zc_r (zc_l (zc_l (zc_r (zc_l (zc_l (zc_r hg)))))))))))
  | 31, _ => exact zeqi (zc_r (zc_r (zc_l (zc_l (zc_r (zc_l (zc_l (zc_r (zc_l (zc_l (zc_r hg)))))))))))
  | 32, _ => exact zeqi (zc_l (zc_l (zc_r (zc_l (zc_r (zc_l (zc_l (zc_r (zc_l (zc_l (zc_r hg)))))))))))
  | 33, _ => exact zeqi (zc_r (zc_l (zc_r (zc_l (zc_r (zc_l (zc_l (zc_r (zc_l (zc_l (zc_r hg)))))))))))
  | 34, _ => exact zeqi (zc_l (zc_r (zc_r (zc_l (zc_r (zc_l (zc_l (zc_r (zc_l (zc_l (zc_r hg)))))))))))
  | 35, _ => exact zeqi (zc_r (zc_r (zc_r (zc_l (zc_r (zc_l (zc_l (zc_r (zc_l (zc_l (zc_r hg)))))))))))
  | 36, _ => exact zeqi (zc_l (zc_l (zc_l (zc_r (zc_r (zc_l (zc_l (zc_r (zc_l (zc_l (zc_r hg)))))))))))
  | 37, _ => exact zeqi (zc_r (zc_l (zc_l (zc_r (zc_r (zc_l (zc_l (zc_r (zc_l (zc_l (zc_r hg)))))))))))
  | 38, _ => exact zeqi (zc_l (zc_r (zc_l (zc_r (zc_r (zc_l (zc_l (zc_r (zc_l (zc_l (zc_r hg)))))))))))
  | 39, _ => exact zeqi (zc_r (zc_r (zc_l (zc_r (zc_r (zc_l (zc_l (zc_r (zc_l (zc_l (zc_r hg)))))))))))
  | 40, _ => exact zeqi (zc_l (zc_l (zc_r (zc_r (zc_r (zc_l (zc_l (zc_r (zc_l (zc_l (zc_r hg)))))))))))
  | 41, _ => exact zeqi (zc_r (zc_l (zc_r (zc_r (zc_r (zc_l (zc_l (zc_r (zc_l (zc_l (zc_r hg)))))))))))
  | 42, _ => exact zeqi (zc_l (zc_r (zc_r (zc_r (zc_r (zc_l (zc_l (zc_r (zc_l (zc_l (zc_r hg)))))))))))
  | 43, _ => exact zeqi (zc_r (zc_r (zc_r (zc_r (zc_r (zc_l (zc_l (zc_r (zc_l (zc_l (zc_r hg)))))))))))
  | 44, _ => exact zeqi (zc_l (zc_l (zc_l (zc_l (zc_l (zc_r (zc_l (zc_r (zc_l (zc_l (zc_r hg)))))))))))
  | 45, _ => exact zeqi (zc_r (zc_l (zc_l (zc_l (zc_l (zc_r (zc_l (zc_r (zc_l (zc_l (zc_r hg)))))))))))
  | 46, _ => exact zeqi (zc_l (zc_r (zc_l (zc_l (zc_l (zc_r (zc_l (zc_r (zc_l (zc_l (zc_r hg)))))))))))
  | 47, _ => exact zeqi (zc_r (zc_r (zc_l (zc_l (zc_l (zc_r (zc_l (zc_r (zc_l (zc_l (zc_r hg)))))))))))
  | 48, _ => exact zeqi (zc_l (zc_l (zc_r (zc_l (zc_l (zc_r (zc_l (zc_r (zc_l (zc_l (zc_r hg)))))))))))
  | 49, _ => exact zeqi (zc_r (zc_l (zc_r (zc_l (zc_l (zc_r (zc_l (zc_r (zc_l (zc_l (zc_r hg)))))))))))
  | 50, _ => exact zeqi (zc_l (zc_r (zc_r (zc_l (zc_l (zc_r (zc_l (zc_r (zc_l (zc_l (zc_r hg)))))))))))
  | 51, _ => exact zeqi (zc_r (zc_r (zc_r (zc_l (zc_l (zc_r (zc_l (zc_r (zc_l (zc_l (zc_r hg)))))))))))
  | 52, _ => exact zeqi (zc_l (zc_l (zc_l (zc_r (zc_l (zc_r (zc_l (zc_r (zc_l (zc_l (zc_r hg)))))))))))
  | 53, _ => exact zeqi (zc_r (zc_l (zc_l (zc_r (zc_l (zc_r (zc_l (zc_r (zc_l (zc_l (zc_r hg)))))))))))
  | 54, _ => exact zeqi (zc_l (zc_r (zc_l (zc_r (zc_l (zc_r (zc_l (zc_r (zc_l (zc_l (zc_r hg)))))))))))
  | 55, _ => exact zeqi (zc_r (zc_r (zc_l (zc_r (zc_l (zc_r (zc_l (zc_r (zc_l (zc_l (zc_r hg)))))))))))
  | 56, _ => exact zeqi (zc_l (zc_l (zc_r (zc_r (zc_l (zc_r (zc_l (zc_r (zc_l (zc_l (zc_r hg)))))))))))
  | 57, _ => exact zeqi (zc_r (zc_l (zc_r (zc_r (zc_l (zc_r (zc_l (zc_r (zc_l (zc_l (zc_r hg)))))))))))
  | 58, _ => exact zeqi (zc_l (zc_r (zc_r (zc_r (zc_l (zc_r (zc_l (zc_r (zc_l (zc_l (zc_r hg)))))))))))
  | 59, _ => exact zeqi (zc_r (zc_r (zc_r (zc_r (zc_l (zc_r (zc_l (zc_r (zc_l (zc_l (zc_r hg)))))))))))
  | 60, _ => exact zeqi (zc_l (zc_l (zc_l (zc_l (zc_r (zc_r (zc_l (zc_r (zc_l (zc_l (zc_r hg)))))))))))
  | 61, _ => exact zeqi (zc_r (zc_l (zc_l (zc_l (zc_r (zc_r (zc_l (zc_r (zc_l (zc_l (zc_r hg)))))))))))
  | 62, _ => exact zeqi (zc_l (zc_r (zc_l (zc_l (zc_r (zc_r (zc_l (zc_r (zc_l (zc_l (zc_r hg)))))))))))
  | 63, _ => exact zeqi (zc_r (zc_r (zc_l (zc_l (zc_r (zc_r (zc_l (zc_r (zc_l (zc_l (zc_r hg)))))))))))
  | 64, _ => exact zeqi (zc_l (zc_l (zc_r (zc_l (zc_r (zc_r (zc_l (zc_r (zc_l (zc_l (zc_r hg)))))))))))
  | 65, _ => exact zeqi (zc_r (zc_l (zc_r (zc_l (zc_r (zc_r (zc_l (zc_r (zc_l (zc_l (zc_r hg)))))))))))
  | 66, _ => exact zeqi (zc_l (zc_r (zc_r (zc_l (zc_r (zc_r (zc_l (zc_r (zc_l (zc_l (zc_r hg)))))))))))
  | 67, _ => exact zeqi (zc_r (zc_r (zc_r (zc_l (zc_r (zc_r (zc_l (zc_r (zc_l (zc_l (zc_r hg)))))))))))
  | 68, _ => exact zeqi (zc_l (zc_l (zc_l (zc_r (zc_r (zc_r (zc_l (zc_r (zc_l (zc_l (zc_r hg)))))))))))
  | 69, _ => exact zeqi (zc_r (zc_l (zc_l (zc_r (zc_r (zc_r (zc_l (zc_r (zc_l (zc_l (zc_r hg)))))))))))
  | 70, _ => exact zeqi (zc_l (zc_r (zc_l (zc_r (zc_r (zc_r (zc_l (zc_r (zc_l (zc_l (zc_r hg)))))))))))
  | 71, _ => exact zeqi (zc_r (zc_r (zc_l (zc_r (zc_r (zc_r (zc_l (zc_r (zc_l (zc_l (zc_r hg)))))))))))
  | 72, _ => exact zeqi (zc_l (zc_l (zc_r (zc_r (zc_r (zc_r (zc_l (zc_r (zc_l (zc_l (zc_r hg)))))))))))
  | 73, _ => exact zeqi (zc_r (zc_l (zc_r (zc_r (zc_r (zc_r (zc_l (zc_r (zc_l (zc_l (zc_r hg)))))))))))
  | 74, _ => exact zeqi (zc_l (zc_r (zc_r (zc_r (zc_r (zc_r (zc_l (zc_r (zc_l (zc_l (zc_r hg)))))))))))
  | 75, _ => exact zeqi (zc_r (zc_r (zc_r (zc_r (zc_r (zc_r (zc_l (zc_r (zc_l (zc_l (zc_r hg)))))))))))
  | 76, _ => exact zeqi (zc_l (zc_l (zc_l (zc_l (zc_l (zc_l (zc_r (zc_r (zc_l (zc_l (zc_r hg)))))))))))
  | 77, _ => exact zeqi (zc_r (zc_l (zc_l (zc_l (zc_l (zc_l (zc_r (zc_r (zc_l (zc_l (zc_r hg)))))))))))
  | 78, _ => exact zeqi (zc_l (zc_r (zc_l (zc_l (zc_l (zc_l (zc_r (zc_r (zc_l (zc_l (zc_r hg)))))))))))
  | 79, _ => exact zeqi (zc_r (zc_r (zc_l (zc_l (zc_l (zc_l (zc_r (zc_r (zc_l (zc_l (zc_r hg)))))))))))
  | 80, _ => exact zeqi (zc_l (zc_l (zc_r (zc_l (zc_l (zc_l (zc_r (zc_r (zc_l (zc_l (zc_r hg)))))))))))
  | 81, _ => exact zeqi (zc_r (zc_l (zc_r (zc_l (zc_l (zc_l (zc_r (zc_r (zc_l (zc_l (zc_r hg)))))))))))
  | 82, _ => exact zeqi (zc_l (zc_r (zc_r (zc_l (zc_l (zc_l (zc_r (zc_r (zc_l (zc_l (zc_r hg)))))))))))
  | 83, _ => exact zeqi (zc_r (zc_r (zc_r (zc_l (zc_l (zc_l (zc_r (zc_r (zc_l (zc_l (zc_r hg)))))))))))
  | 84, _ => exact zeqi (zc_l (zc_l (zc_l (zc_r (zc_l (zc_l (zc_r (zc_r (zc_l (zc_l (zc_r hg)))))))))))
  | 85, _ => exact zeqi (zc_r (zc_l (zc_l (zc_r (zc_l (zc_l (zc_r (zc_r (zc_l (zc_l (zc_r hg)))))))))))
  | 86, _ => exact zeqi (zc_l (zc_r (zc_l (zc_r (zc_l (zc_l (zc_r (zc_r (zc_l (zc_l (zc_r hg)))))))))))
  | 87, _ => exact zeqi (zc_r (zc_r (zc_l (zc_r (zc_l (zc_l (zc_r (zc_r (zc_l (zc_l (zc_r hg)))))))))))
  | 88, _ => exact zeqi (zc_l (zc_l (zc_r (zc_r (zc_l (zc_l (zc_r (zc_r (zc_l (zc_l (zc_r hg)))))))))))
  | 89, _ => exact zeqi (zc_r (zc_l (zc_r (zc_r (zc_l (zc_l (zc_r (zc_r (zc_l (zc_l (zc_r hg)))))))))))
  | 90, _ => exact zeqi (zc_l (zc_r (zc_r (zc_r (zc_l (zc_l (zc_r (zc_r (zc_l (zc_l (zc_r hg)))))))))))
  | 91, _ => exact zeqi (zc_r (zc_r (zc_r (zc_r (zc_l (zc_l (zc_r (zc_r (zc_l (zc_l (zc_r hg)))))))))))
  | 92, _ => exact zeqi (zc_l (zc_l (zc_l (zc_l (zc_r (zc_l (zc_r (zc_r (zc_l (zc_l (zc_r hg)))))))))))
  | 93, _ => exact zeqi (zc_r (zc_l (zc_l (zc_l (zc_r (zc_l (zc_r (zc_r (zc_l (zc_l (zc_r hg)))))))))))
  | 94, _ => exact zeqi (zc_l (zc_r (zc_l (zc_l (zc_r (zc_l (zc_r (zc_r (zc_l (zc_l (zc_r hg)))))))))))
  | 95, _ => exact zeqi (zc_r (zc_r (zc_l (zc_l (zc_r (zc_l (zc_r (zc_r (zc_l (zc_l (zc_r hg)))))))))))
  | 96, _ => exact zeqi (zc_l (zc_l (zc_r (zc_l (zc_r (zc_l (zc_r (zc_r (zc_l (zc_l (zc_r hg)))))))))))
  | 97, _ => exact zeqi (zc_r (zc_l (zc_r (zc_l (zc_r (zc_l (zc_r (zc_r (zc_l (zc_l (zc_r hg)))))))))))
  | 98, _ => exact zeqi (zc_l (zc_r (zc_r (zc_l (zc_r (zc_l (zc_r (zc_r (zc_l (zc_l (zc_r hg)))))))))))
  | 99, _ => exact zeqi (zc_r (zc_r (zc_r (zc_l (zc_r (zc_l (zc_r (zc_r (zc_l (zc_l (zc_r hg)))))))))))
  | j + 100, hj => exact absurd hj (by omega)
theorem z_stat2 {A : Array Value} {s : State} (ht : ∀ w ∈ tables_1, w.before A s = true) (hg : (Jvm.Cond.and given_1 narrow_1).before A s = true) : ∃ sv : Nat → Value, sv 0 = .int 1 ∧ zty 4 (sv 3) = true ∧ ((Jvm.Term.static "java/lang/Integer" "DigitOnes" "[B")).eval A s none [] s = some (sv 1) ∧ ((Jvm.Term.static "java/lang/Integer" "DigitTens" "[B")).eval A s none [] s = some (sv 2) ∧ ∀ i, i < 4 → va_Z (zss i).1 (zss i).2.1 (zss i).2.2 (sv i) (fun q => s.heap.size ≤ q) s s.heap := by
  have hA : ∀ a : Nat, a < s.heap.size → ¬ (fun q => s.heap.size ≤ q) a := fun a h => Nat.not_le.mpr h
  have h0 := va_Zof (A := fun q => s.heap.size ≤ q) (ht (Cond.laysStatic "java/lang/String" "COMPACT_STRINGS" "Z") (zt_1 (List.mem_of_getElem? (i := 54) rfl))) (ht (Cond.initialized "java/lang/String") (zt_1 (List.mem_of_getElem? (i := 4) rfl))) (va_eqi (zc_r (zc_r (zc_l (zc_l (zc_l (zc_l (zc_l (zc_l (zc_l (zc_l (zc_r hg)))))))))))) hA
  obtain ⟨v1, e1⟩ := z_ev (zc_r (zc_r (zc_l (zc_r (zc_l (zc_l (zc_l (zc_l (zc_l (zc_l (zc_r hg)))))))))))
  have h1 := va_Zof (A := fun q => s.heap.size ≤ q) (ht (Cond.laysStatic "java/lang/Integer" "DigitOnes" "[B") (zt_5 (List.mem_of_getElem? (i := 195) rfl))) (ht (Cond.initialized "java/lang/Integer") (zt_1 (List.mem_of_getElem? (i := 30) rfl))) e1 hA
  obtain ⟨v2, e2⟩ := z_ev (zc_l (zc_r (zc_l (zc_l (zc_r (zc_r (zc_r (zc_l (zc_l (zc_l (zc_r hg)))))))))))
  have h2 := va_Zof (A := fun q => s.heap.size ≤ q) (ht (Cond.laysStatic "java/lang/Integer" "DigitTens" "[B") (zt_5 (List.mem_of_getElem? (i := 197) rfl))) (ht (Cond.initialized "java/lang/Integer") (zt_1 (List.mem_of_getElem? (i := 30) rfl))) e2 hA
  have h3 := va_Zqof (A := fun q => s.heap.size ≤ q) (ht (Cond.laysStatic "jdk/internal/util/Preconditions" "SIOOBE_FORMATTER" "Ljava/util/function/BiFunction;") (zt_4 (List.mem_of_getElem? (i := 237) rfl))) (ht (Cond.initialized "jdk/internal/util/Preconditions") (zt_1 (List.mem_of_getElem? (i := 27) rfl))) (zc_l (zc_r (zc_r (zc_l (zc_l (zc_l (zc_l (zc_l (zc_l (zc_l (zc_r hg))))))))))) hA
  obtain ⟨v3, e3, h3⟩ : ∃ v, zty 4 v = true ∧ va_Z (zss 3).1 (zss 3).2.1 (zss 3).2.2 v (fun q => s.heap.size ≤ q) s s.heap := by
    rcases h3 with h3 | ⟨t, h3⟩
    · exact ⟨.null, rfl, h3⟩
    · exact ⟨.ref t, rfl, h3⟩
  refine ⟨fun i => match i with | 0 => .int 1 | 1 => v1 | 2 => v2 | _ => v3, rfl, e3, e1, e2, fun i hi => ?_⟩
  rcases (show i = 0 ∨ i = 1 ∨ i = 2 ∨ i = 3 by omega) with rfl | rfl | rfl | rfl
  · exact h0
  · exact h1
  · exact h2
  · exact h3
/-- what the start tells the interpreter: script, statics, digits, String constants -/
def zSt0 (sv : Nat → Value) (h : zH) (b : Nat) (xs : List Int32) : Prop := sv 0 = .int 1 ∧ zty 4 (sv 3) = true ∧ (b < h.2.1 ∧ h.1 b = (28, xs.map Value.int)) ∧ (∃ a1 a2 : Nat, sv 1 = .ref a1 ∧ sv 2 = .ref a2 ∧ h.1 a1 = (27, zdg_1.map Value.int) ∧ h.1 a2 = (27, zdg_2.map Value.int) ∧ a1 < h.2.1 ∧ a2 < h.2.1) ∧ ∀ i, i < zstN → ∃ a c : Nat, sv (4 + i) = .ref a ∧ h.1 a = (19, [.ref c, .int 0]) ∧ h.1 c = (27, (zbyt.getD i []).map Value.int) ∧ a < h.2.1 ∧ c < h.2.1
/-- what is owed of the interpreter -/
def zOK3 : Prop := ∀ (sv : Nat → Value) (h0 : zH) (b : Nat) (xs : List Int32), zSt0 sv h0 b xs → h0.2.2 = 0 → xs.length ≤ 260 → ∃ (d : Nat) (h : zH), d ≤ 900 ∧ zcall zP sv d 215 [.ref b] h0 = some (.inl (some (.int 1)), h) ∧ h.2.1 - h0.2.1 ≤ 811176 ∧ h.2.2 ≤ 6653641
/-- the heap at the law's entry -/
def zh3 (s : State) (b : Nat) (xs : List Int32) (K B : List Nat) (iS : Nat → Nat) : zH := (fun q => if q = b then (28, xs.map Value.int) else if q ∈ K then (19, [((s.heap[q]?).bind fun c => c.slots[iS 0]?).getD .null, ((s.heap[q]?).bind fun c => c.slots[iS 1]?).getD .null]) else if q ∈ B then (27, ((s.heap[q]?).map fun c => c.slots.toList).getD []) else (0, []), s.heap.size, 0)
theorem zarr_ne {s : State} {q : Nat} {cell c2 : Cell} {ty : FieldType} {C : String} {cC : ClassId} (h1 : s.heap[q]? = some cell) (h2 : s.isArrayOf cell ty) (h3 : s.heap[q]? = some c2) (h4 : c2.cls = cC) (h5 : ClassAt s C cC) : False := by
  cases h1.symm.trans h3
  obtain ⟨-, k, hk, comp, hkind⟩ := h2
  obtain ⟨-, k2, hk2, hkind2⟩ := h5
  rw [h4] at hk
  cases Option.some.inj (hk.symm.trans hk2)
  rw [hkind] at hkind2
  cases hkind2
theorem zarr_ty {s : State} {q : Nat} {cell c2 : Cell} (h1 : s.heap[q]? = some cell) (h2 : s.isArrayOf cell .byte) (h3 : s.heap[q]? = some c2) (h4 : s.isArrayOf c2 .int) : False := by
  cases h1.symm.trans h3
  obtain ⟨-, kk, g1, comp, g2⟩ := h2
  obtain ⟨-, kk2, g3, comp2, g4⟩ := h4
  cases Option.some.inj (g1.symm.trans g3)
  cases g2.symm.trans g4
