/-! What the law's start gives. Printed by wip/gen/gen.py. -/
theorem zc_l {a b : Jvm.Cond} {args : Array Value} {s : State} (h : (Jvm.Cond.and a b).before args s = true) : a.before args s = true := by
  rw [Cond.before_and, Bool.and_eq_true] at h
  exact h.1
theorem zc_r {a b : Jvm.Cond} {args : Array Value} {s : State} (h : (Jvm.Cond.and a b).before args s = true) : b.before args s = true := by
  rw [Cond.before_and, Bool.and_eq_true] at h
  exact h.2
theorem z_strR {own tx : String} {k : Nat} {A : Array Value} {s : State} (h1 : (Cond.stringRef own k tx).before A s = true) (h2 : (Cond.exactly (.string own k) "java/lang/String").before A s = true) : ∃ sa, vk_R own k tx sa s := by
  obtain ⟨a, c, cA, kA, q1, -⟩ := Cond.exactly_spec (args := A) (first := s) (o := none) (s := s) (idx := []) (t := .string own k) (cls := "java/lang/String") h2
  exact ⟨a, vk_R.of h1 q1⟩
theorem z_ev {t : Term} {ty : FieldType} {A : Array Value} {s : State} (h : (Cond.arrayOf t ty).before A s = true) : ∃ v, t.eval A s none [] s = some v := by
  cases e : t.eval A s none [] s with
  | none => simp [Cond.before, Cond.holds, Cond.value, e] at h
  | some v => exact ⟨v, rfl⟩
theorem zat.mkro {cl : List vw_C} {G : zG} {a : Nat} {c : zC} {H : Heap} (h : 27 ≤ c.1) (e : ∃ cell : Cell, H[a]? = some cell ∧ G.2.2.isArrayOf cell (ztyK c.1) ∧ cell.vm ≠ .unknown ∧ cell.slots.toList = c.2) : zat cl G a c H := by
  unfold zat
  rw [if_neg (by omega), if_neg (by omega), if_neg (by omega)]
  exact e
/-- the heap at the law's entry: the script alone is known -/
def zh0 (n0 b : Nat) (xs : List Int32) : zH := (fun q => if q = b then (28, xs.map Value.int) else (0, []), n0, 0)
theorem z_strs {A : Array Value} {s : State} (ht : ∀ w ∈ tables_1, w.before A s = true) (hg : (Jvm.Cond.and given_1 narrow_1).before A s = true) : zstrs s :=
  ⟨z_strR (ht (Cond.stringRef "ExpressionCompiler" 100 "the input buffer is full") (zt_3 (List.mem_of_getElem? (i := 238) rfl))) (zc_r (zc_r (zc_l (zc_l (zc_l (zc_l (zc_l (zc_l (zc_l (zc_l (zc_r (zc_r hg)))))))))))),
  z_strR (ht (Cond.stringRef "ExpressionCompiler" 124 "the text is malformed") (zt_4 (List.mem_of_getElem? (i := 89) rfl))) (zc_l (zc_l (zc_r (zc_l (zc_r (zc_l (zc_l (zc_l (zc_l (zc_r (zc_r hg))))))))))),
  z_strR (ht (Cond.stringRef "ExpressionCompiler" 187 "the value is out of range") (zt_5 (List.mem_of_getElem? (i := 22) rfl))) (zc_l (zc_l (zc_r (zc_l (zc_l (zc_r (zc_r (zc_l (zc_l (zc_r (zc_r hg))))))))))),
  z_strR (ht (Cond.stringRef "ExpressionCompiler" 193 "the number of registers is out of range") (zt_5 (List.mem_of_getElem? (i := 36) rfl))) (zc_l (zc_r (zc_r (zc_l (zc_r (zc_r (zc_r (zc_r (zc_l (zc_l (zc_r (zc_r hg)))))))))))),
  z_strR (ht (Cond.stringRef "ExpressionCompiler" 269 "the code stores a register with every machine") (zt_5 (List.mem_of_getElem? (i := 214) rfl))) (zc_l (zc_r (zc_r (zc_l (zc_r (zc_r (zc_l (zc_l (zc_r (zc_l (zc_r (zc_r hg)))))))))))),
  z_strR (ht (Cond.stringRef "ExpressionCompiler" 295 "no such character") (zt_7 (List.mem_of_getElem? (i := 84) rfl))) (zc_l (zc_r (zc_l (zc_r (zc_l (zc_l (zc_r (zc_l (zc_r (zc_r (zc_r hg))))))))))),
  z_strR (ht (Cond.stringRef "ExpressionCompiler" 304 "no such rank") (zt_7 (List.mem_of_getElem? (i := 110) rfl))) (zc_r (zc_r (zc_r (zc_l (zc_l (zc_l (zc_r (zc_r (zc_l (zc_r (zc_r (zc_r hg)))))))))))),
  z_strR (ht (Cond.stringRef "ExpressionCompiler" 311 "there are no formulas") (zt_7 (List.mem_of_getElem? (i := 133) rfl))) (zc_r (zc_r (zc_l (zc_l (zc_r (zc_r (zc_r (zc_r (zc_l (zc_r (zc_r (zc_r hg)))))))))))),
  z_strR (ht (Cond.stringRef "ExpressionCompiler" 318 "no text was malformed") (zt_7 (List.mem_of_getElem? (i := 149) rfl))) (zc_l (zc_r (zc_r (zc_r (zc_l (zc_r (zc_l (zc_l (zc_r (zc_r (zc_r (zc_r hg)))))))))))),
  z_strR (ht (Cond.stringRef "ExpressionCompiler" 321 "no call can be undone") (zt_7 (List.mem_of_getElem? (i := 157) rfl))) (zc_l (zc_r (zc_l (zc_r (zc_l (zc_r (zc_r (zc_l (zc_r (zc_r (zc_r (zc_r hg)))))))))))),
  z_strR (ht (Cond.stringRef "ExpressionCompiler" 329 "no state was saved") (zt_7 (List.mem_of_getElem? (i := 170) rfl))) (zc_r (zc_r (zc_r (zc_l (zc_l (zc_r (zc_l (zc_r (zc_r (zc_r (zc_r (zc_r hg)))))))))))),
  z_strR (ht (Cond.stringRef "ExpressionCompiler" 337 "no such formula") (zt_2 (List.mem_of_getElem? (i := 176) rfl))) (zc_r (zc_r (zc_l (zc_r (zc_l (zc_r (zc_r (zc_r (zc_r (zc_l (zc_r hg))))))))))),
  z_strR (ht (Cond.stringRef "ExpressionCompiler" 339 "no such instruction") (zt_5 (List.mem_of_getElem? (i := 232) rfl))) (zc_l (zc_r (zc_r (zc_r (zc_r (zc_r (zc_r (zc_l (zc_r (zc_l (zc_r (zc_r hg)))))))))))),
  z_strR (ht (Cond.stringRef "ExpressionCompiler" 341 "no such variable") (zt_5 (List.mem_of_getElem? (i := 3) rfl))) (zc_l (zc_l (zc_r (zc_l (zc_r (zc_l (zc_r (zc_l (zc_l (zc_r (zc_r hg))))))))))),
  z_strR (ht (Cond.stringRef "ExpressionCompiler" 343 "there are six formulas") (zt_4 (List.mem_of_getElem? (i := 100) rfl))) (zc_r (zc_r (zc_l (zc_r (zc_l (zc_l (zc_r (zc_l (zc_l (zc_l (zc_r (zc_r hg)))))))))))),
  z_strR (ht (Cond.stringRef "ExpressionCompiler" 350 "the formula is too large or too deep") (zt_4 (List.mem_of_getElem? (i := 126) rfl))) (zc_l (zc_l (zc_l (zc_r (zc_r (zc_r (zc_l (zc_l (zc_l (zc_r (zc_r hg)))))))))))⟩
theorem z_nocast {A : Array Value} {s : State} (hg : (Jvm.Cond.and given_1 narrow_1).before A s = true) : znocast s :=
  ⟨va_Nc.of (zc_r (zc_r (zc_r (zc_l (zc_r (zc_r (zc_r (zc_l (zc_r (zc_l (zc_r hg))))))))))),
  va_Nc.of (zc_r (zc_r (zc_r (zc_r (zc_r (zc_r (zc_l (zc_l (zc_r (zc_l (zc_r hg))))))))))),
  va_Nc.of (zc_l (zc_r (zc_r (zc_l (zc_r (zc_r (zc_r (zc_l (zc_r (zc_l (zc_r hg))))))))))),
  va_Nc.of (zc_l (zc_l (zc_l (zc_l (zc_l (zc_r (zc_l (zc_r (zc_l (zc_r hg)))))))))),
  va_Nc.of (zc_l (zc_r (zc_r (zc_l (zc_l (zc_r (zc_l (zc_l (zc_r (zc_l (zc_r hg))))))))))),
  va_Nc.of (zc_l (zc_l (zc_r (zc_r (zc_r (zc_r (zc_l (zc_r (zc_l (zc_r hg)))))))))),
  va_Nc.of (zc_l (zc_r (zc_l (zc_r (zc_r (zc_r (zc_r (zc_l (zc_r (zc_l (zc_r hg)))))))))))⟩
theorem z_stat {A : Array Value} {s : State} (ht : ∀ w ∈ tables_1, w.before A s = true) (hg : (Jvm.Cond.and given_1 narrow_1).before A s = true) : ∃ sv : Nat → Value, sv 0 = .int 1 ∧ zty 4 (sv 3) = true ∧ ∀ i, i < 4 → va_Z (zss i).1 (zss i).2.1 (zss i).2.2 (sv i) (fun q => s.heap.size ≤ q) s s.heap := by
  have hA : ∀ a : Nat, a < s.heap.size → ¬ (fun q => s.heap.size ≤ q) a := fun a h => Nat.not_le.mpr h
  have h0 := va_Zof (A := fun q => s.heap.size ≤ q) (ht (Cond.laysStatic "java/lang/String" "COMPACT_STRINGS" "Z") (zt_1 (List.mem_of_getElem? (i := 54) rfl))) (ht (Cond.initialized "java/lang/String") (zt_1 (List.mem_of_getElem? (i := 4) rfl))) (va_eqi (zc_r (zc_r (zc_l (zc_l (zc_l (zc_l (zc_l (zc_l (zc_l (zc_l (zc_r hg)))))))))))) hA
  obtain ⟨v1, e1⟩ := z_ev (zc_l (zc_r (zc_r (zc_r (zc_l (zc_l (zc_l (zc_l (zc_l (zc_l (zc_r hg)))))))))))
  have h1 := va_Zof (A := fun q => s.heap.size ≤ q) (ht (Cond.laysStatic "java/lang/Integer" "DigitOnes" "[B") (zt_6 (List.mem_of_getElem? (i := 160) rfl))) (ht (Cond.initialized "java/lang/Integer") (zt_1 (List.mem_of_getElem? (i := 27) rfl))) e1 hA
  obtain ⟨v2, e2⟩ := z_ev (zc_l (zc_r (zc_l (zc_l (zc_r (zc_l (zc_l (zc_r (zc_l (zc_l (zc_r hg)))))))))))
  have h2 := va_Zof (A := fun q => s.heap.size ≤ q) (ht (Cond.laysStatic "java/lang/Integer" "DigitTens" "[B") (zt_6 (List.mem_of_getElem? (i := 162) rfl))) (ht (Cond.initialized "java/lang/Integer") (zt_1 (List.mem_of_getElem? (i := 27) rfl))) e2 hA
  have h3 := va_Zqof (A := fun q => s.heap.size ≤ q) (ht (Cond.laysStatic "jdk/internal/util/Preconditions" "SIOOBE_FORMATTER" "Ljava/util/function/BiFunction;") (zt_6 (List.mem_of_getElem? (i := 90) rfl))) (ht (Cond.initialized "jdk/internal/util/Preconditions") (zt_1 (List.mem_of_getElem? (i := 33) rfl))) (zc_r (zc_r (zc_r (zc_l (zc_l (zc_l (zc_l (zc_l (zc_l (zc_l (zc_r hg))))))))))) hA
  obtain ⟨v3, e3, h3⟩ : ∃ v, zty 4 v = true ∧ va_Z (zss 3).1 (zss 3).2.1 (zss 3).2.2 v (fun q => s.heap.size ≤ q) s s.heap := by
    rcases h3 with h3 | ⟨t, h3⟩
    · exact ⟨.null, rfl, h3⟩
    · exact ⟨.ref t, rfl, h3⟩
  refine ⟨fun i => match i with | 0 => .int 1 | 1 => v1 | 2 => v2 | _ => v3, rfl, e3, fun i hi => ?_⟩
  rcases (show i = 0 ∨ i = 1 ∨ i = 2 ∨ i = 3 by omega) with rfl | rfl | rfl | rfl
  · exact h0
  · exact h1
  · exact h2
  · exact h3
theorem z_un {A : Array Value} {s : State} (ht : ∀ w ∈ tables_1, w.before A s = true) (hg : (Jvm.Cond.and given_1 narrow_1).before A s = true) : vx_Zq Bundle.tN "UNASSIGNED_STACK" "[Ljava/lang/StackTraceElement;" (fun q => s.heap.size ≤ q) s s.heap :=
  vx_Zqof (ht (Cond.laysStatic "java/lang/Throwable" "UNASSIGNED_STACK" "[Ljava/lang/StackTraceElement;") (zt_2 (List.mem_of_getElem? (i := 157) rfl))) (ht (Cond.initialized "java/lang/Throwable") (zt_1 (List.mem_of_getElem? (i := 17) rfl))) (zc_l (zc_r (zc_l (zc_l (zc_l (zc_l (zc_l (zc_l (zc_l (zc_r hg)))))))))) (fun a h => Nat.not_le.mpr h)
theorem z_se {A : Array Value} {s : State} (ht : ∀ w ∈ tables_1, w.before A s = true) (hg : (Jvm.Cond.and given_1 narrow_1).before A s = true) : vx_Zq Bundle.tN "SUPPRESSED_SENTINEL" "Ljava/util/List;" (fun q => s.heap.size ≤ q) s s.heap :=
  vx_Zqof (ht (Cond.laysStatic "java/lang/Throwable" "SUPPRESSED_SENTINEL" "Ljava/util/List;") (zt_2 (List.mem_of_getElem? (i := 159) rfl))) (ht (Cond.initialized "java/lang/Throwable") (zt_1 (List.mem_of_getElem? (i := 17) rfl))) (zc_l (zc_r (zc_r (zc_l (zc_l (zc_l (zc_l (zc_l (zc_l (zc_l (zc_r hg))))))))))) (fun a h => Nat.not_le.mpr h)
theorem z_known {A : Array Value} {s : State} (ht : ∀ w ∈ tables_1, w.before A s = true) : ∃ D : va_G, ∀ (c : Nat) (q : vw_C), zcl[c]? = some q → u_Kn s q.1 q.2.1 q.2.2 (D.1 c) (D.2 c) := by
  have hw : ∀ w ∈ zW, w.before A s = true := fun w h => lw_hts ht w (List.mem_filter.mp h).1
  obtain ⟨c0, i0, k0⟩ := u_known (C := "ExpressionCompiler") (T := zTf_0) (N := 13) (n := 13) hw zkd_0.2.1 (hw _ zkd_0.2.2.1)
  obtain ⟨c1, i1, k1⟩ := u_known (C := "java/lang/StringBuilder") (T := zTf_1) (N := 4) (n := 4) hw zkd_1.2.1 (hw _ zkd_1.2.2.1)
  obtain ⟨c2, i2, k2⟩ := u_known (C := "ExpressionCompiler$State") (T := zTf_2) (N := 5) (n := 5) hw zkd_2.2.1 (hw _ zkd_2.2.2.1)
  obtain ⟨c3, i3, k3⟩ := u_known (C := "ExpressionCompiler$Row") (T := zTf_3) (N := 1) (n := 1) hw zkd_3.2.1 (hw _ zkd_3.2.2.1)
  obtain ⟨c4, i4, k4⟩ := u_known (C := "ExpressionCompiler$History") (T := zTf_4) (N := 3) (n := 3) hw zkd_4.2.1 (hw _ zkd_4.2.2.1)
  obtain ⟨c5, i5, k5⟩ := u_known (C := "ExpressionCompiler$Tree") (T := zTf_5) (N := 6) (n := 6) hw zkd_5.2.1 (hw _ zkd_5.2.2.1)
  obtain ⟨c6, i6, k6⟩ := u_known (C := "ExpressionCompiler$Parser") (T := zTf_6) (N := 3) (n := 3) hw zkd_6.2.1 (hw _ zkd_6.2.2.1)
  obtain ⟨c7, i7, k7⟩ := u_known (C := "ExpressionCompiler$Input") (T := zTf_7) (N := 2) (n := 2) hw zkd_7.2.1 (hw _ zkd_7.2.2.1)
  obtain ⟨c8, i8, k8⟩ := u_known (C := "ExpressionCompiler$Algebra") (T := zTf_8) (N := 1) (n := 1) hw zkd_8.2.1 (hw _ zkd_8.2.2.1)
  obtain ⟨c9, i9, k9⟩ := u_known (C := "ExpressionCompiler$Gauge") (T := zTf_9) (N := 3) (n := 3) hw zkd_9.2.1 (hw _ zkd_9.2.2.1)
  obtain ⟨c10, i10, k10⟩ := u_known (C := "ExpressionCompiler$Numbering") (T := zTf_10) (N := 2) (n := 2) hw zkd_10.2.1 (hw _ zkd_10.2.2.1)
  obtain ⟨c11, i11, k11⟩ := u_known (C := "ExpressionCompiler$Code") (T := zTf_11) (N := 10) (n := 10) hw zkd_11.2.1 (hw _ zkd_11.2.2.1)
  obtain ⟨c12, i12, k12⟩ := u_known (C := "ExpressionCompilerModel") (T := zTf_12) (N := 32) (n := 32) hw zkd_12.2.1 (hw _ zkd_12.2.2.1)
  refine ⟨(fun k => [c0, c1, c2, c3, c4, c5, c6, c7, c8, c9, c10, c11, c12].getD k c0, fun k => ([i0, i1, i2, i3, i4, i5, i6, i7, i8, i9, i10, i11, i12] : List (Nat → Nat)).getD k i0), fun c q hq => ?_⟩
  match c, hq with
  | 0, hq => cases hq; exact k0
  | 1, hq => cases hq; exact k1
  | 2, hq => cases hq; exact k2
  | 3, hq => cases hq; exact k3
  | 4, hq => cases hq; exact k4
  | 5, hq => cases hq; exact k5
  | 6, hq => cases hq; exact k6
  | 7, hq => cases hq; exact k7
  | 8, hq => cases hq; exact k8
  | 9, hq => cases hq; exact k9
  | 10, hq => cases hq; exact k10
  | 11, hq => cases hq; exact k11
  | 12, hq => cases hq; exact k12
  | k + 13, hq => simp [zcl] at hq
theorem z_arrT {A : Array Value} {s : State} {ty : FieldType} (h : (Cond.arrayClass ty).before A s = true) : ∃ cA : ClassId, ArrOfT s cA ty ∧ s.vm.findClass ("[" ++ ty.toString) = some cA := by
  obtain ⟨c, k, comp, h1, h2, h3⟩ := Cond.arrayClass_spec h
  exact ⟨c, fun N z => ⟨(fun k h => by cases h), k, h2, comp, h3⟩, h1⟩
theorem z_arrO {A : Array Value} {s : State} {C : String} (h : (Cond.arrayOver (.object C)).before A s = true) : ∃ cA : ClassId, ArrOfT s cA (.object C) ∧ va_RA s cA (.object C) := by
  obtain ⟨comp, c, k, h1, h2, h3, h4, h5⟩ := Cond.arrayOver_spec h
  exact ⟨c, fun N z => ⟨(fun k h => by cases h), k, h3, comp, h4⟩, k, comp, h3, h4, h1, h5⟩
theorem z_arrs {A : Array Value} {s : State} (ht : ∀ w ∈ tables_1, w.before A s = true) : ∃ cA : Nat → ClassId, ∀ k, 20 ≤ k → k < 27 → ArrOfT s (cA k) (ztyK k) ∧ va_RA s (cA k) (ztyK k) := by
  obtain ⟨c20, a20, b20⟩ := z_arrT (ht (Cond.arrayClass .int) (zt_1 (List.mem_of_getElem? (i := 95) rfl)))
  obtain ⟨c21, a21, b21⟩ := z_arrT (ht (Cond.arrayClass .char) (zt_1 (List.mem_of_getElem? (i := 177) rfl)))
  obtain ⟨c22, a22, b22⟩ := z_arrT (ht (Cond.arrayClass .long) (zt_9 (List.mem_of_getElem? (i := 219) rfl)))
  obtain ⟨c23, a23, b23⟩ := z_arrT (ht (Cond.arrayClass .double) (zt_9 (List.mem_of_getElem? (i := 220) rfl)))
  obtain ⟨c24, a24, b24⟩ := z_arrT (ht (Cond.arrayClass .byte) (zt_1 (List.mem_of_getElem? (i := 76) rfl)))
  obtain ⟨c25, a25, b25⟩ := z_arrO (ht (Cond.arrayOver (.object "ExpressionCompiler$Tree")) (zt_1 (List.mem_of_getElem? (i := 84) rfl)))
  obtain ⟨c26, a26, b26⟩ := z_arrO (ht (Cond.arrayOver (.object "ExpressionCompiler$State")) (zt_1 (List.mem_of_getElem? (i := 119) rfl)))
  refine ⟨fun k => match k with | 20 => c20 | 21 => c21 | 22 => c22 | 23 => c23 | 24 => c24 | 25 => c25 | _ => c26, fun k h1 h2 => ?_⟩
  rcases (show k = 20 ∨ k = 21 ∨ k = 22 ∨ k = 23 ∨ k = 24 ∨ k = 25 ∨ k = 26 by omega) with rfl | rfl | rfl | rfl | rfl | rfl | rfl
  · exact ⟨a20, b20⟩
  · exact ⟨a21, b21⟩
  · exact ⟨a22, b22⟩
  · exact ⟨a23, b23⟩
  · exact ⟨a24, b24⟩
  · exact ⟨a25, b25⟩
  · exact ⟨a26, b26⟩
/-- what is owed of the interpreter -/
def zOK : Prop := ∀ (sv : Nat → Value) (n0 b : Nat) (xs : List Int32), sv 0 = .int 1 → zty 4 (sv 3) = true → b < n0 → xs.length ≤ 2048 → ∃ (d : Nat) (h : zH), d ≤ 900 ∧ zcall zP sv d 299 [.ref b] (zh0 n0 b xs) = some (.inl (some (.int 1)), h) ∧ h.2.1 - n0 ≤ 948316 ∧ h.2.2 ≤ 6138517
