/-! The start with the two digit arrays. Printed by wip/gen/gen.py. -/
theorem zeqi {args : Array Value} {s : State} {t : Term} {z : Int32} (h : (Cond.eq t (.int z)).before args s = true) : t.eval args s none [] s = some (.int z) := by
  cases hv : t.eval args s none [] s with
  | none => simp [Cond.before, Cond.holds, Cond.value, hv] at h
  | some w =>
    have hz : (Term.int z).eval args s none [] s = some (.int z) := rfl
    simp only [Cond.before, Cond.holds, Cond.value, hv, hz] at h
    cases w <;> simp_all
def zdv : Option Value → Int32
  | some (Value.int z) => z
  | _ => 0
theorem zdig {args : Array Value} {s : State} {t : Term} {v : Value} (hl : (Cond.eq (.length t) (.int 100)).before args s = true) (ha : (Cond.arrayOf t .byte).before args s = true) (he : ∀ j, j < 100 → ∃ z : Int32, (Term.elem t (.int j.toInt32)).eval args s none [] s = some (.int z)) (hv : t.eval args s none [] s = some v) : ∃ (a : Nat) (cell : Cell) (D : List Int32), v = .ref a ∧ s.heap[a]? = some cell ∧ s.isArrayOf cell .byte ∧ cell.vm ≠ .unknown ∧ cell.slots.toList = D.map Value.int ∧ D.length = 100 := by
  have hv2 := zeqi hl
  obtain ⟨b, cell, ht, harr, -⟩ := Term.length_spec hv2
  cases Option.some.inj (hv.symm.trans ht)
  obtain ⟨hcell, hkn, -, -⟩ := State.arrayAt?_spec harr
  have hof := (Cond.arrayOf_spec ha ht hcell).1
  have hsz : cell.slots.size = 100 := by
    simp only [Term.eval, ht, harr, Option.bind_eq_bind, Option.bind_some] at hv2
    by_cases hlt : cell.slots.size < 2 ^ 31
    · rw [if_pos hlt] at hv2
      injection hv2 with q
      injection q with q
      have q2 : nI cell.slots.size = nI 100 := q
      have q3 := congrArg Int32.toInt q2
      rw [nI_toInt hlt, nI_toInt (by decide)] at q3
      omega
    · rw [if_neg hlt] at hv2
      cases hv2
  have hint : ∀ j, j < 100 → ∃ z : Int32, cell.slots.toList[j]? = some (.int z) := by
    intro j hj
    obtain ⟨z, hz⟩ := he j hj
    simp only [Term.eval, ht, harr, Option.bind_eq_bind, Option.bind_some] at hz
    have e1 : ¬ j.toInt32 < 0 := nI_pos (show j < 2 ^ 31 by omega)
    have e2 : (j.toInt32).toNatClampNeg = j := nI_clamp (show j < 2 ^ 31 by omega)
    rw [if_neg e1, e2] at hz
    exact ⟨z, by rw [Array.getElem?_toList]; exact hz⟩
  refine ⟨b, cell, (List.range 100).map (fun j => zdv cell.slots.toList[j]?), rfl, hcell, hof, hkn, ?_, by simp⟩
  apply List.ext_getElem?
  intro j
  by_cases hj : j < 100
  · obtain ⟨z, hz⟩ := hint j hj
    rw [hz, List.getElem?_map, List.getElem?_map, List.getElem?_range hj]
    show _ = some (Value.int (zdv cell.slots.toList[j]?))
    rw [hz]
    rfl
  · rw [List.getElem?_eq_none (by rw [Array.length_toList]; omega), List.getElem?_eq_none (by simp; omega)]
set_option maxRecDepth 10000 in
theorem zdig_1 {A : Array Value} {s : State} {v : Value} (hg : (Jvm.Cond.and given_1 narrow_1).before A s = true) (hv : ((Jvm.Term.static "java/lang/Integer" "DigitOnes" "[B")).eval A s none [] s = some v) : ∃ (a : Nat) (cell : Cell) (D : List Int32), v = .ref a ∧ s.heap[a]? = some cell ∧ s.isArrayOf cell .byte ∧ cell.vm ≠ .unknown ∧ cell.slots.toList = D.map Value.int ∧ D.length = 100 := by
  refine zdig (zc_r (zc_r (zc_r (zc_r (zc_l (zc_l (zc_l (zc_l (zc_l (zc_l (zc_r hg))))))))))) (zc_l (zc_r (zc_r (zc_r (zc_l (zc_l (zc_l (zc_l (zc_l (zc_l (zc_r hg))))))))))) (fun j hj => ?_) hv
  match j, hj with
  | 0, _ => exact ⟨_, zeqi (zc_l (zc_l (zc_l (zc_r (zc_l (zc_l (zc_l (zc_l (zc_l (zc_r hg))))))))))⟩
  | 1, _ => exact ⟨_, zeqi (zc_l (zc_r (zc_l (zc_l (zc_r (zc_l (zc_l (zc_l (zc_l (zc_l (zc_r hg)))))))))))⟩
  | 2, _ => exact ⟨_, zeqi (zc_r (zc_r (zc_l (zc_l (zc_r (zc_l (zc_l (zc_l (zc_l (zc_l (zc_r hg)))))))))))⟩
  | 3, _ => exact ⟨_, zeqi (zc_l (zc_r (zc_l (zc_r (zc_l (zc_l (zc_l (zc_l (zc_l (zc_r hg))))))))))⟩
  | 4, _ => exact ⟨_, zeqi (zc_l (zc_r (zc_r (zc_l (zc_r (zc_l (zc_l (zc_l (zc_l (zc_l (zc_r hg)))))))))))⟩
  | 5, _ => exact ⟨_, zeqi (zc_r (zc_r (zc_r (zc_l (zc_r (zc_l (zc_l (zc_l (zc_l (zc_l (zc_r hg)))))))))))⟩
  | 6, _ => exact ⟨_, zeqi (zc_l (zc_l (zc_r (zc_r (zc_l (zc_l (zc_l (zc_l (zc_l (zc_r hg))))))))))⟩
  | 7, _ => exact ⟨_, zeqi (zc_l (zc_r (zc_l (zc_r (zc_r (zc_l (zc_l (zc_l (zc_l (zc_l (zc_r hg)))))))))))⟩
  | 8, _ => exact ⟨_, zeqi (zc_r (zc_r (zc_l (zc_r (zc_r (zc_l (zc_l (zc_l (zc_l (zc_l (zc_r hg)))))))))))⟩
  | 9, _ => exact ⟨_, zeqi (zc_l (zc_l (zc_r (zc_r (zc_r (zc_l (zc_l (zc_l (zc_l (zc_l (zc_r hg)))))))))))⟩
  | 10, _ => exact ⟨_, zeqi (zc_r (zc_l (zc_r (zc_r (zc_r (zc_l (zc_l (zc_l (zc_l (zc_l (zc_r hg)))))))))))⟩
  | 11, _ => exact ⟨_, zeqi (zc_l (zc_r (zc_r (zc_r (zc_r (zc_l (zc_l (zc_l (zc_l (zc_l (zc_r hg)))))))))))⟩
  | 12, _ => exact ⟨_, zeqi (zc_r (zc_r (zc_r (zc_r (zc_r (zc_l (zc_l (zc_l (zc_l (zc_l (zc_r hg)))))))))))⟩
  | 13, _ => exact ⟨_, zeqi (zc_l (zc_l (zc_l (zc_l (zc_r (zc_l (zc_l (zc_l (zc_l (zc_r hg))))))))))⟩
  | 14, _ => exact ⟨_, zeqi (zc_l (zc_r (zc_l (zc_l (zc_l (zc_r (zc_l (zc_l (zc_l (zc_l (zc_r hg)))))))))))⟩
  | 15, _ => exact ⟨_, zeqi (zc_r (zc_r (zc_l (zc_l (zc_l (zc_r (zc_l (zc_l (zc_l (zc_l (zc_r hg)))))))))))⟩
  | 16, _ => exact ⟨_, zeqi (zc_l (zc_r (zc_l (zc_l (zc_r (zc_l (zc_l (zc_l (zc_l (zc_r hg))))))))))⟩
  | 17, _ => exact ⟨_, zeqi (zc_l (zc_r (zc_r (zc_l (zc_l (zc_r (zc_l (zc_l (zc_l (zc_l (zc_r hg)))))))))))⟩
  | 18, _ => exact ⟨_, zeqi (zc_r (zc_r (zc_r (zc_l (zc_l (zc_r (zc_l (zc_l (zc_l (zc_l (zc_r hg)))))))))))⟩
  | 19, _ => exact ⟨_, zeqi (zc_l (zc_l (zc_r (zc_l (zc_r (zc_l (zc_l (zc_l (zc_l (zc_r hg))))))))))⟩
  | 20, _ => exact ⟨_, zeqi (zc_l (zc_r (zc_l (zc_r (zc_l (zc_r (zc_l (zc_l (zc_l (zc_l (zc_r hg)))))))))))⟩
  | 21, _ => exact ⟨_, zeqi (zc_r (zc_r (zc_l (zc_r (zc_l (zc_r (zc_l (zc_l (zc_l (zc_l (zc_r hg)))))))))))⟩
  | 22, _ => exact ⟨_, zeqi (zc_l (zc_r (zc_r (zc_l (zc_r (zc_l (zc_l (zc_l (zc_l (zc_r hg))))))))))⟩
  | 23, _ => exact ⟨_, zeqi (zc_l (zc_r (zc_r (zc_r (zc_l (zc_r (zc_l (zc_l (zc_l (zc_l (zc_r hg)))))))))))⟩
  | 24, _ => exact ⟨_, zeqi (zc_r (zc_r (zc_r (zc_r (zc_l (zc_r (zc_l (zc_l (zc_l (zc_l (zc_r hg)))))))))))⟩
  | 25, _ => exact ⟨_, zeqi (zc_l (zc_l (zc_l (zc_r (zc_r (zc_l (zc_l (zc_l (zc_l (zc_r hg))))))))))⟩
  | 26, _ => exact ⟨_, zeqi (zc_l (zc_r (zc_l (zc_l (zc_r (zc_r (zc_l (zc_l (zc_l (zc_l (zc_r hg)))))))))))⟩
  | 27, _ => exact ⟨_, zeqi (zc_r (zc_r (zc_l (zc_l (zc_r (zc_r (zc_l (zc_l (zc_l (zc_l (zc_r hg)))))))))))⟩
  | 28, _ => exact ⟨_, zeqi (zc_l (zc_r (zc_l (zc_r (zc_r (zc_l (zc_l (zc_l (zc_l (zc_r hg))))))))))⟩
  | 29, _ => exact ⟨_, zeqi (zc_l (zc_r (zc_r (zc_l (zc_r (zc_r (zc_l (zc_l (zc_l (zc_l (zc_r hg)))))))))))⟩
  | 30, _ => exact ⟨_, zeqi (zc_r (zc_r (zc_r (zc_l (zc_r (zc_r (zc_l (zc_l (zc_l (zc_l (zc_r hg)))))))))))⟩
  | 31, _ => exact ⟨_, zeqi (zc_l (zc_l (zc_r (zc_r (zc_r (zc_l (zc_l (zc_l (zc_l (zc_r hg))))))))))⟩
  | 32, _ => exact ⟨_, zeqi (zc_l (zc_r (zc_l (zc_r (zc_r (zc_r (zc_l (zc_l (zc_l (zc_l (zc_r hg)))))))))))⟩
  | 33, _ => exact ⟨_, zeqi (zc_r (zc_r (zc_l (zc_r (zc_r (zc_r (zc_l (zc_l (zc_l (zc_l (zc_r hg)))))))))))⟩
  | 34, _ => exact ⟨_, zeqi (zc_l (zc_l (zc_r (zc_r (zc_r (zc_r (zc_l (zc_l (zc_l (zc_l (zc_r hg)))))))))))⟩
  | 35, _ => exact ⟨_, zeqi (zc_r (zc_l (zc_r (zc_r (zc_r (zc_r (zc_l (zc_l (zc_l (zc_l (zc_r hg)))))))))))⟩
  | 36, _ => exact ⟨_, zeqi (zc_l (zc_r (zc_r (zc_r (zc_r (zc_r (zc_l (zc_l (zc_l (zc_l (zc_r hg)))))))))))⟩
  | 37, _ => exact ⟨_, zeqi (zc_r (zc_r (zc_r (zc_r (zc_r (zc_r (zc_l (zc_l (zc_l (zc_l (zc_r hg)))))))))))⟩
  | 38, _ => exact ⟨_, zeqi (zc_l (zc_l (zc_l (zc_l (zc_l (zc_r (zc_l (zc_l (zc_l (zc_r hg))))))))))⟩
  | 39, _ => exact ⟨_, zeqi (zc_l (zc_r (zc_l (zc_l (zc_l (zc_l (zc_r (zc_l (zc_l (zc_l (zc_r hg)))))))))))⟩
  | 40, _ => exact ⟨_, zeqi (zc_r (zc_r (zc_l (zc_l (zc_l (zc_l (zc_r (zc_l (zc_l (zc_l (zc_r hg)))))))))))⟩
  | 41, _ => exact ⟨_, zeqi (zc_l (zc_r (zc_l (zc_l (zc_l (zc_r (zc_l (zc_l (zc_l (zc_r hg))))))))))⟩
  | 42, _ => exact ⟨_, zeqi (zc_l (zc_r (zc_r (zc_l (zc_l (zc_l (zc_r (zc_l (zc_l (zc_l (zc_r hg)))))))))))⟩
  | 43, _ => exact ⟨_, zeqi (zc_r (zc_r (zc_r (zc_l (zc_l (zc_l (zc_r (zc_l (zc_l (zc_l (zc_r hg)))))))))))⟩
  | 44, _ => exact ⟨_, zeqi (zc_l (zc_l (zc_r (zc_l (zc_l (zc_r (zc_l (zc_l (zc_l (zc_r hg))))))))))⟩
  | 45, _ => exact ⟨_, zeqi (zc_l (zc_r (zc_l (zc_r (zc_l (zc_l (zc_r (zc_l (zc_l (zc_l (zc_r hg)))))))))))⟩
  | 46, _ => exact ⟨_, zeqi (zc_r (zc_r (zc_l (zc_r (zc_l (zc_l (zc_r (zc_l (zc_l (zc_l (zc_r hg)))))))))))⟩
  | 47, _ => exact ⟨_, zeqi (zc_l (zc_r (zc_r (zc_l (zc_l (zc_r (zc_l (zc_l (zc_l (zc_r hg))))))))))⟩
  | 48, _ => exact ⟨_, zeqi (zc_l (zc_r (zc_r (zc_r (zc_l (zc_l (zc_r (zc_l (zc_l (zc_l (zc_r hg)))))))))))⟩
  | 49, _ => exact ⟨_, zeqi (zc_r (zc_r (zc_r (zc_r (zc_l (zc_l (zc_r (zc_l (zc_l (zc_l (zc_r hg)))))))))))⟩
  | 50, _ => exact ⟨_, zeqi (zc_l (zc_l (zc_l (zc_r (zc_l (zc_r (zc_l (zc_l (zc_l (zc_r hg))))))))))⟩
  | 51, _ => exact ⟨_, zeqi (zc_l (zc_r (zc_l (zc_l (zc_r (zc_l (zc_r (zc_l (zc_l (zc_l (zc_r hg)))))))))))⟩
  | 52, _ => exact ⟨_, zeqi (zc_r (zc_r (zc_l (zc_l (zc_r (zc_l (zc_r (zc_l (zc_l (zc_l (zc_r hg)))))))))))⟩
  | 53, _ => exact ⟨_, zeqi (zc_l (zc_r (zc_l (zc_r (zc_l (zc_r (zc_l (zc_l (zc_l (zc_r hg))))))))))⟩
  | 54, _ => exact ⟨_, zeqi (zc_l (zc_r (zc_r (zc_l (zc_r (zc_l (zc_r (zc_l (zc_l (zc_l (zc_r hg)))))))))))⟩
  | 55, _ => exact ⟨_, zeqi (zc_r (zc_r (zc_r (zc_l (zc_r (zc_l (zc_r (zc_l (zc_l (zc_l (zc_r hg)))))))))))⟩
  | 56, _ => exact ⟨_, zeqi (zc_l (zc_l (zc_r (zc_r (zc_l (zc_r (zc_l (zc_l (zc_l (zc_r hg))))))))))⟩
  | 57, _ => exact ⟨_, zeqi (zc_l (zc_r (zc_l (zc_r (zc_r (zc_l (zc_r (zc_l (zc_l (zc_l (zc_r hg)))))))))))⟩
  | 58, _ => exact ⟨_, zeqi (zc_r (zc_r (zc_l (zc_r (zc_r (zc_l (zc_r (zc_l (zc_l (zc_l (zc_r hg)))))))))))⟩
  | 59, _ => exact ⟨_, zeqi (zc_l (zc_l (zc_r (zc_r (zc_r (zc_l (zc_r (zc_l (zc_l (zc_l (zc_r hg)))))))))))⟩
  | 60, _ => exact ⟨_, zeqi (zc_r (zc_l (zc_r (zc_r (zc_r (zc_l (zc_r (zc_l (zc_l (zc_l (zc_r hg)))))))))))⟩
  | 61, _ => exact ⟨_, zeqi (zc_l (zc_r (zc_r (zc_r (zc_r (zc_l (zc_r (zc_l (zc_l (zc_l (zc_r hg)))))))))))⟩
  | 62, _ => exact ⟨_, zeqi (zc_r (zc_r (zc_r (zc_r (zc_r (zc_l (zc_r (zc_l (zc_l (zc_l (zc_r hg)))))))))))⟩
  | 63, _ => exact ⟨_, zeqi (zc_l (zc_l (zc_l (zc_l (zc_r (zc_r (zc_l (zc_l (zc_l (zc_r hg))))))))))⟩
  | 64, _ => exact ⟨_, zeqi (zc_l (zc_r (zc_l (zc_l (zc_l (zc_r (zc_r (zc_l (zc_l (zc_l (zc_r hg)))))))))))⟩
  | 65, _ => exact ⟨_, zeqi (zc_r (zc_r (zc_l (zc_l (zc_l (zc_r (zc_r (zc_l (zc_l (zc_l (zc_r hg)))))))))))⟩
  | 66, _ => exact ⟨_, zeqi (zc_l (zc_r (zc_l (zc_l (zc_r (zc_r (zc_l (zc_l (zc_l (zc_r hg))))))))))⟩
  | 67, _ => exact ⟨_, zeqi (zc_l (zc_r (zc_r (zc_l (zc_l (zc_r (zc_r (zc_l (zc_l (zc_l (zc_r hg)))))))))))⟩
  | 68, _ => exact ⟨_, zeqi (zc_r (zc_r (zc_r (zc_l (zc_l (zc_r (zc_r (zc_l (zc_l (zc_l (zc_r hg)))))))))))⟩
  | 69, _ => exact ⟨_, zeqi (zc_l (zc_l (zc_r (zc_l (zc_r (zc_r (zc_l (zc_l (zc_l (zc_r hg))))))))))⟩
  | 70, _ => exact ⟨_, zeqi (zc_l (zc_r (zc_l (zc_r (zc_l (zc_r (zc_r (zc_l (zc_l (zc_l (zc_r hg)))))))))))⟩
  | 71, _ => exact ⟨_, zeqi (zc_r (zc_r (zc_l (zc_r (zc_l (zc_r (zc_r (zc_l (zc_l (zc_l (zc_r hg)))))))))))⟩
  | 72, _ => exact ⟨_, zeqi (zc_l (zc_r (zc_r (zc_l (zc_r (zc_r (zc_l (zc_l (zc_l (zc_r hg))))))))))⟩
  | 73, _ => exact ⟨_, zeqi (zc_l (zc_r (zc_r (zc_r (zc_l (zc_r (zc_r (zc_l (zc_l (zc_l (zc_r hg)))))))))))⟩
  | 74, _ => exact ⟨_, zeqi (zc_r (zc_r (zc_r (zc_r (zc_l (zc_r (zc_r (zc_l (zc_l (zc_l (zc_r hg)))))))))))⟩
  | 75, _ => exact ⟨_, zeqi (zc_l (zc_l (zc_l (zc_r (zc_r (zc_r (zc_l (zc_l (zc_l (zc_r hg))))))))))⟩
  | 76, _ => exact ⟨_, zeqi (zc_l (zc_r (zc_l (zc_l (zc_r (zc_r (zc_r (zc_l (zc_l (zc_l (zc_r hg)))))))))))⟩
  | 77, _ => exact ⟨_, zeqi (zc_r (zc_r (zc_l (zc_l (zc_r (zc_r (zc_r (zc_l (zc_l (zc_l (zc_r hg)))))))))))⟩
  | 78, _ => exact ⟨_, zeqi (zc_l (zc_r (zc_l (zc_r (zc_r (zc_r (zc_l (zc_l (zc_l (zc_r hg))))))))))⟩
  | 79, _ => exact ⟨_, zeqi (zc_l (zc_r (zc_r (zc_l (zc_r (zc_r (zc_r (zc_l (zc_l (zc_l (zc_r hg)))))))))))⟩
  | 80, _ => exact ⟨_, zeqi (zc_r (zc_r (zc_r (zc_l (zc_r (zc_r (zc_r (zc_l (zc_l (zc_l (zc_r hg)))))))))))⟩
  | 81, _ => exact ⟨_, zeqi (zc_l (zc_l (zc_r (zc_r (zc_r (zc_r (zc_l (zc_l (zc_l (zc_r hg))))))))))⟩
  | 82, _ => exact ⟨_, zeqi (zc_l (zc_r (zc_l (zc_r (zc_r (zc_r (zc_r (zc_l (zc_l (zc_l (zc_r hg)))))))))))⟩
  | 83, _ => exact ⟨_, zeqi (zc_r (zc_r (zc_l (zc_r (zc_r (zc_r (zc_r (zc_l (zc_l (zc_l (zc_r hg)))))))))))⟩
  | 84, _ => exact ⟨_, zeqi (zc_l (zc_l (zc_r (zc_r (zc_r (zc_r (zc_r (zc_l (zc_l (zc_l (zc_r hg)))))))))))⟩
  | 85, _ => exact ⟨_, zeqi (zc_r (zc_l (zc_r (zc_r (zc_r (zc_r (zc_r (zc_l (zc_l (zc_l (zc_r hg)))))))))))⟩
  | 86, _ => exact ⟨_, zeqi (zc_l (zc_r (zc_r (zc_r (zc_r (zc_r (zc_r (zc_l (zc_l (zc_l (zc_r hg)))))))))))⟩
  | 87, _ => exact ⟨_, zeqi (zc_r (zc_r (zc_r (zc_r (zc_r (zc_r (zc_r (zc_l (zc_l (zc_l (zc_r hg)))))))))))⟩
  | 88, _ => exact ⟨_, zeqi (zc_l (zc_l (zc_l (zc_l (zc_l (zc_l (zc_r (zc_l (zc_l (zc_r hg))))))))))⟩
  | 89, _ => exact ⟨_, zeqi (zc_l (zc_r (zc_l (zc_l (zc_l (zc_l (zc_l (zc_r (zc_l (zc_l (zc_r hg)))))))))))⟩
  | 90, _ => exact ⟨_, zeqi (zc_r (zc_r (zc_l (zc_l (zc_l (zc_l (zc_l (zc_r (zc_l (zc_l (zc_r hg)))))))))))⟩
  | 91, _ => exact ⟨_, zeqi (zc_l (zc_r (zc_l (zc_l (zc_l (zc_l (zc_r (zc_l (zc_l (zc_r hg))))))))))⟩
  | 92, _ => exact ⟨_, zeqi (zc_l (zc_r (zc_r (zc_l (zc_l (zc_l (zc_l (zc_r (zc_l (zc_l (zc_r hg)))))))))))⟩
  | 93, _ => exact ⟨_, zeqi (zc_r (zc_r (zc_r (zc_l (zc_l (zc_l (zc_l (zc_r (zc_l (zc_l (zc_r hg)))))))))))⟩
  | 94, _ => exact ⟨_, zeqi (zc_l (zc_l (zc_r (zc_l (zc_l (zc_l (zc_r (zc_l (zc_l (zc_r hg))))))))))⟩
  | 95, _ => exact ⟨_, zeqi (zc_l (zc_r (zc_l (zc_r (zc_l (zc_l (zc_l (zc_r (zc_l (zc_l (zc_r hg)))))))))))⟩
  | 96, _ => exact ⟨_, zeqi (zc_r (zc_r (zc_l (zc_r (zc_l (zc_l (zc_l (zc_r (zc_l (zc_l (zc_r hg)))))))))))⟩
  | 97, _ => exact ⟨_, zeqi (zc_l (zc_r (zc_r (zc_l (zc_l (zc_l (zc_r (zc_l (zc_l (zc_r hg))))))))))⟩
  | 98, _ => exact ⟨_, zeqi (zc_l (zc_r (zc_r (zc_r (zc_l (zc_l (zc_l (zc_r (zc_l (zc_l (zc_r hg)))))))))))⟩
  | 99, _ => exact ⟨_, zeqi (zc_r (zc_r (zc_r (zc_r (zc_l (zc_l (zc_l (zc_r (zc_l (zc_l (zc_r hg)))))))))))⟩
  | j + 100, hj => exact absurd hj (by omega)
set_option maxRecDepth 10000 in
theorem zdig_2 {A : Array Value} {s : State} {v : Value} (hg : (Jvm.Cond.and given_1 narrow_1).before A s = true) (hv : ((Jvm.Term.static "java/lang/Integer" "DigitTens" "[B")).eval A s none [] s = some v) : ∃ (a : Nat) (cell : Cell) (D : List Int32), v = .ref a ∧ s.heap[a]? = some cell ∧ s.isArrayOf cell .byte ∧ cell.vm ≠ .unknown ∧ cell.slots.toList = D.map Value.int ∧ D.length = 100 := by
  refine zdig (zc_r (zc_r (zc_l (zc_l (zc_r (zc_l (zc_l (zc_r (zc_l (zc_l (zc_r hg))))))))))) (zc_l (zc_r (zc_l (zc_l (zc_r (zc_l (zc_l (zc_r (zc_l (zc_l (zc_r hg))))))))))) (fun j hj => ?_) hv
  match j, hj with
  | 0, _ => exact ⟨_, zeqi (zc_l (zc_r (zc_l (zc_r (zc_l (zc_l (zc_r (zc_l (zc_l (zc_r hg))))))))))⟩
  | 1, _ => exact ⟨_, zeqi (zc_l (zc_r (zc_r (zc_l (zc_r (zc_l (zc_l (zc_r (zc_l (zc_l (zc_r hg)))))))))))⟩
  | 2, _ => exact ⟨_, zeqi (zc_r (zc_r (zc_r (zc_l (zc_r (zc_l (zc_l (zc_r (zc_l (zc_l (zc_r hg)))))))))))⟩
  | 3, _ => exact ⟨_, zeqi (zc_l (zc_l (zc_r (zc_r (zc_l (zc_l (zc_r (zc_l (zc_l (zc_r hg))))))))))⟩
  | 4, _ => exact ⟨_, zeqi (zc_l (zc_r (zc_l (zc_r (zc_r (zc_l (zc_l (zc_r (zc_l (zc_l (zc_r hg)))))))))))⟩
  | 5, _ => exact ⟨_, zeqi (zc_r (zc_r (zc_l (zc_r (zc_r (zc_l (zc_l (zc_r (zc_l (zc_l (zc_r hg)))))))))))⟩
  | 6, _ => exact ⟨_, zeqi (zc_l (zc_l (zc_r (zc_r (zc_r (zc_l (zc_l (zc_r (zc_l (zc_l (zc_r hg)))))))))))⟩
  | 7, _ => exact ⟨_, zeqi (zc_r (zc_l (zc_r (zc_r (zc_r (zc_l (zc_l (zc_r (zc_l (zc_l (zc_r hg)))))))))))⟩
  | 8, _ => exact ⟨_, zeqi (zc_l (zc_r (zc_r (zc_r (zc_r (zc_l (zc_l (zc_r (zc_l (zc_l (zc_r hg)))))))))))⟩
  | 9, _ => exact ⟨_, zeqi (zc_r (zc_r (zc_r (zc_r (zc_r (zc_l (zc_l (zc_r (zc_l (zc_l (zc_r hg)))))))))))⟩
  | 10, _ => exact ⟨_, zeqi (zc_l (zc_l (zc_l (zc_l (zc_r (zc_l (zc_r (zc_l (zc_l (zc_r hg))))))))))⟩
  | 11, _ => exact ⟨_, zeqi (zc_l (zc_r (zc_l (zc_l (zc_l (zc_r (zc_l (zc_r (zc_l (zc_l (zc_r hg)))))))))))⟩
  | 12, _ => exact ⟨_, zeqi (zc_r (zc_r (zc_l (zc_l (zc_l (zc_r (zc_l (zc_r (zc_l (zc_l (zc_r hg)))))))))))⟩
  | 13, _ => exact ⟨_, zeqi (zc_l (zc_r (zc_l (zc_l (zc_r (zc_l (zc_r (zc_l (zc_l (zc_r hg))))))))))⟩
  | 14, _ => exact ⟨_, zeqi (zc_l (zc_r (zc_r (zc_l (zc_l (zc_r (zc_l (zc_r (zc_l (zc_l (zc_r hg)))))))))))⟩
  | 15, _ => exact ⟨_, zeqi (zc_r (zc_r (zc_r (zc_l (zc_l (zc_r (zc_l (zc_r (zc_l (zc_l (zc_r hg)))))))))))⟩
  | 16, _ => exact ⟨_, zeqi (zc_l (zc_l (zc_r (zc_l (zc_r (zc_l (zc_r (zc_l (zc_l (zc_r hg))))))))))⟩
  | 17, _ => exact ⟨_, zeqi (zc_l (zc_r (zc_l (zc_r (zc_l (zc_r (zc_l (zc_r (zc_l (zc_l (zc_r hg)))))))))))⟩
  | 18, _ => exact ⟨_, zeqi (zc_r (zc_r (zc_l (zc_r (zc_l (zc_r (zc_l (zc_r (zc_l (zc_l (zc_r hg)))))))))))⟩
  | 19, _ => exact ⟨_, zeqi (zc_l (zc_r (zc_r (zc_l (zc_r (zc_l (zc_r (zc_l (zc_l (zc_r hg))))))))))⟩
  | 20, _ => exact ⟨_, zeqi (zc_l (zc_r (zc_r (zc_r (zc_l (zc_r (zc_l (zc_r (zc_l (zc_l (zc_r hg)))))))))))⟩
  | 21, _ => exact ⟨_, zeqi (zc_r (zc_r (zc_r (zc_r (zc_l (zc_r (zc_l (zc_r (zc_l (zc_l (zc_r hg)))))))))))⟩
  | 22, _ => exact ⟨_, zeqi (zc_l (zc_l (zc_l (zc_r (zc_r (zc_l (zc_r (zc_l (zc_l (zc_r hg))))))))))⟩
  | 23, _ => exact ⟨_, zeqi (zc_l (zc_r (zc_l (zc_l (zc_r (zc_r (zc_l (zc_r (zc_l (zc_l (zc_r hg)))))))))))⟩
  | 24, _ => exact ⟨_, zeqi (zc_r (zc_r (zc_l (zc_l (zc_r (zc_r (zc_l (zc_r (zc_l (zc_l (zc_r hg)))))))))))⟩
  | 25, _ => exact ⟨_, zeqi (zc_l (zc_r (zc_l (zc_r (zc_r (zc_l (zc_r (zc_l (zc_l (zc_r hg))))))))))⟩
  | 26, _ => exact ⟨_, zeqi (zc_l (zc_r (zc_r (zc_l (zc_r (zc_r (zc_l (zc_r (zc_l (zc_l (zc_r hg)))))))))))⟩
  | 27, _ => exact ⟨_, zeqi (zc_r (zc_r (zc_r (zc_l (zc_r (zc_r (zc_l (zc_r (zc_l (zc_l (zc_r hg)))))))))))⟩
  | 28, _ => exact ⟨_, zeqi (zc_l (zc_l (zc_r (zc_r (zc_r (zc_l (zc_r (zc_l (zc_l (zc_r hg))))))))))⟩
  | 29, _ => exact ⟨_, zeqi (zc_l (zc_r (zc_l (zc_r (zc_r (zc_r (zc_l (zc_r (zc_l (zc_l (zc_r hg)))))))))))⟩
  | 30, _ => exact ⟨_, zeqi (zc_r (zc_r (zc_l (zc_r (zc_r (zc_r (zc_l (zc_r (zc_l (zc_l (zc_r hg)))))))))))⟩
  | 31, _ => exact ⟨_, zeqi (zc_l (zc_l (zc_r (zc_r (zc_r (zc_r (zc_l (zc_r (zc_l (zc_l (zc_r hg)))))))))))⟩
  | 32, _ => exact ⟨_, zeqi (zc_r (zc_l (zc_r (zc_r (zc_r (zc_r (zc_l (zc_r (zc_l (zc_l (zc_r hg)))))))))))⟩
  | 33, _ => exact ⟨_, zeqi (zc_l (zc_r (zc_r (zc_r (zc_r (zc_r (zc_l (zc_r (zc_l (zc_l (zc_r hg)))))))))))⟩
  | 34, _ => exact ⟨_, zeqi (zc_r (zc_r (zc_r (zc_r (zc_r (zc_r (zc_l (zc_r (zc_l (zc_l (zc_r hg)))))))))))⟩
  | 35, _ => exact ⟨_, zeqi (zc_l (zc_l (zc_l (zc_l (zc_l (zc_r (zc_r (zc_l (zc_l (zc_r hg))))))))))⟩
  | 36, _ => exact ⟨_, zeqi (zc_l (zc_r (zc_l (zc_l (zc_l (zc_l (zc_r (zc_r (zc_l (zc_l (zc_r hg)))))))))))⟩
  | 37, _ => exact ⟨_, zeqi (zc_r (zc_r (zc_l (zc_l (zc_l (zc_l (zc_r (zc_r (zc_l (zc_l (zc_r hg)))))))))))⟩
  | 38, _ => exact ⟨_, zeqi (zc_l (zc_r (zc_l (zc_l (zc_l (zc_r (zc_r (zc_l (zc_l (zc_r hg))))))))))⟩
  | 39, _ => exact ⟨_, zeqi (zc_l (zc_r (zc_r (zc_l (zc_l (zc_l (zc_r (zc_r (zc_l (zc_l (zc_r hg)))))))))))⟩
  | 40, _ => exact ⟨_, zeqi (zc_r (zc_r (zc_r (zc_l (zc_l (zc_l (zc_r (zc_r (zc_l (zc_l (zc_r hg)))))))))))⟩
  | 41, _ => exact ⟨_, zeqi (zc_l (zc_l (zc_r (zc_l (zc_l (zc_r (zc_r (zc_l (zc_l (zc_r hg))))))))))⟩
  | 42, _ => exact ⟨_, zeqi (zc_l (zc_r (zc_l (zc_r (zc_l (zc_l (zc_r (zc_r (zc_l (zc_l (zc_r hg)))))))))))⟩
  | 43, _ => exact ⟨_, zeqi (zc_r (zc_r (zc_l (zc_r (zc_l (zc_l (zc_r (zc_r (zc_l (zc_l (zc_r hg)))))))))))⟩
  | 44, _ => exact ⟨_, zeqi (zc_l (zc_r (zc_r (zc_l (zc_l (zc_r (zc_r (zc_l (zc_l (zc_r hg))))))))))⟩
  | 45, _ => exact ⟨_, zeqi (zc_l (zc_r (zc_r (zc_r (zc_l (zc_l (zc_r (zc_r (zc_l (zc_l (zc_r hg)))))))))))⟩
  | 46, _ => exact ⟨_, zeqi (zc_r (zc_r (zc_r (zc_r (zc_l (zc_l (zc_r (zc_r (zc_l (zc_l (zc_r hg)))))))))))⟩
  | 47, _ => exact ⟨_, zeqi (zc_l (zc_l (zc_l (zc_r (zc_l (zc_r (zc_r (zc_l (zc_l (zc_r hg))))))))))⟩
  | 48, _ => exact ⟨_, zeqi (zc_l (zc_r (zc_l (zc_l (zc_r (zc_l (zc_r (zc_r (zc_l (zc_l (zc_r hg)))))))))))⟩
  | 49, _ => exact ⟨_, zeqi (zc_r (zc_r (zc_l (zc_l (zc_r (zc_l (zc_r (zc_r (zc_l (zc_l (zc_r hg)))))))))))⟩
  | 50, _ => exact ⟨_, zeqi (zc_l (zc_r (zc_l (zc_r (zc_l (zc_r (zc_r (zc_l (zc_l (zc_r hg))))))))))⟩
  | 51, _ => exact ⟨_, zeqi (zc_l (zc_r (zc_r (zc_l (zc_r (zc_l (zc_r (zc_r (zc_l (zc_l (zc_r hg)))))))))))⟩
  | 52, _ => exact ⟨_, zeqi (zc_r (zc_r (zc_r (zc_l (zc_r (zc_l (zc_r (zc_r (zc_l (zc_l (zc_r hg)))))))))))⟩
  | 53, _ => exact ⟨_, zeqi (zc_l (zc_l (zc_r (zc_r (zc_l (zc_r (zc_r (zc_l (zc_l (zc_r hg))))))))))⟩
  | 54, _ => exact ⟨_, zeqi (zc_l (zc_r (zc_l (zc_r (zc_r (zc_l (zc_r (zc_r (zc_l (zc_l (zc_r hg)))))))))))⟩
  | 55, _ => exact ⟨_, zeqi (zc_r (zc_r (zc_l (zc_r (zc_r (zc_l (zc_r (zc_r (zc_l (zc_l (zc_r hg)))))))))))⟩
  | 56, _ => exact ⟨_, zeqi (zc_l (zc_l (zc_r (zc_r (zc_r (zc_l (zc_r (zc_r (zc_l (zc_l (zc_r hg)))))))))))⟩
  | 57, _ => exact ⟨_, zeqi (zc_r (zc_l (zc_r (zc_r (zc_r (zc_l (zc_r (zc_r (zc_l (zc_l (zc_r hg)))))))))))⟩
  | 58, _ => exact ⟨_, zeqi (zc_l (zc_r (zc_r (zc_r (zc_r (zc_l (zc_r (zc_r (zc_l (zc_l (zc_r hg)))))))))))⟩
  | 59, _ => exact ⟨_, zeqi (zc_r (zc_r (zc_r (zc_r (zc_r (zc_l (zc_r (zc_r (zc_l (zc_l (zc_r hg)))))))))))⟩
  | 60, _ => exact ⟨_, zeqi (zc_l (zc_l (zc_l (zc_l (zc_r (zc_r (zc_r (zc_l (zc_l (zc_r hg))))))))))⟩
  | 61, _ => exact ⟨_, zeqi (zc_l (zc_r (zc_l (zc_l (zc_l (zc_r (zc_r (zc_r (zc_l (zc_l (zc_r hg)))))))))))⟩
  | 62, _ => exact ⟨_, zeqi (zc_r (zc_r (zc_l (zc_l (zc_l (zc_r (zc_r (zc_r (zc_l (zc_l (zc_r hg)))))))))))⟩
  | 63, _ => exact ⟨_, zeqi (zc_l (zc_r (zc_l (zc_l (zc_r (zc_r (zc_r (zc_l (zc_l (zc_r hg))))))))))⟩
  | 64, _ => exact ⟨_, zeqi (zc_l (zc_r (zc_r (zc_l (zc_l (zc_r (zc_r (zc_r (zc_l (zc_l (zc_r hg)))))))))))⟩
  | 65, _ => exact ⟨_, zeqi (zc_r (zc_r (zc_r (zc_l (zc_l (zc_r (zc_r (zc_r (zc_l (zc_l (zc_r hg)))))))))))⟩
  | 66, _ => exact ⟨_, zeqi (zc_l (zc_l (zc_r (zc_l (zc_r (zc_r (zc_r (zc_l (zc_l (zc_r hg))))))))))⟩
  | 67, _ => exact ⟨_, zeqi (zc_l (zc_r (zc_l (zc_r (zc_l (zc_r (zc_r (zc_r (zc_l (zc_l (zc_r hg)))))))))))⟩
  | 68, _ => exact ⟨_, zeqi (zc_r (zc_r (zc_l (zc_r (zc_l (zc_r (zc_r (zc_r (zc_l (zc_l (zc_r hg)))))))))))⟩
  | 69, _ => exact ⟨_, zeqi (zc_l (zc_r (zc_r (zc_l (zc_r (zc_r (zc_r (zc_l (zc_l (zc_r hg))))))))))⟩
  | 70, _ => exact ⟨_, zeqi (zc_l (zc_r (zc_r (zc_r (zc_l (zc_r (zc_r (zc_r (zc_l (zc_l (zc_r hg)))))))))))⟩
  | 71, _ => exact ⟨_, zeqi (zc_r (zc_r (zc_r (zc_r (zc_l (zc_r (zc_r (zc_r (zc_l (zc_l (zc_r hg)))))))))))⟩
  | 72, _ => exact ⟨_, zeqi (zc_l (zc_l (zc_l (zc_r (zc_r (zc_r (zc_r (zc_l (zc_l (zc_r hg))))))))))⟩
  | 73, _ => exact ⟨_, zeqi (zc_l (zc_r (zc_l (zc_l (zc_r (zc_r (zc_r (zc_r (zc_l (zc_l (zc_r hg)))))))))))⟩
  | 74, _ => exact ⟨_, zeqi (zc_r (zc_r (zc_l (zc_l (zc_r (zc_r (zc_r (zc_r (zc_l (zc_l (zc_r hg)))))))))))⟩
  | 75, _ => exact ⟨_, zeqi (zc_l (zc_r (zc_l (zc_r (zc_r (zc_r (zc_r (zc_l (zc_l (zc_r hg))))))))))⟩
  | 76, _ => exact ⟨_, zeqi (zc_l (zc_r (zc_r (zc_l (zc_r (zc_r (zc_r (zc_r (zc_l (zc_l (zc_r hg)))))))))))⟩
  | 77, _ => exact ⟨_, zeqi (zc_r (zc_r (zc_r (zc_l (zc_r (zc_r (zc_r (zc_r (zc_l (zc_l (zc_r hg)))))))))))⟩
  | 78, _ => exact ⟨_, zeqi (zc_l (zc_l (zc_r (zc_r (zc_r (zc_r (zc_r (zc_l (zc_l (zc_r hg))))))))))⟩
  | 79, _ => exact ⟨_, zeqi (zc_l (zc_r (zc_l (zc_r (zc_r (zc_r (zc_r (zc_r (zc_l (zc_l (zc_r hg)))))))))))⟩
  | 80, _ => exact ⟨_, zeqi (zc_r (zc_r (zc_l (zc_r (zc_r (zc_r (zc_r (zc_r (zc_l (zc_l (zc_r hg)))))))))))⟩
  | 81, _ => exact ⟨_, zeqi (zc_l (zc_l (zc_r (zc_r (zc_r (zc_r (zc_r (zc_r (zc_l (zc_l (zc_r hg)))))))))))⟩
  | 82, _ => exact ⟨_, zeqi (zc_r (zc_l (zc_r (zc_r (zc_r (zc_r (zc_r (zc_r (zc_l (zc_l (zc_r hg)))))))))))⟩
  | 83, _ => exact ⟨_, zeqi (zc_l (zc_r (zc_r (zc_r (zc_r (zc_r (zc_r (zc_r (zc_l (zc_l (zc_r hg)))))))))))⟩
  | 84, _ => exact ⟨_, zeqi (zc_r (zc_r (zc_r (zc_r (zc_r (zc_r (zc_r (zc_r (zc_l (zc_l (zc_r hg)))))))))))⟩
  | 85, _ => exact ⟨_, zeqi (zc_l (zc_l (zc_l (zc_l (zc_l (zc_l (zc_l (zc_r (zc_l (zc_r hg))))))))))⟩
  | 86, _ => exact ⟨_, zeqi (zc_l (zc_r (zc_l (zc_l (zc_l (zc_l (zc_l (zc_l (zc_r (zc_l (zc_r hg)))))))))))⟩
  | 87, _ => exact ⟨_, zeqi (zc_r (zc_r (zc_l (zc_l (zc_l (zc_l (zc_l (zc_l (zc_r (zc_l (zc_r hg)))))))))))⟩
  | 88, _ => exact ⟨_, zeqi (zc_l (zc_r (zc_l (zc_l (zc_l (zc_l (zc_l (zc_r (zc_l (zc_r hg))))))))))⟩
  | 89, _ => exact ⟨_, zeqi (zc_l (zc_r (zc_r (zc_l (zc_l (zc_l (zc_l (zc_l (zc_r (zc_l (zc_r hg)))))))))))⟩
  | 90, _ => exact ⟨_, zeqi (zc_r (zc_r (zc_r (zc_l (zc_l (zc_l (zc_l (zc_l (zc_r (zc_l (zc_r hg)))))))))))⟩
  | 91, _ => exact ⟨_, zeqi (zc_l (zc_l (zc_r (zc_l (zc_l (zc_l (zc_l (zc_r (zc_l (zc_r hg))))))))))⟩
  | 92, _ => exact ⟨_, zeqi (zc_l (zc_r (zc_l (zc_r (zc_l (zc_l (zc_l (zc_l (zc_r (zc_l (zc_r hg)))))))))))⟩
  | 93, _ => exact ⟨_, zeqi (zc_r (zc_r (zc_l (zc_r (zc_l (zc_l (zc_l (zc_l (zc_r (zc_l (zc_r hg)))))))))))⟩
  | 94, _ => exact ⟨_, zeqi (zc_l (zc_r (zc_r (zc_l (zc_l (zc_l (zc_l (zc_r (zc_l (zc_r hg))))))))))⟩
  | 95, _ => exact ⟨_, zeqi (zc_l (zc_r (zc_r (zc_r (zc_l (zc_l (zc_l (zc_l (zc_r (zc_l (zc_r hg)))))))))))⟩
  | 96, _ => exact ⟨_, zeqi (zc_r (zc_r (zc_r (zc_r (zc_l (zc_l (zc_l (zc_l (zc_r (zc_l (zc_r hg)))))))))))⟩
  | 97, _ => exact ⟨_, zeqi (zc_l (zc_l (zc_l (zc_r (zc_l (zc_l (zc_l (zc_r (zc_l (zc_r hg))))))))))⟩
  | 98, _ => exact ⟨_, zeqi (zc_l (zc_r (zc_l (zc_l (zc_r (zc_l (zc_l (zc_l (zc_r (zc_l (zc_r hg)))))))))))⟩
  | 99, _ => exact ⟨_, zeqi (zc_r (zc_r (zc_l (zc_l (zc_r (zc_l (zc_l (zc_l (zc_r (zc_l (zc_r hg)))))))))))⟩
  | j + 100, hj => exact absurd hj (by omega)
theorem z_stat2 {A : Array Value} {s : State} (ht : ∀ w ∈ tables_1, w.before A s = true) (hg : (Jvm.Cond.and given_1 narrow_1).before A s = true) : ∃ sv : Nat → Value, sv 0 = .int 1 ∧ zty 4 (sv 3) = true ∧ ((Jvm.Term.static "java/lang/Integer" "DigitOnes" "[B")).eval A s none [] s = some (sv 1) ∧ ((Jvm.Term.static "java/lang/Integer" "DigitTens" "[B")).eval A s none [] s = some (sv 2) ∧ ∀ i, i < 4 → va_Z (zss i).1 (zss i).2.1 (zss i).2.2 (sv i) (fun q => s.heap.size ≤ q) s s.heap := by
  have hA : ∀ a : Nat, a < s.heap.size → ¬ (fun q => s.heap.size ≤ q) a := fun a h => Nat.not_le.mpr h
  have h0 := va_Zof (A := fun q => s.heap.size ≤ q) (ht (Cond.laysStatic "java/lang/String" "COMPACT_STRINGS" "Z") (zt_1 (List.mem_of_getElem? (i := 54) rfl))) (ht (Cond.initialized "java/lang/String") (zt_1 (List.mem_of_getElem? (i := 4) rfl))) (va_eqi (zc_r (zc_r (zc_l (zc_l (zc_l (zc_l (zc_l (zc_l (zc_l (zc_l (zc_r hg)))))))))))) hA
  obtain ⟨v1, e1⟩ := z_ev (zc_l (zc_r (zc_r (zc_r (zc_l (zc_l (zc_l (zc_l (zc_l (zc_l (zc_r hg)))))))))))
  have h1 := va_Zof (A := fun q => s.heap.size ≤ q) (ht (Cond.laysStatic "java/lang/Integer" "DigitOnes" "[B") (zt_6 (List.mem_of_getElem? (i := 160) rfl))) (ht (Cond.initialized "java/lang/Integer") (zt_1 (List.mem_of_getElem? (i := 27) rfl))) e1 hA
  obtain ⟨v2, e2⟩ := z_ev (zc_l (zc_r (zc_l (zc_l (zc_r (zc_l (zc_l (zc_r (zc_l (zc_l (zc_r hg)))))))))))
  have h2 := va_Zof (A := fun q => s.heap.size ≤ q) (ht (Cond.laysStatic "java/lang/Integer" "DigitTens" "[B") (zt_6 (List.mem_of_getElem? (i := 162) rfl))) (ht (Cond.initialized "java/lang/Integer") (zt_1 (List.mem_of_getElem? (i := 27) rfl))) e2 hA
  have h3 := va_Zqof (A := fun q => s.heap.size ≤ q) (ht (Cond.laysStatic "jdk/internal/util/Preconditions" "SIOOBE_FORMATTER" "Ljava/util/function/BiFunction;") (zt_6 (List.mem_of_getElem? (i := 90) rfl))) (ht (Cond.initialized "jdk/internal/util/Preconditions") (zt_1 (List.mem_of_getElem? (i := 33) rfl))) (zc_r (zc_r (zc_r (zc_l (zc_l (zc_l (zc_l (zc_l (zc_l (zc_l (zc_r hg))))))))))) hA
  obtain ⟨v3, e3, h3⟩ : ∃ v, zty 4 v = true ∧ va_Z (zss 3).1 (zss 3).2.1 (zss 3).2.2 v (fun q => s.heap.size ≤ q) s s.heap := by
    rcases h3 with h3 | ⟨t, h3⟩
    · exact ⟨.null, rfl, h3⟩
    · exact ⟨.ref t, rfl, h3⟩
  refine ⟨fun i => match i with | 0 => .int 1 | 1 => v1 | 2 => v2 | _ => v3, rfl, e3, e1, e2, fun i hi => ?_⟩
  rcases (show i = 0 ∨ i = 1 ∨ i = 2 ∨ i = 3 by omega) with rfl | rfl | rfl | rfl
  · exact h0
  · exact h1
  · exact h2
  · exact h3
/-- the heap at the law's entry: the script and the two digit arrays are known -/
def zh1 (n0 b : Nat) (xs : List Int32) (a1 : Nat) (D1 : List Int32) (a2 : Nat) (D2 : List Int32) : zH := (fun q => if q = b then (28, xs.map Value.int) else if q = a1 then (27, D1.map Value.int) else if q = a2 then (27, D2.map Value.int) else (0, []), n0, 0)
/-- what is owed of the interpreter, with the digit arrays -/
def zOK2 : Prop := ∀ (sv : Nat → Value) (n0 b a1 a2 : Nat) (xs D1 D2 : List Int32), sv 0 = .int 1 → zty 4 (sv 3) = true → sv 1 = .ref a1 → sv 2 = .ref a2 → b < n0 → a1 < n0 → a2 < n0 → a1 ≠ b → a2 ≠ b → D1.length = 100 → D2.length = 100 → xs.length ≤ 2048 → ∃ (d : Nat) (h : zH), d ≤ 900 ∧ zcall zP sv d 299 [.ref b] (zh1 n0 b xs a1 D1 a2 D2) = some (.inl (some (.int 1)), h) ∧ h.2.1 - n0 ≤ 948316 ∧ h.2.2 ≤ 6138517
