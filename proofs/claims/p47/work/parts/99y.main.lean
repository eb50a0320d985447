/-! The start with the two digit arrays. Printed by wip/gen/gen.py. -/
theorem zeqi {args : Array Value} {s : State} {t : Term} {z : Int32} (h : (Cond.eq t (.int z)).before args s = true) : t.eval args s none [] s = some (.int z) := by
  cases hv : t.eval args s none [] s with
  | none => simp [Cond.before, Cond.holds, Cond.value, hv] at h
  | some w =>
    have hz : (Term.int z).eval args s none [] s = some (.int z) := rfl
    simp only [Cond.before, Cond.holds, Cond.value, hv, hz] at h
    cases w <;> simp_all
def zdv : Option Value → Int32
  | some (Value.int z) => z
  | _ => 0
theorem zdig {args : Array Value} {s : State} {t : Term} {v : Value} (hl : (Cond.eq (.length t) (.int 100)).before args s = true) (ha : (Cond.arrayOf t .byte).before args s = true) (he : ∀ j, j < 100 → ∃ z : Int32, (Term.elem t (.int j.toInt32)).eval args s none [] s = some (.int z)) (hv : t.eval args s none [] s = some v) : ∃ (a : Nat) (cell : Cell) (D : List Int32), v = .ref a ∧ s.heap[a]? = some cell ∧ s.isArrayOf cell .byte ∧ cell.vm ≠ .unknown ∧ cell.slots.toList = D.map Value.int ∧ D.length = 100 := by
  have hv2 := zeqi hl
  obtain ⟨b, cell, ht, harr, -⟩ := Term.length_spec hv2
  cases Option.some.inj (hv.symm.trans ht)
  obtain ⟨hcell, hkn, -, -⟩ := State.arrayAt?_spec harr
  have hof := (Cond.arrayOf_spec ha ht hcell).1
  have hsz : cell.slots.size = 100 := by
    simp only [Term.eval, ht, harr, Option.bind_eq_bind, Option.bind_some] at hv2
    by_cases hlt : cell.slots.size < 2 ^ 31
    · rw [if_pos hlt] at hv2
      injection hv2 with q
      injection q with q
      have q2 : nI cell.slots.size = nI 100 := q
      have q3 := congrArg Int32.toInt q2
      rw [nI_toInt hlt, nI_toInt (by decide)] at q3
      omega
    · rw [if_neg hlt] at hv2
      cases hv2
  have hint : ∀ j, j < 100 → ∃ z : Int32, cell.slots.toList[j]? = some (.int z) := by
    intro j hj
    obtain ⟨z, hz⟩ := he j hj
    simp only [Term.eval, ht, harr, Option.bind_eq_bind, Option.bind_some] at hz
    have e1 : ¬ j.toInt32 < 0 := nI_pos (show j < 2 ^ 31 by omega)
    have e2 : (j.toInt32).toNatClampNeg = j := nI_clamp (show j < 2 ^ 31 by omega)
    rw [if_neg e1, e2] at hz
    exact ⟨z, by rw [Array.getElem?_toList]; exact hz⟩
  refine ⟨b, cell, (List.range 100).map (fun j => zdv cell.slots.toList[j]?), rfl, hcell, hof, hkn, ?_, by simp⟩
  apply List.ext_getElem?
  intro j
  by_cases hj : j < 100
  · obtain ⟨z, hz⟩ := hint j hj
    rw [hz, List.getElem?_map, List.getElem?_map, List.getElem?_range hj]
    show _ = some (Value.int (zdv cell.slots.toList[j]?))
    rw [hz]
    rfl
  · rw [List.getElem?_eq_none (by rw [Array.length_toList]; omega), List.getElem?_eq_none (by simp; omega)]
set_option maxRecDepth 10000 in
theorem zdig_1 {A : Array Value} {s : State} {v : Value} (hg : (Jvm.Cond.and given_1 narrow_1).before A s = true) (hv : ((Jvm.Term.static "java/lang/Integer" "DigitOnes" "[B")).eval A s none [] s = some v) : ∃ (a : Nat) (cell : Cell) (D : List Int32), v = .ref a ∧ s.heap[a]? = some cell ∧ s.isArrayOf cell .byte ∧ cell.vm ≠ .unknown ∧ cell.slots.toList = D.map Value.int ∧ D.length = 100 := by
  refine zdig (zc_r (zc_r (zc_r (zc_r (zc_l (zc_l (zc_l (zc_l (zc_l (zc_l (zc_r hg))))))))))) (zc_l (zc_r (zc_r (zc_r (zc_l (zc_l (zc_l (zc_l (zc_l (zc_l (zc_r hg))))))))))) (fun j hj => ?_) hv
  match j, hj with
  | 0, _ => exact ⟨_, zeqi (zc_l (zc_l (zc_l (zc_r (zc_l (zc_l (zc_l (zc_l (zc_l (zc_r hg))))))))))⟩
  | 1, _ => exact ⟨_, zeqi (zc_l (zc_r (zc_l (zc_l (zc_r (zc_l (zc_l (zc_l (zc_l (zc_l (zc_r hg)))))))))))⟩
  | 2, _ => exact ⟨_, zeqi (zc_r (zc_r (zc_l (zc_l (zc_r (zc_l (zc_l (zc_l (zc_l (zc_l (zc_r hg)))))))))))⟩
  | 3, _ => exact ⟨_, zeqi (zc_l (zc_r (zc_l (zc_r (zc_l (zc_l (zc_l (zc_l (zc_l (zc_r hg))))))))))⟩
  | 4, _ => exact ⟨_, zeqi (zc_l (zc_r (zc_r (zc_l (zc_r (zc_l (zc_l (zc_l (zc_l (zc_l (zc_r hg)))))))))))⟩
  | 5, _ => exact ⟨_, zeqi (zc_r (zc_r (zc_r (zc_l (zc_r (zc_l (zc_l (zc_l (zc_l (zc_l (zc_r hg)))))))))))⟩
  | 6, _ => exact ⟨_, zeqi (zc_l (zc_l (zc_r (zc_r (zc_l (zc_l (zc_l (zc_l (zc_l (zc_r hg))))))))))⟩
  | 7, _ => exact ⟨_, zeqi (zc_l (zc_r (zc_l (zc_r (zc_r (zc_l (zc_l (zc_l (zc_l (zc_l (zc_r hg)))))))))))⟩
  | 8, _ => exact ⟨_, zeqi (zc_r (zc_r (zc_l (zc_r (zc_r (zc_l (zc_l (zc_l (zc_l (zc_l (zc_r hg)))))))))))⟩
  | 9, _ => exact ⟨_, zeqi (zc_l (zc_l (zc_r (zc_r (zc_r (zc_l (zc_l (zc_l (zc_l (zc_l (zc_r hg)))))))))))⟩
  | 10, _ => exact ⟨_, zeqi (zc_r (zc_l (zc_r (zc_r (zc_r (zc_l (zc_l (zc_l (zc_l (zc_l (zc_r hg)))))))))))⟩
  | 11, _ => exact ⟨_, zeqi (zc_l (zc_r (zc_r (zc_r (zc_r (zc_l (zc_l (zc_l (zc_l (zc_l (zc_r hg)))))))))))⟩
  | 12, _ => exact ⟨_, zeqi (zc_r (zc_r (zc_r (zc_r (zc_r (zc_l (zc_l (zc_l (zc_l (zc_l (zc_r hg)))))))))))⟩
  | 13, _ => exact ⟨_, zeqi (zc_l (zc_l (zc_l (zc_l (zc_r (zc_l (zc_l (zc_l (zc_l (zc_r hg))))))))))⟩
  | 14, _ => exact ⟨_, zeqi (zc_l (zc_r (zc_l (zc_l (zc_l (zc_r (zc_l (zc_l (zc_l (zc_l (zc_r hg)))))))))))⟩
  | 15, _ => exact ⟨_, zeqi (zc_r (zc_r (zc_l (zc_l (zc_l (zc_r (zc_l (zc_l (zc_l (zc_l (zc_r hg)))))))))))⟩
  | 16, _ => exact ⟨_, zeqi (zc_l (zc_r (zc_l (zc_l (zc_r (zc_l (zc_l (zc_l (zc_l (zc_r hg))))))))))⟩
  | 17, _ => exact ⟨_, zeqi (zc_l (zc_r (zc_r (zc_l (zc_l (zc_r (zc_l (zc_l (zc_l (zc_l (zc_r hg)))))))))))⟩
  | 18, _ => exact ⟨_, zeqi (zc_r (zc_r (zc_r (zc_l (zc_l (zc_r (zc_l (zc_l (zc_l (zc_l (zc_r hg)))))))))))⟩
  | 19, _ => exact ⟨_, zeqi (zc_l (zc_l (zc_r (zc_l (zc_r (zc_l (zc_l (zc_l (zc_l (zc_r hg))))))))))⟩
  | 20, _ => exact ⟨_, zeqi (zc_l (zc_r (zc_l (zc_r (zc_l (zc_r (zc_l (zc_l (zc_l (zc_l (zc_r hg)))))))))))⟩
  | 21, _ => exact ⟨_, zeqi (zc_r (zc_r (zc_l (zc_r (zc_l (zc_r (zc_l (zc_l (zc_l (zc_l (zc_r hg)))))))))))⟩
  | 22, _ => exact ⟨_, zeqi (zc_l (zc_r (zc_r (zc_l (zc_r (zc_l (zc_l (zc_l (zc_l (zc_r hg))))))))))⟩
  | 23, _ => exact ⟨_, zeqi (zc_l (zc_r (zc_r (zc_r (zc_l (zc_r (zc_l (zc_l (zc_l (zc_l (zc_r hg)))))))))))⟩
  | 24, _ => exact ⟨_, zeqi (zc_r (zc_r (zc_r (zc_r (zc_l (zc_r (zc_l (zc_l (zc_l (zc_l (zc_r hg)))))))))))⟩
  | 25, _ => exact ⟨_, zeqi (zc_l (zc_l (zc_l (zc_r (zc_r (zc_l (zc_l (zc_l (zc_l (zc_r hg))))))))))⟩
  | 26, _ => exact ⟨_, zeqi (zc_l (zc_r (zc_l (zc_l (zc_r (zc_r (zc_l (zc_l (zc_l (zc_l (zc_r hg)))))))))))⟩
  | 27, _ => exact ⟨_, zeqi (zc_r (zc_r (zc_l (zc_l (zc_r (zc_r (zc_l (zc_l (zc_l (zc_l (zc_r hg)))))))))))⟩
  | 28, _ => exact ⟨_, zeqi (zc_l (zc_r (zc_l (zc_r (zc_r (zc_l (zc_l (zc_l (zc_l (zc_r hg))))))))))⟩
  | 29, _ => exact ⟨_, zeqi (zc_l (zc_r (zc_r (zc_l (zc_r (zc_r (zc_l (zc_l (zc_l (zc_l (zc_r hg)))))))))))⟩
  | 30, _ => exact ⟨_, zeqi (zc_r (zc_r (zc_r (zc_l (zc_r (zc_r (zc_l (zc_l (zc_l (zc_l (zc_r hg)))))))))))⟩
  | 31, _ => exact ⟨_, zeqi (zc_l (zc_l (zc_r (zc_r (zc_r (zc_l (zc_l (zc_l (zc_l (zc_r hg))))))))))⟩
  | 32, _ => exact ⟨_, zeqi (zc_l (zc_r (zc_l (zc_r (zc_r (zc_r (zc_l (zc_l (zc_l (zc_l (zc_r hg)))))))))))⟩
  | 33, _ => exact ⟨_, zeqi (zc_r (zc_r (zc_l (zc_r (zc_r (zc_r (zc_l (zc_l (zc_l (zc_l (zc_r hg)))))))))))⟩
  | 34, _ => exact ⟨_, zeqi (zc_l (zc_l (zc_r (zc_r (zc_r (zc_r (zc_l (zc_l (zc_l (zc_l (zc_r hg)))))))))))⟩
  | 35, _ => exact ⟨_, zeqi (zc_r (zc_l (zc_r (zc_r (zc_r (zc_r (zc_l (zc_l (zc_l (zc_l (zc_r hg)))))))))))⟩
  | 36, _ => exact ⟨_, zeqi (zc_l (zc_r (zc_r (zc_r (zc_r (zc_r (zc_l (zc_l (zc_l (zc_l (zc_r hg)))))))))))⟩
  | 37, _ => exact ⟨_, zeqi (zc_r (zc_r (zc_r (zc_r (zc_r (zc_r (zc_l (zc_l (zc_l (zc_l (zc_r hg)))))))))))⟩
  | 38, _ => exact ⟨_, zeqi (zc_l (zc_l (zc_l (zc_l (zc_l (zc_r (zc_l (zc_l (zc_l (zc_r hg))))))))))⟩
  | 39, _ => exact ⟨_, zeqi (zc_l (zc_r (zc_l (zc_l (zc_l (zc_l (zc_r (zc_l (zc_l (zc_l (zc_r hg)))))))))))⟩
  | 40, _ => exact ⟨_, zeqi (zc_r (zc_r (zc_l (zc_l (zc_l (zc_l (zc_r (zc_l (zc_l (zc_l (zc_r hg)))))))))))⟩
  | 41, _ => exact ⟨_, zeqi (zc_l (zc_r (zc_l (zc_l (zc_l (zc_r (zc_l (zc_l (zc_l (zc_r hg))))))))))⟩
  | 42, _ => exact ⟨_, zeqi (zc_l (zc_r (zc_r (zc_l (zc_l (zc_l (zc_r (zc_l (zc_l (zc_l (zc_r hg)))))))))))⟩
  | 43, _ => exact ⟨_, zeqi (zc_r (zc_r (zc_r (zc_l (zc_l (zc_l (zc_r (zc_l (zc_l (zc_l (zc_r hg)))))))))))⟩
  | 44, _ => exact ⟨_, zeqi (zc_l (zc_l (zc_r (zc_l (zc_l (zc_r (zc_l (zc_l (zc_l (zc_r hg))))))))))⟩
  | 45, _ => exact ⟨_, zeqi (zc_l (zc_r (zc_l (zc_r (zc_l (zc_l (zc_r (zc_l (zc_l (zc_l (zc_r hg)))))))))))⟩
  | 46, _ => exact ⟨_, zeqi (zc_r (zc_r (zc_l (zc_r (zc_l (zc_l (zc_r (zc_l (zc_l (zc_l (zc_r hg)))))))))))⟩
  | 47, _ => exact ⟨_, zeqi (zc_l (zc_r (zc_r (zc_l (zc_l (zc_r (zc_l (zc_l (zc_l (zc_r hg))))))))))⟩
  | 48, _ => exact ⟨_, zeqi (zc_l (zc_r (zc_r (zc_r (zc_l (zc_l (zc_r (zc_l (zc_l (zc_l (zc_r hg)))))))))))⟩
  | 49, _ => exact ⟨_, zeqi (zc_r (zc_r (zc_r (zc_r (zc_l (zc_l (zc_r (zc_l (zc_l (zc_l (zc_r hg)))))))))))⟩
  | 50, _ => exact ⟨_, zeqi (zc_l (zc_l (zc_l (zc_r (zc_l (zc_r (zc_l (zc_l (zc_l (zc_r hg))))))))))⟩
  | 51, _ => exact ⟨_, zeqi (zc_l (zc_r (zc_l (zc_l (zc_r (zc_l (zc_r (zc_l (zc_l (zc_l (zc_r hg)))))))))))⟩
  | 52, _ => exact ⟨_, zeqi (zc_r (zc_r (zc_l (zc_l (zc_r (zc_l (zc_r (zc_l (zc_l (zc_l (zc_r hg)))))))))))⟩
  | 53, _ => exact ⟨_, zeqi (zc_l (zc_r (zc_l (zc_r (zc_l (zc_r (zc_l (zc_l (zc_l (zc_r hg))))))))))⟩
  | 54, _ => exact ⟨_, zeqi (zc_l (zc_r (zc_r (zc_l (zc_r (zc_l (zc_r (zc_l (zc_l (zc_l (zc_r hg)))))))))))⟩
  | 55, _ => exact ⟨_, zeqi (zc_r (zc_r (zc_r (zc_l (zc_r (zc_l (zc_r (zc_l (zc_l (zc_l (zc_r hg)))))))))))⟩
  | 56, _ => exact ⟨_, zeqi (zc_l (zc_l (zc_r (zc_r (zc_l (zc_r (zc_l (zc_l (zc_l (zc_r hg))))))))))⟩
  | 57, _ => exact ⟨_, zeqi (zc_l (zc_r (zc_l (zc_r (zc_r (zc_l (zc_r (zc_l (zc_l (zc_l (zc_r hg)))))))))))⟩
  | 58, _ => exact ⟨_, zeqi (zc_r (zc_r (zc_l (zc_r (zc_r (zc_l (zc_r (zc_l (zc_l (zc_l (zc_r hg)))))))))))⟩
  | 59, _ => exact ⟨_, zeqi (zc_l (zc_l (zc_r (zc_r (zc_r (zc_l (zc_r (zc_l (zc_l (zc_l (zc_r hg)))))))))))⟩
  | 60, _ => exact ⟨_, zeqi (zc_r (zc_l (zc_r (zc_r (zc_r (zc_l (zc_r (zc_l (zc_l (zc_l (zc_r hg)))))))))))⟩
  | 61, _ => exact ⟨_, zeqi (zc_l (zc_r (zc_r (zc_r (zc_r (zc_l (zc_r (zc_l (zc_l (zc_l (zc_r hg)))))))))))⟩
  | 62, _ => exact ⟨_, zeqi (zc_r (zc_r (zc_r (zc_r (zc_r (zc_l (zc_r (zc_l (zc_l (zc_l (zc_r hg)))))))))))⟩
  | 63, _ => exact ⟨_, zeqi (zc_l (zc_l (zc_l (zc_l (zc_r (zc_r (zc_l (zc_l (zc_l (zc_r hg))))))))))⟩
  | 64, _ => exact ⟨_, zeqi (zc_l (zc_r (zc_l (zc_l (zc_l (zc_r (zc_r (zc_l (zc_l (zc_l (zc_r hg)))))))))))⟩
  | 65, _ => exact ⟨_, zeqi (zc_r (zc_r (zc_l (zc_l (zc_l (zc_r (zc_r (zc_l (zc_l (zc_l (zc_r hg)))))))))))⟩
  | 66, _ => exact ⟨_, zeqi (zc_l (zc_r (zc_l (zc_l (zc_r (zc_r (zc_l (zc_l (zc_l (zc_r hg))))))))))⟩
  | 67, _ => exact ⟨_, zeqi (zc_l (zc_r (zc_r (zc_l (zc_l (zc_r (zc_r (zc_l (zc_l (zc_l (zc_r hg)))))))))))⟩
  | 68, _ => exact ⟨_, zeqi (zc_r (zc_r (zc_r (zc_l (zc_l (zc_r (zc_r (zc_l (zc_l (zc_l (zc_r hg)))))))))))⟩
  | 69, _ => exact ⟨_, zeqi (zc_l (zc_l (zc_r (zc_l (zc_r (zc_r (zc_l (zc_l (zc_l (zc_r hg))))))))))⟩
  | 70, _ => exact ⟨_, zeqi (zc_l (zc_r (zc_l (zc_r (zc_l (zc_r (zc_r (zc_l (zc_l (zc_l (zc_r hg)))))))))))⟩
  | 71, _ => exact ⟨_, zeqi (zc_r (zc_r (zc_l (zc_r (zc_l (zc_r (zc_r (zc_l (zc_l (zc_l (zc_r hg)))))))))))⟩
  | 72, _ => exact ⟨_, zeqi (zc_l (zc_r (zc_r (zc_l (zc_r (zc_r (zc_l (zc_l (zc_l (zc_r hg))))))))))⟩
  | 73, _ => exact ⟨_, zeqi (zc_l (zc_r (zc_r (zc_r (zc_l (zc_r (zc_r (zc_l (zc_l (zc_l (zc_r hg)))))))))))⟩
  | 74, _ => exact ⟨_, zeqi (zc_r (zc_r (zc_r (zc_r (zc_l (zc_r (zc_r (zc_l (zc_l (zc_l (zc_r hg)))))))))))⟩
  | 75, _ => exact ⟨_, zeqi (zc_l (zc_l (zc_l (zc_r (zc_r (zc_r (zc_l (zc_l (zc_l (zc_r hg))))))))))⟩
  | 76, _ => exact ⟨_, zeqi (zc_l (zc_r (zc_l (zc_l (zc_r (zc_r (zc_r (zc_l (zc_l (zc_l (zc_r hg)))))))))))⟩
  | 77, _ => exact ⟨_, zeqi (zc_r (zc_r (zc_l (zc_l (zc_r (zc_r (zc_r (zc_l (zc_l (zc_l (zc_r hg)))))))))))⟩
  | 78, _ => exact ⟨_, zeqi (zc_l (zc_r (zc_l (zc_r (zc_r (zc_r (zc_l (zc_l (zc_l (zc_r hg))))))))))⟩
  | 79, _ => exact ⟨_, zeqi (zc_l (zc_r (zc_r (zc_l (zc_r (zc_r (zc_r (zc_l (zc_l (zc_l (zc_r hg)))))))))))⟩
  | 80, _ => exact ⟨_, zeqi (zc_r (zc_r (zc_r (zc_l (zc_r (zc_r (zc_r (zc_l (zc_l (zc_l (zc_r hg)))))))))))⟩
  | 81, _ => exact ⟨_, zeqi (zc_l (zc_l (zc_r (zc_r (zc_r (zc_r (zc_l (zc_l (zc_l (zc_r hg))))))))))⟩
  | 82, _ => exact ⟨_, zeqi (zc_l (zc_r (zc_l (zc_r (zc_r (zc_r (zc_r (zc_l (zc_l (zc_l (zc_r hg)))))))))))⟩
  | 83, _ => exact ⟨_, zeqi (zc_r (zc_r (zc_l (zc_r (zc_r (zc_r (zc_r (zc_l (zc_l (zc_l (zc_r hg)))))))))))⟩
  | 84, _ => exact ⟨_, zeqi (zc_l (zc_l (zc_r (zc_r (zc_r (zc_r (zc_r (zc_l (zc_l (zc_l (zc_r hg)))))))))))⟩
  | 85, _ => exact ⟨_, zeqi (zc_r (zc_l (zc_r (zc_r (zc_r (zc_r (zc_r (zc_l (zc_l (zc_l (zc_r hg)))))))))))⟩
  | 86, _ => exact ⟨_, zeqi (zc_l (zc_r (zc_r (zc_r (zc_r (zc_r (zc_r (zc_l (zc_l (zc_l (zc_r hg)))))))))))⟩
  | 87, _ => exact ⟨_, zeqi (zc_r (zc_r (zc_r (zc_r (zc_r (zc_r (zc_r (zc_l (zc_l (zc_l (zc_r hg)))))))))))⟩
  | 88, _ => exact ⟨_, zeqi (zc_l (zc_l (zc_l (zc_l (zc_l (zc_l (zc_r (zc_l (zc_l (zc_r hg))))))))))⟩
  | 89, _ => exact ⟨_, zeqi (zc_l (zc_r (zc_l (zc_l (zc_l (zc_l (zc_l (zc_r (zc_l (zc_l (zc_r hg)))))))))))⟩
  | 90, _ => exact ⟨_, zeqi (zc_r (zc_r (zc_l (zc_l (zc_l (zc_l (zc_l (zc_r (zc_l (zc_l (zc_r hg)))))))))))⟩
  | 91, _ => exact ⟨_, zeqi (zc_l (zc_r (zc_l (zc_l (zc_l (zc_l (zc_r (zc_l (zc_l (zc_r hg))))))))))⟩
  | 92, _ => exact ⟨_, zeqi (zc_l (zc_r (zc_r (zc_l (zc_l (zc_l (zc_l (zc_r (zc_l (zc_l (zc_r hg)))))))))))⟩
  | 93, _ => exact ⟨_, zeqi (zc_r (zc_r (zc_r (zc_l (zc_l (zc_l (zc_l (zc_r (zc_l (zc_l (zc_r hg)))))))))))⟩
  | 94, _ => exact ⟨_, zeqi (zc_l (zc_l (zc_r (zc_l (zc_l (zc_l (zc_r (zc_l (zc_l (zc_r hg))))))))))⟩
  | 95, _ => exact ⟨_, zeqi (zc_l (zc_r (zc_l (zc_r (zc_l (zc_l (zc_l (zc_r (zc_l (zc_l (zc_r hg)))))))))))⟩
  | 96, _ => exact ⟨_, zeqi (zc_r (zc_r (zc_l (zc_r (zc_l (zc_l (zc_l (zc_r (zc_l (zc_l (zc_r hg)))))))))))⟩
  | 97, _ => exact ⟨_, zeqi (zc_l (zc_r (zc_r (zc_l (zc_l (zc_l (zc_r (zc_l (zc_l (zc_r hg))))))))))⟩
  | 98, _ => exact ⟨_, zeqi (zc_l (zc_r (zc_r (zc_r (zc_l (zc_l (zc_l (zc_r (zc_l (zc_l (zc_r hg)))))))))))⟩
  | 99, _ => exact ⟨_, zeqi (zc_r (zc_r (zc_r (zc_r (zc_l (zc_l (zc_l (zc_r (zc_l (zc_l (zc_r hg)))))))))))⟩
  | j + 100, hj => exact absurd hj (by omega)
set_option maxRecDepth 10000 in
theorem zdig_2 {A : Array Value} {s : State} {v : Value} (hg : (Jvm.Cond.and given_1 narrow_1).before A s = true) (hv : ((Jvm.Term.static "java/lang/Integer" "DigitTens" "[B")).eval A s none [] s = some v) : ∃ (a : Nat) (cell : Cell) (D : List Int32), v = .ref a ∧ s.heap[a]? = some cell ∧ s.isArrayOf cell .byte ∧ cell.vm ≠ .unknown ∧ cell.slots.toList = D.map Value.int ∧ D.length = 100 := by
  refine zdig (zc_r (zc_r (zc_l (zc_l (zc_r (zc_l (zc_l (zc_r (zc_l (zc_l (zc_r hg))))))))))) (zc_l (zc_r (zc_l (zc_l (zc_r (zc_l (zc_l (zc_r (zc_l (zc_l (zc_r hg))))))))))) (fun j hj => ?_) hv
  match j, hj with
  | 0, _ => exact ⟨_, zeqi (zc_l (zc_r (zc_l (zc_r (zc_l (zc_l (zc_r (zc_l (zc_l (zc_r hg))))))))))⟩
  | 1, _ => exact ⟨_, zeqi (zc_l (zc_r (zc_r (zc_l (zc_r (zc_l (zc_l (zc_r (zc_l (zc_l (zc_r hg)))))))))))⟩
  | 2, _ => exact ⟨_, zeqi (zc_r (zc_r (zc_r (zc_l (zc_r (zc_l (zc_l (zc_r (zc_l (zc_l (zc_r hg)))))))))))⟩
  | 3, _ => exact ⟨_, zeqi (zc_l (zc_l (zc_r (zc_r (zc_l (zc_l (zc_r (zc_l (zc_l (zc_r hg))))))))))⟩
  | 4, _ => exact ⟨_, zeqi (zc_l (zc_r (zc_l (zc_r (zc_r (zc_l (zc_l (zc_r (zc_l (zc_l (zc_r hg)))))))))))⟩
  | 5, _ => exact ⟨_, zeqi (zc_r (zc_r (zc_l (zc_r (zc_r (zc_l (zc_l (zc_r (zc_l (zc_l (zc_r hg)))))))))))⟩
  | 6, _ => exact ⟨_, zeqi (zc_l (zc_l (zc_r (zc_r (zc_r (zc_l (zc_l (zc_r (zc_l (zc_l (zc_r hg)))))))))))⟩
  | 7, _ => exact ⟨_, zeqi (zc_r (zc_l (zc_r (zc_r (zc_r (zc_l (zc_l (zc_r (zc_l (zc_l (zc_r hg)))))))))))⟩
  | 8, _ => exact ⟨_, zeqi (zc_l (zc_r (zc_r (zc_r (zc_r (zc_l (zc_l (zc_r (zc_l (zc_l (zc_r hg)))))))))))⟩
  | 9, _ => exact ⟨_, zeqi (zc_r (zc_r (zc_r (zc_r (zc_r (zc_l (zc_l (zc_r (zc_l (zc_l (zc_r hg)))))))))))⟩
  | 10, _ => exact ⟨_, zeqi (zc_l (zc_l (zc_l (zc_l (zc_r (zc_l (zc_r (zc_l (zc_l (zc_r hg))))))))))⟩
  | 11, _ => exact ⟨_, zeqi (zc_l (zc_r (zc_l (zc_l (zc_l (zc_r (zc_l (zc_r (zc_l (zc_l (zc_r hg)))))))))))⟩
  | 12, _ => exact ⟨_, zeqi (zc_r (zc_r (zc_l (zc_l (zc_l (zc_r (zc_l (zc_r (zc_l (zc_l (zc_r hg)))))))))))⟩
  | 13, _ => exact ⟨_, zeqi (zc_l (zc_r (zc_l (zc_l (zc_r (zc_l (zc_r (zc_l (zc_l (zc_r hg))))))))))⟩
  | 14, _ => exact ⟨_, zeqi (zc_l (zc_r (zc_r (zc_l (zc_l (zc_r (zc_l (zc_r (zc_l (zc_l (zc_r hg)))))))))))⟩
  | 15, _ => exact ⟨_, zeqi (zc_r (zc_r (zc_r (zc_l (zc_l (zc_r (zc_l (zc_r (zc_l (zc_l (zc_r hg)))))))))))⟩
  | 16, _ => exact ⟨_, zeqi (zc_l (zc_l (zc_r (zc_l (zc_r (zc_l (zc_r (zc_l (zc_l (zc_r hg))))))))))⟩
  | 17, _ => exact ⟨_, zeqi (zc_l (zc_r (zc_l (zc_r (zc_l (zc_r (zc_l (zc_r (zc_l (zc_l (zc_r hg)))))))))))⟩
  | 18, _ => exact ⟨_, zeqi (zc_r (zc_r (zc_l (zc_r (zc_l (zc_r (zc_l (zc_r (zc_l (zc_l (zc_r hg)))))))))))⟩
  | 19, _ => exact ⟨_, zeqi (zc_l (zc_r (zc_r (zc_l (zc_r (zc_l (zc_r (zc_l (zc_l (zc_r hg))))))))))⟩
  | 20, _ => exact ⟨_, zeqi (zc_l (zc_r (zc_r (zc_r (zc_l (zc_r (zc_l (zc_r (zc_l (zc_l (zc_r hg)))))))))))⟩
  | 21, _ => exact ⟨_, zeqi (zc_r (zc_r (zc_r (zc_r (zc_l (zc_r (zc_l (zc_r (zc_l (zc_l (zc_r hg)))))))))))⟩
  | 22, _ => exact ⟨_, zeqi (zc_l (zc_l (zc_l (zc_r (zc_r (zc_l (zc_r (zc_l (zc_l (zc_r hg))))))))))⟩
  | 23, _ => exact ⟨_, zeqi (zc_l (zc_r (zc_l (zc_l (zc_r (zc_r (zc_l (zc_r (zc_l (zc_l (zc_r hg)))))))))))⟩
  | 24, _ => exact ⟨_, zeqi (zc_r (zc_r (zc_l (zc_l (zc_r (zc_r (zc_l (zc_r (zc_l (zc_l (zc_r hg)))))))))))⟩
  | 25, _ => exact ⟨_, zeqi (zc_l (zc_r (zc_l (zc_r (zc_r (zc_l (zc_r (zc_l (zc_l (zc_r hg))))))))))⟩
  | 26, _ => exact ⟨_, zeqi (zc_l (zc_r (zc_r (zc_l (zc_r (zc_r (zc_l (zc_r (zc_l (zc_l (zc_r hg)))))))))))⟩
  | 27, _ => exact ⟨_, zeqi (zc_r (zc_r (zc_r (zc_l (zc_r (zc_r (zc_l (zc_r (zc_l (zc_l (zc_r hg)))))))))))⟩
  | 28, _ => exact ⟨_, zeqi (zc_l (zc_l (zc_r (zc_r (zc_r (zc_l (zc_r (zc_l (zc_l (zc_r hg))))))))))⟩
  | 29, _ => exact ⟨_, zeqi (zc_l (zc_r (zc_l (zc_r (zc_r (zc_r (zc_l (zc_r (zc_l (zc_l (zc_r hg)))))))))))⟩
  | 30, _ => exact ⟨_, zeqi (zc_r (zc_r (zc_l (zc_r (zc_r (zc_r (zc_l (zc_r (zc_l (zc_l (zc_r hg)))))))))))⟩
  | 31, _ => exact ⟨_, zeqi (zc_l (zc_l (zc_r (zc_r (zc_r (zc_r (zc_l (zc_r (zc_l (zc_l (zc_r hg)))))))))))⟩
  | 32, _ => exact ⟨_, zeqi (zc_r (zc_l (zc_r (zc_r (zc_r (zc_r (zc_l (zc_r (zc_l (zc_l (zc_r hg)))))))))))⟩
  | 33, _ => exact ⟨_, zeqi (zc_l (zc_r (zc_r (zc_r (zc_r (zc_r (zc_l (zc_r (zc_l (zc_l (zc_r hg)))))))))))⟩
  | 34, _ => exact ⟨_, zeqi (zc_r (zc_r (zc_r (zc_r (zc_r (zc_r (zc_l (zc_r (zc_l (zc_l (zc_r hg)))))))))))⟩
  | 35, _ => exact ⟨_, zeqi (zc_l (zc_l (zc_l (zc_l (zc_l (zc_r (zc_r (zc_l (zc_l (zc_r hg))))))))))⟩
  | 36, _ => exact ⟨_, zeqi (zc_l (zc_r (zc_l (zc_l (zc_l (zc_l (zc_r (zc_r (zc_l (zc_l (zc_r hg)))))))))))⟩
  | 37, _ => exact ⟨_, zeqi (zc_r (zc_r (zc_l (zc_l (zc_l (zc_l (zc_r (zc_r (zc_l (zc_l (zc_r hg)))))))))))⟩
  | 38, _ => exact ⟨_, zeqi (zc_l (zc_r (zc_l (zc_l (zc_l (zc_r (zc_r (zc_l (zc_l (zc_r hg))))))))))⟩
  | 39, _ => exact ⟨_, zeqi (zc_l (zc_r (zc_r (zc_l (zc_l (zc_l (zc_r (zc_r (zc_l (zc_l (zc_r hg)))))))))))⟩
  | 40, _ => exact ⟨_, zeqi (zc_r (zc_r (zc_r (zc_l (zc_l (zc_l (zc_r (zc_r (zc_l (zc_l (zc_r hg)))))))))))⟩
  | 41, _ => exact ⟨_, zeqi (zc_l (zc_l (zc_r (zc_l (zc_l (zc_r (zc_r (zc_l (zc_l (zc_r hg))))))))))⟩
  | 42, _ => exact ⟨_, zeqi (zc_l (zc_r (zc_l (zc_r (zc_l (zc_l (zc_r (zc_r (zc_l (zc_l (zc_r hg)))))))))))⟩
  | 43, _ => exact ⟨_, zeqi (zc_r (zc_r (zc_l (zc_r (zc_l (zc_l (zc_r (zc_r (zc_l (zc_l (zc_r hg)))))))))))⟩
  | 44, _ => exact ⟨_, zeqi (zc_l (zc_r (zc_r (zc_l (zc_l (zc_r (zc_r (zc_l (zc_l (zc_r hg))))))))))⟩
  | 45, _ => exact ⟨_, zeqi (zc_l (zc_r (zc_r (zc_r (zc_l (zc_l (zc_r (zc_r (zc_l (zc_l (zc_r hg)))))))))))⟩
  | 46, _ => exact ⟨_, zeqi (zc_r (zc_r (zc_r (zc_r (zc_l (zc_l (zc_r (zc_r (zc_l (zc_l (zc_r hg)))))))))))⟩
  | 47, _ => exact ⟨_, zeqi (zc_l (zc_l (zc_l (zc_r (zc_l (zc_r (zc_r (zc_l (zc_l (zc_r hg))))))))))⟩
  | 48, _ => exact ⟨_, zeqi (zc_l (zc_r (zc_l (zc_l (zc_r (zc_l (zc_r (zc_r (zc_l (zc_l (zc_r hg)))))))))))⟩
  | 49, _ => exact ⟨_, zeqi (zc_r (zc_r (zc_l (zc_l (zc_r (zc_l (zc_r (zc_r (zc_l (zc_l (zc_r hg)))))))))))⟩
  | 50, _ => exact ⟨_, zeqi (zc_l (zc_r (zc_l (zc_r (zc_l (zc_r (zc_r (zc_l (zc_l (zc_r hg))))))))))⟩
  | 51, _ => exact ⟨_, zeqi (zc_l (zc_r (zc_r (zc_l (zc_r (zc_l (zc_r (zc_r (zc_l (zc_l (zc_r hg)))))))))))⟩
  | 52, _ => exact ⟨_, zeqi (zc_r (zc_r (zc_r (zc_l (zc_r (zc_l (zc_r (zc_r (zc_l (zc_l (zc_r hg)))))))))))⟩
  | 53, _ => exact ⟨_, zeqi (zc_l (zc_l (zc_r (zc_r (zc_l (zc_r (zc_r (zc_l (zc_l (zc_r hg))))))))))⟩
  | 54, _ => exact ⟨_, zeqi (zc_l (zc_r (zc_l (zc_r (zc_r (zc_l (zc_r (zc_r (zc_l (zc_l (zc_r hg)))))))))))⟩
  | 55, _ => exact ⟨_, zeqi (zc_r (zc_r (zc_l (zc_r (zc_r (zc_l (zc_r (zc_r (zc_l (zc_l (zc_r hg)))))))))))⟩
  | 56, _ => exact ⟨_, zeqi (zc_l (zc_l (zc_r (zc_r (zc_r (zc_l (zc_r (zc_r (zc_l (zc_l (zc_r hg)))))))))))⟩
  | 57, _ => exact ⟨_, zeqi (zc_r (zc_l (zc_r (zc_r (zc_r (zc_l (zc_r (zc_r (zc_l (zc_l (zc_r hg)))))))))))⟩
  | 58, _ => exact ⟨_, zeqi (zc_l (zc_r (zc_r (zc_r (zc_r (zc_l (zc_r (zc_r (zc_l (zc_l (zc_r hg)))))))))))⟩
  | 59, _ => exact ⟨_, zeqi (zc_r (zc_r (zc_r (zc_r (zc_r (zc_l (zc_r (zc_r (zc_l (zc_l (zc_r hg)))))))))))⟩
  | 60, _ => exact ⟨_, zeqi (zc_l (zc_l (zc_l (zc_l (zc_r (zc_r (zc_r (zc_l (zc_l (zc_r hg))))))))))⟩
  | 61, _ => exact ⟨_, zeqi (zc_l (zc_r (zc_l (zc_l (zc_l (zc_r (zc_r (zc_r (zc_l (zc_l (zc_r hg)))))))))))⟩
  | 62, _ => exact ⟨_, zeqi (zc_r (zc_r (zc_l (zc_l (zc_l (zc_r (zc_r (zc_r (zc_l (zc_l (zc_r hg)))))))))))⟩
  | 63, _ => exact ⟨_, zeqi (zc_l (zc_r (zc_l (zc_l (zc_r (zc_r (zc_r (zc_l (zc_l (zc_r hg))))))))))⟩
  | 64, _ => exact ⟨_, zeqi (zc_l (zc_r (zc_r (zc_l (zc_l (zc_r (zc_r (zc_r (zc_l (zc_l (zc_r hg)))))))))))⟩
  | 65, _ => exact ⟨_, zeqi (zc_r (zc_r (zc_r (zc_l (zc_l (zc_r (zc_r (zc_r (zc_l (zc_l (zc_r hg)))))))))))⟩
  | 66, _ => exact ⟨_, zeqi (zc_l (zc_l (zc_r (zc_l (zc_r (zc_r (zc_r (zc_l (zc_l (zc_r hg))))))))))⟩
  | 67, _ => exact ⟨_, zeqi (zc_l (zc_r (zc_l (zc_r (zc_l (zc_r (zc_r (zc_r (zc_l (zc_l (zc_r hg)))))))))))⟩
  | 68, _ => exact ⟨_, zeqi (zc_r (zc_r (zc_l (zc_r (zc_l (zc_r (zc_r (zc_r (zc_l (zc_l (zc_r hg)))))))))))⟩
  | 69, _ => exact ⟨_, zeqi (zc_l (zc_r (zc_r (zc_l (zc_r (zc_r (zc_r (zc_l (zc_l (zc_r hg))))))))))⟩
  | 70, _ => exact ⟨_, zeqi (zc_l (zc_r (zc_r (zc_r (zc_l (zc_r (zc_r (zc_r (zc_l (zc_l (zc_r hg)))))))))))⟩
  | 71, _ => exact ⟨_, zeqi (zc_r (zc_r (zc_r (zc_r (zc_l (zc_r (zc_r (zc_r (zc_l (zc_l (zc_r hg)))))))))))⟩
  | 72, _ => exact ⟨_, zeqi (zc_l (zc_l (zc_l (zc_r (zc_r (zc_r (zc_r (zc_l (zc_l (zc_r hg))))))))))⟩
  | 73, _ => exact ⟨_, zeqi (zc_l (zc_r (zc_l (zc_l (zc_r (zc_r (zc_r (zc_r (zc_l (zc_l (zc_r hg)))))))))))⟩
  | 74, _ => exact ⟨_, zeqi (zc_r (zc_r (zc_l (zc_l (zc_r (zc_r (zc_r (zc_r (zc_l (zc_l (zc_r hg)))))))))))⟩
  | 75, _ => exact ⟨_, zeqi (zc_l (zc_r (zc_l (zc_r (zc_r (zc_r (zc_r (zc_l (zc_l (zc_r hg))))))))))⟩
  | 76, _ => exact ⟨_, zeqi (zc_l (zc_r (zc_r (zc_l (zc_r (zc_r (zc_r (zc_r (zc_l (zc_l (zc_r hg)))))))))))⟩
  | 77, _ => exact ⟨_, zeqi (zc_r (zc_r (zc_r (zc_l (zc_r (zc_r (zc_r (zc_r (zc_l (zc_l (zc_r hg)))))))))))⟩
  | 78, _ => exact ⟨_, zeqi (zc_l (zc_l (zc_r (zc_r (zc_r (zc_r (zc_r (zc_l (zc_l (zc_r hg))))))))))⟩
  | 79, _ => exact ⟨_, zeqi (zc_l (zc_r (zc_l (zc_r (zc_r (zc_r (zc_r (zc_r (zc_l (zc_l (zc_r hg)))))))))))⟩
  | 80, _ => exact ⟨_, zeqi (zc_r (zc_r (zc_l (zc_r (zc_r (zc_r (zc_r (zc_r (zc_l (zc_l (zc_r hg)))))))))))⟩
  | 81, _ => exact ⟨_, zeqi (zc_l (zc_l (zc_r (zc_r (zc_r (zc_r (zc_r (zc_r (zc_l (zc_l (zc_r hg)))))))))))⟩
  | 82, _ => exact ⟨_, zeqi (zc_r (zc_l (zc_r (zc_r (zc_r (zc_r (zc_r (zc_r (zc_l (zc_l (zc_r hg)))))))))))⟩
  | 83, _ => exact ⟨_, zeqi (zc_l (zc_r (zc_r (zc_r (zc_r (zc_r (zc_r (zc_r (zc_l (zc_l (zc_r hg)))))))))))⟩
  | 84, _ => exact ⟨_, zeqi (zc_r (zc_r (zc_r (zc_r (zc_r (zc_r (zc_r (zc_r (zc_l (zc_l (zc_r hg)))))))))))⟩
  | 85, _ => exact ⟨_, zeqi (zc_l (zc_l (zc_l (zc_l (zc_l (zc_l (zc_l (zc_r (zc_l (zc_r hg))))))))))⟩
  | 86, _ => exact ⟨_, zeqi (zc_l (zc_r (zc_l (zc_l (zc_l (zc_l (zc_l (zc_l (zc_r (zc_l (zc_r hg)))))))))))⟩
  | 87, _ => exact ⟨_, zeqi (zc_r (zc_r (zc_l (zc_l (zc_l (zc_l (zc_l (zc_l (zc_r (zc_l (zc_r hg)))))))))))⟩
  | 88, _ => exact ⟨_, zeqi (zc_l (zc_r (zc_l (zc_l (zc_l (zc_l (zc_l (zc_r (zc_l (zc_r hg))))))))))⟩
  | 89, _ => exact ⟨_, zeqi (zc_l (zc_r (zc_r (zc_l (zc_l (zc_l (zc_l (zc_l (zc_r (zc_l (zc_r hg)))))))))))⟩
  | 90, _ => exact ⟨_, zeqi (zc_r (zc_r (zc_r (zc_l (zc_l (zc_l (zc_l (zc_l (zc_r (zc_l (zc_r hg)))))))))))⟩
  | 91, _ => exact ⟨_, zeqi (zc_l (zc_l (zc_r (zc_l (zc_l (zc_l (zc_l (zc_r (zc_l (zc_r hg))))))))))⟩
  | 92, _ => exact ⟨_, zeqi (zc_l (zc_r (zc_l (zc_r (zc_l (zc_l (zc_l (zc_l (zc_r (zc_l (zc_r hg)))))))))))⟩
  | 93, _ => exact ⟨_, zeqi (zc_r (zc_r (zc_l (zc_r (zc_l (zc_l (zc_l (zc_l (zc_r (zc_l (zc_r hg)))))))))))⟩
  | 94, _ => exact ⟨_, zeqi (zc_l (zc_r (zc_r (zc_l (zc_l (zc_l (zc_l (zc_r (zc_l (zc_r hg))))))))))⟩
  | 95, _ => exact ⟨_, zeqi (zc_l (zc_r (zc_r (zc_r (zc_l (zc_l (zc_l (zc_l (zc_r (zc_l (zc_r hg)))))))))))⟩
  | 96, _ => exact ⟨_, zeqi (zc_r (zc_r (zc_r (zc_r (zc_l (zc_l (zc_l (zc_l (zc_r (zc_l (zc_r hg)))))))))))⟩
  | 97, _ => exact ⟨_, zeqi (zc_l (zc_l (zc_l (zc_r (zc_l (zc_l (zc_l (zc_r (zc_l (zc_r hg))))))))))⟩
  | 98, _ => exact ⟨_, zeqi (zc_l (zc_r (zc_l (zc_l (zc_r (zc_l (zc_l (zc_l (zc_r (zc_l (zc_r hg)))))))))))⟩
  | 99, _ => exact ⟨_, zeqi (zc_r (zc_r (zc_l (zc_l (zc_r (zc_l (zc_l (zc_l (zc_r (zc_l (zc_r hg)))))))))))⟩
  | j + 100, hj => exact absurd hj (by omega)
theorem z_stat2 {A : Array Value} {s : State} (ht : ∀ w ∈ tables_1, w.before A s = true) (hg : (Jvm.Cond.and given_1 narrow_1).before A s = true) : ∃ sv : Nat → Value, sv 0 = .int 1 ∧ zty 4 (sv 3) = true ∧ ((Jvm.Term.static "java/lang/Integer" "DigitOnes" "[B")).eval A s none [] s = some (sv 1) ∧ ((Jvm.Term.static "java/lang/Integer" "DigitTens" "[B")).eval A s none [] s = some (sv 2) ∧ ∀ i, i < 4 → va_Z (zss i).1 (zss i).2.1 (zss i).2.2 (sv i) (fun q => s.heap.size ≤ q) s s.heap := by
  have hA : ∀ a : Nat, a < s.heap.size → ¬ (fun q => s.heap.size ≤ q) a := fun a h => Nat.not_le.mpr h
  have h0 := va_Zof (A := fun q => s.heap.size ≤ q) (ht (Cond.laysStatic "java/lang/String" "COMPACT_STRINGS" "Z") (zt_1 (List.mem_of_getElem? (i := 54) rfl))) (ht (Cond.initialized "java/lang/String") (zt_1 (List.mem_of_getElem? (i := 4) rfl))) (va_eqi (zc_r (zc_r (zc_l (zc_l (zc_l (zc_l (zc_l (zc_l (zc_l (zc_l (zc_r hg)))))))))))) hA
  obtain ⟨v1, e1⟩ := z_ev (zc_l (zc_r (zc_r (zc_r (zc_l (zc_l (zc_l (zc_l (zc_l (zc_l (zc_r hg)))))))))))
  have h1 := va_Zof (A := fun q => s.heap.size ≤ q) (ht (Cond.laysStatic "java/lang/Integer" "DigitOnes" "[B") (zt_6 (List.mem_of_getElem? (i := 160) rfl))) (ht (Cond.initialized "java/lang/Integer") (zt_1 (List.mem_of_getElem? (i := 27) rfl))) e1 hA
  obtain ⟨v2, e2⟩ := z_ev (zc_l (zc_r (zc_l (zc_l (zc_r (zc_l (zc_l (zc_r (zc_l (zc_l (zc_r hg)))))))))))
  have h2 := va_Zof (A := fun q => s.heap.size ≤ q) (ht (Cond.laysStatic "java/lang/Integer" "DigitTens" "[B") (zt_6 (List.mem_of_getElem? (i := 162) rfl))) (ht (Cond.initialized "java/lang/Integer") (zt_1 (List.mem_of_getElem? (i := 27) rfl))) e2 hA
  have h3 := va_Zqof (A := fun q => s.heap.size ≤ q) (ht (Cond.laysStatic "jdk/internal/util/Preconditions" "SIOOBE_FORMATTER" "Ljava/util/function/BiFunction;") (zt_6 (List.mem_of_getElem? (i := 90) rfl))) (ht (Cond.initialized "jdk/internal/util/Preconditions") (zt_1 (List.mem_of_getElem? (i := 33) rfl))) (zc_r (zc_r (zc_r (zc_l (zc_l (zc_l (zc_l (zc_l (zc_l (zc_l (zc_r hg))))))))))) hA
  obtain ⟨v3, e3, h3⟩ : ∃ v, zty 4 v = true ∧ va_Z (zss 3).1 (zss 3).2.1 (zss 3).2.2 v (fun q => s.heap.size ≤ q) s s.heap := by
    rcases h3 with h3 | ⟨t, h3⟩
    · exact ⟨.null, rfl, h3⟩
    · exact ⟨.ref t, rfl, h3⟩
  refine ⟨fun i => match i with | 0 => .int 1 | 1 => v1 | 2 => v2 | _ => v3, rfl, e3, e1, e2, fun i hi => ?_⟩
  rcases (show i = 0 ∨ i = 1 ∨ i = 2 ∨ i = 3 by omega) with rfl | rfl | rfl | rfl
  · exact h0
  · exact h1
  · exact h2
  · exact h3
/-- the heap at the law's entry: the script and the two digit arrays are known -/
def zh1 (n0 b : Nat) (xs : List Int32) (a1 : Nat) (D1 : List Int32) (a2 : Nat) (D2 : List Int32) : zH := (fun q => if q = b then (28, xs.map Value.int) else if q = a1 then (27, D1.map Value.int) else if q = a2 then (27, D2.map Value.int) else (0, []), n0, 0)
/-- what is owed of the interpreter, with the digit arrays -/
def zOK2 : Prop := ∀ (sv : Nat → Value) (n0 b a1 a2 : Nat) (xs D1 D2 : List Int32), sv 0 = .int 1 → zty 4 (sv 3) = true → sv 1 = .ref a1 → sv 2 = .ref a2 → b < n0 → a1 < n0 → a2 < n0 → a1 ≠ b → a2 ≠ b → D1.length = 100 → D2.length = 100 → xs.length ≤ 2048 → ∃ (d : Nat) (h : zH), d ≤ 900 ∧ zcall zP sv d 299 [.ref b] (zh1 n0 b xs a1 D1 a2 D2) = some (.inl (some (.int 1)), h) ∧ h.2.1 - n0 ≤ 948316 ∧ h.2.2 ≤ 6138517

section ZSM
variable {sv : Nat → Value} {m b i : Nat} {xs : List Int32} {h : zH} {w : yW} {o2 : List Int32} {th : Int32} {l6 l7 l8 : Slot}
theorem kk_0 (T : zTi sv h m b xs w o2 th) (s6 : zL6 l6) (s7 : zL7 l7 l8) (hi : i + 4 ≤ xs.length) (hn : xs.length ≤ 2048) : zgoL sv m b xs i h 1557 (zrun zP sv (zcall zP sv 60) 299 244 [.val (.ref b), .val (.ref m), .val (.ref (m + 119)), .val (.ref (m + 137)), .val (.ref (m + 138)), .val (.int (nI i)), l6, l7, l8] [] h) := by
  have hb := T.2.2.2.2.1.2
  have r1 : ∀ K : Value → zR, zael (h.1 b) 28 (nI i + nI 1) K = K (.int (xs.getD (i + 1) 0)) := fun K => zscr hb (by omega) hn
  obtain ⟨k, bv, w1, o3, th', out, hk, ⟨h1, h2, e1, rc, hb1, e3, T2, g2, ho⟩, ZZ⟩ := t_feed (x1 := ((xs.getD (i + 1) 0).toUInt32 % 65536).toInt32) T
  dsimp only at e3
  obtain ⟨a0, rfl⟩ : ∃ a0, bv = .int a0 := by
    first | exact ZZ.1 | exact ZZ
  have q1 : ∀ K : Value → zR, zael (h1.1 b) 28 (nI i + nI 1) K = K (.int (xs.getD (i + 1) 0)) := fun K => zscr hb1 (by omega) hn
  have n6 := zL6_n s6
  refine ⟨.val (.int (nI k)), .val (.int a0), .unset, h2, w1, o3, _, ?_, Or.inr ⟨_, rfl⟩, Or.inl ⟨rfl, Or.inr (Or.inl ⟨_, rfl⟩)⟩, T2, g2⟩
  rcases zL7_n s7 with ⟨n7, rfl⟩ | ⟨⟨x, rfl⟩, rfl⟩
  · simp (disch := first | exact n6 | exact n7 | exact znw_i) only [zs_299_244, zs_299_244n, zs_299_245, zs_299_245n, zs_299_246, zs_299_248, zs_299_249, zs_299_250, zs_299_251, zs_299_252, zs_299_252n, zs_299_253, zs_299_256, zs_299_256d, zs_299_258, zs_299_258n, zs_299_259, zs_299_259n, zs_299_260, zs_299_262, zs_299_263, zs_299_264, zs_299_265, zs_299_266, zs_299_269, zs_299_269d, zs_299_271, zbk_v, zts_s, List.cons_append, List.nil_append, Option.toList_some, r1, q1, e1, rc, e3]
  · simp (disch := first | exact n6 | exact znw_i) only [zs_299_244, zs_299_244n, zs_299_245, zs_299_245n, zs_299_246, zs_299_248, zs_299_249, zs_299_250, zs_299_251, zs_299_252, zs_299_252n, zs_299_253, zs_299_256, zs_299_256d, zs_299_258, zs_299_258n, zs_299_259, zs_299_259n, zs_299_260, zs_299_262, zs_299_263, zs_299_264, zs_299_265, zs_299_266, zs_299_269, zs_299_269d, zs_299_271, zbk_v, zts_s, List.cons_append, List.nil_append, Option.toList_some, r1, q1, e1, rc, e3]
theorem kk_1 (T : zTi sv h m b xs w o2 th) (s6 : zL6 l6) (s7 : zL7 l7 l8) (hi : i + 4 ≤ xs.length) (hn : xs.length ≤ 2048) : zgoL sv m b xs i h 1557 (zrun zP sv (zcall zP sv 60) 299 274 [.val (.ref b), .val (.ref m), .val (.ref (m + 119)), .val (.ref (m + 137)), .val (.ref (m + 138)), .val (.int (nI i)), l6, l7, l8] [] h) := by
  have hb := T.2.2.2.2.1.2
  obtain ⟨v, w1, o3, th', h1, h2, e1, rc, hb1, e3, T2, g2⟩ := t_clearBuffer T
  dsimp only at e3
  have r0 := zEC1 T.1
  refine ⟨l6, l7, l8, h2, w1, o3, _, ?_, s6, s7, T2, g2⟩
  simp only [zs_299_274, zs_299_274n, zs_299_275, zs_299_278, zs_299_279, zs_299_279n, zs_299_280, zs_299_283, zs_299_284, zbk_v, zts_s, List.cons_append, List.nil_append, Option.toList_some, r0, e1, rc, e3, if_true, if_false]
theorem kk_2 (T : zTi sv h m b xs w o2 th) (s6 : zL6 l6) (s7 : zL7 l7 l8) (hi : i + 4 ≤ xs.length) (hn : xs.length ≤ 2048) : zgoL sv m b xs i h 1557 (zrun zP sv (zcall zP sv 60) 299 287 [.val (.ref b), .val (.ref m), .val (.ref (m + 119)), .val (.ref (m + 137)), .val (.ref (m + 138)), .val (.int (nI i)), l6, l7, l8] [] h) := by
  have hb := T.2.2.2.2.1.2
  obtain ⟨k, bv, w1, o3, th', out, hk, ⟨h1, h2, e1, rc, hb1, e3, T2, g2, ho⟩, ZZ⟩ := t_addFormula T
  dsimp only at e3
  obtain ⟨a0, rfl⟩ : ∃ a0, bv = .int a0 := by
    first | exact ZZ.1 | exact ZZ
  have n6 := zL6_n s6
  refine ⟨.val (.int (nI k)), .val (.int a0), .unset, h2, w1, o3, _, ?_, Or.inr ⟨_, rfl⟩, Or.inl ⟨rfl, Or.inr (Or.inl ⟨_, rfl⟩)⟩, T2, g2⟩
  rcases zL7_n s7 with ⟨n7, rfl⟩ | ⟨⟨x, rfl⟩, rfl⟩
  · simp (disch := first | exact n6 | exact n7 | exact znw_i) only [zs_299_287, zs_299_287n, zs_299_288, zs_299_288n, zs_299_289, zs_299_292, zs_299_292d, zs_299_294, zs_299_294n, zs_299_295, zs_299_298, zs_299_298d, zs_299_300, zbk_v, zts_s, List.cons_append, List.nil_append, Option.toList_some, e1, rc, e3]
  · simp (disch := first | exact n6 | exact znw_i) only [zs_299_287, zs_299_287n, zs_299_288, zs_299_288n, zs_299_289, zs_299_292, zs_299_292d, zs_299_294, zs_299_294n, zs_299_295, zs_299_298, zs_299_298d, zs_299_300, zbk_v, zts_s, List.cons_append, List.nil_append, Option.toList_some, e1, rc, e3]
theorem kk_3 (T : zTi sv h m b xs w o2 th) (s6 : zL6 l6) (s7 : zL7 l7 l8) (hi : i + 4 ≤ xs.length) (hn : xs.length ≤ 2048) : zgoL sv m b xs i h 1557 (zrun zP sv (zcall zP sv 60) 299 303 [.val (.ref b), .val (.ref m), .val (.ref (m + 119)), .val (.ref (m + 137)), .val (.ref (m + 138)), .val (.int (nI i)), l6, l7, l8] [] h) := by
  have hb := T.2.2.2.2.1.2
  have r1 : ∀ K : Value → zR, zael (h.1 b) 28 (nI i + nI 1) K = K (.int (xs.getD (i + 1) 0)) := fun K => zscr hb (by omega) hn
  obtain ⟨k, bv, w1, o3, th', out, hk, ⟨h1, h2, e1, rc, hb1, e3, T2, g2, ho⟩, ZZ⟩ := t_removeFormula (x1 := xs.getD (i + 1) 0) T
  dsimp only at e3
  obtain ⟨a0, rfl⟩ : ∃ a0, bv = .int a0 := by
    first | exact ZZ.1 | exact ZZ
  have q1 : ∀ K : Value → zR, zael (h1.1 b) 28 (nI i + nI 1) K = K (.int (xs.getD (i + 1) 0)) := fun K => zscr hb1 (by omega) hn
  have n6 := zL6_n s6
  refine ⟨.val (.int (nI k)), .val (.int a0), .unset, h2, w1, o3, _, ?_, Or.inr ⟨_, rfl⟩, Or.inl ⟨rfl, Or.inr (Or.inl ⟨_, rfl⟩)⟩, T2, g2⟩
  rcases zL7_n s7 with ⟨n7, rfl⟩ | ⟨⟨x, rfl⟩, rfl⟩
  · simp (disch := first | exact n6 | exact n7 | exact znw_i) only [zs_299_303, zs_299_303n, zs_299_304, zs_299_304n, zs_299_305, zs_299_307, zs_299_308, zs_299_309, zs_299_310, zs_299_310n, zs_299_311, zs_299_314, zs_299_314d, zs_299_316, zs_299_316n, zs_299_317, zs_299_317n, zs_299_318, zs_299_320, zs_299_321, zs_299_322, zs_299_323, zs_299_326, zs_299_326d, zs_299_328, zbk_v, zts_s, List.cons_append, List.nil_append, Option.toList_some, r1, q1, e1, rc, e3]
  · simp (disch := first | exact n6 | exact znw_i) only [zs_299_303, zs_299_303n, zs_299_304, zs_299_304n, zs_299_305, zs_299_307, zs_299_308, zs_299_309, zs_299_310, zs_299_310n, zs_299_311, zs_299_314, zs_299_314d, zs_299_316, zs_299_316n, zs_299_317, zs_299_317n, zs_299_318, zs_299_320, zs_299_321, zs_299_322, zs_299_323, zs_299_326, zs_299_326d, zs_299_328, zbk_v, zts_s, List.cons_append, List.nil_append, Option.toList_some, r1, q1, e1, rc, e3]
theorem kk_4 (T : zTi sv h m b xs w o2 th) (s6 : zL6 l6) (s7 : zL7 l7 l8) (hi : i + 4 ≤ xs.length) (hn : xs.length ≤ 2048) : zgoL sv m b xs i h 1557 (zrun zP sv (zcall zP sv 60) 299 331 [.val (.ref b), .val (.ref m), .val (.ref (m + 119)), .val (.ref (m + 137)), .val (.ref (m + 138)), .val (.int (nI i)), l6, l7, l8] [] h) := by
  have hb := T.2.2.2.2.1.2
  have r1 : ∀ K : Value → zR, zael (h.1 b) 28 (nI i + nI 1) K = K (.int (xs.getD (i + 1) 0)) := fun K => zscr hb (by omega) hn
  obtain ⟨k, bv, w1, o3, th', out, hk, ⟨h1, h2, e1, rc, hb1, e3, T2, g2, ho⟩, ZZ⟩ := t_simplify (x1 := xs.getD (i + 1) 0) T
  dsimp only at e3
  obtain ⟨a0, rfl⟩ : ∃ a0, bv = .int a0 := by
    first | exact ZZ.1 | exact ZZ
  have q1 : ∀ K : Value → zR, zael (h1.1 b) 28 (nI i + nI 1) K = K (.int (xs.getD (i + 1) 0)) := fun K => zscr hb1 (by omega) hn
  have n6 := zL6_n s6
  refine ⟨.val (.int (nI k)), .val (.int a0), .unset, h2, w1, o3, _, ?_, Or.inr ⟨_, rfl⟩, Or.inl ⟨rfl, Or.inr (Or.inl ⟨_, rfl⟩)⟩, T2, g2⟩
  rcases zL7_n s7 with ⟨n7, rfl⟩ | ⟨⟨x, rfl⟩, rfl⟩
  · simp (disch := first | exact n6 | exact n7 | exact znw_i) only [zs_299_331, zs_299_331n, zs_299_332, zs_299_332n, zs_299_333, zs_299_335, zs_299_336, zs_299_337, zs_299_338, zs_299_338n, zs_299_339, zs_299_342, zs_299_342d, zs_299_344, zs_299_344n, zs_299_345, zs_299_345n, zs_299_346, zs_299_348, zs_299_349, zs_299_350, zs_299_351, zs_299_354, zs_299_354d, zs_299_356, zbk_v, zts_s, List.cons_append, List.nil_append, Option.toList_some, r1, q1, e1, rc, e3]
  · simp (disch := first | exact n6 | exact znw_i) only [zs_299_331, zs_299_331n, zs_299_332, zs_299_332n, zs_299_333, zs_299_335, zs_299_336, zs_299_337, zs_299_338, zs_299_338n, zs_299_339, zs_299_342, zs_299_342d, zs_299_344, zs_299_344n, zs_299_345, zs_299_345n, zs_299_346, zs_299_348, zs_299_349, zs_299_350, zs_299_351, zs_299_354, zs_299_354d, zs_299_356, zbk_v, zts_s, List.cons_append, List.nil_append, Option.toList_some, r1, q1, e1, rc, e3]
theorem kk_5 (T : zTi sv h m b xs w o2 th) (s6 : zL6 l6) (s7 : zL7 l7 l8) (hi : i + 4 ≤ xs.length) (hn : xs.length ≤ 2048) : zgoL sv m b xs i h 1557 (zrun zP sv (zcall zP sv 60) 299 359 [.val (.ref b), .val (.ref m), .val (.ref (m + 119)), .val (.ref (m + 137)), .val (.ref (m + 138)), .val (.int (nI i)), l6, l7, l8] [] h) := by
  have hb := T.2.2.2.2.1.2
  have r1 : ∀ K : Value → zR, zael (h.1 b) 28 (nI i + nI 1) K = K (.int (xs.getD (i + 1) 0)) := fun K => zscr hb (by omega) hn
  have r2 : ∀ K : Value → zR, zael (h.1 b) 28 (nI i + nI 2) K = K (.int (xs.getD (i + 2) 0)) := fun K => zscr hb (by omega) hn
  obtain ⟨k, bv, w1, o3, th', out, hk, ⟨h1, h2, e1, rc, hb1, e3, T2, g2, ho⟩, ZZ⟩ := t_differentiate (x1 := xs.getD (i + 1) 0) (x2 := ((xs.getD (i + 2) 0).toUInt32 % 65536).toInt32) T
  dsimp only at e3
  obtain ⟨a0, rfl⟩ : ∃ a0, bv = .int a0 := by
    first | exact ZZ.1 | exact ZZ
  have q1 : ∀ K : Value → zR, zael (h1.1 b) 28 (nI i + nI 1) K = K (.int (xs.getD (i + 1) 0)) := fun K => zscr hb1 (by omega) hn
  have q2 : ∀ K : Value → zR, zael (h1.1 b) 28 (nI i + nI 2) K = K (.int (xs.getD (i + 2) 0)) := fun K => zscr hb1 (by omega) hn
  have n6 := zL6_n s6
  refine ⟨.val (.int (nI k)), .val (.int a0), .unset, h2, w1, o3, _, ?_, Or.inr ⟨_, rfl⟩, Or.inl ⟨rfl, Or.inr (Or.inl ⟨_, rfl⟩)⟩, T2, g2⟩
  rcases zL7_n s7 with ⟨n7, rfl⟩ | ⟨⟨x, rfl⟩, rfl⟩
  · simp (disch := first | exact n6 | exact n7 | exact znw_i) only [zs_299_359, zs_299_359n, zs_299_360, zs_299_360n, zs_299_361, zs_299_363, zs_299_364, zs_299_365, zs_299_366, zs_299_366n, zs_299_367, zs_299_369, zs_299_370, zs_299_371, zs_299_372, zs_299_373, zs_299_373n, zs_299_374, zs_299_377, zs_299_377d, zs_299_379, zs_299_379n, zs_299_380, zs_299_380n, zs_299_381, zs_299_383, zs_299_384, zs_299_385, zs_299_386, zs_299_386n, zs_299_387, zs_299_389, zs_299_390, zs_299_391, zs_299_392, zs_299_393, zs_299_396, zs_299_396d, zs_299_398, zbk_v, zts_s, List.cons_append, List.nil_append, Option.toList_some, r1, q1, r2, q2, e1, rc, e3]
  · simp (disch := first | exact n6 | exact znw_i) only [zs_299_359, zs_299_359n, zs_299_360, zs_299_360n, zs_299_361, zs_299_363, zs_299_364, zs_299_365, zs_299_366, zs_299_366n, zs_299_367, zs_299_369, zs_299_370, zs_299_371, zs_299_372, zs_299_373, zs_299_373n, zs_299_374, zs_299_377, zs_299_377d, zs_299_379, zs_299_379n, zs_299_380, zs_299_380n, zs_299_381, zs_299_383, zs_299_384, zs_299_385, zs_299_386, zs_299_386n, zs_299_387, zs_299_389, zs_299_390, zs_299_391, zs_299_392, zs_299_393, zs_299_396, zs_299_396d, zs_299_398, zbk_v, zts_s, List.cons_append, List.nil_append, Option.toList_some, r1, q1, r2, q2, e1, rc, e3]
theorem kk_6 (T : zTi sv h m b xs w o2 th) (s6 : zL6 l6) (s7 : zL7 l7 l8) (hi : i + 4 ≤ xs.length) (hn : xs.length ≤ 2048) : zgoL sv m b xs i h 1557 (zrun zP sv (zcall zP sv 60) 299 401 [.val (.ref b), .val (.ref m), .val (.ref (m + 119)), .val (.ref (m + 137)), .val (.ref (m + 138)), .val (.int (nI i)), l6, l7, l8] [] h) := by
  have hb := T.2.2.2.2.1.2
  have r1 : ∀ K : Value → zR, zael (h.1 b) 28 (nI i + nI 1) K = K (.int (xs.getD (i + 1) 0)) := fun K => zscr hb (by omega) hn
  have r2 : ∀ K : Value → zR, zael (h.1 b) 28 (nI i + nI 2) K = K (.int (xs.getD (i + 2) 0)) := fun K => zscr hb (by omega) hn
  have r3 : ∀ K : Value → zR, zael (h.1 b) 28 (nI i + nI 3) K = K (.int (xs.getD (i + 3) 0)) := fun K => zscr hb (by omega) hn
  obtain ⟨k, bv, w1, o3, th', out, hk, ⟨h1, h2, e1, rc, hb1, e3, T2, g2, ho⟩, ZZ⟩ := t_substitute (x1 := xs.getD (i + 1) 0) (x2 := ((xs.getD (i + 2) 0).toUInt32 % 65536).toInt32) (x3 := xs.getD (i + 3) 0) T
  dsimp only at e3
  obtain ⟨a0, rfl⟩ : ∃ a0, bv = .int a0 := by
    first | exact ZZ.1 | exact ZZ
  have q1 : ∀ K : Value → zR, zael (h1.1 b) 28 (nI i + nI 1) K = K (.int (xs.getD (i + 1) 0)) := fun K => zscr hb1 (by omega) hn
  have q2 : ∀ K : Value → zR, zael (h1.1 b) 28 (nI i + nI 2) K = K (.int (xs.getD (i + 2) 0)) := fun K => zscr hb1 (by omega) hn
  have q3 : ∀ K : Value → zR, zael (h1.1 b) 28 (nI i + nI 3) K = K (.int (xs.getD (i + 3) 0)) := fun K => zscr hb1 (by omega) hn
  have n6 := zL6_n s6
  refine ⟨.val (.int (nI k)), .val (.int a0), .unset, h2, w1, o3, _, ?_, Or.inr ⟨_, rfl⟩, Or.inl ⟨rfl, Or.inr (Or.inl ⟨_, rfl⟩)⟩, T2, g2⟩
  rcases zL7_n s7 with ⟨n7, rfl⟩ | ⟨⟨x, rfl⟩, rfl⟩
  · simp (disch := first | exact n6 | exact n7 | exact znw_i) only [zs_299_401, zs_299_401n, zs_299_402, zs_299_402n, zs_299_403, zs_299_405, zs_299_406, zs_299_407, zs_299_408, zs_299_408n, zs_299_409, zs_299_411, zs_299_412, zs_299_413, zs_299_414, zs_299_415, zs_299_415n, zs_299_416, zs_299_418, zs_299_419, zs_299_420, zs_299_421, zs_299_421n, zs_299_422, zs_299_425, zs_299_425d, zs_299_427, zs_299_427n, zs_299_428, zs_299_428n, zs_299_429, zs_299_431, zs_299_432, zs_299_433, zs_299_434, zs_299_434n, zs_299_435, zs_299_437, zs_299_438, zs_299_439, zs_299_440, zs_299_441, zs_299_441n, zs_299_442, zs_299_444, zs_299_445, zs_299_446, zs_299_447, zs_299_450, zs_299_450d, zs_299_452, zbk_v, zts_s, List.cons_append, List.nil_append, Option.toList_some, r1, q1, r2, q2, r3, q3, e1, rc, e3]
  · simp (disch := first | exact n6 | exact znw_i) only [zs_299_401, zs_299_401n, zs_299_402, zs_299_402n, zs_299_403, zs_299_405, zs_299_406, zs_299_407, zs_299_408, zs_299_408n, zs_299_409, zs_299_411, zs_299_412, zs_299_413, zs_299_414, zs_299_415, zs_299_415n, zs_299_416, zs_299_418, zs_299_419, zs_299_420, zs_299_421, zs_299_421n, zs_299_422, zs_299_425, zs_299_425d, zs_299_427, zs_299_427n, zs_299_428, zs_299_428n, zs_299_429, zs_299_431, zs_299_432, zs_299_433, zs_299_434, zs_299_434n, zs_299_435, zs_299_437, zs_299_438, zs_299_439, zs_299_440, zs_299_441, zs_299_441n, zs_299_442, zs_299_444, zs_299_445, zs_299_446, zs_299_447, zs_299_450, zs_299_450d, zs_299_452, zbk_v, zts_s, List.cons_append, List.nil_append, Option.toList_some, r1, q1, r2, q2, r3, q3, e1, rc, e3]
theorem kk_7 (T : zTi sv h m b xs w o2 th) (s6 : zL6 l6) (s7 : zL7 l7 l8) (hi : i + 4 ≤ xs.length) (hn : xs.length ≤ 2048) : zgoL sv m b xs i h 1557 (zrun zP sv (zcall zP sv 60) 299 455 [.val (.ref b), .val (.ref m), .val (.ref (m + 119)), .val (.ref (m + 137)), .val (.ref (m + 138)), .val (.int (nI i)), l6, l7, l8] [] h) := by
  have hb := T.2.2.2.2.1.2
  have r1 : ∀ K : Value → zR, zael (h.1 b) 28 (nI i + nI 1) K = K (.int (xs.getD (i + 1) 0)) := fun K => zscr hb (by omega) hn
  have r2 : ∀ K : Value → zR, zael (h.1 b) 28 (nI i + nI 2) K = K (.int (xs.getD (i + 2) 0)) := fun K => zscr hb (by omega) hn
  obtain ⟨k, bv, w1, o3, th', out, hk, ⟨h1, h2, e1, rc, hb1, e3, T2, g2, ho⟩, ZZ⟩ := t_setVariable (x1 := ((xs.getD (i + 1) 0).toUInt32 % 65536).toInt32) (x2 := xs.getD (i + 2) 0) T
  dsimp only at e3
  obtain ⟨a0, rfl⟩ : ∃ a0, bv = .int a0 := by
    first | exact ZZ.1 | exact ZZ
  have q1 : ∀ K : Value → zR, zael (h1.1 b) 28 (nI i + nI 1) K = K (.int (xs.getD (i + 1) 0)) := fun K => zscr hb1 (by omega) hn
  have q2 : ∀ K : Value → zR, zael (h1.1 b) 28 (nI i + nI 2) K = K (.int (xs.getD (i + 2) 0)) := fun K => zscr hb1 (by omega) hn
  have n6 := zL6_n s6
  refine ⟨.val (.int (nI k)), .val (.int a0), .unset, h2, w1, o3, _, ?_, Or.inr ⟨_, rfl⟩, Or.inl ⟨rfl, Or.inr (Or.inl ⟨_, rfl⟩)⟩, T2, g2⟩
  rcases zL7_n s7 with ⟨n7, rfl⟩ | ⟨⟨x, rfl⟩, rfl⟩
  · simp (disch := first | exact n6 | exact n7 | exact znw_i) only [zs_299_455, zs_299_455n, zs_299_456, zs_299_456n, zs_299_457, zs_299_459, zs_299_460, zs_299_461, zs_299_462, zs_299_463, zs_299_463n, zs_299_464, zs_299_466, zs_299_467, zs_299_468, zs_299_469, zs_299_469n, zs_299_470, zs_299_473, zs_299_473d, zs_299_475, zs_299_475n, zs_299_476, zs_299_476n, zs_299_477, zs_299_479, zs_299_480, zs_299_481, zs_299_482, zs_299_483, zs_299_483n, zs_299_484, zs_299_486, zs_299_487, zs_299_488, zs_299_489, zs_299_492, zs_299_492d, zs_299_494, zbk_v, zts_s, List.cons_append, List.nil_append, Option.toList_some, r1, q1, r2, q2, e1, rc, e3]
  · simp (disch := first | exact n6 | exact znw_i) only [zs_299_455, zs_299_455n, zs_299_456, zs_299_456n, zs_299_457, zs_299_459, zs_299_460, zs_299_461, zs_299_462, zs_299_463, zs_299_463n, zs_299_464, zs_299_466, zs_299_467, zs_299_468, zs_299_469, zs_299_469n, zs_299_470, zs_299_473, zs_299_473d, zs_299_475, zs_299_475n, zs_299_476, zs_299_476n, zs_299_477, zs_299_479, zs_299_480, zs_299_481, zs_299_482, zs_299_483, zs_299_483n, zs_299_484, zs_299_486, zs_299_487, zs_299_488, zs_299_489, zs_299_492, zs_299_492d, zs_299_494, zbk_v, zts_s, List.cons_append, List.nil_append, Option.toList_some, r1, q1, r2, q2, e1, rc, e3]
theorem kk_8 (T : zTi sv h m b xs w o2 th) (s6 : zL6 l6) (s7 : zL7 l7 l8) (hi : i + 4 ≤ xs.length) (hn : xs.length ≤ 2048) : zgoL sv m b xs i h 1557 (zrun zP sv (zcall zP sv 60) 299 497 [.val (.ref b), .val (.ref m), .val (.ref (m + 119)), .val (.ref (m + 137)), .val (.ref (m + 138)), .val (.int (nI i)), l6, l7, l8] [] h) := by
  have hb := T.2.2.2.2.1.2
  have r1 : ∀ K : Value → zR, zael (h.1 b) 28 (nI i + nI 1) K = K (.int (xs.getD (i + 1) 0)) := fun K => zscr hb (by omega) hn
  obtain ⟨k, bv, w1, o3, th', out, hk, ⟨h1, h2, e1, rc, hb1, e3, T2, g2, ho⟩, ZZ⟩ := t_setRegisters (x1 := xs.getD (i + 1) 0) T
  dsimp only at e3
  obtain ⟨a0, rfl⟩ : ∃ a0, bv = .int a0 := by
    first | exact ZZ.1 | exact ZZ
  have q1 : ∀ K : Value → zR, zael (h1.1 b) 28 (nI i + nI 1) K = K (.int (xs.getD (i + 1) 0)) := fun K => zscr hb1 (by omega) hn
  have n6 := zL6_n s6
  refine ⟨.val (.int (nI k)), .val (.int a0), .unset, h2, w1, o3, _, ?_, Or.inr ⟨_, rfl⟩, Or.inl ⟨rfl, Or.inr (Or.inl ⟨_, rfl⟩)⟩, T2, g2⟩
  rcases zL7_n s7 with ⟨n7, rfl⟩ | ⟨⟨x, rfl⟩, rfl⟩
  · simp (disch := first | exact n6 | exact n7 | exact znw_i) only [zs_299_497, zs_299_497n, zs_299_498, zs_299_498n, zs_299_499, zs_299_501, zs_299_502, zs_299_503, zs_299_504, zs_299_504n, zs_299_505, zs_299_508, zs_299_508d, zs_299_510, zs_299_510n, zs_299_511, zs_299_511n, zs_299_512, zs_299_514, zs_299_515, zs_299_516, zs_299_517, zs_299_520, zs_299_520d, zs_299_522, zbk_v, zts_s, List.cons_append, List.nil_append, Option.toList_some, r1, q1, e1, rc, e3]
  · simp (disch := first | exact n6 | exact znw_i) only [zs_299_497, zs_299_497n, zs_299_498, zs_299_498n, zs_299_499, zs_299_501, zs_299_502, zs_299_503, zs_299_504, zs_299_504n, zs_299_505, zs_299_508, zs_299_508d, zs_299_510, zs_299_510n, zs_299_511, zs_299_511n, zs_299_512, zs_299_514, zs_299_515, zs_299_516, zs_299_517, zs_299_520, zs_299_520d, zs_299_522, zbk_v, zts_s, List.cons_append, List.nil_append, Option.toList_some, r1, q1, e1, rc, e3]
theorem kk_9 (T : zTi sv h m b xs w o2 th) (s6 : zL6 l6) (s7 : zL7 l7 l8) (hi : i + 4 ≤ xs.length) (hn : xs.length ≤ 2048) : zgoL sv m b xs i h 1557 (zrun zP sv (zcall zP sv 60) 299 525 [.val (.ref b), .val (.ref m), .val (.ref (m + 119)), .val (.ref (m + 137)), .val (.ref (m + 138)), .val (.int (nI i)), l6, l7, l8] [] h) := by
  have hb := T.2.2.2.2.1.2
  obtain ⟨v, w1, o3, th', h1, h2, e1, rc, hb1, e3, T2, g2⟩ := t_formulaCount T
  dsimp only at e3
  have r0 := zEC1 T.1
  refine ⟨l6, l7, l8, h2, w1, o3, _, ?_, s6, s7, T2, g2⟩
  simp only [zs_299_525, zs_299_525n, zs_299_526, zs_299_529, zs_299_530, zs_299_530n, zs_299_531, zs_299_534, zs_299_535, zbk_v, zts_s, List.cons_append, List.nil_append, Option.toList_some, r0, e1, rc, e3, if_true, if_false]
theorem kk_10 (T : zTi sv h m b xs w o2 th) (s6 : zL6 l6) (s7 : zL7 l7 l8) (hi : i + 4 ≤ xs.length) (hn : xs.length ≤ 2048) : zgoL sv m b xs i h 1557 (zrun zP sv (zcall zP sv 60) 299 538 [.val (.ref b), .val (.ref m), .val (.ref (m + 119)), .val (.ref (m + 137)), .val (.ref (m + 138)), .val (.int (nI i)), l6, l7, l8] [] h) := by
  have hb := T.2.2.2.2.1.2
  have r1 : ∀ K : Value → zR, zael (h.1 b) 28 (nI i + nI 1) K = K (.int (xs.getD (i + 1) 0)) := fun K => zscr hb (by omega) hn
  obtain ⟨k, bv, w1, o3, th', out, hk, ⟨h1, h2, e1, rc, hb1, e3, T2, g2, ho⟩, ZZ⟩ := t_variable (x1 := ((xs.getD (i + 1) 0).toUInt32 % 65536).toInt32) T
  dsimp only at e3
  obtain ⟨a0, rfl⟩ : ∃ a0, bv = .int a0 := by
    first | exact ZZ.1 | exact ZZ
  have q1 : ∀ K : Value → zR, zael (h1.1 b) 28 (nI i + nI 1) K = K (.int (xs.getD (i + 1) 0)) := fun K => zscr hb1 (by omega) hn
  have n6 := zL6_n s6
  refine ⟨.val (.int (nI k)), .val (.int a0), .unset, h2, w1, o3, _, ?_, Or.inr ⟨_, rfl⟩, Or.inl ⟨rfl, Or.inr (Or.inl ⟨_, rfl⟩)⟩, T2, g2⟩
  rcases zL7_n s7 with ⟨n7, rfl⟩ | ⟨⟨x, rfl⟩, rfl⟩
  · simp (disch := first | exact n6 | exact n7 | exact znw_i) only [zs_299_538, zs_299_538n, zs_299_539, zs_299_539n, zs_299_540, zs_299_542, zs_299_543, zs_299_544, zs_299_545, zs_299_546, zs_299_546n, zs_299_547, zs_299_550, zs_299_550d, zs_299_552, zs_299_552n, zs_299_553, zs_299_553n, zs_299_554, zs_299_556, zs_299_557, zs_299_558, zs_299_559, zs_299_560, zs_299_563, zs_299_563d, zs_299_565, zbk_v, zts_s, List.cons_append, List.nil_append, Option.toList_some, r1, q1, e1, rc, e3]
  · simp (disch := first | exact n6 | exact znw_i) only [zs_299_538, zs_299_538n, zs_299_539, zs_299_539n, zs_299_540, zs_299_542, zs_299_543, zs_299_544, zs_299_545, zs_299_546, zs_299_546n, zs_299_547, zs_299_550, zs_299_550d, zs_299_552, zs_299_552n, zs_299_553, zs_299_553n, zs_299_554, zs_299_556, zs_299_557, zs_299_558, zs_299_559, zs_299_560, zs_299_563, zs_299_563d, zs_299_565, zbk_v, zts_s, List.cons_append, List.nil_append, Option.toList_some, r1, q1, e1, rc, e3]
theorem kk_11 (T : zTi sv h m b xs w o2 th) (s6 : zL6 l6) (s7 : zL7 l7 l8) (hi : i + 4 ≤ xs.length) (hn : xs.length ≤ 2048) : zgoL sv m b xs i h 1557 (zrun zP sv (zcall zP sv 60) 299 568 [.val (.ref b), .val (.ref m), .val (.ref (m + 119)), .val (.ref (m + 137)), .val (.ref (m + 138)), .val (.int (nI i)), l6, l7, l8] [] h) := by
  have hb := T.2.2.2.2.1.2
  obtain ⟨v, w1, o3, th', h1, h2, e1, rc, hb1, e3, T2, g2⟩ := t_registers T
  dsimp only at e3
  have r0 := zEC1 T.1
  refine ⟨l6, l7, l8, h2, w1, o3, _, ?_, s6, s7, T2, g2⟩
  simp only [zs_299_568, zs_299_568n, zs_299_569, zs_299_572, zs_299_573, zs_299_573n, zs_299_574, zs_299_577, zs_299_578, zbk_v, zts_s, List.cons_append, List.nil_append, Option.toList_some, r0, e1, rc, e3, if_true, if_false]
theorem kk_12 (T : zTi sv h m b xs w o2 th) (s6 : zL6 l6) (s7 : zL7 l7 l8) (hi : i + 4 ≤ xs.length) (hn : xs.length ≤ 2048) : zgoL sv m b xs i h 1557 (zrun zP sv (zcall zP sv 60) 299 581 [.val (.ref b), .val (.ref m), .val (.ref (m + 119)), .val (.ref (m + 137)), .val (.ref (m + 138)), .val (.int (nI i)), l6, l7, l8] [] h) := by
  have hb := T.2.2.2.2.1.2
  have r1 : ∀ K : Value → zR, zael (h.1 b) 28 (nI i + nI 1) K = K (.int (xs.getD (i + 1) 0)) := fun K => zscr hb (by omega) hn
  obtain ⟨k, bv, w1, o3, th', out, hk, ⟨h1, h2, e1, rc, hb1, e3, T2, g2, ho⟩, ZZ⟩ := t_nodeCount (x1 := xs.getD (i + 1) 0) T
  dsimp only at e3
  obtain ⟨a0, rfl⟩ : ∃ a0, bv = .int a0 := by
    first | exact ZZ.1 | exact ZZ
  have q1 : ∀ K : Value → zR, zael (h1.1 b) 28 (nI i + nI 1) K = K (.int (xs.getD (i + 1) 0)) := fun K => zscr hb1 (by omega) hn
  have n6 := zL6_n s6
  refine ⟨.val (.int (nI k)), .val (.int a0), .unset, h2, w1, o3, _, ?_, Or.inr ⟨_, rfl⟩, Or.inl ⟨rfl, Or.inr (Or.inl ⟨_, rfl⟩)⟩, T2, g2⟩
  rcases zL7_n s7 with ⟨n7, rfl⟩ | ⟨⟨x, rfl⟩, rfl⟩
  · simp (disch := first | exact n6 | exact n7 | exact znw_i) only [zs_299_581, zs_299_581n, zs_299_582, zs_299_582n, zs_299_583, zs_299_585, zs_299_586, zs_299_587, zs_299_588, zs_299_588n, zs_299_589, zs_299_592, zs_299_592d, zs_299_594, zs_299_594n, zs_299_595, zs_299_595n, zs_299_596, zs_299_598, zs_299_599, zs_299_600, zs_299_601, zs_299_604, zs_299_604d, zs_299_606, zbk_v, zts_s, List.cons_append, List.nil_append, Option.toList_some, r1, q1, e1, rc, e3]
  · simp (disch := first | exact n6 | exact znw_i) only [zs_299_581, zs_299_581n, zs_299_582, zs_299_582n, zs_299_583, zs_299_585, zs_299_586, zs_299_587, zs_299_588, zs_299_588n, zs_299_589, zs_299_592, zs_299_592d, zs_299_594, zs_299_594n, zs_299_595, zs_299_595n, zs_299_596, zs_299_598, zs_299_599, zs_299_600, zs_299_601, zs_299_604, zs_299_604d, zs_299_606, zbk_v, zts_s, List.cons_append, List.nil_append, Option.toList_some, r1, q1, e1, rc, e3]
theorem kk_13 (T : zTi sv h m b xs w o2 th) (s6 : zL6 l6) (s7 : zL7 l7 l8) (hi : i + 4 ≤ xs.length) (hn : xs.length ≤ 2048) : zgoL sv m b xs i h 1557 (zrun zP sv (zcall zP sv 60) 299 609 [.val (.ref b), .val (.ref m), .val (.ref (m + 119)), .val (.ref (m + 137)), .val (.ref (m + 138)), .val (.int (nI i)), l6, l7, l8] [] h) := by
  have hb := T.2.2.2.2.1.2
  have r1 : ∀ K : Value → zR, zael (h.1 b) 28 (nI i + nI 1) K = K (.int (xs.getD (i + 1) 0)) := fun K => zscr hb (by omega) hn
  obtain ⟨k, bv, w1, o3, th', out, hk, ⟨h1, h2, e1, rc, hb1, e3, T2, g2, ho⟩, ZZ⟩ := t_depth (x1 := xs.getD (i + 1) 0) T
  dsimp only at e3
  obtain ⟨a0, rfl⟩ : ∃ a0, bv = .int a0 := by
    first | exact ZZ.1 | exact ZZ
  have q1 : ∀ K : Value → zR, zael (h1.1 b) 28 (nI i + nI 1) K = K (.int (xs.getD (i + 1) 0)) := fun K => zscr hb1 (by omega) hn
  have n6 := zL6_n s6
  refine ⟨.val (.int (nI k)), .val (.int a0), .unset, h2, w1, o3, _, ?_, Or.inr ⟨_, rfl⟩, Or.inl ⟨rfl, Or.inr (Or.inl ⟨_, rfl⟩)⟩, T2, g2⟩
  rcases zL7_n s7 with ⟨n7, rfl⟩ | ⟨⟨x, rfl⟩, rfl⟩
  · simp (disch := first | exact n6 | exact n7 | exact znw_i) only [zs_299_609, zs_299_609n, zs_299_610, zs_299_610n, zs_299_611, zs_299_613, zs_299_614, zs_299_615, zs_299_616, zs_299_616n, zs_299_617, zs_299_620, zs_299_620d, zs_299_622, zs_299_622n, zs_299_623, zs_299_623n, zs_299_624, zs_299_626, zs_299_627, zs_299_628, zs_299_629, zs_299_632, zs_299_632d, zs_299_634, zbk_v, zts_s, List.cons_append, List.nil_append, Option.toList_some, r1, q1, e1, rc, e3]
  · simp (disch := first | exact n6 | exact znw_i) only [zs_299_609, zs_299_609n, zs_299_610, zs_299_610n, zs_299_611, zs_299_613, zs_299_614, zs_299_615, zs_299_616, zs_299_616n, zs_299_617, zs_299_620, zs_299_620d, zs_299_622, zs_299_622n, zs_299_623, zs_299_623n, zs_299_624, zs_299_626, zs_299_627, zs_299_628, zs_299_629, zs_299_632, zs_299_632d, zs_299_634, zbk_v, zts_s, List.cons_append, List.nil_append, Option.toList_some, r1, q1, e1, rc, e3]
theorem kk_14 (T : zTi sv h m b xs w o2 th) (s6 : zL6 l6) (s7 : zL7 l7 l8) (hi : i + 4 ≤ xs.length) (hn : xs.length ≤ 2048) : zgoL sv m b xs i h 1557 (zrun zP sv (zcall zP sv 60) 299 637 [.val (.ref b), .val (.ref m), .val (.ref (m + 119)), .val (.ref (m + 137)), .val (.ref (m + 138)), .val (.int (nI i)), l6, l7, l8] [] h) := by
  have hb := T.2.2.2.2.1.2
  have r1 : ∀ K : Value → zR, zael (h.1 b) 28 (nI i + nI 1) K = K (.int (xs.getD (i + 1) 0)) := fun K => zscr hb (by omega) hn
  have r2 : ∀ K : Value → zR, zael (h.1 b) 28 (nI i + nI 2) K = K (.int (xs.getD (i + 2) 0)) := fun K => zscr hb (by omega) hn
  obtain ⟨k, bv, w1, o3, th', out, hk, ⟨h1, h2, e1, rc, hb1, e3, T2, g2, ho⟩, ZZ⟩ := t_occurrences (x1 := xs.getD (i + 1) 0) (x2 := ((xs.getD (i + 2) 0).toUInt32 % 65536).toInt32) T
  dsimp only at e3
  obtain ⟨a0, rfl⟩ : ∃ a0, bv = .int a0 := by
    first | exact ZZ.1 | exact ZZ
  have q1 : ∀ K : Value → zR, zael (h1.1 b) 28 (nI i + nI 1) K = K (.int (xs.getD (i + 1) 0)) := fun K => zscr hb1 (by omega) hn
  have q2 : ∀ K : Value → zR, zael (h1.1 b) 28 (nI i + nI 2) K = K (.int (xs.getD (i + 2) 0)) := fun K => zscr hb1 (by omega) hn
  have n6 := zL6_n s6
  refine ⟨.val (.int (nI k)), .val (.int a0), .unset, h2, w1, o3, _, ?_, Or.inr ⟨_, rfl⟩, Or.inl ⟨rfl, Or.inr (Or.inl ⟨_, rfl⟩)⟩, T2, g2⟩
  rcases zL7_n s7 with ⟨n7, rfl⟩ | ⟨⟨x, rfl⟩, rfl⟩
  · simp (disch := first | exact n6 | exact n7 | exact znw_i) only [zs_299_637, zs_299_637n, zs_299_638, zs_299_638n, zs_299_639, zs_299_641, zs_299_642, zs_299_643, zs_299_644, zs_299_644n, zs_299_645, zs_299_647, zs_299_648, zs_299_649, zs_299_650, zs_299_651, zs_299_651n, zs_299_652, zs_299_655, zs_299_655d, zs_299_657, zs_299_657n, zs_299_658, zs_299_658n, zs_299_659, zs_299_661, zs_299_662, zs_299_663, zs_299_664, zs_299_664n, zs_299_665, zs_299_667, zs_299_668, zs_299_669, zs_299_670, zs_299_671, zs_299_674, zs_299_674d, zs_299_676, zbk_v, zts_s, List.cons_append, List.nil_append, Option.toList_some, r1, q1, r2, q2, e1, rc, e3]
  · simp (disch := first | exact n6 | exact znw_i) only [zs_299_637, zs_299_637n, zs_299_638, zs_299_638n, zs_299_639, zs_299_641, zs_299_642, zs_299_643, zs_299_644, zs_299_644n, zs_299_645, zs_299_647, zs_299_648, zs_299_649, zs_299_650, zs_299_651, zs_299_651n, zs_299_652, zs_299_655, zs_299_655d, zs_299_657, zs_299_657n, zs_299_658, zs_299_658n, zs_299_659, zs_299_661, zs_299_662, zs_299_663, zs_299_664, zs_299_664n, zs_299_665, zs_299_667, zs_299_668, zs_299_669, zs_299_670, zs_299_671, zs_299_674, zs_299_674d, zs_299_676, zbk_v, zts_s, List.cons_append, List.nil_append, Option.toList_some, r1, q1, r2, q2, e1, rc, e3]
theorem kk_15 (T : zTi sv h m b xs w o2 th) (s6 : zL6 l6) (s7 : zL7 l7 l8) (hi : i + 4 ≤ xs.length) (hn : xs.length ≤ 2048) : zgoL sv m b xs i h 1557 (zrun zP sv (zcall zP sv 60) 299 679 [.val (.ref b), .val (.ref m), .val (.ref (m + 119)), .val (.ref (m + 137)), .val (.ref (m + 138)), .val (.int (nI i)), l6, l7, l8] [] h) := by
  have hb := T.2.2.2.2.1.2
  have r1 : ∀ K : Value → zR, zael (h.1 b) 28 (nI i + nI 1) K = K (.int (xs.getD (i + 1) 0)) := fun K => zscr hb (by omega) hn
  obtain ⟨k, bv, w1, o3, th', out, hk, ⟨h1, h2, e1, rc, hb1, e3, T2, g2, ho⟩, ZZ⟩ := t_degree (x1 := xs.getD (i + 1) 0) T
  dsimp only at e3
  obtain ⟨a0, rfl⟩ : ∃ a0, bv = .int a0 := by
    first | exact ZZ.1 | exact ZZ
  have q1 : ∀ K : Value → zR, zael (h1.1 b) 28 (nI i + nI 1) K = K (.int (xs.getD (i + 1) 0)) := fun K => zscr hb1 (by omega) hn
  have n6 := zL6_n s6
  refine ⟨.val (.int (nI k)), .val (.int a0), .unset, h2, w1, o3, _, ?_, Or.inr ⟨_, rfl⟩, Or.inl ⟨rfl, Or.inr (Or.inl ⟨_, rfl⟩)⟩, T2, g2⟩
  rcases zL7_n s7 with ⟨n7, rfl⟩ | ⟨⟨x, rfl⟩, rfl⟩
  · simp (disch := first | exact n6 | exact n7 | exact znw_i) only [zs_299_679, zs_299_679n, zs_299_680, zs_299_680n, zs_299_681, zs_299_683, zs_299_684, zs_299_685, zs_299_686, zs_299_686n, zs_299_687, zs_299_690, zs_299_690d, zs_299_692, zs_299_692n, zs_299_693, zs_299_693n, zs_299_694, zs_299_696, zs_299_697, zs_299_698, zs_299_699, zs_299_702, zs_299_702d, zs_299_704, zbk_v, zts_s, List.cons_append, List.nil_append, Option.toList_some, r1, q1, e1, rc, e3]
  · simp (disch := first | exact n6 | exact znw_i) only [zs_299_679, zs_299_679n, zs_299_680, zs_299_680n, zs_299_681, zs_299_683, zs_299_684, zs_299_685, zs_299_686, zs_299_686n, zs_299_687, zs_299_690, zs_299_690d, zs_299_692, zs_299_692n, zs_299_693, zs_299_693n, zs_299_694, zs_299_696, zs_299_697, zs_299_698, zs_299_699, zs_299_702, zs_299_702d, zs_299_704, zbk_v, zts_s, List.cons_append, List.nil_append, Option.toList_some, r1, q1, e1, rc, e3]
theorem kk_16 (T : zTi sv h m b xs w o2 th) (s6 : zL6 l6) (s7 : zL7 l7 l8) (hi : i + 4 ≤ xs.length) (hn : xs.length ≤ 2048) : zgoL sv m b xs i h 1557 (zrun zP sv (zcall zP sv 60) 299 707 [.val (.ref b), .val (.ref m), .val (.ref (m + 119)), .val (.ref (m + 137)), .val (.ref (m + 138)), .val (.int (nI i)), l6, l7, l8] [] h) := by
  have hb := T.2.2.2.2.1.2
  have r1 : ∀ K : Value → zR, zael (h.1 b) 28 (nI i + nI 1) K = K (.int (xs.getD (i + 1) 0)) := fun K => zscr hb (by omega) hn
  obtain ⟨k, bv, w1, o3, th', out, hk, ⟨h1, h2, e1, rc, hb1, e3, T2, g2, ho⟩, ZZ⟩ := t_isConstant (x1 := xs.getD (i + 1) 0) T
  dsimp only at e3
  obtain ⟨a0, rfl⟩ : ∃ a0, bv = .int a0 := by
    first | exact ZZ.1 | exact ZZ
  have q1 : ∀ K : Value → zR, zael (h1.1 b) 28 (nI i + nI 1) K = K (.int (xs.getD (i + 1) 0)) := fun K => zscr hb1 (by omega) hn
  have n6 := zL6_n s6
  refine ⟨.val (.int (nI k)), .val (.int a0), .unset, h2, w1, o3, _, ?_, Or.inr ⟨_, rfl⟩, Or.inl ⟨rfl, Or.inr (Or.inl ⟨_, rfl⟩)⟩, T2, g2⟩
  rcases zL7_n s7 with ⟨n7, rfl⟩ | ⟨⟨x, rfl⟩, rfl⟩
  · simp (disch := first | exact n6 | exact n7 | exact znw_i) only [zs_299_707, zs_299_707n, zs_299_708, zs_299_708n, zs_299_709, zs_299_711, zs_299_712, zs_299_713, zs_299_714, zs_299_714n, zs_299_715, zs_299_718, zs_299_718d, zs_299_720, zs_299_720n, zs_299_721, zs_299_721n, zs_299_722, zs_299_724, zs_299_725, zs_299_726, zs_299_727, zs_299_730, zs_299_730d, zs_299_732, zbk_v, zts_s, List.cons_append, List.nil_append, Option.toList_some, r1, q1, e1, rc, e3]
  · simp (disch := first | exact n6 | exact znw_i) only [zs_299_707, zs_299_707n, zs_299_708, zs_299_708n, zs_299_709, zs_299_711, zs_299_712, zs_299_713, zs_299_714, zs_299_714n, zs_299_715, zs_299_718, zs_299_718d, zs_299_720, zs_299_720n, zs_299_721, zs_299_721n, zs_299_722, zs_299_724, zs_299_725, zs_299_726, zs_299_727, zs_299_730, zs_299_730d, zs_299_732, zbk_v, zts_s, List.cons_append, List.nil_append, Option.toList_some, r1, q1, e1, rc, e3]
theorem kk_17 (T : zTi sv h m b xs w o2 th) (s6 : zL6 l6) (s7 : zL7 l7 l8) (hi : i + 4 ≤ xs.length) (hn : xs.length ≤ 2048) : zgoL sv m b xs i h 1557 (zrun zP sv (zcall zP sv 60) 299 735 [.val (.ref b), .val (.ref m), .val (.ref (m + 119)), .val (.ref (m + 137)), .val (.ref (m + 138)), .val (.int (nI i)), l6, l7, l8] [] h) := by
  have hb := T.2.2.2.2.1.2
  have r1 : ∀ K : Value → zR, zael (h.1 b) 28 (nI i + nI 1) K = K (.int (xs.getD (i + 1) 0)) := fun K => zscr hb (by omega) hn
  have r2 : ∀ K : Value → zR, zael (h.1 b) 28 (nI i + nI 2) K = K (.int (xs.getD (i + 2) 0)) := fun K => zscr hb (by omega) hn
  obtain ⟨k, bv, w1, o3, th', out, hk, ⟨h1, h2, e1, rc, hb1, e3, T2, g2, ho⟩, ZZ⟩ := t_isSame (x1 := xs.getD (i + 1) 0) (x2 := xs.getD (i + 2) 0) T
  dsimp only at e3
  obtain ⟨a0, rfl⟩ : ∃ a0, bv = .int a0 := by
    first | exact ZZ.1 | exact ZZ
  have q1 : ∀ K : Value → zR, zael (h1.1 b) 28 (nI i + nI 1) K = K (.int (xs.getD (i + 1) 0)) := fun K => zscr hb1 (by omega) hn
  have q2 : ∀ K : Value → zR, zael (h1.1 b) 28 (nI i + nI 2) K = K (.int (xs.getD (i + 2) 0)) := fun K => zscr hb1 (by omega) hn
  have n6 := zL6_n s6
  refine ⟨.val (.int (nI k)), .val (.int a0), .unset, h2, w1, o3, _, ?_, Or.inr ⟨_, rfl⟩, Or.inl ⟨rfl, Or.inr (Or.inl ⟨_, rfl⟩)⟩, T2, g2⟩
  rcases zL7_n s7 with ⟨n7, rfl⟩ | ⟨⟨x, rfl⟩, rfl⟩
  · simp (disch := first | exact n6 | exact n7 | exact znw_i) only [zs_299_735, zs_299_735n, zs_299_736, zs_299_736n, zs_299_737, zs_299_739, zs_299_740, zs_299_741, zs_299_742, zs_299_742n, zs_299_743, zs_299_745, zs_299_746, zs_299_747, zs_299_748, zs_299_748n, zs_299_749, zs_299_752, zs_299_752d, zs_299_754, zs_299_754n, zs_299_755, zs_299_755n, zs_299_756, zs_299_758, zs_299_759, zs_299_760, zs_299_761, zs_299_761n, zs_299_762, zs_299_764, zs_299_765, zs_299_766, zs_299_767, zs_299_770, zs_299_770d, zs_299_772, zbk_v, zts_s, List.cons_append, List.nil_append, Option.toList_some, r1, q1, r2, q2, e1, rc, e3]
  · simp (disch := first | exact n6 | exact znw_i) only [zs_299_735, zs_299_735n, zs_299_736, zs_299_736n, zs_299_737, zs_299_739, zs_299_740, zs_299_741, zs_299_742, zs_299_742n, zs_299_743, zs_299_745, zs_299_746, zs_299_747, zs_299_748, zs_299_748n, zs_299_749, zs_299_752, zs_299_752d, zs_299_754, zs_299_754n, zs_299_755, zs_299_755n, zs_299_756, zs_299_758, zs_299_759, zs_299_760, zs_299_761, zs_299_761n, zs_299_762, zs_299_764, zs_299_765, zs_299_766, zs_299_767, zs_299_770, zs_299_770d, zs_299_772, zbk_v, zts_s, List.cons_append, List.nil_append, Option.toList_some, r1, q1, r2, q2, e1, rc, e3]
theorem kk_18 (T : zTi sv h m b xs w o2 th) (s6 : zL6 l6) (s7 : zL7 l7 l8) (hi : i + 4 ≤ xs.length) (hn : xs.length ≤ 2048) : zgoL sv m b xs i h 1557 (zrun zP sv (zcall zP sv 60) 299 775 [.val (.ref b), .val (.ref m), .val (.ref (m + 119)), .val (.ref (m + 137)), .val (.ref (m + 138)), .val (.int (nI i)), l6, l7, l8] [] h) := by
  have hb := T.2.2.2.2.1.2
  have r1 : ∀ K : Value → zR, zael (h.1 b) 28 (nI i + nI 1) K = K (.int (xs.getD (i + 1) 0)) := fun K => zscr hb (by omega) hn
  obtain ⟨k, bv, w1, o3, th', out, hk, ⟨h1, h2, e1, rc, hb1, e3, T2, g2, ho⟩, ZZ⟩ := t_distinctParts (x1 := xs.getD (i + 1) 0) T
  dsimp only at e3
  obtain ⟨a0, rfl⟩ : ∃ a0, bv = .int a0 := by
    first | exact ZZ.1 | exact ZZ
  have q1 : ∀ K : Value → zR, zael (h1.1 b) 28 (nI i + nI 1) K = K (.int (xs.getD (i + 1) 0)) := fun K => zscr hb1 (by omega) hn
  have n6 := zL6_n s6
  refine ⟨.val (.int (nI k)), .val (.int a0), .unset, h2, w1, o3, _, ?_, Or.inr ⟨_, rfl⟩, Or.inl ⟨rfl, Or.inr (Or.inl ⟨_, rfl⟩)⟩, T2, g2⟩
  rcases zL7_n s7 with ⟨n7, rfl⟩ | ⟨⟨x, rfl⟩, rfl⟩
  · simp (disch := first | exact n6 | exact n7 | exact znw_i) only [zs_299_775, zs_299_775n, zs_299_776, zs_299_776n, zs_299_777, zs_299_779, zs_299_780, zs_299_781, zs_299_782, zs_299_782n, zs_299_783, zs_299_786, zs_299_786d, zs_299_788, zs_299_788n, zs_299_789, zs_299_789n, zs_299_790, zs_299_792, zs_299_793, zs_299_794, zs_299_795, zs_299_798, zs_299_798d, zs_299_800, zbk_v, zts_s, List.cons_append, List.nil_append, Option.toList_some, r1, q1, e1, rc, e3]
  · simp (disch := first | exact n6 | exact znw_i) only [zs_299_775, zs_299_775n, zs_299_776, zs_299_776n, zs_299_777, zs_299_779, zs_299_780, zs_299_781, zs_299_782, zs_299_782n, zs_299_783, zs_299_786, zs_299_786d, zs_299_788, zs_299_788n, zs_299_789, zs_299_789n, zs_299_790, zs_299_792, zs_299_793, zs_299_794, zs_299_795, zs_299_798, zs_299_798d, zs_299_800, zbk_v, zts_s, List.cons_append, List.nil_append, Option.toList_some, r1, q1, e1, rc, e3]
theorem kk_19 (T : zTi sv h m b xs w o2 th) (s6 : zL6 l6) (s7 : zL7 l7 l8) (hi : i + 4 ≤ xs.length) (hn : xs.length ≤ 2048) : zgoL sv m b xs i h 1557 (zrun zP sv (zcall zP sv 60) 299 803 [.val (.ref b), .val (.ref m), .val (.ref (m + 119)), .val (.ref (m + 137)), .val (.ref (m + 138)), .val (.int (nI i)), l6, l7, l8] [] h) := by
  have hb := T.2.2.2.2.1.2
  have r1 : ∀ K : Value → zR, zael (h.1 b) 28 (nI i + nI 1) K = K (.int (xs.getD (i + 1) 0)) := fun K => zscr hb (by omega) hn
  obtain ⟨k, bv, w1, o3, th', out, hk, ⟨h1, h2, e1, rc, hb1, e3, T2, g2, ho⟩, ZZ⟩ := t_distinctPartsByComparison (x1 := xs.getD (i + 1) 0) T
  dsimp only at e3
  obtain ⟨a0, rfl⟩ : ∃ a0, bv = .int a0 := by
    first | exact ZZ.1 | exact ZZ
  have q1 : ∀ K : Value → zR, zael (h1.1 b) 28 (nI i + nI 1) K = K (.int (xs.getD (i + 1) 0)) := fun K => zscr hb1 (by omega) hn
  have n6 := zL6_n s6
  refine ⟨.val (.int (nI k)), .val (.int a0), .unset, h2, w1, o3, _, ?_, Or.inr ⟨_, rfl⟩, Or.inl ⟨rfl, Or.inr (Or.inl ⟨_, rfl⟩)⟩, T2, g2⟩
  rcases zL7_n s7 with ⟨n7, rfl⟩ | ⟨⟨x, rfl⟩, rfl⟩
  · simp (disch := first | exact n6 | exact n7 | exact znw_i) only [zs_299_803, zs_299_803n, zs_299_804, zs_299_804n, zs_299_805, zs_299_807, zs_299_808, zs_299_809, zs_299_810, zs_299_810n, zs_299_811, zs_299_814, zs_299_814d, zs_299_816, zs_299_816n, zs_299_817, zs_299_817n, zs_299_818, zs_299_820, zs_299_821, zs_299_822, zs_299_823, zs_299_826, zs_299_826d, zs_299_828, zbk_v, zts_s, List.cons_append, List.nil_append, Option.toList_some, r1, q1, e1, rc, e3]
  · simp (disch := first | exact n6 | exact znw_i) only [zs_299_803, zs_299_803n, zs_299_804, zs_299_804n, zs_299_805, zs_299_807, zs_299_808, zs_299_809, zs_299_810, zs_299_810n, zs_299_811, zs_299_814, zs_299_814d, zs_299_816, zs_299_816n, zs_299_817, zs_299_817n, zs_299_818, zs_299_820, zs_299_821, zs_299_822, zs_299_823, zs_299_826, zs_299_826d, zs_299_828, zbk_v, zts_s, List.cons_append, List.nil_append, Option.toList_some, r1, q1, e1, rc, e3]
theorem kk_20 (T : zTi sv h m b xs w o2 th) (s6 : zL6 l6) (s7 : zL7 l7 l8) (hi : i + 4 ≤ xs.length) (hn : xs.length ≤ 2048) : zgoL sv m b xs i h 1557 (zrun zP sv (zcall zP sv 60) 299 831 [.val (.ref b), .val (.ref m), .val (.ref (m + 119)), .val (.ref (m + 137)), .val (.ref (m + 138)), .val (.int (nI i)), l6, l7, l8] [] h) := by
  have hb := T.2.2.2.2.1.2
  have r1 : ∀ K : Value → zR, zael (h.1 b) 28 (nI i + nI 1) K = K (.int (xs.getD (i + 1) 0)) := fun K => zscr hb (by omega) hn
  have r2 : ∀ K : Value → zR, zael (h.1 b) 28 (nI i + nI 2) K = K (.int (xs.getD (i + 2) 0)) := fun K => zscr hb (by omega) hn
  obtain ⟨k, bv, w1, o3, th', out, hk, ⟨h1, h2, e1, rc, hb1, e3, T2, g2, ho⟩, ZZ⟩ := t_commonParts (x1 := xs.getD (i + 1) 0) (x2 := xs.getD (i + 2) 0) T
  dsimp only at e3
  obtain ⟨a0, rfl⟩ : ∃ a0, bv = .int a0 := by
    first | exact ZZ.1 | exact ZZ
  have q1 : ∀ K : Value → zR, zael (h1.1 b) 28 (nI i + nI 1) K = K (.int (xs.getD (i + 1) 0)) := fun K => zscr hb1 (by omega) hn
  have q2 : ∀ K : Value → zR, zael (h1.1 b) 28 (nI i + nI 2) K = K (.int (xs.getD (i + 2) 0)) := fun K => zscr hb1 (by omega) hn
  have n6 := zL6_n s6
  refine ⟨.val (.int (nI k)), .val (.int a0), .unset, h2, w1, o3, _, ?_, Or.inr ⟨_, rfl⟩, Or.inl ⟨rfl, Or.inr (Or.inl ⟨_, rfl⟩)⟩, T2, g2⟩
  rcases zL7_n s7 with ⟨n7, rfl⟩ | ⟨⟨x, rfl⟩, rfl⟩
  · simp (disch := first | exact n6 | exact n7 | exact znw_i) only [zs_299_831, zs_299_831n, zs_299_832, zs_299_832n, zs_299_833, zs_299_835, zs_299_836, zs_299_837, zs_299_838, zs_299_838n, zs_299_839, zs_299_841, zs_299_842, zs_299_843, zs_299_844, zs_299_844n, zs_299_845, zs_299_848, zs_299_848d, zs_299_850, zs_299_850n, zs_299_851, zs_299_851n, zs_299_852, zs_299_854, zs_299_855, zs_299_856, zs_299_857, zs_299_857n, zs_299_858, zs_299_860, zs_299_861, zs_299_862, zs_299_863, zs_299_866, zs_299_866d, zs_299_868, zbk_v, zts_s, List.cons_append, List.nil_append, Option.toList_some, r1, q1, r2, q2, e1, rc, e3]
  · simp (disch := first | exact n6 | exact znw_i) only [zs_299_831, zs_299_831n, zs_299_832, zs_299_832n, zs_299_833, zs_299_835, zs_299_836, zs_299_837, zs_299_838, zs_299_838n, zs_299_839, zs_299_841, zs_299_842, zs_299_843, zs_299_844, zs_299_844n, zs_299_845, zs_299_848, zs_299_848d, zs_299_850, zs_299_850n, zs_299_851, zs_299_851n, zs_299_852, zs_299_854, zs_299_855, zs_299_856, zs_299_857, zs_299_857n, zs_299_858, zs_299_860, zs_299_861, zs_299_862, zs_299_863, zs_299_866, zs_299_866d, zs_299_868, zbk_v, zts_s, List.cons_append, List.nil_append, Option.toList_some, r1, q1, r2, q2, e1, rc, e3]
theorem kk_21 (T : zTi sv h m b xs w o2 th) (s6 : zL6 l6) (s7 : zL7 l7 l8) (hi : i + 4 ≤ xs.length) (hn : xs.length ≤ 2048) : zgoL sv m b xs i h 1557 (zrun zP sv (zcall zP sv 60) 299 871 [.val (.ref b), .val (.ref m), .val (.ref (m + 119)), .val (.ref (m + 137)), .val (.ref (m + 138)), .val (.int (nI i)), l6, l7, l8] [] h) := by
  have hb := T.2.2.2.2.1.2
  have r1 : ∀ K : Value → zR, zael (h.1 b) 28 (nI i + nI 1) K = K (.int (xs.getD (i + 1) 0)) := fun K => zscr hb (by omega) hn
  obtain ⟨k, bv, w1, o3, th', out, hk, ⟨h1, h2, e1, rc, hb1, e3, T2, g2, ho⟩, ZZ⟩ := t_value (x1 := xs.getD (i + 1) 0) T
  dsimp only at e3
  obtain ⟨a0, rfl⟩ : ∃ a0, bv = .int a0 := by
    first | exact ZZ.1 | exact ZZ
  have q1 : ∀ K : Value → zR, zael (h1.1 b) 28 (nI i + nI 1) K = K (.int (xs.getD (i + 1) 0)) := fun K => zscr hb1 (by omega) hn
  have n6 := zL6_n s6
  refine ⟨.val (.int (nI k)), .val (.int a0), .unset, h2, w1, o3, _, ?_, Or.inr ⟨_, rfl⟩, Or.inl ⟨rfl, Or.inr (Or.inl ⟨_, rfl⟩)⟩, T2, g2⟩
  rcases zL7_n s7 with ⟨n7, rfl⟩ | ⟨⟨x, rfl⟩, rfl⟩
  · simp (disch := first | exact n6 | exact n7 | exact znw_i) only [zs_299_871, zs_299_871n, zs_299_872, zs_299_872n, zs_299_873, zs_299_875, zs_299_876, zs_299_877, zs_299_878, zs_299_878n, zs_299_879, zs_299_882, zs_299_882d, zs_299_884, zs_299_884n, zs_299_885, zs_299_885n, zs_299_886, zs_299_888, zs_299_889, zs_299_890, zs_299_891, zs_299_894, zs_299_894d, zs_299_896, zbk_v, zts_s, List.cons_append, List.nil_append, Option.toList_some, r1, q1, e1, rc, e3]
  · simp (disch := first | exact n6 | exact znw_i) only [zs_299_871, zs_299_871n, zs_299_872, zs_299_872n, zs_299_873, zs_299_875, zs_299_876, zs_299_877, zs_299_878, zs_299_878n, zs_299_879, zs_299_882, zs_299_882d, zs_299_884, zs_299_884n, zs_299_885, zs_299_885n, zs_299_886, zs_299_888, zs_299_889, zs_299_890, zs_299_891, zs_299_894, zs_299_894d, zs_299_896, zbk_v, zts_s, List.cons_append, List.nil_append, Option.toList_some, r1, q1, e1, rc, e3]
theorem kk_22 (T : zTi sv h m b xs w o2 th) (s6 : zL6 l6) (s7 : zL7 l7 l8) (hi : i + 4 ≤ xs.length) (hn : xs.length ≤ 2048) : zgoL sv m b xs i h 1557 (zrun zP sv (zcall zP sv 60) 299 899 [.val (.ref b), .val (.ref m), .val (.ref (m + 119)), .val (.ref (m + 137)), .val (.ref (m + 138)), .val (.int (nI i)), l6, l7, l8] [] h) := by
  have hb := T.2.2.2.2.1.2
  have r1 : ∀ K : Value → zR, zael (h.1 b) 28 (nI i + nI 1) K = K (.int (xs.getD (i + 1) 0)) := fun K => zscr hb (by omega) hn
  obtain ⟨k, bv, w1, o3, th', out, hk, ⟨h1, h2, e1, rc, hb1, e3, T2, g2, ho⟩, ZZ⟩ := t_valueByCode (x1 := xs.getD (i + 1) 0) T
  dsimp only at e3
  obtain ⟨a0, rfl⟩ : ∃ a0, bv = .int a0 := by
    first | exact ZZ.1 | exact ZZ
  have q1 : ∀ K : Value → zR, zael (h1.1 b) 28 (nI i + nI 1) K = K (.int (xs.getD (i + 1) 0)) := fun K => zscr hb1 (by omega) hn
  have n6 := zL6_n s6
  refine ⟨.val (.int (nI k)), .val (.int a0), .unset, h2, w1, o3, _, ?_, Or.inr ⟨_, rfl⟩, Or.inl ⟨rfl, Or.inr (Or.inl ⟨_, rfl⟩)⟩, T2, g2⟩
  rcases zL7_n s7 with ⟨n7, rfl⟩ | ⟨⟨x, rfl⟩, rfl⟩
  · simp (disch := first | exact n6 | exact n7 | exact znw_i) only [zs_299_899, zs_299_899n, zs_299_900, zs_299_900n, zs_299_901, zs_299_903, zs_299_904, zs_299_905, zs_299_906, zs_299_906n, zs_299_907, zs_299_910, zs_299_910d, zs_299_912, zs_299_912n, zs_299_913, zs_299_913n, zs_299_914, zs_299_916, zs_299_917, zs_299_918, zs_299_919, zs_299_922, zs_299_922d, zs_299_924, zbk_v, zts_s, List.cons_append, List.nil_append, Option.toList_some, r1, q1, e1, rc, e3]
  · simp (disch := first | exact n6 | exact znw_i) only [zs_299_899, zs_299_899n, zs_299_900, zs_299_900n, zs_299_901, zs_299_903, zs_299_904, zs_299_905, zs_299_906, zs_299_906n, zs_299_907, zs_299_910, zs_299_910d, zs_299_912, zs_299_912n, zs_299_913, zs_299_913n, zs_299_914, zs_299_916, zs_299_917, zs_299_918, zs_299_919, zs_299_922, zs_299_922d, zs_299_924, zbk_v, zts_s, List.cons_append, List.nil_append, Option.toList_some, r1, q1, e1, rc, e3]
theorem kk_23 (T : zTi sv h m b xs w o2 th) (s6 : zL6 l6) (s7 : zL7 l7 l8) (hi : i + 4 ≤ xs.length) (hn : xs.length ≤ 2048) : zgoL sv m b xs i h 1557 (zrun zP sv (zcall zP sv 60) 299 927 [.val (.ref b), .val (.ref m), .val (.ref (m + 119)), .val (.ref (m + 137)), .val (.ref (m + 138)), .val (.int (nI i)), l6, l7, l8] [] h) := by
  have hb := T.2.2.2.2.1.2
  have r1 : ∀ K : Value → zR, zael (h.1 b) 28 (nI i + nI 1) K = K (.int (xs.getD (i + 1) 0)) := fun K => zscr hb (by omega) hn
  have r2 : ∀ K : Value → zR, zael (h.1 b) 28 (nI i + nI 2) K = K (.int (xs.getD (i + 2) 0)) := fun K => zscr hb (by omega) hn
  obtain ⟨k, bv, w1, o3, th', out, hk, ⟨h1, h2, e1, rc, hb1, e3, T2, g2, ho⟩, ZZ⟩ := t_slope (x1 := xs.getD (i + 1) 0) (x2 := ((xs.getD (i + 2) 0).toUInt32 % 65536).toInt32) T
  dsimp only at e3
  obtain ⟨a0, rfl⟩ : ∃ a0, bv = .int a0 := by
    first | exact ZZ.1 | exact ZZ
  have q1 : ∀ K : Value → zR, zael (h1.1 b) 28 (nI i + nI 1) K = K (.int (xs.getD (i + 1) 0)) := fun K => zscr hb1 (by omega) hn
  have q2 : ∀ K : Value → zR, zael (h1.1 b) 28 (nI i + nI 2) K = K (.int (xs.getD (i + 2) 0)) := fun K => zscr hb1 (by omega) hn
  have n6 := zL6_n s6
  refine ⟨.val (.int (nI k)), .val (.int a0), .unset, h2, w1, o3, _, ?_, Or.inr ⟨_, rfl⟩, Or.inl ⟨rfl, Or.inr (Or.inl ⟨_, rfl⟩)⟩, T2, g2⟩
  rcases zL7_n s7 with ⟨n7, rfl⟩ | ⟨⟨x, rfl⟩, rfl⟩
  · simp (disch := first | exact n6 | exact n7 | exact znw_i) only [zs_299_927, zs_299_927n, zs_299_928, zs_299_928n, zs_299_929, zs_299_931, zs_299_932, zs_299_933, zs_299_934, zs_299_934n, zs_299_935, zs_299_937, zs_299_938, zs_299_939, zs_299_940, zs_299_941, zs_299_941n, zs_299_942, zs_299_945, zs_299_945d, zs_299_947, zs_299_947n, zs_299_948, zs_299_948n, zs_299_949, zs_299_951, zs_299_952, zs_299_953, zs_299_954, zs_299_954n, zs_299_955, zs_299_957, zs_299_958, zs_299_959, zs_299_960, zs_299_961, zs_299_964, zs_299_964d, zs_299_966, zbk_v, zts_s, List.cons_append, List.nil_append, Option.toList_some, r1, q1, r2, q2, e1, rc, e3]
  · simp (disch := first | exact n6 | exact znw_i) only [zs_299_927, zs_299_927n, zs_299_928, zs_299_928n, zs_299_929, zs_299_931, zs_299_932, zs_299_933, zs_299_934, zs_299_934n, zs_299_935, zs_299_937, zs_299_938, zs_299_939, zs_299_940, zs_299_941, zs_299_941n, zs_299_942, zs_299_945, zs_299_945d, zs_299_947, zs_299_947n, zs_299_948, zs_299_948n, zs_299_949, zs_299_951, zs_299_952, zs_299_953, zs_299_954, zs_299_954n, zs_299_955, zs_299_957, zs_299_958, zs_299_959, zs_299_960, zs_299_961, zs_299_964, zs_299_964d, zs_299_966, zbk_v, zts_s, List.cons_append, List.nil_append, Option.toList_some, r1, q1, r2, q2, e1, rc, e3]
theorem kk_24 (T : zTi sv h m b xs w o2 th) (s6 : zL6 l6) (s7 : zL7 l7 l8) (hi : i + 4 ≤ xs.length) (hn : xs.length ≤ 2048) : zgoL sv m b xs i h 1557 (zrun zP sv (zcall zP sv 60) 299 969 [.val (.ref b), .val (.ref m), .val (.ref (m + 119)), .val (.ref (m + 137)), .val (.ref (m + 138)), .val (.int (nI i)), l6, l7, l8] [] h) := by
  have hb := T.2.2.2.2.1.2
  have r1 : ∀ K : Value → zR, zael (h.1 b) 28 (nI i + nI 1) K = K (.int (xs.getD (i + 1) 0)) := fun K => zscr hb (by omega) hn
  have r2 : ∀ K : Value → zR, zael (h.1 b) 28 (nI i + nI 2) K = K (.int (xs.getD (i + 2) 0)) := fun K => zscr hb (by omega) hn
  obtain ⟨k, bv, w1, o3, th', out, hk, ⟨h1, h2, e1, rc, hb1, e3, T2, g2, ho⟩, ZZ⟩ := t_slopeByDerivative (x1 := xs.getD (i + 1) 0) (x2 := ((xs.getD (i + 2) 0).toUInt32 % 65536).toInt32) T
  dsimp only at e3
  obtain ⟨a0, rfl⟩ : ∃ a0, bv = .int a0 := by
    first | exact ZZ.1 | exact ZZ
  have q1 : ∀ K : Value → zR, zael (h1.1 b) 28 (nI i + nI 1) K = K (.int (xs.getD (i + 1) 0)) := fun K => zscr hb1 (by omega) hn
  have q2 : ∀ K : Value → zR, zael (h1.1 b) 28 (nI i + nI 2) K = K (.int (xs.getD (i + 2) 0)) := fun K => zscr hb1 (by omega) hn
  have n6 := zL6_n s6
  refine ⟨.val (.int (nI k)), .val (.int a0), .unset, h2, w1, o3, _, ?_, Or.inr ⟨_, rfl⟩, Or.inl ⟨rfl, Or.inr (Or.inl ⟨_, rfl⟩)⟩, T2, g2⟩
  rcases zL7_n s7 with ⟨n7, rfl⟩ | ⟨⟨x, rfl⟩, rfl⟩
  · simp (disch := first | exact n6 | exact n7 | exact znw_i) only [zs_299_969, zs_299_969n, zs_299_970, zs_299_970n, zs_299_971, zs_299_973, zs_299_974, zs_299_975, zs_299_976, zs_299_976n, zs_299_977, zs_299_979, zs_299_980, zs_299_981, zs_299_982, zs_299_983, zs_299_983n, zs_299_984, zs_299_987, zs_299_987d, zs_299_989, zs_299_989n, zs_299_990, zs_299_990n, zs_299_991, zs_299_993, zs_299_994, zs_299_995, zs_299_996, zs_299_996n, zs_299_997, zs_299_999, zs_299_1000, zs_299_1001, zs_299_1002, zs_299_1003, zs_299_1006, zs_299_1006d, zs_299_1008, zbk_v, zts_s, List.cons_append, List.nil_append, Option.toList_some, r1, q1, r2, q2, e1, rc, e3]
  · simp (disch := first | exact n6 | exact znw_i) only [zs_299_969, zs_299_969n, zs_299_970, zs_299_970n, zs_299_971, zs_299_973, zs_299_974, zs_299_975, zs_299_976, zs_299_976n, zs_299_977, zs_299_979, zs_299_980, zs_299_981, zs_299_982, zs_299_983, zs_299_983n, zs_299_984, zs_299_987, zs_299_987d, zs_299_989, zs_299_989n, zs_299_990, zs_299_990n, zs_299_991, zs_299_993, zs_299_994, zs_299_995, zs_299_996, zs_299_996n, zs_299_997, zs_299_999, zs_299_1000, zs_299_1001, zs_299_1002, zs_299_1003, zs_299_1006, zs_299_1006d, zs_299_1008, zbk_v, zts_s, List.cons_append, List.nil_append, Option.toList_some, r1, q1, r2, q2, e1, rc, e3]
theorem kk_25 (T : zTi sv h m b xs w o2 th) (s6 : zL6 l6) (s7 : zL7 l7 l8) (hi : i + 4 ≤ xs.length) (hn : xs.length ≤ 2048) : zgoL sv m b xs i h 1557 (zrun zP sv (zcall zP sv 60) 299 1011 [.val (.ref b), .val (.ref m), .val (.ref (m + 119)), .val (.ref (m + 137)), .val (.ref (m + 138)), .val (.int (nI i)), l6, l7, l8] [] h) := by
  have hb := T.2.2.2.2.1.2
  have r1 : ∀ K : Value → zR, zael (h.1 b) 28 (nI i + nI 1) K = K (.int (xs.getD (i + 1) 0)) := fun K => zscr hb (by omega) hn
  obtain ⟨k, bv, w1, o3, th', out, hk, ⟨h1, h2, e1, rc, hb1, e3, T2, g2, ho⟩, ZZ⟩ := t_neededRegisters (x1 := xs.getD (i + 1) 0) T
  dsimp only at e3
  obtain ⟨a0, rfl⟩ : ∃ a0, bv = .int a0 := by
    first | exact ZZ.1 | exact ZZ
  have q1 : ∀ K : Value → zR, zael (h1.1 b) 28 (nI i + nI 1) K = K (.int (xs.getD (i + 1) 0)) := fun K => zscr hb1 (by omega) hn
  have n6 := zL6_n s6
  refine ⟨.val (.int (nI k)), .val (.int a0), .unset, h2, w1, o3, _, ?_, Or.inr ⟨_, rfl⟩, Or.inl ⟨rfl, Or.inr (Or.inl ⟨_, rfl⟩)⟩, T2, g2⟩
  rcases zL7_n s7 with ⟨n7, rfl⟩ | ⟨⟨x, rfl⟩, rfl⟩
  · simp (disch := first | exact n6 | exact n7 | exact znw_i) only [zs_299_1011, zs_299_1011n, zs_299_1012, zs_299_1012n, zs_299_1013, zs_299_1015, zs_299_1016, zs_299_1017, zs_299_1018, zs_299_1018n, zs_299_1019, zs_299_1022, zs_299_1022d, zs_299_1024, zs_299_1024n, zs_299_1025, zs_299_1025n, zs_299_1026, zs_299_1028, zs_299_1029, zs_299_1030, zs_299_1031, zs_299_1034, zs_299_1034d, zs_299_1036, zbk_v, zts_s, List.cons_append, List.nil_append, Option.toList_some, r1, q1, e1, rc, e3]
  · simp (disch := first | exact n6 | exact znw_i) only [zs_299_1011, zs_299_1011n, zs_299_1012, zs_299_1012n, zs_299_1013, zs_299_1015, zs_299_1016, zs_299_1017, zs_299_1018, zs_299_1018n, zs_299_1019, zs_299_1022, zs_299_1022d, zs_299_1024, zs_299_1024n, zs_299_1025, zs_299_1025n, zs_299_1026, zs_299_1028, zs_299_1029, zs_299_1030, zs_299_1031, zs_299_1034, zs_299_1034d, zs_299_1036, zbk_v, zts_s, List.cons_append, List.nil_append, Option.toList_some, r1, q1, e1, rc, e3]
theorem kk_26 (T : zTi sv h m b xs w o2 th) (s6 : zL6 l6) (s7 : zL7 l7 l8) (hi : i + 4 ≤ xs.length) (hn : xs.length ≤ 2048) : zgoL sv m b xs i h 1557 (zrun zP sv (zcall zP sv 60) 299 1039 [.val (.ref b), .val (.ref m), .val (.ref (m + 119)), .val (.ref (m + 137)), .val (.ref (m + 138)), .val (.int (nI i)), l6, l7, l8] [] h) := by
  have hb := T.2.2.2.2.1.2
  have r1 : ∀ K : Value → zR, zael (h.1 b) 28 (nI i + nI 1) K = K (.int (xs.getD (i + 1) 0)) := fun K => zscr hb (by omega) hn
  obtain ⟨k, bv, w1, o3, th', out, hk, ⟨h1, h2, e1, rc, hb1, e3, T2, g2, ho⟩, ZZ⟩ := t_neededRegistersByOrders (x1 := xs.getD (i + 1) 0) T
  dsimp only at e3
  obtain ⟨a0, rfl⟩ : ∃ a0, bv = .int a0 := by
    first | exact ZZ.1 | exact ZZ
  have q1 : ∀ K : Value → zR, zael (h1.1 b) 28 (nI i + nI 1) K = K (.int (xs.getD (i + 1) 0)) := fun K => zscr hb1 (by omega) hn
  have n6 := zL6_n s6
  refine ⟨.val (.int (nI k)), .val (.int a0), .unset, h2, w1, o3, _, ?_, Or.inr ⟨_, rfl⟩, Or.inl ⟨rfl, Or.inr (Or.inl ⟨_, rfl⟩)⟩, T2, g2⟩
  rcases zL7_n s7 with ⟨n7, rfl⟩ | ⟨⟨x, rfl⟩, rfl⟩
  · simp (disch := first | exact n6 | exact n7 | exact znw_i) only [zs_299_1039, zs_299_1039n, zs_299_1040, zs_299_1040n, zs_299_1041, zs_299_1043, zs_299_1044, zs_299_1045, zs_299_1046, zs_299_1046n, zs_299_1047, zs_299_1050, zs_299_1050d, zs_299_1052, zs_299_1052n, zs_299_1053, zs_299_1053n, zs_299_1054, zs_299_1056, zs_299_1057, zs_299_1058, zs_299_1059, zs_299_1062, zs_299_1062d, zs_299_1064, zbk_v, zts_s, List.cons_append, List.nil_append, Option.toList_some, r1, q1, e1, rc, e3]
  · simp (disch := first | exact n6 | exact znw_i) only [zs_299_1039, zs_299_1039n, zs_299_1040, zs_299_1040n, zs_299_1041, zs_299_1043, zs_299_1044, zs_299_1045, zs_299_1046, zs_299_1046n, zs_299_1047, zs_299_1050, zs_299_1050d, zs_299_1052, zs_299_1052n, zs_299_1053, zs_299_1053n, zs_299_1054, zs_299_1056, zs_299_1057, zs_299_1058, zs_299_1059, zs_299_1062, zs_299_1062d, zs_299_1064, zbk_v, zts_s, List.cons_append, List.nil_append, Option.toList_some, r1, q1, e1, rc, e3]
theorem kk_27 (T : zTi sv h m b xs w o2 th) (s6 : zL6 l6) (s7 : zL7 l7 l8) (hi : i + 4 ≤ xs.length) (hn : xs.length ≤ 2048) : zgoL sv m b xs i h 1557 (zrun zP sv (zcall zP sv 60) 299 1067 [.val (.ref b), .val (.ref m), .val (.ref (m + 119)), .val (.ref (m + 137)), .val (.ref (m + 138)), .val (.int (nI i)), l6, l7, l8] [] h) := by
  have hb := T.2.2.2.2.1.2
  have r1 : ∀ K : Value → zR, zael (h.1 b) 28 (nI i + nI 1) K = K (.int (xs.getD (i + 1) 0)) := fun K => zscr hb (by omega) hn
  obtain ⟨k, bv, w1, o3, th', out, hk, ⟨h1, h2, e1, rc, hb1, e3, T2, g2, ho⟩, ZZ⟩ := t_codeLength (x1 := xs.getD (i + 1) 0) T
  dsimp only at e3
  obtain ⟨a0, rfl⟩ : ∃ a0, bv = .int a0 := by
    first | exact ZZ.1 | exact ZZ
  have q1 : ∀ K : Value → zR, zael (h1.1 b) 28 (nI i + nI 1) K = K (.int (xs.getD (i + 1) 0)) := fun K => zscr hb1 (by omega) hn
  have n6 := zL6_n s6
  refine ⟨.val (.int (nI k)), .val (.int a0), .unset, h2, w1, o3, _, ?_, Or.inr ⟨_, rfl⟩, Or.inl ⟨rfl, Or.inr (Or.inl ⟨_, rfl⟩)⟩, T2, g2⟩
  rcases zL7_n s7 with ⟨n7, rfl⟩ | ⟨⟨x, rfl⟩, rfl⟩
  · simp (disch := first | exact n6 | exact n7 | exact znw_i) only [zs_299_1067, zs_299_1067n, zs_299_1068, zs_299_1068n, zs_299_1069, zs_299_1071, zs_299_1072, zs_299_1073, zs_299_1074, zs_299_1074n, zs_299_1075, zs_299_1078, zs_299_1078d, zs_299_1080, zs_299_1080n, zs_299_1081, zs_299_1081n, zs_299_1082, zs_299_1084, zs_299_1085, zs_299_1086, zs_299_1087, zs_299_1090, zs_299_1090d, zs_299_1092, zbk_v, zts_s, List.cons_append, List.nil_append, Option.toList_some, r1, q1, e1, rc, e3]
  · simp (disch := first | exact n6 | exact znw_i) only [zs_299_1067, zs_299_1067n, zs_299_1068, zs_299_1068n, zs_299_1069, zs_299_1071, zs_299_1072, zs_299_1073, zs_299_1074, zs_299_1074n, zs_299_1075, zs_299_1078, zs_299_1078d, zs_299_1080, zs_299_1080n, zs_299_1081, zs_299_1081n, zs_299_1082, zs_299_1084, zs_299_1085, zs_299_1086, zs_299_1087, zs_299_1090, zs_299_1090d, zs_299_1092, zbk_v, zts_s, List.cons_append, List.nil_append, Option.toList_some, r1, q1, e1, rc, e3]
theorem kk_28 (T : zTi sv h m b xs w o2 th) (s6 : zL6 l6) (s7 : zL7 l7 l8) (hi : i + 4 ≤ xs.length) (hn : xs.length ≤ 2048) : zgoL sv m b xs i h 1557 (zrun zP sv (zcall zP sv 60) 299 1095 [.val (.ref b), .val (.ref m), .val (.ref (m + 119)), .val (.ref (m + 137)), .val (.ref (m + 138)), .val (.int (nI i)), l6, l7, l8] [] h) := by
  have hb := T.2.2.2.2.1.2
  have r1 : ∀ K : Value → zR, zael (h.1 b) 28 (nI i + nI 1) K = K (.int (xs.getD (i + 1) 0)) := fun K => zscr hb (by omega) hn
  obtain ⟨k, bv, w1, o3, th', out, hk, ⟨h1, h2, e1, rc, hb1, e3, T2, g2, ho⟩, ZZ⟩ := t_storeCount (x1 := xs.getD (i + 1) 0) T
  dsimp only at e3
  obtain ⟨a0, rfl⟩ : ∃ a0, bv = .int a0 := by
    first | exact ZZ.1 | exact ZZ
  have q1 : ∀ K : Value → zR, zael (h1.1 b) 28 (nI i + nI 1) K = K (.int (xs.getD (i + 1) 0)) := fun K => zscr hb1 (by omega) hn
  have n6 := zL6_n s6
  refine ⟨.val (.int (nI k)), .val (.int a0), .unset, h2, w1, o3, _, ?_, Or.inr ⟨_, rfl⟩, Or.inl ⟨rfl, Or.inr (Or.inl ⟨_, rfl⟩)⟩, T2, g2⟩
  rcases zL7_n s7 with ⟨n7, rfl⟩ | ⟨⟨x, rfl⟩, rfl⟩
  · simp (disch := first | exact n6 | exact n7 | exact znw_i) only [zs_299_1095, zs_299_1095n, zs_299_1096, zs_299_1096n, zs_299_1097, zs_299_1099, zs_299_1100, zs_299_1101, zs_299_1102, zs_299_1102n, zs_299_1103, zs_299_1106, zs_299_1106d, zs_299_1108, zs_299_1108n, zs_299_1109, zs_299_1109n, zs_299_1110, zs_299_1112, zs_299_1113, zs_299_1114, zs_299_1115, zs_299_1118, zs_299_1118d, zs_299_1120, zbk_v, zts_s, List.cons_append, List.nil_append, Option.toList_some, r1, q1, e1, rc, e3]
  · simp (disch := first | exact n6 | exact znw_i) only [zs_299_1095, zs_299_1095n, zs_299_1096, zs_299_1096n, zs_299_1097, zs_299_1099, zs_299_1100, zs_299_1101, zs_299_1102, zs_299_1102n, zs_299_1103, zs_299_1106, zs_299_1106d, zs_299_1108, zs_299_1108n, zs_299_1109, zs_299_1109n, zs_299_1110, zs_299_1112, zs_299_1113, zs_299_1114, zs_299_1115, zs_299_1118, zs_299_1118d, zs_299_1120, zbk_v, zts_s, List.cons_append, List.nil_append, Option.toList_some, r1, q1, e1, rc, e3]
theorem kk_29 (T : zTi sv h m b xs w o2 th) (s6 : zL6 l6) (s7 : zL7 l7 l8) (hi : i + 4 ≤ xs.length) (hn : xs.length ≤ 2048) : zgoL sv m b xs i h 1557 (zrun zP sv (zcall zP sv 60) 299 1123 [.val (.ref b), .val (.ref m), .val (.ref (m + 119)), .val (.ref (m + 137)), .val (.ref (m + 138)), .val (.int (nI i)), l6, l7, l8] [] h) := by
  have hb := T.2.2.2.2.1.2
  have r1 : ∀ K : Value → zR, zael (h.1 b) 28 (nI i + nI 1) K = K (.int (xs.getD (i + 1) 0)) := fun K => zscr hb (by omega) hn
  obtain ⟨k, bv, w1, o3, th', out, hk, ⟨h1, h2, e1, rc, hb1, e3, T2, g2, ho⟩, ZZ⟩ := t_slotCount (x1 := xs.getD (i + 1) 0) T
  dsimp only at e3
  obtain ⟨a0, rfl⟩ : ∃ a0, bv = .int a0 := by
    first | exact ZZ.1 | exact ZZ
  have q1 : ∀ K : Value → zR, zael (h1.1 b) 28 (nI i + nI 1) K = K (.int (xs.getD (i + 1) 0)) := fun K => zscr hb1 (by omega) hn
  have n6 := zL6_n s6
  refine ⟨.val (.int (nI k)), .val (.int a0), .unset, h2, w1, o3, _, ?_, Or.inr ⟨_, rfl⟩, Or.inl ⟨rfl, Or.inr (Or.inl ⟨_, rfl⟩)⟩, T2, g2⟩
  rcases zL7_n s7 with ⟨n7, rfl⟩ | ⟨⟨x, rfl⟩, rfl⟩
  · simp (disch := first | exact n6 | exact n7 | exact znw_i) only [zs_299_1123, zs_299_1123n, zs_299_1124, zs_299_1124n, zs_299_1125, zs_299_1127, zs_299_1128, zs_299_1129, zs_299_1130, zs_299_1130n, zs_299_1131, zs_299_1134, zs_299_1134d, zs_299_1136, zs_299_1136n, zs_299_1137, zs_299_1137n, zs_299_1138, zs_299_1140, zs_299_1141, zs_299_1142, zs_299_1143, zs_299_1146, zs_299_1146d, zs_299_1148, zbk_v, zts_s, List.cons_append, List.nil_append, Option.toList_some, r1, q1, e1, rc, e3]
  · simp (disch := first | exact n6 | exact znw_i) only [zs_299_1123, zs_299_1123n, zs_299_1124, zs_299_1124n, zs_299_1125, zs_299_1127, zs_299_1128, zs_299_1129, zs_299_1130, zs_299_1130n, zs_299_1131, zs_299_1134, zs_299_1134d, zs_299_1136, zs_299_1136n, zs_299_1137, zs_299_1137n, zs_299_1138, zs_299_1140, zs_299_1141, zs_299_1142, zs_299_1143, zs_299_1146, zs_299_1146d, zs_299_1148, zbk_v, zts_s, List.cons_append, List.nil_append, Option.toList_some, r1, q1, e1, rc, e3]
theorem kk_30 (T : zTi sv h m b xs w o2 th) (s6 : zL6 l6) (s7 : zL7 l7 l8) (hi : i + 4 ≤ xs.length) (hn : xs.length ≤ 2048) : zgoL sv m b xs i h 1557 (zrun zP sv (zcall zP sv 60) 299 1151 [.val (.ref b), .val (.ref m), .val (.ref (m + 119)), .val (.ref (m + 137)), .val (.ref (m + 138)), .val (.int (nI i)), l6, l7, l8] [] h) := by
  have hb := T.2.2.2.2.1.2
  have r1 : ∀ K : Value → zR, zael (h.1 b) 28 (nI i + nI 1) K = K (.int (xs.getD (i + 1) 0)) := fun K => zscr hb (by omega) hn
  obtain ⟨k, bv, w1, o3, th', out, hk, ⟨h1, h2, e1, rc, hb1, e3, T2, g2, ho⟩, ZZ⟩ := t_leastRegistersWithoutStore (x1 := xs.getD (i + 1) 0) T
  dsimp only at e3
  obtain ⟨a0, rfl⟩ : ∃ a0, bv = .int a0 := by
    first | exact ZZ.1 | exact ZZ
  have q1 : ∀ K : Value → zR, zael (h1.1 b) 28 (nI i + nI 1) K = K (.int (xs.getD (i + 1) 0)) := fun K => zscr hb1 (by omega) hn
  have n6 := zL6_n s6
  refine ⟨.val (.int (nI k)), .val (.int a0), .unset, h2, w1, o3, _, ?_, Or.inr ⟨_, rfl⟩, Or.inl ⟨rfl, Or.inr (Or.inl ⟨_, rfl⟩)⟩, T2, g2⟩
  rcases zL7_n s7 with ⟨n7, rfl⟩ | ⟨⟨x, rfl⟩, rfl⟩
  · simp (disch := first | exact n6 | exact n7 | exact znw_i) only [zs_299_1151, zs_299_1151n, zs_299_1152, zs_299_1152n, zs_299_1153, zs_299_1155, zs_299_1156, zs_299_1157, zs_299_1158, zs_299_1158n, zs_299_1159, zs_299_1162, zs_299_1162d, zs_299_1164, zs_299_1164n, zs_299_1165, zs_299_1165n, zs_299_1166, zs_299_1168, zs_299_1169, zs_299_1170, zs_299_1171, zs_299_1174, zs_299_1174d, zs_299_1176, zbk_v, zts_s, List.cons_append, List.nil_append, Option.toList_some, r1, q1, e1, rc, e3]
  · simp (disch := first | exact n6 | exact znw_i) only [zs_299_1151, zs_299_1151n, zs_299_1152, zs_299_1152n, zs_299_1153, zs_299_1155, zs_299_1156, zs_299_1157, zs_299_1158, zs_299_1158n, zs_299_1159, zs_299_1162, zs_299_1162d, zs_299_1164, zs_299_1164n, zs_299_1165, zs_299_1165n, zs_299_1166, zs_299_1168, zs_299_1169, zs_299_1170, zs_299_1171, zs_299_1174, zs_299_1174d, zs_299_1176, zbk_v, zts_s, List.cons_append, List.nil_append, Option.toList_some, r1, q1, e1, rc, e3]
theorem kk_31 (T : zTi sv h m b xs w o2 th) (s6 : zL6 l6) (s7 : zL7 l7 l8) (hi : i + 4 ≤ xs.length) (hn : xs.length ≤ 2048) : zgoL sv m b xs i h 1557 (zrun zP sv (zcall zP sv 60) 299 1179 [.val (.ref b), .val (.ref m), .val (.ref (m + 119)), .val (.ref (m + 137)), .val (.ref (m + 138)), .val (.int (nI i)), l6, l7, l8] [] h) := by
  have hb := T.2.2.2.2.1.2
  have r1 : ∀ K : Value → zR, zael (h.1 b) 28 (nI i + nI 1) K = K (.int (xs.getD (i + 1) 0)) := fun K => zscr hb (by omega) hn
  have r2 : ∀ K : Value → zR, zael (h.1 b) 28 (nI i + nI 2) K = K (.int (xs.getD (i + 2) 0)) := fun K => zscr hb (by omega) hn
  obtain ⟨k, bv, w1, o3, th', out, hk, ⟨h1, h2, e1, rc, hb1, e3, T2, g2, ho⟩, ZZ⟩ := t_instructionKind (x1 := xs.getD (i + 1) 0) (x2 := xs.getD (i + 2) 0) T
  dsimp only at e3
  obtain ⟨a0, rfl⟩ : ∃ a0, bv = .int a0 := by
    first | exact ZZ.1 | exact ZZ
  have q1 : ∀ K : Value → zR, zael (h1.1 b) 28 (nI i + nI 1) K = K (.int (xs.getD (i + 1) 0)) := fun K => zscr hb1 (by omega) hn
  have q2 : ∀ K : Value → zR, zael (h1.1 b) 28 (nI i + nI 2) K = K (.int (xs.getD (i + 2) 0)) := fun K => zscr hb1 (by omega) hn
  have n6 := zL6_n s6
  refine ⟨.val (.int (nI k)), .val (.int a0), .unset, h2, w1, o3, _, ?_, Or.inr ⟨_, rfl⟩, Or.inl ⟨rfl, Or.inr (Or.inl ⟨_, rfl⟩)⟩, T2, g2⟩
  rcases zL7_n s7 with ⟨n7, rfl⟩ | ⟨⟨x, rfl⟩, rfl⟩
  · simp (disch := first | exact n6 | exact n7 | exact znw_i) only [zs_299_1179, zs_299_1179n, zs_299_1180, zs_299_1180n, zs_299_1181, zs_299_1183, zs_299_1184, zs_299_1185, zs_299_1186, zs_299_1186n, zs_299_1187, zs_299_1189, zs_299_1190, zs_299_1191, zs_299_1192, zs_299_1192n, zs_299_1193, zs_299_1196, zs_299_1196d, zs_299_1198, zs_299_1198n, zs_299_1199, zs_299_1199n, zs_299_1200, zs_299_1202, zs_299_1203, zs_299_1204, zs_299_1205, zs_299_1205n, zs_299_1206, zs_299_1208, zs_299_1209, zs_299_1210, zs_299_1211, zs_299_1214, zs_299_1214d, zs_299_1216, zbk_v, zts_s, List.cons_append, List.nil_append, Option.toList_some, r1, q1, r2, q2, e1, rc, e3]
  · simp (disch := first | exact n6 | exact znw_i) only [zs_299_1179, zs_299_1179n, zs_299_1180, zs_299_1180n, zs_299_1181, zs_299_1183, zs_299_1184, zs_299_1185, zs_299_1186, zs_299_1186n, zs_299_1187, zs_299_1189, zs_299_1190, zs_299_1191, zs_299_1192, zs_299_1192n, zs_299_1193, zs_299_1196, zs_299_1196d, zs_299_1198, zs_299_1198n, zs_299_1199, zs_299_1199n, zs_299_1200, zs_299_1202, zs_299_1203, zs_299_1204, zs_299_1205, zs_299_1205n, zs_299_1206, zs_299_1208, zs_299_1209, zs_299_1210, zs_299_1211, zs_299_1214, zs_299_1214d, zs_299_1216, zbk_v, zts_s, List.cons_append, List.nil_append, Option.toList_some, r1, q1, r2, q2, e1, rc, e3]
theorem kk_32 (T : zTi sv h m b xs w o2 th) (s6 : zL6 l6) (s7 : zL7 l7 l8) (hi : i + 4 ≤ xs.length) (hn : xs.length ≤ 2048) : zgoL sv m b xs i h 1557 (zrun zP sv (zcall zP sv 60) 299 1219 [.val (.ref b), .val (.ref m), .val (.ref (m + 119)), .val (.ref (m + 137)), .val (.ref (m + 138)), .val (.int (nI i)), l6, l7, l8] [] h) := by
  have hb := T.2.2.2.2.1.2
  have r1 : ∀ K : Value → zR, zael (h.1 b) 28 (nI i + nI 1) K = K (.int (xs.getD (i + 1) 0)) := fun K => zscr hb (by omega) hn
  have r2 : ∀ K : Value → zR, zael (h.1 b) 28 (nI i + nI 2) K = K (.int (xs.getD (i + 2) 0)) := fun K => zscr hb (by omega) hn
  obtain ⟨k, bv, w1, o3, th', out, hk, ⟨h1, h2, e1, rc, hb1, e3, T2, g2, ho⟩, ZZ⟩ := t_instructionRegister (x1 := xs.getD (i + 1) 0) (x2 := xs.getD (i + 2) 0) T
  dsimp only at e3
  obtain ⟨a0, rfl⟩ : ∃ a0, bv = .int a0 := by
    first | exact ZZ.1 | exact ZZ
  have q1 : ∀ K : Value → zR, zael (h1.1 b) 28 (nI i + nI 1) K = K (.int (xs.getD (i + 1) 0)) := fun K => zscr hb1 (by omega) hn
  have q2 : ∀ K : Value → zR, zael (h1.1 b) 28 (nI i + nI 2) K = K (.int (xs.getD (i + 2) 0)) := fun K => zscr hb1 (by omega) hn
  have n6 := zL6_n s6
  refine ⟨.val (.int (nI k)), .val (.int a0), .unset, h2, w1, o3, _, ?_, Or.inr ⟨_, rfl⟩, Or.inl ⟨rfl, Or.inr (Or.inl ⟨_, rfl⟩)⟩, T2, g2⟩
  rcases zL7_n s7 with ⟨n7, rfl⟩ | ⟨⟨x, rfl⟩, rfl⟩
  · simp (disch := first | exact n6 | exact n7 | exact znw_i) only [zs_299_1219, zs_299_1219n, zs_299_1220, zs_299_1220n, zs_299_1221, zs_299_1223, zs_299_1224, zs_299_1225, zs_299_1226, zs_299_1226n, zs_299_1227, zs_299_1229, zs_299_1230, zs_299_1231, zs_299_1232, zs_299_1232n, zs_299_1233, zs_299_1236, zs_299_1236d, zs_299_1238, zs_299_1238n, zs_299_1239, zs_299_1239n, zs_299_1240, zs_299_1242, zs_299_1243, zs_299_1244, zs_299_1245, zs_299_1245n, zs_299_1246, zs_299_1248, zs_299_1249, zs_299_1250, zs_299_1251, zs_299_1254, zs_299_1254d, zs_299_1256, zbk_v, zts_s, List.cons_append, List.nil_append, Option.toList_some, r1, q1, r2, q2, e1, rc, e3]
  · simp (disch := first | exact n6 | exact znw_i) only [zs_299_1219, zs_299_1219n, zs_299_1220, zs_299_1220n, zs_299_1221, zs_299_1223, zs_299_1224, zs_299_1225, zs_299_1226, zs_299_1226n, zs_299_1227, zs_299_1229, zs_299_1230, zs_299_1231, zs_299_1232, zs_299_1232n, zs_299_1233, zs_299_1236, zs_299_1236d, zs_299_1238, zs_299_1238n, zs_299_1239, zs_299_1239n, zs_299_1240, zs_299_1242, zs_299_1243, zs_299_1244, zs_299_1245, zs_299_1245n, zs_299_1246, zs_299_1248, zs_299_1249, zs_299_1250, zs_299_1251, zs_299_1254, zs_299_1254d, zs_299_1256, zbk_v, zts_s, List.cons_append, List.nil_append, Option.toList_some, r1, q1, r2, q2, e1, rc, e3]
theorem kk_33 (T : zTi sv h m b xs w o2 th) (s6 : zL6 l6) (s7 : zL7 l7 l8) (hi : i + 4 ≤ xs.length) (hn : xs.length ≤ 2048) (hs : sv 0 = .int (nI 1)) : zgoL sv m b xs i h 1557 (zrun zP sv (zcall zP sv 60) 299 1259 [.val (.ref b), .val (.ref m), .val (.ref (m + 119)), .val (.ref (m + 137)), .val (.ref (m + 138)), .val (.int (nI i)), l6, l7, l8] [] h) := by
  have hb := T.2.2.2.2.1.2
  have r1 : ∀ K : Value → zR, zael (h.1 b) 28 (nI i + nI 1) K = K (.int (xs.getD (i + 1) 0)) := fun K => zscr hb (by omega) hn
  have r2 : ∀ K : Value → zR, zael (h.1 b) 28 (nI i + nI 2) K = K (.int (xs.getD (i + 2) 0)) := fun K => zscr hb (by omega) hn
  obtain ⟨k, bv, w1, o3, th', out, hk, ⟨h1, h2, e1, rc, hb1, e3, T2, g2, ho⟩, ZZ⟩ := t_writeInstruction (x1 := xs.getD (i + 1) 0) (x2 := xs.getD (i + 2) 0) hs T
  dsimp only at e3
  obtain ⟨a0, rfl⟩ : ∃ a0, bv = .int a0 := by
    first | exact ZZ.1 | exact ZZ
  have q1 : ∀ K : Value → zR, zael (h1.1 b) 28 (nI i + nI 1) K = K (.int (xs.getD (i + 1) 0)) := fun K => zscr hb1 (by omega) hn
  have q2 : ∀ K : Value → zR, zael (h1.1 b) 28 (nI i + nI 2) K = K (.int (xs.getD (i + 2) 0)) := fun K => zscr hb1 (by omega) hn
  have n6 := zL6_n s6
  refine ⟨.val (.int (nI k)), .val (.int a0), .unset, h2, w1, o3, _, ?_, Or.inr ⟨_, rfl⟩, Or.inl ⟨rfl, Or.inr (Or.inl ⟨_, rfl⟩)⟩, T2, g2⟩
  rcases zL7_n s7 with ⟨n7, rfl⟩ | ⟨⟨x, rfl⟩, rfl⟩
  · simp (disch := first | exact n6 | exact n7 | exact znw_i) only [zs_299_1259, zs_299_1259n, zs_299_1260, zs_299_1260n, zs_299_1261, zs_299_1263, zs_299_1264, zs_299_1265, zs_299_1266, zs_299_1266n, zs_299_1267, zs_299_1269, zs_299_1270, zs_299_1271, zs_299_1272, zs_299_1272n, zs_299_1273, zs_299_1276, zs_299_1276d, zs_299_1278, zs_299_1278n, zs_299_1279, zs_299_1279n, zs_299_1280, zs_299_1282, zs_299_1283, zs_299_1284, zs_299_1285, zs_299_1285n, zs_299_1286, zs_299_1288, zs_299_1289, zs_299_1290, zs_299_1291, zs_299_1294, zs_299_1294d, zs_299_1296, zbk_v, zts_s, List.cons_append, List.nil_append, Option.toList_some, r1, q1, r2, q2, e1, rc, e3]
  · simp (disch := first | exact n6 | exact znw_i) only [zs_299_1259, zs_299_1259n, zs_299_1260, zs_299_1260n, zs_299_1261, zs_299_1263, zs_299_1264, zs_299_1265, zs_299_1266, zs_299_1266n, zs_299_1267, zs_299_1269, zs_299_1270, zs_299_1271, zs_299_1272, zs_299_1272n, zs_299_1273, zs_299_1276, zs_299_1276d, zs_299_1278, zs_299_1278n, zs_299_1279, zs_299_1279n, zs_299_1280, zs_299_1282, zs_299_1283, zs_299_1284, zs_299_1285, zs_299_1285n, zs_299_1286, zs_299_1288, zs_299_1289, zs_299_1290, zs_299_1291, zs_299_1294, zs_299_1294d, zs_299_1296, zbk_v, zts_s, List.cons_append, List.nil_append, Option.toList_some, r1, q1, r2, q2, e1, rc, e3]
theorem kk_34 (T : zTi sv h m b xs w o2 th) (s6 : zL6 l6) (s7 : zL7 l7 l8) (hi : i + 4 ≤ xs.length) (hn : xs.length ≤ 2048) (hs : sv 0 = .int (nI 1)) : zgoL sv m b xs i h 1557 (zrun zP sv (zcall zP sv 60) 299 1299 [.val (.ref b), .val (.ref m), .val (.ref (m + 119)), .val (.ref (m + 137)), .val (.ref (m + 138)), .val (.int (nI i)), l6, l7, l8] [] h) := by
  have hb := T.2.2.2.2.1.2
  have r1 : ∀ K : Value → zR, zael (h.1 b) 28 (nI i + nI 1) K = K (.int (xs.getD (i + 1) 0)) := fun K => zscr hb (by omega) hn
  obtain ⟨k, bv, w1, o3, th', out, hk, ⟨h1, h2, e1, rc, hb1, e3, T2, g2, ho⟩, ZZ⟩ := t_writeFormula (x1 := xs.getD (i + 1) 0) hs T
  dsimp only at e3
  obtain ⟨a0, rfl⟩ : ∃ a0, bv = .int a0 := by
    first | exact ZZ.1 | exact ZZ
  have q1 : ∀ K : Value → zR, zael (h1.1 b) 28 (nI i + nI 1) K = K (.int (xs.getD (i + 1) 0)) := fun K => zscr hb1 (by omega) hn
  have n6 := zL6_n s6
  refine ⟨.val (.int (nI k)), .val (.int a0), .unset, h2, w1, o3, _, ?_, Or.inr ⟨_, rfl⟩, Or.inl ⟨rfl, Or.inr (Or.inl ⟨_, rfl⟩)⟩, T2, g2⟩
  rcases zL7_n s7 with ⟨n7, rfl⟩ | ⟨⟨x, rfl⟩, rfl⟩
  · simp (disch := first | exact n6 | exact n7 | exact znw_i) only [zs_299_1299, zs_299_1299n, zs_299_1300, zs_299_1300n, zs_299_1301, zs_299_1303, zs_299_1304, zs_299_1305, zs_299_1306, zs_299_1306n, zs_299_1307, zs_299_1310, zs_299_1310d, zs_299_1312, zs_299_1312n, zs_299_1313, zs_299_1313n, zs_299_1314, zs_299_1316, zs_299_1317, zs_299_1318, zs_299_1319, zs_299_1322, zs_299_1322d, zs_299_1324, zbk_v, zts_s, List.cons_append, List.nil_append, Option.toList_some, r1, q1, e1, rc, e3]
  · simp (disch := first | exact n6 | exact znw_i) only [zs_299_1299, zs_299_1299n, zs_299_1300, zs_299_1300n, zs_299_1301, zs_299_1303, zs_299_1304, zs_299_1305, zs_299_1306, zs_299_1306n, zs_299_1307, zs_299_1310, zs_299_1310d, zs_299_1312, zs_299_1312n, zs_299_1313, zs_299_1313n, zs_299_1314, zs_299_1316, zs_299_1317, zs_299_1318, zs_299_1319, zs_299_1322, zs_299_1322d, zs_299_1324, zbk_v, zts_s, List.cons_append, List.nil_append, Option.toList_some, r1, q1, e1, rc, e3]
theorem kk_35 (T : zTi sv h m b xs w o2 th) (s6 : zL6 l6) (s7 : zL7 l7 l8) (hi : i + 4 ≤ xs.length) (hn : xs.length ≤ 2048) (h3 : zty 4 (sv 3) = true) : zgoL sv m b xs i h 1557 (zrun zP sv (zcall zP sv 60) 299 1327 [.val (.ref b), .val (.ref m), .val (.ref (m + 119)), .val (.ref (m + 137)), .val (.ref (m + 138)), .val (.int (nI i)), l6, l7, l8] [] h) := by
  have hb := T.2.2.2.2.1.2
  have r1 : ∀ K : Value → zR, zael (h.1 b) 28 (nI i + nI 1) K = K (.int (xs.getD (i + 1) 0)) := fun K => zscr hb (by omega) hn
  obtain ⟨k, bv, w1, o3, th', out, hk, ⟨h1, h2, e1, rc, hb1, e3, T2, g2, ho⟩, ZZ⟩ := t_outputChar (x1 := xs.getD (i + 1) 0) h3 T
  dsimp only at e3
  obtain ⟨a0, rfl⟩ : ∃ a0, bv = .int a0 := by
    first | exact ZZ.1 | exact ZZ
  have q1 : ∀ K : Value → zR, zael (h1.1 b) 28 (nI i + nI 1) K = K (.int (xs.getD (i + 1) 0)) := fun K => zscr hb1 (by omega) hn
  have n6 := zL6_n s6
  refine ⟨.val (.int (nI k)), .val (.int a0), .unset, h2, w1, o3, _, ?_, Or.inr ⟨_, rfl⟩, Or.inl ⟨rfl, Or.inr (Or.inl ⟨_, rfl⟩)⟩, T2, g2⟩
  rcases zL7_n s7 with ⟨n7, rfl⟩ | ⟨⟨x, rfl⟩, rfl⟩
  · simp (disch := first | exact n6 | exact n7 | exact znw_i) only [zs_299_1327, zs_299_1327n, zs_299_1328, zs_299_1328n, zs_299_1329, zs_299_1331, zs_299_1332, zs_299_1333, zs_299_1334, zs_299_1334n, zs_299_1335, zs_299_1338, zs_299_1338d, zs_299_1340, zs_299_1340n, zs_299_1341, zs_299_1341n, zs_299_1342, zs_299_1344, zs_299_1345, zs_299_1346, zs_299_1347, zs_299_1350, zs_299_1350d, zs_299_1352, zbk_v, zts_s, List.cons_append, List.nil_append, Option.toList_some, r1, q1, e1, rc, e3]
  · simp (disch := first | exact n6 | exact znw_i) only [zs_299_1327, zs_299_1327n, zs_299_1328, zs_299_1328n, zs_299_1329, zs_299_1331, zs_299_1332, zs_299_1333, zs_299_1334, zs_299_1334n, zs_299_1335, zs_299_1338, zs_299_1338d, zs_299_1340, zs_299_1340n, zs_299_1341, zs_299_1341n, zs_299_1342, zs_299_1344, zs_299_1345, zs_299_1346, zs_299_1347, zs_299_1350, zs_299_1350d, zs_299_1352, zbk_v, zts_s, List.cons_append, List.nil_append, Option.toList_some, r1, q1, e1, rc, e3]
theorem kk_36 (T : zTi sv h m b xs w o2 th) (s6 : zL6 l6) (s7 : zL7 l7 l8) (hi : i + 4 ≤ xs.length) (hn : xs.length ≤ 2048) : zgoL sv m b xs i h 1557 (zrun zP sv (zcall zP sv 60) 299 1355 [.val (.ref b), .val (.ref m), .val (.ref (m + 119)), .val (.ref (m + 137)), .val (.ref (m + 138)), .val (.int (nI i)), l6, l7, l8] [] h) := by
  have hb := T.2.2.2.2.1.2
  have r1 : ∀ K : Value → zR, zael (h.1 b) 28 (nI i + nI 1) K = K (.int (xs.getD (i + 1) 0)) := fun K => zscr hb (by omega) hn
  obtain ⟨k, bv, w1, o3, th', out, hk, ⟨h1, h2, e1, rc, hb1, e3, T2, g2, ho⟩, ZZ⟩ := t_formulaBySize (x1 := xs.getD (i + 1) 0) T
  dsimp only at e3
  obtain ⟨a0, rfl⟩ : ∃ a0, bv = .int a0 := by
    first | exact ZZ.1 | exact ZZ
  have q1 : ∀ K : Value → zR, zael (h1.1 b) 28 (nI i + nI 1) K = K (.int (xs.getD (i + 1) 0)) := fun K => zscr hb1 (by omega) hn
  have n6 := zL6_n s6
  refine ⟨.val (.int (nI k)), .val (.int a0), .unset, h2, w1, o3, _, ?_, Or.inr ⟨_, rfl⟩, Or.inl ⟨rfl, Or.inr (Or.inl ⟨_, rfl⟩)⟩, T2, g2⟩
  rcases zL7_n s7 with ⟨n7, rfl⟩ | ⟨⟨x, rfl⟩, rfl⟩
  · simp (disch := first | exact n6 | exact n7 | exact znw_i) only [zs_299_1355, zs_299_1355n, zs_299_1356, zs_299_1356n, zs_299_1357, zs_299_1359, zs_299_1360, zs_299_1361, zs_299_1362, zs_299_1362n, zs_299_1363, zs_299_1366, zs_299_1366d, zs_299_1368, zs_299_1368n, zs_299_1369, zs_299_1369n, zs_299_1370, zs_299_1372, zs_299_1373, zs_299_1374, zs_299_1375, zs_299_1378, zs_299_1378d, zs_299_1380, zbk_v, zts_s, List.cons_append, List.nil_append, Option.toList_some, r1, q1, e1, rc, e3]
  · simp (disch := first | exact n6 | exact znw_i) only [zs_299_1355, zs_299_1355n, zs_299_1356, zs_299_1356n, zs_299_1357, zs_299_1359, zs_299_1360, zs_299_1361, zs_299_1362, zs_299_1362n, zs_299_1363, zs_299_1366, zs_299_1366d, zs_299_1368, zs_299_1368n, zs_299_1369, zs_299_1369n, zs_299_1370, zs_299_1372, zs_299_1373, zs_299_1374, zs_299_1375, zs_299_1378, zs_299_1378d, zs_299_1380, zbk_v, zts_s, List.cons_append, List.nil_append, Option.toList_some, r1, q1, e1, rc, e3]
theorem kk_37 (T : zTi sv h m b xs w o2 th) (s6 : zL6 l6) (s7 : zL7 l7 l8) (hi : i + 4 ≤ xs.length) (hn : xs.length ≤ 2048) : zgoL sv m b xs i h 1557 (zrun zP sv (zcall zP sv 60) 299 1383 [.val (.ref b), .val (.ref m), .val (.ref (m + 119)), .val (.ref (m + 137)), .val (.ref (m + 138)), .val (.int (nI i)), l6, l7, l8] [] h) := by
  have hb := T.2.2.2.2.1.2
  obtain ⟨v, w1, o3, th', h1, h2, e1, rc, hb1, e3, T2, g2⟩ := t_removedNodes T
  dsimp only at e3
  have r0 := zEC1 T.1
  refine ⟨l6, l7, l8, h2, w1, o3, _, ?_, s6, s7, T2, g2⟩
  simp only [zs_299_1383, zs_299_1383n, zs_299_1384, zs_299_1387, zs_299_1388, zs_299_1388n, zs_299_1389, zs_299_1392, zs_299_1393, zbk_v, zts_s, List.cons_append, List.nil_append, Option.toList_some, r0, e1, rc, e3, if_true, if_false]
theorem kk_38 (T : zTi sv h m b xs w o2 th) (s6 : zL6 l6) (s7 : zL7 l7 l8) (hi : i + 4 ≤ xs.length) (hn : xs.length ≤ 2048) : zgoL sv m b xs i h 1557 (zrun zP sv (zcall zP sv 60) 299 1396 [.val (.ref b), .val (.ref m), .val (.ref (m + 119)), .val (.ref (m + 137)), .val (.ref (m + 138)), .val (.int (nI i)), l6, l7, l8] [] h) := by
  have hb := T.2.2.2.2.1.2
  obtain ⟨k, bv, w1, o3, th', out, hk, ⟨h1, h2, e1, rc, hb1, e3, T2, g2, ho⟩, ZZ⟩ := t_meanNodes T
  dsimp only at e3
  obtain ⟨a0, rfl⟩ : ∃ a0, bv = .double a0 := by
    first | exact ZZ.1 | exact ZZ
  have n6 := zL6_n s6
  refine ⟨.val (.int (nI k)), .val (.double a0), .second, h2, w1, o3, _, ?_, Or.inr ⟨_, rfl⟩, Or.inr ⟨⟨_, rfl⟩, rfl⟩, T2, g2⟩
  rcases s7 with ⟨rfl, rfl | ⟨x, rfl⟩ | ⟨x, rfl⟩⟩ | ⟨⟨x, rfl⟩, rfl⟩
  · simp (disch := first | exact n6 | exact znw_i) only [zs_299_1396, zs_299_1396n, zs_299_1397, zs_299_1397n, zs_299_1399, zs_299_1402, zs_299_1402d, zs_299_1404, zs_299_1404n, zs_299_1405, zs_299_1408uu, zs_299_1408us, zs_299_1408iu, zs_299_1408is, zs_299_1408fu, zs_299_1408fs, zs_299_1408du, zs_299_1408ds, zs_299_1410, zbk_v, zts_s, List.cons_append, List.nil_append, Option.toList_some, e1, rc, e3]
  · simp (disch := first | exact n6 | exact znw_i) only [zs_299_1396, zs_299_1396n, zs_299_1397, zs_299_1397n, zs_299_1399, zs_299_1402, zs_299_1402d, zs_299_1404, zs_299_1404n, zs_299_1405, zs_299_1408uu, zs_299_1408us, zs_299_1408iu, zs_299_1408is, zs_299_1408fu, zs_299_1408fs, zs_299_1408du, zs_299_1408ds, zs_299_1410, zbk_v, zts_s, List.cons_append, List.nil_append, Option.toList_some, e1, rc, e3]
  · simp (disch := first | exact n6 | exact znw_i) only [zs_299_1396, zs_299_1396n, zs_299_1397, zs_299_1397n, zs_299_1399, zs_299_1402, zs_299_1402d, zs_299_1404, zs_299_1404n, zs_299_1405, zs_299_1408uu, zs_299_1408us, zs_299_1408iu, zs_299_1408is, zs_299_1408fu, zs_299_1408fs, zs_299_1408du, zs_299_1408ds, zs_299_1410, zbk_v, zts_s, List.cons_append, List.nil_append, Option.toList_some, e1, rc, e3]
  · simp (disch := first | exact n6 | exact znw_i) only [zs_299_1396, zs_299_1396n, zs_299_1397, zs_299_1397n, zs_299_1399, zs_299_1402, zs_299_1402d, zs_299_1404, zs_299_1404n, zs_299_1405, zs_299_1408uu, zs_299_1408us, zs_299_1408iu, zs_299_1408is, zs_299_1408fu, zs_299_1408fs, zs_299_1408du, zs_299_1408ds, zs_299_1410, zbk_v, zts_s, List.cons_append, List.nil_append, Option.toList_some, e1, rc, e3]
theorem kk_39 (T : zTi sv h m b xs w o2 th) (s6 : zL6 l6) (s7 : zL7 l7 l8) (hi : i + 4 ≤ xs.length) (hn : xs.length ≤ 2048) : zgoL sv m b xs i h 1557 (zrun zP sv (zcall zP sv 60) 299 1413 [.val (.ref b), .val (.ref m), .val (.ref (m + 119)), .val (.ref (m + 137)), .val (.ref (m + 138)), .val (.int (nI i)), l6, l7, l8] [] h) := by
  have hb := T.2.2.2.2.1.2
  have r1 : ∀ K : Value → zR, zael (h.1 b) 28 (nI i + nI 1) K = K (.int (xs.getD (i + 1) 0)) := fun K => zscr hb (by omega) hn
  obtain ⟨k, bv, w1, o3, th', out, hk, ⟨h1, h2, e1, rc, hb1, e3, T2, g2, ho⟩, ZZ⟩ := t_storeShare (x1 := xs.getD (i + 1) 0) T
  dsimp only at e3
  obtain ⟨a0, rfl⟩ : ∃ a0, bv = .float a0 := by
    first | exact ZZ.1 | exact ZZ
  have q1 : ∀ K : Value → zR, zael (h1.1 b) 28 (nI i + nI 1) K = K (.int (xs.getD (i + 1) 0)) := fun K => zscr hb1 (by omega) hn
  have n6 := zL6_n s6
  refine ⟨.val (.int (nI k)), .val (.float a0), .unset, h2, w1, o3, _, ?_, Or.inr ⟨_, rfl⟩, Or.inl ⟨rfl, Or.inr (Or.inr ⟨_, rfl⟩)⟩, T2, g2⟩
  rcases zL7_n s7 with ⟨n7, rfl⟩ | ⟨⟨x, rfl⟩, rfl⟩
  · simp (disch := first | exact n6 | exact n7 | exact znw_i) only [zs_299_1413, zs_299_1413n, zs_299_1414, zs_299_1414n, zs_299_1415, zs_299_1417, zs_299_1418, zs_299_1419, zs_299_1420, zs_299_1420n, zs_299_1422, zs_299_1425, zs_299_1425d, zs_299_1427, zs_299_1427n, zs_299_1428, zs_299_1428n, zs_299_1429, zs_299_1431, zs_299_1432, zs_299_1433, zs_299_1434, zs_299_1437, zs_299_1437d, zs_299_1439, zbk_v, zts_s, List.cons_append, List.nil_append, Option.toList_some, r1, q1, e1, rc, e3]
  · simp (disch := first | exact n6 | exact znw_i) only [zs_299_1413, zs_299_1413n, zs_299_1414, zs_299_1414n, zs_299_1415, zs_299_1417, zs_299_1418, zs_299_1419, zs_299_1420, zs_299_1420n, zs_299_1422, zs_299_1425, zs_299_1425d, zs_299_1427, zs_299_1427n, zs_299_1428, zs_299_1428n, zs_299_1429, zs_299_1431, zs_299_1432, zs_299_1433, zs_299_1434, zs_299_1437, zs_299_1437d, zs_299_1439, zbk_v, zts_s, List.cons_append, List.nil_append, Option.toList_some, r1, q1, e1, rc, e3]
theorem kk_40 (T : zTi sv h m b xs w o2 th) (s6 : zL6 l6) (s7 : zL7 l7 l8) (hi : i + 4 ≤ xs.length) (hn : xs.length ≤ 2048) : zgoL sv m b xs i h 1557 (zrun zP sv (zcall zP sv 60) 299 1442 [.val (.ref b), .val (.ref m), .val (.ref (m + 119)), .val (.ref (m + 137)), .val (.ref (m + 138)), .val (.int (nI i)), l6, l7, l8] [] h) := by
  have hb := T.2.2.2.2.1.2
  obtain ⟨v, w1, o3, th', h1, h2, e1, rc, hb1, e3, T2, g2⟩ := t_isConsistent T
  dsimp only at e3
  have r0 := zEC1 T.1
  refine ⟨l6, l7, l8, h2, w1, o3, _, ?_, s6, s7, T2, g2⟩
  simp only [zs_299_1442, zs_299_1442n, zs_299_1443, zs_299_1446, zs_299_1447, zs_299_1447n, zs_299_1448, zs_299_1451, zs_299_1452, zbk_v, zts_s, List.cons_append, List.nil_append, Option.toList_some, r0, e1, rc, e3, if_true, if_false]
theorem kk_41 (T : zTi sv h m b xs w o2 th) (s6 : zL6 l6) (s7 : zL7 l7 l8) (hi : i + 4 ≤ xs.length) (hn : xs.length ≤ 2048) : zgoL sv m b xs i h 1557 (zrun zP sv (zcall zP sv 60) 299 1455 [.val (.ref b), .val (.ref m), .val (.ref (m + 119)), .val (.ref (m + 137)), .val (.ref (m + 138)), .val (.int (nI i)), l6, l7, l8] [] h) := by
  have hb := T.2.2.2.2.1.2
  obtain ⟨k, bv, w1, o3, th', out, hk, ⟨h1, h2, e1, rc, hb1, e3, T2, g2, ho⟩, ZZ⟩ := t_errorPosition T
  dsimp only at e3
  obtain ⟨a0, rfl⟩ : ∃ a0, bv = .int a0 := by
    first | exact ZZ.1 | exact ZZ
  have n6 := zL6_n s6
  refine ⟨.val (.int (nI k)), .val (.int a0), .unset, h2, w1, o3, _, ?_, Or.inr ⟨_, rfl⟩, Or.inl ⟨rfl, Or.inr (Or.inl ⟨_, rfl⟩)⟩, T2, g2⟩
  rcases zL7_n s7 with ⟨n7, rfl⟩ | ⟨⟨x, rfl⟩, rfl⟩
  · simp (disch := first | exact n6 | exact n7 | exact znw_i) only [zs_299_1455, zs_299_1455n, zs_299_1456, zs_299_1456n, zs_299_1457, zs_299_1460, zs_299_1460d, zs_299_1462, zs_299_1462n, zs_299_1463, zs_299_1466, zs_299_1466d, zs_299_1468, zbk_v, zts_s, List.cons_append, List.nil_append, Option.toList_some, e1, rc, e3]
  · simp (disch := first | exact n6 | exact znw_i) only [zs_299_1455, zs_299_1455n, zs_299_1456, zs_299_1456n, zs_299_1457, zs_299_1460, zs_299_1460d, zs_299_1462, zs_299_1462n, zs_299_1463, zs_299_1466, zs_299_1466d, zs_299_1468, zbk_v, zts_s, List.cons_append, List.nil_append, Option.toList_some, e1, rc, e3]
theorem kk_42 (T : zTi sv h m b xs w o2 th) (s6 : zL6 l6) (s7 : zL7 l7 l8) (hi : i + 4 ≤ xs.length) (hn : xs.length ≤ 2048) : zgoL sv m b xs i h 1557 (zrun zP sv (zcall zP sv 60) 299 1471 [.val (.ref b), .val (.ref m), .val (.ref (m + 119)), .val (.ref (m + 137)), .val (.ref (m + 138)), .val (.int (nI i)), l6, l7, l8] [] h) := by
  have hb := T.2.2.2.2.1.2
  obtain ⟨v, w1, o3, th', h1, h2, e1, rc, hb1, e3, T2, g2⟩ := t_undoCount T
  dsimp only at e3
  have r0 := zEC1 T.1
  refine ⟨l6, l7, l8, h2, w1, o3, _, ?_, s6, s7, T2, g2⟩
  simp only [zs_299_1471, zs_299_1471n, zs_299_1472, zs_299_1475, zs_299_1476, zs_299_1476n, zs_299_1477, zs_299_1480, zs_299_1481, zbk_v, zts_s, List.cons_append, List.nil_append, Option.toList_some, r0, e1, rc, e3, if_true, if_false]
theorem kk_43 (T : zTi sv h m b xs w o2 th) (s6 : zL6 l6) (s7 : zL7 l7 l8) (hi : i + 4 ≤ xs.length) (hn : xs.length ≤ 2048) : zgoL sv m b xs i h 1557 (zrun zP sv (zcall zP sv 60) 299 1484 [.val (.ref b), .val (.ref m), .val (.ref (m + 119)), .val (.ref (m + 137)), .val (.ref (m + 138)), .val (.int (nI i)), l6, l7, l8] [] h) := by
  have hb := T.2.2.2.2.1.2
  obtain ⟨k, bv, w1, o3, th', out, hk, ⟨h1, h2, e1, rc, hb1, e3, T2, g2, ho⟩, ZZ⟩ := t_undo T
  dsimp only at e3
  obtain ⟨a0, rfl⟩ : ∃ a0, bv = .int a0 := by
    first | exact ZZ.1 | exact ZZ
  have n6 := zL6_n s6
  refine ⟨.val (.int (nI k)), .val (.int a0), .unset, h2, w1, o3, _, ?_, Or.inr ⟨_, rfl⟩, Or.inl ⟨rfl, Or.inr (Or.inl ⟨_, rfl⟩)⟩, T2, g2⟩
  rcases zL7_n s7 with ⟨n7, rfl⟩ | ⟨⟨x, rfl⟩, rfl⟩
  · simp (disch := first | exact n6 | exact n7 | exact znw_i) only [zs_299_1484, zs_299_1484n, zs_299_1485, zs_299_1485n, zs_299_1486, zs_299_1489, zs_299_1489d, zs_299_1491, zs_299_1491n, zs_299_1492, zs_299_1495, zs_299_1495d, zs_299_1497, zbk_v, zts_s, List.cons_append, List.nil_append, Option.toList_some, e1, rc, e3]
  · simp (disch := first | exact n6 | exact znw_i) only [zs_299_1484, zs_299_1484n, zs_299_1485, zs_299_1485n, zs_299_1486, zs_299_1489, zs_299_1489d, zs_299_1491, zs_299_1491n, zs_299_1492, zs_299_1495, zs_299_1495d, zs_299_1497, zbk_v, zts_s, List.cons_append, List.nil_append, Option.toList_some, e1, rc, e3]
theorem kk_44 (T : zTi sv h m b xs w o2 th) (s6 : zL6 l6) (s7 : zL7 l7 l8) (hi : i + 4 ≤ xs.length) (hn : xs.length ≤ 2048) : zgoL sv m b xs i h 1557 (zrun zP sv (zcall zP sv 60) 299 1500 [.val (.ref b), .val (.ref m), .val (.ref (m + 119)), .val (.ref (m + 137)), .val (.ref (m + 138)), .val (.int (nI i)), l6, l7, l8] [] h) := by
  have hb := T.2.2.2.2.1.2
  obtain ⟨v, w1, o3, th', h1, h2, e1, rc, hb1, e3, T2, g2⟩ := t_save T
  dsimp only at e3
  have r0 := zEC1 T.1
  refine ⟨l6, l7, l8, h2, w1, o3, _, ?_, s6, s7, T2, g2⟩
  simp only [zs_299_1500, zs_299_1500n, zs_299_1501, zs_299_1504, zs_299_1505, zs_299_1505n, zs_299_1506, zs_299_1509, zs_299_1510, zbk_v, zts_s, List.cons_append, List.nil_append, Option.toList_some, r0, e1, rc, e3, if_true, if_false]
theorem kk_45 (T : zTi sv h m b xs w o2 th) (s6 : zL6 l6) (s7 : zL7 l7 l8) (hi : i + 4 ≤ xs.length) (hn : xs.length ≤ 2048) : zgoL sv m b xs i h 1557 (zrun zP sv (zcall zP sv 60) 299 1513 [.val (.ref b), .val (.ref m), .val (.ref (m + 119)), .val (.ref (m + 137)), .val (.ref (m + 138)), .val (.int (nI i)), l6, l7, l8] [] h) := by
  have hb := T.2.2.2.2.1.2
  obtain ⟨k, bv, w1, o3, th', out, hk, ⟨h1, h2, e1, rc, hb1, e3, T2, g2, ho⟩, ZZ⟩ := t_restore T
  dsimp only at e3
  obtain ⟨a0, rfl⟩ : ∃ a0, bv = .int a0 := by
    first | exact ZZ.1 | exact ZZ
  have n6 := zL6_n s6
  obtain ⟨_, hth, hval⟩ := ZZ
  subst hth
  have rc2 : ∀ X : zR, zrc (h2.1 (m + 119)) 13 X = X := fun X => zMdl_rc T2.2.1
  have e4 := e_197 (sv := sv) (d := 59) T2.2.1
  refine ⟨.val (.int (nI k)), .val (.int a0), .unset, h2, w1, o3, _, ?_, Or.inr ⟨_, rfl⟩, Or.inl ⟨rfl, Or.inr (Or.inl ⟨_, rfl⟩)⟩, T2, g2⟩
  rcases zL7_n s7 with ⟨n7, rfl⟩ | ⟨⟨x, rfl⟩, rfl⟩
  · by_cases hk0 : k = 0
    · subst hk0
      obtain ⟨a, ha, hout⟩ := hval rfl
      cases ha
      subst hout
      have ho1 := (ho rfl).1 rfl
      dsimp only at ho1
      rw [nI_0] at e1 e4 ⊢
      simp (disch := first | exact n6 | exact n7 | exact znw_i) only [zs_299_1513, zs_299_1513n, zs_299_1514, zs_299_1514n, zs_299_1515, zs_299_1518, zs_299_1518d, zs_299_1520, zs_299_1520n, zs_299_1521, zs_299_1524, zs_299_1524d, zs_299_1526, zs_299_1526n, zs_299_1527, zs_299_1530, zs_299_1532, zs_299_1535, zs_299_1536, zs_299_1537, zs_299_1539, zs_299_1542, zs_299_1542n, zs_299_1543, zs_299_1544, zs_299_1545, zs_299_1547, zs_299_1548, zs_299_1549, zs_299_1552, zs_299_1553, zs_299_1554, zbk_v, zts_s, List.cons_append, List.nil_append, Option.toList_some, e1, rc, e3, rc2, e4, if_true, if_false, ho1, zael_0, zlcx]
    · have hk1 : ¬ nI k = 0 := by
        rcases (show k = 1 ∨ k = 2 ∨ k = 3 ∨ k = 4 by omega) with rfl | rfl | rfl | rfl <;> decide +kernel
      simp (disch := first | exact n6 | exact n7 | exact znw_i) only [zs_299_1513, zs_299_1513n, zs_299_1514, zs_299_1514n, zs_299_1515, zs_299_1518, zs_299_1518d, zs_299_1520, zs_299_1520n, zs_299_1521, zs_299_1524, zs_299_1524d, zs_299_1526, zs_299_1526n, zs_299_1527, zs_299_1530, zs_299_1532, zs_299_1535, zs_299_1536, zs_299_1537, zs_299_1539, zs_299_1542, zs_299_1542n, zs_299_1543, zs_299_1544, zs_299_1545, zs_299_1547, zs_299_1548, zs_299_1549, zs_299_1552, zs_299_1553, zs_299_1554, zbk_v, zts_s, List.cons_append, List.nil_append, Option.toList_some, e1, rc, e3, rc2, e4, if_true, if_false, hk1]
  · by_cases hk0 : k = 0
    · subst hk0
      obtain ⟨a, ha, hout⟩ := hval rfl
      cases ha
      subst hout
      have ho1 := (ho rfl).1 rfl
      dsimp only at ho1
      rw [nI_0] at e1 e4 ⊢
      simp (disch := first | exact n6 | exact znw_i) only [zs_299_1513, zs_299_1513n, zs_299_1514, zs_299_1514n, zs_299_1515, zs_299_1518, zs_299_1518d, zs_299_1520, zs_299_1520n, zs_299_1521, zs_299_1524, zs_299_1524d, zs_299_1526, zs_299_1526n, zs_299_1527, zs_299_1530, zs_299_1532, zs_299_1535, zs_299_1536, zs_299_1537, zs_299_1539, zs_299_1542, zs_299_1542n, zs_299_1543, zs_299_1544, zs_299_1545, zs_299_1547, zs_299_1548, zs_299_1549, zs_299_1552, zs_299_1553, zs_299_1554, zbk_v, zts_s, List.cons_append, List.nil_append, Option.toList_some, e1, rc, e3, rc2, e4, if_true, if_false, ho1, zael_0, zlcx]
    · have hk1 : ¬ nI k = 0 := by
        rcases (show k = 1 ∨ k = 2 ∨ k = 3 ∨ k = 4 by omega) with rfl | rfl | rfl | rfl <;> decide +kernel
      simp (disch := first | exact n6 | exact znw_i) only [zs_299_1513, zs_299_1513n, zs_299_1514, zs_299_1514n, zs_299_1515, zs_299_1518, zs_299_1518d, zs_299_1520, zs_299_1520n, zs_299_1521, zs_299_1524, zs_299_1524d, zs_299_1526, zs_299_1526n, zs_299_1527, zs_299_1530, zs_299_1532, zs_299_1535, zs_299_1536, zs_299_1537, zs_299_1539, zs_299_1542, zs_299_1542n, zs_299_1543, zs_299_1544, zs_299_1545, zs_299_1547, zs_299_1548, zs_299_1549, zs_299_1552, zs_299_1553, zs_299_1554, zbk_v, zts_s, List.cons_append, List.nil_append, Option.toList_some, e1, rc, e3, rc2, e4, if_true, if_false, hk1]
theorem zl_end {C : zCall} {l1 l2 l3 l4 : Slot} (hb : h.1 b = (28, xs.map Value.int)) (hi : i ≤ xs.length) (hn : xs.length ≤ 2048) (hl : xs.length < i + 4) : zrun zP sv C 299 28 [.val (.ref b), l1, l2, l3, l4, .val (.int (nI i)), l6, l7, l8] [] h = some (.inl (some (.int (nI 1))), h) := by
  rw [zs_299_28, zs_299_30, zs_299_31, hb, zaln_k (by decide), zs_299_32, zs_299_33, zs_299_34, List.length_map, if_pos (zend_t hn (by omega) hl), zs_299_1563, zs_299_1564]
  rfl
theorem zl_op {C : zCall} {l1 l2 l3 l4 : Slot} (hb : h.1 b = (28, xs.map Value.int)) (hl : i + 4 ≤ xs.length) (hn : xs.length ≤ 2048) : zrun zP sv C 299 28 [.val (.ref b), l1, l2, l3, l4, .val (.int (nI i)), l6, l7, l8] [] h = zrun zP sv C 299 (zswp (zP.2.2.2.1 3) 1557 (xs.getD i 0 &&& nI 63)) [.val (.ref b), l1, l2, l3, l4, .val (.int (nI i)), l6, l7, l8] [] h := by
  rw [zs_299_28, zs_299_30, zs_299_31, hb, zaln_k (by decide), zs_299_32, zs_299_33, zs_299_34, List.length_map, if_neg (zend_f hn hl), zs_299_37, zs_299_38, zs_299_40, zscr0 hb (by omega) hn, zs_299_41, zs_299_43, zs_299_44]
theorem zsw_dd : ∀ j, j < 64 → 46 ≤ j → zswp (zP.2.2.2.1 3) 1557 (nI j) = 1557 := by decide +kernel
theorem z_loop (hs : sv 0 = .int (nI 1)) (h3 : zty 4 (sv 3) = true) (hn : xs.length ≤ 2048) : ∀ (c i : Nat) (h : zH) (w : yW) (o2 : List Int32) (th : Int32) (l6 l7 l8 : Slot), zTi sv h m b xs w o2 th → zL6 l6 → zL7 l7 l8 → i ≤ xs.length → xs.length < i + 4 * c → ∃ h', zrun zP sv (zcall zP sv 60) 299 28 [.val (.ref b), .val (.ref m), .val (.ref (m + 119)), .val (.ref (m + 137)), .val (.ref (m + 138)), .val (.int (nI i)), l6, l7, l8] [] h = some (.inl (some (.int (nI 1))), h') ∧ h.2.1 ≤ h'.2.1 ∧ h'.2.1 ≤ h.2.1 + 1000 * c ∧ h'.2.2 ≤ h.2.2 + 2000 * c := by
  intro c
  induction c with
  | zero =>
    intro i h w o2 th l6 l7 l8 T s6 s7 hi hc
    omega
  | succ c ih =>
    intro i h w o2 th l6 l7 l8 T s6 s7 hi hc
    have hb := T.2.2.2.2.1.2
    by_cases hl : xs.length < i + 4
    · exact ⟨h, zl_end hb hi hn hl, Nat.le_refl _, by omega, by omega⟩
    · have hi4 : i + 4 ≤ xs.length := by omega
      rw [zl_op hb hi4 hn]
      obtain ⟨j, hj, ej⟩ := nI_63 (xs.getD i 0)
      rw [ej]
      have key : zgoL sv m b xs i h 1557 (zrun zP sv (zcall zP sv 60) 299 (zswp (zP.2.2.2.1 3) 1557 (nI j)) [.val (.ref b), .val (.ref m), .val (.ref (m + 119)), .val (.ref (m + 137)), .val (.ref (m + 138)), .val (.int (nI i)), l6, l7, l8] [] h) := by
        rcases (show j = 0 ∨ j = 1 ∨ j = 2 ∨ j = 3 ∨ j = 4 ∨ j = 5 ∨ j = 6 ∨ j = 7 ∨ j = 8 ∨ j = 9 ∨ j = 10 ∨ j = 11 ∨ j = 12 ∨ j = 13 ∨ j = 14 ∨ j = 15 ∨ j = 16 ∨ j = 17 ∨ j = 18 ∨ j = 19 ∨ j = 20 ∨ j = 21 ∨ j = 22 ∨ j = 23 ∨ j = 24 ∨ j = 25 ∨ j = 26 ∨ j = 27 ∨ j = 28 ∨ j = 29 ∨ j = 30 ∨ j = 31 ∨ j = 32 ∨ j = 33 ∨ j = 34 ∨ j = 35 ∨ j = 36 ∨ j = 37 ∨ j = 38 ∨ j = 39 ∨ j = 40 ∨ j = 41 ∨ j = 42 ∨ j = 43 ∨ j = 44 ∨ j = 45 ∨ 46 ≤ j by omega) with rfl | rfl | rfl | rfl | rfl | rfl | rfl | rfl | rfl | rfl | rfl | rfl | rfl | rfl | rfl | rfl | rfl | rfl | rfl | rfl | rfl | rfl | rfl | rfl | rfl | rfl | rfl | rfl | rfl | rfl | rfl | rfl | rfl | rfl | rfl | rfl | rfl | rfl | rfl | rfl | rfl | rfl | rfl | rfl | rfl | rfl | r
        · rw [nI_0, zw_3_0]; exact kk_0 T s6 s7 hi4 hn
        · rw [zw_3_1]; exact kk_1 T s6 s7 hi4 hn
        · rw [zw_3_2]; exact kk_2 T s6 s7 hi4 hn
        · rw [zw_3_3]; exact kk_3 T s6 s7 hi4 hn
        · rw [zw_3_4]; exact kk_4 T s6 s7 hi4 hn
        · rw [zw_3_5]; exact kk_5 T s6 s7 hi4 hn
        · rw [zw_3_6]; exact kk_6 T s6 s7 hi4 hn
        · rw [zw_3_7]; exact kk_7 T s6 s7 hi4 hn
        · rw [zw_3_8]; exact kk_8 T s6 s7 hi4 hn
        · rw [zw_3_9]; exact kk_9 T s6 s7 hi4 hn
        · rw [zw_3_10]; exact kk_10 T s6 s7 hi4 hn
        · rw [zw_3_11]; exact kk_11 T s6 s7 hi4 hn
        · rw [zw_3_12]; exact kk_12 T s6 s7 hi4 hn
        · rw [zw_3_13]; exact kk_13 T s6 s7 hi4 hn
        · rw [zw_3_14]; exact kk_14 T s6 s7 hi4 hn
        · rw [zw_3_15]; exact kk_15 T s6 s7 hi4 hn
        · rw [zw_3_16]; exact kk_16 T s6 s7 hi4 hn
        · rw [zw_3_17]; exact kk_17 T s6 s7 hi4 hn
        · rw [zw_3_18]; exact kk_18 T s6 s7 hi4 hn
        · rw [zw_3_19]; exact kk_19 T s6 s7 hi4 hn
        · rw [zw_3_20]; exact kk_20 T s6 s7 hi4 hn
        · rw [zw_3_21]; exact kk_21 T s6 s7 hi4 hn
        · rw [zw_3_22]; exact kk_22 T s6 s7 hi4 hn
        · rw [zw_3_23]; exact kk_23 T s6 s7 hi4 hn
        · rw [zw_3_24]; exact kk_24 T s6 s7 hi4 hn
        · rw [zw_3_25]; exact kk_25 T s6 s7 hi4 hn
        · rw [zw_3_26]; exact kk_26 T s6 s7 hi4 hn
        · rw [zw_3_27]; exact kk_27 T s6 s7 hi4 hn
        · rw [zw_3_28]; exact kk_28 T s6 s7 hi4 hn
        · rw [zw_3_29]; exact kk_29 T s6 s7 hi4 hn
        · rw [zw_3_30]; exact kk_30 T s6 s7 hi4 hn
        · rw [zw_3_31]; exact kk_31 T s6 s7 hi4 hn
        · rw [zw_3_32]; exact kk_32 T s6 s7 hi4 hn
        · rw [zw_3_33]; exact kk_33 T s6 s7 hi4 hn hs
        · rw [zw_3_34]; exact kk_34 T s6 s7 hi4 hn hs
        · rw [zw_3_35]; exact kk_35 T s6 s7 hi4 hn h3
        · rw [zw_3_36]; exact kk_36 T s6 s7 hi4 hn
        · rw [zw_3_37]; exact kk_37 T s6 s7 hi4 hn
        · rw [zw_3_38]; exact kk_38 T s6 s7 hi4 hn
        · rw [zw_3_39]; exact kk_39 T s6 s7 hi4 hn
        · rw [zw_3_40]; exact kk_40 T s6 s7 hi4 hn
        · rw [zw_3_41]; exact kk_41 T s6 s7 hi4 hn
        · rw [zw_3_42]; exact kk_42 T s6 s7 hi4 hn
        · rw [zw_3_43]; exact kk_43 T s6 s7 hi4 hn
        · rw [zw_3_44]; exact kk_44 T s6 s7 hi4 hn
        · rw [zw_3_45]; exact kk_45 T s6 s7 hi4 hn
        · rw [zsw_dd j hj r]
          exact ⟨l6, l7, l8, h, w, o2, th, rfl, s6, s7, T, Nat.le_refl _, by omega, by omega⟩
      obtain ⟨l6', l7', l8', h', w', o', th', er, s6', s7', T', g1, g2, g3⟩ := key
      rw [er, zs_299_1557, zs_299_1560, nI_add]
      obtain ⟨h'', e, q1, q2, q3⟩ := ih (i + 4) h' w' o' th' l6' l7' l8' T' s6' s7' hi4 (by omega)
      exact ⟨h'', e, by omega, by omega, by omega⟩
end ZSM
set_option maxRecDepth 10000 in
theorem z_main : zOK2 := by
  intro sv n0 b a1 a2 xs D1 D2 hs0 hs3 hv1 hv2 hb h1 h2 n1 n2 l1 l2 hn
  have hs : sv 0 = .int (nI 1) := hs0
  obtain ⟨h, hh⟩ : ∃ h, h = zh1 n0 b xs a1 D1 a2 D2 := ⟨_, rfl⟩
  have hsz : h.2.1 = n0 := by rw [hh]; rfl
  have hsl : h.2.2 = 0 := by rw [hh]; rfl
  have gb : h.1 b = (28, xs.map Value.int) := by rw [hh]; exact if_pos rfl
  have g1 : h.1 a1 = (27, D1.map Value.int) := by
    rw [hh]
    show (if a1 = b then _ else if a1 = a1 then _ else _) = _
    rw [if_neg n1, if_pos rfl]
  have g2 : ∃ T : List Int32, h.1 a2 = (27, T.map Value.int) ∧ T.length = 100 := by
    rw [hh]
    show ∃ T : List Int32, (if a2 = b then _ else if a2 = a1 then _ else if a2 = a2 then _ else _) = _ ∧ _
    by_cases h12 : a2 = a1
    · rw [if_neg n2, if_pos h12]
      exact ⟨D1, rfl, l1⟩
    · rw [if_neg n2, if_neg h12, if_pos rfl]
      exact ⟨D2, rfl, l2⟩
  obtain ⟨T, g2, lT⟩ := g2
  rw [← hh]
  have T0 := zTi_0 (S := 15821) (by rw [hsz]; exact hb) gb hv1 hv2 g1 g2 l1 lT (by rw [hsz]; exact h1) (by rw [hsz]; exact h2)
  obtain ⟨h', e, q1, q2, q3⟩ := z_loop hs hs3 hn 513 0 _ _ _ _ .unset .unset .unset T0 (Or.inl rfl) (Or.inl ⟨rfl, Or.inl rfl⟩) (Nat.zero_le _) (by omega)
  rw [zr0_sz] at q1 q2
  rw [zr0_sl] at q3
  refine ⟨61, h', by decide, ?_, by omega, by omega⟩
  rw [c_law0 (d := 55) hs]
  rw [nI_0] at e
  exact e
