theorem zvar_of {c : Int32} (h1 : ¬ c < nI 97) (h2 : ¬ nI 102 < c) : ∃ j, j < 6 ∧ c = nI (97 + j) := by
  have e97 : (nI 97).toInt = 97 := nI_toInt (by decide)
  have e102 : (nI 102).toInt = 102 := nI_toInt (by decide)
  rw [Int32.lt_iff_toInt_lt] at h1 h2
  obtain ⟨j, hj, rfl⟩ := nI_of (x := c) (by rw [Int32.lt_iff_toInt_lt]; show ¬ c.toInt < 0; omega)
  rw [nI_toInt hj] at h1 h2
  exact ⟨j - 97, by omega, by congr 1; omega⟩
theorem nI_sub' {a j : Nat} : nI (a + j) - nI a = nI j := by
  rw [Nat.add_comm, ← nI_add, Int32.add_sub_cancel]
