section ZSL
def zL6 (l : Slot) : Prop := l = .unset ∨ ∃ x : Int32, l = .val (.int x)
def zL7 (l l' : Slot) : Prop := (l' = .unset ∧ (l = .unset ∨ (∃ x : Int32, l = .val (.int x)) ∨ ∃ x : UInt32, l = .val (.float x))) ∨ ((∃ x : UInt64, l = .val (.double x)) ∧ l' = .second)
theorem zL6_n {l : Slot} (s : zL6 l) : znw l = true := by
  rcases s with rfl | ⟨x, rfl⟩
  · exact znw_u
  · exact znw_i
theorem zL7_n {l l' : Slot} (s : zL7 l l') : (znw l = true ∧ l' = .unset) ∨ ((∃ x : UInt64, l = .val (.double x)) ∧ l' = .second) := by
  rcases s with ⟨rfl, rfl | ⟨x, rfl⟩ | ⟨x, rfl⟩⟩ | s
  · exact Or.inl ⟨znw_u, rfl⟩
  · exact Or.inl ⟨znw_i, rfl⟩
  · exact Or.inl ⟨rfl, rfl⟩
  · exact Or.inr s
variable {sv : Nat → Value} {m b i : Nat} {xs : List Int32} {h : zH}
/-- a call of the law comes to its loop's end -/
def zgoL (sv : Nat → Value) (m b : Nat) (xs : List Int32) (i : Nat) (h : zH) (pe : Nat) (r : zR) : Prop := ∃ (l6 l7 l8 : Slot) (h' : zH) (w' : yW) (o' : List Int32) (th' : Int32), r = zrun zP sv (zcall zP sv 60) 299 pe [.val (.ref b), .val (.ref m), .val (.ref (m + 119)), .val (.ref (m + 137)), .val (.ref (m + 138)), .val (.int (nI i)), l6, l7, l8] [] h' ∧ zL6 l6 ∧ zL7 l7 l8 ∧ zTi sv h' m b xs w' o' th' ∧ zgr h h'
theorem zscr {j : Nat} {K : Value → zR} (hb : h.1 b = (28, xs.map Value.int)) (hi : i + j < xs.length) (h2 : xs.length ≤ 2048) : zael (h.1 b) 28 (nI i + nI j) K = K (.int (xs.getD (i + j) 0)) := by
  rw [hb, nI_add]
  exact zael_k (by rw [List.getElem?_map, List.getElem?_eq_getElem hi, List.getD_eq_getElem?_getD, List.getElem?_eq_getElem hi]; rfl) (by omega)
theorem zscr0 {K : Value → zR} (hb : h.1 b = (28, xs.map Value.int)) (hi : i < xs.length) (h2 : xs.length ≤ 2048) : zael (h.1 b) 28 (nI i) K = K (.int (xs.getD i 0)) := by
  rw [hb]
  exact zael_k (by rw [List.getElem?_map, List.getElem?_eq_getElem hi, List.getD_eq_getElem?_getD, List.getElem?_eq_getElem hi]; rfl) (by omega)
theorem zlcx {x : Int64} : lg_cmp x x = 0 := by
  unfold lg_cmp
  simp
theorem zend_t {n : Nat} (hn : n ≤ 2048) (hi : i ≤ 2048) (hl : n < i + 4) : nI n - nI 4 < nI i := by
  by_cases h4 : n < 4
  · have hneg : nI n - nI 4 < 0 := by
      rcases (show n = 0 ∨ n = 1 ∨ n = 2 ∨ n = 3 by omega) with rfl | rfl | rfl | rfl <;> decide +kernel
    exact Int32.lt_of_lt_of_le hneg (by
      rw [← Int32.not_lt]
      exact nI_pos (by omega))
  · rw [show n = 4 + (n - 4) by omega, nI_sub']
    exact nI_lt (by omega) (by omega)
theorem zend_f {n : Nat} (hn : n ≤ 2048) (hl : i + 4 ≤ n) : ¬ nI n - nI 4 < nI i := by
  rw [show n = 4 + (n - 4) by omega, nI_sub']
  exact nI_nlt (by omega) (by omega)
end ZSL
