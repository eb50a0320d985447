/-- what the parts of an instruction are -/
def yIok (i : yI) : Prop := (∃ b, b ≤ 3 ∧ i.2.1 = nI b) ∧ (i.1 = nI 99 ∨ (i.1 = nI 118 ∧ ylet i.2.2.1 = true) ∨ (i.1 = nI 110 ∧ i.2.2.2.1 = i.2.1) ∨ (i.1 = nI 115 ∧ (∃ j, j ≤ 8 ∧ i.2.2.1 = nI j) ∧ i.2.2.2.1 = i.2.1) ∨ (yis i.1 = true ∧ (∃ x, x ≤ 12 ∧ i.2.2.2.1 = nI x) ∧ ∃ y, y ≤ 12 ∧ i.2.2.2.2 = nI y))
theorem yio_ok {l r : yT} {k : Int32} {b x y : Nat} (hk : yis k = true) (hb : b ≤ 3) (hx : x ≤ 12) (hy : y ≤ 12) : yIok (yio l r k (nI b) (nI x) (nI y)) := by
  unfold yio
  split
  · exact ⟨⟨b, hb, rfl⟩, Or.inr (Or.inr (Or.inr (Or.inr ⟨hk, ⟨y, hy, rfl⟩, ⟨x, hx, rfl⟩⟩)))⟩
  · exact ⟨⟨b, hb, rfl⟩, Or.inr (Or.inr (Or.inr (Or.inr ⟨hk, ⟨x, hx, rfl⟩, ⟨y, hy, rfl⟩⟩)))⟩
theorem yco_ok {M : Nat} (hM : M ≤ 4) : ∀ (n : Nat) (t : yT), ysz t ≤ n → ysz t < 2 ^ 30 → ytw t = true → ∀ b j, b < M → j + ydp t ≤ 8 → ∀ i, i ∈ yco M t b j → yIok i
  | 0, t, hn, hz, ht, b, j, hb, hj, i, hi => by
    have := ytw_sz ht
    omega
  | n + 1, .leaf, hn, hz, ht, b, j, hb, hj, i, hi => by cases ht
  | n + 1, .inner z k v l r, hn, hz, ht, b, j, hb, hj, i, hi => by
    have hn' : ysz l + ysz r + 1 ≤ n + 1 := hn
    have hz' : ysz l + ysz r + 1 < 2 ^ 30 := hz
    have hj' : j + (max (ydp l) (ydp r) + 1) ≤ 8 := hj
    rcases ytw_el ht with g0 | g0 | g0 | g0
    · rw [yco_c (Or.inl g0.1), List.mem_singleton] at hi
      subst hi
      exact ⟨⟨b, by omega, rfl⟩, Or.inl g0.1⟩
    · rw [yco_c (Or.inr g0.1), List.mem_singleton] at hi
      subst hi
      exact ⟨⟨b, by omega, rfl⟩, Or.inr (Or.inl ⟨g0.1, g0.2.1⟩)⟩
    · obtain ⟨g1, _, g2, g3⟩ := g0
      subst g1
      rw [yco_n, List.mem_append, List.mem_singleton] at hi
      rcases hi with hi | hi
      · exact yco_ok hM n l (by omega) (by omega) g2 b j hb (by omega) i hi
      · subst hi
        exact ⟨⟨b, by omega, rfl⟩, Or.inr (Or.inr (Or.inl ⟨rfl, rfl⟩))⟩
    · obtain ⟨g1, _, g2, g3⟩ := g0
      obtain ⟨w1, w2⟩ := yot_tw g2 g3
      obtain ⟨w3, w4, w5⟩ := yot_sz (l := l) (r := r)
      have hfz := ytw_sz w1
      have hoz := ytw_sz w2
      obtain ⟨u, n1, n2, n3⟩ := yfD_n (yot l r) w2 (by omega)
      rw [yco_o g1] at hi
      split at hi
      · rename_i cc
        have hbM : b + 1 < M := by
          rw [n3, nI_subn (by omega)] at cc
          have : u < M - b := Nat.lt_of_not_le fun z => nI_nlt z (by omega) cc
          omega
        rw [List.mem_append, List.mem_append, List.mem_singleton] at hi
        rcases hi with hi | hi | hi
        · exact yco_ok hM n _ (by omega) (by omega) w1 b j hb (by omega) i hi
        · exact yco_ok hM n _ (by omega) (by omega) w2 (b + 1) j hbM (by omega) i hi
        · subst hi
          exact yio_ok g1 (by omega) (by omega) (by omega)
      · rw [List.mem_append, List.mem_cons, List.mem_append, List.mem_singleton] at hi
        rcases hi with hi | hi | hi | hi
        · exact yco_ok hM n _ (by omega) (by omega) w1 b j hb (by omega) i hi
        · subst hi
          exact ⟨⟨b, by omega, rfl⟩, Or.inr (Or.inr (Or.inr (Or.inl ⟨rfl, ⟨j, by omega, rfl⟩, rfl⟩)))⟩
        · exact yco_ok hM n _ (by omega) (by omega) w2 b (j + 1) hb (by omega) i hi
        · subst hi
          exact yio_ok g1 (by omega) (by omega) (by omega)
theorem yco_pos {M : Nat} {t : yT} {b j : Nat} (ht : ytw t = true) : 1 ≤ (yco M t b j).length := by
  cases t with
  | leaf => cases ht
  | inner z k v l r =>
    rcases ytw_el ht with g0 | g0 | g0 | g0
    · rw [yco_c (Or.inl g0.1)]
      exact Nat.le_refl 1
    · rw [yco_c (Or.inr g0.1)]
      exact Nat.le_refl 1
    · rw [g0.1, yco_n, List.length_append]
      show 1 ≤ _ + 1
      omega
    · rw [yco_o g0.1]
      split
      · rw [List.length_append, List.length_append]
        show 1 ≤ _ + (_ + 1)
        omega
      · rw [List.length_append, List.length_cons]
        omega
theorem ycs_le {q : List yI} : ycs q ≤ q.length := List.countP_le_length
