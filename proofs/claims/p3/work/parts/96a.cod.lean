/-- an instruction: kind, register, number, left, right (places: registers, behind them slots) -/
abbrev yI : Type := Int32 × Int32 × Int32 × Int32 × Int32
/-- the code of a term with M registers, from register b on, j slots being busy -/
def yco (M : Nat) : yT → Nat → Nat → List yI
  | .leaf, _, _ => []
  | .inner _ k v l r, b, j =>
    if k = nI 99 ∨ k = nI 118 then [(k, nI b, v, -1, -1)]
    else if k = nI 110 then yco M l b j ++ [(nI 110, nI b, 0, nI b, -1)]
    else if yfo yfD l < yfo yfD r then
      (if yfo yfD l < nI M - nI b then yco M r b j ++ (yco M l (b + 1) j ++ [(k, nI b, 0, nI (b + 1), nI b)])
       else yco M r b j ++ ((nI 115, nI b, nI j, nI b, -1) :: (yco M l b (j + 1) ++ [(k, nI b, 0, nI b, nI (4 + j))])))
    else
      (if yfo yfD r < nI M - nI b then yco M l b j ++ (yco M r (b + 1) j ++ [(k, nI b, 0, nI b, nI (b + 1))])
       else yco M l b j ++ ((nI 115, nI b, nI j, nI b, -1) :: (yco M r b (j + 1) ++ [(k, nI b, 0, nI (4 + j), nI b)])))
/-- how many instructions store a register; how many slots they take -/
def ycs (q : List yI) : Nat := q.countP (fun i => decide (i.1 = nI 115))
def yslo (q : List yI) : Nat := q.foldl (fun a i => if i.1 = nI 115 then max a (i.2.2.1.toNatClampNeg + 1) else a) 0
theorem ycs_app {p q : List yI} : ycs (p ++ q) = ycs p + ycs q := List.countP_append
theorem ycs_1 {q : List yI} {i : yI} (hi : ¬ i.1 = nI 115) : ycs (q ++ [i]) = ycs q := by
  rw [ycs_app]
  unfold ycs
  rw [List.countP_singleton, decide_eq_false hi]
  rfl
theorem ycs_2 {q : List yI} {i : yI} (hi : i.1 = nI 115) : ycs (q ++ [i]) = ycs q + 1 := by
  rw [ycs_app]
  unfold ycs
  rw [List.countP_singleton, decide_eq_true hi]
  rfl
theorem yslo_1 {q : List yI} {i : yI} (hi : ¬ i.1 = nI 115) : yslo (q ++ [i]) = yslo q := by
  unfold yslo
  rw [List.foldl_append, List.foldl_cons, List.foldl_nil, if_neg hi]
theorem yslo_2 {q : List yI} {i : yI} {j : Nat} (hi : i.1 = nI 115) (hj : i.2.2.1 = nI j) (hb : j < 2 ^ 31) : yslo (q ++ [i]) = max (yslo q) (j + 1) := by
  unfold yslo
  rw [List.foldl_append, List.foldl_cons, List.foldl_nil, if_pos hi, hj, nI_clamp hb]
theorem yis_ne {k : Int32} (hk : yis k = true) : ¬ k = nI 99 ∧ ¬ k = nI 118 ∧ ¬ k = nI 110 ∧ ¬ k = nI 115 := ⟨fun q => by rw [q] at hk; exact absurd hk (by decide +kernel), fun q => by rw [q] at hk; exact absurd hk (by decide +kernel), fun q => by rw [q] at hk; exact absurd hk (by decide +kernel), fun q => by rw [q] at hk; exact absurd hk (by decide +kernel)⟩
theorem yco_c {M n : Nat} {k v : Int32} {l r : yT} {b j : Nat} (hk : k = nI 99 ∨ k = nI 118) : yco M (.inner n k v l r) b j = [(k, nI b, v, -1, -1)] := by
  unfold yco
  rw [if_pos hk]
theorem yco_n {M n : Nat} {v : Int32} {l r : yT} {b j : Nat} : yco M (.inner n (nI 110) v l r) b j = yco M l b j ++ [(nI 110, nI b, 0, nI b, -1)] := by
  have h1 : ¬ (nI 110 = nI 99 ∨ nI 110 = nI 118) := by decide +kernel
  conv => lhs; unfold yco
  rw [if_neg h1, if_pos rfl]
/-- what an operator's code is: first and other part -/
def yfi (l r : yT) : yT := if yfo yfD l < yfo yfD r then r else l
def yot (l r : yT) : yT := if yfo yfD l < yfo yfD r then l else r
def yio (l r : yT) (k b x y : Int32) : yI := if yfo yfD l < yfo yfD r then (k, b, 0, y, x) else (k, b, 0, x, y)
theorem yco_o {M n : Nat} {k v : Int32} {l r : yT} {b j : Nat} (hk : yis k = true) : yco M (.inner n k v l r) b j = if yfo yfD (yot l r) < nI M - nI b then yco M (yfi l r) b j ++ (yco M (yot l r) (b + 1) j ++ [yio l r k (nI b) (nI b) (nI (b + 1))]) else yco M (yfi l r) b j ++ ((nI 115, nI b, nI j, nI b, -1) :: (yco M (yot l r) b (j + 1) ++ [yio l r k (nI b) (nI (4 + j)) (nI b)])) := by
  obtain ⟨h1, h2, h3, _⟩ := yis_ne hk
  conv => lhs; unfold yco
  rw [if_neg (fun z => z.elim h1 h2), if_neg h3]
  unfold yfi yot yio
  by_cases c : yfo yfD l < yfo yfD r
  · simp only [if_pos c]
  · simp only [if_neg c]
theorem yot_sz {l r : yT} : ysz (yfi l r) + ysz (yot l r) = ysz l + ysz r ∧ ydp (yfi l r) ≤ max (ydp l) (ydp r) ∧ ydp (yot l r) ≤ max (ydp l) (ydp r) := by
  unfold yfi yot
  by_cases c : yfo yfD l < yfo yfD r
  · simp only [if_pos c]; omega
  · simp only [if_neg c, true_and]; omega
theorem yot_tw {l r : yT} (hl : ytw l = true) (hr : ytw r = true) : ytw (yfi l r) = true ∧ ytw (yot l r) = true := by
  unfold yfi yot
  by_cases c : yfo yfD l < yfo yfD r
  · simp only [if_pos c]; exact ⟨hr, hl⟩
  · simp only [if_neg c]; exact ⟨hl, hr⟩
theorem yco_len {M : Nat} : ∀ (n : Nat) (t : yT), ysz t ≤ n → ytw t = true → ∀ b j, (yco M t b j).length + 1 ≤ 2 * ysz t
  | 0, t, hn, ht, b, j => by
    have := ytw_sz ht
    omega
  | n + 1, .leaf, hn, ht, b, j => by cases ht
  | n + 1, .inner z k v l r, hn, ht, b, j => by
    have hn' : ysz l + ysz r + 1 ≤ n + 1 := hn
    show _ ≤ 2 * (ysz l + ysz r + 1)
    rcases ytw_el ht with g0 | g0 | g0 | g0
    · rw [yco_c (Or.inl g0.1)]
      show 1 + 1 ≤ _
      omega
    · rw [yco_c (Or.inr g0.1)]
      show 1 + 1 ≤ _
      omega
    · obtain ⟨g1, _, g2, g3⟩ := g0
      subst g1
      rw [yco_n, List.length_append]
      have := yco_len (M := M) n l (by omega) g2 b j
      show _ + 1 + 1 ≤ _
      omega
    · obtain ⟨g1, _, g2, g3⟩ := g0
      obtain ⟨w1, w2⟩ := yot_tw g2 g3
      obtain ⟨w3, _⟩ := yot_sz (l := l) (r := r)
      have a1 := fun b j => yco_len (M := M) n (yfi l r) (by have := ytw_sz w2; omega) w1 b j
      have a2 := fun b j => yco_len (M := M) n (yot l r) (by have := ytw_sz w1; omega) w2 b j
      rw [yco_o g1]
      split
      · rw [List.length_append, List.length_append]
        have := a1 b j
        have := a2 (b + 1) j
        show _ + (_ + 1) + 1 ≤ _
        omega
      · rw [List.length_append, List.length_cons, List.length_append]
        have := a1 b j
        have := a2 b (j + 1)
        show _ + (_ + 1 + 1) + 1 ≤ _
        omega
theorem yslo_mono {p : List yI} : ∀ (q : List yI), yslo p ≤ yslo (p ++ q) := by
  intro q
  unfold yslo
  rw [List.foldl_append]
  generalize p.foldl (fun a i => if i.1 = nI 115 then max a (i.2.2.1.toNatClampNeg + 1) else a) 0 = a
  induction q generalizing a with
  | nil => exact Nat.le_refl _
  | cons x q ih =>
    rw [List.foldl_cons]
    refine Nat.le_trans ?_ (ih _)
    split <;> omega
theorem yio_k {l r : yT} {k b x y : Int32} : (yio l r k b x y).1 = k := by
  unfold yio
  split <;> rfl
theorem yslo_co {M : Nat} : ∀ (n : Nat) (t : yT), ysz t ≤ n → ytw t = true → ∀ (q : List yI) b j, j + ydp t < 2 ^ 31 → yslo (q ++ yco M t b j) ≤ max (yslo q) (j + ydp t)
  | 0, t, hn, ht, q, b, j, _ => by
    have := ytw_sz ht
    omega
  | n + 1, .leaf, hn, ht, q, b, j, _ => by cases ht
  | n + 1, .inner z k v l r, hn, ht, q, b, j, hj => by
    have hn' : ysz l + ysz r + 1 ≤ n + 1 := hn
    have hj' : j + (max (ydp l) (ydp r) + 1) < 2 ^ 31 := hj
    show _ ≤ max (yslo q) (j + (max (ydp l) (ydp r) + 1))
    rcases ytw_el ht with g0 | g0 | g0 | g0
    · have k1 : ¬ k = nI 115 := by rw [g0.1]; decide +kernel
      rw [yco_c (Or.inl g0.1), yslo_1 k1]
      omega
    · have k1 : ¬ k = nI 115 := by rw [g0.1]; decide +kernel
      rw [yco_c (Or.inr g0.1), yslo_1 k1]
      omega
    · obtain ⟨g1, _, g2, g3⟩ := g0
      subst g1
      have k1 : ¬ nI 110 = nI 115 := by decide +kernel
      rw [yco_n, ← List.append_assoc, yslo_1 k1]
      have := yslo_co (M := M) n l (by omega) g2 q b j (by omega)
      omega
    · obtain ⟨g1, _, g2, g3⟩ := g0
      obtain ⟨w1, w2⟩ := yot_tw g2 g3
      obtain ⟨w3, w4, w5⟩ := yot_sz (l := l) (r := r)
      have k1 := (yis_ne g1).2.2.2
      rw [yco_o g1]
      have a1 := yslo_co (M := M) n (yfi l r) (by have := ytw_sz w2; omega) w1 q b j (by omega)
      split
      · have a2 := yslo_co (M := M) n (yot l r) (by have := ytw_sz w1; omega) w2 (q ++ yco M (yfi l r) b j) (b + 1) j (by omega)
        rw [← List.append_assoc, ← List.append_assoc, yslo_1 (by rw [yio_k]; exact k1)]
        omega
      · have a2 := yslo_co (M := M) n (yot l r) (by have := ytw_sz w1; omega) w2 (q ++ yco M (yfi l r) b j ++ [(nI 115, nI b, nI j, nI b, -1)]) b (j + 1) (by omega)
        rw [yslo_2 rfl rfl (by omega)] at a2
        have e : q ++ (yco M (yfi l r) b j ++ ((nI 115, nI b, nI j, nI b, -1) :: (yco M (yot l r) b (j + 1) ++ [yio l r k (nI b) (nI (4 + j)) (nI b)]))) = q ++ yco M (yfi l r) b j ++ [(nI 115, nI b, nI j, nI b, -1)] ++ yco M (yot l r) b (j + 1) ++ [yio l r k (nI b) (nI (4 + j)) (nI b)] := by
          simp only [List.append_assoc, List.cons_append, List.nil_append]
        rw [e, yslo_1 (by rw [yio_k]; exact k1)]
        omega
theorem yfD_e {k v a b : Int32} : yfD k v a b = if yis k = true then (if a = b then a + nI 1 else ymx a b) else if k = nI 110 then a else nI 1 := rfl
theorem ymf_e {N : List Int32} {k v a b : Int32} : ymf 3 N k v a b = if k = nI 99 then nI 1 else if k = nI 118 then nI 1 else if k = nI 110 then a else (if a = b then a + nI 1 else ymx a b) := rfl
/-- the need of a term is a number from 1 to its size -/
theorem yfD_n : ∀ t : yT, ytw t = true → ysz t < 2 ^ 30 → ∃ n, 1 ≤ n ∧ n ≤ ysz t ∧ yfo yfD t = nI n
  | .leaf, h, _ => by cases h
  | .inner z k v l r, h, hz => by
    have hz' : ysz l + ysz r + 1 < 2 ^ 30 := hz
    show ∃ n, 1 ≤ n ∧ n ≤ ysz l + ysz r + 1 ∧ yfD k v (yfo yfD l) (yfo yfD r) = nI n
    rw [yfD_e]
    rcases ytw_el h with g0 | g0 | g0 | g0
    · obtain ⟨g1, g2, g3⟩ := g0
      subst g1
      have q1 : ¬ yis (nI 99) = true := by decide +kernel
      have q2 : ¬ nI 99 = nI 110 := by decide +kernel
      exact ⟨1, Nat.le_refl 1, by omega, by rw [if_neg q1, if_neg q2]⟩
    · obtain ⟨g1, gl, g2, g3⟩ := g0
      subst g1
      have q1 : ¬ yis (nI 118) = true := by decide +kernel
      have q2 : ¬ nI 118 = nI 110 := by decide +kernel
      exact ⟨1, Nat.le_refl 1, by omega, by rw [if_neg q1, if_neg q2]⟩
    · obtain ⟨g1, gv, g2, g3⟩ := g0
      obtain ⟨n, n1, n2, n3⟩ := yfD_n l g2 (by omega)
      have q1 : ¬ yis (nI 110) = true := by decide +kernel
      exact ⟨n, n1, by omega, by rw [g1, if_neg q1, if_pos rfl, n3]⟩
    · obtain ⟨gk, gv, g2, g3⟩ := g0
      obtain ⟨n, n1, n2, n3⟩ := yfD_n l g2 (by omega)
      obtain ⟨u, u1, u2, u3⟩ := yfD_n r g3 (by omega)
      rw [if_pos gk, n3, u3]
      by_cases c : nI n = nI u
      · exact ⟨n + 1, by omega, by omega, by rw [if_pos c, nI_1']⟩
      · exact ⟨max n u, by omega, by omega, by rw [if_neg c, nI_ltn (by omega) (by omega)]⟩
theorem ymf3 {N : List Int32} : ∀ t : yT, ytw t = true → yfo (ymf 3 N) t = yfo yfD t
  | .leaf, h => by cases h
  | .inner z k v l r, h => by
    have e32 : ¬ (3 : Nat) = 0 := by decide
    show ymf 3 N k v (yfo (ymf 3 N) l) (yfo (ymf 3 N) r) = yfD k v (yfo yfD l) (yfo yfD r)
    rw [ymf_e, yfD_e]
    rcases ytw_el h with g0 | g0 | g0 | g0
    · have q1 : ¬ yis (nI 99) = true := by decide +kernel
      have q2 : ¬ nI 99 = nI 110 := by decide +kernel
      rw [g0.1, if_pos rfl, if_neg q1, if_neg q2]
    · have q1 : ¬ yis (nI 118) = true := by decide +kernel
      have q2 : ¬ nI 118 = nI 110 := by decide +kernel
      have q3 : ¬ nI 118 = nI 99 := by decide +kernel
      rw [g0.1, if_neg q3, if_pos rfl, if_neg q1, if_neg q2]
    · have q1 : ¬ yis (nI 110) = true := by decide +kernel
      have q3 : ¬ nI 110 = nI 99 := by decide +kernel
      have q4 : ¬ nI 110 = nI 118 := by decide +kernel
      rw [g0.1, if_neg q3, if_neg q4, if_pos rfl, if_neg q1, if_pos rfl, ymf3 l g0.2.2.1]
    · obtain ⟨q1, q2, q3, _⟩ := yis_ne g0.1
      rw [if_neg q1, if_neg q2, if_neg q3, if_pos g0.1, ymf3 l g0.2.2.1, ymf3 r g0.2.2.2]
