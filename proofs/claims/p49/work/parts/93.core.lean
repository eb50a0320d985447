section ZFA
variable {m : Nat} {F : Nat → Int32} {Kv : Value → zR} {Kc : zC → zR} {x : Int32}
end ZFA
section ZFB
variable {A : List Int32} {i : Nat} {y : Int32} {Kv : Value → zR} {Kc : zC → zR}
end ZFB
/-- a list of nodes in two arrays -/
abbrev yP : Type := List (Int32 × Int32)
section ZFC
variable {sv : Nat → Value} {d : Nat} {h : zH} {m : Nat} {F : Nat → Int32} {qs ps : yP}
end ZFC

def yva (k v : Int32) : Int32 := if k = nI 118 then v - nI 97 else v
/-- a term's nodes in prefix order, as the model keeps them -/
def ypr : yT → yP
  | .leaf => []
  | .inner _ k v l r => (k, yva k v) :: (ypr l ++ ypr r)
theorem ypr_len : ∀ t : yT, (ypr t).length = ysz t
  | .leaf => rfl
  | .inner _ k v l r => by
    show (ypr l ++ ypr r).length + 1 = ysz l + ysz r + 1
    rw [List.length_append, ypr_len l, ypr_len r]
section ZFD
variable {sv : Nat → Value} {d : Nat} {h : zH} {m : Nat} {F : Nat → Int32} {qs ps : yP}
end ZFD

theorem nI_m {n : Nat} : nI (n + 1) - nI 1 = nI n := by rw [← nI_add, Int32.add_sub_cancel]
theorem nI_mm {n : Nat} : nI n + (-1) = nI n - nI 1 := by
  have : (-1 : Int32) = -(nI 1) := by decide +kernel
  rw [this, ← Int32.sub_eq_add_neg]
section ZFL
variable {sv : Nat → Value} {d : Nat} {m : Nat} {F : Nat → Int32} {ps : yP}
end ZFL

section ZMB
variable {sv : Nat → Value} {d : Nat} {h : zH} {m : Nat} {F : Nat → Int32} {A : yA} {N : List Int32}
theorem nI_subn {a b : Nat} (h : b ≤ a) : nI a - nI b = nI (a - b) := by
  obtain ⟨c, rfl⟩ : ∃ c, a = b + c := ⟨a - b, by omega⟩
  rw [nI_sub', Nat.add_sub_cancel_left]
end ZMB

/-- what a variable's leaves become -/
def ysb1 (x : Int32) (u : yP) (q : Int32 × Int32) : yP := if q.1 = nI 118 ∧ q.2 = x then u else [q]
def yct (x : Int32) (p : yP) : Nat := p.countP (fun q => decide (q.1 = nI 118) && decide (q.2 = x))
theorem yva_v {v : Int32} : yva (nI 118) v = v - nI 97 := if_pos rfl
theorem ypr_yins {c : Int32} {u : yT} : ∀ t : yT, (t = .leaf ∨ ytw t = true) → ypr (yins c u t) = (ypr t).flatMap (ysb1 (c - nI 97) (ypr u))
  | .leaf, _ => rfl
  | .inner n k v l r, h => by
    have ht : ytw (.inner n k v l r) = true := h.elim (fun q => by cases q) id
    have hel := ytw_el ht
    have hl : l = .leaf ∨ ytw l = true := by rcases hel with g | g | g | g <;> first | exact Or.inl g.2.1 | exact Or.inl g.2.2.1 | exact Or.inr g.2.2.1
    have hr : r = .leaf ∨ ytw r = true := by rcases hel with g | g | g | g <;> first | exact Or.inl g.2.2 | exact Or.inl g.2.2.2 | exact Or.inr g.2.2.2
    have i1 := ypr_yins (c := c) (u := u) l hl
    have i2 := ypr_yins (c := c) (u := u) r hr
    show ypr (if k = nI 118 ∧ v = c then u else ymk k v (yins c u l) (yins c u r)) = ((k, yva k v) :: (ypr l ++ ypr r)).flatMap (ysb1 (c - nI 97) (ypr u))
    rw [List.flatMap_cons, List.flatMap_append, ← i1, ← i2]
    by_cases hk : k = nI 118
    · subst hk
      have hlv : l = .leaf ∧ r = .leaf := by
        rcases hel with g | g | g | g
        · exact ⟨g.2.1, g.2.2⟩
        · exact ⟨g.2.2.1, g.2.2.2⟩
        · exact absurd g.1 (by decide +kernel)
        · exact absurd g.1 (by decide +kernel)
      obtain ⟨rfl, rfl⟩ := hlv
      by_cases hv : v = c
      · subst hv
        rw [if_pos ⟨rfl, rfl⟩]
        unfold ysb1
        rw [if_pos ⟨rfl, yva_v⟩]
        show _ = ypr u ++ ([] ++ [])
        rw [List.append_nil, List.append_nil]
      · rw [if_neg (fun q => hv q.2)]
        unfold ysb1
        rw [if_neg (fun q => hv (by
          have q2 : yva (nI 118) v = c - nI 97 := q.2
          rw [yva_v] at q2
          rw [← Int32.sub_add_cancel v (nI 97), q2, Int32.sub_add_cancel]))]
        rfl
    · rw [if_neg (fun q => hk q.1)]
      unfold ysb1
      rw [if_neg (fun q => hk q.1)]
      rfl
theorem yct_cons {x : Int32} {q : Int32 × Int32} {p : yP} : yct x (q :: p) = yct x p + (if q.1 = nI 118 ∧ q.2 = x then 1 else 0) := by
  unfold yct
  rw [List.countP_cons]
  by_cases h1 : q.1 = nI 118 <;> by_cases h2 : q.2 = x <;> simp only [h1, h2, decide_true, decide_false, Bool.and_self, Bool.and_true, Bool.and_false, Bool.true_and, Bool.false_and, and_self, and_true, and_false, true_and, false_and, if_true, if_false, Bool.false_eq_true]
theorem ysb1_len {x : Int32} {u : yP} {n : Nat} (hu : u.length = n + 1) : ∀ p : yP, (p.flatMap (ysb1 x u)).length = p.length + yct x p * n
  | [] => by show 0 = 0 + 0 * n; omega
  | q :: p => by
    have ih := ysb1_len (x := x) hu p
    rw [List.flatMap_cons, List.length_append, ih, yct_cons, List.length_cons]
    unfold ysb1
    by_cases h : q.1 = nI 118 ∧ q.2 = x
    · rw [if_pos h, if_pos h, hu, Nat.add_mul]
      omega
    · rw [if_neg h, if_neg h, List.length_singleton, Nat.add_zero (yct x p)]
      omega
section ZMF
variable {sv : Nat → Value} {d : Nat} {h : zH} {m : Nat} {F : Nat → Int32} {A : yA} {N : List Int32}
end ZMF

section ZMH
variable {sv : Nat → Value} {d : Nat} {h : zH} {m : Nat} {F : Nat → Int32} {A : yA} {N : List Int32}
/-- substitutes: what the two terms make -/
theorem ysz_yins {c : Int32} {t u : yT} {n : Nat} (ht : ytw t = true) (hu : ysz u = n + 1) : ysz (yins c u t) = ysz t + yct (c - nI 97) (ypr t) * n := by
  have e := congrArg List.length (ypr_yins (c := c) (u := u) t (Or.inr ht))
  rw [ypr_len, ysb1_len (by rw [ypr_len]; exact hu), ypr_len] at e
  exact e
end ZMH

section ZMI
variable {sv : Nat → Value} {d : Nat} {h : zH} {m : Nat} {F : Nat → Int32} {A : yA} {N : List Int32}
/-- values, registering -/
theorem ylet_of {c : Int32} (h : ylet c = true) : ∃ v, v < 6 ∧ c = nI (97 + v) := by
  unfold ylet at h
  rw [Bool.and_eq_true] at h
  have h1 := of_decide_eq_true h.1
  have h2 := of_decide_eq_true h.2
  have h0 : ¬ c < 0 := fun q => h1 (Int32.lt_trans q (by decide +kernel))
  obtain ⟨k, hk, rfl⟩ := nI_of h0
  have h3 : ¬ k < 97 := fun q => h1 (nI_lt q (by decide))
  have h4 : ¬ 102 < k := fun q => h2 (nI_lt q hk)
  exact ⟨k - 97, by omega, by rw [show 97 + (k - 97) = k by omega]⟩
end ZMI

def yout (w : yW) : List Int32 := w.2.2.2.2.2.2
section ZML
variable {sv : Nat → Value} {d : Nat} {m : Nat} {F : Nat → Int32} {h : zH} {w : yW} {th : Int32}
end ZML

/-- an instruction: kind, register, number, left, right (places: registers, behind them slots) -/
abbrev yI : Type := Int32 × Int32 × Int32 × Int32 × Int32
/-- the code of a term with M registers, from register b on, j slots being busy -/
def yco (M : Nat) : yT → Nat → Nat → List yI
  | .leaf, _, _ => []
  | .inner _ k v l r, b, j =>
    if k = nI 99 ∨ k = nI 118 then [(k, nI b, v, -1, -1)]
    else if k = nI 110 then yco M l b j ++ [(nI 110, nI b, 0, nI b, -1)]
    else if yfo yfD l < yfo yfD r then
      (if yfo yfD l < nI M - nI b then yco M r b j ++ (yco M l (b + 1) j ++ [(k, nI b, 0, nI (b + 1), nI b)])
       else yco M r b j ++ ((nI 115, nI b, nI j, nI b, -1) :: (yco M l b (j + 1) ++ [(k, nI b, 0, nI b, nI (4 + j))])))
    else
      (if yfo yfD r < nI M - nI b then yco M l b j ++ (yco M r (b + 1) j ++ [(k, nI b, 0, nI b, nI (b + 1))])
       else yco M l b j ++ ((nI 115, nI b, nI j, nI b, -1) :: (yco M r b (j + 1) ++ [(k, nI b, 0, nI (4 + j), nI b)])))
/-- how many instructions store a register; how many slots they take -/
def ycs (q : List yI) : Nat := q.countP (fun i => decide (i.1 = nI 115))
def yslo (q : List yI) : Nat := q.foldl (fun a i => if i.1 = nI 115 then max a (i.2.2.1.toNatClampNeg + 1) else a) 0
theorem ycs_app {p q : List yI} : ycs (p ++ q) = ycs p + ycs q := List.countP_append
theorem ycs_1 {q : List yI} {i : yI} (hi : ¬ i.1 = nI 115) : ycs (q ++ [i]) = ycs q := by
  rw [ycs_app]
  unfold ycs
  rw [List.countP_singleton, decide_eq_false hi]
  rfl
theorem ycs_2 {q : List yI} {i : yI} (hi : i.1 = nI 115) : ycs (q ++ [i]) = ycs q + 1 := by
  rw [ycs_app]
  unfold ycs
  rw [List.countP_singleton, decide_eq_true hi]
  rfl
theorem yslo_1 {q : List yI} {i : yI} (hi : ¬ i.1 = nI 115) : yslo (q ++ [i]) = yslo q := by
  unfold yslo
  rw [List.foldl_append, List.foldl_cons, List.foldl_nil, if_neg hi]
theorem yslo_2 {q : List yI} {i : yI} {j : Nat} (hi : i.1 = nI 115) (hj : i.2.2.1 = nI j) (hb : j < 2 ^ 31) : yslo (q ++ [i]) = max (yslo q) (j + 1) := by
  unfold yslo
  rw [List.foldl_append, List.foldl_cons, List.foldl_nil, if_pos hi, hj, nI_clamp hb]
theorem yis_ne {k : Int32} (hk : yis k = true) : ¬ k = nI 99 ∧ ¬ k = nI 118 ∧ ¬ k = nI 110 ∧ ¬ k = nI 115 := ⟨fun q => by rw [q] at hk; exact absurd hk (by decide +kernel), fun q => by rw [q] at hk; exact absurd hk (by decide +kernel), fun q => by rw [q] at hk; exact absurd hk (by decide +kernel), fun q => by rw [q] at hk; exact absurd hk (by decide +kernel)⟩
theorem yco_c {M n : Nat} {k v : Int32} {l r : yT} {b j : Nat} (hk : k = nI 99 ∨ k = nI 118) : yco M (.inner n k v l r) b j = [(k, nI b, v, -1, -1)] := by
  unfold yco
  rw [if_pos hk]
theorem yco_n {M n : Nat} {v : Int32} {l r : yT} {b j : Nat} : yco M (.inner n (nI 110) v l r) b j = yco M l b j ++ [(nI 110, nI b, 0, nI b, -1)] := by
  have h1 : ¬ (nI 110 = nI 99 ∨ nI 110 = nI 118) := by decide +kernel
  conv => lhs; unfold yco
  rw [if_neg h1, if_pos rfl]
/-- what an operator's code is: first and other part -/
def yfi (l r : yT) : yT := if yfo yfD l < yfo yfD r then r else l
def yot (l r : yT) : yT := if yfo yfD l < yfo yfD r then l else r
def yio (l r : yT) (k b x y : Int32) : yI := if yfo yfD l < yfo yfD r then (k, b, 0, y, x) else (k, b, 0, x, y)
theorem yco_o {M n : Nat} {k v : Int32} {l r : yT} {b j : Nat} (hk : yis k = true) : yco M (.inner n k v l r) b j = if yfo yfD (yot l r) < nI M - nI b then yco M (yfi l r) b j ++ (yco M (yot l r) (b + 1) j ++ [yio l r k (nI b) (nI b) (nI (b + 1))]) else yco M (yfi l r) b j ++ ((nI 115, nI b, nI j, nI b, -1) :: (yco M (yot l r) b (j + 1) ++ [yio l r k (nI b) (nI (4 + j)) (nI b)])) := by
  obtain ⟨h1, h2, h3, _⟩ := yis_ne hk
  conv => lhs; unfold yco
  rw [if_neg (fun z => z.elim h1 h2), if_neg h3]
  unfold yfi yot yio
  by_cases c : yfo yfD l < yfo yfD r
  · simp only [if_pos c]
  · simp only [if_neg c]
theorem yot_sz {l r : yT} : ysz (yfi l r) + ysz (yot l r) = ysz l + ysz r ∧ ydp (yfi l r) ≤ max (ydp l) (ydp r) ∧ ydp (yot l r) ≤ max (ydp l) (ydp r) := by
  unfold yfi yot
  by_cases c : yfo yfD l < yfo yfD r
  · simp only [if_pos c]; omega
  · simp only [if_neg c, true_and]; omega
theorem yot_tw {l r : yT} (hl : ytw l = true) (hr : ytw r = true) : ytw (yfi l r) = true ∧ ytw (yot l r) = true := by
  unfold yfi yot
  by_cases c : yfo yfD l < yfo yfD r
  · simp only [if_pos c]; exact ⟨hr, hl⟩
  · simp only [if_neg c]; exact ⟨hl, hr⟩
theorem yco_len {M : Nat} : ∀ (n : Nat) (t : yT), ysz t ≤ n → ytw t = true → ∀ b j, (yco M t b j).length + 1 ≤ 2 * ysz t
  | 0, t, hn, ht, b, j => by
    have := ytw_sz ht
    omega
  | n + 1, .leaf, hn, ht, b, j => by cases ht
  | n + 1, .inner z k v l r, hn, ht, b, j => by
    have hn' : ysz l + ysz r + 1 ≤ n + 1 := hn
    show _ ≤ 2 * (ysz l + ysz r + 1)
    rcases ytw_el ht with g0 | g0 | g0 | g0
    · rw [yco_c (Or.inl g0.1)]
      show 1 + 1 ≤ _
      omega
    · rw [yco_c (Or.inr g0.1)]
      show 1 + 1 ≤ _
      omega
    · obtain ⟨g1, _, g2, g3⟩ := g0
      subst g1
      rw [yco_n, List.length_append]
      have := yco_len (M := M) n l (by omega) g2 b j
      show _ + 1 + 1 ≤ _
      omega
    · obtain ⟨g1, _, g2, g3⟩ := g0
      obtain ⟨w1, w2⟩ := yot_tw g2 g3
      obtain ⟨w3, _⟩ := yot_sz (l := l) (r := r)
      have a1 := fun b j => yco_len (M := M) n (yfi l r) (by have := ytw_sz w2; omega) w1 b j
      have a2 := fun b j => yco_len (M := M) n (yot l r) (by have := ytw_sz w1; omega) w2 b j
      rw [yco_o g1]
      split
      · rw [List.length_append, List.length_append]
        have := a1 b j
        have := a2 (b + 1) j
        show _ + (_ + 1) + 1 ≤ _
        omega
      · rw [List.length_append, List.length_cons, List.length_append]
        have := a1 b j
        have := a2 b (j + 1)
        show _ + (_ + 1 + 1) + 1 ≤ _
        omega
theorem yfD_e {k v a b : Int32} : yfD k v a b = if yis k = true then (if a = b then a + nI 1 else ymx a b) else if k = nI 110 then a else nI 1 := rfl
/-- the need of a term is a number from 1 to its size -/
theorem yfD_n : ∀ t : yT, ytw t = true → ysz t < 2 ^ 30 → ∃ n, 1 ≤ n ∧ n ≤ ysz t ∧ yfo yfD t = nI n
  | .leaf, h, _ => by cases h
  | .inner z k v l r, h, hz => by
    have hz' : ysz l + ysz r + 1 < 2 ^ 30 := hz
    show ∃ n, 1 ≤ n ∧ n ≤ ysz l + ysz r + 1 ∧ yfD k v (yfo yfD l) (yfo yfD r) = nI n
    rw [yfD_e]
    rcases ytw_el h with g0 | g0 | g0 | g0
    · obtain ⟨g1, g2, g3⟩ := g0
      subst g1
      have q1 : ¬ yis (nI 99) = true := by decide +kernel
      have q2 : ¬ nI 99 = nI 110 := by decide +kernel
      exact ⟨1, Nat.le_refl 1, by omega, by rw [if_neg q1, if_neg q2]⟩
    · obtain ⟨g1, gl, g2, g3⟩ := g0
      subst g1
      have q1 : ¬ yis (nI 118) = true := by decide +kernel
      have q2 : ¬ nI 118 = nI 110 := by decide +kernel
      exact ⟨1, Nat.le_refl 1, by omega, by rw [if_neg q1, if_neg q2]⟩
    · obtain ⟨g1, gv, g2, g3⟩ := g0
      obtain ⟨n, n1, n2, n3⟩ := yfD_n l g2 (by omega)
      have q1 : ¬ yis (nI 110) = true := by decide +kernel
      exact ⟨n, n1, by omega, by rw [g1, if_neg q1, if_pos rfl, n3]⟩
    · obtain ⟨gk, gv, g2, g3⟩ := g0
      obtain ⟨n, n1, n2, n3⟩ := yfD_n l g2 (by omega)
      obtain ⟨u, u1, u2, u3⟩ := yfD_n r g3 (by omega)
      rw [if_pos gk, n3, u3]
      by_cases c : nI n = nI u
      · exact ⟨n + 1, by omega, by omega, by rw [if_pos c, nI_1']⟩
      · exact ⟨max n u, by omega, by omega, by rw [if_neg c, nI_ltn (by omega) (by omega)]⟩

section ZQO
variable {sv : Nat → Value} {D : Nat} {m : Nat}
def yi2 (c : Bool) (k b x y : Int32) : yI := if c = true then (k, b, 0, x, y) else (k, b, 0, y, x)
end ZQO

section ZQP
variable {sv : Nat → Value} {m : Nat}
theorem yi2_o {l r : yT} {k b x y : Int32} : yi2 (!decide (yfo yfD l < yfo yfD r)) k b x y = yio l r k b x y := by
  unfold yi2 yio
  by_cases c : yfo yfD l < yfo yfD r
  · rw [decide_eq_true c, if_pos c]; rfl
  · rw [decide_eq_false c, if_neg c]; rfl
end ZQP

/-- what the parts of an instruction are -/
def yIok (i : yI) : Prop := (∃ b, b ≤ 3 ∧ i.2.1 = nI b) ∧ (i.1 = nI 99 ∨ (i.1 = nI 118 ∧ ylet i.2.2.1 = true) ∨ (i.1 = nI 110 ∧ i.2.2.2.1 = i.2.1) ∨ (i.1 = nI 115 ∧ (∃ j, j ≤ 8 ∧ i.2.2.1 = nI j) ∧ i.2.2.2.1 = i.2.1) ∨ (yis i.1 = true ∧ (∃ x, x ≤ 12 ∧ i.2.2.2.1 = nI x) ∧ ∃ y, y ≤ 12 ∧ i.2.2.2.2 = nI y))
theorem yio_ok {l r : yT} {k : Int32} {b x y : Nat} (hk : yis k = true) (hb : b ≤ 3) (hx : x ≤ 12) (hy : y ≤ 12) : yIok (yio l r k (nI b) (nI x) (nI y)) := by
  unfold yio
  split
  · exact ⟨⟨b, hb, rfl⟩, Or.inr (Or.inr (Or.inr (Or.inr ⟨hk, ⟨y, hy, rfl⟩, ⟨x, hx, rfl⟩⟩)))⟩
  · exact ⟨⟨b, hb, rfl⟩, Or.inr (Or.inr (Or.inr (Or.inr ⟨hk, ⟨x, hx, rfl⟩, ⟨y, hy, rfl⟩⟩)))⟩
theorem yco_ok {M : Nat} (hM : M ≤ 4) : ∀ (n : Nat) (t : yT), ysz t ≤ n → ysz t < 2 ^ 30 → ytw t = true → ∀ b j, b < M → j + ydp t ≤ 8 → ∀ i, i ∈ yco M t b j → yIok i
  | 0, t, hn, hz, ht, b, j, hb, hj, i, hi => by
    have := ytw_sz ht
    omega
  | n + 1, .leaf, hn, hz, ht, b, j, hb, hj, i, hi => by cases ht
  | n + 1, .inner z k v l r, hn, hz, ht, b, j, hb, hj, i, hi => by
    have hn' : ysz l + ysz r + 1 ≤ n + 1 := hn
    have hz' : ysz l + ysz r + 1 < 2 ^ 30 := hz
    have hj' : j + (max (ydp l) (ydp r) + 1) ≤ 8 := hj
    rcases ytw_el ht with g0 | g0 | g0 | g0
    · rw [yco_c (Or.inl g0.1), List.mem_singleton] at hi
      subst hi
      exact ⟨⟨b, by omega, rfl⟩, Or.inl g0.1⟩
    · rw [yco_c (Or.inr g0.1), List.mem_singleton] at hi
      subst hi
      exact ⟨⟨b, by omega, rfl⟩, Or.inr (Or.inl ⟨g0.1, g0.2.1⟩)⟩
    · obtain ⟨g1, _, g2, g3⟩ := g0
      subst g1
      rw [yco_n, List.mem_append, List.mem_singleton] at hi
      rcases hi with hi | hi
      · exact yco_ok hM n l (by omega) (by omega) g2 b j hb (by omega) i hi
      · subst hi
        exact ⟨⟨b, by omega, rfl⟩, Or.inr (Or.inr (Or.inl ⟨rfl, rfl⟩))⟩
    · obtain ⟨g1, _, g2, g3⟩ := g0
      obtain ⟨w1, w2⟩ := yot_tw g2 g3
      obtain ⟨w3, w4, w5⟩ := yot_sz (l := l) (r := r)
      have hfz := ytw_sz w1
      have hoz := ytw_sz w2
      obtain ⟨u, n1, n2, n3⟩ := yfD_n (yot l r) w2 (by omega)
      rw [yco_o g1] at hi
      split at hi
      · rename_i cc
        have hbM : b + 1 < M := by
          rw [n3, nI_subn (by omega)] at cc
          have : u < M - b := Nat.lt_of_not_le fun z => nI_nlt z (by omega) cc
          omega
        rw [List.mem_append, List.mem_append, List.mem_singleton] at hi
        rcases hi with hi | hi | hi
        · exact yco_ok hM n _ (by omega) (by omega) w1 b j hb (by omega) i hi
        · exact yco_ok hM n _ (by omega) (by omega) w2 (b + 1) j hbM (by omega) i hi
        · subst hi
          exact yio_ok g1 (by omega) (by omega) (by omega)
      · rw [List.mem_append, List.mem_cons, List.mem_append, List.mem_singleton] at hi
        rcases hi with hi | hi | hi | hi
        · exact yco_ok hM n _ (by omega) (by omega) w1 b j hb (by omega) i hi
        · subst hi
          exact ⟨⟨b, by omega, rfl⟩, Or.inr (Or.inr (Or.inr (Or.inl ⟨rfl, ⟨j, by omega, rfl⟩, rfl⟩)))⟩
        · exact yco_ok hM n _ (by omega) (by omega) w2 b (j + 1) hb (by omega) i hi
        · subst hi
          exact yio_ok g1 (by omega) (by omega) (by omega)
theorem yco_pos {M : Nat} {t : yT} {b j : Nat} (ht : ytw t = true) : 1 ≤ (yco M t b j).length := by
  cases t with
  | leaf => cases ht
  | inner z k v l r =>
    rcases ytw_el ht with g0 | g0 | g0 | g0
    · rw [yco_c (Or.inl g0.1)]
      exact Nat.le_refl 1
    · rw [yco_c (Or.inr g0.1)]
      exact Nat.le_refl 1
    · rw [g0.1, yco_n, List.length_append]
      show 1 ≤ _ + 1
      omega
    · rw [yco_o g0.1]
      split
      · rw [List.length_append, List.length_append]
        show 1 ≤ _ + (_ + 1)
        omega
      · rw [List.length_append, List.length_cons]
        omega
theorem ycs_le {q : List yI} : ycs q ≤ q.length := List.countP_le_length


section ZQR
variable {sv : Nat → Value} {d : Nat} {m : Nat} {h : zH} {w : yW} {th : Int32} {i : Nat} {t : yT} {M : Nat}
theorem yfdiv : ∀ b, b < 63 → ∀ a, a ≤ b → 1 ≤ b → decide (FP.fdiv (FP.i2f (nI a)) (FP.i2f (nI b)) &&& 0x7fffffff ≤ 0x7f800000) = true := by decide +kernel
theorem yIok_c {x : yI} (hx : yIok x) : zty 7 (.int x.1) = true := by
  have e1 : zty 7 (.int (nI 99)) = true := by decide +kernel
  have e2 : zty 7 (.int (nI 118)) = true := by decide +kernel
  have e3 : zty 7 (.int (nI 110)) = true := by decide +kernel
  have e4 : zty 7 (.int (nI 115)) = true := by decide +kernel
  have e5 : zty 7 (.int (nI 43)) = true := by decide +kernel
  have e6 : zty 7 (.int (nI 45)) = true := by decide +kernel
  have e7 : zty 7 (.int (nI 42)) = true := by decide +kernel
  rcases hx.2 with g | g | g | g | g
  · rw [g]; exact e1
  · rw [g.1]; exact e2
  · rw [g.1]; exact e3
  · rw [g.1]; exact e4
  · rcases yis_k g.1 with z | z | z <;> rw [z]
    · exact e5
    · exact e6
    · exact e7
end ZQR

section ZQS
variable {sv : Nat → Value} {d : Nat} {m : Nat} {h : zH} {w : yW} {th : Int32} {i : Nat} {t : yT} {M : Nat}
/-- the least number of registers, of n from k on, with which a term's code stores none -/
def ylr (t : yT) : Nat → Nat → Option Nat
  | _, 0 => none
  | k, n + 1 => if ycs (yco k t 0 0) = 0 then some k else ylr t (k + 1) n
end ZQS

section ZQU
variable {sv : Nat → Value} {d : Nat} {m : Nat} {h : zH} {w : yW} {th : Int32} {i : Nat} {t : yT} {M : Nat}
/-- the order of formulas by size -/
def ymo (a b : yT) : Int32 := if nI (ysz a) - nI (ysz b) = 0 then nI (ydp a) - nI (ydp b) else nI (ysz a) - nI (ysz b)
def ybe (T : List yT) (f q : Nat) : Bool := match T[q]?, T[f]? with
  | some a, some b => decide (0 < ymo a b) || (decide (ymo a b = 0) && decide (nI q < nI f))
  | _, _ => false
def ybn (T : List yT) (f n : Nat) : Nat := (List.range n).countP (ybe T f)
theorem ybn_s {T : List yT} {f n : Nat} : ybn T f (n + 1) = ybn T f n + (if ybe T f n = true then 1 else 0) := by
  unfold ybn
  rw [List.range_succ, List.countP_append, List.countP_singleton]
/-- the formula of a rank, of n from k on -/
def yrk (T : List yT) (x : Int32) : Nat → Nat → Option Nat
  | _, 0 => none
  | k, n + 1 => if nI (ybn T k T.length) = x then some k else yrk T x (k + 1) n
/-- the nodes of the first n formulas -/
def ysu' (T : List yT) (n : Nat) : Nat := ((T.take n).map ysz).sum
theorem ysu'_s {T : List yT} {n : Nat} {a : yT} (ha : T[n]? = some a) : ysu' T (n + 1) = ysu' T n + ysz a := by
  unfold ysu'
  rw [List.take_add_one, ha, List.map_append, List.sum_append]
  rfl
theorem ysu'_le {T : List yT} (hT : ∀ t, t ∈ T → ytok t) : ∀ n, ysu' T n ≤ 31 * n
  | 0 => by
    unfold ysu'
    exact Nat.le_refl _
  | n + 1 => by
    have ih := ysu'_le hT n
    cases ha : T[n]? with
    | none =>
      have : T.take (n + 1) = T.take n := by
        rw [List.take_add_one, ha]
        exact List.append_nil _
      unfold ysu' at ih ⊢
      rw [this]
      omega
    | some a =>
      rw [ysu'_s ha]
      have := (hT a (List.mem_of_getElem? ha)).2.1
      omega
theorem yddiv : ∀ b, b < 7 → 1 ≤ b → ∀ a, a < 187 → decide (FP.ddiv (FP.i2d (nI a)) (FP.i2d (nI b)) &&& 0x7fffffffffffffff ≤ 0x7ff0000000000000) = true := by decide +kernel
end ZQU

section ZQV
variable {sv : Nat → Value} {d : Nat} {m : Nat}
/-- how many digits a number has (fuel first) -/
def ydgn : Nat → Nat → Nat
  | 0, _ => 1
  | f + 1, n => if 9 < n then ydgn f (n / 10) + 1 else 1
theorem ydgn_le : ∀ f n, ydgn f n ≤ f + 1 ∧ 1 ≤ ydgn f n
  | 0, n => ⟨Nat.le_refl 1, Nat.le_refl 1⟩
  | f + 1, n => by
    obtain ⟨h1, h2⟩ := ydgn_le f (n / 10)
    unfold ydgn
    split <;> omega
/-- how many signs a number is written with -/
def yilen (x : Int32) : Nat := (if x < 0 then 1 else 0) + ydgn 9 x.toInt.natAbs
theorem yilen_le (x : Int32) : yilen x ≤ 11 := by
  unfold yilen
  have := (ydgn_le 9 x.toInt.natAbs).1
  split <;> omega
end ZQV

section ZQW
variable {sv : Nat → Value} {d : Nat} {m : Nat} {h : zH} {w : yW} {th : Int32} {i : Nat} {t : yT} {M : Nat}
/-- another output -/
def yso (w : yW) (o : List Int32) : yW := (w.1, w.2.1, w.2.2.1, w.2.2.2.1, w.2.2.2.2.1, w.2.2.2.2.2.1, o)
theorem ylet_w {v : Int32} (hv : ylet v = true) : nI 97 + (v - nI 97) = v ∧ (v.toUInt32 % 65536).toInt32 = v ∧ ynr v = v ∧ ychr v := by
  obtain ⟨k, hk, rfl⟩ := ylet_of hv
  have h1 : ∀ k, k < 6 → nI 97 + (nI (97 + k) - nI 97) = nI (97 + k) ∧ ((nI (97 + k)).toUInt32 % 65536).toInt32 = nI (97 + k) ∧ ynr (nI (97 + k)) = nI (97 + k) ∧ zty 7 (.int (nI (97 + k))) = true := by decide +kernel
  exact h1 k hk
end ZQW

section ZQX
variable {sv : Nat → Value} {d : Nat} {m : Nat}
def yow (k : Int32) : Int32 := if k = nI 43 then nI 1 else if k = nI 45 then nI 1 else if k = nI 42 then nI 2 else nI 3
end ZQX
