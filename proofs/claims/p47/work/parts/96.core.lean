/-- an instruction: kind, register, number, left, right (places: registers, behind them slots) -/
abbrev yI : Type := Int32 × Int32 × Int32 × Int32 × Int32
/-- the code of a term with M registers, from register b on, j slots being busy -/
def yco (M : Nat) : yT → Nat → Nat → List yI
  | .leaf, _, _ => []
  | .inner _ k v l r, b, j =>
    if k = nI 99 ∨ k = nI 118 then [(k, nI b, v, -1, -1)]
    else if k = nI 110 then yco M l b j ++ [(nI 110, nI b, 0, nI b, -1)]
    else if yfo yfD l < yfo yfD r then
      (if yfo yfD l < nI M - nI b then yco M r b j ++ (yco M l (b + 1) j ++ [(k, nI b, 0, nI (b + 1), nI b)])
       else yco M r b j ++ ((nI 115, nI b, nI j, nI b, -1) :: (yco M l b (j + 1) ++ [(k, nI b, 0, nI b, nI (4 + j))])))
    else
      (if yfo yfD r < nI M - nI b then yco M l b j ++ (yco M r (b + 1) j ++ [(k, nI b, 0, nI b, nI (b + 1))])
       else yco M l b j ++ ((nI 115, nI b, nI j, nI b, -1) :: (yco M r b (j + 1) ++ [(k, nI b, 0, nI (4 + j), nI b)])))
/-- how many instructions store a register; how many slots they take -/
def ycs (q : List yI) : Nat := q.countP (fun i => decide (i.1 = nI 115))
def yslo (q : List yI) : Nat := q.foldl (fun a i => if i.1 = nI 115 then max a (i.2.2.1.toNatClampNeg + 1) else a) 0
theorem ycs_app {p q : List yI} : ycs (p ++ q) = ycs p + ycs q := List.countP_append
theorem ycs_1 {q : List yI} {i : yI} (hi : ¬ i.1 = nI 115) : ycs (q ++ [i]) = ycs q := by
  rw [ycs_app]
  unfold ycs
  rw [List.countP_singleton, decide_eq_false hi]
  rfl
theorem ycs_2 {q : List yI} {i : yI} (hi : i.1 = nI 115) : ycs (q ++ [i]) = ycs q + 1 := by
  rw [ycs_app]
  unfold ycs
  rw [List.countP_singleton, decide_eq_true hi]
  rfl
theorem yslo_1 {q : List yI} {i : yI} (hi : ¬ i.1 = nI 115) : yslo (q ++ [i]) = yslo q := by
  unfold yslo
  rw [List.foldl_append, List.foldl_cons, List.foldl_nil, if_neg hi]
theorem yslo_2 {q : List yI} {i : yI} {j : Nat} (hi : i.1 = nI 115) (hj : i.2.2.1 = nI j) (hb : j < 2 ^ 31) : yslo (q ++ [i]) = max (yslo q) (j + 1) := by
  unfold yslo
  rw [List.foldl_append, List.foldl_cons, List.foldl_nil, if_pos hi, hj, nI_clamp hb]
theorem yis_ne {k : Int32} (hk : yis k = true) : ¬ k = nI 99 ∧ ¬ k = nI 118 ∧ ¬ k = nI 110 ∧ ¬ k = nI 115 := ⟨fun q => by rw [q] at hk; exact absurd hk (by decide +kernel), fun q => by rw [q] at hk; exact absurd hk (by decide +kernel), fun q => by rw [q] at hk; exact absurd hk (by decide +kernel), fun q => by rw [q] at hk; exact absurd hk (by decide +kernel)⟩
theorem yco_c {M n : Nat} {k v : Int32} {l r : yT} {b j : Nat} (hk : k = nI 99 ∨ k = nI 118) : yco M (.inner n k v l r) b j = [(k, nI b, v, -1, -1)] := by
  unfold yco
  rw [if_pos hk]
theorem yco_n {M n : Nat} {v : Int32} {l r : yT} {b j : Nat} : yco M (.inner n (nI 110) v l r) b j = yco M l b j ++ [(nI 110, nI b, 0, nI b, -1)] := by
  have h1 : ¬ (nI 110 = nI 99 ∨ nI 110 = nI 118) := by decide +kernel
  conv => lhs; unfold yco
  rw [if_neg h1, if_pos rfl]
/-- what an operator's code is: first and other part -/
def yfi (l r : yT) : yT := if yfo yfD l < yfo yfD r then r else l
def yot (l r : yT) : yT := if yfo yfD l < yfo yfD r then l else r
def yio (l r : yT) (k b x y : Int32) : yI := if yfo yfD l < yfo yfD r then (k, b, 0, y, x) else (k, b, 0, x, y)
theorem yco_o {M n : Nat} {k v : Int32} {l r : yT} {b j : Nat} (hk : yis k = true) : yco M (.inner n k v l r) b j = if yfo yfD (yot l r) < nI M - nI b then yco M (yfi l r) b j ++ (yco M (yot l r) (b + 1) j ++ [yio l r k (nI b) (nI b) (nI (b + 1))]) else yco M (yfi l r) b j ++ ((nI 115, nI b, nI j, nI b, -1) :: (yco M (yot l r) b (j + 1) ++ [yio l r k (nI b) (nI (4 + j)) (nI b)])) := by
  obtain ⟨h1, h2, h3, _⟩ := yis_ne hk
  conv => lhs; unfold yco
  rw [if_neg (fun z => z.elim h1 h2), if_neg h3]
  unfold yfi yot yio
  by_cases c : yfo yfD l < yfo yfD r
  · simp only [if_pos c]
  · simp only [if_neg c]
theorem yot_sz {l r : yT} : ysz (yfi l r) + ysz (yot l r) = ysz l + ysz r ∧ ydp (yfi l r) ≤ max (ydp l) (ydp r) ∧ ydp (yot l r) ≤ max (ydp l) (ydp r) := by
  unfold yfi yot
  by_cases c : yfo yfD l < yfo yfD r
  · simp only [if_pos c]; omega
  · simp only [if_neg c, true_and]; omega
theorem yot_tw {l r : yT} (hl : ytw l = true) (hr : ytw r = true) : ytw (yfi l r) = true ∧ ytw (yot l r) = true := by
  unfold yfi yot
  by_cases c : yfo yfD l < yfo yfD r
  · simp only [if_pos c]; exact ⟨hr, hl⟩
  · simp only [if_neg c]; exact ⟨hl, hr⟩
theorem yco_len {M : Nat} : ∀ (n : Nat) (t : yT), ysz t ≤ n → ytw t = true → ∀ b j, (yco M t b j).length + 1 ≤ 2 * ysz t
  | 0, t, hn, ht, b, j => by
    have := ytw_sz ht
    omega
  | n + 1, .leaf, hn, ht, b, j => by cases ht
  | n + 1, .inner z k v l r, hn, ht, b, j => by
    have hn' : ysz l + ysz r + 1 ≤ n + 1 := hn
    show _ ≤ 2 * (ysz l + ysz r + 1)
    rcases ytw_el ht with g0 | g0 | g0 | g0
    · rw [yco_c (Or.inl g0.1)]
      show 1 + 1 ≤ _
      omega
    · rw [yco_c (Or.inr g0.1)]
      show 1 + 1 ≤ _
      omega
    · obtain ⟨g1, _, g2, g3⟩ := g0
      subst g1
      rw [yco_n, List.length_append]
      have := yco_len (M := M) n l (by omega) g2 b j
      show _ + 1 + 1 ≤ _
      omega
    · obtain ⟨g1, _, g2, g3⟩ := g0
      obtain ⟨w1, w2⟩ := yot_tw g2 g3
      obtain ⟨w3, _⟩ := yot_sz (l := l) (r := r)
      have a1 := fun b j => yco_len (M := M) n (yfi l r) (by have := ytw_sz w2; omega) w1 b j
      have a2 := fun b j => yco_len (M := M) n (yot l r) (by have := ytw_sz w1; omega) w2 b j
      rw [yco_o g1]
      split
      · rw [List.length_append, List.length_append]
        have := a1 b j
        have := a2 (b + 1) j
        show _ + (_ + 1) + 1 ≤ _
        omega
      · rw [List.length_append, List.length_cons, List.length_append]
        have := a1 b j
        have := a2 b (j + 1)
        show _ + (_ + 1 + 1) + 1 ≤ _
        omega
theorem yslo_mono {p : List yI} : ∀ (q : List yI), yslo p ≤ yslo (p ++ q) := by
  intro q
  unfold yslo
  rw [List.foldl_append]
  generalize p.foldl (fun a i => if i.1 = nI 115 then max a (i.2.2.1.toNatClampNeg + 1) else a) 0 = a
  induction q generalizing a with
  | nil => exact Nat.le_refl _
  | cons x q ih =>
    rw [List.foldl_cons]
    refine Nat.le_trans ?_ (ih _)
    split <;> omega
theorem yio_k {l r : yT} {k b x y : Int32} : (yio l r k b x y).1 = k := by
  unfold yio
  split <;> rfl
theorem yslo_co {M : Nat} : ∀ (n : Nat) (t : yT), ysz t ≤ n → ytw t = true → ∀ (q : List yI) b j, j + ydp t < 2 ^ 31 → yslo (q ++ yco M t b j) ≤ max (yslo q) (j + ydp t)
  | 0, t, hn, ht, q, b, j, _ => by
    have := ytw_sz ht
    omega
  | n + 1, .leaf, hn, ht, q, b, j, _ => by cases ht
  | n + 1, .inner z k v l r, hn, ht, q, b, j, hj => by
    have hn' : ysz l + ysz r + 1 ≤ n + 1 := hn
    have hj' : j + (max (ydp l) (ydp r) + 1) < 2 ^ 31 := hj
    show _ ≤ max (yslo q) (j + (max (ydp l) (ydp r) + 1))
    rcases ytw_el ht with g0 | g0 | g0 | g0
    · have k1 : ¬ k = nI 115 := by rw [g0.1]; decide +kernel
      rw [yco_c (Or.inl g0.1), yslo_1 k1]
      omega
    · have k1 : ¬ k = nI 115 := by rw [g0.1]; decide +kernel
      rw [yco_c (Or.inr g0.1), yslo_1 k1]
      omega
    · obtain ⟨g1, _, g2, g3⟩ := g0
      subst g1
      have k1 : ¬ nI 110 = nI 115 := by decide +kernel
      rw [yco_n, ← List.append_assoc, yslo_1 k1]
      have := yslo_co (M := M) n l (by omega) g2 q b j (by omega)
      omega
    · obtain ⟨g1, _, g2, g3⟩ := g0
      obtain ⟨w1, w2⟩ := yot_tw g2 g3
      obtain ⟨w3, w4, w5⟩ := yot_sz (l := l) (r := r)
      have k1 := (yis_ne g1).2.2.2
      rw [yco_o g1]
      have a1 := yslo_co (M := M) n (yfi l r) (by have := ytw_sz w2; omega) w1 q b j (by omega)
      split
      · have a2 := yslo_co (M := M) n (yot l r) (by have := ytw_sz w1; omega) w2 (q ++ yco M (yfi l r) b j) (b + 1) j (by omega)
        rw [← List.append_assoc, ← List.append_assoc, yslo_1 (by rw [yio_k]; exact k1)]
        omega
      · have a2 := yslo_co (M := M) n (yot l r) (by have := ytw_sz w1; omega) w2 (q ++ yco M (yfi l r) b j ++ [(nI 115, nI b, nI j, nI b, -1)]) b (j + 1) (by omega)
        rw [yslo_2 rfl rfl (by omega)] at a2
        have e : q ++ (yco M (yfi l r) b j ++ ((nI 115, nI b, nI j, nI b, -1) :: (yco M (yot l r) b (j + 1) ++ [yio l r k (nI b) (nI (4 + j)) (nI b)]))) = q ++ yco M (yfi l r) b j ++ [(nI 115, nI b, nI j, nI b, -1)] ++ yco M (yot l r) b (j + 1) ++ [yio l r k (nI b) (nI (4 + j)) (nI b)] := by
          simp only [List.append_assoc, List.cons_append, List.nil_append]
        rw [e, yslo_1 (by rw [yio_k]; exact k1)]
        omega
theorem yfD_e {k v a b : Int32} : yfD k v a b = if yis k = true then (if a = b then a + nI 1 else ymx a b) else if k = nI 110 then a else nI 1 := rfl
theorem ymf_e {N : List Int32} {k v a b : Int32} : ymf 3 N k v a b = if k = nI 99 then nI 1 else if k = nI 118 then nI 1 else if k = nI 110 then a else (if a = b then a + nI 1 else ymx a b) := rfl
/-- the need of a term is a number from 1 to its size -/
theorem yfD_n : ∀ t : yT, ytw t = true → ysz t < 2 ^ 30 → ∃ n, 1 ≤ n ∧ n ≤ ysz t ∧ yfo yfD t = nI n
  | .leaf, h, _ => by cases h
  | .inner z k v l r, h, hz => by
    have hz' : ysz l + ysz r + 1 < 2 ^ 30 := hz
    show ∃ n, 1 ≤ n ∧ n ≤ ysz l + ysz r + 1 ∧ yfD k v (yfo yfD l) (yfo yfD r) = nI n
    rw [yfD_e]
    rcases ytw_el h with g0 | g0 | g0 | g0
    · obtain ⟨g1, g2, g3⟩ := g0
      subst g1
      have q1 : ¬ yis (nI 99) = true := by decide +kernel
      have q2 : ¬ nI 99 = nI 110 := by decide +kernel
      exact ⟨1, Nat.le_refl 1, by omega, by rw [if_neg q1, if_neg q2]⟩
    · obtain ⟨g1, gl, g2, g3⟩ := g0
      subst g1
      have q1 : ¬ yis (nI 118) = true := by decide +kernel
      have q2 : ¬ nI 118 = nI 110 := by decide +kernel
      exact ⟨1, Nat.le_refl 1, by omega, by rw [if_neg q1, if_neg q2]⟩
    · obtain ⟨g1, gv, g2, g3⟩ := g0
      obtain ⟨n, n1, n2, n3⟩ := yfD_n l g2 (by omega)
      have q1 : ¬ yis (nI 110) = true := by decide +kernel
      exact ⟨n, n1, by omega, by rw [g1, if_neg q1, if_pos rfl, n3]⟩
    · obtain ⟨gk, gv, g2, g3⟩ := g0
      obtain ⟨n, n1, n2, n3⟩ := yfD_n l g2 (by omega)
      obtain ⟨u, u1, u2, u3⟩ := yfD_n r g3 (by omega)
      rw [if_pos gk, n3, u3]
      by_cases c : nI n = nI u
      · exact ⟨n + 1, by omega, by omega, by rw [if_pos c, nI_1']⟩
      · exact ⟨max n u, by omega, by omega, by rw [if_neg c, nI_ltn (by omega) (by omega)]⟩
theorem ymf3 {N : List Int32} : ∀ t : yT, ytw t = true → yfo (ymf 3 N) t = yfo yfD t
  | .leaf, h => by cases h
  | .inner z k v l r, h => by
    have e32 : ¬ (3 : Nat) = 0 := by decide
    show ymf 3 N k v (yfo (ymf 3 N) l) (yfo (ymf 3 N) r) = yfD k v (yfo yfD l) (yfo yfD r)
    rw [ymf_e, yfD_e]
    rcases ytw_el h with g0 | g0 | g0 | g0
    · have q1 : ¬ yis (nI 99) = true := by decide +kernel
      have q2 : ¬ nI 99 = nI 110 := by decide +kernel
      rw [g0.1, if_pos rfl, if_neg q1, if_neg q2]
    · have q1 : ¬ yis (nI 118) = true := by decide +kernel
      have q2 : ¬ nI 118 = nI 110 := by decide +kernel
      have q3 : ¬ nI 118 = nI 99 := by decide +kernel
      rw [g0.1, if_neg q3, if_pos rfl, if_neg q1, if_neg q2]
    · have q1 : ¬ yis (nI 110) = true := by decide +kernel
      have q3 : ¬ nI 110 = nI 99 := by decide +kernel
      have q4 : ¬ nI 110 = nI 118 := by decide +kernel
      rw [g0.1, if_neg q3, if_neg q4, if_pos rfl, if_neg q1, if_pos rfl, ymf3 l g0.2.2.1]
    · obtain ⟨q1, q2, q3, _⟩ := yis_ne g0.1
      rw [if_neg q1, if_neg q2, if_neg q3, if_pos g0.1, ymf3 l g0.2.2.1, ymf3 r g0.2.2.2]

section ZQN
variable {sv : Nat → Value} {d : Nat} {m : Nat} {F : Nat → Int32} {h : zH} {i : Nat} {t : yT}
/-- an instruction as the model keeps it -/
def ypl (x : Int32) : Int32 := if nI 3 < x then x + nI 6 else x
def ylf (i : yI) : Int32 := if i.1 = nI 99 then i.2.2.1 else if i.1 = nI 118 then i.2.2.1 - nI 97 else if i.1 = nI 110 then i.2.1 else if i.1 = nI 115 then i.2.2.1 else ypl i.2.2.2.1
def yrt (i : yI) : Int32 := if yis i.1 = true then ypl i.2.2.2.2 else 0
def zCdM (h : zH) (m : Nat) (q : List yI) : Prop := ∃ A B C D : List Int32, (h.1 (m + 12) = (21, A.map Value.int) ∧ h.1 (m + 13) = (20, B.map Value.int) ∧ h.1 (m + 14) = (20, C.map Value.int) ∧ h.1 (m + 15) = (20, D.map Value.int)) ∧ (A.length = 700 ∧ B.length = 700 ∧ C.length = 700 ∧ D.length = 700) ∧ (A.take q.length = q.map (fun i => i.1) ∧ B.take q.length = q.map (fun i => i.2.1) ∧ C.take q.length = q.map ylf ∧ D.take q.length = q.map yrt) ∧ q.length ≤ 700
def zcwr (m : Nat) (h h' : zH) : Prop := (∀ q, q ≠ m → (q < m + 12 ∨ m + 16 ≤ q) → h'.1 q = h.1 q) ∧ h'.2 = h.2
theorem zcwr_tr {h h' h'' : zH} (h1 : zcwr m h h') (h2 : zcwr m h' h'') : zcwr m h h'' := ⟨fun q a b => (h2.1 q a b).trans (h1.1 q a b), h2.2.trans h1.2⟩
theorem e_270 {q : List yI} {n : yI} {k b x y : Int32} (hm : h.1 m = (13, zMF m F)) (h19 : F 19 = nI q.length) (hc : zCdM h m q) (hq : q.length < 700) (hk : ynr k = k) (e1 : n.1 = k) (e2 : n.2.1 = b) (e3 : ylf n = x) (e4 : yrt n = y) : ∃ h', zcall zP sv (d + 1) 270 [.ref m, .int k, .int b, .int x, .int y] h = some (.inl none, h') ∧ h'.1 m = (13, zMF m (yup F 19 (nI (q.length + 1)))) ∧ zCdM h' m (q ++ [n]) ∧ zcwr m h h' := by
  obtain ⟨A, B, C, D, ⟨a1, a2, a3, a4⟩, ⟨b1, b2, b3, b4⟩, ⟨c1, c2, c3, c4⟩, q7⟩ := hc
  have hlen : (q ++ [n]).length = q.length + 1 := List.length_append
  have u1 := @zsC A q.length k
  have u2 := @zsI B q.length b
  have u3 := @zsI C q.length x
  have u4 := @zsI D q.length y
  refine ⟨zup (zup (zup (zup (zup h (m + 12) (21, (A.set q.length k).map Value.int)) (m + 13) (20, (B.set q.length b).map Value.int)) (m + 14) (20, (C.set q.length x).map Value.int)) m (13, zMF m (yup F 19 (nI (q.length + 1))))) (m + 15) (20, (D.set q.length y).map Value.int), ?_, ?_, ⟨A.set q.length k, B.set q.length b, C.set q.length x, D.set q.length y, ⟨?_, ?_, ?_, ?_⟩, ⟨by rw [List.length_set, b1], by rw [List.length_set, b2], by rw [List.length_set, b3], by rw [List.length_set, b4]⟩, ⟨?_, ?_, ?_, ?_⟩, by rw [hlen]; omega⟩, ⟨fun r r1 r2 => by rw [zup_ne (by omega), zup_ne (by omega), zup_ne (by omega), zup_ne (by omega), zup_ne (by omega)], rfl⟩⟩
  · simp (disch := omega) only [zc_270, zs_270_0, zs_270_1, zs_270_4, zs_270_5, zs_270_8, zs_270_9, zs_270_10, zs_270_11, zs_270_14, zs_270_15, zs_270_18, zs_270_19, zs_270_20, zs_270_21, zs_270_24, zs_270_25, zs_270_28, zs_270_29, zs_270_30, zs_270_31, zs_270_34, zs_270_35, zs_270_36, zs_270_39, zs_270_40, zs_270_41, zs_270_42, zs_270_45, zs_270_47, zs_270_48, hm, zmf_15, zmf_16, zmf_17, zmf_18, zmf_19, h19, a1, a2, a3, a4, u1, u2, u3, u4, hk, zup_ne, zup_at, zmp_19, nI_1']
  · rw [zup_ne (by omega), zup_at]
  · rw [zup_ne (by omega), zup_ne (by omega), zup_ne (by omega), zup_ne (by omega), zup_at]
  · rw [zup_ne (by omega), zup_ne (by omega), zup_ne (by omega), zup_at]
  · rw [zup_ne (by omega), zup_ne (by omega), zup_at]
  · rw [zup_at]
  · rw [hlen, ytk_set c1 (by omega), List.map_append, ← e1]; rfl
  · rw [hlen, ytk_set c2 (by omega), List.map_append, ← e2]; rfl
  · rw [hlen, ytk_set c3 (by omega), List.map_append, ← e3]; rfl
  · rw [hlen, ytk_set c4 (by omega), List.map_append, ← e4]; rfl
/-- the model's numbers while it writes code -/
def zCs (h : zH) (m : Nat) (F : Nat → Int32) (q : List yI) (j : Nat) : Prop := h.1 m = (13, zMF m F) ∧ F 19 = nI q.length ∧ F 20 = nI (ycs q) ∧ F 21 = nI (2 ^ yslo q - 1) ∧ F 22 = nI (2 ^ j - 1) ∧ zCdM h m q
def yF4 (F F' : Nat → Int32) : Prop := ∀ k, k ≠ 19 → k ≠ 20 → k ≠ 21 → k ≠ 22 → F' k = F k
theorem ybit1 : ∀ j, j < 21 → ∀ i, i < j → (nI (2 ^ j - 1) >>> (nI i &&& 31)) &&& nI 1 = nI 1 := by decide +kernel
theorem ybit0 : ∀ j, j < 21 → (nI (2 ^ j - 1) >>> (nI j &&& 31)) &&& nI 1 = 0 := by decide +kernel
theorem ybits : ∀ s, s < 21 → ∀ j, j ≤ s → nI (2 ^ s - 1) ||| (nI 1 <<< (nI j &&& 31)) = nI (2 ^ (max s (j + 1)) - 1) := by decide +kernel
theorem ybitu : ∀ j, j < 21 → nI (2 ^ (j + 1) - 1) &&& ((nI 1 <<< (nI j &&& 31)) ^^^ (-1)) = nI (2 ^ j - 1) := by decide +kernel
theorem e_271s {l1 l2 l3 l4 l5 l6 l7 l8 l9 l10 : Slot} {j : Nat} (hm : h.1 m = (13, zMF m F)) (h22 : F 22 = nI (2 ^ j - 1)) (hj : j < 21) : ∀ n i, i + n = j → zrun zP sv (zcall zP sv d) 271 159 [.val (.ref m), l1, l2, l3, l4, l5, l6, l7, l8, l9, l10, .val (.int (nI i))] [] h = zrun zP sv (zcall zP sv d) 271 178 [.val (.ref m), l1, l2, l3, l4, l5, l6, l7, l8, l9, l10, .val (.int (nI j))] [] h := by
  intro n
  induction n with
  | zero =>
    intro i hi
    obtain rfl : i = j := by omega
    have b0 := ybit0 i hj
    have e01 : ¬ (0 : Int32) = nI 1 := by decide +kernel
    simp only [zs_271_159, zs_271_160, zs_271_163, zs_271_165, zs_271_166, zs_271_167, zs_271_168, zs_271_169, hm, zmf_22, h22, b0, if_neg e01]
  | succ n ih =>
    intro i hi
    have b1 := ybit1 j hj i (by omega)
    rw [← ih (i + 1) (by omega)]
    have eb : zrun zP sv (zcall zP sv d) 271 172 [.val (.ref m), l1, l2, l3, l4, l5, l6, l7, l8, l9, l10, .val (.int (nI i))] [] h = zrun zP sv (zcall zP sv d) 271 159 [.val (.ref m), l1, l2, l3, l4, l5, l6, l7, l8, l9, l10, .val (.int (nI (i + 1)))] [] h := by rw [zs_271_172, zs_271_175, nI_1']
    rw [← eb]
    simp only [zs_271_159, zs_271_160, zs_271_163, zs_271_165, zs_271_166, zs_271_167, zs_271_168, zs_271_169, hm, zmf_22, h22, b1, ↓reduceIte]
end ZQN

section ZQO
variable {sv : Nat → Value} {D : Nat} {m : Nat}
/-- what the model's method codes does for a term at a place -/
def zMCo (sv : Nat → Value) (D m pos M : Nat) (o : yT) (p : yP) (Fd : List Int32) : Prop := ∀ (b j : Nat) (q : List yI) (h : zH) (F : Nat → Int32), zCs h m F q j → zLst h (m + 5) (m + 6) p → h.1 (m + 9) = (20, Fd.map Value.int) → q.length + 2 * ysz o ≤ 700 → j + ydp o ≤ 20 → j ≤ yslo q → yslo q ≤ 20 → b < M → M ≤ 4 → ∃ h' F', zcall zP sv D 271 [.ref m, .int (nI pos), .int (nI b), .int (nI M)] h = some (.inl none, h') ∧ zCs h' m F' (q ++ yco M o b j) j ∧ yF4 F F' ∧ zcwr m h h'
def yi2 (c : Bool) (k b x y : Int32) : yI := if c = true then (k, b, 0, x, y) else (k, b, 0, y, x)
theorem yi2_1 {c : Bool} {k b x y : Int32} : (yi2 c k b x y).1 = k := by
  unfold yi2
  split <;> rfl
theorem ypl_b {b : Nat} (hb : b ≤ 3) : ypl (nI b) = nI b := by
  unfold ypl
  have : ∀ b, b ≤ 3 → ¬ nI 3 < nI b := by decide +kernel
  rw [if_neg (this b hb)]
theorem ypl_s {j : Nat} (hj : j < 21) : ypl (nI (4 + j)) = nI 10 + nI j := by
  unfold ypl
  have : ∀ j, j < 21 → nI 3 < nI (4 + j) := by decide +kernel
  rw [if_pos (this j hj), nI_add, nI_add]
  congr 1
  omega
theorem yi2_lf {c : Bool} {k b x y : Int32} (hk : yis k = true) : ylf (yi2 c k b x y) = (if c = true then ypl x else ypl y) ∧ yrt (yi2 c k b x y) = (if c = true then ypl y else ypl x) ∧ (yi2 c k b x y).2.1 = b := by
  obtain ⟨h1, h2, h3, h4⟩ := yis_ne hk
  unfold ylf yrt
  rw [yi2_1, if_neg h1, if_neg h2, if_neg h3, if_neg h4, if_pos hk]
  unfold yi2
  cases c <;> exact ⟨rfl, rfl, rfl⟩
theorem yis_nr {k : Int32} (hk : yis k = true) : ynr k = k := by
  rcases yis_k hk with g | g | g <;> rw [g] <;> decide +kernel
theorem e_271b {M b j po : Nat} {k l1 l5 l6 : Int32} {l9 l10 l11 : Slot} {c : Bool} {o : yT} {p : yP} {Fd : List Int32} {q : List yI} {h : zH} {F : Nat → Int32} (h9 : znw l9 = true) (h10 : znw l10 = true) (h11 : znw l11 = true) (hk : yis k = true) (hw : ytw o = true) (hz : ysz o < 600) (hC : zMCo sv (D + 1) m po M o p Fd) (hs : zCs h m F q j) (hl : zLst h (m + 5) (m + 6) p) (hF : h.1 (m + 9) = (20, Fd.map Value.int)) (hfo : Fd[po]? = some (yfo yfD o)) (hpo : po < 700) (hq : q.length + 2 * ysz o + 1 ≤ 700) (hj : j + 1 + ydp o ≤ 20) (hjs : j ≤ yslo q) (hsq : yslo q ≤ 20) (hb : b < M) (hM : M ≤ 4) : ∃ h' F', zrun zP sv (zcall zP sv (D + 1)) 271 126 [.val (.ref m), .val (.int l1), .val (.int (nI b)), .val (.int (nI M)), .val (.int k), .val (.int l5), .val (.int l6), .val (.int (yb c)), .val (.int (nI po)), l9, l10, l11] [] h = some (.inl none, h') ∧ zCs h' m F' (q ++ (if yfo yfD o < nI M - nI b then yco M o (b + 1) j ++ [yi2 c k (nI b) (nI b) (nI (b + 1))] else (nI 115, nI b, nI j, nI b, -1) :: (yco M o b (j + 1) ++ [yi2 c k (nI b) (nI (4 + j)) (nI b)]))) j ∧ yF4 F F' ∧ zcwr m h h' := by
  obtain ⟨n, n1, n2, n3⟩ := yfD_n o hw (by omega)
  have g1 : ∀ Kv, zael (20, Fd.map Value.int) 20 (nI po) Kv = Kv (.int (yfo yfD o)) := fun Kv => zaelv (by rw [List.getElem?_map, hfo]; rfl) (by omega)
  obtain ⟨m0, m19, m20, m21, m22, mC⟩ := hs
  have nk := yis_ne hk
  have hlen := yco_len (M := M) (ysz o) o (Nat.le_refl _) hw
  have zM : nI M - nI b = nI (M - b) := nI_subn (by omega)
  have cm1 : (-1 : Int32) < 0 := by decide +kernel
  by_cases cc : yfo yfD o < nI M - nI b
  · rw [if_pos cc]
    have hbM : b + 1 < M := by
      rw [n3, zM] at cc
      have : n < M - b := Nat.lt_of_not_le fun z => nI_nlt z (by omega) cc
      omega
    obtain ⟨h1, F1, e1, s1, f1, w1⟩ := hC (b + 1) j q h F ⟨m0, m19, m20, m21, m22, mC⟩ hl hF (by omega) (by omega) hjs hsq hbM hM
    obtain ⟨r0, r19, r20, r21, r22, rC⟩ := s1
    have hlb := hlen (b + 1) j
    obtain ⟨y1, y2, y3⟩ := yi2_lf (c := c) (k := k) (b := nI b) (x := nI b) (y := nI (b + 1)) hk
    rw [ypl_b (by omega), ypl_b (by omega)] at y1 y2
    obtain ⟨h2, e2, t0, tC, w2⟩ := e_270 (sv := sv) (d := D) (n := yi2 c k (nI b) (nI b) (nI (b + 1))) r0 r19 rC (by rw [List.length_append]; omega) (yis_nr hk) yi2_1 y3 y1 y2
    refine ⟨h2, _, ?_, ⟨t0, ?_, ?_, ?_, ?_, ?_⟩, ?_, zcwr_tr w1 w2⟩
    · cases c with
      | true =>
        rw [if_pos rfl, if_pos rfl] at e2
        simp (disch := first | exact h9 | exact h10 | exact h11 | exact znw_u | exact znw_i) only [zs_271_126, zs_271_127, zs_271_129, zs_271_130, zs_271_132, zs_271_133, zs_271_135, zs_271_136, zs_271_139, zs_271_141, zs_271_142, zs_271_143, zs_271_144, zs_271_145, zs_271_148, zs_271_149, zs_271_150, zs_271_151, zs_271_153, zs_271_231, zs_271_232, zs_271_234, zs_271_236, zs_271_237, zs_271_240, zs_271_241, zs_271_243, zs_271_244, zs_271_246, zs_271_249, zs_271_251, zs_271_256, zs_271_258, zs_271_261, zs_271_263, zs_271_268, zs_271_271, zs_271_273, zs_271_291, m0, zmf_12, hF, g1, if_pos cc, nI_1', e1, zrc_13v, r0, e2, zbk_v, zts_s, zts_n, yb_t, nI_1e0, if_pos cm1, ↓reduceIte, List.cons_append, List.nil_append]
      | false =>
        rw [if_neg (by decide), if_neg (by decide)] at e2
        simp (disch := first | exact h9 | exact h10 | exact h11 | exact znw_u | exact znw_i) only [zs_271_126, zs_271_127, zs_271_129, zs_271_130, zs_271_132, zs_271_133, zs_271_135, zs_271_136, zs_271_139, zs_271_141, zs_271_142, zs_271_143, zs_271_144, zs_271_145, zs_271_148, zs_271_149, zs_271_150, zs_271_151, zs_271_153, zs_271_231, zs_271_232, zs_271_234, zs_271_236, zs_271_237, zs_271_240, zs_271_241, zs_271_243, zs_271_244, zs_271_246, zs_271_254, zs_271_256, zs_271_258, zs_271_266, zs_271_268, zs_271_271, zs_271_273, zs_271_291, m0, zmf_12, hF, g1, if_pos cc, nI_1', e1, zrc_13v, r0, e2, zbk_v, zts_s, zts_n, yb_f, nI_1e0, if_pos cm1, ↓reduceIte, List.cons_append, List.nil_append]
    · rw [yup_eq, ← List.append_assoc, List.length_append (bs := [_])]; rfl
    · rw [yup_ne (by omega), r20, ← List.append_assoc, ycs_1 (by rw [yi2_1]; exact nk.2.2.2)]
    · rw [yup_ne (by omega), r21, ← List.append_assoc, yslo_1 (by rw [yi2_1]; exact nk.2.2.2)]
    · rw [yup_ne (by omega), r22]
    · rw [← List.append_assoc]; exact tC
    · intro x x1 x2 x3 x4
      rw [yup_ne x1, f1 x x1 x2 x3 x4]
  · rw [if_neg cc]
    have e271 := e_271s (sv := sv) (d := D + 1) (h := h) (l1 := .val (.int l1)) (l2 := .val (.int (nI b))) (l3 := .val (.int (nI M))) (l4 := .val (.int k)) (l5 := .val (.int l5)) (l6 := .val (.int l6)) (l7 := .val (.int (yb c))) (l8 := .val (.int (nI po))) (l9 := .val (.int (nI b))) (l10 := .val (.int (nI b))) m0 m22 (show j < 21 by omega) j 0 (Nat.zero_add _)
    rw [nI_0] at e271
    have u1 := ybits (yslo q) (by omega) j hjs
    have u2 : nI (2 ^ j - 1) ||| (nI 1 <<< (nI j &&& 31)) = nI (2 ^ (j + 1) - 1) := by
      have := ybits j (by omega) j (Nat.le_refl _)
      rw [show max j (j + 1) = j + 1 by omega] at this
      exact this
    have u3 := ybitu j (by omega)
    obtain ⟨hA, hhA⟩ : ∃ hA, hA = zup (zup (zup h m (13, zMF m (yup F 22 (nI (2 ^ (j + 1) - 1))))) m (13, zMF m (yup (yup F 22 (nI (2 ^ (j + 1) - 1))) 21 (nI (2 ^ (max (yslo q) (j + 1)) - 1))))) m (13, zMF m (yup (yup (yup F 22 (nI (2 ^ (j + 1) - 1))) 21 (nI (2 ^ (max (yslo q) (j + 1)) - 1))) 20 (nI (ycs q + 1)))) := ⟨_, rfl⟩
    have A0 : hA.1 m = (13, zMF m (yup (yup (yup F 22 (nI (2 ^ (j + 1) - 1))) 21 (nI (2 ^ (max (yslo q) (j + 1)) - 1))) 20 (nI (ycs q + 1)))) := by rw [hhA, zup_at]
    have Af : zcwr m h hA := ⟨fun x x1 x2 => by rw [hhA, zup_ne x1, zup_ne x1, zup_ne x1], by rw [hhA]; rfl⟩
    have AC : zCdM hA m q := by
      obtain ⟨A, B, C, D', ⟨a1, a2, a3, a4⟩, w⟩ := mC
      exact ⟨A, B, C, D', ⟨by rw [hhA, zup_ne (by omega), zup_ne (by omega), zup_ne (by omega), a1], by rw [hhA, zup_ne (by omega), zup_ne (by omega), zup_ne (by omega), a2], by rw [hhA, zup_ne (by omega), zup_ne (by omega), zup_ne (by omega), a3], by rw [hhA, zup_ne (by omega), zup_ne (by omega), zup_ne (by omega), a4]⟩, w⟩
    have q1 : ylf (nI 115, nI b, nI j, nI b, -1) = nI j := by
      unfold ylf
      have e1 : ¬ nI 115 = nI 99 := by decide +kernel
      have e2 : ¬ nI 115 = nI 118 := by decide +kernel
      have e3 : ¬ nI 115 = nI 110 := by decide +kernel
      rw [if_neg e1, if_neg e2, if_neg e3, if_pos rfl]
    have q2 : yrt (nI 115, nI b, nI j, nI b, -1) = 0 := by
      unfold yrt
      rw [if_neg (show ¬ yis (nI 115) = true by decide +kernel)]
    obtain ⟨hB, eB, B0, BC, wB⟩ := e_270 (sv := sv) (d := D) (n := (nI 115, nI b, nI j, nI b, -1)) A0 (by rw [yup_ne (by omega), yup_ne (by omega), yup_ne (by omega), m19]) AC (by omega) (show ynr (nI 115) = nI 115 by decide +kernel) rfl rfl q1 q2
    have len1 : (q ++ [(nI 115, nI b, nI j, nI b, -1)]).length = q.length + 1 := List.length_append
    have sn1 : yslo (q ++ [(nI 115, nI b, nI j, nI b, -1)]) = max (yslo q) (j + 1) := yslo_2 rfl rfl (by omega)
    obtain ⟨h1, F1, e1, s1, f1, w1⟩ := hC b (j + 1) (q ++ [(nI 115, nI b, nI j, nI b, -1)]) hB _ ⟨B0, by rw [yup_eq, len1], by rw [yup_ne (by omega), yup_eq, ycs_2 rfl], by rw [yup_ne (by omega), yup_ne (by omega), yup_eq, sn1], by rw [yup_ne (by omega), yup_ne (by omega), yup_ne (by omega), yup_eq], BC⟩ (zLst_cg hl (by rw [wB.1 _ (by omega) (by omega), Af.1 _ (by omega) (by omega)]) (by rw [wB.1 _ (by omega) (by omega), Af.1 _ (by omega) (by omega)])) (by rw [wB.1 _ (by omega) (by omega), Af.1 _ (by omega) (by omega), hF]) (by rw [len1]; omega) (by omega) (by rw [sn1]; omega) (by rw [sn1]; omega) hb hM
    obtain ⟨r0, r19, r20, r21, r22, rC⟩ := s1
    have hlb := hlen b (j + 1)
    obtain ⟨y1, y2, y3⟩ := yi2_lf (c := c) (k := k) (b := nI b) (x := nI (4 + j)) (y := nI b) hk
    rw [ypl_b (b := b) (by omega), ypl_s (by omega)] at y1 y2
    obtain ⟨h2, e2, t0, tC, w2⟩ := e_270 (sv := sv) (d := D) (n := yi2 c k (nI b) (nI (4 + j)) (nI b)) r0 r19 rC (by rw [List.length_append, len1]; omega) (yis_nr hk) yi2_1 y3 y1 y2
    have eq1 : q ++ ((nI 115, nI b, nI j, nI b, -1) :: (yco M o b (j + 1) ++ [yi2 c k (nI b) (nI (4 + j)) (nI b)])) = q ++ [(nI 115, nI b, nI j, nI b, -1)] ++ yco M o b (j + 1) ++ [yi2 c k (nI b) (nI (4 + j)) (nI b)] := by
      simp only [List.append_assoc, List.cons_append, List.nil_append]
    have r22' : (yup F1 19 (nI ((q ++ [(nI 115, nI b, nI j, nI b, -1)] ++ yco M o b (j + 1)).length + 1))) 22 = nI (2 ^ (j + 1) - 1) := by rw [yup_ne (by omega), r22]
    have hj0 : ¬ nI j < 0 := nI_pos (by omega)
    refine ⟨zup h2 m (13, zMF m (yup (yup F1 19 (nI ((q ++ [(nI 115, nI b, nI j, nI b, -1)] ++ yco M o b (j + 1)).length + 1))) 22 (nI (2 ^ j - 1)))), _, ?_, ⟨zup_at, ?_, ?_, ?_, ?_, ?_⟩, ?_, ?_⟩
    · cases c with
      | true =>
        rw [if_pos rfl, if_pos rfl] at e2
        rw [yb_t] at e271
        simp (disch := first | exact h9 | exact h10 | exact h11 | exact znw_u | exact znw_i) only [zs_271_126, zs_271_127, zs_271_129, zs_271_130, zs_271_132, zs_271_133, zs_271_135, zs_271_136, zs_271_139, zs_271_141, zs_271_142, zs_271_143, zs_271_144, zs_271_145, zs_271_156, zs_271_157, e271, zs_271_178, zs_271_179, zs_271_180, zs_271_183, zs_271_184, zs_271_186, zs_271_187, zs_271_188, zs_271_191, zs_271_192, zs_271_193, zs_271_196, zs_271_197, zs_271_199, zs_271_200, zs_271_201, zs_271_204, zs_271_205, zs_271_206, zs_271_209, zs_271_210, zs_271_211, zs_271_214, zs_271_215, zs_271_217, zs_271_218, zs_271_220, zs_271_221, zs_271_224, zs_271_226, zs_271_228, zs_271_229, zs_271_231, zs_271_232, zs_271_234, zs_271_236, zs_271_237, zs_271_240, zs_271_241, zs_271_243, zs_271_244, zs_271_246, zs_271_249, zs_271_251, zs_271_256, zs_271_258, zs_271_261, zs_271_263, zs_271_268, zs_271_271, zs_271_273, zs_271_276, zs_271_277, zs_271_278, zs_271_281, zs_271_282, zs_271_284, zs_271_285, zs_271_286, zs_271_287, zs_271_288, zs_271_291, m0, zmf_12, zmf_20, zmf_21, zmf_22, zmp_20, zmp_21, zmp_22, yup_eq, yup_ne (show (21 : Nat) ≠ 22 by decide), yup_ne (show (20 : Nat) ≠ 21 by decide), yup_ne (show (20 : Nat) ≠ 22 by decide), zup_at, m20, m21, m22, u1, u2, hF, g1, if_neg cc, nI_1', ← hhA, A0, eB, B0, e1, zrc_13v, r0, e2, t0, r22', u3, zbk_v, zts_s, zts_n, yb_t, nI_1e0, if_neg hj0, ↓reduceIte, List.cons_append, List.nil_append]
      | false =>
        rw [if_neg (by decide), if_neg (by decide)] at e2
        rw [yb_f] at e271
        simp (disch := first | exact h9 | exact h10 | exact h11 | exact znw_u | exact znw_i) only [zs_271_126, zs_271_127, zs_271_129, zs_271_130, zs_271_132, zs_271_133, zs_271_135, zs_271_136, zs_271_139, zs_271_141, zs_271_142, zs_271_143, zs_271_144, zs_271_145, zs_271_156, zs_271_157, e271, zs_271_178, zs_271_179, zs_271_180, zs_271_183, zs_271_184, zs_271_186, zs_271_187, zs_271_188, zs_271_191, zs_271_192, zs_271_193, zs_271_196, zs_271_197, zs_271_199, zs_271_200, zs_271_201, zs_271_204, zs_271_205, zs_271_206, zs_271_209, zs_271_210, zs_271_211, zs_271_214, zs_271_215, zs_271_217, zs_271_218, zs_271_220, zs_271_221, zs_271_224, zs_271_226, zs_271_228, zs_271_229, zs_271_231, zs_271_232, zs_271_234, zs_271_236, zs_271_237, zs_271_240, zs_271_241, zs_271_243, zs_271_244, zs_271_246, zs_271_254, zs_271_256, zs_271_258, zs_271_266, zs_271_268, zs_271_271, zs_271_273, zs_271_276, zs_271_277, zs_271_278, zs_271_281, zs_271_282, zs_271_284, zs_271_285, zs_271_286, zs_271_287, zs_271_288, zs_271_291, m0, zmf_12, zmf_20, zmf_21, zmf_22, zmp_20, zmp_21, zmp_22, yup_eq, yup_ne (show (21 : Nat) ≠ 22 by decide), yup_ne (show (20 : Nat) ≠ 21 by decide), yup_ne (show (20 : Nat) ≠ 22 by decide), zup_at, m20, m21, m22, u1, u2, hF, g1, if_neg cc, nI_1', ← hhA, A0, eB, B0, e1, zrc_13v, r0, e2, t0, r22', u3, zbk_v, zts_s, zts_n, yb_f, nI_1e0, if_neg hj0, ↓reduceIte, List.cons_append, List.nil_append]
    · rw [yup_ne (by omega), yup_eq, eq1, List.length_append (bs := [yi2 c k (nI b) (nI (4 + j)) (nI b)])]; rfl
    · rw [yup_ne (by omega), yup_ne (by omega), r20, eq1, ycs_1 (by rw [yi2_1]; exact nk.2.2.2)]
    · rw [yup_ne (by omega), yup_ne (by omega), r21, eq1, yslo_1 (by rw [yi2_1]; exact nk.2.2.2)]
    · rw [yup_eq]
    · rw [eq1]
      obtain ⟨A, B, C, D', ⟨a1, a2, a3, a4⟩, w⟩ := tC
      exact ⟨A, B, C, D', ⟨by rw [zup_ne (by omega), a1], by rw [zup_ne (by omega), a2], by rw [zup_ne (by omega), a3], by rw [zup_ne (by omega), a4]⟩, w⟩
    · intro x x1 x2 x3 x4
      rw [yup_ne x4, yup_ne x1, f1 x x1 x2 x3 x4, yup_ne x1, yup_ne x2, yup_ne x3, yup_ne x4]
    · exact zcwr_tr (zcwr_tr (zcwr_tr (zcwr_tr Af wB) w1) w2) ⟨fun x x1 _ => by rw [zup_ne x1], rfl⟩
end ZQO

section ZQP
variable {sv : Nat → Value} {m : Nat}
theorem yi2_o {l r : yT} {k b x y : Int32} : yi2 (!decide (yfo yfD l < yfo yfD r)) k b x y = yio l r k b x y := by
  unfold yi2 yio
  by_cases c : yfo yfD l < yfo yfD r
  · rw [decide_eq_true c, if_pos c]; rfl
  · rw [decide_eq_false c, if_neg c]; rfl
theorem e_271 {M : Nat} {N Fd : List Int32} {p : yP} (hFl : Fd.length = 700) : ∀ (n : Nat) (t : yT), ysz t ≤ n → ytw t = true → ∀ (pre post : yP) (D : Nat), ydp t + 2 ≤ D → p = pre ++ ypr t ++ post → (Fd.drop pre.length).take (ysz t) = yfs (ymf 3 N) t → p.length ≤ 600 → zMCo sv D m pre.length M t p Fd
  | 0, t, hn, ht, pre, post, D, hD, hp, hg, hpl => by
    have := ytw_sz ht
    omega
  | n + 1, .leaf, hn, ht, pre, post, D, hD, hp, hg, hpl => by cases ht
  | n + 1, .inner z k v l r, hn, ht, pre, post, D, hD, hp, hg, hpl => by
    intro b j q h F hs hl hF hq hj hjs hsq hb hM
    have hn' : ysz l + ysz r + 1 ≤ n + 1 := hn
    have hD' : max (ydp l) (ydp r) + 1 + 2 ≤ D := hD
    have hj' : j + (max (ydp l) (ydp r) + 1) ≤ 20 := hj
    have hq' : q.length + 2 * (ysz l + ysz r + 1) ≤ 700 := hq
    obtain ⟨D, rfl⟩ : ∃ D', D = D' + 3 := ⟨D - 3, by omega⟩
    have e0 : p = pre ++ (k, yva k v) :: (ypr l ++ ypr r ++ post) := by
      rw [hp]
      show pre ++ (k, yva k v) :: (ypr l ++ ypr r) ++ post = _
      rw [List.append_assoc]; rfl
    have hi : p[pre.length]? = some (k, yva k v) := by
      rw [e0, List.getElem?_append_right (Nat.le_refl _), Nat.sub_self]; rfl
    have hpre : pre.length < p.length := (List.getElem?_eq_some_iff.mp hi).1
    obtain ⟨A, B, a1, a2, a3, a4, a5⟩ := e_look hl hi
    have hs' := hs
    obtain ⟨m0, m19, m20, m21, m22, mC⟩ := hs
    have c99 : ¬ nI 99 = nI 115 := by decide +kernel
    have c118 : ¬ nI 118 = nI 115 := by decide +kernel
    have c110 : ¬ nI 110 = nI 115 := by decide +kernel
    have c1 : ¬ nI 118 = nI 99 := by decide +kernel
    have c2 : ¬ nI 110 = nI 99 := by decide +kernel
    have c3 : ¬ nI 110 = nI 118 := by decide +kernel
    have i1 : ¬ yis (nI 99) = true := by decide +kernel
    have i2 : ¬ yis (nI 118) = true := by decide +kernel
    have i3 : ¬ yis (nI 110) = true := by decide +kernel
    have one : ∀ (i : yI), q.length + 1 ≤ 700 → ¬ i.1 = nI 115 → ynr i.1 = i.1 → ∃ h' F', zcall zP sv (D + 2) 270 [.ref m, .int i.1, .int i.2.1, .int (ylf i), .int (yrt i)] h = some (.inl none, h') ∧ zCs h' m F' (q ++ [i]) j ∧ yF4 F F' ∧ zcwr m h h' := by
      intro i hq1 hk1 hk2
      obtain ⟨h1, e1, t0, tC, w1⟩ := e_270 (sv := sv) (d := D + 1) (n := i) m0 m19 mC (by omega) hk2 rfl rfl rfl rfl
      refine ⟨h1, _, e1, ⟨t0, by rw [yup_eq, List.length_append]; rfl, by rw [yup_ne (by omega), m20, ycs_1 hk1], by rw [yup_ne (by omega), m21, yslo_1 hk1], by rw [yup_ne (by omega), m22], tC⟩, fun x x1 _ _ _ => yup_ne x1, w1⟩
    rcases ytw_el ht with g0 | g0 | g0 | g0
    · obtain ⟨g1, g2, g3⟩ := g0
      subst g1 g2 g3
      rw [yco_c (Or.inl rfl)]
      obtain ⟨h1, F1, e1, s1, f1, w1⟩ := one (nI 99, nI b, v, -1, -1) (by omega) c99 (show ynr (nI 99) = nI 99 by decide +kernel)
      refine ⟨h1, F1, ?_, s1, f1, w1⟩
      have ev : yva (nI 99) v = v := by unfold yva; rw [if_neg (show ¬ nI 99 = nI 118 by decide +kernel)]
      have ef : ylf (nI 99, nI b, v, -1, -1) = v := by unfold ylf; rw [if_pos rfl]
      have er : yrt (nI 99, nI b, v, -1, -1) = 0 := by unfold yrt; rw [if_neg i1]
      rw [ef, er] at e1
      rw [ev] at a4
      simp (disch := first | exact znw_u | exact znw_i) only [zc_271, zs_271_0, zs_271_1, zs_271_4, zs_271_5, zs_271_6, zs_271_8, zs_271_10, zs_271_13, zs_271_16, zs_271_17, zs_271_19, zs_271_20, zs_271_21, zs_271_24, zs_271_25, zs_271_26, zs_271_27, zs_271_30, m0, zmf_6, zmf_7, a1, a2, a3, a4, e_205, yar_c, zrc_13v, e1, zbk_v, zts_s, zts_n, ↓reduceIte, List.cons_append, List.nil_append]
    · obtain ⟨g1, gl, g2, g3⟩ := g0
      subst g1 g2 g3
      rw [yco_c (Or.inr rfl)]
      obtain ⟨h1, F1, e1, s1, f1, w1⟩ := one (nI 118, nI b, v, -1, -1) (by omega) c118 (show ynr (nI 118) = nI 118 by decide +kernel)
      refine ⟨h1, F1, ?_, s1, f1, w1⟩
      have ev : yva (nI 118) v = v - nI 97 := by unfold yva; rw [if_pos rfl]
      have ef : ylf (nI 118, nI b, v, -1, -1) = v - nI 97 := by unfold ylf; rw [if_neg c1, if_pos rfl]
      have er : yrt (nI 118, nI b, v, -1, -1) = 0 := by unfold yrt; rw [if_neg i2]
      rw [ef, er] at e1
      rw [ev] at a4
      simp (disch := first | exact znw_u | exact znw_i) only [zc_271, zs_271_0, zs_271_1, zs_271_4, zs_271_5, zs_271_6, zs_271_8, zs_271_10, zs_271_13, zs_271_16, zs_271_17, zs_271_19, zs_271_20, zs_271_21, zs_271_24, zs_271_25, zs_271_26, zs_271_27, zs_271_30, m0, zmf_6, zmf_7, a1, a2, a3, a4, e_205, yar_v, zrc_13v, e1, zbk_v, zts_s, zts_n, ↓reduceIte, List.cons_append, List.nil_append]
    · obtain ⟨g1, gv, g2, g3⟩ := g0
      subst g1 gv g3
      have hj3 : j + (max (ydp l) 0 + 1) ≤ 20 := hj
      have hD3 : max (ydp l) 0 + 1 + 2 ≤ D + 3 := hD
      have hq3 : q.length + 2 * (ysz l + 0 + 1) ≤ 700 := hq
      have hn3 : ysz l + 0 + 1 ≤ n + 1 := hn
      rw [yco_n]
      have l1 : (pre ++ [(nI 110, yva (nI 110) 0)]).length = pre.length + 1 := List.length_append
      have hg' : (Fd.drop pre.length).take (ysz l + 0 + 1) = yfo (ymf 3 N) (.inner z (nI 110) 0 l .leaf) :: (yfs (ymf 3 N) l ++ []) := hg
      obtain ⟨gl, _⟩ := ydt_l (b := 0) (B := []) hg' (yfs_len l) rfl
      have IH := e_271 (M := M) (N := N) (p := p) hFl n l (by omega) g2 (pre ++ [(nI 110, yva (nI 110) 0)]) post (D + 2) (by omega) (by rw [e0]; simp only [List.append_assoc, List.cons_append, List.nil_append, ypr]) (by rw [l1]; exact gl) hpl
      rw [l1] at IH
      obtain ⟨h1, F1, e1, s1, f1, w1⟩ := IH b j q h F hs' hl hF (by omega) (by omega) hjs hsq hb hM
      obtain ⟨r0, r19, r20, r21, r22, rC⟩ := s1
      have hlb := yco_len (M := M) (ysz l) l (Nat.le_refl _) g2 b j
      have ef : ylf (nI 110, nI b, 0, nI b, -1) = nI b := by unfold ylf; rw [if_neg c2, if_neg c3, if_pos rfl]
      have er : yrt (nI 110, nI b, 0, nI b, -1) = 0 := by unfold yrt; rw [if_neg i3]
      obtain ⟨h2, e2, t0, tC, w2⟩ := e_270 (sv := sv) (d := D + 1) (n := (nI 110, nI b, 0, nI b, -1)) r0 r19 rC (by rw [List.length_append]; omega) (show ynr (nI 110) = nI 110 by decide +kernel) rfl rfl ef er
      refine ⟨h2, _, ?_, ⟨t0, by rw [yup_eq, ← List.append_assoc, List.length_append (bs := [_])]; rfl, by rw [yup_ne (by omega), r20, ← List.append_assoc, ycs_1 c110], by rw [yup_ne (by omega), r21, ← List.append_assoc, yslo_1 c110], by rw [yup_ne (by omega), r22], by rw [← List.append_assoc]; exact tC⟩, fun x x1 x2 x3 x4 => (yup_ne x1).trans (f1 x x1 x2 x3 x4), zcwr_tr w1 w2⟩
      have n10 : ¬ nI 1 = 0 := by decide +kernel
      simp (disch := first | exact znw_u | exact znw_i) only [zc_271, zs_271_0, zs_271_1, zs_271_4, zs_271_5, zs_271_6, zs_271_8, zs_271_10, zs_271_13, zs_271_31, zs_271_33, zs_271_35, zs_271_38, zs_271_39, zs_271_40, zs_271_41, zs_271_42, zs_271_43, zs_271_44, zs_271_47, zs_271_48, zs_271_50, zs_271_51, zs_271_52, zs_271_53, zs_271_56, m0, zmf_6, a1, a3, e_205, yar_n, if_neg n10, nI_1', zrc_13v, e1, r0, e2, zbk_v, zts_s, zts_n, ↓reduceIte, List.cons_append, List.nil_append]
    · obtain ⟨gk, gv, g2, g3⟩ := g0
      subst gv
      have l1 : (pre ++ [(k, yva k 0)]).length = pre.length + 1 := List.length_append
      have l2 : (pre ++ [(k, yva k 0)] ++ ypr l).length = pre.length + 1 + ysz l := by rw [List.length_append, l1, ypr_len]
      have hg' : (Fd.drop pre.length).take (ysz l + ysz r + 1) = yfo (ymf 3 N) (.inner z k 0 l r) :: (yfs (ymf 3 N) l ++ yfs (ymf 3 N) r) := hg
      obtain ⟨gl, gr⟩ := ydt_l hg' (yfs_len l) (yfs_len r)
      have fl := yfs_hd g2 gl
      have fr := yfs_hd g3 gr
      rw [ymf3 l g2] at fl
      rw [ymf3 r g3] at fr
      have hlz := ytw_sz g2
      have hrz := ytw_sz g3
      have epl : p = (pre ++ [(k, yva k 0)]) ++ ypr l ++ (ypr r ++ post) := by rw [e0]; simp only [List.append_assoc, List.cons_append, List.nil_append]
      have epr : p = (pre ++ [(k, yva k 0)] ++ ypr l) ++ ypr r ++ post := by rw [e0]; simp only [List.append_assoc, List.cons_append, List.nil_append]
      have IHl := e_271 (M := M) (N := N) (p := p) hFl n l (by omega) g2 _ _ (D + 2) (by omega) epl (by rw [l1]; exact gl) hpl
      have IHr := e_271 (M := M) (N := N) (p := p) hFl n r (by omega) g3 _ _ (D + 2) (by omega) epr (by rw [l2]; exact gr) hpl
      rw [l1] at IHl
      rw [l2] at IHr
      have plen : p.length = pre.length + 1 + ysz l + ysz r + post.length := by rw [epr, List.length_append, List.length_append, l2, ypr_len]
      have E9 : zcall zP sv (D + 2) 209 [.ref m, .int (nI (pre ++ [(k, yva k 0)]).length)] h = _ := e_209 (sv := sv) (d := D) (F := F) m0 g2 (by rw [← epl]; exact hl)
      rw [l1] at E9
      have f1 : ∀ Kv, zael (20, Fd.map Value.int) 20 (nI (pre.length + 1)) Kv = Kv (.int (yfo yfD l)) := fun Kv => zaelv (by rw [List.getElem?_map, fl]; rfl) (by omega)
      have f2 : ∀ Kv, zael (20, Fd.map Value.int) 20 (nI (pre.length + 1 + ysz l)) Kv = Kv (.int (yfo yfD r)) := fun Kv => zaelv (by rw [List.getElem?_map, fr]; rfl) (by omega)
      have nk := yis_ne gk
      have n20 : ¬ nI 2 = 0 := by decide +kernel
      rw [yco_o gk]
      have hsl := (yot_sz (l := l) (r := r)).1
      have hdl := (yot_sz (l := l) (r := r)).2
      obtain ⟨w1', w2'⟩ := yot_tw g2 g3
      have hfz := ytw_sz w1'
      have hoz := ytw_sz w2'
      have yot_pos : ∃ pf po, zMCo sv (D + 2) m pf M (yfi l r) p Fd ∧ zMCo sv (D + 2) m po M (yot l r) p Fd ∧ Fd[po]? = some (yfo yfD (yot l r)) ∧ po < 700 ∧ zrun zP sv (zcall zP sv (D + 2)) 271 0 [.val (.ref m), .val (.int (nI pre.length)), .val (.int (nI b)), .val (.int (nI M)), .unset, .unset, .unset, .unset, .unset, .unset, .unset, .unset] [] h = zbk (zcall zP sv (D + 2) 271 [.ref m, .int (nI pf), .int (nI b), .int (nI M)] h) (fun v h' => zrun zP sv (zcall zP sv (D + 2)) 271 126 [.val (.ref m), .val (.int (nI pre.length)), .val (.int (nI b)), .val (.int (nI M)), .val (.int k), .val (.int (nI (pre.length + 1))), .val (.int (nI (pre.length + 1 + ysz l))), .val (.int (yb (!decide (yfo yfD l < yfo yfD r)))), .val (.int (nI po)), .unset, .unset, .unset] (v.toList ++ []) h') (fun E h' => some (.inr E, h')) := by
        by_cases c : yfo yfD l < yfo yfD r
        · refine ⟨pre.length + 1 + ysz l, pre.length + 1, ?_, ?_, ?_, by omega, ?_⟩
          · unfold yfi; rw [if_pos c]; exact IHr
          · unfold yot; rw [if_pos c]; exact IHl
          · unfold yot; rw [if_pos c]; exact fl
          · rw [decide_eq_true c, Bool.not_true, yb_f]
            simp (disch := first | exact znw_u | exact znw_i) only [zs_271_0, zs_271_1, zs_271_4, zs_271_5, zs_271_6, zs_271_8, zs_271_10, zs_271_13, zs_271_31, zs_271_33, zs_271_35, zs_271_57, zs_271_58, zs_271_59, zs_271_60, zs_271_62, zs_271_63, zs_271_65, zs_271_68, zs_271_70, zs_271_71, zs_271_74, zs_271_76, zs_271_77, zs_271_78, zs_271_81, zs_271_83, zs_271_84, zs_271_91, zs_271_92, zs_271_94, zs_271_96, zs_271_104, zs_271_106, zs_271_108, zs_271_109, zs_271_111, zs_271_119, zs_271_121, zs_271_122, zs_271_123, m0, zmf_6, zmf_12, a1, a3, e_205, yar_o gk, if_neg n20, if_neg nk.2.2.1, nI_1', zrc_13v, E9, hF, f1, f2, if_pos c, zbk_v, zts_s, ↓reduceIte, List.cons_append, List.nil_append]
        · refine ⟨pre.length + 1, pre.length + 1 + ysz l, ?_, ?_, ?_, by omega, ?_⟩
          · unfold yfi; rw [if_neg c]; exact IHl
          · unfold yot; rw [if_neg c]; exact IHr
          · unfold yot; rw [if_neg c]; exact fr
          · rw [decide_eq_false c, Bool.not_false, yb_t]
            have n10 : ¬ nI 1 = 0 := by decide +kernel
            simp (disch := first | exact znw_u | exact znw_i) only [zs_271_0, zs_271_1, zs_271_4, zs_271_5, zs_271_6, zs_271_8, zs_271_10, zs_271_13, zs_271_31, zs_271_33, zs_271_35, zs_271_57, zs_271_58, zs_271_59, zs_271_60, zs_271_62, zs_271_63, zs_271_65, zs_271_68, zs_271_70, zs_271_71, zs_271_74, zs_271_76, zs_271_77, zs_271_78, zs_271_81, zs_271_83, zs_271_84, zs_271_87, zs_271_88, zs_271_92, zs_271_94, zs_271_96, zs_271_99, zs_271_101, zs_271_106, zs_271_108, zs_271_109, zs_271_111, zs_271_114, zs_271_116, zs_271_121, zs_271_122, zs_271_123, m0, zmf_6, zmf_12, a1, a3, e_205, yar_o gk, if_neg n20, if_neg n10, if_neg nk.2.2.1, nI_1', zrc_13v, E9, hF, f1, f2, if_neg c, zbk_v, zts_s, ↓reduceIte, List.cons_append, List.nil_append]
      obtain ⟨pf, po, C1, C2, hfo, hpo, e0'⟩ := yot_pos
      obtain ⟨h1, F1, e1, s1, f1', w1⟩ := C1 b j q h F hs' hl hF (by omega) (by omega) hjs hsq hb hM
      have hlb := yco_len (M := M) (ysz (yfi l r)) (yfi l r) (Nat.le_refl _) w1' b j
      have hmono := yslo_mono (p := q) (yco M (yfi l r) b j)
      have hup := yslo_co (M := M) (ysz (yfi l r)) (yfi l r) (Nat.le_refl _) w1' q b j (by omega)
      obtain ⟨h2, F2, e2, s2, f2', w2⟩ := e_271b (sv := sv) (D := D + 1) (k := k) (b := b) (l1 := nI pre.length) (l5 := nI (pre.length + 1)) (l6 := nI (pre.length + 1 + ysz l)) (l9 := .unset) (l10 := .unset) (l11 := .unset) (c := !decide (yfo yfD l < yfo yfD r)) znw_u znw_u znw_u gk w2' (by omega) C2 s1 (zLst_cg hl (w1.1 _ (by omega) (by omega)) (w1.1 _ (by omega) (by omega))) (by rw [w1.1 _ (by omega) (by omega), hF]) hfo hpo (by rw [List.length_append]; omega) (by omega) (by omega) (by omega) hb hM
      refine ⟨h2, F2, ?_, ?_, fun x x1 x2 x3 x4 => (f2' x x1 x2 x3 x4).trans (f1' x x1 x2 x3 x4), zcwr_tr w1 w2⟩
      · rw [zc_271, e0', e1, zbk_v, zts_n]
        exact e2
      · rw [yi2_o, yi2_o] at s2
        by_cases cc : yfo yfD (yot l r) < nI M - nI b
        · rw [if_pos cc] at s2 ⊢
          rw [← List.append_assoc]
          exact s2
        · rw [if_neg cc] at s2 ⊢
          rw [← List.append_assoc]
          exact s2
end ZQP

section ZQQ
variable {sv : Nat → Value} {d : Nat} {m : Nat} {h : zH} {w : yW} {th : Int32} {i : Nat} {t : yT} {M : Nat}
def zMdC (h : zH) (m : Nat) (w : yW) (t : yT) (M : Nat) : Prop := ∃ F : Nat → Int32, F 31 = 0 ∧ zCs h m F (yco M t 0 0) 0 ∧ zWk h m F (ycur w) ∧ (∃ T, zTab h (m + 2) T) ∧ zRst h m F w ∧ yAok (ycur w) ∧ ytok t
theorem zMdC_M (hM : zMdC h m w t M) : zMdl h m w 0 := by
  obtain ⟨F, a1, a2, a3, a4, a5, a6, a7⟩ := hM
  exact ⟨F, a1, a3, a4, a5, a6⟩
theorem zCdM_arr {q : List yI} (hc : zCdM h m q) : zArr h (m + 12) 21 700 ∧ zArr h (m + 13) 20 700 ∧ zArr h (m + 14) 20 700 ∧ zArr h (m + 15) 20 700 := by
  obtain ⟨A, B, C, D, ⟨a1, a2, a3, a4⟩, ⟨b1, b2, b3, b4⟩, _⟩ := hc
  exact ⟨⟨A, a1, b1⟩, ⟨B, a2, b2⟩, ⟨C, a3, b3⟩, ⟨D, a4, b4⟩⟩
theorem e_272x {x y : Int32} (hM : zMdl h m w th) (hx : yinF (ycur w) x = false) : ∃ h', zcall zP sv (d + 7) 272 [.ref m, .int x, .int y] h = some (.inl (some (.int 0)), h') ∧ zMdl h' m w (nI 1) ∧ zmw m h h' := by
  obtain ⟨h1, e1, m1, k1⟩ := e_252x (sv := sv) (d := d) hM hx
  have r0 : ∀ X : zR, zrc (h.1 m) 13 X = X := fun X => zMdl_rc hM
  refine ⟨h1, ?_, m1, k1⟩
  simp only [zc_272, zs_272_0, zs_272_1, zs_272_2, zs_272_5, zs_272_8, zs_272_9, r0, e1, zbk_v, zts_s, zgd_t, zty_50, ↓reduceIte, List.cons_append, List.nil_append]
theorem e_272 (hM : zMdl h m w th) (hi : (ycur w).1[i]? = some t) (h1M : 1 ≤ M) (hM4 : M ≤ 4) : ∃ h', zcall zP sv (d + 11) 272 [.ref m, .int (nI i), .int (nI M)] h = some (.inl (some (.int (nI 1))), h') ∧ zMdC h' m w t M ∧ zmw m h h' := by
  obtain ⟨h1, e1, m1, k1⟩ := e_252 (sv := sv) (d := d + 4) hM hi
  have r0 : ∀ X : zR, zrc (h.1 m) 13 X = X := fun X => zMdl_rc hM
  obtain ⟨F, f31, f8, l5, ⟨hm, ⟨N0, hN0, hn0⟩, hs⟩, ⟨T, hT⟩, hr, hA, tk⟩ := m1
  obtain ⟨_, ⟨p1, l7⟩, hsf, c2, c3, c4, c5, c6⟩ := id hs
  have hm' : h1.1 m = (13, zMF m F) := hm
  obtain ⟨h2, hh2⟩ : ∃ h2, h2 = zup (zup (zup (zup h1 m (13, zMF m (yup F 19 0))) m (13, zMF m (yup (yup F 19 0) 20 0))) m (13, zMF m (yup (yup (yup F 19 0) 20 0) 21 0))) m (13, zMF m (yup (yup (yup (yup F 19 0) 20 0) 21 0) 22 0)) := ⟨_, rfl⟩
  have g2 : h2.1 m = (13, zMF m (yup (yup (yup (yup F 19 0) 20 0) 21 0) 22 0)) := by rw [hh2, zup_at]
  have f2 : ∀ q, q ≠ m → h2.1 q = h1.1 q := fun q z => by rw [hh2, zup_ne z, zup_ne z, zup_ne z, zup_ne z]
  have v : ∀ k, k ≠ 19 → k ≠ 20 → k ≠ 21 → k ≠ 22 → yup (yup (yup (yup F 19 0) 20 0) 21 0) 22 0 k = F k := fun k a b c e => by rw [yup_ne e, yup_ne c, yup_ne b, yup_ne a]
  have m2 : zMdL h2 m w t := ⟨_, by rw [v _ (by omega) (by omega) (by omega) (by omega), f31], by rw [v _ (by omega) (by omega) (by omega) (by omega), f8], zLst_cg l5 (f2 _ (by omega)) (f2 _ (by omega)), zWk_cg ⟨hm, ⟨N0, hN0, hn0⟩, hs⟩ g2 (fun q hq => f2 q (by omega)), ⟨T, zTab_cg hT (f2 _ (by omega))⟩, zRst_cg hr ⟨v _ (by omega) (by omega) (by omega) (by omega), v _ (by omega) (by omega) (by omega) (by omega), v _ (by omega) (by omega) (by omega) (by omega), v _ (by omega) (by omega) (by omega) (by omega), v _ (by omega) (by omega) (by omega) (by omega)⟩ (f2 _ (by omega)) (f2 _ (by omega)) (f2 _ (by omega)) (f2 _ (by omega)), hA, tk⟩
  obtain ⟨h3, N, e3, hN, hn, m3, k3, hFS, fw⟩ := zMdL_f (sv := sv) (d := d + 7) (k := 3) (by decide) m2
  obtain ⟨F3, _, _, l5', ⟨_, ⟨N3, hN3, hn3⟩, hs3⟩, hT3, hr3, _⟩ := m3
  have g3 : h3.1 m = (13, zMF m (yup (yup (yup (yup F 19 0) 20 0) 21 0) 22 0)) := by rw [fw.1 m (by omega) (by omega), g2]
  obtain ⟨St, Fd, _, d1, d2, d3, d4⟩ := hFS
  rw [yfs_len] at d3
  obtain ⟨_, _, _, _, ⟨A12, x12, y12⟩, ⟨A13, x13, y13⟩, ⟨A14, x14, y14⟩, ⟨A15, x15, y15⟩⟩ := id hs3
  have n0 : nI (2 ^ yslo [] - 1) = 0 := by decide +kernel
  have n1 : nI (2 ^ 0 - 1) = 0 := by decide +kernel
  have n2 : nI (ycs []) = 0 := by decide +kernel
  have s3 : zCs h3 m (yup (yup (yup (yup F 19 0) 20 0) 21 0) 22 0) [] 0 := ⟨g3, by rw [yup_ne (by omega), yup_ne (by omega), yup_ne (by omega), yup_eq]; exact nI_0.symm, by rw [yup_ne (by omega), yup_ne (by omega), yup_eq, n2], by rw [yup_ne (by omega), yup_eq, n0], by rw [yup_eq, n1], ⟨A12, A13, A14, A15, ⟨x12, x13, x14, x15⟩, ⟨y12, y13, y14, y15⟩, ⟨rfl, rfl, rfl, rfl⟩, Nat.zero_le _⟩⟩
  have tk' := tk
  obtain ⟨tw, t31, t8⟩ := tk'
  have C := e_271 (sv := sv) (m := m) (M := M) (N := N) (p := ypr t) d2 (ysz t) t (Nat.le_refl _) tw [] [] (d + 10) (by omega) (by rw [List.nil_append, List.append_nil]) d3 (by rw [ypr_len]; omega)
  obtain ⟨h4, F4, e4, s4, f4, w4⟩ := C 0 0 [] h3 _ s3 l5' d1 (by show 0 + 2 * ysz t ≤ 700; omega) (by omega) (Nat.zero_le _) (by show (0 : Nat) ≤ 20; omega) (by omega) hM4
  rw [List.nil_append] at s4
  rw [List.length_nil, nI_0] at e4
  have f4' : ∀ k, k ≠ 19 → k ≠ 20 → k ≠ 21 → k ≠ 22 → F4 k = F k := fun k a b c e => (f4 k a b c e).trans (v k a b c e)
  obtain ⟨z12, z13, z14, z15⟩ := zCdM_arr s4.2.2.2.2.2
  obtain ⟨n, n1', n2', n3'⟩ := yfD_n t tw (by omega)
  have hr0 : ∀ X : zR, zrc (h1.1 m) 13 X = X := fun X => zMo_rc hm
  have gg : ∀ a, a ≠ m → (a < m + 9 ∨ m + 16 ≤ a) → h4.1 a = h1.1 a := fun a a1 a2 => by rw [w4.1 a a1 (by omega), fw.1 a (by omega) (by omega), f2 a a1]
  refine ⟨h4, ?_, ⟨F4, by rw [f4' _ (by omega) (by omega) (by omega) (by omega), f31], s4, ⟨s4.1, ⟨N3, zTab_cg hN3 (w4.1 _ (by omega) (by omega)), hn3⟩, ⟨⟨_, zLst_cg l5' (w4.1 _ (by omega) (by omega)) (w4.1 _ (by omega) (by omega))⟩, ⟨p1, zLst_cg l7 (gg _ (by omega) (by omega)) (gg _ (by omega) (by omega))⟩, ?_, zArr_cg hs3.2.2.2.1 (w4.1 _ (by omega) (by omega)), z12, z13, z14, z15⟩⟩, ⟨T, zTab_cg hT (gg _ (by omega) (by omega))⟩, zRst_cg hr ⟨f4' _ (by omega) (by omega) (by omega) (by omega), f4' _ (by omega) (by omega) (by omega) (by omega), f4' _ (by omega) (by omega) (by omega) (by omega), f4' _ (by omega) (by omega) (by omega) (by omega), f4' _ (by omega) (by omega) (by omega) (by omega)⟩ (gg _ (by omega) (by omega)) (gg _ (by omega) (by omega)) (gg _ (by omega) (by omega)) (gg _ (by omega) (by omega)), hA, tk⟩, ⟨fun q hq => ?_, ?_⟩⟩
  · have c1 : (0 : Int32) < nI n := by rw [← nI_0]; exact nI_lt (by omega) (by omega)
    have n10 : ¬ nI 1 = 0 := by decide +kernel
    rw [ymf3 t tw, n3'] at e3
    simp (disch := first | exact znw_u | exact znw_i) only [zc_272, zs_272_0, zs_272_1, zs_272_2, zs_272_5, zs_272_8, zs_272_9, zs_272_10, zs_272_11, zs_272_12, zs_272_15, zs_272_16, zs_272_17, zs_272_20, zs_272_21, zs_272_22, zs_272_25, zs_272_26, zs_272_27, zs_272_30, zs_272_31, zs_272_32, zs_272_35, zs_272_36, zs_272_37, zs_272_38, zs_272_39, zs_272_40, zs_272_43, zs_272_44, zs_272_47, zs_272_48, zs_272_51, zs_272_52, r0, e1, zbk_v, zts_s, zts_n, if_neg n10, hm', zup_at, zmp_19, zmp_20, zmp_21, zmp_22, ← hh2, g2, zrc_13v, e3, g3, e4, if_pos c1, zgd_t, zty_51, List.cons_append, List.nil_append]
  · obtain ⟨St3, Fd3, s1, s2, s3', s4'⟩ := hs3.2.2.1
    exact ⟨St3, Fd3, by rw [w4.1 _ (by omega) (by omega), s1], s2, by rw [w4.1 _ (by omega) (by omega), s3'], s4'⟩
  · rw [gg q (by omega) (by omega)]
    exact k1.1 q hq
  · rw [w4.2, fw.2, hh2]
    exact k1.2
end ZQQ

/-- what the parts of an instruction are -/
def yIok (i : yI) : Prop := (∃ b, b ≤ 3 ∧ i.2.1 = nI b) ∧ (i.1 = nI 99 ∨ (i.1 = nI 118 ∧ ylet i.2.2.1 = true) ∨ (i.1 = nI 110 ∧ i.2.2.2.1 = i.2.1) ∨ (i.1 = nI 115 ∧ (∃ j, j ≤ 8 ∧ i.2.2.1 = nI j) ∧ i.2.2.2.1 = i.2.1) ∨ (yis i.1 = true ∧ (∃ x, x ≤ 12 ∧ i.2.2.2.1 = nI x) ∧ ∃ y, y ≤ 12 ∧ i.2.2.2.2 = nI y))
theorem yio_ok {l r : yT} {k : Int32} {b x y : Nat} (hk : yis k = true) (hb : b ≤ 3) (hx : x ≤ 12) (hy : y ≤ 12) : yIok (yio l r k (nI b) (nI x) (nI y)) := by
  unfold yio
  split
  · exact ⟨⟨b, hb, rfl⟩, Or.inr (Or.inr (Or.inr (Or.inr ⟨hk, ⟨y, hy, rfl⟩, ⟨x, hx, rfl⟩⟩)))⟩
  · exact ⟨⟨b, hb, rfl⟩, Or.inr (Or.inr (Or.inr (Or.inr ⟨hk, ⟨x, hx, rfl⟩, ⟨y, hy, rfl⟩⟩)))⟩
theorem yco_ok {M : Nat} (hM : M ≤ 4) : ∀ (n : Nat) (t : yT), ysz t ≤ n → ysz t < 2 ^ 30 → ytw t = true → ∀ b j, b < M → j + ydp t ≤ 8 → ∀ i, i ∈ yco M t b j → yIok i
  | 0, t, hn, hz, ht, b, j, hb, hj, i, hi => by
    have := ytw_sz ht
    omega
  | n + 1, .leaf, hn, hz, ht, b, j, hb, hj, i, hi => by cases ht
  | n + 1, .inner z k v l r, hn, hz, ht, b, j, hb, hj, i, hi => by
    have hn' : ysz l + ysz r + 1 ≤ n + 1 := hn
    have hz' : ysz l + ysz r + 1 < 2 ^ 30 := hz
    have hj' : j + (max (ydp l) (ydp r) + 1) ≤ 8 := hj
    rcases ytw_el ht with g0 | g0 | g0 | g0
    · rw [yco_c (Or.inl g0.1), List.mem_singleton] at hi
      subst hi
      exact ⟨⟨b, by omega, rfl⟩, Or.inl g0.1⟩
    · rw [yco_c (Or.inr g0.1), List.mem_singleton] at hi
      subst hi
      exact ⟨⟨b, by omega, rfl⟩, Or.inr (Or.inl ⟨g0.1, g0.2.1⟩)⟩
    · obtain ⟨g1, _, g2, g3⟩ := g0
      subst g1
      rw [yco_n, List.mem_append, List.mem_singleton] at hi
      rcases hi with hi | hi
      · exact yco_ok hM n l (by omega) (by omega) g2 b j hb (by omega) i hi
      · subst hi
        exact ⟨⟨b, by omega, rfl⟩, Or.inr (Or.inr (Or.inl ⟨rfl, rfl⟩))⟩
    · obtain ⟨g1, _, g2, g3⟩ := g0
      obtain ⟨w1, w2⟩ := yot_tw g2 g3
      obtain ⟨w3, w4, w5⟩ := yot_sz (l := l) (r := r)
      have hfz := ytw_sz w1
      have hoz := ytw_sz w2
      obtain ⟨u, n1, n2, n3⟩ := yfD_n (yot l r) w2 (by omega)
      rw [yco_o g1] at hi
      split at hi
      · rename_i cc
        have hbM : b + 1 < M := by
          rw [n3, nI_subn (by omega)] at cc
          have : u < M - b := Nat.lt_of_not_le fun z => nI_nlt z (by omega) cc
          omega
        rw [List.mem_append, List.mem_append, List.mem_singleton] at hi
        rcases hi with hi | hi | hi
        · exact yco_ok hM n _ (by omega) (by omega) w1 b j hb (by omega) i hi
        · exact yco_ok hM n _ (by omega) (by omega) w2 (b + 1) j hbM (by omega) i hi
        · subst hi
          exact yio_ok g1 (by omega) (by omega) (by omega)
      · rw [List.mem_append, List.mem_cons, List.mem_append, List.mem_singleton] at hi
        rcases hi with hi | hi | hi | hi
        · exact yco_ok hM n _ (by omega) (by omega) w1 b j hb (by omega) i hi
        · subst hi
          exact ⟨⟨b, by omega, rfl⟩, Or.inr (Or.inr (Or.inr (Or.inl ⟨rfl, ⟨j, by omega, rfl⟩, rfl⟩)))⟩
        · exact yco_ok hM n _ (by omega) (by omega) w2 b (j + 1) hb (by omega) i hi
        · subst hi
          exact yio_ok g1 (by omega) (by omega) (by omega)
theorem yco_pos {M : Nat} {t : yT} {b j : Nat} (ht : ytw t = true) : 1 ≤ (yco M t b j).length := by
  cases t with
  | leaf => cases ht
  | inner z k v l r =>
    rcases ytw_el ht with g0 | g0 | g0 | g0
    · rw [yco_c (Or.inl g0.1)]
      exact Nat.le_refl 1
    · rw [yco_c (Or.inr g0.1)]
      exact Nat.le_refl 1
    · rw [g0.1, yco_n, List.length_append]
      show 1 ≤ _ + 1
      omega
    · rw [yco_o g0.1]
      split
      · rw [List.length_append, List.length_append]
        show 1 ≤ _ + (_ + 1)
        omega
      · rw [List.length_append, List.length_cons]
        omega
theorem ycs_le {q : List yI} : ycs q ≤ q.length := List.countP_le_length

section ZQR
variable {sv : Nat → Value} {d : Nat} {m : Nat} {h : zH} {w : yW} {th : Int32} {i : Nat} {t : yT} {M : Nat}
/-- like zMC, for any value -/
def zMV (m : Nat) (h : zH) (r : zR) (v : Value) (w : yW) (th : Int32) : Prop := ∃ h', r = some (.inl (some v), h') ∧ zMdl h' m w th ∧ zmw m h h'
theorem zMdl_n1 (hM : zMdl h m w th) (hR : (ycur w).2.2.1 = nI M) : ∃ (F : Nat → Int32) (N : List Int32), h.1 m = (13, zMF m F) ∧ h.1 (m + 1) = (20, N.map Value.int) ∧ (∀ Kv, zael (20, N.map Value.int) 20 (nI 1) Kv = Kv (.int (nI M))) ∧ F 31 = th := by
  obtain ⟨F, f31, ⟨hm, ⟨N, hN, hn⟩, _⟩, _⟩ := hM
  refine ⟨F, N, hm, hN.1, fun Kv => zaelv ?_ (by omega), f31⟩
  rw [List.getElem?_map, hn.2.2.1, hR]
  rfl
theorem e_273x {x : Int32} (hM : zMdl h m w th) (hR : (ycur w).2.2.1 = nI M) (hx : yinF (ycur w) x = false) : zMC m h (zcall zP sv (d + 8) 273 [.ref m, .int x] h) 0 w (nI 1) := by
  obtain ⟨F, N, g1, g2, g3, _⟩ := zMdl_n1 hM hR
  obtain ⟨h1, e1, m1, k1⟩ := e_272x (sv := sv) (d := d) (y := nI M) hM hx
  refine ⟨h1, ?_, m1, k1⟩
  simp (disch := first | exact znw_u | exact znw_i) only [zc_273, zs_273_0, zs_273_1, zs_273_2, zs_273_3, zs_273_6, zs_273_7, zs_273_8, zs_273_11, zs_273_14, zs_273_15, zs_273_18, zs_273_21, zs_273_22, g1, zmf_0, g2, g3, zrc_13v, e1, zbk_v, zts_s, ↓reduceIte, List.cons_append, List.nil_append]
theorem e_273 (hM : zMdl h m w th) (hi : (ycur w).1[i]? = some t) (hR : (ycur w).2.2.1 = nI M) (h1M : 1 ≤ M) (hM4 : M ≤ 4) : zMC m h (zcall zP sv (d + 12) 273 [.ref m, .int (nI i)] h) (nI (yco M t 0 0).length) w 0 := by
  obtain ⟨F, N, g1, g2, g3, _⟩ := zMdl_n1 hM hR
  obtain ⟨h1, e1, m1, k1⟩ := e_272 (sv := sv) (d := d) hM hi h1M hM4
  refine ⟨h1, ?_, zMdC_M m1, k1⟩
  obtain ⟨F1, _, ⟨s0, s19, _⟩, _⟩ := m1
  simp (disch := first | exact znw_u | exact znw_i) only [zc_273, zs_273_0, zs_273_1, zs_273_2, zs_273_3, zs_273_6, zs_273_7, zs_273_8, zs_273_11, zs_273_14, zs_273_15, zs_273_18, zs_273_21, zs_273_22, g1, zmf_0, g2, g3, zrc_13v, e1, zbk_v, zts_s, nI_1e0, s0, zmf_19, s19, ↓reduceIte, List.cons_append, List.nil_append]
theorem e_274x {x : Int32} (hM : zMdl h m w th) (hR : (ycur w).2.2.1 = nI M) (hx : yinF (ycur w) x = false) : zMC m h (zcall zP sv (d + 8) 274 [.ref m, .int x] h) 0 w (nI 1) := by
  obtain ⟨F, N, g1, g2, g3, _⟩ := zMdl_n1 hM hR
  obtain ⟨h1, e1, m1, k1⟩ := e_272x (sv := sv) (d := d) (y := nI M) hM hx
  refine ⟨h1, ?_, m1, k1⟩
  simp (disch := first | exact znw_u | exact znw_i) only [zc_274, zs_274_0, zs_274_1, zs_274_2, zs_274_3, zs_274_6, zs_274_7, zs_274_8, zs_274_11, zs_274_14, zs_274_15, zs_274_18, zs_274_21, zs_274_22, g1, zmf_0, g2, g3, zrc_13v, e1, zbk_v, zts_s, ↓reduceIte, List.cons_append, List.nil_append]
theorem e_274 (hM : zMdl h m w th) (hi : (ycur w).1[i]? = some t) (hR : (ycur w).2.2.1 = nI M) (h1M : 1 ≤ M) (hM4 : M ≤ 4) : zMC m h (zcall zP sv (d + 12) 274 [.ref m, .int (nI i)] h) (nI (ycs (yco M t 0 0))) w 0 := by
  obtain ⟨F, N, g1, g2, g3, _⟩ := zMdl_n1 hM hR
  obtain ⟨h1, e1, m1, k1⟩ := e_272 (sv := sv) (d := d) hM hi h1M hM4
  refine ⟨h1, ?_, zMdC_M m1, k1⟩
  obtain ⟨F1, _, ⟨s0, s19, s20, _⟩, _⟩ := m1
  simp (disch := first | exact znw_u | exact znw_i) only [zc_274, zs_274_0, zs_274_1, zs_274_2, zs_274_3, zs_274_6, zs_274_7, zs_274_8, zs_274_11, zs_274_14, zs_274_15, zs_274_18, zs_274_21, zs_274_22, g1, zmf_0, g2, g3, zrc_13v, e1, zbk_v, zts_s, nI_1e0, s0, zmf_20, s20, ↓reduceIte, List.cons_append, List.nil_append]
theorem e_275x {x : Int32} (hM : zMdl h m w th) (hR : (ycur w).2.2.1 = nI M) (hx : yinF (ycur w) x = false) : zMC m h (zcall zP sv (d + 8) 275 [.ref m, .int x] h) 0 w (nI 1) := by
  obtain ⟨F, N, g1, g2, g3, _⟩ := zMdl_n1 hM hR
  obtain ⟨h1, e1, m1, k1⟩ := e_272x (sv := sv) (d := d) (y := nI M) hM hx
  refine ⟨h1, ?_, m1, k1⟩
  simp (disch := first | exact znw_u | exact znw_i) only [zc_275, zs_275_0, zs_275_1, zs_275_2, zs_275_3, zs_275_6, zs_275_7, zs_275_8, zs_275_11, zs_275_14, zs_275_15, zs_275_18, zs_275_21, zs_275_24, zs_275_25, g1, zmf_0, g2, g3, zrc_13v, e1, zbk_v, zts_s, ↓reduceIte, List.cons_append, List.nil_append]
theorem e_292x {x : Int32} (hM : zMdl h m w th) (hR : (ycur w).2.2.1 = nI M) (hx : yinF (ycur w) x = false) : zMV m h (zcall zP sv (d + 8) 292 [.ref m, .int x] h) (.float FP.fconst0) w (nI 1) := by
  obtain ⟨F, N, g1, g2, g3, _⟩ := zMdl_n1 hM hR
  obtain ⟨h1, e1, m1, k1⟩ := e_272x (sv := sv) (d := d) (y := nI M) hM hx
  refine ⟨h1, ?_, m1, k1⟩
  simp (disch := first | exact znw_u | exact znw_i) only [zc_292, zs_292_0, zs_292_1, zs_292_2, zs_292_3, zs_292_6, zs_292_7, zs_292_8, zs_292_11, zs_292_14, zs_292_15, zs_292_18, zs_292_19, zs_292_20, zs_292_23, zs_292_24, zs_292_25, zs_292_28, zs_292_29, g1, zmf_0, g2, g3, zrc_13v, e1, zbk_v, zts_s, ↓reduceIte, List.cons_append, List.nil_append]
theorem yfdiv : ∀ b, b < 63 → ∀ a, a ≤ b → 1 ≤ b → decide (FP.fdiv (FP.i2f (nI a)) (FP.i2f (nI b)) &&& 0x7fffffff ≤ 0x7f800000) = true := by decide +kernel
theorem e_292 (hM : zMdl h m w th) (hi : (ycur w).1[i]? = some t) (hR : (ycur w).2.2.1 = nI M) (h1M : 1 ≤ M) (hM4 : M ≤ 4) : zMV m h (zcall zP sv (d + 12) 292 [.ref m, .int (nI i)] h) (.float (FP.fdiv (FP.i2f (nI (ycs (yco M t 0 0)))) (FP.i2f (nI (yco M t 0 0).length)))) w 0 := by
  obtain ⟨F, N, g1, g2, g3, _⟩ := zMdl_n1 hM hR
  obtain ⟨h1, e1, m1, k1⟩ := e_272 (sv := sv) (d := d) hM hi h1M hM4
  refine ⟨h1, ?_, zMdC_M m1, k1⟩
  obtain ⟨F1, _, ⟨s0, s19, s20, _⟩, _, _, _, _, tk⟩ := m1
  have hz := tk.2.1
  have hlen := yco_len (M := M) (ysz t) t (Nat.le_refl _) tk.1 0 0
  have hfd := yfdiv (yco M t 0 0).length (by omega) _ (ycs_le (q := yco M t 0 0)) (yco_pos tk.1)
  simp (disch := first | exact znw_u | exact znw_i) only [zc_292, zs_292_0, zs_292_1, zs_292_2, zs_292_3, zs_292_6, zs_292_7, zs_292_8, zs_292_11, zs_292_14, zs_292_15, zs_292_18, zs_292_19, zs_292_20, zs_292_23, zs_292_24, zs_292_25, zs_292_28, zs_292_29, g1, zmf_0, g2, g3, zrc_13v, e1, zbk_v, zts_s, nI_1e0, s0, zmf_19, s19, zmf_20, s20, hfd, zgd_t, ↓reduceIte, List.cons_append, List.nil_append]
/-- is an index one of the code's -/
def yinC (q : List yI) (x : Int32) : Bool := decide (¬ x < 0) && decide (¬ nI q.length - nI 1 < x)
theorem e_277x {x y : Int32} (hM : zMdl h m w th) (hR : (ycur w).2.2.1 = nI M) (hx : yinF (ycur w) x = false) : ∃ h', zcall zP sv (d + 8) 277 [.ref m, .int x, .int y] h = some (.inl (some (.int 0)), h') ∧ zMdl h' m w (nI 1) ∧ zmw m h h' := by
  obtain ⟨F, N, g1, g2, g3, _⟩ := zMdl_n1 hM hR
  obtain ⟨h1, e1, m1, k1⟩ := e_272x (sv := sv) (d := d) (y := nI M) hM hx
  obtain ⟨F1, q1, q2, q3, _⟩ := zMdl_31 (x := nI 1) m1
  refine ⟨_, ?_, q2, zmw_tr k1 q3⟩
  simp (disch := first | exact znw_u | exact znw_i) only [zc_277, zs_277_0, zs_277_1, zs_277_2, zs_277_3, zs_277_6, zs_277_7, zs_277_8, zs_277_11, zs_277_32, zs_277_33, zs_277_34, zs_277_35, zs_277_36, zs_277_43, zs_277_44, zs_277_47, zs_277_48, g1, q1, zmf_0, g2, g3, zmp_31, zrc_13v, e1, zbk_v, zts_s, zgd_t, zty_50, ↓reduceIte, List.cons_append, List.nil_append]
theorem zMF_19 {F G : Nat → Int32} (e : zMF m F = zMF m G) : F 19 = G 19 := by
  have := congrArg (fun l : List Value => l[19]?) e
  exact Value.int.inj (Option.some.inj this)
theorem e_277o {y : Int32} (hM : zMdl h m w th) (hi : (ycur w).1[i]? = some t) (hR : (ycur w).2.2.1 = nI M) (h1M : 1 ≤ M) (hM4 : M ≤ 4) (hy : yinC (yco M t 0 0) y = false) : ∃ h', zcall zP sv (d + 12) 277 [.ref m, .int (nI i), .int y] h = some (.inl (some (.int 0)), h') ∧ zMdl h' m w (nI 1) ∧ zmw m h h' := by
  obtain ⟨F, N, g1, g2, g3, _⟩ := zMdl_n1 hM hR
  obtain ⟨h1, e1, m1, k1⟩ := e_272 (sv := sv) (d := d) hM hi h1M hM4
  have m1' := zMdC_M m1
  obtain ⟨F1, _, ⟨s0, s19, _⟩, _⟩ := m1
  obtain ⟨F2, q1, q2, q3, _⟩ := zMdl_31 (x := nI 1) m1'
  have s19' : F2 19 = nI (yco M t 0 0).length := by
    rw [← s19]
    rw [s0] at q1
    exact (zMF_19 (Prod.mk.inj q1).2).symm
  have E : zcall zP sv (d + 11) 199 [.int y, .int 0, .int (nI (yco M t 0 0).length - nI 1)] h1 = some (.inl (some (.int (yb (yinC (yco M t 0 0) y)))), h1) := e_199 (d := d + 10)
  rw [hy, yb_f] at E
  refine ⟨_, ?_, q2, zmw_tr k1 q3⟩
  simp (disch := first | exact znw_u | exact znw_i) only [zc_277, zs_277_0, zs_277_1, zs_277_2, zs_277_3, zs_277_6, zs_277_7, zs_277_8, zs_277_11, zs_277_14, zs_277_15, zs_277_16, zs_277_17, zs_277_20, zs_277_21, zs_277_22, zs_277_25, zs_277_32, zs_277_33, zs_277_34, zs_277_35, zs_277_36, zs_277_43, zs_277_44, zs_277_47, zs_277_48, g1, q1, zmf_0, zmf_19, s19', zmp_31, g2, g3, zrc_13v, e1, E, zbk_v, zts_s, nI_1e0, zgd_t, zty_50, ↓reduceIte, List.cons_append, List.nil_append]
theorem e_277 {y : Int32} (hM : zMdl h m w th) (hi : (ycur w).1[i]? = some t) (hR : (ycur w).2.2.1 = nI M) (h1M : 1 ≤ M) (hM4 : M ≤ 4) (hy : yinC (yco M t 0 0) y = true) : ∃ h', zcall zP sv (d + 12) 277 [.ref m, .int (nI i), .int y] h = some (.inl (some (.int (nI 1))), h') ∧ zMdC h' m w t M ∧ zmw m h h' := by
  obtain ⟨F, N, g1, g2, g3, _⟩ := zMdl_n1 hM hR
  obtain ⟨h1, e1, m1, k1⟩ := e_272 (sv := sv) (d := d) hM hi h1M hM4
  obtain ⟨F1, f31, ⟨s0, s19, s20, s21, s22, sC⟩, a3, ⟨T, a4⟩, a5, a6, a7⟩ := m1
  have E : zcall zP sv (d + 11) 199 [.int y, .int 0, .int (nI (yco M t 0 0).length - nI 1)] h1 = some (.inl (some (.int (yb (yinC (yco M t 0 0) y)))), h1) := e_199 (d := d + 10)
  rw [hy, yb_t] at E
  have f1 : ∀ q, q ≠ m → (zup h1 m (13, zMF m (yup F1 31 0))).1 q = h1.1 q := fun q z => zup_ne z
  obtain ⟨A, B, C, D, ⟨c1, c2, c3, c4⟩, cw⟩ := sC
  refine ⟨zup h1 m (13, zMF m (yup F1 31 0)), ?_, ⟨_, yup_eq, ⟨zup_at, by rw [yup_ne (by omega), s19], by rw [yup_ne (by omega), s20], by rw [yup_ne (by omega), s21], by rw [yup_ne (by omega), s22], ⟨A, B, C, D, ⟨by rw [f1 _ (by omega), c1], by rw [f1 _ (by omega), c2], by rw [f1 _ (by omega), c3], by rw [f1 _ (by omega), c4]⟩, cw⟩⟩, zWk_cg a3 zup_at (fun q hq => f1 q (by omega)), ⟨T, zTab_cg a4 (f1 _ (by omega))⟩, zRst_cg a5 ⟨yup_ne (by omega), yup_ne (by omega), yup_ne (by omega), yup_ne (by omega), yup_ne (by omega)⟩ (f1 _ (by omega)) (f1 _ (by omega)) (f1 _ (by omega)) (f1 _ (by omega)), a6, a7⟩, zmw_tr k1 ⟨fun q hq => f1 q (by omega), rfl⟩⟩
  simp (disch := first | exact znw_u | exact znw_i) only [zc_277, zs_277_0, zs_277_1, zs_277_2, zs_277_3, zs_277_6, zs_277_7, zs_277_8, zs_277_11, zs_277_14, zs_277_15, zs_277_16, zs_277_17, zs_277_20, zs_277_21, zs_277_22, zs_277_25, zs_277_28, zs_277_29, zs_277_33, zs_277_34, zs_277_35, zs_277_36, zs_277_39, zs_277_40, zs_277_44, zs_277_47, zs_277_48, g1, s0, zmf_0, zmf_19, s19, zmp_31, g2, g3, zrc_13v, e1, E, zbk_v, zts_s, nI_1e0, zgd_t, zty_51, ↓reduceIte, List.cons_append, List.nil_append]
/-- an instruction in the model's arrays -/
theorem zCdM_at {q : List yI} {n : Nat} {x : yI} (hc : zCdM h m q) (hx : q[n]? = some x) : (∀ Kv, zael (h.1 (m + 12)) 21 (nI n) Kv = Kv (.int x.1)) ∧ (∀ Kv, zael (h.1 (m + 13)) 20 (nI n) Kv = Kv (.int x.2.1)) ∧ (∀ Kv, zael (h.1 (m + 14)) 20 (nI n) Kv = Kv (.int (ylf x))) ∧ ∀ Kv, zael (h.1 (m + 15)) 20 (nI n) Kv = Kv (.int (yrt x)) := by
  obtain ⟨A, B, C, D, ⟨a1, a2, a3, a4⟩, ⟨b1, b2, b3, b4⟩, ⟨c1, c2, c3, c4⟩, q7⟩ := hc
  have h0 := (List.getElem?_eq_some_iff.mp hx).1
  have u1 := ytk_at c1 (show (q.map (fun i => i.1))[n]? = some x.1 by rw [List.getElem?_map, hx]; rfl)
  have u2 := ytk_at c2 (show (q.map (fun i => i.2.1))[n]? = some x.2.1 by rw [List.getElem?_map, hx]; rfl)
  have u3 := ytk_at c3 (show (q.map ylf)[n]? = some (ylf x) by rw [List.getElem?_map, hx]; rfl)
  have u4 := ytk_at c4 (show (q.map yrt)[n]? = some (yrt x) by rw [List.getElem?_map, hx]; rfl)
  exact ⟨fun Kv => by rw [a1]; exact zaelv (by rw [List.getElem?_map, u1]; rfl) (by omega), fun Kv => by rw [a2]; exact zaelv (by rw [List.getElem?_map, u2]; rfl) (by omega), fun Kv => by rw [a3]; exact zaelv (by rw [List.getElem?_map, u3]; rfl) (by omega), fun Kv => by rw [a4]; exact zaelv (by rw [List.getElem?_map, u4]; rfl) (by omega)⟩
theorem yinC_n {q : List yI} {y : Int32} (hy : yinC q y = true) (hq : q.length < 2 ^ 30) : ∃ n x, y = nI n ∧ q[n]? = some x := by
  unfold yinC at hy
  rw [Bool.and_eq_true] at hy
  have h1 := of_decide_eq_true hy.1
  have h2 := of_decide_eq_true hy.2
  obtain ⟨n, hn, rfl⟩ := nI_of h1
  have hn2 : n < q.length := by
    refine Nat.lt_of_not_le fun z => h2 ?_
    rcases Nat.eq_zero_or_pos q.length with c | c
    · rw [c]
      exact Int32.lt_of_lt_of_le (b := 0) (by decide +kernel) (nI_pos' hn)
    · rw [show q.length = q.length - 1 + 1 by omega, nI_m]
      exact nI_lt (by omega) hn
  exact ⟨n, _, rfl, List.getElem?_eq_getElem hn2⟩
theorem yIok_c {x : yI} (hx : yIok x) : zty 7 (.int x.1) = true := by
  have e1 : zty 7 (.int (nI 99)) = true := by decide +kernel
  have e2 : zty 7 (.int (nI 118)) = true := by decide +kernel
  have e3 : zty 7 (.int (nI 110)) = true := by decide +kernel
  have e4 : zty 7 (.int (nI 115)) = true := by decide +kernel
  have e5 : zty 7 (.int (nI 43)) = true := by decide +kernel
  have e6 : zty 7 (.int (nI 45)) = true := by decide +kernel
  have e7 : zty 7 (.int (nI 42)) = true := by decide +kernel
  rcases hx.2 with g | g | g | g | g
  · rw [g]; exact e1
  · rw [g.1]; exact e2
  · rw [g.1]; exact e3
  · rw [g.1]; exact e4
  · rcases yis_k g.1 with z | z | z <;> rw [z]
    · exact e5
    · exact e6
    · exact e7
theorem e_278x {x y : Int32} (hM : zMdl h m w th) (hR : (ycur w).2.2.1 = nI M) (hx : yinF (ycur w) x = false) : zMC m h (zcall zP sv (d + 9) 278 [.ref m, .int x, .int y] h) (nI 97) w (nI 1) := by
  obtain ⟨h1, e1, m1, k1⟩ := e_277x (sv := sv) (d := d) (y := y) hM hR hx
  have r0 : ∀ X : zR, zrc (h.1 m) 13 X = X := fun X => zMdl_rc hM
  have z7 : zty 7 (.int (nI 97)) = true := by decide +kernel
  refine ⟨h1, ?_, m1, k1⟩
  simp only [zc_278, zs_278_0, zs_278_1, zs_278_2, zs_278_3, zs_278_6, zs_278_9, zs_278_10, zs_278_13, zs_278_14, zs_278_15, zs_278_18, zs_278_20, r0, e1, zbk_v, zts_s, z7, zgd_t, ↓reduceIte, List.cons_append, List.nil_append]
theorem e_278o {y : Int32} (hM : zMdl h m w th) (hi : (ycur w).1[i]? = some t) (hR : (ycur w).2.2.1 = nI M) (h1M : 1 ≤ M) (hM4 : M ≤ 4) (hy : yinC (yco M t 0 0) y = false) : zMC m h (zcall zP sv (d + 13) 278 [.ref m, .int (nI i), .int y] h) (nI 97) w (nI 1) := by
  obtain ⟨h1, e1, m1, k1⟩ := e_277o (sv := sv) (d := d) (y := y) hM hi hR h1M hM4 hy
  have r0 : ∀ X : zR, zrc (h.1 m) 13 X = X := fun X => zMdl_rc hM
  have z7 : zty 7 (.int (nI 97)) = true := by decide +kernel
  refine ⟨h1, ?_, m1, k1⟩
  simp only [zc_278, zs_278_0, zs_278_1, zs_278_2, zs_278_3, zs_278_6, zs_278_9, zs_278_10, zs_278_13, zs_278_14, zs_278_15, zs_278_18, zs_278_20, r0, e1, zbk_v, zts_s, z7, zgd_t, ↓reduceIte, List.cons_append, List.nil_append]
theorem e_278 {n : Nat} {x : yI} (hM : zMdl h m w th) (hi : (ycur w).1[i]? = some t) (hR : (ycur w).2.2.1 = nI M) (h1M : 1 ≤ M) (hM4 : M ≤ 4) (hy : yinC (yco M t 0 0) (nI n) = true) (hx : (yco M t 0 0)[n]? = some x) : zMC m h (zcall zP sv (d + 13) 278 [.ref m, .int (nI i), .int (nI n)] h) x.1 w 0 := by
  obtain ⟨h1, e1, m1, k1⟩ := e_277 (sv := sv) (d := d) hM hi hR h1M hM4 hy
  have r0 : ∀ X : zR, zrc (h.1 m) 13 X = X := fun X => zMdl_rc hM
  refine ⟨h1, ?_, zMdC_M m1, k1⟩
  obtain ⟨F1, _, ⟨s0, _, _, _, _, sC⟩, _, _, _, _, tk⟩ := m1
  have g1 := (zCdM_at sC hx).1
  have ok := yco_ok hM4 (ysz t) t (Nat.le_refl _) (by have := tk.2.1; omega) tk.1 0 0 (by omega) (by have := tk.2.2; omega) x (List.mem_of_getElem? hx)
  simp only [zc_278, zs_278_0, zs_278_1, zs_278_2, zs_278_3, zs_278_6, zs_278_9, zs_278_10, zs_278_13, zs_278_14, zs_278_15, zs_278_18, zs_278_20, r0, e1, zbk_v, zts_s, nI_1e0, s0, zmf_15, g1, yIok_c ok, zgd_t, ↓reduceIte, List.cons_append, List.nil_append]
theorem e_279x {x y : Int32} (hM : zMdl h m w th) (hR : (ycur w).2.2.1 = nI M) (hx : yinF (ycur w) x = false) : zMC m h (zcall zP sv (d + 9) 279 [.ref m, .int x, .int y] h) 0 w (nI 1) := by
  obtain ⟨h1, e1, m1, k1⟩ := e_277x (sv := sv) (d := d) (y := y) hM hR hx
  have r0 : ∀ X : zR, zrc (h.1 m) 13 X = X := fun X => zMdl_rc hM
  refine ⟨h1, ?_, m1, k1⟩
  simp only [zc_279, zs_279_0, zs_279_1, zs_279_2, zs_279_3, zs_279_6, zs_279_9, zs_279_10, zs_279_13, zs_279_14, zs_279_15, zs_279_18, zs_279_19, r0, e1, zbk_v, zts_s, ↓reduceIte, List.cons_append, List.nil_append]
theorem e_279o {y : Int32} (hM : zMdl h m w th) (hi : (ycur w).1[i]? = some t) (hR : (ycur w).2.2.1 = nI M) (h1M : 1 ≤ M) (hM4 : M ≤ 4) (hy : yinC (yco M t 0 0) y = false) : zMC m h (zcall zP sv (d + 13) 279 [.ref m, .int (nI i), .int y] h) 0 w (nI 1) := by
  obtain ⟨h1, e1, m1, k1⟩ := e_277o (sv := sv) (d := d) (y := y) hM hi hR h1M hM4 hy
  have r0 : ∀ X : zR, zrc (h.1 m) 13 X = X := fun X => zMdl_rc hM
  refine ⟨h1, ?_, m1, k1⟩
  simp only [zc_279, zs_279_0, zs_279_1, zs_279_2, zs_279_3, zs_279_6, zs_279_9, zs_279_10, zs_279_13, zs_279_14, zs_279_15, zs_279_18, zs_279_19, r0, e1, zbk_v, zts_s, ↓reduceIte, List.cons_append, List.nil_append]
theorem e_279 {n : Nat} {x : yI} (hM : zMdl h m w th) (hi : (ycur w).1[i]? = some t) (hR : (ycur w).2.2.1 = nI M) (h1M : 1 ≤ M) (hM4 : M ≤ 4) (hy : yinC (yco M t 0 0) (nI n) = true) (hx : (yco M t 0 0)[n]? = some x) : zMC m h (zcall zP sv (d + 13) 279 [.ref m, .int (nI i), .int (nI n)] h) x.2.1 w 0 := by
  obtain ⟨h1, e1, m1, k1⟩ := e_277 (sv := sv) (d := d) hM hi hR h1M hM4 hy
  have r0 : ∀ X : zR, zrc (h.1 m) 13 X = X := fun X => zMdl_rc hM
  refine ⟨h1, ?_, zMdC_M m1, k1⟩
  obtain ⟨F1, _, ⟨s0, _, _, _, _, sC⟩, _⟩ := m1
  have g1 := (zCdM_at sC hx).2.1
  simp only [zc_279, zs_279_0, zs_279_1, zs_279_2, zs_279_3, zs_279_6, zs_279_9, zs_279_10, zs_279_13, zs_279_14, zs_279_15, zs_279_18, zs_279_19, r0, e1, zbk_v, zts_s, nI_1e0, s0, zmf_16, g1, ↓reduceIte, List.cons_append, List.nil_append]
end ZQR

section ZQS
variable {sv : Nat → Value} {d : Nat} {m : Nat} {h : zH} {w : yW} {th : Int32} {i : Nat} {t : yT} {M : Nat}
/-- how many bits of a number are set, as the library counts them -/
def ysh1 (x y : Int32) : Int32 := (x.toUInt32 >>> (y.toUInt32 &&& Int32.toUInt32 31)).toInt32
def ybc1 (x : Int32) : Int32 := x - (ysh1 x (nI 1) &&& nI 1431655765)
def ybc2 (x : Int32) : Int32 := (x &&& nI 858993459) + (ysh1 x (nI 2) &&& nI 858993459)
def ybc3 (x : Int32) : Int32 := (x + ysh1 x (nI 4)) &&& nI 252645135
def ybc4 (x : Int32) : Int32 := x + ysh1 x (nI 8)
def ybc5 (x : Int32) : Int32 := (x + ysh1 x (nI 16)) &&& nI 63
def ybc (x : Int32) : Int32 := ybc5 (ybc4 (ybc3 (ybc2 (ybc1 x))))
theorem e_22 {x : Int32} : zcall zP sv (d + 1) 22 [.int x] h = some (.inl (some (.int (ybc x))), h) := by
  simp (disch := first | exact znw_u | exact znw_i) only [zc_22, zs_22_0, zs_22_1, zs_22_2, zs_22_3, zs_22_4, zs_22_7, zs_22_8, zs_22_9, zs_22_10, zs_22_11, zs_22_14, zs_22_15, zs_22_16, zs_22_17, zs_22_18, zs_22_21, zs_22_22, zs_22_23, zs_22_24, zs_22_25, zs_22_26, zs_22_27, zs_22_28, zs_22_29, zs_22_32, zs_22_33, zs_22_34, zs_22_35, zs_22_36, zs_22_38, zs_22_39, zs_22_40, zs_22_41, zs_22_42, zs_22_43, zs_22_45, zs_22_46, zs_22_47, zs_22_48, zs_22_49, zs_22_51, zs_22_52]
  rfl
theorem ybc_ok : ∀ s, s < 21 → ybc (nI (2 ^ s - 1)) = nI s := by decide +kernel
theorem e_275 (hM : zMdl h m w th) (hi : (ycur w).1[i]? = some t) (hR : (ycur w).2.2.1 = nI M) (h1M : 1 ≤ M) (hM4 : M ≤ 4) : zMC m h (zcall zP sv (d + 12) 275 [.ref m, .int (nI i)] h) (nI (yslo (yco M t 0 0))) w 0 := by
  obtain ⟨F, N, g1, g2, g3, _⟩ := zMdl_n1 hM hR
  obtain ⟨h1, e1, m1, k1⟩ := e_272 (sv := sv) (d := d) hM hi h1M hM4
  refine ⟨h1, ?_, zMdC_M m1, k1⟩
  obtain ⟨F1, _, ⟨s0, s19, s20, s21, _⟩, _, _, _, _, tk⟩ := m1
  have hs := yslo_co (M := M) (ysz t) t (Nat.le_refl _) tk.1 [] 0 0 (by have := tk.2.2; omega)
  have h0 : yslo [] = 0 := rfl
  rw [List.nil_append, h0] at hs
  have h8 := tk.2.2
  have E : zcall zP sv (d + 11) 22 [.int (nI (2 ^ yslo (yco M t 0 0) - 1))] h1 = _ := e_22 (d := d + 10)
  rw [ybc_ok _ (by omega)] at E
  simp (disch := first | exact znw_u | exact znw_i) only [zc_275, zs_275_0, zs_275_1, zs_275_2, zs_275_3, zs_275_6, zs_275_7, zs_275_8, zs_275_11, zs_275_14, zs_275_15, zs_275_18, zs_275_21, zs_275_24, zs_275_25, g1, zmf_0, g2, g3, zrc_13v, e1, zbk_v, zts_s, nI_1e0, s0, zmf_21, s21, E, ↓reduceIte, List.cons_append, List.nil_append]
theorem e_276x {x : Int32} (hM : zMdl h m w th) (hx : yinF (ycur w) x = false) : zMC m h (zcall zP sv (d + 8) 276 [.ref m, .int x] h) 0 w (nI 1) := by
  obtain ⟨h1, e1, m1, k1⟩ := e_272x (sv := sv) (d := d) (y := nI 1) hM hx
  have r0 : ∀ X : zR, zrc (h.1 m) 13 X = X := fun X => zMdl_rc hM
  refine ⟨h1, ?_, m1, k1⟩
  obtain ⟨F, f31, ⟨hm, _⟩, _⟩ := m1
  have hm' : h1.1 m = (13, zMF m F) := hm
  have c1 : ¬ nI 4 < nI 1 := by decide +kernel
  simp (disch := first | exact znw_u | exact znw_i) only [zc_276, zs_276_0, zs_276_1, zs_276_2, zs_276_3, zs_276_4, zs_276_7, zs_276_8, zs_276_9, zs_276_10, zs_276_13, zs_276_23, zs_276_24, zs_276_27, zs_276_34, zs_276_35, r0, e1, hm', zmf_31, f31, if_neg c1, zbk_v, zts_s, nI_1e0, ↓reduceIte, List.cons_append, List.nil_append]
/-- the least number of registers, of n from k on, with which a term's code stores none -/
def ylr (t : yT) : Nat → Nat → Option Nat
  | _, 0 => none
  | k, n + 1 => if ycs (yco k t 0 0) = 0 then some k else ylr t (k + 1) n
theorem e_276l (hi : (ycur w).1[i]? = some t) : ∀ n k (h : zH) (th : Int32), 1 ≤ k → k + n = 5 → zMdl h m w th → ∃ h', zrun zP sv (zcall zP sv (d + 11)) 276 2 [.val (.ref m), .val (.int (nI i)), .val (.int (nI k))] [] h = some (.inl (some (.int (match ylr t k n with | some c => nI c | none => 0))), h') ∧ zMdl h' m w (match ylr t k n with | some _ => 0 | none => nI 2) ∧ zmw m h h' := by
  intro n
  induction n with
  | zero =>
    intro k h th h1 hk hM
    obtain rfl : k = 5 := by omega
    obtain ⟨F, g, g1, g2, _⟩ := zMdl_31 (x := nI 2) hM
    have E2 : zcall zP sv (d + 11) 198 [.ref m, .int (nI 2)] h = _ := e_198 (sv := sv) (d := d + 10) g
    have c1 : nI 4 < nI 5 := by decide +kernel
    rw [show ylr t 5 0 = none from rfl]
    refine ⟨_, ?_, g1, g2⟩
    simp only [zs_276_2, zs_276_3, zs_276_4, zs_276_42, zs_276_43, zs_276_44, zs_276_47, if_pos c1, g, zrc_13v, E2, zbk_v, zts_s, List.cons_append, List.nil_append]
  | succ n ih =>
    intro k h th h1 hk hM
    have c1 : ¬ nI 4 < nI k := nI_nlt (by omega) (by omega)
    have r0 : ∀ X : zR, zrc (h.1 m) 13 X = X := fun X => zMdl_rc hM
    obtain ⟨h2, e2, m2, k2⟩ := e_272 (sv := sv) (d := d) hM hi h1 (show k ≤ 4 by omega)
    have m2' := zMdC_M m2
    obtain ⟨F1, f31, ⟨s0, s19, s20, s21, _⟩, _⟩ := m2
    by_cases c : ycs (yco k t 0 0) = 0
    · have q : ylr t k (n + 1) = some k := by unfold ylr; rw [if_pos c]
      rw [q]
      rw [c, nI_0] at s20
      refine ⟨h2, ?_, m2', k2⟩
      simp only [zs_276_2, zs_276_3, zs_276_4, zs_276_7, zs_276_8, zs_276_9, zs_276_10, zs_276_13, zs_276_16, zs_276_17, zs_276_20, zs_276_23, zs_276_24, zs_276_27, zs_276_30, zs_276_31, zs_276_35, if_neg c1, r0, e2, s0, zmf_20, s20, zmf_31, f31, zbk_v, zts_s, nI_1e0, ↓reduceIte, List.cons_append, List.nil_append]
    · have q : ylr t k (n + 1) = ylr t (k + 1) n := by conv => lhs; unfold ylr; rw [if_neg c]
      have hz : (nI (ycs (yco k t 0 0)) = 0) = False := by
        have h3 := ycs_le (q := yco k t 0 0)
        have h4 : (yco k t 0 0).length + 1 ≤ 2 * ysz t := by
          have tk := (zMdl_A hM).2.1 t (List.mem_of_getElem? hi)
          exact yco_len (ysz t) t (Nat.le_refl _) tk.1 0 0
        have h5 : ysz t ≤ 31 := ((zMdl_A hM).2.1 t (List.mem_of_getElem? hi)).2.1
        exact eq_false (nI_ne0 (by omega) (by omega))
      obtain ⟨h3, e3, m3, k3⟩ := ih (k + 1) h2 0 (by omega) (by omega) m2'
      rw [q]
      refine ⟨h3, ?_, m3, zmw_tr k2 k3⟩
      rw [← e3]
      have eb : zrun zP sv (zcall zP sv (d + 11)) 276 36 [.val (.ref m), .val (.int (nI i)), .val (.int (nI k))] [] h2 = zrun zP sv (zcall zP sv (d + 11)) 276 2 [.val (.ref m), .val (.int (nI i)), .val (.int (nI (k + 1)))] [] h2 := by rw [zs_276_36, zs_276_39, nI_1']
      rw [← eb]
      simp only [zs_276_2, zs_276_3, zs_276_4, zs_276_7, zs_276_8, zs_276_9, zs_276_10, zs_276_13, zs_276_16, zs_276_17, zs_276_20, if_neg c1, r0, e2, s0, zmf_20, s20, hz, zbk_v, zts_s, nI_1e0, ↓reduceIte, List.cons_append, List.nil_append]
theorem e_276 (hM : zMdl h m w th) (hi : (ycur w).1[i]? = some t) : zMC m h (zcall zP sv (d + 12) 276 [.ref m, .int (nI i)] h) (match ylr t 1 4 with | some c => nI c | none => 0) w (match ylr t 1 4 with | some _ => 0 | none => nI 2) := by
  obtain ⟨h', e, m1, k1⟩ := e_276l (sv := sv) (d := d) hi 4 1 h th (Nat.le_refl 1) rfl hM
  refine ⟨h', ?_, m1, k1⟩
  rw [← e]
  simp (disch := first | exact znw_u | exact znw_i) only [zc_276, zs_276_0, zs_276_1]
/-- the depth of a formula that is looked at -/
theorem e_288 (hM : zMdl h m w th) (hi : (ycur w).1[i]? = some t) : ∃ h', zcall zP sv (d + 7) 288 [.ref m, .int (nI i)] h = some (.inl (some (.int (nI (ydp t)))), h') ∧ zMdl h' m w th ∧ zmw m h h' := by
  obtain ⟨F, f31, hw, ⟨T, hT⟩, hr, hA⟩ := hM
  obtain ⟨hm, ⟨N, hN, hn⟩, hs⟩ := id hw
  have hm0 : h.1 m = (13, zMF m F) := hm
  obtain ⟨⟨p0, l5⟩, ⟨p1, l7⟩, hsf, c2, c3, c4, c5, c6⟩ := id hs
  have tk := hA.2.1 t (List.mem_of_getElem? hi)
  have hlt := ypr_len t
  obtain ⟨h1, e2, a1, a2, a3, a4⟩ := e_206 (sv := sv) (d := d + 5) (F := F) (h := h) (hn.2.2.2.2.2 i t hi) hm hN l5
  rw [hlt] at a1
  obtain ⟨N', hN', hl'⟩ : ∃ N', h1.1 (m + 1) = (20, N'.map Value.int) ∧ N'.length = 387 := ⟨N, by rw [a3 _ (by omega) (by omega) (by omega), hN.1], hN.2⟩
  have hsf1 : zSF h1 m := by
    obtain ⟨St3, Fd3, s1', s2', s3', s4'⟩ := hsf
    exact ⟨St3, Fd3, by rw [a3 _ (by omega) (by omega) (by omega), s1'], s2', by rw [a3 _ (by omega) (by omega) (by omega), s3'], s4'⟩
  obtain ⟨h2, e3, q1, q2⟩ := e_213 (sv := sv) (d := d + 3) (w := 1) (by decide) tk.1 (by have := tk.2.1; omega) a1 yup_eq a2 hN' hl' hsf1
  rw [ymf1 t tk.1 (by have := tk.2.2; omega)] at e3
  have fr : ∀ q, q ≠ m → q ≠ m + 5 → q ≠ m + 6 → q ≠ m + 9 → q ≠ m + 10 → h2.1 q = h.1 q := fun q z1 z2 z3 z4 z5 => by rw [q2.1 q z4 z5, a3 q z1 z2 z3]
  have g2 : h2.1 m = (13, zMF m (yup F 8 (nI (ysz t)))) := by rw [q2.1 _ (by omega) (by omega)]; exact a1
  have r1 : ∀ X : zR, zrc (h1.1 m) 13 X = X := fun X => zMo_rc a1
  refine ⟨h2, ?_, ⟨_, by rw [yup_ne (by omega), f31], ⟨g2, ⟨N, zTab_cg hN (fr _ (by omega) (by omega) (by omega) (by omega) (by omega)), hn⟩, ⟨⟨_, zLst_cg a2 (q2.1 _ (by omega) (by omega)) (q2.1 _ (by omega) (by omega))⟩, ⟨p1, zLst_cg l7 (fr _ (by omega) (by omega) (by omega) (by omega) (by omega)) (fr _ (by omega) (by omega) (by omega) (by omega) (by omega))⟩, zFS_SF q1, zArr_cg c2 (fr _ (by omega) (by omega) (by omega) (by omega) (by omega)), zArr_cg c3 (fr _ (by omega) (by omega) (by omega) (by omega) (by omega)), zArr_cg c4 (fr _ (by omega) (by omega) (by omega) (by omega) (by omega)), zArr_cg c5 (fr _ (by omega) (by omega) (by omega) (by omega) (by omega)), zArr_cg c6 (fr _ (by omega) (by omega) (by omega) (by omega) (by omega))⟩⟩, ⟨T, zTab_cg hT (fr _ (by omega) (by omega) (by omega) (by omega) (by omega))⟩, zRst_cg hr ⟨yup_ne (by omega), yup_ne (by omega), yup_ne (by omega), yup_ne (by omega), yup_ne (by omega)⟩ (fr _ (by omega) (by omega) (by omega) (by omega) (by omega)) (fr _ (by omega) (by omega) (by omega) (by omega) (by omega)) (fr _ (by omega) (by omega) (by omega) (by omega) (by omega)) (fr _ (by omega) (by omega) (by omega) (by omega) (by omega)), hA⟩, ⟨fun q hq => fr q (by omega) (by omega) (by omega) (by omega) (by omega), by rw [q2.2, a4]⟩⟩
  have E3 : zcall zP sv (d + 6) 213 [.ref m, .int (nI 1)] h1 = some (.inl (some (.int (nI (ydp t)))), h2) := e3
  have E2 : zcall zP sv (d + 6) 206 [.ref m, .int (nI i)] h = some (.inl none, h1) := e2
  simp only [zc_288, zs_288_0, zs_288_1, zs_288_2, zs_288_5, zs_288_6, zs_288_7, zs_288_10, hm0, zrc_13v, r1, E2, E3, zbk_v, zts_s, zts_n, List.cons_append, List.nil_append]
end ZQS

section ZQU
variable {sv : Nat → Value} {d : Nat} {m : Nat} {h : zH} {w : yW} {th : Int32} {i : Nat} {t : yT} {M : Nat}
theorem zMdl_rd (hM : zMdl h m w th) : ∃ (F : Nat → Int32) (N : List Int32), h.1 m = (13, zMF m F) ∧ h.1 (m + 1) = (20, N.map Value.int) ∧ (∀ Kv, zael (20, N.map Value.int) 20 0 Kv = Kv (.int (nI (ycur w).1.length))) ∧ (∀ q t, (ycur w).1[q]? = some t → ∀ Kv, zael (20, N.map Value.int) 20 (nI (9 + 63 * q)) Kv = Kv (.int (nI (ysz t)))) := by
  obtain ⟨F, f31, ⟨hm, ⟨N, hN, hn⟩, _⟩, _, _, hA⟩ := hM
  refine ⟨F, N, hm, hN.1, fun Kv => ?_, fun q t hq Kv => ?_⟩
  · rw [← nI_0]
    refine zaelv ?_ (by omega)
    rw [List.getElem?_map, hn.2.1]
    rfl
  · have b := hn.2.2.2.2.2 q t hq
    have hql := (List.getElem?_eq_some_iff.mp hq).1
    have := hA.1
    refine zaelv ?_ (by omega)
    rw [List.getElem?_map, b.1, ypr_len]
    rfl
/-- the order of formulas by size -/
def ymo (a b : yT) : Int32 := if nI (ysz a) - nI (ysz b) = 0 then nI (ydp a) - nI (ydp b) else nI (ysz a) - nI (ysz b)
def ybe (T : List yT) (f q : Nat) : Bool := match T[q]?, T[f]? with
  | some a, some b => decide (0 < ymo a b) || (decide (ymo a b = 0) && decide (nI q < nI f))
  | _, _ => false
def ybn (T : List yT) (f n : Nat) : Nat := (List.range n).countP (ybe T f)
theorem ybn_s {T : List yT} {f n : Nat} : ybn T f (n + 1) = ybn T f n + (if ybe T f n = true then 1 else 0) := by
  unfold ybn
  rw [List.range_succ, List.countP_append, List.countP_singleton]
theorem e_289i {l1 : Slot} {f : Nat} {b : yT} (hf : (ycur w).1[f]? = some b) : ∀ n q (h : zH) (l5 : Slot), znw l5 = true → q + n = (ycur w).1.length → zMdl h m w th → ∃ h' r5, zrun zP sv (zcall zP sv (d + 7)) 289 22 [.val (.ref m), l1, .val (.int (nI f)), .val (.int (nI (ybn (ycur w).1 f q))), .val (.int (nI q)), l5] [] h = zrun zP sv (zcall zP sv (d + 7)) 289 105 [.val (.ref m), l1, .val (.int (nI f)), .val (.int (nI (ybn (ycur w).1 f (ycur w).1.length))), .val (.int (nI (ycur w).1.length)), r5] [] h' ∧ znw r5 = true ∧ zMdl h' m w th ∧ zmw m h h' := by
  intro n
  induction n with
  | zero =>
    intro q h l5 h5 hq hM
    obtain ⟨F, N, g1, g2, g3, g4⟩ := zMdl_rd hM
    obtain rfl : q = (ycur w).1.length := by omega
    refine ⟨h, l5, ?_, h5, hM, zmw_rfl⟩
    simp only [zs_289_22, zs_289_24, zs_289_25, zs_289_28, zs_289_29, zs_289_30, g1, zmf_0, g2, g3, Int32.lt_irrefl, ↓reduceIte]
  | succ n ih =>
    intro q h l5 h5 hq hM
    obtain ⟨F, N, g1, g2, g3, g4⟩ := zMdl_rd hM
    have hA := zMdl_A hM
    have h6 := hA.1
    have c1 : nI q < nI (ycur w).1.length := nI_lt (by omega) (by omega)
    obtain ⟨a, ha⟩ : ∃ a, (ycur w).1[q]? = some a := ⟨_, List.getElem?_eq_getElem (by omega)⟩
    have ga := g4 q a ha
    have gb := g4 f b hf
    have r0 : ∀ X : zR, zrc (h.1 m) 13 X = X := fun X => zMdl_rc hM
    have be : ybe (ycur w).1 f q = (decide (0 < ymo a b) || (decide (ymo a b = 0) && decide (nI q < nI f))) := by
      unfold ybe
      rw [ha, hf]
    have eb : ∀ (h : zH) (c : Nat) (x : Int32), zrun zP sv (zcall zP sv (d + 7)) 289 99 [.val (.ref m), l1, .val (.int (nI f)), .val (.int (nI c)), .val (.int (nI q)), .val (.int x)] [] h = zrun zP sv (zcall zP sv (d + 7)) 289 22 [.val (.ref m), l1, .val (.int (nI f)), .val (.int (nI c)), .val (.int (nI (q + 1))), .val (.int x)] [] h := fun h c x => by rw [zs_289_99, zs_289_102, nI_1']
    have tail : ∀ (h : zH), zrun zP sv (zcall zP sv (d + 7)) 289 80 [.val (.ref m), l1, .val (.int (nI f)), .val (.int (nI (ybn (ycur w).1 f q))), .val (.int (nI q)), .val (.int (ymo a b))] [] h = zrun zP sv (zcall zP sv (d + 7)) 289 22 [.val (.ref m), l1, .val (.int (nI f)), .val (.int (nI (ybn (ycur w).1 f (q + 1)))), .val (.int (nI (q + 1))), .val (.int (ymo a b))] [] h := by
      intro h
      rw [← eb, ybn_s, be]
      by_cases p1 : 0 < ymo a b
      · have q1 : (decide (0 < ymo a b) || (decide (ymo a b = 0) && decide (nI q < nI f))) = true := by rw [decide_eq_true p1, Bool.true_or]
        rw [if_pos q1]
        simp only [zs_289_80, zs_289_82, zs_289_96, if_pos p1, nI_1']
      · by_cases p2 : ymo a b = 0
        · by_cases p3 : nI q < nI f
          · have q1 : (decide (0 < ymo a b) || (decide (ymo a b = 0) && decide (nI q < nI f))) = true := by rw [decide_eq_true p2, decide_eq_true p3, Bool.and_self, Bool.or_true]
            rw [if_pos q1]
            simp only [zs_289_80, zs_289_82, zs_289_85, zs_289_87, zs_289_90, zs_289_92, zs_289_93, zs_289_96, if_neg p1, if_pos p2, if_pos p3, nI_1']
          · have q1 : ¬ (decide (0 < ymo a b) || (decide (ymo a b = 0) && decide (nI q < nI f))) = true := by rw [decide_eq_false p1, decide_eq_false p3, Bool.and_false, Bool.or_false]; exact Bool.false_ne_true
            rw [if_neg q1, Nat.add_zero]
            simp only [zs_289_80, zs_289_82, zs_289_85, zs_289_87, zs_289_90, zs_289_92, zs_289_93, if_neg p1, if_pos p2, if_neg p3, Nat.add_zero]
        · have q1 : ¬ (decide (0 < ymo a b) || (decide (ymo a b = 0) && decide (nI q < nI f))) = true := by rw [decide_eq_false p1, decide_eq_false p2, Bool.false_and, Bool.or_false]; exact Bool.false_ne_true
          rw [if_neg q1, Nat.add_zero]
          simp only [zs_289_80, zs_289_82, zs_289_85, zs_289_87, if_neg p1, if_neg p2, Nat.add_zero]
    by_cases z0 : nI (ysz a) - nI (ysz b) = 0
    · obtain ⟨h1, e1, m1, k1⟩ := e_288 (sv := sv) (d := d) hM ha
      obtain ⟨h2, e2, m2, k2⟩ := e_288 (sv := sv) (d := d) m1 hf
      have r1 : ∀ X : zR, zrc (h1.1 m) 13 X = X := fun X => zMdl_rc m1
      obtain ⟨h3, r5, e3, w5, m3, k3⟩ := ih (q + 1) h2 (.val (.int (ymo a b))) znw_i (by omega) m2
      refine ⟨h3, r5, ?_, w5, m3, zmw_tr (zmw_tr k1 k2) k3⟩
      rw [← e3, ← tail]
      have em : ymo a b = nI (ydp a) - nI (ydp b) := by unfold ymo; rw [if_pos z0]
      rw [em]
      simp (disch := first | exact h5 | exact znw_u | exact znw_i) only [zs_289_22, zs_289_24, zs_289_25, zs_289_28, zs_289_29, zs_289_30, zs_289_33, zs_289_34, zs_289_37, zs_289_39, zs_289_41, zs_289_43, zs_289_44, zs_289_45, zs_289_46, zs_289_47, zs_289_50, zs_289_52, zs_289_54, zs_289_55, zs_289_56, zs_289_57, zs_289_58, zs_289_59, zs_289_61, zs_289_63, zs_289_66, zs_289_67, zs_289_69, zs_289_72, zs_289_73, zs_289_74, zs_289_77, zs_289_78, g1, zmf_0, g2, g3, if_pos c1, nI_fb, ga, gb, if_pos z0, zrc_13v, r1, e1, e2, zbk_v, zts_s, List.cons_append, List.nil_append]
    · obtain ⟨h3, r5, e3, w5, m3, k3⟩ := ih (q + 1) h (.val (.int (ymo a b))) znw_i (by omega) hM
      refine ⟨h3, r5, ?_, w5, m3, k3⟩
      rw [← e3, ← tail]
      have em : ymo a b = nI (ysz a) - nI (ysz b) := by unfold ymo; rw [if_neg z0]
      rw [em]
      simp (disch := first | exact h5 | exact znw_u | exact znw_i) only [zs_289_22, zs_289_24, zs_289_25, zs_289_28, zs_289_29, zs_289_30, zs_289_33, zs_289_34, zs_289_37, zs_289_39, zs_289_41, zs_289_43, zs_289_44, zs_289_45, zs_289_46, zs_289_47, zs_289_50, zs_289_52, zs_289_54, zs_289_55, zs_289_56, zs_289_57, zs_289_58, zs_289_59, zs_289_61, zs_289_63, g1, zmf_0, g2, g3, if_pos c1, nI_fb, ga, gb, if_neg z0]
/-- the formula of a rank, of n from k on -/
def yrk (T : List yT) (x : Int32) : Nat → Nat → Option Nat
  | _, 0 => none
  | k, n + 1 => if nI (ybn T k T.length) = x then some k else yrk T x (k + 1) n
theorem e_289l {x : Int32} : ∀ n k (h : zH) (l3 l4 l5 : Slot), znw l3 = true → znw l4 = true → znw l5 = true → k + n = (ycur w).1.length → zMdl h m w 0 → ∃ h', zrun zP sv (zcall zP sv (d + 7)) 289 7 [.val (.ref m), .val (.int x), .val (.int (nI k)), l3, l4, l5] [] h = some (.inl (some (.int (match yrk (ycur w).1 x k n with | some c => nI c | none => 0))), h') ∧ zMdl h' m w (match yrk (ycur w).1 x k n with | some _ => 0 | none => nI 1) ∧ zmw m h h' := by
  intro n
  induction n with
  | zero =>
    intro k h l3 l4 l5 h3 h4 h5 hk hM
    obtain ⟨F, N, g1, g2, g3, g4⟩ := zMdl_rd hM
    obtain rfl : k = (ycur w).1.length := by omega
    obtain ⟨F', g, q1, q2, _⟩ := zMdl_31 (x := nI 1) hM
    have E2 : zcall zP sv (d + 7) 198 [.ref m, .int (nI 1)] h = _ := e_198 (sv := sv) (d := d + 6) g
    rw [show yrk (ycur w).1 x (ycur w).1.length 0 = none from rfl]
    refine ⟨_, ?_, q1, q2⟩
    simp only [zs_289_7, zs_289_8, zs_289_9, zs_289_12, zs_289_13, zs_289_14, zs_289_118, zs_289_119, zs_289_120, zs_289_123, g1, zmf_0, g2, g3, Int32.lt_irrefl, zrc_13v, E2, zbk_v, zts_s, ↓reduceIte, List.cons_append, List.nil_append]
  | succ n ih =>
    intro k h l3 l4 l5 h3 h4 h5 hk hM
    obtain ⟨F, N, g1, g2, g3, g4⟩ := zMdl_rd hM
    have hA := zMdl_A hM
    have h6 := hA.1
    have c1 : nI k < nI (ycur w).1.length := nI_lt (by omega) (by omega)
    obtain ⟨a, ha⟩ : ∃ a, (ycur w).1[k]? = some a := ⟨_, List.getElem?_eq_getElem (by omega)⟩
    obtain ⟨h1, r5, e1, w5, m1, k1⟩ := e_289i (sv := sv) (d := d) (l1 := .val (.int x)) ha (ycur w).1.length 0 h l5 h5 (Nat.zero_add _) hM
    rw [show ybn (ycur w).1 k 0 = 0 from rfl, nI_0] at e1
    by_cases c : nI (ybn (ycur w).1 k (ycur w).1.length) = x
    · have q : yrk (ycur w).1 x k (n + 1) = some k := by unfold yrk; rw [if_pos c]
      rw [q]
      refine ⟨h1, ?_, m1, k1⟩
      simp (disch := first | exact h3 | exact h4 | exact h5 | exact znw_u | exact znw_i) only [zs_289_7, zs_289_8, zs_289_9, zs_289_12, zs_289_13, zs_289_14, zs_289_17, zs_289_18, zs_289_19, zs_289_20, g1, zmf_0, g2, g3, if_pos c1, e1, zs_289_105, zs_289_106, zs_289_107, if_pos c, zs_289_110, zs_289_111]
    · have q : yrk (ycur w).1 x k (n + 1) = yrk (ycur w).1 x (k + 1) n := by conv => lhs; unfold yrk; rw [if_neg c]
      rw [q]
      obtain ⟨h2, e2, m2, k2⟩ := ih (k + 1) h1 (.val (.int (nI (ybn (ycur w).1 k (ycur w).1.length)))) (.val (.int (nI (ycur w).1.length))) r5 znw_i znw_i w5 (by omega) m1
      refine ⟨h2, ?_, m2, zmw_tr k1 k2⟩
      rw [← e2]
      have eb : ∀ l3 l4 l5, zrun zP sv (zcall zP sv (d + 7)) 289 112 [.val (.ref m), .val (.int x), .val (.int (nI k)), l3, l4, l5] [] h1 = zrun zP sv (zcall zP sv (d + 7)) 289 7 [.val (.ref m), .val (.int x), .val (.int (nI (k + 1))), l3, l4, l5] [] h1 := fun l3 l4 l5 => by rw [zs_289_112, zs_289_115, nI_1']
      rw [← eb]
      simp (disch := first | exact h3 | exact h4 | exact h5 | exact znw_u | exact znw_i) only [zs_289_7, zs_289_8, zs_289_9, zs_289_12, zs_289_13, zs_289_14, zs_289_17, zs_289_18, zs_289_19, zs_289_20, g1, zmf_0, g2, g3, if_pos c1, e1, zs_289_105, zs_289_106, zs_289_107, if_neg c]
theorem e_289 {x : Int32} (hM : zMdl h m w th) : zMC m h (zcall zP sv (d + 8) 289 [.ref m, .int x] h) (match yrk (ycur w).1 x 0 (ycur w).1.length with | some c => nI c | none => 0) w (match yrk (ycur w).1 x 0 (ycur w).1.length with | some _ => 0 | none => nI 1) := by
  obtain ⟨F, g, q1, q2, _⟩ := zMdl_31 (x := 0) hM
  obtain ⟨h', e, m1, k1⟩ := e_289l (sv := sv) (d := d) (x := x) (ycur w).1.length 0 _ .unset .unset .unset znw_u znw_u znw_u (Nat.zero_add _) q1
  rw [nI_0] at e
  refine ⟨h', ?_, m1, zmw_tr q2 k1⟩
  rw [← e]
  simp (disch := first | exact znw_u | exact znw_i) only [zc_289, zs_289_0, zs_289_1, zs_289_2, zs_289_5, zs_289_6, g, zmp_31]
/-- the nodes of the first n formulas -/
def ysu' (T : List yT) (n : Nat) : Nat := ((T.take n).map ysz).sum
theorem ysu'_s {T : List yT} {n : Nat} {a : yT} (ha : T[n]? = some a) : ysu' T (n + 1) = ysu' T n + ysz a := by
  unfold ysu'
  rw [List.take_add_one, ha, List.map_append, List.sum_append]
  rfl
theorem ysu'_le {T : List yT} (hT : ∀ t, t ∈ T → ytok t) : ∀ n, ysu' T n ≤ 31 * n
  | 0 => by
    unfold ysu'
    exact Nat.le_refl _
  | n + 1 => by
    have ih := ysu'_le hT n
    cases ha : T[n]? with
    | none =>
      have : T.take (n + 1) = T.take n := by
        rw [List.take_add_one, ha]
        exact List.append_nil _
      unfold ysu' at ih ⊢
      rw [this]
      omega
    | some a =>
      rw [ysu'_s ha]
      have := (hT a (List.mem_of_getElem? ha)).2.1
      omega
theorem e_291l (hM : zMdl h m w th) : ∀ n k, k + n = (ycur w).1.length → zrun zP sv (zcall zP sv d) 291 9 [.val (.ref m), .val (.int (nI (ysu' (ycur w).1 k))), .val (.int (nI k))] [] h = zrun zP sv (zcall zP sv d) 291 40 [.val (.ref m), .val (.int (nI (ysu' (ycur w).1 (ycur w).1.length))), .val (.int (nI (ycur w).1.length))] [] h := by
  obtain ⟨F, N, g1, g2, g3, g4⟩ := zMdl_rd hM
  have hA := zMdl_A hM
  have h6 := hA.1
  intro n
  induction n with
  | zero =>
    intro k hk
    obtain rfl : k = (ycur w).1.length := by omega
    simp only [zs_291_9, zs_291_10, zs_291_11, zs_291_14, zs_291_15, zs_291_16, g1, zmf_0, g2, g3, Int32.lt_irrefl, ↓reduceIte]
  | succ n ih =>
    intro k hk
    have c1 : nI k < nI (ycur w).1.length := nI_lt (by omega) (by omega)
    obtain ⟨a, ha⟩ : ∃ a, (ycur w).1[k]? = some a := ⟨_, List.getElem?_eq_getElem (by omega)⟩
    have ga := g4 k a ha
    rw [← ih (k + 1) (by omega), ysu'_s ha]
    have eb : ∀ x, zrun zP sv (zcall zP sv d) 291 34 [.val (.ref m), .val (.int x), .val (.int (nI k))] [] h = zrun zP sv (zcall zP sv d) 291 9 [.val (.ref m), .val (.int x), .val (.int (nI (k + 1)))] [] h := fun x => by rw [zs_291_34, zs_291_37, nI_1']
    rw [← eb]
    simp (disch := first | exact znw_u | exact znw_i) only [zs_291_9, zs_291_10, zs_291_11, zs_291_14, zs_291_15, zs_291_16, zs_291_19, zs_291_20, zs_291_21, zs_291_24, zs_291_26, zs_291_28, zs_291_29, zs_291_30, zs_291_31, zs_291_32, zs_291_33, g1, zmf_0, g2, g3, if_pos c1, nI_fb, ga, nI_add]
theorem yddiv : ∀ b, b < 7 → 1 ≤ b → ∀ a, a < 187 → decide (FP.ddiv (FP.i2d (nI a)) (FP.i2d (nI b)) &&& 0x7fffffffffffffff ≤ 0x7ff0000000000000) = true := by decide +kernel
theorem e_291n (hM : zMdl h m w th) (hn : (ycur w).1.length = 0) : zMV m h (zcall zP sv (d + 2) 291 [.ref m] h) (.double (FP.i2d 0)) w (nI 1) := by
  obtain ⟨F, g, q1, q2, _⟩ := zMdl_31 (x := 0) hM
  have e := e_291l (sv := sv) (d := d + 1) q1 (ycur w).1.length 0 (Nat.zero_add _)
  rw [show ysu' (ycur w).1 0 = 0 from rfl, nI_0] at e
  obtain ⟨F', N', g1, g2, g3, g4⟩ := zMdl_rd q1
  obtain ⟨F2, g', q1', q2', _⟩ := zMdl_31 (x := nI 1) q1
  have E2 : zcall zP sv (d + 1) 198 [.ref m, .int (nI 1)] _ = _ := e_198 (sv := sv) (d := d) g'
  rw [hn, nI_0] at g3
  refine ⟨_, ?_, q1', zmw_tr q2 q2'⟩
  have hr : ∀ X : zR, zrc ((zup h m (13, zMF m (yup F 31 0))).1 m) 13 X = X := fun X => zMdl_rc q1
  simp (disch := first | exact znw_u | exact znw_i) only [zc_291, zs_291_0, zs_291_1, zs_291_2, zs_291_5, zs_291_6, zs_291_7, zs_291_8, g, zmp_31]
  rw [e]
  simp (disch := first | exact znw_u | exact znw_i) only [zs_291_40, zs_291_41, zs_291_44, zs_291_45, zs_291_46, zs_291_49, zs_291_50, zs_291_51, zs_291_54, zs_291_55, zs_291_68, g1, zmf_0, g2, g3, zrc_13v, E2, zbk_v, zts_s, ↓reduceIte, List.cons_append, List.nil_append]
theorem e_291 (hM : zMdl h m w th) (hn : 0 < (ycur w).1.length) : zMV m h (zcall zP sv (d + 2) 291 [.ref m] h) (.double (FP.ddiv (FP.i2d (nI (ysu' (ycur w).1 (ycur w).1.length))) (FP.i2d (nI (ycur w).1.length)))) w 0 := by
  obtain ⟨F, g, q1, q2, _⟩ := zMdl_31 (x := 0) hM
  have e := e_291l (sv := sv) (d := d + 1) q1 (ycur w).1.length 0 (Nat.zero_add _)
  rw [show ysu' (ycur w).1 0 = 0 from rfl, nI_0] at e
  obtain ⟨F', N', g1, g2, g3, g4⟩ := zMdl_rd q1
  have hA := zMdl_A hM
  have h6 := hA.1
  have hs := ysu'_le hA.2.1 (ycur w).1.length
  have hz : (nI (ycur w).1.length = 0) = False := eq_false (nI_ne0 hn (by omega))
  have hd := yddiv (ycur w).1.length (by omega) hn (ysu' (ycur w).1 (ycur w).1.length) (by omega)
  refine ⟨_, ?_, q1, q2⟩
  simp (disch := first | exact znw_u | exact znw_i) only [zc_291, zs_291_0, zs_291_1, zs_291_2, zs_291_5, zs_291_6, zs_291_7, zs_291_8, g, zmp_31]
  rw [e]
  simp (disch := first | exact znw_u | exact znw_i) only [zs_291_40, zs_291_41, zs_291_44, zs_291_45, zs_291_46, zs_291_58, zs_291_59, zs_291_60, zs_291_61, zs_291_64, zs_291_65, zs_291_66, zs_291_67, zs_291_68, g1, zmf_0, g2, g3, hz, hd, zgd_t, ↓reduceIte]
end ZQU

section ZQV
variable {sv : Nat → Value} {d : Nat} {m : Nat}
def nL (n : Nat) : Int64 := Int64.ofNat n
theorem nL_10 : (10 : Int64) = nL 10 := rfl
theorem nL_48 : (48 : Int64) = nL 48 := rfl
theorem nL_div {n : Nat} (hn : n < 2 ^ 63) : nL n / 10 = nL (n / 10) := (Int64.ofNat_div (a := n) (b := 10) hn (by decide)).symm
theorem nL_mod {n : Nat} (hn : n < 2 ^ 63) : nL n - nL n / 10 * 10 = nL (n % 10) := by
  rw [nL_div hn, nL_10]
  have e1 : nL (n / 10) * nL 10 = nL (n / 10 * 10) := (Int64.ofNat_mul _ _).symm
  have e2 : nL n = nL (n / 10 * 10) + nL (n % 10) := by
    have := Int64.ofNat_add (n / 10 * 10) (n % 10)
    rw [show n / 10 * 10 + n % 10 = n by omega] at this
    exact this
  rw [e1]
  conv => lhs; lhs; rw [e2]
  rw [Int64.add_comm, Int64.add_sub_cancel]
theorem nL_add {a b : Nat} : nL a + nL b = nL (a + b) := (Int64.ofNat_add a b).symm
theorem nL_32 {a : Nat} : (nL a).toInt32 = nI a := Int64.toInt32_ofNat' ..
theorem nL_toInt {n : Nat} (hn : n < 2 ^ 63) : (nL n).toInt = n := Int64.toInt_ofNat_of_lt hn
theorem nL_cmp {n : Nat} (hn : n < 2 ^ 63) : (0 < lg_cmp (nL n) 9) = (9 < n) := by
  have z1 : (0 : Int32) < 1 := by decide +kernel
  have z2 : ¬ (0 : Int32) < 0 := by decide +kernel
  have z3 : ¬ (0 : Int32) < -1 := by decide +kernel
  have e9 : (9 : Int64) = nL 9 := rfl
  have h9 : (nL 9).toInt = 9 := nL_toInt (by decide)
  have hn' := nL_toInt hn
  unfold lg_cmp
  apply propext
  rw [e9]
  by_cases c : nL n > nL 9
  · rw [if_pos c]
    have : (nL 9).toInt < (nL n).toInt := Int64.lt_iff_toInt_lt.mp c
    exact ⟨fun _ => by omega, fun _ => z1⟩
  · rw [if_neg c]
    have c' : ¬ (nL 9).toInt < (nL n).toInt := fun q => c (Int64.lt_iff_toInt_lt.mpr q)
    by_cases c2 : nL n = nL 9
    · rw [if_pos c2]
      exact ⟨fun q => absurd q z2, fun q => by omega⟩
    · rw [if_neg c2]
      exact ⟨fun q => absurd q z3, fun q => by omega⟩
/-- while the model writes: its output is o -/
def zWr (h : zH) (m : Nat) (F : Nat → Int32) (o : List Int32) : Prop := h.1 m = (13, zMF m F) ∧ F 24 = nI o.length ∧ zTx h (m + 16) 700 o ∧ ∀ x, x ∈ o → ychr x
def zow (m : Nat) (h h' : zH) : Prop := (∀ q, q ≠ m → q ≠ m + 16 → h'.1 q = h.1 q) ∧ h'.2 = h.2
theorem zow_rfl {h : zH} : zow m h h := ⟨fun _ _ _ => rfl, rfl⟩
theorem zow_tr {h h' h'' : zH} (h1 : zow m h h') (h2 : zow m h' h'') : zow m h h'' := ⟨fun q a b => (h2.1 q a b).trans (h1.1 q a b), h2.2.trans h1.2⟩
/-- from lo to hi signs more -/
def zAp (m : Nat) (F : Nat → Int32) (o : List Int32) (lo hi : Nat) (h : zH) (r : zR) (v : Option Value) : Prop := ∃ (h' : zH) (G : Nat → Int32) (p : List Int32), r = some (.inl v, h') ∧ zWr h' m G (o ++ p) ∧ lo ≤ p.length ∧ p.length ≤ hi ∧ (∀ j, j ≠ 24 → G j = F j) ∧ zow m h h'
theorem e_280 {h : zH} {F : Nat → Int32} {o : List Int32} {c : Int32} (hw : zWr h m F o) (hl : o.length < 700) (hc : ynr c = c) (hk : ychr c) : zAp m F o 1 1 h (zcall zP sv (d + 1) 280 [.ref m, .int c] h) none := by
  obtain ⟨m0, m24, ⟨B, b1, b2, b3, b4⟩, mx⟩ := hw
  have e1 := @zsC B o.length c
  refine ⟨zup (zup h m (13, zMF m (yup F 24 (nI (o.length + 1))))) (m + 16) (21, (B.set o.length c).map Value.int), yup F 24 (nI (o.length + 1)), [c], ?_, ⟨by rw [zup_ne (by omega), zup_at], by rw [yup_eq, List.length_append]; rfl, ⟨B.set o.length c, zup_at, by rw [List.length_set, b2], by rw [List.length_append]; exact ytk_set b3 (by omega), by rw [List.length_append]; show o.length + 1 ≤ 700; omega⟩, ?_⟩, Nat.le_refl 1, Nat.le_refl 1, fun j hj => yup_ne hj, ⟨fun q q1 q2 => by rw [zup_ne q2, zup_ne q1], rfl⟩⟩
  · simp (disch := omega) only [zc_280, zs_280_0, zs_280_1, zs_280_4, zs_280_5, zs_280_6, zs_280_9, zs_280_10, zs_280_11, zs_280_12, zs_280_15, zs_280_16, zs_280_17, m0, zmf_23, zmf_24, m24, zmp_24, nI_1', zup_at, zup_ne, b1, e1, hc]
  · intro x hx
    rw [List.mem_append, List.mem_singleton] at hx
    rcases hx with hx | hx
    · exact mx x hx
    · rw [hx]; exact hk
/-- how many digits a number has (fuel first) -/
def ydgn : Nat → Nat → Nat
  | 0, _ => 1
  | f + 1, n => if 9 < n then ydgn f (n / 10) + 1 else 1
theorem ydgn_le : ∀ f n, ydgn f n ≤ f + 1 ∧ 1 ≤ ydgn f n
  | 0, n => ⟨Nat.le_refl 1, Nat.le_refl 1⟩
  | f + 1, n => by
    obtain ⟨h1, h2⟩ := ydgn_le f (n / 10)
    unfold ydgn
    split <;> omega
theorem ydig_nr : ∀ k, k < 10 → (nI (48 + k)).toUInt32.toUInt16.toUInt32.toInt32 = nI (48 + k) ∧ ((nI (48 + k)).toUInt32 % 65536).toInt32 = nI (48 + k) ∧ zty 7 (.int (nI (48 + k))) = true := by decide +kernel
theorem e_281 : ∀ (f n : Nat) (h : zH) (F : Nat → Int32) (o : List Int32) (D : Nat), n < 10 ^ (f + 1) → n < 2 ^ 62 → o.length + f + 1 ≤ 700 → f + 2 ≤ D → zWr h m F o → zAp m F o (ydgn f n) (ydgn f n) h (zcall zP sv D 281 [.ref m, .long (nL n)] h) none := by
  intro f
  induction f with
  | zero =>
    intro n h F o D hn h62 hl hD hw
    obtain ⟨D, rfl⟩ : ∃ D', D = D' + 2 := ⟨D - 2, by omega⟩
    have h10 : n < 10 := hn
    obtain ⟨q1, q2, q3⟩ := ydig_nr (n % 10) (by omega)
    have c0 := nL_cmp (n := n) (by omega)
    have c1 : ¬ (0 < lg_cmp (nL n) 9) := by rw [c0]; omega
    have hm := hw.1
    obtain ⟨h1, G, p, e1, w1, l1, l2, g1, k1⟩ := e_280 (sv := sv) (d := D) (c := nI (48 + n % 10)) hw (by omega) q1 q3
    refine ⟨h1, G, p, ?_, w1, l1, l2, g1, k1⟩
    simp (disch := first | exact znw_u | exact znw_i) only [zc_281, zs_281_0, zs_281_1, zs_281_4, zs_281_5, if_neg c1, zs_281_17, zs_281_18, zs_281_21, zs_281_22, zs_281_25, zs_281_26, zs_281_27, zs_281_28, zs_281_29, zs_281_32, nL_mod (show n < 2 ^ 63 by omega), nL_48, nL_add, nL_32, q2, hm, zrc_13v, e1, zbk_v, zts_n, List.cons_append, List.nil_append]
  | succ f ih =>
    intro n h F o D hn h62 hl hD hw
    obtain ⟨D, rfl⟩ : ∃ D', D = D' + 2 := ⟨D - 2, by omega⟩
    obtain ⟨q1, q2, q3⟩ := ydig_nr (n % 10) (by omega)
    have c0 := nL_cmp (n := n) (by omega)
    have hm := hw.1
    by_cases c : 9 < n
    · have c1 : (0 < lg_cmp (nL n) 9) := by rw [c0]; exact c
      obtain ⟨h1, G, p, e1, w1, l1, l2, g1, k1⟩ := ih (n / 10) h F o (D + 1) (by rw [Nat.pow_succ] at hn; omega) (by omega) (by omega) (by omega) hw
      have hm1 := w1.1
      have hdl := ydgn_le f (n / 10)
      obtain ⟨h2, G2, p2, e2, w2, l3, l4, g2, k2⟩ := e_280 (sv := sv) (d := D) (c := nI (48 + n % 10)) w1 (by rw [List.length_append]; omega) q1 q3
      have md : nL n - nL (n / 10) * 10 = nL (n % 10) := by rw [← nL_div (show n < 2 ^ 63 by omega)]; exact nL_mod (by omega)
      have ey : ydgn (f + 1) n = ydgn f (n / 10) + 1 := by conv => lhs; unfold ydgn; rw [if_pos c]
      refine ⟨h2, G2, p ++ p2, ?_, by rw [← List.append_assoc]; exact w2, by rw [List.length_append]; omega, by rw [List.length_append]; omega, fun j hj => (g2 j hj).trans (g1 j hj), zow_tr k1 k2⟩
      simp (disch := first | exact znw_u | exact znw_i) only [zc_281, zs_281_0, zs_281_1, zs_281_4, zs_281_5, if_pos c1, zs_281_8, zs_281_9, zs_281_10, zs_281_13, zs_281_14, zs_281_17, zs_281_18, zs_281_21, zs_281_22, zs_281_25, zs_281_26, zs_281_27, zs_281_28, zs_281_29, zs_281_32, nL_div (show n < 2 ^ 63 by omega), md, nL_48, nL_add, nL_32, q2, hm, hm1, zrc_13v, e1, e2, zbk_v, zts_n, List.cons_append, List.nil_append]
    · have c1 : ¬ (0 < lg_cmp (nL n) 9) := by rw [c0]; exact c
      obtain ⟨h1, G, p, e1, w1, l1, l2, g1, k1⟩ := e_280 (sv := sv) (d := D) (c := nI (48 + n % 10)) hw (by omega) q1 q3
      have ey : ydgn (f + 1) n = 1 := by unfold ydgn; rw [if_neg c]
      rw [ey]
      refine ⟨h1, G, p, ?_, w1, l1, l2, g1, k1⟩
      simp (disch := first | exact znw_u | exact znw_i) only [zc_281, zs_281_0, zs_281_1, zs_281_4, zs_281_5, if_neg c1, zs_281_17, zs_281_18, zs_281_21, zs_281_22, zs_281_25, zs_281_26, zs_281_27, zs_281_28, zs_281_29, zs_281_32, nL_mod (show n < 2 ^ 63 by omega), nL_48, nL_add, nL_32, q2, hm, zrc_13v, e1, zbk_v, zts_n, List.cons_append, List.nil_append]
/-- how many signs a number is written with -/
def yilen (x : Int32) : Nat := (if x < 0 then 1 else 0) + ydgn 9 x.toInt.natAbs
theorem yilen_le (x : Int32) : yilen x ≤ 11 := by
  unfold yilen
  have := (ydgn_le 9 x.toInt.natAbs).1
  split <;> omega
theorem nL_abs (x : Int32) : (if 0 < x.toInt64 then x.toInt64 else -x.toInt64) = nL x.toInt.natAbs := by
  have h1 := Int32.toInt_toInt64 x
  have h2 := Int32.toInt_lt x
  have h3 := Int32.le_toInt x
  apply Int64.toInt_inj.mp
  rw [nL_toInt (by omega)]
  by_cases c : 0 < x.toInt64
  · have c' : (0 : Int64).toInt < x.toInt64.toInt := Int64.lt_iff_toInt_lt.mp c
    have z : (0 : Int64).toInt = 0 := rfl
    rw [if_pos c, h1]
    omega
  · have c' : ¬ (0 : Int64).toInt < x.toInt64.toInt := fun q => c (Int64.lt_iff_toInt_lt.mpr q)
    have z : (0 : Int64).toInt = 0 := rfl
    rw [if_neg c, Int64.toInt_neg, h1]
    rw [Int.bmod_eq_of_le (by omega) (by omega)]
    omega
theorem e_282 {x : Int32} {h : zH} {F : Nat → Int32} {o : List Int32} (hw : zWr h m F o) (hl : o.length + 11 ≤ 700) : zAp m F o (yilen x) (yilen x) h (zcall zP sv (d + 12) 282 [.ref m, .int x] h) none := by
  have hm := hw.1
  have h2 := Int32.toInt_lt x
  have h3 := Int32.le_toInt x
  have e45 : ynr (nI 45) = nI 45 := by decide +kernel
  have k45 : ychr (nI 45) := by show zty 7 (.int (nI 45)) = true; decide +kernel
  have hdl := ydgn_le 9 x.toInt.natAbs
  by_cases c : x < 0
  · obtain ⟨h1, G, p, e1, w1, l1, l2, g1, k1⟩ := e_280 (sv := sv) (d := d + 10) (c := nI 45) hw (by omega) e45 k45
    obtain ⟨h4, G2, p2, e2, w2, l3, l4, g2, k2⟩ := e_281 (sv := sv) (m := m) 9 x.toInt.natAbs h1 G (o ++ p) (d + 11) (by omega) (by omega) (by rw [List.length_append]; omega) (by omega) w1
    have hm1 := w1.1
    have ey : yilen x = 1 + ydgn 9 x.toInt.natAbs := by unfold yilen; rw [if_pos c]
    refine ⟨h4, G2, p ++ p2, ?_, by rw [← List.append_assoc]; exact w2, by rw [List.length_append]; omega, by rw [List.length_append]; omega, fun j hj => (g2 j hj).trans (g1 j hj), zow_tr k1 k2⟩
    simp (disch := first | exact znw_u | exact znw_i) only [zc_282, zs_282_0, zs_282_1, zs_282_4, zs_282_5, zs_282_7, zs_282_10, zs_282_11, zs_282_12, zs_282_13, zs_282_16, zs_282_19, if_pos c, nL_abs, hm, hm1, zrc_13v, e1, e2, zbk_v, zts_n, List.cons_append, List.nil_append]
  · obtain ⟨h4, G2, p2, e2, w2, l3, l4, g2, k2⟩ := e_281 (sv := sv) (m := m) 9 x.toInt.natAbs h F o (d + 11) (by omega) (by omega) (by omega) (by omega) hw
    have ey : yilen x = ydgn 9 x.toInt.natAbs := by unfold yilen; rw [if_neg c]; omega
    refine ⟨h4, G2, p2, ?_, w2, by omega, by omega, g2, k2⟩
    simp (disch := first | exact znw_u | exact znw_i) only [zc_282, zs_282_0, zs_282_1, zs_282_10, zs_282_11, zs_282_12, zs_282_13, zs_282_16, zs_282_19, if_neg c, nL_abs, hm, zrc_13v, e2, zbk_v, zts_n, List.cons_append, List.nil_append]
theorem yopn_nr : ∀ k, k < 20 → nI k - nI k / nI 10 * nI 10 = nI (k % 10) ∧ (nI (k % 10)).toInt64 = nL (k % 10) := by decide +kernel
theorem e_283 {k : Nat} {h : zH} {F : Nat → Int32} {o : List Int32} (hk : k < 20) (hw : zWr h m F o) (hl : o.length + 2 ≤ 700) : zAp m F o 2 2 h (zcall zP sv (d + 3) 283 [.ref m, .int (nI k)] h) none := by
  have hm := hw.1
  have e114 : ynr (nI 114) = nI 114 := by decide +kernel
  have k114 : ychr (nI 114) := by show zty 7 (.int (nI 114)) = true; decide +kernel
  have e109 : ynr (nI 109) = nI 109 := by decide +kernel
  have k109 : ychr (nI 109) := by show zty 7 (.int (nI 109)) = true; decide +kernel
  obtain ⟨q1, q2⟩ := yopn_nr k hk
  by_cases c : nI k < nI 10
  · obtain ⟨h1, G, p, e1, w1, l1, l2, g1, k1⟩ := e_280 (sv := sv) (d := d + 1) (c := nI 114) hw (by omega) e114 k114
    obtain ⟨h4, G2, p2, e2, w2, l3, l4, g2, k2⟩ := e_281 (sv := sv) (m := m) 0 (k % 10) h1 G (o ++ p) (d + 2) (by omega) (by omega) (by rw [List.length_append]; omega) (by omega) w1
    have hm1 := w1.1
    have ey : ydgn 0 (k % 10) = 1 := rfl
    refine ⟨h4, G2, p ++ p2, ?_, by rw [← List.append_assoc]; exact w2, by rw [List.length_append]; omega, by rw [List.length_append]; omega, fun j hj => (g2 j hj).trans (g1 j hj), zow_tr k1 k2⟩
    simp (disch := first | exact znw_u | exact znw_i) only [zc_283, zs_283_0, zs_283_1, zs_283_2, zs_283_4, zs_283_7, zs_283_9, zs_283_14, zs_283_17, zs_283_18, zs_283_19, zs_283_21, zs_283_22, zs_283_23, zs_283_26, if_pos c, q1, q2, hm, hm1, zrc_13v, e1, e2, zbk_v, zts_n, List.cons_append, List.nil_append]
  · obtain ⟨h1, G, p, e1, w1, l1, l2, g1, k1⟩ := e_280 (sv := sv) (d := d + 1) (c := nI 109) hw (by omega) e109 k109
    obtain ⟨h4, G2, p2, e2, w2, l3, l4, g2, k2⟩ := e_281 (sv := sv) (m := m) 0 (k % 10) h1 G (o ++ p) (d + 2) (by omega) (by omega) (by rw [List.length_append]; omega) (by omega) w1
    have hm1 := w1.1
    have ey : ydgn 0 (k % 10) = 1 := rfl
    refine ⟨h4, G2, p ++ p2, ?_, by rw [← List.append_assoc]; exact w2, by rw [List.length_append]; omega, by rw [List.length_append]; omega, fun j hj => (g2 j hj).trans (g1 j hj), zow_tr k1 k2⟩
    simp (disch := first | exact znw_u | exact znw_i) only [zc_283, zs_283_0, zs_283_1, zs_283_2, zs_283_4, zs_283_12, zs_283_14, zs_283_17, zs_283_18, zs_283_19, zs_283_21, zs_283_22, zs_283_23, zs_283_26, if_neg c, q1, q2, hm, hm1, zrc_13v, e1, e2, zbk_v, zts_n, List.cons_append, List.nil_append]
end ZQV

section ZQW
variable {sv : Nat → Value} {d : Nat} {m : Nat} {h : zH} {w : yW} {th : Int32} {i : Nat} {t : yT} {M : Nat}
/-- another output -/
def yso (w : yW) (o : List Int32) : yW := (w.1, w.2.1, w.2.2.1, w.2.2.2.1, w.2.2.2.2.1, w.2.2.2.2.2.1, o)
/-- how many signs an instruction is written with -/
def ywil (x : yI) : Nat := if x.1 = nI 99 then 3 + yilen x.2.2.1 else if x.1 = nI 118 then 4 else if x.1 = nI 115 then 5 else if x.1 = nI 110 then 6 else 8
theorem ypl_lt : ∀ x, x ≤ 12 → ∃ k, k < 20 ∧ ypl (nI x) = nI k := by
  intro x hx
  have h1 : ∀ x, x ≤ 12 → ypl (nI x) = nI (if 3 < x then x + 6 else x) := by decide +kernel
  exact ⟨_, by split <;> omega, h1 x hx⟩
theorem ylet_w {v : Int32} (hv : ylet v = true) : nI 97 + (v - nI 97) = v ∧ (v.toUInt32 % 65536).toInt32 = v ∧ ynr v = v ∧ ychr v := by
  obtain ⟨k, hk, rfl⟩ := ylet_of hv
  have h1 : ∀ k, k < 6 → nI 97 + (nI (97 + k) - nI 97) = nI (97 + k) ∧ ((nI (97 + k)).toUInt32 % 65536).toInt32 = nI (97 + k) ∧ ynr (nI (97 + k)) = nI (97 + k) ∧ zty 7 (.int (nI (97 + k))) = true := by decide +kernel
  exact h1 k hk
theorem yis_w {k : Int32} (hk : yis k = true) : ychr k := by
  have h1 : zty 7 (.int (nI 43)) = true ∧ zty 7 (.int (nI 45)) = true ∧ zty 7 (.int (nI 42)) = true := by decide +kernel
  rcases yis_k hk with g | g | g <;> rw [g]
  · exact h1.1
  · exact h1.2.1
  · exact h1.2.2
/-- what a writing call does: another output, and its length -/
def zMw (m : Nat) (h : zH) (r : zR) (n : Nat) (w : yW) : Prop := ∃ (h' : zH) (o : List Int32), r = some (.inl (some (.int (nI n))), h') ∧ zMdl h' m (yso w o) 0 ∧ zmw m h h' ∧ o.length = n ∧ (∀ x, x ∈ o → ychr x)
theorem zMw_of {F G : Nat → Int32} {h h1 h2 : zH} {o : List Int32} {n : Nat} {r : zR} (hr : r = some (.inl (some (.int (nI n))), h2)) (hf : F 31 = 0) (hw : zWk h m F (ycur w)) (hT : ∃ T, zTab h (m + 2) T) (hR : zRst h m F w) (hA : yAok (ycur w)) (hk : zmw m h1 h) (hz : zWr h2 m G o) (hG : ∀ j, j ≠ 24 → G j = F j) (ho : zow m h h2) (hn : o.length = n) : zMw m h1 r n w := by
  obtain ⟨T, hT⟩ := hT
  obtain ⟨z0, z24, zt, zx⟩ := hz
  obtain ⟨⟨r3, r5, _, r26, r29, r8⟩, rk, ⟨S, rS, rS'⟩, _, r17⟩ := hR
  refine ⟨h2, o, hr, ⟨G, by rw [hG _ (by omega), hf], zWk_cg hw z0 (fun q hq => ho.1 q (by omega) (by omega)), ⟨T, zTab_cg hT (ho.1 _ (by omega) (by omega))⟩, ⟨⟨by rw [hG _ (by omega), r3]; rfl, by rw [hG _ (by omega), r5]; rfl, z24, by rw [hG _ (by omega), r26]; rfl, by rw [hG _ (by omega), r29]; rfl, r8⟩, ?_, ⟨S, zTab_cg rS (ho.1 _ (by omega) (by omega)), rS'⟩, zt, zTx_cg r17 (ho.1 _ (by omega) (by omega))⟩, hA⟩, zmw_tr hk ⟨fun q hq => ho.1 q (by omega) (by omega), ho.2⟩, hn, zx⟩
  obtain ⟨K, k1, k2, k3⟩ := rk
  exact ⟨K, by rw [ho.1 _ (by omega) (by omega), k1], k2, k3⟩
theorem e_284x {x y : Int32} (hM : zMdl h m w th) (hR : (ycur w).2.2.1 = nI M) (hx : yinF (ycur w) x = false) : zMC m h (zcall zP sv (d + 9) 284 [.ref m, .int x, .int y] h) 0 w (nI 1) := by
  obtain ⟨h1, e1, m1, k1⟩ := e_277x (sv := sv) (d := d) (y := y) hM hR hx
  have r0 : ∀ X : zR, zrc (h.1 m) 13 X = X := fun X => zMdl_rc hM
  refine ⟨h1, ?_, m1, k1⟩
  simp only [zc_284, zs_284_0, zs_284_1, zs_284_2, zs_284_3, zs_284_6, zs_284_9, zs_284_10, r0, e1, zbk_v, zts_s, ↓reduceIte, List.cons_append, List.nil_append]
theorem e_284o {y : Int32} (hM : zMdl h m w th) (hi : (ycur w).1[i]? = some t) (hR : (ycur w).2.2.1 = nI M) (h1M : 1 ≤ M) (hM4 : M ≤ 4) (hy : yinC (yco M t 0 0) y = false) : zMC m h (zcall zP sv (d + 13) 284 [.ref m, .int (nI i), .int y] h) 0 w (nI 1) := by
  obtain ⟨h1, e1, m1, k1⟩ := e_277o (sv := sv) (d := d) (y := y) hM hi hR h1M hM4 hy
  have r0 : ∀ X : zR, zrc (h.1 m) 13 X = X := fun X => zMdl_rc hM
  refine ⟨h1, ?_, m1, k1⟩
  simp only [zc_284, zs_284_0, zs_284_1, zs_284_2, zs_284_3, zs_284_6, zs_284_9, zs_284_10, r0, e1, zbk_v, zts_s, ↓reduceIte, List.cons_append, List.nil_append]
theorem e_284 {n : Nat} {x : yI} (hM : zMdl h m w th) (hi : (ycur w).1[i]? = some t) (hR : (ycur w).2.2.1 = nI M) (h1M : 1 ≤ M) (hM4 : M ≤ 4) (hy : yinC (yco M t 0 0) (nI n) = true) (hx : (yco M t 0 0)[n]? = some x) : zMw m h (zcall zP sv (d + 14) 284 [.ref m, .int (nI i), .int (nI n)] h) (ywil x) w := by
  obtain ⟨h1, e1, m1, k1⟩ := e_277 (sv := sv) (d := d + 1) hM hi hR h1M hM4 hy
  have r0 : ∀ X : zR, zrc (h.1 m) 13 X = X := fun X => zMdl_rc hM
  obtain ⟨F1, f31, ⟨s0, _, _, _, _, sC⟩, a3, a4, a5, a6, tk⟩ := m1
  have ok := yco_ok hM4 (ysz t) t (Nat.le_refl _) (by have := tk.2.1; omega) tk.1 0 0 (by omega) (by have := tk.2.2; omega) x (List.mem_of_getElem? hx)
  obtain ⟨g12, g13, g14, g15⟩ := zCdM_at sC hx
  obtain ⟨X12, x12⟩ : ∃ X, h1.1 (m + 12) = X := ⟨_, rfl⟩
  obtain ⟨X13, x13⟩ : ∃ X, h1.1 (m + 13) = X := ⟨_, rfl⟩
  obtain ⟨X14, x14⟩ : ∃ X, h1.1 (m + 14) = X := ⟨_, rfl⟩
  obtain ⟨X15, x15⟩ : ∃ X, h1.1 (m + 15) = X := ⟨_, rfl⟩
  rw [x12] at g12
  rw [x13] at g13
  rw [x14] at g14
  rw [x15] at g15
  obtain ⟨h2, hh2⟩ : ∃ h2, h2 = zup h1 m (13, zMF m (yup F1 24 0)) := ⟨_, rfl⟩
  obtain ⟨_, _, _, ⟨B, b1, b2, b3, b4⟩, _⟩ := id a5
  have w2 : zWr h2 m (yup F1 24 0) [] := ⟨by rw [hh2, zup_at], yup_eq, ⟨B, by rw [hh2, zup_ne (by omega), b1], b2, rfl, Nat.zero_le _⟩, fun x hx => by cases hx⟩
  have f2 : ∀ a, a ≠ m → a ≠ m + 16 → h2.1 a = h1.1 a := fun a a1 _ => by rw [hh2, zup_ne a1]
  have k2 : zow m h1 h2 := ⟨f2, by rw [hh2]; rfl⟩
  have v2 : ∀ j, j ≠ 24 → yup F1 24 0 j = F1 j := fun j hj => yup_ne hj
  have y12 : h2.1 (m + 12) = X12 := by rw [f2 _ (by omega) (by omega), x12]
  have y13 : h2.1 (m + 13) = X13 := by rw [f2 _ (by omega) (by omega), x13]
  have y14 : h2.1 (m + 14) = X14 := by rw [f2 _ (by omega) (by omega), x14]
  have y15 : h2.1 (m + 15) = X15 := by rw [f2 _ (by omega) (by omega), x15]
  have t0 := w2.1
  have n10 : ¬ nI 1 = 0 := by decide +kernel
  have e61 : ynr (nI 61) = nI 61 := by decide +kernel
  have c61 : ychr (nI 61) := by show zty 7 (.int (nI 61)) = true; decide +kernel
  have e45 : ynr (nI 45) = nI 45 := by decide +kernel
  have c45 : ychr (nI 45) := by show zty 7 (.int (nI 45)) = true; decide +kernel
  have p1 : ¬ nI 99 = nI 115 := by decide +kernel
  have p2 : ¬ nI 118 = nI 115 := by decide +kernel
  have p3 : ¬ nI 118 = nI 99 := by decide +kernel
  have p4 : ¬ nI 115 = nI 99 := by decide +kernel
  have p5 : ¬ nI 115 = nI 118 := by decide +kernel
  have p6 : ¬ nI 110 = nI 99 := by decide +kernel
  have p7 : ¬ nI 110 = nI 118 := by decide +kernel
  have p8 : ¬ nI 110 = nI 115 := by decide +kernel
  obtain ⟨⟨b, hb, eb⟩, hcase⟩ := ok
  have head : [zrun zP sv (zcall zP sv (d + 13)) 284 23 [.val (.ref m), .val (.int (nI i)), .val (.int (nI n)), .val (.int x.1)] [] h2] = [zcall zP sv (d + 14) 284 [.ref m, .int (nI i), .int (nI n)] h] := by
    simp (disch := first | exact znw_u | exact znw_i) only [zc_284, zs_284_0, zs_284_1, zs_284_2, zs_284_3, zs_284_6, zs_284_11, zs_284_12, zs_284_13, zs_284_16, zs_284_17, zs_284_20, zs_284_21, zs_284_22, r0, e1, zbk_v, zts_s, if_neg n10, s0, zmp_24, ← hh2, t0, zmf_15, y12, g12, List.cons_append, List.nil_append]
  have head := (List.cons.inj head).1
  rw [← head]
  rcases hcase with g | g | g | g | g
  · obtain ⟨k, b', nn, ll, rr⟩ := x
    have g : k = nI 99 := g
    subst g
    have eb : b' = nI b := eb
    subst eb
    have e0 : ylf (nI 99, nI b, nn, ll, rr) = nn := by unfold ylf; rw [if_pos rfl]
    rw [e0] at g14
    have hl := yilen_le nn
    obtain ⟨h3, G3, q3, e3, w3, l3, l3', v3, k3⟩ := e_283 (sv := sv) (d := d + 10) (show b < 20 by omega) w2 (by show 0 + 2 ≤ 700; omega)
    have t3 := w3.1
    have y13_3 : h3.1 (m + 13) = X13 := by rw [k3.1 _ (by omega) (by omega), y13]
    have y14_3 : h3.1 (m + 14) = X14 := by rw [k3.1 _ (by omega) (by omega), y14]
    have y15_3 : h3.1 (m + 15) = X15 := by rw [k3.1 _ (by omega) (by omega), y15]
    obtain ⟨h4, G4, q4, e4, w4, l4, l4', v4, k4⟩ := e_280 (sv := sv) (d := d + 12) (c := nI 61) w3 (by simp only [List.length_append, List.length_nil]; omega) e61 c61
    have t4 := w4.1
    have y13_4 : h4.1 (m + 13) = X13 := by rw [k4.1 _ (by omega) (by omega), y13_3]
    have y14_4 : h4.1 (m + 14) = X14 := by rw [k4.1 _ (by omega) (by omega), y14_3]
    have y15_4 : h4.1 (m + 15) = X15 := by rw [k4.1 _ (by omega) (by omega), y15_3]
    obtain ⟨h5, G5, q5, e5, w5, l5, l5', v5, k5⟩ := e_282 (sv := sv) (d := d + 1) (x := nn) w4 (by simp only [List.length_append, List.length_nil]; omega)
    have t5 := w5.1
    have y13_5 : h5.1 (m + 13) = X13 := by rw [k5.1 _ (by omega) (by omega), y13_4]
    have y14_5 : h5.1 (m + 14) = X14 := by rw [k5.1 _ (by omega) (by omega), y14_4]
    have y15_5 : h5.1 (m + 15) = X15 := by rw [k5.1 _ (by omega) (by omega), y15_4]
    have m24 := w5.2.1
    have hlen : ([] ++ q3 ++ q4 ++ q5).length = ywil (nI 99, nI b, nn, ll, rr) := by
      simp only [List.length_append, List.length_nil]
      unfold ywil
      rw [if_pos rfl]
      show 0 + _ + _ + _ = 3 + yilen nn
      omega
    rw [hlen] at m24
    refine zMw_of ?_ f31 a3 a4 a5 a6 k1 w5 (fun j hj => (v5 j hj).trans ((v4 j hj).trans ((v3 j hj).trans (v2 j hj)))) (zow_tr (zow_tr (zow_tr k2 k3) k4) k5) hlen
    simp (disch := first | exact znw_u | exact znw_i) only [zs_284_23, zs_284_24, zs_284_25, zs_284_27, zs_284_42, zs_284_43, zs_284_46, zs_284_47, zs_284_48, zs_284_51, zs_284_52, zs_284_54, zs_284_57, zs_284_58, zs_284_60, zs_284_63, zs_284_64, zs_284_65, zs_284_68, zs_284_69, zs_284_70, zs_284_73, zs_284_167, zs_284_168, zs_284_171, t0, zmf_16, zmf_17, zmf_18, zmf_24, y13, y14, y15, g13, g14, g15, zrc_13v, zbk_v, zts_n, e3, e4, e5, t3, t4, t5, y13_3, y14_3, y15_3, y13_4, y14_4, y15_4, y13_5, y14_5, y15_5, m24, if_neg p1, ↓reduceIte, List.cons_append, List.nil_append]
  · obtain ⟨k, b', nn, ll, rr⟩ := x
    have gl : ylet nn = true := g.2
    have g : k = nI 118 := g.1
    subst g
    have eb : b' = nI b := eb
    subst eb
    have e0 : ylf (nI 118, nI b, nn, ll, rr) = nn - nI 97 := by unfold ylf; rw [if_neg p3, if_pos rfl]
    rw [e0] at g14
    obtain ⟨z1, z2, z3, z4⟩ := ylet_w gl
    obtain ⟨h3, G3, q3, e3, w3, l3, l3', v3, k3⟩ := e_283 (sv := sv) (d := d + 10) (show b < 20 by omega) w2 (by show 0 + 2 ≤ 700; omega)
    have t3 := w3.1
    have y13_3 : h3.1 (m + 13) = X13 := by rw [k3.1 _ (by omega) (by omega), y13]
    have y14_3 : h3.1 (m + 14) = X14 := by rw [k3.1 _ (by omega) (by omega), y14]
    have y15_3 : h3.1 (m + 15) = X15 := by rw [k3.1 _ (by omega) (by omega), y15]
    obtain ⟨h4, G4, q4, e4, w4, l4, l4', v4, k4⟩ := e_280 (sv := sv) (d := d + 12) (c := nI 61) w3 (by simp only [List.length_append, List.length_nil]; omega) e61 c61
    have t4 := w4.1
    have y13_4 : h4.1 (m + 13) = X13 := by rw [k4.1 _ (by omega) (by omega), y13_3]
    have y14_4 : h4.1 (m + 14) = X14 := by rw [k4.1 _ (by omega) (by omega), y14_3]
    have y15_4 : h4.1 (m + 15) = X15 := by rw [k4.1 _ (by omega) (by omega), y15_3]
    obtain ⟨h5, G5, q5, e5, w5, l5, l5', v5, k5⟩ := e_280 (sv := sv) (d := d + 12) (c := nn) w4 (by simp only [List.length_append, List.length_nil]; omega) z3 z4
    have t5 := w5.1
    have y13_5 : h5.1 (m + 13) = X13 := by rw [k5.1 _ (by omega) (by omega), y13_4]
    have y14_5 : h5.1 (m + 14) = X14 := by rw [k5.1 _ (by omega) (by omega), y14_4]
    have y15_5 : h5.1 (m + 15) = X15 := by rw [k5.1 _ (by omega) (by omega), y15_4]
    have m24 := w5.2.1
    have hlen : ([] ++ q3 ++ q4 ++ q5).length = ywil (nI 118, nI b, nn, ll, rr) := by
      simp only [List.length_append, List.length_nil]
      unfold ywil
      rw [if_neg p3, if_pos rfl]
      show 0 + _ + _ + _ = 4
      omega
    rw [hlen] at m24
    refine zMw_of ?_ f31 a3 a4 a5 a6 k1 w5 (fun j hj => (v5 j hj).trans ((v4 j hj).trans ((v3 j hj).trans (v2 j hj)))) (zow_tr (zow_tr (zow_tr k2 k3) k4) k5) hlen
    simp (disch := first | exact znw_u | exact znw_i) only [zs_284_23, zs_284_24, zs_284_25, zs_284_27, zs_284_42, zs_284_43, zs_284_46, zs_284_47, zs_284_48, zs_284_51, zs_284_52, zs_284_54, zs_284_57, zs_284_58, zs_284_60, zs_284_76, zs_284_77, zs_284_79, zs_284_82, zs_284_83, zs_284_85, zs_284_86, zs_284_89, zs_284_90, zs_284_91, zs_284_92, zs_284_93, zs_284_96, zs_284_167, zs_284_168, zs_284_171, t0, zmf_16, zmf_17, zmf_18, zmf_24, y13, y14, y15, g13, g14, g15, zrc_13v, zbk_v, zts_n, e3, e4, e5, t3, t4, t5, y13_3, y14_3, y15_3, y13_4, y14_4, y15_4, y13_5, y14_5, y15_5, m24, if_neg p2, if_neg p3, z1, z2, ↓reduceIte, List.cons_append, List.nil_append]
  · obtain ⟨k, b', nn, ll, rr⟩ := x
    have gl : ll = b' := g.2
    have g : k = nI 110 := g.1
    subst g
    have eb : b' = nI b := eb
    subst eb
    subst gl
    have e0 : ylf (nI 110, nI b, nn, nI b, rr) = nI b := by unfold ylf; rw [if_neg p6, if_neg p7, if_pos rfl]
    rw [e0] at g14
    obtain ⟨h3, G3, q3, e3, w3, l3, l3', v3, k3⟩ := e_283 (sv := sv) (d := d + 10) (show b < 20 by omega) w2 (by show 0 + 2 ≤ 700; omega)
    have t3 := w3.1
    have y13_3 : h3.1 (m + 13) = X13 := by rw [k3.1 _ (by omega) (by omega), y13]
    have y14_3 : h3.1 (m + 14) = X14 := by rw [k3.1 _ (by omega) (by omega), y14]
    have y15_3 : h3.1 (m + 15) = X15 := by rw [k3.1 _ (by omega) (by omega), y15]
    obtain ⟨h4, G4, q4, e4, w4, l4, l4', v4, k4⟩ := e_280 (sv := sv) (d := d + 12) (c := nI 61) w3 (by simp only [List.length_append, List.length_nil]; omega) e61 c61
    have t4 := w4.1
    have y13_4 : h4.1 (m + 13) = X13 := by rw [k4.1 _ (by omega) (by omega), y13_3]
    have y14_4 : h4.1 (m + 14) = X14 := by rw [k4.1 _ (by omega) (by omega), y14_3]
    have y15_4 : h4.1 (m + 15) = X15 := by rw [k4.1 _ (by omega) (by omega), y15_3]
    obtain ⟨h5, G5, q5, e5, w5, l5, l5', v5, k5⟩ := e_280 (sv := sv) (d := d + 12) (c := nI 45) w4 (by simp only [List.length_append, List.length_nil]; omega) e45 c45
    have t5 := w5.1
    have y13_5 : h5.1 (m + 13) = X13 := by rw [k5.1 _ (by omega) (by omega), y13_4]
    have y14_5 : h5.1 (m + 14) = X14 := by rw [k5.1 _ (by omega) (by omega), y14_4]
    have y15_5 : h5.1 (m + 15) = X15 := by rw [k5.1 _ (by omega) (by omega), y15_4]
    obtain ⟨h6, G6, q6, e6, w6, l6, l6', v6, k6⟩ := e_283 (sv := sv) (d := d + 10) (show b < 20 by omega) w5 (by simp only [List.length_append, List.length_nil]; omega)
    have t6 := w6.1
    have y13_6 : h6.1 (m + 13) = X13 := by rw [k6.1 _ (by omega) (by omega), y13_5]
    have y14_6 : h6.1 (m + 14) = X14 := by rw [k6.1 _ (by omega) (by omega), y14_5]
    have y15_6 : h6.1 (m + 15) = X15 := by rw [k6.1 _ (by omega) (by omega), y15_5]
    have m24 := w6.2.1
    have hlen : ([] ++ q3 ++ q4 ++ q5 ++ q6).length = ywil (nI 110, nI b, nn, nI b, rr) := by
      simp only [List.length_append, List.length_nil]
      unfold ywil
      rw [if_neg p6, if_neg p7, if_neg p8, if_pos rfl]
      show 0 + _ + _ + _ + _ = 6
      omega
    rw [hlen] at m24
    refine zMw_of ?_ f31 a3 a4 a5 a6 k1 w6 (fun j hj => (v6 j hj).trans ((v5 j hj).trans ((v4 j hj).trans ((v3 j hj).trans (v2 j hj))))) (zow_tr (zow_tr (zow_tr (zow_tr k2 k3) k4) k5) k6) hlen
    simp (disch := first | exact znw_u | exact znw_i) only [zs_284_23, zs_284_24, zs_284_25, zs_284_27, zs_284_42, zs_284_43, zs_284_46, zs_284_47, zs_284_48, zs_284_51, zs_284_52, zs_284_54, zs_284_57, zs_284_58, zs_284_60, zs_284_76, zs_284_77, zs_284_79, zs_284_99, zs_284_100, zs_284_102, zs_284_118, zs_284_119, zs_284_121, zs_284_124, zs_284_125, zs_284_127, zs_284_130, zs_284_131, zs_284_132, zs_284_135, zs_284_136, zs_284_137, zs_284_140, zs_284_141, zs_284_143, zs_284_151, zs_284_152, zs_284_154, zs_284_167, zs_284_168, zs_284_171, t0, zmf_16, zmf_17, zmf_18, zmf_24, y13, y14, y15, g13, g14, g15, zrc_13v, zbk_v, zts_n, e3, e4, e5, e6, t3, t4, t5, t6, y13_3, y14_3, y15_3, y13_4, y14_4, y15_4, y13_5, y14_5, y15_5, y13_6, y14_6, y15_6, m24, if_neg p6, if_neg p7, if_neg p8, ↓reduceIte, List.cons_append, List.nil_append]
  · obtain ⟨k, b', nn, ll, rr⟩ := x
    obtain ⟨j, hj, ej⟩ := g.2.1
    have g : k = nI 115 := g.1
    subst g
    have eb : b' = nI b := eb
    subst eb
    have ej : nn = nI j := ej
    subst ej
    have e0 : ylf (nI 115, nI b, nI j, ll, rr) = nI j := by unfold ylf; rw [if_neg p4, if_neg p5, if_neg (Ne.symm p8), if_pos rfl]
    rw [e0] at g14
    obtain ⟨h3, G3, q3, e3, w3, l3, l3', v3, k3⟩ := e_283 (sv := sv) (d := d + 10) (show 10 + j < 20 by omega) w2 (by show 0 + 2 ≤ 700; omega)
    have t3 := w3.1
    have y13_3 : h3.1 (m + 13) = X13 := by rw [k3.1 _ (by omega) (by omega), y13]
    have y14_3 : h3.1 (m + 14) = X14 := by rw [k3.1 _ (by omega) (by omega), y14]
    have y15_3 : h3.1 (m + 15) = X15 := by rw [k3.1 _ (by omega) (by omega), y15]
    obtain ⟨h4, G4, q4, e4, w4, l4, l4', v4, k4⟩ := e_280 (sv := sv) (d := d + 12) (c := nI 61) w3 (by simp only [List.length_append, List.length_nil]; omega) e61 c61
    have t4 := w4.1
    have y13_4 : h4.1 (m + 13) = X13 := by rw [k4.1 _ (by omega) (by omega), y13_3]
    have y14_4 : h4.1 (m + 14) = X14 := by rw [k4.1 _ (by omega) (by omega), y14_3]
    have y15_4 : h4.1 (m + 15) = X15 := by rw [k4.1 _ (by omega) (by omega), y15_3]
    obtain ⟨h5, G5, q5, e5, w5, l5, l5', v5, k5⟩ := e_283 (sv := sv) (d := d + 10) (show b < 20 by omega) w4 (by simp only [List.length_append, List.length_nil]; omega)
    have t5 := w5.1
    have y13_5 : h5.1 (m + 13) = X13 := by rw [k5.1 _ (by omega) (by omega), y13_4]
    have y14_5 : h5.1 (m + 14) = X14 := by rw [k5.1 _ (by omega) (by omega), y14_4]
    have y15_5 : h5.1 (m + 15) = X15 := by rw [k5.1 _ (by omega) (by omega), y15_4]
    have m24 := w5.2.1
    have hlen : ([] ++ q3 ++ q4 ++ q5).length = ywil (nI 115, nI b, nI j, ll, rr) := by
      simp only [List.length_append, List.length_nil]
      unfold ywil
      rw [if_neg p4, if_neg p5, if_pos rfl]
      show 0 + _ + _ + _ = 5
      omega
    rw [hlen] at m24
    refine zMw_of ?_ f31 a3 a4 a5 a6 k1 w5 (fun j hj => (v5 j hj).trans ((v4 j hj).trans ((v3 j hj).trans (v2 j hj)))) (zow_tr (zow_tr (zow_tr k2 k3) k4) k5) hlen
    simp (disch := first | exact znw_u | exact znw_i) only [zs_284_23, zs_284_24, zs_284_25, zs_284_27, zs_284_30, zs_284_32, zs_284_33, zs_284_36, zs_284_37, zs_284_38, zs_284_39, zs_284_48, zs_284_51, zs_284_52, zs_284_54, zs_284_57, zs_284_58, zs_284_60, zs_284_76, zs_284_77, zs_284_79, zs_284_99, zs_284_100, zs_284_102, zs_284_105, zs_284_106, zs_284_107, zs_284_110, zs_284_111, zs_284_112, zs_284_115, zs_284_167, zs_284_168, zs_284_171, t0, zmf_16, zmf_17, zmf_18, zmf_24, y13, y14, y15, g13, g14, g15, zrc_13v, zbk_v, zts_n, e3, e4, e5, t3, t4, t5, y13_3, y14_3, y15_3, y13_4, y14_4, y15_4, y13_5, y14_5, y15_5, m24, if_neg p4, if_neg p5, nI_add, ↓reduceIte, List.cons_append, List.nil_append]
  · obtain ⟨k, b', nn, ll, rr⟩ := x
    obtain ⟨gk, ⟨xx, hxx, exx⟩, ⟨yy, hyy, eyy⟩⟩ := g
    have gk : yis k = true := gk
    have exx : ll = nI xx := exx
    have eyy : rr = nI yy := eyy
    subst exx eyy
    have eb : b' = nI b := eb
    subst eb
    obtain ⟨u1, u2, u3, u4⟩ := yis_ne gk
    have e0 : ylf (k, nI b, nn, nI xx, nI yy) = ypl (nI xx) := by unfold ylf; rw [if_neg u1, if_neg u2, if_neg u3, if_neg u4]
    have e0' : yrt (k, nI b, nn, nI xx, nI yy) = ypl (nI yy) := by unfold yrt; rw [if_pos gk]
    obtain ⟨kx, hkx, ekx⟩ := ypl_lt xx hxx
    obtain ⟨ky, hky, eky⟩ := ypl_lt yy hyy
    rw [e0, ekx] at g14
    rw [e0', eky] at g15
    obtain ⟨h3, G3, q3, e3, w3, l3, l3', v3, k3⟩ := e_283 (sv := sv) (d := d + 10) (show b < 20 by omega) w2 (by show 0 + 2 ≤ 700; omega)
    have t3 := w3.1
    have y13_3 : h3.1 (m + 13) = X13 := by rw [k3.1 _ (by omega) (by omega), y13]
    have y14_3 : h3.1 (m + 14) = X14 := by rw [k3.1 _ (by omega) (by omega), y14]
    have y15_3 : h3.1 (m + 15) = X15 := by rw [k3.1 _ (by omega) (by omega), y15]
    obtain ⟨h4, G4, q4, e4, w4, l4, l4', v4, k4⟩ := e_280 (sv := sv) (d := d + 12) (c := nI 61) w3 (by simp only [List.length_append, List.length_nil]; omega) e61 c61
    have t4 := w4.1
    have y13_4 : h4.1 (m + 13) = X13 := by rw [k4.1 _ (by omega) (by omega), y13_3]
    have y14_4 : h4.1 (m + 14) = X14 := by rw [k4.1 _ (by omega) (by omega), y14_3]
    have y15_4 : h4.1 (m + 15) = X15 := by rw [k4.1 _ (by omega) (by omega), y15_3]
    obtain ⟨h5, G5, q5, e5, w5, l5, l5', v5, k5⟩ := e_283 (sv := sv) (d := d + 10) hkx w4 (by simp only [List.length_append, List.length_nil]; omega)
    have t5 := w5.1
    have y13_5 : h5.1 (m + 13) = X13 := by rw [k5.1 _ (by omega) (by omega), y13_4]
    have y14_5 : h5.1 (m + 14) = X14 := by rw [k5.1 _ (by omega) (by omega), y14_4]
    have y15_5 : h5.1 (m + 15) = X15 := by rw [k5.1 _ (by omega) (by omega), y15_4]
    obtain ⟨h6, G6, q6, e6, w6, l6, l6', v6, k6⟩ := e_280 (sv := sv) (d := d + 12) (c := k) w5 (by simp only [List.length_append, List.length_nil]; omega) (yis_nr gk) (yis_w gk)
    have t6 := w6.1
    have y13_6 : h6.1 (m + 13) = X13 := by rw [k6.1 _ (by omega) (by omega), y13_5]
    have y14_6 : h6.1 (m + 14) = X14 := by rw [k6.1 _ (by omega) (by omega), y14_5]
    have y15_6 : h6.1 (m + 15) = X15 := by rw [k6.1 _ (by omega) (by omega), y15_5]
    obtain ⟨h7, G7, q7, e7, w7, l7, l7', v7, k7⟩ := e_283 (sv := sv) (d := d + 10) hky w6 (by simp only [List.length_append, List.length_nil]; omega)
    have t7 := w7.1
    have y13_7 : h7.1 (m + 13) = X13 := by rw [k7.1 _ (by omega) (by omega), y13_6]
    have y14_7 : h7.1 (m + 14) = X14 := by rw [k7.1 _ (by omega) (by omega), y14_6]
    have y15_7 : h7.1 (m + 15) = X15 := by rw [k7.1 _ (by omega) (by omega), y15_6]
    have m24 := w7.2.1
    have hlen : ([] ++ q3 ++ q4 ++ q5 ++ q6 ++ q7).length = ywil (k, nI b, nn, nI xx, nI yy) := by
      simp only [List.length_append, List.length_nil]
      unfold ywil
      rw [if_neg u1, if_neg u2, if_neg u4, if_neg u3]
      show 0 + _ + _ + _ + _ + _ = 8
      omega
    rw [hlen] at m24
    refine zMw_of ?_ f31 a3 a4 a5 a6 k1 w7 (fun j hj => (v7 j hj).trans ((v6 j hj).trans ((v5 j hj).trans ((v4 j hj).trans ((v3 j hj).trans (v2 j hj)))))) (zow_tr (zow_tr (zow_tr (zow_tr (zow_tr k2 k3) k4) k5) k6) k7) hlen
    simp (disch := first | exact znw_u | exact znw_i) only [zs_284_23, zs_284_24, zs_284_25, zs_284_27, zs_284_42, zs_284_43, zs_284_46, zs_284_47, zs_284_48, zs_284_51, zs_284_52, zs_284_54, zs_284_57, zs_284_58, zs_284_60, zs_284_76, zs_284_77, zs_284_79, zs_284_99, zs_284_100, zs_284_102, zs_284_118, zs_284_119, zs_284_121, zs_284_130, zs_284_131, zs_284_132, zs_284_135, zs_284_136, zs_284_137, zs_284_140, zs_284_141, zs_284_143, zs_284_146, zs_284_147, zs_284_148, zs_284_151, zs_284_152, zs_284_154, zs_284_157, zs_284_158, zs_284_159, zs_284_162, zs_284_163, zs_284_164, zs_284_167, zs_284_168, zs_284_171, t0, zmf_16, zmf_17, zmf_18, zmf_24, y13, y14, y15, g13, g14, g15, zrc_13v, zbk_v, zts_n, e3, e4, e5, e6, e7, t3, t4, t5, t6, t7, y13_3, y14_3, y15_3, y13_4, y14_4, y15_4, y13_5, y14_5, y15_5, y13_6, y14_6, y15_6, y13_7, y14_7, y15_7, m24, if_neg u1, if_neg u2, if_neg u3, if_neg u4, ↓reduceIte, List.cons_append, List.nil_append]
end ZQW

section ZQX
variable {sv : Nat → Value} {d : Nat} {m : Nat}
def yow (k : Int32) : Int32 := if k = nI 43 then nI 1 else if k = nI 45 then nI 1 else if k = nI 42 then nI 2 else nI 3
theorem e_285a {p : yP} {n D : Nat} {k v lev : Int32} {h : zH} {F : Nat → Int32} {o : List Int32} (hl : zLst h (m + 5) (m + 6) p) (hi : p[n]? = some (k, v)) (hw : zWr h m F o) (ho : o.length < 700) : ∃ (h1 : zH) (G : Nat → Int32) (q : List Int32), zrun zP sv (zcall zP sv (D + 1)) 285 0 [.val (.ref m), .val (.int (nI n)), .val (.int lev), .unset, .unset, .unset] [] h = zrun zP sv (zcall zP sv (D + 1)) 285 53 [.val (.ref m), .val (.int (nI n)), .val (.int lev), .val (.int k), .val (.int (yow k)), .val (.int (nI (n + 1)))] [] h1 ∧ zWr h1 m G (o ++ q) ∧ q.length ≤ 1 ∧ (∀ j, j ≠ 24 → G j = F j) ∧ zow m h h1 := by
  obtain ⟨A, B, a1, a2, a3, a4, a5⟩ := e_look hl hi
  have m0 := hw.1
  have e40 : ynr (nI 40) = nI 40 := by decide +kernel
  have c40 : ychr (nI 40) := by show zty 7 (.int (nI 40)) = true; decide +kernel
  obtain ⟨own, hown⟩ : ∃ own, own = yow k := ⟨_, rfl⟩
  have s1 : zrun zP sv (zcall zP sv (D + 1)) 285 0 [.val (.ref m), .val (.int (nI n)), .val (.int lev), .unset, .unset, .unset] [] h = zrun zP sv (zcall zP sv (D + 1)) 285 36 [.val (.ref m), .val (.int (nI n)), .val (.int lev), .val (.int k), .val (.int own), .unset] [] h := by
    rw [hown]
    unfold yow
    by_cases q1 : k = nI 43
    · rw [if_pos q1]
      simp (disch := first | exact znw_u | exact znw_i) only [zs_285_0, zs_285_1, zs_285_4, zs_285_5, zs_285_6, zs_285_7, zs_285_8, zs_285_10, zs_285_19, zs_285_20, zs_285_34, m0, zmf_6, a1, a3, if_pos q1]
    · rw [if_neg q1]
      by_cases q2 : k = nI 45
      · rw [if_pos q2]
        simp (disch := first | exact znw_u | exact znw_i) only [zs_285_0, zs_285_1, zs_285_4, zs_285_5, zs_285_6, zs_285_7, zs_285_8, zs_285_10, zs_285_13, zs_285_14, zs_285_16, zs_285_19, zs_285_20, zs_285_34, m0, zmf_6, a1, a3, if_neg q1, if_pos q2]
      · rw [if_neg q2]
        by_cases q3 : k = nI 42
        · rw [if_pos q3]
          simp (disch := first | exact znw_u | exact znw_i) only [zs_285_0, zs_285_1, zs_285_4, zs_285_5, zs_285_6, zs_285_7, zs_285_8, zs_285_10, zs_285_13, zs_285_14, zs_285_16, zs_285_23, zs_285_24, zs_285_26, zs_285_29, zs_285_30, zs_285_34, m0, zmf_6, a1, a3, if_neg q1, if_neg q2, if_pos q3]
        · rw [if_neg q3]
          simp (disch := first | exact znw_u | exact znw_i) only [zs_285_0, zs_285_1, zs_285_4, zs_285_5, zs_285_6, zs_285_7, zs_285_8, zs_285_10, zs_285_13, zs_285_14, zs_285_16, zs_285_23, zs_285_24, zs_285_26, zs_285_33, zs_285_34, m0, zmf_6, a1, a3, if_neg q1, if_neg q2, if_neg q3]
  rw [s1, ← hown]
  by_cases c : own < lev
  · obtain ⟨h1, G, q, e1, w1, l1, l2, g1, k1⟩ := e_280 (sv := sv) (d := D) (c := nI 40) hw ho e40 c40
    refine ⟨h1, G, q, ?_, w1, l2, g1, k1⟩
    simp (disch := first | exact znw_u | exact znw_i) only [zs_285_36, zs_285_38, zs_285_39, zs_285_42, zs_285_43, zs_285_45, zs_285_48, zs_285_49, zs_285_50, zs_285_51, if_pos c, m0, zrc_13v, e1, zbk_v, zts_n, nI_1', List.cons_append, List.nil_append]
  · refine ⟨h, F, [], ?_, by rw [List.append_nil]; exact hw, Nat.zero_le _, fun _ _ => rfl, zow_rfl⟩
    simp (disch := first | exact znw_u | exact znw_i) only [zs_285_36, zs_285_38, zs_285_39, zs_285_48, zs_285_49, zs_285_50, zs_285_51, if_neg c, nI_1']
theorem e_285c {D : Nat} {own lev y : Int32} {l1 l3 : Slot} {h : zH} {F : Nat → Int32} {o : List Int32} (hw : zWr h m F o) (ho : o.length < 700) : zAp m F o 0 1 h (zrun zP sv (zcall zP sv (D + 1)) 285 146 [.val (.ref m), l1, .val (.int lev), l3, .val (.int own), .val (.int y)] [] h) (some (.int y)) := by
  have m0 := hw.1
  have e41 : ynr (nI 41) = nI 41 := by decide +kernel
  have c41 : ychr (nI 41) := by show zty 7 (.int (nI 41)) = true; decide +kernel
  by_cases c : own < lev
  · obtain ⟨h1, G, q, e1, w1, l1, l2, g1, k1⟩ := e_280 (sv := sv) (d := D) (c := nI 41) hw ho e41 c41
    refine ⟨h1, G, q, ?_, w1, Nat.zero_le _, l2, g1, k1⟩
    simp (disch := first | exact znw_u | exact znw_i) only [zs_285_146, zs_285_148, zs_285_149, zs_285_152, zs_285_153, zs_285_155, zs_285_158, zs_285_160, if_pos c, m0, zrc_13v, e1, zbk_v, zts_n, List.cons_append, List.nil_append]
  · refine ⟨h, F, [], ?_, by rw [List.append_nil]; exact hw, Nat.zero_le _, Nat.zero_le _, fun _ _ => rfl, zow_rfl⟩
    simp (disch := first | exact znw_u | exact znw_i) only [zs_285_146, zs_285_148, zs_285_149, zs_285_158, zs_285_160, if_neg c]
theorem e_285 {p : yP} : ∀ (n : Nat) (t : yT), ysz t ≤ n → ytw t = true → ∀ (pre post : yP) (D : Nat) (lev : Int32) (h : zH) (F : Nat → Int32) (o : List Int32), ydp t + 12 ≤ D → p = pre ++ ypr t ++ post → zLst h (m + 5) (m + 6) p → zWr h m F o → o.length + 13 * ysz t ≤ 700 → zAp m F o 0 (13 * ysz t) h (zcall zP sv D 285 [.ref m, .int (nI pre.length), .int lev] h) (some (.int (nI (pre.length + ysz t))))
  | 0, t, hn, ht, pre, post, D, lev, h, F, o, hD, hp, hl, hw, ho => by
    have := ytw_sz ht
    omega
  | n + 1, .leaf, hn, ht, pre, post, D, lev, h, F, o, hD, hp, hl, hw, ho => by cases ht
  | n + 1, .inner z k v l r, hn, ht, pre, post, D, lev, h, F, o, hD, hp, hl, hw, ho => by
    have hn' : ysz l + ysz r + 1 ≤ n + 1 := hn
    have hD' : max (ydp l) (ydp r) + 1 + 12 ≤ D := hD
    have ho' : o.length + 13 * (ysz l + ysz r + 1) ≤ 700 := ho
    obtain ⟨D, rfl⟩ : ∃ D', D = D' + 13 := ⟨D - 13, by omega⟩
    have e0 : p = pre ++ (k, yva k v) :: (ypr l ++ ypr r ++ post) := by
      rw [hp]
      show pre ++ (k, yva k v) :: (ypr l ++ ypr r) ++ post = _
      rw [List.append_assoc]; rfl
    have hi : p[pre.length]? = some (k, yva k v) := by
      rw [e0, List.getElem?_append_right (Nat.le_refl _), Nat.sub_self]; rfl
    obtain ⟨h1, G1, q1, e1, w1, b1, v1, k1⟩ := e_285a (sv := sv) (m := m) (D := D + 11) (lev := lev) hl hi hw (by omega)
    have hl1 : zLst h1 (m + 5) (m + 6) p := zLst_cg hl (k1.1 _ (by omega) (by omega)) (k1.1 _ (by omega) (by omega))
    have m1 := w1.1
    obtain ⟨A, B, a1, a2, a3, a4, a5⟩ := e_look hl1 hi
    have hlen1 : (o ++ q1).length = o.length + q1.length := List.length_append
    have sz : ysz (.inner z k v l r) = ysz l + ysz r + 1 := rfl
    have p3 : ¬ nI 118 = nI 99 := by decide +kernel
    have p6 : ¬ nI 110 = nI 99 := by decide +kernel
    have p7 : ¬ nI 110 = nI 118 := by decide +kernel
    have e45 : ynr (nI 45) = nI 45 := by decide +kernel
    have c45 : ychr (nI 45) := by show zty 7 (.int (nI 45)) = true; decide +kernel
    rw [zc_285, e1]
    rcases ytw_el ht with g0 | g0 | g0 | g0
    · obtain ⟨g1, g2, g3⟩ := g0
      subst g1 g2 g3
      have ev : yva (nI 99) v = v := by unfold yva; rw [if_neg (Ne.symm p3)]
      rw [ev] at a4
      have hy := yilen_le v
      obtain ⟨h2, G2, q2, e2, w2, _, b2, v2, k2⟩ := e_282 (sv := sv) (d := D) (x := v) w1 (by omega)
      obtain ⟨h3, G3, q3, e3, w3, _, b3, v3, k3⟩ := e_285c (sv := sv) (D := D + 11) (own := yow (nI 99)) (lev := lev) (y := nI (pre.length + 1)) (l1 := .val (.int (nI pre.length))) (l3 := .val (.int (nI 99))) w2 (by rw [List.length_append]; omega)
      refine ⟨h3, G3, q1 ++ q2 ++ q3, ?_, by rw [← List.append_assoc, ← List.append_assoc]; exact w3, Nat.zero_le _, by rw [List.length_append, List.length_append]; show _ ≤ 13 * (0 + 0 + 1); omega, fun j hj => (v3 j hj).trans ((v2 j hj).trans (v1 j hj)), zow_tr k1 (zow_tr k2 k3)⟩
      show _ = some (Sum.inl (some (Value.int (nI (pre.length + 1)))), h3)
      rw [← e3]
      simp (disch := first | exact znw_u | exact znw_i) only [zs_285_53, zs_285_54, zs_285_56, zs_285_59, zs_285_60, zs_285_61, zs_285_64, zs_285_65, zs_285_66, zs_285_69, m1, zmf_7, a2, a4, zrc_13v, e2, zbk_v, zts_n, ↓reduceIte, List.cons_append, List.nil_append]
    · obtain ⟨g1, gl, g2, g3⟩ := g0
      subst g1 g2 g3
      have ev : yva (nI 118) v = v - nI 97 := by unfold yva; rw [if_pos rfl]
      rw [ev] at a4
      obtain ⟨z1, z2, z3, z4⟩ := ylet_w gl
      obtain ⟨h2, G2, q2, e2, w2, _, b2, v2, k2⟩ := e_280 (sv := sv) (d := D + 11) (c := v) w1 (by omega) z3 z4
      obtain ⟨h3, G3, q3, e3, w3, _, b3, v3, k3⟩ := e_285c (sv := sv) (D := D + 11) (own := yow (nI 118)) (lev := lev) (y := nI (pre.length + 1)) (l1 := .val (.int (nI pre.length))) (l3 := .val (.int (nI 118))) w2 (by rw [List.length_append]; omega)
      refine ⟨h3, G3, q1 ++ q2 ++ q3, ?_, by rw [← List.append_assoc, ← List.append_assoc]; exact w3, Nat.zero_le _, by rw [List.length_append, List.length_append]; show _ ≤ 13 * (0 + 0 + 1); omega, fun j hj => (v3 j hj).trans ((v2 j hj).trans (v1 j hj)), zow_tr k1 (zow_tr k2 k3)⟩
      show _ = some (Sum.inl (some (Value.int (nI (pre.length + 1)))), h3)
      rw [← e3]
      simp (disch := first | exact znw_u | exact znw_i) only [zs_285_53, zs_285_54, zs_285_56, zs_285_72, zs_285_73, zs_285_75, zs_285_78, zs_285_79, zs_285_81, zs_285_82, zs_285_85, zs_285_86, zs_285_87, zs_285_88, zs_285_89, zs_285_92, if_neg p3, m1, zmf_7, a2, a4, z1, z2, zrc_13v, e2, zbk_v, zts_n, ↓reduceIte, List.cons_append, List.nil_append]
    · obtain ⟨g1, gv, g2, g3⟩ := g0
      subst g1 gv g3
      have hD3 : max (ydp l) 0 + 1 + 12 ≤ D + 13 := hD'
      have ho3 : o.length + 13 * (ysz l + 0 + 1) ≤ 700 := ho'
      have hn3 : ysz l + 0 + 1 ≤ n + 1 := hn'
      have l1 : (pre ++ [(nI 110, yva (nI 110) 0)]).length = pre.length + 1 := List.length_append
      obtain ⟨h2, G2, q2, e2, w2, _, b2, v2, k2⟩ := e_280 (sv := sv) (d := D + 11) (c := nI 45) w1 (by omega) e45 c45
      have hl2 : zLst h2 (m + 5) (m + 6) p := zLst_cg hl1 (k2.1 _ (by omega) (by omega)) (k2.1 _ (by omega) (by omega))
      have m2 := w2.1
      obtain ⟨h3, G3, q3, e3, w3, _, b3, v3, k3⟩ := e_285 (p := p) n l (by omega) g2 (pre ++ [(nI 110, yva (nI 110) 0)]) post (D + 12) (nI 3) h2 G2 (o ++ q1 ++ q2) (by omega) (by rw [e0]; simp only [List.append_assoc, List.cons_append, List.nil_append, ypr]) hl2 w2 (by rw [List.length_append]; omega)
      rw [l1] at e3
      obtain ⟨h4, G4, q4, e4, w4, _, b4, v4, k4⟩ := e_285c (sv := sv) (D := D + 11) (own := yow (nI 110)) (lev := lev) (y := nI (pre.length + 1 + ysz l)) (l1 := .val (.int (nI pre.length))) (l3 := .val (.int (nI 110))) w3 (by rw [List.length_append, List.length_append]; omega)
      refine ⟨h4, G4, q1 ++ q2 ++ q3 ++ q4, ?_, by rw [← List.append_assoc, ← List.append_assoc, ← List.append_assoc]; exact w4, Nat.zero_le _, by rw [List.length_append, List.length_append, List.length_append]; show _ ≤ 13 * (ysz l + 0 + 1); omega, fun j hj => (v4 j hj).trans ((v3 j hj).trans ((v2 j hj).trans (v1 j hj))), zow_tr k1 (zow_tr k2 (zow_tr k3 k4))⟩
      rw [show pre.length + ysz (.inner z (nI 110) 0 l .leaf) = pre.length + 1 + ysz l by show pre.length + (ysz l + 0 + 1) = _; omega, ← e4]
      simp (disch := first | exact znw_u | exact znw_i) only [zs_285_53, zs_285_54, zs_285_56, zs_285_72, zs_285_73, zs_285_75, zs_285_95, zs_285_96, zs_285_98, zs_285_101, zs_285_102, zs_285_104, zs_285_107, zs_285_108, zs_285_110, zs_285_111, zs_285_114, zs_285_116, if_neg p6, if_neg p7, m1, m2, zrc_13v, e2, e3, zbk_v, zts_n, zts_s, ↓reduceIte, List.cons_append, List.nil_append]
    · obtain ⟨gk, gv, g2, g3⟩ := g0
      subst gv
      obtain ⟨u1, u2, u3, u4⟩ := yis_ne gk
      have l1 : (pre ++ [(k, yva k 0)]).length = pre.length + 1 := List.length_append
      have l2 : (pre ++ [(k, yva k 0)] ++ ypr l).length = pre.length + 1 + ysz l := by rw [List.length_append, l1, ypr_len]
      have epl : p = (pre ++ [(k, yva k 0)]) ++ ypr l ++ (ypr r ++ post) := by rw [e0]; simp only [List.append_assoc, List.cons_append, List.nil_append]
      have epr : p = (pre ++ [(k, yva k 0)] ++ ypr l) ++ ypr r ++ post := by rw [e0]; simp only [List.append_assoc, List.cons_append, List.nil_append]
      have hlz := ytw_sz g2
      have hrz := ytw_sz g3
      obtain ⟨h2, G2, q2, e2, w2, _, b2, v2, k2⟩ := e_285 (p := p) n l (by omega) g2 _ _ (D + 12) (yow k) h1 G1 (o ++ q1) (by omega) epl hl1 w1 (by omega)
      rw [l1] at e2
      have hl2 : zLst h2 (m + 5) (m + 6) p := zLst_cg hl1 (k2.1 _ (by omega) (by omega)) (k2.1 _ (by omega) (by omega))
      have m2 := w2.1
      obtain ⟨h3, G3, q3, e3, w3, _, b3, v3, k3⟩ := e_280 (sv := sv) (d := D + 11) (c := k) w2 (by rw [List.length_append]; omega) (yis_nr gk) (yis_w gk)
      have hl3 : zLst h3 (m + 5) (m + 6) p := zLst_cg hl2 (k3.1 _ (by omega) (by omega)) (k3.1 _ (by omega) (by omega))
      have m3 := w3.1
      obtain ⟨h4, G4, q4, e4, w4, _, b4, v4, k4⟩ := e_285 (p := p) n r (by omega) g3 _ _ (D + 12) (yow k + nI 1) h3 G3 (o ++ q1 ++ q2 ++ q3) (by omega) epr hl3 w3 (by rw [List.length_append, List.length_append]; omega)
      rw [l2] at e4
      obtain ⟨h5, G5, q5, e5, w5, _, b5, v5, k5⟩ := e_285c (sv := sv) (D := D + 11) (own := yow k) (lev := lev) (y := nI (pre.length + 1 + ysz l + ysz r)) (l1 := .val (.int (nI pre.length))) (l3 := .val (.int k)) w4 (by rw [List.length_append, List.length_append, List.length_append]; omega)
      refine ⟨h5, G5, q1 ++ q2 ++ q3 ++ q4 ++ q5, ?_, by rw [← List.append_assoc, ← List.append_assoc, ← List.append_assoc, ← List.append_assoc]; exact w5, Nat.zero_le _, by rw [List.length_append, List.length_append, List.length_append, List.length_append]; show _ ≤ 13 * (ysz l + ysz r + 1); omega, fun j hj => (v5 j hj).trans ((v4 j hj).trans ((v3 j hj).trans ((v2 j hj).trans (v1 j hj)))), zow_tr k1 (zow_tr k2 (zow_tr k3 (zow_tr k4 k5)))⟩
      rw [show pre.length + ysz (.inner z k 0 l r) = pre.length + 1 + ysz l + ysz r by show pre.length + (ysz l + ysz r + 1) = _; omega, ← e5]
      simp (disch := first | exact znw_u | exact znw_i) only [zs_285_53, zs_285_54, zs_285_56, zs_285_72, zs_285_73, zs_285_75, zs_285_95, zs_285_96, zs_285_98, zs_285_119, zs_285_120, zs_285_122, zs_285_124, zs_285_127, zs_285_129, zs_285_130, zs_285_131, zs_285_134, zs_285_135, zs_285_137, zs_285_139, zs_285_140, zs_285_141, zs_285_144, if_neg u1, if_neg u2, if_neg u3, m1, m2, m3, zrc_13v, e2, e3, e4, zbk_v, zts_n, zts_s, ↓reduceIte, List.cons_append, List.nil_append]
/-- the length that a writing call answers, where it isn't compared -/
def zMu (m : Nat) (h : zH) (r : zR) (w : yW) : Prop := ∃ n, n ≤ 700 ∧ zMw m h r n w
theorem e_286x {h : zH} {w : yW} {th x : Int32} (hM : zMdl h m w th) (hx : yinF (ycur w) x = false) : zMC m h (zcall zP sv (d + 7) 286 [.ref m, .int x] h) 0 w (nI 1) := by
  obtain ⟨h1, e1, m1, k1⟩ := e_252x (sv := sv) (d := d) hM hx
  have r0 : ∀ X : zR, zrc (h.1 m) 13 X = X := fun X => zMdl_rc hM
  refine ⟨h1, ?_, m1, k1⟩
  simp only [zc_286, zs_286_0, zs_286_1, zs_286_2, zs_286_5, zs_286_8, zs_286_9, r0, e1, zbk_v, zts_s, ↓reduceIte, List.cons_append, List.nil_append]
theorem e_286 {h : zH} {w : yW} {th : Int32} {i : Nat} {t : yT} (hM : zMdl h m w th) (hi : (ycur w).1[i]? = some t) : zMu m h (zcall zP sv (d + 21) 286 [.ref m, .int (nI i)] h) w := by
  obtain ⟨h1, e1, m1, k1⟩ := e_252 (sv := sv) (d := d + 14) hM hi
  have r0 : ∀ X : zR, zrc (h.1 m) 13 X = X := fun X => zMdl_rc hM
  obtain ⟨F1, f31, f8, l5, a3, a4, a5, a6, tk⟩ := m1
  have s0 : h1.1 m = (13, zMF m F1) := a3.1
  obtain ⟨h2, hh2⟩ : ∃ h2, h2 = zup h1 m (13, zMF m (yup F1 24 0)) := ⟨_, rfl⟩
  obtain ⟨_, _, _, ⟨B, b1, b2, b3, b4⟩, _⟩ := id a5
  have w2 : zWr h2 m (yup F1 24 0) [] := ⟨by rw [hh2, zup_at], yup_eq, ⟨B, by rw [hh2, zup_ne (by omega), b1], b2, rfl, Nat.zero_le _⟩, fun x hx => by cases hx⟩
  have f2 : ∀ a, a ≠ m → a ≠ m + 16 → h2.1 a = h1.1 a := fun a a1 _ => by rw [hh2, zup_ne a1]
  have k2 : zow m h1 h2 := ⟨f2, by rw [hh2]; rfl⟩
  have t0 := w2.1
  have tk2 := tk.2.1
  have tk3 := tk.2.2
  obtain ⟨h3, G3, q3, e3, w3, _, b3', v3, k3⟩ := e_285 (sv := sv) (m := m) (p := ypr t) (ysz t) t (Nat.le_refl _) tk.1 [] [] (d + 20) (nI 1) h2 _ [] (by omega) (by rw [List.nil_append, List.append_nil]) (zLst_cg l5 (f2 _ (by omega) (by omega)) (f2 _ (by omega) (by omega))) w2 (by show 0 + 13 * ysz t ≤ 700; omega)
  rw [List.length_nil, nI_0] at e3
  have m24 := w3.2.1
  have m3 := w3.1
  have n10 : ¬ nI 1 = 0 := by decide +kernel
  refine ⟨_, ?_, zMw_of (n := ([] ++ q3).length) ?_ f31 a3 a4 a5 a6 k1 w3 (fun j hj => (v3 j hj).trans (yup_ne hj)) (zow_tr k2 k3) rfl⟩
  · show ([] ++ q3).length ≤ 700
    rw [List.nil_append]; omega
  · simp (disch := first | exact znw_u | exact znw_i) only [zc_286, zs_286_0, zs_286_1, zs_286_2, zs_286_5, zs_286_10, zs_286_11, zs_286_12, zs_286_15, zs_286_16, zs_286_17, zs_286_18, zs_286_21, zs_286_22, zs_286_23, zs_286_26, r0, e1, if_neg n10, s0, zmp_24, ← hh2, t0, zrc_13v, e3, m3, zmf_24, m24, zbk_v, zts_s, List.cons_append, List.nil_append]
/-- outputChar -/
def yinO (o : List Int32) (x : Int32) : Bool := decide (¬ x < 0) && decide (¬ nI o.length - nI 1 < x)
theorem e_287x {h : zH} {w : yW} {th x : Int32} (hM : zMdl h m w th) (hx : yinO (yout w) x = false) : zMC m h (zcall zP sv (d + 2) 287 [.ref m, .int x] h) (nI 97) w (nI 1) := by
  obtain ⟨F, g, q1, q2, _, _, hR, _⟩ := zMdl_31 (x := nI 1) hM
  have r24 := hR.1.2.2.1
  have E : zcall zP sv (d + 1) 199 [.int x, .int 0, .int (nI (yout w).length - nI 1)] h = some (.inl (some (.int (yb (yinO (yout w) x)))), h) := e_199 (d := d)
  rw [hx, yb_f] at E
  have n10 : ¬ nI 1 = 0 := by decide +kernel
  have z7 : zty 7 (.int (nI 97)) = true := by decide +kernel
  refine ⟨_, ?_, q1, q2⟩
  simp (disch := first | exact znw_u | exact znw_i) only [zc_287, zs_287_0, zs_287_1, zs_287_2, zs_287_3, zs_287_4, zs_287_7, zs_287_8, zs_287_9, zs_287_12, zs_287_19, zs_287_20, zs_287_23, zs_287_24, zs_287_27, zs_287_39, zs_287_41, g, zmf_24, r24, E, zbk_v, zts_s, zmp_31, zup_at, zmf_31, yup_eq, if_neg n10, z7, zgd_t, ↓reduceIte, List.cons_append, List.nil_append]
theorem e_287 {h : zH} {w : yW} {th c : Int32} {n : Nat} (hM : zMdl h m w th) (hx : yinO (yout w) (nI n) = true) (hn : (yout w)[n]? = some c) (hc : ychr c) : zMC m h (zcall zP sv (d + 2) 287 [.ref m, .int (nI n)] h) c w 0 := by
  obtain ⟨F, g, q1, q2, _, _, hR, _⟩ := zMdl_31 (x := 0) hM
  have r24 := hR.1.2.2.1
  obtain ⟨_, _, _, ⟨B, b1, b2, b3, b4⟩, _⟩ := hR
  have E : zcall zP sv (d + 1) 199 [.int (nI n), .int 0, .int (nI (yout w).length - nI 1)] h = some (.inl (some (.int (yb (yinO (yout w) (nI n))))), h) := e_199 (d := d)
  rw [hx, yb_t] at E
  have n10 : ¬ nI 1 = 0 := by decide +kernel
  have hnl := (List.getElem?_eq_some_iff.mp hn).1
  have g1 : ∀ Kv, zael (21, B.map Value.int) 21 (nI n) Kv = Kv (.int c) := fun Kv => zaelv (by rw [List.getElem?_map, ytk_at b3 hn]; rfl) (by omega)
  have hc' : zty 7 (.int c) = true := hc
  refine ⟨_, ?_, q1, q2⟩
  simp (disch := first | exact znw_u | exact znw_i | omega) only [zc_287, zs_287_0, zs_287_1, zs_287_2, zs_287_3, zs_287_4, zs_287_7, zs_287_8, zs_287_9, zs_287_12, zs_287_15, zs_287_16, zs_287_20, zs_287_23, zs_287_24, zs_287_27, zs_287_30, zs_287_31, zs_287_34, zs_287_35, zs_287_36, zs_287_41, g, zmf_23, zmf_24, r24, E, zbk_v, zts_s, zmp_31, zup_at, zup_ne, zmf_31, yup_eq, if_neg n10, b1, g1, hc', zgd_t, ↓reduceIte, List.cons_append, List.nil_append]
end ZQX
