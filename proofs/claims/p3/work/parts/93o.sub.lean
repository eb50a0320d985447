/-- what a variable's leaves become -/
def ysb1 (x : Int32) (u : yP) (q : Int32 × Int32) : yP := if q.1 = nI 118 ∧ q.2 = x then u else [q]
def yct (x : Int32) (p : yP) : Nat := p.countP (fun q => decide (q.1 = nI 118) && decide (q.2 = x))
theorem yva_v {v : Int32} : yva (nI 118) v = v - nI 97 := if_pos rfl
theorem ypr_yins {c : Int32} {u : yT} : ∀ t : yT, (t = .leaf ∨ ytw t = true) → ypr (yins c u t) = (ypr t).flatMap (ysb1 (c - nI 97) (ypr u))
  | .leaf, _ => rfl
  | .inner n k v l r, h => by
    have ht : ytw (.inner n k v l r) = true := h.elim (fun q => by cases q) id
    have hel := ytw_el ht
    have hl : l = .leaf ∨ ytw l = true := by rcases hel with g | g | g | g <;> first | exact Or.inl g.2.1 | exact Or.inl g.2.2.1 | exact Or.inr g.2.2.1
    have hr : r = .leaf ∨ ytw r = true := by rcases hel with g | g | g | g <;> first | exact Or.inl g.2.2 | exact Or.inl g.2.2.2 | exact Or.inr g.2.2.2
    have i1 := ypr_yins (c := c) (u := u) l hl
    have i2 := ypr_yins (c := c) (u := u) r hr
    show ypr (if k = nI 118 ∧ v = c then u else ymk k v (yins c u l) (yins c u r)) = ((k, yva k v) :: (ypr l ++ ypr r)).flatMap (ysb1 (c - nI 97) (ypr u))
    rw [List.flatMap_cons, List.flatMap_append, ← i1, ← i2]
    by_cases hk : k = nI 118
    · subst hk
      have hlv : l = .leaf ∧ r = .leaf := by
        rcases hel with g | g | g | g
        · exact ⟨g.2.1, g.2.2⟩
        · exact ⟨g.2.2.1, g.2.2.2⟩
        · exact absurd g.1 (by decide +kernel)
        · exact absurd g.1 (by decide +kernel)
      obtain ⟨rfl, rfl⟩ := hlv
      by_cases hv : v = c
      · subst hv
        rw [if_pos ⟨rfl, rfl⟩]
        unfold ysb1
        rw [if_pos ⟨rfl, yva_v⟩]
        show _ = ypr u ++ ([] ++ [])
        rw [List.append_nil, List.append_nil]
      · rw [if_neg (fun q => hv q.2)]
        unfold ysb1
        rw [if_neg (fun q => hv (by
          have q2 : yva (nI 118) v = c - nI 97 := q.2
          rw [yva_v] at q2
          rw [← Int32.sub_add_cancel v (nI 97), q2, Int32.sub_add_cancel]))]
        rfl
    · rw [if_neg (fun q => hk q.1)]
      unfold ysb1
      rw [if_neg (fun q => hk q.1)]
      rfl
theorem yct_cons {x : Int32} {q : Int32 × Int32} {p : yP} : yct x (q :: p) = yct x p + (if q.1 = nI 118 ∧ q.2 = x then 1 else 0) := by
  unfold yct
  rw [List.countP_cons]
  by_cases h1 : q.1 = nI 118 <;> by_cases h2 : q.2 = x <;> simp only [h1, h2, decide_true, decide_false, Bool.and_self, Bool.and_true, Bool.and_false, Bool.true_and, Bool.false_and, and_self, and_true, and_false, true_and, false_and, if_true, if_false, Bool.false_eq_true]
theorem ysb1_len {x : Int32} {u : yP} {n : Nat} (hu : u.length = n + 1) : ∀ p : yP, (p.flatMap (ysb1 x u)).length = p.length + yct x p * n
  | [] => by show 0 = 0 + 0 * n; omega
  | q :: p => by
    have ih := ysb1_len (x := x) hu p
    rw [List.flatMap_cons, List.length_append, ih, yct_cons, List.length_cons]
    unfold ysb1
    by_cases h : q.1 = nI 118 ∧ q.2 = x
    · rw [if_pos h, if_pos h, hu, Nat.add_mul]
      omega
    · rw [if_neg h, if_neg h, List.length_singleton, Nat.add_zero (yct x p)]
      omega
theorem yct_len {x : Int32} {p : yP} : yct x p ≤ p.length := List.countP_le_length
theorem ynk_sub {x : Int32} {u : yP} (hu : ynk u) : ∀ p : yP, ynk p → ynk (p.flatMap (ysb1 x u))
  | [], _ => ynk_nil
  | q :: p, h => by
    rw [List.flatMap_cons]
    refine ynk_app ?_ (ynk_sub hu p (fun y hy => h y (List.mem_cons_of_mem _ hy)))
    unfold ysb1
    split
    · exact hu
    · exact ynk_cons (h q (List.mem_cons_self ..)) ynk_nil
section ZMF
variable {sv : Nat → Value} {d : Nat} {h : zH} {m : Nat} {F : Nat → Int32} {A : yA} {N : List Int32}
theorem e_242l {x : Int32} {p : yP} (hm : h.1 m = (13, zMF m F)) (h8 : F 8 = nI p.length) (hl : zLst h (m + 5) (m + 6) p) : ∀ n j, j + n = p.length → zrun zP sv (zcall zP sv d) 242 4 [.val (.ref m), .val (.int x), .val (.int (nI (yct x (p.take j)))), .val (.int (nI j))] [] h = some (.inl (some (.int (nI (yct x p)))), h) := by
  intro n
  induction n with
  | zero =>
    intro j hj
    obtain rfl : j = p.length := by omega
    simp only [zs_242_0, zs_242_1, zs_242_2, zs_242_3, zs_242_4, zs_242_5, zs_242_5n, zs_242_6, zs_242_9, zs_242_12, zs_242_12n, zs_242_13, zs_242_16, zs_242_17, zs_242_18, zs_242_20, zs_242_23, zs_242_23n, zs_242_24, zs_242_27, zs_242_28, zs_242_29, zs_242_30, zs_242_33, zs_242_36, zs_242_39, zs_242_42, zs_242_43, hm, zmf_8, h8, Int32.lt_irrefl, ↓reduceIte, List.take_length]
  | succ n ih =>
    intro j hj
    obtain ⟨y, hy⟩ : ∃ y, p[j]? = some y := ⟨_, List.getElem?_eq_getElem (by omega)⟩
    obtain ⟨A, B, a1, a2, a3, a4, a5⟩ := e_look (k := y.1) (v := y.2) hl hy
    have e := ih (j + 1) (by omega)
    have hc : yct x (p.take (j + 1)) = yct x (p.take j) + (if y.1 = nI 118 ∧ y.2 = x then 1 else 0) := by
      have z : yct x [y] = 0 + (if y.1 = nI 118 ∧ y.2 = x then 1 else 0) := yct_cons
      rw [List.take_add_one, hy, Nat.zero_add] at *
      unfold yct at *
      rw [List.countP_append]
      exact congrArg _ z
    have hlp : p.length ≤ 700 := by
      obtain ⟨_, _, _, _, _, _, _, _, b⟩ := hl
      exact b
    have g1 : nI j < nI p.length := nI_lt (by omega) (by omega)
    rw [hc] at e
    by_cases c1 : y.1 = nI 118
    · by_cases c2 : y.2 = x
      · rw [if_pos ⟨c1, c2⟩] at e
        simp only [zs_242_0, zs_242_1, zs_242_2, zs_242_3, zs_242_4, zs_242_5, zs_242_5n, zs_242_6, zs_242_9, zs_242_12, zs_242_12n, zs_242_13, zs_242_16, zs_242_17, zs_242_18, zs_242_20, zs_242_23, zs_242_23n, zs_242_24, zs_242_27, zs_242_28, zs_242_29, zs_242_30, zs_242_42, zs_242_43, hm, zmf_6, zmf_7, zmf_8, h8, if_pos g1, a1, a2, a3, a4, c1, c2, ↓reduceIte]
        rw [zs_242_33, zs_242_36, zs_242_39, nI_1', nI_1']
        exact e
      · rw [if_neg (fun q => c2 q.2)] at e
        simp only [zs_242_0, zs_242_1, zs_242_2, zs_242_3, zs_242_4, zs_242_5, zs_242_5n, zs_242_6, zs_242_9, zs_242_12, zs_242_12n, zs_242_13, zs_242_16, zs_242_17, zs_242_18, zs_242_20, zs_242_23, zs_242_23n, zs_242_24, zs_242_27, zs_242_28, zs_242_29, zs_242_30, zs_242_33, zs_242_42, zs_242_43, hm, zmf_6, zmf_7, zmf_8, h8, if_pos g1, a1, a2, a3, a4, c1, c2, ↓reduceIte]
        rw [zs_242_36, zs_242_39, nI_1']
        exact e
    · rw [if_neg (fun q => c1 q.1)] at e
      simp only [zs_242_0, zs_242_1, zs_242_2, zs_242_3, zs_242_4, zs_242_5, zs_242_5n, zs_242_6, zs_242_9, zs_242_12, zs_242_12n, zs_242_13, zs_242_16, zs_242_17, zs_242_18, zs_242_20, zs_242_23, zs_242_23n, zs_242_24, zs_242_27, zs_242_28, zs_242_29, zs_242_30, zs_242_33, zs_242_42, zs_242_43, hm, zmf_6, zmf_7, zmf_8, h8, if_pos g1, a1, a2, a3, a4, c1, ↓reduceIte]
      rw [zs_242_36, zs_242_39, nI_1']
      exact e
theorem e_242 {x : Int32} {p : yP} (hm : zMo h m F) (h8 : F 8 = nI p.length) (hl : zLst h (m + 5) (m + 6) p) : zcall zP sv (d + 1) 242 [.ref m, .int x] h = some (.inl (some (.int (nI (yct x p)))), h) := by
  have e := e_242l (sv := sv) (d := d) (x := x) hm h8 hl p.length 0 (Nat.zero_add _)
  rw [List.take_zero] at e
  have e0 : yct x [] = 0 := rfl
  rw [e0, nI_0] at e
  rw [zc_242]
  simp (disch := exact znw_u) only [zs_242_0, zs_242_1, zs_242_2, zs_242_3]
  exact e
end ZMF
