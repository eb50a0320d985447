theorem ynl_f {t : yT} (h : (!ynl t) = true) : t = .leaf := by
  cases t with
  | leaf => rfl
  | inner n k v l r => cases h
theorem ytw_el {n : Nat} {k v : Int32} {l r : yT} (h : ytw (.inner n k v l r) = true) : (k = nI 99 ∧ l = .leaf ∧ r = .leaf) ∨ (k = nI 118 ∧ ylet v = true ∧ l = .leaf ∧ r = .leaf) ∨ (k = nI 110 ∧ v = 0 ∧ ytw l = true ∧ r = .leaf) ∨ (yis k = true ∧ v = 0 ∧ ytw l = true ∧ ytw r = true) := by
  have h' : ((decide (k = nI 99) && !ynl l && !ynl r) || (decide (k = nI 118) && ylet v && !ynl l && !ynl r) || (decide (k = nI 110) && decide (v = 0) && ytw l && !ynl r) || (yis k && decide (v = 0) && ytw l && ytw r)) = true := by
    have h0 : (decide (n = 0) && ((decide (k = nI 99) && !ynl l && !ynl r) || (decide (k = nI 118) && ylet v && !ynl l && !ynl r) || (decide (k = nI 110) && decide (v = 0) && ytw l && !ynl r) || (yis k && decide (v = 0) && ytw l && ytw r))) = true := h
    rw [Bool.and_eq_true] at h0
    exact h0.2
  rw [Bool.or_eq_true, Bool.or_eq_true, Bool.or_eq_true] at h'
  rcases h' with ((h1 | h1) | h1) | h1
  · rw [Bool.and_eq_true, Bool.and_eq_true] at h1
    exact Or.inl ⟨of_decide_eq_true h1.1.1, ynl_f h1.1.2, ynl_f h1.2⟩
  · rw [Bool.and_eq_true, Bool.and_eq_true, Bool.and_eq_true] at h1
    exact Or.inr (Or.inl ⟨of_decide_eq_true h1.1.1.1, h1.1.1.2, ynl_f h1.1.2, ynl_f h1.2⟩)
  · rw [Bool.and_eq_true, Bool.and_eq_true, Bool.and_eq_true] at h1
    exact Or.inr (Or.inr (Or.inl ⟨of_decide_eq_true h1.1.1.1, of_decide_eq_true h1.1.1.2, h1.1.2, ynl_f h1.2⟩))
  · rw [Bool.and_eq_true, Bool.and_eq_true, Bool.and_eq_true] at h1
    exact Or.inr (Or.inr (Or.inr ⟨h1.1.1.1, of_decide_eq_true h1.1.1.2, h1.1.2, h1.2⟩))
theorem ytw_0 {n : Nat} {k v : Int32} {l r : yT} (h : ytw (.inner n k v l r) = true) : n = 0 := by
  have h0 : (decide (n = 0) && ((decide (k = nI 99) && !ynl l && !ynl r) || (decide (k = nI 118) && ylet v && !ynl l && !ynl r) || (decide (k = nI 110) && decide (v = 0) && ytw l && !ynl r) || (yis k && decide (v = 0) && ytw l && ytw r))) = true := h
  rw [Bool.and_eq_true] at h0
  exact of_decide_eq_true h0.1
theorem ytw_c {v : Int32} : ytw (ycn v) = true := rfl
theorem ytw_v {v : Int32} (h : ylet v = true) : ytw (ymk (nI 118) v .leaf .leaf) = true := by
  show (decide ((0 : Nat) = 0) && ((decide (nI 118 = nI 99) && !ynl .leaf && !ynl .leaf) || (decide (nI 118 = nI 118) && ylet v && !ynl .leaf && !ynl .leaf) || (decide (nI 118 = nI 110) && decide (v = 0) && ytw .leaf && !ynl .leaf) || (yis (nI 118) && decide (v = 0) && ytw .leaf && ytw .leaf))) = true
  rw [h]
  rfl
theorem ytw_n {a : yT} (h : ytw a = true) : ytw (ymk (nI 110) 0 a .leaf) = true := by
  show (decide ((0 : Nat) = 0) && ((decide (nI 110 = nI 99) && !ynl a && !ynl .leaf) || (decide (nI 110 = nI 118) && ylet 0 && !ynl a && !ynl .leaf) || (decide (nI 110 = nI 110) && decide ((0 : Int32) = 0) && ytw a && !ynl .leaf) || (yis (nI 110) && decide ((0 : Int32) = 0) && ytw a && ytw .leaf))) = true
  rw [h]
  cases ynl a <;> rfl
theorem ytw_o {k : Int32} {a b : yT} (hk : yis k = true) (ha : ytw a = true) (hb : ytw b = true) : ytw (ymk k 0 a b) = true := by
  show (decide ((0 : Nat) = 0) && ((decide (k = nI 99) && !ynl a && !ynl b) || (decide (k = nI 118) && ylet 0 && !ynl a && !ynl b) || (decide (k = nI 110) && decide ((0 : Int32) = 0) && ytw a && !ynl b) || (yis k && decide ((0 : Int32) = 0) && ytw a && ytw b))) = true
  rw [hk, ha, hb]
  simp
theorem ytw_sz : ∀ {t : yT}, ytw t = true → 0 < ysz t
  | .leaf, h => by cases h
  | .inner _ _ _ _ _, _ => Nat.succ_pos _
theorem yis_k {k : Int32} (h : yis k = true) : k = nI 43 ∨ k = nI 45 ∨ k = nI 42 := by
  unfold yis at h
  rw [Bool.or_eq_true, Bool.or_eq_true] at h
  rcases h with (h | h) | h
  · exact Or.inl (of_decide_eq_true h)
  · exact Or.inr (Or.inl (of_decide_eq_true h))
  · exact Or.inr (Or.inr (of_decide_eq_true h))
theorem yis_n110 {k : Int32} (h : yis k = true) : ¬ k = nI 110 := by
  intro g
  rw [g, yis_110] at h
  cases h
theorem ytw_yl {a : yT} (h : ytw a = true) (hk : yk a = nI 110) : ytw (yl a) = true := by
  cases a with
  | leaf => cases h
  | inner n k v l r =>
    have hk' : k = nI 110 := hk
    rcases ytw_el h with g | g | g | g
    · exact absurd (g.1.symm.trans hk') (by decide +kernel)
    · exact absurd (g.1.symm.trans hk') (by decide +kernel)
    · exact g.2.2.1
    · exact absurd hk' (yis_n110 g.1)
theorem ytw_ysn {a : yT} (h : ytw a = true) : ytw (ysn a) = true := by
  unfold ysn
  split
  · exact ytw_c
  · split
    · rename_i h1
      exact ytw_yl h h1
    · exact ytw_n h
theorem ytw_ysp {k : Int32} {a b : yT} (hk : yis k = true) (ha : ytw a = true) (hb : ytw b = true) : ytw (ysp k a b) = true := by
  unfold ysp ysu ysd ysm
  repeat' split
  all_goals first
    | exact ytw_c
    | exact ha
    | exact hb
    | (rename_i h1; exact ytw_yl hb h1)
    | exact ytw_n hb
    | exact ytw_o (by decide +kernel) ha hb
theorem ytw_ysim : ∀ t : yT, ytw t = true → ytw (ysim t) = true
  | .leaf, h => h
  | .inner n k v l r, h => by
    show ytw (if k = nI 110 then ysn (ysim l) else if yis k = true then ysp k (ysim l) (ysim r) else ymk k v .leaf .leaf) = true
    rcases ytw_el h with g | g | g | g
    · rw [g.1, if_neg (by decide +kernel), if_neg (by decide +kernel)]
      exact ytw_c
    · rw [g.1, if_neg (by decide +kernel), if_neg (by decide +kernel)]
      exact ytw_v g.2.1
    · rw [if_pos g.1]
      exact ytw_ysn (ytw_ysim l g.2.2.1)
    · rw [if_neg (yis_n110 g.1), if_pos g.1]
      exact ytw_ysp g.1 (ytw_ysim l g.2.2.1) (ytw_ysim r g.2.2.2)
theorem ysz_yl {a : yT} : ysz (yl a) ≤ ysz a := by
  cases a with
  | leaf => exact Nat.le_refl _
  | inner n k v l r =>
    show ysz l ≤ ysz l + ysz r + 1
    omega
theorem ysz_cn {v : Int32} : ysz (ycn v) = 1 := rfl
theorem ysz_ysn {a : yT} : ysz (ysn a) ≤ ysz a + 1 := by
  have := ysz_yl (a := a)
  unfold ysn
  split
  · rw [ysz_cn]; omega
  · split
    · omega
    · show ysz a + 0 + 1 ≤ _
      omega
theorem ysz_ysp {k : Int32} {a b : yT} : ysz (ysp k a b) ≤ ysz a + ysz b + 1 := by
  have m3 := ysz_yl (a := b)
  have m4 : ∀ k v, ysz (ymk k v b .leaf) = ysz b + 1 := fun k v => rfl
  unfold ysp ysu ysd ysm
  repeat' split
  all_goals first
    | (rw [ysz_cn]; omega)
    | (rw [ysz_mk]; omega)
    | (rw [m4]; omega)
    | omega
theorem ysz_ysim : ∀ t : yT, ysz (ysim t) ≤ ysz t
  | .leaf => Nat.le_refl _
  | .inner n k v l r => by
    have i1 := ysz_ysim l
    have i2 := ysz_ysim r
    show ysz (if k = nI 110 then ysn (ysim l) else if yis k = true then ysp k (ysim l) (ysim r) else ymk k v .leaf .leaf) ≤ ysz l + ysz r + 1
    split
    · have := ysz_ysn (a := ysim l)
      omega
    · split
      · have := ysz_ysp (k := k) (a := ysim l) (b := ysim r)
        omega
      · show 0 + 0 + 1 ≤ _
        omega
theorem ytw_yder {c : Int32} : ∀ t : yT, ytw t = true → ytw (yder c t) = true
  | .leaf, h => h
  | .inner n k v l r, h => by
    show ytw (if k = nI 110 then ymk (nI 110) 0 (yder c l) .leaf else if k = nI 43 ∨ k = nI 45 then ymk k 0 (yder c l) (yder c r) else if k = nI 42 then ymk (nI 43) 0 (ymk (nI 42) 0 (yder c l) r) (ymk (nI 42) 0 l (yder c r)) else ycn (if k = nI 118 ∧ v = c then nI 1 else 0)) = true
    rcases ytw_el h with g | g | g | g
    · rw [if_neg (by rw [g.1]; decide +kernel), if_neg (by rw [g.1]; decide +kernel), if_neg (by rw [g.1]; decide +kernel)]
      exact ytw_c
    · rw [if_neg (by rw [g.1]; decide +kernel), if_neg (by rw [g.1]; decide +kernel), if_neg (by rw [g.1]; decide +kernel)]
      exact ytw_c
    · rw [if_pos g.1]
      exact ytw_n (ytw_yder l g.2.2.1)
    · rw [if_neg (yis_n110 g.1)]
      split
      · exact ytw_o g.1 (ytw_yder l g.2.2.1) (ytw_yder r g.2.2.2)
      · split
        · exact ytw_o yis_43 (ytw_o yis_42 (ytw_yder l g.2.2.1) g.2.2.2) (ytw_o yis_42 g.2.2.1 (ytw_yder r g.2.2.2))
        · exact ytw_c
theorem ytw_yins {c : Int32} {w : yT} (hw : ytw w = true) : ∀ t : yT, ytw t = true → ytw (yins c w t) = true
  | .leaf, h => h
  | .inner n k v l r, h => by
    show ytw (if k = nI 118 ∧ v = c then w else ymk k v (yins c w l) (yins c w r)) = true
    split
    · exact hw
    · rcases ytw_el h with g | g | g | g
      · rw [g.1, g.2.1, g.2.2]
        exact ytw_c
      · rw [g.1, g.2.2.1, g.2.2.2]
        exact ytw_v g.2.1
      · rw [g.1, g.2.1, g.2.2.2]
        exact ytw_n (ytw_yins hw l g.2.2.1)
      · rw [g.2.1]
        exact ytw_o g.1 (ytw_yins hw l g.2.2.1) (ytw_yins hw r g.2.2.2)
theorem ydp_yder {c : Int32} : ∀ t : yT, ydp (yder c t) ≤ 2 * ydp t
  | .leaf => Nat.le_refl _
  | .inner n k v l r => by
    have i1 := ydp_yder (c := c) l
    have i2 := ydp_yder (c := c) r
    show ydp (if k = nI 110 then ymk (nI 110) 0 (yder c l) .leaf else if k = nI 43 ∨ k = nI 45 then ymk k 0 (yder c l) (yder c r) else if k = nI 42 then ymk (nI 43) 0 (ymk (nI 42) 0 (yder c l) r) (ymk (nI 42) 0 l (yder c r)) else ycn (if k = nI 118 ∧ v = c then nI 1 else 0)) ≤ 2 * (max (ydp l) (ydp r) + 1)
    split
    · show max (ydp (yder c l)) 0 + 1 ≤ _
      omega
    · split
      · rw [ydp_mk]
        omega
      · split
        · rw [ydp_mk, ydp_mk, ydp_mk]
          omega
        · rw [ydp_cn]
          omega
theorem ydp_yins {c : Int32} {w : yT} : ∀ t : yT, ydp (yins c w t) ≤ ydp t + ydp w
  | .leaf => Nat.zero_le _
  | .inner n k v l r => by
    have i1 := ydp_yins (c := c) (w := w) l
    have i2 := ydp_yins (c := c) (w := w) r
    show ydp (if k = nI 118 ∧ v = c then w else ymk k v (yins c w l) (yins c w r)) ≤ max (ydp l) (ydp r) + 1 + ydp w
    split
    · omega
    · rw [ydp_mk]
      omega
theorem ysz_dp : ∀ t : yT, ysz t < 2 ^ ydp t
  | .leaf => by decide
  | .inner n k v l r => by
    have i1 := ysz_dp l
    have i2 := ysz_dp r
    have p1 : 2 ^ ydp l ≤ 2 ^ max (ydp l) (ydp r) := Nat.pow_le_pow_right (by decide) (Nat.le_max_left _ _)
    have p2 : 2 ^ ydp r ≤ 2 ^ max (ydp l) (ydp r) := Nat.pow_le_pow_right (by decide) (Nat.le_max_right _ _)
    show ysz l + ysz r + 1 < 2 ^ (max (ydp l) (ydp r) + 1)
    rw [Nat.pow_succ]
    omega
theorem ysz_16 {t : yT} (h : ydp t ≤ 16) : ysz t < 2 ^ 31 := Nat.lt_of_lt_of_le (ysz_dp t) (Nat.pow_le_pow_right (by decide) (by omega))
/-- the nodes of a term in post-order stand for its subterms, the last one for itself -/
theorem ytm_ypo : ∀ (t : yT) (ms : List yN), ywf ms → ms.length + ysz t < 2 ^ 31 → ywf (ms ++ ypo ms.length t) ∧ (ytw t = true → ygt (ytm (ms ++ ypo ms.length t)) (yri ms.length t) = t)
  | .leaf, ms, hw, _ => ⟨by rw [show ypo ms.length (.leaf : yT) = [] from rfl, List.append_nil]; exact hw, fun h => by cases h⟩
  | .inner n k v l r, ms, hw, hl => by
    have hl' : ms.length + (ysz l + ysz r + 1) < 2 ^ 31 := hl
    have e1 : ypo ms.length (.inner n k v l r) = ypo ms.length l ++ ypo (ms.length + ysz l) r ++ [(k, v, yri ms.length l, yri (ms.length + ysz l) r)] := rfl
    obtain ⟨w1, t1⟩ := ytm_ypo l ms hw (by omega)
    have n1 : (ms ++ ypo ms.length l).length = ms.length + ysz l := by rw [List.length_append, ypo_len]
    obtain ⟨w2, t2⟩ := ytm_ypo r (ms ++ ypo ms.length l) w1 (by omega)
    rw [n1] at w2 t2
    have n2 : (ms ++ ypo ms.length l ++ ypo (ms.length + ysz l) r).length = ms.length + ysz l + ysz r := by rw [List.length_append, n1, ypo_len]
    have c1 : ∀ (o : Nat) (u : yT), ych (o + ysz u) (yri o u) := fun o u => by
      cases u with
      | leaf => exact Or.inl rfl
      | inner n k v a b =>
        refine Or.inr ⟨o + ysz a + ysz b, ?_, rfl⟩
        show _ < o + (ysz a + ysz b + 1)
        omega
    have w3 := ywf_snoc (nd := (k, v, yri ms.length l, yri (ms.length + ysz l) r)) w2 (ych_mono (c1 ms.length l) (by omega)) (ych_mono (c1 (ms.length + ysz l) r) (by omega)) (by omega)
    rw [e1, ← List.append_assoc, ← List.append_assoc]
    refine ⟨w3, fun hh => ?_⟩
    have h0 := ytw_0 hh
    subst h0
    have hr : yri ms.length (.inner 0 k v l r) = nI (ms ++ ypo ms.length l ++ ypo (ms.length + ysz l) r).length := by rw [n2]; rfl
    rw [hr, ygt_new (by omega)]
    show ymk k v (ygt _ (yri ms.length l)) (ygt _ (yri (ms.length + ysz l) r)) = ymk k v l r
    have g1 : (l = .leaf ∨ ytw l = true) ∧ (r = .leaf ∨ ytw r = true) := by
      rcases ytw_el hh with g | g | g | g
      · exact ⟨Or.inl g.2.1, Or.inl g.2.2⟩
      · exact ⟨Or.inl g.2.2.1, Or.inl g.2.2.2⟩
      · exact ⟨Or.inr g.2.2.1, Or.inl g.2.2.2⟩
      · exact ⟨Or.inr g.2.2.1, Or.inr g.2.2.2⟩
    have a1 : ygt (ytm (ms ++ ypo ms.length l ++ ypo (ms.length + ysz l) r)) (yri ms.length l) = l := by
      rcases g1.1 with g | g
      · subst g
        rw [show yri ms.length (.leaf : yT) = -1 from rfl, ygt_n]
      · rw [ygt_pre (by omega) (ych_mono (c1 ms.length l) (by omega)), t1 g]
    have a2 : ygt (ytm (ms ++ ypo ms.length l ++ ypo (ms.length + ysz l) r)) (yri (ms.length + ysz l) r) = r := by
      rcases g1.2 with g | g
      · subst g
        rw [show yri (ms.length + ysz l) (.leaf : yT) = -1 from rfl, ygt_n]
      · exact t2 g
    rw [a1, a2]
theorem yform {t : yT} (ht : ytw t = true) (hs : ysz t < 2 ^ 31) : ywf (ypo 0 t) ∧ ygt (ytm (ypo 0 t)) (nI (ysz t - 1)) = t ∧ (ypo 0 t).length = ysz t ∧ 0 < ysz t := by
  obtain ⟨w, e⟩ := ytm_ypo t [] ywf_nil (by rw [List.length_nil]; omega)
  rw [List.length_nil, List.nil_append] at w e
  have h0 := ytw_sz ht
  have hr : yri 0 t = nI (ysz t - 1) := by
    cases t with
    | leaf => cases ht
    | inner n k v l r =>
      show nI (0 + ysz l + ysz r) = nI (ysz l + ysz r + 1 - 1)
      congr 1
      omega
  rw [hr] at e
  exact ⟨w, e ht, ypo_len t 0, h0⟩
theorem ypo_bd {B : Nat} : ∀ (t : yT) (ms : List yN), ywf ms → ms.length + ysz t < 2 ^ 31 → yBd B ms → (t = .leaf ∨ ytw t = true) → ydp t ≤ B → yBd B (ms ++ ypo ms.length t)
  | .leaf, ms, _, _, hb, _, _ => by
    rw [show ypo ms.length (.leaf : yT) = [] from rfl, List.append_nil]
    exact hb
  | .inner n k v l r, ms, hw, hl, hb, ht, hd => by
    have hh := ht.resolve_left (fun g => by cases g)
    have hl' : ms.length + (ysz l + ysz r + 1) < 2 ^ 31 := hl
    have hd' : max (ydp l) (ydp r) + 1 ≤ B := hd
    have g1 : (l = .leaf ∨ ytw l = true) ∧ (r = .leaf ∨ ytw r = true) := by
      rcases ytw_el hh with g | g | g | g
      · exact ⟨Or.inl g.2.1, Or.inl g.2.2⟩
      · exact ⟨Or.inl g.2.2.1, Or.inl g.2.2.2⟩
      · exact ⟨Or.inr g.2.2.1, Or.inl g.2.2.2⟩
      · exact ⟨Or.inr g.2.2.1, Or.inr g.2.2.2⟩
    have i1 := ypo_bd l ms hw (by omega) hb g1.1 (by omega)
    obtain ⟨w1, t1⟩ := ytm_ypo l ms hw (by omega)
    have n1 : (ms ++ ypo ms.length l).length = ms.length + ysz l := by rw [List.length_append, ypo_len]
    have i2 := ypo_bd r (ms ++ ypo ms.length l) w1 (by omega) i1 g1.2 (by omega)
    rw [n1] at i2
    have e1 : ypo ms.length (.inner n k v l r) = ypo ms.length l ++ ypo (ms.length + ysz l) r ++ [(k, v, yri ms.length l, yri (ms.length + ysz l) r)] := rfl
    have n2 : (ms ++ ypo ms.length l ++ ypo (ms.length + ysz l) r).length = ms.length + ysz l + ysz r := by rw [List.length_append, n1, ypo_len]
    have hr : yri ms.length (.inner n k v l r) = nI (ms ++ ypo ms.length l ++ ypo (ms.length + ysz l) r).length := by rw [n2]; rfl
    obtain ⟨w9, t9⟩ := ytm_ypo (.inner n k v l r) ms hw hl
    have e9 := t9 hh
    rw [e1, ← List.append_assoc, ← List.append_assoc, hr, ygt_new (by omega)] at e9
    rw [e1, ← List.append_assoc, ← List.append_assoc]
    refine yBd_snoc i2 ?_
    rw [e9]
    exact hd
theorem yform_bd {t : yT} {B : Nat} (ht : ytw t = true) (hs : ysz t < 2 ^ 31) (hd : ydp t ≤ B) : yBd B (ypo 0 t) := by
  have := ypo_bd t [] ywf_nil (by rw [List.length_nil]; omega) yBd_nil (Or.inr ht) hd
  rw [List.length_nil, List.nil_append] at this
  exact this
