section ZQJ
variable {sv : Nat → Value} {d : Nat} {m : Nat} {F : Nat → Int32} {h : zH} {w : yW} {th : Int32} {i j : Nat} {t u : yT} {p : yP} {L : List yT}
/-- the parts of a term, in prefix order -/
def yts : yT → List yT
  | .leaf => []
  | .inner s k v l r => .inner s k v l r :: (yts l ++ yts r)
def yLs (p : yP) (L : List yT) : Prop := p.length = L.length ∧ ∀ (k : Nat) (a : yT), L[k]? = some a → ytw a = true ∧ ∃ pre post, p = pre ++ ypr a ++ post ∧ pre.length = k
theorem yts_len : ∀ t : yT, (yts t).length = ysz t
  | .leaf => rfl
  | .inner _ _ _ l r => by
    show (yts l ++ yts r).length + 1 = ysz l + ysz r + 1
    rw [List.length_append, yts_len l, yts_len r]
theorem ytw_lr {n : Nat} {k v : Int32} {l r : yT} (h : ytw (.inner n k v l r) = true) : (ytw l = true ∨ l = .leaf) ∧ (ytw r = true ∨ r = .leaf) := by
  have hl : ∀ x : yT, (!ynl x) = true → x = .leaf := fun x hx => by cases x with
    | leaf => rfl
    | inner _ _ _ _ _ => exact absurd hx (by show ¬ ((!true) = true); decide)
  unfold ytw at h
  simp only [Bool.and_eq_true, Bool.or_eq_true] at h
  rcases h.2 with ((z | z) | z) | z
  · exact ⟨Or.inr (hl l z.1.2), Or.inr (hl r z.2)⟩
  · exact ⟨Or.inr (hl l z.1.2), Or.inr (hl r z.2)⟩
  · exact ⟨Or.inl z.1.2, Or.inr (hl r z.2)⟩
  · exact ⟨Or.inl z.1.2, Or.inl z.2⟩
theorem yLs_app {p q : yP} {L M : List yT} (h1 : yLs p L) (h2 : yLs q M) : yLs (p ++ q) (L ++ M) := by
  refine ⟨by rw [List.length_append, List.length_append, h1.1, h2.1], fun k a hk => ?_⟩
  by_cases c : k < L.length
  · rw [List.getElem?_append_left c] at hk
    obtain ⟨z, pre, post, e, l⟩ := h1.2 k a hk
    exact ⟨z, pre, post ++ q, by rw [e]; simp only [List.append_assoc], l⟩
  · rw [List.getElem?_append_right (by omega)] at hk
    obtain ⟨z, pre, post, e, l⟩ := h2.2 _ a hk
    exact ⟨z, p ++ pre, post, by rw [e]; simp only [List.append_assoc], by rw [List.length_append, l, h1.1]; omega⟩
theorem yLs_0 : yLs [] [] := ⟨rfl, fun k a hk => by rw [List.getElem?_nil] at hk; cases hk⟩
theorem yLs_t : ∀ t : yT, (ytw t = true ∨ t = .leaf) → yLs (ypr t) (yts t)
  | .leaf, _ => yLs_0
  | .inner n k v l r, h => by
    have hw : ytw (.inner n k v l r) = true := h.resolve_right (fun z => by cases z)
    have g := yLs_app (yLs_t l (ytw_lr hw).1) (yLs_t r (ytw_lr hw).2)
    refine ⟨by rw [ypr_len, yts_len], fun j a hj => ?_⟩
    cases j with
    | zero =>
      rw [show yts (.inner n k v l r) = .inner n k v l r :: (yts l ++ yts r) from rfl, List.getElem?_cons_zero] at hj
      cases hj
      exact ⟨hw, [], [], by rw [List.nil_append, List.append_nil], rfl⟩
    | succ j =>
      rw [show yts (.inner n k v l r) = .inner n k v l r :: (yts l ++ yts r) from rfl, List.getElem?_cons_succ] at hj
      obtain ⟨z, pre, post, e, l⟩ := g.2 j a hj
      refine ⟨z, (k, yva k v) :: pre, post, ?_, by rw [List.length_cons, l]⟩
      show (k, yva k v) :: (ypr _ ++ ypr _) = _
      rw [e]
      rfl
/-- whether none of n parts from j on is b -/
def yfsr (Q : List yP) (b : Option yP) : Nat → Nat → Bool
  | _, 0 => true
  | j, n + 1 => !decide (Q[j]? = b) && yfsr Q b (j + 1) n
/-- whether a part is the first of its kind -/
def yfst (Q : List yP) (k : Nat) : Bool := yfsr Q Q[k]? 0 k
theorem e_260l (hm : zMo h m F) (hl : zLst h (m + 5) (m + 6) p) (hL : yLs p L) {k : Nat} (hk : k < L.length) {l2 : Slot} : ∀ n j (sm : Bool), j + n = k → zrun zP sv (zcall zP sv (d + 4)) 260 5 [.val (.ref m), .val (.int (nI k)), l2, .val (.int (yb sm)), .val (.int (nI j))] [] h = some (.inl (some (.int (yb (sm && yfsr (L.map ypr) (L.map ypr)[k]? j n)))), h) := by
  have h7 : p.length ≤ 700 := by
    obtain ⟨_, _, _, _, _, _, _, _, z⟩ := hl
    exact z
  have hlen := hL.1
  obtain ⟨b, hb⟩ : ∃ b, L[k]? = some b := ⟨_, List.getElem?_eq_getElem hk⟩
  obtain ⟨bw, pre', post', e2, l2'⟩ := hL.2 k b hb
  have hb' : (L.map ypr)[k]? = some (ypr b) := by rw [List.getElem?_map, hb]; rfl
  have hr : ∀ X : zR, zrc (h.1 m) 13 X = X := fun X => zMo_rc hm
  intro n
  induction n with
  | zero =>
    intro j sm hj
    obtain rfl : j = k := by omega
    rw [show yfsr (L.map ypr) (L.map ypr)[j]? j 0 = true from rfl, Bool.and_true]
    simp only [zs_260_0, zs_260_1, zs_260_2, zs_260_3, zs_260_7, zs_260_8, zs_260_11, zs_260_12, zs_260_15, zs_260_16, zs_260_18, zs_260_19, zs_260_22, zs_260_25, zs_260_26, zs_260_29, zs_260_30, zs_260_31, zs_260_34, zs_260_37, zs_260_38, zs_260_5, Int32.lt_irrefl, ↓reduceIte, zgd_t, zty_yb]
  | succ n ih =>
    intro j sm hj
    have g1 : nI j < nI k := nI_lt (by omega) (by omega)
    obtain ⟨a, ha⟩ : ∃ a, L[j]? = some a := ⟨_, List.getElem?_eq_getElem (by omega)⟩
    obtain ⟨aw, pre, post, e1, l1'⟩ := hL.2 j a ha
    have ha' : (L.map ypr)[j]? = some (ypr a) := by rw [List.getElem?_map, ha]; rfl
    have E : zcall zP sv (d + 4) 210 [.ref m, .int (nI pre.length), .int (nI pre'.length)] h = _ := e_210 (sv := sv) (d := d + 1) hm aw bw hl e1 e2
    rw [l1', l2'] at E
    cases sm with
    | false =>
      rw [Bool.false_and, yb_f]
      simp only [zs_260_5, zs_260_7, zs_260_8, zs_260_11, zs_260_12, zs_260_37, zs_260_38, if_pos g1, ↓reduceIte, zgd_t, zty_50]
    | true =>
      have e := ih (j + 1) (!decide (ypr a = ypr b)) (by omega)
      have hd : (true && yfsr (L.map ypr) (L.map ypr)[k]? j (n + 1)) = (!decide (ypr a = ypr b) && yfsr (L.map ypr) (L.map ypr)[k]? (j + 1) n) := by
        rw [Bool.true_and]
        show (!decide ((L.map ypr)[j]? = (L.map ypr)[k]?) && _) = _
        rw [ha', hb']
        congr 2
        exact decide_eq_decide.mpr (by rw [Option.some.injEq])
      rw [hd, ← e]
      have eb : ∀ b : Bool, zrun zP sv (zcall zP sv (d + 4)) 260 30 [.val (.ref m), .val (.int (nI k)), l2, .val (.int (yb true)), .val (.int (nI j))] [.int (yb b)] h = zrun zP sv (zcall zP sv (d + 4)) 260 5 [.val (.ref m), .val (.int (nI k)), l2, .val (.int (yb b)), .val (.int (nI (j + 1)))] [] h := fun b => by rw [zs_260_30 znw_i, zs_260_31, zs_260_34, nI_1']
      rw [← eb]
      cases hd : decide (ypr a = ypr b) with
      | true =>
        rw [hd] at E
        simp (disch := first | exact znw_u | exact znw_i) only [zs_260_0, zs_260_1, zs_260_2, zs_260_3, zs_260_5, zs_260_7, zs_260_8, zs_260_11, zs_260_12, zs_260_15, zs_260_16, zs_260_18, zs_260_19, zs_260_22, zs_260_25, zs_260_26, zs_260_29, zs_260_37, zs_260_38, if_pos g1, yb_t, nI_1e0, ↓reduceIte, hr, E, zbk_v, zts_s, List.cons_append, List.nil_append, Bool.not_true, yb_f]
      | false =>
        rw [hd] at E
        simp (disch := first | exact znw_u | exact znw_i) only [zs_260_0, zs_260_1, zs_260_2, zs_260_3, zs_260_5, zs_260_7, zs_260_8, zs_260_11, zs_260_12, zs_260_15, zs_260_16, zs_260_18, zs_260_19, zs_260_22, zs_260_25, zs_260_26, zs_260_29, zs_260_37, zs_260_38, if_pos g1, yb_t, nI_1e0, ↓reduceIte, hr, E, zbk_v, zts_s, List.cons_append, List.nil_append, Bool.not_false, yb_f]
theorem e_260 (hm : zMo h m F) (hl : zLst h (m + 5) (m + 6) p) (hL : yLs p L) {k : Nat} (hk : k < L.length) : zcall zP sv (d + 5) 260 [.ref m, .int (nI k), .int 0] h = some (.inl (some (.int (yb (yfst (L.map ypr) k)))), h) := by
  have e := e_260l (sv := sv) (d := d) hm hl hL hk (l2 := .val (.int 0)) k 0 true (Nat.zero_add _)
  rw [Bool.true_and, nI_0, yb_t] at e
  unfold yfst
  rw [← e]
  simp (disch := first | exact znw_u | exact znw_i) only [zc_260, zs_260_0, zs_260_1, zs_260_2, zs_260_3]
/-- how many of n parts from j on are the first of their kind -/
def ynd (Q : List yP) (n : Nat) : Nat := (List.range n).countP (yfst Q)
theorem ynd_s {Q : List yP} {n : Nat} : ynd Q (n + 1) = ynd Q n + (if yfst Q n = true then 1 else 0) := by
  unfold ynd
  rw [List.range_succ, List.countP_append, List.countP_singleton]
theorem e_261l (hm : zMo h m F) (h8 : F 8 = nI p.length) (hl : zLst h (m + 5) (m + 6) p) (hL : yLs p L) {l1 : Slot} : ∀ n j, j + n = L.length → zrun zP sv (zcall zP sv (d + 5)) 261 14 [.val (.ref m), l1, .val (.int (nI (ynd (L.map ypr) j))), .val (.int (nI j))] [] h = some (.inl (some (.int (nI (ynd (L.map ypr) L.length)))), h) := by
  have h7 : p.length ≤ 700 := by
    obtain ⟨_, _, _, _, _, _, _, _, z⟩ := hl
    exact z
  have hlen := hL.1
  have hr : ∀ X : zR, zrc (h.1 m) 13 X = X := fun X => zMo_rc hm
  have hm' : h.1 m = (13, zMF m F) := hm
  intro n
  induction n with
  | zero =>
    intro j hj
    obtain rfl : j = L.length := by omega
    simp only [zs_261_14, zs_261_15, zs_261_16, zs_261_19, zs_261_40, zs_261_41, hm', zmf_8, h8, hlen, Int32.lt_irrefl, ↓reduceIte]
  | succ n ih =>
    intro j hj
    have g1 : nI j < nI L.length := nI_lt (by omega) (by omega)
    have E : zcall zP sv (d + 5) 260 [.ref m, .int (nI j), .int 0] h = _ := e_260 (sv := sv) (d := d) hm hl hL (k := j) (by omega)
    rw [← ih (j + 1) (by omega), ynd_s]
    have eb : ∀ q, zrun zP sv (zcall zP sv (d + 5)) 261 34 [.val (.ref m), l1, .val (.int (nI q)), .val (.int (nI j))] [] h = zrun zP sv (zcall zP sv (d + 5)) 261 14 [.val (.ref m), l1, .val (.int (nI q)), .val (.int (nI (j + 1)))] [] h := fun q => by rw [zs_261_34, zs_261_37, nI_1']
    rw [← eb]
    cases hd : yfst (L.map ypr) j with
    | true =>
      rw [hd] at E
      simp (disch := first | exact znw_u | exact znw_i) only [zs_261_0, zs_261_1, zs_261_2, zs_261_5, zs_261_8, zs_261_9, zs_261_10, zs_261_11, zs_261_12, zs_261_13, zs_261_14, zs_261_15, zs_261_16, zs_261_19, zs_261_22, zs_261_23, zs_261_24, zs_261_25, zs_261_28, zs_261_31, zs_261_40, zs_261_41, hm', zmf_8, h8, hlen, if_pos g1, hr, E, zbk_v, zts_s, yb_t, nI_1e0, nI_1', ↓reduceIte, List.cons_append, List.nil_append, zrc_13v]
    | false =>
      rw [hd] at E
      simp (disch := first | exact znw_u | exact znw_i) only [zs_261_0, zs_261_1, zs_261_2, zs_261_5, zs_261_8, zs_261_9, zs_261_10, zs_261_11, zs_261_12, zs_261_13, zs_261_14, zs_261_15, zs_261_16, zs_261_19, zs_261_22, zs_261_23, zs_261_24, zs_261_25, zs_261_28, zs_261_31, zs_261_40, zs_261_41, hm', zmf_8, h8, hlen, if_pos g1, hr, E, zbk_v, zts_s, yb_f, nI_1e0, Nat.add_zero, Bool.false_eq_true, ↓reduceIte, List.cons_append, List.nil_append, zrc_13v]
theorem e_261x {x : Int32} (hM : zMdl h m w th) (hx : yinF (ycur w) x = false) : zMC m h (zcall zP sv (d + 7) 261 [.ref m, .int x] h) 0 w (nI 1) := by
  obtain ⟨h1, e1, m1, k1⟩ := e_252x (sv := sv) (d := d) hM hx
  have r0 : ∀ X : zR, zrc (h.1 m) 13 X = X := fun X => zMdl_rc hM
  refine ⟨h1, ?_, m1, k1⟩
  simp (disch := first | exact znw_u | exact znw_i) only [zc_261, zs_261_0, zs_261_1, zs_261_2, zs_261_5, zs_261_8, zs_261_9, r0, e1, zbk_v, zts_s, ↓reduceIte, List.cons_append, List.nil_append]
theorem e_261 (hM : zMdl h m w th) (hi : (ycur w).1[i]? = some t) : zMC m h (zcall zP sv (d + 7) 261 [.ref m, .int (nI i)] h) (nI (ynd ((yts t).map ypr) (ysz t))) w 0 := by
  obtain ⟨h1, e1, m1, k1⟩ := e_252 (sv := sv) (d := d) hM hi
  have r0 : ∀ X : zR, zrc (h.1 m) 13 X = X := fun X => zMdl_rc hM
  have mM := zMdL_M m1
  obtain ⟨F, _, f8, l5, ⟨hm, _⟩, _, _, _, tk⟩ := m1
  have E := e_261l (sv := sv) (d := d + 1) hm (by rw [ypr_len, f8]) l5 (yLs_t t (Or.inl tk.1)) (l1 := .val (.int (nI i))) (yts t).length 0 (Nat.zero_add _)
  rw [show ynd ((yts t).map ypr) 0 = 0 from rfl, nI_0, yts_len] at E
  refine ⟨h1, ?_, mM, k1⟩
  simp (disch := first | exact znw_u | exact znw_i) only [zc_261, zs_261_0, zs_261_1, zs_261_2, zs_261_5, zs_261_10, zs_261_11, zs_261_12, zs_261_13, r0, e1, zbk_v, zts_s, nI_1e0, ↓reduceIte, List.cons_append, List.nil_append]
  exact E
theorem e_262w {x a th' : Int32} (hM : zMdl h m w th) (hc : zMC m h (zcall zP sv (d + 7) 261 [.ref m, .int x] h) a w th') : zMC m h (zcall zP sv (d + 8) 262 [.ref m, .int x] h) a w th' := by
  obtain ⟨h1, e1, m1, k1⟩ := hc
  have r0 : ∀ X : zR, zrc (h.1 m) 13 X = X := fun X => zMdl_rc hM
  refine ⟨h1, ?_, m1, k1⟩
  simp (disch := first | exact znw_u | exact znw_i) only [zc_262, zs_262_0, zs_262_1, zs_262_2, zs_262_5, r0, e1, zbk_v, zts_s, List.cons_append, List.nil_append]
end ZQJ

section ZQK
variable {sv : Nat → Value} {d : Nat} {m : Nat} {F : Nat → Int32} {h : zH} {w : yW} {th : Int32} {i j : Nat} {t u : yT} {p : yP} {L : List yT}
/-- whether one of n parts from j on is b -/
def yany (Q : List yP) (b : Option yP) : Nat → Nat → Bool
  | _, 0 => false
  | j, n + 1 => decide (b = Q[j]?) || yany Q b (j + 1) n
theorem e_263i (hm : zMo h m F) (h8 : F 8 = nI p.length) (hl : zLst h (m + 5) (m + 6) p) (hL : yLs p L) {k : Nat} (hk : k < L.length) {l1 l2 l3 l4 : Slot} : ∀ n q (sm : Bool), q + n = L.length → ∃ x : Int32, zrun zP sv (zcall zP sv (d + 5)) 263 25 [.val (.ref m), l1, l2, l3, l4, .val (.int (nI k)), .val (.int (yb sm)), .val (.int (nI q))] [] h = zrun zP sv (zcall zP sv (d + 5)) 263 55 [.val (.ref m), l1, l2, l3, l4, .val (.int (nI k)), .val (.int (yb (sm || yany (L.map ypr) (L.map ypr)[k]? q n))), .val (.int x)] [] h := by
  have h7 : p.length ≤ 700 := by
    obtain ⟨_, _, _, _, _, _, _, _, z⟩ := hl
    exact z
  have hlen := hL.1
  obtain ⟨b, hb⟩ : ∃ b, L[k]? = some b := ⟨_, List.getElem?_eq_getElem hk⟩
  obtain ⟨bw, pre', post', e2, l2'⟩ := hL.2 k b hb
  have hb' : (L.map ypr)[k]? = some (ypr b) := by rw [List.getElem?_map, hb]; rfl
  have hr : ∀ X : zR, zrc (h.1 m) 13 X = X := fun X => zMo_rc hm
  have hm' : h.1 m = (13, zMF m F) := hm
  intro n
  induction n with
  | zero =>
    intro q sm hj
    obtain rfl : q = L.length := by omega
    refine ⟨nI L.length, ?_⟩
    rw [show yany (L.map ypr) (L.map ypr)[k]? L.length 0 = false from rfl, Bool.or_false]
    simp only [zs_263_25, zs_263_27, zs_263_28, zs_263_31, hm', zmf_8, h8, hlen, Int32.lt_irrefl, ↓reduceIte]
  | succ n ih =>
    intro q sm hj
    have g1 : nI q < nI L.length := nI_lt (by omega) (by omega)
    obtain ⟨a, ha⟩ : ∃ a, L[q]? = some a := ⟨_, List.getElem?_eq_getElem (by omega)⟩
    obtain ⟨aw, pre, post, e1, l1'⟩ := hL.2 q a ha
    have ha' : (L.map ypr)[q]? = some (ypr a) := by rw [List.getElem?_map, ha]; rfl
    have E : zcall zP sv (d + 5) 210 [.ref m, .int (nI pre'.length), .int (nI pre.length)] h = _ := e_210 (sv := sv) (d := d + 2) hm bw aw hl e2 e1
    rw [l1', l2'] at E
    cases sm with
    | true =>
      refine ⟨nI q, ?_⟩
      rw [Bool.true_or]
      simp only [zs_263_25, zs_263_27, zs_263_28, zs_263_31, zs_263_34, zs_263_36, yb_t, nI_1e0, hm', zmf_8, h8, hlen, if_pos g1, ↓reduceIte]
    | false =>
      obtain ⟨x, e⟩ := ih (q + 1) (decide (ypr b = ypr a)) (by omega)
      refine ⟨x, ?_⟩
      have hd : (false || yany (L.map ypr) (L.map ypr)[k]? q (n + 1)) = (decide (ypr b = ypr a) || yany (L.map ypr) (L.map ypr)[k]? (q + 1) n) := by
        rw [Bool.false_or]
        show (decide ((L.map ypr)[k]? = (L.map ypr)[q]?) || _) = _
        rw [ha', hb']
        congr 1
        exact decide_eq_decide.mpr (by rw [Option.some.injEq])
      rw [hd, ← e]
      have eb : ∀ b : Bool, zrun zP sv (zcall zP sv (d + 5)) 263 47 [.val (.ref m), l1, l2, l3, l4, .val (.int (nI k)), .val (.int (yb false)), .val (.int (nI q))] [.int (yb b)] h = zrun zP sv (zcall zP sv (d + 5)) 263 25 [.val (.ref m), l1, l2, l3, l4, .val (.int (nI k)), .val (.int (yb b)), .val (.int (nI (q + 1)))] [] h := fun b => by rw [zs_263_47 znw_i, zs_263_49, zs_263_52, nI_1']
      rw [← eb]
      simp (disch := first | exact znw_u | exact znw_i) only [zs_263_0, zs_263_1, zs_263_2, zs_263_3, zs_263_6, zs_263_7, zs_263_8, zs_263_10, zs_263_11, zs_263_13, zs_263_15, zs_263_16, zs_263_19, zs_263_20, zs_263_22, zs_263_23, zs_263_25, zs_263_27, zs_263_28, zs_263_31, zs_263_34, zs_263_36, zs_263_39, zs_263_40, zs_263_42, zs_263_44, zs_263_55, zs_263_57, zs_263_60, zs_263_61, zs_263_63, zs_263_64, zs_263_67, zs_263_70, zs_263_73, zs_263_76, zs_263_79, zs_263_81, hm', zmf_8, h8, hlen, if_pos g1, yb_f, zrc_13v, ↓reduceIte, hr, E, zbk_v, zts_s, List.cons_append, List.nil_append]
/-- how many of the first n parts are first of their kind and among those from s on -/
def ycm (Q : List yP) (s n : Nat) : Nat := (List.range n).countP (fun k => yany Q Q[k]? s (Q.length - s) && yfst Q k)
theorem ycm_s {Q : List yP} {s n : Nat} : ycm Q s (n + 1) = ycm Q s n + (if (yany Q Q[n]? s (Q.length - s) && yfst Q n) = true then 1 else 0) := by
  unfold ycm
  rw [List.range_succ, List.countP_append, List.countP_singleton]
theorem e_263l (hm : zMo h m F) (h8 : F 8 = nI p.length) (hl : zLst h (m + 5) (m + 6) p) (hL : yLs p L) {s : Nat} (hs : s ≤ L.length) {l1 l2 : Slot} : ∀ n j (l6 l7 : Slot), znw l6 = true → znw l7 = true → j + n = s → zrun zP sv (zcall zP sv (d + 5)) 263 13 [.val (.ref m), l1, l2, .val (.int (nI s)), .val (.int (nI (ycm (L.map ypr) s j))), .val (.int (nI j)), l6, l7] [] h = some (.inl (some (.int (nI (ycm (L.map ypr) s s)))), h) := by
  have h7 : p.length ≤ 700 := by
    obtain ⟨_, _, _, _, _, _, _, _, z⟩ := hl
    exact z
  have hlen := hL.1
  have hr : ∀ X : zR, zrc (h.1 m) 13 X = X := fun X => zMo_rc hm
  have hm' : h.1 m = (13, zMF m F) := hm
  intro n
  induction n with
  | zero =>
    intro j l6 l7 w6 w7 hj
    obtain rfl : j = s := by omega
    simp only [zs_263_13, zs_263_15, zs_263_16, zs_263_79, zs_263_81, Int32.lt_irrefl, ↓reduceIte]
  | succ n ih =>
    intro j l6 l7 w6 w7 hj
    have g1 : nI j < nI s := nI_lt (by omega) (by omega)
    have E : zcall zP sv (d + 5) 260 [.ref m, .int (nI j), .int 0] h = _ := e_260 (sv := sv) (d := d) hm hl hL (k := j) (by omega)
    obtain ⟨x, e⟩ := e_263i (sv := sv) (d := d) hm h8 hl hL (k := j) (by omega) (l1 := l1) (l2 := l2) (l3 := .val (.int (nI s))) (l4 := .val (.int (nI (ycm (L.map ypr) s j)))) (L.length - s) s false (by omega)
    rw [Bool.false_or, yb_f] at e
    have i2 := ih (j + 1) (.val (.int (yb (yany (L.map ypr) (L.map ypr)[j]? s (L.length - s))))) (.val (.int x)) znw_i znw_i (by omega)
    rw [← i2, ycm_s, List.length_map]
    have eb : ∀ q z, zrun zP sv (zcall zP sv (d + 5)) 263 73 [.val (.ref m), l1, l2, .val (.int (nI s)), .val (.int (nI q)), .val (.int (nI j)), .val (.int (yb z)), .val (.int x)] [] h = zrun zP sv (zcall zP sv (d + 5)) 263 13 [.val (.ref m), l1, l2, .val (.int (nI s)), .val (.int (nI q)), .val (.int (nI (j + 1))), .val (.int (yb z)), .val (.int x)] [] h := fun q z => by rw [zs_263_73, zs_263_76, nI_1']
    rw [← eb]
    simp (disch := first | exact w6 | exact w7 | exact znw_u | exact znw_i) only [zs_263_13, zs_263_15, zs_263_16, zs_263_19, zs_263_20, zs_263_22, zs_263_23, if_pos g1, e]
    generalize yany (L.map ypr) (L.map ypr)[j]? s (L.length - s) = z
    generalize ycm (L.map ypr) s j = c
    cases z with
    | false => simp only [zs_263_55, zs_263_57, yb_f, Bool.false_and, Bool.false_eq_true, ↓reduceIte, Nat.add_zero]
    | true =>
      cases hd : yfst (L.map ypr) j with
      | true =>
        rw [hd] at E
        simp (disch := first | exact znw_u | exact znw_i) only [zs_263_55, zs_263_57, zs_263_60, zs_263_61, zs_263_63, zs_263_64, zs_263_67, zs_263_70, hr, E, zbk_v, zts_s, yb_t, nI_1e0, nI_1', Bool.and_true, ↓reduceIte, List.cons_append, List.nil_append, zrc_13v]
      | false =>
        rw [hd] at E
        simp (disch := first | exact znw_u | exact znw_i) only [zs_263_55, zs_263_57, zs_263_60, zs_263_61, zs_263_63, zs_263_64, zs_263_67, hr, E, zbk_v, zts_s, yb_t, yb_f, nI_1e0, Bool.and_false, Bool.false_eq_true, Nat.add_zero, ↓reduceIte, List.cons_append, List.nil_append, zrc_13v]
theorem e_263x {x y : Int32} (hM : zMdl h m w th) (hx : (yinF (ycur w) x && yinF (ycur w) y) = false) : zMC m h (zcall zP sv (d + 7) 263 [.ref m, .int x, .int y] h) 0 w (nI 1) := by
  obtain ⟨h1, e1, m1, k1⟩ := e_258x (sv := sv) (d := d) hM hx
  have r0 : ∀ X : zR, zrc (h.1 m) 13 X = X := fun X => zMdl_rc hM
  have c1 : ¬ (0 : Int32) < -1 := by decide +kernel
  refine ⟨h1, ?_, m1, k1⟩
  simp (disch := first | exact znw_u | exact znw_i) only [zc_263, zs_263_0, zs_263_1, zs_263_2, zs_263_3, zs_263_6, zs_263_7, zs_263_8, zs_263_10, zs_263_11, zs_263_13, zs_263_15, zs_263_16, zs_263_79, zs_263_81, r0, e1, zbk_v, zts_s, if_neg c1, List.cons_append, List.nil_append]
theorem e_263 (hM : zMdl h m w th) (hi : (ycur w).1[i]? = some t) (hj : (ycur w).1[j]? = some u) : zMC m h (zcall zP sv (d + 7) 263 [.ref m, .int (nI i), .int (nI j)] h) (nI (ycm ((yts t ++ yts u).map ypr) (ysz t) (ysz t))) w 0 := by
  obtain ⟨h1, e1, m1, k1⟩ := e_258 (sv := sv) (d := d) hM hi hj
  have r0 : ∀ X : zR, zrc (h.1 m) 13 X = X := fun X => zMdl_rc hM
  have hA := zMdl_A hM
  have ht := hA.2.1 t (List.mem_of_getElem? hi)
  have hu := hA.2.1 u (List.mem_of_getElem? hj)
  have mM := zMdP_M m1
  obtain ⟨F, f31, f8, l5, ⟨hm, _⟩, _⟩ := m1
  have E := e_263l (sv := sv) (d := d + 1) hm f8 l5 (yLs_app (yLs_t t (Or.inl ht.1)) (yLs_t u (Or.inl hu.1))) (s := ysz t) (by rw [List.length_append, yts_len]; omega) (l1 := .val (.int (nI i))) (l2 := .val (.int (nI j))) (ysz t) 0 .unset .unset znw_u znw_u (Nat.zero_add _)
  rw [show ycm ((yts t ++ yts u).map ypr) (ysz t) 0 = 0 from rfl, nI_0] at E
  refine ⟨h1, ?_, mM, k1⟩
  simp (disch := first | exact znw_u | exact znw_i) only [zc_263, zs_263_0, zs_263_1, zs_263_2, zs_263_3, zs_263_6, zs_263_7, zs_263_8, zs_263_10, zs_263_11, r0, e1, zbk_v, zts_s, List.cons_append, List.nil_append]
  exact E
end ZQK

section ZQL
variable {sv : Nat → Value} {d : Nat} {m : Nat} {F : Nat → Int32} {h : zH} {w : yW} {th : Int32} {i : Nat} {t : yT}
/-- slopes: of a node from its parts' slopes a, b and values x, y -/
def yst1 (c k v a b x y : Int32) : Int32 := if k = nI 42 then a * y + x * b else if k = nI 118 then (if yva k v = c then nI 1 else 0) else if k = nI 110 then -a else if k = nI 99 then 0 else yop k a b
def ysl (f : Int32 → Int32 → Int32 → Int32 → Int32) (c : Int32) : yT → Int32
  | .leaf => 0
  | .inner _ k v l r => yst1 c k v (ysl f c l) (ysl f c r) (yfo f l) (yfo f r)
def zSl (h : zH) (m : Nat) (s : List Int32) : Prop := ∃ St : List Int32, h.1 (m + 11) = (20, St.map Value.int) ∧ St.length = 700 ∧ St.take s.length = s ∧ s.length ≤ 700
def zsw (m : Nat) (h h' : zH) : Prop := (∀ q, q ≠ m + 11 → h'.1 q = h.1 q) ∧ h'.2 = h.2
theorem zsw_tr {h h' h'' : zH} (h1 : zsw m h h') (h2 : zsw m h' h'') : zsw m h h'' := ⟨fun q a => (h2.1 q a).trans (h1.1 q a), h2.2.trans h1.2⟩
theorem e_214t {l1 l2 l6 l7 : Slot} {s0 args : List Int32} {y : Int32} (hm : zMo h m F) (hs : zSl h m (s0 ++ args)) (hsl : s0.length < 600) (ha : args.length ≤ 2) (hi : i < 700) : ∃ h', zrun zP sv (zcall zP sv (d + 2)) 214 186 [.val (.ref m), l1, l2, .val (.int (nI (s0.length + args.length))), .val (.int (nI i)), .val (.int (nI args.length)), l6, l7, .val (.int y)] [] h = zrun zP sv (zcall zP sv (d + 2)) 214 16 [.val (.ref m), l1, l2, .val (.int (nI (s0.length + 1))), .val (.int (nI i - nI 1)), .val (.int (nI args.length)), l6, l7, .val (.int y)] [] h' ∧ zSl h' m (s0 ++ [y]) ∧ zsw m h h' := by
  obtain ⟨St, b1, b2, b3, b4⟩ := hs
  rw [List.length_append] at b4
  have hm' : h.1 m = (13, zMF m F) := hm
  have z3 : ∀ Kc : zC → zR, zaset (20, St.map Value.int) 20 (nI s0.length) (.int y) Kc = Kc (20, (St.set s0.length y).map Value.int) := fun Kc => zsI (by omega) (by omega)
  have z4 : nI (s0.length + args.length) - nI args.length = nI s0.length := by rw [← nI_add, Int32.add_sub_cancel]
  refine ⟨zup h (m + 11) (20, (St.set s0.length y).map Value.int), ?_, ⟨St.set s0.length y, zup_at, by rw [List.length_set, b2], ?_, by rw [List.length_append]; show s0.length + 1 ≤ 700; omega⟩, ⟨fun q q1 => by rw [zup_ne q1], rfl⟩⟩
  · rw [← nI_mm]
    simp (disch := first | exact znw_i | omega) only [zs_214_186, zs_214_187, zs_214_189, zs_214_190, zs_214_191, zs_214_192, zs_214_195, zs_214_196, zs_214_199, zs_214_201, zs_214_202, zs_214_205, z4, hm', zmf_14, b1, z3, nI_1', zup_ne]
  · have hb : St.take s0.length = s0 := by
      have := congrArg (List.take s0.length) b3
      rw [List.take_take, List.length_append, Nat.min_eq_left (by omega), List.take_left' rfl] at this
      exact this
    rw [show (s0 ++ [y]).length = s0.length + 1 from List.length_append, ytk_set hb (by omega)]
theorem zSl_g {s : List Int32} {x : Int32} (hs : zSl h m (s ++ [x])) (Kv : Value → zR) : zael (h.1 (m + 11)) 20 (nI s.length) Kv = Kv (.int x) := by
  obtain ⟨St, b1, b2, b3, b4⟩ := hs
  rw [List.length_append] at b4
  have b4' : s.length + 1 ≤ 700 := b4
  have hx : St[s.length]? = some x := ytk_at b3 (by rw [List.getElem?_append_right (Nat.le_refl _), Nat.sub_self]; rfl)
  rw [b1]
  exact zaelv (by rw [List.getElem?_map, hx]; rfl) (by omega)
theorem zSl_p {s : List Int32} {x : Int32} (hs : zSl h m (s ++ [x])) : zSl h m s := by
  obtain ⟨St, b1, b2, b3, b4⟩ := hs
  rw [List.length_append] at b4
  refine ⟨St, b1, b2, ?_, by omega⟩
  have := congrArg (List.take s.length) b3
  rw [List.take_take, List.length_append, Nat.min_eq_left (by omega), List.take_left' rfl] at this
  exact this
end ZQL

section ZQM
variable {sv : Nat → Value} {d : Nat} {m : Nat} {F : Nat → Int32} {w : yW} {th : Int32} {i : Nat} {t : yT}
theorem yfs_hd {f : Int32 → Int32 → Int32 → Int32 → Int32} {l : yT} {Fd : List Int32} {q : Nat} (hl : ytw l = true) (hg : (Fd.drop q).take (ysz l) = yfs f l) : Fd[q]? = some (yfo f l) := by
  cases l with
  | leaf => cases hl
  | inner n k v a b =>
    have h1 : ((Fd.drop q).take (ysz a + ysz b + 1))[0]? = some (yfo f (.inner n k v a b)) := by
      rw [show (Fd.drop q).take (ysz a + ysz b + 1) = yfs f (.inner n k v a b) from hg]
      rfl
    rw [List.getElem?_take_of_lt (by omega), List.getElem?_drop, Nat.add_zero] at h1
    exact h1
theorem ydt_l {A B : List Int32} {Fd : List Int32} {q a b : Nat} {x : Int32} (h : (Fd.drop q).take (a + b + 1) = x :: (A ++ B)) (ha : A.length = a) (hb : B.length = b) : (Fd.drop (q + 1)).take a = A ∧ (Fd.drop (q + 1 + a)).take b = B := by
  have h1 := congrArg (List.drop 1) h
  rw [List.drop_take, List.drop_drop, List.drop_succ_cons, List.drop_zero, Nat.add_sub_cancel] at h1
  constructor
  · have h2 := congrArg (List.take a) h1
    rw [List.take_take, Nat.min_eq_left (by omega), List.take_left' ha] at h2
    exact h2
  · have h2 := congrArg (List.drop a) h1
    rw [List.drop_take, List.drop_drop, List.drop_left' ha, Nat.add_sub_cancel_left] at h2
    exact h2
theorem nI_a1 {n : Nat} : nI n + nI 1 = nI (n + 1) := nI_add n 1
theorem e_214l {f : Int32 → Int32 → Int32 → Int32 → Int32} {c : Int32} {l2 : Slot} : ∀ (t : yT), ytw t = true → ∀ (pre post : yP) (s Fd : List Int32) (h : zH) (s5 s6 s7 s8 : Slot), znw s5 = true → znw s6 = true → znw s7 = true → znw s8 = true → zMo h m F → zLst h (m + 5) (m + 6) (pre ++ ypr t ++ post) → h.1 (m + 9) = (20, Fd.map Value.int) → Fd.length = 700 → (Fd.drop pre.length).take (ysz t) = yfs f t → zSl h m s → s.length + ysz t < 600 → ∃ h' r5 r6 r7 r8, zrun zP sv (zcall zP sv (d + 2)) 214 16 [.val (.ref m), .val (.int c), l2, .val (.int (nI s.length)), .val (.int (nI (pre.length + ysz t) - nI 1)), s5, s6, s7, s8] [] h = zrun zP sv (zcall zP sv (d + 2)) 214 16 [.val (.ref m), .val (.int c), l2, .val (.int (nI (s.length + 1))), .val (.int (nI pre.length - nI 1)), r5, r6, r7, r8] [] h' ∧ znw r5 = true ∧ znw r6 = true ∧ znw r7 = true ∧ znw r8 = true ∧ zSl h' m (s ++ [ysl f c t]) ∧ zsw m h h'
  | .leaf, ht => by cases ht
  | .inner z k v l r, ht => by
    intro pre post s Fd h s5 s6 s7 s8 h5 h6 h7 h8 hm hl hN hNl hg hs hlen
    have hlen' : s.length + (ysz l + ysz r + 1) < 600 := hlen
    have e0 : pre ++ ypr (.inner z k v l r) ++ post = pre ++ (k, yva k v) :: (ypr l ++ ypr r ++ post) := by
      show pre ++ (k, yva k v) :: (ypr l ++ ypr r) ++ post = _
      rw [List.append_assoc]; rfl
    have hi : (pre ++ (k, yva k v) :: (ypr l ++ ypr r ++ post))[pre.length]? = some (k, yva k v) := by
      rw [List.getElem?_append_right (Nat.le_refl _), Nat.sub_self]; rfl
    rw [e0] at hl
    have ea : pre ++ (k, yva k v) :: (ypr l ++ ypr r ++ post) = (pre ++ [(k, yva k v)]) ++ ypr l ++ (ypr r ++ post) := by
      rw [List.append_assoc, List.append_assoc, List.append_assoc]; rfl
    have eb : pre ++ (k, yva k v) :: (ypr l ++ ypr r ++ post) = (pre ++ [(k, yva k v)] ++ ypr l) ++ ypr r ++ post := by
      rw [ea]
      simp only [List.append_assoc]
    have l1 : (pre ++ [(k, yva k v)]).length = pre.length + 1 := List.length_append
    have l2' : (pre ++ [(k, yva k v)] ++ ypr l).length = pre.length + 1 + ysz l := by rw [List.length_append, l1, ypr_len]
    have hg' : (Fd.drop pre.length).take (ysz l + ysz r + 1) = yfo f (.inner z k v l r) :: (yfs f l ++ yfs f r) := hg
    obtain ⟨gl, gr⟩ := ydt_l hg' (yfs_len l) (yfs_len r)
    have fwl : ∀ h', zsw m h h' → zMo h' m F ∧ zLst h' (m + 5) (m + 6) (pre ++ (k, yva k v) :: (ypr l ++ ypr r ++ post)) ∧ h'.1 (m + 9) = (20, Fd.map Value.int) := fun h' q => ⟨by unfold zMo at hm ⊢; rw [q.1 m (by omega), hm], zLst_cg hl (q.1 _ (by omega)) (q.1 _ (by omega)), by rw [q.1 _ (by omega), hN]⟩
    have hil : pre.length < 700 := (e_look hl hi).choose_spec.choose_spec.2.2.2.2
    have hki : ¬ nI pre.length < 0 := nI_pos (by omega)
    have g01 : ((0 : Int32) < nI 1) = True := by decide +kernel
    have g00 : ((0 : Int32) < 0) = False := by decide +kernel
    have g02 : ((0 : Int32) < nI 2) = True := by decide +kernel
    have g10 : ((nI 1 : Int32) < 0) = False := by decide +kernel
    have g11 : ((nI 1 : Int32) < nI 1) = False := by decide +kernel
    have g12 : ((nI 1 : Int32) < nI 2) = True := by decide +kernel
    have q02 : ((0 : Int32) = nI 2) = False := by decide +kernel
    have q12 : ((nI 1 : Int32) = nI 2) = False := by decide +kernel
    have q99 : (nI 99 = nI 118) = False := by decide +kernel
    have q98 : (nI 99 = nI 110) = False := by decide +kernel
    have q97 : (nI 118 = nI 110) = False := by decide +kernel
    have q96 : (nI 110 = nI 118) = False := by decide +kernel
    have q95 : ¬ nI 99 = nI 42 := by decide +kernel
    have q94 : ¬ nI 118 = nI 42 := by decide +kernel
    have q93 : ¬ nI 110 = nI 42 := by decide +kernel
    rcases ytw_el ht with g0 | g0 | g0 | g0
    · obtain ⟨g1, g2, g3⟩ := g0
      subst g1 g2 g3
      obtain ⟨A, B, a1, a2, a3, a4, a5⟩ := e_look hl hi
      have hm' : h.1 m = (13, zMF m F) := hm
      obtain ⟨h', e, o1, o2⟩ := e_214t (sv := sv) (d := d) (h := h) (i := pre.length) (l1 := .val (.int c)) (l2 := l2) (l6 := .val (.int 0)) (l7 := .val (.int 0)) (s0 := s) (args := []) (y := 0) hm (by rw [List.append_nil]; exact hs) (by omega) (by decide) (by omega)
      refine ⟨h', .val (.int (nI ([] : List Int32).length)), .val (.int 0), .val (.int 0), .val (.int 0), ?_, rfl, rfl, rfl, rfl, ?_, o2⟩
      · rw [← e]
        rw [show pre.length + ysz (.inner z (nI 99) v .leaf .leaf) = pre.length + 1 from rfl, nI_m, List.length_nil, Nat.add_zero]
        simp (disch := first | exact h5 | exact h6 | exact h7 | exact h8 | exact znw_i) only [zs_214_0, zs_214_1, zs_214_2, zs_214_5, zs_214_6, zs_214_7, zs_214_8, zs_214_9, zs_214_12, zs_214_13, zs_214_14, zs_214_18, zs_214_21, zs_214_22, zs_214_25, zs_214_27, zs_214_28, zs_214_31, zs_214_33, zs_214_35, zs_214_38, zs_214_39, zs_214_42, zs_214_43, zs_214_44, zs_214_45, zs_214_46, zs_214_49, zs_214_50, zs_214_52, zs_214_54, zs_214_55, zs_214_58, zs_214_59, zs_214_62, zs_214_63, zs_214_64, zs_214_65, zs_214_66, zs_214_69, zs_214_70, zs_214_72, zs_214_73, zs_214_76, zs_214_78, zs_214_79, zs_214_81, zs_214_84, zs_214_85, zs_214_88, zs_214_90, zs_214_91, zs_214_92, zs_214_95, zs_214_96, zs_214_99, zs_214_100, zs_214_103, zs_214_105, zs_214_106, zs_214_108, zs_214_111, zs_214_113, zs_214_114, zs_214_117, zs_214_118, zs_214_120, zs_214_122, zs_214_123, zs_214_126, zs_214_127, zs_214_130, zs_214_132, zs_214_133, zs_214_135, zs_214_138, zs_214_140, zs_214_141, zs_214_144, zs_214_145, zs_214_147, zs_214_148, zs_214_149, zs_214_152, zs_214_153, zs_214_154, zs_214_155, zs_214_158, zs_214_160, zs_214_161, zs_214_162, zs_214_163, zs_214_165, zs_214_166, zs_214_167, zs_214_170, zs_214_171, zs_214_174, zs_214_176, zs_214_177, zs_214_179, zs_214_181, zs_214_184, zs_214_187, zs_214_189, zs_214_190, zs_214_191, zs_214_192, zs_214_195, zs_214_196, zs_214_199, zs_214_201, zs_214_202, zs_214_205, zs_214_208, zs_214_209, zs_214_212, zs_214_213, zs_214_214, zs_214_16, if_neg hki, hm', zmf_6, a1, a3, e_205, yar_c, nI_0, Nat.add_zero, g00, g10, q02, q99, q98, zrc_13v, zbk_v, zts_s, ↓reduceIte, List.cons_append, List.nil_append]
      · show zSl h' m (s ++ [yst1 c (nI 99) v 0 0 0 0])
        unfold yst1
        simp only [if_neg q95, q99, q98, ↓reduceIte]
        exact o1
    · obtain ⟨g1, glet, g2, g3⟩ := g0
      subst g1 g2 g3
      obtain ⟨A, B, a1, a2, a3, a4, a5⟩ := e_look hl hi
      have hm' : h.1 m = (13, zMF m F) := hm
      obtain ⟨h', e, o1, o2⟩ := e_214t (sv := sv) (d := d) (h := h) (i := pre.length) (l1 := .val (.int c)) (l2 := l2) (l6 := .val (.int 0)) (l7 := .val (.int 0)) (s0 := s) (args := []) (y := if yva (nI 118) v = c then nI 1 else 0) hm (by rw [List.append_nil]; exact hs) (by omega) (by decide) (by omega)
      refine ⟨h', .val (.int (nI ([] : List Int32).length)), .val (.int 0), .val (.int 0), .val (.int (if yva (nI 118) v = c then nI 1 else 0)), ?_, rfl, rfl, rfl, znw_i, ?_, o2⟩
      · rw [← e]
        rw [show pre.length + ysz (.inner z (nI 118) v .leaf .leaf) = pre.length + 1 from rfl, nI_m, List.length_nil, Nat.add_zero]
        by_cases hv : yva (nI 118) v = c
        · rw [if_pos hv]
          simp (disch := first | exact h5 | exact h6 | exact h7 | exact h8 | exact znw_i) only [zs_214_0, zs_214_1, zs_214_2, zs_214_5, zs_214_6, zs_214_7, zs_214_8, zs_214_9, zs_214_12, zs_214_13, zs_214_14, zs_214_18, zs_214_21, zs_214_22, zs_214_25, zs_214_27, zs_214_28, zs_214_31, zs_214_33, zs_214_35, zs_214_38, zs_214_39, zs_214_42, zs_214_43, zs_214_44, zs_214_45, zs_214_46, zs_214_49, zs_214_50, zs_214_52, zs_214_54, zs_214_55, zs_214_58, zs_214_59, zs_214_62, zs_214_63, zs_214_64, zs_214_65, zs_214_66, zs_214_69, zs_214_70, zs_214_72, zs_214_73, zs_214_76, zs_214_78, zs_214_79, zs_214_81, zs_214_84, zs_214_85, zs_214_88, zs_214_90, zs_214_91, zs_214_92, zs_214_95, zs_214_96, zs_214_99, zs_214_100, zs_214_103, zs_214_105, zs_214_106, zs_214_108, zs_214_111, zs_214_113, zs_214_114, zs_214_117, zs_214_118, zs_214_120, zs_214_122, zs_214_123, zs_214_126, zs_214_127, zs_214_130, zs_214_132, zs_214_133, zs_214_135, zs_214_138, zs_214_140, zs_214_141, zs_214_144, zs_214_145, zs_214_147, zs_214_148, zs_214_149, zs_214_152, zs_214_153, zs_214_154, zs_214_155, zs_214_158, zs_214_160, zs_214_161, zs_214_162, zs_214_163, zs_214_165, zs_214_166, zs_214_167, zs_214_170, zs_214_171, zs_214_174, zs_214_176, zs_214_177, zs_214_179, zs_214_181, zs_214_184, zs_214_187, zs_214_189, zs_214_190, zs_214_191, zs_214_192, zs_214_195, zs_214_196, zs_214_199, zs_214_201, zs_214_202, zs_214_205, zs_214_208, zs_214_209, zs_214_212, zs_214_213, zs_214_214, zs_214_16, if_neg hki, hm', zmf_6, zmf_7, a1, a2, a3, a4, e_205, yar_v, nI_0, Nat.add_zero, g00, g10, q02, if_pos hv, zrc_13v, zbk_v, zts_s, ↓reduceIte, List.cons_append, List.nil_append]
        · rw [if_neg hv]
          simp (disch := first | exact h5 | exact h6 | exact h7 | exact h8 | exact znw_i) only [zs_214_0, zs_214_1, zs_214_2, zs_214_5, zs_214_6, zs_214_7, zs_214_8, zs_214_9, zs_214_12, zs_214_13, zs_214_14, zs_214_18, zs_214_21, zs_214_22, zs_214_25, zs_214_27, zs_214_28, zs_214_31, zs_214_33, zs_214_35, zs_214_38, zs_214_39, zs_214_42, zs_214_43, zs_214_44, zs_214_45, zs_214_46, zs_214_49, zs_214_50, zs_214_52, zs_214_54, zs_214_55, zs_214_58, zs_214_59, zs_214_62, zs_214_63, zs_214_64, zs_214_65, zs_214_66, zs_214_69, zs_214_70, zs_214_72, zs_214_73, zs_214_76, zs_214_78, zs_214_79, zs_214_81, zs_214_84, zs_214_85, zs_214_88, zs_214_90, zs_214_91, zs_214_92, zs_214_95, zs_214_96, zs_214_99, zs_214_100, zs_214_103, zs_214_105, zs_214_106, zs_214_108, zs_214_111, zs_214_113, zs_214_114, zs_214_117, zs_214_118, zs_214_120, zs_214_122, zs_214_123, zs_214_126, zs_214_127, zs_214_130, zs_214_132, zs_214_133, zs_214_135, zs_214_138, zs_214_140, zs_214_141, zs_214_144, zs_214_145, zs_214_147, zs_214_148, zs_214_149, zs_214_152, zs_214_153, zs_214_154, zs_214_155, zs_214_158, zs_214_160, zs_214_161, zs_214_162, zs_214_163, zs_214_165, zs_214_166, zs_214_167, zs_214_170, zs_214_171, zs_214_174, zs_214_176, zs_214_177, zs_214_179, zs_214_181, zs_214_184, zs_214_187, zs_214_189, zs_214_190, zs_214_191, zs_214_192, zs_214_195, zs_214_196, zs_214_199, zs_214_201, zs_214_202, zs_214_205, zs_214_208, zs_214_209, zs_214_212, zs_214_213, zs_214_214, zs_214_16, if_neg hki, hm', zmf_6, zmf_7, a1, a2, a3, a4, e_205, yar_v, nI_0, Nat.add_zero, g00, g10, q02, q97, if_neg hv, zrc_13v, zbk_v, zts_s, ↓reduceIte, List.cons_append, List.nil_append]
      · show zSl h' m (s ++ [yst1 c (nI 118) v 0 0 0 0])
        unfold yst1
        simp only [if_neg q94, ↓reduceIte]
        exact o1
    · obtain ⟨g1, gv, g2, g3⟩ := g0
      subst g1 gv g3
      have hl1 := hl
      rw [ea] at hl1
      obtain ⟨h1, u5, u6, u7, u8, e1, p5, p6, p7, p8, p9, p10⟩ := e_214l (f := f) (c := c) (l2 := l2) l g2 _ _ s Fd h s5 s6 s7 s8 h5 h6 h7 h8 hm hl1 hN hNl (by rw [l1]; exact gl) hs (by omega)
      rw [l1] at e1
      obtain ⟨hm2, hl2, hN2⟩ := fwl h1 p10
      obtain ⟨A, B, a1, a2, a3, a4, a5⟩ := e_look hl2 hi
      have hm' : h1.1 m = (13, zMF m F) := hm2
      have z1 := zSl_g p9
      obtain ⟨h', e, o1, o2⟩ := e_214t (sv := sv) (d := d) (h := h1) (i := pre.length) (l1 := .val (.int c)) (l2 := l2) (l6 := .val (.int (ysl f c l))) (l7 := .val (.int 0)) (s0 := s) (args := [ysl f c l]) (y := -(ysl f c l)) hm2 p9 (by omega) (Nat.le_succ 1) (by omega)
      refine ⟨h', .val (.int (nI [ysl f c l].length)), .val (.int (ysl f c l)), .val (.int 0), .val (.int (-(ysl f c l))), ?_, rfl, rfl, rfl, rfl, ?_, zsw_tr p10 o2⟩
      · rw [← e]
        rw [show pre.length + ysz (.inner z (nI 110) 0 l .leaf) = pre.length + 1 + ysz l by show pre.length + (ysz l + 0 + 1) = _; omega]
        refine e1.trans ?_
        rw [nI_m, show [ysl f c l].length = 1 from rfl]
        simp (disch := first | exact p5 | exact p6 | exact p7 | exact p8 | exact znw_i) only [zs_214_0, zs_214_1, zs_214_2, zs_214_5, zs_214_6, zs_214_7, zs_214_8, zs_214_9, zs_214_12, zs_214_13, zs_214_14, zs_214_18, zs_214_21, zs_214_22, zs_214_25, zs_214_27, zs_214_28, zs_214_31, zs_214_33, zs_214_35, zs_214_38, zs_214_39, zs_214_42, zs_214_43, zs_214_44, zs_214_45, zs_214_46, zs_214_49, zs_214_50, zs_214_52, zs_214_54, zs_214_55, zs_214_58, zs_214_59, zs_214_62, zs_214_63, zs_214_64, zs_214_65, zs_214_66, zs_214_69, zs_214_70, zs_214_72, zs_214_73, zs_214_76, zs_214_78, zs_214_79, zs_214_81, zs_214_84, zs_214_85, zs_214_88, zs_214_90, zs_214_91, zs_214_92, zs_214_95, zs_214_96, zs_214_99, zs_214_100, zs_214_103, zs_214_105, zs_214_106, zs_214_108, zs_214_111, zs_214_113, zs_214_114, zs_214_117, zs_214_118, zs_214_120, zs_214_122, zs_214_123, zs_214_126, zs_214_127, zs_214_130, zs_214_132, zs_214_133, zs_214_135, zs_214_138, zs_214_140, zs_214_141, zs_214_144, zs_214_145, zs_214_147, zs_214_148, zs_214_149, zs_214_152, zs_214_153, zs_214_154, zs_214_155, zs_214_158, zs_214_160, zs_214_161, zs_214_162, zs_214_163, zs_214_165, zs_214_166, zs_214_167, zs_214_170, zs_214_171, zs_214_174, zs_214_176, zs_214_177, zs_214_179, zs_214_181, zs_214_184, zs_214_187, zs_214_189, zs_214_190, zs_214_191, zs_214_192, zs_214_195, zs_214_196, zs_214_199, zs_214_201, zs_214_202, zs_214_205, zs_214_208, zs_214_209, zs_214_212, zs_214_213, zs_214_214, zs_214_16, if_neg hki, hm', zmf_6, zmf_14, a1, a3, z1, nI_m, e_205, yar_n, g01, g11, q12, q96, zrc_13v, zbk_v, zts_s, ↓reduceIte, List.cons_append, List.nil_append]
      · show zSl h' m (s ++ [yst1 c (nI 110) 0 (ysl f c l) 0 (yfo f l) 0])
        unfold yst1
        simp only [if_neg q93, q96, ↓reduceIte]
        exact o1
    · obtain ⟨gk, gv, g2, g3⟩ := g0
      subst gv
      have hl1 := hl
      rw [eb] at hl1
      obtain ⟨h1, u5, u6, u7, u8, e1, p5, p6, p7, p8, p9, p10⟩ := e_214l (f := f) (c := c) (l2 := l2) r g3 _ _ s Fd h s5 s6 s7 s8 h5 h6 h7 h8 hm hl1 hN hNl (by rw [l2']; exact gr) hs (by omega)
      rw [l2'] at e1
      obtain ⟨hm2, hl2, hN2⟩ := fwl h1 p10
      have hl2'' := hl2
      rw [ea] at hl2''
      have ls : (s ++ [ysl f c r]).length = s.length + 1 := List.length_append
      obtain ⟨h2, x5, x6, x7, x8, e2, o5, o6, o7, o8, o9, o10⟩ := e_214l (f := f) (c := c) (l2 := l2) l g2 _ _ (s ++ [ysl f c r]) Fd h1 u5 u6 u7 u8 p5 p6 p7 p8 hm2 hl2'' hN2 hNl (by rw [l1]; exact gl) p9 (by rw [ls]; omega)
      rw [l1, ls] at e2
      obtain ⟨hm3, hl3, hN3⟩ := fwl h2 (zsw_tr p10 o10)
      obtain ⟨A, B, a1, a2, a3, a4, a5⟩ := e_look hl3 hi
      have hm' : h2.1 m = (13, zMF m F) := hm3
      have z1 := zSl_g o9
      rw [ls] at z1
      have z2 := zSl_g (zSl_p o9)
      have m2 : nI (s.length + 1 + 1) - nI 2 = nI s.length := by rw [show s.length + 1 + 1 = s.length + 2 by omega, ← nI_add, Int32.add_sub_cancel]
      have hk9 : ¬ k = nI 118 := fun q => by rw [q] at gk; exact absurd gk (by decide +kernel)
      have hk8 : ¬ k = nI 110 := fun q => by rw [q] at gk; exact absurd gk (by decide +kernel)
      have hk7 : ¬ k = nI 99 := fun q => by rw [q] at gk; exact absurd gk (by decide +kernel)
      have ay := yar_o gk
      have o9' : zSl h2 m (s ++ [ysl f c r, ysl f c l]) := by
        rw [show s ++ [ysl f c r, ysl f c l] = s ++ [ysl f c r] ++ [ysl f c l] by rw [List.append_assoc]; rfl]
        exact o9
      obtain ⟨h', e, v1, v2⟩ := e_214t (sv := sv) (d := d) (h := h2) (i := pre.length) (l1 := .val (.int c)) (l2 := l2) (l6 := .val (.int (ysl f c l))) (l7 := .val (.int (ysl f c r))) (s0 := s) (args := [ysl f c r, ysl f c l]) (y := yst1 c k 0 (ysl f c l) (ysl f c r) (yfo f l) (yfo f r)) hm3 o9' (by omega) (Nat.le_refl 2) (by omega)
      refine ⟨h', .val (.int (nI [ysl f c r, ysl f c l].length)), .val (.int (ysl f c l)), .val (.int (ysl f c r)), .val (.int (yst1 c k 0 (ysl f c l) (ysl f c r) (yfo f l) (yfo f r))), ?_, rfl, rfl, rfl, rfl, v1, zsw_tr (zsw_tr p10 o10) v2⟩
      rw [← e]
      rw [show pre.length + ysz (.inner z k 0 l r) = pre.length + 1 + ysz l + ysz r by show pre.length + (ysz l + ysz r + 1) = _; omega]
      refine e1.trans (e2.trans ?_)
      rw [show [ysl f c r, ysl f c l].length = 2 from rfl, nI_m]
      by_cases hs2 : k = nI 42
      · subst hs2
        have hl3' := hl3
        rw [ea] at hl3'
        have E9 : zcall zP sv (d + 2) 209 [.ref m, .int (nI (pre ++ [(nI 42, yva (nI 42) 0)]).length)] h2 = _ := e_209 (sv := sv) (d := d) hm3 g2 hl3'
        rw [l1] at E9
        have f1 : ∀ Kv, zael (20, Fd.map Value.int) 20 (nI (pre.length + 1)) Kv = Kv (.int (yfo f l)) := fun Kv => zaelv (by rw [List.getElem?_map, yfs_hd g2 gl]; rfl) (by omega)
        have hb5 : pre.length + 1 + ysz l < 2 ^ 31 := by omega
        have f2 : ∀ Kv, zael (20, Fd.map Value.int) 20 (nI (pre.length + 1 + ysz l)) Kv = Kv (.int (yfo f r)) := fun Kv => zaelv (by rw [List.getElem?_map, yfs_hd g3 gr]; rfl) hb5
        unfold yst1
        simp (disch := first | exact o5 | exact o6 | exact o7 | exact o8 | exact znw_i) only [zs_214_0, zs_214_1, zs_214_2, zs_214_5, zs_214_6, zs_214_7, zs_214_8, zs_214_9, zs_214_12, zs_214_13, zs_214_14, zs_214_18, zs_214_21, zs_214_22, zs_214_25, zs_214_27, zs_214_28, zs_214_31, zs_214_33, zs_214_35, zs_214_38, zs_214_39, zs_214_42, zs_214_43, zs_214_44, zs_214_45, zs_214_46, zs_214_49, zs_214_50, zs_214_52, zs_214_54, zs_214_55, zs_214_58, zs_214_59, zs_214_62, zs_214_63, zs_214_64, zs_214_65, zs_214_66, zs_214_69, zs_214_70, zs_214_72, zs_214_73, zs_214_76, zs_214_78, zs_214_79, zs_214_81, zs_214_84, zs_214_85, zs_214_88, zs_214_90, zs_214_91, zs_214_92, zs_214_95, zs_214_96, zs_214_99, zs_214_100, zs_214_103, zs_214_105, zs_214_106, zs_214_108, zs_214_111, zs_214_113, zs_214_114, zs_214_117, zs_214_118, zs_214_120, zs_214_122, zs_214_123, zs_214_126, zs_214_127, zs_214_130, zs_214_132, zs_214_133, zs_214_135, zs_214_138, zs_214_140, zs_214_141, zs_214_144, zs_214_145, zs_214_147, zs_214_148, zs_214_149, zs_214_152, zs_214_153, zs_214_154, zs_214_155, zs_214_158, zs_214_160, zs_214_161, zs_214_162, zs_214_163, zs_214_165, zs_214_166, zs_214_167, zs_214_170, zs_214_171, zs_214_174, zs_214_176, zs_214_177, zs_214_179, zs_214_181, zs_214_184, zs_214_187, zs_214_189, zs_214_190, zs_214_191, zs_214_192, zs_214_195, zs_214_196, zs_214_199, zs_214_201, zs_214_202, zs_214_205, zs_214_208, zs_214_209, zs_214_212, zs_214_213, zs_214_214, zs_214_16, if_neg hki, hm', zmf_6, zmf_12, zmf_14, a1, a3, z1, z2, m2, nI_m, e_205, ay, g02, g12, hk9, hk8, hN3, f1, f2, E9, nI_a1, zrc_13v, zbk_v, zts_s, ↓reduceIte, List.cons_append, List.nil_append]
      · have E1 : ∀ a b, zcall zP sv (d + 2) 211 [.int k, .int a, .int b] h2 = some (.inl (some (.int (yop k a b))), h2) := fun a b => e_211 (d := d + 1) gk
        unfold yst1
        simp (disch := first | exact o5 | exact o6 | exact o7 | exact o8 | exact znw_i) only [zs_214_0, zs_214_1, zs_214_2, zs_214_5, zs_214_6, zs_214_7, zs_214_8, zs_214_9, zs_214_12, zs_214_13, zs_214_14, zs_214_18, zs_214_21, zs_214_22, zs_214_25, zs_214_27, zs_214_28, zs_214_31, zs_214_33, zs_214_35, zs_214_38, zs_214_39, zs_214_42, zs_214_43, zs_214_44, zs_214_45, zs_214_46, zs_214_49, zs_214_50, zs_214_52, zs_214_54, zs_214_55, zs_214_58, zs_214_59, zs_214_62, zs_214_63, zs_214_64, zs_214_65, zs_214_66, zs_214_69, zs_214_70, zs_214_72, zs_214_73, zs_214_76, zs_214_78, zs_214_79, zs_214_81, zs_214_84, zs_214_85, zs_214_88, zs_214_90, zs_214_91, zs_214_92, zs_214_95, zs_214_96, zs_214_99, zs_214_100, zs_214_103, zs_214_105, zs_214_106, zs_214_108, zs_214_111, zs_214_113, zs_214_114, zs_214_117, zs_214_118, zs_214_120, zs_214_122, zs_214_123, zs_214_126, zs_214_127, zs_214_130, zs_214_132, zs_214_133, zs_214_135, zs_214_138, zs_214_140, zs_214_141, zs_214_144, zs_214_145, zs_214_147, zs_214_148, zs_214_149, zs_214_152, zs_214_153, zs_214_154, zs_214_155, zs_214_158, zs_214_160, zs_214_161, zs_214_162, zs_214_163, zs_214_165, zs_214_166, zs_214_167, zs_214_170, zs_214_171, zs_214_174, zs_214_176, zs_214_177, zs_214_179, zs_214_181, zs_214_184, zs_214_187, zs_214_189, zs_214_190, zs_214_191, zs_214_192, zs_214_195, zs_214_196, zs_214_199, zs_214_201, zs_214_202, zs_214_205, zs_214_208, zs_214_209, zs_214_212, zs_214_213, zs_214_214, zs_214_16, if_neg hki, hm', zmf_6, zmf_12, zmf_14, a1, a3, z1, z2, m2, nI_m, e_205, ay, g02, g12, hk9, hk8, hk7, if_neg hs2, E1, zrc_13v, zbk_v, zts_s, ↓reduceIte, List.cons_append, List.nil_append]
end ZQM

section ZQT
variable {sv : Nat → Value} {d : Nat} {m : Nat} {h : zH} {w : yW} {th : Int32} {i : Nat} {t : yT}
theorem e_214 {c : Int32} (hM : zMdL h m w t) : ∃ (h' : zH) (N : List Int32), zcall zP sv (d + 4) 214 [.ref m, .int c] h = some (.inl (some (.int (ysl (ymf 0 N) c t))), h') ∧ yNow N (ycur w) ∧ zMdL h' m w t ∧ zmw m h h' := by
  have r0 : ∀ X : zR, zrc (h.1 m) 13 X = X := fun X => zMdL_rc hM
  obtain ⟨h1, N, e1, hN, hn, m1, k1, ⟨St, Fd, _, d1, d2, d3, d4⟩, fw⟩ := zMdL_f (sv := sv) (d := d) (k := 0) (by decide) hM
  rw [yfs_len] at d3
  rw [nI_0] at e1
  obtain ⟨F, f31, f8, l5, hw, hT, hr, hA, ht⟩ := m1
  obtain ⟨hm, ⟨N1, hN1, hn1⟩, hs⟩ := id hw
  have hm' : h1.1 m = (13, zMF m F) := hm
  obtain ⟨_, ⟨p1, l7⟩, hsf, ⟨S11, c2, c2'⟩, c3, c4, c5, c6⟩ := id hs
  have hl0 : zLst h1 (m + 5) (m + 6) ([] ++ ypr t ++ []) := by rw [List.nil_append, List.append_nil]; exact l5
  obtain ⟨h2, r5, r6, r7, r8, e2, q5, q6, q7, q8, q9, q10⟩ := e_214l (sv := sv) (d := d + 1) (f := ymf 0 N) (c := c) (l2 := .val (.int (yfo (ymf 0 N) t))) t ht.1 [] [] [] Fd h1 .unset .unset .unset .unset znw_u znw_u znw_u znw_u hm hl0 d1 d2 d3 ⟨S11, c2, c2', rfl, Nat.zero_le _⟩ (by have := ht.2.1; show 0 + ysz t < 600; omega)
  have l0 : ([] : yP).length = 0 := rfl
  rw [List.length_nil, l0, Nat.zero_add, nI_0] at e2
  have g0 : (0 - nI 1 : Int32) < 0 := by decide +kernel
  have g2 : h2.1 m = (13, zMF m F) := by rw [q10.1 m (by omega), hm']
  have gS := zSl_g (s := []) q9
  rw [List.length_nil, nI_0] at gS
  have fr : ∀ q, q ≠ m + 11 → h2.1 q = h1.1 q := q10.1
  obtain ⟨S2, s1, s2, _⟩ := q9
  refine ⟨h2, N, ?_, hn, ⟨F, f31, f8, zLst_cg l5 (fr _ (by omega)) (fr _ (by omega)), ⟨g2, ⟨N1, zTab_cg hN1 (fr _ (by omega)), hn1⟩, ⟨⟨_, zLst_cg l5 (fr _ (by omega)) (fr _ (by omega))⟩, ⟨p1, zLst_cg l7 (fr _ (by omega)) (fr _ (by omega))⟩, ?_, ⟨S2, s1, s2⟩, zArr_cg c3 (fr _ (by omega)), zArr_cg c4 (fr _ (by omega)), zArr_cg c5 (fr _ (by omega)), zArr_cg c6 (fr _ (by omega))⟩⟩, ?_, zRst_cg hr ⟨rfl, rfl, rfl, rfl, rfl⟩ (fr _ (by omega)) (fr _ (by omega)) (fr _ (by omega)) (fr _ (by omega)), hA, ht⟩, zmw_tr k1 ⟨fun q hq => fr q (by omega), q10.2⟩⟩
  · simp (disch := first | exact znw_u | exact znw_i) only [zc_214, zs_214_0, zs_214_1, zs_214_2, zs_214_5, zs_214_6, zs_214_7, zs_214_8, zs_214_9, zs_214_12, zs_214_13, zs_214_14, r0, e1, zbk_v, zts_s, hm', zmf_8, f8, List.cons_append, List.nil_append]
    rw [e2]
    simp only [zs_214_16, zs_214_18, if_pos g0, zs_214_208, zs_214_209, zs_214_212, zs_214_213, zs_214_214, g2, zmf_14, gS]
  · obtain ⟨St3, Fd3, s1', s2', s3', s4'⟩ := hsf
    exact ⟨St3, Fd3, by rw [fr _ (by omega), s1'], s2', by rw [fr _ (by omega), s3'], s4'⟩
  · obtain ⟨T, hT⟩ := hT
    exact ⟨T, zTab_cg hT (fr _ (by omega))⟩
theorem e_266x {x c : Int32} (hM : zMdl h m w th) (hx : yinF (ycur w) x = false) : zMC m h (zcall zP sv (d + 7) 266 [.ref m, .int x, .int c] h) 0 w (nI 1) := by
  obtain ⟨h1, e1, m1, k1⟩ := e_252x (sv := sv) (d := d) hM hx
  have r0 : ∀ X : zR, zrc (h.1 m) 13 X = X := fun X => zMdl_rc hM
  refine ⟨h1, ?_, m1, k1⟩
  simp only [zc_266, zs_266_0, zs_266_1, zs_266_2, zs_266_5, zs_266_8, zs_266_9, zs_266_10, zs_266_11, zs_266_14, zs_266_17, zs_266_18, zs_266_19, zs_266_21, zs_266_22, zs_266_25, zs_266_28, zs_266_29, zs_266_30, zs_266_33, r0, e1, zbk_v, zts_s, ↓reduceIte, List.cons_append, List.nil_append]
theorem e_266a {c : Int32} (hM : zMdl h m w th) (hi : (ycur w).1[i]? = some t) (hc : ylet c = false) : zMC m h (zcall zP sv (d + 7) 266 [.ref m, .int (nI i), .int c] h) 0 w (nI 2) := by
  obtain ⟨h1, e1, m1, k1⟩ := e_252 (sv := sv) (d := d) hM hi
  have r0 : ∀ X : zR, zrc (h.1 m) 13 X = X := fun X => zMdl_rc hM
  obtain ⟨F, g, g1, g2⟩ := zMdL_31 (x := nI 2) m1
  have E : zcall zP sv (d + 6) 204 [.int c] h1 = _ := e_204 (sv := sv) (d := d + 4)
  rw [hc, yb_f] at E
  have E2 : zcall zP sv (d + 6) 198 [.ref m, .int (nI 2)] h1 = _ := e_198 (sv := sv) (d := d + 5) g
  refine ⟨_, ?_, g1, zmw_tr k1 g2⟩
  simp only [zc_266, zs_266_0, zs_266_1, zs_266_2, zs_266_5, zs_266_8, zs_266_9, zs_266_10, zs_266_11, zs_266_14, zs_266_17, zs_266_18, zs_266_19, zs_266_21, zs_266_22, zs_266_25, zs_266_28, zs_266_29, zs_266_30, zs_266_33, r0, e1, zbk_v, zts_s, E, E2, nI_1e0, g, zrc_13v, ↓reduceIte, List.cons_append, List.nil_append]
theorem e_266 {c : Int32} (hM : zMdl h m w th) (hi : (ycur w).1[i]? = some t) (hc : ylet c = true) : ∃ N, yNow N (ycur w) ∧ zMC m h (zcall zP sv (d + 7) 266 [.ref m, .int (nI i), .int c] h) (ysl (ymf 0 N) (c - nI 97) t) w 0 := by
  obtain ⟨h1, e1, m1, k1⟩ := e_252 (sv := sv) (d := d) hM hi
  have r0 : ∀ X : zR, zrc (h.1 m) 13 X = X := fun X => zMdl_rc hM
  have r1 : ∀ X : zR, zrc (h1.1 m) 13 X = X := fun X => zMdL_rc m1
  have E : zcall zP sv (d + 6) 204 [.int c] h1 = _ := e_204 (sv := sv) (d := d + 4)
  rw [hc, yb_t] at E
  obtain ⟨h2, N, e2, hn, m2, k2⟩ := e_214 (sv := sv) (d := d + 2) (c := c - nI 97) m1
  refine ⟨N, hn, h2, ?_, zMdL_M m2, zmw_tr k1 k2⟩
  simp only [zc_266, zs_266_0, zs_266_1, zs_266_2, zs_266_5, zs_266_8, zs_266_9, zs_266_10, zs_266_11, zs_266_14, zs_266_17, zs_266_18, zs_266_19, zs_266_21, zs_266_22, zs_266_25, zs_266_28, zs_266_29, zs_266_30, zs_266_33, r0, r1, e1, zbk_v, zts_s, E, e2, nI_1e0, ↓reduceIte, List.cons_append, List.nil_append]
theorem e_267w {x c a th' : Int32} (hM : zMdl h m w th) (hc : zMC m h (zcall zP sv (d + 7) 266 [.ref m, .int x, .int c] h) a w th') : zMC m h (zcall zP sv (d + 8) 267 [.ref m, .int x, .int c] h) a w th' := by
  obtain ⟨h1, e1, m1, k1⟩ := hc
  have r0 : ∀ X : zR, zrc (h.1 m) 13 X = X := fun X => zMdl_rc hM
  refine ⟨h1, ?_, m1, k1⟩
  simp (disch := first | exact znw_u | exact znw_i) only [zc_267, zs_267_0, zs_267_1, zs_267_2, zs_267_3, zs_267_6, r0, e1, zbk_v, zts_s, List.cons_append, List.nil_append]
end ZQT
