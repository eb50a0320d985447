section ZQJ
variable {sv : Nat → Value} {d : Nat} {m : Nat} {F : Nat → Int32} {h : zH} {w : yW} {th : Int32} {i j : Nat} {t u : yT} {p : yP} {L : List yT}
/-- the parts of a term, in prefix order -/
def yts : yT → List yT
  | .leaf => []
  | .inner s k v l r => .inner s k v l r :: (yts l ++ yts r)
def yLs (p : yP) (L : List yT) : Prop := p.length = L.length ∧ ∀ (k : Nat) (a : yT), L[k]? = some a → ytw a = true ∧ ∃ pre post, p = pre ++ ypr a ++ post ∧ pre.length = k
theorem yts_len : ∀ t : yT, (yts t).length = ysz t
  | .leaf => rfl
  | .inner _ _ _ l r => by
    show (yts l ++ yts r).length + 1 = ysz l + ysz r + 1
    rw [List.length_append, yts_len l, yts_len r]
theorem ytw_lr {n : Nat} {k v : Int32} {l r : yT} (h : ytw (.inner n k v l r) = true) : (ytw l = true ∨ l = .leaf) ∧ (ytw r = true ∨ r = .leaf) := by
  have hl : ∀ x : yT, (!ynl x) = true → x = .leaf := fun x hx => by cases x with
    | leaf => rfl
    | inner _ _ _ _ _ => exact absurd hx (by show ¬ ((!true) = true); decide)
  unfold ytw at h
  simp only [Bool.and_eq_true, Bool.or_eq_true] at h
  rcases h.2 with ((z | z) | z) | z
  · exact ⟨Or.inr (hl l z.1.2), Or.inr (hl r z.2)⟩
  · exact ⟨Or.inr (hl l z.1.2), Or.inr (hl r z.2)⟩
  · exact ⟨Or.inl z.1.2, Or.inr (hl r z.2)⟩
  · exact ⟨Or.inl z.1.2, Or.inl z.2⟩
theorem yLs_app {p q : yP} {L M : List yT} (h1 : yLs p L) (h2 : yLs q M) : yLs (p ++ q) (L ++ M) := by
  refine ⟨by rw [List.length_append, List.length_append, h1.1, h2.1], fun k a hk => ?_⟩
  by_cases c : k < L.length
  · rw [List.getElem?_append_left c] at hk
    obtain ⟨z, pre, post, e, l⟩ := h1.2 k a hk
    exact ⟨z, pre, post ++ q, by rw [e]; simp only [List.append_assoc], l⟩
  · rw [List.getElem?_append_right (by omega)] at hk
    obtain ⟨z, pre, post, e, l⟩ := h2.2 _ a hk
    exact ⟨z, p ++ pre, post, by rw [e]; simp only [List.append_assoc], by rw [List.length_append, l, h1.1]; omega⟩
theorem yLs_0 : yLs [] [] := ⟨rfl, fun k a hk => by rw [List.getElem?_nil] at hk; cases hk⟩
theorem yLs_t : ∀ t : yT, (ytw t = true ∨ t = .leaf) → yLs (ypr t) (yts t)
  | .leaf, _ => yLs_0
  | .inner n k v l r, h => by
    have hw : ytw (.inner n k v l r) = true := h.resolve_right (fun z => by cases z)
    have g := yLs_app (yLs_t l (ytw_lr hw).1) (yLs_t r (ytw_lr hw).2)
    refine ⟨by rw [ypr_len, yts_len], fun j a hj => ?_⟩
    cases j with
    | zero =>
      rw [show yts (.inner n k v l r) = .inner n k v l r :: (yts l ++ yts r) from rfl, List.getElem?_cons_zero] at hj
      cases hj
      exact ⟨hw, [], [], by rw [List.nil_append, List.append_nil], rfl⟩
    | succ j =>
      rw [show yts (.inner n k v l r) = .inner n k v l r :: (yts l ++ yts r) from rfl, List.getElem?_cons_succ] at hj
      obtain ⟨z, pre, post, e, l⟩ := g.2 j a hj
      refine ⟨z, (k, yva k v) :: pre, post, ?_, by rw [List.length_cons, l]⟩
      show (k, yva k v) :: (ypr _ ++ ypr _) = _
      rw [e]
      rfl
/-- whether none of n parts from j on is b -/
def yfsr (Q : List yP) (b : Option yP) : Nat → Nat → Bool
  | _, 0 => true
  | j, n + 1 => !decide (Q[j]? = b) && yfsr Q b (j + 1) n
/-- whether a part is the first of its kind -/
def yfst (Q : List yP) (k : Nat) : Bool := yfsr Q Q[k]? 0 k
theorem e_260l (hm : zMo h m F) (hl : zLst h (m + 5) (m + 6) p) (hL : yLs p L) {k : Nat} (hk : k < L.length) {l2 : Slot} : ∀ n j (sm : Bool), j + n = k → zrun zP sv (zcall zP sv (d + 4)) 260 5 [.val (.ref m), .val (.int (nI k)), l2, .val (.int (yb sm)), .val (.int (nI j))] [] h = some (.inl (some (.int (yb (sm && yfsr (L.map ypr) (L.map ypr)[k]? j n)))), h) := by
  have h7 : p.length ≤ 700 := by
    obtain ⟨_, _, _, _, _, _, _, _, z⟩ := hl
    exact z
  have hlen := hL.1
  obtain ⟨b, hb⟩ : ∃ b, L[k]? = some b := ⟨_, List.getElem?_eq_getElem hk⟩
  obtain ⟨bw, pre', post', e2, l2'⟩ := hL.2 k b hb
  have hb' : (L.map ypr)[k]? = some (ypr b) := by rw [List.getElem?_map, hb]; rfl
  have hr : ∀ X : zR, zrc (h.1 m) 13 X = X := fun X => zMo_rc hm
  intro n
  induction n with
  | zero =>
    intro j sm hj
    obtain rfl : j = k := by omega
    rw [show yfsr (L.map ypr) (L.map ypr)[j]? j 0 = true from rfl, Bool.and_true]
    simp only [zs_260_0, zs_260_1, zs_260_2, zs_260_3, zs_260_7, zs_260_8, zs_260_11, zs_260_12, zs_260_15, zs_260_15n, zs_260_16, zs_260_18, zs_260_19, zs_260_22, zs_260_25, zs_260_26, zs_260_29, zs_260_30, zs_260_31, zs_260_34, zs_260_37, zs_260_38, zs_260_5, Int32.lt_irrefl, ↓reduceIte, zgd_t, zty_yb]
  | succ n ih =>
    intro j sm hj
    have g1 : nI j < nI k := nI_lt (by omega) (by omega)
    obtain ⟨a, ha⟩ : ∃ a, L[j]? = some a := ⟨_, List.getElem?_eq_getElem (by omega)⟩
    obtain ⟨aw, pre, post, e1, l1'⟩ := hL.2 j a ha
    have ha' : (L.map ypr)[j]? = some (ypr a) := by rw [List.getElem?_map, ha]; rfl
    have E : zcall zP sv (d + 4) 210 [.ref m, .int (nI pre.length), .int (nI pre'.length)] h = _ := e_210 (sv := sv) (d := d + 1) hm aw bw hl e1 e2
    rw [l1', l2'] at E
    cases sm with
    | false =>
      rw [Bool.false_and, yb_f]
      simp only [zs_260_5, zs_260_7, zs_260_8, zs_260_11, zs_260_12, zs_260_37, zs_260_38, if_pos g1, ↓reduceIte, zgd_t, zty_50]
    | true =>
      have e := ih (j + 1) (!decide (ypr a = ypr b)) (by omega)
      have hd : (true && yfsr (L.map ypr) (L.map ypr)[k]? j (n + 1)) = (!decide (ypr a = ypr b) && yfsr (L.map ypr) (L.map ypr)[k]? (j + 1) n) := by
        rw [Bool.true_and]
        show (!decide ((L.map ypr)[j]? = (L.map ypr)[k]?) && _) = _
        rw [ha', hb']
        congr 2
        exact decide_eq_decide.mpr (by rw [Option.some.injEq])
      rw [hd, ← e]
      have eb : ∀ b : Bool, zrun zP sv (zcall zP sv (d + 4)) 260 30 [.val (.ref m), .val (.int (nI k)), l2, .val (.int (yb true)), .val (.int (nI j))] [.int (yb b)] h = zrun zP sv (zcall zP sv (d + 4)) 260 5 [.val (.ref m), .val (.int (nI k)), l2, .val (.int (yb b)), .val (.int (nI (j + 1)))] [] h := fun b => by rw [zs_260_30 znw_i, zs_260_31, zs_260_34, nI_1']
      rw [← eb]
      cases hd : decide (ypr a = ypr b) with
      | true =>
        rw [hd] at E
        simp (disch := first | exact znw_u | exact znw_i) only [zs_260_0, zs_260_1, zs_260_2, zs_260_3, zs_260_5, zs_260_7, zs_260_8, zs_260_11, zs_260_12, zs_260_15, zs_260_15n, zs_260_16, zs_260_18, zs_260_19, zs_260_22, zs_260_25, zs_260_26, zs_260_29, zs_260_37, zs_260_38, if_pos g1, yb_t, nI_1e0, ↓reduceIte, hr, E, zbk_v, zts_s, List.cons_append, List.nil_append, Bool.not_true, yb_f]
      | false =>
        rw [hd] at E
        simp (disch := first | exact znw_u | exact znw_i) only [zs_260_0, zs_260_1, zs_260_2, zs_260_3, zs_260_5, zs_260_7, zs_260_8, zs_260_11, zs_260_12, zs_260_15, zs_260_15n, zs_260_16, zs_260_18, zs_260_19, zs_260_22, zs_260_25, zs_260_26, zs_260_29, zs_260_37, zs_260_38, if_pos g1, yb_t, nI_1e0, ↓reduceIte, hr, E, zbk_v, zts_s, List.cons_append, List.nil_append, Bool.not_false, yb_f]
theorem e_260 (hm : zMo h m F) (hl : zLst h (m + 5) (m + 6) p) (hL : yLs p L) {k : Nat} (hk : k < L.length) : zcall zP sv (d + 5) 260 [.ref m, .int (nI k), .int 0] h = some (.inl (some (.int (yb (yfst (L.map ypr) k)))), h) := by
  have e := e_260l (sv := sv) (d := d) hm hl hL hk (l2 := .val (.int 0)) k 0 true (Nat.zero_add _)
  rw [Bool.true_and, nI_0, yb_t] at e
  unfold yfst
  rw [← e]
  simp (disch := first | exact znw_u | exact znw_i) only [zc_260, zs_260_0, zs_260_1, zs_260_2, zs_260_3]
/-- how many of n parts from j on are the first of their kind -/
def ynd (Q : List yP) (n : Nat) : Nat := (List.range n).countP (yfst Q)
theorem ynd_s {Q : List yP} {n : Nat} : ynd Q (n + 1) = ynd Q n + (if yfst Q n = true then 1 else 0) := by
  unfold ynd
  rw [List.range_succ, List.countP_append, List.countP_singleton]
theorem e_261l (hm : zMo h m F) (h8 : F 8 = nI p.length) (hl : zLst h (m + 5) (m + 6) p) (hL : yLs p L) {l1 : Slot} : ∀ n j, j + n = L.length → zrun zP sv (zcall zP sv (d + 5)) 261 14 [.val (.ref m), l1, .val (.int (nI (ynd (L.map ypr) j))), .val (.int (nI j))] [] h = some (.inl (some (.int (nI (ynd (L.map ypr) L.length)))), h) := by
  have h7 : p.length ≤ 700 := by
    obtain ⟨_, _, _, _, _, _, _, _, z⟩ := hl
    exact z
  have hlen := hL.1
  have hr : ∀ X : zR, zrc (h.1 m) 13 X = X := fun X => zMo_rc hm
  have hm' : h.1 m = (13, zMF m F) := hm
  intro n
  induction n with
  | zero =>
    intro j hj
    obtain rfl : j = L.length := by omega
    simp only [zs_261_14, zs_261_15, zs_261_16, zs_261_19, zs_261_40, zs_261_41, hm', zmf_8, h8, hlen, Int32.lt_irrefl, ↓reduceIte]
  | succ n ih =>
    intro j hj
    have g1 : nI j < nI L.length := nI_lt (by omega) (by omega)
    have E : zcall zP sv (d + 5) 260 [.ref m, .int (nI j), .int 0] h = _ := e_260 (sv := sv) (d := d) hm hl hL (k := j) (by omega)
    rw [← ih (j + 1) (by omega), ynd_s]
    have eb : ∀ q, zrun zP sv (zcall zP sv (d + 5)) 261 34 [.val (.ref m), l1, .val (.int (nI q)), .val (.int (nI j))] [] h = zrun zP sv (zcall zP sv (d + 5)) 261 14 [.val (.ref m), l1, .val (.int (nI q)), .val (.int (nI (j + 1)))] [] h := fun q => by rw [zs_261_34, zs_261_37, nI_1']
    rw [← eb]
    cases hd : yfst (L.map ypr) j with
    | true =>
      rw [hd] at E
      simp (disch := first | exact znw_u | exact znw_i) only [zs_261_0, zs_261_0n, zs_261_1, zs_261_2, zs_261_5, zs_261_8, zs_261_9, zs_261_10, zs_261_11, zs_261_12, zs_261_13, zs_261_14, zs_261_15, zs_261_15n, zs_261_16, zs_261_19, zs_261_22, zs_261_22n, zs_261_23, zs_261_24, zs_261_25, zs_261_28, zs_261_31, zs_261_40, zs_261_41, hm', zmf_8, h8, hlen, if_pos g1, hr, E, zbk_v, zts_s, yb_t, nI_1e0, nI_1', ↓reduceIte, List.cons_append, List.nil_append, zrc_13v]
    | false =>
      rw [hd] at E
      simp (disch := first | exact znw_u | exact znw_i) only [zs_261_0, zs_261_0n, zs_261_1, zs_261_2, zs_261_5, zs_261_8, zs_261_9, zs_261_10, zs_261_11, zs_261_12, zs_261_13, zs_261_14, zs_261_15, zs_261_15n, zs_261_16, zs_261_19, zs_261_22, zs_261_22n, zs_261_23, zs_261_24, zs_261_25, zs_261_28, zs_261_31, zs_261_40, zs_261_41, hm', zmf_8, h8, hlen, if_pos g1, hr, E, zbk_v, zts_s, yb_f, nI_1e0, Nat.add_zero, Bool.false_eq_true, ↓reduceIte, List.cons_append, List.nil_append, zrc_13v]
theorem e_261x {x : Int32} (hM : zMdl h m w th) (hx : yinF (ycur w) x = false) : zMC m h (zcall zP sv (d + 7) 261 [.ref m, .int x] h) 0 w (nI 1) := by
  obtain ⟨h1, e1, m1, k1⟩ := e_252x (sv := sv) (d := d) hM hx
  have r0 : ∀ X : zR, zrc (h.1 m) 13 X = X := fun X => zMdl_rc hM
  refine ⟨h1, ?_, m1, k1⟩
  simp (disch := first | exact znw_u | exact znw_i) only [zc_261, zs_261_0, zs_261_1, zs_261_2, zs_261_5, zs_261_8, zs_261_9, r0, e1, zbk_v, zts_s, ↓reduceIte, List.cons_append, List.nil_append]
theorem e_261 (hM : zMdl h m w th) (hi : (ycur w).1[i]? = some t) : zMC m h (zcall zP sv (d + 7) 261 [.ref m, .int (nI i)] h) (nI (ynd ((yts t).map ypr) (ysz t))) w 0 := by
  obtain ⟨h1, e1, m1, k1⟩ := e_252 (sv := sv) (d := d) hM hi
  have r0 : ∀ X : zR, zrc (h.1 m) 13 X = X := fun X => zMdl_rc hM
  have mM := zMdL_M m1
  obtain ⟨F, _, f8, l5, ⟨hm, _⟩, _, _, _, tk⟩ := m1
  have E := e_261l (sv := sv) (d := d + 1) hm (by rw [ypr_len, f8]) l5 (yLs_t t (Or.inl tk.1)) (l1 := .val (.int (nI i))) (yts t).length 0 (Nat.zero_add _)
  rw [show ynd ((yts t).map ypr) 0 = 0 from rfl, nI_0, yts_len] at E
  refine ⟨h1, ?_, mM, k1⟩
  simp (disch := first | exact znw_u | exact znw_i) only [zc_261, zs_261_0, zs_261_1, zs_261_2, zs_261_5, zs_261_10, zs_261_11, zs_261_12, zs_261_13, r0, e1, zbk_v, zts_s, nI_1e0, ↓reduceIte, List.cons_append, List.nil_append]
  exact E
theorem e_262w {x a th' : Int32} (hM : zMdl h m w th) (hc : zMC m h (zcall zP sv (d + 7) 261 [.ref m, .int x] h) a w th') : zMC m h (zcall zP sv (d + 8) 262 [.ref m, .int x] h) a w th' := by
  obtain ⟨h1, e1, m1, k1⟩ := hc
  have r0 : ∀ X : zR, zrc (h.1 m) 13 X = X := fun X => zMdl_rc hM
  refine ⟨h1, ?_, m1, k1⟩
  simp (disch := first | exact znw_u | exact znw_i) only [zc_262, zs_262_0, zs_262_0n, zs_262_1, zs_262_2, zs_262_5, r0, e1, zbk_v, zts_s, List.cons_append, List.nil_append]
end ZQJ
