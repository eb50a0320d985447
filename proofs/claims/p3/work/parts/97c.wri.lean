section ZQX
variable {sv : Nat → Value} {d : Nat} {m : Nat}
def yow (k : Int32) : Int32 := if k = nI 43 then nI 1 else if k = nI 45 then nI 1 else if k = nI 42 then nI 2 else nI 3
theorem e_285a {p : yP} {n D : Nat} {k v lev : Int32} {h : zH} {F : Nat → Int32} {o : List Int32} (hl : zLst h (m + 5) (m + 6) p) (hi : p[n]? = some (k, v)) (hw : zWr h m F o) (ho : o.length < 700) : ∃ (h1 : zH) (G : Nat → Int32) (q : List Int32), zrun zP sv (zcall zP sv (D + 1)) 285 0 [.val (.ref m), .val (.int (nI n)), .val (.int lev), .unset, .unset, .unset] [] h = zrun zP sv (zcall zP sv (D + 1)) 285 53 [.val (.ref m), .val (.int (nI n)), .val (.int lev), .val (.int k), .val (.int (yow k)), .val (.int (nI (n + 1)))] [] h1 ∧ zWr h1 m G (o ++ q) ∧ q.length ≤ 1 ∧ (∀ j, j ≠ 24 → G j = F j) ∧ zow m h h1 := by
  obtain ⟨A, B, a1, a2, a3, a4, a5⟩ := e_look hl hi
  have m0 := hw.1
  have e40 : ynr (nI 40) = nI 40 := by decide +kernel
  have c40 : ychr (nI 40) := by show zty 7 (.int (nI 40)) = true; decide +kernel
  obtain ⟨own, hown⟩ : ∃ own, own = yow k := ⟨_, rfl⟩
  have s1 : zrun zP sv (zcall zP sv (D + 1)) 285 0 [.val (.ref m), .val (.int (nI n)), .val (.int lev), .unset, .unset, .unset] [] h = zrun zP sv (zcall zP sv (D + 1)) 285 36 [.val (.ref m), .val (.int (nI n)), .val (.int lev), .val (.int k), .val (.int own), .unset] [] h := by
    rw [hown]
    unfold yow
    by_cases q1 : k = nI 43
    · rw [if_pos q1]
      simp (disch := first | exact znw_u | exact znw_i) only [zs_285_0, zs_285_1, zs_285_4, zs_285_5, zs_285_6, zs_285_7, zs_285_8, zs_285_10, zs_285_19, zs_285_20, zs_285_34, m0, zmf_6, a1, a3, if_pos q1]
    · rw [if_neg q1]
      by_cases q2 : k = nI 45
      · rw [if_pos q2]
        simp (disch := first | exact znw_u | exact znw_i) only [zs_285_0, zs_285_1, zs_285_4, zs_285_5, zs_285_6, zs_285_7, zs_285_8, zs_285_10, zs_285_13, zs_285_14, zs_285_16, zs_285_19, zs_285_20, zs_285_34, m0, zmf_6, a1, a3, if_neg q1, if_pos q2]
      · rw [if_neg q2]
        by_cases q3 : k = nI 42
        · rw [if_pos q3]
          simp (disch := first | exact znw_u | exact znw_i) only [zs_285_0, zs_285_1, zs_285_4, zs_285_5, zs_285_6, zs_285_7, zs_285_8, zs_285_10, zs_285_13, zs_285_14, zs_285_16, zs_285_23, zs_285_24, zs_285_26, zs_285_29, zs_285_30, zs_285_34, m0, zmf_6, a1, a3, if_neg q1, if_neg q2, if_pos q3]
        · rw [if_neg q3]
          simp (disch := first | exact znw_u | exact znw_i) only [zs_285_0, zs_285_1, zs_285_4, zs_285_5, zs_285_6, zs_285_7, zs_285_8, zs_285_10, zs_285_13, zs_285_14, zs_285_16, zs_285_23, zs_285_24, zs_285_26, zs_285_33, zs_285_34, m0, zmf_6, a1, a3, if_neg q1, if_neg q2, if_neg q3]
  rw [s1, ← hown]
  by_cases c : own < lev
  · obtain ⟨h1, G, q, e1, w1, l1, l2, g1, k1⟩ := e_280 (sv := sv) (d := D) (c := nI 40) hw ho e40 c40
    refine ⟨h1, G, q, ?_, w1, l2, g1, k1⟩
    simp (disch := first | exact znw_u | exact znw_i) only [zs_285_36, zs_285_38, zs_285_39, zs_285_42, zs_285_43, zs_285_45, zs_285_48, zs_285_49, zs_285_50, zs_285_51, if_pos c, m0, zrc_13v, e1, zbk_v, zts_n, nI_1', List.cons_append, List.nil_append]
  · refine ⟨h, F, [], ?_, by rw [List.append_nil]; exact hw, Nat.zero_le _, fun _ _ => rfl, zow_rfl⟩
    simp (disch := first | exact znw_u | exact znw_i) only [zs_285_36, zs_285_38, zs_285_39, zs_285_48, zs_285_49, zs_285_50, zs_285_51, if_neg c, nI_1']
theorem e_285c {D : Nat} {own lev y : Int32} {l1 l3 : Slot} {h : zH} {F : Nat → Int32} {o : List Int32} (hw : zWr h m F o) (ho : o.length < 700) : zAp m F o 0 1 h (zrun zP sv (zcall zP sv (D + 1)) 285 146 [.val (.ref m), l1, .val (.int lev), l3, .val (.int own), .val (.int y)] [] h) (some (.int y)) := by
  have m0 := hw.1
  have e41 : ynr (nI 41) = nI 41 := by decide +kernel
  have c41 : ychr (nI 41) := by show zty 7 (.int (nI 41)) = true; decide +kernel
  by_cases c : own < lev
  · obtain ⟨h1, G, q, e1, w1, l1, l2, g1, k1⟩ := e_280 (sv := sv) (d := D) (c := nI 41) hw ho e41 c41
    refine ⟨h1, G, q, ?_, w1, Nat.zero_le _, l2, g1, k1⟩
    simp (disch := first | exact znw_u | exact znw_i) only [zs_285_146, zs_285_148, zs_285_149, zs_285_152, zs_285_153, zs_285_155, zs_285_158, zs_285_160, if_pos c, m0, zrc_13v, e1, zbk_v, zts_n, List.cons_append, List.nil_append]
  · refine ⟨h, F, [], ?_, by rw [List.append_nil]; exact hw, Nat.zero_le _, Nat.zero_le _, fun _ _ => rfl, zow_rfl⟩
    simp (disch := first | exact znw_u | exact znw_i) only [zs_285_146, zs_285_148, zs_285_149, zs_285_158, zs_285_160, if_neg c]
theorem e_285 {p : yP} : ∀ (n : Nat) (t : yT), ysz t ≤ n → ytw t = true → ∀ (pre post : yP) (D : Nat) (lev : Int32) (h : zH) (F : Nat → Int32) (o : List Int32), ydp t + 12 ≤ D → p = pre ++ ypr t ++ post → zLst h (m + 5) (m + 6) p → zWr h m F o → o.length + 13 * ysz t ≤ 700 → zAp m F o 0 (13 * ysz t) h (zcall zP sv D 285 [.ref m, .int (nI pre.length), .int lev] h) (some (.int (nI (pre.length + ysz t))))
  | 0, t, hn, ht, pre, post, D, lev, h, F, o, hD, hp, hl, hw, ho => by
    have := ytw_sz ht
    omega
  | n + 1, .leaf, hn, ht, pre, post, D, lev, h, F, o, hD, hp, hl, hw, ho => by cases ht
  | n + 1, .inner z k v l r, hn, ht, pre, post, D, lev, h, F, o, hD, hp, hl, hw, ho => by
    have hn' : ysz l + ysz r + 1 ≤ n + 1 := hn
    have hD' : max (ydp l) (ydp r) + 1 + 12 ≤ D := hD
    have ho' : o.length + 13 * (ysz l + ysz r + 1) ≤ 700 := ho
    obtain ⟨D, rfl⟩ : ∃ D', D = D' + 13 := ⟨D - 13, by omega⟩
    have e0 : p = pre ++ (k, yva k v) :: (ypr l ++ ypr r ++ post) := by
      rw [hp]
      show pre ++ (k, yva k v) :: (ypr l ++ ypr r) ++ post = _
      rw [List.append_assoc]; rfl
    have hi : p[pre.length]? = some (k, yva k v) := by
      rw [e0, List.getElem?_append_right (Nat.le_refl _), Nat.sub_self]; rfl
    obtain ⟨h1, G1, q1, e1, w1, b1, v1, k1⟩ := e_285a (sv := sv) (m := m) (D := D + 11) (lev := lev) hl hi hw (by omega)
    have hl1 : zLst h1 (m + 5) (m + 6) p := zLst_cg hl (k1.1 _ (by omega) (by omega)) (k1.1 _ (by omega) (by omega))
    have m1 := w1.1
    obtain ⟨A, B, a1, a2, a3, a4, a5⟩ := e_look hl1 hi
    have hlen1 : (o ++ q1).length = o.length + q1.length := List.length_append
    have sz : ysz (.inner z k v l r) = ysz l + ysz r + 1 := rfl
    have p3 : ¬ nI 118 = nI 99 := by decide +kernel
    have p6 : ¬ nI 110 = nI 99 := by decide +kernel
    have p7 : ¬ nI 110 = nI 118 := by decide +kernel
    have e45 : ynr (nI 45) = nI 45 := by decide +kernel
    have c45 : ychr (nI 45) := by show zty 7 (.int (nI 45)) = true; decide +kernel
    rw [zc_285, e1]
    rcases ytw_el ht with g0 | g0 | g0 | g0
    · obtain ⟨g1, g2, g3⟩ := g0
      subst g1 g2 g3
      have ev : yva (nI 99) v = v := by unfold yva; rw [if_neg (Ne.symm p3)]
      rw [ev] at a4
      have hy := yilen_le v
      obtain ⟨h2, G2, q2, e2, w2, _, b2, v2, k2⟩ := e_282 (sv := sv) (d := D) (x := v) w1 (by omega)
      obtain ⟨h3, G3, q3, e3, w3, _, b3, v3, k3⟩ := e_285c (sv := sv) (D := D + 11) (own := yow (nI 99)) (lev := lev) (y := nI (pre.length + 1)) (l1 := .val (.int (nI pre.length))) (l3 := .val (.int (nI 99))) w2 (by rw [List.length_append]; omega)
      refine ⟨h3, G3, q1 ++ q2 ++ q3, ?_, by rw [← List.append_assoc, ← List.append_assoc]; exact w3, Nat.zero_le _, by rw [List.length_append, List.length_append]; show _ ≤ 13 * (0 + 0 + 1); omega, fun j hj => (v3 j hj).trans ((v2 j hj).trans (v1 j hj)), zow_tr k1 (zow_tr k2 k3)⟩
      show _ = some (Sum.inl (some (Value.int (nI (pre.length + 1)))), h3)
      rw [← e3]
      simp (disch := first | exact znw_u | exact znw_i) only [zs_285_53, zs_285_54, zs_285_56, zs_285_59, zs_285_60, zs_285_61, zs_285_64, zs_285_65, zs_285_66, zs_285_69, m1, zmf_7, a2, a4, zrc_13v, e2, zbk_v, zts_n, ↓reduceIte, List.cons_append, List.nil_append]
    · obtain ⟨g1, gl, g2, g3⟩ := g0
      subst g1 g2 g3
      have ev : yva (nI 118) v = v - nI 97 := by unfold yva; rw [if_pos rfl]
      rw [ev] at a4
      obtain ⟨z1, z2, z3, z4⟩ := ylet_w gl
      obtain ⟨h2, G2, q2, e2, w2, _, b2, v2, k2⟩ := e_280 (sv := sv) (d := D + 11) (c := v) w1 (by omega) z3 z4
      obtain ⟨h3, G3, q3, e3, w3, _, b3, v3, k3⟩ := e_285c (sv := sv) (D := D + 11) (own := yow (nI 118)) (lev := lev) (y := nI (pre.length + 1)) (l1 := .val (.int (nI pre.length))) (l3 := .val (.int (nI 118))) w2 (by rw [List.length_append]; omega)
      refine ⟨h3, G3, q1 ++ q2 ++ q3, ?_, by rw [← List.append_assoc, ← List.append_assoc]; exact w3, Nat.zero_le _, by rw [List.length_append, List.length_append]; show _ ≤ 13 * (0 + 0 + 1); omega, fun j hj => (v3 j hj).trans ((v2 j hj).trans (v1 j hj)), zow_tr k1 (zow_tr k2 k3)⟩
      show _ = some (Sum.inl (some (Value.int (nI (pre.length + 1)))), h3)
      rw [← e3]
      simp (disch := first | exact znw_u | exact znw_i) only [zs_285_53, zs_285_54, zs_285_56, zs_285_72, zs_285_73, zs_285_75, zs_285_78, zs_285_79, zs_285_81, zs_285_82, zs_285_85, zs_285_86, zs_285_87, zs_285_88, zs_285_89, zs_285_92, if_neg p3, m1, zmf_7, a2, a4, z1, z2, zrc_13v, e2, zbk_v, zts_n, ↓reduceIte, List.cons_append, List.nil_append]
    · obtain ⟨g1, gv, g2, g3⟩ := g0
      subst g1 gv g3
      have hD3 : max (ydp l) 0 + 1 + 12 ≤ D + 13 := hD'
      have ho3 : o.length + 13 * (ysz l + 0 + 1) ≤ 700 := ho'
      have hn3 : ysz l + 0 + 1 ≤ n + 1 := hn'
      have l1 : (pre ++ [(nI 110, yva (nI 110) 0)]).length = pre.length + 1 := List.length_append
      obtain ⟨h2, G2, q2, e2, w2, _, b2, v2, k2⟩ := e_280 (sv := sv) (d := D + 11) (c := nI 45) w1 (by omega) e45 c45
      have hl2 : zLst h2 (m + 5) (m + 6) p := zLst_cg hl1 (k2.1 _ (by omega) (by omega)) (k2.1 _ (by omega) (by omega))
      have m2 := w2.1
      obtain ⟨h3, G3, q3, e3, w3, _, b3, v3, k3⟩ := e_285 (p := p) n l (by omega) g2 (pre ++ [(nI 110, yva (nI 110) 0)]) post (D + 12) (nI 3) h2 G2 (o ++ q1 ++ q2) (by omega) (by rw [e0]; simp only [List.append_assoc, List.cons_append, List.nil_append, ypr]) hl2 w2 (by rw [List.length_append]; omega)
      rw [l1] at e3
      obtain ⟨h4, G4, q4, e4, w4, _, b4, v4, k4⟩ := e_285c (sv := sv) (D := D + 11) (own := yow (nI 110)) (lev := lev) (y := nI (pre.length + 1 + ysz l)) (l1 := .val (.int (nI pre.length))) (l3 := .val (.int (nI 110))) w3 (by rw [List.length_append, List.length_append]; omega)
      refine ⟨h4, G4, q1 ++ q2 ++ q3 ++ q4, ?_, by rw [← List.append_assoc, ← List.append_assoc, ← List.append_assoc]; exact w4, Nat.zero_le _, by rw [List.length_append, List.length_append, List.length_append]; show _ ≤ 13 * (ysz l + 0 + 1); omega, fun j hj => (v4 j hj).trans ((v3 j hj).trans ((v2 j hj).trans (v1 j hj))), zow_tr k1 (zow_tr k2 (zow_tr k3 k4))⟩
      rw [show pre.length + ysz (.inner z (nI 110) 0 l .leaf) = pre.length + 1 + ysz l by show pre.length + (ysz l + 0 + 1) = _; omega, ← e4]
      simp (disch := first | exact znw_u | exact znw_i) only [zs_285_53, zs_285_54, zs_285_56, zs_285_72, zs_285_73, zs_285_75, zs_285_95, zs_285_96, zs_285_98, zs_285_101, zs_285_102, zs_285_104, zs_285_107, zs_285_108, zs_285_110, zs_285_111, zs_285_114, zs_285_116, if_neg p6, if_neg p7, m1, m2, zrc_13v, e2, e3, zbk_v, zts_n, zts_s, ↓reduceIte, List.cons_append, List.nil_append]
    · obtain ⟨gk, gv, g2, g3⟩ := g0
      subst gv
      obtain ⟨u1, u2, u3, u4⟩ := yis_ne gk
      have l1 : (pre ++ [(k, yva k 0)]).length = pre.length + 1 := List.length_append
      have l2 : (pre ++ [(k, yva k 0)] ++ ypr l).length = pre.length + 1 + ysz l := by rw [List.length_append, l1, ypr_len]
      have epl : p = (pre ++ [(k, yva k 0)]) ++ ypr l ++ (ypr r ++ post) := by rw [e0]; simp only [List.append_assoc, List.cons_append, List.nil_append]
      have epr : p = (pre ++ [(k, yva k 0)] ++ ypr l) ++ ypr r ++ post := by rw [e0]; simp only [List.append_assoc, List.cons_append, List.nil_append]
      have hlz := ytw_sz g2
      have hrz := ytw_sz g3
      obtain ⟨h2, G2, q2, e2, w2, _, b2, v2, k2⟩ := e_285 (p := p) n l (by omega) g2 _ _ (D + 12) (yow k) h1 G1 (o ++ q1) (by omega) epl hl1 w1 (by omega)
      rw [l1] at e2
      have hl2 : zLst h2 (m + 5) (m + 6) p := zLst_cg hl1 (k2.1 _ (by omega) (by omega)) (k2.1 _ (by omega) (by omega))
      have m2 := w2.1
      obtain ⟨h3, G3, q3, e3, w3, _, b3, v3, k3⟩ := e_280 (sv := sv) (d := D + 11) (c := k) w2 (by rw [List.length_append]; omega) (yis_nr gk) (yis_w gk)
      have hl3 : zLst h3 (m + 5) (m + 6) p := zLst_cg hl2 (k3.1 _ (by omega) (by omega)) (k3.1 _ (by omega) (by omega))
      have m3 := w3.1
      obtain ⟨h4, G4, q4, e4, w4, _, b4, v4, k4⟩ := e_285 (p := p) n r (by omega) g3 _ _ (D + 12) (yow k + nI 1) h3 G3 (o ++ q1 ++ q2 ++ q3) (by omega) epr hl3 w3 (by rw [List.length_append, List.length_append]; omega)
      rw [l2] at e4
      obtain ⟨h5, G5, q5, e5, w5, _, b5, v5, k5⟩ := e_285c (sv := sv) (D := D + 11) (own := yow k) (lev := lev) (y := nI (pre.length + 1 + ysz l + ysz r)) (l1 := .val (.int (nI pre.length))) (l3 := .val (.int k)) w4 (by rw [List.length_append, List.length_append, List.length_append]; omega)
      refine ⟨h5, G5, q1 ++ q2 ++ q3 ++ q4 ++ q5, ?_, by rw [← List.append_assoc, ← List.append_assoc, ← List.append_assoc, ← List.append_assoc]; exact w5, Nat.zero_le _, by rw [List.length_append, List.length_append, List.length_append, List.length_append]; show _ ≤ 13 * (ysz l + ysz r + 1); omega, fun j hj => (v5 j hj).trans ((v4 j hj).trans ((v3 j hj).trans ((v2 j hj).trans (v1 j hj)))), zow_tr k1 (zow_tr k2 (zow_tr k3 (zow_tr k4 k5)))⟩
      rw [show pre.length + ysz (.inner z k 0 l r) = pre.length + 1 + ysz l + ysz r by show pre.length + (ysz l + ysz r + 1) = _; omega, ← e5]
      simp (disch := first | exact znw_u | exact znw_i) only [zs_285_53, zs_285_54, zs_285_56, zs_285_72, zs_285_73, zs_285_75, zs_285_95, zs_285_96, zs_285_98, zs_285_119, zs_285_120, zs_285_122, zs_285_124, zs_285_127, zs_285_129, zs_285_130, zs_285_131, zs_285_134, zs_285_135, zs_285_137, zs_285_139, zs_285_140, zs_285_141, zs_285_144, if_neg u1, if_neg u2, if_neg u3, m1, m2, m3, zrc_13v, e2, e3, e4, zbk_v, zts_n, zts_s, ↓reduceIte, List.cons_append, List.nil_append]
/-- the length that a writing call answers, where it isn't compared -/
def zMu (m : Nat) (h : zH) (r : zR) (w : yW) : Prop := ∃ n, n ≤ 700 ∧ zMw m h r n w
theorem e_286x {h : zH} {w : yW} {th x : Int32} (hM : zMdl h m w th) (hx : yinF (ycur w) x = false) : zMC m h (zcall zP sv (d + 7) 286 [.ref m, .int x] h) 0 w (nI 1) := by
  obtain ⟨h1, e1, m1, k1⟩ := e_252x (sv := sv) (d := d) hM hx
  have r0 : ∀ X : zR, zrc (h.1 m) 13 X = X := fun X => zMdl_rc hM
  refine ⟨h1, ?_, m1, k1⟩
  simp only [zc_286, zs_286_0, zs_286_1, zs_286_2, zs_286_5, zs_286_8, zs_286_9, r0, e1, zbk_v, zts_s, ↓reduceIte, List.cons_append, List.nil_append]
theorem e_286 {h : zH} {w : yW} {th : Int32} {i : Nat} {t : yT} (hM : zMdl h m w th) (hi : (ycur w).1[i]? = some t) : zMu m h (zcall zP sv (d + 21) 286 [.ref m, .int (nI i)] h) w := by
  obtain ⟨h1, e1, m1, k1⟩ := e_252 (sv := sv) (d := d + 14) hM hi
  have r0 : ∀ X : zR, zrc (h.1 m) 13 X = X := fun X => zMdl_rc hM
  obtain ⟨F1, f31, f8, l5, a3, a4, a5, a6, tk⟩ := m1
  have s0 : h1.1 m = (13, zMF m F1) := a3.1
  obtain ⟨h2, hh2⟩ : ∃ h2, h2 = zup h1 m (13, zMF m (yup F1 24 0)) := ⟨_, rfl⟩
  obtain ⟨_, _, _, ⟨B, b1, b2, b3, b4⟩, _⟩ := id a5
  have w2 : zWr h2 m (yup F1 24 0) [] := ⟨by rw [hh2, zup_at], yup_eq, ⟨B, by rw [hh2, zup_ne (by omega), b1], b2, rfl, Nat.zero_le _⟩, fun x hx => by cases hx⟩
  have f2 : ∀ a, a ≠ m → a ≠ m + 16 → h2.1 a = h1.1 a := fun a a1 _ => by rw [hh2, zup_ne a1]
  have k2 : zow m h1 h2 := ⟨f2, by rw [hh2]; rfl⟩
  have t0 := w2.1
  have tk2 := tk.2.1
  have tk3 := tk.2.2
  obtain ⟨h3, G3, q3, e3, w3, _, b3', v3, k3⟩ := e_285 (sv := sv) (m := m) (p := ypr t) (ysz t) t (Nat.le_refl _) tk.1 [] [] (d + 20) (nI 1) h2 _ [] (by omega) (by rw [List.nil_append, List.append_nil]) (zLst_cg l5 (f2 _ (by omega) (by omega)) (f2 _ (by omega) (by omega))) w2 (by show 0 + 13 * ysz t ≤ 700; omega)
  rw [List.length_nil, nI_0] at e3
  have m24 := w3.2.1
  have m3 := w3.1
  have n10 : ¬ nI 1 = 0 := by decide +kernel
  refine ⟨_, ?_, zMw_of (n := ([] ++ q3).length) ?_ f31 a3 a4 a5 a6 k1 w3 (fun j hj => (v3 j hj).trans (yup_ne hj)) (zow_tr k2 k3) rfl⟩
  · show ([] ++ q3).length ≤ 700
    rw [List.nil_append]; omega
  · simp (disch := first | exact znw_u | exact znw_i) only [zc_286, zs_286_0, zs_286_1, zs_286_2, zs_286_5, zs_286_10, zs_286_11, zs_286_12, zs_286_15, zs_286_16, zs_286_17, zs_286_18, zs_286_21, zs_286_22, zs_286_23, zs_286_26, r0, e1, if_neg n10, s0, zmp_24, ← hh2, t0, zrc_13v, e3, m3, zmf_24, m24, zbk_v, zts_s, List.cons_append, List.nil_append]
/-- outputChar -/
def yinO (o : List Int32) (x : Int32) : Bool := decide (¬ x < 0) && decide (¬ nI o.length - nI 1 < x)
theorem e_287x {h : zH} {w : yW} {th x : Int32} (hM : zMdl h m w th) (hx : yinO (yout w) x = false) : zMC m h (zcall zP sv (d + 2) 287 [.ref m, .int x] h) (nI 97) w (nI 1) := by
  obtain ⟨F, g, q1, q2, _, _, hR, _⟩ := zMdl_31 (x := nI 1) hM
  have r24 := hR.1.2.2.1
  have E : zcall zP sv (d + 1) 199 [.int x, .int 0, .int (nI (yout w).length - nI 1)] h = some (.inl (some (.int (yb (yinO (yout w) x)))), h) := e_199 (d := d)
  rw [hx, yb_f] at E
  have n10 : ¬ nI 1 = 0 := by decide +kernel
  have z7 : zty 7 (.int (nI 97)) = true := by decide +kernel
  refine ⟨_, ?_, q1, q2⟩
  simp (disch := first | exact znw_u | exact znw_i) only [zc_287, zs_287_0, zs_287_1, zs_287_2, zs_287_3, zs_287_4, zs_287_7, zs_287_8, zs_287_9, zs_287_12, zs_287_19, zs_287_20, zs_287_23, zs_287_24, zs_287_27, zs_287_39, zs_287_41, g, zmf_24, r24, E, zbk_v, zts_s, zmp_31, zup_at, zmf_31, yup_eq, if_neg n10, z7, zgd_t, ↓reduceIte, List.cons_append, List.nil_append]
theorem e_287 {h : zH} {w : yW} {th c : Int32} {n : Nat} (hM : zMdl h m w th) (hx : yinO (yout w) (nI n) = true) (hn : (yout w)[n]? = some c) (hc : ychr c) : zMC m h (zcall zP sv (d + 2) 287 [.ref m, .int (nI n)] h) c w 0 := by
  obtain ⟨F, g, q1, q2, _, _, hR, _⟩ := zMdl_31 (x := 0) hM
  have r24 := hR.1.2.2.1
  obtain ⟨_, _, _, ⟨B, b1, b2, b3, b4⟩, _⟩ := hR
  have E : zcall zP sv (d + 1) 199 [.int (nI n), .int 0, .int (nI (yout w).length - nI 1)] h = some (.inl (some (.int (yb (yinO (yout w) (nI n))))), h) := e_199 (d := d)
  rw [hx, yb_t] at E
  have n10 : ¬ nI 1 = 0 := by decide +kernel
  have hnl := (List.getElem?_eq_some_iff.mp hn).1
  have g1 : ∀ Kv, zael (21, B.map Value.int) 21 (nI n) Kv = Kv (.int c) := fun Kv => zaelv (by rw [List.getElem?_map, ytk_at b3 hn]; rfl) (by omega)
  have hc' : zty 7 (.int c) = true := hc
  refine ⟨_, ?_, q1, q2⟩
  simp (disch := first | exact znw_u | exact znw_i | omega) only [zc_287, zs_287_0, zs_287_1, zs_287_2, zs_287_3, zs_287_4, zs_287_7, zs_287_8, zs_287_9, zs_287_12, zs_287_15, zs_287_16, zs_287_20, zs_287_23, zs_287_24, zs_287_27, zs_287_30, zs_287_31, zs_287_34, zs_287_35, zs_287_36, zs_287_41, g, zmf_23, zmf_24, r24, E, zbk_v, zts_s, zmp_31, zup_at, zup_ne, zmf_31, yup_eq, if_neg n10, b1, g1, hc', zgd_t, ↓reduceIte, List.cons_append, List.nil_append]
end ZQX
