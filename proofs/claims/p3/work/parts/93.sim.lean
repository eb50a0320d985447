section ZFG
variable {sv : Nat → Value} {d : Nat} {h : zH} {m : Nat} {F : Nat → Int32}
theorem e_221l {pre s1 s2 : yP} (hm : zMd h m F (pre ++ s1 ++ s2)) (hl : s1.length = s2.length) (h7 : pre.length + s1.length + s2.length ≤ 700) : ∀ j k, k + j = s1.length → s1.take k = s2.take k → zrun zP sv (zcall zP sv d) 221 21 [.val (.ref m), .val (.int (nI pre.length)), .val (.int (nI (pre.length + s1.length))), .val (.int (nI 1)), .val (.int (nI k))] [] h = some (.inl (some (.int (yb (decide (s1 = s2))))), h) := by
  have h1 := hm.1
  unfold zMo at h1
  have hlen : (pre ++ s1 ++ s2).length = pre.length + s1.length + s2.length := by rw [List.length_append, List.length_append]
  rw [hlen] at h1
  have hsub : nI (pre.length + s1.length + s2.length) - nI (pre.length + s1.length) = nI s1.length := by rw [nI_sub', hl]
  intro j
  induction j with
  | zero =>
    intro k hk ht
    obtain rfl : k = s1.length := by omega
    have he : s1 = s2 := by
      rw [List.take_length] at ht
      rw [ht, List.take_of_length_le (by omega)]
    rw [decide_eq_true he, yb_t]
    simp only [zs_221_0, zs_221_1, zs_221_2, zs_221_3, zs_221_3n, zs_221_4, zs_221_7, zs_221_8, zs_221_9, zs_221_12, zs_221_13, zs_221_16, zs_221_17, zs_221_18, zs_221_19, zs_221_21, zs_221_23, zs_221_23n, zs_221_24, zs_221_27, zs_221_28, zs_221_29, zs_221_32, zs_221_33, zs_221_36, zs_221_36n, zs_221_37, zs_221_40, zs_221_41, zs_221_43, zs_221_44, zs_221_45, zs_221_45n, zs_221_46, zs_221_49, zs_221_50, zs_221_52, zs_221_53, zs_221_54, zs_221_57, zs_221_57n, zs_221_58, zs_221_61, zs_221_62, zs_221_64, zs_221_65, zs_221_66, zs_221_66n, zs_221_67, zs_221_70, zs_221_71, zs_221_73, zs_221_74, zs_221_75, zs_221_78, zs_221_79, zs_221_82, zs_221_83, zs_221_84, zs_221_87, zs_221_90, zs_221_91, h1, zmf_11, yup_eq, hsub, Int32.lt_irrefl, ↓reduceIte, zty_51, zgd_t]
  | succ j ih =>
    intro k hk ht
    obtain ⟨x, hx⟩ : ∃ x, s1[k]? = some x := ⟨_, List.getElem?_eq_getElem (by omega)⟩
    obtain ⟨y, hy⟩ : ∃ y, s2[k]? = some y := ⟨_, List.getElem?_eq_getElem (by omega)⟩
    have hx1 : (pre ++ s1 ++ s2)[pre.length + k]? = some (x.1, x.2) := by
      rw [List.getElem?_append_left (by rw [List.length_append]; omega), List.getElem?_append_right (by omega), show pre.length + k - pre.length = k by omega]
      exact hx
    have hy1 : (pre ++ s1 ++ s2)[pre.length + s1.length + k]? = some (y.1, y.2) := by
      rw [List.getElem?_append_right (by rw [List.length_append]; omega), List.length_append, show pre.length + s1.length + k - (pre.length + s1.length) = k by omega]
      exact hy
    obtain ⟨A, B, a1, a2, a3, a4, a5⟩ := e_made hm.2 hx1
    obtain ⟨A', B', b1, b2, b3, b4, b5⟩ := e_made hm.2 hy1
    rw [a1] at b1
    rw [a2] at b2
    rw [← (Prod.mk.inj b1).2] at b3
    rw [← (Prod.mk.inj b2).2] at b4
    have g1 : nI k < nI s1.length := nI_lt (by omega) (by omega)
    by_cases c1 : x.1 = y.1 ∧ x.2 = y.2
    · have e := ih (k + 1) (by omega) (by
        rw [List.take_add_one, List.take_add_one, ht, hx, hy, Prod.ext c1.1 c1.2])
      rw [zs_221_21, zs_221_23, zs_221_24, h1, zmf_11, yup_eq, zs_221_27, zs_221_28, hsub, zs_221_29, if_pos g1]
      simp (disch := exact znw_i) only [zs_221_0, zs_221_1, zs_221_2, zs_221_3, zs_221_3n, zs_221_4, zs_221_7, zs_221_8, zs_221_9, zs_221_12, zs_221_13, zs_221_16, zs_221_17, zs_221_18, zs_221_19, zs_221_23, zs_221_23n, zs_221_24, zs_221_27, zs_221_28, zs_221_29, zs_221_32, zs_221_33, zs_221_36, zs_221_36n, zs_221_37, zs_221_40, zs_221_41, zs_221_43, zs_221_44, zs_221_45, zs_221_45n, zs_221_46, zs_221_49, zs_221_50, zs_221_52, zs_221_53, zs_221_54, zs_221_57, zs_221_57n, zs_221_58, zs_221_61, zs_221_62, zs_221_64, zs_221_65, zs_221_66, zs_221_66n, zs_221_67, zs_221_70, zs_221_71, zs_221_73, zs_221_74, zs_221_75, zs_221_78, zs_221_79, zs_221_82, zs_221_83, zs_221_84, zs_221_91, h1, zmf_9, zmf_10, nI_1e0, nI_add, a1, a2, a3, a4, b3, b4, if_pos c1.1, if_pos c1.2, ↓reduceIte]
      rw [zs_221_87]
      exact e
    · have hne : ¬ s1 = s2 := fun e => by
        rw [e, hy] at hx
        injection hx with hx
        exact c1 ⟨by rw [hx], by rw [hx]⟩
      rw [decide_eq_false hne, yb_f]
      have e0 : zrun zP sv (zcall zP sv d) 221 21 [.val (.ref m), .val (.int (nI pre.length)), .val (.int (nI (pre.length + s1.length))), .val (.int (nI 1)), .val (.int (nI k))] [] h = zrun zP sv (zcall zP sv d) 221 21 [.val (.ref m), .val (.int (nI pre.length)), .val (.int (nI (pre.length + s1.length))), .val (.int 0), .val (.int (nI (k + 1)))] [] h := by
        rw [zs_221_21, zs_221_23, zs_221_24, h1, zmf_11, yup_eq, zs_221_27, zs_221_28, hsub, zs_221_29, if_pos g1]
        by_cases c2 : x.1 = y.1
        · have c3 : ¬ x.2 = y.2 := fun g => c1 ⟨c2, g⟩
          simp (disch := exact znw_i) only [zs_221_0, zs_221_1, zs_221_2, zs_221_3, zs_221_3n, zs_221_4, zs_221_7, zs_221_8, zs_221_9, zs_221_12, zs_221_13, zs_221_16, zs_221_17, zs_221_18, zs_221_19, zs_221_23, zs_221_23n, zs_221_24, zs_221_27, zs_221_28, zs_221_29, zs_221_32, zs_221_33, zs_221_36, zs_221_36n, zs_221_37, zs_221_40, zs_221_41, zs_221_43, zs_221_44, zs_221_45, zs_221_45n, zs_221_46, zs_221_49, zs_221_50, zs_221_52, zs_221_53, zs_221_54, zs_221_57, zs_221_57n, zs_221_58, zs_221_61, zs_221_62, zs_221_64, zs_221_65, zs_221_66, zs_221_66n, zs_221_67, zs_221_70, zs_221_71, zs_221_73, zs_221_74, zs_221_75, zs_221_78, zs_221_79, zs_221_82, zs_221_83, zs_221_84, zs_221_91, h1, zmf_9, zmf_10, nI_1e0, nI_add, a1, a2, a3, a4, b3, b4, if_pos c2, if_neg c3, ↓reduceIte]
          rw [zs_221_87]
        · simp (disch := exact znw_i) only [zs_221_0, zs_221_1, zs_221_2, zs_221_3, zs_221_3n, zs_221_4, zs_221_7, zs_221_8, zs_221_9, zs_221_12, zs_221_13, zs_221_16, zs_221_17, zs_221_18, zs_221_19, zs_221_23, zs_221_23n, zs_221_24, zs_221_27, zs_221_28, zs_221_29, zs_221_32, zs_221_33, zs_221_36, zs_221_36n, zs_221_37, zs_221_40, zs_221_41, zs_221_43, zs_221_44, zs_221_45, zs_221_45n, zs_221_46, zs_221_49, zs_221_50, zs_221_52, zs_221_53, zs_221_54, zs_221_57, zs_221_57n, zs_221_58, zs_221_61, zs_221_62, zs_221_64, zs_221_65, zs_221_66, zs_221_66n, zs_221_67, zs_221_70, zs_221_71, zs_221_73, zs_221_74, zs_221_75, zs_221_78, zs_221_79, zs_221_82, zs_221_83, zs_221_84, zs_221_91, h1, zmf_9, zmf_10, nI_1e0, nI_add, a1, a2, a3, a4, b3, b4, if_neg c2, ↓reduceIte]
          rw [zs_221_87]
      rw [e0, zs_221_21, zs_221_23, zs_221_24, h1, zmf_11, yup_eq, zs_221_27, zs_221_28, hsub, zs_221_29]
      by_cases c4 : k + 1 < s1.length
      · rw [if_pos (nI_lt c4 (by omega))]
        simp only [zs_221_0, zs_221_1, zs_221_2, zs_221_3, zs_221_3n, zs_221_4, zs_221_7, zs_221_8, zs_221_9, zs_221_12, zs_221_13, zs_221_16, zs_221_17, zs_221_18, zs_221_19, zs_221_21, zs_221_23, zs_221_23n, zs_221_24, zs_221_27, zs_221_28, zs_221_29, zs_221_32, zs_221_33, zs_221_36, zs_221_36n, zs_221_37, zs_221_40, zs_221_41, zs_221_43, zs_221_44, zs_221_45, zs_221_45n, zs_221_46, zs_221_49, zs_221_50, zs_221_52, zs_221_53, zs_221_54, zs_221_57, zs_221_57n, zs_221_58, zs_221_61, zs_221_62, zs_221_64, zs_221_65, zs_221_66, zs_221_66n, zs_221_67, zs_221_70, zs_221_71, zs_221_73, zs_221_74, zs_221_75, zs_221_78, zs_221_79, zs_221_82, zs_221_83, zs_221_84, zs_221_87, zs_221_90, zs_221_91, ↓reduceIte, zty_50, zgd_t]
      · rw [if_neg (nI_nlt (by omega) (by omega))]
        simp only [zs_221_0, zs_221_1, zs_221_2, zs_221_3, zs_221_3n, zs_221_4, zs_221_7, zs_221_8, zs_221_9, zs_221_12, zs_221_13, zs_221_16, zs_221_17, zs_221_18, zs_221_19, zs_221_21, zs_221_23, zs_221_23n, zs_221_24, zs_221_27, zs_221_28, zs_221_29, zs_221_32, zs_221_33, zs_221_36, zs_221_36n, zs_221_37, zs_221_40, zs_221_41, zs_221_43, zs_221_44, zs_221_45, zs_221_45n, zs_221_46, zs_221_49, zs_221_50, zs_221_52, zs_221_53, zs_221_54, zs_221_57, zs_221_57n, zs_221_58, zs_221_61, zs_221_62, zs_221_64, zs_221_65, zs_221_66, zs_221_66n, zs_221_67, zs_221_70, zs_221_71, zs_221_73, zs_221_74, zs_221_75, zs_221_78, zs_221_79, zs_221_82, zs_221_83, zs_221_84, zs_221_87, zs_221_90, zs_221_91, zty_50, zgd_t]
theorem e_221 {pre s1 s2 : yP} (hm : zMd h m F (pre ++ s1 ++ s2)) : zcall zP sv (d + 1) 221 [.ref m, .int (nI pre.length), .int (nI (pre.length + s1.length))] h = some (.inl (some (.int (yb (decide (s1 = s2))))), h) := by
  have h7 : pre.length + s1.length + s2.length ≤ 700 := by
    obtain ⟨_, A, B, _, _, _, _, _, _, a7⟩ := hm
    rw [List.length_append, List.length_append] at a7
    exact a7
  have h1 := hm.1
  unfold zMo at h1
  have hlen : (pre ++ s1 ++ s2).length = pre.length + s1.length + s2.length := by rw [List.length_append, List.length_append]
  rw [hlen] at h1
  have hsub : nI (pre.length + s1.length + s2.length) - nI (pre.length + s1.length) = nI s2.length := nI_sub'
  have hsub2 : nI (pre.length + s1.length) - nI pre.length = nI s1.length := nI_sub'
  by_cases hl : s1.length = s2.length
  · have e := e_221l (sv := sv) (d := d) hm hl h7 s1.length 0 (Nat.zero_add _) rfl
    rw [nI_0] at e
    have g0 : nI s1.length = nI s2.length := by rw [hl]
    rw [zc_221]
    simp (disch := exact znw_u) only [zs_221_0, zs_221_1, zs_221_2, zs_221_3, zs_221_4, zs_221_7, zs_221_8, zs_221_9, zs_221_12, zs_221_13, zs_221_16, zs_221_17, zs_221_18, zs_221_19, h1, zmf_11, yup_eq, hsub, hsub2, if_pos g0]
    exact e
  · have hne : ¬ s1 = s2 := fun g => hl (congrArg List.length g)
    rw [decide_eq_false hne, yb_f]
    have g0 : ¬ nI s1.length = nI s2.length := fun g => hl ((nI_eq (by omega) (by omega)).mp g)
    rw [zc_221]
    by_cases c : (0 : Int32) < nI s2.length
    · simp (disch := exact znw_u) only [zs_221_0, zs_221_1, zs_221_2, zs_221_3, zs_221_3n, zs_221_4, zs_221_7, zs_221_8, zs_221_9, zs_221_12, zs_221_13, zs_221_16, zs_221_17, zs_221_18, zs_221_19, zs_221_21, zs_221_23, zs_221_23n, zs_221_24, zs_221_27, zs_221_28, zs_221_29, zs_221_32, zs_221_33, zs_221_36, zs_221_36n, zs_221_37, zs_221_40, zs_221_41, zs_221_43, zs_221_44, zs_221_45, zs_221_45n, zs_221_46, zs_221_49, zs_221_50, zs_221_52, zs_221_53, zs_221_54, zs_221_57, zs_221_57n, zs_221_58, zs_221_61, zs_221_62, zs_221_64, zs_221_65, zs_221_66, zs_221_66n, zs_221_67, zs_221_70, zs_221_71, zs_221_73, zs_221_74, zs_221_75, zs_221_78, zs_221_79, zs_221_82, zs_221_83, zs_221_84, zs_221_87, zs_221_90, zs_221_91, h1, zmf_11, yup_eq, hsub, hsub2, if_neg g0, if_pos c, zty_50, zgd_t, ↓reduceIte]
    · simp (disch := exact znw_u) only [zs_221_0, zs_221_1, zs_221_2, zs_221_3, zs_221_3n, zs_221_4, zs_221_7, zs_221_8, zs_221_9, zs_221_12, zs_221_13, zs_221_16, zs_221_17, zs_221_18, zs_221_19, zs_221_21, zs_221_23, zs_221_23n, zs_221_24, zs_221_27, zs_221_28, zs_221_29, zs_221_32, zs_221_33, zs_221_36, zs_221_36n, zs_221_37, zs_221_40, zs_221_41, zs_221_43, zs_221_44, zs_221_45, zs_221_45n, zs_221_46, zs_221_49, zs_221_50, zs_221_52, zs_221_53, zs_221_54, zs_221_57, zs_221_57n, zs_221_58, zs_221_61, zs_221_62, zs_221_64, zs_221_65, zs_221_66, zs_221_66n, zs_221_67, zs_221_70, zs_221_71, zs_221_73, zs_221_74, zs_221_75, zs_221_78, zs_221_79, zs_221_82, zs_221_83, zs_221_84, zs_221_87, zs_221_90, zs_221_91, h1, zmf_11, yup_eq, hsub, hsub2, if_neg g0, if_neg c, zty_50, zgd_t]
end ZFG
/-- prefix forms decode uniquely -/
theorem yva_inj {k v v' : Int32} (h : yva k v = yva k v') : v = v' := by
  unfold yva at h
  by_cases g : k = nI 118
  · rw [if_pos g, if_pos g] at h
    have := congrArg (fun x => x + nI 97) h
    simp only [Int32.sub_add_cancel] at this
    exact this
  · rw [if_neg g, if_neg g] at h
    exact h
theorem ypr_yeq : ∀ a b : yT, yeq a b = true → ypr a = ypr b
  | .leaf, .leaf, _ => rfl
  | .leaf, .inner _ _ _ _ _, h => by cases h
  | .inner _ _ _ _ _, .leaf, h => by cases h
  | .inner _ k v l r, .inner _ k' v' l' r', h => by
    have h' : (decide (k = k') && decide (v = v') && yeq l l' && yeq r r') = true := h
    rw [Bool.and_eq_true, Bool.and_eq_true, Bool.and_eq_true] at h'
    obtain ⟨⟨⟨h1, h2⟩, h3⟩, h4⟩ := h'
    obtain rfl := of_decide_eq_true h1
    obtain rfl := of_decide_eq_true h2
    show (k, yva k v) :: (ypr l ++ ypr r) = (k, yva k v) :: (ypr l' ++ ypr r')
    rw [ypr_yeq l l' h3, ypr_yeq r r' h4]
theorem ypr_dec : ∀ (a b : yT) (x y : yP), (a = .leaf ∨ ytw a = true) → (b = .leaf ∨ ytw b = true) → (a = .leaf ↔ b = .leaf) → ypr a ++ x = ypr b ++ y → yeq a b = true ∧ x = y
  | .leaf, .leaf, x, y, _, _, _, h => ⟨rfl, h⟩
  | .leaf, .inner _ _ _ _ _, x, y, _, _, hi, _ => by cases hi.mp rfl
  | .inner _ _ _ _ _, .leaf, x, y, _, _, hi, _ => by cases hi.mpr rfl
  | .inner n k v l r, .inner n' k' v' l' r', x, y, ha, hb, _, h => by
    have ha' := ha.resolve_left (fun g => by cases g)
    have hb' := hb.resolve_left (fun g => by cases g)
    have h0 : (k, yva k v) :: (ypr l ++ ypr r ++ x) = (k', yva k' v') :: (ypr l' ++ ypr r' ++ y) := h
    injection h0 with h1 h2
    injection h1 with h3 h4
    subst h3
    obtain rfl := yva_inj h4
    rw [List.append_assoc, List.append_assoc] at h2
    have key : (l = .leaf ∨ ytw l = true) ∧ (r = .leaf ∨ ytw r = true) ∧ (l' = .leaf ∨ ytw l' = true) ∧ (r' = .leaf ∨ ytw r' = true) ∧ (l = .leaf ↔ l' = .leaf) ∧ (r = .leaf ↔ r' = .leaf) := by
      have nl : ∀ u : yT, ytw u = true → ¬ u = .leaf := fun u hu g => by rw [g] at hu; cases hu
      have c1 : ¬ nI 99 = nI 118 := by decide +kernel
      have c2 : ¬ nI 99 = nI 110 := by decide +kernel
      have c3 : ¬ nI 118 = nI 110 := by decide +kernel
      have c4 : yis (nI 99) = false := by decide +kernel
      have c5 : yis (nI 118) = false := by decide +kernel
      rcases ytw_el ha' with g | g | g | g <;> rcases ytw_el hb' with q | q | q | q
      · exact ⟨Or.inl g.2.1, Or.inl g.2.2, Or.inl q.2.1, Or.inl q.2.2, by simp [g.2.1, q.2.1], by simp [g.2.2, q.2.2]⟩
      · exact absurd (g.1.symm.trans q.1) c1
      · exact absurd (g.1.symm.trans q.1) c2
      · have := q.1; rw [g.1, c4] at this; cases this
      · exact absurd (q.1.symm.trans g.1) c1
      · exact ⟨Or.inl g.2.2.1, Or.inl g.2.2.2, Or.inl q.2.2.1, Or.inl q.2.2.2, by simp [g.2.2.1, q.2.2.1], by simp [g.2.2.2, q.2.2.2]⟩
      · exact absurd (g.1.symm.trans q.1) c3
      · have := q.1; rw [g.1, c5] at this; cases this
      · exact absurd (q.1.symm.trans g.1) c2
      · exact absurd (q.1.symm.trans g.1) c3
      · exact ⟨Or.inr g.2.2.1, Or.inl g.2.2.2, Or.inr q.2.2.1, Or.inl q.2.2.2, ⟨fun e => absurd e (nl _ g.2.2.1), fun e => absurd e (nl _ q.2.2.1)⟩, by simp [g.2.2.2, q.2.2.2]⟩
      · exact absurd g.1 (yis_n110 q.1)
      · have := g.1; rw [q.1, c4] at this; cases this
      · have := g.1; rw [q.1, c5] at this; cases this
      · exact absurd q.1 (yis_n110 g.1)
      · exact ⟨Or.inr g.2.2.1, Or.inr g.2.2.2, Or.inr q.2.2.1, Or.inr q.2.2.2, ⟨fun e => absurd e (nl _ g.2.2.1), fun e => absurd e (nl _ q.2.2.1)⟩, ⟨fun e => absurd e (nl _ g.2.2.2), fun e => absurd e (nl _ q.2.2.2)⟩⟩
    obtain ⟨i1, i2⟩ := ypr_dec l l' _ _ key.1 key.2.2.1 key.2.2.2.2.1 h2
    obtain ⟨j1, j2⟩ := ypr_dec r r' _ _ key.2.1 key.2.2.2.1 key.2.2.2.2.2 i2
    refine ⟨?_, j2⟩
    show (decide (k = k) && decide (v = v) && yeq l l' && yeq r r') = true
    rw [i1, j1, decide_eq_true rfl, decide_eq_true rfl]
    rfl
theorem ypr_eq {a b : yT} (ha : ytw a = true) (hb : ytw b = true) : decide (ypr a = ypr b) = yeq a b := by
  cases h : yeq a b with
  | true => exact decide_eq_true (ypr_yeq a b h)
  | false =>
    refine decide_eq_false (fun g => ?_)
    have nl : ∀ u : yT, ytw u = true → ¬ u = .leaf := fun u hu g => by rw [g] at hu; cases hu
    have := (ypr_dec a b [] [] (Or.inr ha) (Or.inr hb) ⟨fun e => absurd e (nl _ ha), fun e => absurd e (nl _ hb)⟩ (by rw [g])).1
    rw [h] at this
    cases this
