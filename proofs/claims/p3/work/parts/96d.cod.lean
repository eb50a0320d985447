section ZQP
variable {sv : Nat → Value} {m : Nat}
theorem yi2_o {l r : yT} {k b x y : Int32} : yi2 (!decide (yfo yfD l < yfo yfD r)) k b x y = yio l r k b x y := by
  unfold yi2 yio
  by_cases c : yfo yfD l < yfo yfD r
  · rw [decide_eq_true c, if_pos c]; rfl
  · rw [decide_eq_false c, if_neg c]; rfl
theorem e_271 {M : Nat} {N Fd : List Int32} {p : yP} (hFl : Fd.length = 700) : ∀ (n : Nat) (t : yT), ysz t ≤ n → ytw t = true → ∀ (pre post : yP) (D : Nat), ydp t + 2 ≤ D → p = pre ++ ypr t ++ post → (Fd.drop pre.length).take (ysz t) = yfs (ymf 3 N) t → p.length ≤ 600 → zMCo sv D m pre.length M t p Fd
  | 0, t, hn, ht, pre, post, D, hD, hp, hg, hpl => by
    have := ytw_sz ht
    omega
  | n + 1, .leaf, hn, ht, pre, post, D, hD, hp, hg, hpl => by cases ht
  | n + 1, .inner z k v l r, hn, ht, pre, post, D, hD, hp, hg, hpl => by
    intro b j q h F hs hl hF hq hj hjs hsq hb hM
    have hn' : ysz l + ysz r + 1 ≤ n + 1 := hn
    have hD' : max (ydp l) (ydp r) + 1 + 2 ≤ D := hD
    have hj' : j + (max (ydp l) (ydp r) + 1) ≤ 20 := hj
    have hq' : q.length + 2 * (ysz l + ysz r + 1) ≤ 700 := hq
    obtain ⟨D, rfl⟩ : ∃ D', D = D' + 3 := ⟨D - 3, by omega⟩
    have e0 : p = pre ++ (k, yva k v) :: (ypr l ++ ypr r ++ post) := by
      rw [hp]
      show pre ++ (k, yva k v) :: (ypr l ++ ypr r) ++ post = _
      rw [List.append_assoc]; rfl
    have hi : p[pre.length]? = some (k, yva k v) := by
      rw [e0, List.getElem?_append_right (Nat.le_refl _), Nat.sub_self]; rfl
    have hpre : pre.length < p.length := (List.getElem?_eq_some_iff.mp hi).1
    obtain ⟨A, B, a1, a2, a3, a4, a5⟩ := e_look hl hi
    have hs' := hs
    obtain ⟨m0, m19, m20, m21, m22, mC⟩ := hs
    have c99 : ¬ nI 99 = nI 115 := by decide +kernel
    have c118 : ¬ nI 118 = nI 115 := by decide +kernel
    have c110 : ¬ nI 110 = nI 115 := by decide +kernel
    have c1 : ¬ nI 118 = nI 99 := by decide +kernel
    have c2 : ¬ nI 110 = nI 99 := by decide +kernel
    have c3 : ¬ nI 110 = nI 118 := by decide +kernel
    have i1 : ¬ yis (nI 99) = true := by decide +kernel
    have i2 : ¬ yis (nI 118) = true := by decide +kernel
    have i3 : ¬ yis (nI 110) = true := by decide +kernel
    have one : ∀ (i : yI), q.length + 1 ≤ 700 → ¬ i.1 = nI 115 → ynr i.1 = i.1 → ∃ h' F', zcall zP sv (D + 2) 270 [.ref m, .int i.1, .int i.2.1, .int (ylf i), .int (yrt i)] h = some (.inl none, h') ∧ zCs h' m F' (q ++ [i]) j ∧ yF4 F F' ∧ zcwr m h h' := by
      intro i hq1 hk1 hk2
      obtain ⟨h1, e1, t0, tC, w1⟩ := e_270 (sv := sv) (d := D + 1) (n := i) m0 m19 mC (by omega) hk2 rfl rfl rfl rfl
      refine ⟨h1, _, e1, ⟨t0, by rw [yup_eq, List.length_append]; rfl, by rw [yup_ne (by omega), m20, ycs_1 hk1], by rw [yup_ne (by omega), m21, yslo_1 hk1], by rw [yup_ne (by omega), m22], tC⟩, fun x x1 _ _ _ => yup_ne x1, w1⟩
    rcases ytw_el ht with g0 | g0 | g0 | g0
    · obtain ⟨g1, g2, g3⟩ := g0
      subst g1 g2 g3
      rw [yco_c (Or.inl rfl)]
      obtain ⟨h1, F1, e1, s1, f1, w1⟩ := one (nI 99, nI b, v, -1, -1) (by omega) c99 (show ynr (nI 99) = nI 99 by decide +kernel)
      refine ⟨h1, F1, ?_, s1, f1, w1⟩
      have ev : yva (nI 99) v = v := by unfold yva; rw [if_neg (show ¬ nI 99 = nI 118 by decide +kernel)]
      have ef : ylf (nI 99, nI b, v, -1, -1) = v := by unfold ylf; rw [if_pos rfl]
      have er : yrt (nI 99, nI b, v, -1, -1) = 0 := by unfold yrt; rw [if_neg i1]
      rw [ef, er] at e1
      rw [ev] at a4
      simp (disch := first | exact znw_u | exact znw_i) only [zc_271, zs_271_0, zs_271_1, zs_271_4, zs_271_5, zs_271_6, zs_271_8, zs_271_10, zs_271_13, zs_271_16, zs_271_17, zs_271_19, zs_271_20, zs_271_21, zs_271_24, zs_271_25, zs_271_26, zs_271_27, zs_271_30, m0, zmf_6, zmf_7, a1, a2, a3, a4, e_205, yar_c, zrc_13v, e1, zbk_v, zts_s, zts_n, ↓reduceIte, List.cons_append, List.nil_append]
    · obtain ⟨g1, gl, g2, g3⟩ := g0
      subst g1 g2 g3
      rw [yco_c (Or.inr rfl)]
      obtain ⟨h1, F1, e1, s1, f1, w1⟩ := one (nI 118, nI b, v, -1, -1) (by omega) c118 (show ynr (nI 118) = nI 118 by decide +kernel)
      refine ⟨h1, F1, ?_, s1, f1, w1⟩
      have ev : yva (nI 118) v = v - nI 97 := by unfold yva; rw [if_pos rfl]
      have ef : ylf (nI 118, nI b, v, -1, -1) = v - nI 97 := by unfold ylf; rw [if_neg c1, if_pos rfl]
      have er : yrt (nI 118, nI b, v, -1, -1) = 0 := by unfold yrt; rw [if_neg i2]
      rw [ef, er] at e1
      rw [ev] at a4
      simp (disch := first | exact znw_u | exact znw_i) only [zc_271, zs_271_0, zs_271_1, zs_271_4, zs_271_5, zs_271_6, zs_271_8, zs_271_10, zs_271_13, zs_271_16, zs_271_17, zs_271_19, zs_271_20, zs_271_21, zs_271_24, zs_271_25, zs_271_26, zs_271_27, zs_271_30, m0, zmf_6, zmf_7, a1, a2, a3, a4, e_205, yar_v, zrc_13v, e1, zbk_v, zts_s, zts_n, ↓reduceIte, List.cons_append, List.nil_append]
    · obtain ⟨g1, gv, g2, g3⟩ := g0
      subst g1 gv g3
      have hj3 : j + (max (ydp l) 0 + 1) ≤ 20 := hj
      have hD3 : max (ydp l) 0 + 1 + 2 ≤ D + 3 := hD
      have hq3 : q.length + 2 * (ysz l + 0 + 1) ≤ 700 := hq
      have hn3 : ysz l + 0 + 1 ≤ n + 1 := hn
      rw [yco_n]
      have l1 : (pre ++ [(nI 110, yva (nI 110) 0)]).length = pre.length + 1 := List.length_append
      have hg' : (Fd.drop pre.length).take (ysz l + 0 + 1) = yfo (ymf 3 N) (.inner z (nI 110) 0 l .leaf) :: (yfs (ymf 3 N) l ++ []) := hg
      obtain ⟨gl, _⟩ := ydt_l (b := 0) (B := []) hg' (yfs_len l) rfl
      have IH := e_271 (M := M) (N := N) (p := p) hFl n l (by omega) g2 (pre ++ [(nI 110, yva (nI 110) 0)]) post (D + 2) (by omega) (by rw [e0]; simp only [List.append_assoc, List.cons_append, List.nil_append, ypr]) (by rw [l1]; exact gl) hpl
      rw [l1] at IH
      obtain ⟨h1, F1, e1, s1, f1, w1⟩ := IH b j q h F hs' hl hF (by omega) (by omega) hjs hsq hb hM
      obtain ⟨r0, r19, r20, r21, r22, rC⟩ := s1
      have hlb := yco_len (M := M) (ysz l) l (Nat.le_refl _) g2 b j
      have ef : ylf (nI 110, nI b, 0, nI b, -1) = nI b := by unfold ylf; rw [if_neg c2, if_neg c3, if_pos rfl]
      have er : yrt (nI 110, nI b, 0, nI b, -1) = 0 := by unfold yrt; rw [if_neg i3]
      obtain ⟨h2, e2, t0, tC, w2⟩ := e_270 (sv := sv) (d := D + 1) (n := (nI 110, nI b, 0, nI b, -1)) r0 r19 rC (by rw [List.length_append]; omega) (show ynr (nI 110) = nI 110 by decide +kernel) rfl rfl ef er
      refine ⟨h2, _, ?_, ⟨t0, by rw [yup_eq, ← List.append_assoc, List.length_append (bs := [_])]; rfl, by rw [yup_ne (by omega), r20, ← List.append_assoc, ycs_1 c110], by rw [yup_ne (by omega), r21, ← List.append_assoc, yslo_1 c110], by rw [yup_ne (by omega), r22], by rw [← List.append_assoc]; exact tC⟩, fun x x1 x2 x3 x4 => (yup_ne x1).trans (f1 x x1 x2 x3 x4), zcwr_tr w1 w2⟩
      have n10 : ¬ nI 1 = 0 := by decide +kernel
      simp (disch := first | exact znw_u | exact znw_i) only [zc_271, zs_271_0, zs_271_1, zs_271_4, zs_271_5, zs_271_6, zs_271_8, zs_271_10, zs_271_13, zs_271_31, zs_271_33, zs_271_35, zs_271_38, zs_271_39, zs_271_40, zs_271_41, zs_271_42, zs_271_43, zs_271_44, zs_271_47, zs_271_48, zs_271_50, zs_271_51, zs_271_52, zs_271_53, zs_271_56, m0, zmf_6, a1, a3, e_205, yar_n, if_neg n10, nI_1', zrc_13v, e1, r0, e2, zbk_v, zts_s, zts_n, ↓reduceIte, List.cons_append, List.nil_append]
    · obtain ⟨gk, gv, g2, g3⟩ := g0
      subst gv
      have l1 : (pre ++ [(k, yva k 0)]).length = pre.length + 1 := List.length_append
      have l2 : (pre ++ [(k, yva k 0)] ++ ypr l).length = pre.length + 1 + ysz l := by rw [List.length_append, l1, ypr_len]
      have hg' : (Fd.drop pre.length).take (ysz l + ysz r + 1) = yfo (ymf 3 N) (.inner z k 0 l r) :: (yfs (ymf 3 N) l ++ yfs (ymf 3 N) r) := hg
      obtain ⟨gl, gr⟩ := ydt_l hg' (yfs_len l) (yfs_len r)
      have fl := yfs_hd g2 gl
      have fr := yfs_hd g3 gr
      rw [ymf3 l g2] at fl
      rw [ymf3 r g3] at fr
      have hlz := ytw_sz g2
      have hrz := ytw_sz g3
      have epl : p = (pre ++ [(k, yva k 0)]) ++ ypr l ++ (ypr r ++ post) := by rw [e0]; simp only [List.append_assoc, List.cons_append, List.nil_append]
      have epr : p = (pre ++ [(k, yva k 0)] ++ ypr l) ++ ypr r ++ post := by rw [e0]; simp only [List.append_assoc, List.cons_append, List.nil_append]
      have IHl := e_271 (M := M) (N := N) (p := p) hFl n l (by omega) g2 _ _ (D + 2) (by omega) epl (by rw [l1]; exact gl) hpl
      have IHr := e_271 (M := M) (N := N) (p := p) hFl n r (by omega) g3 _ _ (D + 2) (by omega) epr (by rw [l2]; exact gr) hpl
      rw [l1] at IHl
      rw [l2] at IHr
      have plen : p.length = pre.length + 1 + ysz l + ysz r + post.length := by rw [epr, List.length_append, List.length_append, l2, ypr_len]
      have E9 : zcall zP sv (D + 2) 209 [.ref m, .int (nI (pre ++ [(k, yva k 0)]).length)] h = _ := e_209 (sv := sv) (d := D) (F := F) m0 g2 (by rw [← epl]; exact hl)
      rw [l1] at E9
      have f1 : ∀ Kv, zael (20, Fd.map Value.int) 20 (nI (pre.length + 1)) Kv = Kv (.int (yfo yfD l)) := fun Kv => zaelv (by rw [List.getElem?_map, fl]; rfl) (by omega)
      have f2 : ∀ Kv, zael (20, Fd.map Value.int) 20 (nI (pre.length + 1 + ysz l)) Kv = Kv (.int (yfo yfD r)) := fun Kv => zaelv (by rw [List.getElem?_map, fr]; rfl) (by omega)
      have nk := yis_ne gk
      have n20 : ¬ nI 2 = 0 := by decide +kernel
      rw [yco_o gk]
      have hsl := (yot_sz (l := l) (r := r)).1
      have hdl := (yot_sz (l := l) (r := r)).2
      obtain ⟨w1', w2'⟩ := yot_tw g2 g3
      have hfz := ytw_sz w1'
      have hoz := ytw_sz w2'
      have yot_pos : ∃ pf po, zMCo sv (D + 2) m pf M (yfi l r) p Fd ∧ zMCo sv (D + 2) m po M (yot l r) p Fd ∧ Fd[po]? = some (yfo yfD (yot l r)) ∧ po < 700 ∧ zrun zP sv (zcall zP sv (D + 2)) 271 0 [.val (.ref m), .val (.int (nI pre.length)), .val (.int (nI b)), .val (.int (nI M)), .unset, .unset, .unset, .unset, .unset, .unset, .unset, .unset] [] h = zbk (zcall zP sv (D + 2) 271 [.ref m, .int (nI pf), .int (nI b), .int (nI M)] h) (fun v h' => zrun zP sv (zcall zP sv (D + 2)) 271 126 [.val (.ref m), .val (.int (nI pre.length)), .val (.int (nI b)), .val (.int (nI M)), .val (.int k), .val (.int (nI (pre.length + 1))), .val (.int (nI (pre.length + 1 + ysz l))), .val (.int (yb (!decide (yfo yfD l < yfo yfD r)))), .val (.int (nI po)), .unset, .unset, .unset] (v.toList ++ []) h') (fun E h' => some (.inr E, h')) := by
        by_cases c : yfo yfD l < yfo yfD r
        · refine ⟨pre.length + 1 + ysz l, pre.length + 1, ?_, ?_, ?_, by omega, ?_⟩
          · unfold yfi; rw [if_pos c]; exact IHr
          · unfold yot; rw [if_pos c]; exact IHl
          · unfold yot; rw [if_pos c]; exact fl
          · rw [decide_eq_true c, Bool.not_true, yb_f]
            simp (disch := first | exact znw_u | exact znw_i) only [zs_271_0, zs_271_1, zs_271_4, zs_271_5, zs_271_6, zs_271_8, zs_271_10, zs_271_13, zs_271_31, zs_271_33, zs_271_35, zs_271_57, zs_271_58, zs_271_59, zs_271_60, zs_271_62, zs_271_63, zs_271_65, zs_271_68, zs_271_70, zs_271_71, zs_271_74, zs_271_76, zs_271_77, zs_271_78, zs_271_81, zs_271_83, zs_271_84, zs_271_91, zs_271_92, zs_271_94, zs_271_96, zs_271_104, zs_271_106, zs_271_108, zs_271_109, zs_271_111, zs_271_119, zs_271_121, zs_271_122, zs_271_123, m0, zmf_6, zmf_12, a1, a3, e_205, yar_o gk, if_neg n20, if_neg nk.2.2.1, nI_1', zrc_13v, E9, hF, f1, f2, if_pos c, zbk_v, zts_s, ↓reduceIte, List.cons_append, List.nil_append]
        · refine ⟨pre.length + 1, pre.length + 1 + ysz l, ?_, ?_, ?_, by omega, ?_⟩
          · unfold yfi; rw [if_neg c]; exact IHl
          · unfold yot; rw [if_neg c]; exact IHr
          · unfold yot; rw [if_neg c]; exact fr
          · rw [decide_eq_false c, Bool.not_false, yb_t]
            have n10 : ¬ nI 1 = 0 := by decide +kernel
            simp (disch := first | exact znw_u | exact znw_i) only [zs_271_0, zs_271_1, zs_271_4, zs_271_5, zs_271_6, zs_271_8, zs_271_10, zs_271_13, zs_271_31, zs_271_33, zs_271_35, zs_271_57, zs_271_58, zs_271_59, zs_271_60, zs_271_62, zs_271_63, zs_271_65, zs_271_68, zs_271_70, zs_271_71, zs_271_74, zs_271_76, zs_271_77, zs_271_78, zs_271_81, zs_271_83, zs_271_84, zs_271_87, zs_271_88, zs_271_92, zs_271_94, zs_271_96, zs_271_99, zs_271_101, zs_271_106, zs_271_108, zs_271_109, zs_271_111, zs_271_114, zs_271_116, zs_271_121, zs_271_122, zs_271_123, m0, zmf_6, zmf_12, a1, a3, e_205, yar_o gk, if_neg n20, if_neg n10, if_neg nk.2.2.1, nI_1', zrc_13v, E9, hF, f1, f2, if_neg c, zbk_v, zts_s, ↓reduceIte, List.cons_append, List.nil_append]
      obtain ⟨pf, po, C1, C2, hfo, hpo, e0'⟩ := yot_pos
      obtain ⟨h1, F1, e1, s1, f1', w1⟩ := C1 b j q h F hs' hl hF (by omega) (by omega) hjs hsq hb hM
      have hlb := yco_len (M := M) (ysz (yfi l r)) (yfi l r) (Nat.le_refl _) w1' b j
      have hmono := yslo_mono (p := q) (yco M (yfi l r) b j)
      have hup := yslo_co (M := M) (ysz (yfi l r)) (yfi l r) (Nat.le_refl _) w1' q b j (by omega)
      obtain ⟨h2, F2, e2, s2, f2', w2⟩ := e_271b (sv := sv) (D := D + 1) (k := k) (b := b) (l1 := nI pre.length) (l5 := nI (pre.length + 1)) (l6 := nI (pre.length + 1 + ysz l)) (l9 := .unset) (l10 := .unset) (l11 := .unset) (c := !decide (yfo yfD l < yfo yfD r)) znw_u znw_u znw_u gk w2' (by omega) C2 s1 (zLst_cg hl (w1.1 _ (by omega) (by omega)) (w1.1 _ (by omega) (by omega))) (by rw [w1.1 _ (by omega) (by omega), hF]) hfo hpo (by rw [List.length_append]; omega) (by omega) (by omega) (by omega) hb hM
      refine ⟨h2, F2, ?_, ?_, fun x x1 x2 x3 x4 => (f2' x x1 x2 x3 x4).trans (f1' x x1 x2 x3 x4), zcwr_tr w1 w2⟩
      · rw [zc_271, e0', e1, zbk_v, zts_n]
        exact e2
      · rw [yi2_o, yi2_o] at s2
        by_cases cc : yfo yfD (yot l r) < nI M - nI b
        · rw [if_pos cc] at s2 ⊢
          rw [← List.append_assoc]
          exact s2
        · rw [if_neg cc] at s2 ⊢
          rw [← List.append_assoc]
          exact s2
end ZQP
