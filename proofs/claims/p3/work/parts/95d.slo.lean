section ZQM
variable {sv : Nat → Value} {d : Nat} {m : Nat} {F : Nat → Int32} {w : yW} {th : Int32} {i : Nat} {t : yT}
theorem yfs_hd {f : Int32 → Int32 → Int32 → Int32 → Int32} {l : yT} {Fd : List Int32} {q : Nat} (hl : ytw l = true) (hg : (Fd.drop q).take (ysz l) = yfs f l) : Fd[q]? = some (yfo f l) := by
  cases l with
  | leaf => cases hl
  | inner n k v a b =>
    have h1 : ((Fd.drop q).take (ysz a + ysz b + 1))[0]? = some (yfo f (.inner n k v a b)) := by
      rw [show (Fd.drop q).take (ysz a + ysz b + 1) = yfs f (.inner n k v a b) from hg]
      rfl
    rw [List.getElem?_take_of_lt (by omega), List.getElem?_drop, Nat.add_zero] at h1
    exact h1
theorem ydt_l {A B : List Int32} {Fd : List Int32} {q a b : Nat} {x : Int32} (h : (Fd.drop q).take (a + b + 1) = x :: (A ++ B)) (ha : A.length = a) (hb : B.length = b) : (Fd.drop (q + 1)).take a = A ∧ (Fd.drop (q + 1 + a)).take b = B := by
  have h1 := congrArg (List.drop 1) h
  rw [List.drop_take, List.drop_drop, List.drop_succ_cons, List.drop_zero, Nat.add_sub_cancel] at h1
  constructor
  · have h2 := congrArg (List.take a) h1
    rw [List.take_take, Nat.min_eq_left (by omega), List.take_left' ha] at h2
    exact h2
  · have h2 := congrArg (List.drop a) h1
    rw [List.drop_take, List.drop_drop, List.drop_left' ha, Nat.add_sub_cancel_left] at h2
    exact h2
theorem nI_a1 {n : Nat} : nI n + nI 1 = nI (n + 1) := nI_add n 1
theorem e_214l {f : Int32 → Int32 → Int32 → Int32 → Int32} {c : Int32} {l2 : Slot} : ∀ (t : yT), ytw t = true → ∀ (pre post : yP) (s Fd : List Int32) (h : zH) (s5 s6 s7 s8 : Slot), znw s5 = true → znw s6 = true → znw s7 = true → znw s8 = true → zMo h m F → zLst h (m + 5) (m + 6) (pre ++ ypr t ++ post) → h.1 (m + 9) = (20, Fd.map Value.int) → Fd.length = 700 → (Fd.drop pre.length).take (ysz t) = yfs f t → zSl h m s → s.length + ysz t < 600 → ∃ h' r5 r6 r7 r8, zrun zP sv (zcall zP sv (d + 2)) 214 16 [.val (.ref m), .val (.int c), l2, .val (.int (nI s.length)), .val (.int (nI (pre.length + ysz t) - nI 1)), s5, s6, s7, s8] [] h = zrun zP sv (zcall zP sv (d + 2)) 214 16 [.val (.ref m), .val (.int c), l2, .val (.int (nI (s.length + 1))), .val (.int (nI pre.length - nI 1)), r5, r6, r7, r8] [] h' ∧ znw r5 = true ∧ znw r6 = true ∧ znw r7 = true ∧ znw r8 = true ∧ zSl h' m (s ++ [ysl f c t]) ∧ zsw m h h'
  | .leaf, ht => by cases ht
  | .inner z k v l r, ht => by
    intro pre post s Fd h s5 s6 s7 s8 h5 h6 h7 h8 hm hl hN hNl hg hs hlen
    have hlen' : s.length + (ysz l + ysz r + 1) < 600 := hlen
    have e0 : pre ++ ypr (.inner z k v l r) ++ post = pre ++ (k, yva k v) :: (ypr l ++ ypr r ++ post) := by
      show pre ++ (k, yva k v) :: (ypr l ++ ypr r) ++ post = _
      rw [List.append_assoc]; rfl
    have hi : (pre ++ (k, yva k v) :: (ypr l ++ ypr r ++ post))[pre.length]? = some (k, yva k v) := by
      rw [List.getElem?_append_right (Nat.le_refl _), Nat.sub_self]; rfl
    rw [e0] at hl
    have ea : pre ++ (k, yva k v) :: (ypr l ++ ypr r ++ post) = (pre ++ [(k, yva k v)]) ++ ypr l ++ (ypr r ++ post) := by
      rw [List.append_assoc, List.append_assoc, List.append_assoc]; rfl
    have eb : pre ++ (k, yva k v) :: (ypr l ++ ypr r ++ post) = (pre ++ [(k, yva k v)] ++ ypr l) ++ ypr r ++ post := by
      rw [ea]
      simp only [List.append_assoc]
    have l1 : (pre ++ [(k, yva k v)]).length = pre.length + 1 := List.length_append
    have l2' : (pre ++ [(k, yva k v)] ++ ypr l).length = pre.length + 1 + ysz l := by rw [List.length_append, l1, ypr_len]
    have hg' : (Fd.drop pre.length).take (ysz l + ysz r + 1) = yfo f (.inner z k v l r) :: (yfs f l ++ yfs f r) := hg
    obtain ⟨gl, gr⟩ := ydt_l hg' (yfs_len l) (yfs_len r)
    have fwl : ∀ h', zsw m h h' → zMo h' m F ∧ zLst h' (m + 5) (m + 6) (pre ++ (k, yva k v) :: (ypr l ++ ypr r ++ post)) ∧ h'.1 (m + 9) = (20, Fd.map Value.int) := fun h' q => ⟨by unfold zMo at hm ⊢; rw [q.1 m (by omega), hm], zLst_cg hl (q.1 _ (by omega)) (q.1 _ (by omega)), by rw [q.1 _ (by omega), hN]⟩
    have hil : pre.length < 700 := (e_look hl hi).choose_spec.choose_spec.2.2.2.2
    have hki : ¬ nI pre.length < 0 := nI_pos (by omega)
    have g01 : ((0 : Int32) < nI 1) = True := by decide +kernel
    have g00 : ((0 : Int32) < 0) = False := by decide +kernel
    have g02 : ((0 : Int32) < nI 2) = True := by decide +kernel
    have g10 : ((nI 1 : Int32) < 0) = False := by decide +kernel
    have g11 : ((nI 1 : Int32) < nI 1) = False := by decide +kernel
    have g12 : ((nI 1 : Int32) < nI 2) = True := by decide +kernel
    have q02 : ((0 : Int32) = nI 2) = False := by decide +kernel
    have q12 : ((nI 1 : Int32) = nI 2) = False := by decide +kernel
    have q99 : (nI 99 = nI 118) = False := by decide +kernel
    have q98 : (nI 99 = nI 110) = False := by decide +kernel
    have q97 : (nI 118 = nI 110) = False := by decide +kernel
    have q96 : (nI 110 = nI 118) = False := by decide +kernel
    have q95 : ¬ nI 99 = nI 42 := by decide +kernel
    have q94 : ¬ nI 118 = nI 42 := by decide +kernel
    have q93 : ¬ nI 110 = nI 42 := by decide +kernel
    rcases ytw_el ht with g0 | g0 | g0 | g0
    · obtain ⟨g1, g2, g3⟩ := g0
      subst g1 g2 g3
      obtain ⟨A, B, a1, a2, a3, a4, a5⟩ := e_look hl hi
      have hm' : h.1 m = (13, zMF m F) := hm
      obtain ⟨h', e, o1, o2⟩ := e_214t (sv := sv) (d := d) (h := h) (i := pre.length) (l1 := .val (.int c)) (l2 := l2) (l6 := .val (.int 0)) (l7 := .val (.int 0)) (s0 := s) (args := []) (y := 0) hm (by rw [List.append_nil]; exact hs) (by omega) (by decide) (by omega)
      refine ⟨h', .val (.int (nI ([] : List Int32).length)), .val (.int 0), .val (.int 0), .val (.int 0), ?_, rfl, rfl, rfl, rfl, ?_, o2⟩
      · rw [← e]
        rw [show pre.length + ysz (.inner z (nI 99) v .leaf .leaf) = pre.length + 1 from rfl, nI_m, List.length_nil, Nat.add_zero]
        simp (disch := first | exact h5 | exact h6 | exact h7 | exact h8 | exact znw_i) only [zs_214_0, zs_214_0n, zs_214_1, zs_214_2, zs_214_5, zs_214_6, zs_214_7, zs_214_8, zs_214_8n, zs_214_9, zs_214_12, zs_214_13, zs_214_14, zs_214_18, zs_214_21, zs_214_21n, zs_214_22, zs_214_25, zs_214_27, zs_214_28, zs_214_31, zs_214_33, zs_214_35, zs_214_38, zs_214_38n, zs_214_39, zs_214_42, zs_214_43, zs_214_44, zs_214_45, zs_214_46, zs_214_49, zs_214_50, zs_214_52, zs_214_54, zs_214_55, zs_214_58, zs_214_58n, zs_214_59, zs_214_62, zs_214_63, zs_214_64, zs_214_65, zs_214_66, zs_214_69, zs_214_70, zs_214_72, zs_214_72n, zs_214_73, zs_214_76, zs_214_78, zs_214_79, zs_214_81, zs_214_84, zs_214_84n, zs_214_85, zs_214_88, zs_214_90, zs_214_91, zs_214_92, zs_214_95, zs_214_96, zs_214_99, zs_214_99n, zs_214_100, zs_214_103, zs_214_105, zs_214_106, zs_214_108, zs_214_111, zs_214_113, zs_214_114, zs_214_117, zs_214_118, zs_214_120, zs_214_122, zs_214_123, zs_214_126, zs_214_126n, zs_214_127, zs_214_130, zs_214_132, zs_214_133, zs_214_135, zs_214_138, zs_214_140, zs_214_140n, zs_214_141, zs_214_144, zs_214_144n, zs_214_145, zs_214_147, zs_214_148, zs_214_149, zs_214_152, zs_214_153, zs_214_154, zs_214_154n, zs_214_155, zs_214_158, zs_214_160, zs_214_161, zs_214_162, zs_214_163, zs_214_165, zs_214_166, zs_214_167, zs_214_170, zs_214_170n, zs_214_171, zs_214_174, zs_214_176, zs_214_177, zs_214_179, zs_214_181, zs_214_184, zs_214_187, zs_214_189, zs_214_190, zs_214_191, zs_214_191n, zs_214_192, zs_214_195, zs_214_196, zs_214_199, zs_214_201, zs_214_202, zs_214_205, zs_214_208, zs_214_208n, zs_214_209, zs_214_212, zs_214_213, zs_214_214, zs_214_16, if_neg hki, hm', zmf_6, a1, a3, e_205, yar_c, nI_0, Nat.add_zero, g00, g10, q02, q99, q98, zrc_13v, zbk_v, zts_s, ↓reduceIte, List.cons_append, List.nil_append]
      · show zSl h' m (s ++ [yst1 c (nI 99) v 0 0 0 0])
        unfold yst1
        simp only [if_neg q95, q99, q98, ↓reduceIte]
        exact o1
    · obtain ⟨g1, glet, g2, g3⟩ := g0
      subst g1 g2 g3
      obtain ⟨A, B, a1, a2, a3, a4, a5⟩ := e_look hl hi
      have hm' : h.1 m = (13, zMF m F) := hm
      obtain ⟨h', e, o1, o2⟩ := e_214t (sv := sv) (d := d) (h := h) (i := pre.length) (l1 := .val (.int c)) (l2 := l2) (l6 := .val (.int 0)) (l7 := .val (.int 0)) (s0 := s) (args := []) (y := if yva (nI 118) v = c then nI 1 else 0) hm (by rw [List.append_nil]; exact hs) (by omega) (by decide) (by omega)
      refine ⟨h', .val (.int (nI ([] : List Int32).length)), .val (.int 0), .val (.int 0), .val (.int (if yva (nI 118) v = c then nI 1 else 0)), ?_, rfl, rfl, rfl, znw_i, ?_, o2⟩
      · rw [← e]
        rw [show pre.length + ysz (.inner z (nI 118) v .leaf .leaf) = pre.length + 1 from rfl, nI_m, List.length_nil, Nat.add_zero]
        by_cases hv : yva (nI 118) v = c
        · rw [if_pos hv]
          simp (disch := first | exact h5 | exact h6 | exact h7 | exact h8 | exact znw_i) only [zs_214_0, zs_214_0n, zs_214_1, zs_214_2, zs_214_5, zs_214_6, zs_214_7, zs_214_8, zs_214_8n, zs_214_9, zs_214_12, zs_214_13, zs_214_14, zs_214_18, zs_214_21, zs_214_21n, zs_214_22, zs_214_25, zs_214_27, zs_214_28, zs_214_31, zs_214_33, zs_214_35, zs_214_38, zs_214_38n, zs_214_39, zs_214_42, zs_214_43, zs_214_44, zs_214_45, zs_214_46, zs_214_49, zs_214_50, zs_214_52, zs_214_54, zs_214_55, zs_214_58, zs_214_58n, zs_214_59, zs_214_62, zs_214_63, zs_214_64, zs_214_65, zs_214_66, zs_214_69, zs_214_70, zs_214_72, zs_214_72n, zs_214_73, zs_214_76, zs_214_78, zs_214_79, zs_214_81, zs_214_84, zs_214_84n, zs_214_85, zs_214_88, zs_214_90, zs_214_91, zs_214_92, zs_214_95, zs_214_96, zs_214_99, zs_214_99n, zs_214_100, zs_214_103, zs_214_105, zs_214_106, zs_214_108, zs_214_111, zs_214_113, zs_214_114, zs_214_117, zs_214_118, zs_214_120, zs_214_122, zs_214_123, zs_214_126, zs_214_126n, zs_214_127, zs_214_130, zs_214_132, zs_214_133, zs_214_135, zs_214_138, zs_214_140, zs_214_140n, zs_214_141, zs_214_144, zs_214_144n, zs_214_145, zs_214_147, zs_214_148, zs_214_149, zs_214_152, zs_214_153, zs_214_154, zs_214_154n, zs_214_155, zs_214_158, zs_214_160, zs_214_161, zs_214_162, zs_214_163, zs_214_165, zs_214_166, zs_214_167, zs_214_170, zs_214_170n, zs_214_171, zs_214_174, zs_214_176, zs_214_177, zs_214_179, zs_214_181, zs_214_184, zs_214_187, zs_214_189, zs_214_190, zs_214_191, zs_214_191n, zs_214_192, zs_214_195, zs_214_196, zs_214_199, zs_214_201, zs_214_202, zs_214_205, zs_214_208, zs_214_208n, zs_214_209, zs_214_212, zs_214_213, zs_214_214, zs_214_16, if_neg hki, hm', zmf_6, zmf_7, a1, a2, a3, a4, e_205, yar_v, nI_0, Nat.add_zero, g00, g10, q02, if_pos hv, zrc_13v, zbk_v, zts_s, ↓reduceIte, List.cons_append, List.nil_append]
        · rw [if_neg hv]
          simp (disch := first | exact h5 | exact h6 | exact h7 | exact h8 | exact znw_i) only [zs_214_0, zs_214_0n, zs_214_1, zs_214_2, zs_214_5, zs_214_6, zs_214_7, zs_214_8, zs_214_8n, zs_214_9, zs_214_12, zs_214_13, zs_214_14, zs_214_18, zs_214_21, zs_214_21n, zs_214_22, zs_214_25, zs_214_27, zs_214_28, zs_214_31, zs_214_33, zs_214_35, zs_214_38, zs_214_38n, zs_214_39, zs_214_42, zs_214_43, zs_214_44, zs_214_45, zs_214_46, zs_214_49, zs_214_50, zs_214_52, zs_214_54, zs_214_55, zs_214_58, zs_214_58n, zs_214_59, zs_214_62, zs_214_63, zs_214_64, zs_214_65, zs_214_66, zs_214_69, zs_214_70, zs_214_72, zs_214_72n, zs_214_73, zs_214_76, zs_214_78, zs_214_79, zs_214_81, zs_214_84, zs_214_84n, zs_214_85, zs_214_88, zs_214_90, zs_214_91, zs_214_92, zs_214_95, zs_214_96, zs_214_99, zs_214_99n, zs_214_100, zs_214_103, zs_214_105, zs_214_106, zs_214_108, zs_214_111, zs_214_113, zs_214_114, zs_214_117, zs_214_118, zs_214_120, zs_214_122, zs_214_123, zs_214_126, zs_214_126n, zs_214_127, zs_214_130, zs_214_132, zs_214_133, zs_214_135, zs_214_138, zs_214_140, zs_214_140n, zs_214_141, zs_214_144, zs_214_144n, zs_214_145, zs_214_147, zs_214_148, zs_214_149, zs_214_152, zs_214_153, zs_214_154, zs_214_154n, zs_214_155, zs_214_158, zs_214_160, zs_214_161, zs_214_162, zs_214_163, zs_214_165, zs_214_166, zs_214_167, zs_214_170, zs_214_170n, zs_214_171, zs_214_174, zs_214_176, zs_214_177, zs_214_179, zs_214_181, zs_214_184, zs_214_187, zs_214_189, zs_214_190, zs_214_191, zs_214_191n, zs_214_192, zs_214_195, zs_214_196, zs_214_199, zs_214_201, zs_214_202, zs_214_205, zs_214_208, zs_214_208n, zs_214_209, zs_214_212, zs_214_213, zs_214_214, zs_214_16, if_neg hki, hm', zmf_6, zmf_7, a1, a2, a3, a4, e_205, yar_v, nI_0, Nat.add_zero, g00, g10, q02, q97, if_neg hv, zrc_13v, zbk_v, zts_s, ↓reduceIte, List.cons_append, List.nil_append]
      · show zSl h' m (s ++ [yst1 c (nI 118) v 0 0 0 0])
        unfold yst1
        simp only [if_neg q94, ↓reduceIte]
        exact o1
    · obtain ⟨g1, gv, g2, g3⟩ := g0
      subst g1 gv g3
      have hl1 := hl
      rw [ea] at hl1
      obtain ⟨h1, u5, u6, u7, u8, e1, p5, p6, p7, p8, p9, p10⟩ := e_214l (f := f) (c := c) (l2 := l2) l g2 _ _ s Fd h s5 s6 s7 s8 h5 h6 h7 h8 hm hl1 hN hNl (by rw [l1]; exact gl) hs (by omega)
      rw [l1] at e1
      obtain ⟨hm2, hl2, hN2⟩ := fwl h1 p10
      obtain ⟨A, B, a1, a2, a3, a4, a5⟩ := e_look hl2 hi
      have hm' : h1.1 m = (13, zMF m F) := hm2
      have z1 := zSl_g p9
      obtain ⟨h', e, o1, o2⟩ := e_214t (sv := sv) (d := d) (h := h1) (i := pre.length) (l1 := .val (.int c)) (l2 := l2) (l6 := .val (.int (ysl f c l))) (l7 := .val (.int 0)) (s0 := s) (args := [ysl f c l]) (y := -(ysl f c l)) hm2 p9 (by omega) (Nat.le_succ 1) (by omega)
      refine ⟨h', .val (.int (nI [ysl f c l].length)), .val (.int (ysl f c l)), .val (.int 0), .val (.int (-(ysl f c l))), ?_, rfl, rfl, rfl, rfl, ?_, zsw_tr p10 o2⟩
      · rw [← e]
        rw [show pre.length + ysz (.inner z (nI 110) 0 l .leaf) = pre.length + 1 + ysz l by show pre.length + (ysz l + 0 + 1) = _; omega]
        refine e1.trans ?_
        rw [nI_m, show [ysl f c l].length = 1 from rfl]
        simp (disch := first | exact p5 | exact p6 | exact p7 | exact p8 | exact znw_i) only [zs_214_0, zs_214_0n, zs_214_1, zs_214_2, zs_214_5, zs_214_6, zs_214_7, zs_214_8, zs_214_8n, zs_214_9, zs_214_12, zs_214_13, zs_214_14, zs_214_18, zs_214_21, zs_214_21n, zs_214_22, zs_214_25, zs_214_27, zs_214_28, zs_214_31, zs_214_33, zs_214_35, zs_214_38, zs_214_38n, zs_214_39, zs_214_42, zs_214_43, zs_214_44, zs_214_45, zs_214_46, zs_214_49, zs_214_50, zs_214_52, zs_214_54, zs_214_55, zs_214_58, zs_214_58n, zs_214_59, zs_214_62, zs_214_63, zs_214_64, zs_214_65, zs_214_66, zs_214_69, zs_214_70, zs_214_72, zs_214_72n, zs_214_73, zs_214_76, zs_214_78, zs_214_79, zs_214_81, zs_214_84, zs_214_84n, zs_214_85, zs_214_88, zs_214_90, zs_214_91, zs_214_92, zs_214_95, zs_214_96, zs_214_99, zs_214_99n, zs_214_100, zs_214_103, zs_214_105, zs_214_106, zs_214_108, zs_214_111, zs_214_113, zs_214_114, zs_214_117, zs_214_118, zs_214_120, zs_214_122, zs_214_123, zs_214_126, zs_214_126n, zs_214_127, zs_214_130, zs_214_132, zs_214_133, zs_214_135, zs_214_138, zs_214_140, zs_214_140n, zs_214_141, zs_214_144, zs_214_144n, zs_214_145, zs_214_147, zs_214_148, zs_214_149, zs_214_152, zs_214_153, zs_214_154, zs_214_154n, zs_214_155, zs_214_158, zs_214_160, zs_214_161, zs_214_162, zs_214_163, zs_214_165, zs_214_166, zs_214_167, zs_214_170, zs_214_170n, zs_214_171, zs_214_174, zs_214_176, zs_214_177, zs_214_179, zs_214_181, zs_214_184, zs_214_187, zs_214_189, zs_214_190, zs_214_191, zs_214_191n, zs_214_192, zs_214_195, zs_214_196, zs_214_199, zs_214_201, zs_214_202, zs_214_205, zs_214_208, zs_214_208n, zs_214_209, zs_214_212, zs_214_213, zs_214_214, zs_214_16, if_neg hki, hm', zmf_6, zmf_14, a1, a3, z1, nI_m, e_205, yar_n, g01, g11, q12, q96, zrc_13v, zbk_v, zts_s, ↓reduceIte, List.cons_append, List.nil_append]
      · show zSl h' m (s ++ [yst1 c (nI 110) 0 (ysl f c l) 0 (yfo f l) 0])
        unfold yst1
        simp only [if_neg q93, q96, ↓reduceIte]
        exact o1
    · obtain ⟨gk, gv, g2, g3⟩ := g0
      subst gv
      have hl1 := hl
      rw [eb] at hl1
      obtain ⟨h1, u5, u6, u7, u8, e1, p5, p6, p7, p8, p9, p10⟩ := e_214l (f := f) (c := c) (l2 := l2) r g3 _ _ s Fd h s5 s6 s7 s8 h5 h6 h7 h8 hm hl1 hN hNl (by rw [l2']; exact gr) hs (by omega)
      rw [l2'] at e1
      obtain ⟨hm2, hl2, hN2⟩ := fwl h1 p10
      have hl2'' := hl2
      rw [ea] at hl2''
      have ls : (s ++ [ysl f c r]).length = s.length + 1 := List.length_append
      obtain ⟨h2, x5, x6, x7, x8, e2, o5, o6, o7, o8, o9, o10⟩ := e_214l (f := f) (c := c) (l2 := l2) l g2 _ _ (s ++ [ysl f c r]) Fd h1 u5 u6 u7 u8 p5 p6 p7 p8 hm2 hl2'' hN2 hNl (by rw [l1]; exact gl) p9 (by rw [ls]; omega)
      rw [l1, ls] at e2
      obtain ⟨hm3, hl3, hN3⟩ := fwl h2 (zsw_tr p10 o10)
      obtain ⟨A, B, a1, a2, a3, a4, a5⟩ := e_look hl3 hi
      have hm' : h2.1 m = (13, zMF m F) := hm3
      have z1 := zSl_g o9
      rw [ls] at z1
      have z2 := zSl_g (zSl_p o9)
      have m2 : nI (s.length + 1 + 1) - nI 2 = nI s.length := by rw [show s.length + 1 + 1 = s.length + 2 by omega, ← nI_add, Int32.add_sub_cancel]
      have hk9 : ¬ k = nI 118 := fun q => by rw [q] at gk; exact absurd gk (by decide +kernel)
      have hk8 : ¬ k = nI 110 := fun q => by rw [q] at gk; exact absurd gk (by decide +kernel)
      have hk7 : ¬ k = nI 99 := fun q => by rw [q] at gk; exact absurd gk (by decide +kernel)
      have ay := yar_o gk
      have o9' : zSl h2 m (s ++ [ysl f c r, ysl f c l]) := by
        rw [show s ++ [ysl f c r, ysl f c l] = s ++ [ysl f c r] ++ [ysl f c l] by rw [List.append_assoc]; rfl]
        exact o9
      obtain ⟨h', e, v1, v2⟩ := e_214t (sv := sv) (d := d) (h := h2) (i := pre.length) (l1 := .val (.int c)) (l2 := l2) (l6 := .val (.int (ysl f c l))) (l7 := .val (.int (ysl f c r))) (s0 := s) (args := [ysl f c r, ysl f c l]) (y := yst1 c k 0 (ysl f c l) (ysl f c r) (yfo f l) (yfo f r)) hm3 o9' (by omega) (Nat.le_refl 2) (by omega)
      refine ⟨h', .val (.int (nI [ysl f c r, ysl f c l].length)), .val (.int (ysl f c l)), .val (.int (ysl f c r)), .val (.int (yst1 c k 0 (ysl f c l) (ysl f c r) (yfo f l) (yfo f r))), ?_, rfl, rfl, rfl, rfl, v1, zsw_tr (zsw_tr p10 o10) v2⟩
      rw [← e]
      rw [show pre.length + ysz (.inner z k 0 l r) = pre.length + 1 + ysz l + ysz r by show pre.length + (ysz l + ysz r + 1) = _; omega]
      refine e1.trans (e2.trans ?_)
      rw [show [ysl f c r, ysl f c l].length = 2 from rfl, nI_m]
      by_cases hs2 : k = nI 42
      · subst hs2
        have hl3' := hl3
        rw [ea] at hl3'
        have E9 : zcall zP sv (d + 2) 209 [.ref m, .int (nI (pre ++ [(nI 42, yva (nI 42) 0)]).length)] h2 = _ := e_209 (sv := sv) (d := d) hm3 g2 hl3'
        rw [l1] at E9
        have f1 : ∀ Kv, zael (20, Fd.map Value.int) 20 (nI (pre.length + 1)) Kv = Kv (.int (yfo f l)) := fun Kv => zaelv (by rw [List.getElem?_map, yfs_hd g2 gl]; rfl) (by omega)
        have hb5 : pre.length + 1 + ysz l < 2 ^ 31 := by omega
        have f2 : ∀ Kv, zael (20, Fd.map Value.int) 20 (nI (pre.length + 1 + ysz l)) Kv = Kv (.int (yfo f r)) := fun Kv => zaelv (by rw [List.getElem?_map, yfs_hd g3 gr]; rfl) hb5
        unfold yst1
        simp (disch := first | exact o5 | exact o6 | exact o7 | exact o8 | exact znw_i) only [zs_214_0, zs_214_0n, zs_214_1, zs_214_2, zs_214_5, zs_214_6, zs_214_7, zs_214_8, zs_214_8n, zs_214_9, zs_214_12, zs_214_13, zs_214_14, zs_214_18, zs_214_21, zs_214_21n, zs_214_22, zs_214_25, zs_214_27, zs_214_28, zs_214_31, zs_214_33, zs_214_35, zs_214_38, zs_214_38n, zs_214_39, zs_214_42, zs_214_43, zs_214_44, zs_214_45, zs_214_46, zs_214_49, zs_214_50, zs_214_52, zs_214_54, zs_214_55, zs_214_58, zs_214_58n, zs_214_59, zs_214_62, zs_214_63, zs_214_64, zs_214_65, zs_214_66, zs_214_69, zs_214_70, zs_214_72, zs_214_72n, zs_214_73, zs_214_76, zs_214_78, zs_214_79, zs_214_81, zs_214_84, zs_214_84n, zs_214_85, zs_214_88, zs_214_90, zs_214_91, zs_214_92, zs_214_95, zs_214_96, zs_214_99, zs_214_99n, zs_214_100, zs_214_103, zs_214_105, zs_214_106, zs_214_108, zs_214_111, zs_214_113, zs_214_114, zs_214_117, zs_214_118, zs_214_120, zs_214_122, zs_214_123, zs_214_126, zs_214_126n, zs_214_127, zs_214_130, zs_214_132, zs_214_133, zs_214_135, zs_214_138, zs_214_140, zs_214_140n, zs_214_141, zs_214_144, zs_214_144n, zs_214_145, zs_214_147, zs_214_148, zs_214_149, zs_214_152, zs_214_153, zs_214_154, zs_214_154n, zs_214_155, zs_214_158, zs_214_160, zs_214_161, zs_214_162, zs_214_163, zs_214_165, zs_214_166, zs_214_167, zs_214_170, zs_214_170n, zs_214_171, zs_214_174, zs_214_176, zs_214_177, zs_214_179, zs_214_181, zs_214_184, zs_214_187, zs_214_189, zs_214_190, zs_214_191, zs_214_191n, zs_214_192, zs_214_195, zs_214_196, zs_214_199, zs_214_201, zs_214_202, zs_214_205, zs_214_208, zs_214_208n, zs_214_209, zs_214_212, zs_214_213, zs_214_214, zs_214_16, if_neg hki, hm', zmf_6, zmf_12, zmf_14, a1, a3, z1, z2, m2, nI_m, e_205, ay, g02, g12, hk9, hk8, hN3, f1, f2, E9, nI_a1, zrc_13v, zbk_v, zts_s, ↓reduceIte, List.cons_append, List.nil_append]
      · have E1 : ∀ a b, zcall zP sv (d + 2) 211 [.int k, .int a, .int b] h2 = some (.inl (some (.int (yop k a b))), h2) := fun a b => e_211 (d := d + 1) gk
        unfold yst1
        simp (disch := first | exact o5 | exact o6 | exact o7 | exact o8 | exact znw_i) only [zs_214_0, zs_214_0n, zs_214_1, zs_214_2, zs_214_5, zs_214_6, zs_214_7, zs_214_8, zs_214_8n, zs_214_9, zs_214_12, zs_214_13, zs_214_14, zs_214_18, zs_214_21, zs_214_21n, zs_214_22, zs_214_25, zs_214_27, zs_214_28, zs_214_31, zs_214_33, zs_214_35, zs_214_38, zs_214_38n, zs_214_39, zs_214_42, zs_214_43, zs_214_44, zs_214_45, zs_214_46, zs_214_49, zs_214_50, zs_214_52, zs_214_54, zs_214_55, zs_214_58, zs_214_58n, zs_214_59, zs_214_62, zs_214_63, zs_214_64, zs_214_65, zs_214_66, zs_214_69, zs_214_70, zs_214_72, zs_214_72n, zs_214_73, zs_214_76, zs_214_78, zs_214_79, zs_214_81, zs_214_84, zs_214_84n, zs_214_85, zs_214_88, zs_214_90, zs_214_91, zs_214_92, zs_214_95, zs_214_96, zs_214_99, zs_214_99n, zs_214_100, zs_214_103, zs_214_105, zs_214_106, zs_214_108, zs_214_111, zs_214_113, zs_214_114, zs_214_117, zs_214_118, zs_214_120, zs_214_122, zs_214_123, zs_214_126, zs_214_126n, zs_214_127, zs_214_130, zs_214_132, zs_214_133, zs_214_135, zs_214_138, zs_214_140, zs_214_140n, zs_214_141, zs_214_144, zs_214_144n, zs_214_145, zs_214_147, zs_214_148, zs_214_149, zs_214_152, zs_214_153, zs_214_154, zs_214_154n, zs_214_155, zs_214_158, zs_214_160, zs_214_161, zs_214_162, zs_214_163, zs_214_165, zs_214_166, zs_214_167, zs_214_170, zs_214_170n, zs_214_171, zs_214_174, zs_214_176, zs_214_177, zs_214_179, zs_214_181, zs_214_184, zs_214_187, zs_214_189, zs_214_190, zs_214_191, zs_214_191n, zs_214_192, zs_214_195, zs_214_196, zs_214_199, zs_214_201, zs_214_202, zs_214_205, zs_214_208, zs_214_208n, zs_214_209, zs_214_212, zs_214_213, zs_214_214, zs_214_16, if_neg hki, hm', zmf_6, zmf_12, zmf_14, a1, a3, z1, z2, m2, nI_m, e_205, ay, g02, g12, hk9, hk8, hk7, if_neg hs2, E1, zrc_13v, zbk_v, zts_s, ↓reduceIte, List.cons_append, List.nil_append]
end ZQM
