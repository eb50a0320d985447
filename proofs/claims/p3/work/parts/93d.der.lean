theorem zw_2_43 : zswp (zP.2.2.2.1 2) 162 (nI 43) = 162 := by decide +kernel
theorem zw_2_45 : zswp (zP.2.2.2.1 2) 162 (nI 45) = 162 := by decide +kernel
theorem ysz_yder0 {c : Int32} : ∀ t : yT, ytw t = true → 0 < ysz (yder c t) := fun t ht => ytw_sz (ytw_yder t ht)
section ZFJ
variable {sv : Nat → Value} {d : Nat} {m : Nat} {F : Nat → Int32}
theorem e_217l {t : yT} {pre post qs : yP} (ht : ytw t = true) (h7 : qs.length + ysz t ≤ 700) : ∀ n j (h : zH), j + n = ysz t → zLst h (m + 5) (m + 6) (pre ++ ypr t ++ post) → zMd h m F (qs ++ (ypr t).take j) → ∃ h', zrun zP sv (zcall zP sv (d + 2)) 217 8 [.val (.ref m), .val (.int (nI pre.length)), .val (.int (nI (pre.length + ysz t))), .val (.int (nI (pre.length + j)))] [] h = some (.inl (some (.int (nI (pre.length + ysz t)))), h') ∧ zMd h' m F (qs ++ ypr t) ∧ zfm m h h' := by
  intro n
  induction n with
  | zero =>
    intro j h hj hl hm
    obtain rfl : j = ysz t := by omega
    rw [← ypr_len t, List.take_length] at hm
    refine ⟨h, ?_, hm, zfm_rfl⟩
    simp only [zs_217_0, zs_217_0n, zs_217_1, zs_217_2, zs_217_5, zs_217_6, zs_217_7, zs_217_8, zs_217_9, zs_217_10, zs_217_13, zs_217_13n, zs_217_14, zs_217_14n, zs_217_15, zs_217_18, zs_217_19, zs_217_20, zs_217_20n, zs_217_21, zs_217_24, zs_217_25, zs_217_26, zs_217_29, zs_217_32, zs_217_35, zs_217_36, Int32.lt_irrefl, ↓reduceIte]
  | succ n ih =>
    intro j h hj hl hm
    have hpl : (pre ++ ypr t ++ post).length ≤ 700 := by
      obtain ⟨A, B, _, _, _, _, _, _, a7⟩ := hl
      exact a7
    rw [List.length_append, List.length_append, ypr_len] at hpl
    obtain ⟨x, hx⟩ : ∃ x, (ypr t)[j]? = some x := ⟨_, List.getElem?_eq_getElem (by rw [ypr_len]; omega)⟩
    have hi : (pre ++ ypr t ++ post)[pre.length + j]? = some (x.1, x.2) := by
      rw [List.append_assoc, List.getElem?_append_right (by omega), show pre.length + j - pre.length = j by omega, List.getElem?_append_left (by rw [ypr_len]; omega)]
      exact hx
    obtain ⟨A, B, a1, a2, a3, a4, a5⟩ := e_look hl hi
    have h1 := hm.1
    unfold zMo at h1
    have hlen : (qs ++ (ypr t).take j).length = qs.length + j := by rw [List.length_append, List.length_take, ypr_len]; omega
    obtain ⟨h2, e2, w2, f2⟩ := e_216 (sv := sv) (d := d + 1) (k := x.1) (v := x.2) hm (by omega) (ynk_ypr t (Or.inr ht) x (List.mem_of_getElem? hx))
    have w3 : zMd h2 m F (qs ++ (ypr t).take (j + 1)) := by
      rw [List.take_add_one, hx, ← List.append_assoc]
      exact w2
    obtain ⟨h3, e3, w4, f3⟩ := ih (j + 1) h2 (by omega) (zLst_fm hl f2) w3
    refine ⟨h3, ?_, w4, zfm_tr f2 f3⟩
    have g1 : nI (pre.length + j) < nI (pre.length + ysz t) := nI_lt (by omega) (by omega)
    simp (disch := exact znw_i) only [zs_217_0, zs_217_0n, zs_217_1, zs_217_2, zs_217_5, zs_217_6, zs_217_7, zs_217_8, zs_217_9, zs_217_10, zs_217_13, zs_217_13n, zs_217_14, zs_217_14n, zs_217_15, zs_217_18, zs_217_19, zs_217_20, zs_217_20n, zs_217_21, zs_217_24, zs_217_25, zs_217_26, zs_217_29, zs_217_35, zs_217_36, if_pos g1, h1, zmf_6, zmf_7, a1, a2, a3, a4, zrc_13v, e2, nI_1', zbk_v, zts_n]
    rw [zs_217_32]
    exact e3
theorem e_217 {t : yT} {pre post qs : yP} {h : zH} (ht : ytw t = true) (h7 : qs.length + ysz t ≤ 700) (hl : zLst h (m + 5) (m + 6) (pre ++ ypr t ++ post)) (hm : zMd h m F qs) : ∃ h', zcall zP sv (d + 3) 217 [.ref m, .int (nI pre.length)] h = some (.inl (some (.int (nI (pre.length + ysz t)))), h') ∧ zMd h' m F (qs ++ ypr t) ∧ zfm m h h' := by
  have e1 := e_209 (sv := sv) (d := d) hm.1 ht hl
  obtain ⟨h', e2, w2, f2⟩ := e_217l (sv := sv) (d := d) (pre := pre) (post := post) (qs := qs) ht h7 (ysz t) 0 h (Nat.zero_add _) hl (by rw [List.take_zero, List.append_nil]; exact hm)
  refine ⟨h', ?_, w2, f2⟩
  rw [Nat.add_zero] at e2
  rw [zc_217]
  simp (disch := exact znw_u) only [zs_217_0, zs_217_0n, zs_217_1, zs_217_2, zs_217_5, zs_217_6, zs_217_7, zs_217_9, zs_217_10, zs_217_13, zs_217_13n, zs_217_14, zs_217_14n, zs_217_15, zs_217_18, zs_217_19, zs_217_20, zs_217_20n, zs_217_21, zs_217_24, zs_217_25, zs_217_26, zs_217_29, zs_217_32, zs_217_35, zs_217_36, zMd_rc hm, e1, zbk_v, zts_s]
  exact e2
theorem e_224 {c : Int32} : ∀ (t : yT), ytw t = true → ∀ (D : Nat) (pre post qs : yP) (h : zH), ydp t + 4 ≤ D → zLst h (m + 5) (m + 6) (pre ++ ypr t ++ post) → zMd h m F qs → qs.length + ysz (yder c t) ≤ 700 → ∃ h', zcall zP sv D 224 [.ref m, .int (nI pre.length), .int (c - nI 97)] h = some (.inl (some (.int (nI (pre.length + ysz t)))), h') ∧ zMd h' m F (qs ++ ypr (yder c t)) ∧ zfm m h h'
  | .leaf, ht => by cases ht
  | .inner z k v l r, ht => by
    intro D pre post qs h hD hl hm h7
    obtain ⟨d, rfl⟩ : ∃ d, D = d + 4 := ⟨D - 4, by omega⟩
    have hD' : max (ydp l) (ydp r) + 1 + 4 ≤ d + 4 := hD
    have m1 := Nat.le_max_left (ydp l) (ydp r)
    have m2 := Nat.le_max_right (ydp l) (ydp r)
    have e0 : pre ++ ypr (.inner z k v l r) ++ post = pre ++ (k, yva k v) :: (ypr l ++ ypr r ++ post) := by
      show pre ++ (k, yva k v) :: (ypr l ++ ypr r) ++ post = _
      rw [List.append_assoc]; rfl
    have hi : (pre ++ (k, yva k v) :: (ypr l ++ ypr r ++ post))[pre.length]? = some (k, yva k v) := by
      rw [List.getElem?_append_right (Nat.le_refl _), Nat.sub_self]; rfl
    rw [e0] at hl
    obtain ⟨A, B, a1, a2, a3, a4, a5⟩ := e_look hl hi
    have h1 := hm.1
    unfold zMo at h1
    have ea : pre ++ (k, yva k v) :: (ypr l ++ ypr r ++ post) = (pre ++ [(k, yva k v)]) ++ ypr l ++ (ypr r ++ post) := by
      rw [List.append_assoc, List.append_assoc, List.append_assoc]; rfl
    have eb : pre ++ (k, yva k v) :: (ypr l ++ ypr r ++ post) = (pre ++ [(k, yva k v)] ++ ypr l) ++ ypr r ++ post := by
      rw [ea]
      simp only [List.append_assoc]
    have l1 : (pre ++ [(k, yva k v)]).length = pre.length + 1 := List.length_append
    have l2 : (pre ++ [(k, yva k v)] ++ ypr l).length = pre.length + 1 + ysz l := by rw [List.length_append, l1, ypr_len]
    have hyd : yder c (.inner z k v l r) = (if k = nI 110 then ymk (nI 110) 0 (yder c l) .leaf else if k = nI 43 ∨ k = nI 45 then ymk k 0 (yder c l) (yder c r) else if k = nI 42 then ymk (nI 43) 0 (ymk (nI 42) 0 (yder c l) r) (ymk (nI 42) 0 l (yder c r)) else ycn (if k = nI 118 ∧ v = c then nI 1 else 0)) := rfl
    have zc9 : ¬ (nI 99 : Int32) = nI 118 := by decide +kernel
    rcases ytw_el ht with g | g | g | g
    · obtain ⟨g1, g2, g3⟩ := g
      subst g1 g2 g3
      rw [hyd, if_neg (by decide +kernel), if_neg (by decide +kernel), if_neg (by decide +kernel), if_neg (fun q => zc9 q.1)] at h7 ⊢
      obtain ⟨h2, e2, w2, f2⟩ := e_216 (sv := sv) (d := d + 2) (k := nI 99) (v := 0) hm (by rw [ysz_cn] at h7; omega) ynr_99
      rw [ypr_cn]
      refine ⟨h2, ?_, w2, f2⟩
      rw [zc_224]
      simp only [zs_224_0, zs_224_1, zs_224_4, zs_224_5, h1, zmf_6, a1, a3, zs_224_0, zs_224_0n, zs_224_1, zs_224_4, zs_224_5, zs_224_6, zs_224_48, zs_224_48n, zs_224_49, zs_224_51, zs_224_51n, zs_224_52, zs_224_55, zs_224_56, zs_224_57, zs_224_59, zs_224_62, zs_224_62n, zs_224_63, zs_224_66, zs_224_67, zs_224_68, zs_224_69, zs_224_72, zs_224_73, zs_224_76, zs_224_77, zs_224_80, zs_224_81, zs_224_82, zs_224_83, zs_224_84, zs_224_84n, zs_224_85, zs_224_87, zs_224_88, zs_224_91, zs_224_91n, zs_224_92, zs_224_93, zs_224_94, zs_224_95, zs_224_96, zs_224_99, zs_224_100, zs_224_100n, zs_224_101, zs_224_102, zs_224_103, zs_224_104, zs_224_107, zs_224_108, zs_224_108n, zs_224_109, zs_224_111, zs_224_112, zs_224_115, zs_224_115n, zs_224_116, zs_224_118, zs_224_119, zs_224_122, zs_224_122n, zs_224_123, zs_224_124, zs_224_125, zs_224_126, zs_224_127, zs_224_130, zs_224_132, zs_224_132n, zs_224_133, zs_224_134, zs_224_137, zs_224_139, zs_224_139n, zs_224_140, zs_224_142, zs_224_143, zs_224_146, zs_224_146n, zs_224_147, zs_224_148, zs_224_149, zs_224_150, zs_224_153, zs_224_155, zs_224_155n, zs_224_156, zs_224_157, zs_224_158, zs_224_161, zs_224_162, zs_224_162n, zs_224_163, zs_224_163n, zs_224_164, zs_224_167, zs_224_168, zs_224_169, zs_224_170, zs_224_173, zs_224_173n, zs_224_174, zs_224_174n, zs_224_175, zs_224_176, zs_224_177, zs_224_178, zs_224_179, zs_224_182, zs_224_183, zs_224_186, zw_2_99, if_neg zc9, zrc_13v, e2, nI_1', zbk_v, zts_n]
      rfl
    · obtain ⟨g1, g4, g2, g3⟩ := g
      subst g1 g2 g3
      rw [hyd, if_neg (by decide +kernel), if_neg (by decide +kernel), if_neg (by decide +kernel)] at h7 ⊢
      have hv : yva (nI 118) v = v - nI 97 := if_pos rfl
      rw [hv] at a4
      by_cases hc : v = c
      · rw [if_pos ⟨rfl, hc⟩] at h7 ⊢
        subst hc
        obtain ⟨h2, e2, w2, f2⟩ := e_216 (sv := sv) (d := d + 2) (k := nI 99) (v := nI 1) hm (by rw [ysz_cn] at h7; omega) ynr_99
        rw [ypr_cn]
        refine ⟨h2, ?_, w2, f2⟩
        rw [zc_224]
        simp only [zs_224_0, zs_224_0n, zs_224_1, zs_224_4, zs_224_5, zs_224_6, zs_224_48, zs_224_48n, zs_224_49, zs_224_51, zs_224_51n, zs_224_52, zs_224_55, zs_224_56, zs_224_57, zs_224_59, zs_224_62, zs_224_62n, zs_224_63, zs_224_66, zs_224_67, zs_224_68, zs_224_69, zs_224_72, zs_224_73, zs_224_76, zs_224_77, zs_224_80, zs_224_81, zs_224_82, zs_224_83, zs_224_84, zs_224_84n, zs_224_85, zs_224_87, zs_224_88, zs_224_91, zs_224_91n, zs_224_92, zs_224_93, zs_224_94, zs_224_95, zs_224_96, zs_224_99, zs_224_100, zs_224_100n, zs_224_101, zs_224_102, zs_224_103, zs_224_104, zs_224_107, zs_224_108, zs_224_108n, zs_224_109, zs_224_111, zs_224_112, zs_224_115, zs_224_115n, zs_224_116, zs_224_118, zs_224_119, zs_224_122, zs_224_122n, zs_224_123, zs_224_124, zs_224_125, zs_224_126, zs_224_127, zs_224_130, zs_224_132, zs_224_132n, zs_224_133, zs_224_134, zs_224_137, zs_224_139, zs_224_139n, zs_224_140, zs_224_142, zs_224_143, zs_224_146, zs_224_146n, zs_224_147, zs_224_148, zs_224_149, zs_224_150, zs_224_153, zs_224_155, zs_224_155n, zs_224_156, zs_224_157, zs_224_158, zs_224_161, zs_224_162, zs_224_162n, zs_224_163, zs_224_163n, zs_224_164, zs_224_167, zs_224_168, zs_224_169, zs_224_170, zs_224_173, zs_224_173n, zs_224_174, zs_224_174n, zs_224_175, zs_224_176, zs_224_177, zs_224_178, zs_224_179, zs_224_182, zs_224_183, zs_224_186, h1, zmf_6, zmf_7, a1, a2, a3, a4, zw_2_118, zrc_13v, e2, nI_1', zbk_v, zts_n, ↓reduceIte]
        rfl
      · have hc2 : ¬ v - nI 97 = c - nI 97 := fun q => hc (by
          have := congrArg (fun x => x + nI 97) q
          simp only [Int32.sub_add_cancel] at this
          exact this)
        rw [if_neg (fun q => hc q.2)] at h7 ⊢
        obtain ⟨h2, e2, w2, f2⟩ := e_216 (sv := sv) (d := d + 2) (k := nI 99) (v := 0) hm (by rw [ysz_cn] at h7; omega) ynr_99
        rw [ypr_cn]
        refine ⟨h2, ?_, w2, f2⟩
        rw [zc_224]
        simp only [zs_224_0, zs_224_0n, zs_224_1, zs_224_4, zs_224_5, zs_224_6, zs_224_48, zs_224_48n, zs_224_49, zs_224_51, zs_224_51n, zs_224_52, zs_224_55, zs_224_56, zs_224_57, zs_224_59, zs_224_62, zs_224_62n, zs_224_63, zs_224_66, zs_224_67, zs_224_68, zs_224_69, zs_224_72, zs_224_73, zs_224_76, zs_224_77, zs_224_80, zs_224_81, zs_224_82, zs_224_83, zs_224_84, zs_224_84n, zs_224_85, zs_224_87, zs_224_88, zs_224_91, zs_224_91n, zs_224_92, zs_224_93, zs_224_94, zs_224_95, zs_224_96, zs_224_99, zs_224_100, zs_224_100n, zs_224_101, zs_224_102, zs_224_103, zs_224_104, zs_224_107, zs_224_108, zs_224_108n, zs_224_109, zs_224_111, zs_224_112, zs_224_115, zs_224_115n, zs_224_116, zs_224_118, zs_224_119, zs_224_122, zs_224_122n, zs_224_123, zs_224_124, zs_224_125, zs_224_126, zs_224_127, zs_224_130, zs_224_132, zs_224_132n, zs_224_133, zs_224_134, zs_224_137, zs_224_139, zs_224_139n, zs_224_140, zs_224_142, zs_224_143, zs_224_146, zs_224_146n, zs_224_147, zs_224_148, zs_224_149, zs_224_150, zs_224_153, zs_224_155, zs_224_155n, zs_224_156, zs_224_157, zs_224_158, zs_224_161, zs_224_162, zs_224_162n, zs_224_163, zs_224_163n, zs_224_164, zs_224_167, zs_224_168, zs_224_169, zs_224_170, zs_224_173, zs_224_173n, zs_224_174, zs_224_174n, zs_224_175, zs_224_176, zs_224_177, zs_224_178, zs_224_179, zs_224_182, zs_224_183, zs_224_186, h1, zmf_6, zmf_7, a1, a2, a3, a4, zw_2_118, if_neg hc2, zrc_13v, e2, nI_1', zbk_v, zts_n, ↓reduceIte]
        rfl
    · obtain ⟨g1, gv, g2, g3⟩ := g
      subst g1 gv g3
      rw [hyd, if_pos rfl] at h7 ⊢
      have h7' : qs.length + (ysz (yder c l) + 0 + 1) ≤ 700 := h7
      obtain ⟨h2, e2, w2, f2⟩ := e_216 (sv := sv) (d := d + 2) (k := nI 110) (v := 0) hm (by omega) ynr_110
      have hl2 := zLst_fm hl f2
      rw [ea] at hl2
      have lq : (qs ++ [(nI 110, (0 : Int32))]).length = qs.length + 1 := List.length_append
      obtain ⟨h3, e3, w3, f3⟩ := e_224 (c := c) l g2 (d + 3) _ _ _ h2 (by omega) hl2 w2 (by rw [lq]; omega)
      rw [l1] at e3
      refine ⟨h3, ?_, ?_, zfm_tr f2 f3⟩
      · rw [zc_224]
        simp only [zs_224_0, zs_224_0n, zs_224_1, zs_224_4, zs_224_5, zs_224_6, zs_224_48, zs_224_48n, zs_224_49, zs_224_51, zs_224_51n, zs_224_52, zs_224_55, zs_224_56, zs_224_57, zs_224_59, zs_224_62, zs_224_62n, zs_224_63, zs_224_66, zs_224_67, zs_224_68, zs_224_69, zs_224_72, zs_224_73, zs_224_76, zs_224_77, zs_224_80, zs_224_81, zs_224_82, zs_224_83, zs_224_84, zs_224_84n, zs_224_85, zs_224_87, zs_224_88, zs_224_91, zs_224_91n, zs_224_92, zs_224_93, zs_224_94, zs_224_95, zs_224_96, zs_224_99, zs_224_100, zs_224_100n, zs_224_101, zs_224_102, zs_224_103, zs_224_104, zs_224_107, zs_224_108, zs_224_108n, zs_224_109, zs_224_111, zs_224_112, zs_224_115, zs_224_115n, zs_224_116, zs_224_118, zs_224_119, zs_224_122, zs_224_122n, zs_224_123, zs_224_124, zs_224_125, zs_224_126, zs_224_127, zs_224_130, zs_224_132, zs_224_132n, zs_224_133, zs_224_134, zs_224_137, zs_224_139, zs_224_139n, zs_224_140, zs_224_142, zs_224_143, zs_224_146, zs_224_146n, zs_224_147, zs_224_148, zs_224_149, zs_224_150, zs_224_153, zs_224_155, zs_224_155n, zs_224_156, zs_224_157, zs_224_158, zs_224_161, zs_224_162, zs_224_162n, zs_224_163, zs_224_163n, zs_224_164, zs_224_167, zs_224_168, zs_224_169, zs_224_170, zs_224_173, zs_224_173n, zs_224_174, zs_224_174n, zs_224_175, zs_224_176, zs_224_177, zs_224_178, zs_224_179, zs_224_182, zs_224_183, zs_224_186, h1, zmf_6, a1, a3, zw_2_110, zrc_13v, e2, zMd_rc w2, nI_1', e3, zbk_v, zts_s, zts_n]
        rw [show pre.length + 1 + ysz l = pre.length + (ysz l + 0 + 1) by omega]
        rfl
      · rw [ypr_mk, yva_110, show ypr (.leaf : yT) = [] from rfl, List.append_nil]
        rw [List.append_assoc] at w3
        exact w3
    · obtain ⟨gk, gv, g2, g3⟩ := g
      subst gv
      rw [hyd, if_neg (yis_n110 gk)] at h7 ⊢
      by_cases hpm : k = nI 43 ∨ k = nI 45
      · rw [if_pos hpm] at h7 ⊢
        have h7' : qs.length + (ysz (yder c l) + ysz (yder c r) + 1) ≤ 700 := h7
        obtain ⟨h2, e2, w2, f2⟩ := e_216 (sv := sv) (d := d + 2) (k := k) (v := 0) hm (by omega) (ynr_o gk)
        have hl2 := zLst_fm hl f2
        have hl2' := hl2
        rw [ea] at hl2
        have lq : (qs ++ [(k, (0 : Int32))]).length = qs.length + 1 := List.length_append
        obtain ⟨h3, e3, w3, f3⟩ := e_224 (c := c) l g2 (d + 3) _ _ _ h2 (by omega) hl2 w2 (by rw [lq]; omega)
        rw [l1] at e3
        have hl3 := zLst_fm hl2' f3
        rw [eb] at hl3
        obtain ⟨h4, e4, w4, f4⟩ := e_224 (c := c) r g3 (d + 3) _ _ _ h3 (by omega) hl3 w3 (by rw [List.length_append, lq, ypr_len]; omega)
        rw [l2] at e4
        refine ⟨h4, ?_, ?_, zfm_tr (zfm_tr f2 f3) f4⟩
        · have hsw : zswp (zP.2.2.2.1 2) 162 k = 162 := by
            rcases hpm with q | q <;> rw [q]
            · exact zw_2_43
            · exact zw_2_45
          rw [zc_224]
          simp only [zs_224_0, zs_224_0n, zs_224_1, zs_224_4, zs_224_5, zs_224_6, zs_224_48, zs_224_48n, zs_224_49, zs_224_51, zs_224_51n, zs_224_52, zs_224_55, zs_224_56, zs_224_57, zs_224_59, zs_224_62, zs_224_62n, zs_224_63, zs_224_66, zs_224_67, zs_224_68, zs_224_69, zs_224_72, zs_224_73, zs_224_76, zs_224_77, zs_224_80, zs_224_81, zs_224_82, zs_224_83, zs_224_84, zs_224_84n, zs_224_85, zs_224_87, zs_224_88, zs_224_91, zs_224_91n, zs_224_92, zs_224_93, zs_224_94, zs_224_95, zs_224_96, zs_224_99, zs_224_100, zs_224_100n, zs_224_101, zs_224_102, zs_224_103, zs_224_104, zs_224_107, zs_224_108, zs_224_108n, zs_224_109, zs_224_111, zs_224_112, zs_224_115, zs_224_115n, zs_224_116, zs_224_118, zs_224_119, zs_224_122, zs_224_122n, zs_224_123, zs_224_124, zs_224_125, zs_224_126, zs_224_127, zs_224_130, zs_224_132, zs_224_132n, zs_224_133, zs_224_134, zs_224_137, zs_224_139, zs_224_139n, zs_224_140, zs_224_142, zs_224_143, zs_224_146, zs_224_146n, zs_224_147, zs_224_148, zs_224_149, zs_224_150, zs_224_153, zs_224_155, zs_224_155n, zs_224_156, zs_224_157, zs_224_158, zs_224_161, zs_224_162, zs_224_162n, zs_224_163, zs_224_163n, zs_224_164, zs_224_167, zs_224_168, zs_224_169, zs_224_170, zs_224_173, zs_224_173n, zs_224_174, zs_224_174n, zs_224_175, zs_224_176, zs_224_177, zs_224_178, zs_224_179, zs_224_182, zs_224_183, zs_224_186, h1, zmf_6, a1, a3, hsw, zrc_13v, e2, zMd_rc w2, zMd_rc w3, nI_1', e3, e4, zbk_v, zts_s, zts_n]
          rw [show pre.length + 1 + ysz l + ysz r = pre.length + (ysz l + ysz r + 1) by omega]
          rfl
        · rw [ypr_mk, yva_o gk]
          rw [List.append_assoc, List.append_assoc] at w4
          exact w4
      · rw [if_neg hpm] at h7 ⊢
        have hk : k = nI 42 := by
          rcases yis_k gk with q | q | q
          · exact absurd (Or.inl q) hpm
          · exact absurd (Or.inr q) hpm
          · exact q
        subst hk
        rw [if_pos rfl] at h7 ⊢
        have h7' : qs.length + ((ysz (yder c l) + ysz r + 1) + (ysz l + ysz (yder c r) + 1) + 1) ≤ 700 := h7
        have hla := hl
        rw [ea] at hla
        have e9 := e_209 (sv := sv) (d := d + 1) hm.1 g2 hla
        rw [l1] at e9
        obtain ⟨h2, e2, w2, f2⟩ := e_216 (sv := sv) (d := d + 2) (k := nI 43) (v := 0) hm (by omega) (by decide +kernel)
        have q2 : (qs ++ [(nI 43, (0 : Int32))]).length = qs.length + 1 := List.length_append
        obtain ⟨h3, e3, w3, f3⟩ := e_216 (sv := sv) (d := d + 2) (k := nI 42) (v := 0) w2 (by omega) (by decide +kernel)
        have q3 : (qs ++ [(nI 43, (0 : Int32))] ++ [(nI 42, 0)]).length = qs.length + 2 := by rw [List.length_append, q2]; rfl
        have f23 := zfm_tr f2 f3
        have hl3 := zLst_fm hl f23
        rw [ea] at hl3
        obtain ⟨h4, e4, w4, f4⟩ := e_224 (c := c) l g2 (d + 3) _ _ _ h3 (by omega) hl3 w3 (by rw [q3]; omega)
        rw [l1] at e4
        have q4 : (qs ++ [(nI 43, (0 : Int32))] ++ [(nI 42, 0)] ++ ypr (yder c l)).length = qs.length + 2 + ysz (yder c l) := by rw [List.length_append, q3, ypr_len]
        have f24 := zfm_tr f23 f4
        have hl4 := zLst_fm hl f24
        rw [eb] at hl4
        obtain ⟨h5, e5, w5, f5⟩ := e_217 (sv := sv) (d := d) g3 (by rw [q4]; omega) hl4 w4
        rw [l2] at e5
        have q5 : (qs ++ [(nI 43, (0 : Int32))] ++ [(nI 42, 0)] ++ ypr (yder c l) ++ ypr r).length = qs.length + 2 + ysz (yder c l) + ysz r := by rw [List.length_append, q4, ypr_len]
        obtain ⟨h6, e6, w6, f6⟩ := e_216 (sv := sv) (d := d + 2) (k := nI 42) (v := 0) w5 (by omega) (by decide +kernel)
        have q6 : (qs ++ [(nI 43, (0 : Int32))] ++ [(nI 42, 0)] ++ ypr (yder c l) ++ ypr r ++ [(nI 42, 0)]).length = qs.length + 2 + ysz (yder c l) + ysz r + 1 := by rw [List.length_append, q5]; rfl
        have f26 := zfm_tr (zfm_tr f24 f5) f6
        have hl6 := zLst_fm hl f26
        have hl6' := hl6
        rw [ea] at hl6
        obtain ⟨h7x, e7, w7, f7⟩ := e_217 (sv := sv) (d := d) g2 (by rw [q6]; omega) hl6 w6
        rw [l1] at e7
        have hl7 := zLst_fm hl6' f7
        rw [eb] at hl7
        obtain ⟨h8, e8, w8, f8⟩ := e_224 (c := c) r g3 (d + 3) _ _ _ h7x (by omega) hl7 w7 (by rw [List.length_append, q6, ypr_len]; omega)
        rw [l2] at e8
        refine ⟨h8, ?_, ?_, zfm_tr (zfm_tr f26 f7) f8⟩
        · rw [zc_224]
          simp (disch := first | exact znw_u | exact znw_i) only [zs_224_0, zs_224_0n, zs_224_1, zs_224_4, zs_224_5, zs_224_6, zs_224_48, zs_224_48n, zs_224_49, zs_224_51, zs_224_51n, zs_224_52, zs_224_55, zs_224_56, zs_224_57, zs_224_59, zs_224_62, zs_224_62n, zs_224_63, zs_224_66, zs_224_67, zs_224_68, zs_224_69, zs_224_72, zs_224_73, zs_224_76, zs_224_77, zs_224_80, zs_224_81, zs_224_82, zs_224_83, zs_224_84, zs_224_84n, zs_224_85, zs_224_87, zs_224_88, zs_224_91, zs_224_91n, zs_224_92, zs_224_93, zs_224_94, zs_224_95, zs_224_96, zs_224_99, zs_224_100, zs_224_100n, zs_224_101, zs_224_102, zs_224_103, zs_224_104, zs_224_107, zs_224_108, zs_224_108n, zs_224_109, zs_224_111, zs_224_112, zs_224_115, zs_224_115n, zs_224_116, zs_224_118, zs_224_119, zs_224_122, zs_224_122n, zs_224_123, zs_224_124, zs_224_125, zs_224_126, zs_224_127, zs_224_130, zs_224_132, zs_224_132n, zs_224_133, zs_224_134, zs_224_137, zs_224_139, zs_224_139n, zs_224_140, zs_224_142, zs_224_143, zs_224_146, zs_224_146n, zs_224_147, zs_224_148, zs_224_149, zs_224_150, zs_224_153, zs_224_155, zs_224_155n, zs_224_156, zs_224_157, zs_224_158, zs_224_161, zs_224_162, zs_224_162n, zs_224_163, zs_224_163n, zs_224_164, zs_224_167, zs_224_168, zs_224_169, zs_224_170, zs_224_173, zs_224_173n, zs_224_174, zs_224_174n, zs_224_175, zs_224_176, zs_224_177, zs_224_178, zs_224_179, zs_224_182, zs_224_183, zs_224_186, h1, zmf_6, a1, a3, zw_2_42, zrc_13v, nI_1', e9, e2, e3, zMd_rc w2, zMd_rc w3, e4, zMd_rc w4, e5, zMd_rc w5, e6, zMd_rc w6, e7, zMd_rc w7, e8, zbk_v, zts_s, zts_n]
          rw [show pre.length + 1 + ysz l + ysz r = pre.length + (ysz l + ysz r + 1) by omega]
          rfl
        · rw [ypr_mk, ypr_mk, ypr_mk, yva_o yis_43, yva_o yis_42]
          simp only [List.append_assoc, List.cons_append, List.nil_append] at w8 ⊢
          exact w8
end ZFJ
