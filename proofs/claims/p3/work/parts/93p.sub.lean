section ZMG
variable {sv : Nat → Value} {d : Nat} {h : zH} {m : Nat} {F : Nat → Int32} {A : yA} {N : List Int32}
theorem e_243i {u : yP} {b : Nat} {l1 l2 l3 l5 : Slot} (hb : ybk N b u) (hN2 : N.length = 387) : ∀ n j (h : zH) (qs : yP), j + n = u.length → zMd h m F (qs ++ u.take j) → zTab h (m + 1) N → qs.length + u.length ≤ 700 → ∃ h', zrun zP sv (zcall zP sv (d + 1)) 243 138 [.val (.ref m), l1, l2, l3, .val (.int (nI b)), l5, .val (.int (nI j))] [] h = zrun zP sv (zcall zP sv (d + 1)) 243 189 [.val (.ref m), l1, l2, l3, .val (.int (nI b)), l5, .val (.int (nI u.length))] [] h' ∧ zMd h' m F (qs ++ u) ∧ zfm m h h' := by
  intro n
  induction n with
  | zero =>
    intro j h qs hj hm hN hq
    obtain rfl : j = u.length := by omega
    rw [List.take_length] at hm
    refine ⟨h, ?_, hm, zfm_rfl⟩
    have hm1 := hm.1
    unfold zMo at hm1
    have hN1 := hN.1
    have e0 : ∀ Kv, zael (20, N.map Value.int) 20 (nI b) Kv = Kv (.int (nI u.length)) := fun Kv => zaelv (by rw [List.getElem?_map, hb.1]; rfl) (by have := hb.2.2.2.1; omega)
    simp only [zs_243_0, zs_243_0n, zs_243_1, zs_243_2, zs_243_5, zs_243_8, zs_243_8n, zs_243_9, zs_243_10, zs_243_13, zs_243_16, zs_243_17, zs_243_18, zs_243_19, zs_243_22, zs_243_25, zs_243_26, zs_243_27, zs_243_27n, zs_243_28, zs_243_29, zs_243_32, zs_243_34, zs_243_36, zs_243_37, zs_243_38, zs_243_39, zs_243_41, zs_243_41n, zs_243_42, zs_243_45, zs_243_45n, zs_243_46, zs_243_47, zs_243_49, zs_243_50, zs_243_53, zs_243_53n, zs_243_54, zs_243_57, zs_243_59, zs_243_60, zs_243_61, zs_243_62, zs_243_63, zs_243_64, zs_243_66, zs_243_69, zs_243_70, zs_243_71, zs_243_71n, zs_243_72, zs_243_73, zs_243_76, zs_243_77, zs_243_79, zs_243_81, zs_243_81n, zs_243_82, zs_243_85, zs_243_88, zs_243_88n, zs_243_89, zs_243_92, zs_243_94, zs_243_95, zs_243_97, zs_243_100, zs_243_100n, zs_243_101, zs_243_104, zs_243_106, zs_243_107, zs_243_108, zs_243_110, zs_243_111, zs_243_114, zs_243_114n, zs_243_115, zs_243_115n, zs_243_116, zs_243_119, zs_243_121, zs_243_122, zs_243_122n, zs_243_123, zs_243_126, zs_243_128, zs_243_129, zs_243_132, zs_243_135, zs_243_136, zs_243_138, zs_243_140, zs_243_140n, zs_243_141, zs_243_144, zs_243_146, zs_243_147, zs_243_150, zs_243_150n, zs_243_151, zs_243_151n, zs_243_152, zs_243_155, zs_243_157, zs_243_158, zs_243_159, zs_243_160, zs_243_162, zs_243_163, zs_243_164, zs_243_165, zs_243_166, zs_243_166n, zs_243_167, zs_243_170, zs_243_172, zs_243_173, zs_243_174, zs_243_175, zs_243_177, zs_243_178, zs_243_179, zs_243_180, zs_243_183, zs_243_186, zs_243_192, zs_243_195, zs_243_195n, zs_243_196, zs_243_199, zs_243_199n, zs_243_200, zs_243_203, zs_243_206, zs_243_207, zs_243_208, zs_243_208n, zs_243_209, zs_243_210, zs_243_213, zs_243_213n, zs_243_214, zs_243_214n, zs_243_215, zs_243_218, zs_243_221, hm1, zmf_0, hN1, e0, Int32.lt_irrefl, ↓reduceIte]
  | succ n ih =>
    intro j h qs hj hm hN hq
    obtain ⟨y, hy⟩ : ∃ y, u[j]? = some y := ⟨_, List.getElem?_eq_getElem (by omega)⟩
    obtain ⟨c1, c2, c3, c4, c5⟩ := id hb
    obtain ⟨a3, a4⟩ := c2 j y hy
    have hm1 := hm.1
    unfold zMo at hm1
    have hN1 := hN.1
    have e0 : ∀ Kv, zael (20, N.map Value.int) 20 (nI b) Kv = Kv (.int (nI u.length)) := fun Kv => zaelv (by rw [List.getElem?_map, c1]; rfl) (by omega)
    have a3' : ∀ Kv, zael (20, N.map Value.int) 20 (nI (b + 1 + 2 * j)) Kv = Kv (.int y.1) := fun Kv => zaelv (by rw [List.getElem?_map, a3]; rfl) (by omega)
    have a4' : ∀ Kv, zael (20, N.map Value.int) 20 (nI (b + 2 + 2 * j)) Kv = Kv (.int y.2) := fun Kv => zaelv (by rw [List.getElem?_map, a4]; rfl) (by omega)
    have hky := c5 y (List.mem_of_getElem? hy)
    have hjl : (u.take j).length = j := by rw [List.length_take]; omega
    obtain ⟨h1, e1, b1, b2⟩ := e_216 (sv := sv) (d := d) (k := y.1) (v := y.2) hm (by rw [List.length_append, hjl]; omega) hky
    have htk : u.take (j + 1) = u.take j ++ [y] := by rw [List.take_add_one, hy]; rfl
    rw [List.append_assoc, ← htk] at b1
    obtain ⟨h', e, q1, q2⟩ := ih (j + 1) h1 qs (by omega) b1 (zTab_cg hN (b2.1 _ (by omega) (by omega) (by omega))) hq
    refine ⟨h', ?_, q1, zfm_tr b2 q2⟩
    have g1 : nI j < nI u.length := nI_lt (by omega) (by omega)
    have hr1 : ∀ X : zR, zrc (h.1 m) 13 X = X := fun X => zMd_rc hm
    rw [← e]
    have e2 : zrun zP sv (zcall zP sv (d + 1)) 243 183 [.val (.ref m), l1, l2, l3, .val (.int (nI b)), l5, .val (.int (nI j))] [] h1 = zrun zP sv (zcall zP sv (d + 1)) 243 138 [.val (.ref m), l1, l2, l3, .val (.int (nI b)), l5, .val (.int (nI (j + 1)))] [] h1 := by rw [zs_243_183, zs_243_186, nI_1']
    rw [← e2]
    have E1 : zcall zP sv (d + 1) 216 [.ref m, .int (ynr y.1), .int y.2] h = some (.inl none, h1) := by rw [hky]; exact e1
    simp only [zs_243_0, zs_243_0n, zs_243_1, zs_243_2, zs_243_5, zs_243_8, zs_243_8n, zs_243_9, zs_243_10, zs_243_13, zs_243_16, zs_243_17, zs_243_18, zs_243_19, zs_243_22, zs_243_25, zs_243_26, zs_243_27, zs_243_27n, zs_243_28, zs_243_29, zs_243_32, zs_243_34, zs_243_36, zs_243_37, zs_243_38, zs_243_39, zs_243_41, zs_243_41n, zs_243_42, zs_243_45, zs_243_45n, zs_243_46, zs_243_47, zs_243_49, zs_243_50, zs_243_53, zs_243_53n, zs_243_54, zs_243_57, zs_243_59, zs_243_60, zs_243_61, zs_243_62, zs_243_63, zs_243_64, zs_243_66, zs_243_69, zs_243_70, zs_243_71, zs_243_71n, zs_243_72, zs_243_73, zs_243_76, zs_243_77, zs_243_79, zs_243_81, zs_243_81n, zs_243_82, zs_243_85, zs_243_88, zs_243_88n, zs_243_89, zs_243_92, zs_243_94, zs_243_95, zs_243_97, zs_243_100, zs_243_100n, zs_243_101, zs_243_104, zs_243_106, zs_243_107, zs_243_108, zs_243_110, zs_243_111, zs_243_114, zs_243_114n, zs_243_115, zs_243_115n, zs_243_116, zs_243_119, zs_243_121, zs_243_122, zs_243_122n, zs_243_123, zs_243_126, zs_243_128, zs_243_129, zs_243_132, zs_243_135, zs_243_136, zs_243_138, zs_243_140, zs_243_140n, zs_243_141, zs_243_144, zs_243_146, zs_243_147, zs_243_150, zs_243_150n, zs_243_151, zs_243_151n, zs_243_152, zs_243_155, zs_243_157, zs_243_158, zs_243_159, zs_243_160, zs_243_162, zs_243_163, zs_243_164, zs_243_165, zs_243_166, zs_243_166n, zs_243_167, zs_243_170, zs_243_172, zs_243_173, zs_243_174, zs_243_175, zs_243_177, zs_243_178, zs_243_179, zs_243_180, zs_243_192, zs_243_195, zs_243_195n, zs_243_196, zs_243_199, zs_243_199n, zs_243_200, zs_243_203, zs_243_206, zs_243_207, zs_243_208, zs_243_208n, zs_243_209, zs_243_210, zs_243_213, zs_243_213n, zs_243_214, zs_243_214n, zs_243_215, zs_243_218, zs_243_221, hm1, zmf_0, hN1, e0, if_pos g1, nI_mulx, nI_add, a3', a4', ynr_c, zrc_13v, E1, zbk_v, zts_n]
theorem ytk_flat {x : Int32} {u p : yP} {j : Nat} {y : Int32 × Int32} (hy : p[j]? = some y) : (p.take (j + 1)).flatMap (ysb1 x u) = (p.take j).flatMap (ysb1 x u) ++ ysb1 x u y := by
  rw [List.take_add_one, hy, List.flatMap_append]
  show _ ++ (ysb1 x u y ++ []) = _
  rw [List.append_nil]
theorem ytk_le {x : Int32} {u p : yP} {j : Nat} : ((p.take j).flatMap (ysb1 x u)).length ≤ (p.flatMap (ysb1 x u)).length := by
  have e : p.flatMap (ysb1 x u) = (p.take j).flatMap (ysb1 x u) ++ (p.drop j).flatMap (ysb1 x u) := by rw [← List.flatMap_append, List.take_append_drop]
  rw [e, List.length_append]
  omega
theorem e_243l {c : Int32} {u p : yP} {b : Nat} {l1 l3 : Slot} (hb : ybk N b u) (hN2 : N.length = 387) (h8 : F 8 = nI p.length) (hk : ynk p) (hle : (p.flatMap (ysb1 (c - nI 97) u)).length ≤ 700) : ∀ n j (h : zH) (s6 : Slot), znw s6 = true → j + n = p.length → zMd h m F ((p.take j).flatMap (ysb1 (c - nI 97) u)) → zTab h (m + 1) N → zLst h (m + 5) (m + 6) p → ∃ h' s6', zrun zP sv (zcall zP sv (d + 1)) 243 79 [.val (.ref m), l1, .val (.int c), l3, .val (.int (nI b)), .val (.int (nI j)), s6] [] h = zrun zP sv (zcall zP sv (d + 1)) 243 195 [.val (.ref m), l1, .val (.int c), l3, .val (.int (nI b)), .val (.int (nI p.length)), s6'] [] h' ∧ zMd h' m F (p.flatMap (ysb1 (c - nI 97) u)) ∧ zfm m h h' := by
  intro n
  induction n with
  | zero =>
    intro j h s6 h6 hj hm hN hl
    obtain rfl : j = p.length := by omega
    rw [List.take_length] at hm
    refine ⟨h, s6, ?_, hm, zfm_rfl⟩
    have hm1 := hm.1
    unfold zMo at hm1
    have v8 : yup F 11 (nI (p.flatMap (ysb1 (c - nI 97) u)).length) 8 = nI p.length := by rw [yup_ne (by omega), h8]
    simp only [zs_243_0, zs_243_0n, zs_243_1, zs_243_2, zs_243_5, zs_243_8, zs_243_8n, zs_243_9, zs_243_10, zs_243_13, zs_243_16, zs_243_17, zs_243_18, zs_243_19, zs_243_22, zs_243_25, zs_243_26, zs_243_27, zs_243_27n, zs_243_28, zs_243_29, zs_243_32, zs_243_34, zs_243_36, zs_243_37, zs_243_38, zs_243_39, zs_243_41, zs_243_41n, zs_243_42, zs_243_45, zs_243_45n, zs_243_46, zs_243_47, zs_243_49, zs_243_50, zs_243_53, zs_243_53n, zs_243_54, zs_243_57, zs_243_59, zs_243_60, zs_243_61, zs_243_62, zs_243_63, zs_243_64, zs_243_66, zs_243_69, zs_243_70, zs_243_71, zs_243_71n, zs_243_72, zs_243_73, zs_243_76, zs_243_77, zs_243_79, zs_243_81, zs_243_81n, zs_243_82, zs_243_85, zs_243_88, zs_243_88n, zs_243_89, zs_243_92, zs_243_94, zs_243_95, zs_243_97, zs_243_100, zs_243_100n, zs_243_101, zs_243_104, zs_243_106, zs_243_107, zs_243_108, zs_243_110, zs_243_111, zs_243_114, zs_243_114n, zs_243_115, zs_243_115n, zs_243_116, zs_243_119, zs_243_121, zs_243_122, zs_243_122n, zs_243_123, zs_243_126, zs_243_128, zs_243_129, zs_243_132, zs_243_135, zs_243_136, zs_243_138, zs_243_140, zs_243_140n, zs_243_141, zs_243_144, zs_243_146, zs_243_147, zs_243_150, zs_243_150n, zs_243_151, zs_243_151n, zs_243_152, zs_243_155, zs_243_157, zs_243_158, zs_243_159, zs_243_160, zs_243_162, zs_243_163, zs_243_164, zs_243_165, zs_243_166, zs_243_166n, zs_243_167, zs_243_170, zs_243_172, zs_243_173, zs_243_174, zs_243_175, zs_243_177, zs_243_178, zs_243_179, zs_243_180, zs_243_183, zs_243_186, zs_243_189, zs_243_192, zs_243_196, zs_243_199, zs_243_199n, zs_243_200, zs_243_203, zs_243_206, zs_243_207, zs_243_208, zs_243_208n, zs_243_209, zs_243_210, zs_243_213, zs_243_213n, zs_243_214, zs_243_214n, zs_243_215, zs_243_218, zs_243_221, hm1, zmf_8, v8, Int32.lt_irrefl, ↓reduceIte]
  | succ n ih =>
    intro j h s6 h6 hj hm hN hl
    obtain ⟨y, hy⟩ : ∃ y, p[j]? = some y := ⟨_, List.getElem?_eq_getElem (by omega)⟩
    obtain ⟨A', B', a1, a2, a3, a4, a5⟩ := e_look (k := y.1) (v := y.2) hl hy
    have hlp : p.length ≤ 700 := by
      obtain ⟨_, _, _, _, _, _, _, _, bb⟩ := hl
      exact bb
    have g1 : nI j < nI p.length := nI_lt (by omega) (by omega)
    have hm1 := hm.1
    unfold zMo at hm1
    have v8 : yup F 11 (nI ((p.take j).flatMap (ysb1 (c - nI 97) u)).length) 8 = nI p.length := by rw [yup_ne (by omega), h8]
    have hky := hk y (List.mem_of_getElem? hy)
    have hl1 := ytk_le (x := c - nI 97) (u := u) (p := p) (j := j + 1)
    have hfl := ytk_flat (x := c - nI 97) (u := u) hy
    rw [hfl, List.length_append] at hl1
    have e2 : ∀ (s : Slot) (g : zH), zrun zP sv (zcall zP sv (d + 1)) 243 189 [.val (.ref m), l1, .val (.int c), l3, .val (.int (nI b)), .val (.int (nI j)), s] [] g = zrun zP sv (zcall zP sv (d + 1)) 243 79 [.val (.ref m), l1, .val (.int c), l3, .val (.int (nI b)), .val (.int (nI (j + 1))), s] [] g := fun s g => by rw [zs_243_189, zs_243_192, nI_1']
    by_cases hc : y.1 = nI 118 ∧ y.2 = c - nI 97
    · have hsu : ysb1 (c - nI 97) u y = u := if_pos hc
      rw [hsu] at hfl hl1
      obtain ⟨h1, e1, b1, b2⟩ := e_243i (sv := sv) (d := d) (l1 := l1) (l2 := .val (.int c)) (l3 := l3) (l5 := .val (.int (nI j))) hb hN2 u.length 0 h _ (Nat.zero_add _) (by rw [List.take_zero, List.append_nil]; exact hm) hN (by omega)
      rw [← hfl] at b1
      obtain ⟨h', s', e, q1, q2⟩ := ih (j + 1) h1 (.val (.int (nI u.length))) rfl (by omega) b1 (zTab_cg hN (b2.1 _ (by omega) (by omega) (by omega))) (zLst_fm hl b2)
      refine ⟨h', s', ?_, q1, zfm_tr b2 q2⟩
      rw [← e, ← e2, ← e1]
      rw [nI_0]
      simp (disch := first | exact h6 | exact znw_i | omega) only [zs_243_79, zs_243_81, zs_243_82, zs_243_85, zs_243_88, zs_243_89, zs_243_92, zs_243_94, zs_243_95, zs_243_97, zs_243_100, zs_243_101, zs_243_104, zs_243_106, zs_243_107, zs_243_108, zs_243_110, zs_243_111, zs_243_135, zs_243_136, hm1, zmf_6, zmf_7, zmf_8, v8, if_pos g1, a1, a2, a3, a4, hc.1, hc.2, ↓reduceIte]
    · have hsu : ysb1 (c - nI 97) u y = [y] := if_neg hc
      rw [hsu] at hfl hl1
      rw [List.length_singleton] at hl1
      obtain ⟨h1, e1, b1, b2⟩ := e_216 (sv := sv) (d := d) (k := y.1) (v := y.2) hm (by omega) hky
      rw [← hfl] at b1
      obtain ⟨h', s', e, q1, q2⟩ := ih (j + 1) h1 s6 h6 (by omega) b1 (zTab_cg hN (b2.1 _ (by omega) (by omega) (by omega))) (zLst_fm hl b2)
      refine ⟨h', s', ?_, q1, zfm_tr b2 q2⟩
      rw [← e, ← e2]
      by_cases c1 : y.1 = nI 118
      · have c2 : ¬ y.2 = c - nI 97 := fun q => hc ⟨c1, q⟩
        rw [c1] at e1 a3
        simp only [zs_243_0, zs_243_0n, zs_243_1, zs_243_2, zs_243_5, zs_243_8, zs_243_8n, zs_243_9, zs_243_10, zs_243_13, zs_243_16, zs_243_17, zs_243_18, zs_243_19, zs_243_22, zs_243_25, zs_243_26, zs_243_27, zs_243_27n, zs_243_28, zs_243_29, zs_243_32, zs_243_34, zs_243_36, zs_243_37, zs_243_38, zs_243_39, zs_243_41, zs_243_41n, zs_243_42, zs_243_45, zs_243_45n, zs_243_46, zs_243_47, zs_243_49, zs_243_50, zs_243_53, zs_243_53n, zs_243_54, zs_243_57, zs_243_59, zs_243_60, zs_243_61, zs_243_62, zs_243_63, zs_243_64, zs_243_66, zs_243_69, zs_243_70, zs_243_71, zs_243_71n, zs_243_72, zs_243_73, zs_243_76, zs_243_77, zs_243_81, zs_243_81n, zs_243_82, zs_243_85, zs_243_88, zs_243_88n, zs_243_89, zs_243_92, zs_243_94, zs_243_95, zs_243_97, zs_243_100, zs_243_100n, zs_243_101, zs_243_104, zs_243_106, zs_243_107, zs_243_108, zs_243_110, zs_243_111, zs_243_114, zs_243_114n, zs_243_115, zs_243_115n, zs_243_116, zs_243_119, zs_243_121, zs_243_122, zs_243_122n, zs_243_123, zs_243_126, zs_243_128, zs_243_129, zs_243_132, zs_243_135, zs_243_136, zs_243_138, zs_243_140, zs_243_140n, zs_243_141, zs_243_144, zs_243_146, zs_243_147, zs_243_150, zs_243_150n, zs_243_151, zs_243_151n, zs_243_152, zs_243_155, zs_243_157, zs_243_158, zs_243_159, zs_243_160, zs_243_162, zs_243_163, zs_243_164, zs_243_165, zs_243_166, zs_243_166n, zs_243_167, zs_243_170, zs_243_172, zs_243_173, zs_243_174, zs_243_175, zs_243_177, zs_243_178, zs_243_179, zs_243_180, zs_243_183, zs_243_186, zs_243_192, zs_243_195, zs_243_195n, zs_243_196, zs_243_199, zs_243_199n, zs_243_200, zs_243_203, zs_243_206, zs_243_207, zs_243_208, zs_243_208n, zs_243_209, zs_243_210, zs_243_213, zs_243_213n, zs_243_214, zs_243_214n, zs_243_215, zs_243_218, zs_243_221, zs_243_79, hm1, zmf_6, zmf_7, zmf_8, v8, if_pos g1, a1, a2, a3, a4, c1, if_neg c2, zrc_13v, e1, zbk_v, zts_n, ↓reduceIte]
      · simp only [zs_243_0, zs_243_0n, zs_243_1, zs_243_2, zs_243_5, zs_243_8, zs_243_8n, zs_243_9, zs_243_10, zs_243_13, zs_243_16, zs_243_17, zs_243_18, zs_243_19, zs_243_22, zs_243_25, zs_243_26, zs_243_27, zs_243_27n, zs_243_28, zs_243_29, zs_243_32, zs_243_34, zs_243_36, zs_243_37, zs_243_38, zs_243_39, zs_243_41, zs_243_41n, zs_243_42, zs_243_45, zs_243_45n, zs_243_46, zs_243_47, zs_243_49, zs_243_50, zs_243_53, zs_243_53n, zs_243_54, zs_243_57, zs_243_59, zs_243_60, zs_243_61, zs_243_62, zs_243_63, zs_243_64, zs_243_66, zs_243_69, zs_243_70, zs_243_71, zs_243_71n, zs_243_72, zs_243_73, zs_243_76, zs_243_77, zs_243_81, zs_243_81n, zs_243_82, zs_243_85, zs_243_88, zs_243_88n, zs_243_89, zs_243_92, zs_243_94, zs_243_95, zs_243_97, zs_243_100, zs_243_100n, zs_243_101, zs_243_104, zs_243_106, zs_243_107, zs_243_108, zs_243_110, zs_243_111, zs_243_114, zs_243_114n, zs_243_115, zs_243_115n, zs_243_116, zs_243_119, zs_243_121, zs_243_122, zs_243_122n, zs_243_123, zs_243_126, zs_243_128, zs_243_129, zs_243_132, zs_243_135, zs_243_136, zs_243_138, zs_243_140, zs_243_140n, zs_243_141, zs_243_144, zs_243_146, zs_243_147, zs_243_150, zs_243_150n, zs_243_151, zs_243_151n, zs_243_152, zs_243_155, zs_243_157, zs_243_158, zs_243_159, zs_243_160, zs_243_162, zs_243_163, zs_243_164, zs_243_165, zs_243_166, zs_243_166n, zs_243_167, zs_243_170, zs_243_172, zs_243_173, zs_243_174, zs_243_175, zs_243_177, zs_243_178, zs_243_179, zs_243_180, zs_243_183, zs_243_186, zs_243_192, zs_243_195, zs_243_195n, zs_243_196, zs_243_199, zs_243_199n, zs_243_200, zs_243_203, zs_243_206, zs_243_207, zs_243_208, zs_243_208n, zs_243_209, zs_243_210, zs_243_213, zs_243_213n, zs_243_214, zs_243_214n, zs_243_215, zs_243_218, zs_243_221, zs_243_79, hm1, zmf_6, zmf_7, zmf_8, v8, if_pos g1, a1, a2, a3, a4, if_neg c1, zrc_13v, e1, zbk_v, zts_n, ↓reduceIte]
end ZMG
