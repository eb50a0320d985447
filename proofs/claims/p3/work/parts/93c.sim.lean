theorem ysp_ypr {k v0 : Int32} {a b : yT} (hk : yis k = true) (hv : v0 = 0) : (if yk a = nI 99 ∧ yk b = nI 99 then ypr (ycn (yop k (yv a) (yv b))) else if k = nI 43 ∧ ynu a 0 = true then ypr b else if ¬ k = nI 42 ∧ ynu b 0 = true then ypr a else if k = nI 45 ∧ ynu a 0 = true then ypr (if yk b = nI 110 then yl b else ymk (nI 110) 0 b .leaf) else if k = nI 45 ∧ yeq a b = true then ypr (ycn 0) else if k = nI 42 ∧ (ynu a 0 = true ∨ ynu b 0 = true) then ypr (ycn 0) else if k = nI 42 ∧ ynu a (nI 1) = true then ypr b else if k = nI 42 ∧ ynu b (nI 1) = true then ypr a else (k, v0) :: (ypr a ++ ypr b)) = ypr (ysp k a b) := by
  subst hv
  have e0 : (k, (0 : Int32)) :: (ypr a ++ ypr b) = ypr (ymk k 0 a b) := by rw [ypr_mk, yva_o hk]
  unfold ysp
  by_cases c0 : yk a = nI 99 ∧ yk b = nI 99
  · rw [if_pos c0, if_pos c0]
  · rw [if_neg c0, if_neg c0]
    rcases yis_k hk with g | g | g
    · subst g
      have n1 : ¬ (nI 43 : Int32) = nI 42 := by decide +kernel
      have n2 : ¬ (nI 43 : Int32) = nI 45 := by decide +kernel
      rw [if_pos rfl]
      unfold ysu
      by_cases c1 : ynu a 0 = true
      · rw [if_pos ⟨rfl, c1⟩, if_pos c1]
      · rw [if_neg (fun q => c1 q.2), if_neg c1]
        by_cases c2 : ynu b 0 = true
        · rw [if_pos ⟨n1, c2⟩, if_pos c2]
        · rw [if_neg (fun q => c2 q.2), if_neg c2, if_neg (fun q => n2 q.1), if_neg (fun q => n2 q.1), if_neg (fun q => n1 q.1), if_neg (fun q => n1 q.1), if_neg (fun q => n1 q.1), e0]
    · subst g
      have n1 : ¬ (nI 45 : Int32) = nI 43 := by decide +kernel
      have n2 : ¬ (nI 45 : Int32) = nI 42 := by decide +kernel
      rw [if_neg (fun q => n1 q.1), if_neg n1, if_pos rfl]
      unfold ysd
      by_cases c2 : ynu b 0 = true
      · rw [if_pos ⟨n2, c2⟩, if_pos c2]
      · rw [if_neg (fun q => c2 q.2), if_neg c2]
        by_cases c1 : ynu a 0 = true
        · rw [if_pos ⟨rfl, c1⟩, if_pos c1]
        · rw [if_neg (fun q => c1 q.2), if_neg c1]
          by_cases c3 : yeq a b = true
          · rw [if_pos ⟨rfl, c3⟩, if_pos c3]
          · rw [if_neg (fun q => c3 q.2), if_neg c3, if_neg (fun q => n2 q.1), if_neg (fun q => n2 q.1), if_neg (fun q => n2 q.1), e0]
    · subst g
      have n1 : ¬ (nI 42 : Int32) = nI 43 := by decide +kernel
      have n2 : ¬ (nI 42 : Int32) = nI 45 := by decide +kernel
      rw [if_neg (fun q => n1 q.1), if_neg (fun q => q.1 rfl), if_neg (fun q => n2 q.1), if_neg (fun q => n2 q.1), if_neg n1, if_neg n2]
      unfold ysm
      by_cases c1 : ynu a 0 = true
      · rw [if_pos ⟨rfl, Or.inl c1⟩, if_pos c1]
      · rw [if_neg c1]
        by_cases c2 : ynu b 0 = true
        · rw [if_pos ⟨rfl, Or.inr c2⟩, if_pos c2]
        · rw [if_neg (fun q => q.2.elim c1 c2), if_neg c2]
          by_cases c3 : ynu a (nI 1) = true
          · rw [if_pos ⟨rfl, c3⟩, if_pos c3]
          · rw [if_neg (fun q => c3 q.2), if_neg c3]
            by_cases c4 : ynu b (nI 1) = true
            · rw [if_pos ⟨rfl, c4⟩, if_pos c4]
            · rw [if_neg (fun q => c4 q.2), if_neg c4, e0]
section ZFI
variable {sv : Nat → Value} {m : Nat} {F : Nat → Int32}
/-- a negation whose operand was made -/
theorem e_222n {d : Nat} {h : zH} {qs : yP} {nx nd s5 : Int32} {sl : Slot} {a : yT} (hm : zMd h m F (qs ++ (nI 110, 0) :: ypr a)) (ha : ytw a = true) (hq : ynk qs) : ∃ h', zrun zP sv (zcall zP sv (d + 3)) 222 43 [.val (.ref m), .val (.int nd), .val (.int (nI qs.length)), .val (.int (nI 110)), .val (.int nx), sl] [] h = some (.inl (some (.int nx)), h') ∧ zMd h' m F (qs ++ ypr (ysn a)) ∧ zfm m h h' := by
  obtain ⟨u, hu, hul, hu1⟩ := ypr_head ha
  have h1 := hm.1
  unfold zMo at h1
  have hL : (qs ++ (nI 110, (0 : Int32)) :: ypr a).length = qs.length + 1 + ysz a := by rw [List.length_append, List.length_cons, ypr_len]; omega
  have hL7 : (qs ++ (nI 110, (0 : Int32)) :: ypr a).length ≤ 700 := by
    obtain ⟨_, A, B, _, _, _, _, _, _, a7⟩ := hm
    exact a7
  have i1 : (qs ++ (nI 110, (0 : Int32)) :: ypr a)[qs.length + 1]? = some (yk a, yva (yk a) (yv a)) := by
    have e1 : (qs ++ (nI 110, (0 : Int32)) :: ypr a) = (qs ++ [(nI 110, 0)]) ++ ypr a := by rw [List.append_assoc]; rfl
    have l1 : (qs ++ [(nI 110, (0 : Int32))]).length = qs.length + 1 := List.length_append
    rw [e1, List.getElem?_append_right (by omega), l1, Nat.sub_self, hu]
    rfl
  obtain ⟨A, B, a1, a2, a3, a4, a5⟩ := e_made hm.2 i1
  have n9 : ((nI 110 : Int32) = nI 99) = False := by decide +kernel
  unfold ysn
  by_cases c1 : yk a = nI 99
  · rw [if_pos c1]
    rw [c1, yva_99] at a4
    obtain ⟨h', e, w, f⟩ := e_219 (sv := sv) (d := d + 1) (p := qs.length) (v := -(yv a)) hm (by omega) (by omega)
    rw [List.take_left' rfl, ← ypr_cn] at w
    refine ⟨h', ?_, w, f⟩
    simp only [zs_222_0, zs_222_0n, zs_222_1, zs_222_4, zs_222_5, zs_222_5n, zs_222_6, zs_222_9, zs_222_10, zs_222_11, zs_222_12, zs_222_12n, zs_222_13, zs_222_14, zs_222_14n, zs_222_15, zs_222_18, zs_222_19, zs_222_20, zs_222_23, zs_222_24, zs_222_27, zs_222_30, zs_222_31, zs_222_32, zs_222_33, zs_222_34, zs_222_34n, zs_222_35, zs_222_36, zs_222_37, zs_222_38, zs_222_41, zs_222_43, zs_222_44, zs_222_46, zs_222_49, zs_222_49n, zs_222_50, zs_222_53, zs_222_54, zs_222_55, zs_222_56, zs_222_57, zs_222_59, zs_222_62, zs_222_62n, zs_222_63, zs_222_64, zs_222_64n, zs_222_65, zs_222_68, zs_222_69, zs_222_70, zs_222_71, zs_222_72, zs_222_73, zs_222_76, zs_222_79, zs_222_79n, zs_222_80, zs_222_83, zs_222_84, zs_222_85, zs_222_86, zs_222_87, zs_222_89, zs_222_92, zs_222_92n, zs_222_93, zs_222_94, zs_222_95, zs_222_96, zs_222_97, zs_222_97n, zs_222_98, zs_222_101, zs_222_104, zs_222_106, zs_222_107, zs_222_107n, zs_222_108, zs_222_111, zs_222_113, zs_222_113n, zs_222_114, zs_222_116, zs_222_119, zs_222_121, zs_222_121n, zs_222_122, zs_222_125, zs_222_126, zs_222_127, zs_222_128, zs_222_129, zs_222_131, zs_222_134, zs_222_134n, zs_222_135, zs_222_138, zs_222_140, zs_222_141, zs_222_143, zs_222_146, zs_222_146n, zs_222_147, zs_222_148, zs_222_149, zs_222_149n, zs_222_150, zs_222_153, zs_222_154, zs_222_155, zs_222_156, zs_222_157, zs_222_157n, zs_222_158, zs_222_161, zs_222_163, zs_222_164, zs_222_167, zs_222_170, zs_222_173, zs_222_174, zs_222_176, zs_222_179, zs_222_179n, zs_222_180, zs_222_181, zs_222_182, zs_222_183, zs_222_184, zs_222_187, zs_222_190, zs_222_190n, zs_222_191, zs_222_192, zs_222_194, zs_222_194n, zs_222_195, zs_222_198, zs_222_201, zs_222_204, zs_222_205, zs_222_207, zs_222_210, zs_222_210n, zs_222_211, zs_222_213, zs_222_214, zs_222_217, zs_222_220, zs_222_220n, zs_222_221, zs_222_222, zs_222_223, zs_222_224, zs_222_225, zs_222_227, zs_222_230, zs_222_233, zs_222_234, zs_222_236, zs_222_239, zs_222_239n, zs_222_240, zs_222_241, zs_222_242, zs_222_243, zs_222_244, zs_222_247, zs_222_250, zs_222_250n, zs_222_251, zs_222_252, zs_222_254, zs_222_257, zs_222_260, zs_222_261, zs_222_263, zs_222_266, zs_222_266n, zs_222_267, zs_222_268, zs_222_269, zs_222_270, zs_222_272, zs_222_275, zs_222_278, zs_222_278n, zs_222_279, zs_222_280, zs_222_281, zs_222_284, zs_222_287, zs_222_288, zs_222_290, zs_222_293, zs_222_293n, zs_222_294, zs_222_295, zs_222_296, zs_222_297, zs_222_298, zs_222_301, zs_222_304, zs_222_304n, zs_222_305, zs_222_307, zs_222_308, zs_222_311, zs_222_314, zs_222_314n, zs_222_315, zs_222_316, zs_222_317, zs_222_320, zs_222_323, zs_222_324, zs_222_326, zs_222_329, zs_222_329n, zs_222_330, zs_222_331, zs_222_332, zs_222_333, zs_222_334, zs_222_337, zs_222_340, zs_222_340n, zs_222_341, zs_222_342, zs_222_344, zs_222_344n, zs_222_345, zs_222_348, zs_222_351, zs_222_354, zs_222_355, zs_222_357, zs_222_360, zs_222_360n, zs_222_361, zs_222_363, zs_222_364, zs_222_367, zs_222_370, zs_222_370n, zs_222_371, zs_222_372, zs_222_373, zs_222_374, zs_222_375, zs_222_377, zs_222_380, zs_222_382, h1, zmf_9, zmf_10, a1, a2, nI_1', a3, a4, if_pos c1, zrc_13v, e, zbk_v, zts_n, ↓reduceIte]
  · rw [if_neg c1]
    by_cases c2 : yk a = nI 110
    · rw [if_pos c2]
      have hK : ynk (qs ++ (nI 110, (0 : Int32)) :: ([(yk a, yva (yk a) (yv a))] ++ u)) := by
        have : [(yk a, yva (yk a) (yv a))] ++ u = ypr a := by rw [hu]; rfl
        rw [this]
        exact ynk_app hq (ynk_cons ynr_110 (ynk_ypr a (Or.inr ha)))
      obtain ⟨s1, s2, s3, s4⟩ := yseg (qs := qs) (u := [(yk a, yva (yk a) (yv a))]) (v := u) (x := (nI 110, (0 : Int32)))
      have hm' : zMd h m F (qs ++ (nI 110, (0 : Int32)) :: ([(yk a, yva (yk a) (yv a))] ++ u)) := by
        have : [(yk a, yva (yk a) (yv a))] ++ u = ypr a := by rw [hu]; rfl
        rw [this]
        exact hm
      obtain ⟨h', e, w, f⟩ := e_218 (sv := sv) (d := d + 2) (p := qs.length) (x := 1 + 1) (n := u.length) hm' (by rw [s4]; exact Nat.le_refl _) hK
      rw [s1] at w
      have s3' : ((qs ++ (nI 110, (0 : Int32)) :: ([(yk a, yva (yk a) (yv a))] ++ u)).drop (qs.length + (1 + 1))).take u.length = u := s3
      rw [s3', hu1 c2] at w
      refine ⟨h', ?_, w, f⟩
      have e9 : qs.length + (1 + 1) + u.length = qs.length + 1 + ysz a := by omega
      rw [e9] at e
      rw [hL] at h1
      simp only [zs_222_0, zs_222_0n, zs_222_1, zs_222_4, zs_222_5, zs_222_5n, zs_222_6, zs_222_9, zs_222_10, zs_222_11, zs_222_12, zs_222_12n, zs_222_13, zs_222_14, zs_222_14n, zs_222_15, zs_222_18, zs_222_19, zs_222_20, zs_222_23, zs_222_24, zs_222_27, zs_222_30, zs_222_31, zs_222_32, zs_222_33, zs_222_34, zs_222_34n, zs_222_35, zs_222_36, zs_222_37, zs_222_38, zs_222_41, zs_222_43, zs_222_44, zs_222_46, zs_222_49, zs_222_49n, zs_222_50, zs_222_53, zs_222_54, zs_222_55, zs_222_56, zs_222_57, zs_222_59, zs_222_62, zs_222_62n, zs_222_63, zs_222_64, zs_222_64n, zs_222_65, zs_222_68, zs_222_69, zs_222_70, zs_222_71, zs_222_72, zs_222_73, zs_222_76, zs_222_79, zs_222_79n, zs_222_80, zs_222_83, zs_222_84, zs_222_85, zs_222_86, zs_222_87, zs_222_89, zs_222_92, zs_222_92n, zs_222_93, zs_222_94, zs_222_95, zs_222_96, zs_222_97, zs_222_97n, zs_222_98, zs_222_101, zs_222_104, zs_222_106, zs_222_107, zs_222_107n, zs_222_108, zs_222_111, zs_222_113, zs_222_113n, zs_222_114, zs_222_116, zs_222_119, zs_222_121, zs_222_121n, zs_222_122, zs_222_125, zs_222_126, zs_222_127, zs_222_128, zs_222_129, zs_222_131, zs_222_134, zs_222_134n, zs_222_135, zs_222_138, zs_222_140, zs_222_141, zs_222_143, zs_222_146, zs_222_146n, zs_222_147, zs_222_148, zs_222_149, zs_222_149n, zs_222_150, zs_222_153, zs_222_154, zs_222_155, zs_222_156, zs_222_157, zs_222_157n, zs_222_158, zs_222_161, zs_222_163, zs_222_164, zs_222_167, zs_222_170, zs_222_173, zs_222_174, zs_222_176, zs_222_179, zs_222_179n, zs_222_180, zs_222_181, zs_222_182, zs_222_183, zs_222_184, zs_222_187, zs_222_190, zs_222_190n, zs_222_191, zs_222_192, zs_222_194, zs_222_194n, zs_222_195, zs_222_198, zs_222_201, zs_222_204, zs_222_205, zs_222_207, zs_222_210, zs_222_210n, zs_222_211, zs_222_213, zs_222_214, zs_222_217, zs_222_220, zs_222_220n, zs_222_221, zs_222_222, zs_222_223, zs_222_224, zs_222_225, zs_222_227, zs_222_230, zs_222_233, zs_222_234, zs_222_236, zs_222_239, zs_222_239n, zs_222_240, zs_222_241, zs_222_242, zs_222_243, zs_222_244, zs_222_247, zs_222_250, zs_222_250n, zs_222_251, zs_222_252, zs_222_254, zs_222_257, zs_222_260, zs_222_261, zs_222_263, zs_222_266, zs_222_266n, zs_222_267, zs_222_268, zs_222_269, zs_222_270, zs_222_272, zs_222_275, zs_222_278, zs_222_278n, zs_222_279, zs_222_280, zs_222_281, zs_222_284, zs_222_287, zs_222_288, zs_222_290, zs_222_293, zs_222_293n, zs_222_294, zs_222_295, zs_222_296, zs_222_297, zs_222_298, zs_222_301, zs_222_304, zs_222_304n, zs_222_305, zs_222_307, zs_222_308, zs_222_311, zs_222_314, zs_222_314n, zs_222_315, zs_222_316, zs_222_317, zs_222_320, zs_222_323, zs_222_324, zs_222_326, zs_222_329, zs_222_329n, zs_222_330, zs_222_331, zs_222_332, zs_222_333, zs_222_334, zs_222_337, zs_222_340, zs_222_340n, zs_222_341, zs_222_342, zs_222_344, zs_222_344n, zs_222_345, zs_222_348, zs_222_351, zs_222_354, zs_222_355, zs_222_357, zs_222_360, zs_222_360n, zs_222_361, zs_222_363, zs_222_364, zs_222_367, zs_222_370, zs_222_370n, zs_222_371, zs_222_372, zs_222_373, zs_222_374, zs_222_375, zs_222_377, zs_222_380, zs_222_382, h1, zmf_9, zmf_11, yup_eq, a1, nI_1', a3, if_neg c1, if_pos c2, zrc_13v, nI_add, e, zbk_v, zts_n, ↓reduceIte]
    · rw [if_neg c2]
      refine ⟨h, ?_, ?_, zfm_rfl⟩
      · simp only [zs_222_0, zs_222_0n, zs_222_1, zs_222_4, zs_222_5, zs_222_5n, zs_222_6, zs_222_9, zs_222_10, zs_222_11, zs_222_12, zs_222_12n, zs_222_13, zs_222_14, zs_222_14n, zs_222_15, zs_222_18, zs_222_19, zs_222_20, zs_222_23, zs_222_24, zs_222_27, zs_222_30, zs_222_31, zs_222_32, zs_222_33, zs_222_34, zs_222_34n, zs_222_35, zs_222_36, zs_222_37, zs_222_38, zs_222_41, zs_222_43, zs_222_44, zs_222_46, zs_222_49, zs_222_49n, zs_222_50, zs_222_53, zs_222_54, zs_222_55, zs_222_56, zs_222_57, zs_222_59, zs_222_62, zs_222_62n, zs_222_63, zs_222_64, zs_222_64n, zs_222_65, zs_222_68, zs_222_69, zs_222_70, zs_222_71, zs_222_72, zs_222_73, zs_222_76, zs_222_79, zs_222_79n, zs_222_80, zs_222_83, zs_222_84, zs_222_85, zs_222_86, zs_222_87, zs_222_89, zs_222_92, zs_222_92n, zs_222_93, zs_222_94, zs_222_95, zs_222_96, zs_222_97, zs_222_97n, zs_222_98, zs_222_101, zs_222_104, zs_222_106, zs_222_107, zs_222_107n, zs_222_108, zs_222_111, zs_222_113, zs_222_113n, zs_222_114, zs_222_116, zs_222_119, zs_222_121, zs_222_121n, zs_222_122, zs_222_125, zs_222_126, zs_222_127, zs_222_128, zs_222_129, zs_222_131, zs_222_134, zs_222_134n, zs_222_135, zs_222_138, zs_222_140, zs_222_141, zs_222_143, zs_222_146, zs_222_146n, zs_222_147, zs_222_148, zs_222_149, zs_222_149n, zs_222_150, zs_222_153, zs_222_154, zs_222_155, zs_222_156, zs_222_157, zs_222_157n, zs_222_158, zs_222_161, zs_222_163, zs_222_164, zs_222_167, zs_222_170, zs_222_173, zs_222_174, zs_222_176, zs_222_179, zs_222_179n, zs_222_180, zs_222_181, zs_222_182, zs_222_183, zs_222_184, zs_222_187, zs_222_190, zs_222_190n, zs_222_191, zs_222_192, zs_222_194, zs_222_194n, zs_222_195, zs_222_198, zs_222_201, zs_222_204, zs_222_205, zs_222_207, zs_222_210, zs_222_210n, zs_222_211, zs_222_213, zs_222_214, zs_222_217, zs_222_220, zs_222_220n, zs_222_221, zs_222_222, zs_222_223, zs_222_224, zs_222_225, zs_222_227, zs_222_230, zs_222_233, zs_222_234, zs_222_236, zs_222_239, zs_222_239n, zs_222_240, zs_222_241, zs_222_242, zs_222_243, zs_222_244, zs_222_247, zs_222_250, zs_222_250n, zs_222_251, zs_222_252, zs_222_254, zs_222_257, zs_222_260, zs_222_261, zs_222_263, zs_222_266, zs_222_266n, zs_222_267, zs_222_268, zs_222_269, zs_222_270, zs_222_272, zs_222_275, zs_222_278, zs_222_278n, zs_222_279, zs_222_280, zs_222_281, zs_222_284, zs_222_287, zs_222_288, zs_222_290, zs_222_293, zs_222_293n, zs_222_294, zs_222_295, zs_222_296, zs_222_297, zs_222_298, zs_222_301, zs_222_304, zs_222_304n, zs_222_305, zs_222_307, zs_222_308, zs_222_311, zs_222_314, zs_222_314n, zs_222_315, zs_222_316, zs_222_317, zs_222_320, zs_222_323, zs_222_324, zs_222_326, zs_222_329, zs_222_329n, zs_222_330, zs_222_331, zs_222_332, zs_222_333, zs_222_334, zs_222_337, zs_222_340, zs_222_340n, zs_222_341, zs_222_342, zs_222_344, zs_222_344n, zs_222_345, zs_222_348, zs_222_351, zs_222_354, zs_222_355, zs_222_357, zs_222_360, zs_222_360n, zs_222_361, zs_222_363, zs_222_364, zs_222_367, zs_222_370, zs_222_370n, zs_222_371, zs_222_372, zs_222_373, zs_222_374, zs_222_375, zs_222_377, zs_222_380, zs_222_382, h1, zmf_9, a1, nI_1', a3, if_neg c1, if_neg c2, ↓reduceIte]
      · rw [ypr_mk, yva_110, show ypr (.leaf : yT) = [] from rfl, List.append_nil]
        exact hm
theorem e_222 : ∀ (t : yT), ytw t = true → ∀ (D : Nat) (pre post qs : yP) (h : zH), ydp t + 4 ≤ D → zLst h (m + 5) (m + 6) (pre ++ ypr t ++ post) → zMd h m F qs → ynk qs → qs.length + ysz t ≤ 700 → ∃ h', zcall zP sv D 222 [.ref m, .int (nI pre.length)] h = some (.inl (some (.int (nI (pre.length + ysz t)))), h') ∧ zMd h' m F (qs ++ ypr (ysim t)) ∧ zfm m h h'
  | .leaf, ht => by cases ht
  | .inner z k v l r, ht => by
    intro D pre post qs h hD hl hm hq h7
    obtain ⟨d, rfl⟩ : ∃ d, D = d + 4 := ⟨D - 4, by omega⟩
    have hD' : max (ydp l) (ydp r) + 1 + 4 ≤ d + 4 := hD
    have h7' : qs.length + (ysz l + ysz r + 1) ≤ 700 := h7
    have m1 := Nat.le_max_left (ydp l) (ydp r)
    have m2 := Nat.le_max_right (ydp l) (ydp r)
    have e0 : pre ++ ypr (.inner z k v l r) ++ post = pre ++ (k, yva k v) :: (ypr l ++ ypr r ++ post) := by
      show pre ++ (k, yva k v) :: (ypr l ++ ypr r) ++ post = _
      rw [List.append_assoc]; rfl
    have hi : (pre ++ (k, yva k v) :: (ypr l ++ ypr r ++ post))[pre.length]? = some (k, yva k v) := by
      rw [List.getElem?_append_right (Nat.le_refl _), Nat.sub_self]; rfl
    rw [e0] at hl
    obtain ⟨A, B, a1, a2, a3, a4, a5⟩ := e_look hl hi
    have h1 := hm.1
    unfold zMo at h1
    have hnr : ynr k = k := by
      rcases ytw_el ht with g | g | g | g
      · rw [g.1, ynr_99]
      · rw [g.1, ynr_118]
      · rw [g.1, ynr_110]
      · exact ynr_o g.1
    obtain ⟨h2, e2, w2, f2⟩ := e_216 (sv := sv) (d := d + 2) (k := k) (v := yva k v) hm (by omega) hnr
    have hl2 := zLst_fm hl f2
    have ea : pre ++ (k, yva k v) :: (ypr l ++ ypr r ++ post) = (pre ++ [(k, yva k v)]) ++ ypr l ++ (ypr r ++ post) := by
      rw [List.append_assoc, List.append_assoc, List.append_assoc]; rfl
    have eb : pre ++ (k, yva k v) :: (ypr l ++ ypr r ++ post) = (pre ++ [(k, yva k v)] ++ ypr l) ++ ypr r ++ post := by
      rw [ea]
      simp only [List.append_assoc]
    have l1 : (pre ++ [(k, yva k v)]).length = pre.length + 1 := List.length_append
    have l2 : (pre ++ [(k, yva k v)] ++ ypr l).length = pre.length + 1 + ysz l := by rw [List.length_append, l1, ypr_len]
    have hq2 : ynk (qs ++ [(k, yva k v)]) := ynk_app hq (ynk_cons hnr ynk_nil)
    have lq : (qs ++ [(k, yva k v)]).length = qs.length + 1 := List.length_append
    rcases ytw_el ht with g | g | g | g
    · obtain ⟨g1, g2, g3⟩ := g
      subst g1 g2 g3
      refine ⟨h2, ?_, w2, f2⟩
      simp (disch := exact znw_u) only [zc_222, zs_222_0, zs_222_0n, zs_222_1, zs_222_4, zs_222_5, zs_222_5n, zs_222_6, zs_222_9, zs_222_10, zs_222_11, zs_222_12, zs_222_12n, zs_222_13, zs_222_14, zs_222_14n, zs_222_15, zs_222_18, zs_222_19, zs_222_20, zs_222_23, zs_222_24, zs_222_27, zs_222_30, zs_222_31, zs_222_32, zs_222_33, zs_222_34, zs_222_34n, zs_222_35, zs_222_36, zs_222_37, zs_222_38, zs_222_41, zs_222_43, zs_222_44, zs_222_46, zs_222_49, zs_222_49n, zs_222_50, zs_222_53, zs_222_54, zs_222_55, zs_222_56, zs_222_57, zs_222_59, zs_222_62, zs_222_62n, zs_222_63, zs_222_64, zs_222_64n, zs_222_65, zs_222_68, zs_222_69, zs_222_70, zs_222_71, zs_222_72, zs_222_73, zs_222_76, zs_222_79, zs_222_79n, zs_222_80, zs_222_83, zs_222_84, zs_222_85, zs_222_86, zs_222_87, zs_222_89, zs_222_92, zs_222_92n, zs_222_93, zs_222_94, zs_222_95, zs_222_96, zs_222_97, zs_222_97n, zs_222_98, zs_222_101, zs_222_104, zs_222_106, zs_222_107, zs_222_107n, zs_222_108, zs_222_111, zs_222_113, zs_222_113n, zs_222_114, zs_222_116, zs_222_119, zs_222_121, zs_222_121n, zs_222_122, zs_222_125, zs_222_126, zs_222_127, zs_222_128, zs_222_129, zs_222_131, zs_222_134, zs_222_134n, zs_222_135, zs_222_138, zs_222_140, zs_222_141, zs_222_143, zs_222_146, zs_222_146n, zs_222_147, zs_222_148, zs_222_149, zs_222_149n, zs_222_150, zs_222_153, zs_222_154, zs_222_155, zs_222_156, zs_222_157, zs_222_157n, zs_222_158, zs_222_161, zs_222_163, zs_222_164, zs_222_167, zs_222_170, zs_222_173, zs_222_174, zs_222_176, zs_222_179, zs_222_179n, zs_222_180, zs_222_181, zs_222_182, zs_222_183, zs_222_184, zs_222_187, zs_222_190, zs_222_190n, zs_222_191, zs_222_192, zs_222_194, zs_222_194n, zs_222_195, zs_222_198, zs_222_201, zs_222_204, zs_222_205, zs_222_207, zs_222_210, zs_222_210n, zs_222_211, zs_222_213, zs_222_214, zs_222_217, zs_222_220, zs_222_220n, zs_222_221, zs_222_222, zs_222_223, zs_222_224, zs_222_225, zs_222_227, zs_222_230, zs_222_233, zs_222_234, zs_222_236, zs_222_239, zs_222_239n, zs_222_240, zs_222_241, zs_222_242, zs_222_243, zs_222_244, zs_222_247, zs_222_250, zs_222_250n, zs_222_251, zs_222_252, zs_222_254, zs_222_257, zs_222_260, zs_222_261, zs_222_263, zs_222_266, zs_222_266n, zs_222_267, zs_222_268, zs_222_269, zs_222_270, zs_222_272, zs_222_275, zs_222_278, zs_222_278n, zs_222_279, zs_222_280, zs_222_281, zs_222_284, zs_222_287, zs_222_288, zs_222_290, zs_222_293, zs_222_293n, zs_222_294, zs_222_295, zs_222_296, zs_222_297, zs_222_298, zs_222_301, zs_222_304, zs_222_304n, zs_222_305, zs_222_307, zs_222_308, zs_222_311, zs_222_314, zs_222_314n, zs_222_315, zs_222_316, zs_222_317, zs_222_320, zs_222_323, zs_222_324, zs_222_326, zs_222_329, zs_222_329n, zs_222_330, zs_222_331, zs_222_332, zs_222_333, zs_222_334, zs_222_337, zs_222_340, zs_222_340n, zs_222_341, zs_222_342, zs_222_344, zs_222_344n, zs_222_345, zs_222_348, zs_222_351, zs_222_354, zs_222_355, zs_222_357, zs_222_360, zs_222_360n, zs_222_361, zs_222_363, zs_222_364, zs_222_367, zs_222_370, zs_222_370n, zs_222_371, zs_222_372, zs_222_373, zs_222_374, zs_222_375, zs_222_377, zs_222_380, zs_222_382, h1, zmf_6, zmf_7, zmf_11, yup_eq, a1, a2, a3, a4, zrc_13v, e2, e_205, yar_c, nI_1', zbk_v, zts_s, zts_n, ↓reduceIte]
      rfl
    · obtain ⟨g1, g4, g2, g3⟩ := g
      subst g1 g2 g3
      refine ⟨h2, ?_, w2, f2⟩
      simp (disch := exact znw_u) only [zc_222, zs_222_0, zs_222_0n, zs_222_1, zs_222_4, zs_222_5, zs_222_5n, zs_222_6, zs_222_9, zs_222_10, zs_222_11, zs_222_12, zs_222_12n, zs_222_13, zs_222_14, zs_222_14n, zs_222_15, zs_222_18, zs_222_19, zs_222_20, zs_222_23, zs_222_24, zs_222_27, zs_222_30, zs_222_31, zs_222_32, zs_222_33, zs_222_34, zs_222_34n, zs_222_35, zs_222_36, zs_222_37, zs_222_38, zs_222_41, zs_222_43, zs_222_44, zs_222_46, zs_222_49, zs_222_49n, zs_222_50, zs_222_53, zs_222_54, zs_222_55, zs_222_56, zs_222_57, zs_222_59, zs_222_62, zs_222_62n, zs_222_63, zs_222_64, zs_222_64n, zs_222_65, zs_222_68, zs_222_69, zs_222_70, zs_222_71, zs_222_72, zs_222_73, zs_222_76, zs_222_79, zs_222_79n, zs_222_80, zs_222_83, zs_222_84, zs_222_85, zs_222_86, zs_222_87, zs_222_89, zs_222_92, zs_222_92n, zs_222_93, zs_222_94, zs_222_95, zs_222_96, zs_222_97, zs_222_97n, zs_222_98, zs_222_101, zs_222_104, zs_222_106, zs_222_107, zs_222_107n, zs_222_108, zs_222_111, zs_222_113, zs_222_113n, zs_222_114, zs_222_116, zs_222_119, zs_222_121, zs_222_121n, zs_222_122, zs_222_125, zs_222_126, zs_222_127, zs_222_128, zs_222_129, zs_222_131, zs_222_134, zs_222_134n, zs_222_135, zs_222_138, zs_222_140, zs_222_141, zs_222_143, zs_222_146, zs_222_146n, zs_222_147, zs_222_148, zs_222_149, zs_222_149n, zs_222_150, zs_222_153, zs_222_154, zs_222_155, zs_222_156, zs_222_157, zs_222_157n, zs_222_158, zs_222_161, zs_222_163, zs_222_164, zs_222_167, zs_222_170, zs_222_173, zs_222_174, zs_222_176, zs_222_179, zs_222_179n, zs_222_180, zs_222_181, zs_222_182, zs_222_183, zs_222_184, zs_222_187, zs_222_190, zs_222_190n, zs_222_191, zs_222_192, zs_222_194, zs_222_194n, zs_222_195, zs_222_198, zs_222_201, zs_222_204, zs_222_205, zs_222_207, zs_222_210, zs_222_210n, zs_222_211, zs_222_213, zs_222_214, zs_222_217, zs_222_220, zs_222_220n, zs_222_221, zs_222_222, zs_222_223, zs_222_224, zs_222_225, zs_222_227, zs_222_230, zs_222_233, zs_222_234, zs_222_236, zs_222_239, zs_222_239n, zs_222_240, zs_222_241, zs_222_242, zs_222_243, zs_222_244, zs_222_247, zs_222_250, zs_222_250n, zs_222_251, zs_222_252, zs_222_254, zs_222_257, zs_222_260, zs_222_261, zs_222_263, zs_222_266, zs_222_266n, zs_222_267, zs_222_268, zs_222_269, zs_222_270, zs_222_272, zs_222_275, zs_222_278, zs_222_278n, zs_222_279, zs_222_280, zs_222_281, zs_222_284, zs_222_287, zs_222_288, zs_222_290, zs_222_293, zs_222_293n, zs_222_294, zs_222_295, zs_222_296, zs_222_297, zs_222_298, zs_222_301, zs_222_304, zs_222_304n, zs_222_305, zs_222_307, zs_222_308, zs_222_311, zs_222_314, zs_222_314n, zs_222_315, zs_222_316, zs_222_317, zs_222_320, zs_222_323, zs_222_324, zs_222_326, zs_222_329, zs_222_329n, zs_222_330, zs_222_331, zs_222_332, zs_222_333, zs_222_334, zs_222_337, zs_222_340, zs_222_340n, zs_222_341, zs_222_342, zs_222_344, zs_222_344n, zs_222_345, zs_222_348, zs_222_351, zs_222_354, zs_222_355, zs_222_357, zs_222_360, zs_222_360n, zs_222_361, zs_222_363, zs_222_364, zs_222_367, zs_222_370, zs_222_370n, zs_222_371, zs_222_372, zs_222_373, zs_222_374, zs_222_375, zs_222_377, zs_222_380, zs_222_382, h1, zmf_6, zmf_7, zmf_11, yup_eq, a1, a2, a3, a4, zrc_13v, e2, e_205, yar_v, nI_1', zbk_v, zts_s, zts_n, ↓reduceIte]
      rfl
    · obtain ⟨g1, gv, g2, g3⟩ := g
      subst g1 gv g3
      rw [ea] at hl2
      obtain ⟨h3, e3, w3, f3⟩ := e_222 l g2 (d + 3) _ _ _ h2 (by omega) hl2 w2 hq2 (by rw [lq]; omega)
      rw [l1] at e3
      rw [yva_110] at w3
      rw [List.append_assoc] at w3
      obtain ⟨h4, e4, w4, f4⟩ := e_222n (sv := sv) (d := d) (nx := nI (pre.length + 1 + ysz l)) (nd := nI pre.length) (s5 := 0) (sl := .unset) w3 (ytw_ysim l g2) hq
      refine ⟨h4, ?_, ?_, zfm_tr (zfm_tr f2 f3) f4⟩
      · have e5 : zcall zP sv (d + 4) 222 [.ref m, .int (nI pre.length)] h = zrun zP sv (zcall zP sv (d + 3)) 222 43 [.val (.ref m), .val (.int (nI pre.length)), .val (.int (nI qs.length)), .val (.int (nI 110)), .val (.int (nI (pre.length + 1 + ysz l))), .unset] [] h3 := by
          simp (disch := exact znw_u) only [zc_222, zs_222_0, zs_222_0n, zs_222_1, zs_222_4, zs_222_5, zs_222_5n, zs_222_6, zs_222_9, zs_222_10, zs_222_11, zs_222_12, zs_222_12n, zs_222_13, zs_222_14, zs_222_14n, zs_222_15, zs_222_18, zs_222_19, zs_222_20, zs_222_23, zs_222_24, zs_222_27, zs_222_30, zs_222_31, zs_222_32, zs_222_33, zs_222_34, zs_222_34n, zs_222_35, zs_222_36, zs_222_37, zs_222_38, zs_222_41, zs_222_44, zs_222_46, zs_222_49, zs_222_49n, zs_222_50, zs_222_53, zs_222_54, zs_222_55, zs_222_56, zs_222_57, zs_222_59, zs_222_62, zs_222_62n, zs_222_63, zs_222_64, zs_222_64n, zs_222_65, zs_222_68, zs_222_69, zs_222_70, zs_222_71, zs_222_72, zs_222_73, zs_222_76, zs_222_79, zs_222_79n, zs_222_80, zs_222_83, zs_222_84, zs_222_85, zs_222_86, zs_222_87, zs_222_89, zs_222_92, zs_222_92n, zs_222_93, zs_222_94, zs_222_95, zs_222_96, zs_222_97, zs_222_97n, zs_222_98, zs_222_101, zs_222_104, zs_222_106, zs_222_107, zs_222_107n, zs_222_108, zs_222_111, zs_222_113, zs_222_113n, zs_222_114, zs_222_116, zs_222_119, zs_222_121, zs_222_121n, zs_222_122, zs_222_125, zs_222_126, zs_222_127, zs_222_128, zs_222_129, zs_222_131, zs_222_134, zs_222_134n, zs_222_135, zs_222_138, zs_222_140, zs_222_141, zs_222_143, zs_222_146, zs_222_146n, zs_222_147, zs_222_148, zs_222_149, zs_222_149n, zs_222_150, zs_222_153, zs_222_154, zs_222_155, zs_222_156, zs_222_157, zs_222_157n, zs_222_158, zs_222_161, zs_222_163, zs_222_164, zs_222_167, zs_222_170, zs_222_173, zs_222_174, zs_222_176, zs_222_179, zs_222_179n, zs_222_180, zs_222_181, zs_222_182, zs_222_183, zs_222_184, zs_222_187, zs_222_190, zs_222_190n, zs_222_191, zs_222_192, zs_222_194, zs_222_194n, zs_222_195, zs_222_198, zs_222_201, zs_222_204, zs_222_205, zs_222_207, zs_222_210, zs_222_210n, zs_222_211, zs_222_213, zs_222_214, zs_222_217, zs_222_220, zs_222_220n, zs_222_221, zs_222_222, zs_222_223, zs_222_224, zs_222_225, zs_222_227, zs_222_230, zs_222_233, zs_222_234, zs_222_236, zs_222_239, zs_222_239n, zs_222_240, zs_222_241, zs_222_242, zs_222_243, zs_222_244, zs_222_247, zs_222_250, zs_222_250n, zs_222_251, zs_222_252, zs_222_254, zs_222_257, zs_222_260, zs_222_261, zs_222_263, zs_222_266, zs_222_266n, zs_222_267, zs_222_268, zs_222_269, zs_222_270, zs_222_272, zs_222_275, zs_222_278, zs_222_278n, zs_222_279, zs_222_280, zs_222_281, zs_222_284, zs_222_287, zs_222_288, zs_222_290, zs_222_293, zs_222_293n, zs_222_294, zs_222_295, zs_222_296, zs_222_297, zs_222_298, zs_222_301, zs_222_304, zs_222_304n, zs_222_305, zs_222_307, zs_222_308, zs_222_311, zs_222_314, zs_222_314n, zs_222_315, zs_222_316, zs_222_317, zs_222_320, zs_222_323, zs_222_324, zs_222_326, zs_222_329, zs_222_329n, zs_222_330, zs_222_331, zs_222_332, zs_222_333, zs_222_334, zs_222_337, zs_222_340, zs_222_340n, zs_222_341, zs_222_342, zs_222_344, zs_222_344n, zs_222_345, zs_222_348, zs_222_351, zs_222_354, zs_222_355, zs_222_357, zs_222_360, zs_222_360n, zs_222_361, zs_222_363, zs_222_364, zs_222_367, zs_222_370, zs_222_370n, zs_222_371, zs_222_372, zs_222_373, zs_222_374, zs_222_375, zs_222_377, zs_222_380, zs_222_382, h1, zmf_6, zmf_7, zmf_11, yup_eq, a1, a2, a3, a4, zrc_13v, e2, e_205, yar_n, nI_1e0, nI_1', zMd_rc w2, e3, zbk_v, zts_s, zts_n, ↓reduceIte]
        rw [e5, e4, show pre.length + 1 + ysz l = pre.length + (ysz l + 0 + 1) by omega]
        rfl
      · rw [show ysim (.inner z (nI 110) 0 l .leaf) = ysn (ysim l) from if_pos rfl]
        exact w4
    · obtain ⟨gk, gv, g2, g3⟩ := g
      subst gv
      have hl2' := hl2
      rw [ea] at hl2
      obtain ⟨h3, e3, w3, f3⟩ := e_222 l g2 (d + 3) _ _ _ h2 (by omega) hl2 w2 hq2 (by rw [lq]; omega)
      rw [l1] at e3
      have hsl := ysz_ysim l
      have wl := ytw_ysim l g2
      have wr := ytw_ysim r g3
      have hl3 := zLst_fm hl2' f3
      rw [eb] at hl3
      have lq3 : (qs ++ [(k, yva k 0)] ++ ypr (ysim l)).length = qs.length + 1 + ysz (ysim l) := by rw [List.length_append, lq, ypr_len]
      obtain ⟨h4, e4, w4, f4⟩ := e_222 r g3 (d + 3) _ _ _ h3 (by omega) hl3 w3 (ynk_app hq2 (ynk_ypr _ (Or.inr wl))) (by rw [lq3]; omega)
      rw [l2] at e4
      have w3h := w3.1
      unfold zMo at w3h
      rw [lq3] at w3h
      have w4' : zMd h4 m F (qs ++ (k, yva k 0) :: (ypr (ysim l) ++ ypr (ysim r))) := by
        have : qs ++ [(k, yva k 0)] ++ ypr (ysim l) ++ ypr (ysim r) = qs ++ (k, yva k 0) :: (ypr (ysim l) ++ ypr (ysim r)) := by
          rw [List.append_assoc, List.append_assoc]; rfl
        rw [← this]
        exact w4
      obtain ⟨h5, e5, w5, f5⟩ := e_222t (sv := sv) (d := d) (nx := nI (pre.length + 1 + ysz l + ysz r)) (nd := nI pre.length) w4' gk wl wr hq
      rw [ysp_ypr gk (yva_o gk)] at w5
      refine ⟨h5, ?_, ?_, zfm_tr (zfm_tr (zfm_tr f2 f3) f4) f5⟩
      · have n1 : (k = nI 110) = False := by
          have := yis_n110 gk
          simp [this]
        have n2 : ((nI 2 : Int32) = 0) = False := by decide +kernel
        have e6 : zcall zP sv (d + 4) 222 [.ref m, .int (nI pre.length)] h = zrun zP sv (zcall zP sv (d + 3)) 222 121 [.val (.ref m), .val (.int (nI pre.length)), .val (.int (nI qs.length)), .val (.int k), .val (.int (nI (pre.length + 1 + ysz l + ysz r))), .val (.int (nI (qs.length + 1 + ysz (ysim l))))] [] h4 := by
          simp (disch := first | exact znw_u | exact znw_i) only [zc_222, zs_222_0, zs_222_0n, zs_222_1, zs_222_4, zs_222_5, zs_222_5n, zs_222_6, zs_222_9, zs_222_10, zs_222_11, zs_222_12, zs_222_12n, zs_222_13, zs_222_14, zs_222_14n, zs_222_15, zs_222_18, zs_222_19, zs_222_20, zs_222_23, zs_222_24, zs_222_27, zs_222_30, zs_222_31, zs_222_32, zs_222_33, zs_222_34, zs_222_34n, zs_222_35, zs_222_36, zs_222_37, zs_222_38, zs_222_41, zs_222_43, zs_222_44, zs_222_46, zs_222_49, zs_222_49n, zs_222_50, zs_222_53, zs_222_54, zs_222_55, zs_222_56, zs_222_57, zs_222_59, zs_222_62, zs_222_62n, zs_222_63, zs_222_64, zs_222_64n, zs_222_65, zs_222_68, zs_222_69, zs_222_70, zs_222_71, zs_222_72, zs_222_73, zs_222_76, zs_222_79, zs_222_79n, zs_222_80, zs_222_83, zs_222_84, zs_222_85, zs_222_86, zs_222_87, zs_222_89, zs_222_92, zs_222_92n, zs_222_93, zs_222_94, zs_222_95, zs_222_96, zs_222_97, zs_222_97n, zs_222_98, zs_222_101, zs_222_104, zs_222_106, zs_222_107, zs_222_107n, zs_222_108, zs_222_111, zs_222_113, zs_222_113n, zs_222_114, zs_222_116, zs_222_119, zs_222_122, zs_222_125, zs_222_126, zs_222_127, zs_222_128, zs_222_129, zs_222_131, zs_222_134, zs_222_134n, zs_222_135, zs_222_138, zs_222_140, zs_222_141, zs_222_143, zs_222_146, zs_222_146n, zs_222_147, zs_222_148, zs_222_149, zs_222_149n, zs_222_150, zs_222_153, zs_222_154, zs_222_155, zs_222_156, zs_222_157, zs_222_157n, zs_222_158, zs_222_161, zs_222_163, zs_222_164, zs_222_167, zs_222_170, zs_222_173, zs_222_174, zs_222_176, zs_222_179, zs_222_179n, zs_222_180, zs_222_181, zs_222_182, zs_222_183, zs_222_184, zs_222_187, zs_222_190, zs_222_190n, zs_222_191, zs_222_192, zs_222_194, zs_222_194n, zs_222_195, zs_222_198, zs_222_201, zs_222_204, zs_222_205, zs_222_207, zs_222_210, zs_222_210n, zs_222_211, zs_222_213, zs_222_214, zs_222_217, zs_222_220, zs_222_220n, zs_222_221, zs_222_222, zs_222_223, zs_222_224, zs_222_225, zs_222_227, zs_222_230, zs_222_233, zs_222_234, zs_222_236, zs_222_239, zs_222_239n, zs_222_240, zs_222_241, zs_222_242, zs_222_243, zs_222_244, zs_222_247, zs_222_250, zs_222_250n, zs_222_251, zs_222_252, zs_222_254, zs_222_257, zs_222_260, zs_222_261, zs_222_263, zs_222_266, zs_222_266n, zs_222_267, zs_222_268, zs_222_269, zs_222_270, zs_222_272, zs_222_275, zs_222_278, zs_222_278n, zs_222_279, zs_222_280, zs_222_281, zs_222_284, zs_222_287, zs_222_288, zs_222_290, zs_222_293, zs_222_293n, zs_222_294, zs_222_295, zs_222_296, zs_222_297, zs_222_298, zs_222_301, zs_222_304, zs_222_304n, zs_222_305, zs_222_307, zs_222_308, zs_222_311, zs_222_314, zs_222_314n, zs_222_315, zs_222_316, zs_222_317, zs_222_320, zs_222_323, zs_222_324, zs_222_326, zs_222_329, zs_222_329n, zs_222_330, zs_222_331, zs_222_332, zs_222_333, zs_222_334, zs_222_337, zs_222_340, zs_222_340n, zs_222_341, zs_222_342, zs_222_344, zs_222_344n, zs_222_345, zs_222_348, zs_222_351, zs_222_354, zs_222_355, zs_222_357, zs_222_360, zs_222_360n, zs_222_361, zs_222_363, zs_222_364, zs_222_367, zs_222_370, zs_222_370n, zs_222_371, zs_222_372, zs_222_373, zs_222_374, zs_222_375, zs_222_377, zs_222_380, zs_222_382, h1, w3h, zmf_6, zmf_7, zmf_11, yup_eq, a1, a2, a3, a4, zrc_13v, e2, e_205, yar_o gk, n1, n2, nI_1', zMd_rc w2, e3, zMd_rc w3, e4, zbk_v, zts_s, zts_n, ↓reduceIte]
        rw [e6, e5, show pre.length + 1 + ysz l + ysz r = pre.length + (ysz l + ysz r + 1) by omega]
        rfl
      · rw [show ysim (.inner z k 0 l r) = ysp k (ysim l) (ysim r) from by
          show (if k = nI 110 then ysn (ysim l) else if yis k = true then ysp k (ysim l) (ysim r) else ymk k 0 .leaf .leaf) = _
          rw [if_neg (yis_n110 gk), if_pos gk]]
        exact w5
end ZFI
