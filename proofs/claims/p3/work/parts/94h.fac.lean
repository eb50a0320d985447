theorem yisd_of {c : Int32} (h : yisd c = true) : ∃ v, v < 10 ∧ c = nI (48 + v) := by
  unfold yisd at h
  rw [Bool.and_eq_true] at h
  have h1 := of_decide_eq_true h.1
  have h2 := of_decide_eq_true h.2
  have h0 : ¬ c < 0 := fun q => h1 (Int32.lt_trans q (by decide +kernel))
  obtain ⟨k, hk, rfl⟩ := nI_of h0
  have h3 : ¬ k < 48 := fun q => h1 (nI_lt q (by decide))
  have h4 : ¬ 57 < k := fun q => h2 (nI_lt q hk)
  exact ⟨k - 48, by omega, by rw [show 48 + (k - 48) = k by omega]⟩
theorem yisd_x {c : Int32} (h : yisd c = true) : ¬ c = nI 40 ∧ ylet c = false := by
  obtain ⟨v, hv, rfl⟩ := yisd_of h
  refine ⟨fun q => absurd ((nI_eq (by omega) (by omega)).mp q) (by omega), ?_⟩
  unfold ylet
  rw [decide_eq_false (fun q => q (nI_lt (by omega) (by omega))), Bool.false_and]
theorem ylet_x {c : Int32} (h : ylet c = true) : ¬ c = nI 40 ∧ yisd c = false := by
  obtain ⟨v, hv, rfl⟩ := ylet_of h
  refine ⟨fun q => absurd ((nI_eq (by omega) (by omega)).mp q) (by omega), ?_⟩
  have z : nI 57 < nI (97 + v) := nI_lt (by omega) (by omega)
  have z2 : decide (¬ nI 57 < nI (97 + v)) = false := decide_eq_false (fun q => q z)
  unfold yisd
  rw [z2, Bool.and_false]
theorem n3248 : nI 32 < nI 48 := by decide +kernel
theorem n3297 : nI 32 < nI 97 := by decide +kernel
theorem n4032 : nI 40 ≠ nI 32 := by decide +kernel
theorem n4132 : nI 41 ≠ nI 32 := by decide +kernel
theorem ynk_one {k v : Int32} (h : ynr k = k) : ynk [(k, v)] := ynk_cons h ynk_nil
theorem i32_as {a b c : Int32} : a + b - c = a + (b - c) := by rw [Int32.sub_eq_add_neg, Int32.sub_eq_add_neg, Int32.add_assoc]
theorem i32_pm {a : Int32} : a + nI 1 - nI 1 = a := Int32.add_sub_cancel ..
section ZPD
variable {sv : Nat → Value} {d : Nat} {m : Nat} {F : Nat → Int32} {h : zH} {cs : List Int32} {pos op : Nat} {qs : yP}
/-- a number -/
theorem e_230d {x : Int32} (hp : zPs h m F cs pos op qs) (hq : qs.length ≤ pos) (hk : ynk qs) (hd : yisd (ycat cs pos) = true) : zMR m F cs op qs h (zrun zP sv (zcall zP sv (d + 2)) 230 30 [.val (.ref m), .val (.int x)] [] h) (ynum2 cs pos) := by
  have hln := zPs_ln hp
  have E1 := e_226 (sv := sv) (d := d) (lo := nI 48) (hi := nI 57) hp n3248
  have hd0 := hd
  unfold yisd at hd
  rw [hd, yb_t] at E1
  have hl : pos < cs.length := by
    by_cases hl : pos < cs.length
    · exact hl
    · exfalso
      rw [ycat_end (by omega)] at hd0
      exact absurd hd0 (by decide +kernel)
  have hr : ∀ X : zR, zrc (h.1 m) 13 X = X := fun X => zPs_rc hp
  obtain ⟨B, b1, b2⟩ := zPs_txt hp hl
  obtain ⟨G, g, g1, g2, g3, g4, hp1⟩ := zPs_at (pos' := pos + 1) hp (by omega)
  obtain ⟨h1, hh1⟩ : ∃ h1, h1 = zup h m (13, zMF m (yup G 27 (nI (pos + 1)))) := ⟨_, rfl⟩
  rw [← hh1] at hp1
  have f1 : zfm m h h1 := by
    rw [hh1]
    exact ⟨fun q q1 q2 q3 => zup_ne q1, rfl⟩
  have S1 : zrun zP sv (zcall zP sv (d + 2)) 230 30 [.val (.ref m), .val (.int x)] [] h = zrun zP sv (zcall zP sv (d + 2)) 230 61 [.val (.ref m), .val (.int (ycat cs pos - nI 48))] [] h1 := by
    rw [hh1]
    simp (disch := first | exact znw_i | omega) only [zs_230_0, zs_230_1, zs_230_3, zs_230_5, zs_230_8, zs_230_8n, zs_230_9, zs_230_11, zs_230_14, zs_230_17, zs_230_17n, zs_230_18, zs_230_20, zs_230_21, zs_230_24, zs_230_27, zs_230_30, zs_230_30n, zs_230_31, zs_230_33, zs_230_35, zs_230_38, zs_230_41, zs_230_41n, zs_230_42, zs_230_45, zs_230_45n, zs_230_46, zs_230_47, zs_230_50, zs_230_51, zs_230_52, zs_230_53, zs_230_56, zs_230_57, zs_230_59, zs_230_60, zs_230_62, zs_230_64, zs_230_66, zs_230_69, zs_230_72, zs_230_74, zs_230_75, zs_230_76, zs_230_76n, zs_230_77, zs_230_80, zs_230_80n, zs_230_81, zs_230_82, zs_230_85, zs_230_86, zs_230_87, zs_230_88, zs_230_91, zs_230_92, zs_230_93, zs_230_95, zs_230_96, zs_230_97, zs_230_97n, zs_230_98, zs_230_100, zs_230_101, zs_230_104, zs_230_105, zs_230_106, zs_230_106n, zs_230_107, zs_230_109, zs_230_111, zs_230_114, zs_230_117, zs_230_117n, zs_230_118, zs_230_120, zs_230_120n, zs_230_121, zs_230_124, zs_230_124n, zs_230_125, zs_230_126, zs_230_129, zs_230_130, zs_230_131, zs_230_132, zs_230_135, zs_230_136, zs_230_138, zs_230_139, zs_230_142, zs_230_143, zs_230_144, zs_230_144n, zs_230_145, zs_230_148, zs_230_150, zs_230_153, zs_230_153n, zs_230_154, zs_230_156, zs_230_159, zs_230_162, zs_230_163, zs_230_164, zs_230_164n, zs_230_165, zs_230_166, zs_230_169, zs_230_170, zs_230_171, zs_230_174, zs_230_174n, zs_230_175, zs_230_178, zs_230_181, zs_230_181n, zs_230_182, zs_230_184, zs_230_187, zs_230_190, zs_230_191, zs_230_194, zs_230_195, zs_230_196, zs_230_196n, zs_230_197, zs_230_198, zs_230_201, zs_230_202, zs_230_203, zs_230_206, zs_230_207, hr, zrc_13v, E1, zbk_v, zts_s, nI_1e0, ↓reduceIte, g, zmf_25, zmf_27, g1, nI_1', zmp_27, zup_ne, b1, b2]
  rw [S1]
  refine zMR_tr (h1 := h1) (qs1 := qs) ?_ f1
  have hr1 : ∀ X : zR, zrc (h1.1 m) 13 X = X := fun X => zPs_rc hp1
  have E2 := e_226 (sv := sv) (d := d) (lo := nI 48) (hi := nI 57) hp1 n3248
  have hfold : (decide (¬ ycat cs (pos + 1) < nI 48) && decide (¬ nI 57 < ycat cs (pos + 1))) = yisd (ycat cs (pos + 1)) := rfl
  rw [hfold] at E2
  unfold ynum2
  by_cases hd2 : yisd (ycat cs (pos + 1)) = true
  · rw [if_pos hd2]
    rw [hd2, yb_t] at E2
    have hl2 : pos + 1 < cs.length := by
      by_cases hl2 : pos + 1 < cs.length
      · exact hl2
      · exfalso
        rw [ycat_end (by omega)] at hd2
        exact absurd hd2 (by decide +kernel)
    obtain ⟨B', b3, b4⟩ := zPs_txt hp1 hl2
    obtain ⟨G', k0, k1, k2, k3, k4, hp2⟩ := zPs_at (pos' := pos + 2) hp1 (by omega)
    obtain ⟨h2, hh2⟩ : ∃ h2, h2 = zup h1 m (13, zMF m (yup G' 27 (nI (pos + 2)))) := ⟨_, rfl⟩
    rw [← hh2] at hp2
    have f2 : zfm m h1 h2 := by
      rw [hh2]
      exact ⟨fun q q1 q2 q3 => zup_ne q1, rfl⟩
    have S2 : zrun zP sv (zcall zP sv (d + 2)) 230 61 [.val (.ref m), .val (.int (ycat cs pos - nI 48))] [] h1 = zrun zP sv (zcall zP sv (d + 2)) 230 97 [.val (.ref m), .val (.int (nI 10 * (ycat cs pos - nI 48) + (ycat cs (pos + 1) - nI 48)))] [] h2 := by
      rw [hh2]
      have e12 : nI (pos + 1 + 1) = nI (pos + 2) := rfl
      simp (disch := first | exact znw_i | omega) only [zs_230_0, zs_230_1, zs_230_3, zs_230_5, zs_230_8, zs_230_8n, zs_230_9, zs_230_11, zs_230_14, zs_230_17, zs_230_17n, zs_230_18, zs_230_20, zs_230_21, zs_230_24, zs_230_27, zs_230_30, zs_230_30n, zs_230_31, zs_230_33, zs_230_35, zs_230_38, zs_230_41, zs_230_41n, zs_230_42, zs_230_45, zs_230_45n, zs_230_46, zs_230_47, zs_230_50, zs_230_51, zs_230_52, zs_230_53, zs_230_56, zs_230_57, zs_230_59, zs_230_60, zs_230_61, zs_230_61n, zs_230_62, zs_230_64, zs_230_66, zs_230_69, zs_230_72, zs_230_74, zs_230_75, zs_230_76, zs_230_76n, zs_230_77, zs_230_80, zs_230_80n, zs_230_81, zs_230_82, zs_230_85, zs_230_86, zs_230_87, zs_230_88, zs_230_91, zs_230_92, zs_230_93, zs_230_95, zs_230_96, zs_230_98, zs_230_100, zs_230_101, zs_230_104, zs_230_105, zs_230_106, zs_230_106n, zs_230_107, zs_230_109, zs_230_111, zs_230_114, zs_230_117, zs_230_117n, zs_230_118, zs_230_120, zs_230_120n, zs_230_121, zs_230_124, zs_230_124n, zs_230_125, zs_230_126, zs_230_129, zs_230_130, zs_230_131, zs_230_132, zs_230_135, zs_230_136, zs_230_138, zs_230_139, zs_230_142, zs_230_143, zs_230_144, zs_230_144n, zs_230_145, zs_230_148, zs_230_150, zs_230_153, zs_230_153n, zs_230_154, zs_230_156, zs_230_159, zs_230_162, zs_230_163, zs_230_164, zs_230_164n, zs_230_165, zs_230_166, zs_230_169, zs_230_170, zs_230_171, zs_230_174, zs_230_174n, zs_230_175, zs_230_178, zs_230_181, zs_230_181n, zs_230_182, zs_230_184, zs_230_187, zs_230_190, zs_230_191, zs_230_194, zs_230_195, zs_230_196, zs_230_196n, zs_230_197, zs_230_198, zs_230_201, zs_230_202, zs_230_203, zs_230_206, zs_230_207, hr1, zrc_13v, E2, zbk_v, zts_s, nI_1e0, ↓reduceIte, k0, zmf_25, zmf_27, k1, nI_1', e12, zmp_27, zup_ne, b3, b4, i32_as]
    rw [S2]
    have hr2 : ∀ X : zR, zrc (h2.1 m) 13 X = X := fun X => zPs_rc hp2
    obtain ⟨h3, e3, p3, f3⟩ := zPs_make (sv := sv) (d := d + 1) (k := nI 99) (v := nI 10 * (ycat cs pos - nI 48) + (ycat cs (pos + 1) - nI 48)) hp2 (by omega) ynr_99
    have E3 : zcall zP sv (d + 2) 216 [.ref m, .int (nI 99), .int (nI 10 * (ycat cs pos - nI 48) + (ycat cs (pos + 1) - nI 48))] h2 = _ := e3
    refine ⟨h3, _, ?_, p3, zfm_tr f2 f3, by rw [List.length_append, List.length_singleton]; omega, ynk_app hk (ynk_one ynr_99), fun t ht => ?_⟩
    · simp only [zs_230_0, zs_230_1, zs_230_3, zs_230_5, zs_230_8, zs_230_8n, zs_230_9, zs_230_11, zs_230_14, zs_230_17, zs_230_17n, zs_230_18, zs_230_20, zs_230_21, zs_230_24, zs_230_27, zs_230_30, zs_230_30n, zs_230_31, zs_230_33, zs_230_35, zs_230_38, zs_230_41, zs_230_41n, zs_230_42, zs_230_45, zs_230_45n, zs_230_46, zs_230_47, zs_230_50, zs_230_51, zs_230_52, zs_230_53, zs_230_56, zs_230_57, zs_230_59, zs_230_60, zs_230_61, zs_230_61n, zs_230_62, zs_230_64, zs_230_66, zs_230_69, zs_230_72, zs_230_74, zs_230_75, zs_230_76, zs_230_76n, zs_230_77, zs_230_80, zs_230_80n, zs_230_81, zs_230_82, zs_230_85, zs_230_86, zs_230_87, zs_230_88, zs_230_91, zs_230_92, zs_230_93, zs_230_95, zs_230_96, zs_230_97, zs_230_97n, zs_230_98, zs_230_100, zs_230_101, zs_230_104, zs_230_105, zs_230_106, zs_230_106n, zs_230_107, zs_230_109, zs_230_111, zs_230_114, zs_230_117, zs_230_117n, zs_230_118, zs_230_120, zs_230_120n, zs_230_121, zs_230_124, zs_230_124n, zs_230_125, zs_230_126, zs_230_129, zs_230_130, zs_230_131, zs_230_132, zs_230_135, zs_230_136, zs_230_138, zs_230_139, zs_230_142, zs_230_143, zs_230_144, zs_230_144n, zs_230_145, zs_230_148, zs_230_150, zs_230_153, zs_230_153n, zs_230_154, zs_230_156, zs_230_159, zs_230_162, zs_230_163, zs_230_164, zs_230_164n, zs_230_165, zs_230_166, zs_230_169, zs_230_170, zs_230_171, zs_230_174, zs_230_174n, zs_230_175, zs_230_178, zs_230_181, zs_230_181n, zs_230_182, zs_230_184, zs_230_187, zs_230_190, zs_230_191, zs_230_194, zs_230_195, zs_230_196, zs_230_196n, zs_230_197, zs_230_198, zs_230_201, zs_230_202, zs_230_203, zs_230_206, zs_230_207, hr2, E3, zbk_v, zts_n, zgd_t, zty_51, Option.isSome_some, yb_t]
    · obtain rfl := Option.some.inj ht
      rw [ypr_cn]
  · rw [if_neg hd2]
    rw [Bool.eq_false_iff.mpr hd2, yb_f] at E2
    obtain ⟨h3, e3, p3, f3⟩ := zPs_make (sv := sv) (d := d + 1) (k := nI 99) (v := ycat cs pos - nI 48) hp1 (by omega) ynr_99
    have E3 : zcall zP sv (d + 2) 216 [.ref m, .int (nI 99), .int (ycat cs pos - nI 48)] h1 = _ := e3
    refine ⟨h3, _, ?_, p3, f3, by rw [List.length_append, List.length_singleton]; omega, ynk_app hk (ynk_one ynr_99), fun t ht => ?_⟩
    · simp only [zs_230_0, zs_230_1, zs_230_3, zs_230_5, zs_230_8, zs_230_8n, zs_230_9, zs_230_11, zs_230_14, zs_230_17, zs_230_17n, zs_230_18, zs_230_20, zs_230_21, zs_230_24, zs_230_27, zs_230_30, zs_230_30n, zs_230_31, zs_230_33, zs_230_35, zs_230_38, zs_230_41, zs_230_41n, zs_230_42, zs_230_45, zs_230_45n, zs_230_46, zs_230_47, zs_230_50, zs_230_51, zs_230_52, zs_230_53, zs_230_56, zs_230_57, zs_230_59, zs_230_60, zs_230_61, zs_230_61n, zs_230_62, zs_230_64, zs_230_66, zs_230_69, zs_230_72, zs_230_74, zs_230_75, zs_230_76, zs_230_76n, zs_230_77, zs_230_80, zs_230_80n, zs_230_81, zs_230_82, zs_230_85, zs_230_86, zs_230_87, zs_230_88, zs_230_91, zs_230_92, zs_230_93, zs_230_95, zs_230_96, zs_230_97, zs_230_97n, zs_230_98, zs_230_100, zs_230_101, zs_230_104, zs_230_105, zs_230_106, zs_230_106n, zs_230_107, zs_230_109, zs_230_111, zs_230_114, zs_230_117, zs_230_117n, zs_230_118, zs_230_120, zs_230_120n, zs_230_121, zs_230_124, zs_230_124n, zs_230_125, zs_230_126, zs_230_129, zs_230_130, zs_230_131, zs_230_132, zs_230_135, zs_230_136, zs_230_138, zs_230_139, zs_230_142, zs_230_143, zs_230_144, zs_230_144n, zs_230_145, zs_230_148, zs_230_150, zs_230_153, zs_230_153n, zs_230_154, zs_230_156, zs_230_159, zs_230_162, zs_230_163, zs_230_164, zs_230_164n, zs_230_165, zs_230_166, zs_230_169, zs_230_170, zs_230_171, zs_230_174, zs_230_174n, zs_230_175, zs_230_178, zs_230_181, zs_230_181n, zs_230_182, zs_230_184, zs_230_187, zs_230_190, zs_230_191, zs_230_194, zs_230_195, zs_230_196, zs_230_196n, zs_230_197, zs_230_198, zs_230_201, zs_230_202, zs_230_203, zs_230_206, zs_230_207, hr1, E2, E3, zbk_v, zts_s, zts_n, zgd_t, zty_51, Option.isSome_some, yb_t, ↓reduceIte]
    · obtain rfl := Option.some.inj ht
      rw [ypr_cn]
end ZPD
