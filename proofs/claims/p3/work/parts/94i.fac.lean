section ZPE
variable {sv : Nat → Value} {d : Nat} {m : Nat} {F : Nat → Int32} {h : zH} {cs : List Int32} {pos op : Nat} {qs : yP}
/-- a letter -/
theorem e_230v {x : Int32} (hp : zPs h m F cs pos op qs) (hq : qs.length ≤ pos) (hk : ynk qs) (hd : ylet (ycat cs pos) = true) : zMR m F cs op qs h (zrun zP sv (zcall zP sv (d + 2)) 230 30 [.val (.ref m), .val (.int x)] [] h) (some (ymk (nI 118) (ycat cs pos) .leaf .leaf), pos + 1) := by
  have hln := zPs_ln hp
  have E1 := e_226 (sv := sv) (d := d) (lo := nI 48) (hi := nI 57) hp n3248
  have hy : (decide (¬ ycat cs pos < nI 48) && decide (¬ nI 57 < ycat cs pos)) = false := (ylet_x hd).2
  rw [hy, yb_f] at E1
  have E2 := e_226 (sv := sv) (d := d) (lo := nI 97) (hi := nI 102) hp n3297
  have hy2 : (decide (¬ ycat cs pos < nI 97) && decide (¬ nI 102 < ycat cs pos)) = true := hd
  rw [hy2, yb_t] at E2
  have hl : pos < cs.length := by
    by_cases hl : pos < cs.length
    · exact hl
    · exfalso
      rw [ycat_end (by omega)] at hd
      exact absurd hd (by decide +kernel)
  have hr : ∀ X : zR, zrc (h.1 m) 13 X = X := fun X => zPs_rc hp
  obtain ⟨B, b1, b2⟩ := zPs_txt hp hl
  obtain ⟨G, g, g1, g2, g3, g4, hp1⟩ := zPs_at (pos' := pos + 1) hp (by omega)
  obtain ⟨h1, hh1⟩ : ∃ h1, h1 = zup h m (13, zMF m (yup G 27 (nI (pos + 1)))) := ⟨_, rfl⟩
  rw [← hh1] at hp1
  have f1 : zfm m h h1 := by
    rw [hh1]
    exact ⟨fun q q1 q2 q3 => zup_ne q1, rfl⟩
  have hr1 : ∀ X : zR, zrc (h1.1 m) 13 X = X := fun X => zPs_rc hp1
  obtain ⟨h3, e3, p3, f3⟩ := zPs_make (sv := sv) (d := d + 1) (k := nI 118) (v := ycat cs pos - nI 97) hp1 (by omega) ynr_118
  have E3 : zcall zP sv (d + 2) 216 [.ref m, .int (nI 118), .int (ycat cs pos - nI 97)] h1 = _ := e3
  refine ⟨h3, _, ?_, p3, zfm_tr f1 f3, by rw [List.length_append, List.length_singleton]; show qs.length + 1 ≤ pos + 1; omega, ynk_app hk (ynk_one ynr_118), fun t ht => ?_⟩
  · rw [hh1] at E3 hr1
    simp (disch := first | exact znw_i | omega) only [zs_230_0, zs_230_1, zs_230_3, zs_230_5, zs_230_8, zs_230_8n, zs_230_9, zs_230_11, zs_230_14, zs_230_17, zs_230_17n, zs_230_18, zs_230_20, zs_230_21, zs_230_24, zs_230_27, zs_230_30, zs_230_30n, zs_230_31, zs_230_33, zs_230_35, zs_230_38, zs_230_41, zs_230_41n, zs_230_42, zs_230_45, zs_230_45n, zs_230_46, zs_230_47, zs_230_50, zs_230_51, zs_230_52, zs_230_53, zs_230_56, zs_230_57, zs_230_59, zs_230_60, zs_230_61, zs_230_61n, zs_230_62, zs_230_64, zs_230_66, zs_230_69, zs_230_72, zs_230_74, zs_230_75, zs_230_76, zs_230_76n, zs_230_77, zs_230_80, zs_230_80n, zs_230_81, zs_230_82, zs_230_85, zs_230_86, zs_230_87, zs_230_88, zs_230_91, zs_230_92, zs_230_93, zs_230_95, zs_230_96, zs_230_97, zs_230_97n, zs_230_98, zs_230_100, zs_230_101, zs_230_104, zs_230_105, zs_230_106, zs_230_106n, zs_230_107, zs_230_109, zs_230_111, zs_230_114, zs_230_117, zs_230_117n, zs_230_118, zs_230_120, zs_230_120n, zs_230_121, zs_230_124, zs_230_124n, zs_230_125, zs_230_126, zs_230_129, zs_230_130, zs_230_131, zs_230_132, zs_230_135, zs_230_136, zs_230_138, zs_230_139, zs_230_142, zs_230_143, zs_230_144, zs_230_144n, zs_230_145, zs_230_148, zs_230_150, zs_230_153, zs_230_153n, zs_230_154, zs_230_156, zs_230_159, zs_230_162, zs_230_163, zs_230_164, zs_230_164n, zs_230_165, zs_230_166, zs_230_169, zs_230_170, zs_230_171, zs_230_174, zs_230_174n, zs_230_175, zs_230_178, zs_230_181, zs_230_181n, zs_230_182, zs_230_184, zs_230_187, zs_230_190, zs_230_191, zs_230_194, zs_230_195, zs_230_196, zs_230_196n, zs_230_197, zs_230_198, zs_230_201, zs_230_202, zs_230_203, zs_230_206, zs_230_207, hr, hr1, E1, E2, E3, zbk_v, zts_s, zts_n, nI_1e0, ↓reduceIte, g, zmf_25, zmf_27, g1, nI_1', zmp_27, zup_ne, zrc_13v, b1, b2, zgd_t, zty_51, Option.isSome_some, yb_t]
  · obtain rfl := Option.some.inj ht
    rw [ypr_mk, yva_v]
    rfl
theorem ypu_v {f p : Nat} (hd : ylet (ycat cs p) = true) : ypu cs f op p = (some (ymk (nI 118) (ycat cs p) .leaf .leaf), p + 1) := by
  unfold ypu
  rw [if_neg (fun q => (ylet_x hd).1 q.1), if_pos hd]
theorem ypu_d {f p : Nat} (hd : yisd (ycat cs p) = true) : ypu cs f op p = ynum2 cs p := by
  unfold ypu
  rw [if_neg (fun q => (yisd_x hd).1 q.1), if_neg (by rw [(yisd_x hd).2]; decide), if_pos hd]
theorem ypu_n {f p : Nat} (h1 : ¬ (ycat cs p = nI 40 ∧ op < 6)) (h2 : ¬ ylet (ycat cs p) = true) (h3 : ¬ yisd (ycat cs p) = true) : ypu cs f op p = (none, p) := by
  unfold ypu
  rw [if_neg h1, if_neg h2, if_neg h3]
/-- what is in parentheses, or nothing -/
theorem e_230p {f : Nat} {x : Int32} (hI : yMP sv m F cs 228 6 f 0 4) (hop : op ≤ 6) (hmu : op < 6 → ymu 4 (op + 1) (pos + 1) < f) (hD : op < 6 → 5 * (7 - (op + 1)) + 6 ≤ d + 2) (hp : zPs h m F cs pos op qs) (hq : qs.length ≤ pos) (hk : ynk qs) (h2 : ¬ ylet (ycat cs pos) = true) (h3 : ¬ yisd (ycat cs pos) = true) : zMR m F cs op qs h (zrun zP sv (zcall zP sv (d + 2)) 230 30 [.val (.ref m), .val (.int x)] [] h) (ypu cs f op pos) := by
  have hln := zPs_ln hp
  have E1 := e_226 (sv := sv) (d := d) (lo := nI 48) (hi := nI 57) hp n3248
  have hy : (decide (¬ ycat cs pos < nI 48) && decide (¬ nI 57 < ycat cs pos)) = false := Bool.eq_false_iff.mpr h3
  rw [hy, yb_f] at E1
  have E2 := e_226 (sv := sv) (d := d) (lo := nI 97) (hi := nI 102) hp n3297
  have hy2 : (decide (¬ ycat cs pos < nI 97) && decide (¬ nI 102 < ycat cs pos)) = false := Bool.eq_false_iff.mpr h2
  rw [hy2, yb_f] at E2
  have hr : ∀ X : zR, zrc (h.1 m) 13 X = X := fun X => zPs_rc hp
  obtain ⟨G, g, g1, g2, g3, g4, _⟩ := zPs_op (op' := op + 1) hp
  have z28 : ∀ (G : Nat → Int32) (Kv : Value → zR), zfld (13, zMF m G) 13 28 Kv = Kv (.int (G 28)) := fun G Kv => zf_13_28
  by_cases ho : op < 6
  · have n6 : ¬ nI op = nI 6 := fun q => absurd ((nI_eq (by omega) (by omega)).mp q) (by omega)
    obtain ⟨h1, e1, p1, f1⟩ := e_225 (sv := sv) (d := d + 1) hp n4032
    have E3 : zcall zP sv (d + 2) 225 [.ref m, .int (nI 40)] h = _ := e1
    by_cases hc : ycat cs pos = nI 40
    · rw [if_pos hc] at p1
      rw [decide_eq_true hc, yb_t] at E3
      have hr1 : ∀ X : zR, zrc (h1.1 m) 13 X = X := fun X => zPs_rc p1
      obtain ⟨G1, k, k1, k2, k3, k4, hp2⟩ := zPs_op (op' := op + 1) p1
      obtain ⟨h2', hh2⟩ : ∃ h2', h2' = zup h1 m (13, zMF m (yup G1 28 (nI (op + 1)))) := ⟨_, rfl⟩
      rw [← hh2] at hp2
      have f2 : zfm m h1 h2' := by
        rw [hh2]
        exact ⟨fun q q1 q2 q3 => zup_ne q1, rfl⟩
      have hr2 : ∀ X : zR, zrc (h2'.1 m) 13 X = X := fun X => zPs_rc hp2
      obtain ⟨h3', qs3, e3, p3, f3, l3, n3, r3⟩ := hI (op + 1) (pos + 1) h2' qs (d + 2) (hmu ho) (hD ho) (by omega) hp2 (by omega) hk
      have S1 : zrun zP sv (zcall zP sv (d + 2)) 230 30 [.val (.ref m), .val (.int x)] [] h = zrun zP sv (zcall zP sv (d + 2)) 230 178 [.val (.ref m), .val (.int x)] [.int (yb (ypa cs f 0 none (op + 1) (pos + 1)).1.isSome)] h3' := by
        rw [hh2] at e3 hr2
        simp (disch := first | exact znw_i | omega) only [zs_230_0, zs_230_1, zs_230_3, zs_230_5, zs_230_8, zs_230_8n, zs_230_9, zs_230_11, zs_230_14, zs_230_17, zs_230_17n, zs_230_18, zs_230_20, zs_230_21, zs_230_24, zs_230_27, zs_230_30, zs_230_30n, zs_230_31, zs_230_33, zs_230_35, zs_230_38, zs_230_41, zs_230_41n, zs_230_42, zs_230_45, zs_230_45n, zs_230_46, zs_230_47, zs_230_50, zs_230_51, zs_230_52, zs_230_53, zs_230_56, zs_230_57, zs_230_59, zs_230_60, zs_230_61, zs_230_61n, zs_230_62, zs_230_64, zs_230_66, zs_230_69, zs_230_72, zs_230_74, zs_230_75, zs_230_76, zs_230_76n, zs_230_77, zs_230_80, zs_230_80n, zs_230_81, zs_230_82, zs_230_85, zs_230_86, zs_230_87, zs_230_88, zs_230_91, zs_230_92, zs_230_93, zs_230_95, zs_230_96, zs_230_97, zs_230_97n, zs_230_98, zs_230_100, zs_230_101, zs_230_104, zs_230_105, zs_230_106, zs_230_106n, zs_230_107, zs_230_109, zs_230_111, zs_230_114, zs_230_117, zs_230_117n, zs_230_118, zs_230_120, zs_230_120n, zs_230_121, zs_230_124, zs_230_124n, zs_230_125, zs_230_126, zs_230_129, zs_230_130, zs_230_131, zs_230_132, zs_230_135, zs_230_136, zs_230_138, zs_230_139, zs_230_142, zs_230_143, zs_230_144, zs_230_144n, zs_230_145, zs_230_148, zs_230_150, zs_230_153, zs_230_153n, zs_230_154, zs_230_156, zs_230_159, zs_230_162, zs_230_163, zs_230_164, zs_230_164n, zs_230_165, zs_230_166, zs_230_169, zs_230_170, zs_230_171, zs_230_174, zs_230_174n, zs_230_175, zs_230_181, zs_230_181n, zs_230_182, zs_230_184, zs_230_187, zs_230_190, zs_230_191, zs_230_194, zs_230_195, zs_230_196, zs_230_196n, zs_230_197, zs_230_198, zs_230_201, zs_230_202, zs_230_203, zs_230_206, zs_230_207, hr, hr1, hr2, E1, E2, E3, e3, zbk_v, zts_s, nI_1e0, ↓reduceIte, g, g2, z28, if_neg n6, k, k2, nI_1', zmp_28, zrc_13v]
      rw [S1]
      have hr3 : ∀ X : zR, zrc (h3'.1 m) 13 X = X := fun X => zPs_rc p3
      have tail : ∀ (b : Bool) (h4 : zH) (p' : Nat), zPs h4 m F cs p' (op + 1) qs3 → zfm m h3' h4 → ∃ h5, zrun zP sv (zcall zP sv (d + 2)) 230 195 [.val (.ref m), .val (.int x)] [.int (yb b)] h4 = some (.inl (some (.int (yb b))), h5) ∧ zPs h5 m F cs p' op qs3 ∧ zfm m h h5 := by
        intro b h4 p' hp4 hf4
        obtain ⟨G4, w, w1, w2, w3, w4, hp5⟩ := zPs_op (op' := op) hp4
        refine ⟨_, ?_, hp5, zfm_tr f1 (zfm_tr f2 (zfm_tr f3 (zfm_tr hf4 ⟨fun q q1 q2 q3 => zup_ne q1, rfl⟩)))⟩
        simp (disch := first | exact znw_i | omega) only [zs_230_0, zs_230_1, zs_230_3, zs_230_5, zs_230_8, zs_230_8n, zs_230_9, zs_230_11, zs_230_14, zs_230_17, zs_230_17n, zs_230_18, zs_230_20, zs_230_21, zs_230_24, zs_230_27, zs_230_30, zs_230_30n, zs_230_31, zs_230_33, zs_230_35, zs_230_38, zs_230_41, zs_230_41n, zs_230_42, zs_230_45, zs_230_45n, zs_230_46, zs_230_47, zs_230_50, zs_230_51, zs_230_52, zs_230_53, zs_230_56, zs_230_57, zs_230_59, zs_230_60, zs_230_61, zs_230_61n, zs_230_62, zs_230_64, zs_230_66, zs_230_69, zs_230_72, zs_230_74, zs_230_75, zs_230_76, zs_230_76n, zs_230_77, zs_230_80, zs_230_80n, zs_230_81, zs_230_82, zs_230_85, zs_230_86, zs_230_87, zs_230_88, zs_230_91, zs_230_92, zs_230_93, zs_230_95, zs_230_96, zs_230_97, zs_230_97n, zs_230_98, zs_230_100, zs_230_101, zs_230_104, zs_230_105, zs_230_106, zs_230_106n, zs_230_107, zs_230_109, zs_230_111, zs_230_114, zs_230_117, zs_230_117n, zs_230_118, zs_230_120, zs_230_120n, zs_230_121, zs_230_124, zs_230_124n, zs_230_125, zs_230_126, zs_230_129, zs_230_130, zs_230_131, zs_230_132, zs_230_135, zs_230_136, zs_230_138, zs_230_139, zs_230_142, zs_230_143, zs_230_144, zs_230_144n, zs_230_145, zs_230_148, zs_230_150, zs_230_153, zs_230_153n, zs_230_154, zs_230_156, zs_230_159, zs_230_162, zs_230_163, zs_230_164, zs_230_164n, zs_230_165, zs_230_166, zs_230_169, zs_230_170, zs_230_171, zs_230_174, zs_230_174n, zs_230_175, zs_230_178, zs_230_181, zs_230_181n, zs_230_182, zs_230_184, zs_230_187, zs_230_190, zs_230_191, zs_230_194, zs_230_195, zs_230_196, zs_230_196n, zs_230_197, zs_230_198, zs_230_201, zs_230_202, zs_230_203, zs_230_206, zs_230_207, w, z28, w2, nI_m, zmp_28, zgd_t, zty_yb]
      unfold ypu
      rw [if_pos ⟨hc, ho⟩]
      by_cases hs : (ypa cs f 0 none (op + 1) (pos + 1)).1.isSome = true
      · rw [hs, yb_t]
        obtain ⟨h4, e4, p4, f4⟩ := e_225 (sv := sv) (d := d + 1) p3 n4132
        have E4 : zcall zP sv (d + 2) 225 [.ref m, .int (nI 41)] h3' = _ := e4
        by_cases hc2 : ycat cs (ypa cs f 0 none (op + 1) (pos + 1)).2 = nI 41
        · rw [if_pos hc2] at p4
          rw [decide_eq_true hc2, yb_t] at E4
          obtain ⟨h5, e5, p5, f5⟩ := tail true h4 _ p4 f4
          rw [yb_t] at e5
          rw [if_pos ⟨rfl, hc2⟩]
          refine ⟨h5, qs3, ?_, p5, f5, by show qs3.length ≤ _ + 1; omega, n3, r3⟩
          simp only [zs_230_178, zs_230_181, zs_230_182, zs_230_184, zs_230_187, zs_230_190, zs_230_191, hr3, E4, zbk_v, zts_s, nI_1e0, ↓reduceIte]
          rw [e5, hs, yb_t]
        · rw [if_neg hc2] at p4
          rw [decide_eq_false hc2, yb_f] at E4
          obtain ⟨h5, e5, p5, f5⟩ := tail false h4 _ p4 f4
          rw [yb_f] at e5
          rw [if_neg (fun q => hc2 q.2)]
          refine ⟨h5, qs3, ?_, p5, f5, l3, n3, fun t ht => by cases ht⟩
          simp only [zs_230_178, zs_230_181, zs_230_182, zs_230_184, zs_230_187, zs_230_194, hr3, E4, zbk_v, zts_s, nI_1e0, ↓reduceIte]
          rw [e5]
          rfl
      · obtain ⟨h5, e5, p5, f5⟩ := tail false h3' _ p3 zfm_rfl
        rw [yb_f] at e5
        rw [if_neg (fun q => hs q.1), Bool.eq_false_iff.mpr hs, yb_f]
        refine ⟨h5, qs3, ?_, p5, f5, l3, n3, fun t ht => by cases ht⟩
        simp only [zs_230_178, zs_230_194, ↓reduceIte]
        rw [e5]
        rfl
    · rw [if_neg hc] at p1
      rw [decide_eq_false hc, yb_f] at E3
      rw [ypu_n (fun q => hc q.1) h2 h3]
      refine ⟨h1, qs, ?_, p1, f1, hq, hk, fun t ht => by cases ht⟩
      simp only [zs_230_0, zs_230_1, zs_230_3, zs_230_5, zs_230_8, zs_230_8n, zs_230_9, zs_230_11, zs_230_14, zs_230_17, zs_230_17n, zs_230_18, zs_230_20, zs_230_21, zs_230_24, zs_230_27, zs_230_30, zs_230_30n, zs_230_31, zs_230_33, zs_230_35, zs_230_38, zs_230_41, zs_230_41n, zs_230_42, zs_230_45, zs_230_45n, zs_230_46, zs_230_47, zs_230_50, zs_230_51, zs_230_52, zs_230_53, zs_230_56, zs_230_57, zs_230_59, zs_230_60, zs_230_61, zs_230_61n, zs_230_62, zs_230_64, zs_230_66, zs_230_69, zs_230_72, zs_230_74, zs_230_75, zs_230_76, zs_230_76n, zs_230_77, zs_230_80, zs_230_80n, zs_230_81, zs_230_82, zs_230_85, zs_230_86, zs_230_87, zs_230_88, zs_230_91, zs_230_92, zs_230_93, zs_230_95, zs_230_96, zs_230_97, zs_230_97n, zs_230_98, zs_230_100, zs_230_101, zs_230_104, zs_230_105, zs_230_106, zs_230_106n, zs_230_107, zs_230_109, zs_230_111, zs_230_114, zs_230_117, zs_230_117n, zs_230_118, zs_230_120, zs_230_120n, zs_230_121, zs_230_124, zs_230_124n, zs_230_125, zs_230_126, zs_230_129, zs_230_130, zs_230_131, zs_230_132, zs_230_135, zs_230_136, zs_230_138, zs_230_139, zs_230_142, zs_230_143, zs_230_144, zs_230_144n, zs_230_145, zs_230_148, zs_230_150, zs_230_153, zs_230_153n, zs_230_154, zs_230_156, zs_230_159, zs_230_162, zs_230_163, zs_230_164, zs_230_164n, zs_230_165, zs_230_166, zs_230_169, zs_230_170, zs_230_171, zs_230_174, zs_230_174n, zs_230_175, zs_230_178, zs_230_181, zs_230_181n, zs_230_182, zs_230_184, zs_230_187, zs_230_190, zs_230_191, zs_230_194, zs_230_195, zs_230_196, zs_230_196n, zs_230_197, zs_230_198, zs_230_201, zs_230_202, zs_230_203, zs_230_206, zs_230_207, hr, E1, E2, E3, zbk_v, zts_s, ↓reduceIte, g, g2, z28, if_neg n6, zgd_t, zty_50, zrc_13v, Option.isSome_none, yb_f]
  · obtain rfl : op = 6 := by omega
    rw [ypu_n (fun q => ho q.2) h2 h3]
    refine ⟨h, qs, ?_, hp, zfm_rfl, hq, hk, fun t ht => by cases ht⟩
    simp only [zs_230_0, zs_230_1, zs_230_3, zs_230_5, zs_230_8, zs_230_8n, zs_230_9, zs_230_11, zs_230_14, zs_230_17, zs_230_17n, zs_230_18, zs_230_20, zs_230_21, zs_230_24, zs_230_27, zs_230_30, zs_230_30n, zs_230_31, zs_230_33, zs_230_35, zs_230_38, zs_230_41, zs_230_41n, zs_230_42, zs_230_45, zs_230_45n, zs_230_46, zs_230_47, zs_230_50, zs_230_51, zs_230_52, zs_230_53, zs_230_56, zs_230_57, zs_230_59, zs_230_60, zs_230_61, zs_230_61n, zs_230_62, zs_230_64, zs_230_66, zs_230_69, zs_230_72, zs_230_74, zs_230_75, zs_230_76, zs_230_76n, zs_230_77, zs_230_80, zs_230_80n, zs_230_81, zs_230_82, zs_230_85, zs_230_86, zs_230_87, zs_230_88, zs_230_91, zs_230_92, zs_230_93, zs_230_95, zs_230_96, zs_230_97, zs_230_97n, zs_230_98, zs_230_100, zs_230_101, zs_230_104, zs_230_105, zs_230_106, zs_230_106n, zs_230_107, zs_230_109, zs_230_111, zs_230_114, zs_230_117, zs_230_117n, zs_230_118, zs_230_120, zs_230_120n, zs_230_121, zs_230_124, zs_230_124n, zs_230_125, zs_230_126, zs_230_129, zs_230_130, zs_230_131, zs_230_132, zs_230_135, zs_230_136, zs_230_138, zs_230_139, zs_230_142, zs_230_143, zs_230_144, zs_230_144n, zs_230_145, zs_230_148, zs_230_150, zs_230_153, zs_230_153n, zs_230_154, zs_230_156, zs_230_159, zs_230_162, zs_230_163, zs_230_164, zs_230_164n, zs_230_165, zs_230_166, zs_230_169, zs_230_170, zs_230_171, zs_230_174, zs_230_174n, zs_230_175, zs_230_178, zs_230_181, zs_230_181n, zs_230_182, zs_230_184, zs_230_187, zs_230_190, zs_230_191, zs_230_194, zs_230_195, zs_230_196, zs_230_196n, zs_230_197, zs_230_198, zs_230_201, zs_230_202, zs_230_203, zs_230_206, zs_230_207, hr, E1, E2, zbk_v, zts_s, ↓reduceIte, g, g2, z28, zgd_t, zty_50, zrc_13v, Option.isSome_none, yb_f]
end ZPE
