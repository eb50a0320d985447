section ZMH
variable {sv : Nat → Value} {d : Nat} {h : zH} {m : Nat} {F : Nat → Int32} {A : yA} {N : List Int32}
theorem e_243a {i j : Nat} {c : Int32} (hw : zWk h m F A) (hA : yAok A) (hi : i < A.1.length) (hj : j < A.1.length) (hc : ylet c = false) : zcall zP sv (d + 21) 243 [.ref m, .int (nI i), .int c, .int (nI j)] h = some (.inl (some (.int (nI 2))), h) := by
  obtain ⟨hm, ⟨N, hN, hn⟩, hs⟩ := hw
  have E1 : zcall zP sv (d + 20) 203 [.ref m, .int (nI i)] h = some (.inl (some (.int (nI 1))), h) := e_203t (sv := sv) (d := d + 18) hm hN hn hi hA.1
  have E1' : zcall zP sv (d + 20) 203 [.ref m, .int (nI j)] h = some (.inl (some (.int (nI 1))), h) := e_203t (sv := sv) (d := d + 18) hm hN hn hj hA.1
  have E2 : zcall zP sv (d + 20) 204 [.int c] h = _ := e_204 (sv := sv) (d := d + 18) (c := c)
  rw [hc, yb_f] at E2
  have hr : ∀ X : zR, zrc (h.1 m) 13 X = X := fun X => zMo_rc hm
  simp only [zc_243, zs_243_0, zs_243_0n, zs_243_1, zs_243_2, zs_243_5, zs_243_8, zs_243_8n, zs_243_9, zs_243_10, zs_243_13, zs_243_16, zs_243_17, zs_243_18, zs_243_19, zs_243_22, zs_243_25, zs_243_26, zs_243_27, zs_243_27n, zs_243_28, zs_243_29, zs_243_32, zs_243_34, zs_243_36, zs_243_37, zs_243_38, zs_243_39, zs_243_41, zs_243_41n, zs_243_42, zs_243_45, zs_243_45n, zs_243_46, zs_243_47, zs_243_49, zs_243_50, zs_243_53, zs_243_53n, zs_243_54, zs_243_57, zs_243_59, zs_243_60, zs_243_61, zs_243_62, zs_243_63, zs_243_64, zs_243_66, zs_243_69, zs_243_70, zs_243_71, zs_243_71n, zs_243_72, zs_243_73, zs_243_76, zs_243_77, zs_243_79, zs_243_81, zs_243_81n, zs_243_82, zs_243_85, zs_243_88, zs_243_88n, zs_243_89, zs_243_92, zs_243_94, zs_243_95, zs_243_97, zs_243_100, zs_243_100n, zs_243_101, zs_243_104, zs_243_106, zs_243_107, zs_243_108, zs_243_110, zs_243_111, zs_243_114, zs_243_114n, zs_243_115, zs_243_115n, zs_243_116, zs_243_119, zs_243_121, zs_243_122, zs_243_122n, zs_243_123, zs_243_126, zs_243_128, zs_243_129, zs_243_132, zs_243_135, zs_243_136, zs_243_138, zs_243_140, zs_243_140n, zs_243_141, zs_243_144, zs_243_146, zs_243_147, zs_243_150, zs_243_150n, zs_243_151, zs_243_151n, zs_243_152, zs_243_155, zs_243_157, zs_243_158, zs_243_159, zs_243_160, zs_243_162, zs_243_163, zs_243_164, zs_243_165, zs_243_166, zs_243_166n, zs_243_167, zs_243_170, zs_243_172, zs_243_173, zs_243_174, zs_243_175, zs_243_177, zs_243_178, zs_243_179, zs_243_180, zs_243_183, zs_243_186, zs_243_189, zs_243_192, zs_243_195, zs_243_195n, zs_243_196, zs_243_199, zs_243_199n, zs_243_200, zs_243_203, zs_243_206, zs_243_207, zs_243_208, zs_243_208n, zs_243_209, zs_243_210, zs_243_213, zs_243_213n, zs_243_214, zs_243_214n, zs_243_215, zs_243_218, zs_243_221, hr, E1, E1', E2, zbk_v, zts_s, nI_1e0, ↓reduceIte]
/-- substitutes: what the two terms make -/
theorem ysz_yins {c : Int32} {t u : yT} {n : Nat} (ht : ytw t = true) (hu : ysz u = n + 1) : ysz (yins c u t) = ysz t + yct (c - nI 97) (ypr t) * n := by
  have e := congrArg List.length (ypr_yins (c := c) (u := u) t (Or.inr ht))
  rw [ypr_len, ysb1_len (by rw [ypr_len]; exact hu), ypr_len] at e
  exact e
theorem e_243m {i j : Nat} {c : Int32} {t u : yT} (hw : zWk h m F A) (hA : yAok A) (hi : A.1[i]? = some t) (hj : A.1[j]? = some u) (hc : ylet c = true) : ∃ (h1 : zH) (F1 : Nat → Int32) (s4 s5 s6 : Slot), zcall zP sv (d + 21) 243 [.ref m, .int (nI i), .int c, .int (nI j)] h = (if ysz (yins c u t) ≤ 31 then zrun zP sv (zcall zP sv (d + 20)) 243 203 [.val (.ref m), .val (.int (nI i)), .val (.int c), .val (.int (nI j)), s4, s5, s6] [.int (yb (decide (ysz (yins c u t) ≤ 31) && decide (ydp (yins c u t) ≤ 8)))] h1 else some (.inl (some (.int (nI 3))), h1)) ∧ zWk h1 m F1 A ∧ (ysz (yins c u t) ≤ 31 → F1 8 = nI (ysz (yins c u t)) ∧ zLst h1 (m + 5) (m + 6) (ypr (yins c u t))) ∧ yff F F1 ∧ zwf m h h1 := by
  obtain ⟨hm, ⟨N, hN, hn⟩, hs⟩ := hw
  have hs0 := hs
  obtain ⟨⟨p0, l5⟩, ⟨p1, l7⟩, hsf, _⟩ := hs
  have hil := (List.getElem?_eq_some_iff.mp hi).1
  have hjl := (List.getElem?_eq_some_iff.mp hj).1
  have hA1 := hA.1
  obtain ⟨t1, t2, t3⟩ := hA.2.1 t (List.mem_of_getElem? hi)
  obtain ⟨u1, u2, u3⟩ := hA.2.1 u (List.mem_of_getElem? hj)
  have hup := ytw_sz u1
  obtain ⟨su, hsu⟩ : ∃ su, ysz u = su + 1 := ⟨ysz u - 1, by omega⟩
  have E1 : zcall zP sv (d + 20) 203 [.ref m, .int (nI i)] h = some (.inl (some (.int (nI 1))), h) := e_203t (sv := sv) (d := d + 18) hm hN hn hil hA1
  have E1' : zcall zP sv (d + 20) 203 [.ref m, .int (nI j)] h = some (.inl (some (.int (nI 1))), h) := e_203t (sv := sv) (d := d + 18) hm hN hn hjl hA1
  have E2 : zcall zP sv (d + 20) 204 [.int c] h = _ := e_204 (sv := sv) (d := d + 18) (c := c)
  rw [hc, yb_t] at E2
  have hmm := hm
  unfold zMo at hmm
  have hN1 := hN.1
  have hN2 := hN.2
  have hlt := ypr_len t
  have hlu := ypr_len u
  have hbu := hn.2.2.2.2.2 j u hj
  obtain ⟨h1, e3, a1, a2, a3, a4⟩ := e_206 (sv := sv) (d := d + 19) (hn.2.2.2.2.2 i t hi) hm hN l5
  rw [hlt] at a1
  have E3 : zcall zP sv (d + 20) 206 [.ref m, .int (nI i)] h = some (.inl none, h1) := e3
  have a1' := a1
  unfold zMo at a1'
  have hT1 : zTab h1 (m + 1) N := zTab_cg hN (a3 _ (by omega) (by omega) (by omega))
  have hT1' := hT1.1
  have E4 : zcall zP sv (d + 20) 242 [.ref m, .int (c - nI 97)] h1 = _ := e_242 (sv := sv) (d := d + 19) (x := c - nI 97) a1 (by rw [yup_eq, hlt]) a2
  have hct := yct_len (x := c - nI 97) (p := ypr t)
  rw [hlt] at hct
  have hmul : yct (c - nI 97) (ypr t) * su ≤ 31 * 31 := Nat.mul_le_mul (by omega) (by omega)
  have hz := ysz_yins (c := c) t1 hsu
  have e0 : ∀ Kv, zael (20, N.map Value.int) 20 (nI (9 + 63 * j)) Kv = Kv (.int (nI (su + 1))) := fun Kv => zaelv (by rw [List.getElem?_map, hbu.1, hlu, hsu]; rfl) (by omega)
  have w1 : zWk h1 m (yup F 8 (nI (ysz t))) A := ⟨a1, ⟨N, hT1, hn⟩, zScm_of hs0 a2 (zLst_cg l7 (a3 _ (by omega) (by omega) (by omega)) (a3 _ (by omega) (by omega) (by omega))) (fun a ha => a3 a (by omega) (by omega) (by omega))⟩
  have hr1 : ∀ X : zR, zrc (h1.1 m) 13 X = X := fun X => zMo_rc a1
  by_cases hg : ysz (yins c u t) ≤ 31
  · have g1 : ¬ nI 31 < nI (ysz t + yct (c - nI 97) (ypr t) * su) := nI_nlt (by omega) (by omega)
    have hm0 : zMo (zup h1 m (13, zMF m (yup (yup F 8 (nI (ysz t))) 11 0))) m (yup (yup F 8 (nI (ysz t))) 11 0) := zMo_up
    have hmd : zMd (zup h1 m (13, zMF m (yup (yup F 8 (nI (ysz t))) 11 0))) m (yup F 8 (nI (ysz t))) (((ypr t).take 0).flatMap (ysb1 (c - nI 97) (ypr u))) := ⟨by unfold zMo; rw [zup_at]; rfl, zLst_cg (zLst_0 l7) (by rw [zup_ne (by omega), a3 _ (by omega) (by omega) (by omega)]) (by rw [zup_ne (by omega), a3 _ (by omega) (by omega) (by omega)])⟩
    have hlk : zLst (zup h1 m (13, zMF m (yup (yup F 8 (nI (ysz t))) 11 0))) (m + 5) (m + 6) (ypr t) := zLst_cg a2 (zup_ne (by omega)) (zup_ne (by omega))
    have hpi := ypr_yins (c := c) (u := u) t (Or.inr t1)
    have hli := ypr_len (yins c u t)
    obtain ⟨h2, s6', e5, b1, b2⟩ := e_243l (sv := sv) (d := d + 19) (c := c) (l1 := .val (.int (nI i))) (l3 := .val (.int (nI j))) hbu hN2 (by rw [yup_eq, hlt]) (ynk_ypr t (Or.inr t1)) (by rw [← hpi, hli]; omega) (ypr t).length 0 _ .unset rfl (Nat.zero_add _) hmd (zTab_cg hT1 (zup_ne (by omega))) hlk
    rw [← hpi] at b1
    have ti := ytw_yins (c := c) u1 t t1
    have hki := ynk_ypr (yins c u t) (Or.inr ti)
    have hlk2 : zLst h2 (m + 5) (m + 6) (ypr t) := zLst_fm hlk b2
    obtain ⟨h3, e6, c1, c2, c3, c4⟩ := e_207 (sv := sv) (d := d + 19) b1 hki hlk2
    have E6 : zcall zP sv (d + 20) 207 [.ref m] h2 = some (.inl none, h3) := e6
    rw [hli] at c1
    have c1m := c1.1
    rw [hli] at c1m
    have fr3 : ∀ q, q ≠ m → q ≠ m + 5 → q ≠ m + 6 → q ≠ m + 7 → q ≠ m + 8 → h3.1 q = h.1 q := fun q n0 n5 n6 n7 n8 => by
      rw [c3 q n0 n5 n6, b2.1 q n0 n7 n8, zup_ne n0, a3 q n0 n5 n6]
    have hT3 : zTab h3 (m + 1) N := zTab_cg hN (fr3 _ (by omega) (by omega) (by omega) (by omega) (by omega))
    have hs3 : zScm h3 m := zScm_of hs0 c2 c1.2 (fun a ha => fr3 a (by omega) (by omega) (by omega) (by omega) (by omega))
    have v8 : yup (yup (yup F 8 (nI (ysz t))) 8 (nI (ysz (yins c u t)))) 11 (nI (ysz (yins c u t))) 8 = nI (ysz (yins c u t)) := by rw [yup_ne (by omega), yup_eq]
    obtain ⟨h4, e7, g1', g2'⟩ := e_215 (sv := sv) (d := d + 16) ti (by omega) c1m v8 c2 hT3.1 hT3.2 (zSF_cg hsf (fr3 _ (by omega) (by omega) (by omega) (by omega) (by omega)) (fr3 _ (by omega) (by omega) (by omega) (by omega) (by omega)))
    have E7 : zcall zP sv (d + 20) 215 [.ref m] h3 = _ := e7
    have l54 : zLst h4 (m + 5) (m + 6) (ypr (yins c u t)) := zLst_cg c2 (g2'.1 _ (by omega) (by omega)) (g2'.1 _ (by omega) (by omega))
    obtain ⟨_, ⟨_, z7⟩, _, y1, y2, y3, y4, y5⟩ := hs3
    refine ⟨h4, _, .val (.int (nI (9 + 63 * j))), .val (.int (nI (ypr t).length)), s6', ?_, ⟨by unfold zMo; rw [g2'.1 m (by omega) (by omega)]; exact c1m, ⟨N, zTab_cg hT3 (g2'.1 _ (by omega) (by omega)), hn⟩, ⟨⟨_, l54⟩, ⟨_, zLst_cg z7 (g2'.1 _ (by omega) (by omega)) (g2'.1 _ (by omega) (by omega))⟩, g1', zArr_cg y1 (g2'.1 _ (by omega) (by omega)), zArr_cg y2 (g2'.1 _ (by omega) (by omega)), zArr_cg y3 (g2'.1 _ (by omega) (by omega)), zArr_cg y4 (g2'.1 _ (by omega) (by omega)), zArr_cg y5 (g2'.1 _ (by omega) (by omega))⟩⟩, fun _ => ⟨v8, l54⟩, yff_tr (yff_up (j := 8) (by decide)) (yff_tr (yff_up (j := 8) (by decide)) (yff_up (by decide))), ⟨fun q q1 q2 q3 => by rw [g2'.1 q (by omega) (by omega), fr3 q q1 (by omega) (by omega) (by omega) (by omega)], by rw [g2'.2, c4, b2.2]; exact a4⟩⟩
    rw [if_pos hg, zc_243]
    have hr3 : ∀ X : zR, zrc (h3.1 m) 13 X = X := fun X => zMo_rc c1m
    have hr2 : ∀ X : zR, zrc (h2.1 m) 13 X = X := fun X => zMo_rc b1.1
    rw [nI_0] at e5
    simp (disch := first | exact znw_u | exact znw_i | omega) only [zs_243_0, zs_243_0n, zs_243_1, zs_243_2, zs_243_5, zs_243_8, zs_243_8n, zs_243_9, zs_243_10, zs_243_13, zs_243_16, zs_243_17, zs_243_18, zs_243_19, zs_243_22, zs_243_25, zs_243_26, zs_243_27, zs_243_27n, zs_243_28, zs_243_29, zs_243_32, zs_243_34, zs_243_36, zs_243_37, zs_243_38, zs_243_39, zs_243_41, zs_243_41n, zs_243_42, zs_243_45, zs_243_45n, zs_243_46, zs_243_47, zs_243_49, zs_243_50, zs_243_53, zs_243_53n, zs_243_54, zs_243_57, zs_243_59, zs_243_60, zs_243_61, zs_243_62, zs_243_63, zs_243_64, zs_243_66, zs_243_69, zs_243_70, zs_243_71, zs_243_71n, zs_243_72, zs_243_73, zs_243_76, zs_243_77, zs_243_81, zs_243_81n, zs_243_82, zs_243_85, zs_243_88, zs_243_88n, zs_243_89, zs_243_92, zs_243_94, zs_243_95, zs_243_97, zs_243_100, zs_243_100n, zs_243_101, zs_243_104, zs_243_106, zs_243_107, zs_243_108, zs_243_110, zs_243_111, zs_243_114, zs_243_114n, zs_243_115, zs_243_115n, zs_243_116, zs_243_119, zs_243_121, zs_243_122, zs_243_122n, zs_243_123, zs_243_126, zs_243_128, zs_243_129, zs_243_132, zs_243_135, zs_243_136, zs_243_138, zs_243_140, zs_243_140n, zs_243_141, zs_243_144, zs_243_146, zs_243_147, zs_243_150, zs_243_150n, zs_243_151, zs_243_151n, zs_243_152, zs_243_155, zs_243_157, zs_243_158, zs_243_159, zs_243_160, zs_243_162, zs_243_163, zs_243_164, zs_243_165, zs_243_166, zs_243_166n, zs_243_167, zs_243_170, zs_243_172, zs_243_173, zs_243_174, zs_243_175, zs_243_177, zs_243_178, zs_243_179, zs_243_180, zs_243_183, zs_243_186, zs_243_189, zs_243_192, zs_243_196, zs_243_199, zs_243_199n, zs_243_200, zs_243_206, zs_243_207, zs_243_208, zs_243_208n, zs_243_209, zs_243_210, zs_243_213, zs_243_213n, zs_243_214, zs_243_214n, zs_243_215, zs_243_218, zs_243_221, hmm, zmf_0, zmf_8, hN1, zrc_13v, E1, E1', E2, E3, hr1, E4, a1', hT1', yup_eq, nI_fb, e0, nI_m, nI_mulx, nI_add, if_neg g1, zmp_11, zbk_v, zts_s, zts_n, nI_1e0, ↓reduceIte]
    rw [e5]
    simp only [zs_243_195, zs_243_196, zs_243_199, zs_243_200, hr2, E6, hr3, E7, zbk_v, zts_s, zts_n]
  · refine ⟨h1, _, .unset, .unset, .unset, ?_, w1, fun q => absurd q hg, yff_up (by decide), ⟨fun q q1 q2 q3 => a3 q q1 (by omega) (by omega), a4⟩⟩
    have g1 : nI 31 < nI (ysz t + yct (c - nI 97) (ypr t) * su) := nI_lt (by omega) (by omega)
    rw [if_neg hg, zc_243]
    simp (disch := first | exact znw_u | exact znw_i | omega) only [zs_243_0, zs_243_0n, zs_243_1, zs_243_2, zs_243_5, zs_243_8, zs_243_8n, zs_243_9, zs_243_10, zs_243_13, zs_243_16, zs_243_17, zs_243_18, zs_243_19, zs_243_22, zs_243_25, zs_243_26, zs_243_27, zs_243_27n, zs_243_28, zs_243_29, zs_243_32, zs_243_34, zs_243_36, zs_243_37, zs_243_38, zs_243_39, zs_243_41, zs_243_41n, zs_243_42, zs_243_45, zs_243_45n, zs_243_46, zs_243_47, zs_243_49, zs_243_50, zs_243_53, zs_243_53n, zs_243_54, zs_243_57, zs_243_59, zs_243_60, zs_243_61, zs_243_62, zs_243_63, zs_243_64, zs_243_66, zs_243_69, zs_243_70, zs_243_71, zs_243_71n, zs_243_72, zs_243_73, zs_243_76, zs_243_77, zs_243_79, zs_243_81, zs_243_81n, zs_243_82, zs_243_85, zs_243_88, zs_243_88n, zs_243_89, zs_243_92, zs_243_94, zs_243_95, zs_243_97, zs_243_100, zs_243_100n, zs_243_101, zs_243_104, zs_243_106, zs_243_107, zs_243_108, zs_243_110, zs_243_111, zs_243_114, zs_243_114n, zs_243_115, zs_243_115n, zs_243_116, zs_243_119, zs_243_121, zs_243_122, zs_243_122n, zs_243_123, zs_243_126, zs_243_128, zs_243_129, zs_243_132, zs_243_135, zs_243_136, zs_243_138, zs_243_140, zs_243_140n, zs_243_141, zs_243_144, zs_243_146, zs_243_147, zs_243_150, zs_243_150n, zs_243_151, zs_243_151n, zs_243_152, zs_243_155, zs_243_157, zs_243_158, zs_243_159, zs_243_160, zs_243_162, zs_243_163, zs_243_164, zs_243_165, zs_243_166, zs_243_166n, zs_243_167, zs_243_170, zs_243_172, zs_243_173, zs_243_174, zs_243_175, zs_243_177, zs_243_178, zs_243_179, zs_243_180, zs_243_183, zs_243_186, zs_243_189, zs_243_192, zs_243_195, zs_243_195n, zs_243_196, zs_243_199, zs_243_199n, zs_243_200, zs_243_203, zs_243_206, zs_243_207, zs_243_208, zs_243_208n, zs_243_209, zs_243_210, zs_243_213, zs_243_213n, zs_243_214, zs_243_214n, zs_243_215, zs_243_218, zs_243_221, hmm, zmf_0, zmf_8, hN1, zrc_13v, E1, E1', E2, E3, hr1, E4, a1', hT1', yup_eq, nI_fb, e0, nI_m, nI_mulx, nI_add, if_pos g1, zbk_v, zts_s, zts_n, nI_1e0, ↓reduceIte]
end ZMH
