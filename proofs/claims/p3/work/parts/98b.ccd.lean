section ZRB
variable {sv : Nat → Value} {d : Nat}
theorem d_126 {h : zH} {g : Nat} {A B C : List Int32} {x : Int32} (hg : zGau h g A B C) : zcall zP sv (d + 2) 126 [.ref g, .int x] h = some (.inl (some (.int (yg C x))), h) := by
  have e : zcall zP sv (d + 1) 165 [.ref (g + 5), .int x] h = _ := d_165 hg.2.2.2.1
  simp (disch := exact znw_u) only [zc_126, zs_126_0, zs_126_0n, zs_126_1, zs_126_4, zs_126_5, zs_126_8, hg.1, zGc, zrc_10, zf_10_0, zp_10_0, zp_10_0n, zf_10_1, zp_10_1, zp_10_1n, zf_10_2, zp_10_2, zp_10_2n, zRow_rc hg.2.2.2.1, e, zbk_v, zts_s, List.cons_append, List.nil_append]
/-- what the class's method translateNode does for the term u at a node x -/
def zTrC (sv : Nat → Value) (D c t mt M : Nat) (ns : List yN) (x : Int32) (u : yT) : Prop := ∀ (b j ℓ : Nat) (q : List yI) (h : zH) (A B C P : List Int32), zCdC h c q (nI M) A B C P j → zTre h t mt ns → yQ yfD ns C ns.length → q.length + 2 * ysz u ≤ 62 → j + ydp u ≤ 8 → ℓ + ydp u ≤ 41 → b < M → M ≤ 4 → ∃ h', zcall zP sv D 108 [.ref c, .ref t, .int x, .int (nI b), .int (nI ℓ)] h = some (.inl none, h') ∧ zCdC h' c (q ++ yco M u b j) (nI M) A B C P j ∧ zfr c (c + 22) h h'
theorem d_109b {D c t mt M b j ℓ : Nat} {ns : List yN} {h : zH} {nd : yN} {n : Nat} {x5 x6 xo : Int32} {u : yT} {cc : Bool} {q : List yI} {A B C P : List Int32} {l9 l10 l11 : Slot} (h9 : znw l9 = true) (h10 : znw l10 = true) (h11 : znw l11 = true) (hd : t + 9 ≤ c ∨ c + 22 ≤ t) (hT : zTrC sv (D + 2) c t mt M ns xo u) (hnd : ns[n]? = some nd) (hw : ywf ns) (hxo : ych ns.length xo) (hu : ygt (ytm ns) xo = u) (htw : ytw u = true) (hk : yis nd.1 = true) (hc : zCdC h c q (nI M) A B C P j) (ht : zTre h t mt ns) (hQ : yQ yfD ns C ns.length) (hq : q.length + 2 * ysz u + 1 ≤ 62) (hj : j + 1 + ydp u ≤ 8) (hL : ℓ + 1 + ydp u ≤ 41) (hb : b < M) (hM : M ≤ 4) : ∃ h', zrun zP sv (zcall zP sv (D + 2)) 109 78 [.val (.ref c), .val (.ref t), .val (.int (nI n)), .val (.int (nI b)), .val (.int (nI ℓ)), .val (.int x5), .val (.int x6), .val (.int (yb cc)), .val (.int xo), l9, l10, l11] [] h = some (.inl none, h') ∧ zCdC h' c (q ++ (if yfo yfD u < nI M - nI b then yco M u (b + 1) j ++ [yi2 cc nd.1 (nI b) (nI b) (nI (b + 1))] else (nI 115, nI b, nI j, nI b, -1) :: (yco M u b (j + 1) ++ [yi2 cc nd.1 (nI b) (nI (4 + j)) (nI b)]))) (nI M) A B C P j ∧ zfr c (c + 22) h h' := by
  obtain ⟨w, n1, n2, n3⟩ := yfD_n u htw (by omega)
  have hdp : 1 ≤ ydp u := by
    cases u with
    | leaf => cases htw
    | inner _ _ _ l r => show 1 ≤ max (ydp l) (ydp r) + 1; omega
  have hg := hc.2.1
  have c0 := hc.1
  have e126 : zcall zP sv (D + 2) 126 [.ref (c + 1), .int xo] h = _ := d_126 (d := D) (x := xo) hg
  rw [yQ_g hQ hxo (Nat.le_refl _) hw.1, hu] at e126
  have hlen := yco_len (M := M) (ysz u) u (Nat.le_refl _) htw
  have zM : nI M - nI b = nI (M - b) := nI_subn (by omega)
  have grc : ∀ X : zR, zrc (h.1 (c + 1)) 10 X = X := fun X => zGau_rc hg
  have crc : ∀ X : zR, zrc (h.1 c) 12 X = X := fun X => zCdC_rc hc
  by_cases c1 : yfo yfD u < nI M - nI b
  · rw [if_pos c1]
    have hbM : b + 1 < M := by
      rw [n3, zM] at c1
      have : w < M - b := Nat.lt_of_not_le fun z => nI_nlt z (by omega) c1
      omega
    obtain ⟨h1, e1, s1, f1⟩ := hT (b + 1) j (ℓ + 1) q h A B C P hc ht hQ (by omega) (by omega) (by omega) hbM hM
    have hlb := hlen (b + 1) j
    have ht1 := zTre_fr ht f1 (by omega)
    have crc1 : ∀ X : zR, zrc (h1.1 c) 12 X = X := fun X => zCdC_rc s1
    have trc1 : ∀ X : zR, zrc (h1.1 t) 6 X = X := fun X => zTre_rc ht1
    have e184 : zcall zP sv (D + 2) 184 [.ref t, .int (nI n)] h1 = _ := d_184 (d := D) ht1 hnd
    cases cc with
    | true =>
      obtain ⟨h2, e2, s2, f2⟩ := d_111 (sv := sv) (d := D) (k := nd.1) (r := nI b) (n := 0) (x := nI b) (y := nI (b + 1)) s1 (by rw [List.length_append]; omega)
      refine ⟨h2, ?_, by rw [← List.append_assoc]; exact s2, zfr_tr f1 f2⟩
      simp (disch := first | exact h9 | exact h10 | exact h11 | exact znw_u | exact znw_i) only [zs_109_2, zs_109_7, zs_109_7n, zs_109_14, zs_109_14n, zs_109_15, zs_109_18, zs_109_20, zs_109_23, zs_109_23n, zs_109_24, zs_109_27, zs_109_29, zs_109_32, zs_109_35, zs_109_36, zs_109_39, zs_109_40, zs_109_42, zs_109_44, zs_109_47, zs_109_49, zs_109_52, zs_109_54, zs_109_56, zs_109_56n, zs_109_57, zs_109_57n, zs_109_58, zs_109_60, zs_109_63, zs_109_65, zs_109_68, zs_109_70, zs_109_71, zs_109_73, zs_109_74, zs_109_75, zs_109_78, zs_109_79, zs_109_81, zs_109_82, zs_109_83, zs_109_84, zs_109_86, zs_109_86n, zs_109_87, zs_109_90, zs_109_92, zs_109_95, zs_109_95n, zs_109_96, zs_109_99, zs_109_100, zs_109_101, zs_109_104, zs_109_104n, zs_109_105, zs_109_105n, zs_109_106, zs_109_108, zs_109_109, zs_109_110, zs_109_111, zs_109_113, zs_109_114, zs_109_115, zs_109_118, zs_109_121, zs_109_121n, zs_109_122, zs_109_125, zs_109_127, zs_109_127n, zs_109_128, zs_109_130, zs_109_131, zs_109_133, zs_109_134, zs_109_135, zs_109_138, zs_109_138n, zs_109_139, zs_109_139n, zs_109_140, zs_109_142, zs_109_143, zs_109_145, zs_109_146, zs_109_147, zs_109_150, zs_109_150n, zs_109_151, zs_109_154, zs_109_156, zs_109_157, zs_109_160, zs_109_161, zs_109_163, zs_109_164, zs_109_166, zs_109_167, zs_109_169, zs_109_169n, zs_109_170, zs_109_170n, zs_109_171, zs_109_172, zs_109_175, zs_109_176, zs_109_177, zs_109_179, zs_109_182, zs_109_184, zs_109_187, zs_109_189, zs_109_191, zs_109_194, zs_109_196, zs_109_199, zs_109_201, zs_109_204, c0, zCdl, zrc_12, zf_12_0, zp_12_0, zp_12_0n, zf_12_1, zp_12_1, zp_12_1n, zf_12_2, zp_12_2, zp_12_2n, zf_12_3, zp_12_3, zp_12_3n, zf_12_4, zp_12_4, zp_12_4n, zf_12_5, zp_12_5, zf_12_6, zp_12_6, zp_12_6n, zf_12_7, zp_12_7, zp_12_7n, zf_12_8, zp_12_8, zp_12_8n, zf_12_9, zp_12_9, if_pos c1, grc, crc, crc1, trc1, e126, e1, e184, e2, nI_1', yb_t, nI_1e0, zbk_v, zts_s, zts_n, ↓reduceIte, List.cons_append, List.nil_append]
    | false =>
      obtain ⟨h2, e2, s2, f2⟩ := d_111 (sv := sv) (d := D) (k := nd.1) (r := nI b) (n := 0) (x := nI (b + 1)) (y := nI b) s1 (by rw [List.length_append]; omega)
      refine ⟨h2, ?_, by rw [← List.append_assoc]; exact s2, zfr_tr f1 f2⟩
      simp (disch := first | exact h9 | exact h10 | exact h11 | exact znw_u | exact znw_i) only [zs_109_2, zs_109_7, zs_109_7n, zs_109_14, zs_109_14n, zs_109_15, zs_109_18, zs_109_20, zs_109_23, zs_109_23n, zs_109_24, zs_109_27, zs_109_29, zs_109_32, zs_109_35, zs_109_36, zs_109_39, zs_109_40, zs_109_42, zs_109_44, zs_109_47, zs_109_49, zs_109_52, zs_109_54, zs_109_56, zs_109_56n, zs_109_57, zs_109_57n, zs_109_58, zs_109_60, zs_109_63, zs_109_65, zs_109_68, zs_109_70, zs_109_71, zs_109_73, zs_109_74, zs_109_75, zs_109_78, zs_109_79, zs_109_81, zs_109_82, zs_109_83, zs_109_84, zs_109_86, zs_109_86n, zs_109_87, zs_109_90, zs_109_92, zs_109_95, zs_109_95n, zs_109_96, zs_109_99, zs_109_100, zs_109_101, zs_109_104, zs_109_104n, zs_109_105, zs_109_105n, zs_109_106, zs_109_108, zs_109_109, zs_109_110, zs_109_111, zs_109_113, zs_109_114, zs_109_115, zs_109_118, zs_109_121, zs_109_121n, zs_109_122, zs_109_125, zs_109_127, zs_109_127n, zs_109_128, zs_109_130, zs_109_131, zs_109_133, zs_109_134, zs_109_135, zs_109_138, zs_109_138n, zs_109_139, zs_109_139n, zs_109_140, zs_109_142, zs_109_143, zs_109_145, zs_109_146, zs_109_147, zs_109_150, zs_109_150n, zs_109_151, zs_109_154, zs_109_156, zs_109_157, zs_109_160, zs_109_161, zs_109_163, zs_109_164, zs_109_166, zs_109_167, zs_109_169, zs_109_169n, zs_109_170, zs_109_170n, zs_109_171, zs_109_172, zs_109_175, zs_109_176, zs_109_177, zs_109_179, zs_109_182, zs_109_184, zs_109_187, zs_109_189, zs_109_191, zs_109_194, zs_109_196, zs_109_199, zs_109_201, zs_109_204, c0, zCdl, zrc_12, zf_12_0, zp_12_0, zp_12_0n, zf_12_1, zp_12_1, zp_12_1n, zf_12_2, zp_12_2, zp_12_2n, zf_12_3, zp_12_3, zp_12_3n, zf_12_4, zp_12_4, zp_12_4n, zf_12_5, zp_12_5, zf_12_6, zp_12_6, zp_12_6n, zf_12_7, zp_12_7, zp_12_7n, zf_12_8, zp_12_8, zp_12_8n, zf_12_9, zp_12_9, if_pos c1, grc, crc, crc1, trc1, e126, e1, e184, e2, nI_1', yb_f, nI_1e0, zbk_v, zts_s, zts_n, ↓reduceIte, List.cons_append, List.nil_append]
  · rw [if_neg c1]
    obtain ⟨hA, eA, sA, fA⟩ := d_110 (sv := sv) (d := D) hc (by omega)
    have cA : ∀ X : zR, zrc (hA.1 c) 12 X = X := fun X => zCdC_rc sA
    obtain ⟨hB, eB, sB, fB⟩ := d_111 (sv := sv) (d := D) (k := nI 115) (r := nI b) (n := nI j) (x := nI b) (y := -1) sA (by omega)
    have cB : ∀ X : zR, zrc (hB.1 c) 12 X = X := fun X => zCdC_rc sB
    have htB := zTre_fr ht (zfr_tr fA fB) (by omega)
    have len1 : (q ++ [(nI 115, nI b, nI j, nI b, -1)]).length = q.length + 1 := List.length_append
    obtain ⟨h1, e1, s1, f1⟩ := hT b (j + 1) (ℓ + 1) _ hB A B C P sB htB hQ (by rw [len1]; omega) (by omega) (by omega) hb hM
    have hlb := hlen b (j + 1)
    have c01 := s1.1
    have hb1 := s1.2.2.2.1
    have e166 : zcall zP sv (D + 2) 166 [.ref (c + 18), .int (nI j), .int 0] h1 = _ := d_166 (d := D + 1) hb1
    rw [ybsy_0 j (by omega)] at e166
    have brc : ∀ X : zR, zrc (h1.1 (c + 18)) 4 X = X := fun X => zRow_rc hb1
    have sC := zCdC_b (i := j) s1 (by omega) (by omega)
    obtain ⟨hC, hhC⟩ : ∃ hC, hC = zup h1 (c + 18 + 1) (20, (ybsy j).map Value.int) := ⟨_, rfl⟩
    rw [← hhC] at sC e166
    have fC : zfr c (c + 22) h1 hC := by rw [hhC]; exact zfr_up (by omega) (by omega)
    have htC := zTre_fr htB (zfr_tr f1 fC) (by omega)
    have cC : ∀ X : zR, zrc (hC.1 c) 12 X = X := fun X => zCdC_rc sC
    have tC : ∀ X : zR, zrc (hC.1 t) 6 X = X := fun X => zTre_rc htC
    have e184 : zcall zP sv (D + 2) 184 [.ref t, .int (nI n)] hC = _ := d_184 (d := D) htC hnd
    have eq1 : q ++ ((nI 115, nI b, nI j, nI b, -1) :: (yco M u b (j + 1) ++ [yi2 cc nd.1 (nI b) (nI (4 + j)) (nI b)])) = q ++ [(nI 115, nI b, nI j, nI b, -1)] ++ yco M u b (j + 1) ++ [yi2 cc nd.1 (nI b) (nI (4 + j)) (nI b)] := by
      simp only [List.append_assoc, List.cons_append, List.nil_append]
    rw [eq1]
    cases cc with
    | true =>
      obtain ⟨h2, e2, s2, f2⟩ := d_111 (sv := sv) (d := D) (k := nd.1) (r := nI b) (n := 0) (x := nI (4 + j)) (y := nI b) sC (by rw [List.length_append, len1]; omega)
      refine ⟨h2, ?_, s2, zfr_tr (zfr_tr (zfr_tr (zfr_tr fA fB) f1) fC) f2⟩
      simp (disch := first | exact h9 | exact h10 | exact h11 | exact znw_u | exact znw_i) only [zs_109_2, zs_109_7, zs_109_7n, zs_109_14, zs_109_14n, zs_109_15, zs_109_18, zs_109_20, zs_109_23, zs_109_23n, zs_109_24, zs_109_27, zs_109_29, zs_109_32, zs_109_35, zs_109_36, zs_109_39, zs_109_40, zs_109_42, zs_109_44, zs_109_47, zs_109_49, zs_109_52, zs_109_54, zs_109_56, zs_109_56n, zs_109_57, zs_109_57n, zs_109_58, zs_109_60, zs_109_63, zs_109_65, zs_109_68, zs_109_70, zs_109_71, zs_109_73, zs_109_74, zs_109_75, zs_109_78, zs_109_79, zs_109_81, zs_109_82, zs_109_83, zs_109_84, zs_109_86, zs_109_86n, zs_109_87, zs_109_90, zs_109_92, zs_109_95, zs_109_95n, zs_109_96, zs_109_99, zs_109_100, zs_109_101, zs_109_104, zs_109_104n, zs_109_105, zs_109_105n, zs_109_106, zs_109_108, zs_109_109, zs_109_110, zs_109_111, zs_109_113, zs_109_114, zs_109_115, zs_109_118, zs_109_121, zs_109_121n, zs_109_122, zs_109_125, zs_109_127, zs_109_127n, zs_109_128, zs_109_130, zs_109_131, zs_109_133, zs_109_134, zs_109_135, zs_109_138, zs_109_138n, zs_109_139, zs_109_139n, zs_109_140, zs_109_142, zs_109_143, zs_109_145, zs_109_146, zs_109_147, zs_109_150, zs_109_150n, zs_109_151, zs_109_154, zs_109_156, zs_109_157, zs_109_160, zs_109_161, zs_109_163, zs_109_164, zs_109_166, zs_109_167, zs_109_169, zs_109_169n, zs_109_170, zs_109_170n, zs_109_171, zs_109_172, zs_109_175, zs_109_176, zs_109_177, zs_109_179, zs_109_182, zs_109_184, zs_109_187, zs_109_189, zs_109_191, zs_109_194, zs_109_196, zs_109_199, zs_109_201, zs_109_204, c0, c01, zCdl, zrc_12, zf_12_0, zp_12_0, zp_12_0n, zf_12_1, zp_12_1, zp_12_1n, zf_12_2, zp_12_2, zp_12_2n, zf_12_3, zp_12_3, zp_12_3n, zf_12_4, zp_12_4, zp_12_4n, zf_12_5, zp_12_5, zf_12_6, zp_12_6, zp_12_6n, zf_12_7, zp_12_7, zp_12_7n, zf_12_8, zp_12_8, zp_12_8n, zf_12_9, zp_12_9, if_neg c1, grc, crc, cA, cB, cC, brc, tC, e126, eA, eB, e1, e166, e184, e2, nI_1', nI_add, yb_t, nI_1e0, zbk_v, zts_s, zts_n, ↓reduceIte, List.cons_append, List.nil_append]
    | false =>
      obtain ⟨h2, e2, s2, f2⟩ := d_111 (sv := sv) (d := D) (k := nd.1) (r := nI b) (n := 0) (x := nI b) (y := nI (4 + j)) sC (by rw [List.length_append, len1]; omega)
      refine ⟨h2, ?_, s2, zfr_tr (zfr_tr (zfr_tr (zfr_tr fA fB) f1) fC) f2⟩
      simp (disch := first | exact h9 | exact h10 | exact h11 | exact znw_u | exact znw_i) only [zs_109_2, zs_109_7, zs_109_7n, zs_109_14, zs_109_14n, zs_109_15, zs_109_18, zs_109_20, zs_109_23, zs_109_23n, zs_109_24, zs_109_27, zs_109_29, zs_109_32, zs_109_35, zs_109_36, zs_109_39, zs_109_40, zs_109_42, zs_109_44, zs_109_47, zs_109_49, zs_109_52, zs_109_54, zs_109_56, zs_109_56n, zs_109_57, zs_109_57n, zs_109_58, zs_109_60, zs_109_63, zs_109_65, zs_109_68, zs_109_70, zs_109_71, zs_109_73, zs_109_74, zs_109_75, zs_109_78, zs_109_79, zs_109_81, zs_109_82, zs_109_83, zs_109_84, zs_109_86, zs_109_86n, zs_109_87, zs_109_90, zs_109_92, zs_109_95, zs_109_95n, zs_109_96, zs_109_99, zs_109_100, zs_109_101, zs_109_104, zs_109_104n, zs_109_105, zs_109_105n, zs_109_106, zs_109_108, zs_109_109, zs_109_110, zs_109_111, zs_109_113, zs_109_114, zs_109_115, zs_109_118, zs_109_121, zs_109_121n, zs_109_122, zs_109_125, zs_109_127, zs_109_127n, zs_109_128, zs_109_130, zs_109_131, zs_109_133, zs_109_134, zs_109_135, zs_109_138, zs_109_138n, zs_109_139, zs_109_139n, zs_109_140, zs_109_142, zs_109_143, zs_109_145, zs_109_146, zs_109_147, zs_109_150, zs_109_150n, zs_109_151, zs_109_154, zs_109_156, zs_109_157, zs_109_160, zs_109_161, zs_109_163, zs_109_164, zs_109_166, zs_109_167, zs_109_169, zs_109_169n, zs_109_170, zs_109_170n, zs_109_171, zs_109_172, zs_109_175, zs_109_176, zs_109_177, zs_109_179, zs_109_182, zs_109_184, zs_109_187, zs_109_189, zs_109_191, zs_109_194, zs_109_196, zs_109_199, zs_109_201, zs_109_204, c0, c01, zCdl, zrc_12, zf_12_0, zp_12_0, zp_12_0n, zf_12_1, zp_12_1, zp_12_1n, zf_12_2, zp_12_2, zp_12_2n, zf_12_3, zp_12_3, zp_12_3n, zf_12_4, zp_12_4, zp_12_4n, zf_12_5, zp_12_5, zf_12_6, zp_12_6, zp_12_6n, zf_12_7, zp_12_7, zp_12_7n, zf_12_8, zp_12_8, zp_12_8n, zf_12_9, zp_12_9, if_neg c1, grc, crc, cA, cB, cC, brc, tC, e126, eA, eB, e1, e166, e184, e2, nI_1', nI_add, yb_f, nI_1e0, zbk_v, zts_s, zts_n, ↓reduceIte, List.cons_append, List.nil_append]
theorem d_109 {D c t mt M b j ℓ : Nat} {ns : List yN} {h : zH} {nd : yN} {n : Nat} {q : List yI} {A B C P : List Int32} (hd : t + 9 ≤ c ∨ c + 22 ≤ t) (hTl : zTrC sv (D + 2) c t mt M ns nd.2.2.1 (ygt (ytm ns) nd.2.2.1)) (hTr : zTrC sv (D + 2) c t mt M ns nd.2.2.2 (ygt (ytm ns) nd.2.2.2)) (hnd : ns[n]? = some nd) (hw : ywf ns) (hl : ytw (ygt (ytm ns) nd.2.2.1) = true) (hr : ytw (ygt (ytm ns) nd.2.2.2) = true) (hk : yis nd.1 = true) (hc : zCdC h c q (nI M) A B C P j) (ht : zTre h t mt ns) (hQ : yQ yfD ns C ns.length) (hq : q.length + 2 * (ysz (ygt (ytm ns) nd.2.2.1) + ysz (ygt (ytm ns) nd.2.2.2) + 1) ≤ 62) (hj : j + (max (ydp (ygt (ytm ns) nd.2.2.1)) (ydp (ygt (ytm ns) nd.2.2.2)) + 1) ≤ 8) (hL : ℓ + (max (ydp (ygt (ytm ns) nd.2.2.1)) (ydp (ygt (ytm ns) nd.2.2.2)) + 1) ≤ 41) (hb : b < M) (hM : M ≤ 4) : ∃ h', zcall zP sv (D + 3) 109 [.ref c, .ref t, .int (nI n), .int (nI b), .int (nI ℓ)] h = some (.inl none, h') ∧ zCdC h' c (q ++ yco M (ymk nd.1 nd.2.1 (ygt (ytm ns) nd.2.2.1) (ygt (ytm ns) nd.2.2.2)) b j) (nI M) A B C P j ∧ zfr c (c + 22) h h' := by
  have hch := ych_lt hw hnd
  have hln := hw.1
  have hnl := (List.getElem?_eq_some_iff.mp hnd).1
  have hg := hc.2.1
  have c0 := hc.1
  have chl : ych ns.length nd.2.2.1 := hch.1
  have chr' : ych ns.length nd.2.2.2 := hch.2
  generalize hle : ygt (ytm ns) nd.2.2.1 = l at *
  generalize hre : ygt (ytm ns) nd.2.2.2 = r at *
  have el : zcall zP sv (D + 2) 126 [.ref (c + 1), .int nd.2.2.1] h = _ := d_126 (d := D) hg
  have er : zcall zP sv (D + 2) 126 [.ref (c + 1), .int nd.2.2.2] h = _ := d_126 (d := D) hg
  rw [yQ_g hQ chl (Nat.le_refl _) hln, hle] at el
  rw [yQ_g hQ chr' (Nat.le_refl _) hln, hre] at er
  have grc : ∀ X : zR, zrc (h.1 (c + 1)) 10 X = X := fun X => zGau_rc hg
  have crc : ∀ X : zR, zrc (h.1 c) 12 X = X := fun X => zCdC_rc hc
  have trc : ∀ X : zR, zrc (h.1 t) 6 X = X := fun X => zTre_rc ht
  have e186 : zcall zP sv (D + 2) 186 [.ref t, .int (nI n)] h = _ := d_186 (d := D) ht hnd
  have e187 : zcall zP sv (D + 2) 187 [.ref t, .int (nI n)] h = _ := d_187 (d := D) ht hnd
  have hsz := (yot_sz (l := l) (r := r)).1
  have hdl := (yot_sz (l := l) (r := r)).2
  obtain ⟨w1, w2⟩ := yot_tw hl hr
  have hfz := ytw_sz w1
  have hoz := ytw_sz w2
  have pos : ∃ xf xo, zTrC sv (D + 2) c t mt M ns xf (yfi l r) ∧ zTrC sv (D + 2) c t mt M ns xo (yot l r) ∧ ych ns.length xo ∧ ygt (ytm ns) xo = yot l r ∧ zcall zP sv (D + 3) 109 [.ref c, .ref t, .int (nI n), .int (nI b), .int (nI ℓ)] h = zbk (zcall zP sv (D + 2) 108 [.ref c, .ref t, .int xf, .int (nI b), .int (nI (ℓ + 1))] h) (fun v h' => zrun zP sv (zcall zP sv (D + 2)) 109 78 [.val (.ref c), .val (.ref t), .val (.int (nI n)), .val (.int (nI b)), .val (.int (nI ℓ)), .val (.int nd.2.2.1), .val (.int nd.2.2.2), .val (.int (yb (!decide (yfo yfD l < yfo yfD r)))), .val (.int xo), .unset, .unset, .unset] (v.toList ++ []) h') (fun E h' => some (.inr E, h')) := by
    by_cases c1 : yfo yfD l < yfo yfD r
    · refine ⟨nd.2.2.2, nd.2.2.1, ?_, ?_, chl, ?_, ?_⟩
      · unfold yfi; rw [if_pos c1]; exact hTr
      · unfold yot; rw [if_pos c1]; exact hTl
      · unfold yot; rw [if_pos c1]; exact hle
      · rw [decide_eq_true c1, Bool.not_true, yb_f]
        simp (disch := first | exact znw_u | exact znw_i) only [zc_109, zs_109_0, zs_109_0n, zs_109_1, zs_109_2, zs_109_5, zs_109_7, zs_109_7n, zs_109_8, zs_109_9, zs_109_12, zs_109_14, zs_109_14n, zs_109_15, zs_109_18, zs_109_20, zs_109_23, zs_109_23n, zs_109_24, zs_109_27, zs_109_29, zs_109_32, zs_109_35, zs_109_36, zs_109_39, zs_109_40, zs_109_42, zs_109_44, zs_109_47, zs_109_49, zs_109_52, zs_109_54, zs_109_56, zs_109_56n, zs_109_57, zs_109_57n, zs_109_58, zs_109_60, zs_109_63, zs_109_65, zs_109_68, zs_109_70, zs_109_71, zs_109_73, zs_109_74, zs_109_75, zs_109_79, zs_109_81, zs_109_82, zs_109_83, zs_109_84, zs_109_86, zs_109_86n, zs_109_87, zs_109_90, zs_109_92, zs_109_95, zs_109_95n, zs_109_96, zs_109_99, zs_109_100, zs_109_101, zs_109_104, zs_109_104n, zs_109_105, zs_109_105n, zs_109_106, zs_109_108, zs_109_109, zs_109_110, zs_109_111, zs_109_113, zs_109_114, zs_109_115, zs_109_118, zs_109_121, zs_109_121n, zs_109_122, zs_109_125, zs_109_127, zs_109_127n, zs_109_128, zs_109_130, zs_109_131, zs_109_133, zs_109_134, zs_109_135, zs_109_138, zs_109_138n, zs_109_139, zs_109_139n, zs_109_140, zs_109_142, zs_109_143, zs_109_145, zs_109_146, zs_109_147, zs_109_150, zs_109_150n, zs_109_151, zs_109_154, zs_109_156, zs_109_157, zs_109_160, zs_109_161, zs_109_163, zs_109_164, zs_109_166, zs_109_167, zs_109_169, zs_109_169n, zs_109_170, zs_109_170n, zs_109_171, zs_109_172, zs_109_175, zs_109_176, zs_109_177, zs_109_179, zs_109_182, zs_109_184, zs_109_187, zs_109_189, zs_109_191, zs_109_194, zs_109_196, zs_109_199, zs_109_201, zs_109_204, c0, zCdl, zrc_12, zf_12_0, zp_12_0, zp_12_0n, zf_12_1, zp_12_1, zp_12_1n, zf_12_2, zp_12_2, zp_12_2n, zf_12_3, zp_12_3, zp_12_3n, zf_12_4, zp_12_4, zp_12_4n, zf_12_5, zp_12_5, zf_12_6, zp_12_6, zp_12_6n, zf_12_7, zp_12_7, zp_12_7n, zf_12_8, zp_12_8, zp_12_8n, zf_12_9, zp_12_9, if_pos c1, grc, crc, trc, el, er, e186, e187, nI_1', zbk_v, zts_s, zts_n, ↓reduceIte, List.cons_append, List.nil_append]
    · refine ⟨nd.2.2.1, nd.2.2.2, ?_, ?_, chr', ?_, ?_⟩
      · unfold yfi; rw [if_neg c1]; exact hTl
      · unfold yot; rw [if_neg c1]; exact hTr
      · unfold yot; rw [if_neg c1]; exact hre
      · rw [decide_eq_false c1, Bool.not_false, yb_t]
        simp (disch := first | exact znw_u | exact znw_i) only [zc_109, zs_109_0, zs_109_0n, zs_109_1, zs_109_2, zs_109_5, zs_109_7, zs_109_7n, zs_109_8, zs_109_9, zs_109_12, zs_109_14, zs_109_14n, zs_109_15, zs_109_18, zs_109_20, zs_109_23, zs_109_23n, zs_109_24, zs_109_27, zs_109_29, zs_109_32, zs_109_35, zs_109_36, zs_109_39, zs_109_40, zs_109_42, zs_109_44, zs_109_47, zs_109_49, zs_109_52, zs_109_54, zs_109_56, zs_109_56n, zs_109_57, zs_109_57n, zs_109_58, zs_109_60, zs_109_63, zs_109_65, zs_109_68, zs_109_70, zs_109_71, zs_109_73, zs_109_74, zs_109_75, zs_109_79, zs_109_81, zs_109_82, zs_109_83, zs_109_84, zs_109_86, zs_109_86n, zs_109_87, zs_109_90, zs_109_92, zs_109_95, zs_109_95n, zs_109_96, zs_109_99, zs_109_100, zs_109_101, zs_109_104, zs_109_104n, zs_109_105, zs_109_105n, zs_109_106, zs_109_108, zs_109_109, zs_109_110, zs_109_111, zs_109_113, zs_109_114, zs_109_115, zs_109_118, zs_109_121, zs_109_121n, zs_109_122, zs_109_125, zs_109_127, zs_109_127n, zs_109_128, zs_109_130, zs_109_131, zs_109_133, zs_109_134, zs_109_135, zs_109_138, zs_109_138n, zs_109_139, zs_109_139n, zs_109_140, zs_109_142, zs_109_143, zs_109_145, zs_109_146, zs_109_147, zs_109_150, zs_109_150n, zs_109_151, zs_109_154, zs_109_156, zs_109_157, zs_109_160, zs_109_161, zs_109_163, zs_109_164, zs_109_166, zs_109_167, zs_109_169, zs_109_169n, zs_109_170, zs_109_170n, zs_109_171, zs_109_172, zs_109_175, zs_109_176, zs_109_177, zs_109_179, zs_109_182, zs_109_184, zs_109_187, zs_109_189, zs_109_191, zs_109_194, zs_109_196, zs_109_199, zs_109_201, zs_109_204, c0, zCdl, zrc_12, zf_12_0, zp_12_0, zp_12_0n, zf_12_1, zp_12_1, zp_12_1n, zf_12_2, zp_12_2, zp_12_2n, zf_12_3, zp_12_3, zp_12_3n, zf_12_4, zp_12_4, zp_12_4n, zf_12_5, zp_12_5, zf_12_6, zp_12_6, zp_12_6n, zf_12_7, zp_12_7, zp_12_7n, zf_12_8, zp_12_8, zp_12_8n, zf_12_9, zp_12_9, if_neg c1, grc, crc, trc, el, er, e186, e187, nI_1', nI_1e0, zbk_v, zts_s, zts_n, ↓reduceIte, List.cons_append, List.nil_append]
  obtain ⟨xf, xo, C1, C2, cho, hxo, e0⟩ := pos
  obtain ⟨h1, e1, s1, f1⟩ := C1 b j (ℓ + 1) q h A B C P hc ht hQ (by omega) (by omega) (by omega) hb hM
  have hlb := yco_len (M := M) (ysz (yfi l r)) (yfi l r) (Nat.le_refl _) w1 b j
  obtain ⟨h2, e2, s2, f2⟩ := d_109b (sv := sv) (D := D) (t := t) (mt := mt) (x5 := nd.2.2.1) (x6 := nd.2.2.2) (cc := !decide (yfo yfD l < yfo yfD r)) (l9 := .unset) (l10 := .unset) (l11 := .unset) (ℓ := ℓ) znw_u znw_u znw_u hd C2 hnd hw cho hxo w2 hk s1 (zTre_fr ht f1 (by omega)) hQ (by rw [List.length_append]; omega) (by omega) (by omega) hb hM
  refine ⟨h2, by rw [e0, e1, zbk_v, zts_n]; exact e2, ?_, zfr_tr f1 f2⟩
  rw [show ymk nd.1 nd.2.1 l r = .inner 0 nd.1 nd.2.1 l r from rfl, yco_o hk]
  rw [yi2_o, yi2_o] at s2
  by_cases c1 : yfo yfD (yot l r) < nI M - nI b
  · rw [if_pos c1] at s2 ⊢
    rw [← List.append_assoc]
    exact s2
  · rw [if_neg c1] at s2 ⊢
    rw [← List.append_assoc]
    exact s2
end ZRB
