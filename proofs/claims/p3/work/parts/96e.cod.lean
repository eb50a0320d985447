section ZQQ
variable {sv : Nat → Value} {d : Nat} {m : Nat} {h : zH} {w : yW} {th : Int32} {i : Nat} {t : yT} {M : Nat}
def zMdC (h : zH) (m : Nat) (w : yW) (t : yT) (M : Nat) : Prop := ∃ F : Nat → Int32, F 31 = 0 ∧ zCs h m F (yco M t 0 0) 0 ∧ zWk h m F (ycur w) ∧ (∃ T, zTab h (m + 2) T) ∧ zRst h m F w ∧ yAok (ycur w) ∧ ytok t
theorem zMdC_M (hM : zMdC h m w t M) : zMdl h m w 0 := by
  obtain ⟨F, a1, a2, a3, a4, a5, a6, a7⟩ := hM
  exact ⟨F, a1, a3, a4, a5, a6⟩
theorem zCdM_arr {q : List yI} (hc : zCdM h m q) : zArr h (m + 12) 21 700 ∧ zArr h (m + 13) 20 700 ∧ zArr h (m + 14) 20 700 ∧ zArr h (m + 15) 20 700 := by
  obtain ⟨A, B, C, D, ⟨a1, a2, a3, a4⟩, ⟨b1, b2, b3, b4⟩, _⟩ := hc
  exact ⟨⟨A, a1, b1⟩, ⟨B, a2, b2⟩, ⟨C, a3, b3⟩, ⟨D, a4, b4⟩⟩
theorem e_272x {x y : Int32} (hM : zMdl h m w th) (hx : yinF (ycur w) x = false) : ∃ h', zcall zP sv (d + 7) 272 [.ref m, .int x, .int y] h = some (.inl (some (.int 0)), h') ∧ zMdl h' m w (nI 1) ∧ zmw m h h' := by
  obtain ⟨h1, e1, m1, k1⟩ := e_252x (sv := sv) (d := d) hM hx
  have r0 : ∀ X : zR, zrc (h.1 m) 13 X = X := fun X => zMdl_rc hM
  refine ⟨h1, ?_, m1, k1⟩
  simp only [zc_272, zs_272_0, zs_272_1, zs_272_2, zs_272_5, zs_272_8, zs_272_9, r0, e1, zbk_v, zts_s, zgd_t, zty_50, ↓reduceIte, List.cons_append, List.nil_append]
theorem e_272 (hM : zMdl h m w th) (hi : (ycur w).1[i]? = some t) (h1M : 1 ≤ M) (hM4 : M ≤ 4) : ∃ h', zcall zP sv (d + 11) 272 [.ref m, .int (nI i), .int (nI M)] h = some (.inl (some (.int (nI 1))), h') ∧ zMdC h' m w t M ∧ zmw m h h' := by
  obtain ⟨h1, e1, m1, k1⟩ := e_252 (sv := sv) (d := d + 4) hM hi
  have r0 : ∀ X : zR, zrc (h.1 m) 13 X = X := fun X => zMdl_rc hM
  obtain ⟨F, f31, f8, l5, ⟨hm, ⟨N0, hN0, hn0⟩, hs⟩, ⟨T, hT⟩, hr, hA, tk⟩ := m1
  obtain ⟨_, ⟨p1, l7⟩, hsf, c2, c3, c4, c5, c6⟩ := id hs
  have hm' : h1.1 m = (13, zMF m F) := hm
  obtain ⟨h2, hh2⟩ : ∃ h2, h2 = zup (zup (zup (zup h1 m (13, zMF m (yup F 19 0))) m (13, zMF m (yup (yup F 19 0) 20 0))) m (13, zMF m (yup (yup (yup F 19 0) 20 0) 21 0))) m (13, zMF m (yup (yup (yup (yup F 19 0) 20 0) 21 0) 22 0)) := ⟨_, rfl⟩
  have g2 : h2.1 m = (13, zMF m (yup (yup (yup (yup F 19 0) 20 0) 21 0) 22 0)) := by rw [hh2, zup_at]
  have f2 : ∀ q, q ≠ m → h2.1 q = h1.1 q := fun q z => by rw [hh2, zup_ne z, zup_ne z, zup_ne z, zup_ne z]
  have v : ∀ k, k ≠ 19 → k ≠ 20 → k ≠ 21 → k ≠ 22 → yup (yup (yup (yup F 19 0) 20 0) 21 0) 22 0 k = F k := fun k a b c e => by rw [yup_ne e, yup_ne c, yup_ne b, yup_ne a]
  have m2 : zMdL h2 m w t := ⟨_, by rw [v _ (by omega) (by omega) (by omega) (by omega), f31], by rw [v _ (by omega) (by omega) (by omega) (by omega), f8], zLst_cg l5 (f2 _ (by omega)) (f2 _ (by omega)), zWk_cg ⟨hm, ⟨N0, hN0, hn0⟩, hs⟩ g2 (fun q hq => f2 q (by omega)), ⟨T, zTab_cg hT (f2 _ (by omega))⟩, zRst_cg hr ⟨v _ (by omega) (by omega) (by omega) (by omega), v _ (by omega) (by omega) (by omega) (by omega), v _ (by omega) (by omega) (by omega) (by omega), v _ (by omega) (by omega) (by omega) (by omega), v _ (by omega) (by omega) (by omega) (by omega)⟩ (f2 _ (by omega)) (f2 _ (by omega)) (f2 _ (by omega)) (f2 _ (by omega)), hA, tk⟩
  obtain ⟨h3, N, e3, hN, hn, m3, k3, hFS, fw⟩ := zMdL_f (sv := sv) (d := d + 7) (k := 3) (by decide) m2
  obtain ⟨F3, _, _, l5', ⟨_, ⟨N3, hN3, hn3⟩, hs3⟩, hT3, hr3, _⟩ := m3
  have g3 : h3.1 m = (13, zMF m (yup (yup (yup (yup F 19 0) 20 0) 21 0) 22 0)) := by rw [fw.1 m (by omega) (by omega), g2]
  obtain ⟨St, Fd, _, d1, d2, d3, d4⟩ := hFS
  rw [yfs_len] at d3
  obtain ⟨_, _, _, _, ⟨A12, x12, y12⟩, ⟨A13, x13, y13⟩, ⟨A14, x14, y14⟩, ⟨A15, x15, y15⟩⟩ := id hs3
  have n0 : nI (2 ^ yslo [] - 1) = 0 := by decide +kernel
  have n1 : nI (2 ^ 0 - 1) = 0 := by decide +kernel
  have n2 : nI (ycs []) = 0 := by decide +kernel
  have s3 : zCs h3 m (yup (yup (yup (yup F 19 0) 20 0) 21 0) 22 0) [] 0 := ⟨g3, by rw [yup_ne (by omega), yup_ne (by omega), yup_ne (by omega), yup_eq]; exact nI_0.symm, by rw [yup_ne (by omega), yup_ne (by omega), yup_eq, n2], by rw [yup_ne (by omega), yup_eq, n0], by rw [yup_eq, n1], ⟨A12, A13, A14, A15, ⟨x12, x13, x14, x15⟩, ⟨y12, y13, y14, y15⟩, ⟨rfl, rfl, rfl, rfl⟩, Nat.zero_le _⟩⟩
  have tk' := tk
  obtain ⟨tw, t31, t8⟩ := tk'
  have C := e_271 (sv := sv) (m := m) (M := M) (N := N) (p := ypr t) d2 (ysz t) t (Nat.le_refl _) tw [] [] (d + 10) (by omega) (by rw [List.nil_append, List.append_nil]) d3 (by rw [ypr_len]; omega)
  obtain ⟨h4, F4, e4, s4, f4, w4⟩ := C 0 0 [] h3 _ s3 l5' d1 (by show 0 + 2 * ysz t ≤ 700; omega) (by omega) (Nat.zero_le _) (by show (0 : Nat) ≤ 20; omega) (by omega) hM4
  rw [List.nil_append] at s4
  rw [List.length_nil, nI_0] at e4
  have f4' : ∀ k, k ≠ 19 → k ≠ 20 → k ≠ 21 → k ≠ 22 → F4 k = F k := fun k a b c e => (f4 k a b c e).trans (v k a b c e)
  obtain ⟨z12, z13, z14, z15⟩ := zCdM_arr s4.2.2.2.2.2
  obtain ⟨n, n1', n2', n3'⟩ := yfD_n t tw (by omega)
  have hr0 : ∀ X : zR, zrc (h1.1 m) 13 X = X := fun X => zMo_rc hm
  have gg : ∀ a, a ≠ m → (a < m + 9 ∨ m + 16 ≤ a) → h4.1 a = h1.1 a := fun a a1 a2 => by rw [w4.1 a a1 (by omega), fw.1 a (by omega) (by omega), f2 a a1]
  refine ⟨h4, ?_, ⟨F4, by rw [f4' _ (by omega) (by omega) (by omega) (by omega), f31], s4, ⟨s4.1, ⟨N3, zTab_cg hN3 (w4.1 _ (by omega) (by omega)), hn3⟩, ⟨⟨_, zLst_cg l5' (w4.1 _ (by omega) (by omega)) (w4.1 _ (by omega) (by omega))⟩, ⟨p1, zLst_cg l7 (gg _ (by omega) (by omega)) (gg _ (by omega) (by omega))⟩, ?_, zArr_cg hs3.2.2.2.1 (w4.1 _ (by omega) (by omega)), z12, z13, z14, z15⟩⟩, ⟨T, zTab_cg hT (gg _ (by omega) (by omega))⟩, zRst_cg hr ⟨f4' _ (by omega) (by omega) (by omega) (by omega), f4' _ (by omega) (by omega) (by omega) (by omega), f4' _ (by omega) (by omega) (by omega) (by omega), f4' _ (by omega) (by omega) (by omega) (by omega), f4' _ (by omega) (by omega) (by omega) (by omega)⟩ (gg _ (by omega) (by omega)) (gg _ (by omega) (by omega)) (gg _ (by omega) (by omega)) (gg _ (by omega) (by omega)), hA, tk⟩, ⟨fun q hq => ?_, ?_⟩⟩
  · have c1 : (0 : Int32) < nI n := by rw [← nI_0]; exact nI_lt (by omega) (by omega)
    have n10 : ¬ nI 1 = 0 := by decide +kernel
    rw [ymf3 t tw, n3'] at e3
    simp (disch := first | exact znw_u | exact znw_i) only [zc_272, zs_272_0, zs_272_0n, zs_272_1, zs_272_2, zs_272_5, zs_272_8, zs_272_9, zs_272_10, zs_272_10n, zs_272_11, zs_272_12, zs_272_15, zs_272_15n, zs_272_16, zs_272_17, zs_272_20, zs_272_20n, zs_272_21, zs_272_22, zs_272_25, zs_272_25n, zs_272_26, zs_272_27, zs_272_30, zs_272_30n, zs_272_31, zs_272_32, zs_272_35, zs_272_36, zs_272_36n, zs_272_37, zs_272_38, zs_272_39, zs_272_40, zs_272_43, zs_272_44, zs_272_47, zs_272_48, zs_272_51, zs_272_52, r0, e1, zbk_v, zts_s, zts_n, if_neg n10, hm', zup_at, zmp_19, zmp_20, zmp_21, zmp_22, ← hh2, g2, zrc_13v, e3, g3, e4, if_pos c1, zgd_t, zty_51, List.cons_append, List.nil_append]
  · obtain ⟨St3, Fd3, s1, s2, s3', s4'⟩ := hs3.2.2.1
    exact ⟨St3, Fd3, by rw [w4.1 _ (by omega) (by omega), s1], s2, by rw [w4.1 _ (by omega) (by omega), s3'], s4'⟩
  · rw [gg q (by omega) (by omega)]
    exact k1.1 q hq
  · rw [w4.2, fw.2, hh2]
    exact k1.2
end ZQQ
