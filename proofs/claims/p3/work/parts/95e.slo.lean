section ZQT
variable {sv : Nat → Value} {d : Nat} {m : Nat} {h : zH} {w : yW} {th : Int32} {i : Nat} {t : yT}
theorem e_214 {c : Int32} (hM : zMdL h m w t) : ∃ (h' : zH) (N : List Int32), zcall zP sv (d + 4) 214 [.ref m, .int c] h = some (.inl (some (.int (ysl (ymf 0 N) c t))), h') ∧ yNow N (ycur w) ∧ zMdL h' m w t ∧ zmw m h h' := by
  have r0 : ∀ X : zR, zrc (h.1 m) 13 X = X := fun X => zMdL_rc hM
  obtain ⟨h1, N, e1, hN, hn, m1, k1, ⟨St, Fd, _, d1, d2, d3, d4⟩, fw⟩ := zMdL_f (sv := sv) (d := d) (k := 0) (by decide) hM
  rw [yfs_len] at d3
  rw [nI_0] at e1
  obtain ⟨F, f31, f8, l5, hw, hT, hr, hA, ht⟩ := m1
  obtain ⟨hm, ⟨N1, hN1, hn1⟩, hs⟩ := id hw
  have hm' : h1.1 m = (13, zMF m F) := hm
  obtain ⟨_, ⟨p1, l7⟩, hsf, ⟨S11, c2, c2'⟩, c3, c4, c5, c6⟩ := id hs
  have hl0 : zLst h1 (m + 5) (m + 6) ([] ++ ypr t ++ []) := by rw [List.nil_append, List.append_nil]; exact l5
  obtain ⟨h2, r5, r6, r7, r8, e2, q5, q6, q7, q8, q9, q10⟩ := e_214l (sv := sv) (d := d + 1) (f := ymf 0 N) (c := c) (l2 := .val (.int (yfo (ymf 0 N) t))) t ht.1 [] [] [] Fd h1 .unset .unset .unset .unset znw_u znw_u znw_u znw_u hm hl0 d1 d2 d3 ⟨S11, c2, c2', rfl, Nat.zero_le _⟩ (by have := ht.2.1; show 0 + ysz t < 600; omega)
  have l0 : ([] : yP).length = 0 := rfl
  rw [List.length_nil, l0, Nat.zero_add, nI_0] at e2
  have g0 : (0 - nI 1 : Int32) < 0 := by decide +kernel
  have g2 : h2.1 m = (13, zMF m F) := by rw [q10.1 m (by omega), hm']
  have gS := zSl_g (s := []) q9
  rw [List.length_nil, nI_0] at gS
  have fr : ∀ q, q ≠ m + 11 → h2.1 q = h1.1 q := q10.1
  obtain ⟨S2, s1, s2, _⟩ := q9
  refine ⟨h2, N, ?_, hn, ⟨F, f31, f8, zLst_cg l5 (fr _ (by omega)) (fr _ (by omega)), ⟨g2, ⟨N1, zTab_cg hN1 (fr _ (by omega)), hn1⟩, ⟨⟨_, zLst_cg l5 (fr _ (by omega)) (fr _ (by omega))⟩, ⟨p1, zLst_cg l7 (fr _ (by omega)) (fr _ (by omega))⟩, ?_, ⟨S2, s1, s2⟩, zArr_cg c3 (fr _ (by omega)), zArr_cg c4 (fr _ (by omega)), zArr_cg c5 (fr _ (by omega)), zArr_cg c6 (fr _ (by omega))⟩⟩, ?_, zRst_cg hr ⟨rfl, rfl, rfl, rfl, rfl⟩ (fr _ (by omega)) (fr _ (by omega)) (fr _ (by omega)) (fr _ (by omega)), hA, ht⟩, zmw_tr k1 ⟨fun q hq => fr q (by omega), q10.2⟩⟩
  · simp (disch := first | exact znw_u | exact znw_i) only [zc_214, zs_214_0, zs_214_1, zs_214_2, zs_214_5, zs_214_6, zs_214_7, zs_214_8, zs_214_9, zs_214_12, zs_214_13, zs_214_14, r0, e1, zbk_v, zts_s, hm', zmf_8, f8, List.cons_append, List.nil_append]
    rw [e2]
    simp only [zs_214_16, zs_214_18, if_pos g0, zs_214_208, zs_214_209, zs_214_212, zs_214_213, zs_214_214, g2, zmf_14, gS]
  · obtain ⟨St3, Fd3, s1', s2', s3', s4'⟩ := hsf
    exact ⟨St3, Fd3, by rw [fr _ (by omega), s1'], s2', by rw [fr _ (by omega), s3'], s4'⟩
  · obtain ⟨T, hT⟩ := hT
    exact ⟨T, zTab_cg hT (fr _ (by omega))⟩
theorem e_266x {x c : Int32} (hM : zMdl h m w th) (hx : yinF (ycur w) x = false) : zMC m h (zcall zP sv (d + 7) 266 [.ref m, .int x, .int c] h) 0 w (nI 1) := by
  obtain ⟨h1, e1, m1, k1⟩ := e_252x (sv := sv) (d := d) hM hx
  have r0 : ∀ X : zR, zrc (h.1 m) 13 X = X := fun X => zMdl_rc hM
  refine ⟨h1, ?_, m1, k1⟩
  simp only [zc_266, zs_266_0, zs_266_0n, zs_266_1, zs_266_2, zs_266_5, zs_266_8, zs_266_9, zs_266_10, zs_266_11, zs_266_14, zs_266_17, zs_266_17n, zs_266_18, zs_266_19, zs_266_21, zs_266_22, zs_266_25, zs_266_28, zs_266_28n, zs_266_29, zs_266_30, zs_266_33, r0, e1, zbk_v, zts_s, ↓reduceIte, List.cons_append, List.nil_append]
theorem e_266a {c : Int32} (hM : zMdl h m w th) (hi : (ycur w).1[i]? = some t) (hc : ylet c = false) : zMC m h (zcall zP sv (d + 7) 266 [.ref m, .int (nI i), .int c] h) 0 w (nI 2) := by
  obtain ⟨h1, e1, m1, k1⟩ := e_252 (sv := sv) (d := d) hM hi
  have r0 : ∀ X : zR, zrc (h.1 m) 13 X = X := fun X => zMdl_rc hM
  obtain ⟨F, g, g1, g2⟩ := zMdL_31 (x := nI 2) m1
  have E : zcall zP sv (d + 6) 204 [.int c] h1 = _ := e_204 (sv := sv) (d := d + 4)
  rw [hc, yb_f] at E
  have E2 : zcall zP sv (d + 6) 198 [.ref m, .int (nI 2)] h1 = _ := e_198 (sv := sv) (d := d + 5) g
  refine ⟨_, ?_, g1, zmw_tr k1 g2⟩
  simp only [zc_266, zs_266_0, zs_266_0n, zs_266_1, zs_266_2, zs_266_5, zs_266_8, zs_266_9, zs_266_10, zs_266_11, zs_266_14, zs_266_17, zs_266_17n, zs_266_18, zs_266_19, zs_266_21, zs_266_22, zs_266_25, zs_266_28, zs_266_28n, zs_266_29, zs_266_30, zs_266_33, r0, e1, zbk_v, zts_s, E, E2, nI_1e0, g, zrc_13v, ↓reduceIte, List.cons_append, List.nil_append]
theorem e_266 {c : Int32} (hM : zMdl h m w th) (hi : (ycur w).1[i]? = some t) (hc : ylet c = true) : ∃ N, yNow N (ycur w) ∧ zMC m h (zcall zP sv (d + 7) 266 [.ref m, .int (nI i), .int c] h) (ysl (ymf 0 N) (c - nI 97) t) w 0 := by
  obtain ⟨h1, e1, m1, k1⟩ := e_252 (sv := sv) (d := d) hM hi
  have r0 : ∀ X : zR, zrc (h.1 m) 13 X = X := fun X => zMdl_rc hM
  have r1 : ∀ X : zR, zrc (h1.1 m) 13 X = X := fun X => zMdL_rc m1
  have E : zcall zP sv (d + 6) 204 [.int c] h1 = _ := e_204 (sv := sv) (d := d + 4)
  rw [hc, yb_t] at E
  obtain ⟨h2, N, e2, hn, m2, k2⟩ := e_214 (sv := sv) (d := d + 2) (c := c - nI 97) m1
  refine ⟨N, hn, h2, ?_, zMdL_M m2, zmw_tr k1 k2⟩
  simp only [zc_266, zs_266_0, zs_266_0n, zs_266_1, zs_266_2, zs_266_5, zs_266_8, zs_266_9, zs_266_10, zs_266_11, zs_266_14, zs_266_17, zs_266_17n, zs_266_18, zs_266_19, zs_266_21, zs_266_22, zs_266_25, zs_266_28, zs_266_28n, zs_266_29, zs_266_30, zs_266_33, r0, r1, e1, zbk_v, zts_s, E, e2, nI_1e0, ↓reduceIte, List.cons_append, List.nil_append]
theorem e_267w {x c a th' : Int32} (hM : zMdl h m w th) (hc : zMC m h (zcall zP sv (d + 7) 266 [.ref m, .int x, .int c] h) a w th') : zMC m h (zcall zP sv (d + 8) 267 [.ref m, .int x, .int c] h) a w th' := by
  obtain ⟨h1, e1, m1, k1⟩ := hc
  have r0 : ∀ X : zR, zrc (h.1 m) 13 X = X := fun X => zMdl_rc hM
  refine ⟨h1, ?_, m1, k1⟩
  simp (disch := first | exact znw_u | exact znw_i) only [zc_267, zs_267_0, zs_267_0n, zs_267_1, zs_267_2, zs_267_3, zs_267_6, r0, e1, zbk_v, zts_s, List.cons_append, List.nil_append]
end ZQT
