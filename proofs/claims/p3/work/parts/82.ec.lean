theorem yl1 {c : Int32} (h : ylet c = false) : c < nI 97 ∨ (¬ c < nI 97 ∧ nI 102 < c) := by
  by_cases h1 : c < nI 97
  · exact Or.inl h1
  · exact Or.inr ⟨h1, (ylet_f h).resolve_left h1⟩
section ZDZ
variable {sv : Nat → Value} {d : Nat} {h : zH} {m : Nat} {w : yW}
theorem d_72 {c : Int32} (hl : ylet c = true) : zcall zP sv (d + 1) 72 [.int c] h = some (.inl none, h) := by
  have g := ylet_r hl
  simp only [zc_72, zs_72_0, zs_72_1, zs_72_3, zs_72_6, zs_72_7, zs_72_9, zs_72_12, zs_72_23, if_neg g.1, if_neg g.2]
theorem d_72n {c : Int32} (hl : ylet c = false) : zcall zP sv (d + 1) 72 [.int c] h = some (.inr 1, zext h [(0, [])] 6) := by
  rcases yl1 hl with g | g
  · simp only [zc_72, zs_72_0, zs_72_1, zs_72_3, zs_72_6, zs_72_7, zs_72_9, zs_72_12, zs_72_23, if_pos g, zext_of]
  · simp only [zc_72, zs_72_0, zs_72_1, zs_72_3, zs_72_6, zs_72_7, zs_72_9, zs_72_12, zs_72_23, if_neg g.1, if_pos g.2, zext_of]
theorem d_178 {s : Nat} {S : yS} {c x : Int32} (hs : zSta h s S) : ∃ h', zcall zP sv (d + 2) 178 [.ref s, .int c, .int x] h = some (.inl (some (.int (yg S.2.1 (c - nI 97)))), h') ∧ zSta h' s (S.1, ys S.2.1 (c - nI 97) x, S.2.2) ∧ zfr s (s + 4) h h' := by
  obtain ⟨h1, ⟨F, h2, h3⟩, h4, h5, h6⟩ := hs
  have e1 := d_166 (sv := sv) (d := d) (x := c - nI 97) (y := x) h4
  refine ⟨_, ?_, ⟨by rw [zup_ne (by omega)]; exact h1, ⟨F, by rw [zup_ne (by omega)]; exact h2, h3⟩, zRow_new h4 ys_len, by rw [← h5]; exact ys_len, h6⟩, zfr_up (by omega) (by omega)⟩
  simp (disch := exact znw_u) only [zc_178, zs_178_0, zs_178_0n, zs_178_1, zs_178_4, zs_178_5, zs_178_7, zs_178_8, zs_178_11, zs_178_12, zs_178_12n, zs_178_13, zs_178_16, zs_178_17, zs_178_19, zs_178_20, zs_178_21, zs_178_24, zs_178_25, h1, zrc_3, zf_3_0, zp_3_0, zp_3_0n, zf_3_1, zp_3_1, zf_3_2, zp_3_2, zp_3_2n, zf_3_3, zp_3_3, zf_3_4, zp_3_4, zRow_rc h4, d_165 h4, e1, zbk_v, zts_s, zts_n]
theorem d_179 {s : Nat} {S : yS} {x : Int32} (hs : zSta h s S) : ∃ h', zcall zP sv (d + 1) 179 [.ref s, .int x] h = some (.inl (some (.int S.2.2.1)), h') ∧ zSta h' s (S.1, S.2.1, x, S.2.2.2) ∧ zfr s (s + 4) h h' := by
  obtain ⟨h1, ⟨F, h2, h3⟩, h4, h5, h6⟩ := hs
  refine ⟨zup h s (3, [.ref (s + 1), .int (nI S.1.length), .ref (s + 2), .int x, .int S.2.2.2]), ?_, ⟨zup_at, ⟨F, by rw [zup_ne (by omega)]; exact h2, h3⟩, zRow_up h4 (by omega) (by omega), h5, h6⟩, zfr_up (by omega) (by omega)⟩
  simp (disch := exact znw_u) only [zc_179, zs_179_0, zs_179_0n, zs_179_1, zs_179_4, zs_179_5, zs_179_5n, zs_179_6, zs_179_7, zs_179_10, zs_179_11, h1, zrc_3, zf_3_0, zp_3_0, zp_3_0n, zf_3_1, zp_3_1, zf_3_2, zp_3_2, zp_3_2n, zf_3_3, zp_3_3, zf_3_4, zp_3_4]
theorem d_177 {s : Nat} {S : yS} {x : Int32} (hs : zSta h s S) : ∃ h', zcall zP sv (d + 1) 177 [.ref s, .int x] h = some (.inl none, h') ∧ zSta h' s (S.1, S.2.1, S.2.2.1, S.2.2.2 + x) ∧ zfr s (s + 4) h h' := by
  obtain ⟨h1, ⟨F, h2, h3⟩, h4, h5, h6⟩ := hs
  refine ⟨zup h s (3, [.ref (s + 1), .int (nI S.1.length), .ref (s + 2), .int S.2.2.1, .int (S.2.2.2 + x)]), ?_, ⟨zup_at, ⟨F, by rw [zup_ne (by omega)]; exact h2, h3⟩, zRow_up h4 (by omega) (by omega), h5, h6⟩, zfr_up (by omega) (by omega)⟩
  simp (disch := exact znw_u) only [zc_177, zs_177_0, zs_177_0n, zs_177_1, zs_177_2, zs_177_5, zs_177_6, zs_177_7, zs_177_10, h1, zrc_3, zf_3_0, zp_3_0, zp_3_0n, zf_3_1, zp_3_1, zf_3_2, zp_3_2, zp_3_2n, zf_3_3, zp_3_3, zf_3_4, zp_3_4]
theorem d_31n {c x : Int32} (hc : zCls h m w) (hb : ylet c = false ∨ x < -999 ∨ nI 999 < x) : zEnd h m (zcall zP sv (d + 6) 31 [.ref m, .int c, .int x] h) 1 6 (.inr 1) w := by
  obtain ⟨t1, t2⟩ := zthrow hc
  refine ⟨_, ?_, t1, t2⟩
  cases hl : ylet c with
  | false => simp (disch := exact znw_u) only [zc_31, zs_31_0, zs_31_1, zs_31_4, zs_31_5, zs_31_8, zs_31_11, zs_31_12, zs_31_15, zs_31_18, zs_31_28, zs_31_28n, zs_31_29, zs_31_32, zs_31_32n, zs_31_33, zs_31_36, zs_31_39, zs_31_39n, zs_31_40, zs_31_43, zs_31_44, zs_31_45, zs_31_48, d_72n hl, zbk_x]
  | true =>
    rw [hl] at hb
    rcases hb with g | g | g
    · cases g
    · simp (disch := exact znw_u) only [zc_31, zs_31_0, zs_31_1, zs_31_4, zs_31_5, zs_31_8, zs_31_11, zs_31_12, zs_31_15, zs_31_18, zs_31_28, zs_31_28n, zs_31_29, zs_31_32, zs_31_32n, zs_31_33, zs_31_36, zs_31_39, zs_31_39n, zs_31_40, zs_31_43, zs_31_44, zs_31_45, zs_31_48, d_72 hl, zbk_v, zts_n, if_pos g, zext_of]
    · by_cases g2 : x < -999
      · simp (disch := exact znw_u) only [zc_31, zs_31_0, zs_31_1, zs_31_4, zs_31_5, zs_31_8, zs_31_11, zs_31_12, zs_31_15, zs_31_18, zs_31_28, zs_31_28n, zs_31_29, zs_31_32, zs_31_32n, zs_31_33, zs_31_36, zs_31_39, zs_31_39n, zs_31_40, zs_31_43, zs_31_44, zs_31_45, zs_31_48, d_72 hl, zbk_v, zts_n, if_pos g2, zext_of]
      · simp (disch := exact znw_u) only [zc_31, zs_31_0, zs_31_1, zs_31_4, zs_31_5, zs_31_8, zs_31_11, zs_31_12, zs_31_15, zs_31_18, zs_31_28, zs_31_28n, zs_31_29, zs_31_32, zs_31_32n, zs_31_33, zs_31_36, zs_31_39, zs_31_39n, zs_31_40, zs_31_43, zs_31_44, zs_31_45, zs_31_48, d_72 hl, zbk_v, zts_n, if_neg g2, if_pos g, zext_of]
theorem d_31 {c x : Int32} (hc : zCls h m w) (h1 : ylet c = true) (h2 : ¬ x < -999) (h3 : ¬ nI 999 < x) : zEnd h m (zcall zP sv (d + 6) 31 [.ref m, .int c, .int x] h) 0 0 (.inl (some (.int (yg (ycur w).2.1 (c - nI 97))))) (ysc (yrec w) ((ycur w).1, ys (ycur w).2.1 (c - nI 97) x, (ycur w).2.2)) := by
  have q1 := zCls_0 hc
  have q3 : ∀ X, zrc (h.1 (m + 11)) 5 X = X := fun X => by
    obtain ⟨_, _, _, _, ⟨H, k1, _⟩, _⟩ := hc
    exact zHis_rc k1
  obtain ⟨h1', e1, w1, f1⟩ := d_132E (sv := sv) (d := d + 1) hc
  obtain ⟨S, s1, s2⟩ := w1.2.2.1
  obtain ⟨h2', e2, w2, f2⟩ := d_178 (sv := sv) (d := d + 3) (c := c) (x := x) s1
  have a2 : zAS h2' m (S.1, ys S.2.1 (c - nI 97) x, S.2.2) ((ycur w).1, ys (ycur w).2.1 (c - nI 97) x, (ycur w).2.2) := by
    have hk := zkp_fr (m := m) f2 (by omega)
    obtain ⟨b1, b2, b3⟩ := s2
    have b4 : S.2 = (ycur w).2 := b1
    exact ⟨by rw [b4], zFs_kp b2 hk, b3.1, b3.2.1, ys_len.trans b3.2.2⟩
  refine ⟨h2', ?_, zCls_cur w1 f2 w2 a2, zfx_mono (zfx_tr (zfr_fx f1 (by omega) (by omega)) (zfr_fx f2 (by omega) (by omega))) (Nat.le_refl _) (Nat.le_refl _) (Nat.le_refl _) (Nat.le_refl _)⟩
  have q2 := zCls_0 w1
  have q4 : S.2.1 = (ycur w).2.1 := by
    have : S.2 = (ycur w).2 := s2.1
    rw [this]
  rw [q4] at e2
  simp (disch := exact znw_u) only [zc_31, zs_31_0, zs_31_1, zs_31_4, zs_31_5, zs_31_8, zs_31_11, zs_31_12, zs_31_15, zs_31_18, zs_31_28, zs_31_28n, zs_31_29, zs_31_32, zs_31_32n, zs_31_33, zs_31_36, zs_31_39, zs_31_39n, zs_31_40, zs_31_43, zs_31_44, zs_31_45, zs_31_48, d_72 h1, if_neg h2, if_neg h3, q1, q2, zECc, zrc_1, zf_1_0, zp_1_0, zp_1_0n, zf_1_1, zp_1_1, zf_1_2, zp_1_2, zp_1_2n, zf_1_3, zp_1_3, zp_1_3n, zf_1_4, zp_1_40, zp_1_41, zf_1_5, zp_1_5, zp_1_5n, zf_1_6, zp_1_6, zp_1_6n, zf_1_7, zp_1_7, zp_1_7n, zf_1_8, zp_1_8, zp_1_8n, zf_1_9, zp_1_9, zp_1_9n, zf_1_10, zp_1_10, zp_1_10n, zf_1_11, zp_1_11, zp_1_11n, zf_1_12, zp_1_12, zp_1_12n, q3, e1, zSta_rc s1, e2, zbk_v, zts_s, zts_n]
theorem d_32n {x : Int32} (hc : zCls h m w) (hb : x < nI 1 ∨ nI 4 < x) : zEnd h m (zcall zP sv (d + 6) 32 [.ref m, .int x] h) 1 6 (.inr 1) w := by
  obtain ⟨t1, t2⟩ := zthrow hc
  refine ⟨_, ?_, t1, t2⟩
  by_cases g2 : x < nI 1
  · simp (disch := exact znw_u) only [zc_32, zs_32_0, zs_32_1, zs_32_2, zs_32_5, zs_32_6, zs_32_7, zs_32_10, zs_32_20, zs_32_20n, zs_32_21, zs_32_24, zs_32_24n, zs_32_25, zs_32_28, zs_32_31, zs_32_31n, zs_32_32, zs_32_35, zs_32_36, zs_32_39, if_pos g2, zext_of]
  · simp (disch := exact znw_u) only [zc_32, zs_32_0, zs_32_1, zs_32_2, zs_32_5, zs_32_6, zs_32_7, zs_32_10, zs_32_20, zs_32_20n, zs_32_21, zs_32_24, zs_32_24n, zs_32_25, zs_32_28, zs_32_31, zs_32_31n, zs_32_32, zs_32_35, zs_32_36, zs_32_39, if_neg g2, if_pos (hb.resolve_left g2), zext_of]
theorem d_32 {x : Int32} (hc : zCls h m w) (h2 : ¬ x < nI 1) (h3 : ¬ nI 4 < x) : zEnd h m (zcall zP sv (d + 6) 32 [.ref m, .int x] h) 0 0 (.inl (some (.int (ycur w).2.2.1))) (ysc (yrec w) ((ycur w).1, (ycur w).2.1, x, (ycur w).2.2.2)) := by
  have q1 := zCls_0 hc
  have q3 : ∀ X, zrc (h.1 (m + 11)) 5 X = X := fun X => by
    obtain ⟨_, _, _, _, ⟨H, k1, _⟩, _⟩ := hc
    exact zHis_rc k1
  obtain ⟨h1', e1, w1, f1⟩ := d_132E (sv := sv) (d := d + 1) hc
  obtain ⟨S, s1, s2⟩ := w1.2.2.1
  obtain ⟨h2', e2, w2, f2⟩ := d_179 (sv := sv) (d := d + 4) (x := x) s1
  have q4 : S.2 = (ycur w).2 := s2.1
  have a2 : zAS h2' m (S.1, S.2.1, x, S.2.2.2) ((ycur w).1, (ycur w).2.1, x, (ycur w).2.2.2) := by
    have hk := zkp_fr (m := m) f2 (by omega)
    obtain ⟨b1, b2, b3⟩ := s2
    exact ⟨by rw [q4], zFs_kp b2 hk, b3.1, b3.2.1, b3.2.2⟩
  refine ⟨h2', ?_, zCls_cur w1 f2 w2 a2, zfx_mono (zfx_tr (zfr_fx f1 (by omega) (by omega)) (zfr_fx f2 (by omega) (by omega))) (Nat.le_refl _) (Nat.le_refl _) (Nat.le_refl _) (Nat.le_refl _)⟩
  have q2 := zCls_0 w1
  rw [show S.2.2.1 = (ycur w).2.2.1 by rw [q4]] at e2
  simp (disch := exact znw_u) only [zc_32, zs_32_0, zs_32_1, zs_32_2, zs_32_5, zs_32_6, zs_32_7, zs_32_10, zs_32_20, zs_32_20n, zs_32_21, zs_32_24, zs_32_24n, zs_32_25, zs_32_28, zs_32_31, zs_32_31n, zs_32_32, zs_32_35, zs_32_36, zs_32_39, if_neg h2, if_neg h3, q1, q2, zECc, zrc_1, zf_1_0, zp_1_0, zp_1_0n, zf_1_1, zp_1_1, zf_1_2, zp_1_2, zp_1_2n, zf_1_3, zp_1_3, zp_1_3n, zf_1_4, zp_1_40, zp_1_41, zf_1_5, zp_1_5, zp_1_5n, zf_1_6, zp_1_6, zp_1_6n, zf_1_7, zp_1_7, zp_1_7n, zf_1_8, zp_1_8, zp_1_8n, zf_1_9, zp_1_9, zp_1_9n, zf_1_10, zp_1_10, zp_1_10n, zf_1_11, zp_1_11, zp_1_11n, zf_1_12, zp_1_12, zp_1_12n, q3, e1, zSta_rc s1, e2, zbk_v, zts_s, zts_n]
theorem d_27n {x : Int32} (hc : zCls h m w) (hx : x < 0 ∨ ¬ x < nI (ycur w).1.length) : zEnd h m (zcall zP sv (d + 6) 27 [.ref m, .int x] h) 1 6 (.inr 2) w := by
  obtain ⟨t1, t2⟩ := zthrow hc
  refine ⟨_, ?_, t1, t2⟩
  have q1 := zCls_0 hc
  have e1 := d_70n (sv := sv) (d := d + 3) hc hx
  have q5 : ∀ X : zR, zrc (h.1 m) 1 X = X := fun X => by rw [q1]; exact zrc_k
  simp (disch := exact znw_u) only [zc_27, zs_27_0, zs_27_0n, zs_27_1, zs_27_2, zs_27_5, zs_27_5n, zs_27_6, zs_27_6n, zs_27_7, zs_27_10, zs_27_10n, zs_27_11, zs_27_14, zs_27_17, zs_27_17n, zs_27_18, zs_27_21, zs_27_22, zs_27_25, zs_27_25n, zs_27_26, zs_27_29, zs_27_32, q5, e1, zbk_x]
theorem d_27 {i : Nat} (hc : zCls h m w) (hi : i < (ycur w).1.length) : zEnd h m (zcall zP sv (d + 6) 27 [.ref m, .int (nI i)] h) 0 0 (.inl (some (.int (nI ((ycur w).1.length - 1))))) (ysc (yrec w) ((ycur w).1.eraseIdx i, (ycur w).2)) := by
  have q1 := zCls_0 hc
  have q5 : ∀ X : zR, zrc (h.1 m) 1 X = X := fun X => by rw [q1]; exact zrc_k
  obtain ⟨a, e0, _⟩ := d_70k (sv := sv) (d := d + 3) (t := (ycur w).1[i]) hc (List.getElem?_eq_getElem hi)
  have q3 : ∀ X, zrc (h.1 (m + 11)) 5 X = X := fun X => by
    obtain ⟨_, _, _, _, ⟨H, k1, _⟩, _⟩ := hc
    exact zHis_rc k1
  obtain ⟨h1', e1, w1, f1⟩ := d_132E (sv := sv) (d := d + 1) hc
  obtain ⟨S, s1, s2⟩ := w1.2.2.1
  have hl : S.1.length = (ycur w).1.length := s2.2.1.1
  have z6 := zK6_of s2
  obtain ⟨h2', e2, w2, f2⟩ := d_176 (sv := sv) (d := d + 3) (i := i) s1 (by omega) z6.1 (fun a ha => by have := z6.2 a ha; omega)
  have hle : (S.1.eraseIdx i).length = (ycur w).1.length - 1 := by rw [List.length_eraseIdx, if_pos (by omega), hl]
  have a2 : zAS h2' m (S.1.eraseIdx i, S.2) ((ycur w).1.eraseIdx i, (ycur w).2) := by
    have hk := zkp_fr (m := m) f2 (by omega)
    obtain ⟨b1, b2, b3⟩ := s2
    have b4 := zFs_kp b2 hk
    refine ⟨b1, ⟨by rw [hle, List.length_eraseIdx, if_pos hi], fun j a t h1 h2 => ?_⟩, ?_, fun t ht => b3.2.1 t (List.mem_of_mem_eraseIdx ht), b3.2.2⟩
    · rw [List.getElem?_eraseIdx] at h1 h2
      by_cases hj : j < i
      · rw [if_pos hj] at h1 h2
        exact b4.2 j a t h1 h2
      · rw [if_neg hj] at h1 h2
        exact b4.2 (j + 1) a t h1 h2
    · have := b3.1
      have e9 : ((ycur w).1.eraseIdx i).length = (ycur w).1.length - 1 := by rw [List.length_eraseIdx, if_pos hi]
      show ((ycur w).1.eraseIdx i).length ≤ 6
      have h10 : (ycur w).1.length ≤ 6 := b3.1
      omega
  refine ⟨h2', ?_, zCls_cur w1 f2 w2 a2, zfx_mono (zfx_tr (zfr_fx f1 (by omega) (by omega)) (zfr_fx f2 (by omega) (by omega))) (Nat.le_refl _) (Nat.le_refl _) (Nat.le_refl _) (Nat.le_refl _)⟩
  have q2 := zCls_0 w1
  have q6 : h2'.1 m = zECc m w.2.1 (yb w.2.2.1) := by rw [f2.1 m (by omega)]; exact q2
  have e3 : zcall zP sv (d + 5) 169 [.ref (m + 3)] h2' = some (.inl (some (.int (nI ((ycur w).1.length - 1)))), h2') := by
    rw [zc_169, zs_169_0, zs_169_1, w2.1, zf_3_1, zs_169_4, hle]
  simp (disch := exact znw_u) only [zc_27, zs_27_0, zs_27_0n, zs_27_1, zs_27_2, zs_27_5, zs_27_5n, zs_27_6, zs_27_6n, zs_27_7, zs_27_10, zs_27_10n, zs_27_11, zs_27_14, zs_27_17, zs_27_17n, zs_27_18, zs_27_21, zs_27_22, zs_27_25, zs_27_25n, zs_27_26, zs_27_29, zs_27_32, q5, e0, q1, q2, q6, zECc, zrc_1, zf_1_0, zp_1_0, zp_1_0n, zf_1_1, zp_1_1, zf_1_2, zp_1_2, zp_1_2n, zf_1_3, zp_1_3, zp_1_3n, zf_1_4, zp_1_40, zp_1_41, zf_1_5, zp_1_5, zp_1_5n, zf_1_6, zp_1_6, zp_1_6n, zf_1_7, zp_1_7, zp_1_7n, zf_1_8, zp_1_8, zp_1_8n, zf_1_9, zp_1_9, zp_1_9n, zf_1_10, zp_1_10, zp_1_10n, zf_1_11, zp_1_11, zp_1_11n, zf_1_12, zp_1_12, zp_1_12n, q3, e1, zSta_rc s1, zSta_rc w2, e2, e3, zbk_v, zts_s, zts_n]
theorem d_68 (hc : zCls h m w) : zEnd h m (zcall zP sv (d + 6) 68 [.ref m] h) 0 0 (.inl (some (.int (nI (ycur w).1.length)))) (ysi (ysk w (ycur w)) true) := by
  have q1 := zCls_0 hc
  have hc' := hc
  obtain ⟨c0, c1, ⟨S, s1, s2⟩, ⟨T, t1, t2⟩, _⟩ := hc
  have z6 := zK6_of s2
  obtain ⟨h1, e1, w1, f1⟩ := d_180 (sv := sv) (d := d + 2) t1 s1 (by omega) z6.1 (fun a ha => by have := z6.2 a ha; omega)
  have k1 := zCls_kep hc' f1 w1 (zAS_kp s2 (zkp_fr (m := m) f1 (by omega)))
  have q2 := zCls_0 k1
  have k2 := zCls_ec (e := w.2.1) (b := true) k1
  have s3 := zSta_fr (zSta_fr s1 f1 (by omega)) (zfr_up (lo := m) (hi := m + 1) (a := m) (c := zECc m w.2.1 (yb true)) (by omega) (by omega)) (by omega)
  refine ⟨_, ?_, k2, zfx_mono (zfx_tr (zfr_fx f1 (by omega) (by omega)) (zfr_fx (zfr_up (lo := m) (hi := m + 1) (by omega) (by omega)) (by omega) (by omega))) (Nat.le_refl _) (Nat.le_refl _) (Nat.le_refl _) (Nat.le_refl _)⟩
  have hl : S.1.length = (ycur w).1.length := s2.2.1.1
  have q3 : h1.1 m = zECc m w.2.1 (yb w.2.2.1) := q2
  have e3 : zcall zP sv (d + 5) 169 [.ref (m + 3)] (zup h1 m (zECc m w.2.1 (yb true))) = some (.inl (some (.int (nI (ycur w).1.length))), zup h1 m (zECc m w.2.1 (yb true))) := by
    rw [zc_169, zs_169_0, zs_169_1, s3.1, zf_3_1, zs_169_4, hl]
  rw [yb_t, zECc] at e3
  rw [yb_t, zECc] at s3
  simp (disch := exact znw_u) only [zc_68, zs_68_0, zs_68_0n, zs_68_1, zs_68_4, zs_68_4n, zs_68_5, zs_68_8, zs_68_11, zs_68_11n, zs_68_12, zs_68_13, zs_68_16, zs_68_16n, zs_68_17, zs_68_20, zs_68_23, c1, q3, zECc, zrc_1, zf_1_0, zp_1_0, zp_1_0n, zf_1_1, zp_1_1, zf_1_2, zp_1_2, zp_1_2n, zf_1_3, zp_1_3, zp_1_3n, zf_1_4, zp_1_40, zp_1_41, zf_1_5, zp_1_5, zp_1_5n, zf_1_6, zp_1_6, zp_1_6n, zf_1_7, zp_1_7, zp_1_7n, zf_1_8, zp_1_8, zp_1_8n, zf_1_9, zp_1_9, zp_1_9n, zf_1_10, zp_1_10, zp_1_10n, zf_1_11, zp_1_11, zp_1_11n, zf_1_12, zp_1_12, zp_1_12n, zSta_rc t1, e1, zup_at, zSta_rc s3, e3, yb_t, zbk_v, zts_s, zts_n]
theorem d_69n (hc : zCls h m w) (hk : w.2.2.1 = false) : zEnd h m (zcall zP sv (d + 6) 69 [.ref m] h) 1 6 (.inr 0) w := by
  obtain ⟨t1, t2⟩ := zthrow hc
  have q1 := zCls_0 hc
  rw [hk, yb_f] at q1
  refine ⟨_, ?_, t1, t2⟩
  simp (disch := exact znw_u) only [zc_69, zs_69_0, zs_69_0n, zs_69_1, zs_69_4, zs_69_7, zs_69_18, zs_69_18n, zs_69_19, zs_69_22, zs_69_22n, zs_69_23, zs_69_26, zs_69_29, zs_69_29n, zs_69_30, zs_69_33, zs_69_36, zs_69_36n, zs_69_37, zs_69_40, zs_69_43, q1, zECc, zrc_1, zf_1_0, zp_1_0, zp_1_0n, zf_1_1, zp_1_1, zf_1_2, zp_1_2, zp_1_2n, zf_1_3, zp_1_3, zp_1_3n, zf_1_4, zp_1_40, zp_1_41, zf_1_5, zp_1_5, zp_1_5n, zf_1_6, zp_1_6, zp_1_6n, zf_1_7, zp_1_7, zp_1_7n, zf_1_8, zp_1_8, zp_1_8n, zf_1_9, zp_1_9, zp_1_9n, zf_1_10, zp_1_10, zp_1_10n, zf_1_11, zp_1_11, zp_1_11n, zf_1_12, zp_1_12, zp_1_12n, zext_of, ↓reduceIte]
theorem d_69 (hc : zCls h m w) (hk : w.2.2.1 = true) : zEnd h m (zcall zP sv (d + 6) 69 [.ref m] h) 0 0 (.inl (some (.int (nI (ykep w).1.length)))) (ysh (ysc w (ykep w)) []) := by
  have q1 := zCls_0 hc
  have hc' := hc
  rw [hk, yb_t] at q1
  obtain ⟨c0, c1, ⟨S, s1, s2⟩, ⟨T, t1, t2⟩, ⟨H, g1, g2⟩, _⟩ := hc
  have z6 := zK6_of t2
  obtain ⟨h1, e1, w1, f1⟩ := d_180 (sv := sv) (d := d + 2) s1 t1 (by omega) z6.1 (fun a ha => by have := z6.2 a ha; omega)
  have k1 := zCls_cur hc' f1 w1 (zAS_kp t2 (zkp_fr (m := m) f1 (by omega)))
  have g3 := zHis_fr g1 f1 (by omega)
  obtain ⟨h2, e2, w2, f2⟩ := d_134 (sv := sv) (d := d + 4) g3
  have k2 := zCls_his (HA := []) k1 (zfr_mono f2 (by omega) (by omega)) w2 ⟨rfl, fun j S A h1 => by rw [List.getElem?_nil] at h1; cases h1⟩
  have s3 := zSta_fr w1 f2 (by omega)
  have q2 : h1.1 m = zECc m w.2.1 (nI 1) := by rw [f1.1 m (by omega), q1]
  have q3 : h2.1 m = zECc m w.2.1 (nI 1) := by rw [f2.1 m (by omega), q2]
  have hl : T.1.length = (ykep w).1.length := t2.2.1.1
  have e3 : zcall zP sv (d + 5) 169 [.ref (m + 3)] h2 = some (.inl (some (.int (nI (ykep w).1.length))), h2) := by
    rw [zc_169, zs_169_0, zs_169_1, s3.1, zf_3_1, zs_169_4, hl]
  refine ⟨h2, ?_, k2, zfx_mono (zfx_tr (zfr_fx f1 (by omega) (by omega)) (zfr_fx f2 (by omega) (by omega))) (Nat.le_refl _) (Nat.le_refl _) (Nat.le_refl _) (Nat.le_refl _)⟩
  simp (disch := exact znw_u) only [zc_69, zs_69_0, zs_69_0n, zs_69_1, zs_69_4, zs_69_7, zs_69_18, zs_69_18n, zs_69_19, zs_69_22, zs_69_22n, zs_69_23, zs_69_26, zs_69_29, zs_69_29n, zs_69_30, zs_69_33, zs_69_36, zs_69_36n, zs_69_37, zs_69_40, zs_69_43, q1, q2, q3, zECc, zrc_1, zf_1_0, zp_1_0, zp_1_0n, zf_1_1, zp_1_1, zf_1_2, zp_1_2, zp_1_2n, zf_1_3, zp_1_3, zp_1_3n, zf_1_4, zp_1_40, zp_1_41, zf_1_5, zp_1_5, zp_1_5n, zf_1_6, zp_1_6, zp_1_6n, zf_1_7, zp_1_7, zp_1_7n, zf_1_8, zp_1_8, zp_1_8n, zf_1_9, zp_1_9, zp_1_9n, zf_1_10, zp_1_10, zp_1_10n, zf_1_11, zp_1_11, zp_1_11n, zf_1_12, zp_1_12, zp_1_12n, nI_1e0, zSta_rc s1, e1, zHis_rc g3, e2, zSta_rc s3, e3, zbk_v, zts_s, zts_n, ↓reduceIte]
theorem d_67n (hc : zCls h m w) (hk : yhis w = []) : zEnd h m (zcall zP sv (d + 6) 67 [.ref m] h) 1 6 (.inr 0) w := by
  obtain ⟨t1, t2⟩ := zthrow hc
  have q1 := zCls_0 hc
  obtain ⟨_, _, _, _, ⟨H, g1, g2⟩, _⟩ := hc
  have e1 := d_131 (sv := sv) (d := d + 4) g1
  have hl : H.length = (yhis w).length := g2.1
  rw [hl, hk, List.length_nil, nI_0] at e1
  refine ⟨_, ?_, t1, t2⟩
  simp (disch := exact znw_u) only [zc_67, zs_67_0, zs_67_0n, zs_67_1, zs_67_4, zs_67_7, zs_67_10, zs_67_21, zs_67_21n, zs_67_22, zs_67_25, zs_67_25n, zs_67_26, zs_67_29, zs_67_32, zs_67_32n, zs_67_33, zs_67_36, zs_67_39, q1, zECc, zrc_1, zf_1_0, zp_1_0, zp_1_0n, zf_1_1, zp_1_1, zf_1_2, zp_1_2, zp_1_2n, zf_1_3, zp_1_3, zp_1_3n, zf_1_4, zp_1_40, zp_1_41, zf_1_5, zp_1_5, zp_1_5n, zf_1_6, zp_1_6, zp_1_6n, zf_1_7, zp_1_7, zp_1_7n, zf_1_8, zp_1_8, zp_1_8n, zf_1_9, zp_1_9, zp_1_9n, zf_1_10, zp_1_10, zp_1_10n, zf_1_11, zp_1_11, zp_1_11n, zf_1_12, zp_1_12, zp_1_12n, zHis_rc g1, e1, zbk_v, zts_s, zext_of, ↓reduceIte]
theorem d_67 {A : yA} {HA : List yA} (hc : zCls h m w) (hk : yhis w = A :: HA) : zEnd h m (zcall zP sv (d + 6) 67 [.ref m] h) 0 0 (.inl (some (.int (nI HA.length)))) (ysh (ysc w A) HA) := by
  have q1 := zCls_0 hc
  have hc' := hc
  obtain ⟨c0, c1, ⟨R, s1, s2⟩, ⟨T, t1, t2⟩, ⟨H, g1, g2⟩, ⟨pos, ns, p1⟩, c7, c8⟩ := hc
  have hg2 : zHs h m H (A :: HA) := by
    have : zHs h m H (yhis w) := g2
    rw [hk] at this
    exact this
  cases H with
  | nil => exact absurd hg2.1 (by rw [List.length_nil, List.length_cons]; omega)
  | cons S H =>
    have hA : zAS h m S A := hg2.2 0 S A rfl rfl
    have hHA : zHs h m H HA := ⟨by have := hg2.1; rw [List.length_cons, List.length_cons] at this; omega, fun j S' A' h1 h2 => hg2.2 (j + 1) S' A' (by rw [List.getElem?_cons_succ]; exact h1) (by rw [List.getElem?_cons_succ]; exact h2)⟩
    have z6 := zK6_of hA
    have e1 := d_131 (sv := sv) (d := d + 4) g1
    obtain ⟨h1, e2, w1, w2, f1, f2⟩ := d_133 (sv := sv) (d := d + 1) g1 s1 (by omega) z6.1 (fun a ha => by have := z6.2 a ha; omega) (fun a ha => by have := z6.2 a ha; omega)
    have ff : zfr (m + 3) (m + 45) h h1 := ⟨fun q hq => f1 q (by omega) (by omega), f2⟩
    have hk1 := zkp_fr (m := m) ff (by omega)
    have e3 := d_131 (sv := sv) (d := d + 4) w1
    have hl : H.length = HA.length := hHA.1
    have tt := zSta_cg t1 (fun q a b => f1 q (by omega) (by omega))
    refine ⟨h1, ?_, ⟨by rw [f2]; exact c0, by rw [ff.1 m (by omega)]; exact c1, ⟨S, w2, zAS_kp hA hk1⟩, ⟨T, tt, zAS_kp t2 hk1⟩, ⟨H, w1, zHs_kp hHA hk1⟩, ⟨pos, ns, zPar_cg p1 (zcg_fr ff (by omega))⟩, zScr_cg c7 (zcg_fr ff (by omega)) (zcg_fr ff (by omega)), zOut_kp c8 hk1 (zcg_fr ff (by omega))⟩, zfx_mono (zfr_fx ff (by omega) (by omega)) (Nat.le_refl _) (Nat.le_refl _) (Nat.le_refl _) (Nat.le_refl _)⟩
    have g9 : ¬ nI (S :: H).length = 0 := nI_ne0 (by rw [List.length_cons]; omega) (by have := hg2.1; obtain ⟨nx, _, _, _, _, _, p5⟩ := g1; omega)
    have q2 : h1.1 m = zECc m w.2.1 (yb w.2.2.1) := by rw [ff.1 m (by omega), q1]
    rw [hl] at e3
    simp (disch := exact znw_u) only [zc_67, zs_67_0, zs_67_0n, zs_67_1, zs_67_4, zs_67_7, zs_67_10, zs_67_21, zs_67_21n, zs_67_22, zs_67_25, zs_67_25n, zs_67_26, zs_67_29, zs_67_32, zs_67_32n, zs_67_33, zs_67_36, zs_67_39, q1, q2, zECc, zrc_1, zf_1_0, zp_1_0, zp_1_0n, zf_1_1, zp_1_1, zf_1_2, zp_1_2, zp_1_2n, zf_1_3, zp_1_3, zp_1_3n, zf_1_4, zp_1_40, zp_1_41, zf_1_5, zp_1_5, zp_1_5n, zf_1_6, zp_1_6, zp_1_6n, zf_1_7, zp_1_7, zp_1_7n, zf_1_8, zp_1_8, zp_1_8n, zf_1_9, zp_1_9, zp_1_9n, zf_1_10, zp_1_10, zp_1_10n, zf_1_11, zp_1_11, zp_1_11n, zf_1_12, zp_1_12, zp_1_12n, zHis_rc g1, e1, if_neg g9, e2, zHis_rc w1, e3, zbk_v, zts_s, zts_n]
end ZDZ
