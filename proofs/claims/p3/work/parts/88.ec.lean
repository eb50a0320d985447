/-- what substitute does to formulas that are there -/
def yinsF (w : yW) (i : Nat) (t : yT) (c : Int32) (u : yT) : zO × yW := if ylet c = false then (.inr 1, w) else if ysz (yins c u t) ≤ 31 ∧ ydp (yins c u t) ≤ 8 then (.inl (some (.int (nI (ysz (yins c u t))))), ysc (yrec w) ((ycur w).1.set i (yins c u t), (ycur w).2)) else (.inr 3, w)
section ZEE
variable {sv : Nat → Value} {d : Nat} {h : zH} {m : Nat} {w : yW}
theorem d_30n {x c y : Int32} (hc : zCls h m w) (hx : x < 0 ∨ ¬ x < nI (ycur w).1.length) : zEnd h m (zcall zP sv (d + 48) 30 [.ref m, .int x, .int c, .int y] h) 1 6 (.inr 2) w := by
  obtain ⟨t1, t2⟩ := zthrow hc
  refine ⟨_, ?_, t1, t2⟩
  have q1 := zCls_0 hc
  have e1 := d_70n (sv := sv) (d := d + 45) hc hx
  have q5 : ∀ X : zR, zrc (h.1 m) 1 X = X := fun X => by rw [q1]; exact zrc_k
  simp (disch := exact znw_u) only [zc_30, zs_30_0, zs_30_0n, zs_30_1, zs_30_2, zs_30_5, zs_30_5n, zs_30_7, zs_30_7n, zs_30_8, zs_30_9, zs_30_12, zs_30_12n, zs_30_14, zs_30_15, zs_30_18, zs_30_18n, zs_30_19, zs_30_22, zs_30_22n, zs_30_24, zs_30_25, zs_30_25n, zs_30_27, zs_30_27n, zs_30_28, zs_30_31, zs_30_34, zs_30_36, zs_30_36n, zs_30_37, zs_30_37n, zs_30_38, zs_30_41, zs_30_43, zs_30_46, zs_30_46n, zs_30_47, zs_30_50, zs_30_50n, zs_30_51, zs_30_54, zs_30_57, zs_30_57n, zs_30_58, zs_30_58n, zs_30_59, zs_30_62, zs_30_64, zs_30_67, zs_30_67n, zs_30_69, zs_30_69n, zs_30_70, zs_30_73, zs_30_74, zs_30_74n, zs_30_76, zs_30_79, zs_30_79n, zs_30_81, zs_30_84, q5, e1, zbk_x]
theorem d_30m {i : Nat} {t : yT} {c y : Int32} (hc : zCls h m w) (hi : (ycur w).1[i]? = some t) (hx : y < 0 ∨ ¬ y < nI (ycur w).1.length) : zEnd h m (zcall zP sv (d + 48) 30 [.ref m, .int (nI i), .int c, .int y] h) 1 6 (.inr 2) w := by
  obtain ⟨t1, t2⟩ := zthrow hc
  refine ⟨_, ?_, t1, t2⟩
  have q1 := zCls_0 hc
  obtain ⟨a, e0, a1, a2, a3, a4⟩ := d_70k (sv := sv) (d := d + 45) hc hi
  have e1 := d_70n (sv := sv) (d := d + 45) hc hx
  have q5 : ∀ X : zR, zrc (h.1 m) 1 X = X := fun X => by rw [q1]; exact zrc_k
  simp (disch := exact znw_u) only [zc_30, zs_30_0, zs_30_0n, zs_30_1, zs_30_2, zs_30_5, zs_30_5n, zs_30_7, zs_30_7n, zs_30_8, zs_30_9, zs_30_12, zs_30_12n, zs_30_14, zs_30_15, zs_30_18, zs_30_18n, zs_30_19, zs_30_22, zs_30_22n, zs_30_24, zs_30_25, zs_30_25n, zs_30_27, zs_30_27n, zs_30_28, zs_30_31, zs_30_34, zs_30_36, zs_30_36n, zs_30_37, zs_30_37n, zs_30_38, zs_30_41, zs_30_43, zs_30_46, zs_30_46n, zs_30_47, zs_30_50, zs_30_50n, zs_30_51, zs_30_54, zs_30_57, zs_30_57n, zs_30_58, zs_30_58n, zs_30_59, zs_30_62, zs_30_64, zs_30_67, zs_30_67n, zs_30_69, zs_30_69n, zs_30_70, zs_30_73, zs_30_74, zs_30_74n, zs_30_76, zs_30_79, zs_30_79n, zs_30_81, zs_30_84, q5, e0, e1, zbk_v, zbk_x, zts_s]
theorem d_30 {i j : Nat} {t u : yT} {c : Int32} (hc : zCls h m w) (hi : (ycur w).1[i]? = some t) (hj : (ycur w).1[j]? = some u) : zEnd h m (zcall zP sv (d + 48) 30 [.ref m, .int (nI i), .int c, .int (nI j)] h) 9 134 (yinsF w i t c u).1 (yinsF w i t c u).2 := by
  have q1 := zCls_0 hc
  have q5 : ∀ X : zR, zrc (h.1 m) 1 X = X := fun X => by rw [q1]; exact zrc_k
  have c0 := hc.1
  have cs := hc.2.2.2.2.2.2.1
  obtain ⟨a, e0, a1, a2, a3, a4⟩ := d_70k (sv := sv) (d := d + 45) hc hi
  obtain ⟨b, e0', b1, b2, b3, b4⟩ := d_70k (sv := sv) (d := d + 45) hc hj
  have hil := (List.getElem?_eq_some_iff.mp hi).1
  unfold yinsF
  cases hl : ylet c with
  | false =>
    rw [if_pos rfl]
    obtain ⟨t1, t2⟩ := zthrow hc
    refine ⟨_, ?_, t1, zfx_mono t2 (Nat.le_refl _) (Nat.le_refl _) (by omega) (by omega)⟩
    simp (disch := exact znw_u) only [zc_30, zs_30_0, zs_30_0n, zs_30_1, zs_30_2, zs_30_5, zs_30_5n, zs_30_7, zs_30_7n, zs_30_8, zs_30_9, zs_30_12, zs_30_12n, zs_30_14, zs_30_15, zs_30_18, zs_30_18n, zs_30_19, zs_30_22, zs_30_22n, zs_30_24, zs_30_25, zs_30_25n, zs_30_27, zs_30_27n, zs_30_28, zs_30_31, zs_30_34, zs_30_36, zs_30_36n, zs_30_37, zs_30_37n, zs_30_38, zs_30_41, zs_30_43, zs_30_46, zs_30_46n, zs_30_47, zs_30_50, zs_30_50n, zs_30_51, zs_30_54, zs_30_57, zs_30_57n, zs_30_58, zs_30_58n, zs_30_59, zs_30_62, zs_30_64, zs_30_67, zs_30_67n, zs_30_69, zs_30_69n, zs_30_70, zs_30_73, zs_30_74, zs_30_74n, zs_30_76, zs_30_79, zs_30_79n, zs_30_81, zs_30_84, q5, e0, e0', d_72n hl, zbk_v, zbk_x, zts_s]
  | true =>
    rw [if_neg (by decide)]
    have hsz := a4.2.1
    have hdp := a4.2.2
    have hsz2 := b4.2.1
    have hdp2 := b4.2.2
    obtain ⟨f1, f2, f3, f4⟩ := yform a4.1 (by omega)
    obtain ⟨g1, g2, g3, g4⟩ := yform b4.1 (by omega)
    obtain ⟨n1, z1⟩ := cs.1
    obtain ⟨P, z3⟩ := cs.2.2.1
    obtain ⟨h1, os, P1, x, e1, o1, o2, o3, o4, o5, o6, o7⟩ := d_92 (sv := sv) (d := d + 42) (c := c) f1 (by omega) (by omega) g1 (by omega) (by omega) (show a + 9 ≤ m + 45 ∨ m + 45 + 9 ≤ a by omega) (show a + 9 ≤ m + 75 ∨ m + 75 + 3 ≤ a by omega) (by omega) (show m + 45 + 9 ≤ b ∨ b + 9 ≤ m + 45 by omega) a3 b3 z1 z3
    rw [f3, f2, g3, g2] at o6
    have C1 := zCls_f2 hc o7 (by omega) (by omega) (by omega) (by omega) (by omega) (by omega) (zScr_ro cs o7 o3 o4)
    have hdd := ydp_yins (c := c) (w := u) t
    have hw2 := ytw_yins (c := c) b4.1 t a4.1
    have g12 : zfx m (m + 119) 0 0 h h1 := ⟨fun q _ p => o7.1 q (by omega) (by omega), by rw [o7.2]; exact Nat.le_refl _, by rw [o7.2]; exact Nat.le_refl _, by rw [o7.2]; exact Nat.le_refl _⟩
    have p1 : h1.1 m = zECc m w.2.1 (yb w.2.2.1) := zCls_0 C1
    have p3 : ∀ X : zR, zrc (h1.1 m) 1 X = X := fun X => by rw [p1]; exact zrc_k
    by_cases hf : ysz (yins c u t) ≤ 31 ∧ ydp (yins c u t) ≤ 8
    · rw [if_pos hf]
      obtain ⟨h3, e4, C3, f3'⟩ := d_74E (sv := sv) (d := d + 42) (t := yins c u t) C1 o3 o2 (by omega) (by omega) o5 o6 (ysz_16 (by omega)) hf
      have ht3 := zTre_fr o3 f3' (by omega)
      obtain ⟨h4, e5, C4, f4'⟩ := d_132E (sv := sv) (d := d + 43) C3
      have ht4 := zTre_fr ht3 f4' (by omega)
      have s4 : h4.2 = h.2 := f4'.2.trans (f3'.2.trans o7.2)
      obtain ⟨h5, e6, C5, fx5, T5, s5⟩ := d_75E (sv := sv) (d := d + 2) (t := yins c u t) C4 ht4 o2 (by omega) (by omega) (by rw [s4]; omega) o5 o6 (ytw_sz hw2) hf.1 (by omega)
      rw [s4] at e6 T5 s5
      obtain ⟨S, s1, s2'⟩ := C5.2.2.1
      have hS : S.1.length = (ycur w).1.length := s2'.2.1.1
      obtain ⟨h6, e7, w6, f6⟩ := d_175S (sv := sv) (d := d + 46) (i := i) s1 (by omega) (zTre_k6 T5)
      have k6 := zkp_fr (m := m) f6 (by omega)
      have T6 := zTre_cg T5 (zcg_fr f6 (by omega))
      have b3S := s2'.2.2
      have hA6 : zAS h6 m (S.1.set i h.2.1, S.2) ((ycur w).1.set i (yins c u t), (ycur w).2) := by
        refine ⟨s2'.1, zFs_set (zFs_kp s2'.2.1 k6) (by omega) ⟨c0, by rw [f6.2, s5]; exact Nat.le_refl _, T6⟩, ?_, fun v hv => ?_, b3S.2.2⟩
        · rw [List.length_set]; exact b3S.1
        · rcases List.mem_or_eq_of_mem_set hv with g | g
          · exact b3S.2.1 v g
          · rw [g]
            exact ⟨hw2, hf⟩
      have e8 := d_182 (sv := sv) (d := d + 46) T6
      rw [ypo_len] at e8
      have q3 : h3.1 m = zECc m w.2.1 (yb w.2.2.1) := zCls_0 C3
      have q4 : h4.1 m = zECc m w.2.1 (yb w.2.2.1) := zCls_0 (w := yrec w) C4
      have q6 : h5.1 m = zECc m w.2.1 (yb w.2.2.1) := zCls_0 (w := yrec w) C5
      have q10 : ∀ X : zR, zrc (h4.1 m) 1 X = X := fun X => by rw [q4]; exact zrc_k
      refine ⟨h6, ?_, zCls_cur C5 f6 w6 hA6, zfx_mono (zfx_tr g12 (zfx_tr (zfr_fx f3' (by omega) (by omega)) (zfx_tr (zfr_fx f4' (by omega) (by omega)) (zfx_tr (zfx_mono fx5 (by omega) (by omega) (Nat.le_refl _) (Nat.le_refl _)) (zfr_fx f6 (by omega) (by omega)))))) (Nat.le_refl _) (Nat.le_refl _) (by omega) (by omega)⟩
      simp (disch := exact znw_u) only [zc_30, zs_30_0, zs_30_0n, zs_30_1, zs_30_2, zs_30_5, zs_30_5n, zs_30_7, zs_30_7n, zs_30_8, zs_30_9, zs_30_12, zs_30_12n, zs_30_14, zs_30_15, zs_30_18, zs_30_18n, zs_30_19, zs_30_22, zs_30_22n, zs_30_24, zs_30_25, zs_30_25n, zs_30_27, zs_30_27n, zs_30_28, zs_30_31, zs_30_34, zs_30_36, zs_30_36n, zs_30_37, zs_30_37n, zs_30_38, zs_30_41, zs_30_43, zs_30_46, zs_30_46n, zs_30_47, zs_30_50, zs_30_50n, zs_30_51, zs_30_54, zs_30_57, zs_30_57n, zs_30_58, zs_30_58n, zs_30_59, zs_30_62, zs_30_64, zs_30_67, zs_30_67n, zs_30_69, zs_30_69n, zs_30_70, zs_30_73, zs_30_74, zs_30_74n, zs_30_76, zs_30_79, zs_30_79n, zs_30_81, zs_30_84, q5, e0, e0', d_72 hl, q1, p1, p3, q3, q4, q6, q10, zECc, zrc_1, zf_1_0, zp_1_0, zp_1_0n, zf_1_1, zp_1_1, zf_1_2, zp_1_2, zp_1_2n, zf_1_3, zp_1_3, zp_1_3n, zf_1_4, zp_1_40, zp_1_41, zf_1_5, zp_1_5, zp_1_5n, zf_1_6, zp_1_6, zp_1_6n, zf_1_7, zp_1_7, zp_1_7n, zf_1_8, zp_1_8, zp_1_8n, zf_1_9, zp_1_9, zp_1_9n, zf_1_10, zp_1_10, zp_1_10n, zf_1_11, zp_1_11, zp_1_11n, zf_1_12, zp_1_12, zp_1_12n, zAl_rc z3, e1, e4, zthr_his C3, e5, e6, zSta_rc s1, e7, zTre_rc T6, e8, zbk_v, zbk_x, zts_s, zts_n]
    · rw [if_neg hf]
      obtain ⟨h3, e4, C3, f3'⟩ := d_74n (sv := sv) (d := d + 42) (t := yins c u t) C1 o3 o2 (by omega) (by omega) o5 o6 (ysz_16 (by omega)) hf
      refine ⟨h3, ?_, C3, zfx_mono (zfx_tr g12 f3') (Nat.le_refl _) (Nat.le_refl _) (by omega) (by omega)⟩
      simp (disch := exact znw_u) only [zc_30, zs_30_0, zs_30_0n, zs_30_1, zs_30_2, zs_30_5, zs_30_5n, zs_30_7, zs_30_7n, zs_30_8, zs_30_9, zs_30_12, zs_30_12n, zs_30_14, zs_30_15, zs_30_18, zs_30_18n, zs_30_19, zs_30_22, zs_30_22n, zs_30_24, zs_30_25, zs_30_25n, zs_30_27, zs_30_27n, zs_30_28, zs_30_31, zs_30_34, zs_30_36, zs_30_36n, zs_30_37, zs_30_37n, zs_30_38, zs_30_41, zs_30_43, zs_30_46, zs_30_46n, zs_30_47, zs_30_50, zs_30_50n, zs_30_51, zs_30_54, zs_30_57, zs_30_57n, zs_30_58, zs_30_58n, zs_30_59, zs_30_62, zs_30_64, zs_30_67, zs_30_67n, zs_30_69, zs_30_69n, zs_30_70, zs_30_73, zs_30_74, zs_30_74n, zs_30_76, zs_30_79, zs_30_79n, zs_30_81, zs_30_84, q5, e0, e0', d_72 hl, q1, p1, p3, zECc, zrc_1, zf_1_0, zp_1_0, zp_1_0n, zf_1_1, zp_1_1, zf_1_2, zp_1_2, zp_1_2n, zf_1_3, zp_1_3, zp_1_3n, zf_1_4, zp_1_40, zp_1_41, zf_1_5, zp_1_5, zp_1_5n, zf_1_6, zp_1_6, zp_1_6n, zf_1_7, zp_1_7, zp_1_7n, zf_1_8, zp_1_8, zp_1_8n, zf_1_9, zp_1_9, zp_1_9n, zf_1_10, zp_1_10, zp_1_10n, zf_1_11, zp_1_11, zp_1_11n, zf_1_12, zp_1_12, zp_1_12n, zAl_rc z3, e1, e4, zbk_v, zbk_x, zts_s, zts_n]
end ZEE
