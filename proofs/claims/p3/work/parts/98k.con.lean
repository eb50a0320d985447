section ZRN
variable {sv : Nat → Value} {d : Nat} {m : Nat} {w : yW} {i M : Nat} {t : yT}
theorem ylet_n : ∀ k, k < 6 → ylet (nI (97 + k)) = true := by decide +kernel
theorem ylet_k : ∀ k, k < 6 → (¬ nI 102 < nI (97 + k)) ∧ ((nI (97 + k) + nI 1).toUInt32 % 65536).toInt32 = nI (97 + (k + 1)) := by decide +kernel
/-- what is asked of a formula's slopes, letter by letter -/
theorem d_82l {a : Nat} (a1 : m + 139 ≤ a) (a4 : ytok t) : ∀ n k (h : zH) (l3 l4 : Slot), znw l3 = true → znw l4 = true → k + n = 6 → zCls h m w → zTre h a (ysz t) (ypo 0 t) → ∃ (b : Bool) (h' : zH), zrun zP sv (zcall zP sv (d + 47)) 82 3 [.val (.ref m), .val (.ref a), .val (.int (nI (97 + k))), l3, l4] [] h = some (.inl (some (.int (yb b))), h') ∧ zCls h' m w ∧ zfx m (m + 119) 0 0 h h' ∧ ((∀ c, ylet c = true → ysl2 (ycur w).2.1 c t = yfo (yfR (ycur w).2.1) (yder c t)) → b = true) := by
  have hsz := a4.2.1
  obtain ⟨f1, f2, f3, f4⟩ := yform a4.1 (by omega)
  intro n
  induction n with
  | zero =>
    intro k h l3 l4 w3 w4 hk hc ht
    obtain rfl : k = 6 := by omega
    have c1 : nI 102 < nI (97 + 6) := by decide +kernel
    refine ⟨true, h, ?_, hc, zfx_rfl, fun _ => rfl⟩
    rw [yb_t]
    simp only [zs_82_3, zs_82_4, zs_82_6, zs_82_75, zs_82_76, if_pos c1, zgd_t, zty_51]
  | succ n ih =>
    intro k h l3 l4 w3 w4 hk hc ht
    obtain ⟨c1, c2⟩ := ylet_k k (by omega)
    have q1 := zCls_0 hc
    obtain ⟨A, B, C, hg⟩ := zgau_ex hc
    obtain ⟨s3, s4⟩ := zcur_let (sv := sv) hc
    have e170 := s4 (d + 46)
    obtain ⟨h1, A', B', e1, g1, _, r1, f5⟩ := d_123 (sv := sv) (d := d + 42) (c := nI (97 + k)) f1 (show m + 78 + 7 ≤ a ∨ a + 9 ≤ m + 78 by omega) (by omega) (show m + 78 + 7 ≤ m + 3 + 2 ∨ m + 3 + 2 + 2 ≤ m + 78 by omega) ht hg s3
    rw [yroot_sub f4, yQs_g (f := ysl2 (ycur w).2.1 (nI (97 + k))) rfl r1 (Or.inr ⟨ysz t - 1, by omega, rfl⟩) (Nat.le_refl _) f1.1, f2] at e1
    have hc1 := zCls_g hc f5 g1
    have q2 := zCls_0 hc1
    have ht1 := zTre_fr ht f5 (by omega)
    obtain ⟨h2, os, x, e2, hc2, t1, w1, l1, x1, x2, f6, r9⟩ := d_der (sv := sv) (d := d) (c := nI (97 + k)) hc1 a1 ht1 a4
    have q3 := zCls_0 hc2
    obtain ⟨h3, e3, hc3, f7, r10, e170'⟩ := d_val (sv := sv) (d := d) hc2 t1 w1 l1 x1
    rw [x2] at e3
    have ht2 : zTre h2 a (ysz t) (ypo 0 t) := zTre_cg ht1 (fun z z1 z2 => f6.1 z (by omega) (by omega))
    have ht3 := zTre_fr ht2 f7 (by omega)
    have fx : zfx m (m + 119) 0 0 h h3 := zfx_mono (zfx_tr (zfx_tr (zfr_fx f5 (by omega) (by omega)) (zf2_fx f6 (show m ≤ m + 45 by omega) (show m + 54 ≤ m + 119 by omega) (by omega) (by omega))) (zfr_fx f7 (by omega) (by omega))) (Nat.le_refl _) (Nat.le_refl _) (by omega) (by omega)
    have rg : ∀ X : zR, zrc (h.1 (m + 78)) 10 X = X := fun X => zGau_rc hg
    by_cases c : ysl2 (ycur w).2.1 (nI (97 + k)) t = yfo (yfR (ycur w).2.1) (yder (nI (97 + k)) t)
    · obtain ⟨b, h4, e4, hc4, fx4, hb⟩ := ih (k + 1) h3 (.val (.int (ysl2 (ycur w).2.1 (nI (97 + k)) t))) (.val (.int x)) znw_i znw_i (by omega) hc3 ht3
      refine ⟨b, h4, ?_, hc4, zfx_mono (zfx_tr fx fx4) (Nat.le_refl _) (Nat.le_refl _) (by omega) (by omega), hb⟩
      rw [← e4]
      have eb : zrun zP sv (zcall zP sv (d + 47)) 82 67 [.val (.ref m), .val (.ref a), .val (.int (nI (97 + k))), .val (.int (ysl2 (ycur w).2.1 (nI (97 + k)) t)), .val (.int x)] [] h3 = zrun zP sv (zcall zP sv (d + 47)) 82 3 [.val (.ref m), .val (.ref a), .val (.int (nI (97 + (k + 1)))), .val (.int (ysl2 (ycur w).2.1 (nI (97 + k)) t)), .val (.int x)] [] h3 := by
        simp (disch := first | exact znw_u | exact znw_i) only [zs_82_67, zs_82_68, zs_82_69, zs_82_70, zs_82_71, zs_82_72, c2]
      rw [← eb]
      simp (disch := first | exact w3 | exact w4 | exact znw_u | exact znw_i) only [zs_82_0, zs_82_2, zs_82_3, zs_82_4, zs_82_6, zs_82_9, zs_82_9n, zs_82_10, zs_82_13, zs_82_13n, zs_82_14, zs_82_15, zs_82_15n, zs_82_16, zs_82_19, zs_82_22, zs_82_25, zs_82_26, zs_82_26n, zs_82_27, zs_82_30, zs_82_30n, zs_82_31, zs_82_32, zs_82_32n, zs_82_33, zs_82_36, zs_82_39, zs_82_41, zs_82_42, zs_82_42n, zs_82_43, zs_82_46, zs_82_46n, zs_82_47, zs_82_50, zs_82_52, zs_82_52n, zs_82_53, zs_82_56, zs_82_59, zs_82_62, zs_82_65, zs_82_66, zs_82_75, zs_82_76, if_neg c1, q1, q2, q3, zECc, zrc_1, zf_1_0, zp_1_0, zp_1_0n, zf_1_1, zp_1_1, zf_1_2, zp_1_2, zp_1_2n, zf_1_3, zp_1_3, zp_1_3n, zf_1_4, zp_1_40, zp_1_41, zf_1_5, zp_1_5, zp_1_5n, zf_1_6, zp_1_6, zp_1_6n, zf_1_7, zp_1_7, zp_1_7n, zf_1_8, zp_1_8, zp_1_8n, zf_1_9, zp_1_9, zp_1_9n, zf_1_10, zp_1_10, zp_1_10n, zf_1_11, zp_1_11, zp_1_11n, zf_1_12, zp_1_12, zp_1_12n, zcur_r hc, zcur_r hc2, e170, e170', rg, r9, r10, e1, e2, e3, if_pos c, zbk_v, zts_s, zts_n, List.cons_append, List.nil_append]
    · refine ⟨false, h3, ?_, hc3, fx, fun z => absurd (z _ (ylet_n k (by omega))) c⟩
      rw [yb_f]
      simp (disch := first | exact w3 | exact w4 | exact znw_u | exact znw_i) only [zs_82_0, zs_82_2, zs_82_3, zs_82_4, zs_82_6, zs_82_9, zs_82_9n, zs_82_10, zs_82_13, zs_82_13n, zs_82_14, zs_82_15, zs_82_15n, zs_82_16, zs_82_19, zs_82_22, zs_82_25, zs_82_26, zs_82_26n, zs_82_27, zs_82_30, zs_82_30n, zs_82_31, zs_82_32, zs_82_32n, zs_82_33, zs_82_36, zs_82_39, zs_82_41, zs_82_42, zs_82_42n, zs_82_43, zs_82_46, zs_82_46n, zs_82_47, zs_82_50, zs_82_52, zs_82_52n, zs_82_53, zs_82_56, zs_82_59, zs_82_62, zs_82_65, zs_82_66, zs_82_75, zs_82_76, if_neg c1, q1, q2, q3, zECc, zrc_1, zf_1_0, zp_1_0, zp_1_0n, zf_1_1, zp_1_1, zf_1_2, zp_1_2, zp_1_2n, zf_1_3, zp_1_3, zp_1_3n, zf_1_4, zp_1_40, zp_1_41, zf_1_5, zp_1_5, zp_1_5n, zf_1_6, zp_1_6, zp_1_6n, zf_1_7, zp_1_7, zp_1_7n, zf_1_8, zp_1_8, zp_1_8n, zf_1_9, zp_1_9, zp_1_9n, zf_1_10, zp_1_10, zp_1_10n, zf_1_11, zp_1_11, zp_1_11n, zf_1_12, zp_1_12, zp_1_12n, zcur_r hc, zcur_r hc2, e170, e170', rg, r9, r10, e1, e2, e3, if_neg c, zgd_t, zty_50, zbk_v, zts_s, zts_n, List.cons_append, List.nil_append]
theorem d_82 {a : Nat} {h : zH} (a1 : m + 139 ≤ a) (a4 : ytok t) (hc : zCls h m w) (ht : zTre h a (ysz t) (ypo 0 t)) : ∃ (b : Bool) (h' : zH), zcall zP sv (d + 48) 82 [.ref m, .ref a] h = some (.inl (some (.int (yb b))), h') ∧ zCls h' m w ∧ zfx m (m + 119) 0 0 h h' ∧ ((∀ c, ylet c = true → ysl2 (ycur w).2.1 c t = yfo (yfR (ycur w).2.1) (yder c t)) → b = true) := by
  obtain ⟨b, h', e, z⟩ := d_82l (sv := sv) (d := d) a1 a4 6 0 h .unset .unset znw_u znw_u rfl hc ht
  refine ⟨b, h', ?_, z⟩
  rw [← e]
  simp (disch := first | exact znw_u | exact znw_i) only [zc_82, zs_82_0, zs_82_2]
/-- what makes a formula consistent -/
def ycon (T : List Int32) (M : Nat) (t : yT) : Prop := (∀ P : List Int32, P.length = 11 → yfo (yfR T) t = yg ((yco M t 0 0).foldl (yexe T) P) 0) ∧ (∀ B0 : List Int32, B0.length = 31 → (yinc (ypo 0 t) 0 ([], B0)).1.length = ynq (ypo 0 t) (ysz t)) ∧ yfo yfD t = yfo yfO t ∧ ∀ c, ylet c = true → ysl2 T c t = yfo (yfR T) (yder c t)
theorem d_64l (hR : (ycur w).2.2.1 = nI M) (h1M : 1 ≤ M) (hM : M ≤ 4) : ∀ n k (h : zH) (l2 l3 : Slot), znw l2 = true → znw l3 = true → k + n = (ycur w).1.length → zCls h m w → ∃ (b : Bool) (h' : zH), zrun zP sv (zcall zP sv (d + 50)) 64 2 [.val (.ref m), .val (.int (nI k)), l2, l3] [] h = some (.inl (some (.int (yb b))), h') ∧ zCls h' m w ∧ zfx m (m + 119) 0 0 h h' ∧ ((∀ t, t ∈ (ycur w).1 → ycon (ycur w).2.1 M t) → b = true) := by
  intro n
  induction n with
  | zero =>
    intro k h l2 l3 w2 w3 hk hc
    obtain rfl : k = (ycur w).1.length := by omega
    have q1 := zCls_0 hc
    have e1 : zcall zP sv (d + 50) 169 [.ref (m + 3)] h = _ := zcur_n hc (d + 49)
    refine ⟨true, h, ?_, hc, zfx_rfl, fun _ => rfl⟩
    rw [yb_t]
    simp only [zs_64_2, zs_64_3, zs_64_4, zs_64_7, zs_64_10, zs_64_103, zs_64_104, q1, zECc, zrc_1, zf_1_0, zp_1_0, zp_1_0n, zf_1_1, zp_1_1, zf_1_2, zp_1_2, zp_1_2n, zf_1_3, zp_1_3, zp_1_3n, zf_1_4, zp_1_40, zp_1_41, zf_1_5, zp_1_5, zp_1_5n, zf_1_6, zp_1_6, zp_1_6n, zf_1_7, zp_1_7, zp_1_7n, zf_1_8, zp_1_8, zp_1_8n, zf_1_9, zp_1_9, zp_1_9n, zf_1_10, zp_1_10, zp_1_10n, zf_1_11, zp_1_11, zp_1_11n, zf_1_12, zp_1_12, zp_1_12n, zcur_r hc, e1, zbk_v, zts_s, zgd_t, zty_51, Int32.lt_irrefl, ↓reduceIte, List.cons_append, List.nil_append]
  | succ n ih =>
    intro k h l2 l3 w2 w3 hk hc
    have q1 := zCls_0 hc
    have hA := zcur_ok hc
    have h6 := hA.1
    have c1 : nI k < nI (ycur w).1.length := nI_lt (by omega) (by omega)
    obtain ⟨t, ht⟩ : ∃ t, (ycur w).1[k]? = some t := ⟨_, List.getElem?_eq_getElem (by omega)⟩
    have e1 : zcall zP sv (d + 50) 169 [.ref (m + 3)] h = _ := zcur_n hc (d + 49)
    obtain ⟨a, e0, a1, a2, a3, a4⟩ := d_70k (sv := sv) (d := d + 48) hc ht
    have hsz := a4.2.1
    obtain ⟨f1, f2, f3, f4⟩ := yform a4.1 (by omega)
    have hmem := List.mem_of_getElem? ht
    have e183 : zcall zP sv (d + 50) 183 [.ref a] h = _ := d_183 (d := d + 49) a3
    rw [yroot_sub f4] at e183
    obtain ⟨A, B, C, hg⟩ := zgau_ex hc
    obtain ⟨s3, s4⟩ := zcur_let (sv := sv) hc
    have e170 := s4 (d + 49)
    obtain ⟨h1, A', k1, g1, r1, p1⟩ := d_121 (sv := sv) (d := d + 46) (rt := nI (ysz t - 1)) f1 (show m + 78 + 7 ≤ a ∨ a + 9 ≤ m + 78 by omega) (by omega) (show m + 78 + 7 ≤ m + 3 + 2 ∨ m + 3 + 2 + 2 ≤ m + 78 by omega) a3 hg s3
    rw [yQ_g r1 (Or.inr ⟨ysz t - 1, by omega, rfl⟩) (Nat.le_refl _) f1.1, f2] at k1
    have hc1 := zCls_g hc p1 g1
    have ht1 := zTre_fr a3 p1 (by omega)
    obtain ⟨h2, P, hP, k2, hc2, p2⟩ := d_76 (sv := sv) (d := d + 4) hc1 a1 ht1 a4 hR h1M hM
    have ht2 := zTre_fr ht1 p2 (by omega)
    have rg : ∀ X : zR, zrc (h.1 (m + 78)) 10 X = X := fun X => zGau_rc hg
    have fx2 : zfx m (m + 119) 0 0 h h2 := zfx_mono (zfx_tr (zfr_fx p1 (by omega) (by omega)) (zfr_fx p2 (by omega) (by omega))) (Nat.le_refl _) (Nat.le_refl _) (by omega) (by omega)
    by_cases v1 : yfo (yfR (ycur w).2.1) t = yg ((yco M t 0 0).foldl (yexe (ycur w).2.1) P) 0
    · obtain ⟨h3, B0, k3, hc3, _, hB0, p3⟩ := d_77 (sv := sv) (d := d + 4) hc2 a1 ht2 a4
      have ht3 := zTre_fr ht2 p3 (by omega)
      have k4 := d_78 (sv := sv) (d := d + 36) f1 ht3 (yform_bd a4.1 (by omega) a4.2.2) (by omega)
      rw [f3] at k4
      have fx3 : zfx m (m + 119) 0 0 h h3 := zfx_mono (zfx_tr fx2 (zfr_fx p3 (by omega) (by omega))) (Nat.le_refl _) (Nat.le_refl _) (by omega) (by omega)
      by_cases v2 : nI (yinc (ypo 0 t) 0 ([], B0)).1.length = nI (ynq (ypo 0 t) (ysz t))
      · have q3 := zCls_0 hc3
        obtain ⟨A3, B3, C3, hg3⟩ := zgau_ex hc3
        obtain ⟨h4, C4, k5, g4, r4, p4⟩ := d_125 (sv := sv) (d := d + 46) f1 (show m + 78 + 7 ≤ a ∨ a + 9 ≤ m + 78 by omega) (by omega) ht3 hg3
        rw [yroot_sub f4, yQ_g r4 (Or.inr ⟨ysz t - 1, by omega, rfl⟩) (Nat.le_refl _) f1.1, f2] at k5
        have hc4 := zCls_g hc3 p4 g4
        have q4 := zCls_0 hc4
        have ht4 := zTre_fr ht3 p4 (by omega)
        obtain ⟨h5, A5, k6, g5, r5, p5⟩ := d_128 (sv := sv) (d := d + 46) f1 (show m + 78 + 7 ≤ a ∨ a + 9 ≤ m + 78 by omega) (by omega) ht4 g4
        rw [yroot_sub f4, yQ_g r5 (Or.inr ⟨ysz t - 1, by omega, rfl⟩) (Nat.le_refl _) f1.1, f2] at k6
        have hc5 := zCls_g hc4 p5 g5
        have ht5 := zTre_fr ht4 p5 (by omega)
        have rg3 : ∀ X : zR, zrc (h3.1 (m + 78)) 10 X = X := fun X => zGau_rc hg3
        have rg4 : ∀ X : zR, zrc (h4.1 (m + 78)) 10 X = X := fun X => zGau_rc g4
        have fx5 : zfx m (m + 119) 0 0 h h5 := zfx_mono (zfx_tr (zfx_tr fx3 (zfr_fx p4 (by omega) (by omega))) (zfr_fx p5 (by omega) (by omega))) (Nat.le_refl _) (Nat.le_refl _) (by omega) (by omega)
        by_cases v3 : yfo yfD t = yfo yfO t
        · obtain ⟨b5, h6', k7, hc6, fx6, hb6⟩ := d_82 (sv := sv) (d := d + 2) a1 a4 hc5 ht5
          have fx6' : zfx m (m + 119) 0 0 h h6' := zfx_mono (zfx_tr fx5 fx6) (Nat.le_refl _) (Nat.le_refl _) (by omega) (by omega)
          cases b5 with
          | true =>
            obtain ⟨b, h7, e7, hc7, fx7, hb⟩ := ih (k + 1) h6' (.val (.ref a)) (.val (.int (nI 1))) rfl znw_i (by omega) hc6
            refine ⟨b, h7, ?_, hc7, zfx_mono (zfx_tr fx6' fx7) (Nat.le_refl _) (Nat.le_refl _) (by omega) (by omega), hb⟩
            rw [← e7]
            have eb : zrun zP sv (zcall zP sv (d + 50)) 64 97 [.val (.ref m), .val (.int (nI k)), .val (.ref a), .val (.int (nI 1))] [] h6' = zrun zP sv (zcall zP sv (d + 50)) 64 2 [.val (.ref m), .val (.int (nI (k + 1))), .val (.ref a), .val (.int (nI 1))] [] h6' := by rw [zs_64_97, zs_64_100, nI_1']
            rw [← eb]
            rw [yb_t] at k7
            simp (disch := first | exact w2 | exact w3 | exact znw_u | exact znw_i) only [zs_64_0, zs_64_1, zs_64_2, zs_64_3, zs_64_3n, zs_64_4, zs_64_7, zs_64_10, zs_64_13, zs_64_13n, zs_64_14, zs_64_15, zs_64_18, zs_64_18n, zs_64_19, zs_64_19n, zs_64_20, zs_64_23, zs_64_23n, zs_64_24, zs_64_24n, zs_64_25, zs_64_28, zs_64_28n, zs_64_29, zs_64_32, zs_64_35, zs_64_38, zs_64_38n, zs_64_39, zs_64_39n, zs_64_40, zs_64_43, zs_64_46, zs_64_46n, zs_64_47, zs_64_47n, zs_64_48, zs_64_51, zs_64_51n, zs_64_52, zs_64_55, zs_64_58, zs_64_58n, zs_64_59, zs_64_62, zs_64_62n, zs_64_63, zs_64_66, zs_64_66n, zs_64_67, zs_64_70, zs_64_70n, zs_64_71, zs_64_74, zs_64_77, zs_64_77n, zs_64_78, zs_64_78n, zs_64_79, zs_64_82, zs_64_85, zs_64_86, zs_64_89, zs_64_90, zs_64_91, zs_64_92, zs_64_95, zs_64_96, zs_64_103, zs_64_104, q1, q3, q4, zECc, zrc_1, zf_1_0, zp_1_0, zp_1_0n, zf_1_1, zp_1_1, zf_1_2, zp_1_2, zp_1_2n, zf_1_3, zp_1_3, zp_1_3n, zf_1_4, zp_1_40, zp_1_41, zf_1_5, zp_1_5, zp_1_5n, zf_1_6, zp_1_6, zp_1_6n, zf_1_7, zp_1_7, zp_1_7n, zf_1_8, zp_1_8, zp_1_8n, zf_1_9, zp_1_9, zp_1_9n, zf_1_10, zp_1_10, zp_1_10n, zf_1_11, zp_1_11, zp_1_11n, zf_1_12, zp_1_12, zp_1_12n, zcur_r hc, e1, if_pos c1, zEC1 hc, zEC1 hc1, zEC1 hc2, zEC1 hc5, e0, zTre_rc a3, e183, e170, rg, rg3, rg4, k1, k2, if_pos v1, k3, k4, if_pos v2, k5, k6, if_pos v3, k7, nI_1e0, zbk_v, zts_s, zts_n, ↓reduceIte, List.cons_append, List.nil_append]
          | false =>
            refine ⟨false, h6', ?_, hc6, fx6', fun z => hb6 (z t hmem).2.2.2⟩
            rw [yb_f] at k7 ⊢
            simp (disch := first | exact w2 | exact w3 | exact znw_u | exact znw_i) only [zs_64_0, zs_64_1, zs_64_2, zs_64_3, zs_64_3n, zs_64_4, zs_64_7, zs_64_10, zs_64_13, zs_64_13n, zs_64_14, zs_64_15, zs_64_18, zs_64_18n, zs_64_19, zs_64_19n, zs_64_20, zs_64_23, zs_64_23n, zs_64_24, zs_64_24n, zs_64_25, zs_64_28, zs_64_28n, zs_64_29, zs_64_32, zs_64_35, zs_64_38, zs_64_38n, zs_64_39, zs_64_39n, zs_64_40, zs_64_43, zs_64_46, zs_64_46n, zs_64_47, zs_64_47n, zs_64_48, zs_64_51, zs_64_51n, zs_64_52, zs_64_55, zs_64_58, zs_64_58n, zs_64_59, zs_64_62, zs_64_62n, zs_64_63, zs_64_66, zs_64_66n, zs_64_67, zs_64_70, zs_64_70n, zs_64_71, zs_64_74, zs_64_77, zs_64_77n, zs_64_78, zs_64_78n, zs_64_79, zs_64_82, zs_64_85, zs_64_86, zs_64_89, zs_64_90, zs_64_91, zs_64_92, zs_64_95, zs_64_96, zs_64_103, zs_64_104, q1, q3, q4, zECc, zrc_1, zf_1_0, zp_1_0, zp_1_0n, zf_1_1, zp_1_1, zf_1_2, zp_1_2, zp_1_2n, zf_1_3, zp_1_3, zp_1_3n, zf_1_4, zp_1_40, zp_1_41, zf_1_5, zp_1_5, zp_1_5n, zf_1_6, zp_1_6, zp_1_6n, zf_1_7, zp_1_7, zp_1_7n, zf_1_8, zp_1_8, zp_1_8n, zf_1_9, zp_1_9, zp_1_9n, zf_1_10, zp_1_10, zp_1_10n, zf_1_11, zp_1_11, zp_1_11n, zf_1_12, zp_1_12, zp_1_12n, zcur_r hc, e1, if_pos c1, zEC1 hc, zEC1 hc1, zEC1 hc2, zEC1 hc5, e0, zTre_rc a3, e183, e170, rg, rg3, rg4, k1, k2, if_pos v1, k3, k4, if_pos v2, k5, k6, if_pos v3, k7, nI_1e0, zbk_v, zts_s, zts_n, zgd_t, zty_50, ↓reduceIte, List.cons_append, List.nil_append]
        · refine ⟨false, h5, ?_, hc5, fx5, fun z => absurd (z t hmem).2.2.1 v3⟩
          rw [yb_f]
          simp (disch := first | exact w2 | exact w3 | exact znw_u | exact znw_i) only [zs_64_0, zs_64_1, zs_64_2, zs_64_3, zs_64_3n, zs_64_4, zs_64_7, zs_64_10, zs_64_13, zs_64_13n, zs_64_14, zs_64_15, zs_64_18, zs_64_18n, zs_64_19, zs_64_19n, zs_64_20, zs_64_23, zs_64_23n, zs_64_24, zs_64_24n, zs_64_25, zs_64_28, zs_64_28n, zs_64_29, zs_64_32, zs_64_35, zs_64_38, zs_64_38n, zs_64_39, zs_64_39n, zs_64_40, zs_64_43, zs_64_46, zs_64_46n, zs_64_47, zs_64_47n, zs_64_48, zs_64_51, zs_64_51n, zs_64_52, zs_64_55, zs_64_58, zs_64_58n, zs_64_59, zs_64_62, zs_64_62n, zs_64_63, zs_64_66, zs_64_66n, zs_64_67, zs_64_70, zs_64_70n, zs_64_71, zs_64_74, zs_64_77, zs_64_77n, zs_64_78, zs_64_78n, zs_64_79, zs_64_82, zs_64_85, zs_64_86, zs_64_89, zs_64_90, zs_64_91, zs_64_92, zs_64_95, zs_64_96, zs_64_103, zs_64_104, q1, q3, q4, zECc, zrc_1, zf_1_0, zp_1_0, zp_1_0n, zf_1_1, zp_1_1, zf_1_2, zp_1_2, zp_1_2n, zf_1_3, zp_1_3, zp_1_3n, zf_1_4, zp_1_40, zp_1_41, zf_1_5, zp_1_5, zp_1_5n, zf_1_6, zp_1_6, zp_1_6n, zf_1_7, zp_1_7, zp_1_7n, zf_1_8, zp_1_8, zp_1_8n, zf_1_9, zp_1_9, zp_1_9n, zf_1_10, zp_1_10, zp_1_10n, zf_1_11, zp_1_11, zp_1_11n, zf_1_12, zp_1_12, zp_1_12n, zcur_r hc, e1, if_pos c1, zEC1 hc, zEC1 hc1, zEC1 hc2, e0, zTre_rc a3, e183, e170, rg, rg3, rg4, k1, k2, if_pos v1, k3, k4, if_pos v2, k5, k6, if_neg v3, nI_1e0, zbk_v, zts_s, zts_n, zgd_t, zty_50, ↓reduceIte, List.cons_append, List.nil_append]
      · refine ⟨false, h3, ?_, hc3, fx3, fun z => absurd (congrArg nI ((z t hmem).2.1 B0 hB0)) v2⟩
        rw [yb_f]
        simp (disch := first | exact w2 | exact w3 | exact znw_u | exact znw_i) only [zs_64_0, zs_64_1, zs_64_2, zs_64_3, zs_64_3n, zs_64_4, zs_64_7, zs_64_10, zs_64_13, zs_64_13n, zs_64_14, zs_64_15, zs_64_18, zs_64_18n, zs_64_19, zs_64_19n, zs_64_20, zs_64_23, zs_64_23n, zs_64_24, zs_64_24n, zs_64_25, zs_64_28, zs_64_28n, zs_64_29, zs_64_32, zs_64_35, zs_64_38, zs_64_38n, zs_64_39, zs_64_39n, zs_64_40, zs_64_43, zs_64_46, zs_64_46n, zs_64_47, zs_64_47n, zs_64_48, zs_64_51, zs_64_51n, zs_64_52, zs_64_55, zs_64_58, zs_64_58n, zs_64_59, zs_64_62, zs_64_62n, zs_64_63, zs_64_66, zs_64_66n, zs_64_67, zs_64_70, zs_64_70n, zs_64_71, zs_64_74, zs_64_77, zs_64_77n, zs_64_78, zs_64_78n, zs_64_79, zs_64_82, zs_64_85, zs_64_86, zs_64_89, zs_64_90, zs_64_91, zs_64_92, zs_64_95, zs_64_96, zs_64_103, zs_64_104, q1, zECc, zrc_1, zf_1_0, zp_1_0, zp_1_0n, zf_1_1, zp_1_1, zf_1_2, zp_1_2, zp_1_2n, zf_1_3, zp_1_3, zp_1_3n, zf_1_4, zp_1_40, zp_1_41, zf_1_5, zp_1_5, zp_1_5n, zf_1_6, zp_1_6, zp_1_6n, zf_1_7, zp_1_7, zp_1_7n, zf_1_8, zp_1_8, zp_1_8n, zf_1_9, zp_1_9, zp_1_9n, zf_1_10, zp_1_10, zp_1_10n, zf_1_11, zp_1_11, zp_1_11n, zf_1_12, zp_1_12, zp_1_12n, zcur_r hc, e1, if_pos c1, zEC1 hc, zEC1 hc1, zEC1 hc2, e0, zTre_rc a3, e183, e170, rg, k1, k2, if_pos v1, k3, k4, if_neg v2, nI_1e0, zbk_v, zts_s, zts_n, zgd_t, zty_50, ↓reduceIte, List.cons_append, List.nil_append]
    · refine ⟨false, h2, ?_, hc2, fx2, fun z => absurd ((z t hmem).1 P hP) v1⟩
      rw [yb_f]
      simp (disch := first | exact w2 | exact w3 | exact znw_u | exact znw_i) only [zs_64_0, zs_64_1, zs_64_2, zs_64_3, zs_64_3n, zs_64_4, zs_64_7, zs_64_10, zs_64_13, zs_64_13n, zs_64_14, zs_64_15, zs_64_18, zs_64_18n, zs_64_19, zs_64_19n, zs_64_20, zs_64_23, zs_64_23n, zs_64_24, zs_64_24n, zs_64_25, zs_64_28, zs_64_28n, zs_64_29, zs_64_32, zs_64_35, zs_64_38, zs_64_38n, zs_64_39, zs_64_39n, zs_64_40, zs_64_43, zs_64_46, zs_64_46n, zs_64_47, zs_64_47n, zs_64_48, zs_64_51, zs_64_51n, zs_64_52, zs_64_55, zs_64_58, zs_64_58n, zs_64_59, zs_64_62, zs_64_62n, zs_64_63, zs_64_66, zs_64_66n, zs_64_67, zs_64_70, zs_64_70n, zs_64_71, zs_64_74, zs_64_77, zs_64_77n, zs_64_78, zs_64_78n, zs_64_79, zs_64_82, zs_64_85, zs_64_86, zs_64_89, zs_64_90, zs_64_91, zs_64_92, zs_64_95, zs_64_96, zs_64_103, zs_64_104, q1, zECc, zrc_1, zf_1_0, zp_1_0, zp_1_0n, zf_1_1, zp_1_1, zf_1_2, zp_1_2, zp_1_2n, zf_1_3, zp_1_3, zp_1_3n, zf_1_4, zp_1_40, zp_1_41, zf_1_5, zp_1_5, zp_1_5n, zf_1_6, zp_1_6, zp_1_6n, zf_1_7, zp_1_7, zp_1_7n, zf_1_8, zp_1_8, zp_1_8n, zf_1_9, zp_1_9, zp_1_9n, zf_1_10, zp_1_10, zp_1_10n, zf_1_11, zp_1_11, zp_1_11n, zf_1_12, zp_1_12, zp_1_12n, zcur_r hc, e1, if_pos c1, zEC1 hc, zEC1 hc1, e0, zTre_rc a3, e183, e170, rg, k1, k2, if_neg v1, nI_1e0, zbk_v, zts_s, zts_n, zgd_t, zty_50, ↓reduceIte, List.cons_append, List.nil_append]
theorem d_64 {h : zH} (hc : zCls h m w) (hR : (ycur w).2.2.1 = nI M) (h1M : 1 ≤ M) (hM : M ≤ 4) : ∃ b : Bool, ((∀ t, t ∈ (ycur w).1 → ycon (ycur w).2.1 M t) → b = true) ∧ zEnd h m (zcall zP sv (d + 51) 64 [.ref m] h) 0 0 (.inl (some (.int (yb b)))) w := by
  obtain ⟨b, h', e, hc', fx, hb⟩ := d_64l (sv := sv) (d := d) hR h1M hM (ycur w).1.length 0 h .unset .unset znw_u znw_u (Nat.zero_add _) hc
  rw [nI_0] at e
  refine ⟨b, hb, h', ?_, hc', fx⟩
  rw [← e]
  simp (disch := first | exact znw_u | exact znw_i) only [zc_64, zs_64_0, zs_64_1]
end ZRN
