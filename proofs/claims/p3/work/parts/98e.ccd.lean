section ZRE
variable {sv : Nat → Value} {d : Nat} {h : zH} {m : Nat} {w : yW} {i M : Nat} {t : yT}
theorem zfx_fr_l {lo hi a b N K : Nat} {h h1 h' : zH} (hf : zfr a b h h1) (h2 : zfx lo hi N K h1 h') (ha : lo ≤ a) (hb : b ≤ hi) : zfx lo hi N K h h' := zfx_mono (zfx_tr (zfx_fr hf ha hb) h2) (Nat.le_refl _) (Nat.le_refl _) (by omega) (by omega)
theorem zEnd_c {h' : zH} {r : zR} {o : zO} (hr : r = some (o, h')) (hc : zCls h' m w) (hf : zfr (m + 97) (m + 119) h h') : zEnd h m r 0 0 o w := ⟨h', hr, hc, zfr_fx hf (by omega) (by omega)⟩
theorem d_51 (hc : zCls h m w) (hi : (ycur w).1[i]? = some t) (hR : (ycur w).2.2.1 = nI M) (h1M : 1 ≤ M) (hM : M ≤ 4) : zEnd h m (zcall zP sv (d + 48) 51 [.ref m, .int (nI i)] h) 0 0 (.inl (some (.int (nI (yco M t 0 0).length)))) w := by
  have q1 := zCls_0 hc
  obtain ⟨a, h1, e0, e1, r3, r12, e2, ⟨s1, ma, A, B, C, P, s2⟩, f, tk⟩ := d_trq (sv := sv) (d := d) hc hi hR h1M hM
  have q2 := zCls_0 s1
  have r12' : ∀ X : zR, zrc (h1.1 (m + 97)) 12 X = X := fun X => zCdC_rc s2
  have e3 : zcall zP sv (d + 47) 102 [.ref (m + 97)] h1 = _ := d_102 (d := d + 46) s2
  refine zEnd_c ?_ s1 f
  simp (disch := exact znw_u) only [zc_51, zs_51_0, zs_51_0n, zs_51_1, zs_51_4, zs_51_4n, zs_51_5, zs_51_6, zs_51_9, zs_51_9n, zs_51_10, zs_51_13, zs_51_16, zs_51_19, zs_51_19n, zs_51_20, zs_51_23, zs_51_26, q1, q2, zECc, zrc_1, zf_1_0, zp_1_0, zp_1_0n, zf_1_1, zp_1_1, zf_1_2, zp_1_2, zp_1_2n, zf_1_3, zp_1_3, zp_1_3n, zf_1_4, zp_1_40, zp_1_41, zf_1_5, zp_1_5, zp_1_5n, zf_1_6, zp_1_6, zp_1_6n, zf_1_7, zp_1_7, zp_1_7n, zf_1_8, zp_1_8, zp_1_8n, zf_1_9, zp_1_9, zp_1_9n, zf_1_10, zp_1_10, zp_1_10n, zf_1_11, zp_1_11, zp_1_11n, zf_1_12, zp_1_12, zp_1_12n, zEC1 hc, e0, r3, e1, r12, r12', e2, e3, zbk_v, zts_s, zts_n, List.cons_append, List.nil_append]
theorem d_52 (hc : zCls h m w) (hi : (ycur w).1[i]? = some t) (hR : (ycur w).2.2.1 = nI M) (h1M : 1 ≤ M) (hM : M ≤ 4) : zEnd h m (zcall zP sv (d + 48) 52 [.ref m, .int (nI i)] h) 0 0 (.inl (some (.int (nI (ycs (yco M t 0 0)))))) w := by
  have q1 := zCls_0 hc
  obtain ⟨a, h1, e0, e1, r3, r12, e2, ⟨s1, ma, A, B, C, P, s2⟩, f, tk⟩ := d_trq (sv := sv) (d := d) hc hi hR h1M hM
  have q2 := zCls_0 s1
  have r12' : ∀ X : zR, zrc (h1.1 (m + 97)) 12 X = X := fun X => zCdC_rc s2
  have e3 : zcall zP sv (d + 47) 105 [.ref (m + 97)] h1 = _ := d_105 (d := d + 45) s2
  refine zEnd_c ?_ s1 f
  simp (disch := exact znw_u) only [zc_52, zs_52_0, zs_52_0n, zs_52_1, zs_52_4, zs_52_4n, zs_52_5, zs_52_6, zs_52_9, zs_52_9n, zs_52_10, zs_52_13, zs_52_16, zs_52_19, zs_52_19n, zs_52_20, zs_52_23, zs_52_26, q1, q2, zECc, zrc_1, zf_1_0, zp_1_0, zp_1_0n, zf_1_1, zp_1_1, zf_1_2, zp_1_2, zp_1_2n, zf_1_3, zp_1_3, zp_1_3n, zf_1_4, zp_1_40, zp_1_41, zf_1_5, zp_1_5, zp_1_5n, zf_1_6, zp_1_6, zp_1_6n, zf_1_7, zp_1_7, zp_1_7n, zf_1_8, zp_1_8, zp_1_8n, zf_1_9, zp_1_9, zp_1_9n, zf_1_10, zp_1_10, zp_1_10n, zf_1_11, zp_1_11, zp_1_11n, zf_1_12, zp_1_12, zp_1_12n, zEC1 hc, e0, r3, e1, r12, r12', e2, e3, zbk_v, zts_s, zts_n, List.cons_append, List.nil_append]
theorem yco_o8 (hM : M ≤ 4) (h1M : 1 ≤ M) (tk : ytok t) : ∀ x, x ∈ yco M t 0 0 → yIok x := fun x hx => yco_ok hM (ysz t) t (Nat.le_refl _) (by have := tk.2.1; omega) tk.1 0 0 (by omega) (by have := tk.2.2; omega) x hx
theorem yIok_s {x : yI} (hx : yIok x) (h : x.1 = nI 115) : ∃ s, s ≤ 8 ∧ x.2.2.1 = nI s := by
  have p1 : ¬ nI 115 = nI 99 := by decide +kernel
  have p2 : ¬ nI 115 = nI 118 := by decide +kernel
  have p3 : ¬ nI 115 = nI 110 := by decide +kernel
  have p4 : ¬ yis (nI 115) = true := by decide +kernel
  obtain ⟨_, g⟩ := hx
  rw [h] at g
  rcases g with g | g | g | g | g
  · exact absurd g p1
  · exact absurd g.1 p2
  · exact absurd g.1 p3
  · exact g.2.1
  · exact absurd g.1 p4
theorem d_53 (hc : zCls h m w) (hi : (ycur w).1[i]? = some t) (hR : (ycur w).2.2.1 = nI M) (h1M : 1 ≤ M) (hM : M ≤ 4) : zEnd h m (zcall zP sv (d + 48) 53 [.ref m, .int (nI i)] h) 0 0 (.inl (some (.int (nI (yslo (yco M t 0 0)))))) w := by
  have q1 := zCls_0 hc
  obtain ⟨a, h1, e0, e1, r3, r12, e2, ⟨s1, ma, A, B, C, P, s2⟩, f, tk⟩ := d_trq (sv := sv) (d := d) hc hi hR h1M hM
  have q2 := zCls_0 s1
  have r12' : ∀ X : zR, zrc (h1.1 (m + 97)) 12 X = X := fun X => zCdC_rc s2
  have e3 : zcall zP sv (d + 47) 106 [.ref (m + 97)] h1 = _ := d_106 (d := d + 45) s2 (fun x hx h5 => yIok_s (yco_o8 hM h1M tk x hx) h5)
  refine zEnd_c ?_ s1 f
  simp (disch := exact znw_u) only [zc_53, zs_53_0, zs_53_0n, zs_53_1, zs_53_4, zs_53_4n, zs_53_5, zs_53_6, zs_53_9, zs_53_9n, zs_53_10, zs_53_13, zs_53_16, zs_53_19, zs_53_19n, zs_53_20, zs_53_23, zs_53_26, q1, q2, zECc, zrc_1, zf_1_0, zp_1_0, zp_1_0n, zf_1_1, zp_1_1, zf_1_2, zp_1_2, zp_1_2n, zf_1_3, zp_1_3, zp_1_3n, zf_1_4, zp_1_40, zp_1_41, zf_1_5, zp_1_5, zp_1_5n, zf_1_6, zp_1_6, zp_1_6n, zf_1_7, zp_1_7, zp_1_7n, zf_1_8, zp_1_8, zp_1_8n, zf_1_9, zp_1_9, zp_1_9n, zf_1_10, zp_1_10, zp_1_10n, zf_1_11, zp_1_11, zp_1_11n, zf_1_12, zp_1_12, zp_1_12n, zEC1 hc, e0, r3, e1, r12, r12', e2, e3, zbk_v, zts_s, zts_n, List.cons_append, List.nil_append]
theorem d_63 (hc : zCls h m w) (hi : (ycur w).1[i]? = some t) (hR : (ycur w).2.2.1 = nI M) (h1M : 1 ≤ M) (hM : M ≤ 4) : zEnd h m (zcall zP sv (d + 48) 63 [.ref m, .int (nI i)] h) 0 0 (.inl (some (.float (FP.fdiv (FP.i2f (nI (ycs (yco M t 0 0)))) (FP.i2f (nI (yco M t 0 0).length)))))) w := by
  have q1 := zCls_0 hc
  obtain ⟨a, h1, e0, e1, r3, r12, e2, ⟨s1, ma, A, B, C, P, s2⟩, f, tk⟩ := d_trq (sv := sv) (d := d) hc hi hR h1M hM
  have q2 := zCls_0 s1
  have r12' : ∀ X : zR, zrc (h1.1 (m + 97)) 12 X = X := fun X => zCdC_rc s2
  have e3 : zcall zP sv (d + 47) 105 [.ref (m + 97)] h1 = _ := d_105 (d := d + 45) s2
  have e4 : zcall zP sv (d + 47) 102 [.ref (m + 97)] h1 = _ := d_102 (d := d + 46) s2
  have hz := tk.2.1
  have hlen := yco_len (M := M) (ysz t) t (Nat.le_refl _) tk.1 0 0
  have hp := yco_pos (M := M) (b := 0) (j := 0) tk.1
  have hfd := yfdiv (yco M t 0 0).length (by omega) _ (ycs_le (q := yco M t 0 0)) hp
  have hz0 : (nI (yco M t 0 0).length = 0) = False := eq_false (nI_ne0 (by omega) (by omega))
  refine zEnd_c ?_ s1 f
  simp (disch := exact znw_u) only [zc_63, zs_63_0, zs_63_0n, zs_63_1, zs_63_4, zs_63_4n, zs_63_5, zs_63_6, zs_63_9, zs_63_9n, zs_63_10, zs_63_13, zs_63_16, zs_63_19, zs_63_19n, zs_63_20, zs_63_23, zs_63_26, zs_63_29, zs_63_30, zs_63_31, zs_63_31n, zs_63_32, zs_63_35, zs_63_38, zs_63_39, zs_63_39n, zs_63_40, zs_63_43, zs_63_46, zs_63_47, zs_63_48, q1, q2, zECc, zrc_1, zf_1_0, zp_1_0, zp_1_0n, zf_1_1, zp_1_1, zf_1_2, zp_1_2, zp_1_2n, zf_1_3, zp_1_3, zp_1_3n, zf_1_4, zp_1_40, zp_1_41, zf_1_5, zp_1_5, zp_1_5n, zf_1_6, zp_1_6, zp_1_6n, zf_1_7, zp_1_7, zp_1_7n, zf_1_8, zp_1_8, zp_1_8n, zf_1_9, zp_1_9, zp_1_9n, zf_1_10, zp_1_10, zp_1_10n, zf_1_11, zp_1_11, zp_1_11n, zf_1_12, zp_1_12, zp_1_12n, zEC1 hc, e0, r3, e1, r12, r12', e2, e3, e4, hz0, hfd, zgd_t, zbk_v, zts_s, zts_n, ↓reduceIte, List.cons_append, List.nil_append]
/-- whether an index is one of the code's instructions -/
theorem d_71k {n : Nat} {q : List yI} (hc : zClC h m w q) (hn : n < q.length) : zcall zP sv (d + 2) 71 [.ref m, .int (nI n)] h = some (.inl none, h) := by
  obtain ⟨s1, ma, A, B, C, P, s2⟩ := hc
  have q2 := zCls_0 s1
  have hl := zCdC_len s2
  have r12' : ∀ X : zR, zrc (h.1 (m + 97)) 12 X = X := fun X => zCdC_rc s2
  have e4 : zcall zP sv (d + 1) 102 [.ref (m + 97)] h = _ := d_102 (d := d) s2
  have c0 : ¬ nI n < 0 := nI_pos (by omega)
  have c1 : nI n < nI q.length := nI_lt hn (by omega)
  simp (disch := exact znw_u) only [zc_71, zs_71_0, zs_71_1, zs_71_4, zs_71_5, zs_71_5n, zs_71_6, zs_71_9, zs_71_12, zs_71_15, zs_71_26, q2, zECc, zrc_1, zf_1_0, zp_1_0, zp_1_0n, zf_1_1, zp_1_1, zf_1_2, zp_1_2, zp_1_2n, zf_1_3, zp_1_3, zp_1_3n, zf_1_4, zp_1_40, zp_1_41, zf_1_5, zp_1_5, zp_1_5n, zf_1_6, zp_1_6, zp_1_6n, zf_1_7, zp_1_7, zp_1_7n, zf_1_8, zp_1_8, zp_1_8n, zf_1_9, zp_1_9, zp_1_9n, zf_1_10, zp_1_10, zp_1_10n, zf_1_11, zp_1_11, zp_1_11n, zf_1_12, zp_1_12, zp_1_12n, r12', e4, if_neg c0, if_pos c1, zbk_v, zts_s, List.cons_append, List.nil_append]
theorem d_71n {x : Int32} {q : List yI} (hc : zClC h m w q) (hx : x < 0 ∨ ¬ x < nI q.length) : zcall zP sv (d + 2) 71 [.ref m, .int x] h = some (.inr 2, zext h [(0, [])] 6) := by
  obtain ⟨s1, ma, A, B, C, P, s2⟩ := hc
  have q2 := zCls_0 s1
  have r12' : ∀ X : zR, zrc (h.1 (m + 97)) 12 X = X := fun X => zCdC_rc s2
  have e4 : zcall zP sv (d + 1) 102 [.ref (m + 97)] h = _ := d_102 (d := d) s2
  by_cases c0 : x < 0
  · simp (disch := exact znw_u) only [zc_71, zs_71_0, zs_71_1, zs_71_4, zs_71_5, zs_71_5n, zs_71_6, zs_71_9, zs_71_12, zs_71_15, zs_71_26, if_pos c0, zext_of]
  · have c1 := hx.resolve_left c0
    simp (disch := exact znw_u) only [zc_71, zs_71_0, zs_71_1, zs_71_4, zs_71_5, zs_71_5n, zs_71_6, zs_71_9, zs_71_12, zs_71_15, zs_71_26, q2, zECc, zrc_1, zf_1_0, zp_1_0, zp_1_0n, zf_1_1, zp_1_1, zf_1_2, zp_1_2, zp_1_2n, zf_1_3, zp_1_3, zp_1_3n, zf_1_4, zp_1_40, zp_1_41, zf_1_5, zp_1_5, zp_1_5n, zf_1_6, zp_1_6, zp_1_6n, zf_1_7, zp_1_7, zp_1_7n, zf_1_8, zp_1_8, zp_1_8n, zf_1_9, zp_1_9, zp_1_9n, zf_1_10, zp_1_10, zp_1_10n, zf_1_11, zp_1_11, zp_1_11n, zf_1_12, zp_1_12, zp_1_12n, r12', e4, if_neg c0, if_neg c1, zbk_v, zts_s, zext_of, List.cons_append, List.nil_append]
theorem zEnd_ct {h1 : zH} {r : zR} (hr : r = some (.inr 2, zext h1 [(0, [])] 6)) (hc : zCls h1 m w) (hf : zfr (m + 97) (m + 119) h h1) : zEnd h m r 1 6 (.inr 2) w := by
  obtain ⟨t1, t2⟩ := zthrow hc
  exact ⟨_, hr, t1, zfx_fr_l hf t2 (by omega) (by omega)⟩
theorem d_55o {x : Int32} (hc : zCls h m w) (hi : (ycur w).1[i]? = some t) (hR : (ycur w).2.2.1 = nI M) (h1M : 1 ≤ M) (hM : M ≤ 4) (hx : x < 0 ∨ ¬ x < nI (yco M t 0 0).length) : zEnd h m (zcall zP sv (d + 48) 55 [.ref m, .int (nI i), .int x] h) 1 6 (.inr 2) w := by
  have q1 := zCls_0 hc
  obtain ⟨a, h1, e0, e1, r3, r12, e2, s, f, tk⟩ := d_trq (sv := sv) (d := d) hc hi hR h1M hM
  have e3 : zcall zP sv (d + 47) 71 [.ref m, .int x] h1 = _ := d_71n (d := d + 45) s hx
  have r1 := zEC1 s.1
  refine zEnd_ct ?_ s.1 f
  simp (disch := exact znw_u) only [zc_55, zs_55_0, zs_55_0n, zs_55_1, zs_55_4, zs_55_4n, zs_55_5, zs_55_6, zs_55_9, zs_55_9n, zs_55_10, zs_55_13, zs_55_16, zs_55_19, zs_55_19n, zs_55_20, zs_55_21, zs_55_24, zs_55_24n, zs_55_25, zs_55_28, zs_55_29, zs_55_32, q1, zECc, zrc_1, zf_1_0, zp_1_0, zp_1_0n, zf_1_1, zp_1_1, zf_1_2, zp_1_2, zp_1_2n, zf_1_3, zp_1_3, zp_1_3n, zf_1_4, zp_1_40, zp_1_41, zf_1_5, zp_1_5, zp_1_5n, zf_1_6, zp_1_6, zp_1_6n, zf_1_7, zp_1_7, zp_1_7n, zf_1_8, zp_1_8, zp_1_8n, zf_1_9, zp_1_9, zp_1_9n, zf_1_10, zp_1_10, zp_1_10n, zf_1_11, zp_1_11, zp_1_11n, zf_1_12, zp_1_12, zp_1_12n, zEC1 hc, r1, e0, r3, e1, r12, e2, e3, zbk_v, zbk_x, zts_s, zts_n, List.cons_append, List.nil_append]
theorem d_56o {x : Int32} (hc : zCls h m w) (hi : (ycur w).1[i]? = some t) (hR : (ycur w).2.2.1 = nI M) (h1M : 1 ≤ M) (hM : M ≤ 4) (hx : x < 0 ∨ ¬ x < nI (yco M t 0 0).length) : zEnd h m (zcall zP sv (d + 48) 56 [.ref m, .int (nI i), .int x] h) 1 6 (.inr 2) w := by
  have q1 := zCls_0 hc
  obtain ⟨a, h1, e0, e1, r3, r12, e2, s, f, tk⟩ := d_trq (sv := sv) (d := d) hc hi hR h1M hM
  have e3 : zcall zP sv (d + 47) 71 [.ref m, .int x] h1 = _ := d_71n (d := d + 45) s hx
  have r1 := zEC1 s.1
  refine zEnd_ct ?_ s.1 f
  simp (disch := exact znw_u) only [zc_56, zs_56_0, zs_56_0n, zs_56_1, zs_56_4, zs_56_4n, zs_56_5, zs_56_6, zs_56_9, zs_56_9n, zs_56_10, zs_56_13, zs_56_16, zs_56_19, zs_56_19n, zs_56_20, zs_56_21, zs_56_24, zs_56_24n, zs_56_25, zs_56_28, zs_56_29, zs_56_32, q1, zECc, zrc_1, zf_1_0, zp_1_0, zp_1_0n, zf_1_1, zp_1_1, zf_1_2, zp_1_2, zp_1_2n, zf_1_3, zp_1_3, zp_1_3n, zf_1_4, zp_1_40, zp_1_41, zf_1_5, zp_1_5, zp_1_5n, zf_1_6, zp_1_6, zp_1_6n, zf_1_7, zp_1_7, zp_1_7n, zf_1_8, zp_1_8, zp_1_8n, zf_1_9, zp_1_9, zp_1_9n, zf_1_10, zp_1_10, zp_1_10n, zf_1_11, zp_1_11, zp_1_11n, zf_1_12, zp_1_12, zp_1_12n, zEC1 hc, r1, e0, r3, e1, r12, e2, e3, zbk_v, zbk_x, zts_s, zts_n, List.cons_append, List.nil_append]
theorem d_57o {x : Int32} (hc : zCls h m w) (hi : (ycur w).1[i]? = some t) (hR : (ycur w).2.2.1 = nI M) (h1M : 1 ≤ M) (hM : M ≤ 4) (hx : x < 0 ∨ ¬ x < nI (yco M t 0 0).length) : zEnd h m (zcall zP sv (d + 48) 57 [.ref m, .int (nI i), .int x] h) 1 6 (.inr 2) w := by
  have q1 := zCls_0 hc
  obtain ⟨a, h1, e0, e1, r3, r12, e2, s, f, tk⟩ := d_trq (sv := sv) (d := d) hc hi hR h1M hM
  have e3 : zcall zP sv (d + 47) 71 [.ref m, .int x] h1 = _ := d_71n (d := d + 45) s hx
  have r1 := zEC1 s.1
  refine zEnd_ct ?_ s.1 f
  simp (disch := exact znw_u) only [zc_57, zs_57_0, zs_57_0n, zs_57_1, zs_57_4, zs_57_4n, zs_57_5, zs_57_6, zs_57_9, zs_57_9n, zs_57_10, zs_57_13, zs_57_16, zs_57_19, zs_57_19n, zs_57_20, zs_57_21, zs_57_24, zs_57_24n, zs_57_25, zs_57_28, zs_57_29, zs_57_32, zs_57_32n, zs_57_33, zs_57_36, zs_57_37, zs_57_37n, zs_57_38, zs_57_41, zs_57_44, zs_57_44n, zs_57_45, zs_57_48, zs_57_51, q1, zECc, zrc_1, zf_1_0, zp_1_0, zp_1_0n, zf_1_1, zp_1_1, zf_1_2, zp_1_2, zp_1_2n, zf_1_3, zp_1_3, zp_1_3n, zf_1_4, zp_1_40, zp_1_41, zf_1_5, zp_1_5, zp_1_5n, zf_1_6, zp_1_6, zp_1_6n, zf_1_7, zp_1_7, zp_1_7n, zf_1_8, zp_1_8, zp_1_8n, zf_1_9, zp_1_9, zp_1_9n, zf_1_10, zp_1_10, zp_1_10n, zf_1_11, zp_1_11, zp_1_11n, zf_1_12, zp_1_12, zp_1_12n, zEC1 hc, r1, e0, r3, e1, r12, e2, e3, zbk_v, zbk_x, zts_s, zts_n, List.cons_append, List.nil_append]
theorem yIok_c2 {x : yI} (hx : yIok x) : (x.1.toUInt32 % 65536).toInt32 = x.1 := by
  have e : ((nI 99).toUInt32 % 65536).toInt32 = nI 99 ∧ ((nI 118).toUInt32 % 65536).toInt32 = nI 118 ∧ ((nI 110).toUInt32 % 65536).toInt32 = nI 110 ∧ ((nI 115).toUInt32 % 65536).toInt32 = nI 115 ∧ ((nI 43).toUInt32 % 65536).toInt32 = nI 43 ∧ ((nI 45).toUInt32 % 65536).toInt32 = nI 45 ∧ ((nI 42).toUInt32 % 65536).toInt32 = nI 42 := by decide +kernel
  obtain ⟨e1, e2, e3, e4, e5, e6, e7⟩ := e
  rcases hx.2 with g | g | g | g | g
  · rw [g]; exact e1
  · rw [g.1]; exact e2
  · rw [g.1]; exact e3
  · rw [g.1]; exact e4
  · rcases yis_k g.1 with z | z | z <;> rw [z]
    · exact e5
    · exact e6
    · exact e7
theorem d_55 {n : Nat} {x : yI} (hc : zCls h m w) (hi : (ycur w).1[i]? = some t) (hR : (ycur w).2.2.1 = nI M) (h1M : 1 ≤ M) (hM : M ≤ 4) (hx : (yco M t 0 0)[n]? = some x) : zEnd h m (zcall zP sv (d + 48) 55 [.ref m, .int (nI i), .int (nI n)] h) 0 0 (.inl (some (.int x.1))) w := by
  have q1 := zCls_0 hc
  obtain ⟨a, h1, e0, e1, r3, r12, e2, s, f, tk⟩ := d_trq (sv := sv) (d := d) hc hi hR h1M hM
  have e3 : zcall zP sv (d + 47) 71 [.ref m, .int (nI n)] h1 = _ := d_71k (d := d + 45) s (List.getElem?_eq_some_iff.mp hx).1
  have r1 := zEC1 s.1
  obtain ⟨s1, ma, A, B, C, P, s2⟩ := s
  have ok := yco_o8 hM h1M tk x (List.mem_of_getElem? hx)
  have q2 := zCls_0 s1
  have r12' : ∀ X : zR, zrc (h1.1 (m + 97)) 12 X = X := fun X => zCdC_rc s2
  have e4 : zcall zP sv (d + 47) 103 [.ref (m + 97), .int (nI n)] h1 = _ := d_103 (d := d + 45) s2 hx (yIok_c ok) (yIok_c2 ok)
  refine zEnd_c ?_ s1 f
  simp (disch := exact znw_u) only [zc_55, zs_55_0, zs_55_0n, zs_55_1, zs_55_4, zs_55_4n, zs_55_5, zs_55_6, zs_55_9, zs_55_9n, zs_55_10, zs_55_13, zs_55_16, zs_55_19, zs_55_19n, zs_55_20, zs_55_21, zs_55_24, zs_55_24n, zs_55_25, zs_55_28, zs_55_29, zs_55_32, q1, q2, zECc, zrc_1, zf_1_0, zp_1_0, zp_1_0n, zf_1_1, zp_1_1, zf_1_2, zp_1_2, zp_1_2n, zf_1_3, zp_1_3, zp_1_3n, zf_1_4, zp_1_40, zp_1_41, zf_1_5, zp_1_5, zp_1_5n, zf_1_6, zp_1_6, zp_1_6n, zf_1_7, zp_1_7, zp_1_7n, zf_1_8, zp_1_8, zp_1_8n, zf_1_9, zp_1_9, zp_1_9n, zf_1_10, zp_1_10, zp_1_10n, zf_1_11, zp_1_11, zp_1_11n, zf_1_12, zp_1_12, zp_1_12n, zEC1 hc, r1, e0, r3, e1, r12, r12', e2, e3, e4, zbk_v, zbk_x, zts_s, zts_n, yIok_c ok, zgd_t, List.cons_append, List.nil_append]
theorem d_56 {n : Nat} {x : yI} (hc : zCls h m w) (hi : (ycur w).1[i]? = some t) (hR : (ycur w).2.2.1 = nI M) (h1M : 1 ≤ M) (hM : M ≤ 4) (hx : (yco M t 0 0)[n]? = some x) : zEnd h m (zcall zP sv (d + 48) 56 [.ref m, .int (nI i), .int (nI n)] h) 0 0 (.inl (some (.int x.2.1))) w := by
  have q1 := zCls_0 hc
  obtain ⟨a, h1, e0, e1, r3, r12, e2, s, f, tk⟩ := d_trq (sv := sv) (d := d) hc hi hR h1M hM
  have e3 : zcall zP sv (d + 47) 71 [.ref m, .int (nI n)] h1 = _ := d_71k (d := d + 45) s (List.getElem?_eq_some_iff.mp hx).1
  have r1 := zEC1 s.1
  obtain ⟨s1, ma, A, B, C, P, s2⟩ := s
  have q2 := zCls_0 s1
  have r12' : ∀ X : zR, zrc (h1.1 (m + 97)) 12 X = X := fun X => zCdC_rc s2
  have e4 : zcall zP sv (d + 47) 104 [.ref (m + 97), .int (nI n)] h1 = _ := d_104 (d := d + 45) s2 hx
  refine zEnd_c ?_ s1 f
  simp (disch := exact znw_u) only [zc_56, zs_56_0, zs_56_0n, zs_56_1, zs_56_4, zs_56_4n, zs_56_5, zs_56_6, zs_56_9, zs_56_9n, zs_56_10, zs_56_13, zs_56_16, zs_56_19, zs_56_19n, zs_56_20, zs_56_21, zs_56_24, zs_56_24n, zs_56_25, zs_56_28, zs_56_29, zs_56_32, q1, q2, zECc, zrc_1, zf_1_0, zp_1_0, zp_1_0n, zf_1_1, zp_1_1, zf_1_2, zp_1_2, zp_1_2n, zf_1_3, zp_1_3, zp_1_3n, zf_1_4, zp_1_40, zp_1_41, zf_1_5, zp_1_5, zp_1_5n, zf_1_6, zp_1_6, zp_1_6n, zf_1_7, zp_1_7, zp_1_7n, zf_1_8, zp_1_8, zp_1_8n, zf_1_9, zp_1_9, zp_1_9n, zf_1_10, zp_1_10, zp_1_10n, zf_1_11, zp_1_11, zp_1_11n, zf_1_12, zp_1_12, zp_1_12n, zEC1 hc, r1, e0, r3, e1, r12, r12', e2, e3, e4, zbk_v, zbk_x, zts_s, zts_n, List.cons_append, List.nil_append]
theorem zEnd_tr0 {h1 : zH} {r : zR} {N K : Nat} {o : zO} (hf : zfr (m + 97) (m + 119) h h1) (he : zEnd h1 m r N K o w) : zEnd h m r N K o w := by
  obtain ⟨h', e, c, f⟩ := he
  exact ⟨h', e, c, zfx_fr_l hf f (by omega) (by omega)⟩
theorem d_54l {a : Nat} (tk : ytok t) (ham : m + 139 ≤ a) : ∀ n k (h : zH), 1 ≤ k → k + n = 5 → zCls h m w → zTre h a (ysz t) (ypo 0 t) → (∀ c, ylr t k n = some c → zEnd h m (zrun zP sv (zcall zP sv (d + 47)) 54 8 [.val (.ref m), .val (.int (nI i)), .val (.ref a), .val (.int (nI k))] [] h) 0 0 (.inl (some (.int (nI c)))) w) ∧ (ylr t k n = none → zEnd h m (zrun zP sv (zcall zP sv (d + 47)) 54 8 [.val (.ref m), .val (.int (nI i)), .val (.ref a), .val (.int (nI k))] [] h) 1 6 (.inr 4) w) := by
  intro n
  induction n with
  | zero =>
    intro k h h1 hk hc ht
    obtain rfl : k = 5 := by omega
    refine ⟨fun c hy => (by rw [show ylr t 5 0 = none from rfl] at hy; cases hy), fun _ => ?_⟩
    obtain ⟨t1, t2⟩ := zthrow hc
    have c1 : nI 4 < nI 5 := by decide +kernel
    refine ⟨_, ?_, t1, t2⟩
    simp (disch := exact znw_u) only [zs_54_0, zs_54_0n, zs_54_1, zs_54_2, zs_54_5, zs_54_5n, zs_54_6, zs_54_7, zs_54_8, zs_54_9, zs_54_10, zs_54_13, zs_54_13n, zs_54_14, zs_54_17, zs_54_17n, zs_54_18, zs_54_19, zs_54_22, zs_54_22n, zs_54_23, zs_54_26, zs_54_29, zs_54_32, zs_54_33, zs_54_40, if_pos c1, zext_of]
  | succ n ih =>
    intro k h h1 hk hc ht
    obtain ⟨h2, e2, ⟨s1, ma, A, B, C, P, s2⟩, f⟩ := d_tr (sv := sv) (d := d + 27) hc ham ht tk h1 (show k ≤ 4 by omega)
    have q1 := zCls_0 hc
    have q2 := zCls_0 s1
    have c1 : ¬ nI 4 < nI k := nI_nlt (by omega) (by omega)
    have e3 : zcall zP sv (d + 47) 105 [.ref (m + 97)] h2 = _ := d_105 (d := d + 45) s2
    have r12' : ∀ X : zR, zrc (h2.1 (m + 97)) 12 X = X := fun X => zCdC_rc s2
    obtain ⟨⟨le, ma0, c0⟩, _⟩ := hc.2.2.2.2.2.2.1.2.2.2.2.2
    have r12 : ∀ X : zR, zrc (h.1 (m + 97)) 12 X = X := fun X => by rw [c0]; exact zrc_k
    by_cases c : ycs (yco k t 0 0) = 0
    · have q : ylr t k (n + 1) = some k := by unfold ylr; rw [if_pos c]
      rw [q]
      rw [c, nI_0] at e3
      refine ⟨fun c hy => ?_, fun hy => (by cases hy)⟩
      cases hy
      refine zEnd_c ?_ s1 f
      simp (disch := exact znw_u) only [zs_54_0, zs_54_0n, zs_54_1, zs_54_2, zs_54_5, zs_54_5n, zs_54_6, zs_54_7, zs_54_8, zs_54_9, zs_54_10, zs_54_13, zs_54_13n, zs_54_14, zs_54_17, zs_54_17n, zs_54_18, zs_54_19, zs_54_22, zs_54_22n, zs_54_23, zs_54_26, zs_54_29, zs_54_32, zs_54_33, zs_54_40, if_neg c1, q1, q2, zECc, zrc_1, zf_1_0, zp_1_0, zp_1_0n, zf_1_1, zp_1_1, zf_1_2, zp_1_2, zp_1_2n, zf_1_3, zp_1_3, zp_1_3n, zf_1_4, zp_1_40, zp_1_41, zf_1_5, zp_1_5, zp_1_5n, zf_1_6, zp_1_6, zp_1_6n, zf_1_7, zp_1_7, zp_1_7n, zf_1_8, zp_1_8, zp_1_8n, zf_1_9, zp_1_9, zp_1_9n, zf_1_10, zp_1_10, zp_1_10n, zf_1_11, zp_1_11, zp_1_11n, zf_1_12, zp_1_12, zp_1_12n, r12, r12', e2, e3, zbk_v, zts_s, zts_n, ↓reduceIte, List.cons_append, List.nil_append]
    · have q : ylr t k (n + 1) = ylr t (k + 1) n := by conv => lhs; unfold ylr; rw [if_neg c]
      have hz : (nI (ycs (yco k t 0 0)) = 0) = False := by
        have h3 := ycs_le (q := yco k t 0 0)
        have h4 : (yco k t 0 0).length + 1 ≤ 2 * ysz t := yco_len (ysz t) t (Nat.le_refl _) tk.1 0 0
        have h5 := tk.2.1
        exact eq_false (nI_ne0 (by omega) (by omega))
      obtain ⟨i1, i2⟩ := ih (k + 1) h2 (by omega) (by omega) s1 (zTre_fr ht f (by omega))
      have eb : zrun zP sv (zcall zP sv (d + 47)) 54 34 [.val (.ref m), .val (.int (nI i)), .val (.ref a), .val (.int (nI k))] [] h2 = zrun zP sv (zcall zP sv (d + 47)) 54 8 [.val (.ref m), .val (.int (nI i)), .val (.ref a), .val (.int (nI (k + 1)))] [] h2 := by rw [zs_54_34, zs_54_37, nI_1']
      have e : zrun zP sv (zcall zP sv (d + 47)) 54 8 [.val (.ref m), .val (.int (nI i)), .val (.ref a), .val (.int (nI k))] [] h = zrun zP sv (zcall zP sv (d + 47)) 54 8 [.val (.ref m), .val (.int (nI i)), .val (.ref a), .val (.int (nI (k + 1)))] [] h2 := by
        rw [← eb]
        simp (disch := exact znw_u) only [zs_54_0, zs_54_0n, zs_54_1, zs_54_2, zs_54_5, zs_54_5n, zs_54_6, zs_54_7, zs_54_8, zs_54_9, zs_54_10, zs_54_13, zs_54_13n, zs_54_14, zs_54_17, zs_54_17n, zs_54_18, zs_54_19, zs_54_22, zs_54_22n, zs_54_23, zs_54_26, zs_54_29, zs_54_32, zs_54_33, zs_54_40, if_neg c1, q1, q2, zECc, zrc_1, zf_1_0, zp_1_0, zp_1_0n, zf_1_1, zp_1_1, zf_1_2, zp_1_2, zp_1_2n, zf_1_3, zp_1_3, zp_1_3n, zf_1_4, zp_1_40, zp_1_41, zf_1_5, zp_1_5, zp_1_5n, zf_1_6, zp_1_6, zp_1_6n, zf_1_7, zp_1_7, zp_1_7n, zf_1_8, zp_1_8, zp_1_8n, zf_1_9, zp_1_9, zp_1_9n, zf_1_10, zp_1_10, zp_1_10n, zf_1_11, zp_1_11, zp_1_11n, zf_1_12, zp_1_12, zp_1_12n, r12, r12', e2, e3, hz, zbk_v, zts_s, zts_n, ↓reduceIte, List.cons_append, List.nil_append]
      rw [q, e]
      exact ⟨fun c hy => zEnd_tr0 f (i1 c hy), fun hy => zEnd_tr0 f (i2 hy)⟩
theorem d_54k {k : Nat} (hc : zCls h m w) (hi : (ycur w).1[i]? = some t) (hk : ylr t 1 4 = some k) : zEnd h m (zcall zP sv (d + 48) 54 [.ref m, .int (nI i)] h) 0 0 (.inl (some (.int (nI k)))) w := by
  obtain ⟨a, e0, a1, a2, a3, a4⟩ := d_70k (sv := sv) (d := d + 45) hc hi
  obtain ⟨h', e, c, f⟩ := (d_54l (sv := sv) (d := d) (i := i) a4 a1 4 1 h (Nat.le_refl 1) rfl hc a3).1 k hk
  refine ⟨h', ?_, c, f⟩
  rw [← e]
  simp (disch := first | exact znw_u | exact znw_i) only [zc_54, zs_54_0, zs_54_1, zs_54_2, zs_54_5, zs_54_6, zs_54_7, zEC1 hc, e0, zbk_v, zts_s, List.cons_append, List.nil_append]
theorem d_54m (hc : zCls h m w) (hi : (ycur w).1[i]? = some t) (hk : ylr t 1 4 = none) : zEnd h m (zcall zP sv (d + 48) 54 [.ref m, .int (nI i)] h) 1 6 (.inr 4) w := by
  obtain ⟨a, e0, a1, a2, a3, a4⟩ := d_70k (sv := sv) (d := d + 45) hc hi
  obtain ⟨h', e, c, f⟩ := (d_54l (sv := sv) (d := d) (i := i) a4 a1 4 1 h (Nat.le_refl 1) rfl hc a3).2 hk
  refine ⟨h', ?_, c, f⟩
  rw [← e]
  simp (disch := first | exact znw_u | exact znw_i) only [zc_54, zs_54_0, zs_54_1, zs_54_2, zs_54_5, zs_54_6, zs_54_7, zEC1 hc, e0, zbk_v, zts_s, List.cons_append, List.nil_append]
end ZRE
