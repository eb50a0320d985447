section ZEF
variable {sv : Nat → Value} {d : Nat} {h : zH} {m : Nat} {w : yW}
theorem zEC1 (hc : zCls h m w) : ∀ X : zR, zrc (h.1 m) 1 X = X := fun X => by
  rw [zCls_0 hc]
  exact zrc_k
theorem d_36n {x0 : Int32} (hc : zCls h m w) (hx : x0 < 0 ∨ ¬ x0 < nI (ycur w).1.length) : zEnd h m (zcall zP sv (d + 48) 36 [.ref m, .int x0] h) 1 6 (.inr 2) w := by
  obtain ⟨t1, t2⟩ := zthrow hc
  refine ⟨_, ?_, t1, t2⟩
  have q1 := zCls_0 hc
  have e1 := d_70n (sv := sv) (d := d + 45) hc hx
  simp (disch := exact znw_u) only [zc_36, zs_36_0, zs_36_0n, zs_36_1, zs_36_2, zs_36_5, zs_36_8, q1, zECc, zrc_1, zf_1_0, zp_1_0, zp_1_0n, zf_1_1, zp_1_1, zf_1_2, zp_1_2, zp_1_2n, zf_1_3, zp_1_3, zp_1_3n, zf_1_4, zp_1_40, zp_1_41, zf_1_5, zp_1_5, zp_1_5n, zf_1_6, zp_1_6, zp_1_6n, zf_1_7, zp_1_7, zp_1_7n, zf_1_8, zp_1_8, zp_1_8n, zf_1_9, zp_1_9, zp_1_9n, zf_1_10, zp_1_10, zp_1_10n, zf_1_11, zp_1_11, zp_1_11n, zf_1_12, zp_1_12, zp_1_12n, zEC1 hc, e1, zbk_x]
theorem d_37n {x0 : Int32} (hc : zCls h m w) (hx : x0 < 0 ∨ ¬ x0 < nI (ycur w).1.length) : zEnd h m (zcall zP sv (d + 48) 37 [.ref m, .int x0] h) 1 6 (.inr 2) w := by
  obtain ⟨t1, t2⟩ := zthrow hc
  refine ⟨_, ?_, t1, t2⟩
  have q1 := zCls_0 hc
  have e1 := d_70n (sv := sv) (d := d + 45) hc hx
  simp (disch := exact znw_u) only [zc_37, zs_37_0, zs_37_0n, zs_37_1, zs_37_2, zs_37_5, zs_37_5n, zs_37_6, zs_37_6n, zs_37_7, zs_37_10, zs_37_10n, zs_37_11, zs_37_11n, zs_37_12, zs_37_15, zs_37_18, q1, zECc, zrc_1, zf_1_0, zp_1_0, zp_1_0n, zf_1_1, zp_1_1, zf_1_2, zp_1_2, zp_1_2n, zf_1_3, zp_1_3, zp_1_3n, zf_1_4, zp_1_40, zp_1_41, zf_1_5, zp_1_5, zp_1_5n, zf_1_6, zp_1_6, zp_1_6n, zf_1_7, zp_1_7, zp_1_7n, zf_1_8, zp_1_8, zp_1_8n, zf_1_9, zp_1_9, zp_1_9n, zf_1_10, zp_1_10, zp_1_10n, zf_1_11, zp_1_11, zp_1_11n, zf_1_12, zp_1_12, zp_1_12n, zEC1 hc, e1, zbk_x]
theorem d_38n {x0 : Int32} {x1 : Int32} (hc : zCls h m w) (hx : x0 < 0 ∨ ¬ x0 < nI (ycur w).1.length) : zEnd h m (zcall zP sv (d + 48) 38 [.ref m, .int x0, .int x1] h) 1 6 (.inr 2) w := by
  obtain ⟨t1, t2⟩ := zthrow hc
  refine ⟨_, ?_, t1, t2⟩
  have q1 := zCls_0 hc
  have e1 := d_70n (sv := sv) (d := d + 45) hc hx
  simp (disch := exact znw_u) only [zc_38, zs_38_0, zs_38_0n, zs_38_1, zs_38_2, zs_38_5, zs_38_5n, zs_38_6, zs_38_7, zs_38_10, zs_38_11, zs_38_13, zs_38_14, zs_38_16, zs_38_18, zs_38_18n, zs_38_19, zs_38_22, zs_38_25, zs_38_25n, zs_38_26, zs_38_28, zs_38_29, zs_38_32, zs_38_35, zs_38_38, zs_38_41, zs_38_44, zs_38_46, q1, zECc, zrc_1, zf_1_0, zp_1_0, zp_1_0n, zf_1_1, zp_1_1, zf_1_2, zp_1_2, zp_1_2n, zf_1_3, zp_1_3, zp_1_3n, zf_1_4, zp_1_40, zp_1_41, zf_1_5, zp_1_5, zp_1_5n, zf_1_6, zp_1_6, zp_1_6n, zf_1_7, zp_1_7, zp_1_7n, zf_1_8, zp_1_8, zp_1_8n, zf_1_9, zp_1_9, zp_1_9n, zf_1_10, zp_1_10, zp_1_10n, zf_1_11, zp_1_11, zp_1_11n, zf_1_12, zp_1_12, zp_1_12n, zEC1 hc, e1, zbk_x]
theorem d_39n {x0 : Int32} (hc : zCls h m w) (hx : x0 < 0 ∨ ¬ x0 < nI (ycur w).1.length) : zEnd h m (zcall zP sv (d + 48) 39 [.ref m, .int x0] h) 1 6 (.inr 2) w := by
  obtain ⟨t1, t2⟩ := zthrow hc
  refine ⟨_, ?_, t1, t2⟩
  have q1 := zCls_0 hc
  have e1 := d_70n (sv := sv) (d := d + 45) hc hx
  simp (disch := exact znw_u) only [zc_39, zs_39_0, zs_39_0n, zs_39_1, zs_39_4, zs_39_4n, zs_39_5, zs_39_6, zs_39_9, zs_39_12, q1, zECc, zrc_1, zf_1_0, zp_1_0, zp_1_0n, zf_1_1, zp_1_1, zf_1_2, zp_1_2, zp_1_2n, zf_1_3, zp_1_3, zp_1_3n, zf_1_4, zp_1_40, zp_1_41, zf_1_5, zp_1_5, zp_1_5n, zf_1_6, zp_1_6, zp_1_6n, zf_1_7, zp_1_7, zp_1_7n, zf_1_8, zp_1_8, zp_1_8n, zf_1_9, zp_1_9, zp_1_9n, zf_1_10, zp_1_10, zp_1_10n, zf_1_11, zp_1_11, zp_1_11n, zf_1_12, zp_1_12, zp_1_12n, zEC1 hc, e1, zbk_x]
theorem d_40n {x0 : Int32} (hc : zCls h m w) (hx : x0 < 0 ∨ ¬ x0 < nI (ycur w).1.length) : zEnd h m (zcall zP sv (d + 48) 40 [.ref m, .int x0] h) 1 6 (.inr 2) w := by
  obtain ⟨t1, t2⟩ := zthrow hc
  refine ⟨_, ?_, t1, t2⟩
  have q1 := zCls_0 hc
  have e1 := d_70n (sv := sv) (d := d + 45) hc hx
  simp (disch := exact znw_u) only [zc_40, zs_40_0, zs_40_0n, zs_40_1, zs_40_2, zs_40_5, zs_40_5n, zs_40_6, zs_40_7, zs_40_8, zs_40_9, zs_40_9n, zs_40_10, zs_40_13, zs_40_16, zs_40_16n, zs_40_17, zs_40_18, zs_40_21, zs_40_23, zs_40_26, zs_40_27, zs_40_28, zs_40_31, zs_40_34, zs_40_35, q1, zECc, zrc_1, zf_1_0, zp_1_0, zp_1_0n, zf_1_1, zp_1_1, zf_1_2, zp_1_2, zp_1_2n, zf_1_3, zp_1_3, zp_1_3n, zf_1_4, zp_1_40, zp_1_41, zf_1_5, zp_1_5, zp_1_5n, zf_1_6, zp_1_6, zp_1_6n, zf_1_7, zp_1_7, zp_1_7n, zf_1_8, zp_1_8, zp_1_8n, zf_1_9, zp_1_9, zp_1_9n, zf_1_10, zp_1_10, zp_1_10n, zf_1_11, zp_1_11, zp_1_11n, zf_1_12, zp_1_12, zp_1_12n, zEC1 hc, e1, zbk_x]
theorem d_41n {x0 : Int32} {x1 : Int32} (hc : zCls h m w) (hx : x0 < 0 ∨ ¬ x0 < nI (ycur w).1.length) : zEnd h m (zcall zP sv (d + 48) 41 [.ref m, .int x0, .int x1] h) 1 6 (.inr 2) w := by
  obtain ⟨t1, t2⟩ := zthrow hc
  refine ⟨_, ?_, t1, t2⟩
  have q1 := zCls_0 hc
  have e1 := d_70n (sv := sv) (d := d + 45) hc hx
  simp (disch := exact znw_u) only [zc_41, zs_41_0, zs_41_0n, zs_41_1, zs_41_2, zs_41_5, zs_41_5n, zs_41_6, zs_41_6n, zs_41_7, zs_41_8, zs_41_11, zs_41_11n, zs_41_13, zs_41_13n, zs_41_14, zs_41_14n, zs_41_15, zs_41_18, zs_41_18n, zs_41_20, zs_41_20n, zs_41_22, zs_41_25, zs_41_26, zs_41_29, q1, zECc, zrc_1, zf_1_0, zp_1_0, zp_1_0n, zf_1_1, zp_1_1, zf_1_2, zp_1_2, zp_1_2n, zf_1_3, zp_1_3, zp_1_3n, zf_1_4, zp_1_40, zp_1_41, zf_1_5, zp_1_5, zp_1_5n, zf_1_6, zp_1_6, zp_1_6n, zf_1_7, zp_1_7, zp_1_7n, zf_1_8, zp_1_8, zp_1_8n, zf_1_9, zp_1_9, zp_1_9n, zf_1_10, zp_1_10, zp_1_10n, zf_1_11, zp_1_11, zp_1_11n, zf_1_12, zp_1_12, zp_1_12n, zEC1 hc, e1, zbk_x]
theorem d_42n {x0 : Int32} (hc : zCls h m w) (hx : x0 < 0 ∨ ¬ x0 < nI (ycur w).1.length) : zEnd h m (zcall zP sv (d + 48) 42 [.ref m, .int x0] h) 1 6 (.inr 2) w := by
  obtain ⟨t1, t2⟩ := zthrow hc
  refine ⟨_, ?_, t1, t2⟩
  have q1 := zCls_0 hc
  have e1 := d_70n (sv := sv) (d := d + 45) hc hx
  simp (disch := exact znw_u) only [zc_42, zs_42_0, zs_42_0n, zs_42_1, zs_42_1n, zs_42_2, zs_42_3, zs_42_6, zs_42_9, q1, zECc, zrc_1, zf_1_0, zp_1_0, zp_1_0n, zf_1_1, zp_1_1, zf_1_2, zp_1_2, zp_1_2n, zf_1_3, zp_1_3, zp_1_3n, zf_1_4, zp_1_40, zp_1_41, zf_1_5, zp_1_5, zp_1_5n, zf_1_6, zp_1_6, zp_1_6n, zf_1_7, zp_1_7, zp_1_7n, zf_1_8, zp_1_8, zp_1_8n, zf_1_9, zp_1_9, zp_1_9n, zf_1_10, zp_1_10, zp_1_10n, zf_1_11, zp_1_11, zp_1_11n, zf_1_12, zp_1_12, zp_1_12n, zEC1 hc, e1, zbk_x]
theorem d_43n {x0 : Int32} (hc : zCls h m w) (hx : x0 < 0 ∨ ¬ x0 < nI (ycur w).1.length) : zEnd h m (zcall zP sv (d + 48) 43 [.ref m, .int x0] h) 1 6 (.inr 2) w := by
  obtain ⟨t1, t2⟩ := zthrow hc
  refine ⟨_, ?_, t1, t2⟩
  have q1 := zCls_0 hc
  have e1 := d_70n (sv := sv) (d := d + 45) hc hx
  simp (disch := exact znw_u) only [zc_43, zs_43_0, zs_43_0n, zs_43_1, zs_43_2, zs_43_5, zs_43_8, q1, zECc, zrc_1, zf_1_0, zp_1_0, zp_1_0n, zf_1_1, zp_1_1, zf_1_2, zp_1_2, zp_1_2n, zf_1_3, zp_1_3, zp_1_3n, zf_1_4, zp_1_40, zp_1_41, zf_1_5, zp_1_5, zp_1_5n, zf_1_6, zp_1_6, zp_1_6n, zf_1_7, zp_1_7, zp_1_7n, zf_1_8, zp_1_8, zp_1_8n, zf_1_9, zp_1_9, zp_1_9n, zf_1_10, zp_1_10, zp_1_10n, zf_1_11, zp_1_11, zp_1_11n, zf_1_12, zp_1_12, zp_1_12n, zEC1 hc, e1, zbk_x]
theorem d_44n {x0 : Int32} {x1 : Int32} (hc : zCls h m w) (hx : x0 < 0 ∨ ¬ x0 < nI (ycur w).1.length) : zEnd h m (zcall zP sv (d + 48) 44 [.ref m, .int x0, .int x1] h) 1 6 (.inr 2) w := by
  obtain ⟨t1, t2⟩ := zthrow hc
  refine ⟨_, ?_, t1, t2⟩
  have q1 := zCls_0 hc
  have e1 := d_70n (sv := sv) (d := d + 45) hc hx
  simp (disch := exact znw_u) only [zc_44, zs_44_0, zs_44_0n, zs_44_1, zs_44_2, zs_44_5, zs_44_5n, zs_44_6, zs_44_6n, zs_44_7, zs_44_8, zs_44_11, zs_44_11n, zs_44_13, zs_44_13n, zs_44_14, zs_44_14n, zs_44_16, zs_44_19, zs_44_21, zs_44_21n, zs_44_22, zs_44_22n, zs_44_23, zs_44_26, zs_44_28, zs_44_28n, zs_44_29, zs_44_32, zs_44_32n, zs_44_34, zs_44_37, zs_44_39, zs_44_41, zs_44_42, zs_44_42n, zs_44_43, zs_44_46, zs_44_49, zs_44_50, q1, zECc, zrc_1, zf_1_0, zp_1_0, zp_1_0n, zf_1_1, zp_1_1, zf_1_2, zp_1_2, zp_1_2n, zf_1_3, zp_1_3, zp_1_3n, zf_1_4, zp_1_40, zp_1_41, zf_1_5, zp_1_5, zp_1_5n, zf_1_6, zp_1_6, zp_1_6n, zf_1_7, zp_1_7, zp_1_7n, zf_1_8, zp_1_8, zp_1_8n, zf_1_9, zp_1_9, zp_1_9n, zf_1_10, zp_1_10, zp_1_10n, zf_1_11, zp_1_11, zp_1_11n, zf_1_12, zp_1_12, zp_1_12n, zEC1 hc, e1, zbk_x]
theorem d_45n {x0 : Int32} (hc : zCls h m w) (hx : x0 < 0 ∨ ¬ x0 < nI (ycur w).1.length) : zEnd h m (zcall zP sv (d + 48) 45 [.ref m, .int x0] h) 1 6 (.inr 2) w := by
  obtain ⟨t1, t2⟩ := zthrow hc
  refine ⟨_, ?_, t1, t2⟩
  have q1 := zCls_0 hc
  have e1 := d_70n (sv := sv) (d := d + 45) hc hx
  simp (disch := exact znw_u) only [zc_45, zs_45_0, zs_45_0n, zs_45_1, zs_45_2, zs_45_5, zs_45_5n, zs_45_6, zs_45_6n, zs_45_7, zs_45_10, zs_45_10n, zs_45_11, zs_45_11n, zs_45_12, zs_45_15, zs_45_15n, zs_45_16, zs_45_19, zs_45_22, zs_45_25, q1, zECc, zrc_1, zf_1_0, zp_1_0, zp_1_0n, zf_1_1, zp_1_1, zf_1_2, zp_1_2, zp_1_2n, zf_1_3, zp_1_3, zp_1_3n, zf_1_4, zp_1_40, zp_1_41, zf_1_5, zp_1_5, zp_1_5n, zf_1_6, zp_1_6, zp_1_6n, zf_1_7, zp_1_7, zp_1_7n, zf_1_8, zp_1_8, zp_1_8n, zf_1_9, zp_1_9, zp_1_9n, zf_1_10, zp_1_10, zp_1_10n, zf_1_11, zp_1_11, zp_1_11n, zf_1_12, zp_1_12, zp_1_12n, zEC1 hc, e1, zbk_x]
theorem d_46n {x0 : Int32} (hc : zCls h m w) (hx : x0 < 0 ∨ ¬ x0 < nI (ycur w).1.length) : zEnd h m (zcall zP sv (d + 48) 46 [.ref m, .int x0] h) 1 6 (.inr 2) w := by
  obtain ⟨t1, t2⟩ := zthrow hc
  refine ⟨_, ?_, t1, t2⟩
  have q1 := zCls_0 hc
  have e1 := d_70n (sv := sv) (d := d + 45) hc hx
  simp (disch := exact znw_u) only [zc_46, zs_46_0, zs_46_0n, zs_46_1, zs_46_1n, zs_46_2, zs_46_3, zs_46_6, zs_46_9, q1, zECc, zrc_1, zf_1_0, zp_1_0, zp_1_0n, zf_1_1, zp_1_1, zf_1_2, zp_1_2, zp_1_2n, zf_1_3, zp_1_3, zp_1_3n, zf_1_4, zp_1_40, zp_1_41, zf_1_5, zp_1_5, zp_1_5n, zf_1_6, zp_1_6, zp_1_6n, zf_1_7, zp_1_7, zp_1_7n, zf_1_8, zp_1_8, zp_1_8n, zf_1_9, zp_1_9, zp_1_9n, zf_1_10, zp_1_10, zp_1_10n, zf_1_11, zp_1_11, zp_1_11n, zf_1_12, zp_1_12, zp_1_12n, zEC1 hc, e1, zbk_x]
theorem d_47n {x0 : Int32} {x1 : Int32} (hc : zCls h m w) (hx : x0 < 0 ∨ ¬ x0 < nI (ycur w).1.length) : zEnd h m (zcall zP sv (d + 48) 47 [.ref m, .int x0, .int x1] h) 1 6 (.inr 2) w := by
  obtain ⟨t1, t2⟩ := zthrow hc
  refine ⟨_, ?_, t1, t2⟩
  have q1 := zCls_0 hc
  have e1 := d_70n (sv := sv) (d := d + 45) hc hx
  simp (disch := exact znw_u) only [zc_47, zs_47_0, zs_47_0n, zs_47_1, zs_47_2, zs_47_5, zs_47_5n, zs_47_6, zs_47_7, zs_47_10, zs_47_10n, zs_47_11, zs_47_14, zs_47_14n, zs_47_15, zs_47_16, zs_47_16n, zs_47_17, zs_47_20, zs_47_23, zs_47_26, q1, zECc, zrc_1, zf_1_0, zp_1_0, zp_1_0n, zf_1_1, zp_1_1, zf_1_2, zp_1_2, zp_1_2n, zf_1_3, zp_1_3, zp_1_3n, zf_1_4, zp_1_40, zp_1_41, zf_1_5, zp_1_5, zp_1_5n, zf_1_6, zp_1_6, zp_1_6n, zf_1_7, zp_1_7, zp_1_7n, zf_1_8, zp_1_8, zp_1_8n, zf_1_9, zp_1_9, zp_1_9n, zf_1_10, zp_1_10, zp_1_10n, zf_1_11, zp_1_11, zp_1_11n, zf_1_12, zp_1_12, zp_1_12n, zEC1 hc, e1, zbk_x]
theorem d_48n {x0 : Int32} {x1 : Int32} (hc : zCls h m w) (hx : x0 < 0 ∨ ¬ x0 < nI (ycur w).1.length) : zEnd h m (zcall zP sv (d + 48) 48 [.ref m, .int x0, .int x1] h) 1 6 (.inr 2) w := by
  obtain ⟨t1, t2⟩ := zthrow hc
  refine ⟨_, ?_, t1, t2⟩
  have q1 := zCls_0 hc
  have e1 := d_70n (sv := sv) (d := d + 45) hc hx
  simp (disch := exact znw_u) only [zc_48, zs_48_0, zs_48_0n, zs_48_1, zs_48_2, zs_48_5, zs_48_5n, zs_48_6, zs_48_7, zs_48_10, zs_48_10n, zs_48_11, zs_48_14, zs_48_14n, zs_48_15, zs_48_16, zs_48_16n, zs_48_17, zs_48_20, zs_48_23, zs_48_25, zs_48_25n, zs_48_26, zs_48_29, zs_48_29n, zs_48_30, zs_48_33, zs_48_35, zs_48_35n, zs_48_36, zs_48_39, zs_48_42, zs_48_45, q1, zECc, zrc_1, zf_1_0, zp_1_0, zp_1_0n, zf_1_1, zp_1_1, zf_1_2, zp_1_2, zp_1_2n, zf_1_3, zp_1_3, zp_1_3n, zf_1_4, zp_1_40, zp_1_41, zf_1_5, zp_1_5, zp_1_5n, zf_1_6, zp_1_6, zp_1_6n, zf_1_7, zp_1_7, zp_1_7n, zf_1_8, zp_1_8, zp_1_8n, zf_1_9, zp_1_9, zp_1_9n, zf_1_10, zp_1_10, zp_1_10n, zf_1_11, zp_1_11, zp_1_11n, zf_1_12, zp_1_12, zp_1_12n, zEC1 hc, e1, zbk_x]
theorem d_49n {x0 : Int32} (hc : zCls h m w) (hx : x0 < 0 ∨ ¬ x0 < nI (ycur w).1.length) : zEnd h m (zcall zP sv (d + 48) 49 [.ref m, .int x0] h) 1 6 (.inr 2) w := by
  obtain ⟨t1, t2⟩ := zthrow hc
  refine ⟨_, ?_, t1, t2⟩
  have q1 := zCls_0 hc
  have e1 := d_70n (sv := sv) (d := d + 45) hc hx
  simp (disch := exact znw_u) only [zc_49, zs_49_0, zs_49_0n, zs_49_1, zs_49_4, zs_49_4n, zs_49_5, zs_49_6, zs_49_9, zs_49_12, q1, zECc, zrc_1, zf_1_0, zp_1_0, zp_1_0n, zf_1_1, zp_1_1, zf_1_2, zp_1_2, zp_1_2n, zf_1_3, zp_1_3, zp_1_3n, zf_1_4, zp_1_40, zp_1_41, zf_1_5, zp_1_5, zp_1_5n, zf_1_6, zp_1_6, zp_1_6n, zf_1_7, zp_1_7, zp_1_7n, zf_1_8, zp_1_8, zp_1_8n, zf_1_9, zp_1_9, zp_1_9n, zf_1_10, zp_1_10, zp_1_10n, zf_1_11, zp_1_11, zp_1_11n, zf_1_12, zp_1_12, zp_1_12n, zEC1 hc, e1, zbk_x]
theorem d_50n {x0 : Int32} (hc : zCls h m w) (hx : x0 < 0 ∨ ¬ x0 < nI (ycur w).1.length) : zEnd h m (zcall zP sv (d + 48) 50 [.ref m, .int x0] h) 1 6 (.inr 2) w := by
  obtain ⟨t1, t2⟩ := zthrow hc
  refine ⟨_, ?_, t1, t2⟩
  have q1 := zCls_0 hc
  have e1 := d_70n (sv := sv) (d := d + 45) hc hx
  simp (disch := exact znw_u) only [zc_50, zs_50_0, zs_50_0n, zs_50_1, zs_50_4, zs_50_4n, zs_50_5, zs_50_6, zs_50_9, zs_50_12, q1, zECc, zrc_1, zf_1_0, zp_1_0, zp_1_0n, zf_1_1, zp_1_1, zf_1_2, zp_1_2, zp_1_2n, zf_1_3, zp_1_3, zp_1_3n, zf_1_4, zp_1_40, zp_1_41, zf_1_5, zp_1_5, zp_1_5n, zf_1_6, zp_1_6, zp_1_6n, zf_1_7, zp_1_7, zp_1_7n, zf_1_8, zp_1_8, zp_1_8n, zf_1_9, zp_1_9, zp_1_9n, zf_1_10, zp_1_10, zp_1_10n, zf_1_11, zp_1_11, zp_1_11n, zf_1_12, zp_1_12, zp_1_12n, zEC1 hc, e1, zbk_x]
theorem d_51n {x0 : Int32} (hc : zCls h m w) (hx : x0 < 0 ∨ ¬ x0 < nI (ycur w).1.length) : zEnd h m (zcall zP sv (d + 48) 51 [.ref m, .int x0] h) 1 6 (.inr 2) w := by
  obtain ⟨t1, t2⟩ := zthrow hc
  refine ⟨_, ?_, t1, t2⟩
  have q1 := zCls_0 hc
  have e1 := d_70n (sv := sv) (d := d + 45) hc hx
  simp (disch := exact znw_u) only [zc_51, zs_51_0, zs_51_0n, zs_51_1, zs_51_4, zs_51_4n, zs_51_5, zs_51_6, zs_51_9, zs_51_9n, zs_51_10, zs_51_13, zs_51_16, zs_51_19, zs_51_19n, zs_51_20, zs_51_23, zs_51_26, q1, zECc, zrc_1, zf_1_0, zp_1_0, zp_1_0n, zf_1_1, zp_1_1, zf_1_2, zp_1_2, zp_1_2n, zf_1_3, zp_1_3, zp_1_3n, zf_1_4, zp_1_40, zp_1_41, zf_1_5, zp_1_5, zp_1_5n, zf_1_6, zp_1_6, zp_1_6n, zf_1_7, zp_1_7, zp_1_7n, zf_1_8, zp_1_8, zp_1_8n, zf_1_9, zp_1_9, zp_1_9n, zf_1_10, zp_1_10, zp_1_10n, zf_1_11, zp_1_11, zp_1_11n, zf_1_12, zp_1_12, zp_1_12n, zEC1 hc, e1, zbk_x]
theorem d_52n {x0 : Int32} (hc : zCls h m w) (hx : x0 < 0 ∨ ¬ x0 < nI (ycur w).1.length) : zEnd h m (zcall zP sv (d + 48) 52 [.ref m, .int x0] h) 1 6 (.inr 2) w := by
  obtain ⟨t1, t2⟩ := zthrow hc
  refine ⟨_, ?_, t1, t2⟩
  have q1 := zCls_0 hc
  have e1 := d_70n (sv := sv) (d := d + 45) hc hx
  simp (disch := exact znw_u) only [zc_52, zs_52_0, zs_52_0n, zs_52_1, zs_52_4, zs_52_4n, zs_52_5, zs_52_6, zs_52_9, zs_52_9n, zs_52_10, zs_52_13, zs_52_16, zs_52_19, zs_52_19n, zs_52_20, zs_52_23, zs_52_26, q1, zECc, zrc_1, zf_1_0, zp_1_0, zp_1_0n, zf_1_1, zp_1_1, zf_1_2, zp_1_2, zp_1_2n, zf_1_3, zp_1_3, zp_1_3n, zf_1_4, zp_1_40, zp_1_41, zf_1_5, zp_1_5, zp_1_5n, zf_1_6, zp_1_6, zp_1_6n, zf_1_7, zp_1_7, zp_1_7n, zf_1_8, zp_1_8, zp_1_8n, zf_1_9, zp_1_9, zp_1_9n, zf_1_10, zp_1_10, zp_1_10n, zf_1_11, zp_1_11, zp_1_11n, zf_1_12, zp_1_12, zp_1_12n, zEC1 hc, e1, zbk_x]
theorem d_53n {x0 : Int32} (hc : zCls h m w) (hx : x0 < 0 ∨ ¬ x0 < nI (ycur w).1.length) : zEnd h m (zcall zP sv (d + 48) 53 [.ref m, .int x0] h) 1 6 (.inr 2) w := by
  obtain ⟨t1, t2⟩ := zthrow hc
  refine ⟨_, ?_, t1, t2⟩
  have q1 := zCls_0 hc
  have e1 := d_70n (sv := sv) (d := d + 45) hc hx
  simp (disch := exact znw_u) only [zc_53, zs_53_0, zs_53_0n, zs_53_1, zs_53_4, zs_53_4n, zs_53_5, zs_53_6, zs_53_9, zs_53_9n, zs_53_10, zs_53_13, zs_53_16, zs_53_19, zs_53_19n, zs_53_20, zs_53_23, zs_53_26, q1, zECc, zrc_1, zf_1_0, zp_1_0, zp_1_0n, zf_1_1, zp_1_1, zf_1_2, zp_1_2, zp_1_2n, zf_1_3, zp_1_3, zp_1_3n, zf_1_4, zp_1_40, zp_1_41, zf_1_5, zp_1_5, zp_1_5n, zf_1_6, zp_1_6, zp_1_6n, zf_1_7, zp_1_7, zp_1_7n, zf_1_8, zp_1_8, zp_1_8n, zf_1_9, zp_1_9, zp_1_9n, zf_1_10, zp_1_10, zp_1_10n, zf_1_11, zp_1_11, zp_1_11n, zf_1_12, zp_1_12, zp_1_12n, zEC1 hc, e1, zbk_x]
theorem d_54n {x0 : Int32} (hc : zCls h m w) (hx : x0 < 0 ∨ ¬ x0 < nI (ycur w).1.length) : zEnd h m (zcall zP sv (d + 48) 54 [.ref m, .int x0] h) 1 6 (.inr 2) w := by
  obtain ⟨t1, t2⟩ := zthrow hc
  refine ⟨_, ?_, t1, t2⟩
  have q1 := zCls_0 hc
  have e1 := d_70n (sv := sv) (d := d + 45) hc hx
  simp (disch := exact znw_u) only [zc_54, zs_54_0, zs_54_0n, zs_54_1, zs_54_2, zs_54_5, zs_54_5n, zs_54_6, zs_54_7, zs_54_8, zs_54_9, zs_54_10, zs_54_13, zs_54_13n, zs_54_14, zs_54_17, zs_54_17n, zs_54_18, zs_54_19, zs_54_22, zs_54_22n, zs_54_23, zs_54_26, zs_54_29, zs_54_32, zs_54_33, zs_54_34, zs_54_37, zs_54_40, q1, zECc, zrc_1, zf_1_0, zp_1_0, zp_1_0n, zf_1_1, zp_1_1, zf_1_2, zp_1_2, zp_1_2n, zf_1_3, zp_1_3, zp_1_3n, zf_1_4, zp_1_40, zp_1_41, zf_1_5, zp_1_5, zp_1_5n, zf_1_6, zp_1_6, zp_1_6n, zf_1_7, zp_1_7, zp_1_7n, zf_1_8, zp_1_8, zp_1_8n, zf_1_9, zp_1_9, zp_1_9n, zf_1_10, zp_1_10, zp_1_10n, zf_1_11, zp_1_11, zp_1_11n, zf_1_12, zp_1_12, zp_1_12n, zEC1 hc, e1, zbk_x]
theorem d_55n {x0 : Int32} {x1 : Int32} (hc : zCls h m w) (hx : x0 < 0 ∨ ¬ x0 < nI (ycur w).1.length) : zEnd h m (zcall zP sv (d + 48) 55 [.ref m, .int x0, .int x1] h) 1 6 (.inr 2) w := by
  obtain ⟨t1, t2⟩ := zthrow hc
  refine ⟨_, ?_, t1, t2⟩
  have q1 := zCls_0 hc
  have e1 := d_70n (sv := sv) (d := d + 45) hc hx
  simp (disch := exact znw_u) only [zc_55, zs_55_0, zs_55_0n, zs_55_1, zs_55_4, zs_55_4n, zs_55_5, zs_55_6, zs_55_9, zs_55_9n, zs_55_10, zs_55_13, zs_55_16, zs_55_19, zs_55_19n, zs_55_20, zs_55_21, zs_55_24, zs_55_24n, zs_55_25, zs_55_28, zs_55_29, zs_55_32, q1, zECc, zrc_1, zf_1_0, zp_1_0, zp_1_0n, zf_1_1, zp_1_1, zf_1_2, zp_1_2, zp_1_2n, zf_1_3, zp_1_3, zp_1_3n, zf_1_4, zp_1_40, zp_1_41, zf_1_5, zp_1_5, zp_1_5n, zf_1_6, zp_1_6, zp_1_6n, zf_1_7, zp_1_7, zp_1_7n, zf_1_8, zp_1_8, zp_1_8n, zf_1_9, zp_1_9, zp_1_9n, zf_1_10, zp_1_10, zp_1_10n, zf_1_11, zp_1_11, zp_1_11n, zf_1_12, zp_1_12, zp_1_12n, zEC1 hc, e1, zbk_x]
theorem d_56n {x0 : Int32} {x1 : Int32} (hc : zCls h m w) (hx : x0 < 0 ∨ ¬ x0 < nI (ycur w).1.length) : zEnd h m (zcall zP sv (d + 48) 56 [.ref m, .int x0, .int x1] h) 1 6 (.inr 2) w := by
  obtain ⟨t1, t2⟩ := zthrow hc
  refine ⟨_, ?_, t1, t2⟩
  have q1 := zCls_0 hc
  have e1 := d_70n (sv := sv) (d := d + 45) hc hx
  simp (disch := exact znw_u) only [zc_56, zs_56_0, zs_56_0n, zs_56_1, zs_56_4, zs_56_4n, zs_56_5, zs_56_6, zs_56_9, zs_56_9n, zs_56_10, zs_56_13, zs_56_16, zs_56_19, zs_56_19n, zs_56_20, zs_56_21, zs_56_24, zs_56_24n, zs_56_25, zs_56_28, zs_56_29, zs_56_32, q1, zECc, zrc_1, zf_1_0, zp_1_0, zp_1_0n, zf_1_1, zp_1_1, zf_1_2, zp_1_2, zp_1_2n, zf_1_3, zp_1_3, zp_1_3n, zf_1_4, zp_1_40, zp_1_41, zf_1_5, zp_1_5, zp_1_5n, zf_1_6, zp_1_6, zp_1_6n, zf_1_7, zp_1_7, zp_1_7n, zf_1_8, zp_1_8, zp_1_8n, zf_1_9, zp_1_9, zp_1_9n, zf_1_10, zp_1_10, zp_1_10n, zf_1_11, zp_1_11, zp_1_11n, zf_1_12, zp_1_12, zp_1_12n, zEC1 hc, e1, zbk_x]
theorem d_57n {x0 : Int32} {x1 : Int32} (hc : zCls h m w) (hx : x0 < 0 ∨ ¬ x0 < nI (ycur w).1.length) : zEnd h m (zcall zP sv (d + 48) 57 [.ref m, .int x0, .int x1] h) 1 6 (.inr 2) w := by
  obtain ⟨t1, t2⟩ := zthrow hc
  refine ⟨_, ?_, t1, t2⟩
  have q1 := zCls_0 hc
  have e1 := d_70n (sv := sv) (d := d + 45) hc hx
  simp (disch := exact znw_u) only [zc_57, zs_57_0, zs_57_0n, zs_57_1, zs_57_4, zs_57_4n, zs_57_5, zs_57_6, zs_57_9, zs_57_9n, zs_57_10, zs_57_13, zs_57_16, zs_57_19, zs_57_19n, zs_57_20, zs_57_21, zs_57_24, zs_57_24n, zs_57_25, zs_57_28, zs_57_29, zs_57_32, zs_57_32n, zs_57_33, zs_57_36, zs_57_37, zs_57_37n, zs_57_38, zs_57_41, zs_57_44, zs_57_44n, zs_57_45, zs_57_48, zs_57_51, q1, zECc, zrc_1, zf_1_0, zp_1_0, zp_1_0n, zf_1_1, zp_1_1, zf_1_2, zp_1_2, zp_1_2n, zf_1_3, zp_1_3, zp_1_3n, zf_1_4, zp_1_40, zp_1_41, zf_1_5, zp_1_5, zp_1_5n, zf_1_6, zp_1_6, zp_1_6n, zf_1_7, zp_1_7, zp_1_7n, zf_1_8, zp_1_8, zp_1_8n, zf_1_9, zp_1_9, zp_1_9n, zf_1_10, zp_1_10, zp_1_10n, zf_1_11, zp_1_11, zp_1_11n, zf_1_12, zp_1_12, zp_1_12n, zEC1 hc, e1, zbk_x]
theorem d_58n {x0 : Int32} (hc : zCls h m w) (hx : x0 < 0 ∨ ¬ x0 < nI (ycur w).1.length) : zEnd h m (zcall zP sv (d + 48) 58 [.ref m, .int x0] h) 1 6 (.inr 2) w := by
  obtain ⟨t1, t2⟩ := zthrow hc
  refine ⟨_, ?_, t1, t2⟩
  have q1 := zCls_0 hc
  have e1 := d_70n (sv := sv) (d := d + 45) hc hx
  simp (disch := exact znw_u) only [zc_58, zs_58_0, zs_58_0n, zs_58_1, zs_58_2, zs_58_5, zs_58_5n, zs_58_6, zs_58_6n, zs_58_7, zs_58_10, zs_58_11, zs_58_14, zs_58_14n, zs_58_15, zs_58_15n, zs_58_16, zs_58_19, zs_58_20, zs_58_21, zs_58_21n, zs_58_22, zs_58_25, zs_58_26, zs_58_29, zs_58_29n, zs_58_30, zs_58_33, zs_58_36, q1, zECc, zrc_1, zf_1_0, zp_1_0, zp_1_0n, zf_1_1, zp_1_1, zf_1_2, zp_1_2, zp_1_2n, zf_1_3, zp_1_3, zp_1_3n, zf_1_4, zp_1_40, zp_1_41, zf_1_5, zp_1_5, zp_1_5n, zf_1_6, zp_1_6, zp_1_6n, zf_1_7, zp_1_7, zp_1_7n, zf_1_8, zp_1_8, zp_1_8n, zf_1_9, zp_1_9, zp_1_9n, zf_1_10, zp_1_10, zp_1_10n, zf_1_11, zp_1_11, zp_1_11n, zf_1_12, zp_1_12, zp_1_12n, zEC1 hc, e1, zbk_x]
theorem d_63n {x0 : Int32} (hc : zCls h m w) (hx : x0 < 0 ∨ ¬ x0 < nI (ycur w).1.length) : zEnd h m (zcall zP sv (d + 48) 63 [.ref m, .int x0] h) 1 6 (.inr 2) w := by
  obtain ⟨t1, t2⟩ := zthrow hc
  refine ⟨_, ?_, t1, t2⟩
  have q1 := zCls_0 hc
  have e1 := d_70n (sv := sv) (d := d + 45) hc hx
  simp (disch := exact znw_u) only [zc_63, zs_63_0, zs_63_0n, zs_63_1, zs_63_4, zs_63_4n, zs_63_5, zs_63_6, zs_63_9, zs_63_9n, zs_63_10, zs_63_13, zs_63_16, zs_63_19, zs_63_19n, zs_63_20, zs_63_23, zs_63_26, zs_63_29, zs_63_30, zs_63_31, zs_63_31n, zs_63_32, zs_63_35, zs_63_38, zs_63_39, zs_63_39n, zs_63_40, zs_63_43, zs_63_46, zs_63_47, zs_63_48, q1, zECc, zrc_1, zf_1_0, zp_1_0, zp_1_0n, zf_1_1, zp_1_1, zf_1_2, zp_1_2, zp_1_2n, zf_1_3, zp_1_3, zp_1_3n, zf_1_4, zp_1_40, zp_1_41, zf_1_5, zp_1_5, zp_1_5n, zf_1_6, zp_1_6, zp_1_6n, zf_1_7, zp_1_7, zp_1_7n, zf_1_8, zp_1_8, zp_1_8n, zf_1_9, zp_1_9, zp_1_9n, zf_1_10, zp_1_10, zp_1_10n, zf_1_11, zp_1_11, zp_1_11n, zf_1_12, zp_1_12, zp_1_12n, zEC1 hc, e1, zbk_x]
theorem d_41m {i : Nat} {t : yT} {x1 : Int32} (hc : zCls h m w) (hi : (ycur w).1[i]? = some t) (hx : x1 < 0 ∨ ¬ x1 < nI (ycur w).1.length) : zEnd h m (zcall zP sv (d + 48) 41 [.ref m, .int (nI i), .int x1] h) 1 6 (.inr 2) w := by
  obtain ⟨t1, t2⟩ := zthrow hc
  refine ⟨_, ?_, t1, t2⟩
  obtain ⟨a, e0, _⟩ := d_70k (sv := sv) (d := d + 45) hc hi
  have e1 := d_70n (sv := sv) (d := d + 45) hc hx
  simp (disch := exact znw_u) only [zc_41, zs_41_0, zs_41_0n, zs_41_1, zs_41_2, zs_41_5, zs_41_5n, zs_41_6, zs_41_6n, zs_41_7, zs_41_8, zs_41_11, zs_41_11n, zs_41_13, zs_41_13n, zs_41_14, zs_41_14n, zs_41_15, zs_41_18, zs_41_18n, zs_41_20, zs_41_20n, zs_41_22, zs_41_25, zs_41_26, zs_41_29, zEC1 hc, e0, e1, zbk_v, zbk_x, zts_s]
theorem d_44m {i : Nat} {t : yT} {x1 : Int32} (hc : zCls h m w) (hi : (ycur w).1[i]? = some t) (hx : x1 < 0 ∨ ¬ x1 < nI (ycur w).1.length) : zEnd h m (zcall zP sv (d + 48) 44 [.ref m, .int (nI i), .int x1] h) 1 6 (.inr 2) w := by
  obtain ⟨t1, t2⟩ := zthrow hc
  refine ⟨_, ?_, t1, t2⟩
  obtain ⟨a, e0, _⟩ := d_70k (sv := sv) (d := d + 45) hc hi
  have e1 := d_70n (sv := sv) (d := d + 45) hc hx
  simp (disch := exact znw_u) only [zc_44, zs_44_0, zs_44_0n, zs_44_1, zs_44_2, zs_44_5, zs_44_5n, zs_44_6, zs_44_6n, zs_44_7, zs_44_8, zs_44_11, zs_44_11n, zs_44_13, zs_44_13n, zs_44_14, zs_44_14n, zs_44_16, zs_44_19, zs_44_21, zs_44_21n, zs_44_22, zs_44_22n, zs_44_23, zs_44_26, zs_44_28, zs_44_28n, zs_44_29, zs_44_32, zs_44_32n, zs_44_34, zs_44_37, zs_44_39, zs_44_41, zs_44_42, zs_44_42n, zs_44_43, zs_44_46, zs_44_49, zs_44_50, zEC1 hc, e0, e1, zbk_v, zbk_x, zts_s]
theorem d_38l {i : Nat} {t : yT} {c : Int32} (hc : zCls h m w) (hi : (ycur w).1[i]? = some t) (hl : ylet c = false) : zEnd h m (zcall zP sv (d + 48) 38 [.ref m, .int (nI i), .int c] h) 1 6 (.inr 1) w := by
  obtain ⟨t1, t2⟩ := zthrow hc
  refine ⟨_, ?_, t1, t2⟩
  obtain ⟨a, e0, _⟩ := d_70k (sv := sv) (d := d + 45) hc hi
  simp (disch := exact znw_u) only [zc_38, zs_38_0, zs_38_0n, zs_38_1, zs_38_2, zs_38_5, zs_38_5n, zs_38_6, zs_38_7, zs_38_10, zs_38_11, zs_38_13, zs_38_14, zs_38_16, zs_38_18, zs_38_18n, zs_38_19, zs_38_22, zs_38_25, zs_38_25n, zs_38_26, zs_38_28, zs_38_29, zs_38_32, zs_38_35, zs_38_38, zs_38_41, zs_38_44, zs_38_46, zEC1 hc, e0, d_72n hl, zbk_v, zbk_x, zts_s]
theorem d_47l {i : Nat} {t : yT} {c : Int32} (hc : zCls h m w) (hi : (ycur w).1[i]? = some t) (hl : ylet c = false) : zEnd h m (zcall zP sv (d + 48) 47 [.ref m, .int (nI i), .int c] h) 1 6 (.inr 1) w := by
  obtain ⟨t1, t2⟩ := zthrow hc
  refine ⟨_, ?_, t1, t2⟩
  obtain ⟨a, e0, _⟩ := d_70k (sv := sv) (d := d + 45) hc hi
  simp (disch := exact znw_u) only [zc_47, zs_47_0, zs_47_0n, zs_47_1, zs_47_2, zs_47_5, zs_47_5n, zs_47_6, zs_47_7, zs_47_10, zs_47_10n, zs_47_11, zs_47_14, zs_47_14n, zs_47_15, zs_47_16, zs_47_16n, zs_47_17, zs_47_20, zs_47_23, zs_47_26, zEC1 hc, e0, d_72n hl, zbk_v, zbk_x, zts_s]
theorem d_48l {i : Nat} {t : yT} {c : Int32} (hc : zCls h m w) (hi : (ycur w).1[i]? = some t) (hl : ylet c = false) : zEnd h m (zcall zP sv (d + 48) 48 [.ref m, .int (nI i), .int c] h) 1 6 (.inr 1) w := by
  obtain ⟨t1, t2⟩ := zthrow hc
  refine ⟨_, ?_, t1, t2⟩
  obtain ⟨a, e0, _⟩ := d_70k (sv := sv) (d := d + 45) hc hi
  simp (disch := exact znw_u) only [zc_48, zs_48_0, zs_48_0n, zs_48_1, zs_48_2, zs_48_5, zs_48_5n, zs_48_6, zs_48_7, zs_48_10, zs_48_10n, zs_48_11, zs_48_14, zs_48_14n, zs_48_15, zs_48_16, zs_48_16n, zs_48_17, zs_48_20, zs_48_23, zs_48_25, zs_48_25n, zs_48_26, zs_48_29, zs_48_29n, zs_48_30, zs_48_33, zs_48_35, zs_48_35n, zs_48_36, zs_48_39, zs_48_42, zs_48_45, zEC1 hc, e0, d_72n hl, zbk_v, zbk_x, zts_s]
theorem zEnd_q {h' : zH} {r : zR} {o : zO} {A B C : List Int32} (hc : zCls h m w) (hr : r = some (o, h')) (hf : zfr (m + 78) (m + 85) h h') (hg : zGau h' (m + 78) A B C) : zEnd h m r 0 0 o w := ⟨h', hr, zCls_g hc hf hg, zfr_fx hf (by omega) (by omega)⟩
theorem zEnd_s {r : zR} {o : zO} (hc : zCls h m w) (hr : r = some (o, h)) : zEnd h m r 0 0 o w := ⟨h, hr, hc, zfx_rfl⟩
theorem zgau_ex (hc : zCls h m w) : ∃ A B C, zGau h (m + 78) A B C := hc.2.2.2.2.2.2.1.2.2.2.1
theorem zcur_ex (hc : zCls h m w) : ∃ S, zSta h (m + 3) S ∧ zAS h m S (ycur w) := hc.2.2.1
theorem d_36 {i : Nat} {t : yT} (hc : zCls h m w) (hi : (ycur w).1[i]? = some t) : zEnd h m (zcall zP sv (d + 48) 36 [.ref m, .int (nI i)] h) 0 0 (.inl (some (.int (nI (ysz t))))) w := by
  obtain ⟨a, e0, a1, a2, a3, a4⟩ := d_70k (sv := sv) (d := d + 45) hc hi
  have e1 := d_182 (sv := sv) (d := d + 46) a3
  rw [ypo_len] at e1
  refine zEnd_s hc ?_
  simp (disch := exact znw_u) only [zc_36, zs_36_0, zs_36_0n, zs_36_1, zs_36_2, zs_36_5, zs_36_8, zEC1 hc, e0, zTre_rc a3, e1, zbk_v, zts_s]
theorem d_37 {i : Nat} {t : yT} (hc : zCls h m w) (hi : (ycur w).1[i]? = some t) : zEnd h m (zcall zP sv (d + 48) 37 [.ref m, .int (nI i)] h) 0 0 (.inl (some (.int (nI (ydp t))))) w := by
  have q1 := zCls_0 hc
  obtain ⟨a, e0, a1, a2, a3, a4⟩ := d_70k (sv := sv) (d := d + 45) hc hi
  have hsz := a4.2.1
  have hdp := a4.2.2
  obtain ⟨f1, f2, f3, f4⟩ := yform a4.1 (by omega)
  obtain ⟨A, B, C, hg⟩ := zgau_ex hc
  obtain ⟨h1, A', e1, g1, r1, f5⟩ := d_118 (sv := sv) (d := d + 43) (rt := nI (ysz t - 1)) f1 (by omega) (by omega) a3 hg
  rw [yQ_g r1 (Or.inr ⟨ysz t - 1, by omega, rfl⟩) (Nat.le_refl _) f1.1, f2, yfo_L t (by omega)] at e1
  refine zEnd_q hc ?_ f5 g1
  simp (disch := exact znw_u) only [zc_37, zs_37_0, zs_37_0n, zs_37_1, zs_37_2, zs_37_5, zs_37_5n, zs_37_6, zs_37_6n, zs_37_7, zs_37_10, zs_37_10n, zs_37_11, zs_37_11n, zs_37_12, zs_37_15, zs_37_18, q1, zECc, zrc_1, zf_1_0, zp_1_0, zp_1_0n, zf_1_1, zp_1_1, zf_1_2, zp_1_2, zp_1_2n, zf_1_3, zp_1_3, zp_1_3n, zf_1_4, zp_1_40, zp_1_41, zf_1_5, zp_1_5, zp_1_5n, zf_1_6, zp_1_6, zp_1_6n, zf_1_7, zp_1_7, zp_1_7n, zf_1_8, zp_1_8, zp_1_8n, zf_1_9, zp_1_9, zp_1_9n, zf_1_10, zp_1_10, zp_1_10n, zf_1_11, zp_1_11, zp_1_11n, zf_1_12, zp_1_12, zp_1_12n, zEC1 hc, e0, zTre_rc a3, d_183 a3, yroot_sub f4, zGau_rc hg, e1, zbk_v, zts_s]
theorem d_39 {i : Nat} {t : yT} (hc : zCls h m w) (hi : (ycur w).1[i]? = some t) : zEnd h m (zcall zP sv (d + 48) 39 [.ref m, .int (nI i)] h) 0 0 (.inl (some (.int (yfo yfP t)))) w := by
  have q1 := zCls_0 hc
  obtain ⟨a, e0, a1, a2, a3, a4⟩ := d_70k (sv := sv) (d := d + 45) hc hi
  have hsz := a4.2.1
  obtain ⟨f1, f2, f3, f4⟩ := yform a4.1 (by omega)
  obtain ⟨A, B, C, hg⟩ := zgau_ex hc
  obtain ⟨h1, A', e1, g1, r1, f5⟩ := d_119 (sv := sv) (d := d + 43) f1 (by omega) (by omega) a3 hg
  rw [yroot_sub f4, yQ_g r1 (Or.inr ⟨ysz t - 1, by omega, rfl⟩) (Nat.le_refl _) f1.1, f2] at e1
  refine zEnd_q hc ?_ f5 g1
  simp (disch := exact znw_u) only [zc_39, zs_39_0, zs_39_0n, zs_39_1, zs_39_4, zs_39_4n, zs_39_5, zs_39_6, zs_39_9, zs_39_12, q1, zECc, zrc_1, zf_1_0, zp_1_0, zp_1_0n, zf_1_1, zp_1_1, zf_1_2, zp_1_2, zp_1_2n, zf_1_3, zp_1_3, zp_1_3n, zf_1_4, zp_1_40, zp_1_41, zf_1_5, zp_1_5, zp_1_5n, zf_1_6, zp_1_6, zp_1_6n, zf_1_7, zp_1_7, zp_1_7n, zf_1_8, zp_1_8, zp_1_8n, zf_1_9, zp_1_9, zp_1_9n, zf_1_10, zp_1_10, zp_1_10n, zf_1_11, zp_1_11, zp_1_11n, zf_1_12, zp_1_12, zp_1_12n, zEC1 hc, e0, zGau_rc hg, e1, zbk_v, zts_s]
theorem d_49 {i : Nat} {t : yT} (hc : zCls h m w) (hi : (ycur w).1[i]? = some t) : zEnd h m (zcall zP sv (d + 48) 49 [.ref m, .int (nI i)] h) 0 0 (.inl (some (.int (yfo yfD t)))) w := by
  have q1 := zCls_0 hc
  obtain ⟨a, e0, a1, a2, a3, a4⟩ := d_70k (sv := sv) (d := d + 45) hc hi
  have hsz := a4.2.1
  obtain ⟨f1, f2, f3, f4⟩ := yform a4.1 (by omega)
  obtain ⟨A, B, C, hg⟩ := zgau_ex hc
  obtain ⟨h1, A', e1, g1, r1, f5⟩ := d_125 (sv := sv) (d := d + 43) f1 (by omega) (by omega) a3 hg
  rw [yroot_sub f4, yQ_g r1 (Or.inr ⟨ysz t - 1, by omega, rfl⟩) (Nat.le_refl _) f1.1, f2] at e1
  refine zEnd_q hc ?_ f5 g1
  simp (disch := exact znw_u) only [zc_49, zs_49_0, zs_49_0n, zs_49_1, zs_49_4, zs_49_4n, zs_49_5, zs_49_6, zs_49_9, zs_49_12, q1, zECc, zrc_1, zf_1_0, zp_1_0, zp_1_0n, zf_1_1, zp_1_1, zf_1_2, zp_1_2, zp_1_2n, zf_1_3, zp_1_3, zp_1_3n, zf_1_4, zp_1_40, zp_1_41, zf_1_5, zp_1_5, zp_1_5n, zf_1_6, zp_1_6, zp_1_6n, zf_1_7, zp_1_7, zp_1_7n, zf_1_8, zp_1_8, zp_1_8n, zf_1_9, zp_1_9, zp_1_9n, zf_1_10, zp_1_10, zp_1_10n, zf_1_11, zp_1_11, zp_1_11n, zf_1_12, zp_1_12, zp_1_12n, zEC1 hc, e0, zGau_rc hg, e1, zbk_v, zts_s]
theorem d_50 {i : Nat} {t : yT} (hc : zCls h m w) (hi : (ycur w).1[i]? = some t) : zEnd h m (zcall zP sv (d + 48) 50 [.ref m, .int (nI i)] h) 0 0 (.inl (some (.int (yfo yfO t)))) w := by
  have q1 := zCls_0 hc
  obtain ⟨a, e0, a1, a2, a3, a4⟩ := d_70k (sv := sv) (d := d + 45) hc hi
  have hsz := a4.2.1
  obtain ⟨f1, f2, f3, f4⟩ := yform a4.1 (by omega)
  obtain ⟨A, B, C, hg⟩ := zgau_ex hc
  obtain ⟨h1, A', e1, g1, r1, f5⟩ := d_128 (sv := sv) (d := d + 43) f1 (by omega) (by omega) a3 hg
  rw [yroot_sub f4, yQ_g r1 (Or.inr ⟨ysz t - 1, by omega, rfl⟩) (Nat.le_refl _) f1.1, f2] at e1
  refine zEnd_q hc ?_ f5 g1
  simp (disch := exact znw_u) only [zc_50, zs_50_0, zs_50_0n, zs_50_1, zs_50_4, zs_50_4n, zs_50_5, zs_50_6, zs_50_9, zs_50_12, q1, zECc, zrc_1, zf_1_0, zp_1_0, zp_1_0n, zf_1_1, zp_1_1, zf_1_2, zp_1_2, zp_1_2n, zf_1_3, zp_1_3, zp_1_3n, zf_1_4, zp_1_40, zp_1_41, zf_1_5, zp_1_5, zp_1_5n, zf_1_6, zp_1_6, zp_1_6n, zf_1_7, zp_1_7, zp_1_7n, zf_1_8, zp_1_8, zp_1_8n, zf_1_9, zp_1_9, zp_1_9n, zf_1_10, zp_1_10, zp_1_10n, zf_1_11, zp_1_11, zp_1_11n, zf_1_12, zp_1_12, zp_1_12n, zEC1 hc, e0, zGau_rc hg, e1, zbk_v, zts_s]
theorem d_170 {s : Nat} {S : yS} (hs : zSta h s S) : zcall zP sv (d + 1) 170 [.ref s] h = some (.inl (some (.ref (s + 2))), h) := by
  simp only [zc_170, zs_170_0, zs_170_0n, zs_170_1, zs_170_4, zs_170_4n, hs.1, zrc_3, zf_3_0, zp_3_0, zp_3_0n, zf_3_1, zp_3_1, zf_3_2, zp_3_2, zp_3_2n, zf_3_3, zp_3_3, zf_3_4, zp_3_4]
theorem d_171 {s : Nat} {S : yS} (hs : zSta h s S) : zcall zP sv (d + 1) 171 [.ref s] h = some (.inl (some (.int S.2.2.1)), h) := by
  simp only [zc_171, zs_171_0, zs_171_0n, zs_171_1, zs_171_4, hs.1, zrc_3, zf_3_0, zp_3_0, zp_3_0n, zf_3_1, zp_3_1, zf_3_2, zp_3_2, zp_3_2n, zf_3_3, zp_3_3, zf_3_4, zp_3_4]
theorem d_172 {s : Nat} {S : yS} (hs : zSta h s S) : zcall zP sv (d + 1) 172 [.ref s] h = some (.inl (some (.int S.2.2.2)), h) := by
  simp only [zc_172, zs_172_0, zs_172_0n, zs_172_1, zs_172_4, hs.1, zrc_3, zf_3_0, zp_3_0, zp_3_0n, zf_3_1, zp_3_1, zf_3_2, zp_3_2, zp_3_2n, zf_3_3, zp_3_3, zf_3_4, zp_3_4]
theorem d_169 {s : Nat} {S : yS} (hs : zSta h s S) : zcall zP sv (d + 1) 169 [.ref s] h = some (.inl (some (.int (nI S.1.length))), h) := by
  simp only [zc_169, zs_169_0, zs_169_0n, zs_169_1, zs_169_4, hs.1, zrc_3, zf_3_0, zp_3_0, zp_3_0n, zf_3_1, zp_3_1, zf_3_2, zp_3_2, zp_3_2n, zf_3_3, zp_3_3, zf_3_4, zp_3_4]
theorem d_45 {i : Nat} {t : yT} (hc : zCls h m w) (hi : (ycur w).1[i]? = some t) : zEnd h m (zcall zP sv (d + 48) 45 [.ref m, .int (nI i)] h) 0 0 (.inl (some (.int (yfo (yfR (ycur w).2.1) t)))) w := by
  have q1 := zCls_0 hc
  obtain ⟨a, e0, a1, a2, a3, a4⟩ := d_70k (sv := sv) (d := d + 45) hc hi
  have hsz := a4.2.1
  obtain ⟨f1, f2, f3, f4⟩ := yform a4.1 (by omega)
  obtain ⟨A, B, C, hg⟩ := zgau_ex hc
  obtain ⟨S, s1, s2⟩ := zcur_ex hc
  have hV : S.2.1 = (ycur w).2.1 := by rw [s2.1]
  have s3 := s1.2.2.1
  rw [hV] at s3
  obtain ⟨h1, A', e1, g1, r1, f5⟩ := d_121 (sv := sv) (d := d + 43) (rt := nI (ysz t - 1)) f1 (by omega) (by omega) (show m + 78 + 7 ≤ m + 3 + 2 ∨ m + 3 + 2 + 2 ≤ m + 78 by omega) a3 hg s3
  rw [yQ_g r1 (Or.inr ⟨ysz t - 1, by omega, rfl⟩) (Nat.le_refl _) f1.1, f2] at e1
  refine zEnd_q hc ?_ f5 g1
  simp (disch := exact znw_u) only [zc_45, zs_45_0, zs_45_0n, zs_45_1, zs_45_2, zs_45_5, zs_45_5n, zs_45_6, zs_45_6n, zs_45_7, zs_45_10, zs_45_10n, zs_45_11, zs_45_11n, zs_45_12, zs_45_15, zs_45_15n, zs_45_16, zs_45_19, zs_45_22, zs_45_25, q1, zECc, zrc_1, zf_1_0, zp_1_0, zp_1_0n, zf_1_1, zp_1_1, zf_1_2, zp_1_2, zp_1_2n, zf_1_3, zp_1_3, zp_1_3n, zf_1_4, zp_1_40, zp_1_41, zf_1_5, zp_1_5, zp_1_5n, zf_1_6, zp_1_6, zp_1_6n, zf_1_7, zp_1_7, zp_1_7n, zf_1_8, zp_1_8, zp_1_8n, zf_1_9, zp_1_9, zp_1_9n, zf_1_10, zp_1_10, zp_1_10n, zf_1_11, zp_1_11, zp_1_11n, zf_1_12, zp_1_12, zp_1_12n, zEC1 hc, e0, zTre_rc a3, d_183 a3, yroot_sub f4, zSta_rc s1, d_170 s1, zGau_rc hg, e1, zbk_v, zts_s]
theorem d_33 (hc : zCls h m w) : zEnd h m (zcall zP sv (d + 48) 33 [.ref m] h) 0 0 (.inl (some (.int (nI (ycur w).1.length)))) w := by
  have q1 := zCls_0 hc
  obtain ⟨S, s1, s2⟩ := zcur_ex hc
  have hl : S.1.length = (ycur w).1.length := s2.2.1.1
  have e1 := d_169 (sv := sv) (d := d + 46) s1
  rw [hl] at e1
  refine zEnd_s hc ?_
  simp (disch := exact znw_u) only [zc_33, zs_33_0, zs_33_0n, zs_33_1, zs_33_4, zs_33_7, q1, zECc, zrc_1, zf_1_0, zp_1_0, zp_1_0n, zf_1_1, zp_1_1, zf_1_2, zp_1_2, zp_1_2n, zf_1_3, zp_1_3, zp_1_3n, zf_1_4, zp_1_40, zp_1_41, zf_1_5, zp_1_5, zp_1_5n, zf_1_6, zp_1_6, zp_1_6n, zf_1_7, zp_1_7, zp_1_7n, zf_1_8, zp_1_8, zp_1_8n, zf_1_9, zp_1_9, zp_1_9n, zf_1_10, zp_1_10, zp_1_10n, zf_1_11, zp_1_11, zp_1_11n, zf_1_12, zp_1_12, zp_1_12n, zSta_rc s1, e1, zbk_v, zts_s]
theorem d_35 (hc : zCls h m w) : zEnd h m (zcall zP sv (d + 48) 35 [.ref m] h) 0 0 (.inl (some (.int (ycur w).2.2.1))) w := by
  have q1 := zCls_0 hc
  obtain ⟨S, s1, s2⟩ := zcur_ex hc
  have e1 := d_171 (sv := sv) (d := d + 46) s1
  rw [s2.1] at e1
  refine zEnd_s hc ?_
  simp (disch := exact znw_u) only [zc_35, zs_35_0, zs_35_0n, zs_35_1, zs_35_4, zs_35_7, q1, zECc, zrc_1, zf_1_0, zp_1_0, zp_1_0n, zf_1_1, zp_1_1, zf_1_2, zp_1_2, zp_1_2n, zf_1_3, zp_1_3, zp_1_3n, zf_1_4, zp_1_40, zp_1_41, zf_1_5, zp_1_5, zp_1_5n, zf_1_6, zp_1_6, zp_1_6n, zf_1_7, zp_1_7, zp_1_7n, zf_1_8, zp_1_8, zp_1_8n, zf_1_9, zp_1_9, zp_1_9n, zf_1_10, zp_1_10, zp_1_10n, zf_1_11, zp_1_11, zp_1_11n, zf_1_12, zp_1_12, zp_1_12n, zSta_rc s1, e1, zbk_v, zts_s]
theorem d_61 (hc : zCls h m w) : zEnd h m (zcall zP sv (d + 48) 61 [.ref m] h) 0 0 (.inl (some (.int (ycur w).2.2.2))) w := by
  have q1 := zCls_0 hc
  obtain ⟨S, s1, s2⟩ := zcur_ex hc
  have e1 := d_172 (sv := sv) (d := d + 46) s1
  rw [s2.1] at e1
  refine zEnd_s hc ?_
  simp (disch := exact znw_u) only [zc_61, zs_61_0, zs_61_0n, zs_61_1, zs_61_4, zs_61_7, q1, zECc, zrc_1, zf_1_0, zp_1_0, zp_1_0n, zf_1_1, zp_1_1, zf_1_2, zp_1_2, zp_1_2n, zf_1_3, zp_1_3, zp_1_3n, zf_1_4, zp_1_40, zp_1_41, zf_1_5, zp_1_5, zp_1_5n, zf_1_6, zp_1_6, zp_1_6n, zf_1_7, zp_1_7, zp_1_7n, zf_1_8, zp_1_8, zp_1_8n, zf_1_9, zp_1_9, zp_1_9n, zf_1_10, zp_1_10, zp_1_10n, zf_1_11, zp_1_11, zp_1_11n, zf_1_12, zp_1_12, zp_1_12n, zSta_rc s1, e1, zbk_v, zts_s]
theorem d_34n {c : Int32} (hc : zCls h m w) (hl : ylet c = false) : zEnd h m (zcall zP sv (d + 48) 34 [.ref m, .int c] h) 1 6 (.inr 1) w := by
  obtain ⟨t1, t2⟩ := zthrow hc
  refine ⟨_, ?_, t1, t2⟩
  simp (disch := exact znw_u) only [zc_34, zs_34_0, zs_34_1, zs_34_4, zs_34_4n, zs_34_5, zs_34_8, zs_34_11, zs_34_12, zs_34_14, zs_34_15, zs_34_18, d_72n hl, zbk_x]
theorem d_34 {c : Int32} (hc : zCls h m w) (hl : ylet c = true) : zEnd h m (zcall zP sv (d + 48) 34 [.ref m, .int c] h) 0 0 (.inl (some (.int (yg (ycur w).2.1 (c - nI 97))))) w := by
  have q1 := zCls_0 hc
  obtain ⟨S, s1, s2⟩ := zcur_ex hc
  have hV : S.2.1 = (ycur w).2.1 := by rw [s2.1]
  have s3 := s1.2.2.1
  have e1 := d_165 (sv := sv) (d := d + 46) (x := c - nI 97) s3
  rw [hV] at e1
  refine zEnd_s hc ?_
  simp (disch := exact znw_u) only [zc_34, zs_34_0, zs_34_1, zs_34_4, zs_34_4n, zs_34_5, zs_34_8, zs_34_11, zs_34_12, zs_34_14, zs_34_15, zs_34_18, d_72 hl, q1, zECc, zrc_1, zf_1_0, zp_1_0, zp_1_0n, zf_1_1, zp_1_1, zf_1_2, zp_1_2, zp_1_2n, zf_1_3, zp_1_3, zp_1_3n, zf_1_4, zp_1_40, zp_1_41, zf_1_5, zp_1_5, zp_1_5n, zf_1_6, zp_1_6, zp_1_6n, zf_1_7, zp_1_7, zp_1_7n, zf_1_8, zp_1_8, zp_1_8n, zf_1_9, zp_1_9, zp_1_9n, zf_1_10, zp_1_10, zp_1_10n, zf_1_11, zp_1_11, zp_1_11n, zf_1_12, zp_1_12, zp_1_12n, zSta_rc s1, d_170 s1, zRow_rc s3, e1, zbk_v, zts_s, zts_n]
theorem d_66 (hc : zCls h m w) : zEnd h m (zcall zP sv (d + 48) 66 [.ref m] h) 0 0 (.inl (some (.int (nI (yhis w).length)))) w := by
  have q1 := zCls_0 hc
  obtain ⟨_, _, _, _, ⟨H, g1, g2⟩, _⟩ := id hc
  have hl : H.length = (yhis w).length := g2.1
  have e1 := d_131 (sv := sv) (d := d + 46) g1
  rw [hl] at e1
  refine zEnd_s hc ?_
  simp (disch := exact znw_u) only [zc_66, zs_66_0, zs_66_0n, zs_66_1, zs_66_4, zs_66_7, q1, zECc, zrc_1, zf_1_0, zp_1_0, zp_1_0n, zf_1_1, zp_1_1, zf_1_2, zp_1_2, zp_1_2n, zf_1_3, zp_1_3, zp_1_3n, zf_1_4, zp_1_40, zp_1_41, zf_1_5, zp_1_5, zp_1_5n, zf_1_6, zp_1_6, zp_1_6n, zf_1_7, zp_1_7, zp_1_7n, zf_1_8, zp_1_8, zp_1_8n, zf_1_9, zp_1_9, zp_1_9n, zf_1_10, zp_1_10, zp_1_10n, zf_1_11, zp_1_11, zp_1_11n, zf_1_12, zp_1_12, zp_1_12n, zHis_rc g1, e1, zbk_v, zts_s]
theorem d_65n (hc : zCls h m w) (he : w.2.1 = -1) : zEnd h m (zcall zP sv (d + 48) 65 [.ref m] h) 1 6 (.inr 4) w := by
  obtain ⟨t1, t2⟩ := zthrow hc
  have q1 := zCls_0 hc
  rw [he] at q1
  refine ⟨_, ?_, t1, t2⟩
  simp (disch := exact znw_u) only [zc_65, zs_65_0, zs_65_0n, zs_65_1, zs_65_4, zs_65_5, zs_65_8, zs_65_19, zs_65_19n, zs_65_20, zs_65_23, q1, zECc, zrc_1, zf_1_0, zp_1_0, zp_1_0n, zf_1_1, zp_1_1, zf_1_2, zp_1_2, zp_1_2n, zf_1_3, zp_1_3, zp_1_3n, zf_1_4, zp_1_40, zp_1_41, zf_1_5, zp_1_5, zp_1_5n, zf_1_6, zp_1_6, zp_1_6n, zf_1_7, zp_1_7, zp_1_7n, zf_1_8, zp_1_8, zp_1_8n, zf_1_9, zp_1_9, zp_1_9n, zf_1_10, zp_1_10, zp_1_10n, zf_1_11, zp_1_11, zp_1_11n, zf_1_12, zp_1_12, zp_1_12n, nI_m1e, zext_of, ↓reduceIte]
theorem d_65 (hc : zCls h m w) (he : ¬ w.2.1 = -1) : zEnd h m (zcall zP sv (d + 48) 65 [.ref m] h) 0 0 (.inl (some (.int w.2.1))) w := by
  have q1 := zCls_0 hc
  refine zEnd_s hc ?_
  simp (disch := exact znw_u) only [zc_65, zs_65_0, zs_65_0n, zs_65_1, zs_65_4, zs_65_5, zs_65_8, zs_65_19, zs_65_19n, zs_65_20, zs_65_23, q1, zECc, zrc_1, zf_1_0, zp_1_0, zp_1_0n, zf_1_1, zp_1_1, zf_1_2, zp_1_2, zp_1_2n, zf_1_3, zp_1_3, zp_1_3n, zf_1_4, zp_1_40, zp_1_41, zf_1_5, zp_1_5, zp_1_5n, zf_1_6, zp_1_6, zp_1_6n, zf_1_7, zp_1_7, zp_1_7n, zf_1_8, zp_1_8, zp_1_8n, zf_1_9, zp_1_9, zp_1_9n, zf_1_10, zp_1_10, zp_1_10n, zf_1_11, zp_1_11, zp_1_11n, zf_1_12, zp_1_12, zp_1_12n, if_neg he]
theorem d_41 {i j : Nat} {t u : yT} (hc : zCls h m w) (hi : (ycur w).1[i]? = some t) (hj : (ycur w).1[j]? = some u) : zEnd h m (zcall zP sv (d + 48) 41 [.ref m, .int (nI i), .int (nI j)] h) 0 0 (.inl (some (.int (yb (yeq t u))))) w := by
  obtain ⟨a, e0, a1, a2, a3, a4⟩ := d_70k (sv := sv) (d := d + 45) hc hi
  obtain ⟨b, e0', b1, b2, b3, b4⟩ := d_70k (sv := sv) (d := d + 45) hc hj
  have hsz := a4.2.1
  have hdp := a4.2.2
  have hsz2 := b4.2.1
  obtain ⟨f1, f2, f3, f4⟩ := yform a4.1 (by omega)
  obtain ⟨g1, g2, g3, g4⟩ := yform b4.1 (by omega)
  have e5 := d_85 (sv := sv) f1 g1 a3 b3 t u (nI (ysz t - 1)) (nI (ysz u - 1)) (d + 47) 1 (Or.inr ⟨ysz t - 1, by omega, rfl⟩) (Or.inr ⟨ysz u - 1, by omega, rfl⟩) f2 g2 (by omega) (by omega)
  refine zEnd_s hc ?_
  simp (disch := exact znw_u) only [zc_41, zs_41_0, zs_41_0n, zs_41_1, zs_41_2, zs_41_5, zs_41_5n, zs_41_6, zs_41_6n, zs_41_7, zs_41_8, zs_41_11, zs_41_11n, zs_41_13, zs_41_13n, zs_41_14, zs_41_14n, zs_41_15, zs_41_18, zs_41_18n, zs_41_20, zs_41_20n, zs_41_22, zs_41_25, zs_41_26, zs_41_29, zEC1 hc, e0, e0', zTre_rc a3, zTre_rc b3, d_183 a3, d_183 b3, yroot_sub f4, yroot_sub g4, e5, zty_5b, zgd_t, zbk_v, zts_s]
end ZEF
