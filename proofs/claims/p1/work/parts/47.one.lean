def zgood (N M : Nat) (r : zR) : Prop := ∃ h' : zH, r = some (.inl (some (.int (nI 1))), h') ∧ h'.2.1 ≤ N + 40 ∧ h'.2.2 ≤ M + 400
theorem zm0_0 {K : Value → zR} : zael (20, (List.replicate 387 (.int 0)).set 1 (.int (nI 2))) 20 0 K = K (.int 0) := by
  have e1 := zael_k (kd := 20) (i := 0) (vs := (List.replicate 387 (.int 0)).set 1 (.int (nI 2))) (v := .int 0) (K := K) rfl (by decide)
  rw [nI_0] at e1
  exact e1
set_option maxRecDepth 10000 in
theorem zC0_len {m : Nat} : (zC0 m).length = 139 := rfl
section ZCY
variable {sv : Nat → Value} {d : Nat} {h : zH}
theorem f_70 {S : Nat} {x : Int32} : zcall zP sv (d + 2) 70 [.ref h.2.1, .int x] (zext h (zC0 h.2.1) S) = some (.inr 2, zext (zext h (zC0 h.2.1) S) [(0, [])] 6) := c_70x zr0_0 zr0_3
theorem f_27 {S : Nat} {x : Int32} : zcall zP sv (d + 3) 27 [.ref h.2.1, .int x] (zext h (zC0 h.2.1) S) = some (.inr 2, zext (zext h (zC0 h.2.1) S) [(0, [])] 6) := by
  simp only [zc_27, zs_27_0, zs_27_0n, zs_27_1, zs_27_2, zs_27_5, zs_27_5n, zs_27_6, zs_27_6n, zs_27_7, zs_27_10, zs_27_10n, zs_27_11, zs_27_14, zs_27_17, zs_27_17n, zs_27_18, zs_27_21, zs_27_22, zs_27_25, zs_27_25n, zs_27_26, zs_27_29, zs_27_32, zr0_0, zrc_1, f_70, zbk_x]
end ZCY
section ZCY
variable {sv : Nat → Value} {d : Nat} {h : zH} {l1 l2 l3 l4 l6 l7 l8 : Slot} {b : Nat} {N M : Nat}
theorem zgood_out {C : zCall} {vs : List Value} (hx : h.1 b = (28, vs)) (hn : vs.length = 4) (h1 : h.2.1 ≤ N + 40) (h2 : h.2.2 ≤ M + 400) : zgood N M (zrun zP sv C 299 2676 [.val (.ref b), l1, l2, l3, l4, .val (.int 0), l6, l7, l8] [] h) := ⟨h, l_out4 hx hn, h1, h2⟩
theorem k_9 {x0 x1 x2 x3 : Int32} (hx : h.1 b = (28, [.int x0, .int x1, .int x2, .int x3])) (hb : b < h.2.1) : zgood (h.2.1 + 139) (h.2.2 + 15821) (zrun zP sv (zcall zP sv (d + 30)) 299 749 [.val (.ref b), .val (.ref h.2.1), .val (.ref (h.2.1 + 119)), .val (.ref (h.2.1 + 137)), .val (.ref (h.2.1 + 138)), .val (.int 0), .unset, .unset, .unset] [] (zext h (zC0 h.2.1) 15821)) := by
  simp (maxSteps := 1000000) (disch := first | exact znw_u | exact znw_i | omega | assumption) only [zs_299_749, zs_299_749n, zs_299_750, zs_299_753, zs_299_753n, zs_299_754, zs_299_757, zs_299_760, zs_299_761, zs_33_0, zs_33_0n, zs_33_1, zs_33_4, zs_33_7, zs_169_0, zs_169_0n, zs_169_1, zs_169_4, zs_249_0, zs_249_0n, zs_249_1, zs_249_2, zs_249_5, zs_249_5n, zs_249_6, zs_249_9, zs_249_10, zs_249_11, zrc_1, zf_1_0, zp_1_0, zp_1_0n, zf_1_1, zp_1_1, zf_1_2, zp_1_2, zp_1_2n, zf_1_3, zp_1_3, zp_1_3n, zf_1_4, zp_1_40, zp_1_41, zf_1_5, zp_1_5, zp_1_5n, zf_1_6, zp_1_6, zp_1_6n, zf_1_7, zp_1_7, zp_1_7n, zf_1_8, zp_1_8, zp_1_8n, zf_1_9, zp_1_9, zp_1_9n, zf_1_10, zp_1_10, zp_1_10n, zf_1_11, zp_1_11, zp_1_11n, zf_1_12, zp_1_12, zp_1_12n, zrc_3, zf_3_0, zp_3_0, zp_3_0n, zf_3_1, zp_3_1, zf_3_2, zp_3_2, zp_3_2n, zf_3_3, zp_3_3, zf_3_4, zp_3_4, zrc_13, zf_13_0, zp_13_0, zp_13_0n, zf_13_1, zp_13_1, zp_13_1n, zf_13_2, zp_13_2, zp_13_2n, zf_13_3, zp_13_3, zf_13_4, zp_13_4, zp_13_4n, zf_13_5, zp_13_50, zp_13_51, zf_13_6, zp_13_6, zp_13_6n, zf_13_7, zp_13_7, zp_13_7n, zf_13_8, zp_13_8, zf_13_9, zp_13_9, zp_13_9n, zf_13_10, zp_13_10, zp_13_10n, zf_13_11, zp_13_11, zf_13_12, zp_13_12, zp_13_12n, zf_13_13, zp_13_13, zp_13_13n, zf_13_14, zp_13_14, zp_13_14n, zf_13_15, zp_13_15, zp_13_15n, zf_13_16, zp_13_16, zp_13_16n, zf_13_17, zp_13_17, zp_13_17n, zf_13_18, zp_13_18, zp_13_18n, zf_13_19, zp_13_19, zf_13_20, zp_13_20, zf_13_21, zp_13_21, zf_13_22, zp_13_22, zf_13_23, zp_13_23, zp_13_23n, zf_13_24, zp_13_24, zf_13_25, zp_13_25, zp_13_25n, zf_13_26, zp_13_26, zf_13_27, zp_13_27, zf_13_28, zp_13_28, zf_13_29, zp_13_29, zf_13_30, zp_13_30, zf_13_31, zp_13_31, zc_33, zc_169, zc_249, zr0_0, zr0_3, zr0_119, zr0_120, zm0_0, zup_ne, zup_at, zbk_v, zbk_x, zts_s, zts_n, zgd_t, zty_0i, zty_4r, znwa_k, if_true]
  first
  | exact zgood_out (vs := [.int x0, .int x1, .int x2, .int x3]) (by simp (disch := omega) only [zup_ne, zext_lo, zup_sz, zext_sz, hx]) rfl (by simp only [zup_sz, zext_sz, zC0_len, List.length_cons, List.length_nil]; omega) (by simp only [zup_sl, zext_sl]; omega)
end ZCY
section ZCD
variable {sv : Nat → Value} {d : Nat} {h : zH}
theorem f_302 {S : Nat} {x1 : Int32} {a2 : Nat} : zcall zP sv (d + 4) 302 [.ref h.2.1, .int x1, .ref a2] (zext h (zC0 h.2.1) S) = some (.inl (some (.int (nI 1))), zext (zext h (zC0 h.2.1) S) [(0, [])] 6) := by
  simp only [zc_302, zs_302_0, zs_302_0n, zs_302_1, zs_302_2, zs_302_2n, zs_302_3, zs_302_4, zs_302_7, zs_302_8, zs_302_9, zs_302_12, zs_302_12n, zs_302_13, zs_302_14, zs_302_15, zs_302_16, zr0_0, zrc_1, f_27, zbk_x]
  rfl
theorem f_28 {S : Nat} {x0 : Int32} : zcall zP sv (d + 3) 28 [.ref h.2.1, .int x0] (zext h (zC0 h.2.1) S) = some (.inr 2, zext (zext h (zC0 h.2.1) S) [(0, [])] 6) := by
  simp only [zc_28, zs_28_0, zs_28_0n, zs_28_1, zs_28_2, zs_28_5, zs_28_5n, zs_28_6, zs_28_6n, zs_28_7, zs_28_10, zs_28_10n, zs_28_11, zs_28_11n, zs_28_12, zs_28_15, zs_28_15n, zs_28_16, zs_28_19, zs_28_22, zs_28_23, zs_28_23n, zs_28_24, zs_28_24n, zs_28_25, zs_28_28, zs_28_29, zs_28_32, zs_28_32n, zs_28_34, zs_28_34n, zs_28_35, zs_28_38, zs_28_38n, zs_28_40, zs_28_43, zs_28_44, zs_28_46, zs_28_46n, zs_28_47, zs_28_50, zs_28_50n, zs_28_51, zs_28_54, zs_28_57, zs_28_57n, zs_28_58, zs_28_61, zs_28_62, zs_28_62n, zs_28_64, zs_28_67, zs_28_67n, zs_28_68, zs_28_71, zs_28_73, zs_28_76, zs_28_78, zr0_0, zrc_1, f_70, zbk_x]
theorem f_303 {S : Nat} {x1 : Int32} {a2 : Nat} : zcall zP sv (d + 4) 303 [.ref h.2.1, .int x1, .ref a2] (zext h (zC0 h.2.1) S) = some (.inl (some (.int (nI 1))), zext (zext h (zC0 h.2.1) S) [(0, [])] 6) := by
  simp only [zc_303, zs_303_0, zs_303_0n, zs_303_1, zs_303_2, zs_303_2n, zs_303_3, zs_303_4, zs_303_7, zs_303_8, zs_303_9, zs_303_12, zs_303_12n, zs_303_13, zs_303_14, zs_303_15, zs_303_16, zr0_0, zrc_1, f_28, zbk_x]
  rfl
theorem f_29 {S : Nat} {x0 : Int32} {x1 : Int32} : zcall zP sv (d + 3) 29 [.ref h.2.1, .int x0, .int x1] (zext h (zC0 h.2.1) S) = some (.inr 2, zext (zext h (zC0 h.2.1) S) [(0, [])] 6) := by
  simp only [zc_29, zs_29_0, zs_29_0n, zs_29_1, zs_29_2, zs_29_5, zs_29_5n, zs_29_6, zs_29_7, zs_29_10, zs_29_10n, zs_29_11, zs_29_14, zs_29_14n, zs_29_15, zs_29_18, zs_29_18n, zs_29_19, zs_29_20, zs_29_20n, zs_29_21, zs_29_24, zs_29_27, zs_29_29, zs_29_29n, zs_29_30, zs_29_33, zs_29_33n, zs_29_34, zs_29_37, zs_29_39, zs_29_39n, zs_29_40, zs_29_43, zs_29_46, zs_29_48, zs_29_48n, zs_29_49, zs_29_49n, zs_29_50, zs_29_53, zs_29_55, zs_29_58, zs_29_58n, zs_29_59, zs_29_62, zs_29_62n, zs_29_63, zs_29_66, zs_29_69, zs_29_69n, zs_29_70, zs_29_73, zs_29_73n, zs_29_74, zs_29_74n, zs_29_75, zs_29_78, zs_29_80, zs_29_83, zs_29_86, zr0_0, zrc_1, f_70, zbk_x]
theorem f_304 {S : Nat} {x1 : Int32} {x2 : Int32} {a3 : Nat} : zcall zP sv (d + 4) 304 [.ref h.2.1, .int x1, .int x2, .ref a3] (zext h (zC0 h.2.1) S) = some (.inl (some (.int (nI 1))), zext (zext h (zC0 h.2.1) S) [(0, [])] 6) := by
  simp only [zc_304, zs_304_0, zs_304_0n, zs_304_1, zs_304_2, zs_304_2n, zs_304_3, zs_304_4, zs_304_5, zs_304_8, zs_304_9, zs_304_10, zs_304_13, zs_304_13n, zs_304_15, zs_304_16, zs_304_17, zs_304_17n, zs_304_19, zs_304_20, zs_304_21, zs_304_21n, zs_304_23, zs_304_24, zs_304_25, zs_304_25n, zs_304_27, zs_304_28, zs_304_29, zs_304_30, zr0_0, zrc_1, f_29, zbk_x]
  rfl
theorem f_30 {S : Nat} {x0 : Int32} {x1 : Int32} {x2 : Int32} : zcall zP sv (d + 3) 30 [.ref h.2.1, .int x0, .int x1, .int x2] (zext h (zC0 h.2.1) S) = some (.inr 2, zext (zext h (zC0 h.2.1) S) [(0, [])] 6) := by
  simp only [zc_30, zs_30_0, zs_30_0n, zs_30_1, zs_30_2, zs_30_5, zs_30_5n, zs_30_7, zs_30_7n, zs_30_8, zs_30_9, zs_30_12, zs_30_12n, zs_30_14, zs_30_15, zs_30_18, zs_30_18n, zs_30_19, zs_30_22, zs_30_22n, zs_30_24, zs_30_25, zs_30_25n, zs_30_27, zs_30_27n, zs_30_28, zs_30_31, zs_30_34, zs_30_36, zs_30_36n, zs_30_37, zs_30_37n, zs_30_38, zs_30_41, zs_30_43, zs_30_46, zs_30_46n, zs_30_47, zs_30_50, zs_30_50n, zs_30_51, zs_30_54, zs_30_57, zs_30_57n, zs_30_58, zs_30_58n, zs_30_59, zs_30_62, zs_30_64, zs_30_67, zs_30_67n, zs_30_69, zs_30_69n, zs_30_70, zs_30_73, zs_30_74, zs_30_74n, zs_30_76, zs_30_79, zs_30_79n, zs_30_81, zs_30_84, zr0_0, zrc_1, f_70, zbk_x]
theorem f_305 {S : Nat} {x1 : Int32} {x2 : Int32} {x3 : Int32} {a4 : Nat} : zcall zP sv (d + 4) 305 [.ref h.2.1, .int x1, .int x2, .int x3, .ref a4] (zext h (zC0 h.2.1) S) = some (.inl (some (.int (nI 1))), zext (zext h (zC0 h.2.1) S) [(0, [])] 6) := by
  simp only [zc_305, zs_305_0, zs_305_0n, zs_305_2, zs_305_3, zs_305_3n, zs_305_4, zs_305_5, zs_305_6, zs_305_7, zs_305_10, zs_305_11, zs_305_12, zs_305_15, zs_305_15n, zs_305_17, zs_305_18, zs_305_19, zs_305_19n, zs_305_21, zs_305_22, zs_305_23, zs_305_23n, zs_305_25, zs_305_26, zs_305_27, zs_305_28, zr0_0, zrc_1, f_30, zbk_x]
  rfl
theorem f_36 {S : Nat} {x0 : Int32} : zcall zP sv (d + 3) 36 [.ref h.2.1, .int x0] (zext h (zC0 h.2.1) S) = some (.inr 2, zext (zext h (zC0 h.2.1) S) [(0, [])] 6) := by
  simp only [zc_36, zs_36_0, zs_36_0n, zs_36_1, zs_36_2, zs_36_5, zs_36_8, zr0_0, zrc_1, f_70, zbk_x]
theorem f_309 {S : Nat} {x1 : Int32} {a2 : Nat} : zcall zP sv (d + 4) 309 [.ref h.2.1, .int x1, .ref a2] (zext h (zC0 h.2.1) S) = some (.inl (some (.int (nI 1))), zext (zext h (zC0 h.2.1) S) [(0, [])] 6) := by
  simp only [zc_309, zs_309_0, zs_309_0n, zs_309_1, zs_309_2, zs_309_2n, zs_309_3, zs_309_4, zs_309_7, zs_309_8, zs_309_9, zs_309_12, zs_309_12n, zs_309_13, zs_309_14, zs_309_15, zs_309_16, zr0_0, zrc_1, f_36, zbk_x]
  rfl
theorem f_37 {S : Nat} {x0 : Int32} : zcall zP sv (d + 3) 37 [.ref h.2.1, .int x0] (zext h (zC0 h.2.1) S) = some (.inr 2, zext (zext h (zC0 h.2.1) S) [(0, [])] 6) := by
  simp only [zc_37, zs_37_0, zs_37_0n, zs_37_1, zs_37_2, zs_37_5, zs_37_5n, zs_37_6, zs_37_6n, zs_37_7, zs_37_10, zs_37_10n, zs_37_11, zs_37_11n, zs_37_12, zs_37_15, zs_37_18, zr0_0, zrc_1, f_70, zbk_x]
theorem f_310 {S : Nat} {x1 : Int32} {a2 : Nat} : zcall zP sv (d + 4) 310 [.ref h.2.1, .int x1, .ref a2] (zext h (zC0 h.2.1) S) = some (.inl (some (.int (nI 1))), zext (zext h (zC0 h.2.1) S) [(0, [])] 6) := by
  simp only [zc_310, zs_310_0, zs_310_0n, zs_310_1, zs_310_2, zs_310_2n, zs_310_3, zs_310_4, zs_310_7, zs_310_8, zs_310_9, zs_310_12, zs_310_12n, zs_310_13, zs_310_14, zs_310_15, zs_310_16, zr0_0, zrc_1, f_37, zbk_x]
  rfl
theorem f_38 {S : Nat} {x0 : Int32} {x1 : Int32} : zcall zP sv (d + 3) 38 [.ref h.2.1, .int x0, .int x1] (zext h (zC0 h.2.1) S) = some (.inr 2, zext (zext h (zC0 h.2.1) S) [(0, [])] 6) := by
  simp only [zc_38, zs_38_0, zs_38_0n, zs_38_1, zs_38_2, zs_38_5, zs_38_5n, zs_38_6, zs_38_7, zs_38_10, zs_38_11, zs_38_13, zs_38_14, zs_38_16, zs_38_18, zs_38_18n, zs_38_19, zs_38_22, zs_38_25, zs_38_25n, zs_38_26, zs_38_28, zs_38_29, zs_38_32, zs_38_35, zs_38_38, zs_38_41, zs_38_44, zs_38_46, zr0_0, zrc_1, f_70, zbk_x]
theorem f_311 {S : Nat} {x1 : Int32} {x2 : Int32} {a3 : Nat} : zcall zP sv (d + 4) 311 [.ref h.2.1, .int x1, .int x2, .ref a3] (zext h (zC0 h.2.1) S) = some (.inl (some (.int (nI 1))), zext (zext h (zC0 h.2.1) S) [(0, [])] 6) := by
  simp only [zc_311, zs_311_0, zs_311_0n, zs_311_1, zs_311_2, zs_311_2n, zs_311_3, zs_311_4, zs_311_5, zs_311_8, zs_311_9, zs_311_10, zs_311_13, zs_311_13n, zs_311_15, zs_311_16, zs_311_17, zs_311_17n, zs_311_19, zs_311_20, zs_311_21, zs_311_22, zr0_0, zrc_1, f_38, zbk_x]
  rfl
theorem f_39 {S : Nat} {x0 : Int32} : zcall zP sv (d + 3) 39 [.ref h.2.1, .int x0] (zext h (zC0 h.2.1) S) = some (.inr 2, zext (zext h (zC0 h.2.1) S) [(0, [])] 6) := by
  simp only [zc_39, zs_39_0, zs_39_0n, zs_39_1, zs_39_4, zs_39_4n, zs_39_5, zs_39_6, zs_39_9, zs_39_12, zr0_0, zrc_1, f_70, zbk_x]
theorem f_312 {S : Nat} {x1 : Int32} {a2 : Nat} : zcall zP sv (d + 4) 312 [.ref h.2.1, .int x1, .ref a2] (zext h (zC0 h.2.1) S) = some (.inl (some (.int (nI 1))), zext (zext h (zC0 h.2.1) S) [(0, [])] 6) := by
  simp only [zc_312, zs_312_0, zs_312_0n, zs_312_1, zs_312_2, zs_312_2n, zs_312_3, zs_312_4, zs_312_7, zs_312_8, zs_312_9, zs_312_12, zs_312_12n, zs_312_13, zs_312_14, zs_312_15, zs_312_16, zr0_0, zrc_1, f_39, zbk_x]
  rfl
theorem f_40 {S : Nat} {x0 : Int32} : zcall zP sv (d + 3) 40 [.ref h.2.1, .int x0] (zext h (zC0 h.2.1) S) = some (.inr 2, zext (zext h (zC0 h.2.1) S) [(0, [])] 6) := by
  simp only [zc_40, zs_40_0, zs_40_0n, zs_40_1, zs_40_2, zs_40_5, zs_40_5n, zs_40_6, zs_40_7, zs_40_8, zs_40_9, zs_40_9n, zs_40_10, zs_40_13, zs_40_16, zs_40_16n, zs_40_17, zs_40_18, zs_40_21, zs_40_23, zs_40_26, zs_40_27, zs_40_28, zs_40_31, zs_40_34, zs_40_35, zr0_0, zrc_1, f_70, zbk_x]
theorem f_313 {S : Nat} {x1 : Int32} {a2 : Nat} : zcall zP sv (d + 4) 313 [.ref h.2.1, .int x1, .ref a2] (zext h (zC0 h.2.1) S) = some (.inl (some (.int (nI 1))), zext (zext h (zC0 h.2.1) S) [(0, [])] 6) := by
  simp only [zc_313, zs_313_0, zs_313_0n, zs_313_1, zs_313_2, zs_313_2n, zs_313_3, zs_313_4, zs_313_7, zs_313_10, zs_313_11, zs_313_14, zs_313_15, zs_313_16, zs_313_19, zs_313_19n, zs_313_20, zs_313_21, zs_313_22, zs_313_23, zr0_0, zrc_1, f_40, zbk_x]
  rfl
theorem f_41 {S : Nat} {x0 : Int32} {x1 : Int32} : zcall zP sv (d + 3) 41 [.ref h.2.1, .int x0, .int x1] (zext h (zC0 h.2.1) S) = some (.inr 2, zext (zext h (zC0 h.2.1) S) [(0, [])] 6) := by
  simp only [zc_41, zs_41_0, zs_41_0n, zs_41_1, zs_41_2, zs_41_5, zs_41_5n, zs_41_6, zs_41_6n, zs_41_7, zs_41_8, zs_41_11, zs_41_11n, zs_41_13, zs_41_13n, zs_41_14, zs_41_14n, zs_41_15, zs_41_18, zs_41_18n, zs_41_20, zs_41_20n, zs_41_22, zs_41_25, zs_41_26, zs_41_29, zr0_0, zrc_1, f_70, zbk_x]
theorem f_314 {S : Nat} {x1 : Int32} {x2 : Int32} {a3 : Nat} : zcall zP sv (d + 4) 314 [.ref h.2.1, .int x1, .int x2, .ref a3] (zext h (zC0 h.2.1) S) = some (.inl (some (.int (nI 1))), zext (zext h (zC0 h.2.1) S) [(0, [])] 6) := by
  simp only [zc_314, zs_314_0, zs_314_0n, zs_314_1, zs_314_2, zs_314_2n, zs_314_3, zs_314_4, zs_314_5, zs_314_8, zs_314_11, zs_314_12, zs_314_15, zs_314_16, zs_314_17, zs_314_20, zs_314_20n, zs_314_22, zs_314_23, zs_314_24, zs_314_25, zr0_0, zrc_1, f_41, zbk_x]
  rfl
theorem f_42 {S : Nat} {x0 : Int32} : zcall zP sv (d + 3) 42 [.ref h.2.1, .int x0] (zext h (zC0 h.2.1) S) = some (.inr 2, zext (zext h (zC0 h.2.1) S) [(0, [])] 6) := by
  simp only [zc_42, zs_42_0, zs_42_0n, zs_42_1, zs_42_1n, zs_42_2, zs_42_3, zs_42_6, zs_42_9, zr0_0, zrc_1, f_70, zbk_x]
theorem f_315 {S : Nat} {x1 : Int32} {a2 : Nat} : zcall zP sv (d + 4) 315 [.ref h.2.1, .int x1, .ref a2] (zext h (zC0 h.2.1) S) = some (.inl (some (.int (nI 1))), zext (zext h (zC0 h.2.1) S) [(0, [])] 6) := by
  simp only [zc_315, zs_315_0, zs_315_0n, zs_315_1, zs_315_2, zs_315_2n, zs_315_3, zs_315_4, zs_315_7, zs_315_8, zs_315_9, zs_315_12, zs_315_12n, zs_315_13, zs_315_14, zs_315_15, zs_315_16, zr0_0, zrc_1, f_42, zbk_x]
  rfl
theorem f_43 {S : Nat} {x0 : Int32} : zcall zP sv (d + 3) 43 [.ref h.2.1, .int x0] (zext h (zC0 h.2.1) S) = some (.inr 2, zext (zext h (zC0 h.2.1) S) [(0, [])] 6) := by
  simp only [zc_43, zs_43_0, zs_43_0n, zs_43_1, zs_43_2, zs_43_5, zs_43_8, zr0_0, zrc_1, f_70, zbk_x]
theorem f_316 {S : Nat} {x1 : Int32} {a2 : Nat} : zcall zP sv (d + 4) 316 [.ref h.2.1, .int x1, .ref a2] (zext h (zC0 h.2.1) S) = some (.inl (some (.int (nI 1))), zext (zext h (zC0 h.2.1) S) [(0, [])] 6) := by
  simp only [zc_316, zs_316_0, zs_316_0n, zs_316_1, zs_316_2, zs_316_2n, zs_316_3, zs_316_4, zs_316_7, zs_316_8, zs_316_9, zs_316_12, zs_316_12n, zs_316_13, zs_316_14, zs_316_15, zs_316_16, zr0_0, zrc_1, f_43, zbk_x]
  rfl
theorem f_44 {S : Nat} {x0 : Int32} {x1 : Int32} : zcall zP sv (d + 3) 44 [.ref h.2.1, .int x0, .int x1] (zext h (zC0 h.2.1) S) = some (.inr 2, zext (zext h (zC0 h.2.1) S) [(0, [])] 6) := by
  simp only [zc_44, zs_44_0, zs_44_0n, zs_44_1, zs_44_2, zs_44_5, zs_44_5n, zs_44_6, zs_44_6n, zs_44_7, zs_44_8, zs_44_11, zs_44_11n, zs_44_13, zs_44_13n, zs_44_14, zs_44_14n, zs_44_16, zs_44_19, zs_44_21, zs_44_21n, zs_44_22, zs_44_22n, zs_44_23, zs_44_26, zs_44_28, zs_44_28n, zs_44_29, zs_44_32, zs_44_32n, zs_44_34, zs_44_37, zs_44_39, zs_44_41, zs_44_42, zs_44_42n, zs_44_43, zs_44_46, zs_44_49, zs_44_50, zr0_0, zrc_1, f_70, zbk_x]
theorem f_317 {S : Nat} {x1 : Int32} {x2 : Int32} {a3 : Nat} : zcall zP sv (d + 4) 317 [.ref h.2.1, .int x1, .int x2, .ref a3] (zext h (zC0 h.2.1) S) = some (.inl (some (.int (nI 1))), zext (zext h (zC0 h.2.1) S) [(0, [])] 6) := by
  simp only [zc_317, zs_317_0, zs_317_0n, zs_317_1, zs_317_2, zs_317_2n, zs_317_3, zs_317_4, zs_317_5, zs_317_8, zs_317_9, zs_317_10, zs_317_13, zs_317_13n, zs_317_15, zs_317_16, zs_317_17, zs_317_18, zr0_0, zrc_1, f_44, zbk_x]
  rfl
theorem f_45 {S : Nat} {x0 : Int32} : zcall zP sv (d + 3) 45 [.ref h.2.1, .int x0] (zext h (zC0 h.2.1) S) = some (.inr 2, zext (zext h (zC0 h.2.1) S) [(0, [])] 6) := by
  simp only [zc_45, zs_45_0, zs_45_0n, zs_45_1, zs_45_2, zs_45_5, zs_45_5n, zs_45_6, zs_45_6n, zs_45_7, zs_45_10, zs_45_10n, zs_45_11, zs_45_11n, zs_45_12, zs_45_15, zs_45_15n, zs_45_16, zs_45_19, zs_45_22, zs_45_25, zr0_0, zrc_1, f_70, zbk_x]
theorem f_318 {S : Nat} {x1 : Int32} {a2 : Nat} : zcall zP sv (d + 4) 318 [.ref h.2.1, .int x1, .ref a2] (zext h (zC0 h.2.1) S) = some (.inl (some (.int (nI 1))), zext (zext h (zC0 h.2.1) S) [(0, [])] 6) := by
  simp only [zc_318, zs_318_0, zs_318_0n, zs_318_1, zs_318_2, zs_318_2n, zs_318_3, zs_318_4, zs_318_7, zs_318_8, zs_318_9, zs_318_12, zs_318_12n, zs_318_13, zs_318_14, zs_318_15, zs_318_16, zr0_0, zrc_1, f_45, zbk_x]
  rfl
theorem f_46 {S : Nat} {x0 : Int32} : zcall zP sv (d + 3) 46 [.ref h.2.1, .int x0] (zext h (zC0 h.2.1) S) = some (.inr 2, zext (zext h (zC0 h.2.1) S) [(0, [])] 6) := by
  simp only [zc_46, zs_46_0, zs_46_0n, zs_46_1, zs_46_1n, zs_46_2, zs_46_3, zs_46_6, zs_46_9, zr0_0, zrc_1, f_70, zbk_x]
theorem f_319 {S : Nat} {x1 : Int32} {a2 : Nat} : zcall zP sv (d + 4) 319 [.ref h.2.1, .int x1, .ref a2] (zext h (zC0 h.2.1) S) = some (.inl (some (.int (nI 1))), zext (zext h (zC0 h.2.1) S) [(0, [])] 6) := by
  simp only [zc_319, zs_319_0, zs_319_0n, zs_319_1, zs_319_2, zs_319_2n, zs_319_3, zs_319_4, zs_319_7, zs_319_8, zs_319_9, zs_319_12, zs_319_12n, zs_319_13, zs_319_14, zs_319_15, zs_319_16, zr0_0, zrc_1, f_46, zbk_x]
  rfl
theorem f_47 {S : Nat} {x0 : Int32} {x1 : Int32} : zcall zP sv (d + 3) 47 [.ref h.2.1, .int x0, .int x1] (zext h (zC0 h.2.1) S) = some (.inr 2, zext (zext h (zC0 h.2.1) S) [(0, [])] 6) := by
  simp only [zc_47, zs_47_0, zs_47_0n, zs_47_1, zs_47_2, zs_47_5, zs_47_5n, zs_47_6, zs_47_7, zs_47_10, zs_47_10n, zs_47_11, zs_47_14, zs_47_14n, zs_47_15, zs_47_16, zs_47_16n, zs_47_17, zs_47_20, zs_47_23, zs_47_26, zr0_0, zrc_1, f_70, zbk_x]
theorem f_320 {S : Nat} {x1 : Int32} {x2 : Int32} {a3 : Nat} : zcall zP sv (d + 4) 320 [.ref h.2.1, .int x1, .int x2, .ref a3] (zext h (zC0 h.2.1) S) = some (.inl (some (.int (nI 1))), zext (zext h (zC0 h.2.1) S) [(0, [])] 6) := by
  simp only [zc_320, zs_320_0, zs_320_0n, zs_320_1, zs_320_2, zs_320_2n, zs_320_3, zs_320_4, zs_320_5, zs_320_8, zs_320_9, zs_320_10, zs_320_13, zs_320_13n, zs_320_15, zs_320_16, zs_320_17, zs_320_17n, zs_320_19, zs_320_20, zs_320_21, zs_320_22, zr0_0, zrc_1, f_47, zbk_x]
  rfl
theorem f_48 {S : Nat} {x0 : Int32} {x1 : Int32} : zcall zP sv (d + 3) 48 [.ref h.2.1, .int x0, .int x1] (zext h (zC0 h.2.1) S) = some (.inr 2, zext (zext h (zC0 h.2.1) S) [(0, [])] 6) := by
  simp only [zc_48, zs_48_0, zs_48_0n, zs_48_1, zs_48_2, zs_48_5, zs_48_5n, zs_48_6, zs_48_7, zs_48_10, zs_48_10n, zs_48_11, zs_48_14, zs_48_14n, zs_48_15, zs_48_16, zs_48_16n, zs_48_17, zs_48_20, zs_48_23, zs_48_25, zs_48_25n, zs_48_26, zs_48_29, zs_48_29n, zs_48_30, zs_48_33, zs_48_35, zs_48_35n, zs_48_36, zs_48_39, zs_48_42, zs_48_45, zr0_0, zrc_1, f_70, zbk_x]
theorem f_321 {S : Nat} {x1 : Int32} {x2 : Int32} {a3 : Nat} : zcall zP sv (d + 4) 321 [.ref h.2.1, .int x1, .int x2, .ref a3] (zext h (zC0 h.2.1) S) = some (.inl (some (.int (nI 1))), zext (zext h (zC0 h.2.1) S) [(0, [])] 6) := by
  simp only [zc_321, zs_321_0, zs_321_0n, zs_321_1, zs_321_2, zs_321_2n, zs_321_3, zs_321_4, zs_321_5, zs_321_8, zs_321_9, zs_321_10, zs_321_13, zs_321_13n, zs_321_15, zs_321_16, zs_321_17, zs_321_17n, zs_321_19, zs_321_20, zs_321_21, zs_321_22, zr0_0, zrc_1, f_48, zbk_x]
  rfl
theorem f_49 {S : Nat} {x0 : Int32} : zcall zP sv (d + 3) 49 [.ref h.2.1, .int x0] (zext h (zC0 h.2.1) S) = some (.inr 2, zext (zext h (zC0 h.2.1) S) [(0, [])] 6) := by
  simp only [zc_49, zs_49_0, zs_49_0n, zs_49_1, zs_49_4, zs_49_4n, zs_49_5, zs_49_6, zs_49_9, zs_49_12, zr0_0, zrc_1, f_70, zbk_x]
theorem f_322 {S : Nat} {x1 : Int32} {a2 : Nat} : zcall zP sv (d + 4) 322 [.ref h.2.1, .int x1, .ref a2] (zext h (zC0 h.2.1) S) = some (.inl (some (.int (nI 1))), zext (zext h (zC0 h.2.1) S) [(0, [])] 6) := by
  simp only [zc_322, zs_322_0, zs_322_0n, zs_322_1, zs_322_2, zs_322_2n, zs_322_3, zs_322_4, zs_322_7, zs_322_8, zs_322_9, zs_322_12, zs_322_12n, zs_322_13, zs_322_14, zs_322_15, zs_322_16, zr0_0, zrc_1, f_49, zbk_x]
  rfl
theorem f_50 {S : Nat} {x0 : Int32} : zcall zP sv (d + 3) 50 [.ref h.2.1, .int x0] (zext h (zC0 h.2.1) S) = some (.inr 2, zext (zext h (zC0 h.2.1) S) [(0, [])] 6) := by
  simp only [zc_50, zs_50_0, zs_50_0n, zs_50_1, zs_50_4, zs_50_4n, zs_50_5, zs_50_6, zs_50_9, zs_50_12, zr0_0, zrc_1, f_70, zbk_x]
theorem f_323 {S : Nat} {x1 : Int32} {a2 : Nat} : zcall zP sv (d + 4) 323 [.ref h.2.1, .int x1, .ref a2] (zext h (zC0 h.2.1) S) = some (.inl (some (.int (nI 1))), zext (zext h (zC0 h.2.1) S) [(0, [])] 6) := by
  simp only [zc_323, zs_323_0, zs_323_0n, zs_323_1, zs_323_2, zs_323_2n, zs_323_3, zs_323_4, zs_323_7, zs_323_8, zs_323_9, zs_323_12, zs_323_12n, zs_323_13, zs_323_14, zs_323_15, zs_323_16, zr0_0, zrc_1, f_50, zbk_x]
  rfl
theorem f_51 {S : Nat} {x0 : Int32} : zcall zP sv (d + 3) 51 [.ref h.2.1, .int x0] (zext h (zC0 h.2.1) S) = some (.inr 2, zext (zext h (zC0 h.2.1) S) [(0, [])] 6) := by
  simp only [zc_51, zs_51_0, zs_51_0n, zs_51_1, zs_51_4, zs_51_4n, zs_51_5, zs_51_6, zs_51_9, zs_51_9n, zs_51_10, zs_51_13, zs_51_16, zs_51_19, zs_51_19n, zs_51_20, zs_51_23, zs_51_26, zr0_0, zrc_1, f_70, zbk_x]
theorem f_324 {S : Nat} {x1 : Int32} {a2 : Nat} : zcall zP sv (d + 4) 324 [.ref h.2.1, .int x1, .ref a2] (zext h (zC0 h.2.1) S) = some (.inl (some (.int (nI 1))), zext (zext h (zC0 h.2.1) S) [(0, [])] 6) := by
  simp only [zc_324, zs_324_0, zs_324_0n, zs_324_1, zs_324_2, zs_324_2n, zs_324_3, zs_324_4, zs_324_7, zs_324_8, zs_324_9, zs_324_12, zs_324_12n, zs_324_13, zs_324_14, zs_324_15, zs_324_16, zr0_0, zrc_1, f_51, zbk_x]
  rfl
theorem f_52 {S : Nat} {x0 : Int32} : zcall zP sv (d + 3) 52 [.ref h.2.1, .int x0] (zext h (zC0 h.2.1) S) = some (.inr 2, zext (zext h (zC0 h.2.1) S) [(0, [])] 6) := by
  simp only [zc_52, zs_52_0, zs_52_0n, zs_52_1, zs_52_4, zs_52_4n, zs_52_5, zs_52_6, zs_52_9, zs_52_9n, zs_52_10, zs_52_13, zs_52_16, zs_52_19, zs_52_19n, zs_52_20, zs_52_23, zs_52_26, zr0_0, zrc_1, f_70, zbk_x]
theorem f_325 {S : Nat} {x1 : Int32} {a2 : Nat} : zcall zP sv (d + 4) 325 [.ref h.2.1, .int x1, .ref a2] (zext h (zC0 h.2.1) S) = some (.inl (some (.int (nI 1))), zext (zext h (zC0 h.2.1) S) [(0, [])] 6) := by
  simp only [zc_325, zs_325_0, zs_325_0n, zs_325_1, zs_325_2, zs_325_2n, zs_325_3, zs_325_4, zs_325_7, zs_325_8, zs_325_9, zs_325_12, zs_325_12n, zs_325_13, zs_325_14, zs_325_15, zs_325_16, zr0_0, zrc_1, f_52, zbk_x]
  rfl
theorem f_53 {S : Nat} {x0 : Int32} : zcall zP sv (d + 3) 53 [.ref h.2.1, .int x0] (zext h (zC0 h.2.1) S) = some (.inr 2, zext (zext h (zC0 h.2.1) S) [(0, [])] 6) := by
  simp only [zc_53, zs_53_0, zs_53_0n, zs_53_1, zs_53_4, zs_53_4n, zs_53_5, zs_53_6, zs_53_9, zs_53_9n, zs_53_10, zs_53_13, zs_53_16, zs_53_19, zs_53_19n, zs_53_20, zs_53_23, zs_53_26, zr0_0, zrc_1, f_70, zbk_x]
theorem f_326 {S : Nat} {x1 : Int32} {a2 : Nat} : zcall zP sv (d + 4) 326 [.ref h.2.1, .int x1, .ref a2] (zext h (zC0 h.2.1) S) = some (.inl (some (.int (nI 1))), zext (zext h (zC0 h.2.1) S) [(0, [])] 6) := by
  simp only [zc_326, zs_326_0, zs_326_0n, zs_326_1, zs_326_2, zs_326_2n, zs_326_3, zs_326_4, zs_326_7, zs_326_8, zs_326_9, zs_326_12, zs_326_12n, zs_326_13, zs_326_14, zs_326_15, zs_326_16, zr0_0, zrc_1, f_53, zbk_x]
  rfl
theorem f_54 {S : Nat} {x0 : Int32} : zcall zP sv (d + 3) 54 [.ref h.2.1, .int x0] (zext h (zC0 h.2.1) S) = some (.inr 2, zext (zext h (zC0 h.2.1) S) [(0, [])] 6) := by
  simp only [zc_54, zs_54_0, zs_54_0n, zs_54_1, zs_54_2, zs_54_5, zs_54_5n, zs_54_6, zs_54_7, zs_54_8, zs_54_9, zs_54_10, zs_54_13, zs_54_13n, zs_54_14, zs_54_17, zs_54_17n, zs_54_18, zs_54_19, zs_54_22, zs_54_22n, zs_54_23, zs_54_26, zs_54_29, zs_54_32, zs_54_33, zs_54_34, zs_54_37, zs_54_40, zr0_0, zrc_1, f_70, zbk_x]
theorem f_327 {S : Nat} {x1 : Int32} {a2 : Nat} : zcall zP sv (d + 4) 327 [.ref h.2.1, .int x1, .ref a2] (zext h (zC0 h.2.1) S) = some (.inl (some (.int (nI 1))), zext (zext h (zC0 h.2.1) S) [(0, [])] 6) := by
  simp only [zc_327, zs_327_0, zs_327_0n, zs_327_1, zs_327_2, zs_327_2n, zs_327_3, zs_327_4, zs_327_7, zs_327_8, zs_327_9, zs_327_12, zs_327_12n, zs_327_13, zs_327_14, zs_327_15, zs_327_15n, zs_327_16, zs_327_17, zs_327_18, zs_327_19, zr0_0, zrc_1, f_54, zbk_x]
  rfl
theorem f_55 {S : Nat} {x0 : Int32} {x1 : Int32} : zcall zP sv (d + 3) 55 [.ref h.2.1, .int x0, .int x1] (zext h (zC0 h.2.1) S) = some (.inr 2, zext (zext h (zC0 h.2.1) S) [(0, [])] 6) := by
  simp only [zc_55, zs_55_0, zs_55_0n, zs_55_1, zs_55_4, zs_55_4n, zs_55_5, zs_55_6, zs_55_9, zs_55_9n, zs_55_10, zs_55_13, zs_55_16, zs_55_19, zs_55_19n, zs_55_20, zs_55_21, zs_55_24, zs_55_24n, zs_55_25, zs_55_28, zs_55_29, zs_55_32, zr0_0, zrc_1, f_70, zbk_x]
theorem f_328 {S : Nat} {x1 : Int32} {x2 : Int32} {a3 : Nat} : zcall zP sv (d + 4) 328 [.ref h.2.1, .int x1, .int x2, .ref a3] (zext h (zC0 h.2.1) S) = some (.inl (some (.int (nI 1))), zext (zext h (zC0 h.2.1) S) [(0, [])] 6) := by
  simp only [zc_328, zs_328_0, zs_328_0n, zs_328_1, zs_328_2, zs_328_2n, zs_328_3, zs_328_4, zs_328_5, zs_328_8, zs_328_9, zs_328_10, zs_328_13, zs_328_13n, zs_328_15, zs_328_16, zs_328_17, zs_328_18, zr0_0, zrc_1, f_55, zbk_x]
  rfl
theorem f_56 {S : Nat} {x0 : Int32} {x1 : Int32} : zcall zP sv (d + 3) 56 [.ref h.2.1, .int x0, .int x1] (zext h (zC0 h.2.1) S) = some (.inr 2, zext (zext h (zC0 h.2.1) S) [(0, [])] 6) := by
  simp only [zc_56, zs_56_0, zs_56_0n, zs_56_1, zs_56_4, zs_56_4n, zs_56_5, zs_56_6, zs_56_9, zs_56_9n, zs_56_10, zs_56_13, zs_56_16, zs_56_19, zs_56_19n, zs_56_20, zs_56_21, zs_56_24, zs_56_24n, zs_56_25, zs_56_28, zs_56_29, zs_56_32, zr0_0, zrc_1, f_70, zbk_x]
theorem f_329 {S : Nat} {x1 : Int32} {x2 : Int32} {a3 : Nat} : zcall zP sv (d + 4) 329 [.ref h.2.1, .int x1, .int x2, .ref a3] (zext h (zC0 h.2.1) S) = some (.inl (some (.int (nI 1))), zext (zext h (zC0 h.2.1) S) [(0, [])] 6) := by
  simp only [zc_329, zs_329_0, zs_329_0n, zs_329_1, zs_329_2, zs_329_2n, zs_329_3, zs_329_4, zs_329_5, zs_329_8, zs_329_9, zs_329_10, zs_329_13, zs_329_13n, zs_329_15, zs_329_16, zs_329_17, zs_329_18, zr0_0, zrc_1, f_56, zbk_x]
  rfl
theorem f_57 {S : Nat} {x0 : Int32} {x1 : Int32} : zcall zP sv (d + 3) 57 [.ref h.2.1, .int x0, .int x1] (zext h (zC0 h.2.1) S) = some (.inr 2, zext (zext h (zC0 h.2.1) S) [(0, [])] 6) := by
  simp only [zc_57, zs_57_0, zs_57_0n, zs_57_1, zs_57_4, zs_57_4n, zs_57_5, zs_57_6, zs_57_9, zs_57_9n, zs_57_10, zs_57_13, zs_57_16, zs_57_19, zs_57_19n, zs_57_20, zs_57_21, zs_57_24, zs_57_24n, zs_57_25, zs_57_28, zs_57_29, zs_57_32, zs_57_32n, zs_57_33, zs_57_36, zs_57_37, zs_57_37n, zs_57_38, zs_57_41, zs_57_44, zs_57_44n, zs_57_45, zs_57_48, zs_57_51, zr0_0, zrc_1, f_70, zbk_x]
theorem f_330 {S : Nat} {x1 : Int32} {x2 : Int32} {a3 : Nat} : zcall zP sv (d + 4) 330 [.ref h.2.1, .int x1, .int x2, .ref a3] (zext h (zC0 h.2.1) S) = some (.inl (some (.int (nI 1))), zext (zext h (zC0 h.2.1) S) [(0, [])] 6) := by
  simp only [zc_330, zs_330_0, zs_330_0n, zs_330_1, zs_330_2, zs_330_2n, zs_330_3, zs_330_4, zs_330_5, zs_330_8, zs_330_9, zs_330_10, zs_330_13, zs_330_13n, zs_330_15, zs_330_16, zs_330_17, zs_330_18, zr0_0, zrc_1, f_57, zbk_x]
  rfl
theorem f_58 {S : Nat} {x0 : Int32} : zcall zP sv (d + 3) 58 [.ref h.2.1, .int x0] (zext h (zC0 h.2.1) S) = some (.inr 2, zext (zext h (zC0 h.2.1) S) [(0, [])] 6) := by
  simp only [zc_58, zs_58_0, zs_58_0n, zs_58_1, zs_58_2, zs_58_5, zs_58_5n, zs_58_6, zs_58_6n, zs_58_7, zs_58_10, zs_58_11, zs_58_14, zs_58_14n, zs_58_15, zs_58_15n, zs_58_16, zs_58_19, zs_58_20, zs_58_21, zs_58_21n, zs_58_22, zs_58_25, zs_58_26, zs_58_29, zs_58_29n, zs_58_30, zs_58_33, zs_58_36, zr0_0, zrc_1, f_70, zbk_x]
theorem f_331 {S : Nat} {x1 : Int32} {a2 : Nat} : zcall zP sv (d + 4) 331 [.ref h.2.1, .int x1, .ref a2] (zext h (zC0 h.2.1) S) = some (.inl (some (.int (nI 1))), zext (zext h (zC0 h.2.1) S) [(0, [])] 6) := by
  simp only [zc_331, zs_331_0, zs_331_0n, zs_331_1, zs_331_2, zs_331_2n, zs_331_3, zs_331_4, zs_331_7, zs_331_8, zs_331_9, zs_331_12, zs_331_12n, zs_331_13, zs_331_14, zs_331_15, zs_331_16, zr0_0, zrc_1, f_58, zbk_x]
  rfl
theorem f_63 {S : Nat} {x0 : Int32} : zcall zP sv (d + 3) 63 [.ref h.2.1, .int x0] (zext h (zC0 h.2.1) S) = some (.inr 2, zext (zext h (zC0 h.2.1) S) [(0, [])] 6) := by
  simp only [zc_63, zs_63_0, zs_63_0n, zs_63_1, zs_63_4, zs_63_4n, zs_63_5, zs_63_6, zs_63_9, zs_63_9n, zs_63_10, zs_63_13, zs_63_16, zs_63_19, zs_63_19n, zs_63_20, zs_63_23, zs_63_26, zs_63_29, zs_63_30, zs_63_31, zs_63_31n, zs_63_32, zs_63_35, zs_63_38, zs_63_39, zs_63_39n, zs_63_40, zs_63_43, zs_63_46, zs_63_47, zs_63_48, zr0_0, zrc_1, f_70, zbk_x]
theorem f_335 {S : Nat} {x1 : Int32} {a2 : Nat} : zcall zP sv (d + 4) 335 [.ref h.2.1, .int x1, .ref a2] (zext h (zC0 h.2.1) S) = some (.inl (some (.int (nI 1))), zext (zext h (zC0 h.2.1) S) [(0, [])] 6) := by
  simp only [zc_335, zs_335_0, zs_335_0n, zs_335_1, zs_335_2, zs_335_2n, zs_335_3, zs_335_4, zs_335_7, zs_335_8, zs_335_9, zs_335_12, zs_335_12n, zs_335_13, zs_335_14, zs_335_15, zs_335_16, zr0_0, zrc_1, f_63, zbk_x]
  rfl
end ZCD
