def zgood (N M : Nat) (r : zR) : Prop := ∃ h' : zH, r = some (.inl (some (.int (nI 1))), h') ∧ h'.2.1 ≤ N + 40 ∧ h'.2.2 ≤ M + 400
theorem zm0_0 {K : Value → zR} : zael (20, (List.replicate 387 (.int 0)).set 1 (.int (nI 2))) 20 0 K = K (.int 0) := by
  have e1 := zael_k (kd := 20) (i := 0) (vs := (List.replicate 387 (.int 0)).set 1 (.int (nI 2))) (v := .int 0) (K := K) rfl (by decide)
  rw [nI_0] at e1
  exact e1
set_option maxRecDepth 10000 in
theorem zC0_len {m : Nat} : (zC0 m).length = 139 := rfl
section ZCY
variable {sv : Nat → Value} {d : Nat} {h : zH}
theorem f_70 {S : Nat} {x : Int32} : zcall zP sv (d + 2) 70 [.ref h.2.1, .int x] (zext h (zC0 h.2.1) S) = some (.inr 2, zext (zext h (zC0 h.2.1) S) [(0, [])] 6) := c_70x zr0_0 zr0_3
theorem f_27 {S : Nat} {x : Int32} : zcall zP sv (d + 3) 27 [.ref h.2.1, .int x] (zext h (zC0 h.2.1) S) = some (.inr 2, zext (zext h (zC0 h.2.1) S) [(0, [])] 6) := by
  simp only [zc_27, zs_27_0, zs_27_0n, zs_27_1, zs_27_2, zs_27_5, zs_27_5n, zs_27_6, zs_27_6n, zs_27_7, zs_27_10, zs_27_10n, zs_27_11, zs_27_14, zs_27_17, zs_27_17n, zs_27_18, zs_27_21, zs_27_22, zs_27_25, zs_27_25n, zs_27_26, zs_27_29, zs_27_32, zr0_0, zrc_1, f_70, zbk_x]
end ZCY
section ZCY
variable {sv : Nat → Value} {d : Nat} {h : zH} {l1 l2 l3 l4 l6 l7 l8 : Slot} {b : Nat} {N M : Nat}
theorem zgood_out {C : zCall} {vs : List Value} (hx : h.1 b = (28, vs)) (hn : vs.length = 4) (h1 : h.2.1 ≤ N + 40) (h2 : h.2.2 ≤ M + 400) : zgood N M (zrun zP sv C 299 2676 [.val (.ref b), l1, l2, l3, l4, .val (.int 0), l6, l7, l8] [] h) := ⟨h, l_out4 hx hn, h1, h2⟩
theorem k_9 {x0 x1 x2 x3 : Int32} (hx : h.1 b = (28, [.int x0, .int x1, .int x2, .int x3])) (hb : b < h.2.1) : zgood (h.2.1 + 139) (h.2.2 + 15821) (zrun zP sv (zcall zP sv (d + 30)) 299 749 [.val (.ref b), .val (.ref h.2.1), .val (.ref (h.2.1 + 119)), .val (.ref (h.2.1 + 137)), .val (.ref (h.2.1 + 138)), .val (.int 0), .unset, .unset, .unset] [] (zext h (zC0 h.2.1) 15821)) := by
  simp (maxSteps := 1000000) (disch := first | exact znw_u | exact znw_i | omega | assumption) only [zs_299_749, zs_299_749n, zs_299_750, zs_299_753, zs_299_753n, zs_299_754, zs_299_757, zs_299_760, zs_299_761, zs_33_0, zs_33_0n, zs_33_1, zs_33_4, zs_33_7, zs_169_0, zs_169_0n, zs_169_1, zs_169_4, zs_249_0, zs_249_0n, zs_249_1, zs_249_2, zs_249_5, zs_249_5n, zs_249_6, zs_249_9, zs_249_10, zs_249_11, zrc_1, zf_1_0, zp_1_0, zp_1_0n, zf_1_1, zp_1_1, zf_1_2, zp_1_2, zp_1_2n, zf_1_3, zp_1_3, zp_1_3n, zf_1_4, zp_1_40, zp_1_41, zf_1_5, zp_1_5, zp_1_5n, zf_1_6, zp_1_6, zp_1_6n, zf_1_7, zp_1_7, zp_1_7n, zf_1_8, zp_1_8, zp_1_8n, zf_1_9, zp_1_9, zp_1_9n, zf_1_10, zp_1_10, zp_1_10n, zf_1_11, zp_1_11, zp_1_11n, zf_1_12, zp_1_12, zp_1_12n, zrc_3, zf_3_0, zp_3_0, zp_3_0n, zf_3_1, zp_3_1, zf_3_2, zp_3_2, zp_3_2n, zf_3_3, zp_3_3, zf_3_4, zp_3_4, zrc_13, zf_13_0, zp_13_0, zp_13_0n, zf_13_1, zp_13_1, zp_13_1n, zf_13_2, zp_13_2, zp_13_2n, zf_13_3, zp_13_3, zf_13_4, zp_13_4, zp_13_4n, zf_13_5, zp_13_50, zp_13_51, zf_13_6, zp_13_6, zp_13_6n, zf_13_7, zp_13_7, zp_13_7n, zf_13_8, zp_13_8, zf_13_9, zp_13_9, zp_13_9n, zf_13_10, zp_13_10, zp_13_10n, zf_13_11, zp_13_11, zf_13_12, zp_13_12, zp_13_12n, zf_13_13, zp_13_13, zp_13_13n, zf_13_14, zp_13_14, zp_13_14n, zf_13_15, zp_13_15, zp_13_15n, zf_13_16, zp_13_16, zp_13_16n, zf_13_17, zp_13_17, zp_13_17n, zf_13_18, zp_13_18, zp_13_18n, zf_13_19, zp_13_19, zf_13_20, zp_13_20, zf_13_21, zp_13_21, zf_13_22, zp_13_22, zf_13_23, zp_13_23, zp_13_23n, zf_13_24, zp_13_24, zf_13_25, zp_13_25, zp_13_25n, zf_13_26, zp_13_26, zf_13_27, zp_13_27, zf_13_28, zp_13_28, zf_13_29, zp_13_29, zf_13_30, zp_13_30, zf_13_31, zp_13_31, zc_33, zc_169, zc_249, zr0_0, zr0_3, zr0_119, zr0_120, zm0_0, zup_ne, zup_at, zbk_v, zbk_x, zts_s, zts_n, zgd_t, zty_0i, zty_4r, znwa_k, if_true]
  first
  | exact zgood_out (vs := [.int x0, .int x1, .int x2, .int x3]) (by simp (disch := omega) only [zup_ne, zext_lo, zup_sz, zext_sz, hx]) rfl (by simp only [zup_sz, zext_sz, zC0_len, List.length_cons, List.length_nil]; omega) (by simp only [zup_sl, zext_sl]; omega)
end ZCY
