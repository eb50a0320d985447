theorem zsw_ne {tab : List (Int × Nat)} {j : Nat} {x : Int32} (h : ∀ q, q ∈ tab → q.1 ≠ x.toInt) : zswp tab j x = j := by
  unfold zswp
  have : tab.find? (fun q => q.1 == x.toInt) = none := by
    rw [List.find?_eq_none]
    intro q hq he
    exact h q hq (by simpa using he)
  rw [this]
  rfl
theorem nI_neI {x : Int32} {k : Nat} (hk : k < 2 ^ 31) (h : ¬ x = nI k) : (k : Int) ≠ x.toInt := fun h1 => h (by
  rw [← nI_toInt hk] at h1
  exact (Int32.toInt_inj.mp h1).symm)
theorem zsw_84 {k : Int32} (h1 : ¬ k = nI 110) (h2 : ¬ k = nI 43) (h3 : ¬ k = nI 45) (h4 : ¬ k = nI 42) : zswp (zP.2.2.2.1 0) 59 k = 59 := by
  apply zsw_ne
  intro q hq
  have e0 : zP.2.2.2.1 0 = [(42, 55), (43, 47), (45, 51), (110, 44)] := rfl
  rw [e0] at hq
  simp only [List.mem_cons, List.not_mem_nil, or_false] at hq
  rcases hq with rfl | rfl | rfl | rfl
  · exact nI_neI (k := 42) (by decide) h4
  · exact nI_neI (k := 43) (by decide) h2
  · exact nI_neI (k := 45) (by decide) h3
  · exact nI_neI (k := 110) (by decide) h1
theorem nIx1 : ((nI 43 : Int32) = nI 110) = False := by decide +kernel
theorem nIx2 : ((nI 45 : Int32) = nI 110) = False := by decide +kernel
theorem nIx3 : ((nI 45 : Int32) = nI 43) = False := by decide +kernel
theorem nIx4 : ((nI 42 : Int32) = nI 110) = False := by decide +kernel
theorem nIx5 : ((nI 42 : Int32) = nI 43) = False := by decide +kernel
theorem nIx6 : ((nI 42 : Int32) = nI 45) = False := by decide +kernel
section ZDE
variable {sv : Nat → Value} {d : Nat} {h : zH}
theorem d_84 {k a b : Int32} : zcall zP sv (d + 1) 84 [.int k, .int a, .int b] h = some (.inl (some (.int (yop k a b))), h) := by
  rw [zc_84, zs_84_0, zs_84_1]
  unfold yop
  by_cases h1 : k = nI 110
  · rw [if_pos h1, h1, zw_0_110]
    simp only [zs_84_0, zs_84_1, zs_84_44, zs_84_45, zs_84_46, zs_84_47, zs_84_48, zs_84_49, zs_84_50, zs_84_51, zs_84_52, zs_84_53, zs_84_54, zs_84_55, zs_84_56, zs_84_57, zs_84_58, zs_84_59, zs_84_60]
  · rw [if_neg h1]
    by_cases h2 : k = nI 43
    · rw [if_pos h2, h2, zw_0_43]
      simp only [zs_84_0, zs_84_1, zs_84_44, zs_84_45, zs_84_46, zs_84_47, zs_84_48, zs_84_49, zs_84_50, zs_84_51, zs_84_52, zs_84_53, zs_84_54, zs_84_55, zs_84_56, zs_84_57, zs_84_58, zs_84_59, zs_84_60]
    · rw [if_neg h2]
      by_cases h3 : k = nI 45
      · rw [if_pos h3, h3, zw_0_45]
        simp only [zs_84_0, zs_84_1, zs_84_44, zs_84_45, zs_84_46, zs_84_47, zs_84_48, zs_84_49, zs_84_50, zs_84_51, zs_84_52, zs_84_53, zs_84_54, zs_84_55, zs_84_56, zs_84_57, zs_84_58, zs_84_59, zs_84_60]
      · rw [if_neg h3]
        by_cases h4 : k = nI 42
        · rw [if_pos h4, h4, zw_0_42]
          simp only [zs_84_0, zs_84_1, zs_84_44, zs_84_45, zs_84_46, zs_84_47, zs_84_48, zs_84_49, zs_84_50, zs_84_51, zs_84_52, zs_84_53, zs_84_54, zs_84_55, zs_84_56, zs_84_57, zs_84_58, zs_84_59, zs_84_60]
        · rw [if_neg h4, zsw_84 h1 h2 h3 h4]
          simp only [zs_84_0, zs_84_1, zs_84_44, zs_84_45, zs_84_46, zs_84_47, zs_84_48, zs_84_49, zs_84_50, zs_84_51, zs_84_52, zs_84_53, zs_84_54, zs_84_55, zs_84_56, zs_84_57, zs_84_58, zs_84_59, zs_84_60]
def yis (k : Int32) : Bool := decide (k = nI 43) || decide (k = nI 45) || decide (k = nI 42)
def yb (b : Bool) : Int32 := if b = true then nI 1 else 0
theorem yb_t : yb true = nI 1 := rfl
theorem yb_f : yb false = 0 := rfl
theorem zty_5b {b : Bool} : zty 5 (.int (yb b)) = true := by cases b <;> rfl
theorem d_83 {k : Int32} : zcall zP sv (d + 1) 83 [.int k] h = some (.inl (some (.int (yb (yis k)))), h) := by
  unfold yis
  by_cases h1 : k = nI 43
  · simp only [zc_83, zs_83_0, zs_83_1, zs_83_3, zs_83_6, zs_83_7, zs_83_9, zs_83_12, zs_83_13, zs_83_15, zs_83_18, zs_83_19, zs_83_22, zs_83_23, if_pos h1, zgd_t, zty_51, decide_eq_true h1, Bool.true_or, yb_t]
  · by_cases h2 : k = nI 45
    · simp only [zc_83, zs_83_0, zs_83_1, zs_83_3, zs_83_6, zs_83_7, zs_83_9, zs_83_12, zs_83_13, zs_83_15, zs_83_18, zs_83_19, zs_83_22, zs_83_23, if_neg h1, if_pos h2, zgd_t, zty_51, decide_eq_false h1, decide_eq_true h2, Bool.true_or, Bool.false_or, yb_t]
    · by_cases h3 : k = nI 42
      · simp only [zc_83, zs_83_0, zs_83_1, zs_83_3, zs_83_6, zs_83_7, zs_83_9, zs_83_12, zs_83_13, zs_83_15, zs_83_18, zs_83_19, zs_83_22, zs_83_23, if_neg h1, if_neg h2, if_pos h3, zgd_t, zty_51, decide_eq_false h1, decide_eq_false h2, decide_eq_true h3, Bool.false_or, yb_t]
      · simp only [zc_83, zs_83_0, zs_83_1, zs_83_3, zs_83_6, zs_83_7, zs_83_9, zs_83_12, zs_83_13, zs_83_15, zs_83_18, zs_83_19, zs_83_22, zs_83_23, if_neg h1, if_neg h2, if_neg h3, zgd_t, zty_50, decide_eq_false h1, decide_eq_false h2, decide_eq_false h3, Bool.false_or, yb_f]
end ZDE
def yfP (k _ a b : Int32) : Int32 := if k = nI 118 then nI 1 else if k = nI 42 then a + b else ymx a b
def yfR (T : List Int32) (k v a b : Int32) : Int32 := if k = nI 99 then v else if k = nI 118 then yg T (v - nI 97) else yop k a b
def yfD (k _ a b : Int32) : Int32 := if yis k = true then (if a = b then a + nI 1 else ymx a b) else if k = nI 110 then a else nI 1
def yfO (k _ a b : Int32) : Int32 := if yis k = true then (if ymx b (a + nI 1) < ymx a (b + nI 1) then ymx b (a + nI 1) else ymx a (b + nI 1)) else if k = nI 110 then a else nI 1
section ZDF
variable {sv : Nat → Value} {d : Nat}
theorem d_120 {h : zH} {t m g i : Nat} {ns : List yN} {nd : yN} {A B C : List Int32} (ht : zTre h t m ns) (hg : zGau h g A B C) (hnd : ns[i]? = some nd) : zcall zP sv (d + 3) 120 [.ref g, .ref t, .int (nI i)] h = some (.inl (some (.int (yfP nd.1 nd.2.1 (yg A nd.2.2.1) (yg A nd.2.2.2)))), h) := by
  have e0 := hg.1
  unfold yfP ymx
  by_cases h1 : nd.1 = nI 118
  · simp (disch := exact znw_u) only [zc_120, zs_120_0, zs_120_0n, zs_120_1, zs_120_2, zs_120_5, zs_120_6, zs_120_7, zs_120_9, zs_120_12, zs_120_13, zs_120_14, zs_120_14n, zs_120_15, zs_120_18, zs_120_18n, zs_120_19, zs_120_20, zs_120_23, zs_120_26, zs_120_28, zs_120_28n, zs_120_29, zs_120_32, zs_120_32n, zs_120_33, zs_120_34, zs_120_37, zs_120_40, zs_120_42, zs_120_43, zs_120_45, zs_120_48, zs_120_50, zs_120_52, zs_120_53, zs_120_56, zs_120_58, zs_120_60, zs_120_63, zTre_rc ht, d_182 ht, e0, zGc, zrc_10, zf_10_0, zp_10_0, zp_10_0n, zf_10_1, zp_10_1, zp_10_1n, zf_10_2, zp_10_2, zp_10_2n, zRow_rc hg.2.1, d_165 hg.2.1, zRow_rc hg.2.2.2.1, d_165 hg.2.2.2.1, d_184 ht hnd, d_185 ht hnd, d_186 ht hnd, d_187 ht hnd, zbk_v, zts_s, zts_n, if_pos h1]
  · by_cases h2 : nd.1 = nI 42
    · simp (disch := exact znw_u) only [zc_120, zs_120_0, zs_120_0n, zs_120_1, zs_120_2, zs_120_5, zs_120_6, zs_120_7, zs_120_9, zs_120_12, zs_120_13, zs_120_14, zs_120_14n, zs_120_15, zs_120_18, zs_120_18n, zs_120_19, zs_120_20, zs_120_23, zs_120_26, zs_120_28, zs_120_28n, zs_120_29, zs_120_32, zs_120_32n, zs_120_33, zs_120_34, zs_120_37, zs_120_40, zs_120_42, zs_120_43, zs_120_45, zs_120_48, zs_120_50, zs_120_52, zs_120_53, zs_120_56, zs_120_58, zs_120_60, zs_120_63, zTre_rc ht, d_182 ht, e0, zGc, zrc_10, zf_10_0, zp_10_0, zp_10_0n, zf_10_1, zp_10_1, zp_10_1n, zf_10_2, zp_10_2, zp_10_2n, zRow_rc hg.2.1, d_165 hg.2.1, zRow_rc hg.2.2.2.1, d_165 hg.2.2.2.1, d_184 ht hnd, d_185 ht hnd, d_186 ht hnd, d_187 ht hnd, zbk_v, zts_s, zts_n, if_neg h1, if_pos h2]
    · simp (disch := exact znw_u) only [zc_120, zs_120_0, zs_120_0n, zs_120_1, zs_120_2, zs_120_5, zs_120_6, zs_120_7, zs_120_9, zs_120_12, zs_120_13, zs_120_14, zs_120_14n, zs_120_15, zs_120_18, zs_120_18n, zs_120_19, zs_120_20, zs_120_23, zs_120_26, zs_120_28, zs_120_28n, zs_120_29, zs_120_32, zs_120_32n, zs_120_33, zs_120_34, zs_120_37, zs_120_40, zs_120_42, zs_120_43, zs_120_45, zs_120_48, zs_120_50, zs_120_52, zs_120_53, zs_120_56, zs_120_58, zs_120_60, zs_120_63, zTre_rc ht, d_182 ht, e0, zGc, zrc_10, zf_10_0, zp_10_0, zp_10_0n, zf_10_1, zp_10_1, zp_10_1n, zf_10_2, zp_10_2, zp_10_2n, zRow_rc hg.2.1, d_165 hg.2.1, zRow_rc hg.2.2.2.1, d_165 hg.2.2.2.1, d_184 ht hnd, d_185 ht hnd, d_186 ht hnd, d_187 ht hnd, zbk_v, zts_s, zts_n, if_neg h1, if_neg h2]
theorem d_122 {h : zH} {t m g i : Nat} {ns : List yN} {nd : yN} {A B C : List Int32} {l : Nat} {T : List Int32} (ht : zTre h t m ns) (hg : zGau h g A B C) (hnd : ns[i]? = some nd) (hl : zRow h l T) : zcall zP sv (d + 3) 122 [.ref g, .ref t, .int (nI i), .ref l] h = some (.inl (some (.int (yfR T nd.1 nd.2.1 (yg A nd.2.2.1) (yg A nd.2.2.2)))), h) := by
  have e0 := hg.1
  unfold yfR
  by_cases h1 : nd.1 = nI 99
  · simp (disch := exact znw_u) only [zc_122, zs_122_0, zs_122_0n, zs_122_1, zs_122_2, zs_122_5, zs_122_7, zs_122_9, zs_122_11, zs_122_14, zs_122_14n, zs_122_15, zs_122_16, zs_122_19, zs_122_20, zs_122_22, zs_122_24, zs_122_27, zs_122_27n, zs_122_28, zs_122_28n, zs_122_29, zs_122_30, zs_122_33, zs_122_35, zs_122_36, zs_122_39, zs_122_40, zs_122_42, zs_122_42n, zs_122_43, zs_122_46, zs_122_46n, zs_122_47, zs_122_48, zs_122_51, zs_122_54, zs_122_54n, zs_122_55, zs_122_58, zs_122_58n, zs_122_59, zs_122_60, zs_122_63, zs_122_66, zs_122_69, zTre_rc ht, d_182 ht, e0, zGc, zrc_10, zf_10_0, zp_10_0, zp_10_0n, zf_10_1, zp_10_1, zp_10_1n, zf_10_2, zp_10_2, zp_10_2n, zRow_rc hg.2.1, d_165 hg.2.1, zRow_rc hg.2.2.2.1, d_165 hg.2.2.2.1, d_184 ht hnd, d_185 ht hnd, d_186 ht hnd, d_187 ht hnd, zbk_v, zts_s, zts_n, if_pos h1]
  · by_cases h2 : nd.1 = nI 118
    · simp (disch := exact znw_u) only [zc_122, zs_122_0, zs_122_0n, zs_122_1, zs_122_2, zs_122_5, zs_122_7, zs_122_9, zs_122_11, zs_122_14, zs_122_14n, zs_122_15, zs_122_16, zs_122_19, zs_122_20, zs_122_22, zs_122_24, zs_122_27, zs_122_27n, zs_122_28, zs_122_28n, zs_122_29, zs_122_30, zs_122_33, zs_122_35, zs_122_36, zs_122_39, zs_122_40, zs_122_42, zs_122_42n, zs_122_43, zs_122_46, zs_122_46n, zs_122_47, zs_122_48, zs_122_51, zs_122_54, zs_122_54n, zs_122_55, zs_122_58, zs_122_58n, zs_122_59, zs_122_60, zs_122_63, zs_122_66, zs_122_69, zTre_rc ht, d_182 ht, e0, zGc, zrc_10, zf_10_0, zp_10_0, zp_10_0n, zf_10_1, zp_10_1, zp_10_1n, zf_10_2, zp_10_2, zp_10_2n, zRow_rc hg.2.1, d_165 hg.2.1, zRow_rc hg.2.2.2.1, d_165 hg.2.2.2.1, d_184 ht hnd, d_185 ht hnd, d_186 ht hnd, d_187 ht hnd, zbk_v, zts_s, zts_n, if_neg h1, if_pos h2, zRow_rc hl, d_165 hl]
    · simp (disch := exact znw_u) only [zc_122, zs_122_0, zs_122_0n, zs_122_1, zs_122_2, zs_122_5, zs_122_7, zs_122_9, zs_122_11, zs_122_14, zs_122_14n, zs_122_15, zs_122_16, zs_122_19, zs_122_20, zs_122_22, zs_122_24, zs_122_27, zs_122_27n, zs_122_28, zs_122_28n, zs_122_29, zs_122_30, zs_122_33, zs_122_35, zs_122_36, zs_122_39, zs_122_40, zs_122_42, zs_122_42n, zs_122_43, zs_122_46, zs_122_46n, zs_122_47, zs_122_48, zs_122_51, zs_122_54, zs_122_54n, zs_122_55, zs_122_58, zs_122_58n, zs_122_59, zs_122_60, zs_122_63, zs_122_66, zs_122_69, zTre_rc ht, d_182 ht, e0, zGc, zrc_10, zf_10_0, zp_10_0, zp_10_0n, zf_10_1, zp_10_1, zp_10_1n, zf_10_2, zp_10_2, zp_10_2n, zRow_rc hg.2.1, d_165 hg.2.1, zRow_rc hg.2.2.2.1, d_165 hg.2.2.2.1, d_184 ht hnd, d_185 ht hnd, d_186 ht hnd, d_187 ht hnd, zbk_v, zts_s, zts_n, if_neg h1, if_neg h2, d_84]
theorem d_127 {h : zH} {t m g i : Nat} {ns : List yN} {nd : yN} {A B C : List Int32} (ht : zTre h t m ns) (hg : zGau h g A B C) (hnd : ns[i]? = some nd) : zcall zP sv (d + 3) 127 [.ref g, .ref t, .int (nI i)] h = some (.inl (some (.int (yfD nd.1 nd.2.1 (yg C nd.2.2.1) (yg C nd.2.2.2)))), h) := by
  have e0 := hg.1
  unfold yfD ymx
  cases h1 : yis nd.1 with
  | true =>
    by_cases h2 : yg C nd.2.2.1 = yg C nd.2.2.2
    · simp (disch := exact znw_u) only [zc_127, zs_127_0, zs_127_0n, zs_127_1, zs_127_4, zs_127_4n, zs_127_5, zs_127_6, zs_127_9, zs_127_12, zs_127_13, zs_127_13n, zs_127_14, zs_127_17, zs_127_17n, zs_127_18, zs_127_19, zs_127_22, zs_127_25, zs_127_27, zs_127_27n, zs_127_28, zs_127_29, zs_127_32, zs_127_35, zs_127_38, zs_127_39, zs_127_41, zs_127_44, zs_127_45, zs_127_46, zs_127_47, zs_127_50, zs_127_51, zs_127_53, zs_127_56, zs_127_57, zs_127_57n, zs_127_58, zs_127_59, zs_127_62, zs_127_64, zs_127_67, zs_127_68, zs_127_71, zs_127_72, zTre_rc ht, d_182 ht, e0, zGc, zrc_10, zf_10_0, zp_10_0, zp_10_0n, zf_10_1, zp_10_1, zp_10_1n, zf_10_2, zp_10_2, zp_10_2n, zRow_rc hg.2.1, d_165 hg.2.1, zRow_rc hg.2.2.2.1, d_165 hg.2.2.2.1, d_184 ht hnd, d_185 ht hnd, d_186 ht hnd, d_187 ht hnd, zbk_v, zts_s, zts_n, d_83, h1, yb_t, nI_1e0, if_pos h2, ↓reduceIte]
    · simp (disch := exact znw_u) only [zc_127, zs_127_0, zs_127_0n, zs_127_1, zs_127_4, zs_127_4n, zs_127_5, zs_127_6, zs_127_9, zs_127_12, zs_127_13, zs_127_13n, zs_127_14, zs_127_17, zs_127_17n, zs_127_18, zs_127_19, zs_127_22, zs_127_25, zs_127_27, zs_127_27n, zs_127_28, zs_127_29, zs_127_32, zs_127_35, zs_127_38, zs_127_39, zs_127_41, zs_127_44, zs_127_45, zs_127_46, zs_127_47, zs_127_50, zs_127_51, zs_127_53, zs_127_56, zs_127_57, zs_127_57n, zs_127_58, zs_127_59, zs_127_62, zs_127_64, zs_127_67, zs_127_68, zs_127_71, zs_127_72, zTre_rc ht, d_182 ht, e0, zGc, zrc_10, zf_10_0, zp_10_0, zp_10_0n, zf_10_1, zp_10_1, zp_10_1n, zf_10_2, zp_10_2, zp_10_2n, zRow_rc hg.2.1, d_165 hg.2.1, zRow_rc hg.2.2.2.1, d_165 hg.2.2.2.1, d_184 ht hnd, d_185 ht hnd, d_186 ht hnd, d_187 ht hnd, zbk_v, zts_s, zts_n, d_83, h1, yb_t, nI_1e0, if_neg h2, ↓reduceIte]
  | false =>
    by_cases h2 : nd.1 = nI 110
    · simp (disch := exact znw_u) only [zc_127, zs_127_0, zs_127_0n, zs_127_1, zs_127_4, zs_127_4n, zs_127_5, zs_127_6, zs_127_9, zs_127_12, zs_127_13, zs_127_13n, zs_127_14, zs_127_17, zs_127_17n, zs_127_18, zs_127_19, zs_127_22, zs_127_25, zs_127_27, zs_127_27n, zs_127_28, zs_127_29, zs_127_32, zs_127_35, zs_127_38, zs_127_39, zs_127_41, zs_127_44, zs_127_45, zs_127_46, zs_127_47, zs_127_50, zs_127_51, zs_127_53, zs_127_56, zs_127_57, zs_127_57n, zs_127_58, zs_127_59, zs_127_62, zs_127_64, zs_127_67, zs_127_68, zs_127_71, zs_127_72, zTre_rc ht, d_182 ht, e0, zGc, zrc_10, zf_10_0, zp_10_0, zp_10_0n, zf_10_1, zp_10_1, zp_10_1n, zf_10_2, zp_10_2, zp_10_2n, zRow_rc hg.2.1, d_165 hg.2.1, zRow_rc hg.2.2.2.1, d_165 hg.2.2.2.1, d_184 ht hnd, d_185 ht hnd, d_186 ht hnd, d_187 ht hnd, zbk_v, zts_s, zts_n, d_83, h1, yb_f, if_pos h2, ↓reduceIte, Bool.false_eq_true]
    · simp (disch := exact znw_u) only [zc_127, zs_127_0, zs_127_0n, zs_127_1, zs_127_4, zs_127_4n, zs_127_5, zs_127_6, zs_127_9, zs_127_12, zs_127_13, zs_127_13n, zs_127_14, zs_127_17, zs_127_17n, zs_127_18, zs_127_19, zs_127_22, zs_127_25, zs_127_27, zs_127_27n, zs_127_28, zs_127_29, zs_127_32, zs_127_35, zs_127_38, zs_127_39, zs_127_41, zs_127_44, zs_127_45, zs_127_46, zs_127_47, zs_127_50, zs_127_51, zs_127_53, zs_127_56, zs_127_57, zs_127_57n, zs_127_58, zs_127_59, zs_127_62, zs_127_64, zs_127_67, zs_127_68, zs_127_71, zs_127_72, zTre_rc ht, d_182 ht, e0, zGc, zrc_10, zf_10_0, zp_10_0, zp_10_0n, zf_10_1, zp_10_1, zp_10_1n, zf_10_2, zp_10_2, zp_10_2n, zRow_rc hg.2.1, d_165 hg.2.1, zRow_rc hg.2.2.2.1, d_165 hg.2.2.2.1, d_184 ht hnd, d_185 ht hnd, d_186 ht hnd, d_187 ht hnd, zbk_v, zts_s, zts_n, d_83, h1, yb_f, if_neg h2, ↓reduceIte, Bool.false_eq_true]
theorem d_129 {h : zH} {t m g i : Nat} {ns : List yN} {nd : yN} {A B C : List Int32} (ht : zTre h t m ns) (hg : zGau h g A B C) (hnd : ns[i]? = some nd) : zcall zP sv (d + 3) 129 [.ref g, .ref t, .int (nI i)] h = some (.inl (some (.int (yfO nd.1 nd.2.1 (yg A nd.2.2.1) (yg A nd.2.2.2)))), h) := by
  have e0 := hg.1
  unfold yfO ymx
  cases h1 : yis nd.1 with
  | true => simp (disch := exact znw_u) only [zc_129, zs_129_0, zs_129_0n, zs_129_1, zs_129_4, zs_129_4n, zs_129_5, zs_129_6, zs_129_9, zs_129_12, zs_129_13, zs_129_13n, zs_129_14, zs_129_17, zs_129_17n, zs_129_18, zs_129_19, zs_129_22, zs_129_25, zs_129_27, zs_129_27n, zs_129_28, zs_129_29, zs_129_32, zs_129_35, zs_129_38, zs_129_39, zs_129_41, zs_129_42, zs_129_43, zs_129_46, zs_129_48, zs_129_50, zs_129_51, zs_129_52, zs_129_53, zs_129_56, zs_129_58, zs_129_60, zs_129_62, zs_129_65, zs_129_66, zs_129_66n, zs_129_67, zs_129_68, zs_129_71, zs_129_73, zs_129_76, zs_129_77, zs_129_80, zs_129_81, zTre_rc ht, d_182 ht, e0, zGc, zrc_10, zf_10_0, zp_10_0, zp_10_0n, zf_10_1, zp_10_1, zp_10_1n, zf_10_2, zp_10_2, zp_10_2n, zRow_rc hg.2.1, d_165 hg.2.1, zRow_rc hg.2.2.2.1, d_165 hg.2.2.2.1, d_184 ht hnd, d_185 ht hnd, d_186 ht hnd, d_187 ht hnd, zbk_v, zts_s, zts_n, d_83, h1, yb_t, nI_1e0, ↓reduceIte]
  | false =>
    by_cases h2 : nd.1 = nI 110
    · simp (disch := exact znw_u) only [zc_129, zs_129_0, zs_129_0n, zs_129_1, zs_129_4, zs_129_4n, zs_129_5, zs_129_6, zs_129_9, zs_129_12, zs_129_13, zs_129_13n, zs_129_14, zs_129_17, zs_129_17n, zs_129_18, zs_129_19, zs_129_22, zs_129_25, zs_129_27, zs_129_27n, zs_129_28, zs_129_29, zs_129_32, zs_129_35, zs_129_38, zs_129_39, zs_129_41, zs_129_42, zs_129_43, zs_129_46, zs_129_48, zs_129_50, zs_129_51, zs_129_52, zs_129_53, zs_129_56, zs_129_58, zs_129_60, zs_129_62, zs_129_65, zs_129_66, zs_129_66n, zs_129_67, zs_129_68, zs_129_71, zs_129_73, zs_129_76, zs_129_77, zs_129_80, zs_129_81, zTre_rc ht, d_182 ht, e0, zGc, zrc_10, zf_10_0, zp_10_0, zp_10_0n, zf_10_1, zp_10_1, zp_10_1n, zf_10_2, zp_10_2, zp_10_2n, zRow_rc hg.2.1, d_165 hg.2.1, zRow_rc hg.2.2.2.1, d_165 hg.2.2.2.1, d_184 ht hnd, d_185 ht hnd, d_186 ht hnd, d_187 ht hnd, zbk_v, zts_s, zts_n, d_83, h1, yb_f, if_pos h2, ↓reduceIte, Bool.false_eq_true]
    · simp (disch := exact znw_u) only [zc_129, zs_129_0, zs_129_0n, zs_129_1, zs_129_4, zs_129_4n, zs_129_5, zs_129_6, zs_129_9, zs_129_12, zs_129_13, zs_129_13n, zs_129_14, zs_129_17, zs_129_17n, zs_129_18, zs_129_19, zs_129_22, zs_129_25, zs_129_27, zs_129_27n, zs_129_28, zs_129_29, zs_129_32, zs_129_35, zs_129_38, zs_129_39, zs_129_41, zs_129_42, zs_129_43, zs_129_46, zs_129_48, zs_129_50, zs_129_51, zs_129_52, zs_129_53, zs_129_56, zs_129_58, zs_129_60, zs_129_62, zs_129_65, zs_129_66, zs_129_66n, zs_129_67, zs_129_68, zs_129_71, zs_129_73, zs_129_76, zs_129_77, zs_129_80, zs_129_81, zTre_rc ht, d_182 ht, e0, zGc, zrc_10, zf_10_0, zp_10_0, zp_10_0n, zf_10_1, zp_10_1, zp_10_1n, zf_10_2, zp_10_2, zp_10_2n, zRow_rc hg.2.1, d_165 hg.2.1, zRow_rc hg.2.2.2.1, d_165 hg.2.2.2.1, d_184 ht hnd, d_185 ht hnd, d_186 ht hnd, d_187 ht hnd, zbk_v, zts_s, zts_n, d_83, h1, yb_f, if_neg h2, ↓reduceIte, Bool.false_eq_true]
end ZDF
section ZDG
variable {sv : Nat → Value} {d : Nat} {t m g : Nat} {ns : List yN}
theorem d_117l {rt : Int32} (hw : ywf ns) (hd : g + 7 ≤ t ∨ t + 9 ≤ g) (hn : ns.length ≤ 124) : ∀ n i (h : zH) (A B C : List Int32), i + n = ns.length → zTre h t m ns → zGau h g A B C → yQ (yfN) ns A i → ∃ h' A', zrun zP sv (zcall zP sv (d + 3)) 117 2 [.val (.ref g), .val (.ref t), .val (.int rt), .val (.int (nI i))] [] h = some (.inl (some (.int (yg A' rt))), h') ∧ zGau h' g A' B C ∧ yQ (yfN) ns A' ns.length ∧ zfr g (g + 7) h h' := by
  intro n
  induction n with
  | zero =>
    intro i h A B C  hi ht hg hq
    obtain rfl : i = ns.length := by omega
    have f0 : ¬ nI ns.length < nI ns.length := nI_nlt (Nat.le_refl _) hw.1
    have e0 := hg.1
    refine ⟨h, A, ?_, hg, hq, zfr_rfl⟩
    simp only [zs_117_0, zs_117_1, zs_117_2, zs_117_3, zs_117_3n, zs_117_4, zs_117_7, zs_117_10, zs_117_10n, zs_117_11, zs_117_14, zs_117_15, zs_117_16, zs_117_16n, zs_117_17, zs_117_20, zs_117_20n, zs_117_21, zs_117_22, zs_117_25, zs_117_28, zs_117_29, zs_117_29n, zs_117_30, zs_117_33, zs_117_33n, zs_117_34, zs_117_35, zs_117_38, zs_117_41, zs_117_42, zs_117_45, zs_117_48, zs_117_51, zs_117_51n, zs_117_52, zs_117_55, zs_117_56, zs_117_59, zTre_rc ht, d_182 ht, d_183 ht, if_neg f0, e0, zGc, zrc_10, zf_10_0, zp_10_0, zp_10_0n, zf_10_1, zp_10_1, zp_10_1n, zf_10_2, zp_10_2, zp_10_2n, zRow_rc hg.2.1, d_165 hg.2.1, zbk_v, zts_s]
  | succ n ih =>
    intro i h A B C   hi ht hg hq
    obtain ⟨nd, hnd⟩ := ynd_ex (ns := ns) (i := i) (by omega)
    have hl := hw.1
    have f0 : nI i < nI ns.length := nI_lt (by omega) hl
    have e0 := hg.1
    have hA := hg.2.2.2.2.1
    have e1 := d_166 (sv := sv) (d := d + 2) (x := nI i) (y := (yfN nd.1 nd.2.1 (yg A nd.2.2.1) (yg A nd.2.2.2))) hg.2.1
    have g1 := zGau_1 (A' := ys A (nI i) (yfN nd.1 nd.2.1 (yg A nd.2.2.1) (yg A nd.2.2.2))) hg (by rw [ys_len, hA])
    have q1 := yQ_s hw hnd (by omega) hq
    have f1 : zfr g (g + 7) h (zup h (g + 1 + 1) (20, (ys A (nI i) (yfN nd.1 nd.2.1 (yg A nd.2.2.1) (yg A nd.2.2.2))).map Value.int)) := zfr_up (by omega) (by omega)
    rw [ys_k (by omega)] at e1 g1 f1
    obtain ⟨h', A', e2, w⟩ := ih (i + 1) _ _ _ _  (by omega) (zTre_fr ht f1 (by omega)) g1 q1
    refine ⟨h', A', ?_, w.1, w.2.1, zfr_tr f1 w.2.2⟩
    unfold yfN at e1
    simp (disch := assumption) only [zs_117_0, zs_117_1, zs_117_2, zs_117_3, zs_117_3n, zs_117_4, zs_117_7, zs_117_10, zs_117_10n, zs_117_11, zs_117_14, zs_117_15, zs_117_16, zs_117_16n, zs_117_17, zs_117_20, zs_117_20n, zs_117_21, zs_117_22, zs_117_25, zs_117_28, zs_117_29, zs_117_29n, zs_117_30, zs_117_33, zs_117_33n, zs_117_34, zs_117_35, zs_117_38, zs_117_41, zs_117_42, zs_117_45, zs_117_51, zs_117_51n, zs_117_52, zs_117_55, zs_117_56, zs_117_59, zTre_rc ht, d_182 ht, e0, zGc, zrc_10, zf_10_0, zp_10_0, zp_10_0n, zf_10_1, zp_10_1, zp_10_1n, zf_10_2, zp_10_2, zp_10_2n, zRow_rc hg.2.1, d_165 hg.2.1, zRow_rc hg.2.2.2.1, d_165 hg.2.2.2.1, d_184 ht hnd, d_185 ht hnd, d_186 ht hnd, d_187 ht hnd, zbk_v, zts_s, zts_n, zGau_rc hg, if_pos f0, e1]
    rw [zs_117_48, nI_1']
    exact e2
theorem d_118l {rt : Int32} (hw : ywf ns) (hd : g + 7 ≤ t ∨ t + 9 ≤ g) (hn : ns.length ≤ 124) : ∀ n i (h : zH) (A B C : List Int32) (s4 : Slot) (s5 : Slot), znw s4 = true → znw s5 = true → i + n = ns.length → zTre h t m ns → zGau h g A B C → yQ (yfL) ns A i → ∃ h' A', zrun zP sv (zcall zP sv (d + 3)) 118 2 [.val (.ref g), .val (.ref t), .val (.int rt), .val (.int (nI i)), s4, s5] [] h = some (.inl (some (.int (yg A' rt))), h') ∧ zGau h' g A' B C ∧ yQ (yfL) ns A' ns.length ∧ zfr g (g + 7) h h' := by
  intro n
  induction n with
  | zero =>
    intro i h A B C s4 s5 _ _ hi ht hg hq
    obtain rfl : i = ns.length := by omega
    have f0 : ¬ nI ns.length < nI ns.length := nI_nlt (Nat.le_refl _) hw.1
    have e0 := hg.1
    refine ⟨h, A, ?_, hg, hq, zfr_rfl⟩
    simp only [zs_118_0, zs_118_1, zs_118_2, zs_118_3, zs_118_3n, zs_118_4, zs_118_7, zs_118_10, zs_118_10n, zs_118_11, zs_118_14, zs_118_14n, zs_118_15, zs_118_16, zs_118_19, zs_118_22, zs_118_24, zs_118_24n, zs_118_25, zs_118_28, zs_118_28n, zs_118_29, zs_118_30, zs_118_33, zs_118_36, zs_118_38, zs_118_38n, zs_118_39, zs_118_42, zs_118_43, zs_118_44, zs_118_46, zs_118_48, zs_118_51, zs_118_52, zs_118_55, zs_118_58, zs_118_61, zs_118_61n, zs_118_62, zs_118_65, zs_118_66, zs_118_69, zTre_rc ht, d_182 ht, d_183 ht, if_neg f0, e0, zGc, zrc_10, zf_10_0, zp_10_0, zp_10_0n, zf_10_1, zp_10_1, zp_10_1n, zf_10_2, zp_10_2, zp_10_2n, zRow_rc hg.2.1, d_165 hg.2.1, zbk_v, zts_s]
  | succ n ih =>
    intro i h A B C s4 s5 hs0 hs1 hi ht hg hq
    obtain ⟨nd, hnd⟩ := ynd_ex (ns := ns) (i := i) (by omega)
    have hl := hw.1
    have f0 : nI i < nI ns.length := nI_lt (by omega) hl
    have e0 := hg.1
    have hA := hg.2.2.2.2.1
    have e1 := d_166 (sv := sv) (d := d + 2) (x := nI i) (y := (yfL nd.1 nd.2.1 (yg A nd.2.2.1) (yg A nd.2.2.2))) hg.2.1
    have g1 := zGau_1 (A' := ys A (nI i) (yfL nd.1 nd.2.1 (yg A nd.2.2.1) (yg A nd.2.2.2))) hg (by rw [ys_len, hA])
    have q1 := yQ_s hw hnd (by omega) hq
    have f1 : zfr g (g + 7) h (zup h (g + 1 + 1) (20, (ys A (nI i) (yfL nd.1 nd.2.1 (yg A nd.2.2.1) (yg A nd.2.2.2))).map Value.int)) := zfr_up (by omega) (by omega)
    rw [ys_k (by omega)] at e1 g1 f1
    obtain ⟨h', A', e2, w⟩ := ih (i + 1) _ _ _ _ (.val (.int (yg A nd.2.2.1))) (.val (.int (yg A nd.2.2.2))) rfl rfl (by omega) (zTre_fr ht f1 (by omega)) g1 q1
    refine ⟨h', A', ?_, w.1, w.2.1, zfr_tr f1 w.2.2⟩
    unfold yfL ymx at e1
    simp (disch := assumption) only [zs_118_0, zs_118_1, zs_118_2, zs_118_3, zs_118_3n, zs_118_4, zs_118_7, zs_118_10, zs_118_10n, zs_118_11, zs_118_14, zs_118_14n, zs_118_15, zs_118_16, zs_118_19, zs_118_22, zs_118_24, zs_118_24n, zs_118_25, zs_118_28, zs_118_28n, zs_118_29, zs_118_30, zs_118_33, zs_118_36, zs_118_38, zs_118_38n, zs_118_39, zs_118_42, zs_118_43, zs_118_44, zs_118_46, zs_118_48, zs_118_51, zs_118_52, zs_118_55, zs_118_61, zs_118_61n, zs_118_62, zs_118_65, zs_118_66, zs_118_69, zTre_rc ht, d_182 ht, e0, zGc, zrc_10, zf_10_0, zp_10_0, zp_10_0n, zf_10_1, zp_10_1, zp_10_1n, zf_10_2, zp_10_2, zp_10_2n, zRow_rc hg.2.1, d_165 hg.2.1, zRow_rc hg.2.2.2.1, d_165 hg.2.2.2.1, d_184 ht hnd, d_185 ht hnd, d_186 ht hnd, d_187 ht hnd, zbk_v, zts_s, zts_n, zGau_rc hg, if_pos f0, e1]
    rw [zs_118_58, nI_1']
    exact e2
theorem d_119l  (hw : ywf ns) (hd : g + 7 ≤ t ∨ t + 9 ≤ g) (hn : ns.length ≤ 124) : ∀ n i (h : zH) (A B C : List Int32), i + n = ns.length → zTre h t m ns → zGau h g A B C → yQ (yfP) ns A i → ∃ h' A', zrun zP sv (zcall zP sv (d + 3)) 119 2 [.val (.ref g), .val (.ref t), .val (.int (nI i))] [] h = some (.inl (some (.int (yg A' (nI ns.length - nI 1)))), h') ∧ zGau h' g A' B C ∧ yQ (yfP) ns A' ns.length ∧ zfr g (g + 7) h h' := by
  intro n
  induction n with
  | zero =>
    intro i h A B C  hi ht hg hq
    obtain rfl : i = ns.length := by omega
    have f0 : ¬ nI ns.length < nI ns.length := nI_nlt (Nat.le_refl _) hw.1
    have e0 := hg.1
    refine ⟨h, A, ?_, hg, hq, zfr_rfl⟩
    simp only [zs_119_0, zs_119_1, zs_119_2, zs_119_3, zs_119_3n, zs_119_4, zs_119_7, zs_119_10, zs_119_10n, zs_119_11, zs_119_14, zs_119_15, zs_119_15n, zs_119_16, zs_119_16n, zs_119_17, zs_119_18, zs_119_21, zs_119_24, zs_119_27, zs_119_30, zs_119_30n, zs_119_31, zs_119_34, zs_119_34n, zs_119_35, zs_119_38, zs_119_41, zTre_rc ht, d_182 ht, d_183 ht, if_neg f0, e0, zGc, zrc_10, zf_10_0, zp_10_0, zp_10_0n, zf_10_1, zp_10_1, zp_10_1n, zf_10_2, zp_10_2, zp_10_2n, zRow_rc hg.2.1, d_165 hg.2.1, zbk_v, zts_s]
  | succ n ih =>
    intro i h A B C   hi ht hg hq
    obtain ⟨nd, hnd⟩ := ynd_ex (ns := ns) (i := i) (by omega)
    have hl := hw.1
    have f0 : nI i < nI ns.length := nI_lt (by omega) hl
    have e0 := hg.1
    have hA := hg.2.2.2.2.1
    have e1 := d_166 (sv := sv) (d := d + 2) (x := nI i) (y := (yfP nd.1 nd.2.1 (yg A nd.2.2.1) (yg A nd.2.2.2))) hg.2.1
    have g1 := zGau_1 (A' := ys A (nI i) (yfP nd.1 nd.2.1 (yg A nd.2.2.1) (yg A nd.2.2.2))) hg (by rw [ys_len, hA])
    have q1 := yQ_s hw hnd (by omega) hq
    have f1 : zfr g (g + 7) h (zup h (g + 1 + 1) (20, (ys A (nI i) (yfP nd.1 nd.2.1 (yg A nd.2.2.1) (yg A nd.2.2.2))).map Value.int)) := zfr_up (by omega) (by omega)
    rw [ys_k (by omega)] at e1 g1 f1
    obtain ⟨h', A', e2, w⟩ := ih (i + 1) _ _ _ _  (by omega) (zTre_fr ht f1 (by omega)) g1 q1
    refine ⟨h', A', ?_, w.1, w.2.1, zfr_tr f1 w.2.2⟩
    skip
    simp (disch := assumption) only [zs_119_0, zs_119_1, zs_119_2, zs_119_3, zs_119_3n, zs_119_4, zs_119_7, zs_119_10, zs_119_10n, zs_119_11, zs_119_14, zs_119_15, zs_119_15n, zs_119_16, zs_119_16n, zs_119_17, zs_119_18, zs_119_21, zs_119_24, zs_119_30, zs_119_30n, zs_119_31, zs_119_34, zs_119_34n, zs_119_35, zs_119_38, zs_119_41, zTre_rc ht, d_182 ht, e0, zGc, zrc_10, zf_10_0, zp_10_0, zp_10_0n, zf_10_1, zp_10_1, zp_10_1n, zf_10_2, zp_10_2, zp_10_2n, zRow_rc hg.2.1, d_165 hg.2.1, zRow_rc hg.2.2.2.1, d_165 hg.2.2.2.1, d_184 ht hnd, d_185 ht hnd, d_186 ht hnd, d_187 ht hnd, zbk_v, zts_s, zts_n, zGau_rc hg, if_pos f0, d_120 ht hg hnd, e1]
    rw [zs_119_27, nI_1']
    exact e2
theorem d_121l {rt : Int32} {l : Nat} {T : List Int32} (hw : ywf ns) (hd : g + 7 ≤ t ∨ t + 9 ≤ g) (hn : ns.length ≤ 124) (hdl : g + 7 ≤ l ∨ l + 2 ≤ g) : ∀ n i (h : zH) (A B C : List Int32), i + n = ns.length → zTre h t m ns → zGau h g A B C → zRow h l T → yQ (yfR T) ns A i → ∃ h' A', zrun zP sv (zcall zP sv (d + 3)) 121 3 [.val (.ref g), .val (.ref t), .val (.int rt), .val (.ref l), .val (.int (nI i))] [] h = some (.inl (some (.int (yg A' rt))), h') ∧ zGau h' g A' B C ∧ yQ (yfR T) ns A' ns.length ∧ zfr g (g + 7) h h' := by
  intro n
  induction n with
  | zero =>
    intro i h A B C  hi ht hg hl2 hq
    obtain rfl : i = ns.length := by omega
    have f0 : ¬ nI ns.length < nI ns.length := nI_nlt (Nat.le_refl _) hw.1
    have e0 := hg.1
    refine ⟨h, A, ?_, hg, hq, zfr_rfl⟩
    simp only [zs_121_0, zs_121_1, zs_121_3, zs_121_5, zs_121_5n, zs_121_6, zs_121_9, zs_121_12, zs_121_12n, zs_121_13, zs_121_16, zs_121_18, zs_121_18n, zs_121_19, zs_121_19n, zs_121_20, zs_121_22, zs_121_22n, zs_121_23, zs_121_26, zs_121_29, zs_121_32, zs_121_35, zs_121_35n, zs_121_36, zs_121_39, zs_121_40, zs_121_43, zTre_rc ht, d_182 ht, d_183 ht, if_neg f0, e0, zGc, zrc_10, zf_10_0, zp_10_0, zp_10_0n, zf_10_1, zp_10_1, zp_10_1n, zf_10_2, zp_10_2, zp_10_2n, zRow_rc hg.2.1, d_165 hg.2.1, zbk_v, zts_s]
  | succ n ih =>
    intro i h A B C   hi ht hg hl2 hq
    obtain ⟨nd, hnd⟩ := ynd_ex (ns := ns) (i := i) (by omega)
    have hl := hw.1
    have f0 : nI i < nI ns.length := nI_lt (by omega) hl
    have e0 := hg.1
    have hA := hg.2.2.2.2.1
    have e1 := d_166 (sv := sv) (d := d + 2) (x := nI i) (y := (yfR T nd.1 nd.2.1 (yg A nd.2.2.1) (yg A nd.2.2.2))) hg.2.1
    have g1 := zGau_1 (A' := ys A (nI i) (yfR T nd.1 nd.2.1 (yg A nd.2.2.1) (yg A nd.2.2.2))) hg (by rw [ys_len, hA])
    have q1 := yQ_s hw hnd (by omega) hq
    have f1 : zfr g (g + 7) h (zup h (g + 1 + 1) (20, (ys A (nI i) (yfR T nd.1 nd.2.1 (yg A nd.2.2.1) (yg A nd.2.2.2))).map Value.int)) := zfr_up (by omega) (by omega)
    rw [ys_k (by omega)] at e1 g1 f1
    obtain ⟨h', A', e2, w⟩ := ih (i + 1) _ _ _ _  (by omega) (zTre_fr ht f1 (by omega)) g1 (zRow_fr hl2 f1 (by omega)) q1
    refine ⟨h', A', ?_, w.1, w.2.1, zfr_tr f1 w.2.2⟩
    skip
    simp (disch := assumption) only [zs_121_0, zs_121_1, zs_121_3, zs_121_5, zs_121_5n, zs_121_6, zs_121_9, zs_121_12, zs_121_12n, zs_121_13, zs_121_16, zs_121_18, zs_121_18n, zs_121_19, zs_121_19n, zs_121_20, zs_121_22, zs_121_22n, zs_121_23, zs_121_26, zs_121_29, zs_121_35, zs_121_35n, zs_121_36, zs_121_39, zs_121_40, zs_121_43, zTre_rc ht, d_182 ht, e0, zGc, zrc_10, zf_10_0, zp_10_0, zp_10_0n, zf_10_1, zp_10_1, zp_10_1n, zf_10_2, zp_10_2, zp_10_2n, zRow_rc hg.2.1, d_165 hg.2.1, zRow_rc hg.2.2.2.1, d_165 hg.2.2.2.1, d_184 ht hnd, d_185 ht hnd, d_186 ht hnd, d_187 ht hnd, zbk_v, zts_s, zts_n, zGau_rc hg, if_pos f0, d_122 ht hg hnd hl2, e1]
    rw [zs_121_32, nI_1']
    exact e2
theorem d_125l  (hw : ywf ns) (hd : g + 7 ≤ t ∨ t + 9 ≤ g) (hn : ns.length ≤ 124) : ∀ n i (h : zH) (A B C : List Int32), i + n = ns.length → zTre h t m ns → zGau h g A B C → yQ (yfD) ns C i → ∃ h' A', zrun zP sv (zcall zP sv (d + 3)) 125 2 [.val (.ref g), .val (.ref t), .val (.int (nI i))] [] h = some (.inl (some (.int (yg A' (nI ns.length - nI 1)))), h') ∧ zGau h' g A B A' ∧ yQ (yfD) ns A' ns.length ∧ zfr g (g + 7) h h' := by
  intro n
  induction n with
  | zero =>
    intro i h A B C  hi ht hg hq
    obtain rfl : i = ns.length := by omega
    have f0 : ¬ nI ns.length < nI ns.length := nI_nlt (Nat.le_refl _) hw.1
    have e0 := hg.1
    refine ⟨h, C, ?_, hg, hq, zfr_rfl⟩
    simp only [zs_125_0, zs_125_1, zs_125_2, zs_125_3, zs_125_3n, zs_125_4, zs_125_7, zs_125_10, zs_125_10n, zs_125_11, zs_125_14, zs_125_15, zs_125_15n, zs_125_16, zs_125_16n, zs_125_17, zs_125_18, zs_125_21, zs_125_24, zs_125_27, zs_125_30, zs_125_30n, zs_125_31, zs_125_34, zs_125_34n, zs_125_35, zs_125_38, zs_125_41, zTre_rc ht, d_182 ht, d_183 ht, if_neg f0, e0, zGc, zrc_10, zf_10_0, zp_10_0, zp_10_0n, zf_10_1, zp_10_1, zp_10_1n, zf_10_2, zp_10_2, zp_10_2n, zRow_rc hg.2.2.2.1, d_165 hg.2.2.2.1, zbk_v, zts_s]
  | succ n ih =>
    intro i h A B C   hi ht hg hq
    obtain ⟨nd, hnd⟩ := ynd_ex (ns := ns) (i := i) (by omega)
    have hl := hw.1
    have f0 : nI i < nI ns.length := nI_lt (by omega) hl
    have e0 := hg.1
    have hA := hg.2.2.2.2.2.2
    have e1 := d_166 (sv := sv) (d := d + 2) (x := nI i) (y := (yfD nd.1 nd.2.1 (yg C nd.2.2.1) (yg C nd.2.2.2))) hg.2.2.2.1
    have g1 := zGau_3 (A' := ys C (nI i) (yfD nd.1 nd.2.1 (yg C nd.2.2.1) (yg C nd.2.2.2))) hg (by rw [ys_len, hA])
    have q1 := yQ_s hw hnd (by omega) hq
    have f1 : zfr g (g + 7) h (zup h (g + 5 + 1) (20, (ys C (nI i) (yfD nd.1 nd.2.1 (yg C nd.2.2.1) (yg C nd.2.2.2))).map Value.int)) := zfr_up (by omega) (by omega)
    rw [ys_k (by omega)] at e1 g1 f1
    obtain ⟨h', A', e2, w⟩ := ih (i + 1) _ _ _ _  (by omega) (zTre_fr ht f1 (by omega)) g1 q1
    refine ⟨h', A', ?_, w.1, w.2.1, zfr_tr f1 w.2.2⟩
    skip
    simp (disch := assumption) only [zs_125_0, zs_125_1, zs_125_2, zs_125_3, zs_125_3n, zs_125_4, zs_125_7, zs_125_10, zs_125_10n, zs_125_11, zs_125_14, zs_125_15, zs_125_15n, zs_125_16, zs_125_16n, zs_125_17, zs_125_18, zs_125_21, zs_125_24, zs_125_30, zs_125_30n, zs_125_31, zs_125_34, zs_125_34n, zs_125_35, zs_125_38, zs_125_41, zTre_rc ht, d_182 ht, e0, zGc, zrc_10, zf_10_0, zp_10_0, zp_10_0n, zf_10_1, zp_10_1, zp_10_1n, zf_10_2, zp_10_2, zp_10_2n, zRow_rc hg.2.1, d_165 hg.2.1, zRow_rc hg.2.2.2.1, d_165 hg.2.2.2.1, d_184 ht hnd, d_185 ht hnd, d_186 ht hnd, d_187 ht hnd, zbk_v, zts_s, zts_n, zGau_rc hg, if_pos f0, d_127 ht hg hnd, e1]
    rw [zs_125_27, nI_1']
    exact e2
theorem d_128l  (hw : ywf ns) (hd : g + 7 ≤ t ∨ t + 9 ≤ g) (hn : ns.length ≤ 124) : ∀ n i (h : zH) (A B C : List Int32), i + n = ns.length → zTre h t m ns → zGau h g A B C → yQ (yfO) ns A i → ∃ h' A', zrun zP sv (zcall zP sv (d + 3)) 128 2 [.val (.ref g), .val (.ref t), .val (.int (nI i))] [] h = some (.inl (some (.int (yg A' (nI ns.length - nI 1)))), h') ∧ zGau h' g A' B C ∧ yQ (yfO) ns A' ns.length ∧ zfr g (g + 7) h h' := by
  intro n
  induction n with
  | zero =>
    intro i h A B C  hi ht hg hq
    obtain rfl : i = ns.length := by omega
    have f0 : ¬ nI ns.length < nI ns.length := nI_nlt (Nat.le_refl _) hw.1
    have e0 := hg.1
    refine ⟨h, A, ?_, hg, hq, zfr_rfl⟩
    simp only [zs_128_0, zs_128_1, zs_128_2, zs_128_3, zs_128_3n, zs_128_4, zs_128_7, zs_128_10, zs_128_10n, zs_128_11, zs_128_14, zs_128_15, zs_128_15n, zs_128_16, zs_128_16n, zs_128_17, zs_128_18, zs_128_21, zs_128_24, zs_128_27, zs_128_30, zs_128_30n, zs_128_31, zs_128_34, zs_128_34n, zs_128_35, zs_128_38, zs_128_41, zTre_rc ht, d_182 ht, d_183 ht, if_neg f0, e0, zGc, zrc_10, zf_10_0, zp_10_0, zp_10_0n, zf_10_1, zp_10_1, zp_10_1n, zf_10_2, zp_10_2, zp_10_2n, zRow_rc hg.2.1, d_165 hg.2.1, zbk_v, zts_s]
  | succ n ih =>
    intro i h A B C   hi ht hg hq
    obtain ⟨nd, hnd⟩ := ynd_ex (ns := ns) (i := i) (by omega)
    have hl := hw.1
    have f0 : nI i < nI ns.length := nI_lt (by omega) hl
    have e0 := hg.1
    have hA := hg.2.2.2.2.1
    have e1 := d_166 (sv := sv) (d := d + 2) (x := nI i) (y := (yfO nd.1 nd.2.1 (yg A nd.2.2.1) (yg A nd.2.2.2))) hg.2.1
    have g1 := zGau_1 (A' := ys A (nI i) (yfO nd.1 nd.2.1 (yg A nd.2.2.1) (yg A nd.2.2.2))) hg (by rw [ys_len, hA])
    have q1 := yQ_s hw hnd (by omega) hq
    have f1 : zfr g (g + 7) h (zup h (g + 1 + 1) (20, (ys A (nI i) (yfO nd.1 nd.2.1 (yg A nd.2.2.1) (yg A nd.2.2.2))).map Value.int)) := zfr_up (by omega) (by omega)
    rw [ys_k (by omega)] at e1 g1 f1
    obtain ⟨h', A', e2, w⟩ := ih (i + 1) _ _ _ _  (by omega) (zTre_fr ht f1 (by omega)) g1 q1
    refine ⟨h', A', ?_, w.1, w.2.1, zfr_tr f1 w.2.2⟩
    skip
    simp (disch := assumption) only [zs_128_0, zs_128_1, zs_128_2, zs_128_3, zs_128_3n, zs_128_4, zs_128_7, zs_128_10, zs_128_10n, zs_128_11, zs_128_14, zs_128_15, zs_128_15n, zs_128_16, zs_128_16n, zs_128_17, zs_128_18, zs_128_21, zs_128_24, zs_128_30, zs_128_30n, zs_128_31, zs_128_34, zs_128_34n, zs_128_35, zs_128_38, zs_128_41, zTre_rc ht, d_182 ht, e0, zGc, zrc_10, zf_10_0, zp_10_0, zp_10_0n, zf_10_1, zp_10_1, zp_10_1n, zf_10_2, zp_10_2, zp_10_2n, zRow_rc hg.2.1, d_165 hg.2.1, zRow_rc hg.2.2.2.1, d_165 hg.2.2.2.1, d_184 ht hnd, d_185 ht hnd, d_186 ht hnd, d_187 ht hnd, zbk_v, zts_s, zts_n, zGau_rc hg, if_pos f0, d_129 ht hg hnd, e1]
    rw [zs_128_27, nI_1']
    exact e2
theorem d_117 {h : zH} {A B C : List Int32} {rt : Int32} (hw : ywf ns) (hd : g + 7 ≤ t ∨ t + 9 ≤ g) (hn : ns.length ≤ 124) (ht : zTre h t m ns) (hg : zGau h g A B C) : ∃ h' A', zcall zP sv (d + 4) 117 [.ref g, .ref t, .int rt] h = some (.inl (some (.int (yg A' rt))), h') ∧ zGau h' g A' B C ∧ yQ (yfN) ns A' ns.length ∧ zfr g (g + 7) h h' := by
  obtain ⟨h', A', e, w⟩ := d_117l (sv := sv) (d := d) (rt := rt) hw hd hn ns.length 0 h A B C (Nat.zero_add _) ht hg yQ_0
  rw [nI_0] at e
  refine ⟨h', A', ?_, w⟩
  rw [zc_117, zs_117_0, zs_117_1 znw_u, e]
theorem d_118 {h : zH} {A B C : List Int32} {rt : Int32} (hw : ywf ns) (hd : g + 7 ≤ t ∨ t + 9 ≤ g) (hn : ns.length ≤ 124) (ht : zTre h t m ns) (hg : zGau h g A B C) : ∃ h' A', zcall zP sv (d + 4) 118 [.ref g, .ref t, .int rt] h = some (.inl (some (.int (yg A' rt))), h') ∧ zGau h' g A' B C ∧ yQ (yfL) ns A' ns.length ∧ zfr g (g + 7) h h' := by
  obtain ⟨h', A', e, w⟩ := d_118l (sv := sv) (d := d) (rt := rt) hw hd hn ns.length 0 h A B C .unset .unset rfl rfl (Nat.zero_add _) ht hg yQ_0
  rw [nI_0] at e
  refine ⟨h', A', ?_, w⟩
  rw [zc_118, zs_118_0, zs_118_1 znw_u, e]
theorem d_119 {h : zH} {A B C : List Int32}  (hw : ywf ns) (hd : g + 7 ≤ t ∨ t + 9 ≤ g) (hn : ns.length ≤ 124) (ht : zTre h t m ns) (hg : zGau h g A B C) : ∃ h' A', zcall zP sv (d + 4) 119 [.ref g, .ref t] h = some (.inl (some (.int (yg A' (nI ns.length - nI 1)))), h') ∧ zGau h' g A' B C ∧ yQ (yfP) ns A' ns.length ∧ zfr g (g + 7) h h' := by
  obtain ⟨h', A', e, w⟩ := d_119l (sv := sv) (d := d) hw hd hn ns.length 0 h A B C (Nat.zero_add _) ht hg yQ_0
  rw [nI_0] at e
  refine ⟨h', A', ?_, w⟩
  rw [zc_119, zs_119_0, zs_119_1 znw_u, e]
theorem d_121 {h : zH} {A B C : List Int32} {rt : Int32} {l : Nat} {T : List Int32} (hw : ywf ns) (hd : g + 7 ≤ t ∨ t + 9 ≤ g) (hn : ns.length ≤ 124) (hdl : g + 7 ≤ l ∨ l + 2 ≤ g) (ht : zTre h t m ns) (hg : zGau h g A B C) (hl2 : zRow h l T) : ∃ h' A', zcall zP sv (d + 4) 121 [.ref g, .ref t, .int rt, .ref l] h = some (.inl (some (.int (yg A' rt))), h') ∧ zGau h' g A' B C ∧ yQ (yfR T) ns A' ns.length ∧ zfr g (g + 7) h h' := by
  obtain ⟨h', A', e, w⟩ := d_121l (sv := sv) (d := d) (rt := rt) hw hd hn hdl ns.length 0 h A B C (Nat.zero_add _) ht hg hl2 yQ_0
  rw [nI_0] at e
  refine ⟨h', A', ?_, w⟩
  rw [zc_121, zs_121_0, zs_121_1 znw_u, e]
theorem d_125 {h : zH} {A B C : List Int32}  (hw : ywf ns) (hd : g + 7 ≤ t ∨ t + 9 ≤ g) (hn : ns.length ≤ 124) (ht : zTre h t m ns) (hg : zGau h g A B C) : ∃ h' A', zcall zP sv (d + 4) 125 [.ref g, .ref t] h = some (.inl (some (.int (yg A' (nI ns.length - nI 1)))), h') ∧ zGau h' g A B A' ∧ yQ (yfD) ns A' ns.length ∧ zfr g (g + 7) h h' := by
  obtain ⟨h', A', e, w⟩ := d_125l (sv := sv) (d := d) hw hd hn ns.length 0 h A B C (Nat.zero_add _) ht hg yQ_0
  rw [nI_0] at e
  refine ⟨h', A', ?_, w⟩
  rw [zc_125, zs_125_0, zs_125_1 znw_u, e]
theorem d_128 {h : zH} {A B C : List Int32}  (hw : ywf ns) (hd : g + 7 ≤ t ∨ t + 9 ≤ g) (hn : ns.length ≤ 124) (ht : zTre h t m ns) (hg : zGau h g A B C) : ∃ h' A', zcall zP sv (d + 4) 128 [.ref g, .ref t] h = some (.inl (some (.int (yg A' (nI ns.length - nI 1)))), h') ∧ zGau h' g A' B C ∧ yQ (yfO) ns A' ns.length ∧ zfr g (g + 7) h h' := by
  obtain ⟨h', A', e, w⟩ := d_128l (sv := sv) (d := d) hw hd hn ns.length 0 h A B C (Nat.zero_add _) ht hg yQ_0
  rw [nI_0] at e
  refine ⟨h', A', ?_, w⟩
  rw [zc_128, zs_128_0, zs_128_1 znw_u, e]
end ZDG
