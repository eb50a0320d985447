section ZOT
variable {sv : Nat → Value} {d : Nat} {m : Nat} {F : Nat → Int32} {h : zH} {w : yW} {th : Int32}
/-- only numbers 31 (thrown) change -/
theorem zMdl_31 {x : Int32} (hM : zMdl h m w th) : ∃ F : Nat → Int32, h.1 m = (13, zMF m F) ∧ zMdl (zup h m (13, zMF m (yup F 31 x))) m w x ∧ zmw m h (zup h m (13, zMF m (yup F 31 x))) ∧ zWk h m F (ycur w) ∧ (∃ T, zTab h (m + 2) T) ∧ zRst h m F w ∧ yAok (ycur w) := by
  obtain ⟨F, f31, hw, ⟨T, hT⟩, hr, hA⟩ := hM
  exact ⟨F, hw.1, ⟨yup F 31 x, yup_eq, zWk_cg hw zup_at (fun q hq => zup_ne (by omega)), ⟨T, zTab_cg hT (zup_ne (by omega))⟩, zRst_cg hr ⟨yup_ne (by omega), yup_ne (by omega), yup_ne (by omega), yup_ne (by omega), yup_ne (by omega)⟩ (zup_ne (by omega)) (zup_ne (by omega)) (zup_ne (by omega)) (zup_ne (by omega)), hA⟩, ⟨fun q hq => zup_ne (by omega), rfl⟩, hw, ⟨T, hT⟩, hr, hA⟩
theorem e_231x {x : Int32} (hM : zMdl h m w th) (hl : w.1.length = 60) : zMC m h (zcall zP sv (d + 3) 231 [.ref m, .int x] h) 0 w (nI 1) := by
  obtain ⟨F, g, g1, g2, hw, hT, hr, hA⟩ := zMdl_31 (x := nI 1) hM
  refine ⟨_, ?_, g1, g2⟩
  have e26 : yup F 31 0 26 = nI 60 := by rw [yup_ne (by omega), hr.1.2.2.2.1, hl]
  have E := e_198 (sv := sv) (d := d + 1) (x := nI 1) (h := zup h m (13, zMF m (yup F 31 0))) (m := m) (F := yup F 31 0) zMo_up
  rw [yup_yup, zup_up] at E
  simp only [zc_231, zs_231_0, zs_231_0n, zs_231_1, zs_231_2, zs_231_5, zs_231_5n, zs_231_6, zs_231_9, zs_231_11, zs_231_14, zs_231_14n, zs_231_15, zs_231_16, zs_231_19, zs_231_20, zs_231_20n, zs_231_21, zs_231_24, zs_231_24n, zs_231_25, zs_231_26, zs_231_29, zs_231_30, zs_231_31, zs_231_32, zs_231_35, zs_231_36, zs_231_37, zs_231_37n, zs_231_38, zs_231_41, g, zmp_31, zup_at, zmf_26, e26, zrc_13v, E, zbk_v, zts_s, ↓reduceIte]
theorem e_231 {x : Int32} (hM : zMdl h m w th) (hl : w.1.length < 60) : zMC m h (zcall zP sv (d + 3) 231 [.ref m, .int x] h) (nI (w.1.length + 1)) (ysb w (w.1 ++ [ynr x])) 0 := by
  obtain ⟨F, g, g1, g2, hw, ⟨T, hT⟩, hr, hA⟩ := zMdl_31 (x := 0) hM
  obtain ⟨⟨a1, a2, a3, a4, a5, a6⟩, b, ⟨S, c1, c2⟩, e1, ⟨B, b1, b2, b3, b4⟩⟩ := hr
  have e26 : yup F 31 0 26 = nI w.1.length := by rw [yup_ne (by omega), a4]
  have n60 : ¬ nI w.1.length = nI 60 := fun q => absurd ((nI_eq (by omega) (by omega)).mp q) (by omega)
  have s1 : ∀ Kc : zC → zR, zaset (21, B.map Value.int) 21 (nI w.1.length) (.int x) Kc = Kc (21, (B.set w.1.length (ynr x)).map Value.int) := fun Kc => zsC (by omega) (by omega)
  have hln : (w.1 ++ [ynr x]).length = w.1.length + 1 := by rw [List.length_append, List.length_singleton]
  have hne : m + 17 ≠ m := by omega
  have hne2 : m ≠ m + 17 := by omega
  refine ⟨zup (zup h m (13, zMF m (yup (yup F 31 0) 26 (nI (w.1.length + 1))))) (m + 17) (21, (B.set w.1.length (ynr x)).map Value.int), ?_, ⟨yup (yup F 31 0) 26 (nI (w.1.length + 1)), by rw [yup_ne (by omega), yup_eq], zWk_cg hw (by rw [zup_ne (by omega), zup_at]) (fun q hq => by rw [zup_ne (by omega), zup_ne (by omega)]), ⟨T, zTab_cg hT (by rw [zup_ne (by omega), zup_ne (by omega)])⟩, ⟨⟨by rw [yup_ne (by omega), yup_ne (by omega)]; exact a1, by rw [yup_ne (by omega), yup_ne (by omega)]; exact a2, by rw [yup_ne (by omega), yup_ne (by omega)]; exact a3, by rw [yup_eq]; show _ = nI (w.1 ++ [ynr x]).length; rw [hln], by rw [yup_ne (by omega), yup_ne (by omega)]; exact a5, a6⟩, zKep_cg b (by rw [zup_ne (by omega), zup_ne (by omega)]), ⟨S, zTab_cg c1 (by rw [zup_ne (by omega), zup_ne (by omega)]), c2⟩, zTx_cg e1 (by rw [zup_ne (by omega), zup_ne (by omega)]), ⟨B.set w.1.length (ynr x), zup_at, by rw [List.length_set, b2], ?_, by show (w.1 ++ [ynr x]).length ≤ 60; rw [hln]; omega⟩⟩, hA⟩, ⟨fun q hq => by rw [zup_ne (by omega), zup_ne (by omega)], rfl⟩⟩
  · simp (disch := first | exact hne | exact hne2) only [zc_231, zs_231_0, zs_231_0n, zs_231_1, zs_231_2, zs_231_5, zs_231_5n, zs_231_6, zs_231_9, zs_231_11, zs_231_14, zs_231_14n, zs_231_15, zs_231_16, zs_231_19, zs_231_20, zs_231_20n, zs_231_21, zs_231_24, zs_231_24n, zs_231_25, zs_231_26, zs_231_29, zs_231_30, zs_231_31, zs_231_32, zs_231_35, zs_231_36, zs_231_37, zs_231_37n, zs_231_38, zs_231_41, g, zmp_31, zup_at, zmf_26, zmf_25, e26, if_neg n60, nI_1', zmp_26, zup_up, zup_ne, b1, s1, yup_eq, ↓reduceIte]
  · show (B.set w.1.length (ynr x)).take (w.1 ++ [ynr x]).length = w.1 ++ [ynr x]
    rw [hln]
    exact ytk_set b3 (by omega)
theorem e_232 (hM : zMdl h m w th) : zMC m h (zcall zP sv (d + 3) 232 [.ref m] h) (nI w.1.length) (ysb w []) 0 := by
  obtain ⟨F, g, g1, g2, hw, ⟨T, hT⟩, hr, hA⟩ := zMdl_31 (x := 0) hM
  have e26 : yup F 31 0 26 = nI w.1.length := by rw [yup_ne (by omega), hr.1.2.2.2.1]
  refine ⟨zup h m (13, zMF m (yup (yup F 31 0) 26 0)), ?_, ⟨yup (yup F 31 0) 26 0, by rw [yup_ne (by omega), yup_eq], zWk_cg hw zup_at (fun q hq => zup_ne (by omega)), ⟨T, zTab_cg hT (zup_ne (by omega))⟩, ?_, hA⟩, ⟨fun q hq => zup_ne (by omega), rfl⟩⟩
  · simp (disch := exact znw_u) only [zc_232, zs_232_0, zs_232_0n, zs_232_1, zs_232_2, zs_232_5, zs_232_5n, zs_232_6, zs_232_9, zs_232_10, zs_232_10n, zs_232_11, zs_232_12, zs_232_15, zs_232_16, g, zmp_31, zup_at, zmf_26, e26, zmp_26, zup_up]
  · obtain ⟨⟨a1, a2, a3, a4, a5, a6⟩, b, ⟨S, c1, c2⟩, e1, ⟨B, b1, b2, b3, b4⟩⟩ := hr
    exact ⟨⟨by rw [yup_ne (by omega), yup_ne (by omega)]; exact a1, by rw [yup_ne (by omega), yup_ne (by omega)]; exact a2, by rw [yup_ne (by omega), yup_ne (by omega)]; exact a3, by rw [yup_eq]; exact nI_0.symm, by rw [yup_ne (by omega), yup_ne (by omega)]; exact a5, a6⟩, zKep_cg b (zup_ne (by omega)), ⟨S, zTab_cg c1 (zup_ne (by omega)), c2⟩, zTx_cg e1 (zup_ne (by omega)), ⟨B, (zup_ne (by omega)).trans b1, b2, rfl, Nat.zero_le _⟩⟩
end ZOT
