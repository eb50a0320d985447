section ZSV
variable {sv : Nat → Value} {d : Nat} {m : Nat} {F : Nat → Int32} {h : zH} {w : yW} {th : Int32}
theorem e_297 (hM : zMdl h m w th) : zMC m h (zcall zP sv (d + 3) 297 [.ref m] h) (nI (ycur w).1.length) (ysi (ysk w (ycur w)) true) 0 := by
  obtain ⟨F, g, _, _, hw, ⟨T, hT⟩, hr, hA⟩ := zMdl_31 (x := 0) hM
  obtain ⟨⟨a1, a2, a3, a4, a5, a6⟩, b, ⟨S, c1, c2⟩, e1, e2⟩ := hr
  obtain ⟨_, ⟨N, hN, hn⟩, _⟩ := id hw
  obtain ⟨n0, N', rfl⟩ : ∃ n0 N', N = n0 :: N' := by
    cases N with
    | nil => exact absurd hN.2 (by decide)
    | cons a b => exact ⟨a, b, rfl⟩
  have hn0 : n0 = nI (ycur w).1.length := Option.some.inj hn.2.1
  have hl : N'.length = 386 := by
    have z := hN.2
    rw [List.length_cons] at z
    omega
  have e := c_297x (sv := sv) (d := d + 2) (h := h) (r := m) (p := m + 1) (q := m + 4) (A := N'.map Value.int) (B := S.map Value.int) (c := n0) g hN.1 c1.1 (by omega) (by omega) (by omega) (by rw [List.length_map, hl]) (by rw [List.length_map, c1.2]) (fun i hi => ⟨(n0 :: N')[i]'(by rw [hN.2]; exact hi), by
    show ((n0 :: N').map Value.int)[i]? = _
    rw [List.getElem?_map, List.getElem?_eq_getElem (by rw [hN.2]; exact hi)]; rfl⟩)
  rw [hn0] at e
  refine ⟨zup (zup h m (13, zMF m (yup (yup F 31 0) 5 (nI 1)))) (m + 4) (20, (n0 :: N').map Value.int), by rw [← hn0] at e ⊢; exact e, ⟨yup (yup F 31 0) 5 (nI 1), by rw [yup_ne (by omega), yup_eq], zWk_cg hw (by rw [zup_ne (by omega), zup_at]) (fun q hq => by rw [zup_ne (by omega), zup_ne (by omega)]), ⟨T, zTab_cg hT (by rw [zup_ne (by omega), zup_ne (by omega)])⟩, ⟨⟨by rw [yup_ne (by omega), yup_ne (by omega)]; exact a1, yup_eq, by rw [yup_ne (by omega), yup_ne (by omega)]; exact a3, by rw [yup_ne (by omega), yup_ne (by omega)]; exact a4, by rw [yup_ne (by omega), yup_ne (by omega)]; exact a5, a6⟩, zKep_cg b (by rw [zup_ne (by omega), zup_ne (by omega)]), ⟨n0 :: N', ⟨zup_at, hN.2⟩, fun _ => hn⟩, zTx_cg e1 (by rw [zup_ne (by omega), zup_ne (by omega)]), zTx_cg e2 (by rw [zup_ne (by omega), zup_ne (by omega)])⟩, hA⟩, ⟨fun q hq => by rw [zup_ne (by omega), zup_ne (by omega)], rfl⟩⟩
/-- a question that only resets thrown -/
theorem e_249 (hM : zMdl h m w th) : zMC m h (zcall zP sv (d + 3) 249 [.ref m] h) (nI (ycur w).1.length) w 0 := by
  obtain ⟨F, g, g1, g2, hw, _, hr, hA⟩ := zMdl_31 (x := 0) hM
  obtain ⟨_, ⟨N, hN, hn⟩, _⟩ := id hw
  have hN1 := hN.1
  have e0 := yNow_0 hn rfl
  refine ⟨_, ?_, g1, g2⟩
  have hne : m + 1 ≠ m := by omega
  simp (disch := exact hne) only [zc_249, zs_249_0, zs_249_0n, zs_249_1, zs_249_2, zs_249_5, zs_249_5n, zs_249_6, zs_249_9, zs_249_10, zs_249_11, g, zmp_31, zmf_0, zup_at, zup_ne, hN1, e0]
theorem e_251 (hM : zMdl h m w th) : zMC m h (zcall zP sv (d + 3) 251 [.ref m] h) (ycur w).2.2.1 w 0 := by
  obtain ⟨F, g, g1, g2, hw, _, hr, hA⟩ := zMdl_31 (x := 0) hM
  obtain ⟨_, ⟨N, hN, hn⟩, _⟩ := id hw
  have hN1 := hN.1
  have e0 : ∀ Kv, zael (20, N.map Value.int) 20 (nI 1) Kv = Kv (.int (ycur w).2.2.1) := fun Kv => zaelv (by rw [List.getElem?_map, hn.2.2.1]; rfl) (by decide)
  refine ⟨_, ?_, g1, g2⟩
  have hne : m + 1 ≠ m := by omega
  simp (disch := exact hne) only [zc_251, zs_251_0, zs_251_0n, zs_251_1, zs_251_2, zs_251_5, zs_251_5n, zs_251_6, zs_251_9, zs_251_10, zs_251_11, g, zmp_31, zmf_0, zup_at, zup_ne, hN1, e0]
theorem e_290 (hM : zMdl h m w th) : zMC m h (zcall zP sv (d + 3) 290 [.ref m] h) (ycur w).2.2.2 w 0 := by
  obtain ⟨F, g, g1, g2, hw, _, hr, hA⟩ := zMdl_31 (x := 0) hM
  obtain ⟨_, ⟨N, hN, hn⟩, _⟩ := id hw
  have hN1 := hN.1
  have e0 : ∀ Kv, zael (20, N.map Value.int) 20 (nI 2) Kv = Kv (.int (ycur w).2.2.2) := fun Kv => zaelv (by rw [List.getElem?_map, hn.2.2.2.1]; rfl) (by decide)
  refine ⟨_, ?_, g1, g2⟩
  have hne : m + 1 ≠ m := by omega
  simp (disch := exact hne) only [zc_290, zs_290_0, zs_290_0n, zs_290_1, zs_290_2, zs_290_5, zs_290_5n, zs_290_6, zs_290_9, zs_290_10, zs_290_11, g, zmp_31, zmf_0, zup_at, zup_ne, hN1, e0]
theorem e_295 (hM : zMdl h m w th) : zMC m h (zcall zP sv (d + 3) 295 [.ref m] h) (nI (yhis w).length) w 0 := by
  obtain ⟨F, g, g1, g2, hw, _, hr, hA⟩ := zMdl_31 (x := 0) hM
  have e3 : yup F 31 0 3 = nI (yhis w).length := by rw [yup_ne (by omega), hr.1.1]
  refine ⟨_, ?_, g1, g2⟩
  simp only [zc_295, zs_295_0, zs_295_0n, zs_295_1, zs_295_2, zs_295_5, zs_295_5n, zs_295_6, zs_295_9, g, zmp_31, zmf_3, zup_at, e3]
theorem e_293 (hM : zMdl h m w th) : zMC m h (zcall zP sv (d + 3) 293 [.ref m] h) (nI 1) w 0 := by
  obtain ⟨F, g, g1, g2, hw, _, hr, hA⟩ := zMdl_31 (x := 0) hM
  refine ⟨_, ?_, g1, g2⟩
  simp only [zc_293, zs_293_0, zs_293_0n, zs_293_1, zs_293_2, zs_293_5, zs_293_6, g, zmp_31, zgd_t, zty_51]
theorem e_294n (hM : zMdl h m w th) (he : w.2.1 = -1) : zMC m h (zcall zP sv (d + 3) 294 [.ref m] h) 0 w (nI 1) := by
  obtain ⟨F, g, g1, g2, hw, _, hr, hA⟩ := zMdl_31 (x := nI 1) hM
  have e3 : yup F 31 0 29 = -1 := by rw [yup_ne (by omega), hr.1.2.2.2.2.1, he]
  have E := e_198 (sv := sv) (d := d + 1) (x := nI 1) (h := zup h m (13, zMF m (yup F 31 0))) (m := m) (F := yup F 31 0) zMo_up
  rw [yup_yup, zup_up] at E
  have hneg : (-1 : Int32) < 0 := by decide +kernel
  refine ⟨_, ?_, g1, g2⟩
  simp only [zc_294, zs_294_0, zs_294_0n, zs_294_1, zs_294_2, zs_294_5, zs_294_5n, zs_294_6, zs_294_9, zs_294_12, zs_294_12n, zs_294_13, zs_294_14, zs_294_17, zs_294_20, zs_294_20n, zs_294_21, zs_294_24, g, zmp_31, zmf_29, zup_at, e3, if_pos hneg, zrc_13v, E, zbk_v, zts_s]
theorem e_294 (hM : zMdl h m w th) (he : ¬ w.2.1 < 0) : zMC m h (zcall zP sv (d + 3) 294 [.ref m] h) w.2.1 w 0 := by
  obtain ⟨F, g, g1, g2, hw, _, hr, hA⟩ := zMdl_31 (x := 0) hM
  have e3 : yup F 31 0 29 = w.2.1 := by rw [yup_ne (by omega), hr.1.2.2.2.2.1]
  refine ⟨_, ?_, g1, g2⟩
  simp only [zc_294, zs_294_0, zs_294_0n, zs_294_1, zs_294_2, zs_294_5, zs_294_5n, zs_294_6, zs_294_9, zs_294_12, zs_294_12n, zs_294_13, zs_294_14, zs_294_17, zs_294_20, zs_294_20n, zs_294_21, zs_294_24, g, zmp_31, zmf_29, zup_at, e3, if_neg he]
end ZSV
