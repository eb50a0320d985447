theorem z_main : zOK := by
  intro sv n0 b xs hs0 _ hb hl
  have hs : sv 0 = .int (nI 1) := hs0
  have hx : (zh0 n0 b xs).1 b = (28, xs.map Value.int) := if_pos rfl
  have hsz : (zh0 n0 b xs).2.1 = n0 := rfl
  have hsl : (zh0 n0 b xs).2.2 = 0 := rfl
  generalize hh : zh0 n0 b xs = h at *
  have hb' : b < h.2.1 := by rw [hsz]; exact hb
  have key : zgood (h.2.1 + 139) (h.2.2 + 15821) (zcall zP sv (25 + 6) 299 [.ref b] h) := by
    rw [c_law0 hs]
    have hx1 : (zext h (zC0 h.2.1) 15821).1 b = (28, xs.map Value.int) := by rw [zext_lo hb', hx]
    by_cases h4 : xs.length < 4
    · exact ⟨_, l_out hx1 (by rw [List.length_map]; exact h4), by rw [zext_sz, zC0_len]; omega, by rw [zext_sl]; omega⟩
    · have hl4 : xs.length = 4 := by omega
      clear hl h4 hh
      match xs, hl4 with
      | [x0, x1, x2, x3], _ =>
        have hx0 : h.1 b = (28, [.int x0, .int x1, .int x2, .int x3]) := hx
        have hx2 : (zext h (zC0 h.2.1) 15821).1 b = (28, .int x0 :: [.int x1, .int x2, .int x3]) := hx1
        rw [l_op hx2 rfl]
        obtain ⟨j, hj, ej⟩ := nI_63 x0
        rw [ej]
        rcases (show j = 0 ∨ j = 1 ∨ j = 2 ∨ j = 3 ∨ j = 4 ∨ j = 5 ∨ j = 6 ∨ j = 7 ∨ j = 8 ∨ j = 9 ∨ j = 10 ∨ j = 11 ∨ j = 12 ∨ j = 13 ∨ j = 14 ∨ j = 15 ∨ j = 16 ∨ j = 17 ∨ j = 18 ∨ j = 19 ∨ j = 20 ∨ j = 21 ∨ j = 22 ∨ j = 23 ∨ j = 24 ∨ j = 25 ∨ j = 26 ∨ j = 27 ∨ j = 28 ∨ j = 29 ∨ j = 30 ∨ j = 31 ∨ j = 32 ∨ j = 33 ∨ j = 34 ∨ j = 35 ∨ j = 36 ∨ j = 37 ∨ j = 38 ∨ j = 39 ∨ j = 40 ∨ j = 41 ∨ j = 42 ∨ j = 43 ∨ j = 44 ∨ j = 45 ∨ 46 ≤ j by omega) with hj2 | hj2 | hj2 | hj2 | hj2 | hj2 | hj2 | hj2 | hj2 | hj2 | hj2 | hj2 | hj2 | hj2 | hj2 | hj2 | hj2 | hj2 | hj2 | hj2 | hj2 | hj2 | hj2 | hj2 | hj2 | hj2 | hj2 | hj2 | hj2 | hj2 | hj2 | hj2 | hj2 | hj2 | hj2 | hj2 | hj2 | hj2 | hj2 | hj2 | hj2 | hj2 | hj2 | hj2 | hj2 | hj2 | hj2
        · subst hj2; rw [nI_0, zw_3_0]; exact k_0 (d := 0) hx0 hb'
        · subst hj2; rw [zw_3_1]; exact k_1 (d := 0) hx0 hb'
        · subst hj2; rw [zw_3_2]; exact k_2 (d := 0) hx0 hb'
        · subst hj2; rw [zw_3_3]; exact k_3 (d := 0) hx0 hb'
        · subst hj2; rw [zw_3_4]; exact k_4 (d := 0) hx0 hb'
        · subst hj2; rw [zw_3_5]; exact k_5 (d := 0) hx0 hb'
        · subst hj2; rw [zw_3_6]; exact k_6 (d := 0) hx0 hb'
        · subst hj2; rw [zw_3_7]; exact k_7 (d := 0) hx0 hb'
        · subst hj2; rw [zw_3_8]; exact k_8 (d := 0) hx0 hb'
        · subst hj2; rw [zw_3_9]; exact k_9 (d := 0) hx0 hb'
        · subst hj2; rw [zw_3_10]; exact k_10 (d := 0) hx0 hb'
        · subst hj2; rw [zw_3_11]; exact k_11 (d := 0) hx0 hb'
        · subst hj2; rw [zw_3_12]; exact k_12 (d := 0) hx0 hb'
        · subst hj2; rw [zw_3_13]; exact k_13 (d := 0) hx0 hb'
        · subst hj2; rw [zw_3_14]; exact k_14 (d := 0) hx0 hb'
        · subst hj2; rw [zw_3_15]; exact k_15 (d := 0) hx0 hb'
        · subst hj2; rw [zw_3_16]; exact k_16 (d := 0) hx0 hb'
        · subst hj2; rw [zw_3_17]; exact k_17 (d := 0) hx0 hb'
        · subst hj2; rw [zw_3_18]; exact k_18 (d := 0) hx0 hb'
        · subst hj2; rw [zw_3_19]; exact k_19 (d := 0) hx0 hb'
        · subst hj2; rw [zw_3_20]; exact k_20 (d := 0) hx0 hb'
        · subst hj2; rw [zw_3_21]; exact k_21 (d := 0) hx0 hb'
        · subst hj2; rw [zw_3_22]; exact k_22 (d := 0) hx0 hb'
        · subst hj2; rw [zw_3_23]; exact k_23 (d := 0) hx0 hb'
        · subst hj2; rw [zw_3_24]; exact k_24 (d := 0) hx0 hb'
        · subst hj2; rw [zw_3_25]; exact k_25 (d := 0) hx0 hb'
        · subst hj2; rw [zw_3_26]; exact k_26 (d := 0) hx0 hb'
        · subst hj2; rw [zw_3_27]; exact k_27 (d := 0) hx0 hb'
        · subst hj2; rw [zw_3_28]; exact k_28 (d := 0) hx0 hb'
        · subst hj2; rw [zw_3_29]; exact k_29 (d := 0) hx0 hb'
        · subst hj2; rw [zw_3_30]; exact k_30 (d := 0) hx0 hb'
        · subst hj2; rw [zw_3_31]; exact k_31 (d := 0) hx0 hb'
        · subst hj2; rw [zw_3_32]; exact k_32 (d := 0) hx0 hb'
        · subst hj2; rw [zw_3_33]; exact k_33 (d := 0) hx0 hb'
        · subst hj2; rw [zw_3_34]; exact k_34 (d := 0) hx0 hb'
        · subst hj2; rw [zw_3_35]; exact k_35 (d := 0) hx0 hb'
        · subst hj2; rw [zw_3_36]; exact k_36 (d := 0) hx0 hb'
        · subst hj2; rw [zw_3_37]; exact k_37 (d := 0) hx0 hb'
        · subst hj2; rw [zw_3_38]; exact k_38 (d := 0) hx0 hb'
        · subst hj2; rw [zw_3_39]; exact k_39 (d := 0) hx0 hb'
        · subst hj2; rw [zw_3_40]; exact k_40 (d := 0) hx0 hb'
        · subst hj2; rw [zw_3_41]; exact k_41 (d := 0) hx0 hb'
        · subst hj2; rw [zw_3_42]; exact k_42 (d := 0) hx0 hb'
        · subst hj2; rw [zw_3_43]; exact k_43 (d := 0) hx0 hb'
        · subst hj2; rw [zw_3_44]; exact k_44 (d := 0) hx0 hb'
        · subst hj2; rw [zw_3_45]; exact k_45 (d := 0) hx0 hb'
        · rw [zsw_d j hj hj2]
          exact zgood_out hx2 rfl (by rw [zext_sz, zC0_len]; omega) (by rw [zext_sl]; omega)
  obtain ⟨h', e, e1, e2⟩ := key
  exact ⟨31, h', by decide, e, by omega, by omega⟩
