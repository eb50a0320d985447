section ZQH
variable {sv : Nat → Value} {d : Nat} {m : Nat} {h : zH} {w : yW} {th : Int32} {i j : Nat} {t u : yT}
theorem e_259x {x y : Int32} (hM : zMdl h m w th) (hx : (yinF (ycur w) x && yinF (ycur w) y) = false) : zMC m h (zcall zP sv (d + 7) 259 [.ref m, .int x, .int y] h) 0 w (nI 1) := by
  obtain ⟨h1, e1, m1, k1⟩ := e_258x (sv := sv) (d := d) hM hx
  have r0 : ∀ X : zR, zrc (h.1 m) 13 X = X := fun X => zMdl_rc hM
  have c1 : ¬ (0 : Int32) < -1 := by decide +kernel
  refine ⟨h1, ?_, m1, k1⟩
  simp (disch := first | exact znw_u | exact znw_i) only [zc_259, zs_259_0, zs_259_0n, zs_259_1, zs_259_2, zs_259_3, zs_259_6, zs_259_7, zs_259_8, zs_259_11, zs_259_11n, zs_259_12, zs_259_13, zs_259_14, zs_259_17, zs_259_20, zs_259_21, zs_259_24, zs_259_25, r0, e1, zbk_v, zts_s, if_neg c1, zgd_t, zty_50]
theorem e_259 (hM : zMdl h m w th) (hi : (ycur w).1[i]? = some t) (hj : (ycur w).1[j]? = some u) : zMC m h (zcall zP sv (d + 7) 259 [.ref m, .int (nI i), .int (nI j)] h) (yb (decide (ypr t = ypr u))) w 0 := by
  obtain ⟨h1, e1, m1, k1⟩ := e_258 (sv := sv) (d := d) hM hi hj
  have r0 : ∀ X : zR, zrc (h.1 m) 13 X = X := fun X => zMdl_rc hM
  have hA := zMdl_A hM
  have ht := hA.2.1 t (List.mem_of_getElem? hi)
  have hu := hA.2.1 u (List.mem_of_getElem? hj)
  have m1' := zMdP_M m1
  have r1 : ∀ X : zR, zrc (h1.1 m) 13 X = X := fun X => zMdl_rc m1'
  obtain ⟨F, f31, f8, l5, ⟨hm, _⟩, _⟩ := m1
  have E2 : zcall zP sv (d + 6) 210 [.ref m, .int (nI ([] : yP).length), .int (nI (ypr t).length)] h1 = _ := e_210 (sv := sv) (d := d + 3) (pre := []) (post := ypr u) (pre' := ypr t) (post' := []) hm ht.1 hu.1 l5 rfl (by rw [List.append_nil])
  rw [List.length_nil, nI_0, ypr_len] at E2
  have hz := ytw_sz ht.1
  have c1 : (0 : Int32) < nI (ysz t) := by rw [← nI_0]; exact nI_lt hz (by have := ht.2.1; omega)
  refine ⟨h1, ?_, m1', k1⟩
  cases hb : decide (ypr t = ypr u) with
  | true =>
    rw [hb, yb_t] at E2
    simp (disch := first | exact znw_u | exact znw_i) only [zc_259, zs_259_0, zs_259_0n, zs_259_1, zs_259_2, zs_259_3, zs_259_6, zs_259_7, zs_259_8, zs_259_11, zs_259_11n, zs_259_12, zs_259_13, zs_259_14, zs_259_17, zs_259_20, zs_259_21, zs_259_24, zs_259_25, r0, e1, r1, E2, zbk_v, zts_s, if_pos c1, nI_1e0, ↓reduceIte, zgd_t, zty_51, yb_t]
  | false =>
    rw [hb, yb_f] at E2
    simp (disch := first | exact znw_u | exact znw_i) only [zc_259, zs_259_0, zs_259_0n, zs_259_1, zs_259_2, zs_259_3, zs_259_6, zs_259_7, zs_259_8, zs_259_11, zs_259_11n, zs_259_12, zs_259_13, zs_259_14, zs_259_17, zs_259_20, zs_259_21, zs_259_24, zs_259_25, r0, e1, r1, E2, zbk_v, zts_s, if_pos c1, ↓reduceIte, zgd_t, zty_50, yb_f]
end ZQH
