section ZMJ
variable {sv : Nat → Value} {d : Nat} {h : zH} {m : Nat} {F : Nat → Int32} {A : yA} {N : List Int32}
theorem yg_nn {A : List Int32} {v : Nat} (hv : v < 2 ^ 31) : yg A (nI v) = A.getD v 0 := by
  unfold yg
  rw [if_neg (nI_pos hv), nI_clamp hv]
theorem ys_nn {A : List Int32} {v : Nat} {x : Int32} (hv : v < 2 ^ 31) : ys A (nI v) x = A.set v x := by
  unfold ys
  rw [if_neg (nI_pos hv), nI_clamp hv]
theorem nI_97 {v : Nat} : nI (97 + v) - nI 97 = nI v := nI_sub'
theorem nI_397 {v : Nat} : nI 3 + nI (97 + v) - nI 97 = nI (3 + v) := by rw [nI_add, show 3 + (97 + v) = 97 + (3 + v) by omega, nI_sub']
theorem e_245x {c x : Int32} (hm : zMo h m F) (hb : (ylet c && (decide (¬ x < -999) && decide (¬ nI 999 < x))) = false) : zcall zP sv (d + 20) 245 [.ref m, .int c, .int x] h = some (.inl (some (.int (nI 1))), h) := by
  have E2 : zcall zP sv (d + 19) 204 [.int c] h = _ := e_204 (sv := sv) (d := d + 17) (c := c)
  have E3 : zcall zP sv (d + 19) 199 [.int x, .int (-999), .int (nI 999)] h = _ := e_199 (sv := sv) (d := d + 18) (x := x) (a := -999) (b := nI 999)
  cases hc : ylet c with
  | false =>
    rw [hc, yb_f] at E2
    simp only [zc_245, zs_245_0, zs_245_1, zs_245_4, zs_245_7, zs_245_8, zs_245_11, zs_245_14, zs_245_17, zs_245_20, zs_245_21, zs_245_22, zs_245_22n, zs_245_23, zs_245_26, zs_245_27, zs_245_28, zs_245_29, zs_245_31, zs_245_32, zs_245_33, zs_245_34, zs_245_34n, zs_245_35, zs_245_38, zs_245_39, zs_245_40, zs_245_41, zs_245_43, zs_245_44, zs_245_45, zs_245_46, zs_245_46n, zs_245_47, zs_245_48, zs_245_51, E2, zbk_v, zts_s, ↓reduceIte]
  | true =>
    rw [hc, Bool.true_and] at hb
    rw [hc, yb_t] at E2
    rw [hb, yb_f] at E3
    simp only [zc_245, zs_245_0, zs_245_1, zs_245_4, zs_245_7, zs_245_8, zs_245_11, zs_245_14, zs_245_17, zs_245_20, zs_245_21, zs_245_22, zs_245_22n, zs_245_23, zs_245_26, zs_245_27, zs_245_28, zs_245_29, zs_245_31, zs_245_32, zs_245_33, zs_245_34, zs_245_34n, zs_245_35, zs_245_38, zs_245_39, zs_245_40, zs_245_41, zs_245_43, zs_245_44, zs_245_45, zs_245_46, zs_245_46n, zs_245_47, zs_245_48, zs_245_51, E2, E3, zbk_v, zts_s, nI_1e0, ↓reduceIte]
theorem e_245 {c x : Int32} (hw : zWk h m F A) (hA : yAok A) (hb : (ylet c && (decide (¬ x < -999) && decide (¬ nI 999 < x))) = true) : ∃ (h' : zH) (F' : Nat → Int32), zcall zP sv (d + 20) 245 [.ref m, .int c, .int x] h = some (.inl (some (.int 0)), h') ∧ zWk h' m F' (A.1, ys A.2.1 (c - nI 97) x, A.2.2) ∧ F' 30 = yg A.2.1 (c - nI 97) ∧ yff F F' ∧ zwf m h h' := by
  rw [Bool.and_eq_true] at hb
  obtain ⟨v, hv, rfl⟩ := ylet_of hb.1
  obtain ⟨hm, ⟨N, hN, hn⟩, hs⟩ := hw
  have hmm := hm
  unfold zMo at hmm
  have hN1 := hN.1
  have hN2 := hN.2
  have hA6 := hA.2.2
  have E2 : zcall zP sv (d + 19) 204 [.int (nI (97 + v))] h = _ := e_204 (sv := sv) (d := d + 17) (c := nI (97 + v))
  have E3 : zcall zP sv (d + 19) 199 [.int x, .int (-999), .int (nI 999)] h = _ := e_199 (sv := sv) (d := d + 18) (x := x) (a := -999) (b := nI 999)
  rw [hb.1, yb_t] at E2
  rw [hb.2, yb_t] at E3
  have hx : A.2.1[v]? = some (A.2.1.getD v 0) := by
    rw [List.getD_eq_getElem?_getD, List.getElem?_eq_getElem (by omega)]
    rfl
  have e0 : ∀ Kv, zael (20, N.map Value.int) 20 (nI (3 + v)) Kv = Kv (.int (A.2.1.getD v 0)) := fun Kv => zaelv (by rw [List.getElem?_map, hn.2.2.2.2.1 v _ hx]; rfl) (by omega)
  have s0 : ∀ Kc : zC → zR, zaset (20, N.map Value.int) 20 (nI (3 + v)) (.int x) Kc = Kc (20, (N.set (3 + v) x).map Value.int) := fun Kc => zsI (by omega) (by omega)
  have w2 : (zup h (m + 1) (20, (N.set (3 + v) x).map Value.int)).1 m = (13, zMF m F) := by rw [zup_ne (by omega), hmm]
  have E6 : zcall zP sv (d + 19) 201 [.ref m, .int (A.2.1.getD v 0)] (zup h (m + 1) (20, (N.set (3 + v) x).map Value.int)) = _ := e_201 (sv := sv) (d := d + 18) (x := A.2.1.getD v 0) (h := zup h (m + 1) (20, (N.set (3 + v) x).map Value.int)) (m := m) (F := F) w2
  rw [nI_97, yg_nn (by omega), ys_nn (by omega)]
  refine ⟨zup (zup h (m + 1) (20, (N.set (3 + v) x).map Value.int)) m (13, zMF m (yup F 30 (A.2.1.getD v 0))), _, ?_, ⟨zMo_up, ⟨N.set (3 + v) x, ⟨by rw [zup_ne (by omega), zup_at], by rw [List.length_set, hN2]⟩, yNow_var hn hA6 hv⟩, ?_⟩, yup_eq, yff_up (by decide), ⟨fun q q1 q2 q3 => by rw [zup_ne q1, zup_ne q2], rfl⟩⟩
  · simp (disch := first | exact znw_u | exact znw_i | omega) only [zc_245, zs_245_0, zs_245_1, zs_245_4, zs_245_7, zs_245_8, zs_245_11, zs_245_14, zs_245_17, zs_245_20, zs_245_21, zs_245_22, zs_245_22n, zs_245_23, zs_245_26, zs_245_27, zs_245_28, zs_245_29, zs_245_31, zs_245_32, zs_245_33, zs_245_34, zs_245_34n, zs_245_35, zs_245_38, zs_245_39, zs_245_40, zs_245_41, zs_245_43, zs_245_44, zs_245_45, zs_245_46, zs_245_46n, zs_245_47, zs_245_48, zs_245_51, E2, E3, hmm, zmf_0, hN1, nI_397, e0, s0, w2, zrc_13v, E6, zbk_v, zts_s, nI_1e0, ↓reduceIte]
  · obtain ⟨⟨_, z1⟩, ⟨_, z2⟩, _⟩ := id hs
    exact zScm_of hs (zLst_cg z1 (by rw [zup_ne (by omega), zup_ne (by omega)]) (by rw [zup_ne (by omega), zup_ne (by omega)])) (zLst_cg z2 (by rw [zup_ne (by omega), zup_ne (by omega)]) (by rw [zup_ne (by omega), zup_ne (by omega)])) (fun a ha => by rw [zup_ne (by omega), zup_ne (by omega)])
theorem e_247x {x : Int32} (hm : zMo h m F) (hb : (decide (¬ x < nI 1) && decide (¬ nI 4 < x)) = false) : zcall zP sv (d + 20) 247 [.ref m, .int x] h = some (.inl (some (.int (nI 1))), h) := by
  have E3 : zcall zP sv (d + 19) 199 [.int x, .int (nI 1), .int (nI 4)] h = _ := e_199 (sv := sv) (d := d + 18) (x := x) (a := nI 1) (b := nI 4)
  rw [hb, yb_f] at E3
  simp only [zc_247, zs_247_0, zs_247_1, zs_247_2, zs_247_3, zs_247_6, zs_247_9, zs_247_10, zs_247_11, zs_247_11n, zs_247_12, zs_247_15, zs_247_16, zs_247_17, zs_247_18, zs_247_18n, zs_247_19, zs_247_22, zs_247_23, zs_247_24, zs_247_25, zs_247_25n, zs_247_26, zs_247_27, zs_247_30, E3, zbk_v, zts_s, nI_1e0, ↓reduceIte]
theorem e_247 {x : Int32} (hw : zWk h m F A) (hb : (decide (¬ x < nI 1) && decide (¬ nI 4 < x)) = true) : ∃ (h' : zH) (F' : Nat → Int32), zcall zP sv (d + 20) 247 [.ref m, .int x] h = some (.inl (some (.int 0)), h') ∧ zWk h' m F' (A.1, A.2.1, x, A.2.2.2) ∧ F' 30 = A.2.2.1 ∧ yff F F' ∧ zwf m h h' := by
  obtain ⟨hm, ⟨N, hN, hn⟩, hs⟩ := hw
  have hmm := hm
  unfold zMo at hmm
  have hN1 := hN.1
  have hN2 := hN.2
  have E3 : zcall zP sv (d + 19) 199 [.int x, .int (nI 1), .int (nI 4)] h = _ := e_199 (sv := sv) (d := d + 18) (x := x) (a := nI 1) (b := nI 4)
  rw [hb, yb_t] at E3
  have e0 : ∀ Kv, zael (20, N.map Value.int) 20 (nI 1) Kv = Kv (.int A.2.2.1) := fun Kv => zaelv (by rw [List.getElem?_map, hn.2.2.1]; rfl) (by decide)
  have s0 : ∀ Kc : zC → zR, zaset (20, N.map Value.int) 20 (nI 1) (.int x) Kc = Kc (20, (N.set 1 x).map Value.int) := fun Kc => zsI (by omega) (by omega)
  have w2 : (zup h (m + 1) (20, (N.set 1 x).map Value.int)).1 m = (13, zMF m F) := by rw [zup_ne (by omega), hmm]
  have E6 : zcall zP sv (d + 19) 201 [.ref m, .int A.2.2.1] (zup h (m + 1) (20, (N.set 1 x).map Value.int)) = _ := e_201 (sv := sv) (d := d + 18) (x := A.2.2.1) (h := zup h (m + 1) (20, (N.set 1 x).map Value.int)) (m := m) (F := F) w2
  refine ⟨zup (zup h (m + 1) (20, (N.set 1 x).map Value.int)) m (13, zMF m (yup F 30 A.2.2.1)), _, ?_, ⟨zMo_up, ⟨N.set 1 x, ⟨by rw [zup_ne (by omega), zup_at], by rw [List.length_set, hN2]⟩, yNow_reg hn⟩, ?_⟩, yup_eq, yff_up (by decide), ⟨fun q q1 q2 q3 => by rw [zup_ne q1, zup_ne q2], rfl⟩⟩
  · simp (disch := first | exact znw_u | exact znw_i | omega) only [zc_247, zs_247_0, zs_247_1, zs_247_2, zs_247_3, zs_247_6, zs_247_9, zs_247_10, zs_247_11, zs_247_11n, zs_247_12, zs_247_15, zs_247_16, zs_247_17, zs_247_18, zs_247_18n, zs_247_19, zs_247_22, zs_247_23, zs_247_24, zs_247_25, zs_247_25n, zs_247_26, zs_247_27, zs_247_30, E3, hmm, zmf_0, hN1, e0, s0, w2, zrc_13v, E6, zbk_v, zts_s, nI_1e0, ↓reduceIte]
  · obtain ⟨⟨_, z1⟩, ⟨_, z2⟩, _⟩ := id hs
    exact zScm_of hs (zLst_cg z1 (by rw [zup_ne (by omega), zup_ne (by omega)]) (by rw [zup_ne (by omega), zup_ne (by omega)])) (zLst_cg z2 (by rw [zup_ne (by omega), zup_ne (by omega)]) (by rw [zup_ne (by omega), zup_ne (by omega)])) (fun a ha => by rw [zup_ne (by omega), zup_ne (by omega)])
end ZMJ
