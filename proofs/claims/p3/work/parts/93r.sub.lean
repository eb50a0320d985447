section ZMI
variable {sv : Nat → Value} {d : Nat} {h : zH} {m : Nat} {F : Nat → Int32} {A : yA} {N : List Int32}
theorem e_243b {i j : Nat} {c : Int32} {t u : yT} (hw : zWk h m F A) (hA : yAok A) (hi : A.1[i]? = some t) (hj : A.1[j]? = some u) (hc : ylet c = true) (hb : ¬ (ysz (yins c u t) ≤ 31 ∧ ydp (yins c u t) ≤ 8)) : ∃ (h' : zH) (F' : Nat → Int32), zcall zP sv (d + 21) 243 [.ref m, .int (nI i), .int c, .int (nI j)] h = some (.inl (some (.int (nI 3))), h') ∧ zWk h' m F' A ∧ yff F F' ∧ zwf m h h' := by
  obtain ⟨h1, F1, s4, s5, s6, e, w1, _, f1, k1⟩ := e_243m (sv := sv) (d := d) hw hA hi hj hc
  refine ⟨h1, F1, ?_, w1, f1, k1⟩
  rw [e]
  split
  · have hb2 : (decide (ysz (yins c u t) ≤ 31) && decide (ydp (yins c u t) ≤ 8)) = false := by
      rw [← Bool.decide_and]
      exact decide_eq_false hb
    rw [hb2, yb_f]
    simp only [zs_243_203, zs_243_206, zs_243_207, ↓reduceIte]
  · rfl
theorem e_243c {i j : Nat} {c : Int32} {t u : yT} (hw : zWk h m F A) (hA : yAok A) (hi : A.1[i]? = some t) (hj : A.1[j]? = some u) (hc : ylet c = true) (hb : ysz (yins c u t) ≤ 31 ∧ ydp (yins c u t) ≤ 8) : ∃ (h' : zH) (F' : Nat → Int32), zcall zP sv (d + 21) 243 [.ref m, .int (nI i), .int c, .int (nI j)] h = some (.inl (some (.int 0)), h') ∧ zWk h' m F' (A.1.set i (yins c u t), A.2) ∧ F' 30 = nI (ysz (yins c u t)) ∧ yff F F' ∧ zwf m h h' := by
  obtain ⟨h1, F1, s4, s5, s6, e, ⟨a1, ⟨N, hN, hn⟩, hs⟩, b1, f1, k1⟩ := e_243m (sv := sv) (d := d) hw hA hi hj hc
  have hA1 := hA.1
  have hil := (List.getElem?_eq_some_iff.mp hi).1
  have i6 : i < 6 := by omega
  obtain ⟨b8, bl⟩ := b1 hb.1
  obtain ⟨t1, _⟩ := hA.2.1 t (List.mem_of_getElem? hi)
  obtain ⟨u1, _⟩ := hA.2.1 u (List.mem_of_getElem? hj)
  have ti := ytw_yins (c := c) u1 t t1
  have hki := ynk_ypr (yins c u t) (Or.inr ti)
  have hli := ypr_len (yins c u t)
  rw [e, if_pos hb.1]
  have hb2 : (decide (ysz (yins c u t) ≤ 31) && decide (ydp (yins c u t) ≤ 8)) = true := by
    rw [← Bool.decide_and]
    exact decide_eq_true hb
  rw [hb2, yb_t]
  have a1m := a1
  unfold zMo at a1m
  obtain ⟨h2, N', e5, d1, d2, d3, d4, d5⟩ := e_208 (sv := sv) (d := d + 19) (p := ypr (yins c u t)) i6 a1 (by rw [hli, b8]) (by omega) hki bl hN
  have E5 : zcall zP sv (d + 20) 208 [.ref m, .int (nI i)] h1 = some (.inl none, h2) := e5
  have m2 : h2.1 m = (13, zMF m F1) := by rw [d4 m (by omega), a1m]
  have E6 : zcall zP sv (d + 20) 201 [.ref m, .int (nI (ysz (yins c u t)))] h2 = _ := e_201 (sv := sv) (d := d + 19) (x := nI (ysz (yins c u t))) (h := h2) (m := m) (F := F1) m2
  refine ⟨zup h2 m (13, zMF m (yup F1 30 (nI (ysz (yins c u t))))), _, ?_, ⟨zMo_up, ⟨N', zTab_cg d1 (zup_ne (by omega)), yNow_set hn d1.2 d2 d3 hA.2.2⟩, ?_⟩, yup_eq, yff_tr f1 (yff_up (by decide)), zwf_tr k1 ⟨fun q q1 q2 q3 => by rw [zup_ne q1, d4 _ q2], d5⟩⟩
  · simp only [zs_243_203, zs_243_208, zs_243_209, zs_243_210, zs_243_213, zs_243_214, zs_243_215, zs_243_218, zs_243_221, a1m, m2, zmf_8, b8, zrc_13v, E5, E6, zbk_v, zts_s, zts_n, nI_1e0, ↓reduceIte]
  · obtain ⟨⟨_, z1⟩, ⟨_, z2⟩, _⟩ := id hs
    exact zScm_of hs (zLst_cg z1 (by rw [zup_ne (by omega), d4 _ (by omega)]) (by rw [zup_ne (by omega), d4 _ (by omega)])) (zLst_cg z2 (by rw [zup_ne (by omega), d4 _ (by omega)]) (by rw [zup_ne (by omega), d4 _ (by omega)])) (fun a ha => by rw [zup_ne (by omega), d4 _ (by omega)])
/-- values, registering -/
theorem ylet_of {c : Int32} (h : ylet c = true) : ∃ v, v < 6 ∧ c = nI (97 + v) := by
  unfold ylet at h
  rw [Bool.and_eq_true] at h
  have h1 := of_decide_eq_true h.1
  have h2 := of_decide_eq_true h.2
  have h0 : ¬ c < 0 := fun q => h1 (Int32.lt_trans q (by decide +kernel))
  obtain ⟨k, hk, rfl⟩ := nI_of h0
  have h3 : ¬ k < 97 := fun q => h1 (nI_lt q (by decide))
  have h4 : ¬ 102 < k := fun q => h2 (nI_lt q hk)
  exact ⟨k - 97, by omega, by rw [show 97 + (k - 97) = k by omega]⟩
end ZMI
