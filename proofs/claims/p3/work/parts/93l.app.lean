section ZMC
variable {sv : Nat → Value} {d : Nat} {h : zH} {m : Nat} {F : Nat → Int32} {A : yA} {N : List Int32}
theorem yNow_0 {N : List Int32} {A : yA} {n : Nat} (hn : yNow N A) (hl : A.1.length = n) : ∀ Kv, zael (20, N.map Value.int) 20 0 Kv = Kv (.int (nI n)) := fun Kv => by
  rw [← nI_0]
  exact zaelv (by rw [List.getElem?_map, hn.2.1, hl]; rfl) (by decide)
theorem e_234a {f : Int32} (hw : zWk h m F A) (hl : A.1.length = 6) : zcall zP sv (d + 20) 234 [.ref m, .int f] h = some (.inl (some (.int f)), h) := by
  obtain ⟨hm, ⟨N, hN, hn⟩, hs⟩ := hw
  unfold zMo at hm
  have hN1 := hN.1
  have e0 := yNow_0 hn hl
  simp only [zc_234, zs_234_0, zs_234_0n, zs_234_1, zs_234_4, zs_234_5, zs_234_6, zs_234_8, zs_234_11, zs_234_12, zs_234_13, zs_234_13n, zs_234_14, zs_234_17, zs_234_17n, zs_234_18, zs_234_21, zs_234_24, zs_234_25, zs_234_26, zs_234_27, zs_234_28, zs_234_28n, zs_234_29, zs_234_29n, zs_234_30, zs_234_33, zs_234_34, zs_234_35, zs_234_38, zs_234_38n, zs_234_39, zs_234_39n, zs_234_40, zs_234_43, zs_234_44, zs_234_45, zs_234_46, zs_234_47, zs_234_48, zs_234_49, zs_234_50, zs_234_53, hm, zmf_0, hN1, e0, ↓reduceIte]
theorem e_234f {t : yT} (hw : zWk h m (yup F 11 (nI (ysz t))) A) (h7 : zLst h (m + 7) (m + 8) (ypr t)) (ht : ytw t = true) (hz : ysz t < 600) (hA : yAok A) (hl : A.1.length < 6) {f : Int32} : ∃ h', zcall zP sv (d + 20) 234 [.ref m, .int f] h = zrun zP sv (zcall zP sv (d + 19)) 234 21 [.val (.ref m), .val (.int f)] [.int (yb (decide (ysz t ≤ 31) && decide (ydp t ≤ 8)))] h' ∧ zWk h' m (yup (yup F 8 (nI (ysz t))) 11 (nI (ysz t))) A ∧ zLst h' (m + 5) (m + 6) (ypr t) ∧ zwf m h h' := by
  obtain ⟨hm, ⟨N, hN, hn⟩, hs⟩ := hw
  have hs0 := hs
  obtain ⟨⟨p0, l5⟩, _, hsf, _⟩ := hs
  have hlt := ypr_len t
  have hkn : ynk (ypr t) := ynk_ypr _ (Or.inr ht)
  have hmd : zMd h m F (ypr t) := ⟨by rw [hlt]; exact hm, h7⟩
  obtain ⟨h1, e1, a1, a2, a3, a4⟩ := e_207 (sv := sv) (d := d + 18) hmd hkn l5
  rw [hlt] at a1
  have a1m := a1.1
  rw [hlt] at a1m
  have hN1 : zTab h1 (m + 1) N := zTab_cg hN (a3 _ (by omega) (by omega) (by omega))
  have hsf1 : zSF h1 m := zSF_cg hsf (a3 _ (by omega) (by omega) (by omega)) (a3 _ (by omega) (by omega) (by omega))
  obtain ⟨h2, e2, b1, b2⟩ := e_215 (sv := sv) (d := d + 15) ht hz a1m (by rw [yup_ne (by omega), yup_eq]) a2 hN1.1 hN1.2 hsf1
  have fr : ∀ q, q ≠ m → q ≠ m + 5 → q ≠ m + 6 → q ≠ m + 9 → q ≠ m + 10 → h2.1 q = h.1 q := fun q n0 n5 n6 n9 n10 => by rw [b2.1 q n9 n10, a3 q n0 n5 n6]
  have l5' : zLst h2 (m + 5) (m + 6) (ypr t) := zLst_cg a2 (b2.1 _ (by omega) (by omega)) (b2.1 _ (by omega) (by omega))
  refine ⟨h2, ?_, ⟨by unfold zMo; rw [b2.1 m (by omega) (by omega)]; exact a1m, ⟨N, zTab_cg hN (fr _ (by omega) (by omega) (by omega) (by omega) (by omega)), hn⟩, ?_⟩, l5', ⟨fun q q1 q2 q3 => fr q q1 (by omega) (by omega) (by omega) (by omega), by rw [b2.2]; exact a4⟩⟩
  · have hNh := hN.1
    have hmh := hm
    unfold zMo at hmh
    have e0 := yNow_0 hn rfl
    have g6 : ¬ nI A.1.length = nI 6 := fun q => absurd ((nI_eq (by omega) (by omega)).mp q) (by omega)
    have hr1 : ∀ X : zR, zrc (h1.1 m) 13 X = X := fun X => zMo_rc a1m
    have E1 : zcall zP sv (d + 19) 207 [.ref m] h = some (.inl none, h1) := e1
    have E2 : zcall zP sv (d + 19) 215 [.ref m] h1 = _ := e2
    rw [zc_234]
    simp only [zs_234_0, zs_234_0n, zs_234_1, zs_234_4, zs_234_5, zs_234_6, zs_234_8, zs_234_11, zs_234_12, zs_234_13, zs_234_13n, zs_234_14, zs_234_17, zs_234_17n, zs_234_18, zs_234_29, zs_234_29n, zs_234_30, zs_234_33, zs_234_34, zs_234_35, zs_234_38, zs_234_38n, zs_234_39, zs_234_39n, zs_234_40, zs_234_43, zs_234_44, zs_234_45, zs_234_46, zs_234_47, zs_234_48, zs_234_49, zs_234_50, zs_234_53, hmh, zmf_0, hNh, e0, if_neg g6, zrc_13v, hr1, E1, E2, zbk_v, zts_s, zts_n]
  · obtain ⟨_, _, _, c2, c3, c4, c5, c6⟩ := hs0
    exact ⟨⟨_, l5'⟩, ⟨_, zLst_cg h7 (fr _ (by omega) (by omega) (by omega) (by omega) (by omega)) (fr _ (by omega) (by omega) (by omega) (by omega) (by omega))⟩, b1, zArr_cg c2 (fr _ (by omega) (by omega) (by omega) (by omega) (by omega)), zArr_cg c3 (fr _ (by omega) (by omega) (by omega) (by omega) (by omega)), zArr_cg c4 (fr _ (by omega) (by omega) (by omega) (by omega) (by omega)), zArr_cg c5 (fr _ (by omega) (by omega) (by omega) (by omega) (by omega)), zArr_cg c6 (fr _ (by omega) (by omega) (by omega) (by omega) (by omega))⟩
theorem yff_11 {F : Nat → Int32} {x : Int32} : yff (yup F 11 x) F := ⟨(yup_ne (by omega)).symm, (yup_ne (by omega)).symm, (yup_ne (by omega)).symm, (yup_ne (by omega)).symm, (yup_ne (by omega)).symm, (yup_ne (by omega)).symm⟩
theorem e_234b {t : yT} (hw : zWk h m (yup F 11 (nI (ysz t))) A) (h7 : zLst h (m + 7) (m + 8) (ypr t)) (ht : ytw t = true) (hz : ysz t < 600) (hA : yAok A) (hl : A.1.length < 6) {f : Int32} (hb : ¬ (ysz t ≤ 31 ∧ ydp t ≤ 8)) : ∃ (h' : zH) (F' : Nat → Int32), zcall zP sv (d + 20) 234 [.ref m, .int f] h = some (.inl (some (.int (f + nI 1))), h') ∧ zWk h' m F' A ∧ yff F F' ∧ zwf m h h' := by
  obtain ⟨h', e, a1, a2, a3⟩ := e_234f (sv := sv) (d := d) hw h7 ht hz hA hl (f := f)
  refine ⟨h', _, ?_, a1, yff_tr (yff_up (j := 8) (by decide)) (yff_up (by decide)), a3⟩
  have hb2 : (decide (ysz t ≤ 31) && decide (ydp t ≤ 8)) = false := by
    rw [← Bool.decide_and]
    exact decide_eq_false hb
  rw [e, hb2, yb_f]
  simp only [zs_234_0, zs_234_0n, zs_234_1, zs_234_4, zs_234_5, zs_234_6, zs_234_8, zs_234_11, zs_234_12, zs_234_13, zs_234_13n, zs_234_14, zs_234_17, zs_234_17n, zs_234_18, zs_234_21, zs_234_24, zs_234_25, zs_234_26, zs_234_27, zs_234_28, zs_234_28n, zs_234_29, zs_234_29n, zs_234_30, zs_234_33, zs_234_34, zs_234_35, zs_234_38, zs_234_38n, zs_234_39, zs_234_39n, zs_234_40, zs_234_43, zs_234_44, zs_234_45, zs_234_46, zs_234_47, zs_234_48, zs_234_49, zs_234_50, zs_234_53, ↓reduceIte]
theorem e_234c {t : yT} (hw : zWk h m (yup F 11 (nI (ysz t))) A) (h7 : zLst h (m + 7) (m + 8) (ypr t)) (ht : ytw t = true) (hz : ysz t < 600) (hA : yAok A) (hl : A.1.length < 6) {f : Int32} (hb : ysz t ≤ 31 ∧ ydp t ≤ 8) : ∃ (h' : zH) (F' : Nat → Int32), zcall zP sv (d + 20) 234 [.ref m, .int f] h = some (.inl (some (.int 0)), h') ∧ zWk h' m F' (A.1 ++ [t], A.2) ∧ F' 30 = nI A.1.length ∧ yff F F' ∧ zwf m h h' := by
  obtain ⟨h1, e, ⟨a1, ⟨N, hN, hn⟩, hs⟩, a2, a3⟩ := e_234f (sv := sv) (d := d) hw h7 ht hz hA hl (f := f)
  have hb2 : (decide (ysz t ≤ 31) && decide (ydp t ≤ 8)) = true := by
    rw [← Bool.decide_and]
    exact decide_eq_true hb
  rw [e, hb2, yb_t]
  have hlt := ypr_len t
  have hkn : ynk (ypr t) := ynk_ypr _ (Or.inr ht)
  have a1m := a1
  unfold zMo at a1m
  obtain ⟨h2, N', e5, d1, d2, d3, d4, d5⟩ := e_208 (sv := sv) (d := d + 18) (p := ypr t) hl a1 (by rw [hlt, yup_ne (by omega), yup_eq]) (by omega) hkn a2 hN
  have E5 : zcall zP sv (d + 19) 208 [.ref m, .int (nI A.1.length)] h1 = some (.inl none, h2) := e5
  have m2 : h2.1 m = (13, zMF m (yup (yup F 8 (nI (ysz t))) 11 (nI (ysz t)))) := by rw [d4 m (by omega), a1m]
  have hN1 := hN.1
  have d1' := d1.1
  have d1l := d1.2
  have e0 := yNow_0 hn rfl
  have hlen := hA.1
  have n0 : N'[0]? = some (nI A.1.length) := by rw [d2 0 (by omega), hn.2.1]
  have e0' : ∀ Kv, zael (20, N'.map Value.int) 20 0 Kv = Kv (.int (nI A.1.length)) := fun Kv => by
    rw [← nI_0]
    exact zaelv (by rw [List.getElem?_map, n0]; rfl) (by decide)
  have s0 : ∀ Kc : zC → zR, zaset (20, N'.map Value.int) 20 0 (.int (nI (A.1.length + 1))) Kc = Kc (20, (N'.set 0 (nI (A.1.length + 1))).map Value.int) := fun Kc => by
    rw [← nI_0]
    exact zsI (by omega) (by omega)
  have w2 : (zup h2 (m + 1) (20, (N'.set 0 (nI (A.1.length + 1))).map Value.int)).1 m = (13, zMF m (yup (yup F 8 (nI (ysz t))) 11 (nI (ysz t)))) := by rw [zup_ne (by omega), m2]
  have E6 := e_201 (sv := sv) (d := d + 18) (x := nI A.1.length) (h := zup h2 (m + 1) (20, (N'.set 0 (nI (A.1.length + 1))).map Value.int)) (m := m) (F := yup (yup F 8 (nI (ysz t))) 11 (nI (ysz t))) w2
  have E6' : zcall zP sv (d + 19) 201 [.ref m, .int (nI A.1.length)] (zup h2 (m + 1) (20, (N'.set 0 (nI (A.1.length + 1))).map Value.int)) = _ := E6
  refine ⟨zup (zup h2 (m + 1) (20, (N'.set 0 (nI (A.1.length + 1))).map Value.int)) m (13, zMF m (yup (yup (yup F 8 (nI (ysz t))) 11 (nI (ysz t))) 30 (nI A.1.length))), _, ?_, ⟨zMo_up, ⟨N'.set 0 (nI (A.1.length + 1)), ⟨by rw [zup_ne (by omega), zup_at], by rw [List.length_set, d1l]⟩, yNow_app hn d1l d2 d3 hA.2.2⟩, ?_⟩, yup_eq, ?_, ?_⟩
  · simp (disch := omega) only [zs_234_0, zs_234_0n, zs_234_1, zs_234_4, zs_234_5, zs_234_6, zs_234_8, zs_234_11, zs_234_12, zs_234_13, zs_234_13n, zs_234_14, zs_234_17, zs_234_17n, zs_234_18, zs_234_21, zs_234_24, zs_234_25, zs_234_26, zs_234_27, zs_234_28, zs_234_28n, zs_234_29, zs_234_29n, zs_234_30, zs_234_33, zs_234_34, zs_234_35, zs_234_38, zs_234_38n, zs_234_39, zs_234_39n, zs_234_40, zs_234_43, zs_234_44, zs_234_45, zs_234_46, zs_234_47, zs_234_48, zs_234_49, zs_234_50, zs_234_53, nI_1e0, ↓reduceIte, a1m, zmf_0, hN1, e0, zrc_13v, E5, m2, d1', e0', nI_add, s0, w2, E6', zbk_v, zts_s, zts_n]
  · have hs2 := hs
    obtain ⟨⟨_, z1⟩, ⟨_, z2⟩, _⟩ := hs2
    exact zScm_of hs (zLst_cg z1 (by rw [zup_ne (by omega), zup_ne (by omega), d4 _ (by omega)]) (by rw [zup_ne (by omega), zup_ne (by omega), d4 _ (by omega)])) (zLst_cg z2 (by rw [zup_ne (by omega), zup_ne (by omega), d4 _ (by omega)]) (by rw [zup_ne (by omega), zup_ne (by omega), d4 _ (by omega)])) (fun a ha => by rw [zup_ne (by omega), zup_ne (by omega), d4 _ (by omega)])
  · exact yff_tr (yff_up (j := 8) (by decide)) (yff_tr (yff_up (by decide)) (yff_up (by decide)))
  · exact zwf_tr a3 ⟨fun q q1 q2 q3 => by rw [zup_ne q1, zup_ne q2, d4 _ q2], d5⟩
end ZMC
