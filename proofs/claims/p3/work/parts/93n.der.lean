theorem ysz_yder {c : Int32} : ∀ (t : yT) (B : Nat), ydp t ≤ B → ysz (yder c t) ≤ (B + 2) * ysz t
  | .leaf, _, _ => Nat.zero_le _
  | .inner n k v l r, 0, hB => absurd (show max (ydp l) (ydp r) + 1 ≤ 0 from hB) (by omega)
  | .inner n k v l r, B + 1, hB => by
    have hB2 : max (ydp l) (ydp r) + 1 ≤ B + 1 := hB
    have i1 := ysz_yder (c := c) l B (by omega)
    have i2 := ysz_yder (c := c) r B (by omega)
    show ysz (if k = nI 110 then ymk (nI 110) 0 (yder c l) .leaf else if k = nI 43 ∨ k = nI 45 then ymk k 0 (yder c l) (yder c r) else if k = nI 42 then ymk (nI 43) 0 (ymk (nI 42) 0 (yder c l) r) (ymk (nI 42) 0 l (yder c r)) else ycn (if k = nI 118 ∧ v = c then nI 1 else 0)) ≤ (B + 1 + 2) * (ysz l + ysz r + 1)
    rw [Nat.add_mul] at i1 i2
    rw [Nat.mul_add, Nat.mul_add, show B + 1 + 2 = B + 3 by omega, Nat.add_mul, Nat.add_mul]
    split
    · show ysz (yder c l) + 0 + 1 ≤ _
      omega
    · split
      · rw [ysz_mk]
        omega
      · split
        · rw [ysz_mk, ysz_mk, ysz_mk]
          omega
        · show 0 + 0 + 1 ≤ _
          omega
section ZME
variable {sv : Nat → Value} {d : Nat} {h : zH} {m : Nat} {F : Nat → Int32} {A : yA} {N : List Int32}
theorem e_240a {i : Nat} {c : Int32} (hw : zWk h m F A) (hA : yAok A) (hi : i < A.1.length) (hc : ylet c = false) : zcall zP sv (d + 21) 240 [.ref m, .int (nI i), .int c] h = some (.inl (some (.int (nI 2))), h) := by
  obtain ⟨hm, ⟨N, hN, hn⟩, hs⟩ := hw
  have E1 : zcall zP sv (d + 20) 203 [.ref m, .int (nI i)] h = some (.inl (some (.int (nI 1))), h) := e_203t (sv := sv) (d := d + 18) hm hN hn hi hA.1
  have E2 : zcall zP sv (d + 20) 204 [.int c] h = _ := e_204 (sv := sv) (d := d + 18) (c := c)
  rw [hc, yb_f] at E2
  have hr : ∀ X : zR, zrc (h.1 m) 13 X = X := fun X => zMo_rc hm
  simp only [zc_240, zs_240_0, zs_240_0n, zs_240_1, zs_240_2, zs_240_5, zs_240_8, zs_240_9, zs_240_10, zs_240_11, zs_240_14, zs_240_17, zs_240_18, zs_240_19, zs_240_19n, zs_240_20, zs_240_23, zs_240_24, zs_240_25, zs_240_27, zs_240_30, zs_240_31, zs_240_32, zs_240_32n, zs_240_33, zs_240_34, zs_240_37, zs_240_37n, zs_240_38, zs_240_39, zs_240_42, zs_240_42n, zs_240_43, zs_240_44, zs_240_45, zs_240_47, zs_240_48, zs_240_51, zs_240_52, zs_240_52n, zs_240_53, zs_240_56, zs_240_56n, zs_240_57, zs_240_58, zs_240_61, zs_240_61n, zs_240_62, zs_240_63, zs_240_66, zs_240_67, zs_240_67n, zs_240_68, zs_240_69, zs_240_72, hr, E1, E2, zbk_v, zts_s, nI_1e0, ↓reduceIte]
theorem e_240b {i : Nat} {c : Int32} (hw : zWk h m F A) (hA : yAok A) (hi : i < A.1.length) (hc : ylet c = true) (hl : A.1.length = 6) : zcall zP sv (d + 21) 240 [.ref m, .int (nI i), .int c] h = some (.inl (some (.int (nI 3))), h) := by
  obtain ⟨hm, ⟨N, hN, hn⟩, hs⟩ := hw
  have E1 : zcall zP sv (d + 20) 203 [.ref m, .int (nI i)] h = some (.inl (some (.int (nI 1))), h) := e_203t (sv := sv) (d := d + 18) hm hN hn hi hA.1
  have E2 : zcall zP sv (d + 20) 204 [.int c] h = _ := e_204 (sv := sv) (d := d + 18) (c := c)
  rw [hc, yb_t] at E2
  unfold zMo at hm
  have hN1 := hN.1
  have e0 := yNow_0 hn hl
  simp only [zc_240, zs_240_0, zs_240_0n, zs_240_1, zs_240_2, zs_240_5, zs_240_8, zs_240_9, zs_240_10, zs_240_11, zs_240_14, zs_240_17, zs_240_18, zs_240_19, zs_240_19n, zs_240_20, zs_240_23, zs_240_24, zs_240_25, zs_240_27, zs_240_30, zs_240_31, zs_240_32, zs_240_32n, zs_240_33, zs_240_34, zs_240_37, zs_240_37n, zs_240_38, zs_240_39, zs_240_42, zs_240_42n, zs_240_43, zs_240_44, zs_240_45, zs_240_47, zs_240_48, zs_240_51, zs_240_52, zs_240_52n, zs_240_53, zs_240_56, zs_240_56n, zs_240_57, zs_240_58, zs_240_61, zs_240_61n, zs_240_62, zs_240_63, zs_240_66, zs_240_67, zs_240_67n, zs_240_68, zs_240_69, zs_240_72, hm, zmf_0, hN1, e0, zrc_13v, E1, E2, zbk_v, zts_s, nI_1e0, ↓reduceIte]
theorem e_240m {i : Nat} {c : Int32} {t : yT} (hw : zWk h m F A) (hA : yAok A) (hi : A.1[i]? = some t) (hc : ylet c = true) (hl : A.1.length < 6) : ∃ (h1 : zH) (F1 : Nat → Int32), (∀ (x : Int32) (h' : zH), zcall zP sv (d + 20) 234 [.ref m, .int (nI 3)] h1 = some (.inl (some (.int x)), h') → zcall zP sv (d + 21) 240 [.ref m, .int (nI i), .int c] h = some (.inl (some (.int x)), h')) ∧ zWk h1 m (yup F1 11 (nI (ysz (ysim (yder c t))))) A ∧ zLst h1 (m + 7) (m + 8) (ypr (ysim (yder c t))) ∧ yff F F1 ∧ zwf m h h1 := by
  obtain ⟨hm, ⟨N, hN, hn⟩, hs⟩ := hw
  have hs0 := hs
  obtain ⟨⟨p0, l5⟩, ⟨p1, l7⟩, _⟩ := hs
  have hil := (List.getElem?_eq_some_iff.mp hi).1
  have hA1 := hA.1
  obtain ⟨t1, t2, t3⟩ := hA.2.1 t (List.mem_of_getElem? hi)
  have E1 : zcall zP sv (d + 20) 203 [.ref m, .int (nI i)] h = some (.inl (some (.int (nI 1))), h) := e_203t (sv := sv) (d := d + 18) hm hN hn hil hA1
  have E2 : zcall zP sv (d + 20) 204 [.int c] h = _ := e_204 (sv := sv) (d := d + 18) (c := c)
  rw [hc, yb_t] at E2
  have hmm := hm
  unfold zMo at hmm
  have hN1 := hN.1
  have e0 := yNow_0 hn rfl
  have g6 : ¬ nI A.1.length = nI 6 := fun q => absurd ((nI_eq (by omega) (by omega)).mp q) (by omega)
  have hst := ysz_ysim (yder c t)
  have hsd := ysz_yder (c := c) t 8 t3
  have hdd := ydp_yder (c := c) t
  have d1 := ytw_yder (c := c) t t1
  have hlt := ypr_len t
  have hld := ypr_len (yder c t)
  have hls := ypr_len (ysim (yder c t))
  obtain ⟨h1, e3, a1, a2, a3, a4⟩ := e_206 (sv := sv) (d := d + 19) (hn.2.2.2.2.2 i t hi) hm hN l5
  rw [hlt] at a1
  have E3 : zcall zP sv (d + 20) 206 [.ref m, .int (nI i)] h = some (.inl none, h1) := e3
  have a1' := a1
  unfold zMo at a1'
  have hmd : zMd (zup h1 m (13, zMF m (yup (yup F 8 (nI (ysz t))) 11 0))) m (yup F 8 (nI (ysz t))) [] := ⟨by unfold zMo; rw [zup_at]; rfl, zLst_cg (zLst_0 l7) (by rw [zup_ne (by omega), a3 _ (by omega) (by omega) (by omega)]) (by rw [zup_ne (by omega), a3 _ (by omega) (by omega) (by omega)])⟩
  have hlk : zLst (zup h1 m (13, zMF m (yup (yup F 8 (nI (ysz t))) 11 0))) (m + 5) (m + 6) ([] ++ ypr t ++ []) := by
    rw [List.append_nil, List.nil_append]
    exact zLst_cg a2 (zup_ne (by omega)) (zup_ne (by omega))
  obtain ⟨h2, e4, b1, b2⟩ := e_224 (sv := sv) (c := c) t t1 (d + 20) [] [] [] _ (by omega) hlk hmd (by show 0 + ysz (yder c t) ≤ 700; omega)
  rw [List.nil_append] at b1
  have hkd : ynk (ypr (yder c t)) := ynk_ypr _ (Or.inr d1)
  obtain ⟨h3, e5, c1, c2, c3, c4⟩ := e_207 (sv := sv) (d := d + 19) b1 hkd (zLst_fm hlk b2)
  rw [hld] at c1
  have E5 : zcall zP sv (d + 20) 207 [.ref m] h2 = some (.inl none, h3) := e5
  have c1m := c1.1
  unfold zMo at c1m
  have hmd3 : zMd (zup h3 m (13, zMF m (yup (yup (yup (yup F 8 (nI (ysz t))) 8 (nI (ysz (yder c t)))) 11 (nI (ypr (yder c t)).length)) 11 0))) m (yup (yup F 8 (nI (ysz t))) 8 (nI (ysz (yder c t)))) [] := ⟨by unfold zMo; rw [zup_at, yup_yup]; rfl, zLst_cg (zLst_0 c1.2) (zup_ne (by omega)) (zup_ne (by omega))⟩
  have hlk3 : zLst (zup h3 m (13, zMF m (yup (yup (yup (yup F 8 (nI (ysz t))) 8 (nI (ysz (yder c t)))) 11 (nI (ypr (yder c t)).length)) 11 0))) (m + 5) (m + 6) ([] ++ ypr (yder c t) ++ []) := by
    rw [List.append_nil, List.nil_append]
    exact zLst_cg c2 (zup_ne (by omega)) (zup_ne (by omega))
  obtain ⟨h4, e6, g1, g2⟩ := e_222 (sv := sv) (yder c t) d1 (d + 20) [] [] [] _ (by omega) hlk3 hmd3 ynk_nil (by show 0 + ysz (yder c t) ≤ 700; omega)
  rw [List.nil_append] at g1
  have fr : ∀ q, q ≠ m → q ≠ m + 5 → q ≠ m + 6 → q ≠ m + 7 → q ≠ m + 8 → h4.1 q = h.1 q := fun q n0 n5 n6 n7 n8 => by
    rw [g2.1 q n0 n7 n8, zup_ne n0, c3 q n0 n5 n6, b2.1 q n0 n7 n8, zup_ne n0, a3 q n0 n5 n6]
  have g1m := g1.1
  rw [hls] at g1m
  refine ⟨h4, _, ?_, ⟨g1m, ⟨N, zTab_cg hN (fr _ (by omega) (by omega) (by omega) (by omega) (by omega)), hn⟩, zScm_of hs0 (zLst_fm hlk3 g2) g1.2 (fun a ha => fr a (by omega) (by omega) (by omega) (by omega) (by omega))⟩, g1.2, yff_tr (yff_up (j := 8) (by decide)) (yff_up (by decide)), ⟨fun q q1 q2 q3 => fr q q1 (by omega) (by omega) (by omega) (by omega), by rw [g2.2]; show h3.2 = h.2; rw [c4, b2.2]; exact a4⟩⟩
  intro x h' ex
  have E4 : zcall zP sv (d + 20) 224 [.ref m, .int 0, .int (c - nI 97)] (zup h1 m (13, zMF m (yup (yup F 8 (nI (ysz t))) 11 0))) = some (.inl (some (.int (nI (0 + ysz t)))), h2) := by
    rw [← nI_0]
    rw [← nI_0] at e4
    exact e4
  have E6 : zcall zP sv (d + 20) 222 [.ref m, .int 0] (zup h3 m (13, zMF m (yup (yup (yup (yup F 8 (nI (ysz t))) 8 (nI (ysz (yder c t)))) 11 (nI (ypr (yder c t)).length)) 11 0))) = some (.inl (some (.int (nI (0 + ysz (yder c t))))), h4) := by
    rw [← nI_0]
    rw [← nI_0] at e6
    exact e6
  have hr2 : ∀ X : zR, zrc (h2.1 m) 13 X = X := fun X => zMo_rc b1.1
  have hr4 : ∀ X : zR, zrc (h4.1 m) 13 X = X := fun X => zMo_rc g1m
  simp (disch := first | exact znw_u | exact znw_i | omega) only [zc_240, zs_240_0, zs_240_0n, zs_240_1, zs_240_2, zs_240_5, zs_240_8, zs_240_9, zs_240_10, zs_240_11, zs_240_14, zs_240_17, zs_240_18, zs_240_19, zs_240_19n, zs_240_20, zs_240_23, zs_240_24, zs_240_25, zs_240_27, zs_240_30, zs_240_31, zs_240_32, zs_240_32n, zs_240_33, zs_240_34, zs_240_37, zs_240_37n, zs_240_38, zs_240_39, zs_240_42, zs_240_42n, zs_240_43, zs_240_44, zs_240_45, zs_240_47, zs_240_48, zs_240_51, zs_240_52, zs_240_52n, zs_240_53, zs_240_56, zs_240_56n, zs_240_57, zs_240_58, zs_240_61, zs_240_61n, zs_240_62, zs_240_63, zs_240_66, zs_240_67, zs_240_67n, zs_240_68, zs_240_69, zs_240_72, hmm, zmf_0, hN1, e0, if_neg g6, zrc_13v, zup_at, E1, E2, E3, a1', zmp_11, E4, hr2, E5, c1m, E6, hr4, ex, zbk_v, zts_s, zts_n, nI_1e0, ↓reduceIte]
end ZME
