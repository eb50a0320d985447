def zSF (h : zH) (m : Nat) : Prop := ∃ St Fd : List Int32, h.1 (m + 10) = (20, St.map Value.int) ∧ St.length = 700 ∧ h.1 (m + 9) = (20, Fd.map Value.int) ∧ Fd.length = 700
theorem zSF_FS {h : zH} {m q : Nat} (hs : zSF h m) (hq : q ≤ 700) : zFS h m [] q [] := by
  obtain ⟨St, Fd, a1, a2, a3, a4⟩ := hs
  exact ⟨St, Fd, ⟨a1, a2, rfl, Nat.zero_le _⟩, a3, a4, rfl, hq⟩
theorem zFS_SF {h : zH} {m q : Nat} {s g : List Int32} (hs : zFS h m s q g) : zSF h m := by
  obtain ⟨St, Fd, ⟨a1, a2, _⟩, a3, a4, _⟩ := hs
  exact ⟨St, Fd, a1, a2, a3, a4⟩
theorem zSF_cg {h h' : zH} {m : Nat} (hs : zSF h m) (h1 : h'.1 (m + 9) = h.1 (m + 9)) (h2 : h'.1 (m + 10) = h.1 (m + 10)) : zSF h' m := by
  obtain ⟨St, Fd, a1, a2, a3, a4⟩ := hs
  exact ⟨St, Fd, by rw [h2, a1], a2, by rw [h1, a3], a4⟩
theorem ymf1 {N : List Int32} : ∀ t : yT, ytw t = true → ydp t < 2 ^ 31 → yfo (ymf 1 N) t = nI (ydp t)
  | .leaf, ht, _ => by cases ht
  | .inner n k v l r, ht, hd => by
    have hd' : max (ydp l) (ydp r) + 1 < 2 ^ 31 := hd
    have m1 := Nat.le_max_left (ydp l) (ydp r)
    have m2 := Nat.le_max_right (ydp l) (ydp r)
    show ymf 1 N k v (yfo (ymf 1 N) l) (yfo (ymf 1 N) r) = nI (max (ydp l) (ydp r) + 1)
    have il : ytw l = true → yfo (ymf 1 N) l = nI (ydp l) := fun g => ymf1 l g (by omega)
    have ir : ytw r = true → yfo (ymf 1 N) r = nI (ydp r) := fun g => ymf1 r g (by omega)
    generalize yfo (ymf 1 N) l = x at *
    generalize yfo (ymf 1 N) r = y at *
    unfold ymf
    rcases ytw_el ht with g | g | g | g
    · obtain ⟨g1, g2, g3⟩ := g
      subst g1 g2 g3
      rw [if_pos rfl, if_neg (by decide), if_neg (by decide)]
      rfl
    · obtain ⟨g1, _, g2, g3⟩ := g
      subst g1 g2 g3
      rw [if_neg (by decide +kernel), if_pos rfl, if_neg (by decide)]
      rfl
    · obtain ⟨g1, _, g2, g3⟩ := g
      subst g1 g3
      rw [if_neg (by decide +kernel), if_neg (by decide +kernel), if_pos rfl, if_neg (by decide), if_pos rfl, il g2, nI_1', show max (ydp l) (ydp (.leaf : yT)) = ydp l from Nat.max_eq_left (Nat.zero_le _)]
    · obtain ⟨gk, _, g2, g3⟩ := g
      rw [if_neg (fun q => by rw [q] at gk; exact absurd gk (by decide +kernel)), if_neg (fun q => by rw [q] at gk; exact absurd gk (by decide +kernel)), if_neg (yis_n110 gk), if_neg (by decide), if_pos rfl, il g2, ir g3, nI_ltn (by omega) (by omega), nI_1']
section ZFN
variable {sv : Nat → Value} {d : Nat} {h : zH} {m : Nat} {F : Nat → Int32}
theorem e_213 {w : Nat} {t : yT} {N : List Int32} (hw : w < 4) (ht : ytw t = true) (hz : ysz t < 600) (hm : zMo h m F) (h8 : F 8 = nI (ysz t)) (hl : zLst h (m + 5) (m + 6) (ypr t)) (hN : h.1 (m + 1) = (20, N.map Value.int)) (hNl : N.length = 387) (hs : zSF h m) : ∃ h', zcall zP sv (d + 3) 213 [.ref m, .int (nI w)] h = some (.inl (some (.int (yfo (ymf w N) t))), h') ∧ zFS h' m [yfo (ymf w N) t] 0 (yfs (ymf w N) t) ∧ zfw m h h' := by
  have hl0 : zLst h (m + 5) (m + 6) ([] ++ ypr t ++ []) := by rw [List.append_nil, List.nil_append]; exact hl
  obtain ⟨h', r4, r5, r6, e, q1, q2, q3, q4, q5⟩ := e_213l (sv := sv) (d := d) hw hNl t ht [] [] [] [] h .unset .unset .unset rfl rfl rfl hm hl0 hN (zSF_FS hs (by show 0 + ysz t ≤ 700; omega)) (by show 0 + ysz t < 600; omega)
  rw [List.append_nil, List.nil_append] at q4
  refine ⟨h', ?_, q4, q5⟩
  have hm1 := hm
  unfold zMo at hm1
  have hm2 : h'.1 m = (13, zMF m F) := by rw [q5.1 m (by omega) (by omega)]; exact hm1
  obtain ⟨St, Fd, ⟨a1, a2, a3, a4⟩, _⟩ := q4
  have hx : St[0]? = some (yfo (ymf w N) t) := ytk_at a3 rfl
  have z5 : ∀ Kv, zael (20, St.map Value.int) 20 0 Kv = Kv (.int (yfo (ymf w N) t)) := fun Kv => by
    rw [← nI_0]
    exact zaelv (by rw [List.getElem?_map, hx]; rfl) (by decide)
  have hneg : (0 : Int32) - nI 1 < 0 := by decide +kernel
  simp only [List.length_nil, nI_0, Nat.zero_add] at e
  rw [zc_213]
  simp (disch := exact znw_u) only [zs_213_0, zs_213_1, zs_213_2, zs_213_3, zs_213_6, zs_213_7, zs_213_8, hm1, zmf_8, h8]
  rw [e, zs_213_9, zs_213_10, if_pos hneg]
  simp only [zs_213_0, zs_213_1, zs_213_2, zs_213_2n, zs_213_3, zs_213_6, zs_213_7, zs_213_8, zs_213_13, zs_213_13n, zs_213_14, zs_213_17, zs_213_18, zs_213_19, zs_213_22, zs_213_24, zs_213_26, zs_213_29, zs_213_29n, zs_213_30, zs_213_33, zs_213_34, zs_213_35, zs_213_36, zs_213_37, zs_213_40, zs_213_41, zs_213_43, zs_213_45, zs_213_46, zs_213_49, zs_213_49n, zs_213_50, zs_213_53, zs_213_54, zs_213_55, zs_213_56, zs_213_57, zs_213_60, zs_213_61, zs_213_63, zs_213_63n, zs_213_64, zs_213_67, zs_213_68, zs_213_68n, zs_213_69, zs_213_70, zs_213_71, zs_213_73, zs_213_75, zs_213_78, zs_213_79, zs_213_80, zs_213_82, zs_213_83, zs_213_84, zs_213_84n, zs_213_85, zs_213_88, zs_213_89, zs_213_92, zs_213_92n, zs_213_93, zs_213_96, zs_213_97, zs_213_98, zs_213_99, zs_213_102, zs_213_105, zs_213_105n, zs_213_106, zs_213_109, zs_213_110, zs_213_111, hm2, zmf_13, a1, z5]
theorem e_215 {t : yT} {N : List Int32} (ht : ytw t = true) (hz : ysz t < 600) (hm : zMo h m F) (h8 : F 8 = nI (ysz t)) (hl : zLst h (m + 5) (m + 6) (ypr t)) (hN : h.1 (m + 1) = (20, N.map Value.int)) (hNl : N.length = 387) (hs : zSF h m) : ∃ h', zcall zP sv (d + 4) 215 [.ref m] h = some (.inl (some (.int (yb (decide (ysz t ≤ 31) && decide (ydp t ≤ 8))))), h') ∧ zSF h' m ∧ zfw m h h' := by
  have hm1 := hm
  unfold zMo at hm1
  have hdz := ydp_sz t
  by_cases c1 : ysz t ≤ 31
  · obtain ⟨h', e, q1, q2⟩ := e_213 (sv := sv) (d := d) (w := 1) (by decide) ht hz hm h8 hl hN hNl hs
    rw [ymf1 t ht (by omega)] at e
    refine ⟨h', ?_, zFS_SF q1, q2⟩
    have g1 : ¬ nI 31 < nI (ysz t) := nI_nlt c1 (by decide)
    have hrc : ∀ X : zR, zrc (h.1 m) 13 X = X := fun X => zMo_rc hm
    by_cases c2 : ydp t ≤ 8
    · have g2 : ¬ nI 8 < nI (ydp t) := nI_nlt c2 (by decide)
      simp only [zc_215, zs_215_0, zs_215_0n, zs_215_1, zs_215_4, zs_215_6, zs_215_9, zs_215_9n, zs_215_10, zs_215_11, zs_215_14, zs_215_16, zs_215_19, zs_215_20, zs_215_23, zs_215_24, hm1, zmf_8, h8, if_neg g1, zrc_13v, e, if_neg g2, zbk_v, zts_s, zty_51, zgd_t, decide_eq_true c1, decide_eq_true c2, Bool.and_self, yb_t]
    · have g2 : nI 8 < nI (ydp t) := nI_lt (by omega) (by omega)
      simp only [zc_215, zs_215_0, zs_215_0n, zs_215_1, zs_215_4, zs_215_6, zs_215_9, zs_215_9n, zs_215_10, zs_215_11, zs_215_14, zs_215_16, zs_215_19, zs_215_20, zs_215_23, zs_215_24, hm1, zmf_8, h8, if_neg g1, zrc_13v, e, if_pos g2, zbk_v, zts_s, zty_50, zgd_t, decide_eq_true c1, decide_eq_false c2, Bool.and_false, yb_f]
  · refine ⟨h, ?_, hs, zfw_rfl⟩
    have g1 : nI 31 < nI (ysz t) := nI_lt (by omega) (by omega)
    simp only [zc_215, zs_215_0, zs_215_0n, zs_215_1, zs_215_4, zs_215_6, zs_215_9, zs_215_9n, zs_215_10, zs_215_11, zs_215_14, zs_215_16, zs_215_19, zs_215_20, zs_215_23, zs_215_24, hm1, zmf_8, h8, if_pos g1, zty_50, zgd_t, decide_eq_false c1, Bool.false_and, yb_f]
/-- turns: what was made is what is looked at -/
theorem e_207l {qs : yP} (hk : ynk qs) : ∀ n j (h : zH), j + n = qs.length → h.1 m = (13, zMF m F) → F 8 = nI qs.length → zLst h (m + 7) (m + 8) qs → zLst h (m + 5) (m + 6) (qs.take j) → ∃ h', zrun zP sv (zcall zP sv d) 207 10 [.val (.ref m), .val (.int (nI j))] [] h = some (.inl none, h') ∧ zLst h' (m + 5) (m + 6) qs ∧ (∀ q, q ≠ m + 5 → q ≠ m + 6 → h'.1 q = h.1 q) ∧ h'.2 = h.2 := by
  intro n
  induction n with
  | zero =>
    intro j h hj hm h8 hd hl
    obtain rfl : j = qs.length := by omega
    rw [List.take_length] at hl
    refine ⟨h, ?_, hl, fun _ _ _ => rfl, rfl⟩
    simp only [zs_207_0, zs_207_0n, zs_207_1, zs_207_1n, zs_207_2, zs_207_5, zs_207_8, zs_207_9, zs_207_10, zs_207_11, zs_207_11n, zs_207_12, zs_207_15, zs_207_18, zs_207_18n, zs_207_19, zs_207_22, zs_207_23, zs_207_23n, zs_207_24, zs_207_27, zs_207_28, zs_207_29, zs_207_30, zs_207_30n, zs_207_31, zs_207_34, zs_207_35, zs_207_35n, zs_207_36, zs_207_39, zs_207_40, zs_207_41, zs_207_42, zs_207_45, zs_207_48, hm, zmf_8, h8, Int32.lt_irrefl, ↓reduceIte]
  | succ n ih =>
    intro j h hj hm h8 hd hl
    obtain ⟨x, hx⟩ : ∃ x, qs[j]? = some x := ⟨_, List.getElem?_eq_getElem (by omega)⟩
    obtain ⟨A, B, a1, a2, a3, a4, a5⟩ := e_made (k := x.1) (v := x.2) hd hx
    have hkx := hk x (List.mem_of_getElem? hx)
    obtain ⟨A', B', b1, b2, b3, b4, b5, b6, b7⟩ := hl
    have hjl : (qs.take j).length = j := by rw [List.length_take]; omega
    rw [hjl] at b5 b6
    have s1 : ∀ Kc : zC → zR, zaset (21, A'.map Value.int) 21 (nI j) (.int x.1) Kc = Kc (21, (A'.set j (ynr x.1)).map Value.int) := fun Kc => zsC (by omega) (by omega)
    have s2 : ∀ Kc : zC → zR, zaset (20, B'.map Value.int) 20 (nI j) (.int x.2) Kc = Kc (20, (B'.set j x.2).map Value.int) := fun Kc => zsI (by omega) (by omega)
    have htk : (qs.take (j + 1)).length = j + 1 := by rw [List.length_take]; omega
    have w : zLst (zup (zup h (m + 5) (21, (A'.set j x.1).map Value.int)) (m + 6) (20, (B'.set j x.2).map Value.int)) (m + 5) (m + 6) (qs.take (j + 1)) := by
      refine ⟨A'.set j x.1, B'.set j x.2, by rw [zup_ne (by omega), zup_at], zup_at, by rw [List.length_set, b3], by rw [List.length_set, b4], ?_, ?_, by rw [htk]; omega⟩
      · rw [htk, ytk_set b5 (by omega), List.take_add_one, hx, List.map_append]; rfl
      · rw [htk, ytk_set b6 (by omega), List.take_add_one, hx, List.map_append]; rfl
    obtain ⟨h', e, q1, q2, q3⟩ := ih (j + 1) _ (by omega) (by rw [zup_ne (by omega), zup_ne (by omega), hm]) h8 (zLst_cg hd (by rw [zup_ne (by omega), zup_ne (by omega)]) (by rw [zup_ne (by omega), zup_ne (by omega)])) w
    refine ⟨h', ?_, q1, fun q p1 p2 => by rw [q2 q p1 p2, zup_ne p2, zup_ne p1], q3⟩
    have h7 : qs.length ≤ 700 := by
      obtain ⟨_, _, _, _, _, _, _, _, a7⟩ := hd
      exact a7
    have g1 : nI j < nI qs.length := nI_lt (by omega) (by omega)
    simp (disch := first | exact znw_i | omega) only [zs_207_0, zs_207_0n, zs_207_1, zs_207_1n, zs_207_2, zs_207_5, zs_207_8, zs_207_9, zs_207_10, zs_207_11, zs_207_11n, zs_207_12, zs_207_15, zs_207_18, zs_207_18n, zs_207_19, zs_207_22, zs_207_23, zs_207_23n, zs_207_24, zs_207_27, zs_207_28, zs_207_29, zs_207_30, zs_207_30n, zs_207_31, zs_207_34, zs_207_35, zs_207_35n, zs_207_36, zs_207_39, zs_207_40, zs_207_41, zs_207_42, hm, zmf_6, zmf_7, zmf_8, zmf_9, zmf_10, h8, if_pos g1, a1, a2, a3, a4, b1, b2, s1, hkx, zup_ne, s2, nI_1']
    rw [zs_207_45]
    exact e
theorem e_207 {qs p0 : yP} (hm : zMd h m F qs) (hk : ynk qs) (hl : zLst h (m + 5) (m + 6) p0) : ∃ h', zcall zP sv (d + 1) 207 [.ref m] h = some (.inl none, h') ∧ zMd h' m (yup F 8 (nI qs.length)) qs ∧ zLst h' (m + 5) (m + 6) qs ∧ (∀ q, q ≠ m → q ≠ m + 5 → q ≠ m + 6 → h'.1 q = h.1 q) ∧ h'.2 = h.2 := by
  have h1 := hm.1
  unfold zMo at h1
  have h0 : zLst h (m + 5) (m + 6) (p0.take 0) := by
    rw [← List.take_append_drop 0 p0] at hl
    exact zLst_pre hl
  rw [List.take_zero] at h0
  have a0 : (zup h m (13, zMF m (yup (yup F 11 (nI qs.length)) 8 (nI qs.length)))).1 m = (13, zMF m (yup (yup F 11 (nI qs.length)) 8 (nI qs.length))) := zup_at
  obtain ⟨h', e, q1, q2, q3⟩ := e_207l (sv := sv) (d := d) hk qs.length 0 _ (Nat.zero_add _) a0 yup_eq (zLst_cg hm.2 (zup_ne (by omega)) (zup_ne (by omega))) (by rw [List.take_zero]; exact zLst_cg h0 (zup_ne (by omega)) (zup_ne (by omega)))
  rw [nI_0] at e
  have hc : yup (yup F 11 (nI qs.length)) 8 (nI qs.length) = yup (yup F 8 (nI qs.length)) 11 (nI qs.length) := yup_com (by decide)
  refine ⟨h', ?_, ⟨?_, zLst_cg hm.2 (by rw [q2 _ (by omega) (by omega), zup_ne (by omega)]) (by rw [q2 _ (by omega) (by omega), zup_ne (by omega)])⟩, q1, fun q p1 p2 p3 => by rw [q2 q p2 p3, zup_ne p1], q3⟩
  · rw [zc_207]
    simp (disch := exact znw_u) only [zs_207_0, zs_207_1, zs_207_2, zs_207_5, zs_207_8, zs_207_9, h1, zmf_11, yup_eq, zmp_8]
    exact e
  · unfold zMo
    rw [q2 m (by omega) (by omega), zup_at, hc]
end ZFN
