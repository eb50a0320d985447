section ZDV
variable {sv : Nat → Value} {p : Nat} {cs : List Int32}
/-- on from an operand: products -/
theorem d_154l {f : Nat} (hA : yPA sv p cs f 4 0 156 4) (hL : yPL sv p cs f 3 1 154 4) : yPL sv p cs (f + 1) 3 1 154 4 := by
  intro op pos k h ns D x a s4 h4 hmu hD hop hp hw hn hl hk ha
  have h60 := hp.2.1.2.2.1
  have hmu2 : 400 * (7 - op) + 5 * (61 - pos) + 1 < f + 1 := hmu
  obtain ⟨d, rfl⟩ : ∃ d, D = d + 4 := ⟨D - 4, by omega⟩
  cases a with
  | none =>
    have hx : x = -1 := ha
    subst hx
    rw [ypa_3n]
    refine ⟨h, [], -1, ?_, by rw [List.append_nil]; exact hp, by rw [List.length_nil]; omega, by rw [List.append_nil]; exact hw, hl, zfr_rfl, rfl⟩
    by_cases g : k < 60
    · simp only [zs_154_0, zs_154_0n, zs_154_1, zs_154_2, zs_154_5, zs_154_6, zs_154_7, zs_154_8, zs_154_9, zs_154_11, zs_154_14, zs_154_15, zs_154_16, zs_154_19, zs_154_19n, zs_154_20, zs_154_22, zs_154_24, zs_154_27, zs_154_30, zs_154_30n, zs_154_31, zs_154_34, zs_154_36, zs_154_36n, zs_154_37, zs_154_39, zs_154_40, zs_154_40n, zs_154_41, zs_154_42, zs_154_45, zs_154_48, zs_154_49, zs_154_52, zs_154_55, zs_154_56, if_pos (nI_lt g (show 60 < 2 ^ 31 by decide)), nI_m1e, ↓reduceIte]
    · simp only [zs_154_0, zs_154_0n, zs_154_1, zs_154_2, zs_154_5, zs_154_6, zs_154_7, zs_154_8, zs_154_9, zs_154_11, zs_154_14, zs_154_15, zs_154_16, zs_154_19, zs_154_19n, zs_154_20, zs_154_22, zs_154_24, zs_154_27, zs_154_30, zs_154_30n, zs_154_31, zs_154_34, zs_154_36, zs_154_36n, zs_154_37, zs_154_39, zs_154_40, zs_154_40n, zs_154_41, zs_154_42, zs_154_45, zs_154_48, zs_154_49, zs_154_52, zs_154_55, zs_154_56, if_neg (nI_nlt (show 60 ≤ k by omega) (show k < 2 ^ 31 by omega))]
  | some t =>
    have hx := ha.1
    rw [ypa_3s]
    have e3 := d_163 (sv := sv) (d := d + 2) (a := nI 42) (b := nI 42) hp (by omega)
    by_cases h1 : ycat cs pos = nI 42
    · rw [if_pos h1]
      have hb : (decide (ycat cs pos = nI 42) || decide (ycat cs pos = nI 42)) = true := by
        rw [decide_eq_true h1]; rfl
      rw [hb] at e3
      have h2 : pos < cs.length := ycat_lt (fun h3 => y32.2.2.1 (h3.symm.trans h1))
      obtain ⟨h1', e4, w4, f4⟩ := d_160 (sv := sv) (d := d + 2) hp (by omega)
      have m1 : ymu 0 op (pos + 1) < f := by
        show 400 * (7 - op) + 5 * (61 - (pos + 1)) + 0 < f
        omega
      obtain ⟨h2', e, y, e5, w5, w6, w7, w8, f5, w9⟩ := hA op (pos + 1) h1' ns (d + 4) m1 hD hop w4 hw (by omega) (by omega)
      have g1 : nI k < nI 60 := nI_lt (by omega) (by decide)
      have e0 : zrun zP sv (zcall zP sv (d + 4)) 154 8 [.val (.ref p), .val (.int (nI op)), .val (.int x), .val (.int (nI k)), s4] [] h = zbk (zcall zP sv (d + 4) 155 [.ref p, .int (ycat cs pos), .int x, .int y] h2') (fun v h' => zrun zP sv (zcall zP sv (d + 4)) 154 48 [.val (.ref p), .val (.int (nI op)), .val (.int x), .val (.int (nI k)), .val (.int (ycat cs pos))] (v.toList ++ []) h') (fun E h' => some (.inr E, h')) := by
        simp (disch := first | exact h4 | exact znw_i) only [zs_154_0, zs_154_0n, zs_154_1, zs_154_2, zs_154_5, zs_154_6, zs_154_7, zs_154_8, zs_154_9, zs_154_11, zs_154_14, zs_154_15, zs_154_16, zs_154_19, zs_154_19n, zs_154_20, zs_154_22, zs_154_24, zs_154_27, zs_154_30, zs_154_30n, zs_154_31, zs_154_34, zs_154_36, zs_154_36n, zs_154_37, zs_154_39, zs_154_40, zs_154_40n, zs_154_41, zs_154_42, zs_154_45, zs_154_49, zs_154_52, zs_154_55, zs_154_56, if_pos g1, if_neg hx, zPar_rc hp, e3, yb_t, nI_1e0, ↓reduceIte, e4, zPar_rc w4, e5, zPar_rc w5, zbk_v, zts_s]
      rw [e0]
      have hlen : (ns ++ e).length = ns.length + e.length := List.length_append
      cases hr : (ypa cs f 4 none op (pos + 1)).1 with
      | none =>
        rw [hr] at w9
        have hy : y = -1 := w9
        subst hy
        rw [d_155n w5, zbk_v, zts_s, zs_154_48 rfl, zs_154_49, zs_154_52, nI_1']
        have q := hL op (ypa cs f 4 none op (pos + 1)).2 (k + 1) h2' (ns ++ e) (d + 4) (-1) none (.val (.int (ycat cs pos))) rfl (by unfold ymu; omega) (by omega) hop w5 w7 (by omega) w8 (by omega) rfl
        exact zPR_tr q (zfr_tr f4 f5) (by omega)
      | some u =>
        rw [hr] at w9
        obtain ⟨h3', e6, w10, f6⟩ := d_155 (sv := sv) (d := d) (k := ycat cs pos) (x := x) (y := y) w5 (by omega) w9.1
        rw [e6, zbk_v, zts_s, zs_154_48 rfl, zs_154_49, zs_154_52, nI_1']
        have cx : ych (ns ++ e).length x := ych_mono ha.2.1 (by omega)
        have z1 := ywf_snoc (nd := (ycat cs pos, 0, x, y)) w7 cx w9.2.1 (by omega)
        rw [List.append_assoc] at w10 z1
        have t1 : yis1 (ns ++ (e ++ [(ycat cs pos, 0, x, y)])) (nI (ns ++ e).length) (some (ymk (ycat cs pos) 0 t u)) := by
          rw [← List.append_assoc]
          exact ⟨nI_nm1 (by omega), ych_snoc, by rw [ygt_new (by omega), w9.2.2, ygt_pre (by omega) ha.2.1, ha.2.2]⟩
        have le1 : (e ++ [(ycat cs pos, 0, x, y)]).length = e.length + 1 := List.length_append
        have q := hL op (ypa cs f 4 none op (pos + 1)).2 (k + 1) h3' (ns ++ (e ++ [(ycat cs pos, 0, x, y)])) (d + 4) _ (some (ymk (ycat cs pos) 0 t u)) (.val (.int (ycat cs pos))) rfl (by unfold ymu; omega) (by omega) hop w10 z1 (by rw [List.length_append]; omega) w8 (by omega) t1
        exact zPR_tr q (zfr_tr (zfr_tr f4 f5) f6) (by omega)
    · rw [if_neg h1]
      have hb : (decide (ycat cs pos = nI 42) || decide (ycat cs pos = nI 42)) = false := by
        rw [decide_eq_false h1]; rfl
      rw [hb] at e3
      refine ⟨h, [], x, ?_, by rw [List.append_nil]; exact hp, by rw [List.length_nil]; omega, by rw [List.append_nil]; exact hw, hl, zfr_rfl, by rw [List.append_nil]; exact ha⟩
      by_cases g : k < 60
      · simp only [zs_154_0, zs_154_0n, zs_154_1, zs_154_2, zs_154_5, zs_154_6, zs_154_7, zs_154_8, zs_154_9, zs_154_11, zs_154_14, zs_154_15, zs_154_16, zs_154_19, zs_154_19n, zs_154_20, zs_154_22, zs_154_24, zs_154_27, zs_154_30, zs_154_30n, zs_154_31, zs_154_34, zs_154_36, zs_154_36n, zs_154_37, zs_154_39, zs_154_40, zs_154_40n, zs_154_41, zs_154_42, zs_154_45, zs_154_48, zs_154_49, zs_154_52, zs_154_55, zs_154_56, if_pos (nI_lt g (show 60 < 2 ^ 31 by decide)), if_neg hx, zPar_rc hp, e3, yb_f, ↓reduceIte, zbk_v, zts_s]
      · simp only [zs_154_0, zs_154_0n, zs_154_1, zs_154_2, zs_154_5, zs_154_6, zs_154_7, zs_154_8, zs_154_9, zs_154_11, zs_154_14, zs_154_15, zs_154_16, zs_154_19, zs_154_19n, zs_154_20, zs_154_22, zs_154_24, zs_154_27, zs_154_30, zs_154_30n, zs_154_31, zs_154_34, zs_154_36, zs_154_36n, zs_154_37, zs_154_39, zs_154_40, zs_154_40n, zs_154_41, zs_154_42, zs_154_45, zs_154_48, zs_154_49, zs_154_52, zs_154_55, zs_154_56, if_neg (nI_nlt (show 60 ≤ k by omega) (show k < 2 ^ 31 by omega))]

theorem d_153 {f : Nat} (hA : yPA sv p cs f 2 2 154 5) (hL : yPL sv p cs f 1 3 153 5) : yPA sv p cs (f + 1) 0 4 153 6 := by
  intro op pos h ns D hmu hD hop hp hw hn hl
  have hmu2 : 400 * (7 - op) + 5 * (61 - pos) + 4 < f + 1 := hmu
  obtain ⟨d, rfl⟩ : ∃ d, D = d + 1 := ⟨D - 1, by omega⟩
  have m1 : ymu 2 op pos < f := by
    show 400 * (7 - op) + 5 * (61 - pos) + 2 < f
    omega
  rw [ypa_0]
  obtain ⟨h1, e, x, e1, w1, w2, w3, w4, f1, w5⟩ := hA op pos h ns d m1 (by omega) hop hp hw hn hl
  have m2 : ymu 3 op (ypa cs f 2 none op pos).2 < f := by
    show 400 * (7 - op) + 5 * (61 - (ypa cs f 2 none op pos).2) + 3 < f
    omega
  have q := hL op (ypa cs f 2 none op pos).2 0 h1 (ns ++ e) d x _ .unset rfl m2 (by omega) hop w1 w3 (by rw [List.length_append]; omega) w4 (Nat.zero_le _) w5
  rw [nI_0] at q
  have e0 : zcall zP sv (d + 1) 153 [.ref p, .int (nI op)] h = zrun zP sv (zcall zP sv d) 153 8 [.val (.ref p), .val (.int (nI op)), .val (.int x), .val (.int 0), .unset] [] h1 := by
    simp (disch := exact znw_u) only [zc_153, zs_153_0, zs_153_0n, zs_153_1, zs_153_2, zs_153_5, zs_153_6, zs_153_7, zs_153_9, zs_153_11, zs_153_14, zs_153_15, zs_153_16, zs_153_19, zs_153_19n, zs_153_20, zs_153_22, zs_153_24, zs_153_27, zs_153_30, zs_153_30n, zs_153_31, zs_153_34, zs_153_36, zs_153_36n, zs_153_37, zs_153_39, zs_153_40, zs_153_40n, zs_153_41, zs_153_42, zs_153_45, zs_153_48, zs_153_49, zs_153_52, zs_153_55, zs_153_56, zPar_rc hp, e1, zbk_v, zts_s]
  rw [e0]
  exact zPR_tr q f1 w2
theorem d_154 {f : Nat} (hA : yPA sv p cs f 4 0 156 4) (hL : yPL sv p cs f 3 1 154 4) : yPA sv p cs (f + 1) 2 2 154 5 := by
  intro op pos h ns D hmu hD hop hp hw hn hl
  have hmu2 : 400 * (7 - op) + 5 * (61 - pos) + 2 < f + 1 := hmu
  obtain ⟨d, rfl⟩ : ∃ d, D = d + 1 := ⟨D - 1, by omega⟩
  have m1 : ymu 0 op pos < f := by
    show 400 * (7 - op) + 5 * (61 - pos) + 0 < f
    omega
  rw [ypa_2]
  obtain ⟨h1, e, x, e1, w1, w2, w3, w4, f1, w5⟩ := hA op pos h ns d m1 (by omega) hop hp hw hn hl
  have m2 : ymu 1 op (ypa cs f 4 none op pos).2 < f := by
    show 400 * (7 - op) + 5 * (61 - (ypa cs f 4 none op pos).2) + 1 < f
    omega
  have q := hL op (ypa cs f 4 none op pos).2 0 h1 (ns ++ e) d x _ .unset rfl m2 (by omega) hop w1 w3 (by rw [List.length_append]; omega) w4 (Nat.zero_le _) w5
  rw [nI_0] at q
  have e0 : zcall zP sv (d + 1) 154 [.ref p, .int (nI op)] h = zrun zP sv (zcall zP sv d) 154 8 [.val (.ref p), .val (.int (nI op)), .val (.int x), .val (.int 0), .unset] [] h1 := by
    simp (disch := exact znw_u) only [zc_154, zs_154_0, zs_154_0n, zs_154_1, zs_154_2, zs_154_5, zs_154_6, zs_154_7, zs_154_9, zs_154_11, zs_154_14, zs_154_15, zs_154_16, zs_154_19, zs_154_19n, zs_154_20, zs_154_22, zs_154_24, zs_154_27, zs_154_30, zs_154_30n, zs_154_31, zs_154_34, zs_154_36, zs_154_36n, zs_154_37, zs_154_39, zs_154_40, zs_154_40n, zs_154_41, zs_154_42, zs_154_45, zs_154_48, zs_154_49, zs_154_52, zs_154_55, zs_154_56, zPar_rc hp, e1, zbk_v, zts_s]
  rw [e0]
  exact zPR_tr q f1 w2
/-- what stands behind the negations -/
def ypu (cs : List Int32) (f op p : Nat) : Option yT × Nat := if ycat cs p = nI 40 ∧ op < 6 then (if (ypa cs f 0 none (op + 1) (p + 1)).1.isSome = true ∧ ycat cs (ypa cs f 0 none (op + 1) (p + 1)).2 = nI 41 then ((ypa cs f 0 none (op + 1) (p + 1)).1, (ypa cs f 0 none (op + 1) (p + 1)).2 + 1) else (none, (ypa cs f 0 none (op + 1) (p + 1)).2))
        else if ylet (ycat cs p) = true then (some (ymk (nI 118) (ycat cs p) .leaf .leaf), p + 1)
        else if yisd (ycat cs p) = true then ynum2 cs p else (none, p)
theorem ypa_4 {cs : List Int32} {f op pos : Nat} {a : Option yT} : ypa cs (f + 1) 4 a op pos = ((ypu cs f op (pos + yng cs pos 6)).1.map (ywr (yng cs pos 6)), (ypu cs f op (pos + yng cs pos 6)).2) := by
  conv => lhs; unfold ypa
  rfl
theorem ylet_r {c : Int32} (h : ylet c = true) : ¬ c < nI 97 ∧ ¬ nI 102 < c := by
  unfold ylet at h
  rw [Bool.and_eq_true] at h
  exact ⟨of_decide_eq_true h.1, of_decide_eq_true h.2⟩
theorem ylet_f {c : Int32} (h : ylet c = false) : c < nI 97 ∨ nI 102 < c := by
  by_cases h1 : c < nI 97
  · exact Or.inl h1
  · by_cases h2 : nI 102 < c
    · exact Or.inr h2
    · unfold ylet at h
      rw [decide_eq_true h1, decide_eq_true h2] at h
      exact absurd h (by decide)
theorem d_158 {f : Nat} (hA : yPA sv p cs f 0 4 153 6) {op pos D : Nat} {h : zH} {ns : List yN} (hmu : 400 * (7 - op) + 5 * (61 - pos) + 0 < f + 1) (hD : 5 * (7 - op) + 2 ≤ D) (hop : op < 6) (hp : zPar h p cs pos ns) (hw : ywf ns) (hn : ns.length ≤ pos) (hl : pos < cs.length) : zPR h p cs pos ns (zcall zP sv D 158 [.ref p, .int (nI op)] h) (if (ypa cs f 0 none (op + 1) (pos + 1)).1.isSome = true ∧ ycat cs (ypa cs f 0 none (op + 1) (pos + 1)).2 = nI 41 then ((ypa cs f 0 none (op + 1) (pos + 1)).1, (ypa cs f 0 none (op + 1) (pos + 1)).2 + 1) else (none, (ypa cs f 0 none (op + 1) (pos + 1)).2)) := by
  have h60 := hp.2.1.2.2.1
  obtain ⟨d, rfl⟩ : ∃ d, D = d + 2 := ⟨D - 2, by omega⟩
  have h0 := hp.1
  have w := zPar_pos (pos' := pos + 1) hp
  have f0 : zfr p (p + 12) h (zup h p (7, [.ref (p + 1), .ref (p + 3), .int (nI (pos + 1))])) := zfr_up (by omega) (by omega)
  have a0 : (zup h p (7, [.ref (p + 1), .ref (p + 3), .int (nI (pos + 1))])).1 p = (7, [.ref (p + 1), .ref (p + 3), .int (nI (pos + 1))]) := zup_at
  have m1 : ymu 4 (op + 1) (pos + 1) < f := by
    show 400 * (7 - (op + 1)) + 5 * (61 - (pos + 1)) + 4 < f
    omega
  obtain ⟨h1, e, x, e1, w1, w2, w3, w4, f1, w5⟩ := hA (op + 1) (pos + 1) _ ns (d + 1) m1 (by omega) (by omega) w hw (by omega) (by omega)
  have b0 := w1.1
  cases hr : (ypa cs f 0 none (op + 1) (pos + 1)).1 with
  | none =>
    rw [if_neg (fun g => by cases g.1)]
    rw [hr] at w5
    have hx : x = -1 := w5
    subst hx
    refine ⟨h1, e, -1, ?_, w1, by omega, w3, w4, zfr_tr f0 f1, rfl⟩
    simp (disch := exact znw_u) only [zc_158, zs_158_0, zs_158_0n, zs_158_1, zs_158_2, zs_158_5, zs_158_6, zs_158_7, zs_158_10, zs_158_10n, zs_158_11, zs_158_12, zs_158_13, zs_158_14, zs_158_17, zs_158_18, zs_158_19, zs_158_20, zs_158_23, zs_158_23n, zs_158_24, zs_158_27, zs_158_27n, zs_158_28, zs_158_31, zs_158_34, zs_158_36, zs_158_39, zs_158_40, zs_158_41, zs_158_41n, zs_158_42, zs_158_43, zs_158_46, zs_158_47, zs_158_48, zs_158_51, zs_158_52, h0, zrc_7, zf_7_0, zp_7_0, zp_7_0n, zf_7_1, zp_7_1, zp_7_1n, zf_7_2, zp_7_2, zup_at, nI_1', zPar_rc w, e1, nI_m1e, zbk_v, zts_s, ↓reduceIte]
  | some u =>
    rw [hr] at w5
    have e2 := d_141 (sv := sv) (d := d) (h := h1) w1.2.1 (show (ypa cs f 0 none (op + 1) (pos + 1)).2 < 2 ^ 31 by omega)
    by_cases h2 : ycat cs (ypa cs f 0 none (op + 1) (pos + 1)).2 = nI 41
    · rw [if_pos ⟨rfl, h2⟩]
      have h3 : (ypa cs f 0 none (op + 1) (pos + 1)).2 < cs.length := ycat_lt (fun h3 => y32.2.2.2.2.1 (h3.symm.trans h2))
      have w6 := zPar_pos (pos' := (ypa cs f 0 none (op + 1) (pos + 1)).2 + 1) w1
      refine ⟨_, e, x, ?_, w6, by show e.length + pos ≤ (ypa cs f 0 none (op + 1) (pos + 1)).2 + 1; omega, w3, h3, zfr_tr (zfr_tr f0 f1) (zfr_up (by omega) (by omega)), w5⟩
      simp (disch := exact znw_u) only [zc_158, zs_158_0, zs_158_0n, zs_158_1, zs_158_2, zs_158_5, zs_158_6, zs_158_7, zs_158_10, zs_158_10n, zs_158_11, zs_158_12, zs_158_13, zs_158_14, zs_158_17, zs_158_18, zs_158_19, zs_158_20, zs_158_23, zs_158_23n, zs_158_24, zs_158_27, zs_158_27n, zs_158_28, zs_158_31, zs_158_34, zs_158_36, zs_158_39, zs_158_40, zs_158_41, zs_158_41n, zs_158_42, zs_158_43, zs_158_46, zs_158_47, zs_158_48, zs_158_51, zs_158_52, h0, zrc_7, zf_7_0, zp_7_0, zp_7_0n, zf_7_1, zp_7_1, zp_7_1n, zf_7_2, zp_7_2, zup_at, nI_1', zPar_rc w, e1, if_neg w5.1, b0, zInp_rc w1.2.1, e2, if_pos h2, zbk_v, zts_s]
    · rw [if_neg (fun g => h2 g.2)]
      refine ⟨h1, e, -1, ?_, w1, by show e.length + pos ≤ (ypa cs f 0 none (op + 1) (pos + 1)).2; omega, w3, w4, zfr_tr f0 f1, rfl⟩
      simp (disch := exact znw_u) only [zc_158, zs_158_0, zs_158_0n, zs_158_1, zs_158_2, zs_158_5, zs_158_6, zs_158_7, zs_158_10, zs_158_10n, zs_158_11, zs_158_12, zs_158_13, zs_158_14, zs_158_17, zs_158_18, zs_158_19, zs_158_20, zs_158_23, zs_158_23n, zs_158_24, zs_158_27, zs_158_27n, zs_158_28, zs_158_31, zs_158_34, zs_158_36, zs_158_39, zs_158_40, zs_158_41, zs_158_41n, zs_158_42, zs_158_43, zs_158_46, zs_158_47, zs_158_48, zs_158_51, zs_158_52, h0, zrc_7, zf_7_0, zp_7_0, zp_7_0n, zf_7_1, zp_7_1, zp_7_1n, zf_7_2, zp_7_2, zup_at, nI_1', zPar_rc w, e1, if_neg w5.1, b0, zInp_rc w1.2.1, e2, if_neg h2, zbk_v, zts_s]
theorem y40 : ylet (nI 40) = false ∧ yisd (nI 40) = false ∧ (nI 40 < nI 97) = True ∧ (nI 6 < nI 6) = False := by decide +kernel
theorem d_157 {f : Nat} (hA : yPA sv p cs f 0 4 153 6) {op pos D : Nat} {h : zH} {ns : List yN} (hmu : 400 * (7 - op) + 5 * (61 - pos) + 0 < f + 1) (hD : 5 * (7 - op) + 3 ≤ D) (hop : op ≤ 6) (hp : zPar h p cs pos ns) (hw : ywf ns) (hn : ns.length ≤ pos) (hl : pos ≤ cs.length) : zPR h p cs pos ns (zcall zP sv D 157 [.ref p, .int (nI op)] h) (ypu cs f op pos) := by
  have h60 := hp.2.1.2.2.1
  obtain ⟨d, rfl⟩ : ∃ d, D = d + 5 := ⟨D - 5, by omega⟩
  have h0 := hp.1
  have e2 := d_141 (sv := sv) (d := d + 3) (h := h) hp.2.1 (show pos < 2 ^ 31 by omega)
  unfold ypu
  by_cases h1 : ycat cs pos = nI 40 ∧ op < 6
  · rw [if_pos h1]
    have h3 : pos < cs.length := ycat_lt (fun h3 => y32.2.2.2.1 (h3.symm.trans h1.1))
    obtain ⟨h', e, x, e1, w⟩ := d_158 (sv := sv) (D := d + 4) hA hmu (by omega) h1.2 hp hw hn h3
    refine ⟨h', e, x, ?_, w⟩
    have g1 : nI op < nI 6 := nI_lt h1.2 (by decide)
    simp (disch := exact znw_u) only [zc_157, zs_157_0, zs_157_0n, zs_157_1, zs_157_4, zs_157_4n, zs_157_5, zs_157_8, zs_157_11, zs_157_12, zs_157_13, zs_157_15, zs_157_18, zs_157_19, zs_157_21, zs_157_24, zs_157_24n, zs_157_25, zs_157_26, zs_157_29, zs_157_30, zs_157_31, zs_157_33, zs_157_36, zs_157_37, zs_157_39, zs_157_42, zs_157_42n, zs_157_43, zs_157_44, zs_157_47, zs_157_48, zs_157_49, zs_157_52, zs_157_52n, zs_157_53, zs_157_56, zs_157_58, zs_157_59, zs_157_60, zs_157_61, zs_157_64, zs_157_65, zs_157_65n, zs_157_66, zs_157_69, zs_157_72, zs_157_72n, zs_157_73, zs_157_76, zs_157_79, zs_157_80, h0, zrc_7, zf_7_0, zp_7_0, zp_7_0n, zf_7_1, zp_7_1, zp_7_1n, zf_7_2, zp_7_2, zInp_rc hp.2.1, e2, if_pos h1.1, if_pos g1, zPar_rc hp, e1, zbk_v, zts_s]
  · rw [if_neg h1]
    have e3 : zcall zP sv (d + 5) 157 [.ref p, .int (nI op)] h = zrun zP sv (zcall zP sv (d + 4)) 157 30 [.val (.ref p), .val (.int (nI op)), .val (.int (ycat cs pos))] [] h := by
      by_cases h2 : ycat cs pos = nI 40
      · have g1 : ¬ nI op < nI 6 := nI_nlt (by
          have h9 : ¬ op < 6 := fun g => h1 ⟨h2, g⟩
          omega) (by omega)
        simp (disch := exact znw_u) only [zc_157, zs_157_0, zs_157_0n, zs_157_1, zs_157_4, zs_157_4n, zs_157_5, zs_157_8, zs_157_11, zs_157_12, zs_157_13, zs_157_15, zs_157_18, zs_157_19, zs_157_21, zs_157_24, zs_157_24n, zs_157_25, zs_157_26, zs_157_29, zs_157_31, zs_157_33, zs_157_36, zs_157_37, zs_157_39, zs_157_42, zs_157_42n, zs_157_43, zs_157_44, zs_157_47, zs_157_48, zs_157_49, zs_157_52, zs_157_52n, zs_157_53, zs_157_56, zs_157_58, zs_157_59, zs_157_60, zs_157_61, zs_157_64, zs_157_65, zs_157_65n, zs_157_66, zs_157_69, zs_157_72, zs_157_72n, zs_157_73, zs_157_76, zs_157_79, zs_157_80, h0, zrc_7, zf_7_0, zp_7_0, zp_7_0n, zf_7_1, zp_7_1, zp_7_1n, zf_7_2, zp_7_2, zInp_rc hp.2.1, e2, if_pos h2, if_neg g1, zbk_v, zts_s]
      · simp (disch := exact znw_u) only [zc_157, zs_157_0, zs_157_0n, zs_157_1, zs_157_4, zs_157_4n, zs_157_5, zs_157_8, zs_157_11, zs_157_12, zs_157_13, zs_157_15, zs_157_18, zs_157_19, zs_157_21, zs_157_24, zs_157_24n, zs_157_25, zs_157_26, zs_157_29, zs_157_31, zs_157_33, zs_157_36, zs_157_37, zs_157_39, zs_157_42, zs_157_42n, zs_157_43, zs_157_44, zs_157_47, zs_157_48, zs_157_49, zs_157_52, zs_157_52n, zs_157_53, zs_157_56, zs_157_58, zs_157_59, zs_157_60, zs_157_61, zs_157_64, zs_157_65, zs_157_65n, zs_157_66, zs_157_69, zs_157_72, zs_157_72n, zs_157_73, zs_157_76, zs_157_79, zs_157_80, h0, zrc_7, zf_7_0, zp_7_0, zp_7_0n, zf_7_1, zp_7_1, zp_7_1n, zf_7_2, zp_7_2, zInp_rc hp.2.1, e2, if_neg h2, zbk_v, zts_s]
    rw [e3]
    cases h4 : ylet (ycat cs pos) with
    | true =>
      rw [if_pos rfl]
      have g := ylet_r h4
      have h3 : pos < cs.length := ycat_lt (fun h3 => by rw [h3, y32.2.2.2.2.2.1] at h4; cases h4)
      have w := zPar_pos (pos' := pos + 1) hp
      have f0 : zfr p (p + 12) h (zup h p (7, [.ref (p + 1), .ref (p + 3), .int (nI (pos + 1))])) := zfr_up (by omega) (by omega)
      obtain ⟨h', e1, w1, f1⟩ := d_191 (sv := sv) (d := d + 2) (k := nI 118) (n := ycat cs pos) (l := -1) (r := -1) w.2.2 (by omega)
      refine ⟨h', [(nI 118, ycat cs pos, -1, -1)], nI ns.length, ?_, zPar_tree w f1 w1, by show 1 + pos ≤ pos + 1; omega, ywf_snoc hw ych_n ych_n (by omega), h3, zfr_tr f0 (zfr_mono f1 (by omega) (by omega)), nI_nm1 (by omega), ych_snoc, by rw [ygt_new (by omega), ygt_n]⟩
      simp only [zs_157_0, zs_157_0n, zs_157_1, zs_157_4, zs_157_4n, zs_157_5, zs_157_8, zs_157_11, zs_157_12, zs_157_13, zs_157_15, zs_157_18, zs_157_19, zs_157_21, zs_157_24, zs_157_24n, zs_157_25, zs_157_26, zs_157_29, zs_157_30, zs_157_31, zs_157_33, zs_157_36, zs_157_37, zs_157_39, zs_157_42, zs_157_42n, zs_157_43, zs_157_44, zs_157_47, zs_157_48, zs_157_49, zs_157_52, zs_157_52n, zs_157_53, zs_157_56, zs_157_58, zs_157_59, zs_157_60, zs_157_61, zs_157_64, zs_157_65, zs_157_65n, zs_157_66, zs_157_69, zs_157_72, zs_157_72n, zs_157_73, zs_157_76, zs_157_79, zs_157_80, if_neg g.1, if_neg g.2, h0, zrc_7, zf_7_0, zp_7_0, zp_7_0n, zf_7_1, zp_7_1, zp_7_1n, zf_7_2, zp_7_2, zup_at, nI_1', zTre_rc w.2.2, e1, zbk_v, zts_s]
    | false =>
      rw [if_neg (by decide)]
      have e4 : zrun zP sv (zcall zP sv (d + 4)) 157 30 [.val (.ref p), .val (.int (nI op)), .val (.int (ycat cs pos))] [] h = zrun zP sv (zcall zP sv (d + 4)) 157 65 [.val (.ref p), .val (.int (nI op)), .val (.int (ycat cs pos))] [] h := by
        by_cases g : ycat cs pos < nI 97
        · simp only [zs_157_0, zs_157_0n, zs_157_1, zs_157_4, zs_157_4n, zs_157_5, zs_157_8, zs_157_11, zs_157_12, zs_157_13, zs_157_15, zs_157_18, zs_157_19, zs_157_21, zs_157_24, zs_157_24n, zs_157_25, zs_157_26, zs_157_29, zs_157_30, zs_157_31, zs_157_33, zs_157_36, zs_157_37, zs_157_39, zs_157_42, zs_157_42n, zs_157_43, zs_157_44, zs_157_47, zs_157_48, zs_157_49, zs_157_52, zs_157_52n, zs_157_53, zs_157_56, zs_157_58, zs_157_59, zs_157_60, zs_157_61, zs_157_64, zs_157_66, zs_157_69, zs_157_72, zs_157_72n, zs_157_73, zs_157_76, zs_157_79, zs_157_80, if_pos g]
        · simp only [zs_157_0, zs_157_0n, zs_157_1, zs_157_4, zs_157_4n, zs_157_5, zs_157_8, zs_157_11, zs_157_12, zs_157_13, zs_157_15, zs_157_18, zs_157_19, zs_157_21, zs_157_24, zs_157_24n, zs_157_25, zs_157_26, zs_157_29, zs_157_30, zs_157_31, zs_157_33, zs_157_36, zs_157_37, zs_157_39, zs_157_42, zs_157_42n, zs_157_43, zs_157_44, zs_157_47, zs_157_48, zs_157_49, zs_157_52, zs_157_52n, zs_157_53, zs_157_56, zs_157_58, zs_157_59, zs_157_60, zs_157_61, zs_157_64, zs_157_66, zs_157_69, zs_157_72, zs_157_72n, zs_157_73, zs_157_76, zs_157_79, zs_157_80, if_neg g, if_pos ((ylet_f h4).resolve_left g)]
      rw [e4]
      have e5 := d_162 (sv := sv) (d := d + 2) hp (by omega)
      cases h5 : yisd (ycat cs pos) with
      | true =>
        rw [h5] at e5
        rw [if_pos rfl]
        have h3 : pos < cs.length := ycat_lt (fun h3 => by rw [h3, y32.2.2.2.2.2.2] at h5; cases h5)
        obtain ⟨h', e6, w1, f1⟩ := d_159 (sv := sv) (d := d) hp (by omega) (by omega)
        unfold ynum2
        cases h6 : yisd (ycat cs (pos + 1)) with
        | true =>
          rw [h6, if_pos rfl, if_pos rfl] at w1
          have h7 : pos + 1 < cs.length := ycat_lt (fun h3 => by rw [h3, y32.2.2.2.2.2.2] at h6; cases h6)
          rw [if_pos rfl]
          refine ⟨h', [(nI 99, nI 10 * (ycat cs pos - nI 48) + (ycat cs (pos + 1) - nI 48), -1, -1)], nI ns.length, ?_, w1, by show 1 + pos ≤ pos + 2; omega, ywf_snoc hw ych_n ych_n (by omega), h7, f1, nI_nm1 (by omega), ych_snoc, by rw [ygt_new (by omega), ygt_n]; rfl⟩
          simp only [zs_157_0, zs_157_0n, zs_157_1, zs_157_4, zs_157_4n, zs_157_5, zs_157_8, zs_157_11, zs_157_12, zs_157_13, zs_157_15, zs_157_18, zs_157_19, zs_157_21, zs_157_24, zs_157_24n, zs_157_25, zs_157_26, zs_157_29, zs_157_30, zs_157_31, zs_157_33, zs_157_36, zs_157_37, zs_157_39, zs_157_42, zs_157_42n, zs_157_43, zs_157_44, zs_157_47, zs_157_48, zs_157_49, zs_157_52, zs_157_52n, zs_157_53, zs_157_56, zs_157_58, zs_157_59, zs_157_60, zs_157_61, zs_157_64, zs_157_65, zs_157_65n, zs_157_66, zs_157_69, zs_157_72, zs_157_72n, zs_157_73, zs_157_76, zs_157_79, zs_157_80, zPar_rc hp, e5, yb_t, nI_1e0, e6, zbk_v, zts_s, ↓reduceIte]
        | false =>
          rw [h6, if_neg (by decide), if_neg (by decide)] at w1
          rw [if_neg (by decide)]
          refine ⟨h', [(nI 99, ycat cs pos - nI 48, -1, -1)], nI ns.length, ?_, w1, by show 1 + pos ≤ pos + 1; omega, ywf_snoc hw ych_n ych_n (by omega), h3, f1, nI_nm1 (by omega), ych_snoc, by rw [ygt_new (by omega), ygt_n]; rfl⟩
          simp only [zs_157_0, zs_157_0n, zs_157_1, zs_157_4, zs_157_4n, zs_157_5, zs_157_8, zs_157_11, zs_157_12, zs_157_13, zs_157_15, zs_157_18, zs_157_19, zs_157_21, zs_157_24, zs_157_24n, zs_157_25, zs_157_26, zs_157_29, zs_157_30, zs_157_31, zs_157_33, zs_157_36, zs_157_37, zs_157_39, zs_157_42, zs_157_42n, zs_157_43, zs_157_44, zs_157_47, zs_157_48, zs_157_49, zs_157_52, zs_157_52n, zs_157_53, zs_157_56, zs_157_58, zs_157_59, zs_157_60, zs_157_61, zs_157_64, zs_157_65, zs_157_65n, zs_157_66, zs_157_69, zs_157_72, zs_157_72n, zs_157_73, zs_157_76, zs_157_79, zs_157_80, zPar_rc hp, e5, yb_t, nI_1e0, e6, zbk_v, zts_s, ↓reduceIte]
      | false =>
        rw [h5] at e5
        rw [if_neg (by decide)]
        refine ⟨h, [], -1, ?_, by rw [List.append_nil]; exact hp, by show 0 + pos ≤ pos; omega, by rw [List.append_nil]; exact hw, hl, zfr_rfl, rfl⟩
        simp only [zs_157_0, zs_157_0n, zs_157_1, zs_157_4, zs_157_4n, zs_157_5, zs_157_8, zs_157_11, zs_157_12, zs_157_13, zs_157_15, zs_157_18, zs_157_19, zs_157_21, zs_157_24, zs_157_24n, zs_157_25, zs_157_26, zs_157_29, zs_157_30, zs_157_31, zs_157_33, zs_157_36, zs_157_37, zs_157_39, zs_157_42, zs_157_42n, zs_157_43, zs_157_44, zs_157_47, zs_157_48, zs_157_49, zs_157_52, zs_157_52n, zs_157_53, zs_157_56, zs_157_58, zs_157_59, zs_157_60, zs_157_61, zs_157_64, zs_157_65, zs_157_65n, zs_157_66, zs_157_69, zs_157_72, zs_157_72n, zs_157_73, zs_157_76, zs_157_79, zs_157_80, zPar_rc hp, e5, yb_f, zbk_v, zts_s, ↓reduceIte]
theorem d_156 {f : Nat} (hA : yPA sv p cs f 0 4 153 6) : yPA sv p cs (f + 1) 4 0 156 4 := by
  intro op pos h ns D hmu hD hop hp hw hn hl
  have hmu2 : 400 * (7 - op) + 5 * (61 - pos) + 0 < f + 1 := hmu
  have h60 := hp.2.1.2.2.1
  obtain ⟨d, rfl⟩ : ∃ d, D = d + 5 := ⟨D - 5, by omega⟩
  obtain ⟨h1, e1, w1, f1⟩ := d_156a (sv := sv) (d := d + 3) (op := nI op) (s3 := .unset) (s4 := .unset) 6 0 pos h rfl hp hl
  have hn6 := yng_le (cs := cs) 6 pos
  have hnl := yng_len (cs := cs) 6 pos hl
  rw [ypa_4]
  obtain ⟨h2, e, x, e2, w2, w3, w4, w5, f2, w6⟩ := d_157 (sv := sv) (D := d + 4) (pos := pos + yng cs pos 6) hA (by omega) (by omega) hop w1 hw (by omega) hnl
  rw [nI_0, Nat.zero_add] at e1
  have e0 : zcall zP sv (d + 5) 156 [.ref p, .int (nI op)] h = zrun zP sv (zcall zP sv (d + 4)) 156 49 [.val (.ref p), .val (.int (nI op)), .val (.int (nI (yng cs pos 6))), .val (.int x), .val (.int 0)] [] h2 := by
    rw [zc_156, zs_156_0, zs_156_1 znw_u, e1]
    simp (disch := exact znw_u) only [zs_156_0, zs_156_1, zs_156_2, zs_156_3, zs_156_5, zs_156_8, zs_156_8n, zs_156_9, zs_156_12, zs_156_12n, zs_156_13, zs_156_16, zs_156_19, zs_156_21, zs_156_24, zs_156_27, zs_156_27n, zs_156_28, zs_156_29, zs_156_32, zs_156_33, zs_156_34, zs_156_37, zs_156_40, zs_156_40n, zs_156_41, zs_156_42, zs_156_45, zs_156_46, zs_156_47, zs_156_51, zs_156_52, zs_156_55, zs_156_56, zs_156_57, zs_156_60, zs_156_60n, zs_156_61, zs_156_64, zs_156_65, zs_156_68, zs_156_69, zs_156_72, zs_156_75, zs_156_76, zPar_rc w1, e2, zbk_v, zts_s]
  rw [e0]
  have hlen : (ns ++ e).length = ns.length + e.length := List.length_append
  cases hr : (ypu cs f op (pos + yng cs pos 6)).1 with
  | none =>
    rw [hr] at w6
    have hx : x = -1 := w6
    subst hx
    refine ⟨h2, e, -1, ?_, w2, by show e.length + pos ≤ (ypu cs f op (pos + yng cs pos 6)).2; omega, w4, w5, zfr_tr f1 f2, rfl⟩
    cases hz : yng cs pos 6 with
    | zero => simp only [zs_156_0, zs_156_1, zs_156_2, zs_156_3, zs_156_5, zs_156_8, zs_156_8n, zs_156_9, zs_156_12, zs_156_12n, zs_156_13, zs_156_16, zs_156_19, zs_156_21, zs_156_24, zs_156_27, zs_156_27n, zs_156_28, zs_156_29, zs_156_32, zs_156_33, zs_156_34, zs_156_37, zs_156_40, zs_156_40n, zs_156_41, zs_156_42, zs_156_45, zs_156_46, zs_156_47, zs_156_49, zs_156_51, zs_156_52, zs_156_55, zs_156_56, zs_156_57, zs_156_60, zs_156_60n, zs_156_61, zs_156_64, zs_156_65, zs_156_68, zs_156_69, zs_156_72, zs_156_75, zs_156_76, nI_0, Int32.lt_irrefl, ↓reduceIte]
    | succ k =>
      have g : (0 : Int32) < nI (k + 1) := by rw [← nI_0]; exact nI_lt (by omega) (by omega)
      simp only [zs_156_0, zs_156_1, zs_156_2, zs_156_3, zs_156_5, zs_156_8, zs_156_8n, zs_156_9, zs_156_12, zs_156_12n, zs_156_13, zs_156_16, zs_156_19, zs_156_21, zs_156_24, zs_156_27, zs_156_27n, zs_156_28, zs_156_29, zs_156_32, zs_156_33, zs_156_34, zs_156_37, zs_156_40, zs_156_40n, zs_156_41, zs_156_42, zs_156_45, zs_156_46, zs_156_47, zs_156_49, zs_156_51, zs_156_52, zs_156_55, zs_156_56, zs_156_57, zs_156_60, zs_156_60n, zs_156_61, zs_156_64, zs_156_65, zs_156_68, zs_156_69, zs_156_72, zs_156_75, zs_156_76, if_pos g, nI_m1e, ↓reduceIte]
  | some t =>
    rw [hr] at w6
    obtain ⟨h3, e', x', e3, p3, l3, z3, f3, t3⟩ := d_156b (sv := sv) (d := d + 1) (op := nI op) (n := yng cs pos 6) hn6 (yng cs pos 6) 0 h2 e x t (Nat.zero_add _) w2 w4 (by omega) w6
    rw [nI_0] at e3
    exact ⟨h3, e', x', e3, p3, by show e'.length + pos ≤ (ypu cs f op (pos + yng cs pos 6)).2; omega, z3, w5, zfr_tr (zfr_tr f1 f2) f3, t3⟩
theorem d_par : ∀ f, yPA sv p cs f 0 4 153 6 ∧ yPL sv p cs f 1 3 153 5 ∧ yPA sv p cs f 2 2 154 5 ∧ yPL sv p cs f 3 1 154 4 ∧ yPA sv p cs f 4 0 156 4
  | 0 => ⟨fun _ _ _ _ _ h => absurd h (Nat.not_lt_zero _), fun _ _ _ _ _ _ _ _ _ _ h => absurd h (Nat.not_lt_zero _), fun _ _ _ _ _ h => absurd h (Nat.not_lt_zero _), fun _ _ _ _ _ _ _ _ _ _ h => absurd h (Nat.not_lt_zero _), fun _ _ _ _ _ h => absurd h (Nat.not_lt_zero _)⟩
  | f + 1 => by
    obtain ⟨i1, i2, i3, i4, i5⟩ := d_par f
    exact ⟨d_153 i3 i2, d_153l i3 i2, d_154 i5 i4, d_154l i5 i4, d_156 i1⟩
end ZDV
