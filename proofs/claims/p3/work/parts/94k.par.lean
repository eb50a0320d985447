section ZPG
variable {sv : Nat → Value} {m : Nat} {F : Nat → Int32} {cs : List Int32}
theorem e_228l {f : Nat} (hA : yMP sv m F cs 229 5 f 2 2) (hL : yML sv m F cs 228 5 f 1 3) : yML sv m F cs 228 5 (f + 1) 1 3 := by
  intro op pos h a qs qs1 D hmu hD hop hp hq hk ha
  have hmu2 : 400 * (7 - op) + 5 * (61 - pos) + 3 < f + 1 := hmu
  have hln := zPs_ln hp
  cases a with
  | none =>
    rw [ypa_1n]
    refine ⟨h, qs1, ?_, hp, zfm_rfl, hq, hk, fun t ht => by cases ht⟩
    simp only [Option.isSome_none, yb_f, zs_228_0, zs_228_0n, zs_228_1, zs_228_4, zs_228_5, zs_228_5n, zs_228_6, zs_228_9, zs_228_10, zs_228_11, zs_228_14, zs_228_14n, zs_228_15, zs_228_17, zs_228_19, zs_228_22, zs_228_25, zs_228_25n, zs_228_26, zs_228_28, zs_228_30, zs_228_33, zs_228_36, zs_228_36n, zs_228_37, zs_228_37n, zs_228_38, zs_228_41, zs_228_41n, zs_228_42, zs_228_43, zs_228_46, zs_228_47, zs_228_48, zs_228_49, zs_228_52, zs_228_53, zs_228_54, zs_228_57, zs_228_57n, zs_228_58, zs_228_61, zs_228_65, zs_228_66, ↓reduceIte, zgd_t, zty_50]
  | some t =>
    obtain rfl := ha t rfl
    obtain ⟨d, rfl⟩ : ∃ d, D = d + 2 := ⟨D - 2, by omega⟩
    have hr : ∀ X : zR, zrc (h.1 m) 13 X = X := fun X => zPs_rc hp
    have E1 := e_226 (sv := sv) (d := d) (lo := nI 43) (hi := nI 43) hp n3243
    have E2 := e_226 (sv := sv) (d := d) (lo := nI 45) (hi := nI 45) hp n3245
    rw [y_btw] at E1 E2
    rw [ypa_1s]
    by_cases hc : ycat cs pos = nI 43 ∨ ycat cs pos = nI 45
    · rw [if_pos hc]
      have hkn : ynr (ycat cs pos) = ycat cs pos := hc.elim (fun q => by rw [q]; exact ynr_43) (fun q => by rw [q]; exact ynr_45)
      have hk118 : ycat cs pos ≠ nI 118 := hc.elim (fun q => by rw [q]; exact n43118) (fun q => by rw [q]; exact n45118)
      have hl : pos < cs.length := by
        by_cases hl : pos < cs.length
        · exact hl
        · exfalso
          rw [ycat_end (by omega)] at hc
          exact absurd hc (by decide +kernel)
      obtain ⟨B, b1, b2⟩ := zPs_txt hp hl
      obtain ⟨G, g, g1, g2, g3, g4, p1⟩ := zPs_at (pos' := pos + 1) hp (by omega)
      obtain ⟨h1, hh1⟩ : ∃ h1, h1 = zup h m (13, zMF m (yup G 27 (nI (pos + 1)))) := ⟨_, rfl⟩
      rw [← hh1] at p1
      have f1 : zfm m h h1 := by
        rw [hh1]
        exact ⟨fun q q1 q2 q3 => zup_ne q1, rfl⟩
      have hr1 : ∀ X : zR, zrc (h1.1 m) 13 X = X := fun X => zPs_rc p1
      obtain ⟨h2, e2, p2, f2⟩ := e_227 (sv := sv) (d := d + 1) (k := ycat cs pos) p1 hk hkn (by omega)
      have E3 : zcall zP sv (d + 2) 227 [.ref m, .int (ycat cs pos), .int (nI qs.length)] h1 = _ := e2
      have hr2 : ∀ X : zR, zrc (h2.1 m) 13 X = X := fun X => zPs_rc p2
      have hl2 : (qs ++ (ycat cs pos, (0 : Int32)) :: ypr t).length = (qs ++ ypr t).length + 1 := by rw [List.length_append, List.length_append, List.length_cons]; omega
      have hk2 : ynk (qs ++ (ycat cs pos, (0 : Int32)) :: ypr t) := ynk_app (fun q hq => hk q (List.mem_append_left _ hq)) (ynk_cons hkn (fun q hq => hk q (List.mem_append_right _ hq)))
      obtain ⟨h3, qs3, e3, p3, f3, l3, n3, r3⟩ := hA op (pos + 1) h2 _ (d + 2) (by
        show 400 * (7 - op) + 5 * (61 - (pos + 1)) + 2 < f
        omega) (by omega) hop p2 (by omega) hk2
      have hmono := (ypa_sz (cs := cs) f 2 none op (pos + 1)).1
      have q := hL op (ypa cs f 2 none op (pos + 1)).2 h3 ((ypa cs f 2 none op (pos + 1)).1.map (fun u => ymk (ycat cs pos) 0 t u)) qs qs3 (d + 2) (by
        show 400 * (7 - op) + 5 * (61 - (ypa cs f 2 none op (pos + 1)).2) + 3 < f
        omega) hD hop p3 l3 n3 (fun t' ht' => by
          obtain ⟨u, hu, rfl⟩ := Option.map_eq_some_iff.mp ht'
          rw [r3 u hu, ypr_mk, yva_0 hk118, List.append_assoc]
          rfl)
      rw [Option.isSome_map] at q
      have S0 : zrun zP sv (zcall zP sv (d + 2)) 228 10 [.val (.ref m), .val (.int (nI qs.length)), .val (.int (yb (some t).isSome))] [] h = zrun zP sv (zcall zP sv (d + 2)) 228 36 [.val (.ref m), .val (.int (nI qs.length)), .val (.int (nI 1))] [] h := by
        by_cases c1 : ycat cs pos = nI 43
        · rw [decide_eq_true c1, yb_t] at E1
          simp only [Option.isSome_some, yb_t, zs_228_10, zs_228_11, zs_228_14, zs_228_15, zs_228_17, zs_228_19, zs_228_22, nI_1e0, hr, E1, zbk_v, zts_s, ↓reduceIte]
        · have c2 : ycat cs pos = nI 45 := hc.resolve_left c1
          rw [decide_eq_false c1, yb_f] at E1
          rw [decide_eq_true c2, yb_t] at E2
          simp only [Option.isSome_some, yb_t, zs_228_10, zs_228_11, zs_228_14, zs_228_15, zs_228_17, zs_228_19, zs_228_22, zs_228_25, zs_228_26, zs_228_28, zs_228_30, zs_228_33, nI_1e0, hr, E1, E2, zbk_v, zts_s, ↓reduceIte]
      have S : zrun zP sv (zcall zP sv (d + 2)) 228 36 [.val (.ref m), .val (.int (nI qs.length)), .val (.int (nI 1))] [] h = zrun zP sv (zcall zP sv (d + 2)) 228 10 [.val (.ref m), .val (.int (nI qs.length)), .val (.int (yb (ypa cs f 2 none op (pos + 1)).1.isSome))] [] h3 := by
        have eb : zrun zP sv (zcall zP sv (d + 2)) 228 62 [.val (.ref m), .val (.int (nI qs.length)), .val (.int (yb (ypa cs f 2 none op (pos + 1)).1.isSome))] [] h3 = zrun zP sv (zcall zP sv (d + 2)) 228 10 [.val (.ref m), .val (.int (nI qs.length)), .val (.int (yb (ypa cs f 2 none op (pos + 1)).1.isSome))] [] h3 := zs_228_62
        rw [← eb]
        rw [hh1] at E3 hr1
        simp (disch := first | exact znw_i | omega) only [zs_228_36, zs_228_37, zs_228_38, zs_228_41, zs_228_42, zs_228_43, zs_228_46, zs_228_47, zs_228_48, zs_228_49, zs_228_52, zs_228_53, zs_228_54, zs_228_57, zs_228_58, zs_228_61, g, zmf_25, zmf_27, g1, nI_1', zmp_27, zup_ne, b1, b2, zrc_13v, hr, hr1, E3, hr2, e3, zbk_v, zts_s, zts_n]
      rw [S0, S]
      exact zMR_tr (qs1 := qs) q (zfm_tr f1 (zfm_tr f2 f3))
    · rw [if_neg hc]
      have c1 : ¬ ycat cs pos = nI 43 := fun q => hc (Or.inl q)
      have c2 : ¬ ycat cs pos = nI 45 := fun q => hc (Or.inr q)
      rw [decide_eq_false c1, yb_f] at E1
      rw [decide_eq_false c2, yb_f] at E2
      refine ⟨h, _, ?_, hp, zfm_rfl, hq, hk, fun t' ht' => by cases ht'; rfl⟩
      simp only [Option.isSome_some, yb_t, zs_228_0, zs_228_0n, zs_228_1, zs_228_4, zs_228_5, zs_228_5n, zs_228_6, zs_228_9, zs_228_10, zs_228_11, zs_228_14, zs_228_14n, zs_228_15, zs_228_17, zs_228_19, zs_228_22, zs_228_25, zs_228_25n, zs_228_26, zs_228_28, zs_228_30, zs_228_33, zs_228_36, zs_228_36n, zs_228_37, zs_228_37n, zs_228_38, zs_228_41, zs_228_41n, zs_228_42, zs_228_43, zs_228_46, zs_228_47, zs_228_48, zs_228_49, zs_228_52, zs_228_53, zs_228_54, zs_228_57, zs_228_57n, zs_228_58, zs_228_61, zs_228_65, zs_228_66, nI_1e0, hr, E1, E2, zbk_v, zts_s, ↓reduceIte, zgd_t, zty_51]
theorem e_228 {f : Nat} (hA : yMP sv m F cs 229 5 f 2 2) (hL : yML sv m F cs 228 5 f 1 3) : yMP sv m F cs 228 6 (f + 1) 0 4 := by
  intro op pos h qs D hmu hD hop hp hq hk
  have hmu2 : 400 * (7 - op) + 5 * (61 - pos) + 4 < f + 1 := hmu
  obtain ⟨d, rfl⟩ : ∃ d, D = d + 1 := ⟨D - 1, by omega⟩
  rw [ypa_0]
  obtain ⟨h1, qs1, e1, p1, f1, l1, n1, r1⟩ := hA op pos h qs d (by
    show 400 * (7 - op) + 5 * (61 - pos) + 2 < f
    omega) (by omega) hop hp hq hk
  have hmono := (ypa_sz (cs := cs) f 2 none op pos).1
  have q := hL op (ypa cs f 2 none op pos).2 h1 (ypa cs f 2 none op pos).1 qs qs1 d (by
    show 400 * (7 - op) + 5 * (61 - (ypa cs f 2 none op pos).2) + 3 < f
    omega) (by omega) hop p1 l1 n1 r1
  obtain ⟨⟨G, g, g1, g2, g3, g4, g5⟩, _⟩ := id hp
  have e0 : zcall zP sv (d + 1) 228 [.ref m] h = zrun zP sv (zcall zP sv d) 228 10 [.val (.ref m), .val (.int (nI qs.length)), .val (.int (yb (ypa cs f 2 none op pos).1.isSome))] [] h1 := by
    simp (disch := exact znw_u) only [zc_228, zs_228_0, zs_228_1, zs_228_4, zs_228_5, zs_228_6, zs_228_9, g, zmf_11, g3, zrc_13v, e1, zbk_v, zts_s]
  rw [e0]
  exact zMR_tr (qs1 := qs) q f1
theorem e_par : ∀ f : Nat, yMP sv m F cs 228 6 f 0 4 ∧ yML sv m F cs 228 5 f 1 3 ∧ yMP sv m F cs 229 5 f 2 2 ∧ yML sv m F cs 229 4 f 3 1 ∧ yMP sv m F cs 230 4 f 4 0 := by
  intro f
  induction f with
  | zero => exact ⟨fun op pos h qs D hmu => absurd hmu (Nat.not_lt_zero _), fun op pos h a qs qs1 D hmu => absurd hmu (Nat.not_lt_zero _), fun op pos h qs D hmu => absurd hmu (Nat.not_lt_zero _), fun op pos h a qs qs1 D hmu => absurd hmu (Nat.not_lt_zero _), fun op pos h qs D hmu => absurd hmu (Nat.not_lt_zero _)⟩
  | succ f ih =>
    obtain ⟨i0, i1, i2, i3, i4⟩ := ih
    exact ⟨e_228 i2 i1, e_228l i2 i1, e_229 i4 i3, e_229l i4 i3, e_230 i0⟩
end ZPG
