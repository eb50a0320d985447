section ZQW
variable {sv : Nat → Value} {d : Nat} {m : Nat} {h : zH} {w : yW} {th : Int32} {i : Nat} {t : yT} {M : Nat}
/-- another output -/
def yso (w : yW) (o : List Int32) : yW := (w.1, w.2.1, w.2.2.1, w.2.2.2.1, w.2.2.2.2.1, w.2.2.2.2.2.1, o)
/-- how many signs an instruction is written with -/
def ywil (x : yI) : Nat := if x.1 = nI 99 then 3 + yilen x.2.2.1 else if x.1 = nI 118 then 4 else if x.1 = nI 115 then 5 else if x.1 = nI 110 then 6 else 8
theorem ypl_lt : ∀ x, x ≤ 12 → ∃ k, k < 20 ∧ ypl (nI x) = nI k := by
  intro x hx
  have h1 : ∀ x, x ≤ 12 → ypl (nI x) = nI (if 3 < x then x + 6 else x) := by decide +kernel
  exact ⟨_, by split <;> omega, h1 x hx⟩
theorem ylet_w {v : Int32} (hv : ylet v = true) : nI 97 + (v - nI 97) = v ∧ (v.toUInt32 % 65536).toInt32 = v ∧ ynr v = v ∧ ychr v := by
  obtain ⟨k, hk, rfl⟩ := ylet_of hv
  have h1 : ∀ k, k < 6 → nI 97 + (nI (97 + k) - nI 97) = nI (97 + k) ∧ ((nI (97 + k)).toUInt32 % 65536).toInt32 = nI (97 + k) ∧ ynr (nI (97 + k)) = nI (97 + k) ∧ zty 7 (.int (nI (97 + k))) = true := by decide +kernel
  exact h1 k hk
theorem yis_w {k : Int32} (hk : yis k = true) : ychr k := by
  have h1 : zty 7 (.int (nI 43)) = true ∧ zty 7 (.int (nI 45)) = true ∧ zty 7 (.int (nI 42)) = true := by decide +kernel
  rcases yis_k hk with g | g | g <;> rw [g]
  · exact h1.1
  · exact h1.2.1
  · exact h1.2.2
/-- what a writing call does: another output, and its length -/
def zMw (m : Nat) (h : zH) (r : zR) (n : Nat) (w : yW) : Prop := ∃ (h' : zH) (o : List Int32), r = some (.inl (some (.int (nI n))), h') ∧ zMdl h' m (yso w o) 0 ∧ zmw m h h' ∧ o.length = n ∧ (∀ x, x ∈ o → ychr x)
theorem zMw_of {F G : Nat → Int32} {h h1 h2 : zH} {o : List Int32} {n : Nat} {r : zR} (hr : r = some (.inl (some (.int (nI n))), h2)) (hf : F 31 = 0) (hw : zWk h m F (ycur w)) (hT : ∃ T, zTab h (m + 2) T) (hR : zRst h m F w) (hA : yAok (ycur w)) (hk : zmw m h1 h) (hz : zWr h2 m G o) (hG : ∀ j, j ≠ 24 → G j = F j) (ho : zow m h h2) (hn : o.length = n) : zMw m h1 r n w := by
  obtain ⟨T, hT⟩ := hT
  obtain ⟨z0, z24, zt, zx⟩ := hz
  obtain ⟨⟨r3, r5, _, r26, r29, r8⟩, rk, ⟨S, rS, rS'⟩, _, r17⟩ := hR
  refine ⟨h2, o, hr, ⟨G, by rw [hG _ (by omega), hf], zWk_cg hw z0 (fun q hq => ho.1 q (by omega) (by omega)), ⟨T, zTab_cg hT (ho.1 _ (by omega) (by omega))⟩, ⟨⟨by rw [hG _ (by omega), r3]; rfl, by rw [hG _ (by omega), r5]; rfl, z24, by rw [hG _ (by omega), r26]; rfl, by rw [hG _ (by omega), r29]; rfl, r8⟩, ?_, ⟨S, zTab_cg rS (ho.1 _ (by omega) (by omega)), rS'⟩, zt, zTx_cg r17 (ho.1 _ (by omega) (by omega))⟩, hA⟩, zmw_tr hk ⟨fun q hq => ho.1 q (by omega) (by omega), ho.2⟩, hn, zx⟩
  obtain ⟨K, k1, k2, k3⟩ := rk
  exact ⟨K, by rw [ho.1 _ (by omega) (by omega), k1], k2, k3⟩
theorem e_284x {x y : Int32} (hM : zMdl h m w th) (hR : (ycur w).2.2.1 = nI M) (hx : yinF (ycur w) x = false) : zMC m h (zcall zP sv (d + 9) 284 [.ref m, .int x, .int y] h) 0 w (nI 1) := by
  obtain ⟨h1, e1, m1, k1⟩ := e_277x (sv := sv) (d := d) (y := y) hM hR hx
  have r0 : ∀ X : zR, zrc (h.1 m) 13 X = X := fun X => zMdl_rc hM
  refine ⟨h1, ?_, m1, k1⟩
  simp only [zc_284, zs_284_0, zs_284_1, zs_284_2, zs_284_3, zs_284_6, zs_284_9, zs_284_10, r0, e1, zbk_v, zts_s, ↓reduceIte, List.cons_append, List.nil_append]
theorem e_284o {y : Int32} (hM : zMdl h m w th) (hi : (ycur w).1[i]? = some t) (hR : (ycur w).2.2.1 = nI M) (h1M : 1 ≤ M) (hM4 : M ≤ 4) (hy : yinC (yco M t 0 0) y = false) : zMC m h (zcall zP sv (d + 13) 284 [.ref m, .int (nI i), .int y] h) 0 w (nI 1) := by
  obtain ⟨h1, e1, m1, k1⟩ := e_277o (sv := sv) (d := d) (y := y) hM hi hR h1M hM4 hy
  have r0 : ∀ X : zR, zrc (h.1 m) 13 X = X := fun X => zMdl_rc hM
  refine ⟨h1, ?_, m1, k1⟩
  simp only [zc_284, zs_284_0, zs_284_1, zs_284_2, zs_284_3, zs_284_6, zs_284_9, zs_284_10, r0, e1, zbk_v, zts_s, ↓reduceIte, List.cons_append, List.nil_append]
theorem e_284 {n : Nat} {x : yI} (hM : zMdl h m w th) (hi : (ycur w).1[i]? = some t) (hR : (ycur w).2.2.1 = nI M) (h1M : 1 ≤ M) (hM4 : M ≤ 4) (hy : yinC (yco M t 0 0) (nI n) = true) (hx : (yco M t 0 0)[n]? = some x) : zMw m h (zcall zP sv (d + 14) 284 [.ref m, .int (nI i), .int (nI n)] h) (ywil x) w := by
  obtain ⟨h1, e1, m1, k1⟩ := e_277 (sv := sv) (d := d + 1) hM hi hR h1M hM4 hy
  have r0 : ∀ X : zR, zrc (h.1 m) 13 X = X := fun X => zMdl_rc hM
  obtain ⟨F1, f31, ⟨s0, _, _, _, _, sC⟩, a3, a4, a5, a6, tk⟩ := m1
  have ok := yco_ok hM4 (ysz t) t (Nat.le_refl _) (by have := tk.2.1; omega) tk.1 0 0 (by omega) (by have := tk.2.2; omega) x (List.mem_of_getElem? hx)
  obtain ⟨g12, g13, g14, g15⟩ := zCdM_at sC hx
  obtain ⟨X12, x12⟩ : ∃ X, h1.1 (m + 12) = X := ⟨_, rfl⟩
  obtain ⟨X13, x13⟩ : ∃ X, h1.1 (m + 13) = X := ⟨_, rfl⟩
  obtain ⟨X14, x14⟩ : ∃ X, h1.1 (m + 14) = X := ⟨_, rfl⟩
  obtain ⟨X15, x15⟩ : ∃ X, h1.1 (m + 15) = X := ⟨_, rfl⟩
  rw [x12] at g12
  rw [x13] at g13
  rw [x14] at g14
  rw [x15] at g15
  obtain ⟨h2, hh2⟩ : ∃ h2, h2 = zup h1 m (13, zMF m (yup F1 24 0)) := ⟨_, rfl⟩
  obtain ⟨_, _, _, ⟨B, b1, b2, b3, b4⟩, _⟩ := id a5
  have w2 : zWr h2 m (yup F1 24 0) [] := ⟨by rw [hh2, zup_at], yup_eq, ⟨B, by rw [hh2, zup_ne (by omega), b1], b2, rfl, Nat.zero_le _⟩, fun x hx => by cases hx⟩
  have f2 : ∀ a, a ≠ m → a ≠ m + 16 → h2.1 a = h1.1 a := fun a a1 _ => by rw [hh2, zup_ne a1]
  have k2 : zow m h1 h2 := ⟨f2, by rw [hh2]; rfl⟩
  have v2 : ∀ j, j ≠ 24 → yup F1 24 0 j = F1 j := fun j hj => yup_ne hj
  have y12 : h2.1 (m + 12) = X12 := by rw [f2 _ (by omega) (by omega), x12]
  have y13 : h2.1 (m + 13) = X13 := by rw [f2 _ (by omega) (by omega), x13]
  have y14 : h2.1 (m + 14) = X14 := by rw [f2 _ (by omega) (by omega), x14]
  have y15 : h2.1 (m + 15) = X15 := by rw [f2 _ (by omega) (by omega), x15]
  have t0 := w2.1
  have n10 : ¬ nI 1 = 0 := by decide +kernel
  have e61 : ynr (nI 61) = nI 61 := by decide +kernel
  have c61 : ychr (nI 61) := by show zty 7 (.int (nI 61)) = true; decide +kernel
  have e45 : ynr (nI 45) = nI 45 := by decide +kernel
  have c45 : ychr (nI 45) := by show zty 7 (.int (nI 45)) = true; decide +kernel
  have p1 : ¬ nI 99 = nI 115 := by decide +kernel
  have p2 : ¬ nI 118 = nI 115 := by decide +kernel
  have p3 : ¬ nI 118 = nI 99 := by decide +kernel
  have p4 : ¬ nI 115 = nI 99 := by decide +kernel
  have p5 : ¬ nI 115 = nI 118 := by decide +kernel
  have p6 : ¬ nI 110 = nI 99 := by decide +kernel
  have p7 : ¬ nI 110 = nI 118 := by decide +kernel
  have p8 : ¬ nI 110 = nI 115 := by decide +kernel
  obtain ⟨⟨b, hb, eb⟩, hcase⟩ := ok
  have head : [zrun zP sv (zcall zP sv (d + 13)) 284 23 [.val (.ref m), .val (.int (nI i)), .val (.int (nI n)), .val (.int x.1)] [] h2] = [zcall zP sv (d + 14) 284 [.ref m, .int (nI i), .int (nI n)] h] := by
    simp (disch := first | exact znw_u | exact znw_i) only [zc_284, zs_284_0, zs_284_1, zs_284_2, zs_284_3, zs_284_6, zs_284_11, zs_284_12, zs_284_13, zs_284_16, zs_284_17, zs_284_20, zs_284_21, zs_284_22, r0, e1, zbk_v, zts_s, if_neg n10, s0, zmp_24, ← hh2, t0, zmf_15, y12, g12, List.cons_append, List.nil_append]
  have head := (List.cons.inj head).1
  rw [← head]
  rcases hcase with g | g | g | g | g
  · obtain ⟨k, b', nn, ll, rr⟩ := x
    have g : k = nI 99 := g
    subst g
    have eb : b' = nI b := eb
    subst eb
    have e0 : ylf (nI 99, nI b, nn, ll, rr) = nn := by unfold ylf; rw [if_pos rfl]
    rw [e0] at g14
    have hl := yilen_le nn
    obtain ⟨h3, G3, q3, e3, w3, l3, l3', v3, k3⟩ := e_283 (sv := sv) (d := d + 10) (show b < 20 by omega) w2 (by show 0 + 2 ≤ 700; omega)
    have t3 := w3.1
    have y13_3 : h3.1 (m + 13) = X13 := by rw [k3.1 _ (by omega) (by omega), y13]
    have y14_3 : h3.1 (m + 14) = X14 := by rw [k3.1 _ (by omega) (by omega), y14]
    have y15_3 : h3.1 (m + 15) = X15 := by rw [k3.1 _ (by omega) (by omega), y15]
    obtain ⟨h4, G4, q4, e4, w4, l4, l4', v4, k4⟩ := e_280 (sv := sv) (d := d + 12) (c := nI 61) w3 (by simp only [List.length_append, List.length_nil]; omega) e61 c61
    have t4 := w4.1
    have y13_4 : h4.1 (m + 13) = X13 := by rw [k4.1 _ (by omega) (by omega), y13_3]
    have y14_4 : h4.1 (m + 14) = X14 := by rw [k4.1 _ (by omega) (by omega), y14_3]
    have y15_4 : h4.1 (m + 15) = X15 := by rw [k4.1 _ (by omega) (by omega), y15_3]
    obtain ⟨h5, G5, q5, e5, w5, l5, l5', v5, k5⟩ := e_282 (sv := sv) (d := d + 1) (x := nn) w4 (by simp only [List.length_append, List.length_nil]; omega)
    have t5 := w5.1
    have y13_5 : h5.1 (m + 13) = X13 := by rw [k5.1 _ (by omega) (by omega), y13_4]
    have y14_5 : h5.1 (m + 14) = X14 := by rw [k5.1 _ (by omega) (by omega), y14_4]
    have y15_5 : h5.1 (m + 15) = X15 := by rw [k5.1 _ (by omega) (by omega), y15_4]
    have m24 := w5.2.1
    have hlen : ([] ++ q3 ++ q4 ++ q5).length = ywil (nI 99, nI b, nn, ll, rr) := by
      simp only [List.length_append, List.length_nil]
      unfold ywil
      rw [if_pos rfl]
      show 0 + _ + _ + _ = 3 + yilen nn
      omega
    rw [hlen] at m24
    refine zMw_of ?_ f31 a3 a4 a5 a6 k1 w5 (fun j hj => (v5 j hj).trans ((v4 j hj).trans ((v3 j hj).trans (v2 j hj)))) (zow_tr (zow_tr (zow_tr k2 k3) k4) k5) hlen
    simp (disch := first | exact znw_u | exact znw_i) only [zs_284_23, zs_284_24, zs_284_25, zs_284_27, zs_284_42, zs_284_43, zs_284_46, zs_284_47, zs_284_48, zs_284_51, zs_284_52, zs_284_54, zs_284_57, zs_284_58, zs_284_60, zs_284_63, zs_284_64, zs_284_65, zs_284_68, zs_284_69, zs_284_70, zs_284_73, zs_284_167, zs_284_168, zs_284_171, t0, zmf_16, zmf_17, zmf_18, zmf_24, y13, y14, y15, g13, g14, g15, zrc_13v, zbk_v, zts_n, e3, e4, e5, t3, t4, t5, y13_3, y14_3, y15_3, y13_4, y14_4, y15_4, y13_5, y14_5, y15_5, m24, if_neg p1, ↓reduceIte, List.cons_append, List.nil_append]
  · obtain ⟨k, b', nn, ll, rr⟩ := x
    have gl : ylet nn = true := g.2
    have g : k = nI 118 := g.1
    subst g
    have eb : b' = nI b := eb
    subst eb
    have e0 : ylf (nI 118, nI b, nn, ll, rr) = nn - nI 97 := by unfold ylf; rw [if_neg p3, if_pos rfl]
    rw [e0] at g14
    obtain ⟨z1, z2, z3, z4⟩ := ylet_w gl
    obtain ⟨h3, G3, q3, e3, w3, l3, l3', v3, k3⟩ := e_283 (sv := sv) (d := d + 10) (show b < 20 by omega) w2 (by show 0 + 2 ≤ 700; omega)
    have t3 := w3.1
    have y13_3 : h3.1 (m + 13) = X13 := by rw [k3.1 _ (by omega) (by omega), y13]
    have y14_3 : h3.1 (m + 14) = X14 := by rw [k3.1 _ (by omega) (by omega), y14]
    have y15_3 : h3.1 (m + 15) = X15 := by rw [k3.1 _ (by omega) (by omega), y15]
    obtain ⟨h4, G4, q4, e4, w4, l4, l4', v4, k4⟩ := e_280 (sv := sv) (d := d + 12) (c := nI 61) w3 (by simp only [List.length_append, List.length_nil]; omega) e61 c61
    have t4 := w4.1
    have y13_4 : h4.1 (m + 13) = X13 := by rw [k4.1 _ (by omega) (by omega), y13_3]
    have y14_4 : h4.1 (m + 14) = X14 := by rw [k4.1 _ (by omega) (by omega), y14_3]
    have y15_4 : h4.1 (m + 15) = X15 := by rw [k4.1 _ (by omega) (by omega), y15_3]
    obtain ⟨h5, G5, q5, e5, w5, l5, l5', v5, k5⟩ := e_280 (sv := sv) (d := d + 12) (c := nn) w4 (by simp only [List.length_append, List.length_nil]; omega) z3 z4
    have t5 := w5.1
    have y13_5 : h5.1 (m + 13) = X13 := by rw [k5.1 _ (by omega) (by omega), y13_4]
    have y14_5 : h5.1 (m + 14) = X14 := by rw [k5.1 _ (by omega) (by omega), y14_4]
    have y15_5 : h5.1 (m + 15) = X15 := by rw [k5.1 _ (by omega) (by omega), y15_4]
    have m24 := w5.2.1
    have hlen : ([] ++ q3 ++ q4 ++ q5).length = ywil (nI 118, nI b, nn, ll, rr) := by
      simp only [List.length_append, List.length_nil]
      unfold ywil
      rw [if_neg p3, if_pos rfl]
      show 0 + _ + _ + _ = 4
      omega
    rw [hlen] at m24
    refine zMw_of ?_ f31 a3 a4 a5 a6 k1 w5 (fun j hj => (v5 j hj).trans ((v4 j hj).trans ((v3 j hj).trans (v2 j hj)))) (zow_tr (zow_tr (zow_tr k2 k3) k4) k5) hlen
    simp (disch := first | exact znw_u | exact znw_i) only [zs_284_23, zs_284_24, zs_284_25, zs_284_27, zs_284_42, zs_284_43, zs_284_46, zs_284_47, zs_284_48, zs_284_51, zs_284_52, zs_284_54, zs_284_57, zs_284_58, zs_284_60, zs_284_76, zs_284_77, zs_284_79, zs_284_82, zs_284_83, zs_284_85, zs_284_86, zs_284_89, zs_284_90, zs_284_91, zs_284_92, zs_284_93, zs_284_96, zs_284_167, zs_284_168, zs_284_171, t0, zmf_16, zmf_17, zmf_18, zmf_24, y13, y14, y15, g13, g14, g15, zrc_13v, zbk_v, zts_n, e3, e4, e5, t3, t4, t5, y13_3, y14_3, y15_3, y13_4, y14_4, y15_4, y13_5, y14_5, y15_5, m24, if_neg p2, if_neg p3, z1, z2, ↓reduceIte, List.cons_append, List.nil_append]
  · obtain ⟨k, b', nn, ll, rr⟩ := x
    have gl : ll = b' := g.2
    have g : k = nI 110 := g.1
    subst g
    have eb : b' = nI b := eb
    subst eb
    subst gl
    have e0 : ylf (nI 110, nI b, nn, nI b, rr) = nI b := by unfold ylf; rw [if_neg p6, if_neg p7, if_pos rfl]
    rw [e0] at g14
    obtain ⟨h3, G3, q3, e3, w3, l3, l3', v3, k3⟩ := e_283 (sv := sv) (d := d + 10) (show b < 20 by omega) w2 (by show 0 + 2 ≤ 700; omega)
    have t3 := w3.1
    have y13_3 : h3.1 (m + 13) = X13 := by rw [k3.1 _ (by omega) (by omega), y13]
    have y14_3 : h3.1 (m + 14) = X14 := by rw [k3.1 _ (by omega) (by omega), y14]
    have y15_3 : h3.1 (m + 15) = X15 := by rw [k3.1 _ (by omega) (by omega), y15]
    obtain ⟨h4, G4, q4, e4, w4, l4, l4', v4, k4⟩ := e_280 (sv := sv) (d := d + 12) (c := nI 61) w3 (by simp only [List.length_append, List.length_nil]; omega) e61 c61
    have t4 := w4.1
    have y13_4 : h4.1 (m + 13) = X13 := by rw [k4.1 _ (by omega) (by omega), y13_3]
    have y14_4 : h4.1 (m + 14) = X14 := by rw [k4.1 _ (by omega) (by omega), y14_3]
    have y15_4 : h4.1 (m + 15) = X15 := by rw [k4.1 _ (by omega) (by omega), y15_3]
    obtain ⟨h5, G5, q5, e5, w5, l5, l5', v5, k5⟩ := e_280 (sv := sv) (d := d + 12) (c := nI 45) w4 (by simp only [List.length_append, List.length_nil]; omega) e45 c45
    have t5 := w5.1
    have y13_5 : h5.1 (m + 13) = X13 := by rw [k5.1 _ (by omega) (by omega), y13_4]
    have y14_5 : h5.1 (m + 14) = X14 := by rw [k5.1 _ (by omega) (by omega), y14_4]
    have y15_5 : h5.1 (m + 15) = X15 := by rw [k5.1 _ (by omega) (by omega), y15_4]
    obtain ⟨h6, G6, q6, e6, w6, l6, l6', v6, k6⟩ := e_283 (sv := sv) (d := d + 10) (show b < 20 by omega) w5 (by simp only [List.length_append, List.length_nil]; omega)
    have t6 := w6.1
    have y13_6 : h6.1 (m + 13) = X13 := by rw [k6.1 _ (by omega) (by omega), y13_5]
    have y14_6 : h6.1 (m + 14) = X14 := by rw [k6.1 _ (by omega) (by omega), y14_5]
    have y15_6 : h6.1 (m + 15) = X15 := by rw [k6.1 _ (by omega) (by omega), y15_5]
    have m24 := w6.2.1
    have hlen : ([] ++ q3 ++ q4 ++ q5 ++ q6).length = ywil (nI 110, nI b, nn, nI b, rr) := by
      simp only [List.length_append, List.length_nil]
      unfold ywil
      rw [if_neg p6, if_neg p7, if_neg p8, if_pos rfl]
      show 0 + _ + _ + _ + _ = 6
      omega
    rw [hlen] at m24
    refine zMw_of ?_ f31 a3 a4 a5 a6 k1 w6 (fun j hj => (v6 j hj).trans ((v5 j hj).trans ((v4 j hj).trans ((v3 j hj).trans (v2 j hj))))) (zow_tr (zow_tr (zow_tr (zow_tr k2 k3) k4) k5) k6) hlen
    simp (disch := first | exact znw_u | exact znw_i) only [zs_284_23, zs_284_24, zs_284_25, zs_284_27, zs_284_42, zs_284_43, zs_284_46, zs_284_47, zs_284_48, zs_284_51, zs_284_52, zs_284_54, zs_284_57, zs_284_58, zs_284_60, zs_284_76, zs_284_77, zs_284_79, zs_284_99, zs_284_100, zs_284_102, zs_284_118, zs_284_119, zs_284_121, zs_284_124, zs_284_125, zs_284_127, zs_284_130, zs_284_131, zs_284_132, zs_284_135, zs_284_136, zs_284_137, zs_284_140, zs_284_141, zs_284_143, zs_284_151, zs_284_152, zs_284_154, zs_284_167, zs_284_168, zs_284_171, t0, zmf_16, zmf_17, zmf_18, zmf_24, y13, y14, y15, g13, g14, g15, zrc_13v, zbk_v, zts_n, e3, e4, e5, e6, t3, t4, t5, t6, y13_3, y14_3, y15_3, y13_4, y14_4, y15_4, y13_5, y14_5, y15_5, y13_6, y14_6, y15_6, m24, if_neg p6, if_neg p7, if_neg p8, ↓reduceIte, List.cons_append, List.nil_append]
  · obtain ⟨k, b', nn, ll, rr⟩ := x
    obtain ⟨j, hj, ej⟩ := g.2.1
    have g : k = nI 115 := g.1
    subst g
    have eb : b' = nI b := eb
    subst eb
    have ej : nn = nI j := ej
    subst ej
    have e0 : ylf (nI 115, nI b, nI j, ll, rr) = nI j := by unfold ylf; rw [if_neg p4, if_neg p5, if_neg (Ne.symm p8), if_pos rfl]
    rw [e0] at g14
    obtain ⟨h3, G3, q3, e3, w3, l3, l3', v3, k3⟩ := e_283 (sv := sv) (d := d + 10) (show 10 + j < 20 by omega) w2 (by show 0 + 2 ≤ 700; omega)
    have t3 := w3.1
    have y13_3 : h3.1 (m + 13) = X13 := by rw [k3.1 _ (by omega) (by omega), y13]
    have y14_3 : h3.1 (m + 14) = X14 := by rw [k3.1 _ (by omega) (by omega), y14]
    have y15_3 : h3.1 (m + 15) = X15 := by rw [k3.1 _ (by omega) (by omega), y15]
    obtain ⟨h4, G4, q4, e4, w4, l4, l4', v4, k4⟩ := e_280 (sv := sv) (d := d + 12) (c := nI 61) w3 (by simp only [List.length_append, List.length_nil]; omega) e61 c61
    have t4 := w4.1
    have y13_4 : h4.1 (m + 13) = X13 := by rw [k4.1 _ (by omega) (by omega), y13_3]
    have y14_4 : h4.1 (m + 14) = X14 := by rw [k4.1 _ (by omega) (by omega), y14_3]
    have y15_4 : h4.1 (m + 15) = X15 := by rw [k4.1 _ (by omega) (by omega), y15_3]
    obtain ⟨h5, G5, q5, e5, w5, l5, l5', v5, k5⟩ := e_283 (sv := sv) (d := d + 10) (show b < 20 by omega) w4 (by simp only [List.length_append, List.length_nil]; omega)
    have t5 := w5.1
    have y13_5 : h5.1 (m + 13) = X13 := by rw [k5.1 _ (by omega) (by omega), y13_4]
    have y14_5 : h5.1 (m + 14) = X14 := by rw [k5.1 _ (by omega) (by omega), y14_4]
    have y15_5 : h5.1 (m + 15) = X15 := by rw [k5.1 _ (by omega) (by omega), y15_4]
    have m24 := w5.2.1
    have hlen : ([] ++ q3 ++ q4 ++ q5).length = ywil (nI 115, nI b, nI j, ll, rr) := by
      simp only [List.length_append, List.length_nil]
      unfold ywil
      rw [if_neg p4, if_neg p5, if_pos rfl]
      show 0 + _ + _ + _ = 5
      omega
    rw [hlen] at m24
    refine zMw_of ?_ f31 a3 a4 a5 a6 k1 w5 (fun j hj => (v5 j hj).trans ((v4 j hj).trans ((v3 j hj).trans (v2 j hj)))) (zow_tr (zow_tr (zow_tr k2 k3) k4) k5) hlen
    simp (disch := first | exact znw_u | exact znw_i) only [zs_284_23, zs_284_24, zs_284_25, zs_284_27, zs_284_30, zs_284_32, zs_284_33, zs_284_36, zs_284_37, zs_284_38, zs_284_39, zs_284_48, zs_284_51, zs_284_52, zs_284_54, zs_284_57, zs_284_58, zs_284_60, zs_284_76, zs_284_77, zs_284_79, zs_284_99, zs_284_100, zs_284_102, zs_284_105, zs_284_106, zs_284_107, zs_284_110, zs_284_111, zs_284_112, zs_284_115, zs_284_167, zs_284_168, zs_284_171, t0, zmf_16, zmf_17, zmf_18, zmf_24, y13, y14, y15, g13, g14, g15, zrc_13v, zbk_v, zts_n, e3, e4, e5, t3, t4, t5, y13_3, y14_3, y15_3, y13_4, y14_4, y15_4, y13_5, y14_5, y15_5, m24, if_neg p4, if_neg p5, nI_add, ↓reduceIte, List.cons_append, List.nil_append]
  · obtain ⟨k, b', nn, ll, rr⟩ := x
    obtain ⟨gk, ⟨xx, hxx, exx⟩, ⟨yy, hyy, eyy⟩⟩ := g
    have gk : yis k = true := gk
    have exx : ll = nI xx := exx
    have eyy : rr = nI yy := eyy
    subst exx eyy
    have eb : b' = nI b := eb
    subst eb
    obtain ⟨u1, u2, u3, u4⟩ := yis_ne gk
    have e0 : ylf (k, nI b, nn, nI xx, nI yy) = ypl (nI xx) := by unfold ylf; rw [if_neg u1, if_neg u2, if_neg u3, if_neg u4]
    have e0' : yrt (k, nI b, nn, nI xx, nI yy) = ypl (nI yy) := by unfold yrt; rw [if_pos gk]
    obtain ⟨kx, hkx, ekx⟩ := ypl_lt xx hxx
    obtain ⟨ky, hky, eky⟩ := ypl_lt yy hyy
    rw [e0, ekx] at g14
    rw [e0', eky] at g15
    obtain ⟨h3, G3, q3, e3, w3, l3, l3', v3, k3⟩ := e_283 (sv := sv) (d := d + 10) (show b < 20 by omega) w2 (by show 0 + 2 ≤ 700; omega)
    have t3 := w3.1
    have y13_3 : h3.1 (m + 13) = X13 := by rw [k3.1 _ (by omega) (by omega), y13]
    have y14_3 : h3.1 (m + 14) = X14 := by rw [k3.1 _ (by omega) (by omega), y14]
    have y15_3 : h3.1 (m + 15) = X15 := by rw [k3.1 _ (by omega) (by omega), y15]
    obtain ⟨h4, G4, q4, e4, w4, l4, l4', v4, k4⟩ := e_280 (sv := sv) (d := d + 12) (c := nI 61) w3 (by simp only [List.length_append, List.length_nil]; omega) e61 c61
    have t4 := w4.1
    have y13_4 : h4.1 (m + 13) = X13 := by rw [k4.1 _ (by omega) (by omega), y13_3]
    have y14_4 : h4.1 (m + 14) = X14 := by rw [k4.1 _ (by omega) (by omega), y14_3]
    have y15_4 : h4.1 (m + 15) = X15 := by rw [k4.1 _ (by omega) (by omega), y15_3]
    obtain ⟨h5, G5, q5, e5, w5, l5, l5', v5, k5⟩ := e_283 (sv := sv) (d := d + 10) hkx w4 (by simp only [List.length_append, List.length_nil]; omega)
    have t5 := w5.1
    have y13_5 : h5.1 (m + 13) = X13 := by rw [k5.1 _ (by omega) (by omega), y13_4]
    have y14_5 : h5.1 (m + 14) = X14 := by rw [k5.1 _ (by omega) (by omega), y14_4]
    have y15_5 : h5.1 (m + 15) = X15 := by rw [k5.1 _ (by omega) (by omega), y15_4]
    obtain ⟨h6, G6, q6, e6, w6, l6, l6', v6, k6⟩ := e_280 (sv := sv) (d := d + 12) (c := k) w5 (by simp only [List.length_append, List.length_nil]; omega) (yis_nr gk) (yis_w gk)
    have t6 := w6.1
    have y13_6 : h6.1 (m + 13) = X13 := by rw [k6.1 _ (by omega) (by omega), y13_5]
    have y14_6 : h6.1 (m + 14) = X14 := by rw [k6.1 _ (by omega) (by omega), y14_5]
    have y15_6 : h6.1 (m + 15) = X15 := by rw [k6.1 _ (by omega) (by omega), y15_5]
    obtain ⟨h7, G7, q7, e7, w7, l7, l7', v7, k7⟩ := e_283 (sv := sv) (d := d + 10) hky w6 (by simp only [List.length_append, List.length_nil]; omega)
    have t7 := w7.1
    have y13_7 : h7.1 (m + 13) = X13 := by rw [k7.1 _ (by omega) (by omega), y13_6]
    have y14_7 : h7.1 (m + 14) = X14 := by rw [k7.1 _ (by omega) (by omega), y14_6]
    have y15_7 : h7.1 (m + 15) = X15 := by rw [k7.1 _ (by omega) (by omega), y15_6]
    have m24 := w7.2.1
    have hlen : ([] ++ q3 ++ q4 ++ q5 ++ q6 ++ q7).length = ywil (k, nI b, nn, nI xx, nI yy) := by
      simp only [List.length_append, List.length_nil]
      unfold ywil
      rw [if_neg u1, if_neg u2, if_neg u4, if_neg u3]
      show 0 + _ + _ + _ + _ + _ = 8
      omega
    rw [hlen] at m24
    refine zMw_of ?_ f31 a3 a4 a5 a6 k1 w7 (fun j hj => (v7 j hj).trans ((v6 j hj).trans ((v5 j hj).trans ((v4 j hj).trans ((v3 j hj).trans (v2 j hj)))))) (zow_tr (zow_tr (zow_tr (zow_tr (zow_tr k2 k3) k4) k5) k6) k7) hlen
    simp (disch := first | exact znw_u | exact znw_i) only [zs_284_23, zs_284_24, zs_284_25, zs_284_27, zs_284_42, zs_284_43, zs_284_46, zs_284_47, zs_284_48, zs_284_51, zs_284_52, zs_284_54, zs_284_57, zs_284_58, zs_284_60, zs_284_76, zs_284_77, zs_284_79, zs_284_99, zs_284_100, zs_284_102, zs_284_118, zs_284_119, zs_284_121, zs_284_130, zs_284_131, zs_284_132, zs_284_135, zs_284_136, zs_284_137, zs_284_140, zs_284_141, zs_284_143, zs_284_146, zs_284_147, zs_284_148, zs_284_151, zs_284_152, zs_284_154, zs_284_157, zs_284_158, zs_284_159, zs_284_162, zs_284_163, zs_284_164, zs_284_167, zs_284_168, zs_284_171, t0, zmf_16, zmf_17, zmf_18, zmf_24, y13, y14, y15, g13, g14, g15, zrc_13v, zbk_v, zts_n, e3, e4, e5, e6, e7, t3, t4, t5, t6, t7, y13_3, y14_3, y15_3, y13_4, y14_4, y15_4, y13_5, y14_5, y15_5, y13_6, y14_6, y15_6, y13_7, y14_7, y15_7, m24, if_neg u1, if_neg u2, if_neg u3, if_neg u4, ↓reduceIte, List.cons_append, List.nil_append]
end ZQW
