section ZSD
variable {sv : Nat → Value} {d : Nat}
theorem zCdC_cg {h h' : zH} {c : Nat} {q : List yI} {ma : Int32} {A B C P : List Int32} {j : Nat} (hc : zCdC h c q ma A B C P j) (hf : zcg c (c + 22) h h') : zCdC h' c q ma A B C P j := by
  obtain ⟨c0, hg, ⟨K, R, N, L, E, ⟨k1, k2, k3, k4, k5⟩, w⟩, hb, hp, hpl⟩ := hc
  exact ⟨by rw [hf c (by omega) (by omega), c0], zGau_cg hg (zcg_mono hf (by omega) (by omega)), ⟨K, R, N, L, E, ⟨zRow_cg k1 (zcg_mono hf (by omega) (by omega)), zRow_cg k2 (zcg_mono hf (by omega) (by omega)), zRow_cg k3 (zcg_mono hf (by omega) (by omega)), zRow_cg k4 (zcg_mono hf (by omega) (by omega)), zRow_cg k5 (zcg_mono hf (by omega) (by omega))⟩, w⟩, zRow_cg hb (zcg_mono hf (by omega) (by omega)), zRow_cg hp (zcg_mono hf (by omega) (by omega)), hpl⟩
theorem yil1 : ∀ k, k < 10 → yilen (nI k) = 1 := by decide +kernel
theorem ypl4 : ∀ k, k < 13 → (nI k < nI 4) = (k < 4) ∧ (4 ≤ k → nI k - nI 4 = nI (k - 4)) := by
  intro k hk
  have h1 : ∀ k, k < 13 → decide (nI k < nI 4) = decide (k < 4) := by decide +kernel
  have h2 : ∀ k, k < 13 → 4 ≤ k → nI k - nI 4 = nI (k - 4) := by decide +kernel
  exact ⟨by have := h1 k hk; exact propext (decide_eq_decide.mp this), h2 k hk⟩
theorem yis_ch {k : Int32} (hk : yis k = true) : ∃ kk, kk < 128 ∧ k = nI kk ∧ ((nI kk).toUInt32 % 65536).toInt32 = nI kk := by
  have e : ((nI 43).toUInt32 % 65536).toInt32 = nI 43 ∧ ((nI 45).toUInt32 % 65536).toInt32 = nI 45 ∧ ((nI 42).toUInt32 % 65536).toInt32 = nI 42 := by decide +kernel
  rcases yis_k hk with g | g | g
  · exact ⟨43, by decide, g, e.1⟩
  · exact ⟨45, by decide, g, e.2.1⟩
  · exact ⟨42, by decide, g, e.2.2⟩
/-- a place written -/
theorem d_115 {h : zH} {r v k : Nat} {B o : List Int32} (hs : sv 0 = .int (nI 1)) (hD : zDg sv h) (hb : zBl h r v B o) (hk : k < 13) (ho : o.length + 12 ≤ 450) : zAd r v B o h (zcall zP sv (d + 6) 115 [.int (nI k), .ref r] h) none 2 2 := by
  obtain ⟨p1, p2⟩ := ypl4 k hk
  have kb := zBl_k hb
  have rc : ∀ X : zR, zrc (h.1 r) 2 X = X := fun X => zBl_rc hb X
  by_cases c : k < 4
  · have c1 : nI k < nI 4 := by rw [p1]; exact c
    obtain ⟨h1, v1, B1, q1, e1, b1, w1, f1, l1, l1'⟩ := d_15 (sv := sv) (d := d) (k := 114) hs hb (by omega) (by decide)
    have rc1 : ∀ X : zR, zrc (h1.1 r) 2 X = X := fun X => zBl_rc b1 X
    obtain ⟨h2, v2, B2, q2, e2, b2, w2, f2, l2, l2'⟩ := d_9 (sv := sv) (d := d) (x := nI k) hs (zDg_bo hD kb.1 kb.2 f1) b1 (by rw [List.length_append]; omega)
    rw [yil1 k (by omega)] at l2 l2'
    refine ⟨h2, v2, B2, q1 ++ q2, ?_, by rw [← List.append_assoc]; exact b2, by have := f1.2.1; omega, zbo_tr f1 w1 f2, by rw [List.length_append]; omega, by rw [List.length_append]; omega⟩
    simp (disch := first | exact znw_u | exact znw_i) only [zc_115, zs_115_0, zs_115_1, zs_115_2, zs_115_5, zs_115_6, zs_115_9, zs_115_10, zs_115_11, zs_115_11n, zs_115_12, zs_115_13, zs_115_16, zs_115_18, zs_115_21, zs_115_23, zs_115_26, zs_115_26n, zs_115_27, zs_115_27n, zs_115_28, zs_115_29, zs_115_32, zs_115_33, zs_115_34, zs_115_35, zs_115_38, zs_115_39, zs_115_42, zs_115_42n, zs_115_43, if_pos c1, rc, rc1, e1, e2, zbk_v, zts_s, zts_n, ↓reduceIte, List.cons_append, List.nil_append]
  · have c1 : ¬ nI k < nI 4 := by rw [p1]; exact c
    have c4 := p2 (by omega)
    obtain ⟨h1, v1, B1, q1, e1, b1, w1, f1, l1, l1'⟩ := d_15 (sv := sv) (d := d) (k := 109) hs hb (by omega) (by decide)
    have rc1 : ∀ X : zR, zrc (h1.1 r) 2 X = X := fun X => zBl_rc b1 X
    obtain ⟨h2, v2, B2, q2, e2, b2, w2, f2, l2, l2'⟩ := d_9 (sv := sv) (d := d) (x := nI (k - 4)) hs (zDg_bo hD kb.1 kb.2 f1) b1 (by rw [List.length_append]; omega)
    rw [yil1 (k - 4) (by omega)] at l2 l2'
    refine ⟨h2, v2, B2, q1 ++ q2, ?_, by rw [← List.append_assoc]; exact b2, by have := f1.2.1; omega, zbo_tr f1 w1 f2, by rw [List.length_append]; omega, by rw [List.length_append]; omega⟩
    simp (disch := first | exact znw_u | exact znw_i) only [zc_115, zs_115_0, zs_115_1, zs_115_2, zs_115_5, zs_115_6, zs_115_9, zs_115_10, zs_115_11, zs_115_11n, zs_115_12, zs_115_13, zs_115_16, zs_115_18, zs_115_21, zs_115_23, zs_115_26, zs_115_26n, zs_115_27, zs_115_27n, zs_115_28, zs_115_29, zs_115_32, zs_115_33, zs_115_34, zs_115_35, zs_115_38, zs_115_39, zs_115_42, zs_115_42n, zs_115_43, if_neg c1, c4, rc, rc1, e1, e2, nI_1e0, zbk_v, zts_s, zts_n, ↓reduceIte, List.cons_append, List.nil_append]
theorem d_114 {h : zH} {r v c n : Nat} {B o : List Int32} {q : List yI} {ma : Int32} {A0 B0 C0 P0 : List Int32} {j0 : Nat} {x : yI} (hs : sv 0 = .int (nI 1)) (hD : zDg sv h) (hb : zBl h r v B o) (hc : zCdC h c q ma A0 B0 C0 P0 j0) (hx : q[n]? = some x) (hok : yIok x) (ho : o.length + 40 ≤ 450) (hrc : r < c) (hvc : v < c ∨ c + 22 ≤ v) (hsz : c + 22 ≤ h.2.1) : zAd r v B o h (zcall zP sv (d + 7) 114 [.ref c, .int (nI n), .ref r] h) none (ywil x) (ywil x) := by
  have kb := zBl_k hb
  have rc : ∀ X : zR, zrc (h.1 r) 2 X = X := fun X => zBl_rc hb X
  obtain ⟨a8, a10, a12, a14, a16⟩ := zCdC_at (sv := sv) (d := d + 5) hc hx
  obtain ⟨r8, r10, r12, r14, r16, _⟩ := zCdC_rr hc
  have c0 := hc.1
  obtain ⟨⟨b, hb3, eb⟩, hcase⟩ := hok
  have p1 : ¬ nI 99 = nI 115 := by decide +kernel
  have p2 : ¬ nI 118 = nI 115 := by decide +kernel
  have p3 : ¬ nI 118 = nI 99 := by decide +kernel
  have p4 : ¬ nI 115 = nI 99 := by decide +kernel
  have p5 : ¬ nI 115 = nI 118 := by decide +kernel
  have p6 : ¬ nI 110 = nI 99 := by decide +kernel
  have p7 : ¬ nI 110 = nI 118 := by decide +kernel
  have p8 : ¬ nI 110 = nI 115 := by decide +kernel
  rcases hcase with g | g | g | g | g
  · obtain ⟨k, b', nn, ll, rr⟩ := x
    have g : k = nI 99 := g
    subst g
    have eb : b' = nI b := eb
    subst eb
    have hy := yilen_le nn
    obtain ⟨h1, v1, B1, q1, e1, b1, w1, f1, l1, l1'⟩ := d_115 (sv := sv) (d := d) (k := b) hs hD hb (by omega) (by omega)
    have D1 := zDg_bo hD kb.1 kb.2 f1
    have kb1 := zBl_k b1
    have rc1 : ∀ X : zR, zrc (h1.1 r) 2 X = X := fun X => zBl_rc b1 X
    have g1 : zcg c (c + 22) h h1 := fun z z1 z2 => f1.1 z (by omega) (by omega) (by omega)
    have C1 := zCdC_cg hc g1
    have s1 : c + 22 ≤ h1.2.1 := by have := f1.2.1; omega
    have vc1 : v1 < c ∨ c + 22 ≤ v1 := by omega
    obtain ⟨a8_1, a10_1, a12_1, a14_1, a16_1⟩ := zCdC_at (sv := sv) (d := d + 5) C1 hx
    obtain ⟨r8_1, r10_1, r12_1, r14_1, r16_1, _⟩ := zCdC_rr C1
    have c0_1 := C1.1
    obtain ⟨h2, v2, B2, q2, e2, b2, w2, f2, l2, l2'⟩ := d_15 (sv := sv) (d := d + 1) (k := 61) hs b1 (by simp only [List.length_append]; omega) (by decide)
    have D2 := zDg_bo D1 kb1.1 kb1.2 f2
    have kb2 := zBl_k b2
    have rc2 : ∀ X : zR, zrc (h2.1 r) 2 X = X := fun X => zBl_rc b2 X
    have g2 : zcg c (c + 22) h1 h2 := fun z z1 z2 => f2.1 z (by omega) (by omega) (by omega)
    have C2 := zCdC_cg C1 g2
    have s2 : c + 22 ≤ h2.2.1 := by have := f2.2.1; omega
    have vc2 : v2 < c ∨ c + 22 ≤ v2 := by omega
    obtain ⟨a8_2, a10_2, a12_2, a14_2, a16_2⟩ := zCdC_at (sv := sv) (d := d + 5) C2 hx
    obtain ⟨r8_2, r10_2, r12_2, r14_2, r16_2, _⟩ := zCdC_rr C2
    have c0_2 := C2.1
    obtain ⟨h3, v3, B3, q3, e3, b3, w3, f3, l3, l3'⟩ := d_9 (sv := sv) (d := d + 1) (x := nn) hs D2 b2 (by simp only [List.length_append]; omega)
    have D3 := zDg_bo D2 kb2.1 kb2.2 f3
    have kb3 := zBl_k b3
    have rc3 : ∀ X : zR, zrc (h3.1 r) 2 X = X := fun X => zBl_rc b3 X
    have g3 : zcg c (c + 22) h2 h3 := fun z z1 z2 => f3.1 z (by omega) (by omega) (by omega)
    have C3 := zCdC_cg C2 g3
    have s3 : c + 22 ≤ h3.2.1 := by have := f3.2.1; omega
    have vc3 : v3 < c ∨ c + 22 ≤ v3 := by omega
    obtain ⟨a8_3, a10_3, a12_3, a14_3, a16_3⟩ := zCdC_at (sv := sv) (d := d + 5) C3 hx
    obtain ⟨r8_3, r10_3, r12_3, r14_3, r16_3, _⟩ := zCdC_rr C3
    have c0_3 := C3.1
    have z1 := f1
    have u1 := w1
    have z2 := zbo_tr z1 u1 f2
    have u2 : v2 = v ∨ h.2.1 ≤ v2 := by have := z1.2.1; omega
    have z3 := zbo_tr z2 u2 f3
    have u3 : v3 = v ∨ h.2.1 ≤ v3 := by have := z2.2.1; omega
    have hlen : (q1 ++ q2 ++ q3).length = ywil (nI 99, nI b, nn, ll, rr) := by
      simp only [List.length_append]
      unfold ywil
      rw [if_pos rfl]
      show _ = 3 + yilen nn
      omega
    refine ⟨h3, v3, B3, q1 ++ q2 ++ q3, ?_, ?_, u3, z3, by rw [hlen]; exact Nat.le_refl _, by rw [hlen]; exact Nat.le_refl _⟩
    · simp (disch := first | exact znw_u | exact znw_i) only [zc_114, zs_114_0, zs_114_1, zs_114_4, zs_114_5, zs_114_8, zs_114_9, zs_114_10, zs_114_12, zs_114_28, zs_114_29, zs_114_32, zs_114_33, zs_114_36, zs_114_37, zs_114_40, zs_114_41, zs_114_43, zs_114_46, zs_114_47, zs_114_48, zs_114_50, zs_114_53, zs_114_54, zs_114_55, zs_114_58, zs_114_59, zs_114_62, zs_114_65, zs_114_66, zs_114_172, c0, zCdl, zrc_12, zf_12_0, zp_12_0, zp_12_0n, zf_12_1, zp_12_1, zp_12_1n, zf_12_2, zp_12_2, zp_12_2n, zf_12_3, zp_12_3, zp_12_3n, zf_12_4, zp_12_4, zp_12_4n, zf_12_5, zp_12_5, zf_12_6, zp_12_6, zp_12_6n, zf_12_7, zp_12_7, zp_12_7n, zf_12_8, zp_12_8, zp_12_8n, zf_12_9, zp_12_9, rc, a8, a10, a12, a14, a16, r8, r10, r12, r14, r16, a8_1, a10_1, a12_1, a14_1, a16_1, r8_1, r10_1, r12_1, r14_1, r16_1, c0_1, rc1, e1, a8_2, a10_2, a12_2, a14_2, a16_2, r8_2, r10_2, r12_2, r14_2, r16_2, c0_2, rc2, e2, a8_3, a10_3, a12_3, a14_3, a16_3, r8_3, r10_3, r12_3, r14_3, r16_3, c0_3, rc3, e3, zbk_v, zts_s, zts_n, if_neg p1, ↓reduceIte, List.cons_append, List.nil_append]
    · simpa only [List.append_assoc] using b3
  · obtain ⟨k, b', nn, ll, rr⟩ := x
    have gl : ylet nn = true := g.2
    have g : k = nI 118 := g.1
    subst g
    have eb : b' = nI b := eb
    subst eb
    have zl2 := (ylet_w gl).2.1
    obtain ⟨kl, hkl, rfl⟩ := ylet_of gl
    obtain ⟨h1, v1, B1, q1, e1, b1, w1, f1, l1, l1'⟩ := d_115 (sv := sv) (d := d) (k := b) hs hD hb (by omega) (by omega)
    have D1 := zDg_bo hD kb.1 kb.2 f1
    have kb1 := zBl_k b1
    have rc1 : ∀ X : zR, zrc (h1.1 r) 2 X = X := fun X => zBl_rc b1 X
    have g1 : zcg c (c + 22) h h1 := fun z z1 z2 => f1.1 z (by omega) (by omega) (by omega)
    have C1 := zCdC_cg hc g1
    have s1 : c + 22 ≤ h1.2.1 := by have := f1.2.1; omega
    have vc1 : v1 < c ∨ c + 22 ≤ v1 := by omega
    obtain ⟨a8_1, a10_1, a12_1, a14_1, a16_1⟩ := zCdC_at (sv := sv) (d := d + 5) C1 hx
    obtain ⟨r8_1, r10_1, r12_1, r14_1, r16_1, _⟩ := zCdC_rr C1
    have c0_1 := C1.1
    obtain ⟨h2, v2, B2, q2, e2, b2, w2, f2, l2, l2'⟩ := d_15 (sv := sv) (d := d + 1) (k := 61) hs b1 (by simp only [List.length_append]; omega) (by decide)
    have D2 := zDg_bo D1 kb1.1 kb1.2 f2
    have kb2 := zBl_k b2
    have rc2 : ∀ X : zR, zrc (h2.1 r) 2 X = X := fun X => zBl_rc b2 X
    have g2 : zcg c (c + 22) h1 h2 := fun z z1 z2 => f2.1 z (by omega) (by omega) (by omega)
    have C2 := zCdC_cg C1 g2
    have s2 : c + 22 ≤ h2.2.1 := by have := f2.2.1; omega
    have vc2 : v2 < c ∨ c + 22 ≤ v2 := by omega
    obtain ⟨a8_2, a10_2, a12_2, a14_2, a16_2⟩ := zCdC_at (sv := sv) (d := d + 5) C2 hx
    obtain ⟨r8_2, r10_2, r12_2, r14_2, r16_2, _⟩ := zCdC_rr C2
    have c0_2 := C2.1
    obtain ⟨h3, v3, B3, q3, e3, b3, w3, f3, l3, l3'⟩ := d_15 (sv := sv) (d := d + 1) (k := 97 + kl) hs b2 (by simp only [List.length_append]; omega) (by omega)
    have D3 := zDg_bo D2 kb2.1 kb2.2 f3
    have kb3 := zBl_k b3
    have rc3 : ∀ X : zR, zrc (h3.1 r) 2 X = X := fun X => zBl_rc b3 X
    have g3 : zcg c (c + 22) h2 h3 := fun z z1 z2 => f3.1 z (by omega) (by omega) (by omega)
    have C3 := zCdC_cg C2 g3
    have s3 : c + 22 ≤ h3.2.1 := by have := f3.2.1; omega
    have vc3 : v3 < c ∨ c + 22 ≤ v3 := by omega
    obtain ⟨a8_3, a10_3, a12_3, a14_3, a16_3⟩ := zCdC_at (sv := sv) (d := d + 5) C3 hx
    obtain ⟨r8_3, r10_3, r12_3, r14_3, r16_3, _⟩ := zCdC_rr C3
    have c0_3 := C3.1
    have z1 := f1
    have u1 := w1
    have z2 := zbo_tr z1 u1 f2
    have u2 : v2 = v ∨ h.2.1 ≤ v2 := by have := z1.2.1; omega
    have z3 := zbo_tr z2 u2 f3
    have u3 : v3 = v ∨ h.2.1 ≤ v3 := by have := z2.2.1; omega
    have hlen : (q1 ++ q2 ++ q3).length = ywil (nI 118, nI b, nI (97 + kl), ll, rr) := by
      simp only [List.length_append]
      unfold ywil
      rw [if_neg p3, if_pos rfl]
      show _ = 4
      omega
    refine ⟨h3, v3, B3, q1 ++ q2 ++ q3, ?_, ?_, u3, z3, by rw [hlen]; exact Nat.le_refl _, by rw [hlen]; exact Nat.le_refl _⟩
    · simp (disch := first | exact znw_u | exact znw_i) only [zc_114, zs_114_0, zs_114_1, zs_114_4, zs_114_5, zs_114_8, zs_114_9, zs_114_10, zs_114_12, zs_114_28, zs_114_29, zs_114_32, zs_114_33, zs_114_36, zs_114_37, zs_114_40, zs_114_41, zs_114_43, zs_114_46, zs_114_47, zs_114_48, zs_114_50, zs_114_69, zs_114_70, zs_114_72, zs_114_75, zs_114_76, zs_114_77, zs_114_80, zs_114_81, zs_114_84, zs_114_85, zs_114_88, zs_114_89, zs_114_172, c0, zCdl, zrc_12, zf_12_0, zp_12_0, zp_12_0n, zf_12_1, zp_12_1, zp_12_1n, zf_12_2, zp_12_2, zp_12_2n, zf_12_3, zp_12_3, zp_12_3n, zf_12_4, zp_12_4, zp_12_4n, zf_12_5, zp_12_5, zf_12_6, zp_12_6, zp_12_6n, zf_12_7, zp_12_7, zp_12_7n, zf_12_8, zp_12_8, zp_12_8n, zf_12_9, zp_12_9, rc, a8, a10, a12, a14, a16, r8, r10, r12, r14, r16, a8_1, a10_1, a12_1, a14_1, a16_1, r8_1, r10_1, r12_1, r14_1, r16_1, c0_1, rc1, e1, a8_2, a10_2, a12_2, a14_2, a16_2, r8_2, r10_2, r12_2, r14_2, r16_2, c0_2, rc2, e2, a8_3, a10_3, a12_3, a14_3, a16_3, r8_3, r10_3, r12_3, r14_3, r16_3, c0_3, rc3, e3, zbk_v, zts_s, zts_n, if_neg p2, if_neg p3, zl2, ↓reduceIte, List.cons_append, List.nil_append]
    · simpa only [List.append_assoc] using b3
  · obtain ⟨k, b', nn, ll, rr⟩ := x
    have gl : ll = b' := g.2
    have g : k = nI 110 := g.1
    subst g
    have eb : b' = nI b := eb
    subst eb
    subst gl
    obtain ⟨h1, v1, B1, q1, e1, b1, w1, f1, l1, l1'⟩ := d_115 (sv := sv) (d := d) (k := b) hs hD hb (by omega) (by omega)
    have D1 := zDg_bo hD kb.1 kb.2 f1
    have kb1 := zBl_k b1
    have rc1 : ∀ X : zR, zrc (h1.1 r) 2 X = X := fun X => zBl_rc b1 X
    have g1 : zcg c (c + 22) h h1 := fun z z1 z2 => f1.1 z (by omega) (by omega) (by omega)
    have C1 := zCdC_cg hc g1
    have s1 : c + 22 ≤ h1.2.1 := by have := f1.2.1; omega
    have vc1 : v1 < c ∨ c + 22 ≤ v1 := by omega
    obtain ⟨a8_1, a10_1, a12_1, a14_1, a16_1⟩ := zCdC_at (sv := sv) (d := d + 5) C1 hx
    obtain ⟨r8_1, r10_1, r12_1, r14_1, r16_1, _⟩ := zCdC_rr C1
    have c0_1 := C1.1
    obtain ⟨h2, v2, B2, q2, e2, b2, w2, f2, l2, l2'⟩ := d_15 (sv := sv) (d := d + 1) (k := 61) hs b1 (by simp only [List.length_append]; omega) (by decide)
    have D2 := zDg_bo D1 kb1.1 kb1.2 f2
    have kb2 := zBl_k b2
    have rc2 : ∀ X : zR, zrc (h2.1 r) 2 X = X := fun X => zBl_rc b2 X
    have g2 : zcg c (c + 22) h1 h2 := fun z z1 z2 => f2.1 z (by omega) (by omega) (by omega)
    have C2 := zCdC_cg C1 g2
    have s2 : c + 22 ≤ h2.2.1 := by have := f2.2.1; omega
    have vc2 : v2 < c ∨ c + 22 ≤ v2 := by omega
    obtain ⟨a8_2, a10_2, a12_2, a14_2, a16_2⟩ := zCdC_at (sv := sv) (d := d + 5) C2 hx
    obtain ⟨r8_2, r10_2, r12_2, r14_2, r16_2, _⟩ := zCdC_rr C2
    have c0_2 := C2.1
    obtain ⟨h3, v3, B3, q3, e3, b3, w3, f3, l3, l3'⟩ := d_15 (sv := sv) (d := d + 1) (k := 45) hs b2 (by simp only [List.length_append]; omega) (by decide)
    have D3 := zDg_bo D2 kb2.1 kb2.2 f3
    have kb3 := zBl_k b3
    have rc3 : ∀ X : zR, zrc (h3.1 r) 2 X = X := fun X => zBl_rc b3 X
    have g3 : zcg c (c + 22) h2 h3 := fun z z1 z2 => f3.1 z (by omega) (by omega) (by omega)
    have C3 := zCdC_cg C2 g3
    have s3 : c + 22 ≤ h3.2.1 := by have := f3.2.1; omega
    have vc3 : v3 < c ∨ c + 22 ≤ v3 := by omega
    obtain ⟨a8_3, a10_3, a12_3, a14_3, a16_3⟩ := zCdC_at (sv := sv) (d := d + 5) C3 hx
    obtain ⟨r8_3, r10_3, r12_3, r14_3, r16_3, _⟩ := zCdC_rr C3
    have c0_3 := C3.1
    obtain ⟨h4, v4, B4, q4, e4, b4, w4, f4, l4, l4'⟩ := d_115 (sv := sv) (d := d) (k := b) hs D3 b3 (by omega) (by simp only [List.length_append]; omega)
    have D4 := zDg_bo D3 kb3.1 kb3.2 f4
    have kb4 := zBl_k b4
    have rc4 : ∀ X : zR, zrc (h4.1 r) 2 X = X := fun X => zBl_rc b4 X
    have g4 : zcg c (c + 22) h3 h4 := fun z z1 z2 => f4.1 z (by omega) (by omega) (by omega)
    have C4 := zCdC_cg C3 g4
    have s4 : c + 22 ≤ h4.2.1 := by have := f4.2.1; omega
    have vc4 : v4 < c ∨ c + 22 ≤ v4 := by omega
    obtain ⟨a8_4, a10_4, a12_4, a14_4, a16_4⟩ := zCdC_at (sv := sv) (d := d + 5) C4 hx
    obtain ⟨r8_4, r10_4, r12_4, r14_4, r16_4, _⟩ := zCdC_rr C4
    have c0_4 := C4.1
    have z1 := f1
    have u1 := w1
    have z2 := zbo_tr z1 u1 f2
    have u2 : v2 = v ∨ h.2.1 ≤ v2 := by have := z1.2.1; omega
    have z3 := zbo_tr z2 u2 f3
    have u3 : v3 = v ∨ h.2.1 ≤ v3 := by have := z2.2.1; omega
    have z4 := zbo_tr z3 u3 f4
    have u4 : v4 = v ∨ h.2.1 ≤ v4 := by have := z3.2.1; omega
    have hlen : (q1 ++ q2 ++ q3 ++ q4).length = ywil (nI 110, nI b, nn, nI b, rr) := by
      simp only [List.length_append]
      unfold ywil
      rw [if_neg p6, if_neg p7, if_neg p8, if_pos rfl]
      omega
    refine ⟨h4, v4, B4, q1 ++ q2 ++ q3 ++ q4, ?_, ?_, u4, z4, by rw [hlen]; exact Nat.le_refl _, by rw [hlen]; exact Nat.le_refl _⟩
    · simp (disch := first | exact znw_u | exact znw_i) only [zc_114, zs_114_0, zs_114_1, zs_114_4, zs_114_5, zs_114_8, zs_114_9, zs_114_10, zs_114_12, zs_114_28, zs_114_29, zs_114_32, zs_114_33, zs_114_36, zs_114_37, zs_114_40, zs_114_41, zs_114_43, zs_114_46, zs_114_47, zs_114_48, zs_114_50, zs_114_69, zs_114_70, zs_114_72, zs_114_92, zs_114_93, zs_114_95, zs_114_113, zs_114_114, zs_114_116, zs_114_119, zs_114_120, zs_114_122, zs_114_125, zs_114_126, zs_114_127, zs_114_130, zs_114_131, zs_114_134, zs_114_135, zs_114_138, zs_114_172, c0, zCdl, zrc_12, zf_12_0, zp_12_0, zp_12_0n, zf_12_1, zp_12_1, zp_12_1n, zf_12_2, zp_12_2, zp_12_2n, zf_12_3, zp_12_3, zp_12_3n, zf_12_4, zp_12_4, zp_12_4n, zf_12_5, zp_12_5, zf_12_6, zp_12_6, zp_12_6n, zf_12_7, zp_12_7, zp_12_7n, zf_12_8, zp_12_8, zp_12_8n, zf_12_9, zp_12_9, rc, a8, a10, a12, a14, a16, r8, r10, r12, r14, r16, a8_1, a10_1, a12_1, a14_1, a16_1, r8_1, r10_1, r12_1, r14_1, r16_1, c0_1, rc1, e1, a8_2, a10_2, a12_2, a14_2, a16_2, r8_2, r10_2, r12_2, r14_2, r16_2, c0_2, rc2, e2, a8_3, a10_3, a12_3, a14_3, a16_3, r8_3, r10_3, r12_3, r14_3, r16_3, c0_3, rc3, e3, a8_4, a10_4, a12_4, a14_4, a16_4, r8_4, r10_4, r12_4, r14_4, r16_4, c0_4, rc4, e4, zbk_v, zts_s, zts_n, if_neg p6, if_neg p7, if_neg p8, ↓reduceIte, List.cons_append, List.nil_append]
    · simpa only [List.append_assoc] using b4
  · obtain ⟨k, b', nn, ll, rr⟩ := x
    obtain ⟨j, hj, ej⟩ := g.2.1
    have gl : ll = b' := g.2.2
    have g : k = nI 115 := g.1
    subst g
    have eb : b' = nI b := eb
    subst eb
    subst gl
    have ej : nn = nI j := ej
    subst ej
    obtain ⟨h1, v1, B1, q1, e1, b1, w1, f1, l1, l1'⟩ := d_115 (sv := sv) (d := d) (k := 4 + j) hs hD hb (by omega) (by omega)
    have D1 := zDg_bo hD kb.1 kb.2 f1
    have kb1 := zBl_k b1
    have rc1 : ∀ X : zR, zrc (h1.1 r) 2 X = X := fun X => zBl_rc b1 X
    have g1 : zcg c (c + 22) h h1 := fun z z1 z2 => f1.1 z (by omega) (by omega) (by omega)
    have C1 := zCdC_cg hc g1
    have s1 : c + 22 ≤ h1.2.1 := by have := f1.2.1; omega
    have vc1 : v1 < c ∨ c + 22 ≤ v1 := by omega
    obtain ⟨a8_1, a10_1, a12_1, a14_1, a16_1⟩ := zCdC_at (sv := sv) (d := d + 5) C1 hx
    obtain ⟨r8_1, r10_1, r12_1, r14_1, r16_1, _⟩ := zCdC_rr C1
    have c0_1 := C1.1
    obtain ⟨h2, v2, B2, q2, e2, b2, w2, f2, l2, l2'⟩ := d_15 (sv := sv) (d := d + 1) (k := 61) hs b1 (by simp only [List.length_append]; omega) (by decide)
    have D2 := zDg_bo D1 kb1.1 kb1.2 f2
    have kb2 := zBl_k b2
    have rc2 : ∀ X : zR, zrc (h2.1 r) 2 X = X := fun X => zBl_rc b2 X
    have g2 : zcg c (c + 22) h1 h2 := fun z z1 z2 => f2.1 z (by omega) (by omega) (by omega)
    have C2 := zCdC_cg C1 g2
    have s2 : c + 22 ≤ h2.2.1 := by have := f2.2.1; omega
    have vc2 : v2 < c ∨ c + 22 ≤ v2 := by omega
    obtain ⟨a8_2, a10_2, a12_2, a14_2, a16_2⟩ := zCdC_at (sv := sv) (d := d + 5) C2 hx
    obtain ⟨r8_2, r10_2, r12_2, r14_2, r16_2, _⟩ := zCdC_rr C2
    have c0_2 := C2.1
    obtain ⟨h3, v3, B3, q3, e3, b3, w3, f3, l3, l3'⟩ := d_115 (sv := sv) (d := d) (k := b) hs D2 b2 (by omega) (by simp only [List.length_append]; omega)
    have D3 := zDg_bo D2 kb2.1 kb2.2 f3
    have kb3 := zBl_k b3
    have rc3 : ∀ X : zR, zrc (h3.1 r) 2 X = X := fun X => zBl_rc b3 X
    have g3 : zcg c (c + 22) h2 h3 := fun z z1 z2 => f3.1 z (by omega) (by omega) (by omega)
    have C3 := zCdC_cg C2 g3
    have s3 : c + 22 ≤ h3.2.1 := by have := f3.2.1; omega
    have vc3 : v3 < c ∨ c + 22 ≤ v3 := by omega
    obtain ⟨a8_3, a10_3, a12_3, a14_3, a16_3⟩ := zCdC_at (sv := sv) (d := d + 5) C3 hx
    obtain ⟨r8_3, r10_3, r12_3, r14_3, r16_3, _⟩ := zCdC_rr C3
    have c0_3 := C3.1
    have z1 := f1
    have u1 := w1
    have z2 := zbo_tr z1 u1 f2
    have u2 : v2 = v ∨ h.2.1 ≤ v2 := by have := z1.2.1; omega
    have z3 := zbo_tr z2 u2 f3
    have u3 : v3 = v ∨ h.2.1 ≤ v3 := by have := z2.2.1; omega
    have hlen : (q1 ++ q2 ++ q3).length = ywil (nI 115, nI b, nI j, nI b, rr) := by
      simp only [List.length_append]
      unfold ywil
      rw [if_neg p4, if_neg p5, if_pos rfl]
      omega
    refine ⟨h3, v3, B3, q1 ++ q2 ++ q3, ?_, ?_, u3, z3, by rw [hlen]; exact Nat.le_refl _, by rw [hlen]; exact Nat.le_refl _⟩
    · simp (disch := first | exact znw_u | exact znw_i) only [zc_114, zs_114_0, zs_114_1, zs_114_4, zs_114_5, zs_114_8, zs_114_9, zs_114_10, zs_114_12, zs_114_15, zs_114_16, zs_114_17, zs_114_20, zs_114_21, zs_114_24, zs_114_25, zs_114_36, zs_114_37, zs_114_40, zs_114_41, zs_114_43, zs_114_46, zs_114_47, zs_114_48, zs_114_50, zs_114_69, zs_114_70, zs_114_72, zs_114_92, zs_114_93, zs_114_95, zs_114_98, zs_114_99, zs_114_102, zs_114_103, zs_114_106, zs_114_107, zs_114_110, zs_114_172, c0, zCdl, zrc_12, zf_12_0, zp_12_0, zp_12_0n, zf_12_1, zp_12_1, zp_12_1n, zf_12_2, zp_12_2, zp_12_2n, zf_12_3, zp_12_3, zp_12_3n, zf_12_4, zp_12_4, zp_12_4n, zf_12_5, zp_12_5, zf_12_6, zp_12_6, zp_12_6n, zf_12_7, zp_12_7, zp_12_7n, zf_12_8, zp_12_8, zp_12_8n, zf_12_9, zp_12_9, rc, a8, a10, a12, a14, a16, r8, r10, r12, r14, r16, a8_1, a10_1, a12_1, a14_1, a16_1, r8_1, r10_1, r12_1, r14_1, r16_1, c0_1, rc1, e1, a8_2, a10_2, a12_2, a14_2, a16_2, r8_2, r10_2, r12_2, r14_2, r16_2, c0_2, rc2, e2, a8_3, a10_3, a12_3, a14_3, a16_3, r8_3, r10_3, r12_3, r14_3, r16_3, c0_3, rc3, e3, zbk_v, zts_s, zts_n, if_neg p4, if_neg p5, nI_add, ↓reduceIte, List.cons_append, List.nil_append]
    · simpa only [List.append_assoc] using b3
  · obtain ⟨k, b', nn, ll, rr⟩ := x
    obtain ⟨gk, ⟨xx, hxx, exx⟩, ⟨yy, hyy, eyy⟩⟩ := g
    have gk : yis k = true := gk
    have exx : ll = nI xx := exx
    have eyy : rr = nI yy := eyy
    subst exx eyy
    have eb : b' = nI b := eb
    subst eb
    obtain ⟨n1, n2, n3, n4⟩ := yis_ne gk
    obtain ⟨kk, hkk, ekk, ck⟩ : ∃ kk, kk < 128 ∧ k = nI kk ∧ ((nI kk).toUInt32 % 65536).toInt32 = nI kk := yis_ch gk
    subst ekk
    obtain ⟨h1, v1, B1, q1, e1, b1, w1, f1, l1, l1'⟩ := d_115 (sv := sv) (d := d) (k := b) hs hD hb (by omega) (by omega)
    have D1 := zDg_bo hD kb.1 kb.2 f1
    have kb1 := zBl_k b1
    have rc1 : ∀ X : zR, zrc (h1.1 r) 2 X = X := fun X => zBl_rc b1 X
    have g1 : zcg c (c + 22) h h1 := fun z z1 z2 => f1.1 z (by omega) (by omega) (by omega)
    have C1 := zCdC_cg hc g1
    have s1 : c + 22 ≤ h1.2.1 := by have := f1.2.1; omega
    have vc1 : v1 < c ∨ c + 22 ≤ v1 := by omega
    obtain ⟨a8_1, a10_1, a12_1, a14_1, a16_1⟩ := zCdC_at (sv := sv) (d := d + 5) C1 hx
    obtain ⟨r8_1, r10_1, r12_1, r14_1, r16_1, _⟩ := zCdC_rr C1
    have c0_1 := C1.1
    obtain ⟨h2, v2, B2, q2, e2, b2, w2, f2, l2, l2'⟩ := d_15 (sv := sv) (d := d + 1) (k := 61) hs b1 (by simp only [List.length_append]; omega) (by decide)
    have D2 := zDg_bo D1 kb1.1 kb1.2 f2
    have kb2 := zBl_k b2
    have rc2 : ∀ X : zR, zrc (h2.1 r) 2 X = X := fun X => zBl_rc b2 X
    have g2 : zcg c (c + 22) h1 h2 := fun z z1 z2 => f2.1 z (by omega) (by omega) (by omega)
    have C2 := zCdC_cg C1 g2
    have s2 : c + 22 ≤ h2.2.1 := by have := f2.2.1; omega
    have vc2 : v2 < c ∨ c + 22 ≤ v2 := by omega
    obtain ⟨a8_2, a10_2, a12_2, a14_2, a16_2⟩ := zCdC_at (sv := sv) (d := d + 5) C2 hx
    obtain ⟨r8_2, r10_2, r12_2, r14_2, r16_2, _⟩ := zCdC_rr C2
    have c0_2 := C2.1
    obtain ⟨h3, v3, B3, q3, e3, b3, w3, f3, l3, l3'⟩ := d_115 (sv := sv) (d := d) (k := xx) hs D2 b2 (by omega) (by simp only [List.length_append]; omega)
    have D3 := zDg_bo D2 kb2.1 kb2.2 f3
    have kb3 := zBl_k b3
    have rc3 : ∀ X : zR, zrc (h3.1 r) 2 X = X := fun X => zBl_rc b3 X
    have g3 : zcg c (c + 22) h2 h3 := fun z z1 z2 => f3.1 z (by omega) (by omega) (by omega)
    have C3 := zCdC_cg C2 g3
    have s3 : c + 22 ≤ h3.2.1 := by have := f3.2.1; omega
    have vc3 : v3 < c ∨ c + 22 ≤ v3 := by omega
    obtain ⟨a8_3, a10_3, a12_3, a14_3, a16_3⟩ := zCdC_at (sv := sv) (d := d + 5) C3 hx
    obtain ⟨r8_3, r10_3, r12_3, r14_3, r16_3, _⟩ := zCdC_rr C3
    have c0_3 := C3.1
    obtain ⟨h4, v4, B4, q4, e4, b4, w4, f4, l4, l4'⟩ := d_15 (sv := sv) (d := d + 1) (k := kk) hs b3 (by simp only [List.length_append]; omega) hkk
    have D4 := zDg_bo D3 kb3.1 kb3.2 f4
    have kb4 := zBl_k b4
    have rc4 : ∀ X : zR, zrc (h4.1 r) 2 X = X := fun X => zBl_rc b4 X
    have g4 : zcg c (c + 22) h3 h4 := fun z z1 z2 => f4.1 z (by omega) (by omega) (by omega)
    have C4 := zCdC_cg C3 g4
    have s4 : c + 22 ≤ h4.2.1 := by have := f4.2.1; omega
    have vc4 : v4 < c ∨ c + 22 ≤ v4 := by omega
    obtain ⟨a8_4, a10_4, a12_4, a14_4, a16_4⟩ := zCdC_at (sv := sv) (d := d + 5) C4 hx
    obtain ⟨r8_4, r10_4, r12_4, r14_4, r16_4, _⟩ := zCdC_rr C4
    have c0_4 := C4.1
    obtain ⟨h5, v5, B5, q5, e5, b5, w5, f5, l5, l5'⟩ := d_115 (sv := sv) (d := d) (k := yy) hs D4 b4 (by omega) (by simp only [List.length_append]; omega)
    have D5 := zDg_bo D4 kb4.1 kb4.2 f5
    have kb5 := zBl_k b5
    have rc5 : ∀ X : zR, zrc (h5.1 r) 2 X = X := fun X => zBl_rc b5 X
    have g5 : zcg c (c + 22) h4 h5 := fun z z1 z2 => f5.1 z (by omega) (by omega) (by omega)
    have C5 := zCdC_cg C4 g5
    have s5 : c + 22 ≤ h5.2.1 := by have := f5.2.1; omega
    have vc5 : v5 < c ∨ c + 22 ≤ v5 := by omega
    obtain ⟨a8_5, a10_5, a12_5, a14_5, a16_5⟩ := zCdC_at (sv := sv) (d := d + 5) C5 hx
    obtain ⟨r8_5, r10_5, r12_5, r14_5, r16_5, _⟩ := zCdC_rr C5
    have c0_5 := C5.1
    have z1 := f1
    have u1 := w1
    have z2 := zbo_tr z1 u1 f2
    have u2 : v2 = v ∨ h.2.1 ≤ v2 := by have := z1.2.1; omega
    have z3 := zbo_tr z2 u2 f3
    have u3 : v3 = v ∨ h.2.1 ≤ v3 := by have := z2.2.1; omega
    have z4 := zbo_tr z3 u3 f4
    have u4 : v4 = v ∨ h.2.1 ≤ v4 := by have := z3.2.1; omega
    have z5 := zbo_tr z4 u4 f5
    have u5 : v5 = v ∨ h.2.1 ≤ v5 := by have := z4.2.1; omega
    have hlen : (q1 ++ q2 ++ q3 ++ q4 ++ q5).length = ywil (nI kk, nI b, nn, nI xx, nI yy) := by
      simp only [List.length_append]
      unfold ywil
      rw [if_neg n1, if_neg n2, if_neg n4, if_neg n3]
      omega
    refine ⟨h5, v5, B5, q1 ++ q2 ++ q3 ++ q4 ++ q5, ?_, ?_, u5, z5, by rw [hlen]; exact Nat.le_refl _, by rw [hlen]; exact Nat.le_refl _⟩
    · simp (disch := first | exact znw_u | exact znw_i) only [zc_114, zs_114_0, zs_114_1, zs_114_4, zs_114_5, zs_114_8, zs_114_9, zs_114_10, zs_114_12, zs_114_28, zs_114_29, zs_114_32, zs_114_33, zs_114_36, zs_114_37, zs_114_40, zs_114_41, zs_114_43, zs_114_46, zs_114_47, zs_114_48, zs_114_50, zs_114_69, zs_114_70, zs_114_72, zs_114_92, zs_114_93, zs_114_95, zs_114_113, zs_114_114, zs_114_116, zs_114_141, zs_114_142, zs_114_145, zs_114_146, zs_114_149, zs_114_150, zs_114_153, zs_114_154, zs_114_155, zs_114_156, zs_114_159, zs_114_160, zs_114_161, zs_114_164, zs_114_165, zs_114_168, zs_114_169, zs_114_172, c0, zCdl, zrc_12, zf_12_0, zp_12_0, zp_12_0n, zf_12_1, zp_12_1, zp_12_1n, zf_12_2, zp_12_2, zp_12_2n, zf_12_3, zp_12_3, zp_12_3n, zf_12_4, zp_12_4, zp_12_4n, zf_12_5, zp_12_5, zf_12_6, zp_12_6, zp_12_6n, zf_12_7, zp_12_7, zp_12_7n, zf_12_8, zp_12_8, zp_12_8n, zf_12_9, zp_12_9, rc, a8, a10, a12, a14, a16, r8, r10, r12, r14, r16, a8_1, a10_1, a12_1, a14_1, a16_1, r8_1, r10_1, r12_1, r14_1, r16_1, c0_1, rc1, e1, a8_2, a10_2, a12_2, a14_2, a16_2, r8_2, r10_2, r12_2, r14_2, r16_2, c0_2, rc2, e2, a8_3, a10_3, a12_3, a14_3, a16_3, r8_3, r10_3, r12_3, r14_3, r16_3, c0_3, rc3, e3, a8_4, a10_4, a12_4, a14_4, a16_4, r8_4, r10_4, r12_4, r14_4, r16_4, c0_4, rc4, e4, a8_5, a10_5, a12_5, a14_5, a16_5, r8_5, r10_5, r12_5, r14_5, r16_5, c0_5, rc5, e5, zbk_v, zts_s, zts_n, if_neg n1, if_neg n2, if_neg n3, if_neg n4, ck, ↓reduceIte, List.cons_append, List.nil_append]
    · simpa only [List.append_assoc] using b5
end ZSD
