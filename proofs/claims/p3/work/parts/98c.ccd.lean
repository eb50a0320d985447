section ZRC
variable {sv : Nat → Value} {d : Nat}
theorem d_108 {c t mt M : Nat} {ns : List yN} (hd : t + 9 ≤ c ∨ c + 22 ≤ t) (hw : ywf ns) : ∀ (n : Nat) (u : yT) (x : Int32) (D : Nat), ydp u ≤ n → ytw u = true → ych ns.length x → ygt (ytm ns) x = u → 2 * ydp u + 1 ≤ D → zTrC sv D c t mt M ns x u
  | 0, u, x, D, hn, ht, hx, hu, hD => by
    cases u with
    | leaf => cases ht
    | inner _ _ _ l r =>
      have : max (ydp l) (ydp r) + 1 ≤ 0 := hn
      omega
  | n + 1, u, x, D, hn, htw, hx, hu, hD => by
    intro b j ℓ q h A B C P hc ht hQ hq hj hL hb hM
    have hln := hw.1
    rcases hx with rfl | ⟨i, hi, rfl⟩
    · rw [ygt_n] at hu
      subst hu
      cases htw
    · obtain ⟨nd, hnd⟩ := ynd_ex hi
      have hch := ych_lt hw hnd
      rw [ygt_at hw hnd] at hu
      have e : u = .inner 0 nd.1 nd.2.1 (ygt (ytm ns) nd.2.2.1) (ygt (ytm ns) nd.2.2.2) := hu.symm
      generalize hle : ygt (ytm ns) nd.2.2.1 = l at *
      generalize hre : ygt (ytm ns) nd.2.2.2 = r at *
      subst e
      have hD' : 2 * (max (ydp l) (ydp r) + 1) + 1 ≤ D := hD
      have hn' : max (ydp l) (ydp r) + 1 ≤ n + 1 := hn
      have hj' : j + (max (ydp l) (ydp r) + 1) ≤ 8 := hj
      have hL' : ℓ + (max (ydp l) (ydp r) + 1) ≤ 41 := hL
      have hq' : q.length + 2 * (ysz l + ysz r + 1) ≤ 62 := hq
      obtain ⟨D, rfl⟩ : ∃ D', D = D' + 3 := ⟨D - 3, by omega⟩
      have crc : ∀ X : zR, zrc (h.1 c) 12 X = X := fun X => zCdC_rc hc
      have trc : ∀ X : zR, zrc (h.1 t) 6 X = X := fun X => zTre_rc ht
      have c40 : ¬ nI 40 < nI ℓ := nI_nlt (by omega) (by omega)
      have e184 : zcall zP sv (D + 2) 184 [.ref t, .int (nI i)] h = _ := d_184 (d := D) ht hnd
      have e185 : zcall zP sv (D + 2) 185 [.ref t, .int (nI i)] h = _ := d_185 (d := D) ht hnd
      have e83 : zcall zP sv (D + 2) 83 [.int nd.1] h = _ := d_83 (d := D + 1)
      have p9 : yis (nI 99) = false := by decide +kernel
      have p8 : yis (nI 118) = false := by decide +kernel
      have p0 : yis (nI 110) = false := by decide +kernel
      have q1 : ¬ nI 99 = nI 110 := by decide +kernel
      have q2 : ¬ nI 118 = nI 110 := by decide +kernel
      rcases ytw_el htw with g0 | g0 | g0 | g0
      · rw [yco_c (Or.inl g0.1)]
        obtain ⟨h1, e1, s1, f1⟩ := d_111 (sv := sv) (d := D) (k := nd.1) (r := nI b) (n := nd.2.1) (x := -1) (y := -1) hc (by omega)
        refine ⟨h1, ?_, s1, f1⟩
        rw [g0.1] at e83 e184 e1
        rw [p9, yb_f] at e83
        simp (disch := first | exact znw_u | exact znw_i) only [zc_108, zs_108_0, zs_108_2, zs_108_4, zs_108_7, zs_108_8, zs_108_8n, zs_108_9, zs_108_10, zs_108_13, zs_108_15, zs_108_17, zs_108_20, zs_108_23, zs_108_23n, zs_108_24, zs_108_24n, zs_108_25, zs_108_26, zs_108_27, zs_108_29, zs_108_32, zs_108_35, zs_108_37, zs_108_39, zs_108_42, zs_108_42n, zs_108_43, zs_108_43n, zs_108_44, zs_108_44n, zs_108_45, zs_108_46, zs_108_49, zs_108_50, zs_108_52, zs_108_53, zs_108_54, zs_108_57, zs_108_57n, zs_108_58, zs_108_60, zs_108_61, zs_108_62, zs_108_63, zs_108_64, zs_108_67, zs_108_70, zs_108_70n, zs_108_71, zs_108_73, zs_108_74, zs_108_74n, zs_108_75, zs_108_76, zs_108_79, zs_108_80, zs_108_81, zs_108_84, if_neg c40, crc, trc, e184, e185, e83, e1, if_neg q1, zbk_v, zts_s, zts_n, ↓reduceIte, List.cons_append, List.nil_append]
      · rw [yco_c (Or.inr g0.1)]
        obtain ⟨h1, e1, s1, f1⟩ := d_111 (sv := sv) (d := D) (k := nd.1) (r := nI b) (n := nd.2.1) (x := -1) (y := -1) hc (by omega)
        refine ⟨h1, ?_, s1, f1⟩
        rw [g0.1] at e83 e184 e1
        rw [p8, yb_f] at e83
        simp (disch := first | exact znw_u | exact znw_i) only [zc_108, zs_108_0, zs_108_2, zs_108_4, zs_108_7, zs_108_8, zs_108_8n, zs_108_9, zs_108_10, zs_108_13, zs_108_15, zs_108_17, zs_108_20, zs_108_23, zs_108_23n, zs_108_24, zs_108_24n, zs_108_25, zs_108_26, zs_108_27, zs_108_29, zs_108_32, zs_108_35, zs_108_37, zs_108_39, zs_108_42, zs_108_42n, zs_108_43, zs_108_43n, zs_108_44, zs_108_44n, zs_108_45, zs_108_46, zs_108_49, zs_108_50, zs_108_52, zs_108_53, zs_108_54, zs_108_57, zs_108_57n, zs_108_58, zs_108_60, zs_108_61, zs_108_62, zs_108_63, zs_108_64, zs_108_67, zs_108_70, zs_108_70n, zs_108_71, zs_108_73, zs_108_74, zs_108_74n, zs_108_75, zs_108_76, zs_108_79, zs_108_80, zs_108_81, zs_108_84, if_neg c40, crc, trc, e184, e185, e83, e1, if_neg q2, zbk_v, zts_s, zts_n, ↓reduceIte, List.cons_append, List.nil_append]
      · obtain ⟨g1, gv, g2, g3⟩ := g0
        have e186 : zcall zP sv (D + 2) 186 [.ref t, .int (nI i)] h = _ := d_186 (d := D) ht hnd
        rw [g1, yco_n, ← List.append_assoc]
        have hld : max (ydp l) 0 = ydp l := Nat.max_eq_left (Nat.zero_le _)
        have hrz : ydp r = 0 := by rw [g3]; rfl
        have hrs : ysz r = 0 := by rw [g3]; rfl
        obtain ⟨h1, e1, s1, f1⟩ := d_108 (c := c) (t := t) (mt := mt) (M := M) hd hw n l nd.2.2.1 (D + 2) (by omega) g2 hch.1 hle (by omega) b j (ℓ + 1) q h A B C P hc ht hQ (by omega) (by omega) (by omega) hb hM
        have hlb := yco_len (M := M) (ysz l) l (Nat.le_refl _) g2 b j
        have crc1 : ∀ X : zR, zrc (h1.1 c) 12 X = X := fun X => zCdC_rc s1
        obtain ⟨h2, e2, s2, f2⟩ := d_111 (sv := sv) (d := D) (k := nI 110) (r := nI b) (n := 0) (x := nI b) (y := -1) s1 (by rw [List.length_append]; omega)
        refine ⟨h2, ?_, s2, zfr_tr f1 f2⟩
        rw [g1] at e83 e184
        rw [p0, yb_f] at e83
        simp (disch := first | exact znw_u | exact znw_i) only [zc_108, zs_108_0, zs_108_2, zs_108_4, zs_108_7, zs_108_8, zs_108_8n, zs_108_9, zs_108_10, zs_108_13, zs_108_15, zs_108_17, zs_108_20, zs_108_23, zs_108_23n, zs_108_24, zs_108_24n, zs_108_25, zs_108_26, zs_108_27, zs_108_29, zs_108_32, zs_108_35, zs_108_37, zs_108_39, zs_108_42, zs_108_42n, zs_108_43, zs_108_43n, zs_108_44, zs_108_44n, zs_108_45, zs_108_46, zs_108_49, zs_108_50, zs_108_52, zs_108_53, zs_108_54, zs_108_57, zs_108_57n, zs_108_58, zs_108_60, zs_108_61, zs_108_62, zs_108_63, zs_108_64, zs_108_67, zs_108_70, zs_108_70n, zs_108_71, zs_108_73, zs_108_74, zs_108_74n, zs_108_75, zs_108_76, zs_108_79, zs_108_80, zs_108_81, zs_108_84, if_neg c40, crc, crc1, trc, e184, e186, e83, e1, e2, nI_1', zbk_v, zts_s, zts_n, ↓reduceIte, List.cons_append, List.nil_append]
      · obtain ⟨gk, gv, g2, g3⟩ := g0
        have hlz := ytw_sz g2
        have Tl := d_108 (c := c) (t := t) (mt := mt) (M := M) hd hw n l nd.2.2.1 (D + 1) (by omega) g2 hch.1 hle (by omega)
        have Tr := d_108 (c := c) (t := t) (mt := mt) (M := M) hd hw n r nd.2.2.2 (D + 1) (by omega) g3 hch.2 hre (by omega)
        have hlr : 1 ≤ ydp l := by
          cases l with
          | leaf => cases g2
          | inner _ _ _ a b => show 1 ≤ max (ydp a) (ydp b) + 1; omega
        obtain ⟨D, rfl⟩ : ∃ D', D = D' + 1 := ⟨D - 1, by omega⟩
        obtain ⟨h1, e1, s1, f1⟩ := d_109 (sv := sv) (D := D) (M := M) (ℓ := ℓ) (b := b) hd (by rw [hle]; exact Tl) (by rw [hre]; exact Tr) hnd hw (by rw [hle]; exact g2) (by rw [hre]; exact g3) gk hc ht hQ (by rw [hle, hre]; omega) (by rw [hle, hre]; omega) (by rw [hle, hre]; omega) hb hM
        rw [hle, hre] at s1
        refine ⟨h1, ?_, s1, f1⟩
        rw [gk, yb_t] at e83
        simp (disch := first | exact znw_u | exact znw_i) only [zc_108, zs_108_0, zs_108_2, zs_108_4, zs_108_7, zs_108_8, zs_108_8n, zs_108_9, zs_108_10, zs_108_13, zs_108_15, zs_108_17, zs_108_20, zs_108_23, zs_108_23n, zs_108_24, zs_108_24n, zs_108_25, zs_108_26, zs_108_27, zs_108_29, zs_108_32, zs_108_35, zs_108_37, zs_108_39, zs_108_42, zs_108_42n, zs_108_43, zs_108_43n, zs_108_44, zs_108_44n, zs_108_45, zs_108_46, zs_108_49, zs_108_50, zs_108_52, zs_108_53, zs_108_54, zs_108_57, zs_108_57n, zs_108_58, zs_108_60, zs_108_61, zs_108_62, zs_108_63, zs_108_64, zs_108_67, zs_108_70, zs_108_70n, zs_108_71, zs_108_73, zs_108_74, zs_108_74n, zs_108_75, zs_108_76, zs_108_79, zs_108_80, zs_108_81, zs_108_84, if_neg c40, crc, trc, e184, e83, e1, nI_1e0, zbk_v, zts_s, zts_n, ↓reduceIte, List.cons_append, List.nil_append]
theorem ybsy_00 {S : List Int32} (h7 : S.length = 7) (h0 : ∀ x, x ∈ S → x = 0) : S = ybsy 0 := by
  rw [show ybsy 0 = List.replicate 7 0 from rfl, ← h7]
  exact List.eq_replicate_iff.mpr ⟨rfl, h0⟩
theorem zCod_of {h : zH} {c : Nat} {q : List yI} {ma : Int32} {A B C P : List Int32} (hc : zCdC h c q ma A B C P 0) : zCod h c := by
  obtain ⟨c0, hg, ⟨K, R, N, L, E, ⟨k1, k2, k3, k4, k5⟩, ⟨l1, l2, l3, l4, l5⟩, _⟩, hb, hp, hpl⟩ := hc
  exact ⟨⟨nI q.length, ma, c0⟩, ⟨A, B, C, hg⟩, ⟨K, k1, l1⟩, ⟨R, k2, l2⟩, ⟨N, k3, l3⟩, ⟨L, k4, l4⟩, ⟨E, k5, l5⟩, ⟨_, hb, rfl, fun x hx => List.eq_of_mem_replicate hx⟩, ⟨P, hp, hpl⟩⟩
theorem d_107 {h : zH} {c t mt M : Nat} {u : yT} (hd : t + 9 ≤ c ∨ c + 22 ≤ t) (hc : zCod h c) (ht : zTre h t mt (ypo 0 u)) (hu : ytok u) (h1M : 1 ≤ M) (hM : M ≤ 4) : ∃ h' A B C P, zcall zP sv (d + 20) 107 [.ref c, .ref t, .int (nI M)] h = some (.inl none, h') ∧ zCdC h' c (yco M u 0 0) (nI M) A B C P 0 ∧ zfr c (c + 22) h h' := by
  obtain ⟨⟨le, ma, c0⟩, ⟨A, B, C, hg⟩, ⟨K, k1, l1⟩, ⟨R, k2, l2⟩, ⟨N, k3, l3⟩, ⟨L, k4, l4⟩, ⟨E, k5, l5⟩, ⟨S, hb, s7, s0⟩, ⟨P, hp, hpl⟩⟩ := hc
  have hS := ybsy_00 s7 s0
  subst hS
  obtain ⟨tw, t31, t8⟩ := hu
  obtain ⟨f1, f2, f3, f4⟩ := yform tw (by omega)
  obtain ⟨h1, C', e1, g1, r1, f5⟩ := d_125 (sv := sv) (d := d + 15) f1 (show c + 1 + 7 ≤ t ∨ t + 9 ≤ c + 1 by omega) (by omega) ht hg
  have ht1 := zTre_fr ht f5 (by omega)
  have c1 : h1.1 c = (12, [.ref (c + 8), .ref (c + 10), .ref (c + 12), .ref (c + 14), .ref (c + 16), .int le, .ref (c + 1), .ref (c + 18), .ref (c + 20), .int ma]) := by rw [f5.1 _ (by omega), c0]
  obtain ⟨h2, hh2⟩ : ∃ h2, h2 = zup (zup h1 c (zCdl c le (nI M))) c (zCdl c 0 (nI M)) := ⟨_, rfl⟩
  have f2' : ∀ z, z ≠ c → h2.1 z = h1.1 z := fun z hz => by rw [hh2, zup_ne hz, zup_ne hz]
  have fr2 : zfr c (c + 22) h1 h2 := ⟨fun z hz => f2' z (by omega), by rw [hh2]; rfl⟩
  have cg : ∀ lo hi, c < lo → hi ≤ c + 1 → zcg lo hi h h2 := fun lo hi a b z z1 z2 => by omega
  have f12 : ∀ z, c + 8 ≤ z → h2.1 z = h.1 z := fun z hz => by rw [f2' z (by omega), f5.1 z (by omega)]
  have s2 : zCdC h2 c [] (nI M) A B C' P 0 := ⟨by rw [hh2, zup_at]; show zCdl c 0 (nI M) = zCdl c (nI 0) (nI M); rw [nI_0], zGau_cg g1 (fun z z1 z2 => f2' z (by omega)), ⟨K, R, N, L, E, ⟨zRow_cg k1 (fun z z1 z2 => f12 z (by omega)), zRow_cg k2 (fun z z1 z2 => f12 z (by omega)), zRow_cg k3 (fun z z1 z2 => f12 z (by omega)), zRow_cg k4 (fun z z1 z2 => f12 z (by omega)), zRow_cg k5 (fun z z1 z2 => f12 z (by omega))⟩, ⟨l1, l2, l3, l4, l5⟩, ⟨rfl, rfl, rfl, rfl, rfl⟩, Nat.zero_le _⟩, zRow_cg hb (fun z z1 z2 => f12 z (by omega)), zRow_cg hp (fun z z1 z2 => f12 z (by omega)), hpl⟩
  have ht2 := zTre_fr ht1 fr2 (by omega)
  obtain ⟨h3, e3, s3, f6⟩ := d_108 (sv := sv) (c := c) (t := t) (mt := mt) (M := M) hd f1 (ydp u) u (nI (ysz u - 1)) (d + 19) (Nat.le_refl _) tw (Or.inr ⟨ysz u - 1, by rw [f3]; omega, rfl⟩) f2 (by omega) 0 0 1 [] h2 A B C' P s2 ht2 r1 (by show 0 + 2 * ysz u ≤ 62; omega) (by omega) (by omega) (by omega) hM
  rw [List.nil_append] at s3
  rw [nI_0] at e3
  have e183 : zcall zP sv (d + 19) 183 [.ref t] h2 = _ := d_183 (d := d + 18) ht2
  rw [yroot_sub f4] at e183
  have grc : ∀ X : zR, zrc (h.1 (c + 1)) 10 X = X := fun X => zGau_rc hg
  have trc : ∀ X : zR, zrc (h2.1 t) 6 X = X := fun X => zTre_rc ht2
  have crc : ∀ X : zR, zrc (h2.1 c) 12 X = X := fun X => zCdC_rc s2
  refine ⟨h3, A, B, C', P, ?_, s3, zfr_tr (zfr_tr (zfr_mono f5 (by omega) (by omega)) fr2) f6⟩
  rw [zCdl, zCdl] at hh2
  simp (disch := first | exact znw_u | exact znw_i) only [zc_107, zs_107_0, zs_107_0n, zs_107_1, zs_107_4, zs_107_4n, zs_107_5, zs_107_8, zs_107_9, zs_107_9n, zs_107_10, zs_107_11, zs_107_14, zs_107_14n, zs_107_15, zs_107_16, zs_107_19, zs_107_19n, zs_107_20, zs_107_20n, zs_107_21, zs_107_21n, zs_107_22, zs_107_25, zs_107_26, zs_107_27, zs_107_30, c0, c1, zrc_12, zf_12_0, zp_12_0, zp_12_0n, zf_12_1, zp_12_1, zp_12_1n, zf_12_2, zp_12_2, zp_12_2n, zf_12_3, zp_12_3, zp_12_3n, zf_12_4, zp_12_4, zp_12_4n, zf_12_5, zp_12_5, zf_12_6, zp_12_6, zp_12_6n, zf_12_7, zp_12_7, zp_12_7n, zf_12_8, zp_12_8, zp_12_8n, zf_12_9, zp_12_9, grc, trc, crc, e1, zup_at, ← hh2, e183, e3, zbk_v, zts_s, zts_n, ↓reduceIte, List.cons_append, List.nil_append]
end ZRC
