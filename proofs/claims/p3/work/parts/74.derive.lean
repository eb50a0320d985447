section ZDR
variable {sv : Nat → Value} {d : Nat}
theorem d_93l {f m o al : Nat} {ns : List yN} {c : Int32} (hwf : ywf ns) (hn : ns.length ≤ 31) (h1 : f + 9 ≤ o ∨ o + 9 ≤ f) (h2 : f + 9 ≤ al ∨ al + 3 ≤ f) (h3 : o + 9 ≤ al ∨ al + 3 ≤ o) {B : Nat} (hB : ∀ (j : Nat) (t : yT), (ytm ns)[j]? = some t → ydp (yder c t) ≤ B) : ∀ n i (h : zH) (e0 : List yN) (P : List Int32), i + n = ns.length → e0.length ≤ 3 * i → ywf (ns ++ e0) → yBd B (ns ++ e0) → zTre h f m ns → zTre h o 124 (ns ++ e0) → zAl h al P → yP2 (yder c) ns (ns ++ e0) P i → ∃ h' e' P', zrun zP sv (zcall zP sv (d + 4)) 93 8 [.val (.ref al), .val (.ref f), .val (.int c), .val (.ref o), .val (.int (nI i))] [] h = zrun zP sv (zcall zP sv (d + 4)) 93 41 [.val (.ref al), .val (.ref f), .val (.int c), .val (.ref o), .val (.int (nI ns.length))] [] h' ∧ e'.length ≤ 3 * ns.length ∧ ywf (ns ++ e') ∧ yBd B (ns ++ e') ∧ zTre h' o 124 (ns ++ e') ∧ zAl h' al P' ∧ yP2 (yder c) ns (ns ++ e') P' ns.length ∧ zf2 o (o + 9) al (al + 3) h h' := by
  intro n
  induction n with
  | zero =>
    intro i h e0 P hi he hw hbd hf ho ha hp
    obtain rfl : i = ns.length := by omega
    refine ⟨h, e0, P, ?_, he, hw, hbd, ho, ha, hp, zf2_rfl⟩
    rw [zs_93_8, zs_93_10, zs_93_11, zTre_rc hf, d_182 hf, zbk_v, zts_s, zs_93_14, if_neg (nI_nlt (Nat.le_refl _) hwf.1)]
  | succ n ih =>
    intro i h e0 P hi he hw hbd hf ho ha hp
    have hl := hwf.1
    have hlen : (ns ++ e0).length = ns.length + e0.length := List.length_append
    obtain ⟨nd, hnd⟩ := ynd_ex (ns := ns) (i := i) (by omega)
    obtain ⟨h1', e, x, e1, w1, w2, w3, w4, w5, f1, fB⟩ := d_94 (sv := sv) (d := d) hf hwf hnd ha hp ho hw (by omega) h3
    have hb2 := fB B hbd (hB i _ (ytm_at hwf hnd))
    rw [List.append_assoc] at w1 w3 w4 w5 hb2
    have a1 := zAl_fr ha f1 (by omega)
    have e2 := d_166 (sv := sv) (d := d + 3) (x := nI i) (y := x) a1.2.1
    have a2 := zAl_set (x := x) a1 (show i < 2 ^ 31 by omega)
    have f2 : zfr al (al + 3) h1' (zup h1' (al + 1 + 1) (20, (ys P (nI i) x).map Value.int)) := zfr_up (by omega) (by omega)
    have p0 := yP2_app (e := e) hp (by omega)
    rw [List.append_assoc] at p0
    have p1 := yP2_s p0 (ytm_at hwf hnd) (by rw [ha.2.2]; omega) w4 w5
    have hq := zf2_tr (zf2_1 (c := al) (e := al + 3) f1) (zf2_2 (a := o) (b := o + 9) f2)
    obtain ⟨h', e', P', e3, v1, v2, vB, v3, v4, v5, v6⟩ := ih (i + 1) _ (e0 ++ e) (P.set i x) (by omega) (by rw [List.length_append]; omega) w3 hb2 (zTre_cg hf (zcg_f2 hq (by omega) (by omega))) (zTre_fr w1 f2 (by omega)) a2 p1
    refine ⟨h', e', P', ?_, v1, v2, vB, v3, v4, v5, zf2_tr hq v6⟩
    have q0 := ha.1
    rw [zs_93_8, zs_93_10, zs_93_11, zTre_rc hf, d_182 hf, zbk_v, zts_s, zs_93_14, if_pos (nI_lt (by omega) hl)]
    simp only [zs_93_0, zs_93_0n, zs_93_1, zs_93_1n, zs_93_2, zs_93_5, zs_93_6, zs_93_10, zs_93_10n, zs_93_11, zs_93_14, zs_93_17, zs_93_17n, zs_93_18, zs_93_21, zs_93_23, zs_93_23n, zs_93_24, zs_93_24n, zs_93_25, zs_93_27, zs_93_28, zs_93_28n, zs_93_29, zs_93_32, zs_93_35, zs_93_42, zs_93_42n, zs_93_43, zs_93_46, zs_93_49, q0, zrc_9, zf_9_0, zp_9_0, zp_9_0n, zAl_rc ha, e1, zRow_rc a1.2.1, e2, zbk_v, zts_s, zts_n]
    rw [zs_93_38, nI_1', e3]
theorem d_93 {h : zH} {f m o al : Nat} {ns ms : List yN} {P : List Int32} {c : Int32} (hwf : ywf ns) (hn : ns.length ≤ 31) (h0 : 0 < ns.length) (h1 : f + 9 ≤ o ∨ o + 9 ≤ f) (h2 : f + 9 ≤ al ∨ al + 3 ≤ f) (h3 : o + 9 ≤ al ∨ al + 3 ≤ o) (hf : zTre h f m ns) (ho : zTre h o 124 ms) (ha : zAl h al P) {B : Nat} (hB : ∀ (j : Nat) (t : yT), (ytm ns)[j]? = some t → ydp (yder c t) ≤ B) (hB2 : yBd B ns) : ∃ h' os' P' x, zcall zP sv (d + 5) 93 [.ref al, .ref f, .int c, .ref o] h = some (.inl (some (.int x)), h') ∧ os'.length ≤ 124 ∧ ywf os' ∧ yBd B os' ∧ zTre h' o 124 os' ∧ zAl h' al P' ∧ ych os'.length x ∧ ygt (ytm os') x = yder c (ygt (ytm ns) (nI (ns.length - 1))) ∧ zf2 o (o + 9) al (al + 3) h h' := by
  have hl := hwf.1
  obtain ⟨h1', e1, w1, f1⟩ := d_195 (sv := sv) (d := d + 1) ho hf (by omega) (by omega)
  obtain ⟨h', e', P', e2, v1, v2, vB, v3, v4, v5, v6⟩ := d_93l (sv := sv) (d := d) (c := c) hwf hn h1 h2 h3 hB ns.length 0 h1' [] P (Nat.zero_add _) (Nat.zero_le _) (by rw [List.append_nil]; exact hwf) (by rw [List.append_nil]; exact hB2) (zTre_fr hf f1 (by omega)) (by rw [List.append_nil]; exact w1) (zAl_fr ha f1 (by omega)) yP2_0
  rw [nI_0] at e2
  have hsb : nI ns.length - nI 1 = nI (ns.length - 1) := by
    conv => lhs; rw [show ns.length = ns.length - 1 + 1 by omega, ← nI_add, Int32.add_sub_cancel]
  have hf' := zTre_cg (zTre_fr hf f1 (by omega)) (zcg_f2 v6 (by omega) (by omega))
  obtain ⟨x, ex, x1, x2⟩ := d_91 (sv := sv) (d := d + 2) v4 v5 (Or.inr ⟨ns.length - 1, by omega, rfl⟩) (Nat.le_refl _) hl rfl
  refine ⟨h', ns ++ e', P', x, ?_, by rw [List.length_append]; omega, v2, vB, v3, v4, x1, x2, zf2_tr (zf2_1 f1) v6⟩
  rw [zc_93, zs_93_0, zs_93_1, zs_93_2, zTre_rc ho, e1, zbk_v, zts_n, zs_93_5, zs_93_6 znw_u, e2]
  simp only [zs_93_0, zs_93_0n, zs_93_1, zs_93_1n, zs_93_2, zs_93_5, zs_93_6, zs_93_8, zs_93_10, zs_93_10n, zs_93_11, zs_93_14, zs_93_17, zs_93_17n, zs_93_18, zs_93_21, zs_93_23, zs_93_23n, zs_93_24, zs_93_24n, zs_93_25, zs_93_27, zs_93_28, zs_93_28n, zs_93_29, zs_93_32, zs_93_35, zs_93_38, zs_93_41, zs_93_41n, zs_93_42, zs_93_42n, zs_93_43, zs_93_46, zs_93_49, zTre_rc hf', d_183 hf', hsb, zAl_rc v4, ex, zbk_v, zts_s]
theorem d_92l {f m o al : Nat} {ns rs : List yN} {c : Int32} {b : Nat} {w : yT} (hwf : ywf ns) (hn : ns.length ≤ 31) (hr : rs.length ≤ 31) (hwr : ywf rs) (hb : b < rs.length) (hbw : ygt (ytm rs) (nI b) = w) (h1 : f + 9 ≤ o ∨ o + 9 ≤ f) (h2 : f + 9 ≤ al ∨ al + 3 ≤ f) (h3 : o + 9 ≤ al ∨ al + 3 ≤ o) {rp : Slot} : ∀ n i (h : zH) (e0 : List yN) (P : List Int32), i + n = ns.length → e0.length ≤ i → ywf (rs ++ e0) → zTre h f m ns → zTre h o 124 (rs ++ e0) → zAl h al P → yP2 (yins c w) ns (rs ++ e0) P i → ∃ h' e' P', zrun zP sv (zcall zP sv (d + 4)) 92 16 [.val (.ref al), .val (.ref f), .val (.int c), rp, .val (.ref o), .val (.int (nI b)), .val (.int (nI i))] [] h = zrun zP sv (zcall zP sv (d + 4)) 92 101 [.val (.ref al), .val (.ref f), .val (.int c), rp, .val (.ref o), .val (.int (nI b)), .val (.int (nI ns.length))] [] h' ∧ e'.length ≤ ns.length ∧ ywf (rs ++ e') ∧ zTre h' o 124 (rs ++ e') ∧ zAl h' al P' ∧ yP2 (yins c w) ns (rs ++ e') P' ns.length ∧ zf2 o (o + 9) al (al + 3) h h' := by
  intro n
  induction n with
  | zero =>
    intro i h e0 P hi he hw hf ho ha hp
    obtain rfl : i = ns.length := by omega
    refine ⟨h, e0, P, ?_, he, hw, ho, ha, hp, zf2_rfl⟩
    simp only [zs_92_0, zs_92_0n, zs_92_2, zs_92_2n, zs_92_3, zs_92_6, zs_92_6n, zs_92_8, zs_92_11, zs_92_13, zs_92_14, zs_92_16, zs_92_18, zs_92_18n, zs_92_19, zs_92_22, zs_92_25, zs_92_25n, zs_92_26, zs_92_28, zs_92_29, zs_92_32, zs_92_35, zs_92_35n, zs_92_36, zs_92_39, zs_92_41, zs_92_43, zs_92_46, zs_92_49, zs_92_49n, zs_92_50, zs_92_53, zs_92_55, zs_92_55n, zs_92_57, zs_92_57n, zs_92_58, zs_92_60, zs_92_63, zs_92_63n, zs_92_64, zs_92_66, zs_92_69, zs_92_69n, zs_92_70, zs_92_70n, zs_92_71, zs_92_73, zs_92_76, zs_92_79, zs_92_79n, zs_92_80, zs_92_80n, zs_92_81, zs_92_83, zs_92_86, zs_92_89, zs_92_92, zs_92_95, zs_92_98, zs_92_102, zs_92_102n, zs_92_103, zs_92_106, zs_92_109, zTre_rc hf, d_182 hf, zbk_v, zts_s, if_neg (nI_nlt (Nat.le_refl ns.length) hwf.1)]
  | succ n ih =>
    intro i h e0 P hi he hw hf ho ha hp
    have hl := hwf.1
    have hlen : (rs ++ e0).length = rs.length + e0.length := List.length_append
    obtain ⟨nd, hnd⟩ := ynd_ex (ns := ns) (i := i) (by omega)
    have f0 : nI i < nI ns.length := nI_lt (by omega) hl
    have q0 := ha.1
    have e8 := d_188 (sv := sv) (d := d + 1) (c := c) hf hnd
    by_cases h5 : nd.1 = nI 118 ∧ nd.2.1 = c
    · rw [if_pos h5] at e8
      have e2 := d_166 (sv := sv) (d := d + 3) (x := nI i) (y := nI b) ha.2.1
      have a2 := zAl_set (x := nI b) ha (show i < 2 ^ 31 by omega)
      have f2 : zfr al (al + 3) h (zup h (al + 1 + 1) (20, (ys P (nI i) (nI b)).map Value.int)) := zfr_up (by omega) (by omega)
      have p1 := yP2_s hp (ytm_at hwf hnd) (by rw [ha.2.2]; omega) (Or.inr ⟨b, by omega, rfl⟩) (by rw [yins_mk, if_pos h5, ygt_pre hwr.1 (Or.inr ⟨b, hb, rfl⟩), hbw])
      have hq := zf2_2 (a := o) (b := o + 9) f2
      obtain ⟨h', e', P', e3, v1, v2, v3, v4, v5, v6⟩ := ih (i + 1) _ e0 (P.set i (nI b)) (by omega) (by omega) hw (zTre_fr hf f2 (by omega)) (zTre_fr ho f2 (by omega)) a2 p1
      refine ⟨h', e', P', ?_, v1, v2, v3, v4, v5, zf2_tr hq v6⟩
      simp only [zs_92_0, zs_92_0n, zs_92_2, zs_92_2n, zs_92_3, zs_92_6, zs_92_6n, zs_92_8, zs_92_11, zs_92_13, zs_92_14, zs_92_16, zs_92_18, zs_92_18n, zs_92_19, zs_92_22, zs_92_25, zs_92_25n, zs_92_26, zs_92_28, zs_92_29, zs_92_32, zs_92_35, zs_92_35n, zs_92_36, zs_92_39, zs_92_41, zs_92_43, zs_92_46, zs_92_49, zs_92_49n, zs_92_50, zs_92_53, zs_92_55, zs_92_55n, zs_92_57, zs_92_57n, zs_92_58, zs_92_60, zs_92_63, zs_92_63n, zs_92_64, zs_92_66, zs_92_69, zs_92_69n, zs_92_70, zs_92_70n, zs_92_71, zs_92_73, zs_92_76, zs_92_79, zs_92_79n, zs_92_80, zs_92_80n, zs_92_81, zs_92_83, zs_92_86, zs_92_89, zs_92_92, zs_92_95, zs_92_102, zs_92_102n, zs_92_103, zs_92_106, zs_92_109, zTre_rc hf, d_182 hf, if_pos f0, e8, nI_1e0, ↓reduceIte, q0, zrc_9, zf_9_0, zp_9_0, zp_9_0n, zAl_rc ha, zRow_rc ha.2.1, e2, zbk_v, zts_s, zts_n]
      rw [zs_92_98, nI_1', e3]
    · rw [if_neg h5] at e8
      have hc := hwf.2 i nd hnd
      obtain ⟨x, exu, x1, x2⟩ := d_91u (sv := sv) (al := al) hp hc.1 (by omega) hl rfl
      obtain ⟨y, eyu, y1, y2⟩ := d_91u (sv := sv) (al := al) hp hc.2 (by omega) hl rfl
      have ex := exu h (d + 2) ha
      have ey := eyu h (d + 2) ha
      obtain ⟨h1', e1, w1, f1⟩ := d_191 (sv := sv) (d := d + 2) (k := nd.1) (n := nd.2.1) (l := x) (r := y) ho (by omega)
      have w3 := ywf_snoc (nd := (nd.1, nd.2.1, x, y)) hw x1 y1 (by omega)
      have w4 : ygt (ytm (rs ++ e0 ++ [(nd.1, nd.2.1, x, y)])) (nI (rs ++ e0).length) = yins c w (ymk nd.1 nd.2.1 (ygt (ytm ns) nd.2.2.1) (ygt (ytm ns) nd.2.2.2)) := by
        rw [ygt_new (by omega), yins_mk, if_neg h5, ← x2, ← y2]
      have a1 := zAl_fr ha f1 (by omega)
      have e2 := d_166 (sv := sv) (d := d + 3) (x := nI i) (y := nI (rs ++ e0).length) a1.2.1
      have a2 := zAl_set (x := nI (rs ++ e0).length) a1 (show i < 2 ^ 31 by omega)
      have f2 : zfr al (al + 3) h1' (zup h1' (al + 1 + 1) (20, (ys P (nI i) (nI (rs ++ e0).length)).map Value.int)) := zfr_up (by omega) (by omega)
      have p1 := yP2_s (yP2_app (e := [(nd.1, nd.2.1, x, y)]) hp (by omega)) (ytm_at hwf hnd) (by rw [ha.2.2]; omega) ych_snoc w4
      have hq := zf2_tr (zf2_1 (c := al) (e := al + 3) f1) (zf2_2 (a := o) (b := o + 9) f2)
      rw [List.append_assoc] at w1 w3 p1
      obtain ⟨h', e', P', e3, v1, v2, v3, v4, v5, v6⟩ := ih (i + 1) _ (e0 ++ [(nd.1, nd.2.1, x, y)]) (P.set i (nI (rs ++ e0).length)) (by omega) (by rw [List.length_append]; show e0.length + 1 ≤ _; omega) w3 (zTre_cg hf (zcg_f2 hq (by omega) (by omega))) (zTre_fr w1 f2 (by omega)) a2 p1
      refine ⟨h', e', P', ?_, v1, v2, v3, v4, v5, zf2_tr hq v6⟩
      simp only [zs_92_0, zs_92_0n, zs_92_2, zs_92_2n, zs_92_3, zs_92_6, zs_92_6n, zs_92_8, zs_92_11, zs_92_13, zs_92_14, zs_92_16, zs_92_18, zs_92_18n, zs_92_19, zs_92_22, zs_92_25, zs_92_25n, zs_92_26, zs_92_28, zs_92_29, zs_92_32, zs_92_35, zs_92_35n, zs_92_36, zs_92_39, zs_92_41, zs_92_43, zs_92_46, zs_92_49, zs_92_49n, zs_92_50, zs_92_53, zs_92_55, zs_92_55n, zs_92_57, zs_92_57n, zs_92_58, zs_92_60, zs_92_63, zs_92_63n, zs_92_64, zs_92_66, zs_92_69, zs_92_69n, zs_92_70, zs_92_70n, zs_92_71, zs_92_73, zs_92_76, zs_92_79, zs_92_79n, zs_92_80, zs_92_80n, zs_92_81, zs_92_83, zs_92_86, zs_92_89, zs_92_92, zs_92_95, zs_92_102, zs_92_102n, zs_92_103, zs_92_106, zs_92_109, zTre_rc hf, zTre_rc ho, d_182 hf, if_pos f0, e8, ↓reduceIte, q0, zrc_9, zf_9_0, zp_9_0, zp_9_0n, zAl_rc ha, d_184 hf hnd, d_185 hf hnd, d_186 hf hnd, d_187 hf hnd, ex, ey, e1, zRow_rc a1.2.1, e2, zbk_v, zts_s, zts_n]
      rw [zs_92_98, nI_1', e3]
theorem d_92 {h : zH} {f m o al r mr : Nat} {ns ms rs : List yN} {P : List Int32} {c : Int32} (hwf : ywf ns) (hn : ns.length ≤ 31) (h0 : 0 < ns.length) (hwr : ywf rs) (hr : rs.length ≤ 31) (hr0 : 0 < rs.length) (h1 : f + 9 ≤ o ∨ o + 9 ≤ f) (h2 : f + 9 ≤ al ∨ al + 3 ≤ f) (h3 : o + 9 ≤ al ∨ al + 3 ≤ o) (h4 : o + 9 ≤ r ∨ r + 9 ≤ o) (hf : zTre h f m ns) (hrt : zTre h r mr rs) (ho : zTre h o 124 ms) (ha : zAl h al P) : ∃ h' os' P' x, zcall zP sv (d + 5) 92 [.ref al, .ref f, .int c, .ref r, .ref o] h = some (.inl (some (.int x)), h') ∧ os'.length ≤ 62 ∧ ywf os' ∧ zTre h' o 124 os' ∧ zAl h' al P' ∧ ych os'.length x ∧ ygt (ytm os') x = yins c (ygt (ytm rs) (nI (rs.length - 1))) (ygt (ytm ns) (nI (ns.length - 1))) ∧ zf2 o (o + 9) al (al + 3) h h' := by
  have hl := hwf.1
  obtain ⟨h1', e1, w1, f1⟩ := d_195 (sv := sv) (d := d + 1) ho hrt (by omega) (by omega)
  have hsb : ∀ n, 0 < n → nI n - nI 1 = nI (n - 1) := fun n hn => by
    conv => lhs; rw [show n = n - 1 + 1 by omega, ← nI_add, Int32.add_sub_cancel]
  obtain ⟨h', e', P', e2, v1, v2, v3, v4, v5, v6⟩ := d_92l (sv := sv) (d := d) (c := c) (rp := .val (.ref r)) hwf hn hr hwr (show rs.length - 1 < rs.length by omega) rfl h1 h2 h3 ns.length 0 h1' [] P (Nat.zero_add _) (Nat.zero_le _) (by rw [List.append_nil]; exact hwr) (zTre_fr hf f1 (by omega)) (by rw [List.append_nil]; exact w1) (zAl_fr ha f1 (by omega)) yP2_0
  rw [nI_0] at e2
  have hf' := zTre_cg (zTre_fr hf f1 (by omega)) (zcg_f2 v6 (by omega) (by omega))
  obtain ⟨x, ex, x1, x2⟩ := d_91 (sv := sv) (d := d + 2) v4 v5 (Or.inr ⟨ns.length - 1, by omega, rfl⟩) (Nat.le_refl _) hl rfl
  refine ⟨h', rs ++ e', P', x, ?_, by rw [List.length_append]; omega, v2, v3, v4, x1, x2, zf2_tr (zf2_1 f1) v6⟩
  rw [zc_92]
  simp (disch := exact znw_u) only [zs_92_0, zs_92_0n, zs_92_2, zs_92_2n, zs_92_3, zs_92_6, zs_92_6n, zs_92_8, zs_92_11, zs_92_13, zs_92_14, zs_92_18, zs_92_18n, zs_92_19, zs_92_22, zs_92_25, zs_92_25n, zs_92_26, zs_92_28, zs_92_29, zs_92_32, zs_92_35, zs_92_35n, zs_92_36, zs_92_39, zs_92_41, zs_92_43, zs_92_46, zs_92_49, zs_92_49n, zs_92_50, zs_92_53, zs_92_55, zs_92_55n, zs_92_57, zs_92_57n, zs_92_58, zs_92_60, zs_92_63, zs_92_63n, zs_92_64, zs_92_66, zs_92_69, zs_92_69n, zs_92_70, zs_92_70n, zs_92_71, zs_92_73, zs_92_76, zs_92_79, zs_92_79n, zs_92_80, zs_92_80n, zs_92_81, zs_92_83, zs_92_86, zs_92_89, zs_92_92, zs_92_95, zs_92_98, zs_92_101, zs_92_101n, zs_92_102, zs_92_102n, zs_92_103, zs_92_106, zs_92_109, zTre_rc ho, e1, zTre_rc w1, d_183 w1, hsb _ hr0, e2, zbk_v, zts_s, zts_n]
  simp only [zs_92_0, zs_92_0n, zs_92_2, zs_92_2n, zs_92_3, zs_92_6, zs_92_6n, zs_92_8, zs_92_11, zs_92_13, zs_92_14, zs_92_16, zs_92_18, zs_92_18n, zs_92_19, zs_92_22, zs_92_25, zs_92_25n, zs_92_26, zs_92_28, zs_92_29, zs_92_32, zs_92_35, zs_92_35n, zs_92_36, zs_92_39, zs_92_41, zs_92_43, zs_92_46, zs_92_49, zs_92_49n, zs_92_50, zs_92_53, zs_92_55, zs_92_55n, zs_92_57, zs_92_57n, zs_92_58, zs_92_60, zs_92_63, zs_92_63n, zs_92_64, zs_92_66, zs_92_69, zs_92_69n, zs_92_70, zs_92_70n, zs_92_71, zs_92_73, zs_92_76, zs_92_79, zs_92_79n, zs_92_80, zs_92_80n, zs_92_81, zs_92_83, zs_92_86, zs_92_89, zs_92_92, zs_92_95, zs_92_98, zs_92_101, zs_92_101n, zs_92_102, zs_92_102n, zs_92_103, zs_92_106, zs_92_109, zTre_rc hf', d_183 hf', hsb _ h0, zAl_rc v4, ex, zbk_v, zts_s]
end ZDR
