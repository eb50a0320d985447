def ythr (x : Nat) : zO := .inr x
/-- what addFormula does -/
def yaddF (w : yW) : zO × yW := match (yadd w.1).1 with
  | none => (.inr 1, yse (ysb w []) (nI (yadd w.1).2))
  | some t => if (ycur w).1.length = 6 then (.inr 0, ysb w []) else if ysz t ≤ 31 ∧ ydp t ≤ 8 then (.inl (some (.int (nI (ycur w).1.length))), ysc (yrec (ysb w [])) ((ycur w).1 ++ [t], (ycur w).2)) else (.inr 3, ysb w [])
theorem yidx_bd {os : List yN} : ∀ (n : Nat) (ns : List yN), ns.length = n → yBd n ns := by
  intro n
  induction n with
  | zero =>
    intro ns hn
    rw [List.length_eq_zero_iff.mp hn]
    exact yBd_nil
  | succ n ih =>
    intro ns hn
    have h0 : ns ≠ [] := by intro h1; rw [h1] at hn; cases hn
    have i1 := ih ns.dropLast (by rw [List.length_dropLast]; omega)
    rw [← List.dropLast_concat_getLast h0]
    have hx : ∀ x, ydp (ygt (ytm ns.dropLast) x) ≤ n := fun x => by
      unfold ygt
      split
      · exact Nat.zero_le _
      · rw [List.getD_eq_getElem?_getD]
        cases hc : (ytm ns.dropLast)[x.toNatClampNeg]? with
        | none => exact Nat.zero_le _
        | some t => exact i1 _ t hc
    refine yBd_snoc (fun j t ht => by have := i1 j t ht; omega) ?_
    rw [ydp_mk]
    have := hx (ns.getLast h0).2.2.1
    have := hx (ns.getLast h0).2.2.2
    omega
section ZED
variable {sv : Nat → Value} {d : Nat} {h : zH} {m : Nat} {w : yW}
theorem d_149 {p pos : Nat} {cs : List Int32} {ns : List yN} (hp : zPar h p cs pos ns) : zcall zP sv (d + 1) 149 [.ref p] h = some (.inl (some (.ref (p + 1))), h) := by
  simp only [zc_149, zs_149_0, zs_149_0n, zs_149_1, zs_149_4, zs_149_4n, hp.1, zrc_7, zf_7_0, zp_7_0, zp_7_0n, zf_7_1, zp_7_1, zp_7_1n, zf_7_2, zp_7_2]
theorem d_150 {p pos : Nat} {cs : List Int32} {ns : List yN} (hp : zPar h p cs pos ns) : zcall zP sv (d + 1) 150 [.ref p] h = some (.inl (some (.ref (p + 3))), h) := by
  simp only [zc_150, zs_150_0, zs_150_0n, zs_150_1, zs_150_4, zs_150_4n, hp.1, zrc_7, zf_7_0, zp_7_0, zp_7_0n, zf_7_1, zp_7_1, zp_7_1n, zf_7_2, zp_7_2]
theorem d_151 {p pos : Nat} {cs : List Int32} {ns : List yN} (hp : zPar h p cs pos ns) : zcall zP sv (d + 1) 151 [.ref p] h = some (.inl (some (.int (nI pos))), h) := by
  simp only [zc_151, zs_151_0, zs_151_0n, zs_151_1, zs_151_4, hp.1, zrc_7, zf_7_0, zp_7_0, zp_7_0n, zf_7_1, zp_7_1, zp_7_1n, zf_7_2, zp_7_2]
theorem d_26 (hc : zCls h m w) : zEnd h m (zcall zP sv (d + 47) 26 [.ref m] h) 9 134 (yaddF w).1 (yaddF w).2 := by
  have q1 := zCls_0 hc
  have hc' := hc
  have c0 := hc.1
  obtain ⟨pos, ns0, p1⟩ := hc.2.2.2.2.2.1
  obtain ⟨h1, ns, x, e1, w1, w2, w3, w4, f1, w5⟩ := d_152 (sv := sv) (d := d + 4) p1
  have C1 := zCls_par hc' (zfr_mono f1 (by omega) (by omega)) w1
  have q2 : h1.1 m = zECc m w.2.1 (yb w.2.2.1) := by rw [f1.1 m (by omega)]; exact q1
  obtain ⟨h2, e2, i2, f2⟩ := d_140 (sv := sv) (d := d + 45) w1.2.1
  have p2 : zPar h2 (m + 63) [] (yadd w.1).2 ns := ⟨by rw [f2.1 _ (by omega), w1.1], i2, zTre_fr w1.2.2 f2 (by omega)⟩
  have C2 := zCls_par C1 (zfr_mono f2 (by omega) (by omega)) p2
  have q3 : h2.1 m = zECc m w.2.1 (yb w.2.2.1) := by rw [f2.1 m (by omega)]; exact q2
  have f12 : zfr (m + 63) (m + 75) h h2 := zfr_tr (zfr_mono f1 (by omega) (by omega)) (zfr_mono f2 (by omega) (by omega))
  have e149 := d_149 (sv := sv) (d := d + 45) w1
  have e150 := d_150 (sv := sv) (d := d + 45) p2
  have q5 : ∀ X : zR, zrc (h2.1 m) 1 X = X := fun X => by rw [q3]; exact zrc_k
  unfold yaddF
  cases hr : (yadd w.1).1 with
  | none =>
    dsimp only
    rw [hr] at w5
    have hx : x = -1 := w5
    subst hx
    have e151 := d_151 (sv := sv) (d := d + 45) p2
    have C3 := zCls_ec (e := nI (yadd w.1).2) (b := w.2.2.1) C2
    obtain ⟨t1, t2⟩ := zthrow C3
    refine ⟨_, ?_, t1, zfx_mono (zfx_tr (zfx_tr (zfr_fx f12 (by omega) (by omega)) (zfr_fx (zfr_up (a := m) (lo := m) (hi := m + 1) (by omega) (by omega)) (by omega) (by omega))) t2) (Nat.le_refl _) (Nat.le_refl _) (by omega) (by omega)⟩
    simp (disch := exact znw_u) only [zc_26, zs_26_0, zs_26_0n, zs_26_1, zs_26_4, zs_26_7, zs_26_8, zs_26_8n, zs_26_9, zs_26_12, zs_26_15, zs_26_18, zs_26_19, zs_26_20, zs_26_23, zs_26_23n, zs_26_24, zs_26_24n, zs_26_25, zs_26_28, zs_26_31, zs_26_34, zs_26_44, zs_26_44n, zs_26_45, zs_26_48, zs_26_48n, zs_26_49, zs_26_49n, zs_26_50, zs_26_53, zs_26_56, zs_26_57, zs_26_60, zs_26_60n, zs_26_61, zs_26_64, zs_26_64n, zs_26_65, zs_26_68, zs_26_71, zs_26_71n, zs_26_72, zs_26_75, zs_26_75n, zs_26_76, zs_26_76n, zs_26_77, zs_26_80, zs_26_83, zs_26_84, zs_26_87, zs_26_90, q1, q2, q3, zECc, zrc_1, zf_1_0, zp_1_0, zp_1_0n, zf_1_1, zp_1_1, zf_1_2, zp_1_2, zp_1_2n, zf_1_3, zp_1_3, zp_1_3n, zf_1_4, zp_1_40, zp_1_41, zf_1_5, zp_1_5, zp_1_5n, zf_1_6, zp_1_6, zp_1_6n, zf_1_7, zp_1_7, zp_1_7n, zf_1_8, zp_1_8, zp_1_8n, zf_1_9, zp_1_9, zp_1_9n, zf_1_10, zp_1_10, zp_1_10n, zf_1_11, zp_1_11, zp_1_11n, zf_1_12, zp_1_12, zp_1_12n, zPar_rc p1, e1, zPar_rc w1, e149, zInp_rc w1.2.1, e2, nI_m1e, zPar_rc p2, e151, zbk_v, zts_s, zts_n, zext_of, ↓reduceIte]
  | some t =>
    dsimp only
    rw [hr] at w5
    have ok := yadd_ok hr
    have h60 := w1.2.1.2.2.1
    have e0 : zcall zP sv (d + 47) 26 [.ref m] h = zrun zP sv (zcall zP sv (d + 46)) 26 44 [.val (.ref m), .val (.int x)] [] h2 := by
      simp (disch := exact znw_u) only [zc_26, zs_26_0, zs_26_0n, zs_26_1, zs_26_4, zs_26_7, zs_26_8, zs_26_8n, zs_26_9, zs_26_12, zs_26_15, zs_26_18, zs_26_19, zs_26_20, zs_26_23, zs_26_23n, zs_26_24, zs_26_24n, zs_26_25, zs_26_28, zs_26_31, zs_26_34, zs_26_45, zs_26_48, zs_26_48n, zs_26_49, zs_26_49n, zs_26_50, zs_26_53, zs_26_56, zs_26_57, zs_26_60, zs_26_60n, zs_26_61, zs_26_64, zs_26_64n, zs_26_65, zs_26_68, zs_26_71, zs_26_71n, zs_26_72, zs_26_75, zs_26_75n, zs_26_76, zs_26_76n, zs_26_77, zs_26_80, zs_26_83, zs_26_84, zs_26_87, zs_26_90, q1, q2, zECc, zrc_1, zf_1_0, zp_1_0, zp_1_0n, zf_1_1, zp_1_1, zf_1_2, zp_1_2, zp_1_2n, zf_1_3, zp_1_3, zp_1_3n, zf_1_4, zp_1_40, zp_1_41, zf_1_5, zp_1_5, zp_1_5n, zf_1_6, zp_1_6, zp_1_6n, zf_1_7, zp_1_7, zp_1_7n, zf_1_8, zp_1_8, zp_1_8n, zf_1_9, zp_1_9, zp_1_9n, zf_1_10, zp_1_10, zp_1_10n, zf_1_11, zp_1_11, zp_1_11n, zf_1_12, zp_1_12, zp_1_12n, zPar_rc p1, e1, zPar_rc w1, e149, zInp_rc w1.2.1, e2, if_neg w5.1, zbk_v, zts_s, zts_n]
    rw [e0]
    by_cases hl : (ycur w).1.length = 6
    · rw [if_pos hl]
      obtain ⟨t1, t2⟩ := zthrow C2
      refine ⟨_, ?_, t1, zfx_mono (zfx_tr (zfr_fx f12 (by omega) (by omega)) t2) (Nat.le_refl _) (Nat.le_refl _) (by omega) (by omega)⟩
      have e3 := d_73n (sv := sv) (d := d + 44) C2 hl
      simp (disch := exact znw_u) only [zs_26_0, zs_26_0n, zs_26_1, zs_26_4, zs_26_7, zs_26_8, zs_26_8n, zs_26_9, zs_26_12, zs_26_15, zs_26_18, zs_26_19, zs_26_20, zs_26_23, zs_26_23n, zs_26_24, zs_26_24n, zs_26_25, zs_26_28, zs_26_31, zs_26_34, zs_26_44, zs_26_44n, zs_26_45, zs_26_48, zs_26_48n, zs_26_49, zs_26_49n, zs_26_50, zs_26_53, zs_26_56, zs_26_57, zs_26_60, zs_26_60n, zs_26_61, zs_26_64, zs_26_64n, zs_26_65, zs_26_68, zs_26_71, zs_26_71n, zs_26_72, zs_26_75, zs_26_75n, zs_26_76, zs_26_76n, zs_26_77, zs_26_80, zs_26_83, zs_26_84, zs_26_87, zs_26_90, q5, e3, zbk_x]
    · rw [if_neg hl]
      have hl6 : (ycur w).1.length ≤ 6 := by
        obtain ⟨S, s1, s2⟩ := hc'.2.2.1
        exact s2.2.2.1
      have e3 := d_73 (sv := sv) (d := d + 44) C2 (show (ycur w).1.length < 6 by omega)
      by_cases hf : ysz t ≤ 31 ∧ ydp t ≤ 8
      · rw [if_pos hf]
        obtain ⟨h3, e4, C3, f3⟩ := d_74E (sv := sv) (d := d + 41) (t := t) C2 p2.2.2 w2 (by omega) (by omega) w5.2.1 w5.2.2 (by omega) hf
        have ht3 := zTre_fr p2.2.2 f3 (by omega)
        obtain ⟨h4, h5, h6, e5, r5, q6, e6, q7, r7, e7, C6, f6, f4⟩ := d_app (sv := sv) (d := d + 1) (t := t) C3 ht3 w2 (by omega) (by omega) (by have := f3.2; rw [this, f12.2]; omega) (by omega) w5.2.1 w5.2.2 ⟨ok.1, hf⟩ (show (ycur w).1.length < 6 by omega)
        have q8 : h3.1 m = zECc m w.2.1 (yb w.2.2.1) := by rw [f3.1 m (by omega)]; exact q3
        have q9 : h4.1 m = zECc m w.2.1 (yb w.2.2.1) := q6
        have q10 : ∀ X : zR, zrc (h4.1 m) 1 X = X := fun X => by rw [q9]; exact zrc_k
        have q11 : ∀ X : zR, zrc (h3.1 m) 1 X = X := fun X => by rw [q8]; exact zrc_k
        have p4 := zPar_cg p2 (zcg_tr (zcg_fr f3 (by omega)) (zcg_fr f4 (by omega)))
        have e8 := d_150 (sv := sv) (d := d + 45) p4
        refine ⟨h6, ?_, C6, zfx_mono (zfx_tr (zfr_fx (zfr_tr (zfr_mono f12 (Nat.le_refl _) (by omega)) (zfr_mono f3 (by omega) (by omega)) : zfr (m + 63) (m + 85) h h3) (by omega) (by omega)) f6) (Nat.le_refl _) (Nat.le_refl _) (by omega) (by omega)⟩
        simp (disch := exact znw_u) only [zs_26_0, zs_26_0n, zs_26_1, zs_26_4, zs_26_7, zs_26_8, zs_26_8n, zs_26_9, zs_26_12, zs_26_15, zs_26_18, zs_26_19, zs_26_20, zs_26_23, zs_26_23n, zs_26_24, zs_26_24n, zs_26_25, zs_26_28, zs_26_31, zs_26_34, zs_26_44, zs_26_44n, zs_26_45, zs_26_48, zs_26_48n, zs_26_49, zs_26_49n, zs_26_50, zs_26_53, zs_26_56, zs_26_57, zs_26_60, zs_26_60n, zs_26_61, zs_26_64, zs_26_64n, zs_26_65, zs_26_68, zs_26_71, zs_26_71n, zs_26_72, zs_26_75, zs_26_75n, zs_26_76, zs_26_76n, zs_26_77, zs_26_80, zs_26_83, zs_26_84, zs_26_87, zs_26_90, q5, e3, q3, q8, q9, q10, q11, zECc, zrc_1, zf_1_0, zp_1_0, zp_1_0n, zf_1_1, zp_1_1, zf_1_2, zp_1_2, zp_1_2n, zf_1_3, zp_1_3, zp_1_3n, zf_1_4, zp_1_40, zp_1_41, zf_1_5, zp_1_5, zp_1_5n, zf_1_6, zp_1_6, zp_1_6n, zf_1_7, zp_1_7, zp_1_7n, zf_1_8, zp_1_8, zp_1_8n, zf_1_9, zp_1_9, zp_1_9n, zf_1_10, zp_1_10, zp_1_10n, zf_1_11, zp_1_11, zp_1_11n, zf_1_12, zp_1_12, zp_1_12n, zPar_rc p2, e150, e4, r5, e5, zPar_rc p4, e8, e6, r7, e7, zbk_v, zbk_x, zts_s, zts_n]
        rfl
      · rw [if_neg hf]
        obtain ⟨h3, e4, C3, f3⟩ := d_74n (sv := sv) (d := d + 41) (t := t) C2 p2.2.2 w2 (by omega) (by omega) w5.2.1 w5.2.2 (by omega) hf
        refine ⟨h3, ?_, C3, zfx_mono (zfx_tr (zfr_fx f12 (by omega) (by omega)) f3) (Nat.le_refl _) (Nat.le_refl _) (by omega) (by omega)⟩
        simp (disch := exact znw_u) only [zs_26_0, zs_26_0n, zs_26_1, zs_26_4, zs_26_7, zs_26_8, zs_26_8n, zs_26_9, zs_26_12, zs_26_15, zs_26_18, zs_26_19, zs_26_20, zs_26_23, zs_26_23n, zs_26_24, zs_26_24n, zs_26_25, zs_26_28, zs_26_31, zs_26_34, zs_26_44, zs_26_44n, zs_26_45, zs_26_48, zs_26_48n, zs_26_49, zs_26_49n, zs_26_50, zs_26_53, zs_26_56, zs_26_57, zs_26_60, zs_26_60n, zs_26_61, zs_26_64, zs_26_64n, zs_26_65, zs_26_68, zs_26_71, zs_26_71n, zs_26_72, zs_26_75, zs_26_75n, zs_26_76, zs_26_76n, zs_26_77, zs_26_80, zs_26_83, zs_26_84, zs_26_87, zs_26_90, q5, e3, q3, zECc, zrc_1, zf_1_0, zp_1_0, zp_1_0n, zf_1_1, zp_1_1, zf_1_2, zp_1_2, zp_1_2n, zf_1_3, zp_1_3, zp_1_3n, zf_1_4, zp_1_40, zp_1_41, zf_1_5, zp_1_5, zp_1_5n, zf_1_6, zp_1_6, zp_1_6n, zf_1_7, zp_1_7, zp_1_7n, zf_1_8, zp_1_8, zp_1_8n, zf_1_9, zp_1_9, zp_1_9n, zf_1_10, zp_1_10, zp_1_10n, zf_1_11, zp_1_11, zp_1_11n, zf_1_12, zp_1_12, zp_1_12n, zPar_rc p2, e150, e4, zbk_v, zbk_x, zts_s, zts_n]
theorem yroot_sub {t : yT} (h : 0 < ysz t) : nI (ypo 0 t).length - nI 1 = nI (ysz t - 1) := by
  rw [ypo_len]
  conv => lhs; rw [show ysz t = ysz t - 1 + 1 by omega, ← nI_add, Int32.add_sub_cancel]
theorem d_29n {x c : Int32} (hc : zCls h m w) (hx : x < 0 ∨ ¬ x < nI (ycur w).1.length) : zEnd h m (zcall zP sv (d + 48) 29 [.ref m, .int x, .int c] h) 1 6 (.inr 2) w := by
  obtain ⟨t1, t2⟩ := zthrow hc
  refine ⟨_, ?_, t1, t2⟩
  have q1 := zCls_0 hc
  have e1 := d_70n (sv := sv) (d := d + 45) hc hx
  have q5 : ∀ X : zR, zrc (h.1 m) 1 X = X := fun X => by rw [q1]; exact zrc_k
  simp (disch := exact znw_u) only [zc_29, zs_29_0, zs_29_0n, zs_29_1, zs_29_2, zs_29_5, zs_29_5n, zs_29_6, zs_29_7, zs_29_10, zs_29_10n, zs_29_11, zs_29_14, zs_29_14n, zs_29_15, zs_29_18, zs_29_18n, zs_29_19, zs_29_20, zs_29_20n, zs_29_21, zs_29_24, zs_29_27, zs_29_29, zs_29_29n, zs_29_30, zs_29_33, zs_29_33n, zs_29_34, zs_29_37, zs_29_39, zs_29_39n, zs_29_40, zs_29_43, zs_29_46, zs_29_48, zs_29_48n, zs_29_49, zs_29_49n, zs_29_50, zs_29_53, zs_29_55, zs_29_58, zs_29_58n, zs_29_59, zs_29_62, zs_29_62n, zs_29_63, zs_29_66, zs_29_69, zs_29_69n, zs_29_70, zs_29_73, zs_29_73n, zs_29_74, zs_29_74n, zs_29_75, zs_29_78, zs_29_80, zs_29_83, zs_29_86, q5, e1, zbk_x]
/-- what differentiate does to a formula that is there -/
def yderF (w : yW) (t : yT) (c : Int32) : zO × yW := if ylet c = false then (.inr 1, w) else if (ycur w).1.length = 6 then (.inr 0, w) else if ysz (ysim (yder c t)) ≤ 31 ∧ ydp (ysim (yder c t)) ≤ 8 then (.inl (some (.int (nI (ycur w).1.length))), ysc (yrec w) ((ycur w).1 ++ [ysim (yder c t)], (ycur w).2)) else (.inr 3, w)
theorem d_29 {i : Nat} {t : yT} {c : Int32} (hc : zCls h m w) (hi : (ycur w).1[i]? = some t) : zEnd h m (zcall zP sv (d + 48) 29 [.ref m, .int (nI i), .int c] h) 9 134 (yderF w t c).1 (yderF w t c).2 := by
  have q1 := zCls_0 hc
  have q5 : ∀ X : zR, zrc (h.1 m) 1 X = X := fun X => by rw [q1]; exact zrc_k
  have c0 := hc.1
  have cs := hc.2.2.2.2.2.2.1
  obtain ⟨a, e0, a1, a2, a3, a4⟩ := d_70k (sv := sv) (d := d + 45) hc hi
  unfold yderF
  cases hl : ylet c with
  | false =>
    rw [if_pos rfl]
    obtain ⟨t1, t2⟩ := zthrow hc
    refine ⟨_, ?_, t1, zfx_mono t2 (Nat.le_refl _) (Nat.le_refl _) (by omega) (by omega)⟩
    simp (disch := exact znw_u) only [zc_29, zs_29_0, zs_29_0n, zs_29_1, zs_29_2, zs_29_5, zs_29_5n, zs_29_6, zs_29_7, zs_29_10, zs_29_10n, zs_29_11, zs_29_14, zs_29_14n, zs_29_15, zs_29_18, zs_29_18n, zs_29_19, zs_29_20, zs_29_20n, zs_29_21, zs_29_24, zs_29_27, zs_29_29, zs_29_29n, zs_29_30, zs_29_33, zs_29_33n, zs_29_34, zs_29_37, zs_29_39, zs_29_39n, zs_29_40, zs_29_43, zs_29_46, zs_29_48, zs_29_48n, zs_29_49, zs_29_49n, zs_29_50, zs_29_53, zs_29_55, zs_29_58, zs_29_58n, zs_29_59, zs_29_62, zs_29_62n, zs_29_63, zs_29_66, zs_29_69, zs_29_69n, zs_29_70, zs_29_73, zs_29_73n, zs_29_74, zs_29_74n, zs_29_75, zs_29_78, zs_29_80, zs_29_83, zs_29_86, q5, e0, d_72n hl, zbk_v, zbk_x, zts_s]
  | true =>
    rw [if_neg (by decide)]
    by_cases hn : (ycur w).1.length = 6
    · rw [if_pos hn]
      obtain ⟨t1, t2⟩ := zthrow hc
      have e3 := d_73n (sv := sv) (d := d + 45) hc hn
      refine ⟨_, ?_, t1, zfx_mono t2 (Nat.le_refl _) (Nat.le_refl _) (by omega) (by omega)⟩
      simp (disch := exact znw_u) only [zc_29, zs_29_0, zs_29_0n, zs_29_1, zs_29_2, zs_29_5, zs_29_5n, zs_29_6, zs_29_7, zs_29_10, zs_29_10n, zs_29_11, zs_29_14, zs_29_14n, zs_29_15, zs_29_18, zs_29_18n, zs_29_19, zs_29_20, zs_29_20n, zs_29_21, zs_29_24, zs_29_27, zs_29_29, zs_29_29n, zs_29_30, zs_29_33, zs_29_33n, zs_29_34, zs_29_37, zs_29_39, zs_29_39n, zs_29_40, zs_29_43, zs_29_46, zs_29_48, zs_29_48n, zs_29_49, zs_29_49n, zs_29_50, zs_29_53, zs_29_55, zs_29_58, zs_29_58n, zs_29_59, zs_29_62, zs_29_62n, zs_29_63, zs_29_66, zs_29_69, zs_29_69n, zs_29_70, zs_29_73, zs_29_73n, zs_29_74, zs_29_74n, zs_29_75, zs_29_78, zs_29_80, zs_29_83, zs_29_86, q5, e0, d_72 hl, e3, zbk_v, zbk_x, zts_s, zts_n]
    · rw [if_neg hn]
      have hl6 : (ycur w).1.length ≤ 6 := by
        obtain ⟨S, s1, s2⟩ := hc.2.2.1
        exact s2.2.2.1
      have e3 := d_73 (sv := sv) (d := d + 45) hc (show (ycur w).1.length < 6 by omega)
      have hsz := a4.2.1
      have hdp := a4.2.2
      obtain ⟨f1, f2, f3, f4⟩ := yform a4.1 (by omega)
      obtain ⟨n1, b1⟩ := cs.1
      obtain ⟨P, b3⟩ := cs.2.2.1
      have hbd : yBd 8 (ypo 0 t) := yform_bd a4.1 (by omega) hdp
      obtain ⟨h1, os, P1, x, e1, o1, o2, oB, o3, o4, o5, o6, o7⟩ := d_93 (sv := sv) (d := d + 42) (c := c) f1 (by omega) (by omega) (show a + 9 ≤ m + 45 ∨ m + 45 + 9 ≤ a by omega) (show a + 9 ≤ m + 75 ∨ m + 75 + 3 ≤ a by omega) (by omega) a3 b1 b3 (B := 16) (fun j u hu => by
        have h8 := ydp_yder (c := c) u
        have h9 := hbd j u hu
        omega) (fun j u hu => by
        have h9 := hbd j u hu
        omega)
      rw [f3, f2] at o6
      have C1 := zCls_f2 hc o7 (by omega) (by omega) (by omega) (by omega) (by omega) (by omega) (zScr_ro cs o7 o3 o4)
      have cs1 := C1.2.2.2.2.2.2.1
      obtain ⟨n2, b2⟩ := cs1.2.1
      obtain ⟨h2, os2, P2, x2, e2, r1, r2, r3, r4, r5, r6, r7⟩ := d_95 (sv := sv) (d := d + 1) (rt := x) o2 o1 (show m + 45 + 9 ≤ m + 54 ∨ m + 54 + 9 ≤ m + 45 by omega) (by omega) (by omega) (fun y hy => by
        have h8 := ydp_ysim (ygt (ytm os) y)
        have h9 := yBd_x oB (by have := o2.1; omega) hy
        omega) o3 b2 o4 o5
      rw [o6] at r6
      have C2 := zCls_f2 C1 r7 (by omega) (by omega) (by omega) (by omega) (by omega) (by omega) (zScr_sm cs1 r7 r3 r4)
      have hds := ydp_ysim (yder c t)
      have hdd := ydp_yder (c := c) t
      have hw2 := ytw_ysim _ (ytw_yder (c := c) t a4.1)
      have s12 : h2.2 = h.2 := r7.2.trans o7.2
      have g12 : zfx m (m + 119) 0 0 h h2 := ⟨fun q _ p => (r7.1 q (by omega) (by omega)).trans (o7.1 q (by omega) (by omega)), by rw [s12]; exact Nat.le_refl _, by rw [s12]; exact Nat.le_refl _, by rw [s12]; exact Nat.le_refl _⟩
      have p1 : h1.1 m = zECc m w.2.1 (yb w.2.2.1) := zCls_0 C1
      have p2 : h2.1 m = zECc m w.2.1 (yb w.2.2.1) := zCls_0 C2
      have p3 : ∀ X : zR, zrc (h1.1 m) 1 X = X := fun X => by rw [p1]; exact zrc_k
      have p4 : ∀ X : zR, zrc (h2.1 m) 1 X = X := fun X => by rw [p2]; exact zrc_k
      by_cases hf : ysz (ysim (yder c t)) ≤ 31 ∧ ydp (ysim (yder c t)) ≤ 8
      · rw [if_pos hf]
        obtain ⟨h3, e4, C3, f3'⟩ := d_74E (sv := sv) (d := d + 42) (t := ysim (yder c t)) C2 r3 r2 (by omega) (by omega) r5 r6 (ysz_16 (by omega)) hf
        have ht3 := zTre_fr r3 f3' (by omega)
        obtain ⟨h4, h5, h6, e5, u5, q6, e6, q7, u7, e7, C6, f6, f4'⟩ := d_app (sv := sv) (d := d + 2) (t := ysim (yder c t)) C3 ht3 r2 (by omega) (by omega) (by rw [f3'.2, s12]; omega) (by omega) r5 r6 ⟨hw2, hf⟩ (show (ycur w).1.length < 6 by omega)
        have q8 : h3.1 m = zECc m w.2.1 (yb w.2.2.1) := zCls_0 C3
        have q10 : ∀ X : zR, zrc (h4.1 m) 1 X = X := fun X => by rw [q6]; exact zrc_k
        refine ⟨h6, ?_, C6, zfx_mono (zfx_tr g12 (zfx_tr (zfr_fx f3' (by omega) (by omega)) f6)) (Nat.le_refl _) (Nat.le_refl _) (by omega) (by omega)⟩
        simp (disch := exact znw_u) only [zc_29, zs_29_0, zs_29_0n, zs_29_1, zs_29_2, zs_29_5, zs_29_5n, zs_29_6, zs_29_7, zs_29_10, zs_29_10n, zs_29_11, zs_29_14, zs_29_14n, zs_29_15, zs_29_18, zs_29_18n, zs_29_19, zs_29_20, zs_29_20n, zs_29_21, zs_29_24, zs_29_27, zs_29_29, zs_29_29n, zs_29_30, zs_29_33, zs_29_33n, zs_29_34, zs_29_37, zs_29_39, zs_29_39n, zs_29_40, zs_29_43, zs_29_46, zs_29_48, zs_29_48n, zs_29_49, zs_29_49n, zs_29_50, zs_29_53, zs_29_55, zs_29_58, zs_29_58n, zs_29_59, zs_29_62, zs_29_62n, zs_29_63, zs_29_66, zs_29_69, zs_29_69n, zs_29_70, zs_29_73, zs_29_73n, zs_29_74, zs_29_74n, zs_29_75, zs_29_78, zs_29_80, zs_29_83, zs_29_86, q5, e0, d_72 hl, e3, q1, p1, p2, p3, p4, q8, q6, q7, q10, zECc, zrc_1, zf_1_0, zp_1_0, zp_1_0n, zf_1_1, zp_1_1, zf_1_2, zp_1_2, zp_1_2n, zf_1_3, zp_1_3, zp_1_3n, zf_1_4, zp_1_40, zp_1_41, zf_1_5, zp_1_5, zp_1_5n, zf_1_6, zp_1_6, zp_1_6n, zf_1_7, zp_1_7, zp_1_7n, zf_1_8, zp_1_8, zp_1_8n, zf_1_9, zp_1_9, zp_1_9n, zf_1_10, zp_1_10, zp_1_10n, zf_1_11, zp_1_11, zp_1_11n, zf_1_12, zp_1_12, zp_1_12n, zAl_rc b3, e1, zAl_rc o4, e2, e4, u5, e5, e6, u7, e7, zbk_v, zbk_x, zts_s, zts_n]
      · rw [if_neg hf]
        obtain ⟨h3, e4, C3, f3'⟩ := d_74n (sv := sv) (d := d + 42) (t := ysim (yder c t)) C2 r3 r2 (by omega) (by omega) r5 r6 (ysz_16 (by omega)) hf
        refine ⟨h3, ?_, C3, zfx_mono (zfx_tr g12 f3') (Nat.le_refl _) (Nat.le_refl _) (by omega) (by omega)⟩
        simp (disch := exact znw_u) only [zc_29, zs_29_0, zs_29_0n, zs_29_1, zs_29_2, zs_29_5, zs_29_5n, zs_29_6, zs_29_7, zs_29_10, zs_29_10n, zs_29_11, zs_29_14, zs_29_14n, zs_29_15, zs_29_18, zs_29_18n, zs_29_19, zs_29_20, zs_29_20n, zs_29_21, zs_29_24, zs_29_27, zs_29_29, zs_29_29n, zs_29_30, zs_29_33, zs_29_33n, zs_29_34, zs_29_37, zs_29_39, zs_29_39n, zs_29_40, zs_29_43, zs_29_46, zs_29_48, zs_29_48n, zs_29_49, zs_29_49n, zs_29_50, zs_29_53, zs_29_55, zs_29_58, zs_29_58n, zs_29_59, zs_29_62, zs_29_62n, zs_29_63, zs_29_66, zs_29_69, zs_29_69n, zs_29_70, zs_29_73, zs_29_73n, zs_29_74, zs_29_74n, zs_29_75, zs_29_78, zs_29_80, zs_29_83, zs_29_86, q5, e0, d_72 hl, e3, q1, p1, p2, p3, p4, zECc, zrc_1, zf_1_0, zp_1_0, zp_1_0n, zf_1_1, zp_1_1, zf_1_2, zp_1_2, zp_1_2n, zf_1_3, zp_1_3, zp_1_3n, zf_1_4, zp_1_40, zp_1_41, zf_1_5, zp_1_5, zp_1_5n, zf_1_6, zp_1_6, zp_1_6n, zf_1_7, zp_1_7, zp_1_7n, zf_1_8, zp_1_8, zp_1_8n, zf_1_9, zp_1_9, zp_1_9n, zf_1_10, zp_1_10, zp_1_10n, zf_1_11, zp_1_11, zp_1_11n, zf_1_12, zp_1_12, zp_1_12n, zAl_rc b3, e1, zAl_rc o4, e2, e4, zbk_v, zbk_x, zts_s, zts_n]
end ZED
