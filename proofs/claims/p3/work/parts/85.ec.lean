def yfit (t : yT) : Prop := ysz t ≤ 31 ∧ ydp t ≤ 8
section ZEB
variable {sv : Nat → Value} {d : Nat} {h : zH} {m : Nat} {w : yW}
theorem zCls_g {h' : zH} {A B C : List Int32} (hc : zCls h m w) (hf : zfr (m + 78) (m + 85) h h') (hg : zGau h' (m + 78) A B C) : zCls h' m w := zCls_q hc (zcg_fr hf (by omega)) (zcg_fr hf (by omega)) (zkp_fr hf (by omega)) (zScr_gau hc.2.2.2.2.2.2.1 (fun q _ q2 => hf.1 q q2) hg)
theorem d_74E {a ma : Nat} {ns : List yN} {x : Int32} {t : yT} (hc : zCls h m w) (ht : zTre h a ma ns) (hw : ywf ns) (hn : ns.length ≤ 124) (hd : m + 85 ≤ a ∨ a + 9 ≤ m + 78) (hx : ych ns.length x) (hxt : ygt (ytm ns) x = t) (hsz : ysz t < 2 ^ 31) (hf : yfit t) : ∃ h', zcall zP sv (d + 5) 74 [.ref m, .ref a, .int x] h = some (.inl none, h') ∧ zCls h' m w ∧ zfr (m + 78) (m + 85) h h' := by
  have hdp := ydp_sz t
  have q1 := zCls_0 hc
  obtain ⟨A, B, C, hg⟩ := hc.2.2.2.2.2.2.1.2.2.2.1
  obtain ⟨h1, A1, e1, g1, r1, f1⟩ := d_117 (sv := sv) (d := d) (rt := x) hw (by omega) hn ht hg
  have ht1 := zTre_fr ht f1 (by omega)
  obtain ⟨h2, A2, e2, g2, r2, f2⟩ := d_118 (sv := sv) (d := d) (rt := x) hw (by omega) hn ht1 g1
  rw [yQ_g r1 hx (Nat.le_refl _) hw.1, hxt, yfo_N] at e1
  rw [yQ_g r2 hx (Nat.le_refl _) hw.1, hxt, yfo_L t (by omega)] at e2
  have q2 : h1.1 m = zECc m w.2.1 (yb w.2.2.1) := by rw [f1.1 m (by omega)]; exact q1
  refine ⟨h2, ?_, zCls_g hc (zfr_tr f1 f2) g2, zfr_tr f1 f2⟩
  have c1 : ¬ nI 31 < nI (ysz t) := nI_nlt hf.1 (by decide)
  have c2 : ¬ nI 8 < nI (ydp t) := nI_nlt hf.2 (by decide)
  simp (disch := exact znw_u) only [zc_74, zs_74_0, zs_74_0n, zs_74_1, zs_74_4, zs_74_4n, zs_74_5, zs_74_6, zs_74_9, zs_74_11, zs_74_14, zs_74_14n, zs_74_15, zs_74_18, zs_74_18n, zs_74_19, zs_74_20, zs_74_23, zs_74_25, zs_74_28, zs_74_39, q1, q2, zECc, zrc_1, zf_1_0, zp_1_0, zp_1_0n, zf_1_1, zp_1_1, zf_1_2, zp_1_2, zp_1_2n, zf_1_3, zp_1_3, zp_1_3n, zf_1_4, zp_1_40, zp_1_41, zf_1_5, zp_1_5, zp_1_5n, zf_1_6, zp_1_6, zp_1_6n, zf_1_7, zp_1_7, zp_1_7n, zf_1_8, zp_1_8, zp_1_8n, zf_1_9, zp_1_9, zp_1_9n, zf_1_10, zp_1_10, zp_1_10n, zf_1_11, zp_1_11, zp_1_11n, zf_1_12, zp_1_12, zp_1_12n, zGau_rc hg, zGau_rc g1, e1, e2, if_neg c1, if_neg c2, zbk_v, zts_s]
theorem d_74n {a ma : Nat} {ns : List yN} {x : Int32} {t : yT} (hc : zCls h m w) (ht : zTre h a ma ns) (hw : ywf ns) (hn : ns.length ≤ 124) (hd : m + 85 ≤ a ∨ a + 9 ≤ m + 78) (hx : ych ns.length x) (hxt : ygt (ytm ns) x = t) (hsz : ysz t < 2 ^ 31) (hf : ¬ yfit t) : ∃ h', zcall zP sv (d + 5) 74 [.ref m, .ref a, .int x] h = some (.inr 3, h') ∧ zCls h' m w ∧ zfx m (m + 119) 1 6 h h' := by
  have hdp := ydp_sz t
  have q1 := zCls_0 hc
  obtain ⟨A, B, C, hg⟩ := hc.2.2.2.2.2.2.1.2.2.2.1
  obtain ⟨h1, A1, e1, g1, r1, f1⟩ := d_117 (sv := sv) (d := d) (rt := x) hw (by omega) hn ht hg
  have ht1 := zTre_fr ht f1 (by omega)
  obtain ⟨h2, A2, e2, g2, r2, f2⟩ := d_118 (sv := sv) (d := d) (rt := x) hw (by omega) hn ht1 g1
  rw [yQ_g r1 hx (Nat.le_refl _) hw.1, hxt, yfo_N] at e1
  rw [yQ_g r2 hx (Nat.le_refl _) hw.1, hxt, yfo_L t (by omega)] at e2
  have q2 : h1.1 m = zECc m w.2.1 (yb w.2.2.1) := by rw [f1.1 m (by omega)]; exact q1
  have hs := hsz
  by_cases c1 : ysz t ≤ 31
  · have c2 : nI 8 < nI (ydp t) := nI_lt (by
      have h9 : ¬ ydp t ≤ 8 := fun g => hf ⟨c1, g⟩
      omega) (by omega)
    have c3 : ¬ nI 31 < nI (ysz t) := nI_nlt c1 (by decide)
    have C2 := zCls_g hc (zfr_tr f1 f2) g2
    obtain ⟨t1, t2⟩ := zthrow C2
    refine ⟨_, ?_, t1, zfx_mono (zfx_tr (zfr_fx (zfr_tr f1 f2) (by omega) (by omega)) t2) (Nat.le_refl _) (Nat.le_refl _) (by omega) (by omega)⟩
    simp (disch := exact znw_u) only [zc_74, zs_74_0, zs_74_0n, zs_74_1, zs_74_4, zs_74_4n, zs_74_5, zs_74_6, zs_74_9, zs_74_11, zs_74_14, zs_74_14n, zs_74_15, zs_74_18, zs_74_18n, zs_74_19, zs_74_20, zs_74_23, zs_74_25, zs_74_28, zs_74_39, q1, q2, zECc, zrc_1, zf_1_0, zp_1_0, zp_1_0n, zf_1_1, zp_1_1, zf_1_2, zp_1_2, zp_1_2n, zf_1_3, zp_1_3, zp_1_3n, zf_1_4, zp_1_40, zp_1_41, zf_1_5, zp_1_5, zp_1_5n, zf_1_6, zp_1_6, zp_1_6n, zf_1_7, zp_1_7, zp_1_7n, zf_1_8, zp_1_8, zp_1_8n, zf_1_9, zp_1_9, zp_1_9n, zf_1_10, zp_1_10, zp_1_10n, zf_1_11, zp_1_11, zp_1_11n, zf_1_12, zp_1_12, zp_1_12n, zGau_rc hg, zGau_rc g1, e1, e2, if_neg c3, if_pos c2, zbk_v, zts_s, zext_of]
  · have c3 : nI 31 < nI (ysz t) := nI_lt (by omega) hs
    have C2 := zCls_g hc f1 g1
    obtain ⟨t1, t2⟩ := zthrow C2
    refine ⟨_, ?_, t1, zfx_mono (zfx_tr (zfr_fx f1 (by omega) (by omega)) t2) (Nat.le_refl _) (Nat.le_refl _) (by omega) (by omega)⟩
    simp (disch := exact znw_u) only [zc_74, zs_74_0, zs_74_0n, zs_74_1, zs_74_4, zs_74_4n, zs_74_5, zs_74_6, zs_74_9, zs_74_11, zs_74_14, zs_74_14n, zs_74_15, zs_74_18, zs_74_18n, zs_74_19, zs_74_20, zs_74_23, zs_74_25, zs_74_28, zs_74_39, q1, zECc, zrc_1, zf_1_0, zp_1_0, zp_1_0n, zf_1_1, zp_1_1, zf_1_2, zp_1_2, zp_1_2n, zf_1_3, zp_1_3, zp_1_3n, zf_1_4, zp_1_40, zp_1_41, zf_1_5, zp_1_5, zp_1_5n, zf_1_6, zp_1_6, zp_1_6n, zf_1_7, zp_1_7, zp_1_7n, zf_1_8, zp_1_8, zp_1_8n, zf_1_9, zp_1_9, zp_1_9n, zf_1_10, zp_1_10, zp_1_10n, zf_1_11, zp_1_11, zp_1_11n, zf_1_12, zp_1_12, zp_1_12n, zGau_rc hg, e1, if_pos c3, zbk_v, zts_s, zext_of]
theorem d_73 (hc : zCls h m w) (hl : (ycur w).1.length < 6) : zcall zP sv (d + 2) 73 [.ref m] h = some (.inl none, h) := by
  have q1 := zCls_0 hc
  obtain ⟨_, _, ⟨S, s1, s2⟩, _⟩ := hc
  have hS : S.1.length = (ycur w).1.length := s2.2.1.1
  have g1 : nI S.1.length < nI 6 := nI_lt (by omega) (by decide)
  have e1 : zcall zP sv (d + 1) 169 [.ref (m + 3)] h = some (.inl (some (.int (nI S.1.length))), h) := by
    rw [zc_169, zs_169_0, zs_169_1, s1.1, zf_3_1, zs_169_4]
  simp (disch := exact znw_u) only [zc_73, zs_73_0, zs_73_0n, zs_73_1, zs_73_4, zs_73_7, zs_73_9, zs_73_12, zs_73_23, q1, zECc, zrc_1, zf_1_0, zp_1_0, zp_1_0n, zf_1_1, zp_1_1, zf_1_2, zp_1_2, zp_1_2n, zf_1_3, zp_1_3, zp_1_3n, zf_1_4, zp_1_40, zp_1_41, zf_1_5, zp_1_5, zp_1_5n, zf_1_6, zp_1_6, zp_1_6n, zf_1_7, zp_1_7, zp_1_7n, zf_1_8, zp_1_8, zp_1_8n, zf_1_9, zp_1_9, zp_1_9n, zf_1_10, zp_1_10, zp_1_10n, zf_1_11, zp_1_11, zp_1_11n, zf_1_12, zp_1_12, zp_1_12n, zSta_rc s1, e1, if_pos g1, zbk_v, zts_s]
theorem d_73n (hc : zCls h m w) (hl : (ycur w).1.length = 6) : zcall zP sv (d + 2) 73 [.ref m] h = some (.inr 0, zext h [(0, [])] 6) := by
  have q1 := zCls_0 hc
  obtain ⟨_, _, ⟨S, s1, s2⟩, _⟩ := hc
  have hS : S.1.length = (ycur w).1.length := s2.2.1.1
  have g1 : ¬ nI S.1.length < nI 6 := nI_nlt (by omega) (by omega)
  have e1 : zcall zP sv (d + 1) 169 [.ref (m + 3)] h = some (.inl (some (.int (nI S.1.length))), h) := by
    rw [zc_169, zs_169_0, zs_169_1, s1.1, zf_3_1, zs_169_4]
  simp (disch := exact znw_u) only [zc_73, zs_73_0, zs_73_0n, zs_73_1, zs_73_4, zs_73_7, zs_73_9, zs_73_12, zs_73_23, q1, zECc, zrc_1, zf_1_0, zp_1_0, zp_1_0n, zf_1_1, zp_1_1, zf_1_2, zp_1_2, zp_1_2n, zf_1_3, zp_1_3, zp_1_3n, zf_1_4, zp_1_40, zp_1_41, zf_1_5, zp_1_5, zp_1_5n, zf_1_6, zp_1_6, zp_1_6n, zf_1_7, zp_1_7, zp_1_7n, zf_1_8, zp_1_8, zp_1_8n, zf_1_9, zp_1_9, zp_1_9n, zf_1_10, zp_1_10, zp_1_10n, zf_1_11, zp_1_11, zp_1_11n, zf_1_12, zp_1_12, zp_1_12n, zSta_rc s1, e1, if_neg g1, zbk_v, zts_s, zext_of]
/-- a fitting term of a work tree becomes one more formula: history.remember, formulaFrom, append (as the calls end) -/
theorem d_app {a ma : Nat} {ns : List yN} {x : Int32} {t : yT} (hc : zCls h m w) (ht : zTre h a ma ns) (hw : ywf ns) (hn : ns.length ≤ 124) (hd : m + 85 ≤ a ∨ a + 9 ≤ m + 78 ) (hb : a + 9 ≤ h.2.1) (hd2 : m + 45 ≤ a) (hx : ych ns.length x) (hxt : ygt (ytm ns) x = t) (hok : ytok t) (hl : (ycur w).1.length < 6) : ∃ h1 h2 h3, zcall zP sv (d + 45) 132 [.ref (m + 11), .ref (m + 3)] h = some (.inl none, h1) ∧ (∀ X, zrc (h.1 (m + 11)) 5 X = X) ∧ h1.1 m = zECc m w.2.1 (yb w.2.2.1) ∧ zcall zP sv (d + 45) 75 [.ref m, .ref a, .int x] h1 = some (.inl (some (.ref h.2.1)), h2) ∧ h2.1 m = zECc m w.2.1 (yb w.2.2.1) ∧ (∀ X, zrc (h2.1 (m + 3)) 3 X = X) ∧ zcall zP sv (d + 45) 174 [.ref (m + 3), .ref h.2.1] h2 = some (.inl (some (.int (nI (ycur w).1.length))), h3) ∧ zCls h3 m (ysc (yrec w) ((ycur w).1 ++ [t], (ycur w).2)) ∧ zfx m (m + 119) 9 134 h h3 ∧ zfr (m + 11) (m + 45) h h1 := by
  have c0 := hc.1
  obtain ⟨h1, e1, C1, f1⟩ := d_132E (sv := sv) (d := d + 41) hc
  have ht1 := zTre_fr ht f1 (by omega)
  obtain ⟨h2, e2, C2, fx2, T2, s2⟩ := d_75E (sv := sv) (d := d) (t := t) C1 ht1 hw hn hd (by rw [f1.2]; exact hb) hx hxt (ytw_sz hok.1) hok.2.1 (by have := hok.2.2; omega)
  rw [f1.2] at e2 T2 s2
  obtain ⟨S, s1, s2'⟩ := C2.2.2.1
  have hS : S.1.length = (ycur w).1.length := s2'.2.1.1
  obtain ⟨h3, e3, w3, f3⟩ := d_174 (sv := sv) (d := d + 43) (b := h.2.1) s1 (by omega) (zTre_k6 T2) (by omega)
  rw [hS] at e3
  have k3 := zkp_fr (m := m) f3 (by omega)
  have T3 := zTre_cg T2 (zcg_fr f3 (by omega))
  have b3S := s2'.2.2
  have hA3 : zAS h3 m (S.1 ++ [h.2.1], S.2) ((ycur w).1 ++ [t], (ycur w).2) := by
    refine ⟨s2'.1, zFs_app (zFs_kp s2'.2.1 k3) ⟨c0, by rw [f3.2, s2]; exact Nat.le_refl _, T3⟩, ?_, fun u hu => ?_, b3S.2.2⟩
    · rw [List.length_append]
      show (ycur w).1.length + 1 ≤ 6
      omega
    · rcases List.mem_append.mp hu with g | g
      · exact b3S.2.1 u g
      · rw [List.mem_singleton.mp g]
        exact hok
  refine ⟨h1, h2, h3, e1, zthr_his hc, zCls_0 (w := yrec w) C1, e2, zCls_0 (w := yrec w) C2, fun X => zSta_rc s1, e3, zCls_cur C2 f3 w3 hA3, zfx_mono (zfx_tr (zfr_fx f1 (by omega) (by omega)) (zfx_tr (zfx_mono fx2 (by omega) (by omega) (Nat.le_refl _) (Nat.le_refl _)) (zfr_fx f3 (by omega) (by omega)))) (Nat.le_refl _) (Nat.le_refl _) (by omega) (by omega), f1⟩
end ZEB
