section ZAE
variable {sv : Nat → Value} {d : Nat} {m : Nat} {F : Nat → Int32} {h : zH} {w : yW} {th : Int32} {cs : List Int32} {A : yA}
theorem yfb_up {G : Nat → Int32} (hg : ∀ k, k ≠ 27 → k ≠ 28 → k ≠ 11 → G k = F k) : yfb F (yup G 26 0) (F 29) := ⟨(yup_ne (by omega)).trans (hg 3 (by omega) (by omega) (by omega)), (yup_ne (by omega)).trans (hg 5 (by omega) (by omega) (by omega)), (yup_ne (by omega)).trans (hg 24 (by omega) (by omega) (by omega)), yup_eq.trans nI_0.symm, (yup_ne (by omega)).trans (hg 29 (by omega) (by omega) (by omega)), (yup_ne (by omega)).trans (hg 31 (by omega) (by omega) (by omega))⟩
theorem yfb_ff {F' F'' : Nat → Int32} {e : Int32} (h1 : yfb F F' e) (h2 : yff F' F'') : yfb F F'' e := ⟨h2.1.trans h1.1, h2.2.1.trans h1.2.1, h2.2.2.1.trans h1.2.2.1, h2.2.2.2.1.trans h1.2.2.2.1, h2.2.2.2.2.1.trans h1.2.2.2.2.1, h2.2.2.2.2.2.trans h1.2.2.2.2.2⟩
theorem zRst_b {h h' : zH} {F' : Nat → Int32} {e : Int32} (hr : zRst h m F w) (hf : yfb F F' e) (hw : zwf m h h') : zRst h' m F' (yse (ysb w []) e) := by
  obtain ⟨⟨a1, a2, a3, a4, a5, a6⟩, b, ⟨S, c1, c2⟩, e1, ⟨B, b1, b2, b3, b4⟩⟩ := hr
  obtain ⟨f1, f2, f3, f4, f5, _⟩ := hf
  have k3 := hw.1 (m + 3) (by omega) (by omega) (by omega)
  exact ⟨⟨f1.trans a1, f2.trans a2, f3.trans a3, f4, f5, a6⟩, zKep_cg b k3, ⟨S, zTab_cg c1 (hw.1 _ (by omega) (by omega) (by omega)), c2⟩, zTx_cg e1 (hw.1 _ (by omega) (by omega) (by omega)), ⟨B, (hw.1 _ (by omega) (by omega) (by omega)).trans b1, b2, rfl, Nat.zero_le _⟩⟩
theorem e_233n (hw : zWk h m F A) (h26 : F 26 = nI cs.length) (htx : zTx h (m + 17) 60 cs) (hn : (yadd cs).1 = none) : ∃ (h' : zH) (F' : Nat → Int32), zcall zP sv (d + 44) 233 [.ref m] h = some (.inl (some (.int (nI 1))), h') ∧ zWk h' m F' A ∧ yfb F F' (nI (yadd cs).2) ∧ zwf m h h' := by
  obtain ⟨h1, G, qs, e, w1, g1, g2, g3, l1, r1, f1⟩ := e_233p (sv := sv) (d := d) hw h26 htx
  rw [hn, Option.isSome_none, yb_f] at e
  refine ⟨zup (zup h1 m (13, zMF m (yup G 26 0))) m (13, zMF m (yup (yup G 26 0) 29 (G 27))), _, ?_, zWk_cg w1 zup_at (fun q hq => by rw [zup_ne (by omega), zup_ne (by omega)]), ?_, zwf_tr (zfm_wf f1) ⟨fun q q1 q2 q3 => by rw [zup_ne q1, zup_ne q1], rfl⟩⟩
  · have v27 : yup G 26 0 27 = G 27 := yup_ne (by omega)
    rw [e]
    simp only [zs_233_45, zs_233_48, zs_233_49, zs_233_50, zs_233_53, zs_233_56, zs_233_57, zup_at, zmf_27, v27, zmp_29, ↓reduceIte]
  · obtain ⟨y1, y2, y3, y4, y5, y6⟩ := yfb_up g3
    exact ⟨(yup_ne (by omega)).trans y1, (yup_ne (by omega)).trans y2, (yup_ne (by omega)).trans y3, (yup_ne (by omega)).trans y4, yup_eq.trans g1, (yup_ne (by omega)).trans y6⟩
theorem e_233s {t : yT} (hw : zWk h m F A) (h26 : F 26 = nI cs.length) (htx : zTx h (m + 17) 60 cs) (hn : (yadd cs).1 = some t) : ∃ (h1 : zH) (F1 : Nat → Int32), (∀ (x : Int32) (h' : zH), zcall zP sv (d + 43) 234 [.ref m, .int (nI 2)] h1 = some (.inl (some (.int x)), h') → zcall zP sv (d + 44) 233 [.ref m] h = some (.inl (some (.int x)), h')) ∧ zWk h1 m (yup F1 11 (nI (ysz t))) A ∧ zLst h1 (m + 7) (m + 8) (ypr t) ∧ yfb F F1 (F 29) ∧ ysz t ≤ 60 ∧ zwf m h h1 := by
  obtain ⟨h1, G, qs, e, w1, g1, g2, g3, l1, r1, f1⟩ := e_233p (sv := sv) (d := d) hw h26 htx
  obtain ⟨rfl, hz⟩ := r1 t hn
  rw [hn, Option.isSome_some, yb_t] at e
  have v11 : yup (yup G 26 0) 11 (nI (ysz t)) = yup G 26 0 := yup_self (by rw [yup_ne (by omega), g2, ypr_len])
  refine ⟨zup h1 m (13, zMF m (yup G 26 0)), yup G 26 0, ?_, ?_, zLst_cg l1 (zup_ne (by omega)) (zup_ne (by omega)), yfb_up g3, hz, zwf_tr (zfm_wf f1) ⟨fun q q1 q2 q3 => by rw [zup_ne q1], rfl⟩⟩
  · intro x h' ex
    have hr : ∀ X : zR, zrc ((zup h1 m (13, zMF m (yup G 26 0))).1 m) 13 X = X := fun X => zMo_rc zMo_up
    rw [e]
    simp only [zs_233_45, zs_233_58, zs_233_59, zs_233_60, zs_233_63, nI_1e0, hr, ex, zbk_v, zts_s, ↓reduceIte]
  · rw [v11]
    exact zWk_cg w1 zup_at (fun q hq => by rw [zup_ne (by omega)])
/-- addFormula -/
theorem e_235x {no : Nat} {e : Int32} (hM : zMdl h m w th) (h0 : 0 < no) (hno : no < 100) (hW : ∀ (h1 : zH) (F1 : Nat → Int32), zWk h1 m F1 (ycur w) → F1 26 = nI w.1.length → zTx h1 (m + 17) 60 w.1 → F1 29 = w.2.1 → ∃ (h' : zH) (F' : Nat → Int32), zcall zP sv (d + 44) 233 [.ref m] h1 = some (.inl (some (.int (nI no))), h') ∧ zWk h' m F' (ycur w) ∧ yfb F1 F' e ∧ zwf m h1 h') : zMC m h (zcall zP sv (d + 45) 235 [.ref m] h) 0 (yse (ysb w []) e) (nI no) := by
  have hm0 : ∀ X : zR, zrc (h.1 m) 13 X = X := by
    obtain ⟨F, _, hw, _⟩ := hM
    exact fun X => zMo_rc hw.1
  obtain ⟨h1, F1, T, e1, w1, f31, hT, hn, hr, hA0, k1⟩ := zM_try (sv := sv) (d := d + 43) hM
  obtain ⟨h2, F2, e2, w2, ff, wf⟩ := hW h1 F1 w1 hr.1.2.2.2.1 hr.2.2.2.2 hr.1.2.2.2.2.1
  have hr2 := zRst_b hr ff wf
  have hT2 : zTab h2 (m + 2) T := zTab_cg hT (wf.1 _ (by omega) (by omega) (by omega))
  obtain ⟨h3, e3, g1, g2⟩ := zM_fail (sv := sv) (d := d + 42) (w := yse (ysb w []) e) w2 hT2 hr2 hA0 h0 hno
  have r1 : ∀ X : zR, zrc (h1.1 m) 13 X = X := fun X => zMo_rc w1.1
  have r2 : ∀ X : zR, zrc (h2.1 m) 13 X = X := fun X => zMo_rc w2.1
  refine ⟨h3, ?_, g1, zmw_tr k1 (zmw_tr (zwf_mw wf) g2)⟩
  have E1 : zcall zP sv (d + 44) 200 [.ref m] h = _ := e1
  have E3 : zcall zP sv (d + 44) 202 [.ref m, .int (nI no)] h2 = _ := e3
  simp only [zc_235, zs_235_0, zs_235_0n, zs_235_1, zs_235_4, zs_235_4n, zs_235_5, zs_235_5n, zs_235_6, zs_235_9, zs_235_12, hm0, r1, r2, E1, e2, E3, zbk_v, zts_s, zts_n, List.cons_append, List.nil_append]
theorem e_235n (hM : zMdl h m w th) (hn : (yadd w.1).1 = none) : zMC m h (zcall zP sv (d + 45) 235 [.ref m] h) 0 (yse (ysb w []) (nI (yadd w.1).2)) (nI 1) :=
  e_235x hM (by decide) (by decide) (fun h1 F1 w1 f26 tx _ => e_233n w1 f26 tx hn)
theorem e_235f {t : yT} (hM : zMdl h m w th) (hn : (yadd w.1).1 = some t) (hl : (ycur w).1.length = 6) : zMC m h (zcall zP sv (d + 45) 235 [.ref m] h) 0 (ysb w []) (nI 2) :=
  e_235x (e := w.2.1) hM (by decide) (by decide) (fun h1 F1 w1 f26 tx f29 => by
    obtain ⟨h2, F2, e, w2, l2, fb, hz, k2⟩ := e_233s (sv := sv) (d := d) w1 f26 tx hn
    rw [f29] at fb
    exact ⟨h2, _, e _ _ (e_234a (sv := sv) (d := d + 23) w2 hl), w2, ⟨(yup_ne (by omega)).trans fb.1, (yup_ne (by omega)).trans fb.2.1, (yup_ne (by omega)).trans fb.2.2.1, (yup_ne (by omega)).trans fb.2.2.2.1, (yup_ne (by omega)).trans fb.2.2.2.2.1, (yup_ne (by omega)).trans fb.2.2.2.2.2⟩, k2⟩)
theorem nI_21 : nI 2 + nI 1 = nI 3 := by rw [nI_add]
theorem yadd_tw {cs : List Int32} {t : yT} (hn : (yadd cs).1 = some t) : ytw t = true := by
  unfold yadd at hn
  dsimp only at hn
  split at hn
  · exact ypa_tw 4000 0 none 0 0 (fun t h => by cases h) t hn
  · cases hn
theorem e_235b {t : yT} (hM : zMdl h m w th) (hn : (yadd w.1).1 = some t) (hl : (ycur w).1.length < 6) (hb : ¬ (ysz t ≤ 31 ∧ ydp t ≤ 8)) : zMC m h (zcall zP sv (d + 45) 235 [.ref m] h) 0 (ysb w []) (nI 3) :=
  e_235x (e := w.2.1) hM (by decide) (by decide) (fun h1 F1 w1 f26 tx f29 => by
    obtain ⟨h2, F2, e, w2, l2, fb, hz, k2⟩ := e_233s (sv := sv) (d := d) w1 f26 tx hn
    rw [f29] at fb
    obtain ⟨h3, F3, e3, w3, f3, k3⟩ := e_234b (sv := sv) (d := d + 23) (f := nI 2) w2 l2 (yadd_tw hn) (by omega) (zMdl_A hM) hl hb
    rw [nI_21] at e3
    exact ⟨h3, F3, e _ _ e3, w3, yfb_ff fb f3, zwf_tr k2 k3⟩)
theorem e_235 {t : yT} (hM : zMdl h m w th) (hn : (yadd w.1).1 = some t) (hl : (ycur w).1.length < 6) (hb : ysz t ≤ 31 ∧ ydp t ≤ 8) : zMC m h (zcall zP sv (d + 45) 235 [.ref m] h) (nI (ycur w).1.length) (ysc (yrec (ysb w [])) ((ycur w).1 ++ [t], (ycur w).2)) 0 := by
  have hm0 : ∀ X : zR, zrc (h.1 m) 13 X = X := by
    obtain ⟨F, _, hw, _⟩ := hM
    exact fun X => zMo_rc hw.1
  have hA := zMdl_A hM
  obtain ⟨h1, F1, T, e1, w1, f31, hT, hnT, hr, hA0, k1⟩ := zM_try (sv := sv) (d := d + 43) hM
  obtain ⟨h2, F2, e, w2, l2, fb, hz, k2⟩ := e_233s (sv := sv) (d := d) w1 hr.1.2.2.2.1 hr.2.2.2.2 hn
  rw [hr.1.2.2.2.2.1] at fb
  obtain ⟨h3, F3, e3, w3, f30, f3, k3⟩ := e_234c (sv := sv) (d := d + 23) (f := nI 2) w2 l2 (yadd_tw hn) (by omega) hA hl hb
  have fb3 := yfb_ff fb f3
  have wf := zwf_tr k2 k3
  have hr2 := zRst_b hr fb3 wf
  have hT2 : zTab h3 (m + 2) T := zTab_cg hT (wf.1 _ (by omega) (by omega) (by omega))
  obtain ⟨h4, e4, g1, g2⟩ := zM_ok (sv := sv) (d := d + 43) (w := yse (ysb w []) w.2.1) w3 (fb3.2.2.2.2.2.trans f31) hT2 hnT hr2 (yAok_app hA ⟨yadd_tw hn, hb.1, hb.2⟩ hl)
  rw [f30] at e4
  have r1 : ∀ X : zR, zrc (h1.1 m) 13 X = X := fun X => zMo_rc w1.1
  have r3 : ∀ X : zR, zrc (h3.1 m) 13 X = X := fun X => zMo_rc w3.1
  refine ⟨h4, ?_, g1, zmw_tr k1 (zmw_tr (zwf_mw wf) g2)⟩
  have E1 : zcall zP sv (d + 44) 200 [.ref m] h = _ := e1
  have E2 := e _ _ e3
  have E4 : zcall zP sv (d + 44) 202 [.ref m, .int 0] h3 = _ := e4
  simp only [zc_235, zs_235_0, zs_235_0n, zs_235_1, zs_235_4, zs_235_4n, zs_235_5, zs_235_5n, zs_235_6, zs_235_9, zs_235_12, hm0, r1, r3, E1, E2, E4, zbk_v, zts_s, zts_n, List.cons_append, List.nil_append]
end ZAE
