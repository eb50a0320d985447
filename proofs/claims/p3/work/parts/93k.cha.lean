section ZMB
variable {sv : Nat → Value} {d : Nat} {h : zH} {m : Nat} {F : Nat → Int32} {A : yA} {N : List Int32}
theorem zScm_of {h h' : zH} {m : Nat} {p q : yP} (hs : zScm h m) (h1 : zLst h' (m + 5) (m + 6) p) (h2 : zLst h' (m + 7) (m + 8) q) (hk : ∀ a, m + 9 ≤ a → h'.1 a = h.1 a) : zScm h' m := by
  obtain ⟨_, _, c1, c2, c3, c4, c5, c6⟩ := hs
  exact ⟨⟨p, h1⟩, ⟨q, h2⟩, zSF_cg c1 (hk _ (by omega)) (hk _ (by omega)), zArr_cg c2 (hk _ (by omega)), zArr_cg c3 (hk _ (by omega)), zArr_cg c4 (hk _ (by omega)), zArr_cg c5 (hk _ (by omega)), zArr_cg c6 (hk _ (by omega))⟩
theorem zLst_0 {h : zH} {a b : Nat} {p : yP} (hl : zLst h a b p) : zLst h a b [] := zLst_pre (ps := []) (qs := p) hl
theorem nI_subn {a b : Nat} (h : b ≤ a) : nI a - nI b = nI (a - b) := by
  obtain ⟨c, rfl⟩ : ∃ c, a = b + c := ⟨a - b, by omega⟩
  rw [nI_sub', Nat.add_sub_cancel_left]
/-- simplified -/
theorem e_238 {i : Nat} {t : yT} (hw : zWk h m F A) (hA : yAok A) (hi : A.1[i]? = some t) : ∃ (h' : zH) (F' : Nat → Int32), zcall zP sv (d + 20) 238 [.ref m, .int (nI i)] h = some (.inl (some (.int 0)), h') ∧ zWk h' m F' (A.1.set i (ysim t), A.2.1, A.2.2.1, A.2.2.2 + nI (ysz t - ysz (ysim t))) ∧ F' 30 = nI (ysz t - ysz (ysim t)) ∧ yff F F' ∧ zwf m h h' := by
  obtain ⟨hm, ⟨N, hN, hn⟩, hs⟩ := hw
  have hs0 := hs
  obtain ⟨⟨p0, l5⟩, ⟨p1, l7⟩, _⟩ := hs
  have hil := (List.getElem?_eq_some_iff.mp hi).1
  have hA1 := hA.1
  have i6 : i < 6 := by omega
  obtain ⟨t1, t2, t3⟩ := hA.2.1 t (List.mem_of_getElem? hi)
  have hst := ysz_ysim t
  have hdt := ydp_ysim t
  have hlt := ypr_len t
  have hls := ypr_len (ysim t)
  have e1 := e_203t (sv := sv) (d := d + 17) hm hN hn hil hA1
  have hN2 := hn.2.2.2.1
  obtain ⟨h1, e2, a1, a2, a3, a4⟩ := e_206 (sv := sv) (d := d + 18) (hn.2.2.2.2.2 i t hi) hm hN l5
  have a1' := a1
  unfold zMo at a1'
  rw [hlt] at a1 a1'
  -- many := 0
  have hmd : zMd (zup h1 m (13, zMF m (yup (yup F 8 (nI (ysz t))) 11 0))) m (yup F 8 (nI (ysz t))) [] := ⟨by unfold zMo; rw [zup_at]; rfl, zLst_cg (zLst_0 l7) (by rw [zup_ne (by omega), a3 _ (by omega) (by omega) (by omega)]) (by rw [zup_ne (by omega), a3 _ (by omega) (by omega) (by omega)])⟩
  have hlk : zLst (zup h1 m (13, zMF m (yup (yup F 8 (nI (ysz t))) 11 0))) (m + 5) (m + 6) ([] ++ ypr t ++ []) := by
    rw [List.append_nil, List.nil_append]
    exact zLst_cg a2 (zup_ne (by omega)) (zup_ne (by omega))
  obtain ⟨h3, e3, b1, b2⟩ := e_222 (sv := sv) t t1 (d + 19) [] [] [] _ (by omega) hlk hmd ynk_nil (by show 0 + ysz t ≤ 700; omega)
  rw [List.nil_append] at b1
  have hkn : ynk (ypr (ysim t)) := ynk_ypr _ (Or.inr (ytw_ysim t t1))
  obtain ⟨h4, e4, c1, c2, c3, c4⟩ := e_207 (sv := sv) (d := d + 18) b1 hkn (zLst_fm hlk b2)
  rw [hls] at c1
  have hN4 : zTab h4 (m + 1) N := zTab_cg hN (by rw [c3 _ (by omega) (by omega) (by omega), b2.1 _ (by omega) (by omega) (by omega), zup_ne (by omega), a3 _ (by omega) (by omega) (by omega)])
  have c1m := c1.1
  have c1m' := c1m
  unfold zMo at c1m'
  obtain ⟨h5, N', e5, d1, d2, d3, d4, d5⟩ := e_208 (sv := sv) (d := d + 18) (p := ypr (ysim t)) i6 c1m (by rw [hls, yup_ne (by omega), yup_eq]) (by omega) hkn c2 hN4
  have d1' := d1.1
  have d1l := d1.2
  have m5 : h5.1 m = (13, zMF m (yup (yup (yup F 8 (nI (ysz t))) 8 (nI (ysz (ysim t)))) 11 (nI (ypr (ysim t)).length))) := by
    rw [d4 m (by omega)]
    exact c1m'
  have g2 : ∀ Kv, zael (20, N'.map Value.int) 20 (nI 2) Kv = Kv (.int A.2.2.2) := fun Kv => zaelv (by rw [List.getElem?_map, d2 2 (by omega), hN2]; rfl) (by decide)
  have s2 : ∀ Kc : zC → zR, zaset (20, N'.map Value.int) 20 (nI 2) (.int (A.2.2.2 + nI (ysz t - ysz (ysim t)))) Kc = Kc (20, (N'.set 2 (A.2.2.2 + nI (ysz t - ysz (ysim t)))).map Value.int) := fun Kc => zsI (by omega) (by omega)
  have fr : ∀ q, q ≠ m → q ≠ m + 1 → q ≠ m + 5 → q ≠ m + 6 → q ≠ m + 7 → q ≠ m + 8 → h5.1 q = h.1 q := fun q n0 n1 n5 n6 n7 n8 => by
    rw [d4 q n1, c3 q n0 n5 n6, b2.1 q n0 n7 n8, zup_ne n0, a3 q n0 n5 n6]
  refine ⟨zup (zup h5 (m + 1) (20, (N'.set 2 (A.2.2.2 + nI (ysz t - ysz (ysim t)))).map Value.int)) m (13, zMF m (yup (yup (yup (yup F 8 (nI (ysz t))) 8 (nI (ysz (ysim t)))) 11 (nI (ypr (ysim t)).length)) 30 (nI (ysz t - ysz (ysim t))))), _, ?_, ⟨zMo_up, ⟨N'.set 2 (A.2.2.2 + nI (ysz t - ysz (ysim t))), ⟨by rw [zup_ne (by omega), zup_at], by rw [List.length_set, d1l]⟩, yNow_rem (yNow_set hn d1l d2 d3 hA.2.2)⟩, ?_⟩, yup_eq, ?_, ?_⟩
  · have hrc : ∀ X : zR, zrc (h.1 m) 13 X = X := fun X => zMo_rc hm
    have hr1 : ∀ X : zR, zrc (h1.1 m) 13 X = X := fun X => zMo_rc a1
    have hr3 : ∀ X : zR, zrc (h3.1 m) 13 X = X := fun X => zMo_rc b1.1
    have hr4 : ∀ X : zR, zrc (h4.1 m) 13 X = X := fun X => zMo_rc c1m
    have hr5 : ∀ X : zR, zrc ((zup h5 (m + 1) (20, (N'.set 2 (A.2.2.2 + nI (ysz t - ysz (ysim t)))).map Value.int)).1 m) 13 X = X := fun X => zMo_rc (by unfold zMo; rw [zup_ne (by omega), m5])
    have hr2 : ∀ X : zR, zrc ((zup h1 m (13, zMF m (yup (yup F 8 (nI (ysz t))) 11 0))).1 m) 13 X = X := fun X => zMo_rc zMo_up
    have e201 := e_201 (sv := sv) (d := d + 18) (x := nI (ysz t - ysz (ysim t))) (h := zup h5 (m + 1) (20, (N'.set 2 (A.2.2.2 + nI (ysz t - ysz (ysim t)))).map Value.int)) (m := m) (F := yup (yup (yup F 8 (nI (ysz t))) 8 (nI (ysz (ysim t)))) 11 (nI (ypr (ysim t)).length)) (by unfold zMo; rw [zup_ne (by omega), m5])
    have E1 : zcall zP sv (d + 19) 203 [.ref m, .int (nI i)] h = some (.inl (some (.int (nI 1))), h) := e1
    have E2 : zcall zP sv (d + 19) 206 [.ref m, .int (nI i)] h = some (.inl none, h1) := e2
    have E3 : zcall zP sv (d + 19) 222 [.ref m, .int 0] (zup h1 m (13, zMF m (yup (yup F 8 (nI (ysz t))) 11 0))) = some (.inl (some (.int (nI (0 + ysz t)))), h3) := by
      rw [← nI_0]
      rw [← nI_0] at e3
      exact e3
    have E4 : zcall zP sv (d + 19) 207 [.ref m] h3 = some (.inl none, h4) := e4
    have E5 : zcall zP sv (d + 19) 208 [.ref m, .int (nI i)] h4 = some (.inl none, h5) := e5
    have E6 : zcall zP sv (d + 19) 201 [.ref m, .int (nI (ysz t - ysz (ysim t)))] (zup h5 (m + 1) (20, (N'.set 2 (A.2.2.2 + nI (ysz t - ysz (ysim t)))).map Value.int)) = _ := e201
    have u8 : yup F 8 (nI (ysz t)) 8 = nI (ysz t) := yup_eq
    have v8 : yup (yup (yup F 8 (nI (ysz t))) 8 (nI (ysz (ysim t)))) 11 (nI (ypr (ysim t)).length) 8 = nI (ysz (ysim t)) := by rw [yup_ne (by omega), yup_eq]
    have w5 : (zup h5 (m + 1) (20, (N'.set 2 (A.2.2.2 + nI (ysz t - ysz (ysim t)))).map Value.int)).1 m = (13, zMF m (yup (yup (yup F 8 (nI (ysz t))) 8 (nI (ysz (ysim t)))) 11 (nI (ypr (ysim t)).length))) := by rw [zup_ne (by omega), m5]
    simp (disch := first | exact znw_u | exact znw_i | omega) only [zc_238, zs_238_0, zs_238_0n, zs_238_1, zs_238_2, zs_238_5, zs_238_8, zs_238_9, zs_238_10, zs_238_10n, zs_238_11, zs_238_12, zs_238_15, zs_238_15n, zs_238_16, zs_238_19, zs_238_20, zs_238_20n, zs_238_21, zs_238_22, zs_238_25, zs_238_25n, zs_238_26, zs_238_27, zs_238_30, zs_238_31, zs_238_31n, zs_238_32, zs_238_35, zs_238_35n, zs_238_36, zs_238_37, zs_238_40, zs_238_40n, zs_238_41, zs_238_44, zs_238_45, zs_238_46, zs_238_47, zs_238_48, zs_238_48n, zs_238_49, zs_238_52, zs_238_53, zs_238_54, zs_238_55, zs_238_55n, zs_238_56, zs_238_57, zs_238_57n, zs_238_58, zs_238_61, zs_238_62, zs_238_65, hrc, hr1, hr2, hr3, hr4, hr5, E1, E2, E3, E4, E5, E6, zbk_v, zts_s, zts_n, zrc_13v, nI_1e0, ↓reduceIte, a1', zmf_8, zmp_11, zmf_0, u8, v8, m5, w5, d1', g2, nI_subn hst, s2]
  · exact zScm_of hs0 (zLst_cg c2 (by rw [zup_ne (by omega), zup_ne (by omega), d4 _ (by omega)]) (by rw [zup_ne (by omega), zup_ne (by omega), d4 _ (by omega)])) (zLst_cg c1.2 (by rw [zup_ne (by omega), zup_ne (by omega), d4 _ (by omega)]) (by rw [zup_ne (by omega), zup_ne (by omega), d4 _ (by omega)])) (fun a ha => by rw [zup_ne (by omega), zup_ne (by omega), fr a (by omega) (by omega) (by omega) (by omega) (by omega) (by omega)])
  · exact yff_tr (yff_up (by decide)) (yff_tr (yff_up (by decide)) (yff_tr (yff_up (by decide)) (yff_up (by decide))))
  · exact ⟨fun q q1 q2 q3 => by rw [zup_ne q1, zup_ne q2, fr q q1 q2 (by omega) (by omega) (by omega) (by omega)], by show h5.2 = h.2; rw [d5, c4, b2.2]; exact a4⟩
end ZMB
