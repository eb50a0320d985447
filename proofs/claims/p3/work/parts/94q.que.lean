/-- the model stands for w and looks at t -/
def zMdL (h : zH) (m : Nat) (w : yW) (t : yT) : Prop := ∃ F : Nat → Int32, F 31 = 0 ∧ F 8 = nI (ysz t) ∧ zLst h (m + 5) (m + 6) (ypr t) ∧ zWk h m F (ycur w) ∧ (∃ T, zTab h (m + 2) T) ∧ zRst h m F w ∧ yAok (ycur w) ∧ ytok t
theorem zMdL_M {h : zH} {m : Nat} {w : yW} {t : yT} (hM : zMdL h m w t) : zMdl h m w 0 := by
  obtain ⟨F, a, _, _, b⟩ := hM
  exact ⟨F, a, b.1, b.2.1, b.2.2.1, b.2.2.2.1⟩
section ZQA
variable {sv : Nat → Value} {d : Nat} {m : Nat} {F : Nat → Int32} {h : zH} {w : yW} {th : Int32} {i : Nat} {t : yT}
theorem e_252x {x : Int32} (hM : zMdl h m w th) (hx : yinF (ycur w) x = false) : ∃ h', zcall zP sv (d + 6) 252 [.ref m, .int x] h = some (.inl (some (.int 0)), h') ∧ zMdl h' m w (nI 1) ∧ zmw m h h' := by
  obtain ⟨F, g, g1, g2, hw, _, hr, hA⟩ := zMdl_31 (x := nI 1) hM
  have E : zcall zP sv (d + 5) 203 [.ref m, .int x] h = _ := e_203x (sv := sv) (d := d + 3) hw hx
  refine ⟨_, ?_, g1, g2⟩
  simp only [zc_252, zs_252_0, zs_252_0n, zs_252_1, zs_252_1n, zs_252_2, zs_252_3, zs_252_6, zs_252_9, zs_252_10, zs_252_13, zs_252_14, zs_252_17, zs_252_17n, zs_252_18, zs_252_21, zs_252_24, zs_252_24n, zs_252_25, zs_252_26, zs_252_29, zs_252_29n, zs_252_30, zs_252_33, zs_252_36, zs_252_37, zs_252_40, zs_252_41, g, zrc_13v, E, zbk_v, zts_s, zmp_31, zup_at, zmf_31, yup_eq, nI_1e0, List.cons_append, List.nil_append, zgd_t, zty_50, ↓reduceIte]
theorem e_252 (hM : zMdl h m w th) (hi : (ycur w).1[i]? = some t) : ∃ h', zcall zP sv (d + 6) 252 [.ref m, .int (nI i)] h = some (.inl (some (.int (nI 1))), h') ∧ zMdL h' m w t ∧ zmw m h h' := by
  obtain ⟨F, g, g1, g2, hw, ⟨T, hT⟩, hr, hA⟩ := zMdl_31 (x := 0) hM
  obtain ⟨hm, ⟨N, hN, hn⟩, hs⟩ := id hw
  obtain ⟨⟨p0, l5⟩, ⟨p1, l7⟩, _⟩ := id hs
  have hil := (List.getElem?_eq_some_iff.mp hi).1
  have hlt := ypr_len t
  have E : zcall zP sv (d + 5) 203 [.ref m, .int (nI i)] h = _ := e_203t (sv := sv) (d := d + 3) hm hN hn hil hA.1
  obtain ⟨h1, e2, a1, a2, a3, a4⟩ := e_206 (sv := sv) (d := d + 4) (F := yup F 31 0) (h := zup h m (13, zMF m (yup F 31 0))) (hn.2.2.2.2.2 i t hi) zMo_up (zTab_cg hN (zup_ne (by omega))) (zLst_cg l5 (zup_ne (by omega)) (zup_ne (by omega)))
  rw [hlt] at a1
  have a1' := a1
  unfold zMo at a1'
  have E2 : zcall zP sv (d + 5) 206 [.ref m, .int (nI i)] (zup h m (13, zMF m (yup F 31 0))) = _ := e2
  have fr : ∀ q, q ≠ m → q ≠ m + 5 → q ≠ m + 6 → h1.1 q = h.1 q := fun q n0 n5 n6 => by rw [a3 q n0 n5 n6, zup_ne n0]
  have v31 : yup (yup F 31 0) 8 (nI (ysz t)) 31 = 0 := by rw [yup_ne (by omega), yup_eq]
  refine ⟨h1, ?_, ⟨yup (yup F 31 0) 8 (nI (ysz t)), v31, yup_eq, a2, ⟨a1, ⟨N, zTab_cg hN (fr _ (by omega) (by omega) (by omega)), hn⟩, zScm_of hs a2 (zLst_cg l7 (fr _ (by omega) (by omega) (by omega)) (fr _ (by omega) (by omega) (by omega))) (fun a ha => fr a (by omega) (by omega) (by omega))⟩, ⟨T, zTab_cg hT (fr _ (by omega) (by omega) (by omega))⟩, zRst_cg hr ⟨by rw [yup_ne (by omega), yup_ne (by omega)], by rw [yup_ne (by omega), yup_ne (by omega)], by rw [yup_ne (by omega), yup_ne (by omega)], by rw [yup_ne (by omega), yup_ne (by omega)], by rw [yup_ne (by omega), yup_ne (by omega)]⟩ (fr _ (by omega) (by omega) (by omega)) (fr _ (by omega) (by omega) (by omega)) (fr _ (by omega) (by omega) (by omega)) (fr _ (by omega) (by omega) (by omega)), hA, hA.2.1 t (List.mem_of_getElem? hi)⟩, ⟨fun q hq => fr q (by omega) (by omega) (by omega), a4⟩⟩
  simp only [zc_252, zs_252_0, zs_252_0n, zs_252_1, zs_252_1n, zs_252_2, zs_252_3, zs_252_6, zs_252_9, zs_252_10, zs_252_13, zs_252_14, zs_252_17, zs_252_17n, zs_252_18, zs_252_21, zs_252_24, zs_252_24n, zs_252_25, zs_252_26, zs_252_29, zs_252_29n, zs_252_30, zs_252_33, zs_252_36, zs_252_37, zs_252_40, zs_252_41, g, zrc_13v, E, zbk_v, zts_s, zts_n, zmp_31, zup_at, zmf_31, yup_eq, nI_1e0, List.cons_append, List.nil_append, E2, a1', v31, zgd_t, zty_51, ↓reduceIte]
/-- finds over what is looked at -/
theorem zMdL_f {k : Nat} (hk : k < 4) (hM : zMdL h m w t) : ∃ (h' : zH) (N : List Int32), zcall zP sv (d + 3) 213 [.ref m, .int (nI k)] h = some (.inl (some (.int (yfo (ymf k N) t))), h') ∧ zTab h (m + 1) N ∧ yNow N (ycur w) ∧ zMdL h' m w t ∧ zmw m h h' ∧ zFS h' m [yfo (ymf k N) t] 0 (yfs (ymf k N) t) ∧ zfw m h h' := by
  obtain ⟨F, f31, f8, l5, hw, ⟨T, hT⟩, hr, hA, ht⟩ := hM
  obtain ⟨hm, ⟨N, hN, hn⟩, hs⟩ := id hw
  obtain ⟨_, ⟨p1, l7⟩, hsf, c2, c3, c4, c5, c6⟩ := id hs
  obtain ⟨h', e, q1, q2⟩ := e_213 (sv := sv) (d := d) hk ht.1 (by have := ht.2.1; omega) hm f8 l5 hN.1 hN.2 hsf
  have fr : ∀ q, q ≠ m + 9 → q ≠ m + 10 → h'.1 q = h.1 q := q2.1
  have l5' : zLst h' (m + 5) (m + 6) (ypr t) := zLst_cg l5 (fr _ (by omega) (by omega)) (fr _ (by omega) (by omega))
  refine ⟨h', N, e, hN, hn, ⟨F, f31, f8, l5', ⟨by unfold zMo at hm ⊢; rw [fr m (by omega) (by omega), hm], ⟨N, zTab_cg hN (fr _ (by omega) (by omega)), hn⟩, ⟨⟨_, l5'⟩, ⟨_, zLst_cg l7 (fr _ (by omega) (by omega)) (fr _ (by omega) (by omega))⟩, zFS_SF q1, zArr_cg c2 (fr _ (by omega) (by omega)), zArr_cg c3 (fr _ (by omega) (by omega)), zArr_cg c4 (fr _ (by omega) (by omega)), zArr_cg c5 (fr _ (by omega) (by omega)), zArr_cg c6 (fr _ (by omega) (by omega))⟩⟩, ⟨T, zTab_cg hT (fr _ (by omega) (by omega))⟩, zRst_cg hr ⟨rfl, rfl, rfl, rfl, rfl⟩ (fr _ (by omega) (by omega)) (fr _ (by omega) (by omega)) (fr _ (by omega) (by omega)) (fr _ (by omega) (by omega)), hA, ht⟩, ⟨fun q hq => fr q (by omega) (by omega), q2.2⟩, q1, q2⟩
theorem zMdL_rc {X : zR} (hM : zMdL h m w t) : zrc (h.1 m) 13 X = X := by
  obtain ⟨F, _, _, _, hw, _⟩ := hM
  exact zMo_rc hw.1
theorem zMdl_rc {X : zR} (hM : zMdl h m w th) : zrc (h.1 m) 13 X = X := by
  obtain ⟨F, _, hw, _⟩ := hM
  exact zMo_rc hw.1
theorem e_253 (hM : zMdl h m w th) (hi : (ycur w).1[i]? = some t) : zMC m h (zcall zP sv (d + 7) 253 [.ref m, .int (nI i)] h) (nI (ysz t)) w 0 := by
  obtain ⟨h1, e1, m1, k1⟩ := e_252 (sv := sv) (d := d) hM hi
  have r0 : ∀ X : zR, zrc (h.1 m) 13 X = X := fun X => zMdl_rc hM
  refine ⟨h1, ?_, zMdL_M m1, k1⟩
  obtain ⟨F, f31, f8, _, ⟨hm, _⟩, _⟩ := m1
  unfold zMo at hm
  simp only [zc_253, zs_253_0, zs_253_0n, zs_253_1, zs_253_2, zs_253_5, zs_253_8, zs_253_8n, zs_253_9, zs_253_12, zs_253_15, zs_253_16, r0, e1, zbk_v, zts_s, nI_1e0, hm, zmf_8, f8, ↓reduceIte]
theorem e_253x {x : Int32} (hM : zMdl h m w th) (hx : yinF (ycur w) x = false) : zMC m h (zcall zP sv (d + 7) 253 [.ref m, .int x] h) 0 w (nI 1) := by
  obtain ⟨h1, e1, m1, k1⟩ := e_252x (sv := sv) (d := d) hM hx
  have r0 : ∀ X : zR, zrc (h.1 m) 13 X = X := fun X => zMdl_rc hM
  refine ⟨h1, ?_, m1, k1⟩
  simp only [zc_253, zs_253_0, zs_253_0n, zs_253_1, zs_253_2, zs_253_5, zs_253_8, zs_253_8n, zs_253_9, zs_253_12, zs_253_15, zs_253_16, r0, e1, zbk_v, zts_s, ↓reduceIte]
end ZQA
