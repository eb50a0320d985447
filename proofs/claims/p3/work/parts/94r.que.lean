section ZQB
variable {sv : Nat → Value} {d : Nat} {m : Nat} {F : Nat → Int32} {h : zH} {w : yW} {th : Int32} {i : Nat} {t : yT}
theorem e_254 (hM : zMdl h m w th) (hi : (ycur w).1[i]? = some t) : ∃ N, yNow N (ycur w) ∧ zMC m h (zcall zP sv (d + 7) 254 [.ref m, .int (nI i)] h) (yfo (ymf 1 N) t) w 0 := by
  obtain ⟨h1, e1, m1, k1⟩ := e_252 (sv := sv) (d := d) hM hi
  obtain ⟨h2, N, e2, _, hn, m2, k2, _, _⟩ := zMdL_f (sv := sv) (d := d + 3) (k := 1) (by decide) m1
  have r0 : ∀ X : zR, zrc (h.1 m) 13 X = X := fun X => zMdl_rc hM
  have r1 : ∀ X : zR, zrc (h1.1 m) 13 X = X := fun X => zMdL_rc m1
  have E2 : zcall zP sv (d + 6) 213 [.ref m, .int (nI 1)] h1 = some (.inl (some (.int (yfo (ymf 1 N) t))), h2) := by
    first
    | exact e2
    | (rw [nI_0] at e2; exact e2)
  refine ⟨N, hn, h2, ?_, zMdL_M m2, zmw_tr k1 k2⟩
  simp only [zc_254, zs_254_0, zs_254_0n, zs_254_1, zs_254_2, zs_254_5, zs_254_8, zs_254_8n, zs_254_9, zs_254_10, zs_254_13, zs_254_16, zs_254_17, r0, r1, e1, E2, zbk_v, zts_s, nI_1e0, ↓reduceIte]
theorem e_254x {x : Int32} (hM : zMdl h m w th) (hx : yinF (ycur w) x = false) : zMC m h (zcall zP sv (d + 7) 254 [.ref m, .int x] h) 0 w (nI 1) := by
  obtain ⟨h1, e1, m1, k1⟩ := e_252x (sv := sv) (d := d) hM hx
  have r0 : ∀ X : zR, zrc (h.1 m) 13 X = X := fun X => zMdl_rc hM
  refine ⟨h1, ?_, m1, k1⟩
  simp only [zc_254, zs_254_0, zs_254_0n, zs_254_1, zs_254_2, zs_254_5, zs_254_8, zs_254_8n, zs_254_9, zs_254_10, zs_254_13, zs_254_16, zs_254_17, r0, e1, zbk_v, zts_s, ↓reduceIte]
theorem e_256 (hM : zMdl h m w th) (hi : (ycur w).1[i]? = some t) : ∃ N, yNow N (ycur w) ∧ zMC m h (zcall zP sv (d + 7) 256 [.ref m, .int (nI i)] h) (yfo (ymf 2 N) t) w 0 := by
  obtain ⟨h1, e1, m1, k1⟩ := e_252 (sv := sv) (d := d) hM hi
  obtain ⟨h2, N, e2, _, hn, m2, k2, _, _⟩ := zMdL_f (sv := sv) (d := d + 3) (k := 2) (by decide) m1
  have r0 : ∀ X : zR, zrc (h.1 m) 13 X = X := fun X => zMdl_rc hM
  have r1 : ∀ X : zR, zrc (h1.1 m) 13 X = X := fun X => zMdL_rc m1
  have E2 : zcall zP sv (d + 6) 213 [.ref m, .int (nI 2)] h1 = some (.inl (some (.int (yfo (ymf 2 N) t))), h2) := by
    first
    | exact e2
    | (rw [nI_0] at e2; exact e2)
  refine ⟨N, hn, h2, ?_, zMdL_M m2, zmw_tr k1 k2⟩
  simp only [zc_256, zs_256_0, zs_256_0n, zs_256_1, zs_256_2, zs_256_5, zs_256_8, zs_256_8n, zs_256_9, zs_256_10, zs_256_13, zs_256_16, zs_256_17, r0, r1, e1, E2, zbk_v, zts_s, nI_1e0, ↓reduceIte]
theorem e_256x {x : Int32} (hM : zMdl h m w th) (hx : yinF (ycur w) x = false) : zMC m h (zcall zP sv (d + 7) 256 [.ref m, .int x] h) 0 w (nI 1) := by
  obtain ⟨h1, e1, m1, k1⟩ := e_252x (sv := sv) (d := d) hM hx
  have r0 : ∀ X : zR, zrc (h.1 m) 13 X = X := fun X => zMdl_rc hM
  refine ⟨h1, ?_, m1, k1⟩
  simp only [zc_256, zs_256_0, zs_256_0n, zs_256_1, zs_256_2, zs_256_5, zs_256_8, zs_256_8n, zs_256_9, zs_256_10, zs_256_13, zs_256_16, zs_256_17, r0, e1, zbk_v, zts_s, ↓reduceIte]
theorem e_264 (hM : zMdl h m w th) (hi : (ycur w).1[i]? = some t) : ∃ N, yNow N (ycur w) ∧ zMC m h (zcall zP sv (d + 7) 264 [.ref m, .int (nI i)] h) (yfo (ymf 0 N) t) w 0 := by
  obtain ⟨h1, e1, m1, k1⟩ := e_252 (sv := sv) (d := d) hM hi
  obtain ⟨h2, N, e2, _, hn, m2, k2, _, _⟩ := zMdL_f (sv := sv) (d := d + 3) (k := 0) (by decide) m1
  have r0 : ∀ X : zR, zrc (h.1 m) 13 X = X := fun X => zMdl_rc hM
  have r1 : ∀ X : zR, zrc (h1.1 m) 13 X = X := fun X => zMdL_rc m1
  have E2 : zcall zP sv (d + 6) 213 [.ref m, .int 0] h1 = some (.inl (some (.int (yfo (ymf 0 N) t))), h2) := by
    first
    | exact e2
    | (rw [nI_0] at e2; exact e2)
  refine ⟨N, hn, h2, ?_, zMdL_M m2, zmw_tr k1 k2⟩
  simp only [zc_264, zs_264_0, zs_264_0n, zs_264_1, zs_264_2, zs_264_5, zs_264_8, zs_264_8n, zs_264_9, zs_264_10, zs_264_13, zs_264_16, zs_264_17, r0, r1, e1, E2, zbk_v, zts_s, nI_1e0, ↓reduceIte]
theorem e_264x {x : Int32} (hM : zMdl h m w th) (hx : yinF (ycur w) x = false) : zMC m h (zcall zP sv (d + 7) 264 [.ref m, .int x] h) 0 w (nI 1) := by
  obtain ⟨h1, e1, m1, k1⟩ := e_252x (sv := sv) (d := d) hM hx
  have r0 : ∀ X : zR, zrc (h.1 m) 13 X = X := fun X => zMdl_rc hM
  refine ⟨h1, ?_, m1, k1⟩
  simp only [zc_264, zs_264_0, zs_264_0n, zs_264_1, zs_264_2, zs_264_5, zs_264_8, zs_264_8n, zs_264_9, zs_264_10, zs_264_13, zs_264_16, zs_264_17, r0, e1, zbk_v, zts_s, ↓reduceIte]
theorem e_268 (hM : zMdl h m w th) (hi : (ycur w).1[i]? = some t) : ∃ N, yNow N (ycur w) ∧ zMC m h (zcall zP sv (d + 7) 268 [.ref m, .int (nI i)] h) (yfo (ymf 3 N) t) w 0 := by
  obtain ⟨h1, e1, m1, k1⟩ := e_252 (sv := sv) (d := d) hM hi
  obtain ⟨h2, N, e2, _, hn, m2, k2, _, _⟩ := zMdL_f (sv := sv) (d := d + 3) (k := 3) (by decide) m1
  have r0 : ∀ X : zR, zrc (h.1 m) 13 X = X := fun X => zMdl_rc hM
  have r1 : ∀ X : zR, zrc (h1.1 m) 13 X = X := fun X => zMdL_rc m1
  have E2 : zcall zP sv (d + 6) 213 [.ref m, .int (nI 3)] h1 = some (.inl (some (.int (yfo (ymf 3 N) t))), h2) := by
    first
    | exact e2
    | (rw [nI_0] at e2; exact e2)
  refine ⟨N, hn, h2, ?_, zMdL_M m2, zmw_tr k1 k2⟩
  simp only [zc_268, zs_268_0, zs_268_0n, zs_268_1, zs_268_2, zs_268_5, zs_268_8, zs_268_8n, zs_268_9, zs_268_10, zs_268_13, zs_268_16, zs_268_17, r0, r1, e1, E2, zbk_v, zts_s, nI_1e0, ↓reduceIte]
theorem e_268x {x : Int32} (hM : zMdl h m w th) (hx : yinF (ycur w) x = false) : zMC m h (zcall zP sv (d + 7) 268 [.ref m, .int x] h) 0 w (nI 1) := by
  obtain ⟨h1, e1, m1, k1⟩ := e_252x (sv := sv) (d := d) hM hx
  have r0 : ∀ X : zR, zrc (h.1 m) 13 X = X := fun X => zMdl_rc hM
  refine ⟨h1, ?_, m1, k1⟩
  simp only [zc_268, zs_268_0, zs_268_0n, zs_268_1, zs_268_2, zs_268_5, zs_268_8, zs_268_8n, zs_268_9, zs_268_10, zs_268_13, zs_268_16, zs_268_17, r0, e1, zbk_v, zts_s, ↓reduceIte]
theorem e_265w {x a th' : Int32} (hM : zMdl h m w th) (hc : zMC m h (zcall zP sv (d + 7) 264 [.ref m, .int x] h) a w th') : zMC m h (zcall zP sv (d + 8) 265 [.ref m, .int x] h) a w th' := by
  obtain ⟨h1, e1, m1, k1⟩ := hc
  have r0 : ∀ X : zR, zrc (h.1 m) 13 X = X := fun X => zMdl_rc hM
  refine ⟨h1, ?_, m1, k1⟩
  simp only [zc_265, zs_265_0, zs_265_0n, zs_265_1, zs_265_2, zs_265_5, r0, e1, zbk_v, zts_s]
theorem e_269w {x a th' : Int32} (hM : zMdl h m w th) (hc : zMC m h (zcall zP sv (d + 7) 268 [.ref m, .int x] h) a w th') : zMC m h (zcall zP sv (d + 8) 269 [.ref m, .int x] h) a w th' := by
  obtain ⟨h1, e1, m1, k1⟩ := hc
  have r0 : ∀ X : zR, zrc (h.1 m) 13 X = X := fun X => zMdl_rc hM
  refine ⟨h1, ?_, m1, k1⟩
  simp only [zc_269, zs_269_0, zs_269_0n, zs_269_1, zs_269_2, zs_269_5, r0, e1, zbk_v, zts_s]
theorem zMdL_31 {x : Int32} (hM : zMdL h m w t) : ∃ F : Nat → Int32, h.1 m = (13, zMF m F) ∧ zMdl (zup h m (13, zMF m (yup F 31 x))) m w x ∧ zmw m h (zup h m (13, zMF m (yup F 31 x))) := by
  obtain ⟨F, g, g1, g2, _⟩ := zMdl_31 (x := x) (zMdL_M hM)
  exact ⟨F, g, g1, g2⟩
theorem e_255x {x c : Int32} (hM : zMdl h m w th) (hx : yinF (ycur w) x = false) : zMC m h (zcall zP sv (d + 7) 255 [.ref m, .int x, .int c] h) 0 w (nI 1) := by
  obtain ⟨h1, e1, m1, k1⟩ := e_252x (sv := sv) (d := d) hM hx
  have r0 : ∀ X : zR, zrc (h.1 m) 13 X = X := fun X => zMdl_rc hM
  refine ⟨h1, ?_, m1, k1⟩
  simp only [zc_255, zs_255_0, zs_255_0n, zs_255_1, zs_255_2, zs_255_5, zs_255_8, zs_255_9, zs_255_10, zs_255_11, zs_255_14, zs_255_17, zs_255_17n, zs_255_18, zs_255_19, zs_255_21, zs_255_22, zs_255_25, zs_255_28, zs_255_28n, zs_255_29, zs_255_30, zs_255_33, r0, e1, zbk_v, zts_s, ↓reduceIte]
theorem e_255a {c : Int32} (hM : zMdl h m w th) (hi : (ycur w).1[i]? = some t) (hc : ylet c = false) : zMC m h (zcall zP sv (d + 7) 255 [.ref m, .int (nI i), .int c] h) 0 w (nI 2) := by
  obtain ⟨h1, e1, m1, k1⟩ := e_252 (sv := sv) (d := d) hM hi
  have r0 : ∀ X : zR, zrc (h.1 m) 13 X = X := fun X => zMdl_rc hM
  have r1 : ∀ X : zR, zrc (h1.1 m) 13 X = X := fun X => zMdL_rc m1
  have E2 : zcall zP sv (d + 6) 204 [.int c] h1 = _ := e_204 (sv := sv) (d := d + 4) (c := c)
  rw [hc, yb_f] at E2
  obtain ⟨F, g, g1, g2⟩ := zMdL_31 (x := nI 2) m1
  have E3 : zcall zP sv (d + 6) 198 [.ref m, .int (nI 2)] h1 = _ := e_198 (sv := sv) (d := d + 5) (x := nI 2) (F := F) g
  refine ⟨_, ?_, g1, zmw_tr k1 g2⟩
  simp only [zc_255, zs_255_0, zs_255_0n, zs_255_1, zs_255_2, zs_255_5, zs_255_8, zs_255_9, zs_255_10, zs_255_11, zs_255_14, zs_255_17, zs_255_17n, zs_255_18, zs_255_19, zs_255_21, zs_255_22, zs_255_25, zs_255_28, zs_255_28n, zs_255_29, zs_255_30, zs_255_33, r0, r1, e1, E2, E3, zbk_v, zts_s, nI_1e0, ↓reduceIte]
theorem e_255 {c : Int32} (hM : zMdl h m w th) (hi : (ycur w).1[i]? = some t) (hc : ylet c = true) : zMC m h (zcall zP sv (d + 7) 255 [.ref m, .int (nI i), .int c] h) (nI (yct (c - nI 97) (ypr t))) w 0 := by
  obtain ⟨h1, e1, m1, k1⟩ := e_252 (sv := sv) (d := d) hM hi
  have r0 : ∀ X : zR, zrc (h.1 m) 13 X = X := fun X => zMdl_rc hM
  have r1 : ∀ X : zR, zrc (h1.1 m) 13 X = X := fun X => zMdL_rc m1
  have E2 : zcall zP sv (d + 6) 204 [.int c] h1 = _ := e_204 (sv := sv) (d := d + 4) (c := c)
  rw [hc, yb_t] at E2
  have m1' := zMdL_M m1
  obtain ⟨F, f31, f8, l5, ⟨hm, _⟩, _⟩ := m1
  have E3 : zcall zP sv (d + 6) 242 [.ref m, .int (c - nI 97)] h1 = _ := e_242 (sv := sv) (d := d + 5) (x := c - nI 97) hm (by rw [f8, ypr_len]) l5
  refine ⟨h1, ?_, m1', k1⟩
  simp only [zc_255, zs_255_0, zs_255_0n, zs_255_1, zs_255_2, zs_255_5, zs_255_8, zs_255_9, zs_255_10, zs_255_11, zs_255_14, zs_255_17, zs_255_17n, zs_255_18, zs_255_19, zs_255_21, zs_255_22, zs_255_25, zs_255_28, zs_255_28n, zs_255_29, zs_255_30, zs_255_33, r0, r1, e1, E2, E3, zbk_v, zts_s, nI_1e0, ↓reduceIte]
theorem e_250x {c : Int32} (hM : zMdl h m w th) (hc : ylet c = false) : zMC m h (zcall zP sv (d + 7) 250 [.ref m, .int c] h) 0 w (nI 1) := by
  obtain ⟨F, g, g1, g2, hw, _, hr, hA⟩ := zMdl_31 (x := nI 1) hM
  have E2 : zcall zP sv (d + 6) 204 [.int c] h = _ := e_204 (sv := sv) (d := d + 4) (c := c)
  rw [hc, yb_f] at E2
  refine ⟨_, ?_, g1, g2⟩
  simp only [zc_250, zs_250_0, zs_250_0n, zs_250_1, zs_250_2, zs_250_5, zs_250_8, zs_250_9, zs_250_12, zs_250_13, zs_250_16, zs_250_16n, zs_250_17, zs_250_20, zs_250_23, zs_250_23n, zs_250_24, zs_250_27, zs_250_28, zs_250_29, zs_250_30, zs_250_32, zs_250_33, zs_250_34, zs_250_37, zs_250_38, g, E2, zmp_31, zmf_31, zup_at, yup_eq, zbk_v, zts_s, nI_1e0, List.cons_append, List.nil_append, ↓reduceIte]
theorem e_250 {c : Int32} (hM : zMdl h m w th) (hc : ylet c = true) : zMC m h (zcall zP sv (d + 7) 250 [.ref m, .int c] h) (yg (ycur w).2.1 (c - nI 97)) w 0 := by
  obtain ⟨F, g, g1, g2, hw, _, hr, hA⟩ := zMdl_31 (x := 0) hM
  obtain ⟨v, hv, rfl⟩ := ylet_of hc
  obtain ⟨_, ⟨N, hN, hn⟩, _⟩ := id hw
  have hN1 := hN.1
  have hA6 := hA.2.2
  have E2 : zcall zP sv (d + 6) 204 [.int (nI (97 + v))] h = _ := e_204 (sv := sv) (d := d + 4) (c := nI (97 + v))
  rw [hc, yb_t] at E2
  have hx : (ycur w).2.1[v]? = some ((ycur w).2.1.getD v 0) := by
    rw [List.getD_eq_getElem?_getD, List.getElem?_eq_getElem (by omega)]
    rfl
  have e0 : ∀ Kv, zael (20, N.map Value.int) 20 (nI (3 + v)) Kv = Kv (.int ((ycur w).2.1.getD v 0)) := fun Kv => zaelv (by rw [List.getElem?_map, hn.2.2.2.2.1 v _ hx]; rfl) (by omega)
  rw [nI_97, yg_nn (by omega)]
  refine ⟨_, ?_, g1, g2⟩
  have hne : m + 1 ≠ m := by omega
  simp (disch := exact hne) only [zc_250, zs_250_0, zs_250_0n, zs_250_1, zs_250_2, zs_250_5, zs_250_8, zs_250_9, zs_250_12, zs_250_13, zs_250_16, zs_250_16n, zs_250_17, zs_250_20, zs_250_23, zs_250_23n, zs_250_24, zs_250_27, zs_250_28, zs_250_29, zs_250_30, zs_250_32, zs_250_33, zs_250_34, zs_250_37, zs_250_38, g, E2, zmp_31, zmf_31, zmf_0, zup_at, zup_ne, yup_eq, hN1, nI_397, e0, zbk_v, zts_s, nI_1e0, List.cons_append, List.nil_append, ↓reduceIte]
end ZQB
