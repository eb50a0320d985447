section ZQR
variable {sv : Nat → Value} {d : Nat} {m : Nat} {h : zH} {w : yW} {th : Int32} {i : Nat} {t : yT} {M : Nat}
/-- like zMC, for any value -/
def zMV (m : Nat) (h : zH) (r : zR) (v : Value) (w : yW) (th : Int32) : Prop := ∃ h', r = some (.inl (some v), h') ∧ zMdl h' m w th ∧ zmw m h h'
theorem zMdl_n1 (hM : zMdl h m w th) (hR : (ycur w).2.2.1 = nI M) : ∃ (F : Nat → Int32) (N : List Int32), h.1 m = (13, zMF m F) ∧ h.1 (m + 1) = (20, N.map Value.int) ∧ (∀ Kv, zael (20, N.map Value.int) 20 (nI 1) Kv = Kv (.int (nI M))) ∧ F 31 = th := by
  obtain ⟨F, f31, ⟨hm, ⟨N, hN, hn⟩, _⟩, _⟩ := hM
  refine ⟨F, N, hm, hN.1, fun Kv => zaelv ?_ (by omega), f31⟩
  rw [List.getElem?_map, hn.2.2.1, hR]
  rfl
theorem e_273x {x : Int32} (hM : zMdl h m w th) (hR : (ycur w).2.2.1 = nI M) (hx : yinF (ycur w) x = false) : zMC m h (zcall zP sv (d + 8) 273 [.ref m, .int x] h) 0 w (nI 1) := by
  obtain ⟨F, N, g1, g2, g3, _⟩ := zMdl_n1 hM hR
  obtain ⟨h1, e1, m1, k1⟩ := e_272x (sv := sv) (d := d) (y := nI M) hM hx
  refine ⟨h1, ?_, m1, k1⟩
  simp (disch := first | exact znw_u | exact znw_i) only [zc_273, zs_273_0, zs_273_0n, zs_273_1, zs_273_2, zs_273_2n, zs_273_3, zs_273_6, zs_273_7, zs_273_8, zs_273_11, zs_273_14, zs_273_14n, zs_273_15, zs_273_18, zs_273_21, zs_273_22, g1, zmf_0, g2, g3, zrc_13v, e1, zbk_v, zts_s, ↓reduceIte, List.cons_append, List.nil_append]
theorem e_273 (hM : zMdl h m w th) (hi : (ycur w).1[i]? = some t) (hR : (ycur w).2.2.1 = nI M) (h1M : 1 ≤ M) (hM4 : M ≤ 4) : zMC m h (zcall zP sv (d + 12) 273 [.ref m, .int (nI i)] h) (nI (yco M t 0 0).length) w 0 := by
  obtain ⟨F, N, g1, g2, g3, _⟩ := zMdl_n1 hM hR
  obtain ⟨h1, e1, m1, k1⟩ := e_272 (sv := sv) (d := d) hM hi h1M hM4
  refine ⟨h1, ?_, zMdC_M m1, k1⟩
  obtain ⟨F1, _, ⟨s0, s19, _⟩, _⟩ := m1
  simp (disch := first | exact znw_u | exact znw_i) only [zc_273, zs_273_0, zs_273_0n, zs_273_1, zs_273_2, zs_273_2n, zs_273_3, zs_273_6, zs_273_7, zs_273_8, zs_273_11, zs_273_14, zs_273_14n, zs_273_15, zs_273_18, zs_273_21, zs_273_22, g1, zmf_0, g2, g3, zrc_13v, e1, zbk_v, zts_s, nI_1e0, s0, zmf_19, s19, ↓reduceIte, List.cons_append, List.nil_append]
theorem e_274x {x : Int32} (hM : zMdl h m w th) (hR : (ycur w).2.2.1 = nI M) (hx : yinF (ycur w) x = false) : zMC m h (zcall zP sv (d + 8) 274 [.ref m, .int x] h) 0 w (nI 1) := by
  obtain ⟨F, N, g1, g2, g3, _⟩ := zMdl_n1 hM hR
  obtain ⟨h1, e1, m1, k1⟩ := e_272x (sv := sv) (d := d) (y := nI M) hM hx
  refine ⟨h1, ?_, m1, k1⟩
  simp (disch := first | exact znw_u | exact znw_i) only [zc_274, zs_274_0, zs_274_0n, zs_274_1, zs_274_2, zs_274_2n, zs_274_3, zs_274_6, zs_274_7, zs_274_8, zs_274_11, zs_274_14, zs_274_14n, zs_274_15, zs_274_18, zs_274_21, zs_274_22, g1, zmf_0, g2, g3, zrc_13v, e1, zbk_v, zts_s, ↓reduceIte, List.cons_append, List.nil_append]
theorem e_274 (hM : zMdl h m w th) (hi : (ycur w).1[i]? = some t) (hR : (ycur w).2.2.1 = nI M) (h1M : 1 ≤ M) (hM4 : M ≤ 4) : zMC m h (zcall zP sv (d + 12) 274 [.ref m, .int (nI i)] h) (nI (ycs (yco M t 0 0))) w 0 := by
  obtain ⟨F, N, g1, g2, g3, _⟩ := zMdl_n1 hM hR
  obtain ⟨h1, e1, m1, k1⟩ := e_272 (sv := sv) (d := d) hM hi h1M hM4
  refine ⟨h1, ?_, zMdC_M m1, k1⟩
  obtain ⟨F1, _, ⟨s0, s19, s20, _⟩, _⟩ := m1
  simp (disch := first | exact znw_u | exact znw_i) only [zc_274, zs_274_0, zs_274_0n, zs_274_1, zs_274_2, zs_274_2n, zs_274_3, zs_274_6, zs_274_7, zs_274_8, zs_274_11, zs_274_14, zs_274_14n, zs_274_15, zs_274_18, zs_274_21, zs_274_22, g1, zmf_0, g2, g3, zrc_13v, e1, zbk_v, zts_s, nI_1e0, s0, zmf_20, s20, ↓reduceIte, List.cons_append, List.nil_append]
theorem e_275x {x : Int32} (hM : zMdl h m w th) (hR : (ycur w).2.2.1 = nI M) (hx : yinF (ycur w) x = false) : zMC m h (zcall zP sv (d + 8) 275 [.ref m, .int x] h) 0 w (nI 1) := by
  obtain ⟨F, N, g1, g2, g3, _⟩ := zMdl_n1 hM hR
  obtain ⟨h1, e1, m1, k1⟩ := e_272x (sv := sv) (d := d) (y := nI M) hM hx
  refine ⟨h1, ?_, m1, k1⟩
  simp (disch := first | exact znw_u | exact znw_i) only [zc_275, zs_275_0, zs_275_0n, zs_275_1, zs_275_2, zs_275_2n, zs_275_3, zs_275_6, zs_275_7, zs_275_8, zs_275_11, zs_275_14, zs_275_14n, zs_275_15, zs_275_18, zs_275_21, zs_275_24, zs_275_25, g1, zmf_0, g2, g3, zrc_13v, e1, zbk_v, zts_s, ↓reduceIte, List.cons_append, List.nil_append]
theorem e_292x {x : Int32} (hM : zMdl h m w th) (hR : (ycur w).2.2.1 = nI M) (hx : yinF (ycur w) x = false) : zMV m h (zcall zP sv (d + 8) 292 [.ref m, .int x] h) (.float FP.fconst0) w (nI 1) := by
  obtain ⟨F, N, g1, g2, g3, _⟩ := zMdl_n1 hM hR
  obtain ⟨h1, e1, m1, k1⟩ := e_272x (sv := sv) (d := d) (y := nI M) hM hx
  refine ⟨h1, ?_, m1, k1⟩
  simp (disch := first | exact znw_u | exact znw_i) only [zc_292, zs_292_0, zs_292_0n, zs_292_1, zs_292_2, zs_292_2n, zs_292_3, zs_292_6, zs_292_7, zs_292_8, zs_292_11, zs_292_14, zs_292_14n, zs_292_15, zs_292_18, zs_292_19, zs_292_19n, zs_292_20, zs_292_23, zs_292_24, zs_292_25, zs_292_28, zs_292_29, g1, zmf_0, g2, g3, zrc_13v, e1, zbk_v, zts_s, ↓reduceIte, List.cons_append, List.nil_append]
theorem yfdiv : ∀ b, b < 63 → ∀ a, a ≤ b → 1 ≤ b → decide (FP.fdiv (FP.i2f (nI a)) (FP.i2f (nI b)) &&& 0x7fffffff ≤ 0x7f800000) = true := by decide +kernel
theorem e_292 (hM : zMdl h m w th) (hi : (ycur w).1[i]? = some t) (hR : (ycur w).2.2.1 = nI M) (h1M : 1 ≤ M) (hM4 : M ≤ 4) : zMV m h (zcall zP sv (d + 12) 292 [.ref m, .int (nI i)] h) (.float (FP.fdiv (FP.i2f (nI (ycs (yco M t 0 0)))) (FP.i2f (nI (yco M t 0 0).length)))) w 0 := by
  obtain ⟨F, N, g1, g2, g3, _⟩ := zMdl_n1 hM hR
  obtain ⟨h1, e1, m1, k1⟩ := e_272 (sv := sv) (d := d) hM hi h1M hM4
  refine ⟨h1, ?_, zMdC_M m1, k1⟩
  obtain ⟨F1, _, ⟨s0, s19, s20, _⟩, _, _, _, _, tk⟩ := m1
  have hz := tk.2.1
  have hlen := yco_len (M := M) (ysz t) t (Nat.le_refl _) tk.1 0 0
  have hfd := yfdiv (yco M t 0 0).length (by omega) _ (ycs_le (q := yco M t 0 0)) (yco_pos tk.1)
  simp (disch := first | exact znw_u | exact znw_i) only [zc_292, zs_292_0, zs_292_0n, zs_292_1, zs_292_2, zs_292_2n, zs_292_3, zs_292_6, zs_292_7, zs_292_8, zs_292_11, zs_292_14, zs_292_14n, zs_292_15, zs_292_18, zs_292_19, zs_292_19n, zs_292_20, zs_292_23, zs_292_24, zs_292_25, zs_292_28, zs_292_29, g1, zmf_0, g2, g3, zrc_13v, e1, zbk_v, zts_s, nI_1e0, s0, zmf_19, s19, zmf_20, s20, hfd, zgd_t, ↓reduceIte, List.cons_append, List.nil_append]
/-- is an index one of the code's -/
def yinC (q : List yI) (x : Int32) : Bool := decide (¬ x < 0) && decide (¬ nI q.length - nI 1 < x)
theorem e_277x {x y : Int32} (hM : zMdl h m w th) (hR : (ycur w).2.2.1 = nI M) (hx : yinF (ycur w) x = false) : ∃ h', zcall zP sv (d + 8) 277 [.ref m, .int x, .int y] h = some (.inl (some (.int 0)), h') ∧ zMdl h' m w (nI 1) ∧ zmw m h h' := by
  obtain ⟨F, N, g1, g2, g3, _⟩ := zMdl_n1 hM hR
  obtain ⟨h1, e1, m1, k1⟩ := e_272x (sv := sv) (d := d) (y := nI M) hM hx
  obtain ⟨F1, q1, q2, q3, _⟩ := zMdl_31 (x := nI 1) m1
  refine ⟨_, ?_, q2, zmw_tr k1 q3⟩
  simp (disch := first | exact znw_u | exact znw_i) only [zc_277, zs_277_0, zs_277_1, zs_277_2, zs_277_3, zs_277_6, zs_277_7, zs_277_8, zs_277_11, zs_277_32, zs_277_33, zs_277_34, zs_277_35, zs_277_36, zs_277_43, zs_277_44, zs_277_47, zs_277_48, g1, q1, zmf_0, g2, g3, zmp_31, zrc_13v, e1, zbk_v, zts_s, zgd_t, zty_50, ↓reduceIte, List.cons_append, List.nil_append]
theorem zMF_19 {F G : Nat → Int32} (e : zMF m F = zMF m G) : F 19 = G 19 := by
  have := congrArg (fun l : List Value => l[19]?) e
  exact Value.int.inj (Option.some.inj this)
theorem e_277o {y : Int32} (hM : zMdl h m w th) (hi : (ycur w).1[i]? = some t) (hR : (ycur w).2.2.1 = nI M) (h1M : 1 ≤ M) (hM4 : M ≤ 4) (hy : yinC (yco M t 0 0) y = false) : ∃ h', zcall zP sv (d + 12) 277 [.ref m, .int (nI i), .int y] h = some (.inl (some (.int 0)), h') ∧ zMdl h' m w (nI 1) ∧ zmw m h h' := by
  obtain ⟨F, N, g1, g2, g3, _⟩ := zMdl_n1 hM hR
  obtain ⟨h1, e1, m1, k1⟩ := e_272 (sv := sv) (d := d) hM hi h1M hM4
  have m1' := zMdC_M m1
  obtain ⟨F1, _, ⟨s0, s19, _⟩, _⟩ := m1
  obtain ⟨F2, q1, q2, q3, _⟩ := zMdl_31 (x := nI 1) m1'
  have s19' : F2 19 = nI (yco M t 0 0).length := by
    rw [← s19]
    rw [s0] at q1
    exact (zMF_19 (Prod.mk.inj q1).2).symm
  have E : zcall zP sv (d + 11) 199 [.int y, .int 0, .int (nI (yco M t 0 0).length - nI 1)] h1 = some (.inl (some (.int (yb (yinC (yco M t 0 0) y)))), h1) := e_199 (d := d + 10)
  rw [hy, yb_f] at E
  refine ⟨_, ?_, q2, zmw_tr k1 q3⟩
  simp (disch := first | exact znw_u | exact znw_i) only [zc_277, zs_277_0, zs_277_1, zs_277_2, zs_277_3, zs_277_6, zs_277_7, zs_277_8, zs_277_11, zs_277_14, zs_277_15, zs_277_16, zs_277_17, zs_277_20, zs_277_21, zs_277_22, zs_277_25, zs_277_32, zs_277_33, zs_277_34, zs_277_35, zs_277_36, zs_277_43, zs_277_44, zs_277_47, zs_277_48, g1, q1, zmf_0, zmf_19, s19', zmp_31, g2, g3, zrc_13v, e1, E, zbk_v, zts_s, nI_1e0, zgd_t, zty_50, ↓reduceIte, List.cons_append, List.nil_append]
theorem e_277 {y : Int32} (hM : zMdl h m w th) (hi : (ycur w).1[i]? = some t) (hR : (ycur w).2.2.1 = nI M) (h1M : 1 ≤ M) (hM4 : M ≤ 4) (hy : yinC (yco M t 0 0) y = true) : ∃ h', zcall zP sv (d + 12) 277 [.ref m, .int (nI i), .int y] h = some (.inl (some (.int (nI 1))), h') ∧ zMdC h' m w t M ∧ zmw m h h' := by
  obtain ⟨F, N, g1, g2, g3, _⟩ := zMdl_n1 hM hR
  obtain ⟨h1, e1, m1, k1⟩ := e_272 (sv := sv) (d := d) hM hi h1M hM4
  obtain ⟨F1, f31, ⟨s0, s19, s20, s21, s22, sC⟩, a3, ⟨T, a4⟩, a5, a6, a7⟩ := m1
  have E : zcall zP sv (d + 11) 199 [.int y, .int 0, .int (nI (yco M t 0 0).length - nI 1)] h1 = some (.inl (some (.int (yb (yinC (yco M t 0 0) y)))), h1) := e_199 (d := d + 10)
  rw [hy, yb_t] at E
  have f1 : ∀ q, q ≠ m → (zup h1 m (13, zMF m (yup F1 31 0))).1 q = h1.1 q := fun q z => zup_ne z
  obtain ⟨A, B, C, D, ⟨c1, c2, c3, c4⟩, cw⟩ := sC
  refine ⟨zup h1 m (13, zMF m (yup F1 31 0)), ?_, ⟨_, yup_eq, ⟨zup_at, by rw [yup_ne (by omega), s19], by rw [yup_ne (by omega), s20], by rw [yup_ne (by omega), s21], by rw [yup_ne (by omega), s22], ⟨A, B, C, D, ⟨by rw [f1 _ (by omega), c1], by rw [f1 _ (by omega), c2], by rw [f1 _ (by omega), c3], by rw [f1 _ (by omega), c4]⟩, cw⟩⟩, zWk_cg a3 zup_at (fun q hq => f1 q (by omega)), ⟨T, zTab_cg a4 (f1 _ (by omega))⟩, zRst_cg a5 ⟨yup_ne (by omega), yup_ne (by omega), yup_ne (by omega), yup_ne (by omega), yup_ne (by omega)⟩ (f1 _ (by omega)) (f1 _ (by omega)) (f1 _ (by omega)) (f1 _ (by omega)), a6, a7⟩, zmw_tr k1 ⟨fun q hq => f1 q (by omega), rfl⟩⟩
  simp (disch := first | exact znw_u | exact znw_i) only [zc_277, zs_277_0, zs_277_1, zs_277_2, zs_277_3, zs_277_6, zs_277_7, zs_277_8, zs_277_11, zs_277_14, zs_277_15, zs_277_16, zs_277_17, zs_277_20, zs_277_21, zs_277_22, zs_277_25, zs_277_28, zs_277_29, zs_277_33, zs_277_34, zs_277_35, zs_277_36, zs_277_39, zs_277_40, zs_277_44, zs_277_47, zs_277_48, g1, s0, zmf_0, zmf_19, s19, zmp_31, g2, g3, zrc_13v, e1, E, zbk_v, zts_s, nI_1e0, zgd_t, zty_51, ↓reduceIte, List.cons_append, List.nil_append]
/-- an instruction in the model's arrays -/
theorem zCdM_at {q : List yI} {n : Nat} {x : yI} (hc : zCdM h m q) (hx : q[n]? = some x) : (∀ Kv, zael (h.1 (m + 12)) 21 (nI n) Kv = Kv (.int x.1)) ∧ (∀ Kv, zael (h.1 (m + 13)) 20 (nI n) Kv = Kv (.int x.2.1)) ∧ (∀ Kv, zael (h.1 (m + 14)) 20 (nI n) Kv = Kv (.int (ylf x))) ∧ ∀ Kv, zael (h.1 (m + 15)) 20 (nI n) Kv = Kv (.int (yrt x)) := by
  obtain ⟨A, B, C, D, ⟨a1, a2, a3, a4⟩, ⟨b1, b2, b3, b4⟩, ⟨c1, c2, c3, c4⟩, q7⟩ := hc
  have h0 := (List.getElem?_eq_some_iff.mp hx).1
  have u1 := ytk_at c1 (show (q.map (fun i => i.1))[n]? = some x.1 by rw [List.getElem?_map, hx]; rfl)
  have u2 := ytk_at c2 (show (q.map (fun i => i.2.1))[n]? = some x.2.1 by rw [List.getElem?_map, hx]; rfl)
  have u3 := ytk_at c3 (show (q.map ylf)[n]? = some (ylf x) by rw [List.getElem?_map, hx]; rfl)
  have u4 := ytk_at c4 (show (q.map yrt)[n]? = some (yrt x) by rw [List.getElem?_map, hx]; rfl)
  exact ⟨fun Kv => by rw [a1]; exact zaelv (by rw [List.getElem?_map, u1]; rfl) (by omega), fun Kv => by rw [a2]; exact zaelv (by rw [List.getElem?_map, u2]; rfl) (by omega), fun Kv => by rw [a3]; exact zaelv (by rw [List.getElem?_map, u3]; rfl) (by omega), fun Kv => by rw [a4]; exact zaelv (by rw [List.getElem?_map, u4]; rfl) (by omega)⟩
theorem yinC_n {q : List yI} {y : Int32} (hy : yinC q y = true) (hq : q.length < 2 ^ 30) : ∃ n x, y = nI n ∧ q[n]? = some x := by
  unfold yinC at hy
  rw [Bool.and_eq_true] at hy
  have h1 := of_decide_eq_true hy.1
  have h2 := of_decide_eq_true hy.2
  obtain ⟨n, hn, rfl⟩ := nI_of h1
  have hn2 : n < q.length := by
    refine Nat.lt_of_not_le fun z => h2 ?_
    rcases Nat.eq_zero_or_pos q.length with c | c
    · rw [c]
      exact Int32.lt_of_lt_of_le (b := 0) (by decide +kernel) (nI_pos' hn)
    · rw [show q.length = q.length - 1 + 1 by omega, nI_m]
      exact nI_lt (by omega) hn
  exact ⟨n, _, rfl, List.getElem?_eq_getElem hn2⟩
theorem yIok_c {x : yI} (hx : yIok x) : zty 7 (.int x.1) = true := by
  have e1 : zty 7 (.int (nI 99)) = true := by decide +kernel
  have e2 : zty 7 (.int (nI 118)) = true := by decide +kernel
  have e3 : zty 7 (.int (nI 110)) = true := by decide +kernel
  have e4 : zty 7 (.int (nI 115)) = true := by decide +kernel
  have e5 : zty 7 (.int (nI 43)) = true := by decide +kernel
  have e6 : zty 7 (.int (nI 45)) = true := by decide +kernel
  have e7 : zty 7 (.int (nI 42)) = true := by decide +kernel
  rcases hx.2 with g | g | g | g | g
  · rw [g]; exact e1
  · rw [g.1]; exact e2
  · rw [g.1]; exact e3
  · rw [g.1]; exact e4
  · rcases yis_k g.1 with z | z | z <;> rw [z]
    · exact e5
    · exact e6
    · exact e7
theorem e_278x {x y : Int32} (hM : zMdl h m w th) (hR : (ycur w).2.2.1 = nI M) (hx : yinF (ycur w) x = false) : zMC m h (zcall zP sv (d + 9) 278 [.ref m, .int x, .int y] h) (nI 97) w (nI 1) := by
  obtain ⟨h1, e1, m1, k1⟩ := e_277x (sv := sv) (d := d) (y := y) hM hR hx
  have r0 : ∀ X : zR, zrc (h.1 m) 13 X = X := fun X => zMdl_rc hM
  have z7 : zty 7 (.int (nI 97)) = true := by decide +kernel
  refine ⟨h1, ?_, m1, k1⟩
  simp only [zc_278, zs_278_0, zs_278_0n, zs_278_1, zs_278_2, zs_278_3, zs_278_6, zs_278_9, zs_278_9n, zs_278_10, zs_278_13, zs_278_14, zs_278_15, zs_278_18, zs_278_20, r0, e1, zbk_v, zts_s, z7, zgd_t, ↓reduceIte, List.cons_append, List.nil_append]
theorem e_278o {y : Int32} (hM : zMdl h m w th) (hi : (ycur w).1[i]? = some t) (hR : (ycur w).2.2.1 = nI M) (h1M : 1 ≤ M) (hM4 : M ≤ 4) (hy : yinC (yco M t 0 0) y = false) : zMC m h (zcall zP sv (d + 13) 278 [.ref m, .int (nI i), .int y] h) (nI 97) w (nI 1) := by
  obtain ⟨h1, e1, m1, k1⟩ := e_277o (sv := sv) (d := d) (y := y) hM hi hR h1M hM4 hy
  have r0 : ∀ X : zR, zrc (h.1 m) 13 X = X := fun X => zMdl_rc hM
  have z7 : zty 7 (.int (nI 97)) = true := by decide +kernel
  refine ⟨h1, ?_, m1, k1⟩
  simp only [zc_278, zs_278_0, zs_278_0n, zs_278_1, zs_278_2, zs_278_3, zs_278_6, zs_278_9, zs_278_9n, zs_278_10, zs_278_13, zs_278_14, zs_278_15, zs_278_18, zs_278_20, r0, e1, zbk_v, zts_s, z7, zgd_t, ↓reduceIte, List.cons_append, List.nil_append]
theorem e_278 {n : Nat} {x : yI} (hM : zMdl h m w th) (hi : (ycur w).1[i]? = some t) (hR : (ycur w).2.2.1 = nI M) (h1M : 1 ≤ M) (hM4 : M ≤ 4) (hy : yinC (yco M t 0 0) (nI n) = true) (hx : (yco M t 0 0)[n]? = some x) : zMC m h (zcall zP sv (d + 13) 278 [.ref m, .int (nI i), .int (nI n)] h) x.1 w 0 := by
  obtain ⟨h1, e1, m1, k1⟩ := e_277 (sv := sv) (d := d) hM hi hR h1M hM4 hy
  have r0 : ∀ X : zR, zrc (h.1 m) 13 X = X := fun X => zMdl_rc hM
  refine ⟨h1, ?_, zMdC_M m1, k1⟩
  obtain ⟨F1, _, ⟨s0, _, _, _, _, sC⟩, _, _, _, _, tk⟩ := m1
  have g1 := (zCdM_at sC hx).1
  have ok := yco_ok hM4 (ysz t) t (Nat.le_refl _) (by have := tk.2.1; omega) tk.1 0 0 (by omega) (by have := tk.2.2; omega) x (List.mem_of_getElem? hx)
  simp only [zc_278, zs_278_0, zs_278_0n, zs_278_1, zs_278_2, zs_278_3, zs_278_6, zs_278_9, zs_278_9n, zs_278_10, zs_278_13, zs_278_14, zs_278_15, zs_278_18, zs_278_20, r0, e1, zbk_v, zts_s, nI_1e0, s0, zmf_15, g1, yIok_c ok, zgd_t, ↓reduceIte, List.cons_append, List.nil_append]
theorem e_279x {x y : Int32} (hM : zMdl h m w th) (hR : (ycur w).2.2.1 = nI M) (hx : yinF (ycur w) x = false) : zMC m h (zcall zP sv (d + 9) 279 [.ref m, .int x, .int y] h) 0 w (nI 1) := by
  obtain ⟨h1, e1, m1, k1⟩ := e_277x (sv := sv) (d := d) (y := y) hM hR hx
  have r0 : ∀ X : zR, zrc (h.1 m) 13 X = X := fun X => zMdl_rc hM
  refine ⟨h1, ?_, m1, k1⟩
  simp only [zc_279, zs_279_0, zs_279_0n, zs_279_1, zs_279_2, zs_279_3, zs_279_6, zs_279_9, zs_279_9n, zs_279_10, zs_279_13, zs_279_14, zs_279_15, zs_279_18, zs_279_19, r0, e1, zbk_v, zts_s, ↓reduceIte, List.cons_append, List.nil_append]
theorem e_279o {y : Int32} (hM : zMdl h m w th) (hi : (ycur w).1[i]? = some t) (hR : (ycur w).2.2.1 = nI M) (h1M : 1 ≤ M) (hM4 : M ≤ 4) (hy : yinC (yco M t 0 0) y = false) : zMC m h (zcall zP sv (d + 13) 279 [.ref m, .int (nI i), .int y] h) 0 w (nI 1) := by
  obtain ⟨h1, e1, m1, k1⟩ := e_277o (sv := sv) (d := d) (y := y) hM hi hR h1M hM4 hy
  have r0 : ∀ X : zR, zrc (h.1 m) 13 X = X := fun X => zMdl_rc hM
  refine ⟨h1, ?_, m1, k1⟩
  simp only [zc_279, zs_279_0, zs_279_0n, zs_279_1, zs_279_2, zs_279_3, zs_279_6, zs_279_9, zs_279_9n, zs_279_10, zs_279_13, zs_279_14, zs_279_15, zs_279_18, zs_279_19, r0, e1, zbk_v, zts_s, ↓reduceIte, List.cons_append, List.nil_append]
theorem e_279 {n : Nat} {x : yI} (hM : zMdl h m w th) (hi : (ycur w).1[i]? = some t) (hR : (ycur w).2.2.1 = nI M) (h1M : 1 ≤ M) (hM4 : M ≤ 4) (hy : yinC (yco M t 0 0) (nI n) = true) (hx : (yco M t 0 0)[n]? = some x) : zMC m h (zcall zP sv (d + 13) 279 [.ref m, .int (nI i), .int (nI n)] h) x.2.1 w 0 := by
  obtain ⟨h1, e1, m1, k1⟩ := e_277 (sv := sv) (d := d) hM hi hR h1M hM4 hy
  have r0 : ∀ X : zR, zrc (h.1 m) 13 X = X := fun X => zMdl_rc hM
  refine ⟨h1, ?_, zMdC_M m1, k1⟩
  obtain ⟨F1, _, ⟨s0, _, _, _, _, sC⟩, _⟩ := m1
  have g1 := (zCdM_at sC hx).2.1
  simp only [zc_279, zs_279_0, zs_279_0n, zs_279_1, zs_279_2, zs_279_3, zs_279_6, zs_279_9, zs_279_9n, zs_279_10, zs_279_13, zs_279_14, zs_279_15, zs_279_18, zs_279_19, r0, e1, zbk_v, zts_s, nI_1e0, s0, zmf_16, g1, ↓reduceIte, List.cons_append, List.nil_append]
end ZQR
