def ychr (x : Int32) : Prop := zty 7 (.int x) = true
def ycat (cs : List Int32) (i : Nat) : Int32 := cs.getD i (nI 32)
/-- the input buffer at q; cs: what it holds -/
def zInp (h : zH) (q : Nat) (cs : List Int32) : Prop := h.1 q = (8, [.ref (q + 1), .int (nI cs.length)]) ∧ (∃ B : List Int32, h.1 (q + 1) = (21, B.map Value.int) ∧ B.length = 60 ∧ B.take cs.length = cs) ∧ cs.length ≤ 60 ∧ ∀ x, x ∈ cs → ychr x
theorem zInp_rc {h : zH} {q : Nat} {cs : List Int32} {X : zR} (hi : zInp h q cs) : zrc (h.1 q) 8 X = X := by
  rw [hi.1]
  exact zrc_k
theorem zInp_cg {h h' : zH} {q : Nat} {cs : List Int32} (hi : zInp h q cs) (hf : zcg q (q + 2) h h') : zInp h' q cs := by
  obtain ⟨h1, ⟨B, h2, h3⟩, h4⟩ := hi
  exact ⟨by rw [hf q (by omega) (by omega), h1], ⟨B, by rw [hf (q + 1) (by omega) (by omega), h2], h3⟩, h4⟩
theorem ycat_chr {cs : List Int32} (hc : ∀ x, x ∈ cs → ychr x) (i : Nat) : ychr (ycat cs i) := by
  unfold ycat
  rw [List.getD_eq_getElem?_getD]
  cases h : cs[i]? with
  | none => exact (by decide +kernel : zty 7 (.int (nI 32)) = true)
  | some x => exact hc x (List.mem_of_getElem? h)
/-- the parser at p -/
def zPar (h : zH) (p : Nat) (cs : List Int32) (pos : Nat) (ns : List yN) : Prop := h.1 p = (7, [.ref (p + 1), .ref (p + 3), .int (nI pos)]) ∧ zInp h (p + 1) cs ∧ zTre h (p + 3) 60 ns
theorem zPar_rc {h : zH} {p pos : Nat} {cs : List Int32} {ns : List yN} {X : zR} (hp : zPar h p cs pos ns) : zrc (h.1 p) 7 X = X := by
  rw [hp.1]
  exact zrc_k
theorem zPar_pos {h : zH} {p pos pos' : Nat} {cs : List Int32} {ns : List yN} (hp : zPar h p cs pos ns) : zPar (zup h p (7, [.ref (p + 1), .ref (p + 3), .int (nI pos')])) p cs pos' ns := ⟨zup_at, zInp_cg hp.2.1 (fun q a b => zup_ne (by omega)), zTre_fr hp.2.2 (zfr_up (lo := p) (hi := p + 1) (by omega) (by omega)) (by omega)⟩
theorem zPar_tree {h h' : zH} {p pos : Nat} {cs : List Int32} {ns ns' : List yN} (hp : zPar h p cs pos ns) (hf : zfr (p + 3) (p + 3 + 9) h h') (ht : zTre h' (p + 3) 60 ns') : zPar h' p cs pos ns' := ⟨by rw [hf.1 p (by omega), hp.1], zInp_cg hp.2.1 (zcg_fr hf (by omega)), ht⟩
theorem zPar_cg {h h' : zH} {p pos : Nat} {cs : List Int32} {ns : List yN} (hp : zPar h p cs pos ns) (hf : zcg p (p + 12) h h') : zPar h' p cs pos ns := ⟨by rw [hf p (by omega) (by omega), hp.1], zInp_cg hp.2.1 (zcg_mono hf (by omega) (by omega)), zTre_cg hp.2.2 (zcg_mono hf (by omega) (by omega))⟩
def yisd (c : Int32) : Bool := decide (¬ c < nI 48) && decide (¬ nI 57 < c)
theorem ylt_f {x y : Int32} (h : ¬ x < y) : (x < y) = False := by simp [h]
section ZDS
variable {sv : Nat → Value} {d : Nat} {h : zH}
theorem d_141 {q i : Nat} {cs : List Int32} (hi : zInp h q cs) (hl : i < 2 ^ 31) : zcall zP sv (d + 1) 141 [.ref q, .int (nI i)] h = some (.inl (some (.int (ycat cs i))), h) := by
  have hc := ycat_chr hi.2.2.2 i
  obtain ⟨h1, ⟨B, h2, h3, h4⟩, h5, h6⟩ := hi
  have g1 : ¬ nI i < 0 := nI_pos hl
  by_cases h7 : i < cs.length
  · have hx : cs[i]? = some (ycat cs i) := by
      unfold ycat
      rw [List.getD_eq_getElem?_getD, List.getElem?_eq_getElem h7]; rfl
    have hB := ytk_at h4 hx
    have g2 : nI i < nI cs.length := nI_lt h7 (by omega)
    have g3 : nI i < nI 60 := nI_lt (by omega) (by decide)
    have e1 : ∀ K : Value → zR, zael (21, B.map Value.int) 21 (nI i) K = K (.int (ycat cs i)) := fun K => zaelv (by rw [List.getElem?_map, hB]; rfl) hl
    have e2 : zty 7 (.int (ycat cs i)) = true := hc
    simp only [zc_141, zs_141_0, zs_141_1, zs_141_4, zs_141_5, zs_141_5n, zs_141_6, zs_141_9, zs_141_12, zs_141_13, zs_141_13n, zs_141_14, zs_141_17, zs_141_18, zs_141_21, zs_141_21n, zs_141_22, zs_141_25, zs_141_26, zs_141_27, zs_141_30, zs_141_32, if_neg g1, h1, zrc_8, zf_8_0, zp_8_0, zp_8_0n, zf_8_1, zp_8_1, if_pos g2, h2, zaln_k (show 20 ≤ 21 by decide), List.length_map, h3, if_pos g3, e1, e2, zgd_t]
  · have g2 : ¬ nI i < nI cs.length := nI_nlt (by omega) hl
    have e3 : ycat cs i = nI 32 := by
      unfold ycat
      rw [List.getD_eq_getElem?_getD, List.getElem?_eq_none (by omega)]; rfl
    have e2 : zty 7 (.int (nI 32)) = true := by decide +kernel
    simp only [zc_141, zs_141_0, zs_141_1, zs_141_4, zs_141_5, zs_141_5n, zs_141_6, zs_141_9, zs_141_12, zs_141_13, zs_141_13n, zs_141_14, zs_141_17, zs_141_18, zs_141_21, zs_141_21n, zs_141_22, zs_141_25, zs_141_26, zs_141_27, zs_141_30, zs_141_32, if_neg g1, h1, zrc_8, zf_8_0, zp_8_0, zp_8_0n, zf_8_1, zp_8_1, if_neg g2, e3, e2, zgd_t]
theorem d_138 {q : Nat} {cs : List Int32} (hi : zInp h q cs) : zcall zP sv (d + 1) 138 [.ref q] h = some (.inl (some (.int (nI cs.length))), h) := by
  simp only [zc_138, zs_138_0, zs_138_0n, zs_138_1, zs_138_4, hi.1, zrc_8, zf_8_0, zp_8_0, zp_8_0n, zf_8_1, zp_8_1]
theorem d_140 {q : Nat} {cs : List Int32} (hi : zInp h q cs) : ∃ h', zcall zP sv (d + 1) 140 [.ref q] h = some (.inl none, h') ∧ zInp h' q [] ∧ zfr q (q + 1) h h' := by
  obtain ⟨h1, ⟨B, h2, h3, h4⟩, h5, h6⟩ := hi
  refine ⟨zup h q (8, [.ref (q + 1), .int 0]), ?_, ⟨by rw [zup_at, List.length_nil, nI_0], ⟨B, by rw [zup_ne (by omega), h2], h3, rfl⟩, by decide, fun x hx => by cases hx⟩, zfr_up (by omega) (by omega)⟩
  simp only [zc_140, zs_140_0, zs_140_0n, zs_140_1, zs_140_2, zs_140_5, h1, zrc_8, zf_8_0, zp_8_0, zp_8_0n, zf_8_1, zp_8_1]
theorem d_160 {p pos : Nat} {cs : List Int32} {ns : List yN} (hp : zPar h p cs pos ns) (hl : pos < 100) : ∃ h', zcall zP sv (d + 2) 160 [.ref p] h = some (.inl (some (.int (ycat cs pos))), h') ∧ zPar h' p cs (pos + 1) ns ∧ zfr p (p + 12) h h' := by
  have e2 : zty 7 (.int (ycat cs pos)) = true := ycat_chr hp.2.1.2.2.2 pos
  have h0 := hp.1
  refine ⟨_, ?_, zPar_pos (pos' := pos + 1) hp, zfr_up (by omega) (by omega)⟩
  simp (disch := exact znw_u) only [zc_160, zs_160_0, zs_160_0n, zs_160_1, zs_160_4, zs_160_4n, zs_160_5, zs_160_8, zs_160_11, zs_160_12, zs_160_12n, zs_160_13, zs_160_14, zs_160_17, zs_160_18, zs_160_19, zs_160_22, zs_160_23, h0, zrc_7, zf_7_0, zp_7_0, zp_7_0n, zf_7_1, zp_7_1, zp_7_1n, zf_7_2, zp_7_2, zInp_rc hp.2.1, d_141 hp.2.1 (show pos < 2 ^ 31 by omega), nI_1', e2, zgd_t, zbk_v, zts_s]
theorem d_161 {p pos : Nat} {cs : List Int32} {ns : List yN} (hp : zPar h p cs pos ns) (hl : pos < 100) : ∃ h', zcall zP sv (d + 2) 161 [.ref p] h = some (.inl (some (.int (ycat cs pos - nI 48))), h') ∧ zPar h' p cs (pos + 1) ns ∧ zfr p (p + 12) h h' := by
  have h0 := hp.1
  refine ⟨_, ?_, zPar_pos (pos' := pos + 1) hp, zfr_up (by omega) (by omega)⟩
  simp (disch := exact znw_u) only [zc_161, zs_161_0, zs_161_0n, zs_161_1, zs_161_4, zs_161_4n, zs_161_5, zs_161_8, zs_161_11, zs_161_13, zs_161_14, zs_161_15, zs_161_15n, zs_161_16, zs_161_17, zs_161_20, zs_161_21, zs_161_22, zs_161_25, zs_161_26, h0, zrc_7, zf_7_0, zp_7_0, zp_7_0n, zf_7_1, zp_7_1, zp_7_1n, zf_7_2, zp_7_2, zInp_rc hp.2.1, d_141 hp.2.1 (show pos < 2 ^ 31 by omega), nI_1', zbk_v, zts_s]
theorem d_162 {p pos : Nat} {cs : List Int32} {ns : List yN} (hp : zPar h p cs pos ns) (hl : pos < 100) : zcall zP sv (d + 2) 162 [.ref p] h = some (.inl (some (.int (yb (yisd (ycat cs pos))))), h) := by
  have h0 := hp.1
  unfold yisd
  by_cases h1 : ycat cs pos < nI 48
  · simp (disch := exact znw_u) only [zc_162, zs_162_0, zs_162_0n, zs_162_1, zs_162_4, zs_162_4n, zs_162_5, zs_162_8, zs_162_11, zs_162_12, zs_162_13, zs_162_15, zs_162_18, zs_162_19, zs_162_21, zs_162_24, zs_162_25, zs_162_28, zs_162_29, h0, zrc_7, zf_7_0, zp_7_0, zp_7_0n, zf_7_1, zp_7_1, zp_7_1n, zf_7_2, zp_7_2, zInp_rc hp.2.1, d_141 hp.2.1 (show pos < 2 ^ 31 by omega), zty_50, zgd_t, zbk_v, zts_s, h1, not_true, decide_false, Bool.false_and, yb_f, ↓reduceIte]
  · by_cases h2 : nI 57 < ycat cs pos
    · simp (disch := exact znw_u) only [zc_162, zs_162_0, zs_162_0n, zs_162_1, zs_162_4, zs_162_4n, zs_162_5, zs_162_8, zs_162_11, zs_162_12, zs_162_13, zs_162_15, zs_162_18, zs_162_19, zs_162_21, zs_162_24, zs_162_25, zs_162_28, zs_162_29, h0, zrc_7, zf_7_0, zp_7_0, zp_7_0n, zf_7_1, zp_7_1, zp_7_1n, zf_7_2, zp_7_2, zInp_rc hp.2.1, d_141 hp.2.1 (show pos < 2 ^ 31 by omega), ylt_f h1, zty_50, zgd_t, zbk_v, zts_s, h2, not_true, decide_false, Bool.and_false, yb_f, ↓reduceIte]
    · simp (disch := exact znw_u) only [zc_162, zs_162_0, zs_162_0n, zs_162_1, zs_162_4, zs_162_4n, zs_162_5, zs_162_8, zs_162_11, zs_162_12, zs_162_13, zs_162_15, zs_162_18, zs_162_19, zs_162_21, zs_162_24, zs_162_25, zs_162_28, zs_162_29, h0, zrc_7, zf_7_0, zp_7_0, zp_7_0n, zf_7_1, zp_7_1, zp_7_1n, zf_7_2, zp_7_2, zInp_rc hp.2.1, d_141 hp.2.1 (show pos < 2 ^ 31 by omega), zty_51, zgd_t, zbk_v, zts_s, ylt_f h1, ylt_f h2, not_false_eq_true, decide_true, Bool.and_self, yb_t, ↓reduceIte]
theorem d_163 {p pos : Nat} {cs : List Int32} {ns : List yN} {a b : Int32} (hp : zPar h p cs pos ns) (hl : pos < 100) : zcall zP sv (d + 2) 163 [.ref p, .int a, .int b] h = some (.inl (some (.int (yb (decide (ycat cs pos = a) || decide (ycat cs pos = b))))), h) := by
  have h0 := hp.1
  by_cases h1 : ycat cs pos = a
  · simp (disch := exact znw_u) only [zc_163, zs_163_0, zs_163_0n, zs_163_1, zs_163_4, zs_163_4n, zs_163_5, zs_163_8, zs_163_11, zs_163_12, zs_163_13, zs_163_14, zs_163_17, zs_163_18, zs_163_19, zs_163_22, zs_163_23, zs_163_26, zs_163_27, h0, zrc_7, zf_7_0, zp_7_0, zp_7_0n, zf_7_1, zp_7_1, zp_7_1n, zf_7_2, zp_7_2, zInp_rc hp.2.1, d_141 hp.2.1 (show pos < 2 ^ 31 by omega), if_pos h1, zty_51, zgd_t, zbk_v, zts_s, decide_eq_true h1, Bool.true_or, yb_t]
  · by_cases h2 : ycat cs pos = b
    · simp (disch := exact znw_u) only [zc_163, zs_163_0, zs_163_0n, zs_163_1, zs_163_4, zs_163_4n, zs_163_5, zs_163_8, zs_163_11, zs_163_12, zs_163_13, zs_163_14, zs_163_17, zs_163_18, zs_163_19, zs_163_22, zs_163_23, zs_163_26, zs_163_27, h0, zrc_7, zf_7_0, zp_7_0, zp_7_0n, zf_7_1, zp_7_1, zp_7_1n, zf_7_2, zp_7_2, zInp_rc hp.2.1, d_141 hp.2.1 (show pos < 2 ^ 31 by omega), if_neg h1, if_pos h2, zty_51, zgd_t, zbk_v, zts_s, decide_eq_true h2, Bool.or_true, yb_t]
    · simp (disch := exact znw_u) only [zc_163, zs_163_0, zs_163_0n, zs_163_1, zs_163_4, zs_163_4n, zs_163_5, zs_163_8, zs_163_11, zs_163_12, zs_163_13, zs_163_14, zs_163_17, zs_163_18, zs_163_19, zs_163_22, zs_163_23, zs_163_26, zs_163_27, h0, zrc_7, zf_7_0, zp_7_0, zp_7_0n, zf_7_1, zp_7_1, zp_7_1n, zf_7_2, zp_7_2, zInp_rc hp.2.1, d_141 hp.2.1 (show pos < 2 ^ 31 by omega), if_neg h1, if_neg h2, zty_50, zgd_t, zbk_v, zts_s, decide_eq_false h1, decide_eq_false h2, Bool.or_self, yb_f]
theorem d_159 {p pos : Nat} {cs : List Int32} {ns : List yN} (hp : zPar h p cs pos ns) (hl : pos < 80) (hn : ns.length < 60) : ∃ h' , zcall zP sv (d + 4) 159 [.ref p] h = some (.inl (some (.int (nI ns.length))), h') ∧ zPar h' p cs (pos + 1 + (if yisd (ycat cs (pos + 1)) = true then 1 else 0)) (ns ++ [(nI 99, (if yisd (ycat cs (pos + 1)) = true then nI 10 * (ycat cs pos - nI 48) + (ycat cs (pos + 1) - nI 48) else ycat cs pos - nI 48), -1, -1)]) ∧ zfr p (p + 12) h h' := by
  obtain ⟨h1, e1, w1, f1⟩ := d_161 (sv := sv) (d := d + 1) hp (by omega)
  have e2 := d_162 (sv := sv) (d := d + 1) w1 (by omega)
  cases h3 : yisd (ycat cs (pos + 1)) with
  | true =>
    rw [h3] at e2
    obtain ⟨h2, e4, w2, f2⟩ := d_161 (sv := sv) (d := d + 1) w1 (by omega)
    obtain ⟨h4, e5, w3, f3⟩ := d_192 (sv := sv) (d := d) (x := nI 10 * (ycat cs pos - nI 48) + (ycat cs (pos + 1) - nI 48)) w2.2.2 hn
    refine ⟨h4, ?_, zPar_tree w2 f3 w3, zfr_tr (zfr_tr f1 f2) (zfr_mono f3 (by omega) (by omega))⟩
    have h0 := w2.1
    simp (disch := first | exact znw_u | exact znw_i) only [zc_159, zs_159_0, zs_159_0n, zs_159_1, zs_159_4, zs_159_5, zs_159_5n, zs_159_6, zs_159_9, zs_159_12, zs_159_14, zs_159_15, zs_159_16, zs_159_16n, zs_159_17, zs_159_20, zs_159_21, zs_159_22, zs_159_22n, zs_159_23, zs_159_26, zs_159_27, zs_159_30, zPar_rc hp, zPar_rc w1, e1, e2, yb_t, nI_1e0, e4, h0, zrc_7, zf_7_0, zp_7_0, zp_7_0n, zf_7_1, zp_7_1, zp_7_1n, zf_7_2, zp_7_2, zTre_rc w2.2.2, e5, zbk_v, zts_s, ↓reduceIte]
  | false =>
    rw [h3] at e2
    obtain ⟨h4, e5, w3, f3⟩ := d_192 (sv := sv) (d := d) (x := ycat cs pos - nI 48) w1.2.2 hn
    refine ⟨h4, ?_, zPar_tree w1 f3 w3, zfr_tr f1 (zfr_mono f3 (by omega) (by omega))⟩
    have h0 := w1.1
    simp (disch := first | exact znw_u | exact znw_i) only [zc_159, zs_159_0, zs_159_0n, zs_159_1, zs_159_4, zs_159_5, zs_159_5n, zs_159_6, zs_159_9, zs_159_12, zs_159_14, zs_159_15, zs_159_16, zs_159_16n, zs_159_17, zs_159_20, zs_159_21, zs_159_22, zs_159_22n, zs_159_23, zs_159_26, zs_159_27, zs_159_30, zPar_rc hp, zPar_rc w1, e1, e2, yb_f, h0, zrc_7, zf_7_0, zp_7_0, zp_7_0n, zf_7_1, zp_7_1, zp_7_1n, zf_7_2, zp_7_2, zTre_rc w1.2.2, e5, zbk_v, zts_s, ↓reduceIte]
theorem d_155n {p pos : Nat} {cs : List Int32} {ns : List yN} {k x : Int32} (hp : zPar h p cs pos ns) : zcall zP sv (d + 4) 155 [.ref p, .int k, .int x, .int (-1)] h = some (.inl (some (.int (-1))), h) := by
  simp only [zc_155, zs_155_0, zs_155_1, zs_155_2, zs_155_5, zs_155_6, zs_155_9, zs_155_9n, zs_155_10, zs_155_13, zs_155_14, zs_155_15, zs_155_16, zs_155_19, nI_m1e, ↓reduceIte]
theorem d_155 {p pos : Nat} {cs : List Int32} {ns : List yN} {k x y : Int32} (hp : zPar h p cs pos ns) (hn : ns.length < 60) (hy : ¬ y = -1) : ∃ h', zcall zP sv (d + 4) 155 [.ref p, .int k, .int x, .int y] h = some (.inl (some (.int (nI ns.length))), h') ∧ zPar h' p cs pos (ns ++ [(k, 0, x, y)]) ∧ zfr p (p + 12) h h' := by
  obtain ⟨h', e, w, f⟩ := d_194 (sv := sv) (d := d) (k := k) (x := x) (y := y) hp.2.2 hn
  have h0 := hp.1
  refine ⟨h', ?_, zPar_tree hp f w, zfr_mono f (by omega) (by omega)⟩
  simp only [zc_155, zs_155_0, zs_155_1, zs_155_2, zs_155_5, zs_155_6, zs_155_9, zs_155_9n, zs_155_10, zs_155_13, zs_155_14, zs_155_15, zs_155_16, zs_155_19, if_neg hy, h0, zrc_7, zf_7_0, zp_7_0, zp_7_0n, zf_7_1, zp_7_1, zp_7_1n, zf_7_2, zp_7_2, zTre_rc hp.2.2, e, zbk_v, zts_s]
end ZDS
