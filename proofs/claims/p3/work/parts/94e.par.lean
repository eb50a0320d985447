/-- the model reads: at pos, op parentheses open, qs made -/
def zPs (h : zH) (m : Nat) (F : Nat → Int32) (cs : List Int32) (pos op : Nat) (qs : yP) : Prop := (∃ G : Nat → Int32, h.1 m = (13, zMF m G) ∧ G 27 = nI pos ∧ G 28 = nI op ∧ G 11 = nI qs.length ∧ G 26 = nI cs.length ∧ ∀ k, k ≠ 27 → k ≠ 28 → k ≠ 11 → G k = F k) ∧ zLst h (m + 7) (m + 8) qs ∧ zTx h (m + 17) 60 cs ∧ pos ≤ cs.length
theorem ycat_of {cs : List Int32} {pos : Nat} {x : Int32} (h : cs[pos]? = some x) : ycat cs pos = x := by
  unfold ycat
  rw [List.getD_eq_getElem?_getD, h]
  rfl
theorem ycat_end {cs : List Int32} {pos : Nat} (h : cs.length ≤ pos) : ycat cs pos = nI 32 := by
  unfold ycat
  rw [List.getD_eq_getElem?_getD, List.getElem?_eq_none h]
  rfl
section ZPA
variable {sv : Nat → Value} {d : Nat} {m : Nat} {F : Nat → Int32} {h : zH} {cs : List Int32} {pos op : Nat} {qs : yP}
theorem zPs_rc {X : zR} (hp : zPs h m F cs pos op qs) : zrc (h.1 m) 13 X = X := by
  obtain ⟨⟨G, g, _⟩, _⟩ := hp
  rw [g]
  exact zrc_k
theorem zPs_txt (hp : zPs h m F cs pos op qs) (hl : pos < cs.length) : ∃ B : List Int32, h.1 (m + 17) = (21, B.map Value.int) ∧ ∀ Kv, zael (21, B.map Value.int) 21 (nI pos) Kv = Kv (.int (ycat cs pos)) := by
  obtain ⟨_, _, ⟨B, b1, b2, b3, b4⟩, _⟩ := hp
  have hx : B[pos]? = some (ycat cs pos) := by
    have e : cs[pos]? = some (ycat cs pos) := by
      rw [ycat_of (List.getElem?_eq_getElem hl)]
      exact List.getElem?_eq_getElem hl
    exact ytk_at b3 e
  exact ⟨B, b1, fun Kv => zaelv (by rw [List.getElem?_map, hx]; rfl) (by omega)⟩
theorem zPs_at {pos' : Nat} (hp : zPs h m F cs pos op qs) (hl : pos' ≤ cs.length) : ∃ G : Nat → Int32, h.1 m = (13, zMF m G) ∧ G 27 = nI pos ∧ G 28 = nI op ∧ G 11 = nI qs.length ∧ G 26 = nI cs.length ∧ zPs (zup h m (13, zMF m (yup G 27 (nI pos')))) m F cs pos' op qs := by
  obtain ⟨⟨G, g, g1, g2, g3, g4, g5⟩, a, b, c⟩ := hp
  exact ⟨G, g, g1, g2, g3, g4, ⟨yup G 27 (nI pos'), zup_at, yup_eq, (yup_ne (by omega)).trans g2, (yup_ne (by omega)).trans g3, (yup_ne (by omega)).trans g4, fun k k1 k2 k3 => (yup_ne k1).trans (g5 k k1 k2 k3)⟩, zLst_cg a (zup_ne (by omega)) (zup_ne (by omega)), zTx_cg b (zup_ne (by omega)), hl⟩
theorem zPs_op {op' : Nat} (hp : zPs h m F cs pos op qs) : ∃ G : Nat → Int32, h.1 m = (13, zMF m G) ∧ G 27 = nI pos ∧ G 28 = nI op ∧ G 11 = nI qs.length ∧ G 26 = nI cs.length ∧ zPs (zup h m (13, zMF m (yup G 28 (nI op')))) m F cs pos op' qs := by
  obtain ⟨⟨G, g, g1, g2, g3, g4, g5⟩, a, b, c⟩ := hp
  exact ⟨G, g, g1, g2, g3, g4, ⟨yup G 28 (nI op'), zup_at, (yup_ne (by omega)).trans g1, yup_eq, (yup_ne (by omega)).trans g3, (yup_ne (by omega)).trans g4, fun k k1 k2 k3 => (yup_ne k2).trans (g5 k k1 k2 k3)⟩, zLst_cg a (zup_ne (by omega)) (zup_ne (by omega)), zTx_cg b (zup_ne (by omega)), c⟩
theorem zPs_ln (hp : zPs h m F cs pos op qs) : cs.length ≤ 60 ∧ pos ≤ cs.length := by
  obtain ⟨_, _, ⟨B, b1, b2, b3, b4⟩, c⟩ := hp
  exact ⟨b4, c⟩
theorem zmf_27' {G : Nat → Int32} {Kv : Value → zR} : zfld (13, zMF m G) 13 27 Kv = Kv (.int (G 27)) := zf_13_27
/-- takes -/
theorem e_225 {c : Int32} (hp : zPs h m F cs pos op qs) (hc : c ≠ nI 32) : ∃ h', zcall zP sv (d + 1) 225 [.ref m, .int c] h = some (.inl (some (.int (yb (decide (ycat cs pos = c))))), h') ∧ zPs h' m F cs (if ycat cs pos = c then pos + 1 else pos) op qs ∧ zfm m h h' := by
  have hln := zPs_ln hp
  by_cases hl : pos < cs.length
  · obtain ⟨B, b1, b2⟩ := zPs_txt hp hl
    obtain ⟨G, g, g1, g2, g3, g4, hp'⟩ := zPs_at (pos' := pos + 1) hp (by omega)
    have n1 : ¬ nI pos = nI cs.length := fun q => absurd ((nI_eq (by omega) (by omega)).mp q) (by omega)
    by_cases hq : ycat cs pos = c
    · rw [if_pos hq, decide_eq_true hq]
      refine ⟨_, ?_, hp', ⟨fun q q1 q2 q3 => zup_ne q1, rfl⟩⟩
      simp only [zc_225, zs_225_0, zs_225_0n, zs_225_1, zs_225_4, zs_225_4n, zs_225_5, zs_225_8, zs_225_11, zs_225_11n, zs_225_12, zs_225_15, zs_225_15n, zs_225_16, zs_225_19, zs_225_20, zs_225_21, zs_225_24, zs_225_25, zs_225_26, zs_225_26n, zs_225_27, zs_225_28, zs_225_31, zs_225_32, zs_225_33, zs_225_36, zs_225_37, g, zmf_25, zmf_26, zmf_27, g1, g4, if_neg n1, b1, b2, hq, ↓reduceIte, nI_1', zmp_27, zgd_t, zty_51, yb_t]
    · rw [if_neg hq, decide_eq_false hq]
      refine ⟨h, ?_, hp, zfm_rfl⟩
      simp only [zc_225, zs_225_0, zs_225_0n, zs_225_1, zs_225_4, zs_225_4n, zs_225_5, zs_225_8, zs_225_11, zs_225_11n, zs_225_12, zs_225_15, zs_225_15n, zs_225_16, zs_225_19, zs_225_20, zs_225_21, zs_225_24, zs_225_25, zs_225_26, zs_225_26n, zs_225_27, zs_225_28, zs_225_31, zs_225_32, zs_225_33, zs_225_36, zs_225_37, g, zmf_25, zmf_26, zmf_27, g1, g4, if_neg n1, b1, b2, if_neg hq, zgd_t, zty_50, yb_f]
  · have he : pos = cs.length := by omega
    have hq : ¬ ycat cs pos = c := by
      rw [ycat_end (by omega)]
      exact fun q => hc q.symm
    obtain ⟨⟨G, g, g1, g2, g3, g4, g5⟩, _⟩ := id hp
    rw [if_neg hq, decide_eq_false hq]
    refine ⟨h, ?_, hp, zfm_rfl⟩
    have n1 : nI pos = nI cs.length := by rw [he]
    simp only [zc_225, zs_225_0, zs_225_0n, zs_225_1, zs_225_4, zs_225_4n, zs_225_5, zs_225_8, zs_225_11, zs_225_11n, zs_225_12, zs_225_15, zs_225_15n, zs_225_16, zs_225_19, zs_225_20, zs_225_21, zs_225_24, zs_225_25, zs_225_26, zs_225_26n, zs_225_27, zs_225_28, zs_225_31, zs_225_32, zs_225_33, zs_225_36, zs_225_37, g, zmf_26, zmf_27, g1, g4, if_pos n1, zgd_t, zty_50, yb_f]
theorem e_226 {lo hi : Int32} (hp : zPs h m F cs pos op qs) (hlo : nI 32 < lo) : zcall zP sv (d + 2) 226 [.ref m, .int lo, .int hi] h = some (.inl (some (.int (yb (decide (¬ ycat cs pos < lo) && decide (¬ hi < ycat cs pos))))), h) := by
  have hln := zPs_ln hp
  obtain ⟨⟨G, g, g1, g2, g3, g4, g5⟩, _⟩ := id hp
  by_cases hl : pos < cs.length
  · obtain ⟨B, b1, b2⟩ := zPs_txt hp hl
    have n1 : nI pos < nI cs.length := nI_lt hl (by omega)
    have e1 := e_199 (sv := sv) (d := d) (h := h) (x := ycat cs pos) (a := lo) (b := hi)
    cases hb : (decide (¬ ycat cs pos < lo) && decide (¬ hi < ycat cs pos)) with
    | true =>
      rw [hb, yb_t] at e1
      simp only [zc_226, zs_226_0, zs_226_0n, zs_226_1, zs_226_4, zs_226_4n, zs_226_5, zs_226_8, zs_226_11, zs_226_11n, zs_226_12, zs_226_15, zs_226_15n, zs_226_16, zs_226_19, zs_226_20, zs_226_21, zs_226_22, zs_226_25, zs_226_28, zs_226_29, zs_226_32, zs_226_33, g, zmf_25, zmf_26, zmf_27, g1, g4, if_pos n1, b1, b2, e1, zbk_v, zts_s, nI_1e0, ↓reduceIte, zgd_t, zty_51, yb_t]
    | false =>
      rw [hb, yb_f] at e1
      simp only [zc_226, zs_226_0, zs_226_0n, zs_226_1, zs_226_4, zs_226_4n, zs_226_5, zs_226_8, zs_226_11, zs_226_11n, zs_226_12, zs_226_15, zs_226_15n, zs_226_16, zs_226_19, zs_226_20, zs_226_21, zs_226_22, zs_226_25, zs_226_28, zs_226_29, zs_226_32, zs_226_33, g, zmf_25, zmf_26, zmf_27, g1, g4, if_pos n1, b1, b2, e1, zbk_v, zts_s, ↓reduceIte, zgd_t, zty_50, yb_f]
  · have n1 : ¬ nI pos < nI cs.length := nI_nlt (by omega) (by omega)
    rw [ycat_end (by omega), decide_eq_false (fun q => q hlo), Bool.false_and]
    simp only [zc_226, zs_226_0, zs_226_0n, zs_226_1, zs_226_4, zs_226_4n, zs_226_5, zs_226_8, zs_226_11, zs_226_11n, zs_226_12, zs_226_15, zs_226_15n, zs_226_16, zs_226_19, zs_226_20, zs_226_21, zs_226_22, zs_226_25, zs_226_28, zs_226_29, zs_226_32, zs_226_33, g, zmf_26, zmf_27, g1, g4, if_neg n1, zgd_t, zty_50, yb_f]
end ZPA
