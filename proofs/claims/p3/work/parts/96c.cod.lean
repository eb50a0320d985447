section ZQO
variable {sv : Nat → Value} {D : Nat} {m : Nat}
/-- what the model's method codes does for a term at a place -/
def zMCo (sv : Nat → Value) (D m pos M : Nat) (o : yT) (p : yP) (Fd : List Int32) : Prop := ∀ (b j : Nat) (q : List yI) (h : zH) (F : Nat → Int32), zCs h m F q j → zLst h (m + 5) (m + 6) p → h.1 (m + 9) = (20, Fd.map Value.int) → q.length + 2 * ysz o ≤ 700 → j + ydp o ≤ 20 → j ≤ yslo q → yslo q ≤ 20 → b < M → M ≤ 4 → ∃ h' F', zcall zP sv D 271 [.ref m, .int (nI pos), .int (nI b), .int (nI M)] h = some (.inl none, h') ∧ zCs h' m F' (q ++ yco M o b j) j ∧ yF4 F F' ∧ zcwr m h h'
def yi2 (c : Bool) (k b x y : Int32) : yI := if c = true then (k, b, 0, x, y) else (k, b, 0, y, x)
theorem yi2_1 {c : Bool} {k b x y : Int32} : (yi2 c k b x y).1 = k := by
  unfold yi2
  split <;> rfl
theorem ypl_b {b : Nat} (hb : b ≤ 3) : ypl (nI b) = nI b := by
  unfold ypl
  have : ∀ b, b ≤ 3 → ¬ nI 3 < nI b := by decide +kernel
  rw [if_neg (this b hb)]
theorem ypl_s {j : Nat} (hj : j < 21) : ypl (nI (4 + j)) = nI 10 + nI j := by
  unfold ypl
  have : ∀ j, j < 21 → nI 3 < nI (4 + j) := by decide +kernel
  rw [if_pos (this j hj), nI_add, nI_add]
  congr 1
  omega
theorem yi2_lf {c : Bool} {k b x y : Int32} (hk : yis k = true) : ylf (yi2 c k b x y) = (if c = true then ypl x else ypl y) ∧ yrt (yi2 c k b x y) = (if c = true then ypl y else ypl x) ∧ (yi2 c k b x y).2.1 = b := by
  obtain ⟨h1, h2, h3, h4⟩ := yis_ne hk
  unfold ylf yrt
  rw [yi2_1, if_neg h1, if_neg h2, if_neg h3, if_neg h4, if_pos hk]
  unfold yi2
  cases c <;> exact ⟨rfl, rfl, rfl⟩
theorem yis_nr {k : Int32} (hk : yis k = true) : ynr k = k := by
  rcases yis_k hk with g | g | g <;> rw [g] <;> decide +kernel
theorem e_271b {M b j po : Nat} {k l1 l5 l6 : Int32} {l9 l10 l11 : Slot} {c : Bool} {o : yT} {p : yP} {Fd : List Int32} {q : List yI} {h : zH} {F : Nat → Int32} (h9 : znw l9 = true) (h10 : znw l10 = true) (h11 : znw l11 = true) (hk : yis k = true) (hw : ytw o = true) (hz : ysz o < 600) (hC : zMCo sv (D + 1) m po M o p Fd) (hs : zCs h m F q j) (hl : zLst h (m + 5) (m + 6) p) (hF : h.1 (m + 9) = (20, Fd.map Value.int)) (hfo : Fd[po]? = some (yfo yfD o)) (hpo : po < 700) (hq : q.length + 2 * ysz o + 1 ≤ 700) (hj : j + 1 + ydp o ≤ 20) (hjs : j ≤ yslo q) (hsq : yslo q ≤ 20) (hb : b < M) (hM : M ≤ 4) : ∃ h' F', zrun zP sv (zcall zP sv (D + 1)) 271 126 [.val (.ref m), .val (.int l1), .val (.int (nI b)), .val (.int (nI M)), .val (.int k), .val (.int l5), .val (.int l6), .val (.int (yb c)), .val (.int (nI po)), l9, l10, l11] [] h = some (.inl none, h') ∧ zCs h' m F' (q ++ (if yfo yfD o < nI M - nI b then yco M o (b + 1) j ++ [yi2 c k (nI b) (nI b) (nI (b + 1))] else (nI 115, nI b, nI j, nI b, -1) :: (yco M o b (j + 1) ++ [yi2 c k (nI b) (nI (4 + j)) (nI b)]))) j ∧ yF4 F F' ∧ zcwr m h h' := by
  obtain ⟨n, n1, n2, n3⟩ := yfD_n o hw (by omega)
  have g1 : ∀ Kv, zael (20, Fd.map Value.int) 20 (nI po) Kv = Kv (.int (yfo yfD o)) := fun Kv => zaelv (by rw [List.getElem?_map, hfo]; rfl) (by omega)
  obtain ⟨m0, m19, m20, m21, m22, mC⟩ := hs
  have nk := yis_ne hk
  have hlen := yco_len (M := M) (ysz o) o (Nat.le_refl _) hw
  have zM : nI M - nI b = nI (M - b) := nI_subn (by omega)
  have cm1 : (-1 : Int32) < 0 := by decide +kernel
  by_cases cc : yfo yfD o < nI M - nI b
  · rw [if_pos cc]
    have hbM : b + 1 < M := by
      rw [n3, zM] at cc
      have : n < M - b := Nat.lt_of_not_le fun z => nI_nlt z (by omega) cc
      omega
    obtain ⟨h1, F1, e1, s1, f1, w1⟩ := hC (b + 1) j q h F ⟨m0, m19, m20, m21, m22, mC⟩ hl hF (by omega) (by omega) hjs hsq hbM hM
    obtain ⟨r0, r19, r20, r21, r22, rC⟩ := s1
    have hlb := hlen (b + 1) j
    obtain ⟨y1, y2, y3⟩ := yi2_lf (c := c) (k := k) (b := nI b) (x := nI b) (y := nI (b + 1)) hk
    rw [ypl_b (by omega), ypl_b (by omega)] at y1 y2
    obtain ⟨h2, e2, t0, tC, w2⟩ := e_270 (sv := sv) (d := D) (n := yi2 c k (nI b) (nI b) (nI (b + 1))) r0 r19 rC (by rw [List.length_append]; omega) (yis_nr hk) yi2_1 y3 y1 y2
    refine ⟨h2, _, ?_, ⟨t0, ?_, ?_, ?_, ?_, ?_⟩, ?_, zcwr_tr w1 w2⟩
    · cases c with
      | true =>
        rw [if_pos rfl, if_pos rfl] at e2
        simp (disch := first | exact h9 | exact h10 | exact h11 | exact znw_u | exact znw_i) only [zs_271_126, zs_271_127, zs_271_129, zs_271_130, zs_271_132, zs_271_133, zs_271_135, zs_271_136, zs_271_139, zs_271_141, zs_271_142, zs_271_143, zs_271_144, zs_271_145, zs_271_148, zs_271_149, zs_271_150, zs_271_151, zs_271_153, zs_271_231, zs_271_232, zs_271_234, zs_271_236, zs_271_237, zs_271_240, zs_271_241, zs_271_243, zs_271_244, zs_271_246, zs_271_249, zs_271_251, zs_271_256, zs_271_258, zs_271_261, zs_271_263, zs_271_268, zs_271_271, zs_271_273, zs_271_291, m0, zmf_12, hF, g1, if_pos cc, nI_1', e1, zrc_13v, r0, e2, zbk_v, zts_s, zts_n, yb_t, nI_1e0, if_pos cm1, ↓reduceIte, List.cons_append, List.nil_append]
      | false =>
        rw [if_neg (by decide), if_neg (by decide)] at e2
        simp (disch := first | exact h9 | exact h10 | exact h11 | exact znw_u | exact znw_i) only [zs_271_126, zs_271_127, zs_271_129, zs_271_130, zs_271_132, zs_271_133, zs_271_135, zs_271_136, zs_271_139, zs_271_141, zs_271_142, zs_271_143, zs_271_144, zs_271_145, zs_271_148, zs_271_149, zs_271_150, zs_271_151, zs_271_153, zs_271_231, zs_271_232, zs_271_234, zs_271_236, zs_271_237, zs_271_240, zs_271_241, zs_271_243, zs_271_244, zs_271_246, zs_271_254, zs_271_256, zs_271_258, zs_271_266, zs_271_268, zs_271_271, zs_271_273, zs_271_291, m0, zmf_12, hF, g1, if_pos cc, nI_1', e1, zrc_13v, r0, e2, zbk_v, zts_s, zts_n, yb_f, nI_1e0, if_pos cm1, ↓reduceIte, List.cons_append, List.nil_append]
    · rw [yup_eq, ← List.append_assoc, List.length_append (bs := [_])]; rfl
    · rw [yup_ne (by omega), r20, ← List.append_assoc, ycs_1 (by rw [yi2_1]; exact nk.2.2.2)]
    · rw [yup_ne (by omega), r21, ← List.append_assoc, yslo_1 (by rw [yi2_1]; exact nk.2.2.2)]
    · rw [yup_ne (by omega), r22]
    · rw [← List.append_assoc]; exact tC
    · intro x x1 x2 x3 x4
      rw [yup_ne x1, f1 x x1 x2 x3 x4]
  · rw [if_neg cc]
    have e271 := e_271s (sv := sv) (d := D + 1) (h := h) (l1 := .val (.int l1)) (l2 := .val (.int (nI b))) (l3 := .val (.int (nI M))) (l4 := .val (.int k)) (l5 := .val (.int l5)) (l6 := .val (.int l6)) (l7 := .val (.int (yb c))) (l8 := .val (.int (nI po))) (l9 := .val (.int (nI b))) (l10 := .val (.int (nI b))) m0 m22 (show j < 21 by omega) j 0 (Nat.zero_add _)
    rw [nI_0] at e271
    have u1 := ybits (yslo q) (by omega) j hjs
    have u2 : nI (2 ^ j - 1) ||| (nI 1 <<< (nI j &&& 31)) = nI (2 ^ (j + 1) - 1) := by
      have := ybits j (by omega) j (Nat.le_refl _)
      rw [show max j (j + 1) = j + 1 by omega] at this
      exact this
    have u3 := ybitu j (by omega)
    obtain ⟨hA, hhA⟩ : ∃ hA, hA = zup (zup (zup h m (13, zMF m (yup F 22 (nI (2 ^ (j + 1) - 1))))) m (13, zMF m (yup (yup F 22 (nI (2 ^ (j + 1) - 1))) 21 (nI (2 ^ (max (yslo q) (j + 1)) - 1))))) m (13, zMF m (yup (yup (yup F 22 (nI (2 ^ (j + 1) - 1))) 21 (nI (2 ^ (max (yslo q) (j + 1)) - 1))) 20 (nI (ycs q + 1)))) := ⟨_, rfl⟩
    have A0 : hA.1 m = (13, zMF m (yup (yup (yup F 22 (nI (2 ^ (j + 1) - 1))) 21 (nI (2 ^ (max (yslo q) (j + 1)) - 1))) 20 (nI (ycs q + 1)))) := by rw [hhA, zup_at]
    have Af : zcwr m h hA := ⟨fun x x1 x2 => by rw [hhA, zup_ne x1, zup_ne x1, zup_ne x1], by rw [hhA]; rfl⟩
    have AC : zCdM hA m q := by
      obtain ⟨A, B, C, D', ⟨a1, a2, a3, a4⟩, w⟩ := mC
      exact ⟨A, B, C, D', ⟨by rw [hhA, zup_ne (by omega), zup_ne (by omega), zup_ne (by omega), a1], by rw [hhA, zup_ne (by omega), zup_ne (by omega), zup_ne (by omega), a2], by rw [hhA, zup_ne (by omega), zup_ne (by omega), zup_ne (by omega), a3], by rw [hhA, zup_ne (by omega), zup_ne (by omega), zup_ne (by omega), a4]⟩, w⟩
    have q1 : ylf (nI 115, nI b, nI j, nI b, -1) = nI j := by
      unfold ylf
      have e1 : ¬ nI 115 = nI 99 := by decide +kernel
      have e2 : ¬ nI 115 = nI 118 := by decide +kernel
      have e3 : ¬ nI 115 = nI 110 := by decide +kernel
      rw [if_neg e1, if_neg e2, if_neg e3, if_pos rfl]
    have q2 : yrt (nI 115, nI b, nI j, nI b, -1) = 0 := by
      unfold yrt
      rw [if_neg (show ¬ yis (nI 115) = true by decide +kernel)]
    obtain ⟨hB, eB, B0, BC, wB⟩ := e_270 (sv := sv) (d := D) (n := (nI 115, nI b, nI j, nI b, -1)) A0 (by rw [yup_ne (by omega), yup_ne (by omega), yup_ne (by omega), m19]) AC (by omega) (show ynr (nI 115) = nI 115 by decide +kernel) rfl rfl q1 q2
    have len1 : (q ++ [(nI 115, nI b, nI j, nI b, -1)]).length = q.length + 1 := List.length_append
    have sn1 : yslo (q ++ [(nI 115, nI b, nI j, nI b, -1)]) = max (yslo q) (j + 1) := yslo_2 rfl rfl (by omega)
    obtain ⟨h1, F1, e1, s1, f1, w1⟩ := hC b (j + 1) (q ++ [(nI 115, nI b, nI j, nI b, -1)]) hB _ ⟨B0, by rw [yup_eq, len1], by rw [yup_ne (by omega), yup_eq, ycs_2 rfl], by rw [yup_ne (by omega), yup_ne (by omega), yup_eq, sn1], by rw [yup_ne (by omega), yup_ne (by omega), yup_ne (by omega), yup_eq], BC⟩ (zLst_cg hl (by rw [wB.1 _ (by omega) (by omega), Af.1 _ (by omega) (by omega)]) (by rw [wB.1 _ (by omega) (by omega), Af.1 _ (by omega) (by omega)])) (by rw [wB.1 _ (by omega) (by omega), Af.1 _ (by omega) (by omega), hF]) (by rw [len1]; omega) (by omega) (by rw [sn1]; omega) (by rw [sn1]; omega) hb hM
    obtain ⟨r0, r19, r20, r21, r22, rC⟩ := s1
    have hlb := hlen b (j + 1)
    obtain ⟨y1, y2, y3⟩ := yi2_lf (c := c) (k := k) (b := nI b) (x := nI (4 + j)) (y := nI b) hk
    rw [ypl_b (b := b) (by omega), ypl_s (by omega)] at y1 y2
    obtain ⟨h2, e2, t0, tC, w2⟩ := e_270 (sv := sv) (d := D) (n := yi2 c k (nI b) (nI (4 + j)) (nI b)) r0 r19 rC (by rw [List.length_append, len1]; omega) (yis_nr hk) yi2_1 y3 y1 y2
    have eq1 : q ++ ((nI 115, nI b, nI j, nI b, -1) :: (yco M o b (j + 1) ++ [yi2 c k (nI b) (nI (4 + j)) (nI b)])) = q ++ [(nI 115, nI b, nI j, nI b, -1)] ++ yco M o b (j + 1) ++ [yi2 c k (nI b) (nI (4 + j)) (nI b)] := by
      simp only [List.append_assoc, List.cons_append, List.nil_append]
    have r22' : (yup F1 19 (nI ((q ++ [(nI 115, nI b, nI j, nI b, -1)] ++ yco M o b (j + 1)).length + 1))) 22 = nI (2 ^ (j + 1) - 1) := by rw [yup_ne (by omega), r22]
    have hj0 : ¬ nI j < 0 := nI_pos (by omega)
    refine ⟨zup h2 m (13, zMF m (yup (yup F1 19 (nI ((q ++ [(nI 115, nI b, nI j, nI b, -1)] ++ yco M o b (j + 1)).length + 1))) 22 (nI (2 ^ j - 1)))), _, ?_, ⟨zup_at, ?_, ?_, ?_, ?_, ?_⟩, ?_, ?_⟩
    · cases c with
      | true =>
        rw [if_pos rfl, if_pos rfl] at e2
        rw [yb_t] at e271
        simp (disch := first | exact h9 | exact h10 | exact h11 | exact znw_u | exact znw_i) only [zs_271_126, zs_271_127, zs_271_129, zs_271_130, zs_271_132, zs_271_133, zs_271_135, zs_271_136, zs_271_139, zs_271_141, zs_271_142, zs_271_143, zs_271_144, zs_271_145, zs_271_156, zs_271_157, e271, zs_271_178, zs_271_179, zs_271_180, zs_271_183, zs_271_184, zs_271_186, zs_271_187, zs_271_188, zs_271_191, zs_271_192, zs_271_193, zs_271_196, zs_271_197, zs_271_199, zs_271_200, zs_271_201, zs_271_204, zs_271_205, zs_271_206, zs_271_209, zs_271_210, zs_271_211, zs_271_214, zs_271_215, zs_271_217, zs_271_218, zs_271_220, zs_271_221, zs_271_224, zs_271_226, zs_271_228, zs_271_229, zs_271_231, zs_271_232, zs_271_234, zs_271_236, zs_271_237, zs_271_240, zs_271_241, zs_271_243, zs_271_244, zs_271_246, zs_271_249, zs_271_251, zs_271_256, zs_271_258, zs_271_261, zs_271_263, zs_271_268, zs_271_271, zs_271_273, zs_271_276, zs_271_277, zs_271_278, zs_271_281, zs_271_282, zs_271_284, zs_271_285, zs_271_286, zs_271_287, zs_271_288, zs_271_291, m0, zmf_12, zmf_20, zmf_21, zmf_22, zmp_20, zmp_21, zmp_22, yup_eq, yup_ne (show (21 : Nat) ≠ 22 by decide), yup_ne (show (20 : Nat) ≠ 21 by decide), yup_ne (show (20 : Nat) ≠ 22 by decide), zup_at, m20, m21, m22, u1, u2, hF, g1, if_neg cc, nI_1', ← hhA, A0, eB, B0, e1, zrc_13v, r0, e2, t0, r22', u3, zbk_v, zts_s, zts_n, yb_t, nI_1e0, if_neg hj0, ↓reduceIte, List.cons_append, List.nil_append]
      | false =>
        rw [if_neg (by decide), if_neg (by decide)] at e2
        rw [yb_f] at e271
        simp (disch := first | exact h9 | exact h10 | exact h11 | exact znw_u | exact znw_i) only [zs_271_126, zs_271_127, zs_271_129, zs_271_130, zs_271_132, zs_271_133, zs_271_135, zs_271_136, zs_271_139, zs_271_141, zs_271_142, zs_271_143, zs_271_144, zs_271_145, zs_271_156, zs_271_157, e271, zs_271_178, zs_271_179, zs_271_180, zs_271_183, zs_271_184, zs_271_186, zs_271_187, zs_271_188, zs_271_191, zs_271_192, zs_271_193, zs_271_196, zs_271_197, zs_271_199, zs_271_200, zs_271_201, zs_271_204, zs_271_205, zs_271_206, zs_271_209, zs_271_210, zs_271_211, zs_271_214, zs_271_215, zs_271_217, zs_271_218, zs_271_220, zs_271_221, zs_271_224, zs_271_226, zs_271_228, zs_271_229, zs_271_231, zs_271_232, zs_271_234, zs_271_236, zs_271_237, zs_271_240, zs_271_241, zs_271_243, zs_271_244, zs_271_246, zs_271_254, zs_271_256, zs_271_258, zs_271_266, zs_271_268, zs_271_271, zs_271_273, zs_271_276, zs_271_277, zs_271_278, zs_271_281, zs_271_282, zs_271_284, zs_271_285, zs_271_286, zs_271_287, zs_271_288, zs_271_291, m0, zmf_12, zmf_20, zmf_21, zmf_22, zmp_20, zmp_21, zmp_22, yup_eq, yup_ne (show (21 : Nat) ≠ 22 by decide), yup_ne (show (20 : Nat) ≠ 21 by decide), yup_ne (show (20 : Nat) ≠ 22 by decide), zup_at, m20, m21, m22, u1, u2, hF, g1, if_neg cc, nI_1', ← hhA, A0, eB, B0, e1, zrc_13v, r0, e2, t0, r22', u3, zbk_v, zts_s, zts_n, yb_f, nI_1e0, if_neg hj0, ↓reduceIte, List.cons_append, List.nil_append]
    · rw [yup_ne (by omega), yup_eq, eq1, List.length_append (bs := [yi2 c k (nI b) (nI (4 + j)) (nI b)])]; rfl
    · rw [yup_ne (by omega), yup_ne (by omega), r20, eq1, ycs_1 (by rw [yi2_1]; exact nk.2.2.2)]
    · rw [yup_ne (by omega), yup_ne (by omega), r21, eq1, yslo_1 (by rw [yi2_1]; exact nk.2.2.2)]
    · rw [yup_eq]
    · rw [eq1]
      obtain ⟨A, B, C, D', ⟨a1, a2, a3, a4⟩, w⟩ := tC
      exact ⟨A, B, C, D', ⟨by rw [zup_ne (by omega), a1], by rw [zup_ne (by omega), a2], by rw [zup_ne (by omega), a3], by rw [zup_ne (by omega), a4]⟩, w⟩
    · intro x x1 x2 x3 x4
      rw [yup_ne x4, yup_ne x1, f1 x x1 x2 x3 x4, yup_ne x1, yup_ne x2, yup_ne x3, yup_ne x4]
    · exact zcwr_tr (zcwr_tr (zcwr_tr (zcwr_tr Af wB) w1) w2) ⟨fun x x1 _ => by rw [zup_ne x1], rfl⟩
end ZQO
