section ZRH
variable {sv : Nat → Value} {d : Nat} {m t g : Nat} {ns : List yN}
/-- a node's slope, from its parts' slopes a, b and values x, y -/
def yst2 (c k v a b x y : Int32) : Int32 := if k = nI 42 then a * y + x * b else if k = nI 99 ∨ k = nI 118 then (if k = nI 118 ∧ v = c then nI 1 else 0) else yop k a b
def ysl2 (T : List Int32) (c : Int32) : yT → Int32
  | .leaf => 0
  | .inner _ k v l r => yst2 c k v (ysl2 T c l) (ysl2 T c r) (yfo (yfR T) l) (yfo (yfR T) r)
def yQs (f : yT → Int32) (ns : List yN) (A : List Int32) (i : Nat) : Prop := ∀ (j : Nat) (t : yT), j < i → (ytm ns)[j]? = some t → A[j]? = some (f t)
theorem yQs_g {f : yT → Int32} {A : List Int32} {i : Nat} {x : Int32} (h0 : f .leaf = 0) (hq : yQs f ns A i) (hx : ych i x) (hi : i ≤ ns.length) (hl : ns.length < 2 ^ 31) : yg A x = f (ygt (ytm ns) x) := by
  rcases hx with rfl | ⟨j, hj, rfl⟩
  · rw [yg_n, ygt_n, h0]
  · have e1 : (ytm ns)[j]? = some ((ytm ns)[j]'(by rw [ytm_l]; omega)) := List.getElem?_eq_getElem _
    rw [yg_e (by omega) (hq j _ hj e1), ygt_k (by omega), List.getD_eq_getElem?_getD, e1]
    rfl
theorem yQs_s {f : yT → Int32} {A : List Int32} {i : Nat} {nd : yN} {y : Int32} (hw : ywf ns) (hi : ns[i]? = some nd) (hA : i < A.length) (hy : y = f (ymk nd.1 nd.2.1 (ygt (ytm ns) nd.2.2.1) (ygt (ytm ns) nd.2.2.2))) (hq : yQs f ns A i) : yQs f ns (A.set i y) (i + 1) := by
  intro j t hj ht
  by_cases h1 : j = i
  · subst h1
    rw [ytm_at hw hi] at ht
    injection ht with ht
    subst ht
    rw [List.getElem?_set_self hA, hy]
  · rw [List.getElem?_set_ne (Ne.symm h1)]
    exact hq j t (by omega) ht
theorem d_124 {h : zH} {i : Nat} {nd : yN} {A B C : List Int32} {c : Int32} (ht : zTre h t m ns) (hg : zGau h g A B C) (hnd : ns[i]? = some nd) : zcall zP sv (d + 4) 124 [.ref g, .ref t, .int (nI i), .int c] h = some (.inl (some (.int (yst2 c nd.1 nd.2.1 (yg B nd.2.2.1) (yg B nd.2.2.2) (yg A nd.2.2.1) (yg A nd.2.2.2)))), h) := by
  have e0 := hg.1
  have e188 : zcall zP sv (d + 3) 188 [.ref t, .int (nI i), .int c] h = _ := d_188 (d := d) ht hnd
  unfold yst2
  have n1 : ¬ nI 99 = nI 118 := by decide +kernel
  by_cases h1 : nd.1 = nI 42
  · simp (disch := first | exact znw_u | exact znw_i) only [zc_124, zs_124_0, zs_124_0n, zs_124_1, zs_124_2, zs_124_5, zs_124_7, zs_124_7n, zs_124_8, zs_124_9, zs_124_12, zs_124_14, zs_124_14n, zs_124_15, zs_124_16, zs_124_19, zs_124_21, zs_124_23, zs_124_25, zs_124_28, zs_124_28n, zs_124_29, zs_124_32, zs_124_34, zs_124_37, zs_124_37n, zs_124_38, zs_124_41, zs_124_43, zs_124_46, zs_124_47, zs_124_47n, zs_124_48, zs_124_51, zs_124_53, zs_124_56, zs_124_56n, zs_124_57, zs_124_60, zs_124_62, zs_124_65, zs_124_66, zs_124_67, zs_124_68, zs_124_70, zs_124_72, zs_124_75, zs_124_77, zs_124_79, zs_124_82, zs_124_82n, zs_124_83, zs_124_84, zs_124_85, zs_124_88, zs_124_91, zs_124_92, zs_124_95, zs_124_96, zs_124_97, zs_124_99, zs_124_99n, zs_124_100, zs_124_103, zs_124_105, zs_124_108, zs_124_108n, zs_124_109, zs_124_112, zs_124_114, zs_124_117, zs_124_120, zTre_rc ht, e0, zGc, zrc_10, zf_10_0, zp_10_0, zp_10_0n, zf_10_1, zp_10_1, zp_10_1n, zf_10_2, zp_10_2, zp_10_2n, zRow_rc hg.2.1, d_165 hg.2.1, zRow_rc hg.2.2.1, d_165 hg.2.2.1, d_184 ht hnd, d_186 ht hnd, d_187 ht hnd, zbk_v, zts_s, if_pos h1, List.cons_append, List.nil_append]
  · rw [if_neg h1]
    by_cases h2 : nd.1 = nI 99
    · have h3 : ¬ (nd.1 = nI 118 ∧ nd.2.1 = c) := fun z => n1 (by rw [← h2, z.1])
      rw [if_pos (Or.inl h2)]
      rw [if_neg h3] at e188 ⊢
      simp (disch := first | exact znw_u | exact znw_i) only [zc_124, zs_124_0, zs_124_0n, zs_124_1, zs_124_2, zs_124_5, zs_124_7, zs_124_7n, zs_124_8, zs_124_9, zs_124_12, zs_124_14, zs_124_14n, zs_124_15, zs_124_16, zs_124_19, zs_124_21, zs_124_23, zs_124_25, zs_124_28, zs_124_28n, zs_124_29, zs_124_32, zs_124_34, zs_124_37, zs_124_37n, zs_124_38, zs_124_41, zs_124_43, zs_124_46, zs_124_47, zs_124_47n, zs_124_48, zs_124_51, zs_124_53, zs_124_56, zs_124_56n, zs_124_57, zs_124_60, zs_124_62, zs_124_65, zs_124_66, zs_124_67, zs_124_68, zs_124_70, zs_124_72, zs_124_75, zs_124_77, zs_124_79, zs_124_82, zs_124_82n, zs_124_83, zs_124_84, zs_124_85, zs_124_88, zs_124_91, zs_124_92, zs_124_95, zs_124_96, zs_124_97, zs_124_99, zs_124_99n, zs_124_100, zs_124_103, zs_124_105, zs_124_108, zs_124_108n, zs_124_109, zs_124_112, zs_124_114, zs_124_117, zs_124_120, zTre_rc ht, e0, zGc, zrc_10, zf_10_0, zp_10_0, zp_10_0n, zf_10_1, zp_10_1, zp_10_1n, zf_10_2, zp_10_2, zp_10_2n, d_184 ht hnd, d_186 ht hnd, d_187 ht hnd, e188, zbk_v, zts_s, if_neg h1, if_pos h2, ↓reduceIte, List.cons_append, List.nil_append]
    · by_cases h3 : nd.1 = nI 118
      · rw [if_pos (Or.inr h3)]
        by_cases h4 : nd.1 = nI 118 ∧ nd.2.1 = c
        · rw [if_pos h4] at e188 ⊢
          simp (disch := first | exact znw_u | exact znw_i) only [zc_124, zs_124_0, zs_124_0n, zs_124_1, zs_124_2, zs_124_5, zs_124_7, zs_124_7n, zs_124_8, zs_124_9, zs_124_12, zs_124_14, zs_124_14n, zs_124_15, zs_124_16, zs_124_19, zs_124_21, zs_124_23, zs_124_25, zs_124_28, zs_124_28n, zs_124_29, zs_124_32, zs_124_34, zs_124_37, zs_124_37n, zs_124_38, zs_124_41, zs_124_43, zs_124_46, zs_124_47, zs_124_47n, zs_124_48, zs_124_51, zs_124_53, zs_124_56, zs_124_56n, zs_124_57, zs_124_60, zs_124_62, zs_124_65, zs_124_66, zs_124_67, zs_124_68, zs_124_70, zs_124_72, zs_124_75, zs_124_77, zs_124_79, zs_124_82, zs_124_82n, zs_124_83, zs_124_84, zs_124_85, zs_124_88, zs_124_91, zs_124_92, zs_124_95, zs_124_96, zs_124_97, zs_124_99, zs_124_99n, zs_124_100, zs_124_103, zs_124_105, zs_124_108, zs_124_108n, zs_124_109, zs_124_112, zs_124_114, zs_124_117, zs_124_120, zTre_rc ht, e0, zGc, zrc_10, zf_10_0, zp_10_0, zp_10_0n, zf_10_1, zp_10_1, zp_10_1n, zf_10_2, zp_10_2, zp_10_2n, d_184 ht hnd, d_186 ht hnd, d_187 ht hnd, e188, zbk_v, zts_s, if_neg h1, if_neg h2, if_pos h3, nI_1e0, ↓reduceIte, List.cons_append, List.nil_append]
        · rw [if_neg h4] at e188 ⊢
          simp (disch := first | exact znw_u | exact znw_i) only [zc_124, zs_124_0, zs_124_0n, zs_124_1, zs_124_2, zs_124_5, zs_124_7, zs_124_7n, zs_124_8, zs_124_9, zs_124_12, zs_124_14, zs_124_14n, zs_124_15, zs_124_16, zs_124_19, zs_124_21, zs_124_23, zs_124_25, zs_124_28, zs_124_28n, zs_124_29, zs_124_32, zs_124_34, zs_124_37, zs_124_37n, zs_124_38, zs_124_41, zs_124_43, zs_124_46, zs_124_47, zs_124_47n, zs_124_48, zs_124_51, zs_124_53, zs_124_56, zs_124_56n, zs_124_57, zs_124_60, zs_124_62, zs_124_65, zs_124_66, zs_124_67, zs_124_68, zs_124_70, zs_124_72, zs_124_75, zs_124_77, zs_124_79, zs_124_82, zs_124_82n, zs_124_83, zs_124_84, zs_124_85, zs_124_88, zs_124_91, zs_124_92, zs_124_95, zs_124_96, zs_124_97, zs_124_99, zs_124_99n, zs_124_100, zs_124_103, zs_124_105, zs_124_108, zs_124_108n, zs_124_109, zs_124_112, zs_124_114, zs_124_117, zs_124_120, zTre_rc ht, e0, zGc, zrc_10, zf_10_0, zp_10_0, zp_10_0n, zf_10_1, zp_10_1, zp_10_1n, zf_10_2, zp_10_2, zp_10_2n, d_184 ht hnd, d_186 ht hnd, d_187 ht hnd, e188, zbk_v, zts_s, if_neg h1, if_neg h2, if_pos h3, ↓reduceIte, List.cons_append, List.nil_append]
      · rw [if_neg (fun z => z.elim h2 h3)]
        simp (disch := first | exact znw_u | exact znw_i) only [zc_124, zs_124_0, zs_124_0n, zs_124_1, zs_124_2, zs_124_5, zs_124_7, zs_124_7n, zs_124_8, zs_124_9, zs_124_12, zs_124_14, zs_124_14n, zs_124_15, zs_124_16, zs_124_19, zs_124_21, zs_124_23, zs_124_25, zs_124_28, zs_124_28n, zs_124_29, zs_124_32, zs_124_34, zs_124_37, zs_124_37n, zs_124_38, zs_124_41, zs_124_43, zs_124_46, zs_124_47, zs_124_47n, zs_124_48, zs_124_51, zs_124_53, zs_124_56, zs_124_56n, zs_124_57, zs_124_60, zs_124_62, zs_124_65, zs_124_66, zs_124_67, zs_124_68, zs_124_70, zs_124_72, zs_124_75, zs_124_77, zs_124_79, zs_124_82, zs_124_82n, zs_124_83, zs_124_84, zs_124_85, zs_124_88, zs_124_91, zs_124_92, zs_124_95, zs_124_96, zs_124_97, zs_124_99, zs_124_99n, zs_124_100, zs_124_103, zs_124_105, zs_124_108, zs_124_108n, zs_124_109, zs_124_112, zs_124_114, zs_124_117, zs_124_120, zTre_rc ht, e0, zGc, zrc_10, zf_10_0, zp_10_0, zp_10_0n, zf_10_1, zp_10_1, zp_10_1n, zf_10_2, zp_10_2, zp_10_2n, zRow_rc hg.2.2.1, d_165 hg.2.2.1, d_184 ht hnd, d_186 ht hnd, d_187 ht hnd, d_84, zbk_v, zts_s, if_neg h1, if_neg h2, if_neg h3, List.cons_append, List.nil_append]
theorem d_123l {l : Nat} {T : List Int32} {c : Int32} (hw : ywf ns) (hd : g + 7 ≤ t ∨ t + 9 ≤ g) (hn : ns.length ≤ 124) (hdl : g + 7 ≤ l ∨ l + 2 ≤ g) : ∀ n i (h : zH) (A B C : List Int32), i + n = ns.length → zTre h t m ns → zGau h g A B C → zRow h l T → yQ (yfR T) ns A i → yQs (ysl2 T c) ns B i → ∃ h' A' B', zrun zP sv (zcall zP sv (d + 4)) 123 3 [.val (.ref g), .val (.ref t), .val (.int c), .val (.ref l), .val (.int (nI i))] [] h = some (.inl (some (.int (yg B' (nI ns.length - nI 1)))), h') ∧ zGau h' g A' B' C ∧ yQ (yfR T) ns A' ns.length ∧ yQs (ysl2 T c) ns B' ns.length ∧ zfr g (g + 7) h h' := by
  intro n
  induction n with
  | zero =>
    intro i h A B C hi ht hg hl2 hq hs
    obtain rfl : i = ns.length := by omega
    have f0 : ¬ nI ns.length < nI ns.length := nI_nlt (Nat.le_refl _) hw.1
    have e0 := hg.1
    refine ⟨h, A, B, ?_, hg, hq, hs, zfr_rfl⟩
    simp only [zs_123_0, zs_123_1, zs_123_3, zs_123_5, zs_123_5n, zs_123_6, zs_123_9, zs_123_12, zs_123_12n, zs_123_13, zs_123_16, zs_123_18, zs_123_18n, zs_123_19, zs_123_19n, zs_123_20, zs_123_22, zs_123_23, zs_123_26, zs_123_29, zs_123_29n, zs_123_30, zs_123_33, zs_123_35, zs_123_35n, zs_123_36, zs_123_36n, zs_123_37, zs_123_39, zs_123_39n, zs_123_40, zs_123_43, zs_123_52, zs_123_52n, zs_123_53, zs_123_56, zs_123_56n, zs_123_57, zs_123_60, zs_123_63, zTre_rc ht, d_182 ht, d_183 ht, if_neg f0, e0, zGc, zrc_10, zf_10_0, zp_10_0, zp_10_0n, zf_10_1, zp_10_1, zp_10_1n, zf_10_2, zp_10_2, zp_10_2n, zRow_rc hg.2.2.1, d_165 hg.2.2.1, zbk_v, zts_s, List.cons_append, List.nil_append]
  | succ n ih =>
    intro i h A B C hi ht hg hl2 hq hs
    obtain ⟨nd, hnd⟩ := ynd_ex (ns := ns) (i := i) (by omega)
    have hl := hw.1
    have hch := hw.2 i nd hnd
    have f0 : nI i < nI ns.length := nI_lt (by omega) hl
    have e0 := hg.1
    have hA := hg.2.2.2.2.1
    have hB := hg.2.2.2.2.2.1
    have s0 : ysl2 T c .leaf = 0 := rfl
    obtain ⟨y, hy⟩ : ∃ y, y = yst2 c nd.1 nd.2.1 (yg B nd.2.2.1) (yg B nd.2.2.2) (yg A nd.2.2.1) (yg A nd.2.2.2) := ⟨_, rfl⟩
    have hy2 : y = ysl2 T c (ymk nd.1 nd.2.1 (ygt (ytm ns) nd.2.2.1) (ygt (ytm ns) nd.2.2.2)) := by
      rw [hy, yQs_g s0 hs hch.1 (by omega) hl, yQs_g s0 hs hch.2 (by omega) hl, yQ_g hq hch.1 (by omega) hl, yQ_g hq hch.2 (by omega) hl]
      rfl
    have k1 : zcall zP sv (d + 4) 124 [.ref g, .ref t, .int (nI i), .int c] h = _ := d_124 (d := d) ht hg hnd
    rw [← hy] at k1
    have e1 : zcall zP sv (d + 4) 166 [.ref (g + 3), .int (nI i), .int y] h = _ := d_166 (d := d + 3) hg.2.2.1
    have g1 := zGau_2 (A' := ys B (nI i) y) hg (by rw [ys_len, hB])
    have f1 : zfr g (g + 7) h (zup h (g + 3 + 1) (20, (ys B (nI i) y).map Value.int)) := zfr_up (by omega) (by omega)
    obtain ⟨h1, hh1⟩ : ∃ h1, h1 = zup h (g + 3 + 1) (20, (ys B (nI i) y).map Value.int) := ⟨_, rfl⟩
    rw [← hh1] at e1 g1 f1
    have ht1 := zTre_fr ht f1 (by omega)
    have hr1 := zRow_fr hl2 f1 (by omega)
    have e01 := g1.1
    have k2 : zcall zP sv (d + 4) 122 [.ref g, .ref t, .int (nI i), .ref l] h1 = _ := d_122 (d := d + 1) ht1 g1 hnd hr1
    have e2 : zcall zP sv (d + 4) 166 [.ref (g + 1), .int (nI i), .int (yfR T nd.1 nd.2.1 (yg A nd.2.2.1) (yg A nd.2.2.2))] h1 = _ := d_166 (d := d + 3) g1.2.1
    have g2 := zGau_1 (A' := ys A (nI i) (yfR T nd.1 nd.2.1 (yg A nd.2.2.1) (yg A nd.2.2.2))) g1 (by rw [ys_len, hA])
    have f2 : zfr g (g + 7) h1 (zup h1 (g + 1 + 1) (20, (ys A (nI i) (yfR T nd.1 nd.2.1 (yg A nd.2.2.1) (yg A nd.2.2.2))).map Value.int)) := zfr_up (by omega) (by omega)
    obtain ⟨h2, hh2⟩ : ∃ h2, h2 = zup h1 (g + 1 + 1) (20, (ys A (nI i) (yfR T nd.1 nd.2.1 (yg A nd.2.2.1) (yg A nd.2.2.2))).map Value.int) := ⟨_, rfl⟩
    rw [← hh2] at e2 g2 f2
    have q1 := yQ_s hw hnd (by omega) hq
    have q2 := yQs_s (f := ysl2 T c) (A := B) (y := y) hw hnd (by omega) hy2 hs
    rw [ys_k (by omega), ys_k (by omega)] at g2
    obtain ⟨h', A', B', e3, w1, w2, w3, w4⟩ := ih (i + 1) h2 _ _ _ (by omega) (zTre_fr ht1 f2 (by omega)) g2 (zRow_fr hr1 f2 (by omega)) q1 q2
    refine ⟨h', A', B', ?_, w1, w2, w3, zfr_tr (zfr_tr f1 f2) w4⟩
    rw [← e3]
    have eb : zrun zP sv (zcall zP sv (d + 4)) 123 46 [.val (.ref g), .val (.ref t), .val (.int c), .val (.ref l), .val (.int (nI i))] [] h2 = zrun zP sv (zcall zP sv (d + 4)) 123 3 [.val (.ref g), .val (.ref t), .val (.int c), .val (.ref l), .val (.int (nI (i + 1)))] [] h2 := by rw [zs_123_46, zs_123_49, nI_1']
    rw [← eb]
    have r3 : ∀ X : zR, zrc (h.1 (g + 3)) 4 X = X := fun X => zRow_rc hg.2.2.1
    have r1 : ∀ X : zR, zrc (h1.1 (g + 1)) 4 X = X := fun X => zRow_rc g1.2.1
    simp (disch := first | exact znw_u | exact znw_i) only [zs_123_0, zs_123_1, zs_123_3, zs_123_5, zs_123_5n, zs_123_6, zs_123_9, zs_123_12, zs_123_12n, zs_123_13, zs_123_16, zs_123_18, zs_123_18n, zs_123_19, zs_123_19n, zs_123_20, zs_123_22, zs_123_23, zs_123_26, zs_123_29, zs_123_29n, zs_123_30, zs_123_33, zs_123_35, zs_123_35n, zs_123_36, zs_123_36n, zs_123_37, zs_123_39, zs_123_39n, zs_123_40, zs_123_43, zs_123_52, zs_123_52n, zs_123_53, zs_123_56, zs_123_56n, zs_123_57, zs_123_60, zs_123_63, zTre_rc ht, d_182 ht, e0, e01, zGc, zrc_10, zf_10_0, zp_10_0, zp_10_0n, zf_10_1, zp_10_1, zp_10_1n, zf_10_2, zp_10_2, zp_10_2n, r3, r1, zGau_rc hg, zGau_rc g1, if_pos f0, k1, e1, k2, e2, zbk_v, zts_s, zts_n, List.cons_append, List.nil_append]
theorem d_123 {h : zH} {l : Nat} {T : List Int32} {c : Int32} {A B C : List Int32} (hw : ywf ns) (hd : g + 7 ≤ t ∨ t + 9 ≤ g) (hn : ns.length ≤ 124) (hdl : g + 7 ≤ l ∨ l + 2 ≤ g) (ht : zTre h t m ns) (hg : zGau h g A B C) (hl2 : zRow h l T) : ∃ h' A' B', zcall zP sv (d + 5) 123 [.ref g, .ref t, .int c, .ref l] h = some (.inl (some (.int (yg B' (nI ns.length - nI 1)))), h') ∧ zGau h' g A' B' C ∧ yQ (yfR T) ns A' ns.length ∧ yQs (ysl2 T c) ns B' ns.length ∧ zfr g (g + 7) h h' := by
  obtain ⟨h', A', B', e, w⟩ := d_123l (sv := sv) (d := d) (m := m) (c := c) hw hd hn hdl ns.length 0 h A B C (Nat.zero_add _) ht hg hl2 yQ_0 (fun j t hj => absurd hj (Nat.not_lt_zero j))
  refine ⟨h', A', B', ?_, w⟩
  rw [nI_0] at e
  rw [← e]
  simp (disch := first | exact znw_u | exact znw_i) only [zc_123, zs_123_0, zs_123_1]
end ZRH
section ZRI
variable {sv : Nat → Value} {d : Nat} {h : zH} {m : Nat} {w : yW} {i : Nat} {t : yT}
theorem d_47 {c : Int32} (hc : zCls h m w) (hi : (ycur w).1[i]? = some t) (hl : ylet c = true) : zEnd h m (zcall zP sv (d + 48) 47 [.ref m, .int (nI i), .int c] h) 0 0 (.inl (some (.int (ysl2 (ycur w).2.1 c t)))) w := by
  have q1 := zCls_0 hc
  obtain ⟨a, e0, a1, a2, a3, a4⟩ := d_70k (sv := sv) (d := d + 45) hc hi
  have hsz := a4.2.1
  obtain ⟨f1, f2, f3, f4⟩ := yform a4.1 (by omega)
  obtain ⟨A, B, C, hg⟩ := zgau_ex hc
  obtain ⟨S, s1, s2⟩ := zcur_ex hc
  have hV : S.2.1 = (ycur w).2.1 := by rw [s2.1]
  have s3 := s1.2.2.1
  rw [hV] at s3
  have e72 : zcall zP sv (d + 47) 72 [.int c] h = _ := d_72 (d := d + 46) hl
  obtain ⟨h1, A', B', e1, g1, _, r1, f5⟩ := d_123 (sv := sv) (d := d + 42) (c := c) f1 (show m + 78 + 7 ≤ a ∨ a + 9 ≤ m + 78 by omega) (by omega) (show m + 78 + 7 ≤ m + 3 + 2 ∨ m + 3 + 2 + 2 ≤ m + 78 by omega) a3 hg s3
  rw [yroot_sub f4, yQs_g (f := ysl2 (ycur w).2.1 c) rfl r1 (Or.inr ⟨ysz t - 1, by omega, rfl⟩) (Nat.le_refl _) f1.1, f2] at e1
  refine zEnd_q hc ?_ f5 g1
  simp (disch := exact znw_u) only [zc_47, zs_47_0, zs_47_0n, zs_47_1, zs_47_2, zs_47_5, zs_47_5n, zs_47_6, zs_47_7, zs_47_10, zs_47_10n, zs_47_11, zs_47_14, zs_47_14n, zs_47_15, zs_47_16, zs_47_16n, zs_47_17, zs_47_20, zs_47_23, zs_47_26, q1, zECc, zrc_1, zf_1_0, zp_1_0, zp_1_0n, zf_1_1, zp_1_1, zf_1_2, zp_1_2, zp_1_2n, zf_1_3, zp_1_3, zp_1_3n, zf_1_4, zp_1_40, zp_1_41, zf_1_5, zp_1_5, zp_1_5n, zf_1_6, zp_1_6, zp_1_6n, zf_1_7, zp_1_7, zp_1_7n, zf_1_8, zp_1_8, zp_1_8n, zf_1_9, zp_1_9, zp_1_9n, zf_1_10, zp_1_10, zp_1_10n, zf_1_11, zp_1_11, zp_1_11n, zf_1_12, zp_1_12, zp_1_12n, zEC1 hc, e0, e72, zSta_rc s1, d_170 s1, zGau_rc hg, e1, zbk_v, zts_s, zts_n, List.cons_append, List.nil_append]
/-- a tree's derivative in the rough tree -/
theorem d_der {a : Nat} {c : Int32} (hc : zCls h m w) (a1 : m + 139 ≤ a) (a3 : zTre h a (ysz t) (ypo 0 t)) (a4 : ytok t) : ∃ h1 os x, zcall zP sv (d + 47) 93 [.ref (m + 75), .ref a, .int c, .ref (m + 45)] h = some (.inl (some (.int x)), h1) ∧ zCls h1 m w ∧ zTre h1 (m + 45) 124 os ∧ ywf os ∧ os.length ≤ 124 ∧ ych os.length x ∧ ygt (ytm os) x = yder c t ∧ zf2 (m + 45) (m + 54) (m + 75) (m + 78) h h1 ∧ ∀ X : zR, zrc (h.1 (m + 75)) 9 X = X := by
  have cs := hc.2.2.2.2.2.2.1
  have hsz := a4.2.1
  have hdp := a4.2.2
  obtain ⟨f1, f2, f3, f4⟩ := yform a4.1 (by omega)
  obtain ⟨n1, b1⟩ := cs.1
  obtain ⟨P, b3⟩ := cs.2.2.1
  have hbd : yBd 8 (ypo 0 t) := yform_bd a4.1 (by omega) hdp
  obtain ⟨h1, os, P1, x, e1, o1, o2, oB, o3, o4, o5, o6, o7⟩ := d_93 (sv := sv) (d := d + 42) (c := c) f1 (by omega) (by omega) (show a + 9 ≤ m + 45 ∨ m + 45 + 9 ≤ a by omega) (show a + 9 ≤ m + 75 ∨ m + 75 + 3 ≤ a by omega) (by omega) a3 b1 b3 (B := 16) (fun j u hu => by
    have h8 := ydp_yder (c := c) u
    have h9 := hbd j u hu
    omega) (fun j u hu => by
    have h9 := hbd j u hu
    omega)
  rw [f3, f2] at o6
  have C1 := zCls_f2 hc o7 (by omega) (by omega) (by omega) (by omega) (by omega) (by omega) (zScr_ro cs o7 o3 o4)
  exact ⟨h1, os, x, e1, C1, o3, o2, o1, o5, o6, o7, fun X => by rw [b3.1]; exact zrc_k⟩
/-- the value of a tree at a root, in the rough tree -/
theorem d_val {os : List yN} {x : Int32} (hc : zCls h m w) (ht : zTre h (m + 45) 124 os) (hw : ywf os) (hl : os.length ≤ 124) (hx : ych os.length x) : ∃ h', zcall zP sv (d + 47) 121 [.ref (m + 78), .ref (m + 45), .int x, .ref (m + 3 + 2)] h = some (.inl (some (.int (yfo (yfR (ycur w).2.1) (ygt (ytm os) x)))), h') ∧ zCls h' m w ∧ zfr (m + 78) (m + 85) h h' ∧ (∀ X : zR, zrc (h.1 (m + 78)) 10 X = X) ∧ zcall zP sv (d + 47) 170 [.ref (m + 3)] h = some (.inl (some (.ref (m + 3 + 2))), h) := by
  obtain ⟨A, B, C, hg⟩ := zgau_ex hc
  obtain ⟨S, s1, s2⟩ := zcur_ex hc
  have hV : S.2.1 = (ycur w).2.1 := by rw [s2.1]
  have s3 := s1.2.2.1
  rw [hV] at s3
  obtain ⟨h1, A', e1, g1, r1, f5⟩ := d_121 (sv := sv) (d := d + 43) (rt := x) hw (show m + 78 + 7 ≤ m + 45 ∨ m + 45 + 9 ≤ m + 78 by omega) (by omega) (show m + 78 + 7 ≤ m + 3 + 2 ∨ m + 3 + 2 + 2 ≤ m + 78 by omega) ht hg s3
  rw [yQ_g r1 hx (Nat.le_refl _) hw.1] at e1
  exact ⟨h1, e1, zCls_g hc f5 g1, f5, fun X => zGau_rc hg, d_170 s1⟩
theorem zf2_fx {h' : zH} {a b c e lo hi : Nat} (hf : zf2 a b c e h h') (h1 : lo ≤ a) (h2 : b ≤ hi) (h3 : lo ≤ c) (h4 : e ≤ hi) : zfx lo hi 0 0 h h' := ⟨fun q _ hq => hf.1 q (by omega) (by omega), by rw [hf.2]; exact Nat.le_refl _, by rw [hf.2]; exact Nat.le_refl _, by rw [hf.2]; exact Nat.le_refl _⟩
theorem d_48 {c : Int32} (hc : zCls h m w) (hi : (ycur w).1[i]? = some t) (hl : ylet c = true) : zEnd h m (zcall zP sv (d + 48) 48 [.ref m, .int (nI i), .int c] h) 0 0 (.inl (some (.int (yfo (yfR (ycur w).2.1) (yder c t))))) w := by
  have q1 := zCls_0 hc
  obtain ⟨a, e0, a1, a2, a3, a4⟩ := d_70k (sv := sv) (d := d + 45) hc hi
  have e72 : zcall zP sv (d + 47) 72 [.int c] h = _ := d_72 (d := d + 46) hl
  obtain ⟨h1, os, x, e1, c1, t1, w1, l1, x1, x2, f1, r9⟩ := d_der (sv := sv) (d := d) (c := c) hc a1 a3 a4
  obtain ⟨h2, e2, c2, f2, r10, e170⟩ := d_val (sv := sv) (d := d) c1 t1 w1 l1 x1
  rw [x2] at e2
  have q2 := zCls_0 c1
  refine ⟨h2, ?_, c2, zfx_mono (zfx_tr (zf2_fx f1 (show m ≤ m + 45 by omega) (show m + 54 ≤ m + 119 by omega) (by omega) (by omega)) (zfr_fx f2 (by omega) (by omega))) (Nat.le_refl _) (Nat.le_refl _) (by omega) (by omega)⟩
  simp (disch := exact znw_u) only [zc_48, zs_48_0, zs_48_0n, zs_48_1, zs_48_2, zs_48_5, zs_48_5n, zs_48_6, zs_48_7, zs_48_10, zs_48_10n, zs_48_11, zs_48_14, zs_48_14n, zs_48_15, zs_48_16, zs_48_16n, zs_48_17, zs_48_20, zs_48_23, zs_48_25, zs_48_25n, zs_48_26, zs_48_29, zs_48_29n, zs_48_30, zs_48_33, zs_48_35, zs_48_35n, zs_48_36, zs_48_39, zs_48_42, zs_48_45, q1, q2, zECc, zrc_1, zf_1_0, zp_1_0, zp_1_0n, zf_1_1, zp_1_1, zf_1_2, zp_1_2, zp_1_2n, zf_1_3, zp_1_3, zp_1_3n, zf_1_4, zp_1_40, zp_1_41, zf_1_5, zp_1_5, zp_1_5n, zf_1_6, zp_1_6, zp_1_6n, zf_1_7, zp_1_7, zp_1_7n, zf_1_8, zp_1_8, zp_1_8n, zf_1_9, zp_1_9, zp_1_9n, zf_1_10, zp_1_10, zp_1_10n, zf_1_11, zp_1_11, zp_1_11n, zf_1_12, zp_1_12, zp_1_12n, zEC1 hc, e0, e72, r9, e1, zcur_r c1, e170, r10, e2, zbk_v, zts_s, zts_n, List.cons_append, List.nil_append]
end ZRI
