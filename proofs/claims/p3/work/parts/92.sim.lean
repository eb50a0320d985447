def ycpy (A C : yP) (u n : Nat) : yP := C.take u ++ A.take n ++ C.drop (u + n)
theorem ycpy_0 {A C : yP} {u : Nat} : ycpy A C u 0 = C := by
  unfold ycpy
  rw [List.take_zero, List.append_nil, Nat.add_zero, List.take_append_drop]
theorem ycpy_len {A C : yP} {u n : Nat} (hC : u + n ≤ C.length) (hA : n ≤ A.length) : (ycpy A C u n).length = C.length := by
  unfold ycpy
  rw [List.length_append, List.length_append, List.length_take, List.length_take, List.length_drop]
  omega
theorem ycpy_set {A C : yP} {u n : Nat} {y : Int32 × Int32} (hC : u + n < C.length) (hA : A[n]? = some y) : (ycpy A C u n).set (u + n) y = ycpy A C u (n + 1) := by
  have hn : n < A.length := (List.getElem?_eq_some_iff.mp hA).1
  unfold ycpy
  have e1 : (C.take u ++ A.take n).length = u + n := by
    rw [List.length_append, List.length_take, List.length_take]; omega
  rw [List.set_append_right _ _ (by omega), e1, Nat.sub_self, List.drop_eq_getElem_cons hC, List.set_cons_zero, List.take_add_one, hA, List.append_assoc, List.append_assoc, List.append_assoc]
  rfl
theorem ycpy_get {A C : yP} {u n i : Nat} (hC : u + n ≤ C.length) (hA : n ≤ A.length) (hi : u + n ≤ i) : (ycpy A C u n)[i]? = C[i]? := by
  unfold ycpy
  have e1 : (C.take u ++ A.take n).length = u + n := by
    rw [List.length_append, List.length_take, List.length_take]; omega
  rw [List.getElem?_append_right (by omega), e1, List.getElem?_drop]
  congr 1
  omega
theorem zMd_pre {h : zH} {m : Nat} {F : Nat → Int32} {L : yP} {p : Nat} (hm : zMd h m F L) (hp : p ≤ L.length) : zMd (zup h m (13, zMF m (yup F 11 (nI p)))) m F (L.take p) := by
  obtain ⟨h1, h2⟩ := hm
  have e : (L.take p).length = p := by rw [List.length_take]; omega
  refine ⟨?_, ?_⟩
  · unfold zMo
    rw [zup_at, e]
  · have h3 := zLst_cg (h' := zup h m (13, zMF m (yup F 11 (nI p)))) h2 (zup_ne (by omega)) (zup_ne (by omega))
    rw [← List.take_append_drop p L] at h3
    exact zLst_pre h3
section ZFE
variable {sv : Nat → Value} {d : Nat} {m : Nat} {F : Nat → Int32} {L : yP}
theorem e_218l {p x n : Nat} (hL : p + x + n ≤ L.length) (h7 : L.length ≤ 700) (hk : ∀ q, q ∈ L → ynr q.1 = q.1) : ∀ j k (h : zH), k + j = n → zMd h m F (ycpy (L.drop (p + x)) L p k) → ∃ h', zrun zP sv (zcall zP sv d) 218 3 [.val (.ref m), .val (.int (nI p)), .val (.int (nI (p + x))), .val (.int (nI (p + x + n))), .val (.int (nI k))] [] h = zrun zP sv (zcall zP sv d) 218 53 [.val (.ref m), .val (.int (nI p)), .val (.int (nI (p + x))), .val (.int (nI (p + x + n))), .val (.int (nI n))] [] h' ∧ zMd h' m F (ycpy (L.drop (p + x)) L p n) ∧ zfm m h h' := by
  have hsub : nI (p + x + n) - nI (p + x) = nI n := nI_sub'
  have hdl : (L.drop (p + x)).length = L.length - (p + x) := List.length_drop
  intro j
  induction j with
  | zero =>
    intro k h hkn hm
    obtain rfl : k = n := by omega
    refine ⟨h, ?_, hm, zfm_rfl⟩
    simp only [zs_218_0, zs_218_1, zs_218_3, zs_218_5, zs_218_6, zs_218_7, zs_218_8, zs_218_11, zs_218_11n, zs_218_12, zs_218_15, zs_218_16, zs_218_18, zs_218_19, zs_218_19n, zs_218_20, zs_218_23, zs_218_24, zs_218_26, zs_218_27, zs_218_28, zs_218_29, zs_218_29n, zs_218_30, zs_218_33, zs_218_34, zs_218_36, zs_218_37, zs_218_37n, zs_218_38, zs_218_41, zs_218_42, zs_218_44, zs_218_45, zs_218_46, zs_218_47, zs_218_50, zs_218_54, zs_218_55, zs_218_56, zs_218_57, zs_218_58, zs_218_59, zs_218_62, hsub, Int32.lt_irrefl, ↓reduceIte]
  | succ j ih =>
    intro k h hkn hm
    have hlen := ycpy_len (A := L.drop (p + x)) (C := L) (u := p) (n := k) (by omega) (by omega)
    obtain ⟨y, hy⟩ : ∃ y, L[p + x + k]? = some y := ⟨_, List.getElem?_eq_getElem (by omega)⟩
    have hy1 : (L.drop (p + x))[k]? = some y := by rw [List.getElem?_drop, hy]
    have hy2 : (ycpy (L.drop (p + x)) L p k)[p + x + k]? = some y := by rw [ycpy_get (by omega) (by omega) (by omega), hy]
    have hyn := hk y (List.mem_of_getElem? hy)
    obtain ⟨h1, h2⟩ := hm
    obtain ⟨A, B, a1, a2, a3, a4, a5⟩ := e_made (k := y.1) (v := y.2) h2 hy2
    have hA : A.length = 700 ∧ B.length = 700 := by
      obtain ⟨A', B', b1, b2, b3, b4, _⟩ := h2
      rw [a1] at b1
      rw [a2] at b2
      have c1 := congrArg List.length (Prod.mk.inj b1).2
      have c2 := congrArg List.length (Prod.mk.inj b2).2
      rw [List.length_map, List.length_map] at c1 c2
      omega
    have w := zLst_set (i := p + k) (v := y.2) h2 (show m + 7 ≠ m + 8 by omega) (by rw [hlen]; omega) hyn A B a1 a2
    rw [ycpy_set (by omega) hy1] at w
    have hlen2 := ycpy_len (A := L.drop (p + x)) (C := L) (u := p) (n := k + 1) (by omega) (by omega)
    have hm2 : zMd (zup (zup h (m + 7) (21, (A.set (p + k) y.1).map Value.int)) (m + 8) (20, (B.set (p + k) y.2).map Value.int)) m F (ycpy (L.drop (p + x)) L p (k + 1)) := ⟨by unfold zMo at h1 ⊢; rw [zup_ne (by omega), zup_ne (by omega), h1, hlen, hlen2], w⟩
    obtain ⟨h', e, w2, f2⟩ := ih (k + 1) _ (by omega) hm2
    have f0 : zfm m h (zup (zup h (m + 7) (21, (A.set (p + k) y.1).map Value.int)) (m + 8) (20, (B.set (p + k) y.2).map Value.int)) := ⟨fun q q1 q2 q3 => by rw [zup_ne q3, zup_ne q2], rfl⟩
    refine ⟨h', ?_, w2, zfm_tr f0 f2⟩
    unfold zMo at h1
    have g1 : nI k < nI n := nI_lt (by omega) (by omega)
    have s1 : ∀ Kc : zC → zR, zaset (21, A.map Value.int) 21 (nI (p + k)) (.int y.1) Kc = Kc (21, (A.set (p + k) (ynr y.1)).map Value.int) := fun Kc => zsC (by omega) (by omega)
    have s2 : ∀ Kc : zC → zR, zaset (20, B.map Value.int) 20 (nI (p + k)) (.int y.2) Kc = Kc (20, (B.set (p + k) y.2).map Value.int) := fun Kc => zsI (by omega) (by omega)
    simp (disch := omega) only [zs_218_0, zs_218_1, zs_218_3, zs_218_5, zs_218_6, zs_218_7, zs_218_8, zs_218_11, zs_218_11n, zs_218_12, zs_218_15, zs_218_16, zs_218_18, zs_218_19, zs_218_19n, zs_218_20, zs_218_23, zs_218_24, zs_218_26, zs_218_27, zs_218_28, zs_218_29, zs_218_29n, zs_218_30, zs_218_33, zs_218_34, zs_218_36, zs_218_37, zs_218_37n, zs_218_38, zs_218_41, zs_218_42, zs_218_44, zs_218_45, zs_218_46, zs_218_47, zs_218_54, zs_218_55, zs_218_56, zs_218_57, zs_218_58, zs_218_59, zs_218_62, hsub, if_pos g1, h1, zmf_9, zmf_10, nI_add, a1, a3, s1, hyn, zup_ne, a2, a4, s2]
    rw [zs_218_50, e]
theorem e_218 {h : zH} {p x n : Nat} (hm : zMd h m F L) (hL : p + x + n ≤ L.length) (hk : ∀ q, q ∈ L → ynr q.1 = q.1) : ∃ h', zcall zP sv (d + 1) 218 [.ref m, .int (nI p), .int (nI (p + x)), .int (nI (p + x + n))] h = some (.inl none, h') ∧ zMd h' m F (L.take p ++ (L.drop (p + x)).take n) ∧ zfm m h h' := by
  have h7 : L.length ≤ 700 := by
    obtain ⟨_, A, B, _, _, _, _, _, _, a7⟩ := hm
    exact a7
  obtain ⟨h1, e1, w1, f1⟩ := e_218l (sv := sv) (d := d) (p := p) (x := x) (n := n) hL h7 hk n 0 h (Nat.zero_add _) (by rw [ycpy_0]; exact hm)
  rw [nI_0] at e1
  have hdl : (L.drop (p + x)).length = L.length - (p + x) := List.length_drop
  have w2 := zMd_pre (p := p + n) w1 (by rw [ycpy_len (by omega) (by omega)]; omega)
  have e2 : (ycpy (L.drop (p + x)) L p n).take (p + n) = L.take p ++ (L.drop (p + x)).take n := by
    unfold ycpy
    exact List.take_left' (by rw [List.length_append, List.length_take, List.length_take]; omega)
  rw [e2] at w2
  have h2 := w1.1
  unfold zMo at h2
  refine ⟨_, ?_, w2, zfm_tr f1 ⟨fun q q1 q2 q3 => zup_ne q1, rfl⟩⟩
  have hs : nI (p + (p + x + n)) - nI (p + x) = nI (p + n) := by
    rw [show p + (p + x + n) = (p + x) + (p + n) by omega, nI_sub']
  rw [zc_218, zs_218_0, zs_218_1 znw_u, e1]
  simp only [zs_218_0, zs_218_1, zs_218_3, zs_218_5, zs_218_6, zs_218_7, zs_218_8, zs_218_11, zs_218_11n, zs_218_12, zs_218_15, zs_218_16, zs_218_18, zs_218_19, zs_218_19n, zs_218_20, zs_218_23, zs_218_24, zs_218_26, zs_218_27, zs_218_28, zs_218_29, zs_218_29n, zs_218_30, zs_218_33, zs_218_34, zs_218_36, zs_218_37, zs_218_37n, zs_218_38, zs_218_41, zs_218_42, zs_218_44, zs_218_45, zs_218_46, zs_218_47, zs_218_50, zs_218_53, zs_218_53n, zs_218_54, zs_218_55, zs_218_56, zs_218_57, zs_218_58, zs_218_59, zs_218_62, h2, nI_add, hs, zmp_11, yup_yup]
theorem e_219 {h : zH} {p : Nat} {v : Int32} (hm : zMd h m F L) (hp : p ≤ L.length) (hp7 : p < 700) : ∃ h', zcall zP sv (d + 2) 219 [.ref m, .int (nI p), .int v] h = some (.inl none, h') ∧ zMd h' m F (L.take p ++ [(nI 99, v)]) ∧ zfm m h h' := by
  have h1 := hm.1
  unfold zMo at h1
  have w1 := zMd_pre hm hp
  have hlen : (L.take p).length = p := by rw [List.length_take]; omega
  obtain ⟨h', e, w, f⟩ := e_216 (sv := sv) (d := d) (k := nI 99) (v := v) w1 (by omega) ynr_99
  refine ⟨h', ?_, w, zfm_tr ⟨fun q q1 q2 q3 => zup_ne q1, rfl⟩ f⟩
  have hrc : ∀ X : zR, zrc (13, zMF m (yup F 11 (nI p))) 13 X = X := fun X => zrc_k
  simp only [zc_219, zs_219_0, zs_219_0n, zs_219_1, zs_219_2, zs_219_5, zs_219_5n, zs_219_6, zs_219_8, zs_219_9, zs_219_12, h1, zmp_11, yup_yup, zup_at, hrc, e, zbk_v, zts_n]
theorem e_220 {h : zH} {i : Nat} {k v c : Int32} (hm : zMd h m F L) (hi : L[i]? = some (k, v)) : zcall zP sv (d + 1) 220 [.ref m, .int (nI i), .int c] h = some (.inl (some (.int (yb (decide (k = nI 99) && decide (v = c))))), h) := by
  obtain ⟨A, B, a1, a2, a3, a4, a5⟩ := e_made hm.2 hi
  have h1 := hm.1
  unfold zMo at h1
  by_cases g1 : k = nI 99
  · by_cases g2 : v = c
    · simp only [zc_220, zs_220_0, zs_220_0n, zs_220_1, zs_220_4, zs_220_5, zs_220_6, zs_220_8, zs_220_11, zs_220_11n, zs_220_12, zs_220_15, zs_220_16, zs_220_17, zs_220_18, zs_220_21, zs_220_22, zs_220_25, zs_220_26, h1, zmf_9, zmf_10, a1, a2, a3, a4, if_pos g1, if_pos g2, zty_51, zgd_t, decide_eq_true g1, decide_eq_true g2, Bool.and_self, yb_t]
    · simp only [zc_220, zs_220_0, zs_220_0n, zs_220_1, zs_220_4, zs_220_5, zs_220_6, zs_220_8, zs_220_11, zs_220_11n, zs_220_12, zs_220_15, zs_220_16, zs_220_17, zs_220_18, zs_220_21, zs_220_22, zs_220_25, zs_220_26, h1, zmf_9, zmf_10, a1, a2, a3, a4, if_pos g1, if_neg g2, zty_50, zgd_t, decide_eq_true g1, decide_eq_false g2, Bool.and_false, yb_f]
  · simp only [zc_220, zs_220_0, zs_220_0n, zs_220_1, zs_220_4, zs_220_5, zs_220_6, zs_220_8, zs_220_11, zs_220_11n, zs_220_12, zs_220_15, zs_220_16, zs_220_17, zs_220_18, zs_220_21, zs_220_22, zs_220_25, zs_220_26, h1, zmf_9, zmf_10, a1, a2, a3, a4, if_neg g1, zty_50, zgd_t, decide_eq_false g1, Bool.false_and, yb_f]
end ZFE
