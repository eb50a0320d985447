theorem ygv_er {as : List Nat} {i j : Nat} (hi : i < as.length) : ygv (as.eraseIdx i) j = if j < i then ygv as j else ygv as (j + 1) := by
  unfold ygv
  rw [List.getElem?_eraseIdx]
  by_cases h : j < i
  · rw [if_pos h, if_pos h]
  · rw [if_neg h, if_neg h]
theorem ygv_mem {as : List Nat} {j : Nat} : ygv as j = .null ∨ ∃ a, a ∈ as ∧ ygv as j = .ref a := by
  unfold ygv
  cases h : as[j]? with
  | none => exact Or.inl rfl
  | some a => exact Or.inr ⟨a, List.mem_of_getElem? h, rfl⟩
section ZDK
variable {sv : Nat → Value} {d : Nat}
/-- replace by what formula answers -/
theorem d_175v {h : zH} {r i : Nat} {v : Value} {F : List Value} {w1 w2 w3 w4 : Value} (h1 : h.1 r = (3, [.ref (r + 1), w1, w2, w3, w4])) (h2 : h.1 (r + 1) = (25, F)) (h3 : F.length = 6) (hi : i < 6) (hb : v = .null ∨ ∃ b vs, v = .ref b ∧ h.1 b = (6, vs)) : zcall zP sv (d + 1) 175 [.ref r, .int (nI i), v] h = some (.inl none, zup h (r + 1) (25, F.set i v)) := by
  rcases hb with rfl | ⟨b, vs, rfl, hb⟩
  · have e0 : zcall zP sv (d + 1) 175 [.ref r, .int (nI i), .null] h = zrun zP sv (zcall zP sv d) 175 0 [.val (.ref r), .val (.int (nI i)), .val .null] [] h := zcall_s (n := 3) rfl rfl (Nat.le_of_ble_eq_true rfl)
    rw [e0, zs_175_0, zs_175_1, if_neg (nI_pos (by omega)), zs_175_4, zs_175_5, zs_175_6, h1, zf_3_0, zs_175_9, h2, zaln_k (by decide), zs_175_10, h3, if_pos (nI_lt hi (by omega)), zs_175_13, zs_175_14, h1, zf_3_0, zs_175_17, zs_175_18n, zs_175_19n, h2, zasn_k (by omega) (by omega), zs_175_20]
  · exact d_175 h1 h2 h3 hi ⟨vs, hb⟩
theorem d_173v {h : zH} {s i : Nat} {S : yS} (hs : zSta h s S) (hi : i < 2 ^ 31) : zcall zP sv (d + 1) 173 [.ref s, .int (nI i)] h = some (.inl (some (ygv S.1 i)), h) := by
  have hl := hs.2.2.2.2
  cases hc : S.1[i]? with
  | some a => rw [ygv_k hc]; exact d_173k hs hc
  | none =>
    rw [ygv_n hc]
    have := List.getElem?_eq_none_iff.mp hc
    exact d_173n hs (Or.inr (nI_nlt this hi))
theorem d_176l {s i : Nat} {S : yS} (hi : i < S.1.length) (hl : S.1.length ≤ 6) : ∀ n k (h : zH) (F : List Value), k + n = S.1.length → i ≤ k → h.1 s = (3, [.ref (s + 1), .int (nI S.1.length), .ref (s + 2), .int S.2.2.1, .int S.2.2.2]) → h.1 (s + 1) = (25, F) → F.length = 6 → (∀ j, j < 6 → F[j]? = some (if i ≤ j ∧ j < k then ygv S.1 (j + 1) else ygv S.1 j)) → zK6 h S.1 → (∀ a, a ∈ S.1 → a ≠ s + 1) → ∃ F', zrun zP sv (zcall zP sv (d + 1)) 176 2 [.val (.ref s), .val (.int (nI i)), .val (.int (nI k))] [] h = zrun zP sv (zcall zP sv (d + 1)) 176 28 [.val (.ref s), .val (.int (nI i)), .val (.int (nI S.1.length))] [] (zup h (s + 1) (25, F')) ∧ F'.length = 6 ∧ ∀ j, j < 6 → F'[j]? = some (if i ≤ j ∧ j < S.1.length then ygv S.1 (j + 1) else ygv S.1 j) := by
  intro n
  induction n with
  | zero =>
    intro k h F hk hik h1 h2 h3 h4 h5 h6
    obtain rfl : k = S.1.length := by omega
    refine ⟨F, ?_, h3, h4⟩
    rw [zs_176_2, zs_176_3, zs_176_4, h1, zf_3_1, zs_176_7, if_neg (nI_nlt (Nat.le_refl _) (by omega)), zup_self h2]
  | succ n ih =>
    intro k h F hk hik h1 h2 h3 h4 h5 h6
    have hg : zcall zP sv (d + 1) 173 [.ref s, .int (nI (k + 1))] h = some (.inl (some (ygv S.1 (k + 1))), h) := by
      cases hc : S.1[k + 1]? with
      | some a =>
        have hka := (List.getElem?_eq_some_iff.mp hc).1
        rw [ygv_k hc]
        have e4 := h4 (k + 1) (by omega)
        rw [if_neg (by omega), ygv_k hc] at e4
        rw [zc_173, zs_173_0, zs_173_1, if_neg (nI_pos (by omega)), zs_173_4, zs_173_5, zs_173_6, h1, zf_3_1, zs_173_9, if_pos (nI_lt hka (by omega)), zs_173_12, zs_173_13, zs_173_14, h1, zf_3_0, zs_173_17, h2, zaln_k (by decide), zs_173_18, h3, if_pos (nI_lt (by omega) (by omega)), zs_173_21, zs_173_22, h1, zf_3_0, zs_173_25, zs_173_26, h2, zaelv e4 (by omega), zs_173_27, zs_173_31]
      | none =>
        have hka := List.getElem?_eq_none_iff.mp hc
        rw [ygv_n hc]
        rw [zc_173, zs_173_0, zs_173_1, if_neg (nI_pos (by omega)), zs_173_4, zs_173_5, zs_173_6, h1, zf_3_1, zs_173_9, if_neg (nI_nlt (by omega) (by omega)), zs_173_30, zs_173_31n]
    have hb : ygv S.1 (k + 1) = .null ∨ ∃ b vs, ygv S.1 (k + 1) = .ref b ∧ h.1 b = (6, vs) := by
      rcases ygv_mem (as := S.1) (j := k + 1) with e | ⟨a, ha, e⟩
      · exact Or.inl e
      · obtain ⟨vs, hv⟩ := h5 a ha
        exact Or.inr ⟨a, vs, e, hv⟩
    have e1 := d_175v (sv := sv) (d := d) (i := k) h1 h2 h3 (by omega) hb
    obtain ⟨F', e2, w1, w2⟩ := ih (k + 1) (zup h (s + 1) (25, F.set k (ygv S.1 (k + 1)))) (F.set k (ygv S.1 (k + 1))) (by omega) (by omega) (by rw [zup_ne (by omega), h1]) zup_at (by rw [List.length_set, h3]) (fun j hj => by
      by_cases hjk : j = k
      · subst hjk
        rw [List.getElem?_set_self (by omega), if_pos (by omega)]
      · rw [List.getElem?_set_ne (Ne.symm hjk), h4 j hj]
        by_cases hc : i ≤ j ∧ j < k
        · rw [if_pos hc, if_pos (by omega)]
        · rw [if_neg hc, if_neg (by omega)]) (fun a ha => by
      obtain ⟨vs, hv⟩ := h5 a ha
      exact ⟨vs, by rw [zup_ne (h6 a ha), hv]⟩) h6
    rw [zup_up] at e2
    refine ⟨F', ?_, w1, w2⟩
    have hrc : zrc (h.1 s) 3 = fun X => X := by
      funext X
      rw [h1]
      exact zrc_k
    rcases hb with e | ⟨b, vs, e, hv⟩
    · rw [e] at hg e1 e2
      rw [zs_176_2, zs_176_3, zs_176_4, h1, zf_3_1, zs_176_7, if_pos (nI_lt (by omega) (by omega)), zs_176_10, zs_176_11, zs_176_12, zs_176_13, zs_176_14, zs_176_15, zs_176_16, hrc, nI_1', hg, zbk_v, zts_s, zs_176_19, hrc, e1, zbk_v, zts_n, zs_176_22, zs_176_25, nI_1', e2]
    · rw [e] at hg e1 e2
      rw [zs_176_2, zs_176_3, zs_176_4, h1, zf_3_1, zs_176_7, if_pos (nI_lt (by omega) (by omega)), zs_176_10, zs_176_11, zs_176_12, zs_176_13, zs_176_14, zs_176_15, zs_176_16, hrc, nI_1', hg, zbk_v, zts_s, zs_176_19, hrc, e1, zbk_v, zts_n, zs_176_22, zs_176_25, nI_1', e2]
theorem d_176 {h : zH} {s i : Nat} {S : yS} (hs : zSta h s S) (hi : i < S.1.length) (h5 : zK6 h S.1) (h6 : ∀ a, a ∈ S.1 → a ≠ s + 1) : ∃ h', zcall zP sv (d + 2) 176 [.ref s, .int (nI i)] h = some (.inl none, h') ∧ zSta h' s (S.1.eraseIdx i, S.2) ∧ zfr s (s + 4) h h' := by
  obtain ⟨h1, ⟨F, h2, h3, h4⟩, h7, h8, h9⟩ := hs
  obtain ⟨F', e1, w1, w2⟩ := d_176l (sv := sv) (d := d) hi h9 (S.1.length - i) i h F (by omega) (Nat.le_refl _) h1 h2 h3 (fun j hj => by rw [if_neg (by omega), h4 j hj]) h5 h6
  have hle : (S.1.eraseIdx i).length = S.1.length - 1 := by rw [List.length_eraseIdx, if_pos hi]
  have hsb : nI S.1.length - nI 1 = nI (S.1.length - 1) := by
    conv => lhs; rw [show S.1.length = S.1.length - 1 + 1 by omega, ← nI_add, Int32.add_sub_cancel]
  refine ⟨zup (zup h (s + 1) (25, F')) s (3, [.ref (s + 1), .int (nI (S.1.length - 1)), .ref (s + 2), .int S.2.2.1, .int S.2.2.2]), ?_, ⟨by rw [zup_at, hle], ⟨F', by rw [zup_ne (by omega), zup_at], w1, fun j hj => ?_⟩, zRow_up (zRow_up h7 (by omega) (by omega)) (by omega) (by omega), h8, by rw [hle]; omega⟩, zfr_tr (zfr_up (c := (25, F')) (by omega) (by omega)) (zfr_up (by omega) (by omega))⟩
  · have g1 : (zup h (s + 1) (25, F')).1 s = (3, [.ref (s + 1), .int (nI S.1.length), .ref (s + 2), .int S.2.2.1, .int S.2.2.2]) := by rw [zup_ne (by omega), h1]
    rw [zc_176, zs_176_0, zs_176_1 znw_u, e1, zs_176_28, zs_176_29, zs_176_30, g1, zf_3_1, zs_176_33, zs_176_34, hsb, zs_176_35, g1, zp_3_1, zs_176_38]
  · rw [w2 j hj, ygv_er hi]
    by_cases hc : j < i
    · rw [if_pos hc, if_neg (by omega)]
    · rw [if_neg hc]
      by_cases hc2 : j < S.1.length
      · rw [if_pos ⟨by omega, hc2⟩]
      · rw [if_neg (by omega), ygv_n (List.getElem?_eq_none_iff.mpr (by omega)), ygv_n (List.getElem?_eq_none_iff.mpr (by omega))]
theorem d_180l {r s : Nat} {S : yS} {w1 w2 w3 w4 : Value} (hd : r + 4 ≤ s ∨ s + 4 ≤ r) : ∀ n i (h : zH) (F : List Value), i + n = 6 → h.1 r = (3, [.ref (r + 1), w1, w2, w3, w4]) → h.1 (r + 1) = (25, F) → F.length = 6 → (∀ j, j < i → F[j]? = some (ygv S.1 j)) → zSta h s S → zK6 h S.1 → (∀ a, a ∈ S.1 → a ≠ r + 1) → ∃ F', zrun zP sv (zcall zP sv (d + 1)) 180 10 [.val (.ref r), .val (.ref s), .val (.int (nI i))] [] h = zrun zP sv (zcall zP sv (d + 1)) 180 36 [.val (.ref r), .val (.ref s), .val (.int (nI 6))] [] (zup h (r + 1) (25, F')) ∧ F'.length = 6 ∧ ∀ j, j < 6 → F'[j]? = some (ygv S.1 j) := by
  intro n
  induction n with
  | zero =>
    intro i h F hin hr hf hF he hs h5 h6
    obtain rfl : i = 6 := by omega
    refine ⟨F, ?_, hF, he⟩
    rw [zs_180_10, zs_180_11, zs_180_12, hr, zf_3_0, zs_180_15, hf, zaln_k (by decide), zs_180_16, hF, if_neg (nI_nlt (by omega) (by omega)), zup_self hf]
  | succ n ih =>
    intro i h F hin hr hf hF he hs h5 h6
    have e1 := d_173v (sv := sv) (d := d) (i := i) hs (by omega)
    obtain ⟨F', e2, w1, w2⟩ := ih (i + 1) (zup h (r + 1) (25, F.set i (ygv S.1 i))) (F.set i (ygv S.1 i)) (by omega) (by rw [zup_ne (by omega), hr]) zup_at (by rw [List.length_set, hF]) (fun j hj => by
      by_cases hjk : j = i
      · subst hjk
        rw [List.getElem?_set_self (by omega)]
      · rw [List.getElem?_set_ne (Ne.symm hjk), he j (by omega)]) (zSta_fr hs (zfr_up (lo := r) (hi := r + 4) (by omega) (by omega)) (by omega)) (fun a ha => by
      obtain ⟨vs, hv⟩ := h5 a ha
      exact ⟨vs, by rw [zup_ne (h6 a ha), hv]⟩) h6
    rw [zup_up] at e2
    refine ⟨F', ?_, w1, w2⟩
    rcases ygv_mem (as := S.1) (j := i) with e | ⟨a, ha, e⟩
    · rw [e] at e1 e2
      rw [zs_180_10, zs_180_11, zs_180_12, hr, zf_3_0, zs_180_15, hf, zaln_k (by decide), zs_180_16, hF, if_pos (nI_lt (by omega) (by omega)), zs_180_19, zs_180_20, hr, zf_3_0, zs_180_23, zs_180_24, zs_180_25, zs_180_26, zSta_rc hs, e1, zbk_v, zts_s, zs_180_29n, hf, zasn_k (by omega) (by omega), zs_180_30, zs_180_33, nI_1', e2]
    · obtain ⟨vs, hv⟩ := h5 a ha
      rw [e] at e1 e2
      rw [zs_180_10, zs_180_11, zs_180_12, hr, zf_3_0, zs_180_15, hf, zaln_k (by decide), zs_180_16, hF, if_pos (nI_lt (by omega) (by omega)), zs_180_19, zs_180_20, hr, zf_3_0, zs_180_23, zs_180_24, zs_180_25, zs_180_26, zSta_rc hs, e1, zbk_v, zts_s, zs_180_29, hf, hv, zasr_6 (by omega) (by omega), zs_180_30, zs_180_33, nI_1', e2]
theorem d_167l {r t : Nat} {A : List Int32} (hd : r + 2 ≤ t ∨ t + 2 ≤ r) : ∀ n i (h : zH) (B : List Int32), i + n = A.length → zRow h r B → zRow h t A → B.length = A.length → (∀ j, j < i → B[j]? = A[j]?) → zrun zP sv (zcall zP sv (d + 1)) 167 2 [.val (.ref r), .val (.ref t), .val (.int (nI i))] [] h = some (.inl none, zup h (r + 1) (20, A.map Value.int)) := by
  intro n
  induction n with
  | zero =>
    intro i h B hin hr ht hB he
    obtain rfl : i = A.length := by omega
    have hl := ht.2.2
    have e0 : B = A := List.ext_getElem? fun j => by
      by_cases hj : j < A.length
      · exact he j hj
      · rw [List.getElem?_eq_none (by omega), List.getElem?_eq_none (by omega)]
    subst e0
    rw [zs_167_2, zs_167_3, zs_167_4, hr.1, zf_4_0, zs_167_7, hr.2.1, zaln_k (by decide), List.length_map, zs_167_8, if_neg (nI_nlt (Nat.le_refl _) hl), zs_167_28, zup_self hr.2.1]
  | succ n ih =>
    intro i h B hin hr ht hB he
    have hl := ht.2.2
    have hA : A[i]? = some (A.getD i 0) := by rw [List.getD_eq_getElem?_getD, List.getElem?_eq_getElem (by omega)]; rfl
    have e1 : zrun zP sv (zcall zP sv (d + 1)) 167 2 [.val (.ref r), .val (.ref t), .val (.int (nI i))] [] h = zrun zP sv (zcall zP sv (d + 1)) 167 2 [.val (.ref r), .val (.ref t), .val (.int (nI (i + 1)))] [] (zup h (r + 1) (20, (B.set i (A.getD i 0)).map Value.int)) := by
      rw [zs_167_2, zs_167_3, zs_167_4, hr.1, zf_4_0, zs_167_7, hr.2.1, zaln_k (by decide), List.length_map, hB, zs_167_8, if_pos (nI_lt (by omega) hl), zs_167_11, zs_167_12, hr.1, zf_4_0, zs_167_15, zs_167_16, zs_167_17, zs_167_18, zRow_rc ht, d_165 ht, yg_k (by omega), zbk_v, zts_s, zs_167_21, hr.2.1, zaset_k (by rw [List.length_map]; omega) (by omega), ← List.map_set, zs_167_22, zs_167_25, nI_1']
    rw [e1, ih (i + 1) _ (B.set i (A.getD i 0)) (by omega) (zRow_new hr (by rw [List.length_set])) (zRow_up ht (by omega) (by omega)) (by rw [List.length_set, hB]) (fun j hj => ?_), zup_up]
    by_cases hj2 : j = i
    · subst hj2
      rw [List.getElem?_set_self (by omega), hA]
    · rw [List.getElem?_set_ne (by omega), he j (by omega)]
theorem d_167 {h : zH} {r t : Nat} {A B : List Int32} (hr : zRow h r B) (ht : zRow h t A) (hd : r + 2 ≤ t ∨ t + 2 ≤ r) (hB : B.length = A.length) : zcall zP sv (d + 2) 167 [.ref r, .ref t] h = some (.inl none, zup h (r + 1) (20, A.map Value.int)) := by
  have e1 := d_167l (sv := sv) (d := d) hd A.length 0 h B (Nat.zero_add _) hr ht hB (fun j hj => absurd hj (Nat.not_lt_zero j))
  rw [nI_0] at e1
  rw [zc_167, zs_167_0, zs_167_1 znw_u, e1]
theorem d_180 {h : zH} {r s : Nat} {R S : yS} (hr : zSta h r R) (hs : zSta h s S) (hd : r + 4 ≤ s ∨ s + 4 ≤ r) (h5 : zK6 h S.1) (h6 : ∀ a, a ∈ S.1 → a < r ∨ r + 4 ≤ a) : ∃ h', zcall zP sv (d + 3) 180 [.ref r, .ref s] h = some (.inl none, h') ∧ zSta h' r S ∧ zfr r (r + 4) h h' := by
  obtain ⟨r1, ⟨F, r2, r3, r4⟩, r5, r6, r7⟩ := hr
  have f1 : zfr r (r + 4) h (zup h r (3, [.ref (r + 1), .int (nI S.1.length), .ref (r + 2), .int R.2.2.1, .int R.2.2.2])) := zfr_up (by omega) (by omega)
  have a0 : (zup h r (3, [.ref (r + 1), .int (nI S.1.length), .ref (r + 2), .int R.2.2.1, .int R.2.2.2])).1 r = (3, [.ref (r + 1), .int (nI S.1.length), .ref (r + 2), .int R.2.2.1, .int R.2.2.2]) := zup_at
  have a1 := zSta_fr hs f1 (by omega)
  have b5 := zRow_up (a := r) (c := (3, [.ref (r + 1), .int (nI S.1.length), .ref (r + 2), .int R.2.2.1, .int R.2.2.2])) r5 (by omega) (by omega)
  have a5 : zK6 (zup h r (3, [.ref (r + 1), .int (nI S.1.length), .ref (r + 2), .int R.2.2.1, .int R.2.2.2])) S.1 := zK6_fr h5 f1 h6
  obtain ⟨F', e1, w1, w2⟩ := d_180l (sv := sv) (d := d + 1) hd 6 0 _ F rfl a0 (by rw [zup_ne (by omega), r2]) r3 (fun j hj => absurd hj (Nat.not_lt_zero j)) a1 a5 (fun a ha => by have := h6 a ha; omega)
  rw [nI_0] at e1
  have f2 := zfr_tr f1 (zfr_up (c := (25, F')) (show r ≤ r + 1 by omega) (by omega))
  have c0 : (zup (zup h r (3, [.ref (r + 1), .int (nI S.1.length), .ref (r + 2), .int R.2.2.1, .int R.2.2.2])) (r + 1) (25, F')).1 r = (3, [.ref (r + 1), .int (nI S.1.length), .ref (r + 2), .int R.2.2.1, .int R.2.2.2]) := by rw [zup_ne (by omega), zup_at]
  have c1 := zSta_fr hs f2 (by omega)
  have c5 := zRow_up (a := r + 1) (c := (25, F')) b5 (by omega) (by omega)
  have c6 : (zup (zup h r (3, [.ref (r + 1), .int (nI S.1.length), .ref (r + 2), .int R.2.2.1, .int R.2.2.2])) (r + 1) (25, F')).1 (r + 1) = (25, F') := zup_at
  have q1 := hs.1
  have e0 : zcall zP sv (d + 3) 180 [.ref r, .ref s] h = zrun zP sv (zcall zP sv (d + 2)) 180 36 [.val (.ref r), .val (.ref s), .val (.int (nI 6))] [] (zup (zup h r (3, [.ref (r + 1), .int (nI S.1.length), .ref (r + 2), .int R.2.2.1, .int R.2.2.2])) (r + 1) (25, F')) := by
    rw [zc_180, zs_180_0, zs_180_1, zs_180_2, q1, zf_3_1, zs_180_5, r1, zp_3_1, zs_180_8, zs_180_9 znw_u, e1]
  generalize zup (zup h r (3, [.ref (r + 1), .int (nI S.1.length), .ref (r + 2), .int R.2.2.1, .int R.2.2.2])) (r + 1) (25, F') = h2 at *
  have e2 := d_167 (sv := sv) (d := d) c5 c1.2.2.1 (by omega) (by rw [r6, c1.2.2.2.1])
  have f3 := zfr_tr f2 (zfr_up (c := (20, S.2.1.map Value.int)) (show r ≤ r + 2 + 1 by omega) (by omega))
  have g0 : (zup h2 (r + 2 + 1) (20, S.2.1.map Value.int)).1 r = (3, [.ref (r + 1), .int (nI S.1.length), .ref (r + 2), .int R.2.2.1, .int R.2.2.2]) := by rw [zup_ne (by omega), c0]
  have g1 := zSta_fr hs f3 (by omega)
  have g5 : zRow (zup h2 (r + 2 + 1) (20, S.2.1.map Value.int)) (r + 2) S.2.1 := zRow_new c5 (by rw [r6, c1.2.2.2.1])
  have g6 : (zup h2 (r + 2 + 1) (20, S.2.1.map Value.int)).1 (r + 1) = (25, F') := by rw [zup_ne (by omega), c6]
  rw [zs_180_36, zs_180_37, c0, zf_3_2, zs_180_40, zs_180_41, c1.1, zf_3_2, zs_180_44, zRow_rc c5, e2, zbk_v, zts_n] at e0
  generalize zup h2 (r + 2 + 1) (20, S.2.1.map Value.int) = h3 at *
  have k1 : (zup h3 r (3, [.ref (r + 1), .int (nI S.1.length), .ref (r + 2), .int S.2.2.1, .int R.2.2.2])).1 s = h3.1 s := zup_ne (by omega)
  refine ⟨zup h3 r (3, [.ref (r + 1), .int (nI S.1.length), .ref (r + 2), .int S.2.2.1, .int S.2.2.2]), ?_, ⟨zup_at, ⟨F', by rw [zup_ne (by omega), g6], w1, w2⟩, zRow_up g5 (by omega) (by omega), c1.2.2.2.1, c1.2.2.2.2⟩, zfr_tr f3 (zfr_up (by omega) (by omega))⟩
  rw [e0, zs_180_47, zs_180_48, zs_180_49, g1.1, zf_3_3, zs_180_52, g0, zp_3_3, zs_180_55, zs_180_56, zs_180_57, k1, g1.1, zf_3_4, zs_180_60, zup_at, zp_3_4, zs_180_63, zup_up]
end ZDK
