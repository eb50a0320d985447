theorem ybk_sh {N N' : List Int32} {b c : Nat} {p : yP} (hb : ybk N b p) (hc : c + 63 ≤ 387) (hw : ∀ j, j < 63 → N'[c + j]? = N[b + j]?) : ybk N' c p := by
  obtain ⟨c1, c2, c3, c4, c5⟩ := hb
  refine ⟨by rw [← c1]; exact hw 0 (by omega), fun k x hx => ?_, c3, hc, c5⟩
  have hk := (List.getElem?_eq_some_iff.mp hx).1
  obtain ⟨z1, z2⟩ := c2 k x hx
  constructor
  · have e1 := hw (1 + 2 * k) (by omega)
    rw [show c + (1 + 2 * k) = c + 1 + 2 * k by omega, show b + (1 + 2 * k) = b + 1 + 2 * k by omega, z1] at e1
    exact e1
  · have e1 := hw (2 + 2 * k) (by omega)
    rw [show c + (2 + 2 * k) = c + 2 + 2 * k by omega, show b + (2 + 2 * k) = b + 2 + 2 * k by omega, z2] at e1
    exact e1
theorem yNow_era {N N' : List Int32} {A : yA} {f n : Nat} (hn : yNow N A) (hf : f < A.1.length) (h6 : A.1.length ≤ 6) (hA : A.2.1.length = 6) (hln : A.1.length = n + 1) (hl : N'.length = 387) (h0 : N'[0]? = some (nI n)) (hlo : ∀ i, 0 < i → i < 9 + 63 * f → N'[i]? = N[i]?) (hhi : ∀ i, 9 + 63 * f ≤ i → i < 9 + 63 * n → N'[i]? = N[i + 63]?) : yNow N' (A.1.eraseIdx f, A.2) := by
  obtain ⟨c1, c2, c3, c4, c5, c6⟩ := hn
  refine ⟨hl, by rw [h0]; show _ = some (nI (A.1.eraseIdx f).length); rw [List.length_eraseIdx_of_lt hf, hln, Nat.add_sub_cancel], by rw [hlo 1 (by omega) (by omega), c3], by rw [hlo 2 (by omega) (by omega), c4], fun v x hx => ?_, fun k u hu => ?_⟩
  · have hv := (List.getElem?_eq_some_iff.mp hx).1
    have hv2 : v < 6 := by rw [← hA]; exact hv
    rw [hlo _ (by omega) (by omega)]
    exact c5 v x hx
  · have hk : k < (A.1.eraseIdx f).length := (List.getElem?_eq_some_iff.mp hu).1
    rw [List.length_eraseIdx_of_lt hf, hln, Nat.add_sub_cancel] at hk
    have hu2 : (A.1.eraseIdx f)[k]? = some u := hu
    rw [List.getElem?_eraseIdx] at hu2
    by_cases hkf : k < f
    · rw [if_pos hkf] at hu2
      exact ybk_of (c6 k u hu2) (fun j j1 j2 => hlo j (by omega) (by omega))
    · rw [if_neg hkf] at hu2
      exact ybk_sh (c6 (k + 1) u hu2) (by omega) (fun j hj => by rw [hhi _ (by omega) (by omega), show 9 + 63 * k + j + 63 = 9 + 63 * (k + 1) + j by omega])
section ZMD
variable {sv : Nat → Value} {d : Nat} {h : zH} {m : Nat} {F : Nat → Int32} {A : yA} {N : List Int32}
theorem e_236l {f c n : Nat} {l1 : Slot} {N0 : List Int32} (hn : n < 6) : ∀ r k (h : zH) (N : List Int32), k + r = 9 + 63 * n → h.1 m = (13, zMF m F) → zTab h (m + 1) N → N0.length = 387 → N0[0]? = some (nI n) → 9 + 63 * f ≤ k → (∀ i, i < 9 + 63 * f → N[i]? = N0[i]?) → (∀ i, 9 + 63 * f ≤ i → i < k → N[i]? = N0[i + 63]?) → (∀ i, k ≤ i → N[i]? = N0[i]?) → ∃ (h' : zH) (N' : List Int32), zrun zP sv (zcall zP sv d) 236 28 [.val (.ref m), l1, .val (.int (nI k))] [] h = zrun zP sv (zcall zP sv d) 236 65 [.val (.ref m), l1, .val (.int (nI (9 + 63 * n)))] [] h' ∧ zTab h' (m + 1) N' ∧ (∀ i, i < 9 + 63 * f → N'[i]? = N0[i]?) ∧ (∀ i, 9 + 63 * f ≤ i → i < 9 + 63 * n → N'[i]? = N0[i + 63]?) ∧ (∀ q, q ≠ m + 1 → h'.1 q = h.1 q) ∧ h'.2 = h.2 := by
  intro r
  induction r with
  | zero =>
    intro k h N hk hm hN hl0 h00 hf g1 g2 g3
    obtain rfl : k = 9 + 63 * n := by omega
    refine ⟨h, N, ?_, hN, g1, g2, fun _ _ => rfl, rfl⟩
    have hN1 := hN.1
    have n0 : N[0]? = some (nI n) := by rw [g1 0 (by omega), h00]
    have e0 : ∀ Kv, zael (20, N.map Value.int) 20 0 Kv = Kv (.int (nI n)) := fun Kv => by
      rw [← nI_0]
      exact zaelv (by rw [List.getElem?_map, n0]; rfl) (by decide)
    simp only [zs_236_0, zs_236_0n, zs_236_1, zs_236_2, zs_236_5, zs_236_8, zs_236_9, zs_236_10, zs_236_10n, zs_236_11, zs_236_14, zs_236_15, zs_236_16, zs_236_17, zs_236_18, zs_236_19, zs_236_20, zs_236_22, zs_236_24, zs_236_25, zs_236_26, zs_236_27, zs_236_28, zs_236_29, zs_236_31, zs_236_33, zs_236_33n, zs_236_34, zs_236_37, zs_236_38, zs_236_39, zs_236_40, zs_236_41, zs_236_44, zs_236_44n, zs_236_45, zs_236_48, zs_236_49, zs_236_49n, zs_236_50, zs_236_53, zs_236_54, zs_236_56, zs_236_57, zs_236_58, zs_236_59, zs_236_62, zs_236_66, zs_236_66n, zs_236_67, zs_236_70, zs_236_71, zs_236_72, zs_236_75, hm, zmf_0, hN1, e0, nI_mulx, nI_add, Int32.lt_irrefl, ↓reduceIte]
  | succ r ih =>
    intro k h N hk hm hN hl0 h00 hf g1 g2 g3
    have hN1 := hN.1
    have hN2 := hN.2
    have n0 : N[0]? = some (nI n) := by rw [g1 0 (by omega), h00]
    have e0 : ∀ Kv, zael (20, N.map Value.int) 20 0 Kv = Kv (.int (nI n)) := fun Kv => by
      rw [← nI_0]
      exact zaelv (by rw [List.getElem?_map, n0]; rfl) (by decide)
    obtain ⟨y, hy⟩ : ∃ y, N0[k + 63]? = some y := ⟨_, List.getElem?_eq_getElem (by omega)⟩
    have ey : ∀ Kv, zael (20, N.map Value.int) 20 (nI (k + 63)) Kv = Kv (.int y) := fun Kv => zaelv (by rw [List.getElem?_map, g3 _ (by omega), hy]; rfl) (by omega)
    have s1 : ∀ Kc : zC → zR, zaset (20, N.map Value.int) 20 (nI k) (.int y) Kc = Kc (20, (N.set k y).map Value.int) := fun Kc => zsI (by omega) (by omega)
    have c1 : nI k < nI (9 + 63 * n) := nI_lt (by omega) (by omega)
    obtain ⟨h', N', e, q1, q2, q3, q4, q5⟩ := ih (k + 1) (zup h (m + 1) (20, (N.set k y).map Value.int)) (N.set k y) (by omega) (by rw [zup_ne (by omega), hm]) ⟨zup_at, by rw [List.length_set, hN2]⟩ hl0 h00 (by omega) (fun i hi => by rw [List.getElem?_set_ne (by omega), g1 i hi]) (fun i i1 i2 => by
      by_cases hik : i = k
      · subst hik
        rw [List.getElem?_set_self (by omega), hy]
      · rw [List.getElem?_set_ne (by omega), g2 i i1 (by omega)]) (fun i hi => by rw [List.getElem?_set_ne (by omega), g3 i (by omega)])
    refine ⟨h', N', ?_, q1, q2, q3, fun q hq => by rw [q4 q hq, zup_ne hq], q5⟩
    rw [← e]
    have e2 : zrun zP sv (zcall zP sv d) 236 59 [.val (.ref m), l1, .val (.int (nI k))] [] (zup h (m + 1) (20, (N.set k y).map Value.int)) = zrun zP sv (zcall zP sv d) 236 28 [.val (.ref m), l1, .val (.int (nI (k + 1)))] [] (zup h (m + 1) (20, (N.set k y).map Value.int)) := by rw [zs_236_59, zs_236_62, nI_1']
    rw [← e2]
    simp only [zs_236_0, zs_236_0n, zs_236_1, zs_236_2, zs_236_5, zs_236_8, zs_236_9, zs_236_10, zs_236_10n, zs_236_11, zs_236_14, zs_236_15, zs_236_16, zs_236_17, zs_236_18, zs_236_19, zs_236_20, zs_236_22, zs_236_24, zs_236_25, zs_236_26, zs_236_27, zs_236_28, zs_236_29, zs_236_31, zs_236_33, zs_236_33n, zs_236_34, zs_236_37, zs_236_38, zs_236_39, zs_236_40, zs_236_41, zs_236_44, zs_236_44n, zs_236_45, zs_236_48, zs_236_49, zs_236_49n, zs_236_50, zs_236_53, zs_236_54, zs_236_56, zs_236_57, zs_236_58, zs_236_65, zs_236_65n, zs_236_66, zs_236_66n, zs_236_67, zs_236_70, zs_236_71, zs_236_72, zs_236_75, hm, zmf_0, hN1, e0, nI_mulx, nI_add, if_pos c1, ey, s1]
theorem e_236 {f : Nat} (hw : zWk h m F A) (hA : yAok A) (hf : f < A.1.length) : ∃ (h' : zH) (F' : Nat → Int32), zcall zP sv (d + 20) 236 [.ref m, .int (nI f)] h = some (.inl (some (.int 0)), h') ∧ zWk h' m F' (A.1.eraseIdx f, A.2) ∧ F' 30 = nI (A.1.length - 1) ∧ yff F F' ∧ zwf m h h' := by
  obtain ⟨hm, ⟨N, hN, hn⟩, hs⟩ := hw
  have hA1 := hA.1
  obtain ⟨n, hln⟩ : ∃ n, A.1.length = n + 1 := ⟨A.1.length - 1, by omega⟩
  have e1 := e_203t (sv := sv) (d := d + 17) hm hN hn hf hA1
  have E1 : zcall zP sv (d + 19) 203 [.ref m, .int (nI f)] h = some (.inl (some (.int (nI 1))), h) := e1
  have hmm := hm
  unfold zMo at hmm
  have hN1 := hN.1
  have hN2 := hN.2
  have e0 := yNow_0 hn hln
  have s0 : ∀ Kc : zC → zR, zaset (20, N.map Value.int) 20 0 (.int (nI n)) Kc = Kc (20, (N.set 0 (nI n)).map Value.int) := fun Kc => by
    rw [← nI_0]
    exact zsI (by omega) (by omega)
  obtain ⟨h2, N', e2, a1, a2, a3, a4, a5⟩ := e_236l (sv := sv) (d := d + 19) (m := m) (F := F) (f := f) (c := 0) (n := n) (l1 := .val (.int (nI f))) (N0 := N.set 0 (nI n)) (by omega) (63 * (n - f)) (9 + 63 * f) (zup h (m + 1) (20, (N.set 0 (nI n)).map Value.int)) (N.set 0 (nI n)) (by omega) (by rw [zup_ne (by omega), hmm]) ⟨zup_at, by rw [List.length_set, hN2]⟩ (by rw [List.length_set, hN2]) (by rw [List.getElem?_set_self (by omega)]) (Nat.le_refl _) (fun _ _ => rfl) (fun i i1 i2 => absurd i2 (by omega)) (fun _ _ => rfl)
  have a1' := a1.1
  have a1l := a1.2
  have m2 : h2.1 m = (13, zMF m F) := by rw [a4 m (by omega), zup_ne (by omega), hmm]
  have n0 : N'[0]? = some (nI n) := by rw [a2 0 (by omega), List.getElem?_set_self (by omega)]
  have e0' : ∀ Kv, zael (20, N'.map Value.int) 20 0 Kv = Kv (.int (nI n)) := fun Kv => by
    rw [← nI_0]
    exact zaelv (by rw [List.getElem?_map, n0]; rfl) (by decide)
  have E6 : zcall zP sv (d + 19) 201 [.ref m, .int (nI n)] h2 = _ := e_201 (sv := sv) (d := d + 18) (x := nI n) (h := h2) (m := m) (F := F) m2
  refine ⟨zup h2 m (13, zMF m (yup F 30 (nI n))), _, ?_, ⟨zMo_up, ⟨N', ⟨by rw [zup_ne (by omega), a1'], a1l⟩, yNow_era hn hf hA1 hA.2.2 hln a1l n0 (fun i i1 i2 => by rw [a2 i i2, List.getElem?_set_ne (by omega)]) (fun i i1 i2 => by rw [a3 i i1 i2, List.getElem?_set_ne (by omega)])⟩, ?_⟩, ?_, yff_up (by decide), ?_⟩
  · rw [zc_236]
    have e28 : zrun zP sv (zcall zP sv (d + 19)) 236 0 [.val (.ref m), .val (.int (nI f)), .unset] [] h = zrun zP sv (zcall zP sv (d + 19)) 236 28 [.val (.ref m), .val (.int (nI f)), .val (.int (nI (9 + 63 * f)))] [] (zup h (m + 1) (20, (N.set 0 (nI n)).map Value.int)) := by
      simp (disch := first | exact znw_u | exact znw_i | omega) only [zs_236_0, zs_236_1, zs_236_2, zs_236_5, zs_236_10, zs_236_11, zs_236_14, zs_236_15, zs_236_16, zs_236_17, zs_236_18, zs_236_19, zs_236_20, zs_236_22, zs_236_24, zs_236_25, zs_236_26, zs_236_27, hmm, zrc_13v, E1, zbk_v, zts_s, nI_1e0, ↓reduceIte, zmf_0, hN1, e0, nI_m, s0, nI_mulx, nI_add]
    rw [e28, e2]
    simp only [zs_236_0, zs_236_0n, zs_236_1, zs_236_2, zs_236_5, zs_236_8, zs_236_9, zs_236_10, zs_236_10n, zs_236_11, zs_236_14, zs_236_15, zs_236_16, zs_236_17, zs_236_18, zs_236_19, zs_236_20, zs_236_22, zs_236_24, zs_236_25, zs_236_26, zs_236_27, zs_236_28, zs_236_29, zs_236_31, zs_236_33, zs_236_33n, zs_236_34, zs_236_37, zs_236_38, zs_236_39, zs_236_40, zs_236_41, zs_236_44, zs_236_44n, zs_236_45, zs_236_48, zs_236_49, zs_236_49n, zs_236_50, zs_236_53, zs_236_54, zs_236_56, zs_236_57, zs_236_58, zs_236_59, zs_236_62, zs_236_65, zs_236_65n, zs_236_66, zs_236_66n, zs_236_67, zs_236_70, zs_236_71, zs_236_72, zs_236_75, m2, zmf_0, a1', e0', zrc_13v, E6, zbk_v, zts_s]
  · obtain ⟨⟨_, z1⟩, ⟨_, z2⟩, _⟩ := id hs
    exact zScm_of hs (zLst_cg z1 (by rw [zup_ne (by omega), a4 _ (by omega), zup_ne (by omega)]) (by rw [zup_ne (by omega), a4 _ (by omega), zup_ne (by omega)])) (zLst_cg z2 (by rw [zup_ne (by omega), a4 _ (by omega), zup_ne (by omega)]) (by rw [zup_ne (by omega), a4 _ (by omega), zup_ne (by omega)])) (fun a ha => by rw [zup_ne (by omega), a4 _ (by omega), zup_ne (by omega)])
  · rw [yup_eq, hln, Nat.add_sub_cancel]
  · exact ⟨fun q q1 q2 q3 => by rw [zup_ne q1, a4 q q2, zup_ne q2], a5⟩
end ZMD
