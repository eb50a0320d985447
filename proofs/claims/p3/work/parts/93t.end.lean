/-- the kept tables: newest first -/
def zKep (h : zH) (a : Nat) (H : List yA) : Prop := ∃ K : List Int32, h.1 a = (20, K.map Value.int) ∧ K.length = 3096 ∧ ∀ (j : Nat) (A : yA), H[j]? = some A → ∃ N : List Int32, yNow N A ∧ ∀ i, i < 387 → K[387 * (H.length - 1 - j) + i]? = N[i]?
theorem zKep_cg {h h' : zH} {a : Nat} {H : List yA} (hk : zKep h a H) (h1 : h'.1 a = h.1 a) : zKep h' a H := by
  obtain ⟨K, k1, k2⟩ := hk
  exact ⟨K, h1.trans k1, k2⟩
section ZMK
variable {sv : Nat → Value} {d : Nat} {m : Nat} {F : Nat → Int32}
theorem e_200 {h : zH} {N T : List Int32} (hm : zMo h m F) (hN : zTab h (m + 1) N) (hT : zTab h (m + 2) T) : zcall zP sv (d + 1) 200 [.ref m] h = some (.inl none, zup (zup h m (13, zMF m (yup F 31 0))) (m + 2) (20, N.map Value.int)) :=
  c_200x (sv := sv) (d := d) (r := m) (p := m + 1) (q := m + 2) hm hN.1 hT.1 (by omega) (by omega) (by omega) (by rw [List.length_map, hN.2]) (by rw [List.length_map, hT.2]) (fun i hi => ⟨N[i]'(by rw [hN.2]; exact hi), by rw [List.getElem?_map, List.getElem?_eq_getElem (by rw [hN.2]; exact hi)]; rfl⟩)
theorem e_202c {u : Nat} {l1 : Slot} {T K0 : List Int32} (hu : u < 8) (h3 : F 3 = nI u) (hTl : T.length = 387) (hK0 : K0.length = 3096) : ∀ n k (h : zH) (K : List Int32), k + n = 387 → h.1 m = (13, zMF m F) → h.1 (m + 2) = (20, T.map Value.int) → h.1 (m + 3) = (20, K.map Value.int) → K.length = 3096 → (∀ i, i < k → K[387 * u + i]? = T[i]?) → (∀ i, i < 387 * u ∨ 387 * u + 387 ≤ i → K[i]? = K0[i]?) → ∃ (h' : zH) (K' : List Int32), zrun zP sv (zcall zP sv d) 202 62 [.val (.ref m), l1, .val (.int (nI k))] [] h = some (.inl (some (.int (F 30))), h') ∧ h'.1 m = (13, zMF m (yup F 3 (nI (u + 1)))) ∧ h'.1 (m + 3) = (20, K'.map Value.int) ∧ K'.length = 3096 ∧ (∀ i, i < 387 → K'[387 * u + i]? = T[i]?) ∧ (∀ i, i < 387 * u ∨ 387 * u + 387 ≤ i → K'[i]? = K0[i]?) ∧ (∀ q, q ≠ m → q ≠ m + 3 → h'.1 q = h.1 q) ∧ h'.2 = h.2 := by
  intro n
  induction n with
  | zero =>
    intro k h K hk hm hT hK hKl g1 g2
    obtain rfl : k = 387 := by omega
    refine ⟨zup h m (13, zMF m (yup F 3 (nI (u + 1)))), K, ?_, zup_at, by rw [zup_ne (by omega), hK], hKl, g1, g2, fun q q1 q2 => zup_ne q1, rfl⟩
    have v30 : yup F 3 (nI (u + 1)) 30 = F 30 := yup_ne (by omega)
    have z30 : ∀ G : Nat → Int32, ∀ Kv, zfld (13, zMF m G) 13 30 Kv = Kv (.int (G 30)) := fun G Kv => zf_13_30
    simp only [zs_202_0, zs_202_1, zs_202_4, zs_202_4n, zs_202_5, zs_202_6, zs_202_9, zs_202_10, zs_202_10n, zs_202_11, zs_202_14, zs_202_16, zs_202_19, zs_202_20, zs_202_21, zs_202_22, zs_202_25, zs_202_28, zs_202_28n, zs_202_29, zs_202_32, zs_202_33, zs_202_33n, zs_202_34, zs_202_37, zs_202_40, zs_202_41, zs_202_42, zs_202_43, zs_202_44, zs_202_47, zs_202_50, zs_202_50n, zs_202_51, zs_202_52, zs_202_55, zs_202_56, zs_202_57, zs_202_60, zs_202_61, zs_202_62, zs_202_63, zs_202_66, zs_202_69, zs_202_69n, zs_202_70, zs_202_73, zs_202_76, zs_202_76n, zs_202_77, zs_202_80, zs_202_81, zs_202_82, zs_202_83, zs_202_83n, zs_202_84, zs_202_87, zs_202_88, zs_202_89, zs_202_90, zs_202_93, zs_202_96, zs_202_96n, zs_202_97, zs_202_98, zs_202_101, zs_202_102, zs_202_103, zs_202_106, zs_202_106n, zs_202_107, zs_202_110, hm, zmf_3, h3, Int32.lt_irrefl, ↓reduceIte, nI_add, zmp_3, zup_at, z30, v30]
  | succ n ih =>
    intro k h K hk hm hT hK hKl g1 g2
    obtain ⟨y, hy⟩ : ∃ y, T[k]? = some y := ⟨_, List.getElem?_eq_getElem (by omega)⟩
    have ey : ∀ Kv, zael (20, T.map Value.int) 20 (nI k) Kv = Kv (.int y) := fun Kv => zaelv (by rw [List.getElem?_map, hy]; rfl) (by omega)
    have s1 : ∀ Kc : zC → zR, zaset (20, K.map Value.int) 20 (nI (387 * u + k)) (.int y) Kc = Kc (20, (K.set (387 * u + k) y).map Value.int) := fun Kc => zsI (by omega) (by omega)
    have c1 : nI k < nI 387 := nI_lt (by omega) (by omega)
    obtain ⟨h', K', e, q1, q2, q3, q4, q5, q6, q7⟩ := ih (k + 1) (zup h (m + 3) (20, (K.set (387 * u + k) y).map Value.int)) (K.set (387 * u + k) y) (by omega) (by rw [zup_ne (by omega), hm]) (by rw [zup_ne (by omega), hT]) zup_at (by rw [List.length_set, hKl]) (fun i hi => by
      by_cases hik : i = k
      · subst hik
        rw [List.getElem?_set_self (by omega), hy]
      · rw [List.getElem?_set_ne (by omega), g1 i (by omega)]) (fun i hi => by rw [List.getElem?_set_ne (by omega), g2 i hi])
    refine ⟨h', K', ?_, q1, q2, q3, q4, q5, fun q p1 p2 => by rw [q6 q p1 p2, zup_ne p2], q7⟩
    simp only [zs_202_0, zs_202_1, zs_202_4, zs_202_4n, zs_202_5, zs_202_6, zs_202_9, zs_202_10, zs_202_10n, zs_202_11, zs_202_14, zs_202_16, zs_202_19, zs_202_20, zs_202_21, zs_202_22, zs_202_25, zs_202_28, zs_202_28n, zs_202_29, zs_202_32, zs_202_33, zs_202_33n, zs_202_34, zs_202_37, zs_202_40, zs_202_41, zs_202_42, zs_202_43, zs_202_44, zs_202_47, zs_202_50, zs_202_50n, zs_202_51, zs_202_52, zs_202_55, zs_202_56, zs_202_57, zs_202_60, zs_202_61, zs_202_63, zs_202_66, zs_202_69, zs_202_69n, zs_202_70, zs_202_73, zs_202_76, zs_202_76n, zs_202_77, zs_202_80, zs_202_81, zs_202_82, zs_202_83, zs_202_83n, zs_202_84, zs_202_87, zs_202_88, zs_202_89, zs_202_96, zs_202_96n, zs_202_97, zs_202_98, zs_202_101, zs_202_102, zs_202_103, zs_202_106, zs_202_106n, zs_202_107, zs_202_110, zs_202_62, hm, zmf_1, zmf_2, zmf_3, h3, hT, hK, if_pos c1, nI_mulx, nI_add, ey, s1]
    rw [zs_202_90, zs_202_93, nI_1']
    exact e
theorem e_202s {l1 : Slot} {K0 : List Int32} {C : Nat → List Value → zH → zR} (hK0 : K0.length = 3096) : ∀ n k (h : zH) (K : List Int32), k + n = 2709 → h.1 m = (13, zMF m F) → h.1 (m + 3) = (20, K.map Value.int) → K.length = 3096 → (∀ i, i < k → K[i]? = K0[387 + i]?) → (∀ i, k ≤ i → K[i]? = K0[i]?) → ∃ (h' : zH) (K' : List Int32), zrun zP sv C 202 21 [.val (.ref m), l1, .val (.int (nI k))] [] h = zrun zP sv C 202 50 [.val (.ref m), l1, .val (.int (nI 2709))] [] h' ∧ h'.1 (m + 3) = (20, K'.map Value.int) ∧ K'.length = 3096 ∧ (∀ i, i < 2709 → K'[i]? = K0[387 + i]?) ∧ (∀ q, q ≠ m + 3 → h'.1 q = h.1 q) ∧ h'.2 = h.2 := by
  intro n
  induction n with
  | zero =>
    intro k h K hk hm hK hKl g1 g2
    obtain rfl : k = 2709 := by omega
    refine ⟨h, K, ?_, hK, hKl, g1, fun _ _ => rfl, rfl⟩
    simp only [zs_202_21, zs_202_22, zs_202_25, Int32.lt_irrefl, ↓reduceIte]
  | succ n ih =>
    intro k h K hk hm hK hKl g1 g2
    obtain ⟨y, hy⟩ : ∃ y, K0[387 + k]? = some y := ⟨_, List.getElem?_eq_getElem (by omega)⟩
    have ey : ∀ Kv, zael (20, K.map Value.int) 20 (nI (387 + k)) Kv = Kv (.int y) := fun Kv => zaelv (by rw [List.getElem?_map, g2 _ (by omega), hy]; rfl) (by omega)
    have s1 : ∀ Kc : zC → zR, zaset (20, K.map Value.int) 20 (nI k) (.int y) Kc = Kc (20, (K.set k y).map Value.int) := fun Kc => zsI (by omega) (by omega)
    have c1 : nI k < nI 2709 := nI_lt (by omega) (by omega)
    obtain ⟨h', K', e, q2, q3, q4, q6, q7⟩ := ih (k + 1) (zup h (m + 3) (20, (K.set k y).map Value.int)) (K.set k y) (by omega) (by rw [zup_ne (by omega), hm]) zup_at (by rw [List.length_set, hKl]) (fun i hi => by
      by_cases hik : i = k
      · subst hik
        rw [List.getElem?_set_self (by omega), hy]
      · rw [List.getElem?_set_ne (by omega), g1 i (by omega)]) (fun i hi => by rw [List.getElem?_set_ne (by omega), g2 i (by omega)])
    refine ⟨h', K', ?_, q2, q3, q4, fun q p2 => by rw [q6 q p2, zup_ne p2], q7⟩
    rw [← e]
    have e2 : zrun zP sv C 202 44 [.val (.ref m), l1, .val (.int (nI k))] [] (zup h (m + 3) (20, (K.set k y).map Value.int)) = zrun zP sv C 202 21 [.val (.ref m), l1, .val (.int (nI (k + 1)))] [] (zup h (m + 3) (20, (K.set k y).map Value.int)) := by rw [zs_202_44, zs_202_47, nI_1']
    rw [← e2]
    simp only [zs_202_21, zs_202_22, zs_202_25, zs_202_28, zs_202_29, zs_202_32, zs_202_33, zs_202_34, zs_202_37, zs_202_40, zs_202_41, zs_202_42, zs_202_43, hm, zmf_2, hK, if_pos c1, nI_add, ey, s1]
theorem e_202 {h : zH} {T : List Int32} {A0 : yA} {H : List yA} (hm : zMo h m F) (h3 : F 3 = nI H.length) (hH : H.length ≤ 8) (hT : zTab h (m + 2) T) (hn : yNow T A0) (hk : zKep h (m + 3) H) : ∃ h', zcall zP sv (d + 1) 202 [.ref m, .int 0] h = some (.inl (some (.int (F 30))), h') ∧ zMo h' m (yup F 3 (nI ((A0 :: H).take 8).length)) ∧ zKep h' (m + 3) ((A0 :: H).take 8) ∧ (∀ q, q ≠ m → q ≠ m + 3 → h'.1 q = h.1 q) ∧ h'.2 = h.2 := by
  obtain ⟨K, k1, k2, k3⟩ := hk
  unfold zMo at hm
  have h00 : ¬ ((0 : Int32) < 0) := by decide +kernel
  by_cases hu : H.length < 8
  · have g8 : ¬ nI H.length = nI 8 := fun q => absurd ((nI_eq (by omega) (by omega)).mp q) (by omega)
    have htk : (A0 :: H).take 8 = A0 :: H := List.take_of_length_le (by rw [List.length_cons]; omega)
    obtain ⟨h', K', e, q1, q2, q3, q4, q5, q6, q7⟩ := e_202c (sv := sv) (d := d) (m := m) (F := F) (l1 := .val (.int 0)) (T := T) (K0 := K) hu h3 hT.2 k2 387 0 h K (Nat.zero_add _) hm hT.1 k1 k2 (fun i hi => absurd hi (Nat.not_lt_zero i)) (fun _ _ => rfl)
    rw [nI_0] at e
    refine ⟨h', ?_, ?_, ?_, q6, q7⟩
    · rw [zc_202]
      simp (disch := exact znw_u) only [zs_202_0, zs_202_1, zs_202_10, zs_202_11, zs_202_14, zs_202_16, zs_202_60, zs_202_61, if_neg h00, hm, zmf_3, h3, if_neg g8]
      exact e
    · rw [htk]
      exact q1
    · rw [htk]
      refine ⟨K', q2, q3, fun j A hA => ?_⟩
      cases j with
      | zero =>
        obtain rfl := Option.some.inj hA
        exact ⟨T, hn, fun i hi => by
          rw [← q4 i hi]
          rfl⟩
      | succ j =>
        have hA2 : H[j]? = some A := hA
        have hj := (List.getElem?_eq_some_iff.mp hA2).1
        obtain ⟨N, n1, n2⟩ := k3 j A hA2
        refine ⟨N, n1, fun i hi => ?_⟩
        rw [← n2 i hi, List.length_cons, show H.length + 1 - 1 - (j + 1) = H.length - 1 - j by omega, q5 _ (by omega)]
  · have h8 : H.length = 8 := by omega
    have htl : ((A0 :: H).take 8).length = 8 := by rw [List.length_take, List.length_cons]; omega
    obtain ⟨h1, K1, e1, p1, p2, p3, p4, p5⟩ := e_202s (sv := sv) (m := m) (F := F) (l1 := .val (.int 0)) (C := zcall zP sv d) (K0 := K) k2 2709 0 h K (Nat.zero_add _) hm k1 k2 (fun i hi => absurd hi (Nat.not_lt_zero i)) (fun _ _ => rfl)
    rw [nI_0] at e1
    have hm1 : h1.1 m = (13, zMF m F) := by rw [p4 m (by omega), hm]
    obtain ⟨h', K', e, q1, q2, q3, q4, q5, q6, q7⟩ := e_202c (sv := sv) (d := d) (m := m) (F := yup F 3 (nI 7)) (u := 7) (l1 := .val (.int 0)) (T := T) (K0 := K1) (by omega) yup_eq hT.2 p2 387 0 (zup h1 m (13, zMF m (yup F 3 (nI 7)))) K1 (Nat.zero_add _) zup_at (by rw [zup_ne (by omega), p4 _ (by omega)]; exact hT.1) (by rw [zup_ne (by omega), p1]) p2 (fun i hi => absurd hi (Nat.not_lt_zero i)) (fun _ _ => rfl)
    rw [nI_0] at e
    have v30 : yup F 3 (nI 7) 30 = F 30 := yup_ne (by omega)
    rw [v30] at e
    refine ⟨h', ?_, ?_, ?_, fun q n1 n2 => by rw [q6 q n1 n2, zup_ne n1, p4 q n2], by rw [q7]; exact p5⟩
    · rw [zc_202]
      have e0 : nI H.length = nI 8 := by rw [h8]
      have e87 : nI 8 - nI 1 = nI 7 := nI_m
      simp (disch := exact znw_u) only [zs_202_0, zs_202_1, zs_202_10, zs_202_11, zs_202_14, zs_202_16, zs_202_19, zs_202_20, if_neg h00, hm, zmf_3, h3, if_pos e0]
      rw [e1]
      simp (disch := exact znw_i) only [zs_202_50, zs_202_51, zs_202_52, zs_202_55, zs_202_56, zs_202_57, zs_202_60, zs_202_61, hm1, zmf_3, h3, h8, e87, zmp_3]
      exact e
    · rw [htl]
      rw [yup_yup] at q1
      exact q1
    · refine ⟨K', q2, q3, fun j A hA => ?_⟩
      rw [htl]
      rw [List.getElem?_take] at hA
      by_cases hj8 : j < 8
      · rw [if_pos hj8] at hA
        cases j with
        | zero =>
          obtain rfl := Option.some.inj hA
          exact ⟨T, hn, fun i hi => by
            rw [← q4 i hi]⟩
        | succ j =>
          have hA2 : H[j]? = some A := hA
          obtain ⟨N, n1, n2⟩ := k3 j A hA2
          refine ⟨N, n1, fun i hi => ?_⟩
          rw [← n2 i hi, h8, q5 _ (by omega), p3 _ (by omega), show 387 + (387 * (8 - 1 - (j + 1)) + i) = 387 * (8 - 1 - j) + i by omega]
      · rw [if_neg hj8] at hA
        cases hA
end ZMK
