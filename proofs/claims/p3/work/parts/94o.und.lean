theorem yl_ext {A B : List Int32} {n : Nat} (h1 : A.length = n) (h2 : B.length = n) (h : ∀ i, i < n → A[i]? = B[i]?) : A = B := by
  apply List.ext_getElem?
  intro i
  by_cases hi : i < n
  · exact h i hi
  · rw [List.getElem?_eq_none (by omega), List.getElem?_eq_none (by omega)]
section ZUN
variable {sv : Nat → Value} {d : Nat} {m : Nat} {F : Nat → Int32} {h : zH} {w : yW} {th : Int32}
theorem e_296l {u : Nat} {K : List Int32} (hu : u < 8) (h3 : F 3 = nI u) (hK : K.length = 3096) : ∀ n k (h : zH) (N : List Int32), k + n = 387 → h.1 m = (13, zMF m F) → h.1 (m + 3) = (20, K.map Value.int) → zTab h (m + 1) N → (∀ i, i < k → N[i]? = K[387 * u + i]?) → ∃ (h' : zH) (N' : List Int32), zrun zP sv (zcall zP sv d) 296 30 [.val (.ref m), .val (.int (nI k))] [] h = some (.inl (some (.int (nI u))), h') ∧ zTab h' (m + 1) N' ∧ (∀ i, i < 387 → N'[i]? = K[387 * u + i]?) ∧ (∀ q, q ≠ m + 1 → h'.1 q = h.1 q) ∧ h'.2 = h.2 := by
  intro n
  induction n with
  | zero =>
    intro k h N hk hm hk3 hN g1
    obtain rfl : k = 387 := by omega
    refine ⟨h, N, ?_, hN, g1, fun _ _ => rfl, rfl⟩
    simp only [zs_296_0, zs_296_0n, zs_296_1, zs_296_2, zs_296_5, zs_296_5n, zs_296_6, zs_296_9, zs_296_12, zs_296_12n, zs_296_13, zs_296_14, zs_296_17, zs_296_18, zs_296_18n, zs_296_19, zs_296_20, zs_296_23, zs_296_24, zs_296_25, zs_296_28, zs_296_29, zs_296_30, zs_296_31, zs_296_34, zs_296_37, zs_296_37n, zs_296_38, zs_296_41, zs_296_42, zs_296_42n, zs_296_43, zs_296_46, zs_296_49, zs_296_49n, zs_296_50, zs_296_53, zs_296_54, zs_296_55, zs_296_56, zs_296_57, zs_296_61, zs_296_64, zs_296_64n, zs_296_65, zs_296_68, Int32.lt_irrefl, ↓reduceIte, hm, zmf_3, h3]
  | succ n ih =>
    intro k h N hk hm hk3 hN g1
    have hN1 := hN.1
    have hN2 := hN.2
    obtain ⟨y, hy⟩ : ∃ y, K[387 * u + k]? = some y := ⟨_, List.getElem?_eq_getElem (by omega)⟩
    have ey : ∀ Kv, zael (20, K.map Value.int) 20 (nI (387 * u + k)) Kv = Kv (.int y) := fun Kv => zaelv (by rw [List.getElem?_map, hy]; rfl) (by omega)
    have s1 : ∀ Kc : zC → zR, zaset (20, N.map Value.int) 20 (nI k) (.int y) Kc = Kc (20, (N.set k y).map Value.int) := fun Kc => zsI (by omega) (by omega)
    have c1 : nI k < nI 387 := nI_lt (by omega) (by omega)
    obtain ⟨h', N', e, q1, q2, q3, q4⟩ := ih (k + 1) (zup h (m + 1) (20, (N.set k y).map Value.int)) (N.set k y) (by omega) (by rw [zup_ne (by omega), hm]) (by rw [zup_ne (by omega), hk3]) ⟨zup_at, by rw [List.length_set, hN2]⟩ (fun i hi => by
      by_cases hik : i = k
      · subst hik
        rw [List.getElem?_set_self (by omega), hy]
      · rw [List.getElem?_set_ne (by omega), g1 i (by omega)])
    refine ⟨h', N', ?_, q1, q2, fun q hq => by rw [q3 q hq, zup_ne hq], q4⟩
    rw [← e]
    have eb : ∀ g : zH, zrun zP sv (zcall zP sv d) 296 58 [.val (.ref m), .val (.int (nI k))] [] g = zrun zP sv (zcall zP sv d) 296 30 [.val (.ref m), .val (.int (nI (k + 1)))] [] g := fun g => by rw [zs_296_58, zs_296_61, nI_1']
    rw [← eb]
    simp only [zs_296_30, zs_296_31, zs_296_34, zs_296_37, zs_296_38, zs_296_41, zs_296_42, zs_296_43, zs_296_46, zs_296_49, zs_296_50, zs_296_53, zs_296_54, zs_296_55, zs_296_56, zs_296_57, if_pos c1, hm, zmf_0, zmf_2, zmf_3, h3, hk3, hN1, nI_mulx, nI_add, ey, s1]
theorem e_298l {S : List Int32} (hS : S.length = 387) : ∀ n k (h : zH) (N : List Int32), k + n = 387 → h.1 m = (13, zMF m F) → h.1 (m + 4) = (20, S.map Value.int) → zTab h (m + 1) N → (∀ i, i < k → N[i]? = S[i]?) → ∃ h' : zH, zrun zP sv (zcall zP sv d) 298 20 [.val (.ref m), .val (.int (nI k))] [] h = zrun zP sv (zcall zP sv d) 298 45 [.val (.ref m), .val (.int (nI 387))] [] h' ∧ zTab h' (m + 1) S ∧ (∀ q, q ≠ m + 1 → h'.1 q = h.1 q) ∧ h'.2 = h.2 := by
  intro n
  induction n with
  | zero =>
    intro k h N hk hm hk3 hN g1
    obtain rfl : k = 387 := by omega
    obtain rfl : N = S := yl_ext hN.2 hS g1
    refine ⟨h, ?_, hN, fun _ _ => rfl, rfl⟩
    simp only [zs_298_20, zs_298_21, zs_298_24, Int32.lt_irrefl, ↓reduceIte]
  | succ n ih =>
    intro k h N hk hm hk3 hN g1
    have hN1 := hN.1
    have hN2 := hN.2
    obtain ⟨y, hy⟩ : ∃ y, S[k]? = some y := ⟨_, List.getElem?_eq_getElem (by omega)⟩
    have ey : ∀ Kv, zael (20, S.map Value.int) 20 (nI k) Kv = Kv (.int y) := fun Kv => zaelv (by rw [List.getElem?_map, hy]; rfl) (by omega)
    have s1 : ∀ Kc : zC → zR, zaset (20, N.map Value.int) 20 (nI k) (.int y) Kc = Kc (20, (N.set k y).map Value.int) := fun Kc => zsI (by omega) (by omega)
    have c1 : nI k < nI 387 := nI_lt (by omega) (by omega)
    obtain ⟨h', e, q1, q3, q4⟩ := ih (k + 1) (zup h (m + 1) (20, (N.set k y).map Value.int)) (N.set k y) (by omega) (by rw [zup_ne (by omega), hm]) (by rw [zup_ne (by omega), hk3]) ⟨zup_at, by rw [List.length_set, hN2]⟩ (fun i hi => by
      by_cases hik : i = k
      · subst hik
        rw [List.getElem?_set_self (by omega), hy]
      · rw [List.getElem?_set_ne (by omega), g1 i (by omega)])
    refine ⟨h', ?_, q1, fun q hq => by rw [q3 q hq, zup_ne hq], q4⟩
    rw [← e]
    have eb : ∀ g : zH, zrun zP sv (zcall zP sv d) 298 39 [.val (.ref m), .val (.int (nI k))] [] g = zrun zP sv (zcall zP sv d) 298 20 [.val (.ref m), .val (.int (nI (k + 1)))] [] g := fun g => by rw [zs_298_39, zs_298_42, nI_1']
    rw [← eb]
    simp only [zs_298_20, zs_298_21, zs_298_24, zs_298_27, zs_298_28, zs_298_31, zs_298_32, zs_298_33, zs_298_36, zs_298_37, zs_298_38, if_pos c1, hm, zmf_0, zmf_4, hk3, hN1, ey, s1]
theorem e_296n (hM : zMdl h m w th) (hk : yhis w = []) : zMC m h (zcall zP sv (d + 3) 296 [.ref m] h) 0 w (nI 1) := by
  obtain ⟨F, g, g1, g2, hw, hT, hr, hA⟩ := zMdl_31 (x := nI 1) hM
  refine ⟨_, ?_, g1, g2⟩
  have e3 : yup F 31 0 3 = 0 := by rw [yup_ne (by omega), hr.1.1, hk]; exact nI_0
  have E := e_198 (sv := sv) (d := d + 1) (x := nI 1) (h := zup h m (13, zMF m (yup F 31 0))) (m := m) (F := yup F 31 0) zMo_up
  rw [yup_yup, zup_up] at E
  simp only [zc_296, zs_296_0, zs_296_0n, zs_296_1, zs_296_2, zs_296_5, zs_296_5n, zs_296_6, zs_296_9, zs_296_12, zs_296_12n, zs_296_13, zs_296_14, zs_296_17, zs_296_18, zs_296_18n, zs_296_19, zs_296_20, zs_296_23, zs_296_24, zs_296_25, zs_296_28, zs_296_29, zs_296_30, zs_296_31, zs_296_34, zs_296_37, zs_296_37n, zs_296_38, zs_296_41, zs_296_42, zs_296_42n, zs_296_43, zs_296_46, zs_296_49, zs_296_49n, zs_296_50, zs_296_53, zs_296_54, zs_296_55, zs_296_56, zs_296_57, zs_296_61, zs_296_64, zs_296_64n, zs_296_65, zs_296_68, g, zmp_31, zup_at, zmf_3, e3, zrc_13v, E, zbk_v, zts_s, ↓reduceIte]
theorem e_298n (hM : zMdl h m w th) (hk : w.2.2.1 = false) : zMC m h (zcall zP sv (d + 3) 298 [.ref m] h) 0 w (nI 1) := by
  obtain ⟨F, g, g1, g2, hw, hT, hr, hA⟩ := zMdl_31 (x := nI 1) hM
  refine ⟨_, ?_, g1, g2⟩
  have e5 : yup F 31 0 5 = 0 := by rw [yup_ne (by omega), hr.1.2.1, hk]; rfl
  have E := e_198 (sv := sv) (d := d + 1) (x := nI 1) (h := zup h m (13, zMF m (yup F 31 0))) (m := m) (F := yup F 31 0) zMo_up
  rw [yup_yup, zup_up] at E
  simp only [zc_298, zs_298_0, zs_298_0n, zs_298_1, zs_298_2, zs_298_5, zs_298_5n, zs_298_6, zs_298_9, zs_298_12, zs_298_12n, zs_298_13, zs_298_14, zs_298_17, zs_298_18, zs_298_19, zs_298_20, zs_298_21, zs_298_24, zs_298_27, zs_298_27n, zs_298_28, zs_298_31, zs_298_32, zs_298_32n, zs_298_33, zs_298_36, zs_298_37, zs_298_38, zs_298_42, zs_298_45, zs_298_45n, zs_298_46, zs_298_47, zs_298_50, zs_298_50n, zs_298_51, zs_298_54, zs_298_55, zs_298_56, g, zmp_31, zup_at, zmf_5, e5, zrc_13v, E, zbk_v, zts_s, ↓reduceIte]
theorem zWk_n {h h' : zH} {F G : Nat → Int32} {A B : yA} {N : List Int32} (hw : zWk h m F A) (h0 : h'.1 m = (13, zMF m G)) (hN : zTab h' (m + 1) N) (hn : yNow N B) (hk : ∀ q, m + 5 ≤ q → q < m + 16 → h'.1 q = h.1 q) : zWk h' m G B := by
  obtain ⟨_, _, ⟨p, p1⟩, ⟨p', p2⟩, ⟨S, T, s1, s2, s3, s4⟩, c2, c3, c4, c5, c6⟩ := hw
  exact ⟨h0, ⟨N, hN, hn⟩, ⟨p, zLst_cg p1 (hk _ (by omega) (by omega)) (hk _ (by omega) (by omega))⟩, ⟨p', zLst_cg p2 (hk _ (by omega) (by omega)) (hk _ (by omega) (by omega))⟩, ⟨S, T, (hk _ (by omega) (by omega)).trans s1, s2, (hk _ (by omega) (by omega)).trans s3, s4⟩, zArr_cg c2 (hk _ (by omega) (by omega)), zArr_cg c3 (hk _ (by omega) (by omega)), zArr_cg c4 (hk _ (by omega) (by omega)), zArr_cg c5 (hk _ (by omega) (by omega)), zArr_cg c6 (hk _ (by omega) (by omega))⟩
theorem e_296 {A : yA} {HA : List yA} (hM : zMdl h m w th) (hk : yhis w = A :: HA) (hok : yAok A) : zMC m h (zcall zP sv (d + 3) 296 [.ref m] h) (nI HA.length) (ysh (ysc w A) HA) 0 := by
  obtain ⟨F, g, _, _, hw, ⟨T, hT⟩, hr, hA⟩ := zMdl_31 (x := 0) hM
  obtain ⟨⟨a1, a2, a3, a4, a5, a6⟩, ⟨K, b1, b2, b3⟩, ⟨S, c1, c2⟩, e1, e2⟩ := hr
  rw [hk, List.length_cons] at a1 a6
  obtain ⟨_, ⟨N, hN, hn⟩, _⟩ := id hw
  have e3 : yup F 31 0 3 = nI (HA.length + 1) := by rw [yup_ne (by omega), a1]
  have n0 : ¬ nI (HA.length + 1) = 0 := nI_ne0 (by omega) (by omega)
  obtain ⟨h', N', e, q1, q2, q3, q4⟩ := e_296l (sv := sv) (d := d + 2) (m := m) (F := yup (yup F 31 0) 3 (nI HA.length)) (u := HA.length) (K := K) (by omega) yup_eq b2 387 0 (zup h m (13, zMF m (yup (yup F 31 0) 3 (nI HA.length)))) N (Nat.zero_add _) zup_at (by rw [zup_ne (by omega), b1]) (zTab_cg hN (zup_ne (by omega))) (fun i hi => absurd hi (Nat.not_lt_zero i))
  rw [nI_0] at e
  obtain ⟨N0, z1, z2⟩ := b3 0 A (by rw [hk]; rfl)
  have hlen : (yhis w).length - 1 - 0 = HA.length := by rw [hk, List.length_cons]; omega
  rw [hlen] at z2
  obtain rfl : N' = N0 := yl_ext q1.2 z1.1 (fun i hi => by rw [q2 i hi, z2 i hi])
  have fr : ∀ q, q ≠ m → q ≠ m + 1 → h'.1 q = h.1 q := fun q n0 n1 => by rw [q3 q n1, zup_ne n0]
  refine ⟨h', ?_, ⟨yup (yup F 31 0) 3 (nI HA.length), by rw [yup_ne (by omega), yup_eq], zWk_n hw (by rw [q3 m (by omega), zup_at]) q1 z1 (fun q n1 n2 => fr q (by omega) (by omega)), ⟨T, zTab_cg hT (fr _ (by omega) (by omega))⟩, ⟨⟨yup_eq, by rw [yup_ne (by omega), yup_ne (by omega)]; exact a2, by rw [yup_ne (by omega), yup_ne (by omega)]; exact a3, by rw [yup_ne (by omega), yup_ne (by omega)]; exact a4, by rw [yup_ne (by omega), yup_ne (by omega)]; exact a5, by show HA.length ≤ 8; omega⟩, ⟨K, (fr _ (by omega) (by omega)).trans b1, b2, fun j B hB => ?_⟩, ⟨S, zTab_cg c1 (fr _ (by omega) (by omega)), c2⟩, zTx_cg e1 (fr _ (by omega) (by omega)), zTx_cg e2 (fr _ (by omega) (by omega))⟩, hok⟩, ⟨fun q hq => fr q (by omega) (by omega), q4⟩⟩
  · rw [zc_296]
    simp (disch := exact znw_u) only [zs_296_0, zs_296_1, zs_296_2, zs_296_5, zs_296_6, zs_296_9, zs_296_18, zs_296_19, zs_296_20, zs_296_23, zs_296_24, zs_296_25, zs_296_28, zs_296_29, g, zmp_31, zup_at, zmf_3, e3, if_neg n0, nI_m, zmp_3, zup_up]
    exact e
  · have hB2 : HA[j]? = some B := hB
    have hj := (List.getElem?_eq_some_iff.mp hB2).1
    obtain ⟨N1, y1, y2⟩ := b3 (j + 1) B (by rw [hk]; exact hB2)
    refine ⟨N1, y1, fun i hi => ?_⟩
    have z := y2 i hi
    rw [hk, List.length_cons, show HA.length + 1 - 1 - (j + 1) = HA.length - 1 - j by omega] at z
    exact z
theorem e_298 (hM : zMdl h m w th) (hk : w.2.2.1 = true) (hok : yAok (ykep w)) : zMC m h (zcall zP sv (d + 3) 298 [.ref m] h) (nI (ykep w).1.length) (ysh (ysc w (ykep w)) []) 0 := by
  obtain ⟨F, g, _, _, hw, ⟨T, hT⟩, hr, hA⟩ := zMdl_31 (x := 0) hM
  obtain ⟨⟨a1, a2, a3, a4, a5, a6⟩, ⟨K, b1, b2, b3⟩, ⟨S, c1, c2⟩, e1, e2⟩ := hr
  obtain ⟨_, ⟨N, hN, hn⟩, _⟩ := id hw
  have hS := c2 hk
  have e5 : yup F 31 0 5 = nI 1 := by rw [yup_ne (by omega), a2, hk]; rfl
  obtain ⟨h', e, q1, q3, q4⟩ := e_298l (sv := sv) (d := d + 2) (m := m) (F := yup F 31 0) c1.2 387 0 (zup h m (13, zMF m (yup F 31 0))) N (Nat.zero_add _) zup_at (by rw [zup_ne (by omega)]; exact c1.1) (zTab_cg hN (zup_ne (by omega))) (fun i hi => absurd hi (Nat.not_lt_zero i))
  rw [nI_0] at e
  have fr : ∀ q, q ≠ m → q ≠ m + 1 → h'.1 q = h.1 q := fun q n0 n1 => by rw [q3 q n1, zup_ne n0]
  have m1 : h'.1 m = (13, zMF m (yup F 31 0)) := by rw [q3 m (by omega), zup_at]
  have q1' := q1.1
  have e0 := yNow_0 hS rfl
  refine ⟨zup h' m (13, zMF m (yup (yup F 31 0) 3 0)), ?_, ⟨yup (yup F 31 0) 3 0, by rw [yup_ne (by omega), yup_eq], zWk_n hw zup_at (zTab_cg q1 (zup_ne (by omega))) hS (fun q n1 n2 => by rw [zup_ne (by omega), fr q (by omega) (by omega)]), ⟨T, zTab_cg hT (by rw [zup_ne (by omega), fr _ (by omega) (by omega)])⟩, ⟨⟨yup_eq.trans nI_0.symm, by rw [yup_ne (by omega), yup_ne (by omega)]; exact a2, by rw [yup_ne (by omega), yup_ne (by omega)]; exact a3, by rw [yup_ne (by omega), yup_ne (by omega)]; exact a4, by rw [yup_ne (by omega), yup_ne (by omega)]; exact a5, Nat.zero_le _⟩, ⟨K, by rw [zup_ne (by omega), fr _ (by omega) (by omega), b1], b2, fun j B hB => by cases hB⟩, ⟨S, zTab_cg c1 (by rw [zup_ne (by omega), fr _ (by omega) (by omega)]), c2⟩, zTx_cg e1 (by rw [zup_ne (by omega), fr _ (by omega) (by omega)]), zTx_cg e2 (by rw [zup_ne (by omega), fr _ (by omega) (by omega)])⟩, hok⟩, ⟨fun q hq => by rw [zup_ne (by omega), fr q (by omega) (by omega)], q4⟩⟩
  rw [zc_298]
  have hne : m + 1 ≠ m := by omega
  simp (disch := exact znw_u) only [zs_298_0, zs_298_1, zs_298_2, zs_298_5, zs_298_6, zs_298_9, zs_298_18, zs_298_19, g, zmp_31, zup_at, zmf_5, e5, nI_1e0, ↓reduceIte]
  rw [e]
  simp (disch := exact hne) only [zs_298_0, zs_298_0n, zs_298_1, zs_298_2, zs_298_5, zs_298_5n, zs_298_6, zs_298_9, zs_298_12, zs_298_12n, zs_298_13, zs_298_14, zs_298_17, zs_298_18, zs_298_19, zs_298_21, zs_298_24, zs_298_27, zs_298_27n, zs_298_28, zs_298_31, zs_298_32, zs_298_32n, zs_298_33, zs_298_36, zs_298_37, zs_298_38, zs_298_42, zs_298_45, zs_298_45n, zs_298_46, zs_298_47, zs_298_50, zs_298_50n, zs_298_51, zs_298_54, zs_298_55, zs_298_56, m1, zmp_3, zmf_0, zup_at, zup_ne, q1', e0]
end ZUN
