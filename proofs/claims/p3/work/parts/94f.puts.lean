theorem ysh_tk {A L : List Int32} {p n : Nat} {k : Int32} (hA : n + 1 ≤ A.length) (hL : L.length = n) (hp : p ≤ n) (h1 : ∀ i, i < p → A[i]? = L[i]?) (h2 : ∀ i, p ≤ i → i < n → A[i + 1]? = L[i]?) : (A.set p k).take (n + 1) = L.take p ++ k :: L.drop p := by
  apply List.ext_getElem?
  intro i
  rw [List.getElem?_take]
  have htl : (L.take p).length = p := by rw [List.length_take]; omega
  by_cases hi : i < n + 1
  · rw [if_pos hi]
    by_cases c1 : i < p
    · rw [List.getElem?_set_ne (by omega), h1 i c1, List.getElem?_append_left (by omega), List.getElem?_take, if_pos c1]
    · rw [List.getElem?_append_right (by omega), htl]
      by_cases c2 : i = p
      · subst c2
        rw [List.getElem?_set_self (by omega), Nat.sub_self]
        rfl
      · obtain ⟨j, rfl⟩ : ∃ j, i = j + 1 := ⟨i - 1, by omega⟩
        rw [List.getElem?_set_ne (by omega), h2 j (by omega) (by omega), show j + 1 - p = (j - p) + 1 by omega, List.getElem?_cons_succ, List.getElem?_drop, show p + (j - p) = j by omega]
  · rw [if_neg hi]
    refine (List.getElem?_eq_none ?_).symm
    rw [List.length_append, List.length_cons, List.length_drop, htl]
    omega
section ZPB
variable {sv : Nat → Value} {d : Nat} {m : Nat} {F : Nat → Int32} {h : zH} {cs : List Int32} {pos op : Nat} {qs : yP}
theorem e_227l {C : Nat → List Value → zH → zR} {L : yP} {p : Nat} {k : Int32} {G : Nat → Int32} (hL : L.length < 700) (hp : p ≤ L.length) (hk : ynk L) : ∀ r q (h : zH) (A B : List Int32), q = p + r → q ≤ L.length → h.1 m = (13, zMF m G) → h.1 (m + 7) = (21, A.map Value.int) → h.1 (m + 8) = (20, B.map Value.int) → A.length = 700 → B.length = 700 → (∀ i, i < q → A[i]? = (L.map (fun q => q.1))[i]?) → (∀ i, q ≤ i → i < L.length → A[i + 1]? = (L.map (fun q => q.1))[i]?) → (∀ i, i < q → B[i]? = (L.map (fun q => q.2))[i]?) → (∀ i, q ≤ i → i < L.length → B[i + 1]? = (L.map (fun q => q.2))[i]?) → ∃ (h' : zH) (A' B' : List Int32), zrun zP sv C 227 5 [.val (.ref m), .val (.int k), .val (.int (nI p)), .val (.int (nI q))] [] h = zrun zP sv C 227 44 [.val (.ref m), .val (.int k), .val (.int (nI p)), .val (.int (nI p))] [] h' ∧ h'.1 (m + 7) = (21, A'.map Value.int) ∧ h'.1 (m + 8) = (20, B'.map Value.int) ∧ A'.length = 700 ∧ B'.length = 700 ∧ (∀ i, i < p → A'[i]? = (L.map (fun q => q.1))[i]?) ∧ (∀ i, p ≤ i → i < L.length → A'[i + 1]? = (L.map (fun q => q.1))[i]?) ∧ (∀ i, i < p → B'[i]? = (L.map (fun q => q.2))[i]?) ∧ (∀ i, p ≤ i → i < L.length → B'[i + 1]? = (L.map (fun q => q.2))[i]?) ∧ (∀ q, q ≠ m + 7 → q ≠ m + 8 → h'.1 q = h.1 q) ∧ h'.2 = h.2 := by
  intro r
  induction r with
  | zero =>
    intro q h A B hq hql hm ha hb hal hbl a1 a2 b1 b2
    obtain rfl : q = p := by omega
    refine ⟨h, A, B, ?_, ha, hb, hal, hbl, a1, a2, b1, b2, fun _ _ _ => rfl, rfl⟩
    simp only [zs_227_0, zs_227_0n, zs_227_1, zs_227_4, zs_227_5, zs_227_6, zs_227_7, zs_227_10, zs_227_10n, zs_227_11, zs_227_14, zs_227_15, zs_227_15n, zs_227_16, zs_227_19, zs_227_20, zs_227_21, zs_227_22, zs_227_23, zs_227_24, zs_227_24n, zs_227_25, zs_227_28, zs_227_29, zs_227_29n, zs_227_30, zs_227_33, zs_227_34, zs_227_35, zs_227_36, zs_227_37, zs_227_38, zs_227_41, zs_227_45, zs_227_48, zs_227_49, zs_227_50, zs_227_51, zs_227_51n, zs_227_52, zs_227_55, zs_227_56, zs_227_57, zs_227_58, zs_227_58n, zs_227_59, zs_227_60, zs_227_63, zs_227_64, zs_227_65, zs_227_68, Int32.lt_irrefl, ↓reduceIte]
  | succ r ih =>
    intro q h A B hq hql hm ha hb hal hbl a1 a2 b1 b2
    obtain ⟨q', rfl⟩ : ∃ q', q = q' + 1 := ⟨q - 1, by omega⟩
    obtain ⟨x, hx⟩ : ∃ x, L[q']? = some x := ⟨_, List.getElem?_eq_getElem (by omega)⟩
    have x1 : (L.map (fun q => q.1))[q']? = some x.1 := by rw [List.getElem?_map, hx]; rfl
    have x2 : (L.map (fun q => q.2))[q']? = some x.2 := by rw [List.getElem?_map, hx]; rfl
    have g1 : nI p < nI (q' + 1) := nI_lt (by omega) (by omega)
    have ea : ∀ Kv, zael (21, A.map Value.int) 21 (nI q') Kv = Kv (.int x.1) := fun Kv => zaelv (by rw [List.getElem?_map, a1 q' (by omega), x1]; rfl) (by omega)
    have eb : ∀ Kv, zael (20, B.map Value.int) 20 (nI q') Kv = Kv (.int x.2) := fun Kv => zaelv (by rw [List.getElem?_map, b1 q' (by omega), x2]; rfl) (by omega)
    have hkx := hk x (List.mem_of_getElem? hx)
    have s1 : ∀ Kc : zC → zR, zaset (21, A.map Value.int) 21 (nI (q' + 1)) (.int x.1) Kc = Kc (21, (A.set (q' + 1) (ynr x.1)).map Value.int) := fun Kc => zsC (by omega) (by omega)
    have s2 : ∀ Kc : zC → zR, zaset (20, B.map Value.int) 20 (nI (q' + 1)) (.int x.2) Kc = Kc (20, (B.set (q' + 1) x.2).map Value.int) := fun Kc => zsI (by omega) (by omega)
    obtain ⟨h', A', B', e, w⟩ := ih q' (zup (zup h (m + 7) (21, (A.set (q' + 1) x.1).map Value.int)) (m + 8) (20, (B.set (q' + 1) x.2).map Value.int)) (A.set (q' + 1) x.1) (B.set (q' + 1) x.2) (by omega) (by omega) (by rw [zup_ne (by omega), zup_ne (by omega), hm]) (by rw [zup_ne (by omega), zup_at]) zup_at (by rw [List.length_set, hal]) (by rw [List.length_set, hbl]) (fun i hi => by rw [List.getElem?_set_ne (by omega), a1 i (by omega)]) (fun i i1 i2 => by
      by_cases c : i = q'
      · subst c
        rw [List.getElem?_set_self (by omega), x1]
      · rw [List.getElem?_set_ne (by omega), a2 i (by omega) i2]) (fun i hi => by rw [List.getElem?_set_ne (by omega), b1 i (by omega)]) (fun i i1 i2 => by
      by_cases c : i = q'
      · subst c
        rw [List.getElem?_set_self (by omega), x2]
      · rw [List.getElem?_set_ne (by omega), b2 i (by omega) i2])
    obtain ⟨w1, w2, w3, w4, w5, w6, w7, w8, w9, w10⟩ := w
    refine ⟨h', A', B', ?_, w1, w2, w3, w4, w5, w6, w7, w8, fun y y1 y2 => by rw [w9 y y1 y2, zup_ne y2, zup_ne y1], w10⟩
    have e2 : ∀ g : zH, zrun zP sv C 227 38 [.val (.ref m), .val (.int k), .val (.int (nI p)), .val (.int (nI (q' + 1)))] [] g = zrun zP sv C 227 5 [.val (.ref m), .val (.int k), .val (.int (nI p)), .val (.int (nI q'))] [] g := fun g => by rw [zs_227_38, zs_227_41, nI_mm, nI_m]
    rw [← e, ← e2]
    simp (disch := omega) only [zs_227_5, zs_227_6, zs_227_7, zs_227_10, zs_227_11, zs_227_14, zs_227_15, zs_227_16, zs_227_19, zs_227_20, zs_227_21, zs_227_22, zs_227_23, zs_227_24, zs_227_25, zs_227_28, zs_227_29, zs_227_30, zs_227_33, zs_227_34, zs_227_35, zs_227_36, zs_227_37, if_pos g1, hm, zmf_9, zmf_10, ha, hb, nI_m, ea, eb, s1, s2, hkx, zup_ne, zup_at]
/-- puts: an operator ahead of what was made from a place on -/
theorem e_227 {rest : yP} {k : Int32} (hp : zPs h m F cs pos op (qs ++ rest)) (hk : ynk (qs ++ rest)) (hkk : ynr k = k) (hl : (qs ++ rest).length < 700) : ∃ h', zcall zP sv (d + 1) 227 [.ref m, .int k, .int (nI qs.length)] h = some (.inl none, h') ∧ zPs h' m F cs pos op (qs ++ (k, 0) :: rest) ∧ zfm m h h' := by
  obtain ⟨⟨G, g, g1, g2, g3, g4, g5⟩, ⟨A, B, a1, a2, a3, a4, a5, a6, a7⟩, t1, t2⟩ := hp
  have hla : (qs ++ rest).length = qs.length + rest.length := List.length_append
  have i1 : ∀ (X : List Int32) (f : Int32 × Int32 → Int32), X.take (qs ++ rest).length = (qs ++ rest).map f → ∀ i, i < (qs ++ rest).length → X[i]? = ((qs ++ rest).map f)[i]? := fun X f e i hi => by rw [← e, List.getElem?_take, if_pos hi]
  obtain ⟨h', A', B', e, w1, w2, w3, w4, w5, w6, w7, w8, w9, w10⟩ := e_227l (sv := sv) (C := zcall zP sv d) (m := m) (L := qs ++ rest) (p := qs.length) (k := k) (G := G) hl (by omega) hk rest.length (qs ++ rest).length h A B hla (Nat.le_refl _) g a1 a2 a3 a4 (fun i hi => i1 A _ a5 i hi) (fun i j1 j2 => absurd j2 (by omega)) (fun i hi => i1 B _ a6 i hi) (fun i j1 j2 => absurd j2 (by omega))
  have m1 : h'.1 m = (13, zMF m G) := by rw [w9 m (by omega) (by omega), g]
  have s1 : ∀ Kc : zC → zR, zaset (21, A'.map Value.int) 21 (nI qs.length) (.int k) Kc = Kc (21, (A'.set qs.length (ynr k)).map Value.int) := fun Kc => zsC (by omega) (by omega)
  have s2 : ∀ Kc : zC → zR, zaset (20, B'.map Value.int) 20 (nI qs.length) (.int 0) Kc = Kc (20, (B'.set qs.length 0).map Value.int) := fun Kc => zsI (by omega) (by omega)
  have hln : (qs ++ (k, (0 : Int32)) :: rest).length = (qs ++ rest).length + 1 := by rw [List.length_append, List.length_append, List.length_cons]; omega
  have ml : ∀ f : Int32 × Int32 → Int32, ((qs ++ rest).map f).length = (qs ++ rest).length := fun f => List.length_map ..
  have sp : ∀ f : Int32 × Int32 → Int32, ((qs ++ rest).map f).take qs.length ++ f (k, 0) :: ((qs ++ rest).map f).drop qs.length = (qs ++ (k, 0) :: rest).map f := fun f => by
    rw [← List.map_take, ← List.map_drop, List.take_left, List.drop_left, List.map_append, List.map_cons]
  refine ⟨zup (zup (zup h' (m + 7) (21, (A'.set qs.length k).map Value.int)) (m + 8) (20, (B'.set qs.length 0).map Value.int)) m (13, zMF m (yup G 11 (nI ((qs ++ rest).length + 1)))), ?_, ⟨⟨yup G 11 (nI ((qs ++ rest).length + 1)), zup_at, (yup_ne (by omega)).trans g1, (yup_ne (by omega)).trans g2, by rw [yup_eq, hln], (yup_ne (by omega)).trans g4, fun k k1 k2 k3 => (yup_ne k3).trans (g5 k k1 k2 k3)⟩, ⟨A'.set qs.length k, B'.set qs.length 0, by rw [zup_ne (by omega), zup_ne (by omega), zup_at], by rw [zup_ne (by omega), zup_at], by rw [List.length_set, w3], by rw [List.length_set, w4], ?_, ?_, by rw [hln]; omega⟩, zTx_cg t1 (by rw [zup_ne (by omega), zup_ne (by omega), zup_ne (by omega), w9 _ (by omega) (by omega)]), t2⟩, ⟨fun q q1 q2 q3 => by rw [zup_ne q1, zup_ne q3, zup_ne q2, w9 q q2 q3], w10⟩⟩
  · rw [zc_227]
    have e0 : zrun zP sv (zcall zP sv d) 227 0 [.val (.ref m), .val (.int k), .val (.int (nI qs.length)), .unset] [] h = zrun zP sv (zcall zP sv d) 227 5 [.val (.ref m), .val (.int k), .val (.int (nI qs.length)), .val (.int (nI (qs ++ rest).length))] [] h := by
      simp (disch := exact znw_u) only [zs_227_0, zs_227_0n, zs_227_1, zs_227_4, zs_227_6, zs_227_7, zs_227_10, zs_227_10n, zs_227_11, zs_227_14, zs_227_15, zs_227_15n, zs_227_16, zs_227_19, zs_227_20, zs_227_21, zs_227_22, zs_227_23, zs_227_24, zs_227_24n, zs_227_25, zs_227_28, zs_227_29, zs_227_29n, zs_227_30, zs_227_33, zs_227_34, zs_227_35, zs_227_36, zs_227_37, zs_227_38, zs_227_41, zs_227_44, zs_227_44n, zs_227_45, zs_227_48, zs_227_49, zs_227_50, zs_227_51, zs_227_51n, zs_227_52, zs_227_55, zs_227_56, zs_227_57, zs_227_58, zs_227_58n, zs_227_59, zs_227_60, zs_227_63, zs_227_64, zs_227_65, zs_227_68, g, zmf_11, g3]
    rw [e0, e]
    simp (disch := omega) only [zs_227_0, zs_227_0n, zs_227_1, zs_227_4, zs_227_5, zs_227_6, zs_227_7, zs_227_10, zs_227_10n, zs_227_11, zs_227_14, zs_227_15, zs_227_15n, zs_227_16, zs_227_19, zs_227_20, zs_227_21, zs_227_22, zs_227_23, zs_227_24, zs_227_24n, zs_227_25, zs_227_28, zs_227_29, zs_227_29n, zs_227_30, zs_227_33, zs_227_34, zs_227_35, zs_227_36, zs_227_37, zs_227_38, zs_227_41, zs_227_44, zs_227_44n, zs_227_45, zs_227_48, zs_227_49, zs_227_50, zs_227_51, zs_227_51n, zs_227_52, zs_227_55, zs_227_56, zs_227_57, zs_227_58, zs_227_58n, zs_227_59, zs_227_60, zs_227_63, zs_227_64, zs_227_65, zs_227_68, m1, zmf_9, zmf_10, zmf_11, w1, w2, s1, s2, hkk, zup_ne, zup_at, g3, nI_1', zmp_11]
  · rw [hln, ysh_tk (n := (qs ++ rest).length) (by omega) (ml _) (by omega) w5 w6]
    exact sp _
  · rw [hln, ysh_tk (n := (qs ++ rest).length) (by omega) (ml _) (by omega) w7 w8]
    exact sp _
end ZPB
