/-- a formula's block in the model's table: N at b is its size, then its nodes -/
def ybk (N : List Int32) (b : Nat) (p : yP) : Prop := N[b]? = some (nI p.length) ∧ (∀ (k : Nat) (x : Int32 × Int32), p[k]? = some x → N[b + 1 + 2 * k]? = some x.1 ∧ N[b + 2 + 2 * k]? = some x.2) ∧ p.length ≤ 31 ∧ b + 63 ≤ 387 ∧ ynk p
def zTab (h : zH) (a : Nat) (N : List Int32) : Prop := h.1 a = (20, N.map Value.int) ∧ N.length = 387
theorem zTab_cg {h h' : zH} {a : Nat} {N : List Int32} (ht : zTab h a N) (h1 : h'.1 a = h.1 a) : zTab h' a N := ⟨h1.trans ht.1, ht.2⟩
theorem ynr_c {x : Int32} : (x.toUInt32 % 65536).toInt32 = ynr x := by
  unfold ynr
  rw [UInt32.toUInt32_toUInt16]
theorem nI_fb {f : Nat} : nI 9 + nI 63 * nI f = nI (9 + 63 * f) := by rw [nI_mulx, nI_add]
theorem nI_b1 {b j : Nat} : nI b + nI 1 + nI 2 * nI j = nI (b + 1 + 2 * j) := by rw [nI_mulx, nI_add, nI_add]
theorem nI_b2 {b j : Nat} : nI b + nI 2 + nI 2 * nI j = nI (b + 2 + 2 * j) := by rw [nI_mulx, nI_add, nI_add]
section ZLA
variable {sv : Nat → Value} {d : Nat} {m b : Nat} {F : Nat → Int32} {p : yP} {N : List Int32}
theorem e_206l (hb : ybk N b p) (h8 : F 8 = nI p.length) {l1 : Slot} : ∀ n j (h : zH), j + n = p.length → h.1 m = (13, zMF m F) → zTab h (m + 1) N → zLst h (m + 5) (m + 6) (p.take j) → ∃ h', zrun zP sv (zcall zP sv d) 206 20 [.val (.ref m), l1, .val (.int (nI b)), .val (.int (nI j))] [] h = some (.inl none, h') ∧ zLst h' (m + 5) (m + 6) p ∧ (∀ q, q ≠ m + 5 → q ≠ m + 6 → h'.1 q = h.1 q) ∧ h'.2 = h.2 := by
  intro n
  induction n with
  | zero =>
    intro j h hj hm hd hl
    obtain rfl : j = p.length := by omega
    rw [List.take_length] at hl
    refine ⟨h, ?_, hl, fun _ _ _ => rfl, rfl⟩
    simp only [zs_206_0, zs_206_2, zs_206_4, zs_206_5, zs_206_6, zs_206_7, zs_206_8, zs_206_8n, zs_206_9, zs_206_9n, zs_206_10, zs_206_13, zs_206_14, zs_206_15, zs_206_18, zs_206_19, zs_206_20, zs_206_21, zs_206_21n, zs_206_22, zs_206_25, zs_206_28, zs_206_28n, zs_206_29, zs_206_32, zs_206_33, zs_206_33n, zs_206_34, zs_206_37, zs_206_38, zs_206_39, zs_206_40, zs_206_41, zs_206_42, zs_206_43, zs_206_44, zs_206_45, zs_206_46, zs_206_47, zs_206_47n, zs_206_48, zs_206_51, zs_206_52, zs_206_52n, zs_206_53, zs_206_56, zs_206_57, zs_206_58, zs_206_59, zs_206_60, zs_206_61, zs_206_62, zs_206_63, zs_206_64, zs_206_65, zs_206_68, zs_206_71, hm, zmf_8, h8, Int32.lt_irrefl, ↓reduceIte]
  | succ n ih =>
    intro j h hj hm hd hl
    obtain ⟨x, hx⟩ : ∃ x, p[j]? = some x := ⟨_, List.getElem?_eq_getElem (by omega)⟩
    obtain ⟨c1, c2, c3, c4, c5⟩ := hb
    obtain ⟨a3, a4⟩ := c2 j x hx
    have a3' : ∀ Kv, zael (20, N.map Value.int) 20 (nI (b + 1 + 2 * j)) Kv = Kv (.int x.1) := fun Kv => zaelv (by rw [List.getElem?_map, a3]; rfl) (by omega)
    have a4' : ∀ Kv, zael (20, N.map Value.int) 20 (nI (b + 2 + 2 * j)) Kv = Kv (.int x.2) := fun Kv => zaelv (by rw [List.getElem?_map, a4]; rfl) (by omega)
    have hkx := c5 x (List.mem_of_getElem? hx)
    have hN := hd.1
    obtain ⟨A', B', b1, b2, b3, b4, b5, b6, b7⟩ := hl
    have hjl : (p.take j).length = j := by rw [List.length_take]; omega
    rw [hjl] at b5 b6
    have s1 : ∀ Kc : zC → zR, zaset (21, A'.map Value.int) 21 (nI j) (.int x.1) Kc = Kc (21, (A'.set j (ynr x.1)).map Value.int) := fun Kc => zsC (by omega) (by omega)
    have s2 : ∀ Kc : zC → zR, zaset (20, B'.map Value.int) 20 (nI j) (.int x.2) Kc = Kc (20, (B'.set j x.2).map Value.int) := fun Kc => zsI (by omega) (by omega)
    have htk : (p.take (j + 1)).length = j + 1 := by rw [List.length_take]; omega
    have w : zLst (zup (zup h (m + 5) (21, (A'.set j x.1).map Value.int)) (m + 6) (20, (B'.set j x.2).map Value.int)) (m + 5) (m + 6) (p.take (j + 1)) := by
      refine ⟨A'.set j x.1, B'.set j x.2, by rw [zup_ne (by omega), zup_at], zup_at, by rw [List.length_set, b3], by rw [List.length_set, b4], ?_, ?_, by rw [htk]; omega⟩
      · rw [htk, ytk_set b5 (by omega), List.take_add_one, hx, List.map_append]; rfl
      · rw [htk, ytk_set b6 (by omega), List.take_add_one, hx, List.map_append]; rfl
    obtain ⟨h', e, q1, q2, q3⟩ := ih (j + 1) _ (by omega) (by rw [zup_ne (by omega), zup_ne (by omega), hm]) (zTab_cg hd (by rw [zup_ne (by omega), zup_ne (by omega)])) w
    refine ⟨h', ?_, q1, fun q p1 p2 => by rw [q2 q p1 p2, zup_ne p2, zup_ne p1], q3⟩
    have g1 : nI j < nI p.length := nI_lt (by omega) (by omega)
    simp (disch := first | exact znw_i | omega) only [zs_206_0, zs_206_2, zs_206_4, zs_206_5, zs_206_6, zs_206_7, zs_206_8, zs_206_8n, zs_206_9, zs_206_9n, zs_206_10, zs_206_13, zs_206_14, zs_206_15, zs_206_18, zs_206_19, zs_206_20, zs_206_21, zs_206_21n, zs_206_22, zs_206_25, zs_206_28, zs_206_28n, zs_206_29, zs_206_32, zs_206_33, zs_206_33n, zs_206_34, zs_206_37, zs_206_38, zs_206_39, zs_206_40, zs_206_41, zs_206_42, zs_206_43, zs_206_44, zs_206_45, zs_206_46, zs_206_47, zs_206_47n, zs_206_48, zs_206_51, zs_206_52, zs_206_52n, zs_206_53, zs_206_56, zs_206_57, zs_206_58, zs_206_59, zs_206_60, zs_206_61, zs_206_62, zs_206_63, zs_206_64, zs_206_71, hm, zmf_0, zmf_6, zmf_7, zmf_8, h8, if_pos g1, hN, nI_mulx, nI_add, a3', a4', ynr_c, hkx, b1, b2, s1, zup_ne, s2]
    rw [zs_206_65, zs_206_68, nI_1']
    exact e
theorem e_206 {f : Nat} {p0 : yP} {h : zH} (hb : ybk N (9 + 63 * f) p) (hm : zMo h m F) (hN : zTab h (m + 1) N) (hl : zLst h (m + 5) (m + 6) p0) : ∃ h', zcall zP sv (d + 1) 206 [.ref m, .int (nI f)] h = some (.inl none, h') ∧ zMo h' m (yup F 8 (nI p.length)) ∧ zLst h' (m + 5) (m + 6) p ∧ (∀ q, q ≠ m → q ≠ m + 5 → q ≠ m + 6 → h'.1 q = h.1 q) ∧ h'.2 = h.2 := by
  unfold zMo at hm
  have h0 : zLst h (m + 5) (m + 6) (p.take 0) := by
    rw [List.take_zero]
    exact zLst_pre (ps := []) (qs := p0) hl
  have c1 : ∀ Kv, zael (20, N.map Value.int) 20 (nI (9 + 63 * f)) Kv = Kv (.int (nI p.length)) := fun Kv => zaelv (by rw [List.getElem?_map, hb.1]; rfl) (by have := hb.2.2.2.1; omega)
  obtain ⟨h', e, q1, q2, q3⟩ := e_206l (sv := sv) (d := d) (F := yup F 8 (nI p.length)) (l1 := .val (.int (nI f))) hb yup_eq p.length 0 (zup h m (13, zMF m (yup F 8 (nI p.length)))) (Nat.zero_add _) zup_at (zTab_cg hN (zup_ne (by omega))) (zLst_cg h0 (zup_ne (by omega)) (zup_ne (by omega)))
  rw [nI_0] at e
  refine ⟨h', ?_, ?_, q1, fun q p1 p2 p3 => by rw [q2 q p2 p3, zup_ne p1], q3⟩
  · rw [zc_206]
    simp (disch := exact znw_u) only [zs_206_0, zs_206_2, zs_206_4, zs_206_5, zs_206_6, zs_206_7, zs_206_8, zs_206_9, zs_206_10, zs_206_13, zs_206_14, zs_206_15, zs_206_18, zs_206_19, nI_fb, hm, zmf_0, hN.1, c1, zmp_8]
    exact e
  · unfold zMo
    rw [q2 m (by omega) (by omega), zup_at]
/-- lays: what is looked at becomes a block; the table's other places stay -/
def yaw (N N' : List Int32) (b : Nat) : Prop := ∀ i, i < b ∨ b + 63 ≤ i → N'[i]? = N[i]?
theorem yaw_set {N N' : List Int32} {b i : Nat} {x : Int32} (h : yaw N N' b) (h1 : b ≤ i) (h2 : i < b + 63) : yaw N (N'.set i x) b := fun k hk => by
  rw [List.getElem?_set_ne (by omega)]
  exact h k hk
theorem e_208z (hb : b + 63 ≤ 387) {l1 : Slot} {C : Nat → List Value → zH → zR} {N0 : List Int32} : ∀ n j (h : zH) (N : List Int32), j + n = 63 → h.1 m = (13, zMF m F) → zTab h (m + 1) N → yaw N0 N b → ∃ (h' : zH) (N' : List Int32), zrun zP sv C 208 10 [.val (.ref m), l1, .val (.int (nI b)), .val (.int (nI j))] [] h = zrun zP sv C 208 31 [.val (.ref m), l1, .val (.int (nI b)), .val (.int (nI 63))] [] h' ∧ zTab h' (m + 1) N' ∧ yaw N0 N' b ∧ (∀ q, q ≠ m + 1 → h'.1 q = h.1 q) ∧ h'.2 = h.2 := by
  intro n
  induction n with
  | zero =>
    intro j h N hj hm hN hw
    obtain rfl : j = 63 := by omega
    refine ⟨h, N, ?_, hN, hw, fun _ _ => rfl, rfl⟩
    simp only [zs_208_10, zs_208_11, zs_208_13, Int32.lt_irrefl, ↓reduceIte]
  | succ n ih =>
    intro j h N hj hm hN hw
    have g1 : nI j < nI 63 := nI_lt (by omega) (by omega)
    have hN1 := hN.1
    have hN2 := hN.2
    have s1 : ∀ Kc : zC → zR, zaset (20, N.map Value.int) 20 (nI (b + j)) (.int 0) Kc = Kc (20, (N.set (b + j) 0).map Value.int) := fun Kc => zsI (by omega) (by omega)
    obtain ⟨h', N', e, a1, a2, a3, a4⟩ := ih (j + 1) (zup h (m + 1) (20, (N.set (b + j) 0).map Value.int)) (N.set (b + j) 0) (by omega) (by rw [zup_ne (by omega), hm]) ⟨zup_at, by rw [List.length_set, hN2]⟩ (yaw_set hw (by omega) (by omega))
    refine ⟨h', N', ?_, a1, a2, fun q hq => by rw [a3 q hq, zup_ne hq], a4⟩
    rw [← e]
    have e0 : zrun zP sv C 208 25 [.val (.ref m), l1, .val (.int (nI b)), .val (.int (nI j))] [] (zup h (m + 1) (20, (N.set (b + j) 0).map Value.int)) = zrun zP sv C 208 10 [.val (.ref m), l1, .val (.int (nI b)), .val (.int (nI (j + 1)))] [] (zup h (m + 1) (20, (N.set (b + j) 0).map Value.int)) := by rw [zs_208_25, zs_208_28, nI_1']
    rw [← e0]
    simp (disch := first | exact znw_i | omega) only [zs_208_10, zs_208_11, zs_208_13, zs_208_16, zs_208_17, zs_208_20, zs_208_21, zs_208_22, zs_208_23, zs_208_24, if_pos g1, hm, zmf_0, hN1, nI_add, s1]
theorem e_208l (h8 : F 8 = nI p.length) (hp : p.length ≤ 31) (hb : b + 63 ≤ 387) (hk : ynk p) {l1 : Slot} {N0 : List Int32} : ∀ n j (h : zH) (N : List Int32), j + n = p.length → h.1 m = (13, zMF m F) → zLst h (m + 5) (m + 6) p → zTab h (m + 1) N → yaw N0 N b → N[b]? = some (nI p.length) → (∀ (k : Nat) (x : Int32 × Int32), k < j → p[k]? = some x → N[b + 1 + 2 * k]? = some x.1 ∧ N[b + 2 + 2 * k]? = some x.2) → ∃ (h' : zH) (N' : List Int32), zrun zP sv (zcall zP sv d) 208 43 [.val (.ref m), l1, .val (.int (nI b)), .val (.int (nI j))] [] h = some (.inl none, h') ∧ zTab h' (m + 1) N' ∧ yaw N0 N' b ∧ ybk N' b p ∧ (∀ q, q ≠ m + 1 → h'.1 q = h.1 q) ∧ h'.2 = h.2 := by
  intro n
  induction n with
  | zero =>
    intro j h N hj hm hl hN hw hn hpre
    obtain rfl : j = p.length := by omega
    refine ⟨h, N, ?_, hN, hw, ⟨hn, fun k x hx => hpre k x (List.getElem?_eq_some_iff.mp hx).1 hx, hp, hb, hk⟩, fun _ _ => rfl, rfl⟩
    simp only [zs_208_0, zs_208_2, zs_208_4, zs_208_5, zs_208_6, zs_208_7, zs_208_8, zs_208_9, zs_208_10, zs_208_11, zs_208_13, zs_208_16, zs_208_16n, zs_208_17, zs_208_20, zs_208_21, zs_208_22, zs_208_23, zs_208_24, zs_208_25, zs_208_28, zs_208_31, zs_208_31n, zs_208_32, zs_208_35, zs_208_36, zs_208_36n, zs_208_37, zs_208_40, zs_208_41, zs_208_42, zs_208_43, zs_208_44, zs_208_44n, zs_208_45, zs_208_48, zs_208_51, zs_208_51n, zs_208_52, zs_208_55, zs_208_56, zs_208_57, zs_208_58, zs_208_59, zs_208_60, zs_208_61, zs_208_62, zs_208_62n, zs_208_63, zs_208_66, zs_208_67, zs_208_68, zs_208_69, zs_208_69n, zs_208_70, zs_208_73, zs_208_74, zs_208_75, zs_208_76, zs_208_77, zs_208_78, zs_208_79, zs_208_80, zs_208_80n, zs_208_81, zs_208_84, zs_208_85, zs_208_86, zs_208_87, zs_208_90, zs_208_93, hm, zmf_8, h8, Int32.lt_irrefl, ↓reduceIte]
  | succ n ih =>
    intro j h N hj hm hl hN hw hn hpre
    obtain ⟨x, hx⟩ : ∃ x, p[j]? = some x := ⟨_, List.getElem?_eq_getElem (by omega)⟩
    obtain ⟨A, B, a1, a2, a3, a4, a5⟩ := e_look (k := x.1) (v := x.2) hl hx
    have hN1 := hN.1
    have hN2 := hN.2
    have s1 : ∀ Kc : zC → zR, zaset (20, N.map Value.int) 20 (nI (b + 1 + 2 * j)) (.int x.1) Kc = Kc (20, (N.set (b + 1 + 2 * j) x.1).map Value.int) := fun Kc => zsI (by omega) (by omega)
    have s2 : ∀ Kc : zC → zR, zaset (20, (N.set (b + 1 + 2 * j) x.1).map Value.int) 20 (nI (b + 2 + 2 * j)) (.int x.2) Kc = Kc (20, ((N.set (b + 1 + 2 * j) x.1).set (b + 2 + 2 * j) x.2).map Value.int) := fun Kc => zsI (by rw [List.length_set]; omega) (by rw [List.length_set]; omega)
    obtain ⟨h', N', e, q1, q2, q3, q4, q5⟩ := ih (j + 1) (zup (zup h (m + 1) (20, (N.set (b + 1 + 2 * j) x.1).map Value.int)) (m + 1) (20, ((N.set (b + 1 + 2 * j) x.1).set (b + 2 + 2 * j) x.2).map Value.int)) _ (by omega) (by rw [zup_ne (by omega), zup_ne (by omega), hm]) (zLst_cg hl (by rw [zup_ne (by omega), zup_ne (by omega)]) (by rw [zup_ne (by omega), zup_ne (by omega)])) ⟨zup_at, by rw [List.length_set, List.length_set, hN2]⟩ (yaw_set (yaw_set hw (by omega) (by omega)) (by omega) (by omega)) (by rw [List.getElem?_set_ne (by omega), List.getElem?_set_ne (by omega), hn]) (by
      intro k y hk1 hy
      by_cases hkj : k = j
      · subst hkj
        rw [hx] at hy
        obtain rfl := Option.some.inj hy
        exact ⟨by rw [List.getElem?_set_ne (by omega), List.getElem?_set_self (by omega)], by rw [List.getElem?_set_self (by rw [List.length_set]; omega)]⟩
      · obtain ⟨z1, z2⟩ := hpre k y (by omega) hy
        exact ⟨by rw [List.getElem?_set_ne (by omega), List.getElem?_set_ne (by omega), z1], by rw [List.getElem?_set_ne (by omega), List.getElem?_set_ne (by omega), z2]⟩)
    refine ⟨h', N', ?_, q1, q2, q3, fun q p1 => by rw [q4 q p1, zup_ne p1, zup_ne p1], q5⟩
    have g1 : nI j < nI p.length := nI_lt (by omega) (by omega)
    simp (disch := first | exact znw_i | omega) only [zs_208_0, zs_208_2, zs_208_4, zs_208_5, zs_208_6, zs_208_7, zs_208_8, zs_208_9, zs_208_11, zs_208_13, zs_208_16, zs_208_16n, zs_208_17, zs_208_20, zs_208_21, zs_208_22, zs_208_23, zs_208_24, zs_208_25, zs_208_28, zs_208_31, zs_208_31n, zs_208_32, zs_208_35, zs_208_36, zs_208_36n, zs_208_37, zs_208_40, zs_208_41, zs_208_42, zs_208_43, zs_208_44, zs_208_44n, zs_208_45, zs_208_48, zs_208_51, zs_208_51n, zs_208_52, zs_208_55, zs_208_56, zs_208_57, zs_208_58, zs_208_59, zs_208_60, zs_208_61, zs_208_62, zs_208_62n, zs_208_63, zs_208_66, zs_208_67, zs_208_68, zs_208_69, zs_208_69n, zs_208_70, zs_208_73, zs_208_74, zs_208_75, zs_208_76, zs_208_77, zs_208_78, zs_208_79, zs_208_80, zs_208_80n, zs_208_81, zs_208_84, zs_208_85, zs_208_86, zs_208_93, hm, zmf_0, zmf_6, zmf_7, zmf_8, h8, if_pos g1, hN1, nI_mulx, nI_add, a1, a2, a3, a4, s1, zup_ne, zup_at, s2]
    rw [zs_208_87, zs_208_90, nI_1']
    exact e
theorem e_208 {f : Nat} {h : zH} (hf : f < 6) (hm : zMo h m F) (h8 : F 8 = nI p.length) (hp : p.length ≤ 31) (hk : ynk p) (hl : zLst h (m + 5) (m + 6) p) (hN : zTab h (m + 1) N) : ∃ (h' : zH) (N' : List Int32), zcall zP sv (d + 1) 208 [.ref m, .int (nI f)] h = some (.inl none, h') ∧ zTab h' (m + 1) N' ∧ yaw N N' (9 + 63 * f) ∧ ybk N' (9 + 63 * f) p ∧ (∀ q, q ≠ m + 1 → h'.1 q = h.1 q) ∧ h'.2 = h.2 := by
  unfold zMo at hm
  rw [zc_208]
  simp (disch := exact znw_u) only [zs_208_0, zs_208_2, zs_208_4, zs_208_5, zs_208_6, zs_208_7, zs_208_8, zs_208_9, nI_fb]
  rw [← nI_0]
  obtain ⟨h1, N1, e1, a1, a2, a3, a4⟩ := e_208z (sv := sv) (C := zcall zP sv d) (m := m) (b := 9 + 63 * f) (F := F) (by omega) (l1 := .val (.int (nI f))) (N0 := N) 63 0 h N (Nat.zero_add _) hm hN (fun _ _ => rfl)
  have b1 : h1.1 m = (13, zMF m F) := by rw [a3 m (by omega), hm]
  have a1' := a1.1
  have a1'' := a1.2
  have s1 : ∀ Kc : zC → zR, zaset (20, N1.map Value.int) 20 (nI (9 + 63 * f)) (.int (nI p.length)) Kc = Kc (20, (N1.set (9 + 63 * f) (nI p.length)).map Value.int) := fun Kc => zsI (by omega) (by omega)
  obtain ⟨h', N', e, q1, q2, q3, q4, q5⟩ := e_208l (sv := sv) (d := d) (m := m) (b := 9 + 63 * f) (F := F) (p := p) h8 hp (by omega) hk (l1 := .val (.int (nI f))) (N0 := N) p.length 0 (zup h1 (m + 1) (20, (N1.set (9 + 63 * f) (nI p.length)).map Value.int)) _ (Nat.zero_add _) (by rw [zup_ne (by omega), b1]) (zLst_cg hl (by rw [zup_ne (by omega), a3 _ (by omega)]) (by rw [zup_ne (by omega), a3 _ (by omega)])) ⟨zup_at, by rw [List.length_set, a1'']⟩ (yaw_set a2 (by omega) (by omega)) (by rw [List.getElem?_set_self (by omega)]) (fun k x hk => absurd hk (Nat.not_lt_zero k))
  refine ⟨h', N', ?_, q1, q2, q3, fun q p1 => by rw [q4 q p1, zup_ne p1, a3 q p1], by rw [q5]; exact a4⟩
  rw [e1]
  simp (disch := exact znw_i) only [zs_208_31, zs_208_32, zs_208_35, zs_208_36, zs_208_37, zs_208_40, zs_208_41, zs_208_42, b1, zmf_0, zmf_8, h8, a1', s1, ← nI_0]
  exact e
end ZLA
