def yva (k v : Int32) : Int32 := if k = nI 118 then v - nI 97 else v
/-- a term's nodes in prefix order, as the model keeps them -/
def ypr : yT → yP
  | .leaf => []
  | .inner _ k v l r => (k, yva k v) :: (ypr l ++ ypr r)
theorem ypr_len : ∀ t : yT, (ypr t).length = ysz t
  | .leaf => rfl
  | .inner _ k v l r => by
    show (ypr l ++ ypr r).length + 1 = ysz l + ysz r + 1
    rw [List.length_append, ypr_len l, ypr_len r]
theorem nad0 {n : Nat} : nI (n + 1) + (0 - nI 1) = nI n := by
  rw [← nI_add n 1, Int32.add_assoc, show nI 1 + (0 - nI 1) = (0 : Int32) by decide +kernel, Int32.add_zero]
theorem nad1 {n : Nat} : nI n + (nI 1 - nI 1) = nI n := by
  rw [show nI 1 - nI 1 = (0 : Int32) by decide +kernel, Int32.add_zero]
theorem nad2 {n : Nat} : nI n + (nI 2 - nI 1) = nI (n + 1) := by
  rw [show nI 2 - nI 1 = nI 1 by decide +kernel, nI_add]
theorem yar_c : yar (nI 99) = 0 := by decide +kernel
theorem yar_v : yar (nI 118) = 0 := by decide +kernel
theorem yar_n : yar (nI 110) = nI 1 := by decide +kernel
theorem yar_o {k : Int32} (hk : yis k = true) : yar k = nI 2 := by
  rcases yis_k hk with g | g | g <;> rw [g] <;> decide +kernel
theorem ynr_99 : ynr (nI 99) = nI 99 := by decide +kernel
theorem ynr_118 : ynr (nI 118) = nI 118 := by decide +kernel
theorem ynr_110 : ynr (nI 110) = nI 110 := by decide +kernel
theorem ynr_o {k : Int32} (hk : yis k = true) : ynr k = k := by
  rcases yis_k hk with g | g | g <;> rw [g] <;> decide +kernel
section ZFD
variable {sv : Nat → Value} {d : Nat} {h : zH} {m : Nat} {F : Nat → Int32} {qs ps : yP}
theorem e_209s {nd : Value} {i n : Nat} {k v : Int32} (hm : zMo h m F) (hl : zLst h (m + 5) (m + 6) ps) (hi : ps[i]? = some (k, v)) (hn : n < 2 ^ 30) : zrun zP sv (zcall zP sv (d + 1)) 209 4 [.val (.ref m), .val nd, .val (.int (nI i)), .val (.int (nI (n + 1)))] [] h = zrun zP sv (zcall zP sv (d + 1)) 209 4 [.val (.ref m), .val nd, .val (.int (nI (i + 1))), .val (.int (nI (n + 1) + (yar k - nI 1)))] [] h := by
  obtain ⟨A, B, a1, a2, a3, a4, a5⟩ := e_look hl hi
  unfold zMo at hm
  have g1 : (0 : Int32) < nI (n + 1) := by rw [← nI_0]; exact nI_lt (by omega) (by omega)
  rw [zs_209_4, zs_209_5, if_pos g1]
  simp (disch := exact znw_i) only [zs_209_0, zs_209_1, zs_209_2, zs_209_3, zs_209_8, zs_209_9, zs_209_9n, zs_209_10, zs_209_13, zs_209_14, zs_209_17, zs_209_18, zs_209_21, zs_209_22, zs_209_23, zs_209_24, zs_209_28, zs_209_29, hm, zmf_6, a1, a3, e_205, nI_1', zbk_v, zts_s]
  rw [zs_209_25]
theorem e_209l {nd : Value} (hm : zMo h m F) : ∀ (t : yT), ytw t = true → ∀ (pre post : yP) (n : Nat), zLst h (m + 5) (m + 6) (pre ++ ypr t ++ post) → n + ysz t < 2 ^ 30 → zrun zP sv (zcall zP sv (d + 1)) 209 4 [.val (.ref m), .val nd, .val (.int (nI pre.length)), .val (.int (nI (n + 1)))] [] h = zrun zP sv (zcall zP sv (d + 1)) 209 4 [.val (.ref m), .val nd, .val (.int (nI (pre.length + ysz t))), .val (.int (nI n))] [] h
  | .leaf, ht => by cases ht
  | .inner z k v l r, ht => by
    intro pre post n hl hn
    have hn' : n + (ysz l + ysz r + 1) < 2 ^ 30 := hn
    have e0 : pre ++ ypr (.inner z k v l r) ++ post = pre ++ (k, yva k v) :: (ypr l ++ ypr r ++ post) := by
      show pre ++ (k, yva k v) :: (ypr l ++ ypr r) ++ post = _
      rw [List.append_assoc]; rfl
    have hi : (pre ++ (k, yva k v) :: (ypr l ++ ypr r ++ post))[pre.length]? = some (k, yva k v) := by
      rw [List.getElem?_append_right (Nat.le_refl _), Nat.sub_self]; rfl
    rw [e0] at hl
    rw [e_209s hm hl hi (by omega)]
    have ea : pre ++ (k, yva k v) :: (ypr l ++ ypr r ++ post) = (pre ++ [(k, yva k v)]) ++ ypr l ++ (ypr r ++ post) := by
      rw [List.append_assoc, List.append_assoc, List.append_assoc]; rfl
    have eb : pre ++ (k, yva k v) :: (ypr l ++ ypr r ++ post) = (pre ++ [(k, yva k v)] ++ ypr l) ++ ypr r ++ post := by
      rw [ea]
      simp only [List.append_assoc]
    have l1 : (pre ++ [(k, yva k v)]).length = pre.length + 1 := List.length_append
    have l2 : (pre ++ [(k, yva k v)] ++ ypr l).length = pre.length + 1 + ysz l := by rw [List.length_append, l1, ypr_len]
    rcases ytw_el ht with g | g | g | g
    · obtain ⟨g1, g2, g3⟩ := g
      subst g1 g2 g3
      rw [yar_c, nad0]
      rfl
    · obtain ⟨g1, g4, g2, g3⟩ := g
      subst g1 g2 g3
      rw [yar_v, nad0]
      rfl
    · obtain ⟨g1, _, g2, g3⟩ := g
      subst g1 g3
      rw [yar_n, nad1]
      rw [ea] at hl
      have := e_209l (nd := nd) hm l g2 (pre ++ [(nI 110, yva (nI 110) v)]) (ypr .leaf ++ post) n hl (by omega)
      rw [l1] at this
      rw [this]
      show zrun _ _ _ _ _ [_, _, .val (.int (nI (pre.length + 1 + ysz l))), _] _ _ = zrun _ _ _ _ _ [_, _, .val (.int (nI (pre.length + (ysz l + 0 + 1)))), _] _ _
      rw [show pre.length + 1 + ysz l = pre.length + (ysz l + 0 + 1) by omega]
    · rw [yar_o g.1, nad2]
      have hl1 := hl
      have hl2 := hl
      rw [ea] at hl1
      rw [eb] at hl2
      have i1 := e_209l (nd := nd) hm l g.2.2.1 (pre ++ [(k, yva k v)]) (ypr r ++ post) (n + 1) hl1 (by omega)
      rw [l1] at i1
      rw [i1]
      have i2 := e_209l (nd := nd) hm r g.2.2.2 (pre ++ [(k, yva k v)] ++ ypr l) post n hl2 (by omega)
      rw [l2] at i2
      rw [i2]
      show zrun _ _ _ _ _ [_, _, .val (.int (nI (pre.length + 1 + ysz l + ysz r))), _] _ _ = zrun _ _ _ _ _ [_, _, .val (.int (nI (pre.length + (ysz l + ysz r + 1)))), _] _ _
      rw [show pre.length + 1 + ysz l + ysz r = pre.length + (ysz l + ysz r + 1) by omega]
theorem e_209 {t : yT} {pre post : yP} (hm : zMo h m F) (ht : ytw t = true) (hl : zLst h (m + 5) (m + 6) (pre ++ ypr t ++ post)) : zcall zP sv (d + 2) 209 [.ref m, .int (nI pre.length)] h = some (.inl (some (.int (nI (pre.length + ysz t)))), h) := by
  have hs : ysz t ≤ 700 := by
    obtain ⟨A, B, _, _, _, _, _, _, a7⟩ := hl
    rw [List.length_append, List.length_append, ypr_len] at a7
    omega
  have e1 := e_209l (sv := sv) (d := d) (nd := .int (nI pre.length)) hm t ht pre post 0 hl (by omega)
  rw [zc_209]
  simp (disch := exact znw_u) only [zs_209_0, zs_209_1, zs_209_2, zs_209_3, zs_209_5, zs_209_8, zs_209_9, zs_209_9n, zs_209_10, zs_209_13, zs_209_14, zs_209_17, zs_209_18, zs_209_21, zs_209_22, zs_209_23, zs_209_24, zs_209_25, zs_209_28, zs_209_29]
  rw [Nat.zero_add] at e1
  rw [e1, nI_0]
  simp only [zs_209_0, zs_209_1, zs_209_2, zs_209_3, zs_209_4, zs_209_5, zs_209_8, zs_209_9, zs_209_9n, zs_209_10, zs_209_13, zs_209_14, zs_209_17, zs_209_18, zs_209_21, zs_209_22, zs_209_23, zs_209_24, zs_209_25, zs_209_28, zs_209_29, Int32.lt_irrefl, ↓reduceIte]
theorem zLst_set {a b i : Nat} {L : yP} {k v : Int32} (hl : zLst h a b L) (hab : a ≠ b) (hi : i < L.length) (hk : ynr k = k) : ∀ A B : List Int32, h.1 a = (21, A.map Value.int) → h.1 b = (20, B.map Value.int) → zLst (zup (zup h a (21, (A.set i k).map Value.int)) b (20, (B.set i v).map Value.int)) a b (L.set i (k, v)) := by
  intro A' B' e1 e2
  obtain ⟨A, B, a1, a2, a3, a4, a5, a6, a7⟩ := hl
  have hA : A'.map Value.int = A.map Value.int := by rw [e1] at a1; exact (Prod.mk.inj a1).2
  have hB : B'.map Value.int = B.map Value.int := by rw [e2] at a2; exact (Prod.mk.inj a2).2
  have inj : ∀ X Y : List Int32, X.map Value.int = Y.map Value.int → X = Y := fun X Y e => by
    have := List.map_inj_right (f := Value.int) (l := X) (l' := Y) (fun x y g => by injection g)
    exact this.mp e
  obtain rfl := inj _ _ hA
  obtain rfl := inj _ _ hB
  refine ⟨A'.set i k, B'.set i v, by rw [zup_ne hab, zup_at], zup_at, by rw [List.length_set, a3], by rw [List.length_set, a4], ?_, ?_, by rw [List.length_set]; exact a7⟩
  · rw [List.length_set, List.take_set, a5, List.map_set]
  · rw [List.length_set, List.take_set, a6, List.map_set]
end ZFD
