def yfs (f : Int32 → Int32 → Int32 → Int32 → Int32) : yT → List Int32
  | .leaf => []
  | .inner n k v l r => f k v (yfo f l) (yfo f r) :: (yfs f l ++ yfs f r)
theorem yfs_len {f : Int32 → Int32 → Int32 → Int32 → Int32} : ∀ t, (yfs f t).length = ysz t
  | .leaf => rfl
  | .inner n k v l r => by
    show (yfs f l ++ yfs f r).length + 1 = ysz l + ysz r + 1
    rw [List.length_append, yfs_len l, yfs_len r]
/-- the stack's content, and what was found from a place on -/
def zFS (h : zH) (m : Nat) (s : List Int32) (q : Nat) (g : List Int32) : Prop := ∃ St Fd : List Int32, (h.1 (m + 10) = (20, St.map Value.int) ∧ St.length = 700 ∧ St.take s.length = s ∧ s.length ≤ 700) ∧ h.1 (m + 9) = (20, Fd.map Value.int) ∧ Fd.length = 700 ∧ (Fd.drop q).take g.length = g ∧ q + g.length ≤ 700
def zfw (m : Nat) (h h' : zH) : Prop := (∀ q, q ≠ m + 9 → q ≠ m + 10 → h'.1 q = h.1 q) ∧ h'.2 = h.2
theorem zfw_rfl {m : Nat} {h : zH} : zfw m h h := ⟨fun _ _ _ => rfl, rfl⟩
theorem zfw_tr {m : Nat} {h h' h'' : zH} (h1 : zfw m h h') (h2 : zfw m h' h'') : zfw m h h'' := ⟨fun q a b => (h2.1 q a b).trans (h1.1 q a b), h2.2.trans h1.2⟩
theorem nI_m {n : Nat} : nI (n + 1) - nI 1 = nI n := by rw [← nI_add, Int32.add_sub_cancel]
theorem nI_mm {n : Nat} : nI n + (-1) = nI n - nI 1 := by
  have : (-1 : Int32) = -(nI 1) := by decide +kernel
  rw [this, ← Int32.sub_eq_add_neg]
theorem ydrop_set {Fd g : List Int32} {i : Nat} {x : Int32} (hg : (Fd.drop (i + 1)).take g.length = g) (hi : i < Fd.length) : ((Fd.set i x).drop i).take (x :: g).length = x :: g := by
  have e1 : (Fd.set i x).drop i = x :: Fd.drop (i + 1) := by
    rw [List.drop_eq_getElem_cons (by rw [List.length_set]; exact hi), List.getElem_set_self, List.drop_set_of_lt (by omega)]
  rw [e1, List.length_cons, List.take_succ_cons, hg]
section ZFL
variable {sv : Nat → Value} {d : Nat} {m : Nat} {F : Nat → Int32} {ps : yP}
theorem e_213s {h : zH} {i w : Nat} {k v : Int32} {N s0 args g : List Int32} {s4 s5 s6 : Slot} (h4 : znw s4 = true) (h5 : znw s5 = true) (h6 : znw s6 = true) (hm : zMo h m F) (hl : zLst h (m + 5) (m + 6) ps) (hN : h.1 (m + 1) = (20, N.map Value.int)) (hNl : N.length = 387) (hi : ps[i]? = some (k, yva k v)) (hk : yok1 k v) (hw : w < 4) (hn : yar k = nI args.length) (ha : args.length ≤ 2) (hs : zFS h m (s0 ++ args) (i + 1) g) (hsl : s0.length < 600) : ∃ h' r4 r5 r6, zrun zP sv (zcall zP sv (d + 2)) 213 9 [.val (.ref m), .val (.int (nI w)), .val (.int (nI (s0.length + args.length))), .val (.int (nI (i + 1) - nI 1)), s4, s5, s6] [] h = zrun zP sv (zcall zP sv (d + 2)) 213 9 [.val (.ref m), .val (.int (nI w)), .val (.int (nI (s0.length + 1))), .val (.int (nI i - nI 1)), r4, r5, r6] [] h' ∧ znw r4 = true ∧ znw r5 = true ∧ znw r6 = true ∧ zFS h' m (s0 ++ [ymf w N k v (args.getLastD 0) (if args.length = 2 then args.getD 0 0 else 0)]) i (ymf w N k v (args.getLastD 0) (if args.length = 2 then args.getD 0 0 else 0) :: g) ∧ zfw m h h' := by
  obtain ⟨A, B, a1, a2, a3, a4, a5⟩ := e_look hl hi
  have hm0 := hm
  unfold zMo at hm
  obtain ⟨St, Fd, ⟨b1, b2, b3, b4⟩, c1, c2, c3, c4⟩ := hs
  rw [List.length_append] at b4
  have e212 : ∀ a b, zcall zP sv (d + 2) 212 [.ref m, .int (nI i), .int (nI w), .int a, .int b] h = some (.inl (some (.int (ymf w N k v a b))), h) := fun a b => e_212 hm0 hl hN hNl hi hk hw
  have hki : ¬ nI i < 0 := nI_pos (by omega)
  have tail : ∀ (y : Int32) (u4 u5 u6 : Slot), ∃ h', zrun zP sv (zcall zP sv (d + 2)) 213 78 [.val (.ref m), .val (.int (nI w)), .val (.int (nI (s0.length + args.length))), .val (.int (nI i)), .val (.int (nI args.length)), u5, u6] [.int y, .int (nI i), .ref (m + 9)] h = zrun zP sv (zcall zP sv (d + 2)) 213 9 [.val (.ref m), .val (.int (nI w)), .val (.int (nI (s0.length + 1))), .val (.int (nI i - nI 1)), .val (.int (nI args.length)), u5, u6] [] h' ∧ zFS h' m (s0 ++ [y]) i (y :: g) ∧ zfw m h h' := by
    intro y u4 u5 u6
    have z1 : ∀ Kc : zC → zR, zaset (20, Fd.map Value.int) 20 (nI i) (.int y) Kc = Kc (20, (Fd.set i y).map Value.int) := fun Kc => zsI (by omega) (by omega)
    have z2 : ∀ Kv, zael (20, (Fd.set i y).map Value.int) 20 (nI i) Kv = Kv (.int y) := fun Kv => zaelv (by rw [List.getElem?_map, List.getElem?_set_self (by omega)]; rfl) (by omega)
    have z3 : ∀ Kc : zC → zR, zaset (20, St.map Value.int) 20 (nI s0.length) (.int y) Kc = Kc (20, (St.set s0.length y).map Value.int) := fun Kc => zsI (by omega) (by omega)
    have z4 : nI (s0.length + args.length) - nI args.length = nI s0.length := by rw [← nI_add, Int32.add_sub_cancel]
    refine ⟨zup (zup h (m + 9) (20, (Fd.set i y).map Value.int)) (m + 10) (20, (St.set s0.length y).map Value.int), ?_, ⟨St.set s0.length y, Fd.set i y, ⟨zup_at, by rw [List.length_set, b2], ?_, by rw [List.length_append]; show s0.length + 1 ≤ 700; omega⟩, by rw [zup_ne (by omega), zup_at], by rw [List.length_set, c2], ydrop_set c3 (by omega), by rw [List.length_cons]; omega⟩, ⟨fun q q1 q2 => by rw [zup_ne q2, zup_ne q1], rfl⟩⟩
    · simp (disch := first | exact znw_i | omega) only [zs_213_0, zs_213_1, zs_213_2, zs_213_2n, zs_213_3, zs_213_6, zs_213_7, zs_213_8, zs_213_10, zs_213_13, zs_213_13n, zs_213_14, zs_213_17, zs_213_18, zs_213_19, zs_213_22, zs_213_24, zs_213_26, zs_213_29, zs_213_29n, zs_213_30, zs_213_33, zs_213_34, zs_213_35, zs_213_36, zs_213_37, zs_213_40, zs_213_41, zs_213_43, zs_213_45, zs_213_46, zs_213_49, zs_213_49n, zs_213_50, zs_213_53, zs_213_54, zs_213_55, zs_213_56, zs_213_57, zs_213_60, zs_213_61, zs_213_63, zs_213_63n, zs_213_64, zs_213_67, zs_213_68, zs_213_68n, zs_213_69, zs_213_70, zs_213_71, zs_213_73, zs_213_75, zs_213_78, zs_213_79, zs_213_80, zs_213_82, zs_213_83, zs_213_84, zs_213_84n, zs_213_85, zs_213_88, zs_213_89, zs_213_92, zs_213_92n, zs_213_93, zs_213_96, zs_213_97, zs_213_98, zs_213_99, zs_213_106, zs_213_109, zs_213_110, zs_213_111, c1, z1, z4, hm, zup_ne, zmf_12, zmf_13, zup_at, z2, b1, z3, nI_1']
      rw [zs_213_102, nI_mm]
    · have hb : St.take s0.length = s0 := by
        have := congrArg (List.take s0.length) b3
        rw [List.take_take, List.length_append, Nat.min_eq_left (by omega), List.take_left' rfl] at this
        exact this
      rw [show (s0 ++ [y]).length = s0.length + 1 from List.length_append, ytk_set hb (by omega)]
  have g21 : ((1 : Nat) = 2) = False := by decide
  rcases (show args.length = 0 ∨ args.length = 1 ∨ args.length = 2 by omega) with hz | hz | hz
  · obtain rfl := List.length_eq_zero_iff.mp hz
    obtain ⟨h', e, w1, w2⟩ := tail (ymf w N k v 0 0) (.val (.int 0)) (.val (.int 0)) (.val (.int 0))
    refine ⟨h', .val (.int (nI ([] : List Int32).length)), .val (.int 0), .val (.int 0), ?_, rfl, rfl, rfl, w1, w2⟩
    rw [← e]
    rw [List.length_nil, nI_0] at hn
    have g1 : ((0 : Int32) < nI 1) = True := by decide +kernel
    have g2 : ((nI 1 : Int32) < 0) = False := by decide +kernel
    have g3 : ((0 : Int32) < 0) = False := by decide +kernel
    rw [zs_213_9, nI_m, zs_213_10, if_neg hki]
    simp (disch := first | exact h4 | exact h5 | exact h6) only [zs_213_0, zs_213_1, zs_213_2, zs_213_2n, zs_213_3, zs_213_6, zs_213_7, zs_213_8, zs_213_13, zs_213_13n, zs_213_14, zs_213_17, zs_213_18, zs_213_19, zs_213_22, zs_213_24, zs_213_26, zs_213_29, zs_213_29n, zs_213_30, zs_213_33, zs_213_34, zs_213_35, zs_213_36, zs_213_37, zs_213_40, zs_213_41, zs_213_43, zs_213_45, zs_213_46, zs_213_49, zs_213_49n, zs_213_50, zs_213_53, zs_213_54, zs_213_55, zs_213_56, zs_213_57, zs_213_60, zs_213_61, zs_213_63, zs_213_63n, zs_213_64, zs_213_67, zs_213_68, zs_213_68n, zs_213_69, zs_213_70, zs_213_71, zs_213_73, zs_213_75, zs_213_79, zs_213_80, zs_213_82, zs_213_83, zs_213_84, zs_213_84n, zs_213_85, zs_213_88, zs_213_89, zs_213_92, zs_213_92n, zs_213_93, zs_213_96, zs_213_97, zs_213_98, zs_213_99, zs_213_102, zs_213_105, zs_213_105n, zs_213_106, zs_213_109, zs_213_110, zs_213_111, hm, zmf_6, zmf_12, a1, a3, e_205, hn, zrc_13v, e212, g1, g2, g3, zbk_v, zts_s, ↓reduceIte, List.length_nil, nI_0]
  · obtain ⟨x, rfl⟩ := List.length_eq_one_iff.mp hz
    obtain ⟨h', e, w1, w2⟩ := tail (ymf w N k v x 0) (.val (.int 0)) (.val (.int x)) (.val (.int 0))
    refine ⟨h', .val (.int (nI [x].length)), .val (.int x), .val (.int 0), ?_, rfl, rfl, rfl, w1, w2⟩
    rw [← e]
    have hx : St[s0.length]? = some x := ytk_at b3 (by rw [List.getElem?_append_right (Nat.le_refl _), Nat.sub_self]; rfl)
    have z5 : ∀ Kv, zael (20, St.map Value.int) 20 (nI s0.length) Kv = Kv (.int x) := fun Kv => zaelv (by rw [List.getElem?_map, hx]; rfl) (by omega)
    have hn1 : yar k = nI 1 := hn
    have g1 : ((0 : Int32) < nI 1) = True := by decide +kernel
    have g2 : ((nI 1 : Int32) < nI 1) = False := by decide +kernel
    have l1 : [x].length = 1 := rfl
    rw [zs_213_9, nI_m, zs_213_10, if_neg hki]
    simp (disch := first | exact h4 | exact h5 | exact h6) only [zs_213_0, zs_213_1, zs_213_2, zs_213_2n, zs_213_3, zs_213_6, zs_213_7, zs_213_8, zs_213_13, zs_213_13n, zs_213_14, zs_213_17, zs_213_18, zs_213_19, zs_213_22, zs_213_24, zs_213_26, zs_213_29, zs_213_29n, zs_213_30, zs_213_33, zs_213_34, zs_213_35, zs_213_36, zs_213_37, zs_213_40, zs_213_41, zs_213_43, zs_213_45, zs_213_46, zs_213_49, zs_213_49n, zs_213_50, zs_213_53, zs_213_54, zs_213_55, zs_213_56, zs_213_57, zs_213_60, zs_213_61, zs_213_63, zs_213_63n, zs_213_64, zs_213_67, zs_213_68, zs_213_68n, zs_213_69, zs_213_70, zs_213_71, zs_213_73, zs_213_75, zs_213_79, zs_213_80, zs_213_82, zs_213_83, zs_213_84, zs_213_84n, zs_213_85, zs_213_88, zs_213_89, zs_213_92, zs_213_92n, zs_213_93, zs_213_96, zs_213_97, zs_213_98, zs_213_99, zs_213_102, zs_213_105, zs_213_105n, zs_213_106, zs_213_109, zs_213_110, zs_213_111, hm, zmf_6, zmf_12, zmf_13, a1, a3, e_205, hn1, zrc_13v, b1, l1, nI_m, z5, e212, g1, g2, zbk_v, zts_s, ↓reduceIte]
  · obtain ⟨y, x, rfl⟩ : ∃ y x, args = [y, x] := by
      match args, hz with
      | [y, x], _ => exact ⟨y, x, rfl⟩
    obtain ⟨h', e, w1, w2⟩ := tail (ymf w N k v x y) (.val (.int 0)) (.val (.int x)) (.val (.int y))
    refine ⟨h', .val (.int (nI [y, x].length)), .val (.int x), .val (.int y), ?_, rfl, rfl, rfl, w1, w2⟩
    rw [← e]
    have hx : St[s0.length + 1]? = some x := ytk_at b3 (by rw [List.getElem?_append_right (by omega), show s0.length + 1 - s0.length = 1 by omega]; rfl)
    have hy : St[s0.length]? = some y := ytk_at b3 (by rw [List.getElem?_append_right (Nat.le_refl _), Nat.sub_self]; rfl)
    have z5 : ∀ Kv, zael (20, St.map Value.int) 20 (nI (s0.length + 1)) Kv = Kv (.int x) := fun Kv => zaelv (by rw [List.getElem?_map, hx]; rfl) (by omega)
    have z6 : ∀ Kv, zael (20, St.map Value.int) 20 (nI s0.length) Kv = Kv (.int y) := fun Kv => zaelv (by rw [List.getElem?_map, hy]; rfl) (by omega)
    have hn1 : yar k = nI 2 := hn
    have g1 : ((0 : Int32) < nI 2) = True := by decide +kernel
    have g2 : ((nI 1 : Int32) < nI 2) = True := by decide +kernel
    have l1 : [y, x].length = 2 := rfl
    have m2 : nI (s0.length + 2) - nI 2 = nI s0.length := by rw [← nI_add, Int32.add_sub_cancel]
    have m1 : nI (s0.length + 2) - nI 1 = nI (s0.length + 1) := by rw [show s0.length + 2 = (s0.length + 1) + 1 by omega, nI_m]
    rw [zs_213_9, nI_m, zs_213_10, if_neg hki]
    simp (disch := first | exact h4 | exact h5 | exact h6) only [zs_213_0, zs_213_1, zs_213_2, zs_213_2n, zs_213_3, zs_213_6, zs_213_7, zs_213_8, zs_213_13, zs_213_13n, zs_213_14, zs_213_17, zs_213_18, zs_213_19, zs_213_22, zs_213_24, zs_213_26, zs_213_29, zs_213_29n, zs_213_30, zs_213_33, zs_213_34, zs_213_35, zs_213_36, zs_213_37, zs_213_40, zs_213_41, zs_213_43, zs_213_45, zs_213_46, zs_213_49, zs_213_49n, zs_213_50, zs_213_53, zs_213_54, zs_213_55, zs_213_56, zs_213_57, zs_213_60, zs_213_61, zs_213_63, zs_213_63n, zs_213_64, zs_213_67, zs_213_68, zs_213_68n, zs_213_69, zs_213_70, zs_213_71, zs_213_73, zs_213_75, zs_213_79, zs_213_80, zs_213_82, zs_213_83, zs_213_84, zs_213_84n, zs_213_85, zs_213_88, zs_213_89, zs_213_92, zs_213_92n, zs_213_93, zs_213_96, zs_213_97, zs_213_98, zs_213_99, zs_213_102, zs_213_105, zs_213_105n, zs_213_106, zs_213_109, zs_213_110, zs_213_111, hm, zmf_6, zmf_12, zmf_13, a1, a3, e_205, hn1, zrc_13v, b1, l1, m1, m2, z5, z6, e212, g1, g2, zbk_v, zts_s, ↓reduceIte]
end ZFL
