section ZQD
variable {sv : Nat → Value} {d : Nat} {m : Nat} {F : Nat → Int32} {h : zH} {w : yW} {th : Int32} {i j : Nat} {t u : yT}
theorem e_258a {l1 l2 l4 : Slot} {p : yP} (hk : ynk p) (h8 : F 8 = nI p.length) : ∀ n j (h : zH), j + n = p.length → zMd h m F (p.take j) → zLst h (m + 5) (m + 6) p → ∃ h', zrun zP sv (zcall zP sv (d + 1)) 258 46 [.val (.ref m), l1, l2, .val (.int (nI j)), l4] [] h = zrun zP sv (zcall zP sv (d + 1)) 258 76 [.val (.ref m), l1, l2, .val (.int (nI p.length)), l4] [] h' ∧ zMd h' m F p ∧ zfm m h h' := by
  intro n
  induction n with
  | zero =>
    intro j h hj hm hl
    obtain rfl : j = p.length := by omega
    rw [List.take_length] at hm
    refine ⟨h, ?_, hm, zfm_rfl⟩
    have hm1 := hm.1
    unfold zMo at hm1
    have v8 : yup F 11 (nI p.length) 8 = nI p.length := by rw [yup_ne (by omega), h8]
    simp only [zs_258_46, zs_258_47, zs_258_48, zs_258_51, hm1, zmf_8, v8, Int32.lt_irrefl, ↓reduceIte]
  | succ n ih =>
    intro j h hj hm hl
    obtain ⟨y, hy⟩ : ∃ y, p[j]? = some y := ⟨_, List.getElem?_eq_getElem (by omega)⟩
    obtain ⟨A, B, a1, a2, a3, a4, a5⟩ := e_look (k := y.1) (v := y.2) hl hy
    have hlp : p.length ≤ 700 := by
      obtain ⟨_, _, _, _, _, _, _, _, b⟩ := hl
      exact b
    have hjl : (p.take j).length = j := by rw [List.length_take]; omega
    have hm1 := hm.1
    unfold zMo at hm1
    have v8 : yup F 11 (nI (p.take j).length) 8 = nI p.length := by rw [yup_ne (by omega), h8]
    have g1 : nI j < nI p.length := nI_lt (by omega) (by omega)
    have hr : ∀ X : zR, zrc (h.1 m) 13 X = X := fun X => zMd_rc hm
    obtain ⟨h1, e1, b1, b2⟩ := e_216 (sv := sv) (d := d) (k := y.1) (v := y.2) hm (by omega) (hk y (List.mem_of_getElem? hy))
    have htk : p.take (j + 1) = p.take j ++ [y] := by rw [List.take_add_one, hy]; rfl
    rw [← htk] at b1
    obtain ⟨h', e, q1, q2⟩ := ih (j + 1) h1 (by omega) b1 (zLst_fm hl b2)
    refine ⟨h', ?_, q1, zfm_tr b2 q2⟩
    rw [← e]
    have eb : zrun zP sv (zcall zP sv (d + 1)) 258 70 [.val (.ref m), l1, l2, .val (.int (nI j)), l4] [] h1 = zrun zP sv (zcall zP sv (d + 1)) 258 46 [.val (.ref m), l1, l2, .val (.int (nI (j + 1))), l4] [] h1 := by rw [zs_258_70, zs_258_73, nI_1']
    rw [← eb]
    simp only [zs_258_46, zs_258_47, zs_258_48, zs_258_51, zs_258_54, zs_258_55, zs_258_56, zs_258_59, zs_258_60, zs_258_61, zs_258_62, zs_258_65, zs_258_66, zs_258_67, hm1, zmf_6, zmf_7, zmf_8, v8, if_pos g1, a1, a2, a3, a4, zrc_13v, hr, e1, zbk_v, zts_n]
theorem e_258b {l1 l2 : Slot} {G : Nat → Int32} {p q : yP} {x3 : Int32} (hk : ynk p) (hg : G 11 = nI p.length) (hl2 : q.length + p.length ≤ 700) : ∀ n j (h : zH), j + n = p.length → h.1 m = (13, zMF m (yup G 8 (nI (q.length + j)))) → zLst h (m + 7) (m + 8) p → zLst h (m + 5) (m + 6) (q ++ p.take j) → ∃ h', zrun zP sv (zcall zP sv (d + 1)) 258 89 [.val (.ref m), l1, l2, .val (.int x3), .val (.int (nI j))] [] h = some (.inl (some (.int x3)), h') ∧ h'.1 m = (13, zMF m (yup G 8 (nI (q ++ p).length))) ∧ zLst h' (m + 5) (m + 6) (q ++ p) ∧ (∀ a, a ≠ m → a ≠ m + 5 → a ≠ m + 6 → h'.1 a = h.1 a) ∧ h'.2 = h.2 := by
  intro n
  induction n with
  | zero =>
    intro j h hj hm hp hl
    obtain rfl : j = p.length := by omega
    rw [List.take_length] at hl
    have v11 : yup G 8 (nI (q.length + p.length)) 11 = nI p.length := by rw [yup_ne (by omega), hg]
    refine ⟨h, ?_, by rw [List.length_append]; exact hm, hl, fun _ _ _ _ => rfl, rfl⟩
    simp only [zs_258_89, zs_258_91, zs_258_92, zs_258_95, zs_258_143, zs_258_144, hm, zmf_11, v11, Int32.lt_irrefl, ↓reduceIte]
  | succ n ih =>
    intro j h hj hm hp hl
    obtain ⟨y, hy⟩ : ∃ y, p[j]? = some y := ⟨_, List.getElem?_eq_getElem (by omega)⟩
    obtain ⟨A, B, a1, a2, a3, a4, a5⟩ := e_made (k := y.1) (v := y.2) hp hy
    have hky := hk y (List.mem_of_getElem? hy)
    obtain ⟨A', B', b1, b2, b3, b4, b5, b6, b7⟩ := hl
    have hjl : (q ++ p.take j).length = q.length + j := by rw [List.length_append, List.length_take]; omega
    rw [hjl] at b5 b6
    have s1 : ∀ Kc : zC → zR, zaset (21, A'.map Value.int) 21 (nI (q.length + j)) (.int y.1) Kc = Kc (21, (A'.set (q.length + j) (ynr y.1)).map Value.int) := fun Kc => zsC (by omega) (by omega)
    have s2 : ∀ Kc : zC → zR, zaset (20, B'.map Value.int) 20 (nI (q.length + j)) (.int y.2) Kc = Kc (20, (B'.set (q.length + j) y.2).map Value.int) := fun Kc => zsI (by omega) (by omega)
    have htk : q ++ p.take (j + 1) = (q ++ p.take j) ++ [y] := by rw [List.take_add_one, hy, List.append_assoc]; rfl
    have htl : (q ++ p.take (j + 1)).length = q.length + j + 1 := by rw [htk, List.length_append, hjl]; rfl
    have g1 : nI j < nI p.length := nI_lt (by omega) (by omega)
    have v11 : yup G 8 (nI (q.length + j)) 11 = nI p.length := by rw [yup_ne (by omega), hg]
    have w1 : zLst (zup (zup (zup h (m + 5) (21, (A'.set (q.length + j) y.1).map Value.int)) m (13, zMF m (yup G 8 (nI (q.length + j + 1))))) (m + 6) (20, (B'.set (q.length + j) y.2).map Value.int)) (m + 5) (m + 6) (q ++ p.take (j + 1)) := by
      refine ⟨A'.set (q.length + j) y.1, B'.set (q.length + j) y.2, by rw [zup_ne (by omega), zup_ne (by omega), zup_at], zup_at, by rw [List.length_set, b3], by rw [List.length_set, b4], ?_, ?_, by rw [htl]; omega⟩
      · rw [htl, ytk_set b5 (by omega), htk, List.map_append, List.map_append, List.map_append]; rfl
      · rw [htl, ytk_set b6 (by omega), htk, List.map_append, List.map_append, List.map_append]; rfl
    obtain ⟨h', e, q1, q2, q3, q4⟩ := ih (j + 1) _ (by omega) (by rw [zup_ne (by omega), zup_at]; rfl) (zLst_cg hp (by rw [zup_ne (by omega), zup_ne (by omega), zup_ne (by omega)]) (by rw [zup_ne (by omega), zup_ne (by omega), zup_ne (by omega)])) w1
    refine ⟨h', ?_, q1, q2, fun a n0 n5 n6 => by rw [q3 a n0 n5 n6, zup_ne n6, zup_ne n0, zup_ne n5], q4⟩
    rw [← e]
    have eb : ∀ g : zH, zrun zP sv (zcall zP sv (d + 1)) 258 137 [.val (.ref m), l1, l2, .val (.int x3), .val (.int (nI j))] [] g = zrun zP sv (zcall zP sv (d + 1)) 258 89 [.val (.ref m), l1, l2, .val (.int x3), .val (.int (nI (j + 1)))] [] g := fun g => by rw [zs_258_137, zs_258_140, nI_1']
    rw [← eb]
    simp (disch := omega) only [zs_258_89, zs_258_91, zs_258_92, zs_258_95, zs_258_98, zs_258_99, zs_258_102, zs_258_103, zs_258_106, zs_258_107, zs_258_110, zs_258_112, zs_258_113, zs_258_114, zs_258_115, zs_258_118, zs_258_119, zs_258_120, zs_258_123, zs_258_124, zs_258_125, zs_258_126, zs_258_129, zs_258_130, zs_258_133, zs_258_135, zs_258_136, hm, zmf_6, zmf_7, zmf_8, zmf_9, zmf_10, zmf_11, v11, yup_eq, yup_yup, if_pos g1, a1, a2, a3, a4, b1, b2, s1, hky, zup_ne, zup_at, nI_1', zmp_8, s2]
end ZQD
