section ZFM
variable {sv : Nat → Value} {d : Nat} {m : Nat} {F : Nat → Int32}
theorem e_213l {w : Nat} {N : List Int32} (hw : w < 4) (hNl : N.length = 387) : ∀ (t : yT), ytw t = true → ∀ (pre post : yP) (s g : List Int32) (h : zH) (s4 s5 s6 : Slot), znw s4 = true → znw s5 = true → znw s6 = true → zMo h m F → zLst h (m + 5) (m + 6) (pre ++ ypr t ++ post) → h.1 (m + 1) = (20, N.map Value.int) → zFS h m s (pre.length + ysz t) g → s.length + ysz t < 600 → ∃ h' r4 r5 r6, zrun zP sv (zcall zP sv (d + 2)) 213 9 [.val (.ref m), .val (.int (nI w)), .val (.int (nI s.length)), .val (.int (nI (pre.length + ysz t) - nI 1)), s4, s5, s6] [] h = zrun zP sv (zcall zP sv (d + 2)) 213 9 [.val (.ref m), .val (.int (nI w)), .val (.int (nI (s.length + 1))), .val (.int (nI pre.length - nI 1)), r4, r5, r6] [] h' ∧ znw r4 = true ∧ znw r5 = true ∧ znw r6 = true ∧ zFS h' m (s ++ [yfo (ymf w N) t]) pre.length (yfs (ymf w N) t ++ g) ∧ zfw m h h'
  | .leaf, ht => by cases ht
  | .inner z k v l r, ht => by
    intro pre post s g h s4 s5 s6 h4 h5 h6 hm hl hN hs hlen
    have hlen' : s.length + (ysz l + ysz r + 1) < 600 := hlen
    have e0 : pre ++ ypr (.inner z k v l r) ++ post = pre ++ (k, yva k v) :: (ypr l ++ ypr r ++ post) := by
      show pre ++ (k, yva k v) :: (ypr l ++ ypr r) ++ post = _
      rw [List.append_assoc]; rfl
    have hi : (pre ++ (k, yva k v) :: (ypr l ++ ypr r ++ post))[pre.length]? = some (k, yva k v) := by
      rw [List.getElem?_append_right (Nat.le_refl _), Nat.sub_self]; rfl
    rw [e0] at hl
    have ea : pre ++ (k, yva k v) :: (ypr l ++ ypr r ++ post) = (pre ++ [(k, yva k v)]) ++ ypr l ++ (ypr r ++ post) := by
      rw [List.append_assoc, List.append_assoc, List.append_assoc]; rfl
    have eb : pre ++ (k, yva k v) :: (ypr l ++ ypr r ++ post) = (pre ++ [(k, yva k v)] ++ ypr l) ++ ypr r ++ post := by
      rw [ea]
      simp only [List.append_assoc]
    have l1 : (pre ++ [(k, yva k v)]).length = pre.length + 1 := List.length_append
    have l2 : (pre ++ [(k, yva k v)] ++ ypr l).length = pre.length + 1 + ysz l := by rw [List.length_append, l1, ypr_len]
    have fwl : ∀ h', zfw m h h' → zMo h' m F ∧ zLst h' (m + 5) (m + 6) (pre ++ (k, yva k v) :: (ypr l ++ ypr r ++ post)) ∧ h'.1 (m + 1) = (20, N.map Value.int) := fun h' f => ⟨by unfold zMo at hm ⊢; rw [f.1 m (by omega) (by omega), hm], zLst_cg hl (f.1 _ (by omega) (by omega)) (f.1 _ (by omega) (by omega)), by rw [f.1 _ (by omega) (by omega), hN]⟩
    rcases ytw_el ht with g0 | g0 | g0 | g0
    · obtain ⟨g1, g2, g3⟩ := g0
      subst g1 g2 g3
      obtain ⟨h', r4, r5, r6, e, q1, q2, q3, q4, q5⟩ := e_213s (sv := sv) (d := d) (args := []) (s0 := s) (g := g) h4 h5 h6 hm hl hN hNl hi (Or.inl rfl) hw (by rw [yar_c]; exact nI_0.symm) (by decide) (by rw [List.append_nil]; exact hs) (by omega)
      exact ⟨h', r4, r5, r6, e, q1, q2, q3, q4, q5⟩
    · obtain ⟨g1, gl, g2, g3⟩ := g0
      subst g1 g2 g3
      obtain ⟨h', r4, r5, r6, e, q1, q2, q3, q4, q5⟩ := e_213s (sv := sv) (d := d) (args := []) (s0 := s) (g := g) h4 h5 h6 hm hl hN hNl hi (Or.inr (Or.inl ⟨rfl, gl⟩)) hw (by rw [yar_v]; exact nI_0.symm) (by decide) (by rw [List.append_nil]; exact hs) (by omega)
      exact ⟨h', r4, r5, r6, e, q1, q2, q3, q4, q5⟩
    · obtain ⟨g1, gv, g2, g3⟩ := g0
      subst g1 gv g3
      have hl1 := hl
      rw [ea] at hl1
      have hs1 : zFS h m s ((pre ++ [(nI 110, yva (nI 110) 0)]).length + ysz l) g := by
        rw [l1, show pre.length + 1 + ysz l = pre.length + (ysz l + 0 + 1) by omega]
        exact hs
      obtain ⟨h1, u4, u5, u6, e1, p1, p2, p3, p4, p5⟩ := e_213l hw hNl l g2 _ _ s g h s4 s5 s6 h4 h5 h6 hm hl1 hN hs1 (by omega)
      rw [l1] at e1 p4
      obtain ⟨hm2, hl2, hN2⟩ := fwl h1 p5
      obtain ⟨h', r4, r5, r6, e, q1, q2, q3, q4, q5⟩ := e_213s (sv := sv) (d := d) (args := [yfo (ymf w N) l]) (s0 := s) (g := yfs (ymf w N) l ++ g) p1 p2 p3 hm2 hl2 hN2 hNl hi (Or.inr (Or.inr (Or.inl rfl))) hw yar_n (Nat.le_succ 1) p4 (by omega)
      refine ⟨h', r4, r5, r6, ?_, q1, q2, q3, ?_, zfw_tr p5 q5⟩
      · rw [← e, ← show s.length + [yfo (ymf w N) l].length = s.length + 1 from rfl] at *
        rw [show pre.length + ysz (.inner z (nI 110) 0 l .leaf) = pre.length + 1 + ysz l by show pre.length + (ysz l + 0 + 1) = _; omega]
        exact e1
      · show zFS h' m (s ++ [ymf w N (nI 110) 0 (yfo (ymf w N) l) 0]) pre.length (ymf w N (nI 110) 0 (yfo (ymf w N) l) 0 :: (yfs (ymf w N) l ++ []) ++ g)
        rw [List.append_nil]
        exact q4
    · obtain ⟨gk, gv, g2, g3⟩ := g0
      subst gv
      have hl1 := hl
      rw [eb] at hl1
      have hs1 : zFS h m s ((pre ++ [(k, yva k 0)] ++ ypr l).length + ysz r) g := by
        rw [l2, show pre.length + 1 + ysz l + ysz r = pre.length + (ysz l + ysz r + 1) by omega]
        exact hs
      obtain ⟨h1, u4, u5, u6, e1, p1, p2, p3, p4, p5⟩ := e_213l hw hNl r g3 _ _ s g h s4 s5 s6 h4 h5 h6 hm hl1 hN hs1 (by omega)
      rw [l2] at e1 p4
      obtain ⟨hm2, hl2, hN2⟩ := fwl h1 p5
      have hl2' := hl2
      rw [ea] at hl2'
      have hs2 : zFS h1 m (s ++ [yfo (ymf w N) r]) ((pre ++ [(k, yva k 0)]).length + ysz l) (yfs (ymf w N) r ++ g) := by
        rw [l1]
        exact p4
      have ls : (s ++ [yfo (ymf w N) r]).length = s.length + 1 := List.length_append
      obtain ⟨h2, x4, x5, x6, e2, o1, o2, o3, o4, o5⟩ := e_213l hw hNl l g2 _ _ (s ++ [yfo (ymf w N) r]) _ h1 u4 u5 u6 p1 p2 p3 hm2 hl2' hN2 hs2 (by rw [ls]; omega)
      rw [l1, ls] at e2
      rw [l1] at o4
      obtain ⟨hm3, hl3, hN3⟩ := fwl h2 (zfw_tr p5 o5)
      rw [List.append_assoc] at o4
      obtain ⟨h', r4, r5, r6, e, q1, q2, q3, q4, q5⟩ := e_213s (sv := sv) (d := d) (args := [yfo (ymf w N) r, yfo (ymf w N) l]) (s0 := s) (g := yfs (ymf w N) l ++ (yfs (ymf w N) r ++ g)) o1 o2 o3 hm3 hl3 hN3 hNl hi (Or.inr (Or.inr (Or.inr gk))) hw (yar_o gk) (Nat.le_refl 2) o4 (by omega)
      refine ⟨h', r4, r5, r6, ?_, q1, q2, q3, ?_, zfw_tr (zfw_tr p5 o5) q5⟩
      · rw [show pre.length + ysz (.inner z k 0 l r) = pre.length + 1 + ysz l + ysz r by show pre.length + (ysz l + ysz r + 1) = _; omega]
        exact e1.trans (e2.trans e)
      · show zFS h' m (s ++ [ymf w N k 0 (yfo (ymf w N) l) (yfo (ymf w N) r)]) pre.length (ymf w N k 0 (yfo (ymf w N) l) (yfo (ymf w N) r) :: (yfs (ymf w N) l ++ yfs (ymf w N) r) ++ g)
        have e9 : ymf w N k 0 (yfo (ymf w N) l) (yfo (ymf w N) r) :: (yfs (ymf w N) l ++ yfs (ymf w N) r) ++ g = ymf w N k 0 (yfo (ymf w N) l) (yfo (ymf w N) r) :: (yfs (ymf w N) l ++ (yfs (ymf w N) r ++ g)) := by
          rw [List.cons_append, List.append_assoc]
        rw [e9]
        exact q4
end ZFM
