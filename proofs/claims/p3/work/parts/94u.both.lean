/-- the model stands for w and looks at the nodes p -/
def zMdP (h : zH) (m : Nat) (w : yW) (p : yP) : Prop := ∃ F : Nat → Int32, F 31 = 0 ∧ F 8 = nI p.length ∧ zLst h (m + 5) (m + 6) p ∧ zWk h m F (ycur w) ∧ (∃ T, zTab h (m + 2) T) ∧ zRst h m F w ∧ yAok (ycur w)
theorem zMdP_M {h : zH} {m : Nat} {w : yW} {p : yP} (hM : zMdP h m w p) : zMdl h m w 0 := by
  obtain ⟨F, a, _, _, b⟩ := hM
  exact ⟨F, a, b⟩
section ZQE
variable {sv : Nat → Value} {d : Nat} {m : Nat} {F : Nat → Int32} {h : zH} {w : yW} {th : Int32} {i j : Nat} {t u : yT}
theorem e_258x {x y : Int32} (hM : zMdl h m w th) (hx : (yinF (ycur w) x && yinF (ycur w) y) = false) : ∃ h', zcall zP sv (d + 6) 258 [.ref m, .int x, .int y] h = some (.inl (some (.int (-1))), h') ∧ zMdl h' m w (nI 1) ∧ zmw m h h' := by
  obtain ⟨F, g, g1, g2, hw, _, hr, hA⟩ := zMdl_31 (x := nI 1) hM
  have c1 : (0 : Int32) < nI 1 := by decide +kernel
  refine ⟨_, ?_, g1, g2⟩
  rcases yinF_or hA.1 x with ⟨i, hi, rfl⟩ | hx1
  · obtain ⟨hm, ⟨N, hN, hn⟩, _⟩ := id hw
    have E : zcall zP sv (d + 5) 203 [.ref m, .int (nI i)] h = some (.inl (some (.int (nI 1))), h) := e_203t (sv := sv) (d := d + 3) hm hN hn hi hA.1
    rcases yinF_or hA.1 y with ⟨j, hj, rfl⟩ | hy1
    · exfalso
      have t : ∀ i, i < (ycur w).1.length → yinF (ycur w) (nI i) = true := fun i hi => by
        obtain ⟨n, hn2⟩ : ∃ n, (ycur w).1.length = n + 1 := ⟨(ycur w).1.length - 1, by omega⟩
        have h6 := hA.1
        unfold yinF
        rw [decide_eq_true (nI_pos (by omega)), hn2, nI_m, decide_eq_true (nI_nlt (by omega) (by omega))]
        rfl
      rw [t i hi, t j hj] at hx
      cases hx
    · have E' : zcall zP sv (d + 5) 203 [.ref m, .int y] h = _ := e_203x (sv := sv) (d := d + 3) hw hy1
      simp only [zc_258, zs_258_0, zs_258_1, zs_258_2, zs_258_3, zs_258_6, zs_258_9, zs_258_10, zs_258_11, zs_258_14, zs_258_21, zs_258_22, zs_258_25, zs_258_26, zs_258_29, zs_258_32, zs_258_33, g, zrc_13v, E, E', zbk_v, zts_s, nI_1e0, List.cons_append, List.nil_append, zmp_31, zup_at, zmf_31, yup_eq, if_pos c1, ↓reduceIte]
  · have E : zcall zP sv (d + 5) 203 [.ref m, .int x] h = _ := e_203x (sv := sv) (d := d + 3) hw hx1
    simp only [zc_258, zs_258_0, zs_258_1, zs_258_2, zs_258_3, zs_258_6, zs_258_21, zs_258_22, zs_258_25, zs_258_26, zs_258_29, zs_258_32, zs_258_33, g, zrc_13v, E, zbk_v, zts_s, nI_1e0, List.cons_append, List.nil_append, zmp_31, zup_at, zmf_31, yup_eq, if_pos c1, ↓reduceIte]
theorem e_258 (hM : zMdl h m w th) (hi : (ycur w).1[i]? = some t) (hj : (ycur w).1[j]? = some u) : ∃ h', zcall zP sv (d + 6) 258 [.ref m, .int (nI i), .int (nI j)] h = some (.inl (some (.int (nI (ysz t)))), h') ∧ zMdP h' m w (ypr t ++ ypr u) ∧ zmw m h h' := by
  obtain ⟨F, g, _, _, hw, ⟨T, hT⟩, hr, hA⟩ := zMdl_31 (x := 0) hM
  obtain ⟨hm, ⟨N, hN, hn⟩, hs⟩ := id hw
  obtain ⟨⟨p0, l5⟩, ⟨p1, l7⟩, _⟩ := id hs
  have hil := (List.getElem?_eq_some_iff.mp hi).1
  have hjl := (List.getElem?_eq_some_iff.mp hj).1
  have ht := hA.2.1 t (List.mem_of_getElem? hi)
  have hu := hA.2.1 u (List.mem_of_getElem? hj)
  have hlt := ypr_len t
  have hlu := ypr_len u
  have E : zcall zP sv (d + 5) 203 [.ref m, .int (nI i)] h = _ := e_203t (sv := sv) (d := d + 3) hm hN hn hil hA.1
  have E' : zcall zP sv (d + 5) 203 [.ref m, .int (nI j)] h = _ := e_203t (sv := sv) (d := d + 3) hm hN hn hjl hA.1
  obtain ⟨h1, hh1⟩ : ∃ h1, h1 = zup h m (13, zMF m (yup (yup F 31 0) 11 0)) := ⟨_, rfl⟩
  have m1 : h1.1 m = (13, zMF m (yup (yup F 31 0) 11 0)) := by rw [hh1, zup_at]
  have f1 : ∀ q, q ≠ m → h1.1 q = h.1 q := fun q n0 => by rw [hh1, zup_ne n0]
  obtain ⟨h2, e2, a1, a2, a3, a4⟩ := e_206 (sv := sv) (d := d + 4) (h := h1) (hn.2.2.2.2.2 j u hj) m1 (zTab_cg hN (f1 _ (by omega))) (zLst_cg l5 (f1 _ (by omega)) (f1 _ (by omega)))
  have E2 : zcall zP sv (d + 5) 206 [.ref m, .int (nI j)] h1 = _ := e2
  have hself : yup (yup (yup (yup F 31 0) 11 0) 8 (nI (ypr u).length)) 11 (nI ((ypr u).take 0).length) = yup (yup (yup F 31 0) 11 0) 8 (nI (ypr u).length) := yup_self (by rw [yup_ne (by omega), yup_eq]; exact nI_0.symm)
  have hmd : zMd h2 m (yup (yup (yup F 31 0) 11 0) 8 (nI (ypr u).length)) ((ypr u).take 0) := ⟨by rw [hself]; exact a1, zLst_cg (zLst_0 l7) (by rw [a3 _ (by omega) (by omega) (by omega), f1 _ (by omega)]) (by rw [a3 _ (by omega) (by omega) (by omega), f1 _ (by omega)])⟩
  obtain ⟨h3, e3, b1, b2⟩ := e_258a (sv := sv) (d := d + 4) (m := m) (l1 := .val (.int (nI i))) (l2 := .val (.int (nI j))) (l4 := .unset) (p := ypr u) (ynk_ypr u (Or.inr hu.1)) yup_eq (ypr u).length 0 h2 (Nat.zero_add _) hmd a2
  have fr3 : ∀ q, q ≠ m → q ≠ m + 5 → q ≠ m + 6 → q ≠ m + 7 → q ≠ m + 8 → h3.1 q = h.1 q := fun q n0 n5 n6 n7 n8 => by rw [b2.1 q n0 n7 n8, a3 q n0 n5 n6, f1 q n0]
  obtain ⟨h4, e4, c1, c2, c3, c4⟩ := e_206 (sv := sv) (d := d + 4) (h := h3) (hn.2.2.2.2.2 i t hi) b1.1 (zTab_cg hN (fr3 _ (by omega) (by omega) (by omega) (by omega) (by omega))) (zLst_fm a2 b2)
  have E4 : zcall zP sv (d + 5) 206 [.ref m, .int (nI i)] h3 = _ := e4
  have c1' := c1
  unfold zMo at c1'
  obtain ⟨h5, e5, g5, l5', fr5, q5⟩ := e_258b (sv := sv) (d := d + 4) (m := m) (l1 := .val (.int (nI i))) (l2 := .val (.int (nI j))) (G := yup (yup (yup (yup F 31 0) 11 0) 8 (nI (ypr u).length)) 11 (nI (ypr u).length)) (p := ypr u) (q := ypr t) (x3 := nI (ypr t).length) (ynk_ypr u (Or.inr hu.1)) yup_eq (by have := ht.2.1; have := hu.2.1; omega) (ypr u).length 0 h4 (Nat.zero_add _) c1' (zLst_cg b1.2 (c3 _ (by omega) (by omega) (by omega)) (c3 _ (by omega) (by omega) (by omega))) (by rw [List.take_zero, List.append_nil]; exact c2)
  rw [nI_0] at e3 e5
  have fr : ∀ q, q ≠ m → q ≠ m + 5 → q ≠ m + 6 → q ≠ m + 7 → q ≠ m + 8 → h5.1 q = h.1 q := fun q n0 n5 n6 n7 n8 => by rw [fr5 q n0 n5 n6, c3 q n0 n5 n6, fr3 q n0 n5 n6 n7 n8]
  refine ⟨h5, ?_, ⟨_, ?_, yup_eq, l5', ⟨g5, ⟨N, zTab_cg hN (fr _ (by omega) (by omega) (by omega) (by omega) (by omega)), hn⟩, zScm_of hs l5' (zLst_cg b1.2 (by rw [fr5 _ (by omega) (by omega) (by omega), c3 _ (by omega) (by omega) (by omega)]) (by rw [fr5 _ (by omega) (by omega) (by omega), c3 _ (by omega) (by omega) (by omega)])) (fun a ha => fr a (by omega) (by omega) (by omega) (by omega) (by omega))⟩, ⟨T, zTab_cg hT (fr _ (by omega) (by omega) (by omega) (by omega) (by omega))⟩, zRst_cg hr ⟨?_, ?_, ?_, ?_, ?_⟩ (fr _ (by omega) (by omega) (by omega) (by omega) (by omega)) (fr _ (by omega) (by omega) (by omega) (by omega) (by omega)) (fr _ (by omega) (by omega) (by omega) (by omega) (by omega)) (fr _ (by omega) (by omega) (by omega) (by omega) (by omega)), hA⟩, ⟨fun q hq => fr q (by omega) (by omega) (by omega) (by omega) (by omega), by rw [q5, c4, b2.2, a4, hh1]; rfl⟩⟩
  · have v31 : yup F 31 0 31 = 0 := yup_eq
    have v8 : yup (yup (yup (yup (yup F 31 0) 11 0) 8 (nI (ypr u).length)) 11 (nI (ypr u).length)) 8 (nI (ypr t).length) 8 = nI (ypr t).length := yup_eq
    have hr1 : ∀ X : zR, zrc (h1.1 m) 13 X = X := fun X => by rw [m1]; exact zrc_k
    have hr3 : ∀ X : zR, zrc (h3.1 m) 13 X = X := fun X => zMd_rc b1
    have S1 : zcall zP sv (d + 6) 258 [.ref m, .int (nI i), .int (nI j)] h = zrun zP sv (zcall zP sv (d + 5)) 258 46 [.val (.ref m), .val (.int (nI i)), .val (.int (nI j)), .val (.int 0), .unset] [] h2 := by
      rw [hh1] at E2 hr1
      rw [zc_258]
      simp (disch := exact znw_u) only [zs_258_0, zs_258_1, zs_258_2, zs_258_3, zs_258_6, zs_258_9, zs_258_10, zs_258_11, zs_258_14, zs_258_17, zs_258_18, zs_258_22, zs_258_25, zs_258_26, zs_258_29, zs_258_34, zs_258_35, zs_258_36, zs_258_39, zs_258_40, zs_258_41, zs_258_44, zs_258_45, g, zrc_13v, E, E', E2, zbk_v, zts_s, zts_n, nI_1e0, List.cons_append, List.nil_append, zmp_31, zup_at, zup_up, zmf_31, v31, zmp_11, Int32.lt_irrefl, hr1, ↓reduceIte]
    rw [S1, e3]
    simp (disch := first | exact znw_u | exact znw_i) only [zs_258_76, zs_258_77, zs_258_78, zs_258_81, zs_258_82, zs_258_85, zs_258_86, zs_258_87, hr3, E4, zbk_v, zts_n, c1', zmf_8, v8]
    rw [e5, hlt]
  · rw [yup_ne (by omega), yup_ne (by omega), yup_ne (by omega), yup_ne (by omega), yup_eq]
  all_goals rw [yup_ne (by omega), yup_ne (by omega), yup_ne (by omega), yup_ne (by omega), yup_ne (by omega)]
end ZQE
