def yvc (p : yP) : Nat := p.countP (fun q => decide (q.1 = nI 118))
section ZQC
variable {sv : Nat → Value} {d : Nat} {m : Nat} {F : Nat → Int32} {h : zH} {w : yW} {th : Int32} {i : Nat} {t : yT}
theorem yvc_tk {p : yP} {j : Nat} {y : Int32 × Int32} (hy : p[j]? = some y) : yvc (p.take (j + 1)) = yvc (p.take j) + (if y.1 = nI 118 then 1 else 0) := by
  unfold yvc
  rw [List.take_add_one, hy, List.countP_append]
  show _ + List.countP _ [y] = _
  rw [List.countP_singleton]
  by_cases c : y.1 = nI 118
  · rw [if_pos (decide_eq_true c), if_pos c]
  · rw [if_neg (by rw [decide_eq_false c]; decide), if_neg c]
theorem e_257l {l1 : Slot} {p : yP} (hm : h.1 m = (13, zMF m F)) (h8 : F 8 = nI p.length) (hl : zLst h (m + 5) (m + 6) p) : ∀ n j, j + n = p.length → zrun zP sv (zcall zP sv d) 257 14 [.val (.ref m), l1, .val (.int (nI (yvc (p.take j)))), .val (.int (nI j))] [] h = zrun zP sv (zcall zP sv d) 257 42 [.val (.ref m), l1, .val (.int (nI (yvc p))), .val (.int (nI p.length))] [] h := by
  have hlp : p.length ≤ 700 := by
    obtain ⟨_, _, _, _, _, _, _, _, b⟩ := hl
    exact b
  intro n
  induction n with
  | zero =>
    intro j hj
    obtain rfl : j = p.length := by omega
    simp only [zs_257_14, zs_257_15, zs_257_16, zs_257_19, hm, zmf_8, h8, Int32.lt_irrefl, ↓reduceIte, List.take_length]
  | succ n ih =>
    intro j hj
    obtain ⟨y, hy⟩ : ∃ y, p[j]? = some y := ⟨_, List.getElem?_eq_getElem (by omega)⟩
    obtain ⟨A, B, a1, a2, a3, a4, a5⟩ := e_look (k := y.1) (v := y.2) hl hy
    have e := ih (j + 1) (by omega)
    have g1 : nI j < nI p.length := nI_lt (by omega) (by omega)
    rw [yvc_tk hy] at e
    rw [← e]
    have eb : ∀ c : Nat, zrun zP sv (zcall zP sv d) 257 36 [.val (.ref m), l1, .val (.int (nI c)), .val (.int (nI j))] [] h = zrun zP sv (zcall zP sv d) 257 14 [.val (.ref m), l1, .val (.int (nI c)), .val (.int (nI (j + 1)))] [] h := fun c => by rw [zs_257_36, zs_257_39, nI_1']
    rw [← eb]
    by_cases c1 : y.1 = nI 118
    · rw [if_pos c1]
      simp only [zs_257_14, zs_257_15, zs_257_16, zs_257_19, zs_257_22, zs_257_23, zs_257_26, zs_257_27, zs_257_28, zs_257_30, zs_257_33, hm, zmf_6, zmf_8, h8, if_pos g1, a1, a3, c1, ↓reduceIte, nI_1']
    · rw [if_neg c1, Nat.add_zero]
      simp only [zs_257_14, zs_257_15, zs_257_16, zs_257_19, zs_257_22, zs_257_23, zs_257_26, zs_257_27, zs_257_28, zs_257_30, hm, zmf_6, zmf_8, h8, if_pos g1, a1, a3, if_neg c1]
theorem e_257x {x : Int32} (hM : zMdl h m w th) (hx : yinF (ycur w) x = false) : zMC m h (zcall zP sv (d + 7) 257 [.ref m, .int x] h) 0 w (nI 1) := by
  obtain ⟨h1, e1, m1, k1⟩ := e_252x (sv := sv) (d := d) hM hx
  have r0 : ∀ X : zR, zrc (h.1 m) 13 X = X := fun X => zMdl_rc hM
  refine ⟨h1, ?_, m1, k1⟩
  simp only [zc_257, zs_257_0, zs_257_1, zs_257_2, zs_257_5, zs_257_8, zs_257_9, r0, e1, zbk_v, zts_s, zgd_t, zty_50, ↓reduceIte]
theorem e_257 (hM : zMdl h m w th) (hi : (ycur w).1[i]? = some t) : zMC m h (zcall zP sv (d + 7) 257 [.ref m, .int (nI i)] h) (yb (decide (yvc (ypr t) = 0))) w 0 := by
  obtain ⟨h1, e1, m1, k1⟩ := e_252 (sv := sv) (d := d) hM hi
  have r0 : ∀ X : zR, zrc (h.1 m) 13 X = X := fun X => zMdl_rc hM
  have m1' := zMdL_M m1
  obtain ⟨F, f31, f8, l5, ⟨hm, _⟩, _, _, _, ht⟩ := m1
  unfold zMo at hm
  have q := e_257l (sv := sv) (d := d + 6) (l1 := .val (.int (nI i))) hm (by rw [f8, ypr_len]) l5 (ypr t).length 0 (Nat.zero_add _)
  have z0 : yvc ((ypr t).take 0) = 0 := rfl
  rw [z0, nI_0] at q
  have hle : yvc (ypr t) ≤ (ypr t).length := List.countP_le_length
  rw [ypr_len] at hle
  refine ⟨h1, ?_, m1', k1⟩
  simp (disch := first | exact znw_u | exact znw_i) only [zc_257, zs_257_0, zs_257_1, zs_257_2, zs_257_5, zs_257_10, zs_257_11, zs_257_12, zs_257_13, r0, e1, zbk_v, zts_s, nI_1e0, ↓reduceIte]
  rw [q]
  by_cases hv : yvc (ypr t) = 0
  · rw [hv, decide_eq_true rfl, yb_t]
    simp only [zs_257_42, zs_257_43, zs_257_46, zs_257_47, zs_257_51, nI_0, zgd_t, zty_51, ↓reduceIte]
  · have hv0 : ¬ nI (yvc (ypr t)) = 0 := nI_ne0 (by omega) (by have := ht.2.1; omega)
    rw [decide_eq_false hv, yb_f]
    simp only [zs_257_42, zs_257_43, zs_257_50, zs_257_51, if_neg hv0, zgd_t, zty_50]
end ZQC
