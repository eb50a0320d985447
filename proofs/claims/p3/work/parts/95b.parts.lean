section ZQK
variable {sv : Nat → Value} {d : Nat} {m : Nat} {F : Nat → Int32} {h : zH} {w : yW} {th : Int32} {i j : Nat} {t u : yT} {p : yP} {L : List yT}
/-- whether one of n parts from j on is b -/
def yany (Q : List yP) (b : Option yP) : Nat → Nat → Bool
  | _, 0 => false
  | j, n + 1 => decide (b = Q[j]?) || yany Q b (j + 1) n
theorem e_263i (hm : zMo h m F) (h8 : F 8 = nI p.length) (hl : zLst h (m + 5) (m + 6) p) (hL : yLs p L) {k : Nat} (hk : k < L.length) {l1 l2 l3 l4 : Slot} : ∀ n q (sm : Bool), q + n = L.length → ∃ x : Int32, zrun zP sv (zcall zP sv (d + 5)) 263 25 [.val (.ref m), l1, l2, l3, l4, .val (.int (nI k)), .val (.int (yb sm)), .val (.int (nI q))] [] h = zrun zP sv (zcall zP sv (d + 5)) 263 55 [.val (.ref m), l1, l2, l3, l4, .val (.int (nI k)), .val (.int (yb (sm || yany (L.map ypr) (L.map ypr)[k]? q n))), .val (.int x)] [] h := by
  have h7 : p.length ≤ 700 := by
    obtain ⟨_, _, _, _, _, _, _, _, z⟩ := hl
    exact z
  have hlen := hL.1
  obtain ⟨b, hb⟩ : ∃ b, L[k]? = some b := ⟨_, List.getElem?_eq_getElem hk⟩
  obtain ⟨bw, pre', post', e2, l2'⟩ := hL.2 k b hb
  have hb' : (L.map ypr)[k]? = some (ypr b) := by rw [List.getElem?_map, hb]; rfl
  have hr : ∀ X : zR, zrc (h.1 m) 13 X = X := fun X => zMo_rc hm
  have hm' : h.1 m = (13, zMF m F) := hm
  intro n
  induction n with
  | zero =>
    intro q sm hj
    obtain rfl : q = L.length := by omega
    refine ⟨nI L.length, ?_⟩
    rw [show yany (L.map ypr) (L.map ypr)[k]? L.length 0 = false from rfl, Bool.or_false]
    simp only [zs_263_25, zs_263_27, zs_263_28, zs_263_31, hm', zmf_8, h8, hlen, Int32.lt_irrefl, ↓reduceIte]
  | succ n ih =>
    intro q sm hj
    have g1 : nI q < nI L.length := nI_lt (by omega) (by omega)
    obtain ⟨a, ha⟩ : ∃ a, L[q]? = some a := ⟨_, List.getElem?_eq_getElem (by omega)⟩
    obtain ⟨aw, pre, post, e1, l1'⟩ := hL.2 q a ha
    have ha' : (L.map ypr)[q]? = some (ypr a) := by rw [List.getElem?_map, ha]; rfl
    have E : zcall zP sv (d + 5) 210 [.ref m, .int (nI pre'.length), .int (nI pre.length)] h = _ := e_210 (sv := sv) (d := d + 2) hm bw aw hl e2 e1
    rw [l1', l2'] at E
    cases sm with
    | true =>
      refine ⟨nI q, ?_⟩
      rw [Bool.true_or]
      simp only [zs_263_25, zs_263_27, zs_263_28, zs_263_31, zs_263_34, zs_263_36, yb_t, nI_1e0, hm', zmf_8, h8, hlen, if_pos g1, ↓reduceIte]
    | false =>
      obtain ⟨x, e⟩ := ih (q + 1) (decide (ypr b = ypr a)) (by omega)
      refine ⟨x, ?_⟩
      have hd : (false || yany (L.map ypr) (L.map ypr)[k]? q (n + 1)) = (decide (ypr b = ypr a) || yany (L.map ypr) (L.map ypr)[k]? (q + 1) n) := by
        rw [Bool.false_or]
        show (decide ((L.map ypr)[k]? = (L.map ypr)[q]?) || _) = _
        rw [ha', hb']
        congr 1
        exact decide_eq_decide.mpr (by rw [Option.some.injEq])
      rw [hd, ← e]
      have eb : ∀ b : Bool, zrun zP sv (zcall zP sv (d + 5)) 263 47 [.val (.ref m), l1, l2, l3, l4, .val (.int (nI k)), .val (.int (yb false)), .val (.int (nI q))] [.int (yb b)] h = zrun zP sv (zcall zP sv (d + 5)) 263 25 [.val (.ref m), l1, l2, l3, l4, .val (.int (nI k)), .val (.int (yb b)), .val (.int (nI (q + 1)))] [] h := fun b => by rw [zs_263_47 znw_i, zs_263_49, zs_263_52, nI_1']
      rw [← eb]
      simp (disch := first | exact znw_u | exact znw_i) only [zs_263_0, zs_263_0n, zs_263_1, zs_263_2, zs_263_3, zs_263_6, zs_263_7, zs_263_8, zs_263_10, zs_263_11, zs_263_13, zs_263_15, zs_263_16, zs_263_19, zs_263_20, zs_263_22, zs_263_23, zs_263_25, zs_263_27, zs_263_27n, zs_263_28, zs_263_31, zs_263_34, zs_263_36, zs_263_39, zs_263_39n, zs_263_40, zs_263_42, zs_263_44, zs_263_55, zs_263_57, zs_263_60, zs_263_60n, zs_263_61, zs_263_63, zs_263_64, zs_263_67, zs_263_70, zs_263_73, zs_263_76, zs_263_79, zs_263_81, hm', zmf_8, h8, hlen, if_pos g1, yb_f, zrc_13v, ↓reduceIte, hr, E, zbk_v, zts_s, List.cons_append, List.nil_append]
/-- how many of the first n parts are first of their kind and among those from s on -/
def ycm (Q : List yP) (s n : Nat) : Nat := (List.range n).countP (fun k => yany Q Q[k]? s (Q.length - s) && yfst Q k)
theorem ycm_s {Q : List yP} {s n : Nat} : ycm Q s (n + 1) = ycm Q s n + (if (yany Q Q[n]? s (Q.length - s) && yfst Q n) = true then 1 else 0) := by
  unfold ycm
  rw [List.range_succ, List.countP_append, List.countP_singleton]
theorem e_263l (hm : zMo h m F) (h8 : F 8 = nI p.length) (hl : zLst h (m + 5) (m + 6) p) (hL : yLs p L) {s : Nat} (hs : s ≤ L.length) {l1 l2 : Slot} : ∀ n j (l6 l7 : Slot), znw l6 = true → znw l7 = true → j + n = s → zrun zP sv (zcall zP sv (d + 5)) 263 13 [.val (.ref m), l1, l2, .val (.int (nI s)), .val (.int (nI (ycm (L.map ypr) s j))), .val (.int (nI j)), l6, l7] [] h = some (.inl (some (.int (nI (ycm (L.map ypr) s s)))), h) := by
  have h7 : p.length ≤ 700 := by
    obtain ⟨_, _, _, _, _, _, _, _, z⟩ := hl
    exact z
  have hlen := hL.1
  have hr : ∀ X : zR, zrc (h.1 m) 13 X = X := fun X => zMo_rc hm
  have hm' : h.1 m = (13, zMF m F) := hm
  intro n
  induction n with
  | zero =>
    intro j l6 l7 w6 w7 hj
    obtain rfl : j = s := by omega
    simp only [zs_263_13, zs_263_15, zs_263_16, zs_263_79, zs_263_81, Int32.lt_irrefl, ↓reduceIte]
  | succ n ih =>
    intro j l6 l7 w6 w7 hj
    have g1 : nI j < nI s := nI_lt (by omega) (by omega)
    have E : zcall zP sv (d + 5) 260 [.ref m, .int (nI j), .int 0] h = _ := e_260 (sv := sv) (d := d) hm hl hL (k := j) (by omega)
    obtain ⟨x, e⟩ := e_263i (sv := sv) (d := d) hm h8 hl hL (k := j) (by omega) (l1 := l1) (l2 := l2) (l3 := .val (.int (nI s))) (l4 := .val (.int (nI (ycm (L.map ypr) s j)))) (L.length - s) s false (by omega)
    rw [Bool.false_or, yb_f] at e
    have i2 := ih (j + 1) (.val (.int (yb (yany (L.map ypr) (L.map ypr)[j]? s (L.length - s))))) (.val (.int x)) znw_i znw_i (by omega)
    rw [← i2, ycm_s, List.length_map]
    have eb : ∀ q z, zrun zP sv (zcall zP sv (d + 5)) 263 73 [.val (.ref m), l1, l2, .val (.int (nI s)), .val (.int (nI q)), .val (.int (nI j)), .val (.int (yb z)), .val (.int x)] [] h = zrun zP sv (zcall zP sv (d + 5)) 263 13 [.val (.ref m), l1, l2, .val (.int (nI s)), .val (.int (nI q)), .val (.int (nI (j + 1))), .val (.int (yb z)), .val (.int x)] [] h := fun q z => by rw [zs_263_73, zs_263_76, nI_1']
    rw [← eb]
    simp (disch := first | exact w6 | exact w7 | exact znw_u | exact znw_i) only [zs_263_13, zs_263_15, zs_263_16, zs_263_19, zs_263_20, zs_263_22, zs_263_23, if_pos g1, e]
    generalize yany (L.map ypr) (L.map ypr)[j]? s (L.length - s) = z
    generalize ycm (L.map ypr) s j = c
    cases z with
    | false => simp only [zs_263_55, zs_263_57, yb_f, Bool.false_and, Bool.false_eq_true, ↓reduceIte, Nat.add_zero]
    | true =>
      cases hd : yfst (L.map ypr) j with
      | true =>
        rw [hd] at E
        simp (disch := first | exact znw_u | exact znw_i) only [zs_263_55, zs_263_57, zs_263_60, zs_263_61, zs_263_63, zs_263_64, zs_263_67, zs_263_70, hr, E, zbk_v, zts_s, yb_t, nI_1e0, nI_1', Bool.and_true, ↓reduceIte, List.cons_append, List.nil_append, zrc_13v]
      | false =>
        rw [hd] at E
        simp (disch := first | exact znw_u | exact znw_i) only [zs_263_55, zs_263_57, zs_263_60, zs_263_61, zs_263_63, zs_263_64, zs_263_67, hr, E, zbk_v, zts_s, yb_t, yb_f, nI_1e0, Bool.and_false, Bool.false_eq_true, Nat.add_zero, ↓reduceIte, List.cons_append, List.nil_append, zrc_13v]
theorem e_263x {x y : Int32} (hM : zMdl h m w th) (hx : (yinF (ycur w) x && yinF (ycur w) y) = false) : zMC m h (zcall zP sv (d + 7) 263 [.ref m, .int x, .int y] h) 0 w (nI 1) := by
  obtain ⟨h1, e1, m1, k1⟩ := e_258x (sv := sv) (d := d) hM hx
  have r0 : ∀ X : zR, zrc (h.1 m) 13 X = X := fun X => zMdl_rc hM
  have c1 : ¬ (0 : Int32) < -1 := by decide +kernel
  refine ⟨h1, ?_, m1, k1⟩
  simp (disch := first | exact znw_u | exact znw_i) only [zc_263, zs_263_0, zs_263_1, zs_263_2, zs_263_3, zs_263_6, zs_263_7, zs_263_8, zs_263_10, zs_263_11, zs_263_13, zs_263_15, zs_263_16, zs_263_79, zs_263_81, r0, e1, zbk_v, zts_s, if_neg c1, List.cons_append, List.nil_append]
theorem e_263 (hM : zMdl h m w th) (hi : (ycur w).1[i]? = some t) (hj : (ycur w).1[j]? = some u) : zMC m h (zcall zP sv (d + 7) 263 [.ref m, .int (nI i), .int (nI j)] h) (nI (ycm ((yts t ++ yts u).map ypr) (ysz t) (ysz t))) w 0 := by
  obtain ⟨h1, e1, m1, k1⟩ := e_258 (sv := sv) (d := d) hM hi hj
  have r0 : ∀ X : zR, zrc (h.1 m) 13 X = X := fun X => zMdl_rc hM
  have hA := zMdl_A hM
  have ht := hA.2.1 t (List.mem_of_getElem? hi)
  have hu := hA.2.1 u (List.mem_of_getElem? hj)
  have mM := zMdP_M m1
  obtain ⟨F, f31, f8, l5, ⟨hm, _⟩, _⟩ := m1
  have E := e_263l (sv := sv) (d := d + 1) hm f8 l5 (yLs_app (yLs_t t (Or.inl ht.1)) (yLs_t u (Or.inl hu.1))) (s := ysz t) (by rw [List.length_append, yts_len]; omega) (l1 := .val (.int (nI i))) (l2 := .val (.int (nI j))) (ysz t) 0 .unset .unset znw_u znw_u (Nat.zero_add _)
  rw [show ycm ((yts t ++ yts u).map ypr) (ysz t) 0 = 0 from rfl, nI_0] at E
  refine ⟨h1, ?_, mM, k1⟩
  simp (disch := first | exact znw_u | exact znw_i) only [zc_263, zs_263_0, zs_263_1, zs_263_2, zs_263_3, zs_263_6, zs_263_7, zs_263_8, zs_263_10, zs_263_11, r0, e1, zbk_v, zts_s, List.cons_append, List.nil_append]
  exact E
end ZQK
