section ZQG
variable {sv : Nat → Value} {d : Nat} {m : Nat} {F : Nat → Int32} {h : zH} {ps : yP}
theorem ysub_at {pre P post : yP} (he : ps = pre ++ P ++ post) : ∀ k, k < P.length → ps[pre.length + k]? = P[k]? := fun k hk => by
  rw [he, List.append_assoc, List.getElem?_append_right (by omega), Nat.add_sub_cancel_left, List.getElem?_append_left hk]
theorem e_210 {a b : yT} {pre post pre' post' : yP} (hm : zMo h m F) (ha : ytw a = true) (hb : ytw b = true) (hl : zLst h (m + 5) (m + 6) ps) (h1 : ps = pre ++ ypr a ++ post) (h2 : ps = pre' ++ ypr b ++ post') : zcall zP sv (d + 3) 210 [.ref m, .int (nI pre.length), .int (nI pre'.length)] h = some (.inl (some (.int (yb (decide (ypr a = ypr b))))), h) := by
  have E1 : zcall zP sv (d + 2) 209 [.ref m, .int (nI pre.length)] h = _ := e_209 (sv := sv) (d := d) hm ha (by rw [← h1]; exact hl)
  have E2 : zcall zP sv (d + 2) 209 [.ref m, .int (nI pre'.length)] h = _ := e_209 (sv := sv) (d := d) hm hb (by rw [← h2]; exact hl)
  have hla := ypr_len a
  have hlb := ypr_len b
  have h7 : ps.length ≤ 700 := by
    obtain ⟨_, _, _, _, _, _, _, _, z⟩ := hl
    exact z
  have n1 : ps.length = pre.length + (ypr a).length + post.length := by rw [h1, List.length_append, List.length_append]
  have n2 : ps.length = pre'.length + (ypr b).length + post'.length := by rw [h2, List.length_append, List.length_append]
  have hr : ∀ X : zR, zrc (h.1 m) 13 X = X := fun X => zMo_rc hm
  rw [zc_210]
  by_cases c : ysz a = ysz b
  · have q := e_210l (sv := sv) (d := d + 2) (P := ypr a) (Q := ypr b) (x := pre.length) (y := pre'.length) hm hl (ysub_at h1) (ysub_at h2) (by rw [hla, hlb, c]) (by omega) (ypr a).length 0 true (Nat.zero_add _)
    rw [List.drop_zero, List.drop_zero, Bool.true_and, nI_0, hla, yb_t] at q
    have c' : nI (ysz a) = nI (ysz b) := by rw [c]
    simp (disch := first | exact znw_u | exact znw_i) only [zs_210_0, zs_210_1, zs_210_2, zs_210_5, zs_210_6, zs_210_7, zs_210_8, zs_210_9, zs_210_10, zs_210_11, zs_210_14, zs_210_15, zs_210_16, zs_210_19, zs_210_20, zs_210_24, zs_210_26, zs_210_27, hr, E1, E2, zbk_v, zts_s, List.cons_append, List.nil_append, nI_sub', if_pos c']
    exact q
  · have c' : ¬ nI (ysz a) = nI (ysz b) := fun q => c ((nI_eq (by omega) (by omega)).mp q)
    have hne : ¬ ypr a = ypr b := fun q => c (by rw [← hla, ← hlb, q])
    rw [decide_eq_false hne, yb_f]
    have hn0 := ytw_sz ha
    have g1 : (0 : Int32) < nI (ysz a) := by rw [← nI_0]; exact nI_lt hn0 (by omega)
    simp (disch := first | exact znw_u | exact znw_i) only [zs_210_0, zs_210_1, zs_210_2, zs_210_5, zs_210_6, zs_210_7, zs_210_8, zs_210_9, zs_210_10, zs_210_11, zs_210_14, zs_210_15, zs_210_16, zs_210_23, zs_210_24, zs_210_26, zs_210_27, zs_210_29, zs_210_31, zs_210_32, zs_210_35, zs_210_37, zs_210_95, zs_210_97, hr, E1, E2, zbk_v, zts_s, List.cons_append, List.nil_append, nI_sub', if_neg c', if_pos g1, ↓reduceIte, zgd_t, zty_50]
end ZQG
