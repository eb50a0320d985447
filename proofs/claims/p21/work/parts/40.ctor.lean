/-! The heap as it grows; constructors. -/
/-- more cells behind the heap's end -/
def zext (h : zH) (L : List zC) (S : Nat) : zH := (fun q => if q < h.2.1 then h.1 q else (L[q - h.2.1]?).getD (h.1 q), h.2.1 + L.length, h.2.2 + S)
theorem zext_of (h : zH) (c : zC) (n : Nat) : znew h c n = zext h [c] n := by
  unfold znew zext
  refine Prod.ext (funext fun q => ?_) rfl
  show (if q = h.2.1 then c else h.1 q) = if q < h.2.1 then h.1 q else ([c][q - h.2.1]?).getD (h.1 q)
  by_cases h1 : q < h.2.1
  · rw [if_pos h1, if_neg (by omega)]
  · rw [if_neg h1]
    by_cases h2 : q = h.2.1
    · subst h2
      simp
    · rw [if_neg h2, List.getElem?_eq_none (by simp; omega)]
      rfl
theorem zext_sz {h : zH} {L : List zC} {S : Nat} : (zext h L S).2.1 = h.2.1 + L.length := rfl
theorem zext_sl {h : zH} {L : List zC} {S : Nat} : (zext h L S).2.2 = h.2.2 + S := rfl
theorem zext_lo {h : zH} {L : List zC} {S q : Nat} (hq : q < h.2.1) : (zext h L S).1 q = h.1 q := if_pos hq
theorem zext_hi {h : zH} {L : List zC} {S k : Nat} : (zext h L S).1 (h.2.1 + k) = (L[k]?).getD (h.1 (h.2.1 + k)) := by
  show (if h.2.1 + k < h.2.1 then _ else _) = _
  rw [if_neg (by omega), Nat.add_sub_cancel_left]
theorem zext_0 {h : zH} {c : zC} {L : List zC} {S : Nat} : (zext h (c :: L) S).1 h.2.1 = c := zext_hi (k := 0)
theorem zup_lo {h : zH} {L : List zC} {S a : Nat} {c : zC} (ha : a < h.2.1) : zup (zext h L S) a c = zext (zup h a c) L S := by
  unfold zup zext
  refine Prod.ext (funext fun q => ?_) rfl
  show (if q = a then c else if q < h.2.1 then h.1 q else (L[q - h.2.1]?).getD (h.1 q)) = if q < h.2.1 then (if q = a then c else h.1 q) else (L[q - h.2.1]?).getD (if q = a then c else h.1 q)
  by_cases h1 : q < h.2.1
  · rw [if_pos h1, if_pos h1]
  · rw [if_neg h1, if_neg h1, if_neg (by omega), if_neg (by omega)]
theorem zup_hi {h : zH} {L : List zC} {S k : Nat} {c : zC} (hk : k < L.length) : zup (zext h L S) (h.2.1 + k) c = zext h (L.set k c) S := by
  unfold zup zext
  refine Prod.ext (funext fun q => ?_) (by simp)
  show (if q = h.2.1 + k then c else if q < h.2.1 then h.1 q else (L[q - h.2.1]?).getD (h.1 q)) = if q < h.2.1 then h.1 q else ((L.set k c)[q - h.2.1]?).getD (h.1 q)
  by_cases h1 : q < h.2.1
  · rw [if_neg (by omega), if_pos h1, if_pos h1]
  · rw [if_neg h1, if_neg h1]
    by_cases h2 : q = h.2.1 + k
    · subst h2
      rw [if_pos rfl, Nat.add_sub_cancel_left, List.getElem?_set_self hk]
      rfl
    · rw [if_neg h2, List.getElem?_set_ne (by omega)]
theorem zup_0 {h : zH} {L : List zC} {S : Nat} {c0 c : zC} : zup (zext h (c0 :: L) S) h.2.1 c = zext h (c :: L) S := zup_hi (k := 0) (by simp)
theorem zup_sz {h : zH} {a : Nat} {c : zC} : (zup h a c).2.1 = h.2.1 := rfl
theorem zup_sl {h : zH} {a : Nat} {c : zC} : (zup h a c).2.2 = h.2.2 := rfl
theorem zup_at {h : zH} {a : Nat} {c : zC} : (zup h a c).1 a = c := if_pos rfl
theorem zup_ne {h : zH} {a b : Nat} {c : zC} (hb : b ≠ a) : (zup h a c).1 b = h.1 b := if_neg hb
theorem zup_up {h : zH} {a : Nat} {c c' : zC} : zup (zup h a c) a c' = zup h a c' := by
  unfold zup
  refine Prod.ext (funext fun q => ?_) rfl
  show (if q = a then c' else if q = a then c else h.1 q) = if q = a then c' else h.1 q
  by_cases h1 : q = a
  · rw [if_pos h1, if_pos h1]
  · rw [if_neg h1, if_neg h1, if_neg h1]
theorem zext_ext {h : zH} {L M : List zC} {S T : Nat} : zext (zext h L S) M T = zext h (L ++ M) (S + T) := by
  unfold zext
  refine Prod.ext (funext fun q => ?_) (by simp [Nat.add_assoc])
  show (if q < h.2.1 + L.length then (if q < h.2.1 then h.1 q else (L[q - h.2.1]?).getD (h.1 q)) else (M[q - (h.2.1 + L.length)]?).getD (if q < h.2.1 then h.1 q else (L[q - h.2.1]?).getD (h.1 q))) = if q < h.2.1 then h.1 q else ((L ++ M)[q - h.2.1]?).getD (h.1 q)
  by_cases h1 : q < h.2.1
  · rw [if_pos (by omega), if_pos h1, if_pos h1]
  · rw [if_neg h1, if_neg h1]
    by_cases h2 : q < h.2.1 + L.length
    · rw [if_pos h2, List.getElem?_append_left (by omega)]
    · rw [if_neg h2, List.getElem?_append_right (by omega), List.getElem?_eq_none (l := L) (by omega), show q - h.2.1 - L.length = q - (h.2.1 + L.length) by omega]
      rfl
/-- a field out of its cell -/
theorem zfld_k {kd j : Nat} {vs : List Value} {v : Value} {K : Value → zR} (hv : vs[j]? = some v) : zfld (kd, vs) kd j K = K v := by
  unfold zfld
  have := (List.getElem?_eq_some_iff.mp hv).1
  rw [if_pos ⟨rfl, this⟩, List.getD_eq_getElem?_getD, hv]
  rfl
theorem zpfd_k {kd j t : Nat} {vs vs' : List Value} {v : Value} {K : zC → zR} (hj : j < vs.length) (ht : zty t v = true) (hs : vs.set j v = vs') : zpfd (kd, vs) kd j t v K = K (kd, vs') := by
  unfold zpfd
  subst hs
  rw [if_pos ⟨rfl, hj, ht⟩]
theorem znwa_k {n : Nat} {K : Nat → zR} (hn : n ≤ 65536) : znwa (nI n) K = K n := by
  unfold znwa
  rw [nI_clamp (by omega), if_pos ⟨nI_pos (by omega), hn⟩]
theorem zgd_t {X : zR} : zgd true X = X := rfl
theorem zl_0 {c : zC} {h : zH} {S : Nat} : (zext h [c] S).2.1 = h.2.1 + 1 := rfl
/-- the last of the cells behind -/
theorem zext_last {h : zH} {L : List zC} {S k : Nat} {c : zC} (hk : L.length = k) : (zext h (L ++ [c]) S).1 (h.2.1 + k) = c := by
  subst hk
  rw [zext_hi, List.getElem?_append_right (Nat.le_refl _), Nat.sub_self]
  rfl
theorem zup_last {h : zH} {L : List zC} {S k : Nat} {c0 c : zC} (hk : L.length = k) : zup (zext h (L ++ [c0]) S) (h.2.1 + k) c = zext h (L ++ [c]) S := by
  subst hk
  rw [zup_hi (by simp)]
  congr 1
  simp
def rowT (a n : Nat) : List zC := [(20, List.replicate n (.int 0))]
def rowC (a n : Nat) : List zC := [(4, [.ref (a + 1)]), (20, List.replicate n (.int 0))]
theorem zext_1 {h : zH} {L : List zC} {S k : Nat} {c : zC} (hk : L[k]? = some c) : (zext h L S).1 (h.2.1 + k) = c := by
  rw [zext_hi, hk]
  rfl
theorem zext_q {h : zH} {L : List zC} {S q : Nat} : (zext h L S).1 q = if q < h.2.1 then h.1 q else (L[q - h.2.1]?).getD (h.1 q) := rfl
theorem zup_q {h : zH} {L : List zC} {S a : Nat} {c : zC} (ha : a < h.2.1) : zup (zext h L S) a c = zext (zup h a c) L S := zup_lo ha
theorem zup_r {h : zH} {L : List zC} {S a : Nat} {c : zC} (ha : h.2.1 ≤ a) (hb : a < h.2.1 + L.length) : zup (zext h L S) a c = zext h (L.set (a - h.2.1) c) S := by
  obtain ⟨k, rfl⟩ : ∃ k, a = h.2.1 + k := ⟨a - h.2.1, by omega⟩
  rw [zup_hi (by omega), Nat.add_sub_cancel_left]
theorem za1 {n k : Nat} : (n + k < n) = False := by simp
theorem za2 {n : Nat} : (n < n) = False := by simp
theorem za3 {n k : Nat} : n + k - n = k := Nat.add_sub_cancel_left n k
theorem za4 {n : Nat} : n - n = 0 := Nat.sub_self n
theorem nI_10 : (nI 1 = 0) = False := by decide +kernel
section ZCT
variable {sv : Nat → Value} {d : Nat} {h : zH}
theorem c_Row {r n : Nat} (hr : h.1 r = (4, [.null])) (hl : r < h.2.1) (h0 : 0 < n) (hn : n ≤ 65536) : zcall zP sv (d + 1) 164 [.ref r, .int (nI n)] h = some (.inl none, zext (zup h r (4, [.ref h.2.1])) [(20, List.replicate n (.int 0))] n) := by
  have hp : (0 : Int32) < nI n := by rw [← nI_0]; exact nI_lt h0 (by omega)
  rw [zcall_s (n := 2) (ls := [.val (.ref r), .val (.int (nI n))]) rfl rfl (Nat.le_of_ble_eq_true rfl)]
  simp only [zs_164_0, zs_164_1, zs_164_4, zs_164_5, zs_164_6, zs_164_9, zs_164_10, zs_164_13, zs_164_14, zs_164_16, zs_164_19, if_pos hp, znwa_k hn, zext_of]
  rw [zext_lo hl, hr, zpfd_k (vs' := [.ref h.2.1]) (by decide) rfl rfl, zup_lo hl]
theorem c_State {r : Nat} (hr : h.1 r = (3, [.null, .int 0, .null, .int 0, .int 0])) (hl : r < h.2.1) : zcall zP sv (d + 2) 168 [.ref r] h = some (.inl none, zext (zup h r (3, [.ref h.2.1, .int 0, .ref (h.2.1 + 1), .int (nI 2), .int 0])) [(25, List.replicate 6 .null), (4, [.ref (h.2.1 + 2)]), (20, List.replicate 6 (.int 0))] 13) := by
  rw [zcall_s (n := 1) (ls := [.val (.ref r)]) rfl rfl (Nat.le_of_ble_eq_true rfl)]
  simp (disch := first | assumption | omega | rfl | (simp only [zext_q, zup_sz, zext_sz, zup_at, za1, za2, za3, za4, if_true, if_false, List.getElem?_cons_zero, List.getElem?_cons_succ, Option.getD_some, List.length_cons, List.length_nil]; omega) | (simp only [zext_q, zup_sz, zext_sz, zup_at, za1, za2, za3, za4, if_true, if_false, List.getElem?_cons_zero, List.getElem?_cons_succ, Option.getD_some, List.length_cons, List.length_nil])) only [zs_168_0, zs_168_0n, zs_168_1, zs_168_4, zs_168_4n, zs_168_5, zs_168_7, zs_168_10, zs_168_10n, zs_168_13, zs_168_13n, zs_168_14, zs_168_15, zs_168_18, zs_168_18n, zs_168_19, zs_168_22, zs_168_23, zs_168_25, zs_168_28, zs_168_28n, zs_168_31, zs_168_31n, zs_168_32, zs_168_33, zs_168_36, zs_168_36n, zs_168_37, zs_168_38, zs_168_41, zrc_3, zf_3_0, zp_3_0, zp_3_0n, zf_3_1, zp_3_1, zf_3_2, zp_3_2, zp_3_2n, zf_3_3, zp_3_3, zf_3_4, zp_3_4, zrc_4, zf_4_0, zp_4_0, zp_4_0n, hr, zext_of, zext_ext, zext_q, zup_q, zup_r, zup_up, zup_at, zup_sz, zext_sz, za1, za2, za3, za4, hl, if_true, if_false, List.getElem?_cons_zero, List.getElem?_cons_succ, List.set_cons_zero, List.set_cons_succ, Option.getD_some, List.length_cons, List.length_nil, Nat.reduceAdd, Nat.zero_add, Nat.add_zero, Nat.add_assoc, List.nil_append, List.cons_append, zbk_v, zts_s, zts_n, znwa_k, c_Row]
theorem c_Tree {r n : Nat} (hr : h.1 r = (6, [.null, .null, .null, .null, .int 0, .int 0])) (hl : r < h.2.1) (h0 : 0 < n) (hn : n ≤ 65536) : zcall zP sv (d + 2) 181 [.ref r, .int (nI n)] h = some (.inl none, zext (zup h r (6, [.ref h.2.1, .ref (h.2.1 + 2), .ref (h.2.1 + 4), .ref (h.2.1 + 6), .int (nI n), .int 0])) [(4, [.ref (h.2.1 + 1)]), (20, List.replicate n (.int 0)), (4, [.ref (h.2.1 + 3)]), (20, List.replicate n (.int 0)), (4, [.ref (h.2.1 + 5)]), (20, List.replicate n (.int 0)), (4, [.ref (h.2.1 + 7)]), (20, List.replicate n (.int 0))] (1 + n + (1 + n + (1 + n + (1 + n))))) := by
  rw [zcall_s (n := 2) (ls := [.val (.ref r), .val (.int (nI n))]) rfl rfl (Nat.le_of_ble_eq_true rfl)]
  simp (disch := first | assumption | omega | rfl | (simp only [zext_q, zup_sz, zext_sz, zup_at, za1, za2, za3, za4, if_true, if_false, List.getElem?_cons_zero, List.getElem?_cons_succ, Option.getD_some, List.length_cons, List.length_nil]; omega) | (simp only [zext_q, zup_sz, zext_sz, zup_at, za1, za2, za3, za4, if_true, if_false, List.getElem?_cons_zero, List.getElem?_cons_succ, Option.getD_some, List.length_cons, List.length_nil])) only [zs_181_0, zs_181_1, zs_181_4, zs_181_5, zs_181_8, zs_181_9, zs_181_10, zs_181_13, zs_181_16, zs_181_17, zs_181_20, zs_181_21, zs_181_22, zs_181_25, zs_181_28, zs_181_29, zs_181_32, zs_181_33, zs_181_34, zs_181_37, zs_181_40, zs_181_41, zs_181_44, zs_181_45, zs_181_46, zs_181_49, zs_181_52, zs_181_53, zs_181_54, zs_181_57, zs_181_58, zs_181_59, zs_181_62, zrc_4, zf_4_0, zp_4_0, zp_4_0n, zrc_6, zf_6_0, zp_6_0, zp_6_0n, zf_6_1, zp_6_1, zp_6_1n, zf_6_2, zp_6_2, zp_6_2n, zf_6_3, zp_6_3, zp_6_3n, zf_6_4, zp_6_4, zf_6_5, zp_6_5, hr, zext_of, zext_ext, zext_q, zup_q, zup_r, zup_up, zup_at, zup_sz, zext_sz, za1, za2, za3, za4, hl, if_true, if_false, List.getElem?_cons_zero, List.getElem?_cons_succ, List.set_cons_zero, List.set_cons_succ, Option.getD_some, List.length_cons, List.length_nil, Nat.reduceAdd, Nat.zero_add, Nat.add_zero, Nat.add_assoc, List.nil_append, List.cons_append, zbk_v, zts_s, zts_n, znwa_k, c_Row]
theorem c_Input {r : Nat} (hr : h.1 r = (8, [.null, .int 0])) (hl : r < h.2.1) : zcall zP sv (d + 1) 136 [.ref r] h = some (.inl none, zext (zup h r (8, [.ref h.2.1, .int 0])) [(21, List.replicate 60 (.int 0))] 60) := by
  rw [zcall_s (n := 1) (ls := [.val (.ref r)]) rfl rfl (Nat.le_of_ble_eq_true rfl)]
  simp (disch := first | assumption | omega | rfl | (simp only [zext_q, zup_sz, zext_sz, zup_at, za1, za2, za3, za4, if_true, if_false, List.getElem?_cons_zero, List.getElem?_cons_succ, Option.getD_some, List.length_cons, List.length_nil]; omega) | (simp only [zext_q, zup_sz, zext_sz, zup_at, za1, za2, za3, za4, if_true, if_false, List.getElem?_cons_zero, List.getElem?_cons_succ, Option.getD_some, List.length_cons, List.length_nil])) only [zs_136_0, zs_136_1, zs_136_4, zs_136_5, zs_136_7, zs_136_9, zs_136_12, zs_136_13, zs_136_14, zs_136_17, zrc_8, zf_8_0, zp_8_0, zp_8_0n, zf_8_1, zp_8_1, hr, zext_of, zext_ext, zext_q, zup_q, zup_r, zup_up, zup_at, zup_sz, zext_sz, za1, za2, za3, za4, hl, if_true, if_false, List.getElem?_cons_zero, List.getElem?_cons_succ, List.set_cons_zero, List.set_cons_succ, Option.getD_some, List.length_cons, List.length_nil, Nat.reduceAdd, Nat.zero_add, Nat.add_zero, Nat.add_assoc, List.nil_append, List.cons_append, zbk_v, zts_s, zts_n, znwa_k]
theorem c_Parser {r : Nat} (hr : h.1 r = (7, [.null, .null, .int 0])) (hl : r < h.2.1) : zcall zP sv (d + 3) 148 [.ref r] h = some (.inl none, zext (zup h r (7, [.ref h.2.1, .ref (h.2.1 + 2), .int 0])) [(8, [.ref (h.2.1 + 1), .int 0]), (21, List.replicate 60 (.int 0)), (6, [.ref (h.2.1 + 3), .ref (h.2.1 + 5), .ref (h.2.1 + 7), .ref (h.2.1 + 9), .int (nI 60), .int 0]), (4, [.ref (h.2.1 + 4)]), (20, List.replicate 60 (.int 0)), (4, [.ref (h.2.1 + 6)]), (20, List.replicate 60 (.int 0)), (4, [.ref (h.2.1 + 8)]), (20, List.replicate 60 (.int 0)), (4, [.ref (h.2.1 + 10)]), (20, List.replicate 60 (.int 0))] 312) := by
  rw [zcall_s (n := 1) (ls := [.val (.ref r)]) rfl rfl (Nat.le_of_ble_eq_true rfl)]
  simp (disch := first | assumption | omega | rfl | (simp only [zext_q, zup_sz, zext_sz, zup_at, za1, za2, za3, za4, if_true, if_false, List.getElem?_cons_zero, List.getElem?_cons_succ, Option.getD_some, List.length_cons, List.length_nil]; omega) | (simp only [zext_q, zup_sz, zext_sz, zup_at, za1, za2, za3, za4, if_true, if_false, List.getElem?_cons_zero, List.getElem?_cons_succ, Option.getD_some, List.length_cons, List.length_nil])) only [zs_148_0, zs_148_1, zs_148_4, zs_148_5, zs_148_8, zs_148_9, zs_148_12, zs_148_15, zs_148_16, zs_148_19, zs_148_20, zs_148_22, zs_148_25, zs_148_28, zs_148_29, zs_148_30, zs_148_33, zrc_4, zf_4_0, zp_4_0, zp_4_0n, zrc_6, zf_6_0, zp_6_0, zp_6_0n, zf_6_1, zp_6_1, zp_6_1n, zf_6_2, zp_6_2, zp_6_2n, zf_6_3, zp_6_3, zp_6_3n, zf_6_4, zp_6_4, zf_6_5, zp_6_5, zrc_7, zf_7_0, zp_7_0, zp_7_0n, zf_7_1, zp_7_1, zp_7_1n, zf_7_2, zp_7_2, zrc_8, zf_8_0, zp_8_0, zp_8_0n, zf_8_1, zp_8_1, hr, zext_of, zext_ext, zext_q, zup_q, zup_r, zup_up, zup_at, zup_sz, zext_sz, za1, za2, za3, za4, hl, if_true, if_false, List.getElem?_cons_zero, List.getElem?_cons_succ, List.set_cons_zero, List.set_cons_succ, Option.getD_some, List.length_cons, List.length_nil, Nat.reduceAdd, Nat.zero_add, Nat.add_zero, Nat.add_assoc, List.nil_append, List.cons_append, zbk_v, zts_s, zts_n, znwa_k, c_Input, c_Tree]
theorem c_Algebra {r : Nat} (hr : h.1 r = (9, [.null])) (hl : r < h.2.1) : zcall zP sv (d + 2) 90 [.ref r] h = some (.inl none, zext (zup h r (9, [.ref h.2.1])) [(4, [.ref (h.2.1 + 1)]), (20, List.replicate 124 (.int 0))] 125) := by
  rw [zcall_s (n := 1) (ls := [.val (.ref r)]) rfl rfl (Nat.le_of_ble_eq_true rfl)]
  simp (disch := first | assumption | omega | rfl | (simp only [zext_q, zup_sz, zext_sz, zup_at, za1, za2, za3, za4, if_true, if_false, List.getElem?_cons_zero, List.getElem?_cons_succ, Option.getD_some, List.length_cons, List.length_nil]; omega) | (simp only [zext_q, zup_sz, zext_sz, zup_at, za1, za2, za3, za4, if_true, if_false, List.getElem?_cons_zero, List.getElem?_cons_succ, Option.getD_some, List.length_cons, List.length_nil])) only [zs_90_0, zs_90_1, zs_90_4, zs_90_5, zs_90_8, zs_90_9, zs_90_11, zs_90_14, zs_90_17, zrc_4, zf_4_0, zp_4_0, zp_4_0n, zrc_9, zf_9_0, zp_9_0, zp_9_0n, hr, zext_of, zext_ext, zext_q, zup_q, zup_r, zup_up, zup_at, zup_sz, zext_sz, za1, za2, za3, za4, hl, if_true, if_false, List.getElem?_cons_zero, List.getElem?_cons_succ, List.set_cons_zero, List.set_cons_succ, Option.getD_some, List.length_cons, List.length_nil, Nat.reduceAdd, Nat.zero_add, Nat.add_zero, Nat.add_assoc, List.nil_append, List.cons_append, zbk_v, zts_s, zts_n, znwa_k, c_Row]
theorem c_Gauge {r : Nat} (hr : h.1 r = (10, [.null, .null, .null])) (hl : r < h.2.1) : zcall zP sv (d + 2) 116 [.ref r] h = some (.inl none, zext (zup h r (10, [.ref h.2.1, .ref (h.2.1 + 2), .ref (h.2.1 + 4)])) [(4, [.ref (h.2.1 + 1)]), (20, List.replicate 124 (.int 0)), (4, [.ref (h.2.1 + 3)]), (20, List.replicate 124 (.int 0)), (4, [.ref (h.2.1 + 5)]), (20, List.replicate 124 (.int 0))] 375) := by
  rw [zcall_s (n := 1) (ls := [.val (.ref r)]) rfl rfl (Nat.le_of_ble_eq_true rfl)]
  simp (disch := first | assumption | omega | rfl | (simp only [zext_q, zup_sz, zext_sz, zup_at, za1, za2, za3, za4, if_true, if_false, List.getElem?_cons_zero, List.getElem?_cons_succ, Option.getD_some, List.length_cons, List.length_nil]; omega) | (simp only [zext_q, zup_sz, zext_sz, zup_at, za1, za2, za3, za4, if_true, if_false, List.getElem?_cons_zero, List.getElem?_cons_succ, Option.getD_some, List.length_cons, List.length_nil])) only [zs_116_0, zs_116_1, zs_116_4, zs_116_5, zs_116_8, zs_116_9, zs_116_11, zs_116_14, zs_116_17, zs_116_18, zs_116_21, zs_116_22, zs_116_24, zs_116_27, zs_116_30, zs_116_31, zs_116_34, zs_116_35, zs_116_37, zs_116_40, zs_116_43, zrc_4, zf_4_0, zp_4_0, zp_4_0n, zrc_10, zf_10_0, zp_10_0, zp_10_0n, zf_10_1, zp_10_1, zp_10_1n, zf_10_2, zp_10_2, zp_10_2n, hr, zext_of, zext_ext, zext_q, zup_q, zup_r, zup_up, zup_at, zup_sz, zext_sz, za1, za2, za3, za4, hl, if_true, if_false, List.getElem?_cons_zero, List.getElem?_cons_succ, List.set_cons_zero, List.set_cons_succ, Option.getD_some, List.length_cons, List.length_nil, Nat.reduceAdd, Nat.zero_add, Nat.add_zero, Nat.add_assoc, List.nil_append, List.cons_append, zbk_v, zts_s, zts_n, znwa_k, c_Row]
theorem c_Numbering {r : Nat} (hr : h.1 r = (11, [.null, .null])) (hl : r < h.2.1) : zcall zP sv (d + 3) 142 [.ref r] h = some (.inl none, zext (zup h r (11, [.ref h.2.1, .ref (h.2.1 + 9)])) [(6, [.ref (h.2.1 + 1), .ref (h.2.1 + 3), .ref (h.2.1 + 5), .ref (h.2.1 + 7), .int (nI 62), .int 0]), (4, [.ref (h.2.1 + 2)]), (20, List.replicate 62 (.int 0)), (4, [.ref (h.2.1 + 4)]), (20, List.replicate 62 (.int 0)), (4, [.ref (h.2.1 + 6)]), (20, List.replicate 62 (.int 0)), (4, [.ref (h.2.1 + 8)]), (20, List.replicate 62 (.int 0)), (4, [.ref (h.2.1 + 10)]), (20, List.replicate 31 (.int 0))] 290) := by
  rw [zcall_s (n := 1) (ls := [.val (.ref r)]) rfl rfl (Nat.le_of_ble_eq_true rfl)]
  simp (disch := first | assumption | omega | rfl | (simp only [zext_q, zup_sz, zext_sz, zup_at, za1, za2, za3, za4, if_true, if_false, List.getElem?_cons_zero, List.getElem?_cons_succ, Option.getD_some, List.length_cons, List.length_nil]; omega) | (simp only [zext_q, zup_sz, zext_sz, zup_at, za1, za2, za3, za4, if_true, if_false, List.getElem?_cons_zero, List.getElem?_cons_succ, Option.getD_some, List.length_cons, List.length_nil])) only [zs_142_0, zs_142_1, zs_142_4, zs_142_5, zs_142_8, zs_142_9, zs_142_11, zs_142_14, zs_142_17, zs_142_18, zs_142_21, zs_142_22, zs_142_24, zs_142_27, zs_142_30, zrc_4, zf_4_0, zp_4_0, zp_4_0n, zrc_6, zf_6_0, zp_6_0, zp_6_0n, zf_6_1, zp_6_1, zp_6_1n, zf_6_2, zp_6_2, zp_6_2n, zf_6_3, zp_6_3, zp_6_3n, zf_6_4, zp_6_4, zf_6_5, zp_6_5, zrc_11, zf_11_0, zp_11_0, zp_11_0n, zf_11_1, zp_11_1, zp_11_1n, hr, zext_of, zext_ext, zext_q, zup_q, zup_r, zup_up, zup_at, zup_sz, zext_sz, za1, za2, za3, za4, hl, if_true, if_false, List.getElem?_cons_zero, List.getElem?_cons_succ, List.set_cons_zero, List.set_cons_succ, Option.getD_some, List.length_cons, List.length_nil, Nat.reduceAdd, Nat.zero_add, Nat.add_zero, Nat.add_assoc, List.nil_append, List.cons_append, zbk_v, zts_s, zts_n, znwa_k, c_Row, c_Tree]
theorem c_Code {r : Nat} (hr : h.1 r = (12, [.null, .null, .null, .null, .null, .int 0, .null, .null, .null, .int 0])) (hl : r < h.2.1) : zcall zP sv (d + 3) 101 [.ref r] h = some (.inl none, zext (zup h r (12, [.ref (h.2.1 + 7), .ref (h.2.1 + 9), .ref (h.2.1 + 11), .ref (h.2.1 + 13), .ref (h.2.1 + 15), .int 0, .ref h.2.1, .ref (h.2.1 + 17), .ref (h.2.1 + 19), .int 0])) [(10, [.ref (h.2.1 + 1), .ref (h.2.1 + 3), .ref (h.2.1 + 5)]), (4, [.ref (h.2.1 + 2)]), (20, List.replicate 124 (.int 0)), (4, [.ref (h.2.1 + 4)]), (20, List.replicate 124 (.int 0)), (4, [.ref (h.2.1 + 6)]), (20, List.replicate 124 (.int 0)), (4, [.ref (h.2.1 + 8)]), (20, List.replicate 62 (.int 0)), (4, [.ref (h.2.1 + 10)]), (20, List.replicate 62 (.int 0)), (4, [.ref (h.2.1 + 12)]), (20, List.replicate 62 (.int 0)), (4, [.ref (h.2.1 + 14)]), (20, List.replicate 62 (.int 0)), (4, [.ref (h.2.1 + 16)]), (20, List.replicate 62 (.int 0)), (4, [.ref (h.2.1 + 18)]), (20, List.replicate 7 (.int 0)), (4, [.ref (h.2.1 + 20)]), (20, List.replicate 11 (.int 0))] 713) := by
  rw [zcall_s (n := 1) (ls := [.val (.ref r)]) rfl rfl (Nat.le_of_ble_eq_true rfl)]
  simp (disch := first | assumption | omega | rfl | (simp only [zext_q, zup_sz, zext_sz, zup_at, za1, za2, za3, za4, if_true, if_false, List.getElem?_cons_zero, List.getElem?_cons_succ, Option.getD_some, List.length_cons, List.length_nil]; omega) | (simp only [zext_q, zup_sz, zext_sz, zup_at, za1, za2, za3, za4, if_true, if_false, List.getElem?_cons_zero, List.getElem?_cons_succ, Option.getD_some, List.length_cons, List.length_nil])) only [zs_101_0, zs_101_1, zs_101_4, zs_101_5, zs_101_8, zs_101_9, zs_101_12, zs_101_15, zs_101_16, zs_101_19, zs_101_20, zs_101_22, zs_101_25, zs_101_28, zs_101_29, zs_101_32, zs_101_33, zs_101_35, zs_101_38, zs_101_41, zs_101_42, zs_101_45, zs_101_46, zs_101_48, zs_101_51, zs_101_54, zs_101_55, zs_101_58, zs_101_59, zs_101_61, zs_101_64, zs_101_67, zs_101_68, zs_101_71, zs_101_72, zs_101_74, zs_101_77, zs_101_80, zs_101_81, zs_101_82, zs_101_85, zs_101_86, zs_101_89, zs_101_90, zs_101_92, zs_101_95, zs_101_98, zs_101_99, zs_101_102, zs_101_103, zs_101_105, zs_101_108, zs_101_111, zs_101_112, zs_101_113, zs_101_116, zrc_4, zf_4_0, zp_4_0, zp_4_0n, zrc_10, zf_10_0, zp_10_0, zp_10_0n, zf_10_1, zp_10_1, zp_10_1n, zf_10_2, zp_10_2, zp_10_2n, zrc_12, zf_12_0, zp_12_0, zp_12_0n, zf_12_1, zp_12_1, zp_12_1n, zf_12_2, zp_12_2, zp_12_2n, zf_12_3, zp_12_3, zp_12_3n, zf_12_4, zp_12_4, zp_12_4n, zf_12_5, zp_12_5, zf_12_6, zp_12_6, zp_12_6n, zf_12_7, zp_12_7, zp_12_7n, zf_12_8, zp_12_8, zp_12_8n, zf_12_9, zp_12_9, hr, zext_of, zext_ext, zext_q, zup_q, zup_r, zup_up, zup_at, zup_sz, zext_sz, za1, za2, za3, za4, hl, if_true, if_false, List.getElem?_cons_zero, List.getElem?_cons_succ, List.set_cons_zero, List.set_cons_succ, Option.getD_some, List.length_cons, List.length_nil, Nat.reduceAdd, Nat.zero_add, Nat.add_zero, Nat.add_assoc, List.nil_append, List.cons_append, zbk_v, zts_s, zts_n, znwa_k, c_Row, c_Gauge]
theorem c_ASB {r : Nat} (hr : h.1 r = (2, [.null, .int 0, .int 0, .int 0])) (hl : r < h.2.1) (hs : sv 0 = .int (nI 1)) : zcall zP sv (d + 1) 1 [.ref r, .int (nI 16)] h = some (.inl none, zext (zup h r (2, [.ref h.2.1, .int 0, .int 0, .int 0])) [(24, List.replicate 16 (.int 0))] 16) := by
  rw [zcall_s (n := 2) (ls := [.val (.ref r), .val (.int (nI 16))]) rfl rfl (Nat.le_of_ble_eq_true rfl)]
  simp (disch := first | assumption | omega | rfl | (simp only [zext_q, zup_sz, zext_sz, zup_at, za1, za2, za3, za4, if_true, if_false, List.getElem?_cons_zero, List.getElem?_cons_succ, Option.getD_some, List.length_cons, List.length_nil]; omega) | (simp only [zext_q, zup_sz, zext_sz, zup_at, za1, za2, za3, za4, if_true, if_false, List.getElem?_cons_zero, List.getElem?_cons_succ, Option.getD_some, List.length_cons, List.length_nil])) only [zs_1_0, zs_1_0n, zs_1_1, zs_1_4, zs_1_7, zs_1_10, zs_1_10n, zs_1_11, zs_1_12, zs_1_14, zs_1_14n, zs_1_17, zs_1_17n, zs_1_18, zs_1_19, zs_1_22, zs_1_25, zs_1_25n, zs_1_26, zs_1_38, zrc_2, zf_2_0, zp_2_0, zp_2_0n, zf_2_1, zp_2_10, zp_2_11, zf_2_2, zp_2_20, zp_2_21, zf_2_3, zp_2_3, hr, zext_of, zext_ext, zext_q, zup_q, zup_r, zup_up, zup_at, zup_sz, zext_sz, za1, za2, za3, za4, hl, if_true, if_false, List.getElem?_cons_zero, List.getElem?_cons_succ, List.set_cons_zero, List.set_cons_succ, Option.getD_some, List.length_cons, List.length_nil, Nat.reduceAdd, Nat.zero_add, Nat.add_zero, Nat.add_assoc, List.nil_append, List.cons_append, zbk_v, zts_s, zts_n, znwa_k, hs, nI_10]
theorem c_SB {r : Nat} (hr : h.1 r = (2, [.null, .int 0, .int 0, .int 0])) (hl : r < h.2.1) (hs : sv 0 = .int (nI 1)) : zcall zP sv (d + 2) 0 [.ref r] h = some (.inl none, zext (zup h r (2, [.ref h.2.1, .int 0, .int 0, .int 0])) [(24, List.replicate 16 (.int 0))] 16) := by
  rw [zcall_s (n := 1) (ls := [.val (.ref r)]) rfl rfl (Nat.le_of_ble_eq_true rfl)]
  simp (disch := first | assumption | omega | rfl | (simp only [zext_q, zup_sz, zext_sz, zup_at, za1, za2, za3, za4, if_true, if_false, List.getElem?_cons_zero, List.getElem?_cons_succ, Option.getD_some, List.length_cons, List.length_nil]; omega) | (simp only [zext_q, zup_sz, zext_sz, zup_at, za1, za2, za3, za4, if_true, if_false, List.getElem?_cons_zero, List.getElem?_cons_succ, Option.getD_some, List.length_cons, List.length_nil])) only [zs_0_0, zs_0_0n, zs_0_1, zs_0_3, zs_0_6, zrc_2, zf_2_0, zp_2_0, zp_2_0n, zf_2_1, zp_2_10, zp_2_11, zf_2_2, zp_2_20, zp_2_21, zf_2_3, zp_2_3, hr, zext_of, zext_ext, zext_q, zup_q, zup_r, zup_up, zup_at, zup_sz, zext_sz, za1, za2, za3, za4, hl, if_true, if_false, List.getElem?_cons_zero, List.getElem?_cons_succ, List.set_cons_zero, List.set_cons_succ, Option.getD_some, List.length_cons, List.length_nil, Nat.reduceAdd, Nat.zero_add, Nat.add_zero, Nat.add_assoc, List.nil_append, List.cons_append, zbk_v, zts_s, zts_n, znwa_k, c_ASB, hs]
end ZCT
