/-! The heap as it grows; constructors. -/
/-- more cells behind the heap's end -/
def zext (h : zH) (L : List zC) (S : Nat) : zH := (fun q => if q < h.2.1 then h.1 q else (L[q - h.2.1]?).getD (h.1 q), h.2.1 + L.length, h.2.2 + S)
theorem zext_of (h : zH) (c : zC) (n : Nat) : znew h c n = zext h [c] n := by
  unfold znew zext
  refine Prod.ext (funext fun q => ?_) rfl
  show (if q = h.2.1 then c else h.1 q) = if q < h.2.1 then h.1 q else ([c][q - h.2.1]?).getD (h.1 q)
  by_cases h1 : q < h.2.1
  · rw [if_pos h1, if_neg (by omega)]
  · rw [if_neg h1]
    by_cases h2 : q = h.2.1
    · subst h2
      simp
    · rw [if_neg h2, List.getElem?_eq_none (by simp; omega)]
      rfl
theorem zext_sz {h : zH} {L : List zC} {S : Nat} : (zext h L S).2.1 = h.2.1 + L.length := rfl
theorem zext_sl {h : zH} {L : List zC} {S : Nat} : (zext h L S).2.2 = h.2.2 + S := rfl
theorem zext_lo {h : zH} {L : List zC} {S q : Nat} (hq : q < h.2.1) : (zext h L S).1 q = h.1 q := if_pos hq
theorem zext_hi {h : zH} {L : List zC} {S k : Nat} : (zext h L S).1 (h.2.1 + k) = (L[k]?).getD (h.1 (h.2.1 + k)) := by
  show (if h.2.1 + k < h.2.1 then _ else _) = _
  rw [if_neg (by omega), Nat.add_sub_cancel_left]
theorem zext_0 {h : zH} {c : zC} {L : List zC} {S : Nat} : (zext h (c :: L) S).1 h.2.1 = c := zext_hi (k := 0)
theorem zup_lo {h : zH} {L : List zC} {S a : Nat} {c : zC} (ha : a < h.2.1) : zup (zext h L S) a c = zext (zup h a c) L S := by
  unfold zup zext
  refine Prod.ext (funext fun q => ?_) rfl
  show (if q = a then c else if q < h.2.1 then h.1 q else (L[q - h.2.1]?).getD (h.1 q)) = if q < h.2.1 then (if q = a then c else h.1 q) else (L[q - h.2.1]?).getD (if q = a then c else h.1 q)
  by_cases h1 : q < h.2.1
  · rw [if_pos h1, if_pos h1]
  · rw [if_neg h1, if_neg h1, if_neg (by omega), if_neg (by omega)]
theorem zup_hi {h : zH} {L : List zC} {S k : Nat} {c : zC} (hk : k < L.length) : zup (zext h L S) (h.2.1 + k) c = zext h (L.set k c) S := by
  unfold zup zext
  refine Prod.ext (funext fun q => ?_) (by simp)
  show (if q = h.2.1 + k then c else if q < h.2.1 then h.1 q else (L[q - h.2.1]?).getD (h.1 q)) = if q < h.2.1 then h.1 q else ((L.set k c)[q - h.2.1]?).getD (h.1 q)
  by_cases h1 : q < h.2.1
  · rw [if_neg (by omega), if_pos h1, if_pos h1]
  · rw [if_neg h1, if_neg h1]
    by_cases h2 : q = h.2.1 + k
    · subst h2
      rw [if_pos rfl, Nat.add_sub_cancel_left, List.getElem?_set_self hk]
      rfl
    · rw [if_neg h2, List.getElem?_set_ne (by omega)]
theorem zup_0 {h : zH} {L : List zC} {S : Nat} {c0 c : zC} : zup (zext h (c0 :: L) S) h.2.1 c = zext h (c :: L) S := zup_hi (k := 0) (by simp)
theorem zup_sz {h : zH} {a : Nat} {c : zC} : (zup h a c).2.1 = h.2.1 := rfl
theorem zup_sl {h : zH} {a : Nat} {c : zC} : (zup h a c).2.2 = h.2.2 := rfl
theorem zup_at {h : zH} {a : Nat} {c : zC} : (zup h a c).1 a = c := if_pos rfl
theorem zup_ne {h : zH} {a b : Nat} {c : zC} (hb : b ≠ a) : (zup h a c).1 b = h.1 b := if_neg hb
theorem zup_up {h : zH} {a : Nat} {c c' : zC} : zup (zup h a c) a c' = zup h a c' := by
  unfold zup
  refine Prod.ext (funext fun q => ?_) rfl
  show (if q = a then c' else if q = a then c else h.1 q) = if q = a then c' else h.1 q
  by_cases h1 : q = a
  · rw [if_pos h1, if_pos h1]
  · rw [if_neg h1, if_neg h1, if_neg h1]
theorem zext_ext {h : zH} {L M : List zC} {S T : Nat} : zext (zext h L S) M T = zext h (L ++ M) (S + T) := by
  unfold zext
  refine Prod.ext (funext fun q => ?_) (by simp [Nat.add_assoc])
  show (if q < h.2.1 + L.length then (if q < h.2.1 then h.1 q else (L[q - h.2.1]?).getD (h.1 q)) else (M[q - (h.2.1 + L.length)]?).getD (if q < h.2.1 then h.1 q else (L[q - h.2.1]?).getD (h.1 q))) = if q < h.2.1 then h.1 q else ((L ++ M)[q - h.2.1]?).getD (h.1 q)
  by_cases h1 : q < h.2.1
  · rw [if_pos (by omega), if_pos h1, if_pos h1]
  · rw [if_neg h1, if_neg h1]
    by_cases h2 : q < h.2.1 + L.length
    · rw [if_pos h2, List.getElem?_append_left (by omega)]
    · rw [if_neg h2, List.getElem?_append_right (by omega), List.getElem?_eq_none (l := L) (by omega), show q - h.2.1 - L.length = q - (h.2.1 + L.length) by omega]
      rfl
/-- a field out of its cell -/
theorem zfld_k {kd j : Nat} {vs : List Value} {v : Value} {K : Value → zR} (hv : vs[j]? = some v) : zfld (kd, vs) kd j K = K v := by
  unfold zfld
  have := (List.getElem?_eq_some_iff.mp hv).1
  rw [if_pos ⟨rfl, this⟩, List.getD_eq_getElem?_getD, hv]
  rfl
theorem zpfd_k {kd j t : Nat} {vs vs' : List Value} {v : Value} {K : zC → zR} (hj : j < vs.length) (ht : zty t v = true) (hs : vs.set j v = vs') : zpfd (kd, vs) kd j t v K = K (kd, vs') := by
  unfold zpfd
  subst hs
  rw [if_pos ⟨rfl, hj, ht⟩]
theorem znwa_k {n : Nat} {K : Nat → zR} (hn : n ≤ 65536) : znwa (nI n) K = K n := by
  unfold znwa
  rw [nI_clamp (by omega), if_pos ⟨nI_pos (by omega), hn⟩]
theorem zgd_t {X : zR} : zgd true X = X := rfl
theorem zl_0 {c : zC} {h : zH} {S : Nat} : (zext h [c] S).2.1 = h.2.1 + 1 := rfl
/-- the last of the cells behind -/
theorem zext_last {h : zH} {L : List zC} {S k : Nat} {c : zC} (hk : L.length = k) : (zext h (L ++ [c]) S).1 (h.2.1 + k) = c := by
  subst hk
  rw [zext_hi, List.getElem?_append_right (Nat.le_refl _), Nat.sub_self]
  rfl
theorem zup_last {h : zH} {L : List zC} {S k : Nat} {c0 c : zC} (hk : L.length = k) : zup (zext h (L ++ [c0]) S) (h.2.1 + k) c = zext h (L ++ [c]) S := by
  subst hk
  rw [zup_hi (by simp)]
  congr 1
  simp
def rowT (a n : Nat) : List zC := [(20, List.replicate n (.int 0))]
def rowC (a n : Nat) : List zC := [(4, [.ref (a + 1)]), (20, List.replicate n (.int 0))]
theorem zext_1 {h : zH} {L : List zC} {S k : Nat} {c : zC} (hk : L[k]? = some c) : (zext h L S).1 (h.2.1 + k) = c := by
  rw [zext_hi, hk]
  rfl
theorem zext_q {h : zH} {L : List zC} {S q : Nat} : (zext h L S).1 q = if q < h.2.1 then h.1 q else (L[q - h.2.1]?).getD (h.1 q) := rfl
theorem zup_q {h : zH} {L : List zC} {S a : Nat} {c : zC} (ha : a < h.2.1) : zup (zext h L S) a c = zext (zup h a c) L S := zup_lo ha
theorem zup_r {h : zH} {L : List zC} {S a : Nat} {c : zC} (ha : h.2.1 ≤ a) (hb : a < h.2.1 + L.length) : zup (zext h L S) a c = zext h (L.set (a - h.2.1) c) S := by
  obtain ⟨k, rfl⟩ : ∃ k, a = h.2.1 + k := ⟨a - h.2.1, by omega⟩
  rw [zup_hi (by omega), Nat.add_sub_cancel_left]
theorem za1 {n k : Nat} : (n + k < n) = False := by simp
theorem za2 {n : Nat} : (n < n) = False := by simp
theorem za3 {n k : Nat} : n + k - n = k := Nat.add_sub_cancel_left n k
theorem za4 {n : Nat} : n - n = 0 := Nat.sub_self n
theorem nI_10 : (nI 1 = 0) = False := by decide +kernel
section ZCT
variable {sv : Nat → Value} {d : Nat} {h : zH}
theorem c_Row {r n : Nat} (hr : h.1 r = (4, [.null])) (hl : r < h.2.1) (h0 : 0 < n) (hn : n ≤ 65536) : zcall zP sv (d + 1) 164 [.ref r, .int (nI n)] h = some (.inl none, zext (zup h r (4, [.ref h.2.1])) [(20, List.replicate n (.int 0))] n) := by
  have hp : (0 : Int32) < nI n := by rw [← nI_0]; exact nI_lt h0 (by omega)
  rw [zcall_s (n := 2) (ls := [.val (.ref r), .val (.int (nI n))]) rfl rfl (Nat.le_of_ble_eq_true rfl)]
  simp only [zs_164_0, zs_164_1, zs_164_4, zs_164_5, zs_164_6, zs_164_9, zs_164_10, zs_164_13, zs_164_14, zs_164_16, zs_164_19, if_pos hp, znwa_k hn, zext_of]
  rw [zext_lo hl, hr, zpfd_k (vs' := [.ref h.2.1]) (by decide) rfl rfl, zup_lo hl]
theorem c_State {r : Nat} (hr : h.1 r = (3, [.null, .int 0, .null, .int 0, .int 0])) (hl : r < h.2.1) : zcall zP sv (d + 2) 168 [.ref r] h = some (.inl none, zext (zup h r (3, [.ref h.2.1, .int 0, .ref (h.2.1 + 1), .int (nI 2), .int 0])) [(25, List.replicate 6 .null), (4, [.ref (h.2.1 + 2)]), (20, List.replicate 6 (.int 0))] 13) := by
  rw [zcall_s (n := 1) (ls := [.val (.ref r)]) rfl rfl (Nat.le_of_ble_eq_true rfl)]
  simp (disch := first | assumption | omega | rfl | (simp only [zext_q, zup_sz, zext_sz, zup_at, za1, za2, za3, za4, if_true, if_false, List.getElem?_cons_zero, List.getElem?_cons_succ, Option.getD_some, List.length_cons, List.length_nil]; omega) | (simp only [zext_q, zup_sz, zext_sz, zup_at, za1, za2, za3, za4, if_true, if_false, List.getElem?_cons_zero, List.getElem?_cons_succ, Option.getD_some, List.length_cons, List.length_nil])) only [zs_168_0, zs_168_0n, zs_168_1, zs_168_4, zs_168_4n, zs_168_5, zs_168_7, zs_168_10, zs_168_10n, zs_168_13, zs_168_13n, zs_168_14, zs_168_15, zs_168_18, zs_168_18n, zs_168_19, zs_168_22, zs_168_23, zs_168_25, zs_168_28, zs_168_28n, zs_168_31, zs_168_31n, zs_168_32, zs_168_33, zs_168_36, zs_168_36n, zs_168_37, zs_168_38, zs_168_41, zrc_3, zf_3_0, zp_3_0, zp_3_0n, zf_3_1, zp_3_1, zf_3_2, zp_3_2, zp_3_2n, zf_3_3, zp_3_3, zf_3_4, zp_3_4, zrc_4, zf_4_0, zp_4_0, zp_4_0n, hr, zext_of, zext_ext, zext_q, zup_q, zup_r, zup_up, zup_at, zup_sz, zext_sz, za1, za2, za3, za4, hl, if_true, if_false, List.getElem?_cons_zero, List.getElem?_cons_succ, List.set_cons_zero, List.set_cons_succ, Option.getD_some, List.length_cons, List.length_nil, Nat.reduceAdd, Nat.zero_add, Nat.add_zero, Nat.add_assoc, List.nil_append, List.cons_append, zbk_v, zts_s, zts_n, znwa_k, c_Row]
theorem c_Tree {r n : Nat} (hr : h.1 r = (6, [.null, .null, .null, .null, .int 0, .int 0])) (hl : r < h.2.1) (h0 : 0 < n) (hn : n ≤ 65536) : zcall zP sv (d + 2) 181 [.ref r, .int (nI n)] h = some (.inl none, zext (zup h r (6, [.ref h.2.1, .ref (h.2.1 + 2), .ref (h.2.1 + 4), .ref (h.2.1 + 6), .int (nI n), .int 0])) [(4, [.ref (h.2.1 + 1)]), (20, List.replicate n (.int 0)), (4, [.ref (h.2.1 + 3)]), (20, List.replicate n (.int 0)), (4, [.ref (h.2.1 + 5)]), (20, List.replicate n (.int 0)), (4, [.ref (h.2.1 + 7)]), (20, List.replicate n (.int 0))] (1 + n + (1 + n + (1 + n + (1 + n))))) := by
  rw [zcall_s (n := 2) (ls := [.val (.ref r), .val (.int (nI n))]) rfl rfl (Nat.le_of_ble_eq_true rfl)]
  simp (disch := first | assumption | omega | rfl | (simp only [zext_q, zup_sz, zext_sz, zup_at, za1, za2, za3, za4, if_true, if_false, List.getElem?_cons_zero, List.getElem?_cons_succ, Option.getD_some, List.length_cons, List.length_nil]; omega) | (simp only [zext_q, zup_sz, zext_sz, zup_at, za1, za2, za3, za4, if_true, if_false, List.getElem?_cons_zero, List.getElem?_cons_succ, Option.getD_some, List.length_cons, List.length_nil])) only [zs_181_0, zs_181_1, zs_181_4, zs_181_5, zs_181_8, zs_181_9, zs_181_10, zs_181_13, zs_181_16, zs_181_17, zs_181_20, zs_181_21, zs_181_22, zs_181_25, zs_181_28, zs_181_29, zs_181_32, zs_181_33, zs_181_34, zs_181_37, zs_181_40, zs_181_41, zs_181_44, zs_181_45, zs_181_46, zs_181_49, zs_181_52, zs_181_53, zs_181_54, zs_181_57, zs_181_58, zs_181_59, zs_181_62, zrc_4, zf_4_0, zp_4_0, zp_4_0n, zrc_6, zf_6_0, zp_6_0, zp_6_0n, zf_6_1, zp_6_1, zp_6_1n, zf_6_2, zp_6_2, zp_6_2n, zf_6_3, zp_6_3, zp_6_3n, zf_6_4, zp_6_4, zf_6_5, zp_6_5, hr, zext_of, zext_ext, zext_q, zup_q, zup_r, zup_up, zup_at, zup_sz, zext_sz, za1, za2, za3, za4, hl, if_true, if_false, List.getElem?_cons_zero, List.getElem?_cons_succ, List.set_cons_zero, List.set_cons_succ, Option.getD_some, List.length_cons, List.length_nil, Nat.reduceAdd, Nat.zero_add, Nat.add_zero, Nat.add_assoc, List.nil_append, List.cons_append, zbk_v, zts_s, zts_n, znwa_k, c_Row]
theorem c_Input {r : Nat} (hr : h.1 r = (8, [.null, .int 0])) (hl : r < h.2.1) : zcall zP sv (d + 1) 136 [.ref r] h = some (.inl none, zext (zup h r (8, [.ref h.2.1, .int 0])) [(21, List.replicate 60 (.int 0))] 60) := by
  rw [zcall_s (n := 1) (ls := [.val (.ref r)]) rfl rfl (Nat.le_of_ble_eq_true rfl)]
  simp (disch := first | assumption | omega | rfl | (simp only [zext_q, zup_sz, zext_sz, zup_at, za1, za2, za3, za4, if_true, if_false, List.getElem?_cons_zero, List.getElem?_cons_succ, Option.getD_some, List.length_cons, List.length_nil]; omega) | (simp only [zext_q, zup_sz, zext_sz, zup_at, za1, za2, za3, za4, if_true, if_false, List.getElem?_cons_zero, List.getElem?_cons_succ, Option.getD_some, List.length_cons, List.length_nil])) only [zs_136_0, zs_136_1, zs_136_4, zs_136_5, zs_136_7, zs_136_9, zs_136_12, zs_136_13, zs_136_14, zs_136_17, zrc_8, zf_8_0, zp_8_0, zp_8_0n, zf_8_1, zp_8_1, hr, zext_of, zext_ext, zext_q, zup_q, zup_r, zup_up, zup_at, zup_sz, zext_sz, za1, za2, za3, za4, hl, if_true, if_false, List.getElem?_cons_zero, List.getElem?_cons_succ, List.set_cons_zero, List.set_cons_succ, Option.getD_some, List.length_cons, List.length_nil, Nat.reduceAdd, Nat.zero_add, Nat.add_zero, Nat.add_assoc, List.nil_append, List.cons_append, zbk_v, zts_s, zts_n, znwa_k]
theorem c_Parser {r : Nat} (hr : h.1 r = (7, [.null, .null, .int 0])) (hl : r < h.2.1) : zcall zP sv (d + 3) 148 [.ref r] h = some (.inl none, zext (zup h r (7, [.ref h.2.1, .ref (h.2.1 + 2), .int 0])) [(8, [.ref (h.2.1 + 1), .int 0]), (21, List.replicate 60 (.int 0)), (6, [.ref (h.2.1 + 3), .ref (h.2.1 + 5), .ref (h.2.1 + 7), .ref (h.2.1 + 9), .int (nI 60), .int 0]), (4, [.ref (h.2.1 + 4)]), (20, List.replicate 60 (.int 0)), (4, [.ref (h.2.1 + 6)]), (20, List.replicate 60 (.int 0)), (4, [.ref (h.2.1 + 8)]), (20, List.replicate 60 (.int 0)), (4, [.ref (h.2.1 + 10)]), (20, List.replicate 60 (.int 0))] 312) := by
  rw [zcall_s (n := 1) (ls := [.val (.ref r)]) rfl rfl (Nat.le_of_ble_eq_true rfl)]
  simp (disch := first | assumption | omega | rfl | (simp only [zext_q, zup_sz, zext_sz, zup_at, za1, za2, za3, za4, if_true, if_false, List.getElem?_cons_zero, List.getElem?_cons_succ, Option.getD_some, List.length_cons, List.length_nil]; omega) | (simp only [zext_q, zup_sz, zext_sz, zup_at, za1, za2, za3, za4, if_true, if_false, List.getElem?_cons_zero, List.getElem?_cons_succ, Option.getD_some, List.length_cons, List.length_nil])) only [zs_148_0, zs_148_1, zs_148_4, zs_148_5, zs_148_8, zs_148_9, zs_148_12, zs_148_15, zs_148_16, zs_148_19, zs_148_20, zs_148_22, zs_148_25, zs_148_28, zs_148_29, zs_148_30, zs_148_33, zrc_4, zf_4_0, zp_4_0, zp_4_0n, zrc_6, zf_6_0, zp_6_0, zp_6_0n, zf_6_1, zp_6_1, zp_6_1n, zf_6_2, zp_6_2, zp_6_2n, zf_6_3, zp_6_3, zp_6_3n, zf_6_4, zp_6_4, zf_6_5, zp_6_5, zrc_7, zf_7_0, zp_7_0, zp_7_0n, zf_7_1, zp_7_1, zp_7_1n, zf_7_2, zp_7_2, zrc_8, zf_8_0, zp_8_0, zp_8_0n, zf_8_1, zp_8_1, hr, zext_of, zext_ext, zext_q, zup_q, zup_r, zup_up, zup_at, zup_sz, zext_sz, za1, za2, za3, za4, hl, if_true, if_false, List.getElem?_cons_zero, List.getElem?_cons_succ, List.set_cons_zero, List.set_cons_succ, Option.getD_some, List.length_cons, List.length_nil, Nat.reduceAdd, Nat.zero_add, Nat.add_zero, Nat.add_assoc, List.nil_append, List.cons_append, zbk_v, zts_s, zts_n, znwa_k, c_Input, c_Tree]
theorem c_Algebra {r : Nat} (hr : h.1 r = (9, [.null])) (hl : r < h.2.1) : zcall zP sv (d + 2) 90 [.ref r] h = some (.inl none, zext (zup h r (9, [.ref h.2.1])) [(4, [.ref (h.2.1 + 1)]), (20, List.replicate 124 (.int 0))] 125) := by
  rw [zcall_s (n := 1) (ls := [.val (.ref r)]) rfl rfl (Nat.le_of_ble_eq_true rfl)]
  simp (disch := first | assumption | omega | rfl | (simp only [zext_q, zup_sz, zext_sz, zup_at, za1, za2, za3, za4, if_true, if_false, List.getElem?_cons_zero, List.getElem?_cons_succ, Option.getD_some, List.length_cons, List.length_nil]; omega) | (simp only [zext_q, zup_sz, zext_sz, zup_at, za1, za2, za3, za4, if_true, if_false, List.getElem?_cons_zero, List.getElem?_cons_succ, Option.getD_some, List.length_cons, List.length_nil])) only [zs_90_0, zs_90_1, zs_90_4, zs_90_5, zs_90_8, zs_90_9, zs_90_11, zs_90_14, zs_90_17, zrc_4, zf_4_0, zp_4_0, zp_4_0n, zrc_9, zf_9_0, zp_9_0, zp_9_0n, hr, zext_of, zext_ext, zext_q, zup_q, zup_r, zup_up, zup_at, zup_sz, zext_sz, za1, za2, za3, za4, hl, if_true, if_false, List.getElem?_cons_zero, List.getElem?_cons_succ, List.set_cons_zero, List.set_cons_succ, Option.getD_some, List.length_cons, List.length_nil, Nat.reduceAdd, Nat.zero_add, Nat.add_zero, Nat.add_assoc, List.nil_append, List.cons_append, zbk_v, zts_s, zts_n, znwa_k, c_Row]
theorem c_Gauge {r : Nat} (hr : h.1 r = (10, [.null, .null, .null])) (hl : r < h.2.1) : zcall zP sv (d + 2) 116 [.ref r] h = some (.inl none, zext (zup h r (10, [.ref h.2.1, .ref (h.2.1 + 2), .ref (h.2.1 + 4)])) [(4, [.ref (h.2.1 + 1)]), (20, List.replicate 124 (.int 0)), (4, [.ref (h.2.1 + 3)]), (20, List.replicate 124 (.int 0)), (4, [.ref (h.2.1 + 5)]), (20, List.replicate 124 (.int 0))] 375) := by
  rw [zcall_s (n := 1) (ls := [.val (.ref r)]) rfl rfl (Nat.le_of_ble_eq_true rfl)]
  simp (disch := first | assumption | omega | rfl | (simp only [zext_q, zup_sz, zext_sz, zup_at, za1, za2, za3, za4, if_true, if_false, List.getElem?_cons_zero, List.getElem?_cons_succ, Option.getD_some, List.length_cons, List.length_nil]; omega) | (simp only [zext_q, zup_sz, zext_sz, zup_at, za1, za2, za3, za4, if_true, if_false, List.getElem?_cons_zero, List.getElem?_cons_succ, Option.getD_some, List.length_cons, List.length_nil])) only [zs_116_0, zs_116_1, zs_116_4, zs_116_5, zs_116_8, zs_116_9, zs_116_11, zs_116_14, zs_116_17, zs_116_18, zs_116_21, zs_116_22, zs_116_24, zs_116_27, zs_116_30, zs_116_31, zs_116_34, zs_116_35, zs_116_37, zs_116_40, zs_116_43, zrc_4, zf_4_0, zp_4_0, zp_4_0n, zrc_10, zf_10_0, zp_10_0, zp_10_0n, zf_10_1, zp_10_1, zp_10_1n, zf_10_2, zp_10_2, zp_10_2n, hr, zext_of, zext_ext, zext_q, zup_q, zup_r, zup_up, zup_at, zup_sz, zext_sz, za1, za2, za3, za4, hl, if_true, if_false, List.getElem?_cons_zero, List.getElem?_cons_succ, List.set_cons_zero, List.set_cons_succ, Option.getD_some, List.length_cons, List.length_nil, Nat.reduceAdd, Nat.zero_add, Nat.add_zero, Nat.add_assoc, List.nil_append, List.cons_append, zbk_v, zts_s, zts_n, znwa_k, c_Row]
theorem c_Numbering {r : Nat} (hr : h.1 r = (11, [.null, .null])) (hl : r < h.2.1) : zcall zP sv (d + 3) 142 [.ref r] h = some (.inl none, zext (zup h r (11, [.ref h.2.1, .ref (h.2.1 + 9)])) [(6, [.ref (h.2.1 + 1), .ref (h.2.1 + 3), .ref (h.2.1 + 5), .ref (h.2.1 + 7), .int (nI 62), .int 0]), (4, [.ref (h.2.1 + 2)]), (20, List.replicate 62 (.int 0)), (4, [.ref (h.2.1 + 4)]), (20, List.replicate 62 (.int 0)), (4, [.ref (h.2.1 + 6)]), (20, List.replicate 62 (.int 0)), (4, [.ref (h.2.1 + 8)]), (20, List.replicate 62 (.int 0)), (4, [.ref (h.2.1 + 10)]), (20, List.replicate 31 (.int 0))] 290) := by
  rw [zcall_s (n := 1) (ls := [.val (.ref r)]) rfl rfl (Nat.le_of_ble_eq_true rfl)]
  simp (disch := first | assumption | omega | rfl | (simp only [zext_q, zup_sz, zext_sz, zup_at, za1, za2, za3, za4, if_true, if_false, List.getElem?_cons_zero, List.getElem?_cons_succ, Option.getD_some, List.length_cons, List.length_nil]; omega) | (simp only [zext_q, zup_sz, zext_sz, zup_at, za1, za2, za3, za4, if_true, if_false, List.getElem?_cons_zero, List.getElem?_cons_succ, Option.getD_some, List.length_cons, List.length_nil])) only [zs_142_0, zs_142_1, zs_142_4, zs_142_5, zs_142_8, zs_142_9, zs_142_11, zs_142_14, zs_142_17, zs_142_18, zs_142_21, zs_142_22, zs_142_24, zs_142_27, zs_142_30, zrc_4, zf_4_0, zp_4_0, zp_4_0n, zrc_6, zf_6_0, zp_6_0, zp_6_0n, zf_6_1, zp_6_1, zp_6_1n, zf_6_2, zp_6_2, zp_6_2n, zf_6_3, zp_6_3, zp_6_3n, zf_6_4, zp_6_4, zf_6_5, zp_6_5, zrc_11, zf_11_0, zp_11_0, zp_11_0n, zf_11_1, zp_11_1, zp_11_1n, hr, zext_of, zext_ext, zext_q, zup_q, zup_r, zup_up, zup_at, zup_sz, zext_sz, za1, za2, za3, za4, hl, if_true, if_false, List.getElem?_cons_zero, List.getElem?_cons_succ, List.set_cons_zero, List.set_cons_succ, Option.getD_some, List.length_cons, List.length_nil, Nat.reduceAdd, Nat.zero_add, Nat.add_zero, Nat.add_assoc, List.nil_append, List.cons_append, zbk_v, zts_s, zts_n, znwa_k, c_Row, c_Tree]
theorem c_Code {r : Nat} (hr : h.1 r = (12, [.null, .null, .null, .null, .null, .int 0, .null, .null, .null, .int 0])) (hl : r < h.2.1) : zcall zP sv (d + 3) 101 [.ref r] h = some (.inl none, zext (zup h r (12, [.ref (h.2.1 + 7), .ref (h.2.1 + 9), .ref (h.2.1 + 11), .ref (h.2.1 + 13), .ref (h.2.1 + 15), .int 0, .ref h.2.1, .ref (h.2.1 + 17), .ref (h.2.1 + 19), .int 0])) [(10, [.ref (h.2.1 + 1), .ref (h.2.1 + 3), .ref (h.2.1 + 5)]), (4, [.ref (h.2.1 + 2)]), (20, List.replicate 124 (.int 0)), (4, [.ref (h.2.1 + 4)]), (20, List.replicate 124 (.int 0)), (4, [.ref (h.2.1 + 6)]), (20, List.replicate 124 (.int 0)), (4, [.ref (h.2.1 + 8)]), (20, List.replicate 62 (.int 0)), (4, [.ref (h.2.1 + 10)]), (20, List.replicate 62 (.int 0)), (4, [.ref (h.2.1 + 12)]), (20, List.replicate 62 (.int 0)), (4, [.ref (h.2.1 + 14)]), (20, List.replicate 62 (.int 0)), (4, [.ref (h.2.1 + 16)]), (20, List.replicate 62 (.int 0)), (4, [.ref (h.2.1 + 18)]), (20, List.replicate 7 (.int 0)), (4, [.ref (h.2.1 + 20)]), (20, List.replicate 11 (.int 0))] 713) := by
  rw [zcall_s (n := 1) (ls := [.val (.ref r)]) rfl rfl (Nat.le_of_ble_eq_true rfl)]
  simp (disch := first | assumption | omega | rfl | (simp only [zext_q, zup_sz, zext_sz, zup_at, za1, za2, za3, za4, if_true, if_false, List.getElem?_cons_zero, List.getElem?_cons_succ, Option.getD_some, List.length_cons, List.length_nil]; omega) | (simp only [zext_q, zup_sz, zext_sz, zup_at, za1, za2, za3, za4, if_true, if_false, List.getElem?_cons_zero, List.getElem?_cons_succ, Option.getD_some, List.length_cons, List.length_nil])) only [zs_101_0, zs_101_1, zs_101_4, zs_101_5, zs_101_8, zs_101_9, zs_101_12, zs_101_15, zs_101_16, zs_101_19, zs_101_20, zs_101_22, zs_101_25, zs_101_28, zs_101_29, zs_101_32, zs_101_33, zs_101_35, zs_101_38, zs_101_41, zs_101_42, zs_101_45, zs_101_46, zs_101_48, zs_101_51, zs_101_54, zs_101_55, zs_101_58, zs_101_59, zs_101_61, zs_101_64, zs_101_67, zs_101_68, zs_101_71, zs_101_72, zs_101_74, zs_101_77, zs_101_80, zs_101_81, zs_101_82, zs_101_85, zs_101_86, zs_101_89, zs_101_90, zs_101_92, zs_101_95, zs_101_98, zs_101_99, zs_101_102, zs_101_103, zs_101_105, zs_101_108, zs_101_111, zs_101_112, zs_101_113, zs_101_116, zrc_4, zf_4_0, zp_4_0, zp_4_0n, zrc_10, zf_10_0, zp_10_0, zp_10_0n, zf_10_1, zp_10_1, zp_10_1n, zf_10_2, zp_10_2, zp_10_2n, zrc_12, zf_12_0, zp_12_0, zp_12_0n, zf_12_1, zp_12_1, zp_12_1n, zf_12_2, zp_12_2, zp_12_2n, zf_12_3, zp_12_3, zp_12_3n, zf_12_4, zp_12_4, zp_12_4n, zf_12_5, zp_12_5, zf_12_6, zp_12_6, zp_12_6n, zf_12_7, zp_12_7, zp_12_7n, zf_12_8, zp_12_8, zp_12_8n, zf_12_9, zp_12_9, hr, zext_of, zext_ext, zext_q, zup_q, zup_r, zup_up, zup_at, zup_sz, zext_sz, za1, za2, za3, za4, hl, if_true, if_false, List.getElem?_cons_zero, List.getElem?_cons_succ, List.set_cons_zero, List.set_cons_succ, Option.getD_some, List.length_cons, List.length_nil, Nat.reduceAdd, Nat.zero_add, Nat.add_zero, Nat.add_assoc, List.nil_append, List.cons_append, zbk_v, zts_s, zts_n, znwa_k, c_Row, c_Gauge]
theorem c_ASB {r : Nat} (hr : h.1 r = (2, [.null, .int 0, .int 0, .int 0])) (hl : r < h.2.1) (hs : sv 0 = .int (nI 1)) : zcall zP sv (d + 1) 1 [.ref r, .int (nI 16)] h = some (.inl none, zext (zup h r (2, [.ref h.2.1, .int 0, .int 0, .int 0])) [(24, List.replicate 16 (.int 0))] 16) := by
  rw [zcall_s (n := 2) (ls := [.val (.ref r), .val (.int (nI 16))]) rfl rfl (Nat.le_of_ble_eq_true rfl)]
  simp (disch := first | assumption | omega | rfl | (simp only [zext_q, zup_sz, zext_sz, zup_at, za1, za2, za3, za4, if_true, if_false, List.getElem?_cons_zero, List.getElem?_cons_succ, Option.getD_some, List.length_cons, List.length_nil]; omega) | (simp only [zext_q, zup_sz, zext_sz, zup_at, za1, za2, za3, za4, if_true, if_false, List.getElem?_cons_zero, List.getElem?_cons_succ, Option.getD_some, List.length_cons, List.length_nil])) only [zs_1_0, zs_1_0n, zs_1_1, zs_1_4, zs_1_7, zs_1_10, zs_1_10n, zs_1_11, zs_1_12, zs_1_14, zs_1_14n, zs_1_17, zs_1_17n, zs_1_18, zs_1_19, zs_1_22, zs_1_25, zs_1_25n, zs_1_26, zs_1_38, zrc_2, zf_2_0, zp_2_0, zp_2_0n, zf_2_1, zp_2_10, zp_2_11, zf_2_2, zp_2_20, zp_2_21, zf_2_3, zp_2_3, hr, zext_of, zext_ext, zext_q, zup_q, zup_r, zup_up, zup_at, zup_sz, zext_sz, za1, za2, za3, za4, hl, if_true, if_false, List.getElem?_cons_zero, List.getElem?_cons_succ, List.set_cons_zero, List.set_cons_succ, Option.getD_some, List.length_cons, List.length_nil, Nat.reduceAdd, Nat.zero_add, Nat.add_zero, Nat.add_assoc, List.nil_append, List.cons_append, zbk_v, zts_s, zts_n, znwa_k, hs, nI_10]
theorem c_SB {r : Nat} (hr : h.1 r = (2, [.null, .int 0, .int 0, .int 0])) (hl : r < h.2.1) (hs : sv 0 = .int (nI 1)) : zcall zP sv (d + 2) 0 [.ref r] h = some (.inl none, zext (zup h r (2, [.ref h.2.1, .int 0, .int 0, .int 0])) [(24, List.replicate 16 (.int 0))] 16) := by
  rw [zcall_s (n := 1) (ls := [.val (.ref r)]) rfl rfl (Nat.le_of_ble_eq_true rfl)]
  simp (disch := first | assumption | omega | rfl | (simp only [zext_q, zup_sz, zext_sz, zup_at, za1, za2, za3, za4, if_true, if_false, List.getElem?_cons_zero, List.getElem?_cons_succ, Option.getD_some, List.length_cons, List.length_nil]; omega) | (simp only [zext_q, zup_sz, zext_sz, zup_at, za1, za2, za3, za4, if_true, if_false, List.getElem?_cons_zero, List.getElem?_cons_succ, Option.getD_some, List.length_cons, List.length_nil])) only [zs_0_0, zs_0_0n, zs_0_1, zs_0_3, zs_0_6, zrc_2, zf_2_0, zp_2_0, zp_2_0n, zf_2_1, zp_2_10, zp_2_11, zf_2_2, zp_2_20, zp_2_21, zf_2_3, zp_2_3, hr, zext_of, zext_ext, zext_q, zup_q, zup_r, zup_up, zup_at, zup_sz, zext_sz, za1, za2, za3, za4, hl, if_true, if_false, List.getElem?_cons_zero, List.getElem?_cons_succ, List.set_cons_zero, List.set_cons_succ, Option.getD_some, List.length_cons, List.length_nil, Nat.reduceAdd, Nat.zero_add, Nat.add_zero, Nat.add_assoc, List.nil_append, List.cons_append, zbk_v, zts_s, zts_n, znwa_k, c_ASB, hs]
end ZCT

theorem zasr_k {kd ko i b : Nat} {vs ws : List Value} {K : zC → zR} (hi : i < vs.length) (h2 : i < 2 ^ 31) : zasr (kd, vs) (ko, ws) kd ko (nI i) b K = K (kd, vs.set i (.ref b)) := by
  unfold zasr zix
  rw [nI_clamp h2, if_pos ⟨rfl, rfl, by rw [decide_eq_true (nI_pos h2), decide_eq_true hi]; rfl⟩]
theorem zaset_k {i : Nat} {y : Int32} {vs : List Value} {K : zC → zR} (hi : i < vs.length) (h2 : i < 2 ^ 31) : zaset (20, vs) 20 (nI i) (.int y) K = K (20, vs.set i (.int y)) := by
  unfold zaset zix
  rw [nI_clamp h2]
  simp only [decide_eq_true (nI_pos h2), decide_eq_true hi, znar]
  rfl
theorem zasr_0 {kd ko b : Nat} {v : Value} {vs ws : List Value} {K : zC → zR} : zasr (kd, v :: vs) (ko, ws) kd ko 0 b K = K (kd, .ref b :: vs) := by
  rw [← nI_0, zasr_k (Nat.zero_lt_succ _) (by decide)]
  rfl
theorem zaln_k {kd : Nat} {vs : List Value} {K : Int32 → zR} (hk : 20 ≤ kd) : zaln (kd, vs) K = K (nI vs.length) := if_pos hk
theorem zln8 : ∀ i, i < 8 → (nI i < nI 8) = True := fun i hi => eq_true (nI_lt hi (by decide))
theorem zln8z : ((0 : Int32) < nI 8) = True := by decide +kernel
theorem zln8e : (nI 8 < nI 8) = False := by decide +kernel
theorem nI_z1 : (0 : Int32) + nI 1 = nI 1 := by decide +kernel
theorem zrep8 : List.replicate 8 Value.null = [.null, .null, .null, .null, .null, .null, .null, .null] := rfl
section ZCU
variable {sv : Nat → Value} {d : Nat} {h : zH}
theorem h_step {r a i : Nat} {vs : List Value} {w1 w2 : Value} (hr : h.1 r = (5, [.ref a, w1, w2])) (ha : h.1 a = (26, vs)) (hv : vs.length = 8) (hi : i < 8) (hl : r < h.2.1) (hm : a < h.2.1) : zrun zP sv (zcall zP sv (d + 2)) 130 15 [.val (.ref r), .val (.int (nI i))] [] h = zrun zP sv (zcall zP sv (d + 2)) 130 15 [.val (.ref r), .val (.int (nI (i + 1)))] [] (zext (zup h a (26, vs.set i (.ref h.2.1))) [(3, [.ref (h.2.1 + 1), .int 0, .ref (h.2.1 + 2), .int (nI 2), .int 0]), (25, List.replicate 6 .null), (4, [.ref (h.2.1 + 3)]), (20, List.replicate 6 (.int 0))] 18) := by
  simp (maxSteps := 2000000) (disch := first | exact znw_u | exact znw_i | assumption | omega | rfl | (simp only [zext_q, zup_sz, zext_sz, zup_at, za1, za2, za3, za4, if_true, if_false, List.getElem?_cons_zero, List.getElem?_cons_succ, Option.getD_some, List.length_cons, List.length_nil]; omega) | (simp only [zext_q, zup_sz, zext_sz, zup_at, za1, za2, za3, za4, if_true, if_false, List.getElem?_cons_zero, List.getElem?_cons_succ, Option.getD_some, List.length_cons, List.length_nil])) only [zs_130_0, zs_130_0n, zs_130_1, zs_130_4, zs_130_4n, zs_130_5, zs_130_7, zs_130_10, zs_130_10n, zs_130_13, zs_130_14, zs_130_15, zs_130_16, zs_130_16n, zs_130_17, zs_130_20, zs_130_21, zs_130_24, zs_130_24n, zs_130_25, zs_130_28, zs_130_29, zs_130_32, zs_130_33, zs_130_36, zs_130_36n, zs_130_37, zs_130_40, zs_130_43, zs_130_43n, zs_130_44, zs_130_45, zs_130_48, zs_130_48n, zs_130_49, zs_130_50, zs_130_53, zrc_3, zf_3_0, zp_3_0, zp_3_0n, zf_3_1, zp_3_1, zf_3_2, zp_3_2, zp_3_2n, zf_3_3, zp_3_3, zf_3_4, zp_3_4, zrc_5, zf_5_0, zp_5_0, zp_5_0n, zf_5_1, zp_5_1, zf_5_2, zp_5_2, hr, ha, hm, hv, c_State, zaln_k, zasr_k, zln8 i hi, nI_add, zext_of, zext_ext, zext_q, zup_q, zup_r, zup_up, zup_at, zup_sz, zext_sz, za1, za2, za3, za4, hl, if_true, if_false, List.getElem?_cons_zero, List.getElem?_cons_succ, List.set_cons_zero, List.set_cons_succ, Option.getD_some, List.length_cons, List.length_nil, Nat.reduceAdd, Nat.zero_add, Nat.add_zero, Nat.add_assoc, List.nil_append, List.cons_append, zbk_v, zts_s, zts_n, znwa_k]
theorem h_step0 {r a : Nat} {vs : List Value} {w1 w2 : Value} (hr : h.1 r = (5, [.ref a, w1, w2])) (ha : h.1 a = (26, vs)) (hv : vs.length = 8) (hl : r < h.2.1) (hm : a < h.2.1) : zrun zP sv (zcall zP sv (d + 2)) 130 15 [.val (.ref r), .val (.int 0)] [] h = zrun zP sv (zcall zP sv (d + 2)) 130 15 [.val (.ref r), .val (.int (nI 1))] [] (zext (zup h a (26, vs.set 0 (.ref h.2.1))) [(3, [.ref (h.2.1 + 1), .int 0, .ref (h.2.1 + 2), .int (nI 2), .int 0]), (25, List.replicate 6 .null), (4, [.ref (h.2.1 + 3)]), (20, List.replicate 6 (.int 0))] 18) := h_step (i := 0) hr ha hv (by decide) hl hm
theorem h_stepx {r i S : Nat} {vs : List Value} {L : List zC} (hl : r < h.2.1) (hv : vs.length = 8) (hi : i < 8) : zrun zP sv (zcall zP sv (d + 2)) 130 15 [.val (.ref r), .val (.int (nI i))] [] (zext (zup h r (5, [.ref h.2.1, .int 0, .int 0])) ((26, vs) :: L) S) = zrun zP sv (zcall zP sv (d + 2)) 130 15 [.val (.ref r), .val (.int (nI (i + 1)))] [] (zext (zup h r (5, [.ref h.2.1, .int 0, .int 0])) ((26, vs.set i (.ref (h.2.1 + (L.length + 1)))) :: (L ++ [(3, [.ref ((h.2.1 + (L.length + 1)) + 1), .int 0, .ref ((h.2.1 + (L.length + 1)) + 2), .int (nI 2), .int 0]), (25, List.replicate 6 .null), (4, [.ref ((h.2.1 + (L.length + 1)) + 3)]), (20, List.replicate 6 (.int 0))])) (S + 18)) := by
  have hz : ∀ (M : List zC) T, (zext (zup h r (5, [.ref h.2.1, .int 0, .int 0])) M T).1 r = (5, [.ref h.2.1, .int 0, .int 0]) := fun M T => by rw [zext_lo (show r < (zup h r (5, [.ref h.2.1, .int 0, .int 0])).2.1 from hl), zup_at]
  have h9 : (zext (zup h r (5, [.ref h.2.1, .int 0, .int 0])) ((26, vs) :: L) S).2.1 = (h.2.1 + (L.length + 1)) := rfl
  have e1 : ∀ c, zup (zext (zup h r (5, [.ref h.2.1, .int 0, .int 0])) ((26, vs) :: L) S) h.2.1 c = zext (zup h r (5, [.ref h.2.1, .int 0, .int 0])) (c :: L) S := fun c => zup_0 (h := zup h r (5, [.ref h.2.1, .int 0, .int 0]))
  rw [h_step (hz _ _) (zext_0 (h := zup h r (5, [.ref h.2.1, .int 0, .int 0]))) hv hi (by rw [h9]; omega) (by rw [h9]; omega), h9, e1, zext_ext]
  rfl
theorem h_stepx0 {r S : Nat} {vs : List Value} {L : List zC} (hl : r < h.2.1) (hv : vs.length = 8) : zrun zP sv (zcall zP sv (d + 2)) 130 15 [.val (.ref r), .val (.int 0)] [] (zext (zup h r (5, [.ref h.2.1, .int 0, .int 0])) ((26, vs) :: L) S) = zrun zP sv (zcall zP sv (d + 2)) 130 15 [.val (.ref r), .val (.int (nI 1))] [] (zext (zup h r (5, [.ref h.2.1, .int 0, .int 0])) ((26, vs.set 0 (.ref (h.2.1 + (L.length + 1)))) :: (L ++ [(3, [.ref ((h.2.1 + (L.length + 1)) + 1), .int 0, .ref ((h.2.1 + (L.length + 1)) + 2), .int (nI 2), .int 0]), (25, List.replicate 6 .null), (4, [.ref ((h.2.1 + (L.length + 1)) + 3)]), (20, List.replicate 6 (.int 0))])) (S + 18)) := h_stepx (i := 0) hl hv (by decide)
set_option maxRecDepth 100000 in
set_option maxHeartbeats 2000000 in
theorem c_History {r : Nat} (hr : h.1 r = (5, [.null, .int 0, .int 0])) (hl : r < h.2.1) : zcall zP sv (d + 3) 130 [.ref r] h = some (.inl none, zext (zup h r (5, [.ref h.2.1, .int 0, .int 0])) ((26, [.ref (h.2.1 + 1), .ref (h.2.1 + 5), .ref (h.2.1 + 9), .ref (h.2.1 + 13), .ref (h.2.1 + 17), .ref (h.2.1 + 21), .ref (h.2.1 + 25), .ref (h.2.1 + 29)]) :: (3, [.ref (h.2.1 + 2), .int 0, .ref (h.2.1 + 3), .int (nI 2), .int 0]) :: (25, List.replicate 6 .null) :: (4, [.ref (h.2.1 + 4)]) :: (20, List.replicate 6 (.int 0)) :: (3, [.ref (h.2.1 + 6), .int 0, .ref (h.2.1 + 7), .int (nI 2), .int 0]) :: (25, List.replicate 6 .null) :: (4, [.ref (h.2.1 + 8)]) :: (20, List.replicate 6 (.int 0)) :: (3, [.ref (h.2.1 + 10), .int 0, .ref (h.2.1 + 11), .int (nI 2), .int 0]) :: (25, List.replicate 6 .null) :: (4, [.ref (h.2.1 + 12)]) :: (20, List.replicate 6 (.int 0)) :: (3, [.ref (h.2.1 + 14), .int 0, .ref (h.2.1 + 15), .int (nI 2), .int 0]) :: (25, List.replicate 6 .null) :: (4, [.ref (h.2.1 + 16)]) :: (20, List.replicate 6 (.int 0)) :: (3, [.ref (h.2.1 + 18), .int 0, .ref (h.2.1 + 19), .int (nI 2), .int 0]) :: (25, List.replicate 6 .null) :: (4, [.ref (h.2.1 + 20)]) :: (20, List.replicate 6 (.int 0)) :: (3, [.ref (h.2.1 + 22), .int 0, .ref (h.2.1 + 23), .int (nI 2), .int 0]) :: (25, List.replicate 6 .null) :: (4, [.ref (h.2.1 + 24)]) :: (20, List.replicate 6 (.int 0)) :: (3, [.ref (h.2.1 + 26), .int 0, .ref (h.2.1 + 27), .int (nI 2), .int 0]) :: (25, List.replicate 6 .null) :: (4, [.ref (h.2.1 + 28)]) :: (20, List.replicate 6 (.int 0)) :: (3, [.ref (h.2.1 + 30), .int 0, .ref (h.2.1 + 31), .int (nI 2), .int 0]) :: (25, List.replicate 6 .null) :: (4, [.ref (h.2.1 + 32)]) :: (20, List.replicate 6 (.int 0)) :: []) 152) := by
  rw [zcall_s (n := 2) (ls := [.val (.ref r), .unset]) rfl rfl (Nat.le_of_ble_eq_true rfl)]
  simp (maxSteps := 2000000) (disch := first | exact znw_u | exact znw_i | assumption | omega | rfl | (simp only [zext_q, zup_sz, zext_sz, zup_at, za1, za2, za3, za4, if_true, if_false, List.getElem?_cons_zero, List.getElem?_cons_succ, Option.getD_some, List.length_cons, List.length_nil]; omega) | (simp only [zext_q, zup_sz, zext_sz, zup_at, za1, za2, za3, za4, if_true, if_false, List.getElem?_cons_zero, List.getElem?_cons_succ, Option.getD_some, List.length_cons, List.length_nil])) only [zs_130_0, zs_130_1, zs_130_4, zs_130_5, zs_130_7, zs_130_10, zs_130_13, zs_130_14, zrc_3, zf_3_0, zp_3_0, zp_3_0n, zf_3_1, zp_3_1, zf_3_2, zp_3_2, zp_3_2n, zf_3_3, zp_3_3, zf_3_4, zp_3_4, zrc_5, zf_5_0, zp_5_0, zp_5_0n, zf_5_1, zp_5_1, zf_5_2, zp_5_2, hr, zext_of, zext_ext, zext_q, zup_q, zup_r, zup_up, zup_at, zup_sz, zext_sz, za1, za2, za3, za4, hl, if_true, if_false, List.getElem?_cons_zero, List.getElem?_cons_succ, List.set_cons_zero, List.set_cons_succ, Option.getD_some, List.length_cons, List.length_nil, Nat.reduceAdd, Nat.zero_add, Nat.add_zero, Nat.add_assoc, List.nil_append, List.cons_append, zbk_v, zts_s, zts_n, znwa_k, zrep8, zaln_k, zln8e]
  simp (maxSteps := 2000000) (disch := first | exact hl | decide | simp only [List.length_cons, List.length_nil]) only [h_stepx0, h_stepx, List.length_cons, List.length_nil, List.length_append, List.set_cons_zero, List.set_cons_succ, Nat.reduceAdd, Nat.zero_add, List.cons_append, List.nil_append, Nat.add_assoc]
  simp (maxSteps := 2000000) (disch := first | exact znw_u | exact znw_i | assumption | omega | rfl | (simp only [zext_q, zup_sz, zext_sz, zup_at, za1, za2, za3, za4, if_true, if_false, List.getElem?_cons_zero, List.getElem?_cons_succ, Option.getD_some, List.length_cons, List.length_nil]; omega) | (simp only [zext_q, zup_sz, zext_sz, zup_at, za1, za2, za3, za4, if_true, if_false, List.getElem?_cons_zero, List.getElem?_cons_succ, Option.getD_some, List.length_cons, List.length_nil])) only [zs_130_0, zs_130_0n, zs_130_1, zs_130_4, zs_130_4n, zs_130_5, zs_130_7, zs_130_10, zs_130_10n, zs_130_13, zs_130_14, zs_130_15, zs_130_16, zs_130_16n, zs_130_17, zs_130_20, zs_130_21, zs_130_24, zs_130_24n, zs_130_25, zs_130_28, zs_130_29, zs_130_32, zs_130_33, zs_130_36, zs_130_36n, zs_130_37, zs_130_40, zs_130_43, zs_130_43n, zs_130_44, zs_130_45, zs_130_48, zs_130_48n, zs_130_49, zs_130_50, zs_130_53, zrc_3, zf_3_0, zp_3_0, zp_3_0n, zf_3_1, zp_3_1, zf_3_2, zp_3_2, zp_3_2n, zf_3_3, zp_3_3, zf_3_4, zp_3_4, zrc_5, zf_5_0, zp_5_0, zp_5_0n, zf_5_1, zp_5_1, zf_5_2, zp_5_2, hr, zext_of, zext_ext, zext_q, zup_q, zup_r, zup_up, zup_at, zup_sz, zext_sz, za1, za2, za3, za4, hl, if_true, if_false, List.getElem?_cons_zero, List.getElem?_cons_succ, List.set_cons_zero, List.set_cons_succ, Option.getD_some, List.length_cons, List.length_nil, Nat.reduceAdd, Nat.zero_add, Nat.add_zero, Nat.add_assoc, List.nil_append, List.cons_append, zbk_v, zts_s, zts_n, znwa_k, zrep8, zaln_k, zln8e]
set_option maxRecDepth 100000 in
set_option maxHeartbeats 2000000 in
set_option maxRecDepth 100000 in
set_option maxHeartbeats 2000000 in
theorem c_EC {r : Nat} (hr : h.1 r = (1, [.null, .int 0, .null, .null, .int 0, .null, .null, .null, .null, .null, .null, .null, .null])) (hl : r < h.2.1) (hs : sv 0 = .int (nI 1)) : zcall zP sv (d + 5) 23 [.ref r] h = some (.inl none, zext (zup h r (1, [.ref h.2.1, .int (-1), .ref (h.2.1 + 2), .ref (h.2.1 + 6), .int 0, .ref (h.2.1 + 10), .ref (h.2.1 + 44), .ref (h.2.1 + 53), .ref (h.2.1 + 62), .ref (h.2.1 + 74), .ref (h.2.1 + 77), .ref (h.2.1 + 84), .ref (h.2.1 + 96)])) ((2, [.ref (h.2.1 + 1), .int 0, .int 0, .int 0]) :: (24, List.replicate 16 (.int 0)) :: (3, [.ref (h.2.1 + 3), .int 0, .ref (h.2.1 + 4), .int (nI 2), .int 0]) :: (25, List.replicate 6 .null) :: (4, [.ref (h.2.1 + 5)]) :: (20, List.replicate 6 (.int 0)) :: (3, [.ref (h.2.1 + 7), .int 0, .ref (h.2.1 + 8), .int (nI 2), .int 0]) :: (25, List.replicate 6 .null) :: (4, [.ref (h.2.1 + 9)]) :: (20, List.replicate 6 (.int 0)) :: (5, [.ref (h.2.1 + 11), .int 0, .int 0]) :: (26, [.ref (h.2.1 + 12), .ref (h.2.1 + 16), .ref (h.2.1 + 20), .ref (h.2.1 + 24), .ref (h.2.1 + 28), .ref (h.2.1 + 32), .ref (h.2.1 + 36), .ref (h.2.1 + 40)]) :: (3, [.ref (h.2.1 + 13), .int 0, .ref (h.2.1 + 14), .int (nI 2), .int 0]) :: (25, List.replicate 6 .null) :: (4, [.ref (h.2.1 + 15)]) :: (20, List.replicate 6 (.int 0)) :: (3, [.ref (h.2.1 + 17), .int 0, .ref (h.2.1 + 18), .int (nI 2), .int 0]) :: (25, List.replicate 6 .null) :: (4, [.ref (h.2.1 + 19)]) :: (20, List.replicate 6 (.int 0)) :: (3, [.ref (h.2.1 + 21), .int 0, .ref (h.2.1 + 22), .int (nI 2), .int 0]) :: (25, List.replicate 6 .null) :: (4, [.ref (h.2.1 + 23)]) :: (20, List.replicate 6 (.int 0)) :: (3, [.ref (h.2.1 + 25), .int 0, .ref (h.2.1 + 26), .int (nI 2), .int 0]) :: (25, List.replicate 6 .null) :: (4, [.ref (h.2.1 + 27)]) :: (20, List.replicate 6 (.int 0)) :: (3, [.ref (h.2.1 + 29), .int 0, .ref (h.2.1 + 30), .int (nI 2), .int 0]) :: (25, List.replicate 6 .null) :: (4, [.ref (h.2.1 + 31)]) :: (20, List.replicate 6 (.int 0)) :: (3, [.ref (h.2.1 + 33), .int 0, .ref (h.2.1 + 34), .int (nI 2), .int 0]) :: (25, List.replicate 6 .null) :: (4, [.ref (h.2.1 + 35)]) :: (20, List.replicate 6 (.int 0)) :: (3, [.ref (h.2.1 + 37), .int 0, .ref (h.2.1 + 38), .int (nI 2), .int 0]) :: (25, List.replicate 6 .null) :: (4, [.ref (h.2.1 + 39)]) :: (20, List.replicate 6 (.int 0)) :: (3, [.ref (h.2.1 + 41), .int 0, .ref (h.2.1 + 42), .int (nI 2), .int 0]) :: (25, List.replicate 6 .null) :: (4, [.ref (h.2.1 + 43)]) :: (20, List.replicate 6 (.int 0)) :: (6, [.ref (h.2.1 + 45), .ref (h.2.1 + 47), .ref (h.2.1 + 49), .ref (h.2.1 + 51), .int (nI 124), .int 0]) :: (4, [.ref (h.2.1 + 46)]) :: (20, List.replicate 124 (.int 0)) :: (4, [.ref (h.2.1 + 48)]) :: (20, List.replicate 124 (.int 0)) :: (4, [.ref (h.2.1 + 50)]) :: (20, List.replicate 124 (.int 0)) :: (4, [.ref (h.2.1 + 52)]) :: (20, List.replicate 124 (.int 0)) :: (6, [.ref (h.2.1 + 54), .ref (h.2.1 + 56), .ref (h.2.1 + 58), .ref (h.2.1 + 60), .int (nI 124), .int 0]) :: (4, [.ref (h.2.1 + 55)]) :: (20, List.replicate 124 (.int 0)) :: (4, [.ref (h.2.1 + 57)]) :: (20, List.replicate 124 (.int 0)) :: (4, [.ref (h.2.1 + 59)]) :: (20, List.replicate 124 (.int 0)) :: (4, [.ref (h.2.1 + 61)]) :: (20, List.replicate 124 (.int 0)) :: (7, [.ref (h.2.1 + 63), .ref (h.2.1 + 65), .int 0]) :: (8, [.ref (h.2.1 + 64), .int 0]) :: (21, List.replicate 60 (.int 0)) :: (6, [.ref (h.2.1 + 66), .ref (h.2.1 + 68), .ref (h.2.1 + 70), .ref (h.2.1 + 72), .int (nI 60), .int 0]) :: (4, [.ref (h.2.1 + 67)]) :: (20, List.replicate 60 (.int 0)) :: (4, [.ref (h.2.1 + 69)]) :: (20, List.replicate 60 (.int 0)) :: (4, [.ref (h.2.1 + 71)]) :: (20, List.replicate 60 (.int 0)) :: (4, [.ref (h.2.1 + 73)]) :: (20, List.replicate 60 (.int 0)) :: (9, [.ref (h.2.1 + 75)]) :: (4, [.ref (h.2.1 + 76)]) :: (20, List.replicate 124 (.int 0)) :: (10, [.ref (h.2.1 + 78), .ref (h.2.1 + 80), .ref (h.2.1 + 82)]) :: (4, [.ref (h.2.1 + 79)]) :: (20, List.replicate 124 (.int 0)) :: (4, [.ref (h.2.1 + 81)]) :: (20, List.replicate 124 (.int 0)) :: (4, [.ref (h.2.1 + 83)]) :: (20, List.replicate 124 (.int 0)) :: (11, [.ref (h.2.1 + 85), .ref (h.2.1 + 94)]) :: (6, [.ref (h.2.1 + 86), .ref (h.2.1 + 88), .ref (h.2.1 + 90), .ref (h.2.1 + 92), .int (nI 62), .int 0]) :: (4, [.ref (h.2.1 + 87)]) :: (20, List.replicate 62 (.int 0)) :: (4, [.ref (h.2.1 + 89)]) :: (20, List.replicate 62 (.int 0)) :: (4, [.ref (h.2.1 + 91)]) :: (20, List.replicate 62 (.int 0)) :: (4, [.ref (h.2.1 + 93)]) :: (20, List.replicate 62 (.int 0)) :: (4, [.ref (h.2.1 + 95)]) :: (20, List.replicate 31 (.int 0)) :: (12, [.ref (h.2.1 + 104), .ref (h.2.1 + 106), .ref (h.2.1 + 108), .ref (h.2.1 + 110), .ref (h.2.1 + 112), .int 0, .ref (h.2.1 + 97), .ref (h.2.1 + 114), .ref (h.2.1 + 116), .int 0]) :: (10, [.ref (h.2.1 + 98), .ref (h.2.1 + 100), .ref (h.2.1 + 102)]) :: (4, [.ref (h.2.1 + 99)]) :: (20, List.replicate 124 (.int 0)) :: (4, [.ref (h.2.1 + 101)]) :: (20, List.replicate 124 (.int 0)) :: (4, [.ref (h.2.1 + 103)]) :: (20, List.replicate 124 (.int 0)) :: (4, [.ref (h.2.1 + 105)]) :: (20, List.replicate 62 (.int 0)) :: (4, [.ref (h.2.1 + 107)]) :: (20, List.replicate 62 (.int 0)) :: (4, [.ref (h.2.1 + 109)]) :: (20, List.replicate 62 (.int 0)) :: (4, [.ref (h.2.1 + 111)]) :: (20, List.replicate 62 (.int 0)) :: (4, [.ref (h.2.1 + 113)]) :: (20, List.replicate 62 (.int 0)) :: (4, [.ref (h.2.1 + 115)]) :: (20, List.replicate 7 (.int 0)) :: (4, [.ref (h.2.1 + 117)]) :: (20, List.replicate 11 (.int 0)) :: []) 3057) := by
  rw [zcall_s (n := 1) (ls := [.val (.ref r)]) rfl rfl (Nat.le_of_ble_eq_true rfl)]
  simp (maxSteps := 2000000) (disch := first | exact znw_u | exact znw_i | assumption | omega | rfl | (simp only [zext_q, zup_sz, zext_sz, zup_at, za1, za2, za3, za4, if_true, if_false, List.getElem?_cons_zero, List.getElem?_cons_succ, Option.getD_some, List.length_cons, List.length_nil]; omega) | (simp only [zext_q, zup_sz, zext_sz, zup_at, za1, za2, za3, za4, if_true, if_false, List.getElem?_cons_zero, List.getElem?_cons_succ, Option.getD_some, List.length_cons, List.length_nil])) only [zs_23_0, zs_23_1, zs_23_4, zs_23_5, zs_23_8, zs_23_9, zs_23_12, zs_23_15, zs_23_16, zs_23_17, zs_23_20, zs_23_21, zs_23_24, zs_23_25, zs_23_28, zs_23_31, zs_23_32, zs_23_35, zs_23_36, zs_23_39, zs_23_42, zs_23_43, zs_23_44, zs_23_47, zs_23_48, zs_23_51, zs_23_52, zs_23_55, zs_23_58, zs_23_59, zs_23_62, zs_23_63, zs_23_65, zs_23_68, zs_23_71, zs_23_72, zs_23_75, zs_23_76, zs_23_78, zs_23_81, zs_23_84, zs_23_85, zs_23_88, zs_23_89, zs_23_92, zs_23_95, zs_23_96, zs_23_99, zs_23_100, zs_23_103, zs_23_106, zs_23_107, zs_23_110, zs_23_111, zs_23_114, zs_23_117, zs_23_118, zs_23_121, zs_23_122, zs_23_125, zs_23_128, zs_23_129, zs_23_132, zs_23_133, zs_23_136, zs_23_139, zrc_1, zf_1_0, zp_1_0, zp_1_0n, zf_1_1, zp_1_1, zf_1_2, zp_1_2, zp_1_2n, zf_1_3, zp_1_3, zp_1_3n, zf_1_4, zp_1_40, zp_1_41, zf_1_5, zp_1_5, zp_1_5n, zf_1_6, zp_1_6, zp_1_6n, zf_1_7, zp_1_7, zp_1_7n, zf_1_8, zp_1_8, zp_1_8n, zf_1_9, zp_1_9, zp_1_9n, zf_1_10, zp_1_10, zp_1_10n, zf_1_11, zp_1_11, zp_1_11n, zf_1_12, zp_1_12, zp_1_12n, zrc_2, zf_2_0, zp_2_0, zp_2_0n, zf_2_1, zp_2_10, zp_2_11, zf_2_2, zp_2_20, zp_2_21, zf_2_3, zp_2_3, zrc_3, zf_3_0, zp_3_0, zp_3_0n, zf_3_1, zp_3_1, zf_3_2, zp_3_2, zp_3_2n, zf_3_3, zp_3_3, zf_3_4, zp_3_4, zrc_5, zf_5_0, zp_5_0, zp_5_0n, zf_5_1, zp_5_1, zf_5_2, zp_5_2, zrc_6, zf_6_0, zp_6_0, zp_6_0n, zf_6_1, zp_6_1, zp_6_1n, zf_6_2, zp_6_2, zp_6_2n, zf_6_3, zp_6_3, zp_6_3n, zf_6_4, zp_6_4, zf_6_5, zp_6_5, zrc_7, zf_7_0, zp_7_0, zp_7_0n, zf_7_1, zp_7_1, zp_7_1n, zf_7_2, zp_7_2, zrc_9, zf_9_0, zp_9_0, zp_9_0n, zrc_10, zf_10_0, zp_10_0, zp_10_0n, zf_10_1, zp_10_1, zp_10_1n, zf_10_2, zp_10_2, zp_10_2n, zrc_11, zf_11_0, zp_11_0, zp_11_0n, zf_11_1, zp_11_1, zp_11_1n, zrc_12, zf_12_0, zp_12_0, zp_12_0n, zf_12_1, zp_12_1, zp_12_1n, zf_12_2, zp_12_2, zp_12_2n, zf_12_3, zp_12_3, zp_12_3n, zf_12_4, zp_12_4, zp_12_4n, zf_12_5, zp_12_5, zf_12_6, zp_12_6, zp_12_6n, zf_12_7, zp_12_7, zp_12_7n, zf_12_8, zp_12_8, zp_12_8n, zf_12_9, zp_12_9, hr, zext_of, zext_ext, zext_q, zup_q, zup_r, zup_up, zup_at, zup_sz, zext_sz, za1, za2, za3, za4, hl, if_true, if_false, List.getElem?_cons_zero, List.getElem?_cons_succ, List.set_cons_zero, List.set_cons_succ, Option.getD_some, List.length_cons, List.length_nil, Nat.reduceAdd, Nat.zero_add, Nat.add_zero, Nat.add_assoc, List.nil_append, List.cons_append, zbk_v, zts_s, zts_n, znwa_k, c_SB, c_State, c_History, c_Tree, c_Parser, c_Algebra, c_Gauge, c_Numbering, c_Code]
set_option maxRecDepth 100000 in
set_option maxHeartbeats 2000000 in
set_option maxRecDepth 100000 in
set_option maxHeartbeats 2000000 in
theorem c_Model {r : Nat} (hr : h.1 r = (13, [.null, .null, .null, .int 0, .null, .int 0, .null, .null, .int 0, .null, .null, .int 0, .null, .null, .null, .null, .null, .null, .null, .int 0, .int 0, .int 0, .int 0, .null, .int 0, .null, .int 0, .int 0, .int 0, .int 0, .int 0, .int 0])) (hl : r < h.2.1) : zcall zP sv (d + 1) 196 [.ref r] h = some (.inl none, zext (zup h r (13, [.ref h.2.1, .ref (h.2.1 + 1), .ref (h.2.1 + 2), .int 0, .ref (h.2.1 + 3), .int 0, .ref (h.2.1 + 4), .ref (h.2.1 + 5), .int 0, .ref (h.2.1 + 6), .ref (h.2.1 + 7), .int 0, .ref (h.2.1 + 8), .ref (h.2.1 + 9), .ref (h.2.1 + 10), .ref (h.2.1 + 11), .ref (h.2.1 + 12), .ref (h.2.1 + 13), .ref (h.2.1 + 14), .int 0, .int 0, .int 0, .int 0, .ref (h.2.1 + 15), .int 0, .ref (h.2.1 + 16), .int 0, .int 0, .int 0, .int (-1), .int 0, .int 0])) ((20, (List.replicate 387 (.int 0)).set 1 (.int (nI 2))) :: (20, List.replicate 387 (.int 0)) :: (20, List.replicate 3096 (.int 0)) :: (20, List.replicate 387 (.int 0)) :: (21, List.replicate 700 (.int 0)) :: (20, List.replicate 700 (.int 0)) :: (21, List.replicate 700 (.int 0)) :: (20, List.replicate 700 (.int 0)) :: (20, List.replicate 700 (.int 0)) :: (20, List.replicate 700 (.int 0)) :: (20, List.replicate 700 (.int 0)) :: (21, List.replicate 700 (.int 0)) :: (20, List.replicate 700 (.int 0)) :: (20, List.replicate 700 (.int 0)) :: (20, List.replicate 700 (.int 0)) :: (21, List.replicate 700 (.int 0)) :: (21, List.replicate 60 (.int 0)) :: []) 12717) := by
  rw [zcall_s (n := 1) (ls := [.val (.ref r)]) rfl rfl (Nat.le_of_ble_eq_true rfl)]
  simp (maxSteps := 2000000) (disch := first | exact znw_u | exact znw_i | assumption | omega | rfl | (simp only [zext_q, zup_sz, zext_sz, zup_at, za1, za2, za3, za4, if_true, if_false, List.getElem?_cons_zero, List.getElem?_cons_succ, Option.getD_some, List.length_cons, List.length_nil]; omega) | (simp only [zext_q, zup_sz, zext_sz, zup_at, za1, za2, za3, za4, if_true, if_false, List.getElem?_cons_zero, List.getElem?_cons_succ, Option.getD_some, List.length_cons, List.length_nil])) only [zs_196_0, zs_196_1, zs_196_4, zs_196_5, zs_196_8, zs_196_10, zs_196_13, zs_196_14, zs_196_17, zs_196_19, zs_196_22, zs_196_23, zs_196_26, zs_196_28, zs_196_31, zs_196_32, zs_196_35, zs_196_37, zs_196_40, zs_196_41, zs_196_44, zs_196_46, zs_196_49, zs_196_50, zs_196_53, zs_196_55, zs_196_58, zs_196_59, zs_196_62, zs_196_64, zs_196_67, zs_196_68, zs_196_71, zs_196_73, zs_196_76, zs_196_77, zs_196_80, zs_196_82, zs_196_85, zs_196_86, zs_196_89, zs_196_91, zs_196_94, zs_196_95, zs_196_98, zs_196_100, zs_196_103, zs_196_104, zs_196_107, zs_196_109, zs_196_112, zs_196_113, zs_196_116, zs_196_118, zs_196_121, zs_196_122, zs_196_125, zs_196_127, zs_196_130, zs_196_131, zs_196_134, zs_196_136, zs_196_139, zs_196_140, zs_196_143, zs_196_145, zs_196_148, zs_196_149, zs_196_151, zs_196_153, zs_196_156, zs_196_157, zs_196_158, zs_196_161, zs_196_162, zs_196_165, zs_196_166, zs_196_167, zs_196_168, zrc_13, zf_13_0, zp_13_0, zp_13_0n, zf_13_1, zp_13_1, zp_13_1n, zf_13_2, zp_13_2, zp_13_2n, zf_13_3, zp_13_3, zf_13_4, zp_13_4, zp_13_4n, zf_13_5, zp_13_50, zp_13_51, zf_13_6, zp_13_6, zp_13_6n, zf_13_7, zp_13_7, zp_13_7n, zf_13_8, zp_13_8, zf_13_9, zp_13_9, zp_13_9n, zf_13_10, zp_13_10, zp_13_10n, zf_13_11, zp_13_11, zf_13_12, zp_13_12, zp_13_12n, zf_13_13, zp_13_13, zp_13_13n, zf_13_14, zp_13_14, zp_13_14n, zf_13_15, zp_13_15, zp_13_15n, zf_13_16, zp_13_16, zp_13_16n, zf_13_17, zp_13_17, zp_13_17n, zf_13_18, zp_13_18, zp_13_18n, zf_13_19, zp_13_19, zf_13_20, zp_13_20, zf_13_21, zp_13_21, zf_13_22, zp_13_22, zf_13_23, zp_13_23, zp_13_23n, zf_13_24, zp_13_24, zf_13_25, zp_13_25, zp_13_25n, zf_13_26, zp_13_26, zf_13_27, zp_13_27, zf_13_28, zp_13_28, zf_13_29, zp_13_29, zf_13_30, zp_13_30, zf_13_31, zp_13_31, hr, zext_of, zext_ext, zext_q, zup_q, zup_r, zup_up, zup_at, zup_sz, zext_sz, za1, za2, za3, za4, hl, if_true, if_false, List.getElem?_cons_zero, List.getElem?_cons_succ, List.set_cons_zero, List.set_cons_succ, Option.getD_some, List.length_cons, List.length_nil, Nat.reduceAdd, Nat.zero_add, Nat.add_zero, Nat.add_assoc, List.nil_append, List.cons_append, zbk_v, zts_s, zts_n, znwa_k, zaset_k (i := 1) (vs := List.replicate 387 (.int 0)) (by rw [List.length_replicate]; decide) (by decide)]
end ZCU

section ZCV
variable {sv : Nat → Value} {d : Nat} {h : zH}
/-- the cells of a new ExpressionCompiler, a new model, out and outD -/
def zC0 (m : Nat) : List zC := ((1, [.ref (m + 1), .int (-1), .ref (m + 3), .ref (m + 7), .int 0, .ref (m + 11), .ref (m + 45), .ref (m + 54), .ref (m + 63), .ref (m + 75), .ref (m + 78), .ref (m + 85), .ref (m + 97)]) :: (2, [.ref (m + 2), .int 0, .int 0, .int 0]) :: (24, List.replicate 16 (.int 0)) :: (3, [.ref (m + 4), .int 0, .ref (m + 5), .int (nI 2), .int 0]) :: (25, List.replicate 6 .null) :: (4, [.ref (m + 6)]) :: (20, List.replicate 6 (.int 0)) :: (3, [.ref (m + 8), .int 0, .ref (m + 9), .int (nI 2), .int 0]) :: (25, List.replicate 6 .null) :: (4, [.ref (m + 10)]) :: (20, List.replicate 6 (.int 0)) :: (5, [.ref (m + 12), .int 0, .int 0]) :: (26, [.ref (m + 13), .ref (m + 17), .ref (m + 21), .ref (m + 25), .ref (m + 29), .ref (m + 33), .ref (m + 37), .ref (m + 41)]) :: (3, [.ref (m + 14), .int 0, .ref (m + 15), .int (nI 2), .int 0]) :: (25, List.replicate 6 .null) :: (4, [.ref (m + 16)]) :: (20, List.replicate 6 (.int 0)) :: (3, [.ref (m + 18), .int 0, .ref (m + 19), .int (nI 2), .int 0]) :: (25, List.replicate 6 .null) :: (4, [.ref (m + 20)]) :: (20, List.replicate 6 (.int 0)) :: (3, [.ref (m + 22), .int 0, .ref (m + 23), .int (nI 2), .int 0]) :: (25, List.replicate 6 .null) :: (4, [.ref (m + 24)]) :: (20, List.replicate 6 (.int 0)) :: (3, [.ref (m + 26), .int 0, .ref (m + 27), .int (nI 2), .int 0]) :: (25, List.replicate 6 .null) :: (4, [.ref (m + 28)]) :: (20, List.replicate 6 (.int 0)) :: (3, [.ref (m + 30), .int 0, .ref (m + 31), .int (nI 2), .int 0]) :: (25, List.replicate 6 .null) :: (4, [.ref (m + 32)]) :: (20, List.replicate 6 (.int 0)) :: (3, [.ref (m + 34), .int 0, .ref (m + 35), .int (nI 2), .int 0]) :: (25, List.replicate 6 .null) :: (4, [.ref (m + 36)]) :: (20, List.replicate 6 (.int 0)) :: (3, [.ref (m + 38), .int 0, .ref (m + 39), .int (nI 2), .int 0]) :: (25, List.replicate 6 .null) :: (4, [.ref (m + 40)]) :: (20, List.replicate 6 (.int 0)) :: (3, [.ref (m + 42), .int 0, .ref (m + 43), .int (nI 2), .int 0]) :: (25, List.replicate 6 .null) :: (4, [.ref (m + 44)]) :: (20, List.replicate 6 (.int 0)) :: (6, [.ref (m + 46), .ref (m + 48), .ref (m + 50), .ref (m + 52), .int (nI 124), .int 0]) :: (4, [.ref (m + 47)]) :: (20, List.replicate 124 (.int 0)) :: (4, [.ref (m + 49)]) :: (20, List.replicate 124 (.int 0)) :: (4, [.ref (m + 51)]) :: (20, List.replicate 124 (.int 0)) :: (4, [.ref (m + 53)]) :: (20, List.replicate 124 (.int 0)) :: (6, [.ref (m + 55), .ref (m + 57), .ref (m + 59), .ref (m + 61), .int (nI 124), .int 0]) :: (4, [.ref (m + 56)]) :: (20, List.replicate 124 (.int 0)) :: (4, [.ref (m + 58)]) :: (20, List.replicate 124 (.int 0)) :: (4, [.ref (m + 60)]) :: (20, List.replicate 124 (.int 0)) :: (4, [.ref (m + 62)]) :: (20, List.replicate 124 (.int 0)) :: (7, [.ref (m + 64), .ref (m + 66), .int 0]) :: (8, [.ref (m + 65), .int 0]) :: (21, List.replicate 60 (.int 0)) :: (6, [.ref (m + 67), .ref (m + 69), .ref (m + 71), .ref (m + 73), .int (nI 60), .int 0]) :: (4, [.ref (m + 68)]) :: (20, List.replicate 60 (.int 0)) :: (4, [.ref (m + 70)]) :: (20, List.replicate 60 (.int 0)) :: (4, [.ref (m + 72)]) :: (20, List.replicate 60 (.int 0)) :: (4, [.ref (m + 74)]) :: (20, List.replicate 60 (.int 0)) :: (9, [.ref (m + 76)]) :: (4, [.ref (m + 77)]) :: (20, List.replicate 124 (.int 0)) :: (10, [.ref (m + 79), .ref (m + 81), .ref (m + 83)]) :: (4, [.ref (m + 80)]) :: (20, List.replicate 124 (.int 0)) :: (4, [.ref (m + 82)]) :: (20, List.replicate 124 (.int 0)) :: (4, [.ref (m + 84)]) :: (20, List.replicate 124 (.int 0)) :: (11, [.ref (m + 86), .ref (m + 95)]) :: (6, [.ref (m + 87), .ref (m + 89), .ref (m + 91), .ref (m + 93), .int (nI 62), .int 0]) :: (4, [.ref (m + 88)]) :: (20, List.replicate 62 (.int 0)) :: (4, [.ref (m + 90)]) :: (20, List.replicate 62 (.int 0)) :: (4, [.ref (m + 92)]) :: (20, List.replicate 62 (.int 0)) :: (4, [.ref (m + 94)]) :: (20, List.replicate 62 (.int 0)) :: (4, [.ref (m + 96)]) :: (20, List.replicate 31 (.int 0)) :: (12, [.ref (m + 105), .ref (m + 107), .ref (m + 109), .ref (m + 111), .ref (m + 113), .int 0, .ref (m + 98), .ref (m + 115), .ref (m + 117), .int 0]) :: (10, [.ref (m + 99), .ref (m + 101), .ref (m + 103)]) :: (4, [.ref (m + 100)]) :: (20, List.replicate 124 (.int 0)) :: (4, [.ref (m + 102)]) :: (20, List.replicate 124 (.int 0)) :: (4, [.ref (m + 104)]) :: (20, List.replicate 124 (.int 0)) :: (4, [.ref (m + 106)]) :: (20, List.replicate 62 (.int 0)) :: (4, [.ref (m + 108)]) :: (20, List.replicate 62 (.int 0)) :: (4, [.ref (m + 110)]) :: (20, List.replicate 62 (.int 0)) :: (4, [.ref (m + 112)]) :: (20, List.replicate 62 (.int 0)) :: (4, [.ref (m + 114)]) :: (20, List.replicate 62 (.int 0)) :: (4, [.ref (m + 116)]) :: (20, List.replicate 7 (.int 0)) :: (4, [.ref (m + 118)]) :: (20, List.replicate 11 (.int 0)) :: (13, [.ref (m + 120), .ref (m + 121), .ref (m + 122), .int 0, .ref (m + 123), .int 0, .ref (m + 124), .ref (m + 125), .int 0, .ref (m + 126), .ref (m + 127), .int 0, .ref (m + 128), .ref (m + 129), .ref (m + 130), .ref (m + 131), .ref (m + 132), .ref (m + 133), .ref (m + 134), .int 0, .int 0, .int 0, .int 0, .ref (m + 135), .int 0, .ref (m + 136), .int 0, .int 0, .int 0, .int (-1), .int 0, .int 0]) :: (20, (List.replicate 387 (.int 0)).set 1 (.int (nI 2))) :: (20, List.replicate 387 (.int 0)) :: (20, List.replicate 3096 (.int 0)) :: (20, List.replicate 387 (.int 0)) :: (21, List.replicate 700 (.int 0)) :: (20, List.replicate 700 (.int 0)) :: (21, List.replicate 700 (.int 0)) :: (20, List.replicate 700 (.int 0)) :: (20, List.replicate 700 (.int 0)) :: (20, List.replicate 700 (.int 0)) :: (20, List.replicate 700 (.int 0)) :: (21, List.replicate 700 (.int 0)) :: (20, List.replicate 700 (.int 0)) :: (20, List.replicate 700 (.int 0)) :: (20, List.replicate 700 (.int 0)) :: (21, List.replicate 700 (.int 0)) :: (21, List.replicate 60 (.int 0)) :: (22, [.long 0]) :: (23, [.double 0]) :: [])
theorem zrep1 {v : Value} : List.replicate 1 v = [v] := rfl
set_option maxRecDepth 100000 in
set_option maxHeartbeats 4000000 in
theorem c_law0 {b : Nat} (hs : sv 0 = .int (nI 1)) : zcall zP sv (d + 6) 299 [.ref b] h = zrun zP sv (zcall zP sv (d + 5)) 299 28 [.val (.ref b), .val (.ref h.2.1), .val (.ref (h.2.1 + 119)), .val (.ref (h.2.1 + 137)), .val (.ref (h.2.1 + 138)), .val (.int 0), .unset, .unset, .unset] [] (zext h (zC0 h.2.1) 15821) := by
  rw [zcall_s (n := 9) (ls := [.val (.ref b), .unset, .unset, .unset, .unset, .unset, .unset, .unset, .unset]) rfl rfl (Nat.le_of_ble_eq_true rfl)]
  unfold zC0
  simp (maxSteps := 2000000) (disch := first | exact znw_u | assumption | omega | rfl | (simp only [zext_q, zup_sz, zext_sz, zup_at, za1, za2, za3, za4, if_true, if_false, List.getElem?_cons_zero, List.getElem?_cons_succ, Option.getD_some, List.length_cons, List.length_nil]; omega) | (simp only [zext_q, zup_sz, zext_sz, zup_at, za1, za2, za3, za4, if_true, if_false, List.getElem?_cons_zero, List.getElem?_cons_succ, Option.getD_some, List.length_cons, List.length_nil])) only [zs_299_0, zs_299_3, zs_299_4, zs_299_7, zs_299_8, zs_299_11, zs_299_12, zs_299_15, zs_299_16, zs_299_17, zs_299_19, zs_299_20, zs_299_21, zs_299_23, zs_299_25, zs_299_26, zrc_1, zrc_13, c_EC, c_Model, zrep1, zext_of, zext_ext, zext_q, zup_q, zup_r, zup_up, zup_at, zup_sz, zext_sz, za1, za2, za3, za4, if_true, if_false, List.getElem?_cons_zero, List.getElem?_cons_succ, List.set_cons_zero, List.set_cons_succ, Option.getD_some, List.length_cons, List.length_nil, Nat.reduceAdd, Nat.zero_add, Nat.add_zero, Nat.add_assoc, List.nil_append, List.cons_append, zbk_v, zts_s, zts_n, znwa_k]
end ZCV

theorem zael_k {kd i : Nat} {vs : List Value} {v : Value} {K : Value → zR} (hv : vs[i]? = some v) (h2 : i < 2 ^ 31) : zael (kd, vs) kd (nI i) K = K v := by
  unfold zael zix
  have hi := (List.getElem?_eq_some_iff.mp hv).1
  rw [nI_clamp h2, if_pos ⟨rfl, by rw [decide_eq_true (nI_pos h2), decide_eq_true hi]; rfl⟩, List.getD_eq_getElem?_getD, hv]
  rfl
theorem zael_0 {kd : Nat} {vs : List Value} {v : Value} {K : Value → zR} : zael (kd, v :: vs) kd 0 K = K v := by
  rw [← nI_0, zael_k rfl (by decide)]
theorem nI_63 (x : Int32) : ∃ j, j < 64 ∧ x &&& nI 63 = nI j := by
  refine ⟨(x &&& nI 63).toBitVec.toNat, ?_, ?_⟩
  · rw [Int32.toBitVec_and, BitVec.toNat_and]
    exact Nat.and_lt_two_pow (n := 6) _ (by decide)
  · apply Int32.toBitVec_inj.mp
    show _ = BitVec.ofNat 32 _
    rw [BitVec.ofNat_toNat, BitVec.setWidth_eq]

section ZCX
variable {sv : Nat → Value} {d : Nat} {h : zH}
theorem zc_0 {a0 : Nat} : zcall zP sv (d + 1) 0 [.ref a0] h = zrun zP sv (zcall zP sv d) 0 0 [.val (.ref a0)] [] h := zcall_s (n := 1) rfl rfl (Nat.le_of_ble_eq_true rfl)
theorem zc_1 {a0 : Nat} {x1 : Int32} : zcall zP sv (d + 1) 1 [.ref a0, .int x1] h = zrun zP sv (zcall zP sv d) 1 0 [.val (.ref a0), .val (.int x1)] [] h := zcall_s (n := 2) rfl rfl (Nat.le_of_ble_eq_true rfl)
theorem zc_2 {a0 : Nat} {x1 : Int32} : zcall zP sv (d + 1) 2 [.ref a0, .int x1] h = zrun zP sv (zcall zP sv d) 2 0 [.val (.ref a0), .val (.int x1)] [] h := zcall_s (n := 2) rfl rfl (Nat.le_of_ble_eq_true rfl)
theorem zc_3 {a0 : Nat} {x1 : Int32} : zcall zP sv (d + 1) 3 [.ref a0, .int x1] h = zrun zP sv (zcall zP sv d) 3 0 [.val (.ref a0), .val (.int x1)] [] h := zcall_s (n := 2) rfl rfl (Nat.le_of_ble_eq_true rfl)
theorem zc_4 {a0 : Nat} {x1 : Int32} : zcall zP sv (d + 1) 4 [.ref a0, .int x1] h = zrun zP sv (zcall zP sv d) 4 0 [.val (.ref a0), .val (.int x1), .unset] [] h := zcall_s (n := 3) rfl rfl (Nat.le_of_ble_eq_true rfl)
theorem zc_5 {a0 : Nat} {x1 : Int32} : zcall zP sv (d + 1) 5 [.ref a0, .int x1] h = zrun zP sv (zcall zP sv d) 5 0 [.val (.ref a0), .val (.int x1), .unset, .unset, .unset, .unset] [] h := zcall_s (n := 6) rfl rfl (Nat.le_of_ble_eq_true rfl)
theorem zc_6 {x0 : Int32} {x1 : Int32} {x2 : Int32} : zcall zP sv (d + 1) 6 [.int x0, .int x1, .int x2] h = zrun zP sv (zcall zP sv d) 6 0 [.val (.int x0), .val (.int x1), .val (.int x2), .unset] [] h := zcall_s (n := 4) rfl rfl (Nat.le_of_ble_eq_true rfl)
theorem zc_7 {a0 : Nat} {x1 : Int32} : zcall zP sv (d + 1) 7 [.ref a0, .int x1] h = zrun zP sv (zcall zP sv d) 7 0 [.val (.ref a0), .val (.int x1), .unset] [] h := zcall_s (n := 3) rfl rfl (Nat.le_of_ble_eq_true rfl)
theorem zc_8 {a0 : Nat} : zcall zP sv (d + 1) 8 [.ref a0] h = zrun zP sv (zcall zP sv d) 8 0 [.val (.ref a0)] [] h := zcall_s (n := 1) rfl rfl (Nat.le_of_ble_eq_true rfl)
theorem zc_9 {a0 : Nat} {x1 : Int32} : zcall zP sv (d + 1) 9 [.ref a0, .int x1] h = zrun zP sv (zcall zP sv d) 9 0 [.val (.ref a0), .val (.int x1)] [] h := zcall_s (n := 2) rfl rfl (Nat.le_of_ble_eq_true rfl)
theorem zc_10 {a0 : Nat} {x1 : Int32} : zcall zP sv (d + 1) 10 [.ref a0, .int x1] h = zrun zP sv (zcall zP sv d) 10 0 [.val (.ref a0), .val (.int x1), .unset, .unset] [] h := zcall_s (n := 4) rfl rfl (Nat.le_of_ble_eq_true rfl)
theorem zc_11 {x0 : Int32} : zcall zP sv (d + 1) 11 [.int x0] h = zrun zP sv (zcall zP sv d) 11 0 [.val (.int x0), .unset, .unset, .unset] [] h := zcall_s (n := 4) rfl rfl (Nat.le_of_ble_eq_true rfl)
theorem zc_12 {x0 : Int32} {x1 : Int32} {a2 : Nat} : zcall zP sv (d + 1) 12 [.int x0, .int x1, .ref a2] h = zrun zP sv (zcall zP sv d) 12 0 [.val (.int x0), .val (.int x1), .val (.ref a2), .unset, .unset, .unset, .unset] [] h := zcall_s (n := 7) rfl rfl (Nat.le_of_ble_eq_true rfl)
theorem zc_13 {a0 : Nat} : zcall zP sv (d + 1) 13 [.ref a0] h = zrun zP sv (zcall zP sv d) 13 0 [.val (.ref a0)] [] h := zcall_s (n := 1) rfl rfl (Nat.le_of_ble_eq_true rfl)
theorem zc_14 {a0 : Nat} : zcall zP sv (d + 1) 14 [.ref a0] h = zrun zP sv (zcall zP sv d) 14 0 [.val (.ref a0)] [] h := zcall_s (n := 1) rfl rfl (Nat.le_of_ble_eq_true rfl)
theorem zc_15 {a0 : Nat} {x1 : Int32} : zcall zP sv (d + 1) 15 [.ref a0, .int x1] h = zrun zP sv (zcall zP sv d) 15 0 [.val (.ref a0), .val (.int x1)] [] h := zcall_s (n := 2) rfl rfl (Nat.le_of_ble_eq_true rfl)
theorem zc_16 {a0 : Nat} {x1 : Int32} : zcall zP sv (d + 1) 16 [.ref a0, .int x1] h = zrun zP sv (zcall zP sv d) 16 0 [.val (.ref a0), .val (.int x1)] [] h := zcall_s (n := 2) rfl rfl (Nat.le_of_ble_eq_true rfl)
theorem zc_17 {x0 : Int32} : zcall zP sv (d + 1) 17 [.int x0] h = zrun zP sv (zcall zP sv d) 17 0 [.val (.int x0)] [] h := zcall_s (n := 1) rfl rfl (Nat.le_of_ble_eq_true rfl)
theorem zc_18 {x0 : Int32} {x1 : Int32} : zcall zP sv (d + 1) 18 [.int x0, .int x1] h = zrun zP sv (zcall zP sv d) 18 0 [.val (.int x0), .val (.int x1)] [] h := zcall_s (n := 2) rfl rfl (Nat.le_of_ble_eq_true rfl)
theorem zc_19 {x0 : Int32} {x1 : Int32} {a2 : Nat} : zcall zP sv (d + 1) 19 [.int x0, .int x1, .ref a2] h = zrun zP sv (zcall zP sv d) 19 0 [.val (.int x0), .val (.int x1), .val (.ref a2)] [] h := zcall_s (n := 3) rfl rfl (Nat.le_of_ble_eq_true rfl)
theorem zc_20 {a0 : Nat} {x1 : Int32} : zcall zP sv (d + 1) 20 [.ref a0, .int x1] h = zrun zP sv (zcall zP sv d) 20 0 [.val (.ref a0), .val (.int x1)] [] h := zcall_s (n := 2) rfl rfl (Nat.le_of_ble_eq_true rfl)
theorem zc_21 {a0 : Nat} {x1 : Int32} : zcall zP sv (d + 1) 21 [.ref a0, .int x1] h = zrun zP sv (zcall zP sv d) 21 0 [.val (.ref a0), .val (.int x1), .unset, .unset, .unset] [] h := zcall_s (n := 5) rfl rfl (Nat.le_of_ble_eq_true rfl)
theorem zc_22 {x0 : Int32} : zcall zP sv (d + 1) 22 [.int x0] h = zrun zP sv (zcall zP sv d) 22 0 [.val (.int x0)] [] h := zcall_s (n := 1) rfl rfl (Nat.le_of_ble_eq_true rfl)
theorem zc_23 {a0 : Nat} : zcall zP sv (d + 1) 23 [.ref a0] h = zrun zP sv (zcall zP sv d) 23 0 [.val (.ref a0)] [] h := zcall_s (n := 1) rfl rfl (Nat.le_of_ble_eq_true rfl)
theorem zc_24 {a0 : Nat} {x1 : Int32} : zcall zP sv (d + 1) 24 [.ref a0, .int x1] h = zrun zP sv (zcall zP sv d) 24 0 [.val (.ref a0), .val (.int x1), .unset] [] h := zcall_s (n := 3) rfl rfl (Nat.le_of_ble_eq_true rfl)
theorem zc_25 {a0 : Nat} : zcall zP sv (d + 1) 25 [.ref a0] h = zrun zP sv (zcall zP sv d) 25 0 [.val (.ref a0), .unset] [] h := zcall_s (n := 2) rfl rfl (Nat.le_of_ble_eq_true rfl)
theorem zc_26 {a0 : Nat} : zcall zP sv (d + 1) 26 [.ref a0] h = zrun zP sv (zcall zP sv d) 26 0 [.val (.ref a0), .unset] [] h := zcall_s (n := 2) rfl rfl (Nat.le_of_ble_eq_true rfl)
theorem zc_27 {a0 : Nat} {x1 : Int32} : zcall zP sv (d + 1) 27 [.ref a0, .int x1] h = zrun zP sv (zcall zP sv d) 27 0 [.val (.ref a0), .val (.int x1)] [] h := zcall_s (n := 2) rfl rfl (Nat.le_of_ble_eq_true rfl)
theorem zc_28 {a0 : Nat} {x1 : Int32} : zcall zP sv (d + 1) 28 [.ref a0, .int x1] h = zrun zP sv (zcall zP sv d) 28 0 [.val (.ref a0), .val (.int x1), .unset, .unset, .unset, .unset] [] h := zcall_s (n := 6) rfl rfl (Nat.le_of_ble_eq_true rfl)
theorem zc_29 {a0 : Nat} {x1 : Int32} {x2 : Int32} : zcall zP sv (d + 1) 29 [.ref a0, .int x1, .int x2] h = zrun zP sv (zcall zP sv d) 29 0 [.val (.ref a0), .val (.int x1), .val (.int x2), .unset, .unset, .unset] [] h := zcall_s (n := 6) rfl rfl (Nat.le_of_ble_eq_true rfl)
theorem zc_30 {a0 : Nat} {x1 : Int32} {x2 : Int32} {x3 : Int32} : zcall zP sv (d + 1) 30 [.ref a0, .int x1, .int x2, .int x3] h = zrun zP sv (zcall zP sv d) 30 0 [.val (.ref a0), .val (.int x1), .val (.int x2), .val (.int x3), .unset, .unset, .unset, .unset] [] h := zcall_s (n := 8) rfl rfl (Nat.le_of_ble_eq_true rfl)
theorem zc_31 {a0 : Nat} {x1 : Int32} {x2 : Int32} : zcall zP sv (d + 1) 31 [.ref a0, .int x1, .int x2] h = zrun zP sv (zcall zP sv d) 31 0 [.val (.ref a0), .val (.int x1), .val (.int x2)] [] h := zcall_s (n := 3) rfl rfl (Nat.le_of_ble_eq_true rfl)
theorem zc_32 {a0 : Nat} {x1 : Int32} : zcall zP sv (d + 1) 32 [.ref a0, .int x1] h = zrun zP sv (zcall zP sv d) 32 0 [.val (.ref a0), .val (.int x1)] [] h := zcall_s (n := 2) rfl rfl (Nat.le_of_ble_eq_true rfl)
theorem zc_33 {a0 : Nat} : zcall zP sv (d + 1) 33 [.ref a0] h = zrun zP sv (zcall zP sv d) 33 0 [.val (.ref a0)] [] h := zcall_s (n := 1) rfl rfl (Nat.le_of_ble_eq_true rfl)
theorem zc_34 {a0 : Nat} {x1 : Int32} : zcall zP sv (d + 1) 34 [.ref a0, .int x1] h = zrun zP sv (zcall zP sv d) 34 0 [.val (.ref a0), .val (.int x1)] [] h := zcall_s (n := 2) rfl rfl (Nat.le_of_ble_eq_true rfl)
theorem zc_35 {a0 : Nat} : zcall zP sv (d + 1) 35 [.ref a0] h = zrun zP sv (zcall zP sv d) 35 0 [.val (.ref a0)] [] h := zcall_s (n := 1) rfl rfl (Nat.le_of_ble_eq_true rfl)
theorem zc_36 {a0 : Nat} {x1 : Int32} : zcall zP sv (d + 1) 36 [.ref a0, .int x1] h = zrun zP sv (zcall zP sv d) 36 0 [.val (.ref a0), .val (.int x1)] [] h := zcall_s (n := 2) rfl rfl (Nat.le_of_ble_eq_true rfl)
theorem zc_37 {a0 : Nat} {x1 : Int32} : zcall zP sv (d + 1) 37 [.ref a0, .int x1] h = zrun zP sv (zcall zP sv d) 37 0 [.val (.ref a0), .val (.int x1), .unset] [] h := zcall_s (n := 3) rfl rfl (Nat.le_of_ble_eq_true rfl)
theorem zc_38 {a0 : Nat} {x1 : Int32} {x2 : Int32} : zcall zP sv (d + 1) 38 [.ref a0, .int x1, .int x2] h = zrun zP sv (zcall zP sv d) 38 0 [.val (.ref a0), .val (.int x1), .val (.int x2), .unset, .unset, .unset] [] h := zcall_s (n := 6) rfl rfl (Nat.le_of_ble_eq_true rfl)
theorem zc_39 {a0 : Nat} {x1 : Int32} : zcall zP sv (d + 1) 39 [.ref a0, .int x1] h = zrun zP sv (zcall zP sv d) 39 0 [.val (.ref a0), .val (.int x1)] [] h := zcall_s (n := 2) rfl rfl (Nat.le_of_ble_eq_true rfl)
theorem zc_40 {a0 : Nat} {x1 : Int32} : zcall zP sv (d + 1) 40 [.ref a0, .int x1] h = zrun zP sv (zcall zP sv d) 40 0 [.val (.ref a0), .val (.int x1), .unset, .unset] [] h := zcall_s (n := 4) rfl rfl (Nat.le_of_ble_eq_true rfl)
theorem zc_41 {a0 : Nat} {x1 : Int32} {x2 : Int32} : zcall zP sv (d + 1) 41 [.ref a0, .int x1, .int x2] h = zrun zP sv (zcall zP sv d) 41 0 [.val (.ref a0), .val (.int x1), .val (.int x2), .unset, .unset] [] h := zcall_s (n := 5) rfl rfl (Nat.le_of_ble_eq_true rfl)
theorem zc_42 {a0 : Nat} {x1 : Int32} : zcall zP sv (d + 1) 42 [.ref a0, .int x1] h = zrun zP sv (zcall zP sv d) 42 0 [.val (.ref a0), .val (.int x1)] [] h := zcall_s (n := 2) rfl rfl (Nat.le_of_ble_eq_true rfl)
theorem zc_43 {a0 : Nat} {x1 : Int32} : zcall zP sv (d + 1) 43 [.ref a0, .int x1] h = zrun zP sv (zcall zP sv d) 43 0 [.val (.ref a0), .val (.int x1)] [] h := zcall_s (n := 2) rfl rfl (Nat.le_of_ble_eq_true rfl)
theorem zc_44 {a0 : Nat} {x1 : Int32} {x2 : Int32} : zcall zP sv (d + 1) 44 [.ref a0, .int x1, .int x2] h = zrun zP sv (zcall zP sv d) 44 0 [.val (.ref a0), .val (.int x1), .val (.int x2), .unset, .unset, .unset, .unset] [] h := zcall_s (n := 7) rfl rfl (Nat.le_of_ble_eq_true rfl)
theorem zc_45 {a0 : Nat} {x1 : Int32} : zcall zP sv (d + 1) 45 [.ref a0, .int x1] h = zrun zP sv (zcall zP sv d) 45 0 [.val (.ref a0), .val (.int x1), .unset] [] h := zcall_s (n := 3) rfl rfl (Nat.le_of_ble_eq_true rfl)
theorem zc_46 {a0 : Nat} {x1 : Int32} : zcall zP sv (d + 1) 46 [.ref a0, .int x1] h = zrun zP sv (zcall zP sv d) 46 0 [.val (.ref a0), .val (.int x1)] [] h := zcall_s (n := 2) rfl rfl (Nat.le_of_ble_eq_true rfl)
theorem zc_47 {a0 : Nat} {x1 : Int32} {x2 : Int32} : zcall zP sv (d + 1) 47 [.ref a0, .int x1, .int x2] h = zrun zP sv (zcall zP sv d) 47 0 [.val (.ref a0), .val (.int x1), .val (.int x2), .unset] [] h := zcall_s (n := 4) rfl rfl (Nat.le_of_ble_eq_true rfl)
theorem zc_48 {a0 : Nat} {x1 : Int32} {x2 : Int32} : zcall zP sv (d + 1) 48 [.ref a0, .int x1, .int x2] h = zrun zP sv (zcall zP sv d) 48 0 [.val (.ref a0), .val (.int x1), .val (.int x2), .unset, .unset] [] h := zcall_s (n := 5) rfl rfl (Nat.le_of_ble_eq_true rfl)
theorem zc_49 {a0 : Nat} {x1 : Int32} : zcall zP sv (d + 1) 49 [.ref a0, .int x1] h = zrun zP sv (zcall zP sv d) 49 0 [.val (.ref a0), .val (.int x1)] [] h := zcall_s (n := 2) rfl rfl (Nat.le_of_ble_eq_true rfl)
theorem zc_50 {a0 : Nat} {x1 : Int32} : zcall zP sv (d + 1) 50 [.ref a0, .int x1] h = zrun zP sv (zcall zP sv d) 50 0 [.val (.ref a0), .val (.int x1)] [] h := zcall_s (n := 2) rfl rfl (Nat.le_of_ble_eq_true rfl)
theorem zc_51 {a0 : Nat} {x1 : Int32} : zcall zP sv (d + 1) 51 [.ref a0, .int x1] h = zrun zP sv (zcall zP sv d) 51 0 [.val (.ref a0), .val (.int x1)] [] h := zcall_s (n := 2) rfl rfl (Nat.le_of_ble_eq_true rfl)
theorem zc_52 {a0 : Nat} {x1 : Int32} : zcall zP sv (d + 1) 52 [.ref a0, .int x1] h = zrun zP sv (zcall zP sv d) 52 0 [.val (.ref a0), .val (.int x1)] [] h := zcall_s (n := 2) rfl rfl (Nat.le_of_ble_eq_true rfl)
theorem zc_53 {a0 : Nat} {x1 : Int32} : zcall zP sv (d + 1) 53 [.ref a0, .int x1] h = zrun zP sv (zcall zP sv d) 53 0 [.val (.ref a0), .val (.int x1)] [] h := zcall_s (n := 2) rfl rfl (Nat.le_of_ble_eq_true rfl)
theorem zc_54 {a0 : Nat} {x1 : Int32} : zcall zP sv (d + 1) 54 [.ref a0, .int x1] h = zrun zP sv (zcall zP sv d) 54 0 [.val (.ref a0), .val (.int x1), .unset, .unset] [] h := zcall_s (n := 4) rfl rfl (Nat.le_of_ble_eq_true rfl)
theorem zc_55 {a0 : Nat} {x1 : Int32} {x2 : Int32} : zcall zP sv (d + 1) 55 [.ref a0, .int x1, .int x2] h = zrun zP sv (zcall zP sv d) 55 0 [.val (.ref a0), .val (.int x1), .val (.int x2)] [] h := zcall_s (n := 3) rfl rfl (Nat.le_of_ble_eq_true rfl)
theorem zc_56 {a0 : Nat} {x1 : Int32} {x2 : Int32} : zcall zP sv (d + 1) 56 [.ref a0, .int x1, .int x2] h = zrun zP sv (zcall zP sv d) 56 0 [.val (.ref a0), .val (.int x1), .val (.int x2)] [] h := zcall_s (n := 3) rfl rfl (Nat.le_of_ble_eq_true rfl)
theorem zc_57 {a0 : Nat} {x1 : Int32} {x2 : Int32} : zcall zP sv (d + 1) 57 [.ref a0, .int x1, .int x2] h = zrun zP sv (zcall zP sv d) 57 0 [.val (.ref a0), .val (.int x1), .val (.int x2)] [] h := zcall_s (n := 3) rfl rfl (Nat.le_of_ble_eq_true rfl)
theorem zc_58 {a0 : Nat} {x1 : Int32} : zcall zP sv (d + 1) 58 [.ref a0, .int x1] h = zrun zP sv (zcall zP sv d) 58 0 [.val (.ref a0), .val (.int x1), .unset] [] h := zcall_s (n := 3) rfl rfl (Nat.le_of_ble_eq_true rfl)
theorem zc_59 {a0 : Nat} {x1 : Int32} : zcall zP sv (d + 1) 59 [.ref a0, .int x1] h = zrun zP sv (zcall zP sv d) 59 0 [.val (.ref a0), .val (.int x1)] [] h := zcall_s (n := 2) rfl rfl (Nat.le_of_ble_eq_true rfl)
theorem zc_60 {a0 : Nat} {x1 : Int32} : zcall zP sv (d + 1) 60 [.ref a0, .int x1] h = zrun zP sv (zcall zP sv d) 60 0 [.val (.ref a0), .val (.int x1), .unset] [] h := zcall_s (n := 3) rfl rfl (Nat.le_of_ble_eq_true rfl)
theorem zc_61 {a0 : Nat} : zcall zP sv (d + 1) 61 [.ref a0] h = zrun zP sv (zcall zP sv d) 61 0 [.val (.ref a0)] [] h := zcall_s (n := 1) rfl rfl (Nat.le_of_ble_eq_true rfl)
theorem zc_62 {a0 : Nat} : zcall zP sv (d + 1) 62 [.ref a0] h = zrun zP sv (zcall zP sv d) 62 0 [.val (.ref a0), .unset, .unset, .unset] [] h := zcall_s (n := 4) rfl rfl (Nat.le_of_ble_eq_true rfl)
theorem zc_63 {a0 : Nat} {x1 : Int32} : zcall zP sv (d + 1) 63 [.ref a0, .int x1] h = zrun zP sv (zcall zP sv d) 63 0 [.val (.ref a0), .val (.int x1)] [] h := zcall_s (n := 2) rfl rfl (Nat.le_of_ble_eq_true rfl)
theorem zc_64 {a0 : Nat} : zcall zP sv (d + 1) 64 [.ref a0] h = zrun zP sv (zcall zP sv d) 64 0 [.val (.ref a0), .unset, .unset, .unset] [] h := zcall_s (n := 4) rfl rfl (Nat.le_of_ble_eq_true rfl)
theorem zc_65 {a0 : Nat} : zcall zP sv (d + 1) 65 [.ref a0] h = zrun zP sv (zcall zP sv d) 65 0 [.val (.ref a0)] [] h := zcall_s (n := 1) rfl rfl (Nat.le_of_ble_eq_true rfl)
theorem zc_66 {a0 : Nat} : zcall zP sv (d + 1) 66 [.ref a0] h = zrun zP sv (zcall zP sv d) 66 0 [.val (.ref a0)] [] h := zcall_s (n := 1) rfl rfl (Nat.le_of_ble_eq_true rfl)
theorem zc_67 {a0 : Nat} : zcall zP sv (d + 1) 67 [.ref a0] h = zrun zP sv (zcall zP sv d) 67 0 [.val (.ref a0)] [] h := zcall_s (n := 1) rfl rfl (Nat.le_of_ble_eq_true rfl)
theorem zc_68 {a0 : Nat} : zcall zP sv (d + 1) 68 [.ref a0] h = zrun zP sv (zcall zP sv d) 68 0 [.val (.ref a0)] [] h := zcall_s (n := 1) rfl rfl (Nat.le_of_ble_eq_true rfl)
theorem zc_69 {a0 : Nat} : zcall zP sv (d + 1) 69 [.ref a0] h = zrun zP sv (zcall zP sv d) 69 0 [.val (.ref a0)] [] h := zcall_s (n := 1) rfl rfl (Nat.le_of_ble_eq_true rfl)
theorem zc_70 {a0 : Nat} {x1 : Int32} : zcall zP sv (d + 1) 70 [.ref a0, .int x1] h = zrun zP sv (zcall zP sv d) 70 0 [.val (.ref a0), .val (.int x1), .unset] [] h := zcall_s (n := 3) rfl rfl (Nat.le_of_ble_eq_true rfl)
theorem zc_71 {a0 : Nat} {x1 : Int32} : zcall zP sv (d + 1) 71 [.ref a0, .int x1] h = zrun zP sv (zcall zP sv d) 71 0 [.val (.ref a0), .val (.int x1)] [] h := zcall_s (n := 2) rfl rfl (Nat.le_of_ble_eq_true rfl)
theorem zc_72 {x0 : Int32} : zcall zP sv (d + 1) 72 [.int x0] h = zrun zP sv (zcall zP sv d) 72 0 [.val (.int x0)] [] h := zcall_s (n := 1) rfl rfl (Nat.le_of_ble_eq_true rfl)
theorem zc_73 {a0 : Nat} : zcall zP sv (d + 1) 73 [.ref a0] h = zrun zP sv (zcall zP sv d) 73 0 [.val (.ref a0)] [] h := zcall_s (n := 1) rfl rfl (Nat.le_of_ble_eq_true rfl)
theorem zc_74 {a0 : Nat} {a1 : Nat} {x2 : Int32} : zcall zP sv (d + 1) 74 [.ref a0, .ref a1, .int x2] h = zrun zP sv (zcall zP sv d) 74 0 [.val (.ref a0), .val (.ref a1), .val (.int x2)] [] h := zcall_s (n := 3) rfl rfl (Nat.le_of_ble_eq_true rfl)
theorem zc_75 {a0 : Nat} {a1 : Nat} {x2 : Int32} : zcall zP sv (d + 1) 75 [.ref a0, .ref a1, .int x2] h = zrun zP sv (zcall zP sv d) 75 0 [.val (.ref a0), .val (.ref a1), .val (.int x2), .unset] [] h := zcall_s (n := 4) rfl rfl (Nat.le_of_ble_eq_true rfl)
theorem zc_76 {a0 : Nat} {a1 : Nat} : zcall zP sv (d + 1) 76 [.ref a0, .ref a1] h = zrun zP sv (zcall zP sv d) 76 0 [.val (.ref a0), .val (.ref a1)] [] h := zcall_s (n := 2) rfl rfl (Nat.le_of_ble_eq_true rfl)
theorem zc_77 {a0 : Nat} {a1 : Nat} : zcall zP sv (d + 1) 77 [.ref a0, .ref a1] h = zrun zP sv (zcall zP sv d) 77 0 [.val (.ref a0), .val (.ref a1)] [] h := zcall_s (n := 2) rfl rfl (Nat.le_of_ble_eq_true rfl)
theorem zc_78 {a0 : Nat} : zcall zP sv (d + 1) 78 [.ref a0] h = zrun zP sv (zcall zP sv d) 78 0 [.val (.ref a0), .unset, .unset] [] h := zcall_s (n := 3) rfl rfl (Nat.le_of_ble_eq_true rfl)
theorem zc_79 {a0 : Nat} {x1 : Int32} : zcall zP sv (d + 1) 79 [.ref a0, .int x1] h = zrun zP sv (zcall zP sv d) 79 0 [.val (.ref a0), .val (.int x1), .unset] [] h := zcall_s (n := 3) rfl rfl (Nat.le_of_ble_eq_true rfl)
theorem zc_80 {a0 : Nat} {x1 : Int32} : zcall zP sv (d + 1) 80 [.ref a0, .int x1] h = zrun zP sv (zcall zP sv d) 80 0 [.val (.ref a0), .val (.int x1), .unset, .unset] [] h := zcall_s (n := 4) rfl rfl (Nat.le_of_ble_eq_true rfl)
theorem zc_81 {a0 : Nat} {x1 : Int32} {x2 : Int32} : zcall zP sv (d + 1) 81 [.ref a0, .int x1, .int x2] h = zrun zP sv (zcall zP sv d) 81 0 [.val (.ref a0), .val (.int x1), .val (.int x2), .unset, .unset, .unset, .unset] [] h := zcall_s (n := 7) rfl rfl (Nat.le_of_ble_eq_true rfl)
theorem zc_82 {a0 : Nat} {a1 : Nat} : zcall zP sv (d + 1) 82 [.ref a0, .ref a1] h = zrun zP sv (zcall zP sv d) 82 0 [.val (.ref a0), .val (.ref a1), .unset, .unset, .unset] [] h := zcall_s (n := 5) rfl rfl (Nat.le_of_ble_eq_true rfl)
theorem zc_83 {x0 : Int32} : zcall zP sv (d + 1) 83 [.int x0] h = zrun zP sv (zcall zP sv d) 83 0 [.val (.int x0)] [] h := zcall_s (n := 1) rfl rfl (Nat.le_of_ble_eq_true rfl)
theorem zc_84 {x0 : Int32} {x1 : Int32} {x2 : Int32} : zcall zP sv (d + 1) 84 [.int x0, .int x1, .int x2] h = zrun zP sv (zcall zP sv d) 84 0 [.val (.int x0), .val (.int x1), .val (.int x2)] [] h := zcall_s (n := 3) rfl rfl (Nat.le_of_ble_eq_true rfl)
theorem zc_85 {a0 : Nat} {x1 : Int32} {a2 : Nat} {x3 : Int32} {x4 : Int32} : zcall zP sv (d + 1) 85 [.ref a0, .int x1, .ref a2, .int x3, .int x4] h = zrun zP sv (zcall zP sv d) 85 0 [.val (.ref a0), .val (.int x1), .val (.ref a2), .val (.int x3), .val (.int x4)] [] h := zcall_s (n := 5) rfl rfl (Nat.le_of_ble_eq_true rfl)
theorem zc_86 {a0 : Nat} {x1 : Int32} {a2 : Nat} {x3 : Int32} : zcall zP sv (d + 1) 86 [.ref a0, .int x1, .ref a2, .int x3] h = zrun zP sv (zcall zP sv d) 86 0 [.val (.ref a0), .val (.int x1), .val (.ref a2), .val (.int x3), .unset, .unset] [] h := zcall_s (n := 6) rfl rfl (Nat.le_of_ble_eq_true rfl)
theorem zc_87 {x0 : Int32} : zcall zP sv (d + 1) 87 [.int x0] h = zrun zP sv (zcall zP sv d) 87 0 [.val (.int x0)] [] h := zcall_s (n := 1) rfl rfl (Nat.le_of_ble_eq_true rfl)
theorem zc_88 {a0 : Nat} {x1 : Int32} {x2 : Int32} {x3 : Int32} {a4 : Nat} {x5 : Int32} : zcall zP sv (d + 1) 88 [.ref a0, .int x1, .int x2, .int x3, .ref a4, .int x5] h = zrun zP sv (zcall zP sv d) 88 0 [.val (.ref a0), .val (.int x1), .val (.int x2), .val (.int x3), .val (.ref a4), .val (.int x5), .unset, .unset] [] h := zcall_s (n := 8) rfl rfl (Nat.le_of_ble_eq_true rfl)
theorem zc_89 {a0 : Nat} {x1 : Int32} {x2 : Int32} {a3 : Nat} {x4 : Int32} : zcall zP sv (d + 1) 89 [.ref a0, .int x1, .int x2, .ref a3, .int x4] h = zrun zP sv (zcall zP sv d) 89 0 [.val (.ref a0), .val (.int x1), .val (.int x2), .val (.ref a3), .val (.int x4), .unset, .unset] [] h := zcall_s (n := 7) rfl rfl (Nat.le_of_ble_eq_true rfl)
theorem zc_90 {a0 : Nat} : zcall zP sv (d + 1) 90 [.ref a0] h = zrun zP sv (zcall zP sv d) 90 0 [.val (.ref a0)] [] h := zcall_s (n := 1) rfl rfl (Nat.le_of_ble_eq_true rfl)
theorem zc_91 {a0 : Nat} {x1 : Int32} : zcall zP sv (d + 1) 91 [.ref a0, .int x1] h = zrun zP sv (zcall zP sv d) 91 0 [.val (.ref a0), .val (.int x1)] [] h := zcall_s (n := 2) rfl rfl (Nat.le_of_ble_eq_true rfl)
theorem zc_92 {a0 : Nat} {a1 : Nat} {x2 : Int32} {a3 : Nat} {a4 : Nat} : zcall zP sv (d + 1) 92 [.ref a0, .ref a1, .int x2, .ref a3, .ref a4] h = zrun zP sv (zcall zP sv d) 92 0 [.val (.ref a0), .val (.ref a1), .val (.int x2), .val (.ref a3), .val (.ref a4), .unset, .unset] [] h := zcall_s (n := 7) rfl rfl (Nat.le_of_ble_eq_true rfl)
theorem zc_93 {a0 : Nat} {a1 : Nat} {x2 : Int32} {a3 : Nat} : zcall zP sv (d + 1) 93 [.ref a0, .ref a1, .int x2, .ref a3] h = zrun zP sv (zcall zP sv d) 93 0 [.val (.ref a0), .val (.ref a1), .val (.int x2), .val (.ref a3), .unset] [] h := zcall_s (n := 5) rfl rfl (Nat.le_of_ble_eq_true rfl)
theorem zc_94 {a0 : Nat} {a1 : Nat} {x2 : Int32} {x3 : Int32} {a4 : Nat} : zcall zP sv (d + 1) 94 [.ref a0, .ref a1, .int x2, .int x3, .ref a4] h = zrun zP sv (zcall zP sv d) 94 0 [.val (.ref a0), .val (.ref a1), .val (.int x2), .val (.int x3), .val (.ref a4), .unset, .unset, .unset, .unset, .unset] [] h := zcall_s (n := 10) rfl rfl (Nat.le_of_ble_eq_true rfl)
theorem zc_95 {a0 : Nat} {a1 : Nat} {x2 : Int32} {a3 : Nat} : zcall zP sv (d + 1) 95 [.ref a0, .ref a1, .int x2, .ref a3] h = zrun zP sv (zcall zP sv d) 95 0 [.val (.ref a0), .val (.ref a1), .val (.int x2), .val (.ref a3), .unset] [] h := zcall_s (n := 5) rfl rfl (Nat.le_of_ble_eq_true rfl)
theorem zc_96 {a0 : Nat} {a1 : Nat} {x2 : Int32} {a3 : Nat} : zcall zP sv (d + 1) 96 [.ref a0, .ref a1, .int x2, .ref a3] h = zrun zP sv (zcall zP sv d) 96 0 [.val (.ref a0), .val (.ref a1), .val (.int x2), .val (.ref a3), .unset, .unset, .unset] [] h := zcall_s (n := 7) rfl rfl (Nat.le_of_ble_eq_true rfl)
theorem zc_97 {x0 : Int32} {a1 : Nat} : zcall zP sv (d + 1) 97 [.int x0, .ref a1] h = zrun zP sv (zcall zP sv d) 97 0 [.val (.int x0), .val (.ref a1)] [] h := zcall_s (n := 2) rfl rfl (Nat.le_of_ble_eq_true rfl)
theorem zc_98 {x0 : Int32} {x1 : Int32} {a2 : Nat} : zcall zP sv (d + 1) 98 [.int x0, .int x1, .ref a2] h = zrun zP sv (zcall zP sv d) 98 0 [.val (.int x0), .val (.int x1), .val (.ref a2)] [] h := zcall_s (n := 3) rfl rfl (Nat.le_of_ble_eq_true rfl)
theorem zc_99 {x0 : Int32} {x1 : Int32} {a2 : Nat} : zcall zP sv (d + 1) 99 [.int x0, .int x1, .ref a2] h = zrun zP sv (zcall zP sv d) 99 0 [.val (.int x0), .val (.int x1), .val (.ref a2)] [] h := zcall_s (n := 3) rfl rfl (Nat.le_of_ble_eq_true rfl)
theorem zc_100 {x0 : Int32} {x1 : Int32} {a2 : Nat} : zcall zP sv (d + 1) 100 [.int x0, .int x1, .ref a2] h = zrun zP sv (zcall zP sv d) 100 0 [.val (.int x0), .val (.int x1), .val (.ref a2)] [] h := zcall_s (n := 3) rfl rfl (Nat.le_of_ble_eq_true rfl)
theorem zc_101 {a0 : Nat} : zcall zP sv (d + 1) 101 [.ref a0] h = zrun zP sv (zcall zP sv d) 101 0 [.val (.ref a0)] [] h := zcall_s (n := 1) rfl rfl (Nat.le_of_ble_eq_true rfl)
theorem zc_102 {a0 : Nat} : zcall zP sv (d + 1) 102 [.ref a0] h = zrun zP sv (zcall zP sv d) 102 0 [.val (.ref a0)] [] h := zcall_s (n := 1) rfl rfl (Nat.le_of_ble_eq_true rfl)
theorem zc_103 {a0 : Nat} {x1 : Int32} : zcall zP sv (d + 1) 103 [.ref a0, .int x1] h = zrun zP sv (zcall zP sv d) 103 0 [.val (.ref a0), .val (.int x1)] [] h := zcall_s (n := 2) rfl rfl (Nat.le_of_ble_eq_true rfl)
theorem zc_104 {a0 : Nat} {x1 : Int32} : zcall zP sv (d + 1) 104 [.ref a0, .int x1] h = zrun zP sv (zcall zP sv d) 104 0 [.val (.ref a0), .val (.int x1)] [] h := zcall_s (n := 2) rfl rfl (Nat.le_of_ble_eq_true rfl)
theorem zc_105 {a0 : Nat} : zcall zP sv (d + 1) 105 [.ref a0] h = zrun zP sv (zcall zP sv d) 105 0 [.val (.ref a0), .unset, .unset] [] h := zcall_s (n := 3) rfl rfl (Nat.le_of_ble_eq_true rfl)
theorem zc_106 {a0 : Nat} : zcall zP sv (d + 1) 106 [.ref a0] h = zrun zP sv (zcall zP sv d) 106 0 [.val (.ref a0), .unset, .unset] [] h := zcall_s (n := 3) rfl rfl (Nat.le_of_ble_eq_true rfl)
theorem zc_107 {a0 : Nat} {a1 : Nat} {x2 : Int32} : zcall zP sv (d + 1) 107 [.ref a0, .ref a1, .int x2] h = zrun zP sv (zcall zP sv d) 107 0 [.val (.ref a0), .val (.ref a1), .val (.int x2)] [] h := zcall_s (n := 3) rfl rfl (Nat.le_of_ble_eq_true rfl)
theorem zc_108 {a0 : Nat} {a1 : Nat} {x2 : Int32} {x3 : Int32} {x4 : Int32} : zcall zP sv (d + 1) 108 [.ref a0, .ref a1, .int x2, .int x3, .int x4] h = zrun zP sv (zcall zP sv d) 108 0 [.val (.ref a0), .val (.ref a1), .val (.int x2), .val (.int x3), .val (.int x4), .unset] [] h := zcall_s (n := 6) rfl rfl (Nat.le_of_ble_eq_true rfl)
theorem zc_109 {a0 : Nat} {a1 : Nat} {x2 : Int32} {x3 : Int32} {x4 : Int32} : zcall zP sv (d + 1) 109 [.ref a0, .ref a1, .int x2, .int x3, .int x4] h = zrun zP sv (zcall zP sv d) 109 0 [.val (.ref a0), .val (.ref a1), .val (.int x2), .val (.int x3), .val (.int x4), .unset, .unset, .unset, .unset, .unset, .unset, .unset] [] h := zcall_s (n := 12) rfl rfl (Nat.le_of_ble_eq_true rfl)
theorem zc_110 {a0 : Nat} : zcall zP sv (d + 1) 110 [.ref a0] h = zrun zP sv (zcall zP sv d) 110 0 [.val (.ref a0), .unset] [] h := zcall_s (n := 2) rfl rfl (Nat.le_of_ble_eq_true rfl)
theorem zc_111 {a0 : Nat} {x1 : Int32} {x2 : Int32} {x3 : Int32} {x4 : Int32} {x5 : Int32} : zcall zP sv (d + 1) 111 [.ref a0, .int x1, .int x2, .int x3, .int x4, .int x5] h = zrun zP sv (zcall zP sv d) 111 0 [.val (.ref a0), .val (.int x1), .val (.int x2), .val (.int x3), .val (.int x4), .val (.int x5)] [] h := zcall_s (n := 6) rfl rfl (Nat.le_of_ble_eq_true rfl)
theorem zc_112 {a0 : Nat} {a1 : Nat} : zcall zP sv (d + 1) 112 [.ref a0, .ref a1] h = zrun zP sv (zcall zP sv d) 112 0 [.val (.ref a0), .val (.ref a1), .unset] [] h := zcall_s (n := 3) rfl rfl (Nat.le_of_ble_eq_true rfl)
theorem zc_113 {a0 : Nat} {x1 : Int32} {a2 : Nat} : zcall zP sv (d + 1) 113 [.ref a0, .int x1, .ref a2] h = zrun zP sv (zcall zP sv d) 113 0 [.val (.ref a0), .val (.int x1), .val (.ref a2), .unset, .unset, .unset] [] h := zcall_s (n := 6) rfl rfl (Nat.le_of_ble_eq_true rfl)
theorem zc_114 {a0 : Nat} {x1 : Int32} {a2 : Nat} : zcall zP sv (d + 1) 114 [.ref a0, .int x1, .ref a2] h = zrun zP sv (zcall zP sv d) 114 0 [.val (.ref a0), .val (.int x1), .val (.ref a2), .unset] [] h := zcall_s (n := 4) rfl rfl (Nat.le_of_ble_eq_true rfl)
theorem zc_115 {x0 : Int32} {a1 : Nat} : zcall zP sv (d + 1) 115 [.int x0, .ref a1] h = zrun zP sv (zcall zP sv d) 115 0 [.val (.int x0), .val (.ref a1), .unset] [] h := zcall_s (n := 3) rfl rfl (Nat.le_of_ble_eq_true rfl)
theorem zc_116 {a0 : Nat} : zcall zP sv (d + 1) 116 [.ref a0] h = zrun zP sv (zcall zP sv d) 116 0 [.val (.ref a0)] [] h := zcall_s (n := 1) rfl rfl (Nat.le_of_ble_eq_true rfl)
theorem zc_117 {a0 : Nat} {a1 : Nat} {x2 : Int32} : zcall zP sv (d + 1) 117 [.ref a0, .ref a1, .int x2] h = zrun zP sv (zcall zP sv d) 117 0 [.val (.ref a0), .val (.ref a1), .val (.int x2), .unset] [] h := zcall_s (n := 4) rfl rfl (Nat.le_of_ble_eq_true rfl)
theorem zc_118 {a0 : Nat} {a1 : Nat} {x2 : Int32} : zcall zP sv (d + 1) 118 [.ref a0, .ref a1, .int x2] h = zrun zP sv (zcall zP sv d) 118 0 [.val (.ref a0), .val (.ref a1), .val (.int x2), .unset, .unset, .unset] [] h := zcall_s (n := 6) rfl rfl (Nat.le_of_ble_eq_true rfl)
theorem zc_119 {a0 : Nat} {a1 : Nat} : zcall zP sv (d + 1) 119 [.ref a0, .ref a1] h = zrun zP sv (zcall zP sv d) 119 0 [.val (.ref a0), .val (.ref a1), .unset] [] h := zcall_s (n := 3) rfl rfl (Nat.le_of_ble_eq_true rfl)
theorem zc_120 {a0 : Nat} {a1 : Nat} {x2 : Int32} : zcall zP sv (d + 1) 120 [.ref a0, .ref a1, .int x2] h = zrun zP sv (zcall zP sv d) 120 0 [.val (.ref a0), .val (.ref a1), .val (.int x2), .unset, .unset, .unset] [] h := zcall_s (n := 6) rfl rfl (Nat.le_of_ble_eq_true rfl)
theorem zc_121 {a0 : Nat} {a1 : Nat} {x2 : Int32} {a3 : Nat} : zcall zP sv (d + 1) 121 [.ref a0, .ref a1, .int x2, .ref a3] h = zrun zP sv (zcall zP sv d) 121 0 [.val (.ref a0), .val (.ref a1), .val (.int x2), .val (.ref a3), .unset] [] h := zcall_s (n := 5) rfl rfl (Nat.le_of_ble_eq_true rfl)
theorem zc_122 {a0 : Nat} {a1 : Nat} {x2 : Int32} {a3 : Nat} : zcall zP sv (d + 1) 122 [.ref a0, .ref a1, .int x2, .ref a3] h = zrun zP sv (zcall zP sv d) 122 0 [.val (.ref a0), .val (.ref a1), .val (.int x2), .val (.ref a3), .unset] [] h := zcall_s (n := 5) rfl rfl (Nat.le_of_ble_eq_true rfl)
theorem zc_123 {a0 : Nat} {a1 : Nat} {x2 : Int32} {a3 : Nat} : zcall zP sv (d + 1) 123 [.ref a0, .ref a1, .int x2, .ref a3] h = zrun zP sv (zcall zP sv d) 123 0 [.val (.ref a0), .val (.ref a1), .val (.int x2), .val (.ref a3), .unset] [] h := zcall_s (n := 5) rfl rfl (Nat.le_of_ble_eq_true rfl)
theorem zc_124 {a0 : Nat} {a1 : Nat} {x2 : Int32} {x3 : Int32} : zcall zP sv (d + 1) 124 [.ref a0, .ref a1, .int x2, .int x3] h = zrun zP sv (zcall zP sv d) 124 0 [.val (.ref a0), .val (.ref a1), .val (.int x2), .val (.int x3), .unset, .unset, .unset] [] h := zcall_s (n := 7) rfl rfl (Nat.le_of_ble_eq_true rfl)
theorem zc_125 {a0 : Nat} {a1 : Nat} : zcall zP sv (d + 1) 125 [.ref a0, .ref a1] h = zrun zP sv (zcall zP sv d) 125 0 [.val (.ref a0), .val (.ref a1), .unset] [] h := zcall_s (n := 3) rfl rfl (Nat.le_of_ble_eq_true rfl)
theorem zc_126 {a0 : Nat} {x1 : Int32} : zcall zP sv (d + 1) 126 [.ref a0, .int x1] h = zrun zP sv (zcall zP sv d) 126 0 [.val (.ref a0), .val (.int x1)] [] h := zcall_s (n := 2) rfl rfl (Nat.le_of_ble_eq_true rfl)
theorem zc_127 {a0 : Nat} {a1 : Nat} {x2 : Int32} : zcall zP sv (d + 1) 127 [.ref a0, .ref a1, .int x2] h = zrun zP sv (zcall zP sv d) 127 0 [.val (.ref a0), .val (.ref a1), .val (.int x2), .unset, .unset] [] h := zcall_s (n := 5) rfl rfl (Nat.le_of_ble_eq_true rfl)
theorem zc_128 {a0 : Nat} {a1 : Nat} : zcall zP sv (d + 1) 128 [.ref a0, .ref a1] h = zrun zP sv (zcall zP sv d) 128 0 [.val (.ref a0), .val (.ref a1), .unset] [] h := zcall_s (n := 3) rfl rfl (Nat.le_of_ble_eq_true rfl)
theorem zc_129 {a0 : Nat} {a1 : Nat} {x2 : Int32} : zcall zP sv (d + 1) 129 [.ref a0, .ref a1, .int x2] h = zrun zP sv (zcall zP sv d) 129 0 [.val (.ref a0), .val (.ref a1), .val (.int x2), .unset, .unset, .unset, .unset] [] h := zcall_s (n := 7) rfl rfl (Nat.le_of_ble_eq_true rfl)
theorem zc_130 {a0 : Nat} : zcall zP sv (d + 1) 130 [.ref a0] h = zrun zP sv (zcall zP sv d) 130 0 [.val (.ref a0), .unset] [] h := zcall_s (n := 2) rfl rfl (Nat.le_of_ble_eq_true rfl)
theorem zc_131 {a0 : Nat} : zcall zP sv (d + 1) 131 [.ref a0] h = zrun zP sv (zcall zP sv d) 131 0 [.val (.ref a0)] [] h := zcall_s (n := 1) rfl rfl (Nat.le_of_ble_eq_true rfl)
theorem zc_132 {a0 : Nat} {a1 : Nat} : zcall zP sv (d + 1) 132 [.ref a0, .ref a1] h = zrun zP sv (zcall zP sv d) 132 0 [.val (.ref a0), .val (.ref a1), .unset] [] h := zcall_s (n := 3) rfl rfl (Nat.le_of_ble_eq_true rfl)
theorem zc_133 {a0 : Nat} {a1 : Nat} : zcall zP sv (d + 1) 133 [.ref a0, .ref a1] h = zrun zP sv (zcall zP sv d) 133 0 [.val (.ref a0), .val (.ref a1), .unset] [] h := zcall_s (n := 3) rfl rfl (Nat.le_of_ble_eq_true rfl)
theorem zc_134 {a0 : Nat} : zcall zP sv (d + 1) 134 [.ref a0] h = zrun zP sv (zcall zP sv d) 134 0 [.val (.ref a0)] [] h := zcall_s (n := 1) rfl rfl (Nat.le_of_ble_eq_true rfl)
theorem zc_135 {a0 : Nat} {x1 : Int32} : zcall zP sv (d + 1) 135 [.ref a0, .int x1] h = zrun zP sv (zcall zP sv d) 135 0 [.val (.ref a0), .val (.int x1)] [] h := zcall_s (n := 2) rfl rfl (Nat.le_of_ble_eq_true rfl)
theorem zc_136 {a0 : Nat} : zcall zP sv (d + 1) 136 [.ref a0] h = zrun zP sv (zcall zP sv d) 136 0 [.val (.ref a0)] [] h := zcall_s (n := 1) rfl rfl (Nat.le_of_ble_eq_true rfl)
theorem zc_137 {a0 : Nat} : zcall zP sv (d + 1) 137 [.ref a0] h = zrun zP sv (zcall zP sv d) 137 0 [.val (.ref a0)] [] h := zcall_s (n := 1) rfl rfl (Nat.le_of_ble_eq_true rfl)
theorem zc_138 {a0 : Nat} : zcall zP sv (d + 1) 138 [.ref a0] h = zrun zP sv (zcall zP sv d) 138 0 [.val (.ref a0)] [] h := zcall_s (n := 1) rfl rfl (Nat.le_of_ble_eq_true rfl)
theorem zc_139 {a0 : Nat} {x1 : Int32} : zcall zP sv (d + 1) 139 [.ref a0, .int x1] h = zrun zP sv (zcall zP sv d) 139 0 [.val (.ref a0), .val (.int x1)] [] h := zcall_s (n := 2) rfl rfl (Nat.le_of_ble_eq_true rfl)
theorem zc_140 {a0 : Nat} : zcall zP sv (d + 1) 140 [.ref a0] h = zrun zP sv (zcall zP sv d) 140 0 [.val (.ref a0)] [] h := zcall_s (n := 1) rfl rfl (Nat.le_of_ble_eq_true rfl)
theorem zc_141 {a0 : Nat} {x1 : Int32} : zcall zP sv (d + 1) 141 [.ref a0, .int x1] h = zrun zP sv (zcall zP sv d) 141 0 [.val (.ref a0), .val (.int x1)] [] h := zcall_s (n := 2) rfl rfl (Nat.le_of_ble_eq_true rfl)
theorem zc_142 {a0 : Nat} : zcall zP sv (d + 1) 142 [.ref a0] h = zrun zP sv (zcall zP sv d) 142 0 [.val (.ref a0)] [] h := zcall_s (n := 1) rfl rfl (Nat.le_of_ble_eq_true rfl)
theorem zc_143 {a0 : Nat} : zcall zP sv (d + 1) 143 [.ref a0] h = zrun zP sv (zcall zP sv d) 143 0 [.val (.ref a0)] [] h := zcall_s (n := 1) rfl rfl (Nat.le_of_ble_eq_true rfl)
theorem zc_144 {a0 : Nat} : zcall zP sv (d + 1) 144 [.ref a0] h = zrun zP sv (zcall zP sv d) 144 0 [.val (.ref a0)] [] h := zcall_s (n := 1) rfl rfl (Nat.le_of_ble_eq_true rfl)
theorem zc_145 {a0 : Nat} {a1 : Nat} : zcall zP sv (d + 1) 145 [.ref a0, .ref a1] h = zrun zP sv (zcall zP sv d) 145 0 [.val (.ref a0), .val (.ref a1), .unset] [] h := zcall_s (n := 3) rfl rfl (Nat.le_of_ble_eq_true rfl)
theorem zc_146 {a0 : Nat} {x1 : Int32} : zcall zP sv (d + 1) 146 [.ref a0, .int x1] h = zrun zP sv (zcall zP sv d) 146 0 [.val (.ref a0), .val (.int x1)] [] h := zcall_s (n := 2) rfl rfl (Nat.le_of_ble_eq_true rfl)
theorem zc_147 {a0 : Nat} {x1 : Int32} {x2 : Int32} {x3 : Int32} {x4 : Int32} : zcall zP sv (d + 1) 147 [.ref a0, .int x1, .int x2, .int x3, .int x4] h = zrun zP sv (zcall zP sv d) 147 0 [.val (.ref a0), .val (.int x1), .val (.int x2), .val (.int x3), .val (.int x4), .unset] [] h := zcall_s (n := 6) rfl rfl (Nat.le_of_ble_eq_true rfl)
theorem zc_148 {a0 : Nat} : zcall zP sv (d + 1) 148 [.ref a0] h = zrun zP sv (zcall zP sv d) 148 0 [.val (.ref a0)] [] h := zcall_s (n := 1) rfl rfl (Nat.le_of_ble_eq_true rfl)
theorem zc_149 {a0 : Nat} : zcall zP sv (d + 1) 149 [.ref a0] h = zrun zP sv (zcall zP sv d) 149 0 [.val (.ref a0)] [] h := zcall_s (n := 1) rfl rfl (Nat.le_of_ble_eq_true rfl)
theorem zc_150 {a0 : Nat} : zcall zP sv (d + 1) 150 [.ref a0] h = zrun zP sv (zcall zP sv d) 150 0 [.val (.ref a0)] [] h := zcall_s (n := 1) rfl rfl (Nat.le_of_ble_eq_true rfl)
theorem zc_151 {a0 : Nat} : zcall zP sv (d + 1) 151 [.ref a0] h = zrun zP sv (zcall zP sv d) 151 0 [.val (.ref a0)] [] h := zcall_s (n := 1) rfl rfl (Nat.le_of_ble_eq_true rfl)
theorem zc_152 {a0 : Nat} : zcall zP sv (d + 1) 152 [.ref a0] h = zrun zP sv (zcall zP sv d) 152 0 [.val (.ref a0), .unset] [] h := zcall_s (n := 2) rfl rfl (Nat.le_of_ble_eq_true rfl)
theorem zc_153 {a0 : Nat} {x1 : Int32} : zcall zP sv (d + 1) 153 [.ref a0, .int x1] h = zrun zP sv (zcall zP sv d) 153 0 [.val (.ref a0), .val (.int x1), .unset, .unset, .unset] [] h := zcall_s (n := 5) rfl rfl (Nat.le_of_ble_eq_true rfl)
theorem zc_154 {a0 : Nat} {x1 : Int32} : zcall zP sv (d + 1) 154 [.ref a0, .int x1] h = zrun zP sv (zcall zP sv d) 154 0 [.val (.ref a0), .val (.int x1), .unset, .unset, .unset] [] h := zcall_s (n := 5) rfl rfl (Nat.le_of_ble_eq_true rfl)
theorem zc_155 {a0 : Nat} {x1 : Int32} {x2 : Int32} {x3 : Int32} : zcall zP sv (d + 1) 155 [.ref a0, .int x1, .int x2, .int x3] h = zrun zP sv (zcall zP sv d) 155 0 [.val (.ref a0), .val (.int x1), .val (.int x2), .val (.int x3)] [] h := zcall_s (n := 4) rfl rfl (Nat.le_of_ble_eq_true rfl)
theorem zc_156 {a0 : Nat} {x1 : Int32} : zcall zP sv (d + 1) 156 [.ref a0, .int x1] h = zrun zP sv (zcall zP sv d) 156 0 [.val (.ref a0), .val (.int x1), .unset, .unset, .unset] [] h := zcall_s (n := 5) rfl rfl (Nat.le_of_ble_eq_true rfl)
theorem zc_157 {a0 : Nat} {x1 : Int32} : zcall zP sv (d + 1) 157 [.ref a0, .int x1] h = zrun zP sv (zcall zP sv d) 157 0 [.val (.ref a0), .val (.int x1), .unset] [] h := zcall_s (n := 3) rfl rfl (Nat.le_of_ble_eq_true rfl)
theorem zc_158 {a0 : Nat} {x1 : Int32} : zcall zP sv (d + 1) 158 [.ref a0, .int x1] h = zrun zP sv (zcall zP sv d) 158 0 [.val (.ref a0), .val (.int x1), .unset] [] h := zcall_s (n := 3) rfl rfl (Nat.le_of_ble_eq_true rfl)
theorem zc_159 {a0 : Nat} : zcall zP sv (d + 1) 159 [.ref a0] h = zrun zP sv (zcall zP sv d) 159 0 [.val (.ref a0), .unset] [] h := zcall_s (n := 2) rfl rfl (Nat.le_of_ble_eq_true rfl)
theorem zc_160 {a0 : Nat} : zcall zP sv (d + 1) 160 [.ref a0] h = zrun zP sv (zcall zP sv d) 160 0 [.val (.ref a0), .unset] [] h := zcall_s (n := 2) rfl rfl (Nat.le_of_ble_eq_true rfl)
theorem zc_161 {a0 : Nat} : zcall zP sv (d + 1) 161 [.ref a0] h = zrun zP sv (zcall zP sv d) 161 0 [.val (.ref a0), .unset] [] h := zcall_s (n := 2) rfl rfl (Nat.le_of_ble_eq_true rfl)
theorem zc_162 {a0 : Nat} : zcall zP sv (d + 1) 162 [.ref a0] h = zrun zP sv (zcall zP sv d) 162 0 [.val (.ref a0), .unset] [] h := zcall_s (n := 2) rfl rfl (Nat.le_of_ble_eq_true rfl)
theorem zc_163 {a0 : Nat} {x1 : Int32} {x2 : Int32} : zcall zP sv (d + 1) 163 [.ref a0, .int x1, .int x2] h = zrun zP sv (zcall zP sv d) 163 0 [.val (.ref a0), .val (.int x1), .val (.int x2), .unset] [] h := zcall_s (n := 4) rfl rfl (Nat.le_of_ble_eq_true rfl)
theorem zc_164 {a0 : Nat} {x1 : Int32} : zcall zP sv (d + 1) 164 [.ref a0, .int x1] h = zrun zP sv (zcall zP sv d) 164 0 [.val (.ref a0), .val (.int x1)] [] h := zcall_s (n := 2) rfl rfl (Nat.le_of_ble_eq_true rfl)
theorem zc_165 {a0 : Nat} {x1 : Int32} : zcall zP sv (d + 1) 165 [.ref a0, .int x1] h = zrun zP sv (zcall zP sv d) 165 0 [.val (.ref a0), .val (.int x1)] [] h := zcall_s (n := 2) rfl rfl (Nat.le_of_ble_eq_true rfl)
theorem zc_166 {a0 : Nat} {x1 : Int32} {x2 : Int32} : zcall zP sv (d + 1) 166 [.ref a0, .int x1, .int x2] h = zrun zP sv (zcall zP sv d) 166 0 [.val (.ref a0), .val (.int x1), .val (.int x2)] [] h := zcall_s (n := 3) rfl rfl (Nat.le_of_ble_eq_true rfl)
theorem zc_167 {a0 : Nat} {a1 : Nat} : zcall zP sv (d + 1) 167 [.ref a0, .ref a1] h = zrun zP sv (zcall zP sv d) 167 0 [.val (.ref a0), .val (.ref a1), .unset] [] h := zcall_s (n := 3) rfl rfl (Nat.le_of_ble_eq_true rfl)
theorem zc_168 {a0 : Nat} : zcall zP sv (d + 1) 168 [.ref a0] h = zrun zP sv (zcall zP sv d) 168 0 [.val (.ref a0)] [] h := zcall_s (n := 1) rfl rfl (Nat.le_of_ble_eq_true rfl)
theorem zc_169 {a0 : Nat} : zcall zP sv (d + 1) 169 [.ref a0] h = zrun zP sv (zcall zP sv d) 169 0 [.val (.ref a0)] [] h := zcall_s (n := 1) rfl rfl (Nat.le_of_ble_eq_true rfl)
theorem zc_170 {a0 : Nat} : zcall zP sv (d + 1) 170 [.ref a0] h = zrun zP sv (zcall zP sv d) 170 0 [.val (.ref a0)] [] h := zcall_s (n := 1) rfl rfl (Nat.le_of_ble_eq_true rfl)
theorem zc_171 {a0 : Nat} : zcall zP sv (d + 1) 171 [.ref a0] h = zrun zP sv (zcall zP sv d) 171 0 [.val (.ref a0)] [] h := zcall_s (n := 1) rfl rfl (Nat.le_of_ble_eq_true rfl)
theorem zc_172 {a0 : Nat} : zcall zP sv (d + 1) 172 [.ref a0] h = zrun zP sv (zcall zP sv d) 172 0 [.val (.ref a0)] [] h := zcall_s (n := 1) rfl rfl (Nat.le_of_ble_eq_true rfl)
theorem zc_173 {a0 : Nat} {x1 : Int32} : zcall zP sv (d + 1) 173 [.ref a0, .int x1] h = zrun zP sv (zcall zP sv d) 173 0 [.val (.ref a0), .val (.int x1)] [] h := zcall_s (n := 2) rfl rfl (Nat.le_of_ble_eq_true rfl)
theorem zc_174 {a0 : Nat} {a1 : Nat} : zcall zP sv (d + 1) 174 [.ref a0, .ref a1] h = zrun zP sv (zcall zP sv d) 174 0 [.val (.ref a0), .val (.ref a1)] [] h := zcall_s (n := 2) rfl rfl (Nat.le_of_ble_eq_true rfl)
theorem zc_175 {a0 : Nat} {x1 : Int32} {a2 : Nat} : zcall zP sv (d + 1) 175 [.ref a0, .int x1, .ref a2] h = zrun zP sv (zcall zP sv d) 175 0 [.val (.ref a0), .val (.int x1), .val (.ref a2)] [] h := zcall_s (n := 3) rfl rfl (Nat.le_of_ble_eq_true rfl)
theorem zc_176 {a0 : Nat} {x1 : Int32} : zcall zP sv (d + 1) 176 [.ref a0, .int x1] h = zrun zP sv (zcall zP sv d) 176 0 [.val (.ref a0), .val (.int x1), .unset] [] h := zcall_s (n := 3) rfl rfl (Nat.le_of_ble_eq_true rfl)
theorem zc_177 {a0 : Nat} {x1 : Int32} : zcall zP sv (d + 1) 177 [.ref a0, .int x1] h = zrun zP sv (zcall zP sv d) 177 0 [.val (.ref a0), .val (.int x1)] [] h := zcall_s (n := 2) rfl rfl (Nat.le_of_ble_eq_true rfl)
theorem zc_178 {a0 : Nat} {x1 : Int32} {x2 : Int32} : zcall zP sv (d + 1) 178 [.ref a0, .int x1, .int x2] h = zrun zP sv (zcall zP sv d) 178 0 [.val (.ref a0), .val (.int x1), .val (.int x2), .unset] [] h := zcall_s (n := 4) rfl rfl (Nat.le_of_ble_eq_true rfl)
theorem zc_179 {a0 : Nat} {x1 : Int32} : zcall zP sv (d + 1) 179 [.ref a0, .int x1] h = zrun zP sv (zcall zP sv d) 179 0 [.val (.ref a0), .val (.int x1), .unset] [] h := zcall_s (n := 3) rfl rfl (Nat.le_of_ble_eq_true rfl)
theorem zc_180 {a0 : Nat} {a1 : Nat} : zcall zP sv (d + 1) 180 [.ref a0, .ref a1] h = zrun zP sv (zcall zP sv d) 180 0 [.val (.ref a0), .val (.ref a1), .unset] [] h := zcall_s (n := 3) rfl rfl (Nat.le_of_ble_eq_true rfl)
theorem zc_181 {a0 : Nat} {x1 : Int32} : zcall zP sv (d + 1) 181 [.ref a0, .int x1] h = zrun zP sv (zcall zP sv d) 181 0 [.val (.ref a0), .val (.int x1)] [] h := zcall_s (n := 2) rfl rfl (Nat.le_of_ble_eq_true rfl)
theorem zc_182 {a0 : Nat} : zcall zP sv (d + 1) 182 [.ref a0] h = zrun zP sv (zcall zP sv d) 182 0 [.val (.ref a0)] [] h := zcall_s (n := 1) rfl rfl (Nat.le_of_ble_eq_true rfl)
theorem zc_183 {a0 : Nat} : zcall zP sv (d + 1) 183 [.ref a0] h = zrun zP sv (zcall zP sv d) 183 0 [.val (.ref a0)] [] h := zcall_s (n := 1) rfl rfl (Nat.le_of_ble_eq_true rfl)
theorem zc_184 {a0 : Nat} {x1 : Int32} : zcall zP sv (d + 1) 184 [.ref a0, .int x1] h = zrun zP sv (zcall zP sv d) 184 0 [.val (.ref a0), .val (.int x1)] [] h := zcall_s (n := 2) rfl rfl (Nat.le_of_ble_eq_true rfl)
theorem zc_185 {a0 : Nat} {x1 : Int32} : zcall zP sv (d + 1) 185 [.ref a0, .int x1] h = zrun zP sv (zcall zP sv d) 185 0 [.val (.ref a0), .val (.int x1)] [] h := zcall_s (n := 2) rfl rfl (Nat.le_of_ble_eq_true rfl)
theorem zc_186 {a0 : Nat} {x1 : Int32} : zcall zP sv (d + 1) 186 [.ref a0, .int x1] h = zrun zP sv (zcall zP sv d) 186 0 [.val (.ref a0), .val (.int x1)] [] h := zcall_s (n := 2) rfl rfl (Nat.le_of_ble_eq_true rfl)
theorem zc_187 {a0 : Nat} {x1 : Int32} : zcall zP sv (d + 1) 187 [.ref a0, .int x1] h = zrun zP sv (zcall zP sv d) 187 0 [.val (.ref a0), .val (.int x1)] [] h := zcall_s (n := 2) rfl rfl (Nat.le_of_ble_eq_true rfl)
theorem zc_188 {a0 : Nat} {x1 : Int32} {x2 : Int32} : zcall zP sv (d + 1) 188 [.ref a0, .int x1, .int x2] h = zrun zP sv (zcall zP sv d) 188 0 [.val (.ref a0), .val (.int x1), .val (.int x2)] [] h := zcall_s (n := 3) rfl rfl (Nat.le_of_ble_eq_true rfl)
theorem zc_189 {a0 : Nat} {x1 : Int32} {x2 : Int32} : zcall zP sv (d + 1) 189 [.ref a0, .int x1, .int x2] h = zrun zP sv (zcall zP sv d) 189 0 [.val (.ref a0), .val (.int x1), .val (.int x2)] [] h := zcall_s (n := 3) rfl rfl (Nat.le_of_ble_eq_true rfl)
theorem zc_190 {a0 : Nat} : zcall zP sv (d + 1) 190 [.ref a0] h = zrun zP sv (zcall zP sv d) 190 0 [.val (.ref a0)] [] h := zcall_s (n := 1) rfl rfl (Nat.le_of_ble_eq_true rfl)
theorem zc_191 {a0 : Nat} {x1 : Int32} {x2 : Int32} {x3 : Int32} {x4 : Int32} : zcall zP sv (d + 1) 191 [.ref a0, .int x1, .int x2, .int x3, .int x4] h = zrun zP sv (zcall zP sv d) 191 0 [.val (.ref a0), .val (.int x1), .val (.int x2), .val (.int x3), .val (.int x4)] [] h := zcall_s (n := 5) rfl rfl (Nat.le_of_ble_eq_true rfl)
theorem zc_192 {a0 : Nat} {x1 : Int32} : zcall zP sv (d + 1) 192 [.ref a0, .int x1] h = zrun zP sv (zcall zP sv d) 192 0 [.val (.ref a0), .val (.int x1)] [] h := zcall_s (n := 2) rfl rfl (Nat.le_of_ble_eq_true rfl)
theorem zc_193 {a0 : Nat} {x1 : Int32} : zcall zP sv (d + 1) 193 [.ref a0, .int x1] h = zrun zP sv (zcall zP sv d) 193 0 [.val (.ref a0), .val (.int x1)] [] h := zcall_s (n := 2) rfl rfl (Nat.le_of_ble_eq_true rfl)
theorem zc_194 {a0 : Nat} {x1 : Int32} {x2 : Int32} {x3 : Int32} : zcall zP sv (d + 1) 194 [.ref a0, .int x1, .int x2, .int x3] h = zrun zP sv (zcall zP sv d) 194 0 [.val (.ref a0), .val (.int x1), .val (.int x2), .val (.int x3)] [] h := zcall_s (n := 4) rfl rfl (Nat.le_of_ble_eq_true rfl)
theorem zc_195 {a0 : Nat} {a1 : Nat} : zcall zP sv (d + 1) 195 [.ref a0, .ref a1] h = zrun zP sv (zcall zP sv d) 195 0 [.val (.ref a0), .val (.ref a1), .unset] [] h := zcall_s (n := 3) rfl rfl (Nat.le_of_ble_eq_true rfl)
theorem zc_196 {a0 : Nat} : zcall zP sv (d + 1) 196 [.ref a0] h = zrun zP sv (zcall zP sv d) 196 0 [.val (.ref a0)] [] h := zcall_s (n := 1) rfl rfl (Nat.le_of_ble_eq_true rfl)
theorem zc_197 {a0 : Nat} : zcall zP sv (d + 1) 197 [.ref a0] h = zrun zP sv (zcall zP sv d) 197 0 [.val (.ref a0)] [] h := zcall_s (n := 1) rfl rfl (Nat.le_of_ble_eq_true rfl)
theorem zc_198 {a0 : Nat} {x1 : Int32} : zcall zP sv (d + 1) 198 [.ref a0, .int x1] h = zrun zP sv (zcall zP sv d) 198 0 [.val (.ref a0), .val (.int x1)] [] h := zcall_s (n := 2) rfl rfl (Nat.le_of_ble_eq_true rfl)
theorem zc_199 {x0 : Int32} {x1 : Int32} {x2 : Int32} : zcall zP sv (d + 1) 199 [.int x0, .int x1, .int x2] h = zrun zP sv (zcall zP sv d) 199 0 [.val (.int x0), .val (.int x1), .val (.int x2)] [] h := zcall_s (n := 3) rfl rfl (Nat.le_of_ble_eq_true rfl)
theorem zc_200 {a0 : Nat} : zcall zP sv (d + 1) 200 [.ref a0] h = zrun zP sv (zcall zP sv d) 200 0 [.val (.ref a0), .unset] [] h := zcall_s (n := 2) rfl rfl (Nat.le_of_ble_eq_true rfl)
theorem zc_201 {a0 : Nat} {x1 : Int32} : zcall zP sv (d + 1) 201 [.ref a0, .int x1] h = zrun zP sv (zcall zP sv d) 201 0 [.val (.ref a0), .val (.int x1)] [] h := zcall_s (n := 2) rfl rfl (Nat.le_of_ble_eq_true rfl)
theorem zc_202 {a0 : Nat} {x1 : Int32} : zcall zP sv (d + 1) 202 [.ref a0, .int x1] h = zrun zP sv (zcall zP sv d) 202 0 [.val (.ref a0), .val (.int x1), .unset] [] h := zcall_s (n := 3) rfl rfl (Nat.le_of_ble_eq_true rfl)
theorem zc_203 {a0 : Nat} {x1 : Int32} : zcall zP sv (d + 1) 203 [.ref a0, .int x1] h = zrun zP sv (zcall zP sv d) 203 0 [.val (.ref a0), .val (.int x1)] [] h := zcall_s (n := 2) rfl rfl (Nat.le_of_ble_eq_true rfl)
theorem zc_204 {x0 : Int32} : zcall zP sv (d + 1) 204 [.int x0] h = zrun zP sv (zcall zP sv d) 204 0 [.val (.int x0)] [] h := zcall_s (n := 1) rfl rfl (Nat.le_of_ble_eq_true rfl)
theorem zc_205 {x0 : Int32} : zcall zP sv (d + 1) 205 [.int x0] h = zrun zP sv (zcall zP sv d) 205 0 [.val (.int x0)] [] h := zcall_s (n := 1) rfl rfl (Nat.le_of_ble_eq_true rfl)
theorem zc_206 {a0 : Nat} {x1 : Int32} : zcall zP sv (d + 1) 206 [.ref a0, .int x1] h = zrun zP sv (zcall zP sv d) 206 0 [.val (.ref a0), .val (.int x1), .unset, .unset] [] h := zcall_s (n := 4) rfl rfl (Nat.le_of_ble_eq_true rfl)
theorem zc_207 {a0 : Nat} : zcall zP sv (d + 1) 207 [.ref a0] h = zrun zP sv (zcall zP sv d) 207 0 [.val (.ref a0), .unset] [] h := zcall_s (n := 2) rfl rfl (Nat.le_of_ble_eq_true rfl)
theorem zc_208 {a0 : Nat} {x1 : Int32} : zcall zP sv (d + 1) 208 [.ref a0, .int x1] h = zrun zP sv (zcall zP sv d) 208 0 [.val (.ref a0), .val (.int x1), .unset, .unset] [] h := zcall_s (n := 4) rfl rfl (Nat.le_of_ble_eq_true rfl)
theorem zc_209 {a0 : Nat} {x1 : Int32} : zcall zP sv (d + 1) 209 [.ref a0, .int x1] h = zrun zP sv (zcall zP sv d) 209 0 [.val (.ref a0), .val (.int x1), .unset, .unset] [] h := zcall_s (n := 4) rfl rfl (Nat.le_of_ble_eq_true rfl)
theorem zc_210 {a0 : Nat} {x1 : Int32} {x2 : Int32} : zcall zP sv (d + 1) 210 [.ref a0, .int x1, .int x2] h = zrun zP sv (zcall zP sv d) 210 0 [.val (.ref a0), .val (.int x1), .val (.int x2), .unset, .unset, .unset] [] h := zcall_s (n := 6) rfl rfl (Nat.le_of_ble_eq_true rfl)
theorem zc_211 {x0 : Int32} {x1 : Int32} {x2 : Int32} : zcall zP sv (d + 1) 211 [.int x0, .int x1, .int x2] h = zrun zP sv (zcall zP sv d) 211 0 [.val (.int x0), .val (.int x1), .val (.int x2)] [] h := zcall_s (n := 3) rfl rfl (Nat.le_of_ble_eq_true rfl)
theorem zc_212 {a0 : Nat} {x1 : Int32} {x2 : Int32} {x3 : Int32} {x4 : Int32} : zcall zP sv (d + 1) 212 [.ref a0, .int x1, .int x2, .int x3, .int x4] h = zrun zP sv (zcall zP sv d) 212 0 [.val (.ref a0), .val (.int x1), .val (.int x2), .val (.int x3), .val (.int x4)] [] h := zcall_s (n := 5) rfl rfl (Nat.le_of_ble_eq_true rfl)
theorem zc_213 {a0 : Nat} {x1 : Int32} : zcall zP sv (d + 1) 213 [.ref a0, .int x1] h = zrun zP sv (zcall zP sv d) 213 0 [.val (.ref a0), .val (.int x1), .unset, .unset, .unset, .unset, .unset] [] h := zcall_s (n := 7) rfl rfl (Nat.le_of_ble_eq_true rfl)
theorem zc_214 {a0 : Nat} {x1 : Int32} : zcall zP sv (d + 1) 214 [.ref a0, .int x1] h = zrun zP sv (zcall zP sv d) 214 0 [.val (.ref a0), .val (.int x1), .unset, .unset, .unset, .unset, .unset, .unset, .unset] [] h := zcall_s (n := 9) rfl rfl (Nat.le_of_ble_eq_true rfl)
theorem zc_215 {a0 : Nat} : zcall zP sv (d + 1) 215 [.ref a0] h = zrun zP sv (zcall zP sv d) 215 0 [.val (.ref a0)] [] h := zcall_s (n := 1) rfl rfl (Nat.le_of_ble_eq_true rfl)
theorem zc_216 {a0 : Nat} {x1 : Int32} {x2 : Int32} : zcall zP sv (d + 1) 216 [.ref a0, .int x1, .int x2] h = zrun zP sv (zcall zP sv d) 216 0 [.val (.ref a0), .val (.int x1), .val (.int x2)] [] h := zcall_s (n := 3) rfl rfl (Nat.le_of_ble_eq_true rfl)
theorem zc_217 {a0 : Nat} {x1 : Int32} : zcall zP sv (d + 1) 217 [.ref a0, .int x1] h = zrun zP sv (zcall zP sv d) 217 0 [.val (.ref a0), .val (.int x1), .unset, .unset] [] h := zcall_s (n := 4) rfl rfl (Nat.le_of_ble_eq_true rfl)
theorem zc_218 {a0 : Nat} {x1 : Int32} {x2 : Int32} {x3 : Int32} : zcall zP sv (d + 1) 218 [.ref a0, .int x1, .int x2, .int x3] h = zrun zP sv (zcall zP sv d) 218 0 [.val (.ref a0), .val (.int x1), .val (.int x2), .val (.int x3), .unset] [] h := zcall_s (n := 5) rfl rfl (Nat.le_of_ble_eq_true rfl)
theorem zc_219 {a0 : Nat} {x1 : Int32} {x2 : Int32} : zcall zP sv (d + 1) 219 [.ref a0, .int x1, .int x2] h = zrun zP sv (zcall zP sv d) 219 0 [.val (.ref a0), .val (.int x1), .val (.int x2)] [] h := zcall_s (n := 3) rfl rfl (Nat.le_of_ble_eq_true rfl)
theorem zc_220 {a0 : Nat} {x1 : Int32} {x2 : Int32} : zcall zP sv (d + 1) 220 [.ref a0, .int x1, .int x2] h = zrun zP sv (zcall zP sv d) 220 0 [.val (.ref a0), .val (.int x1), .val (.int x2)] [] h := zcall_s (n := 3) rfl rfl (Nat.le_of_ble_eq_true rfl)
theorem zc_221 {a0 : Nat} {x1 : Int32} {x2 : Int32} : zcall zP sv (d + 1) 221 [.ref a0, .int x1, .int x2] h = zrun zP sv (zcall zP sv d) 221 0 [.val (.ref a0), .val (.int x1), .val (.int x2), .unset, .unset] [] h := zcall_s (n := 5) rfl rfl (Nat.le_of_ble_eq_true rfl)
theorem zc_222 {a0 : Nat} {x1 : Int32} : zcall zP sv (d + 1) 222 [.ref a0, .int x1] h = zrun zP sv (zcall zP sv d) 222 0 [.val (.ref a0), .val (.int x1), .unset, .unset, .unset, .unset] [] h := zcall_s (n := 6) rfl rfl (Nat.le_of_ble_eq_true rfl)
theorem zc_223 {a0 : Nat} {x1 : Int32} {x2 : Int32} : zcall zP sv (d + 1) 223 [.ref a0, .int x1, .int x2] h = zrun zP sv (zcall zP sv d) 223 0 [.val (.ref a0), .val (.int x1), .val (.int x2)] [] h := zcall_s (n := 3) rfl rfl (Nat.le_of_ble_eq_true rfl)
theorem zc_224 {a0 : Nat} {x1 : Int32} {x2 : Int32} : zcall zP sv (d + 1) 224 [.ref a0, .int x1, .int x2] h = zrun zP sv (zcall zP sv d) 224 0 [.val (.ref a0), .val (.int x1), .val (.int x2), .unset, .unset] [] h := zcall_s (n := 5) rfl rfl (Nat.le_of_ble_eq_true rfl)
theorem zc_225 {a0 : Nat} {x1 : Int32} : zcall zP sv (d + 1) 225 [.ref a0, .int x1] h = zrun zP sv (zcall zP sv d) 225 0 [.val (.ref a0), .val (.int x1)] [] h := zcall_s (n := 2) rfl rfl (Nat.le_of_ble_eq_true rfl)
theorem zc_226 {a0 : Nat} {x1 : Int32} {x2 : Int32} : zcall zP sv (d + 1) 226 [.ref a0, .int x1, .int x2] h = zrun zP sv (zcall zP sv d) 226 0 [.val (.ref a0), .val (.int x1), .val (.int x2)] [] h := zcall_s (n := 3) rfl rfl (Nat.le_of_ble_eq_true rfl)
theorem zc_227 {a0 : Nat} {x1 : Int32} {x2 : Int32} : zcall zP sv (d + 1) 227 [.ref a0, .int x1, .int x2] h = zrun zP sv (zcall zP sv d) 227 0 [.val (.ref a0), .val (.int x1), .val (.int x2), .unset] [] h := zcall_s (n := 4) rfl rfl (Nat.le_of_ble_eq_true rfl)
theorem zc_228 {a0 : Nat} : zcall zP sv (d + 1) 228 [.ref a0] h = zrun zP sv (zcall zP sv d) 228 0 [.val (.ref a0), .unset, .unset] [] h := zcall_s (n := 3) rfl rfl (Nat.le_of_ble_eq_true rfl)
theorem zc_229 {a0 : Nat} : zcall zP sv (d + 1) 229 [.ref a0] h = zrun zP sv (zcall zP sv d) 229 0 [.val (.ref a0), .unset, .unset] [] h := zcall_s (n := 3) rfl rfl (Nat.le_of_ble_eq_true rfl)
theorem zc_230 {a0 : Nat} : zcall zP sv (d + 1) 230 [.ref a0] h = zrun zP sv (zcall zP sv d) 230 0 [.val (.ref a0), .unset] [] h := zcall_s (n := 2) rfl rfl (Nat.le_of_ble_eq_true rfl)
theorem zc_231 {a0 : Nat} {x1 : Int32} : zcall zP sv (d + 1) 231 [.ref a0, .int x1] h = zrun zP sv (zcall zP sv d) 231 0 [.val (.ref a0), .val (.int x1)] [] h := zcall_s (n := 2) rfl rfl (Nat.le_of_ble_eq_true rfl)
theorem zc_232 {a0 : Nat} : zcall zP sv (d + 1) 232 [.ref a0] h = zrun zP sv (zcall zP sv d) 232 0 [.val (.ref a0), .unset] [] h := zcall_s (n := 2) rfl rfl (Nat.le_of_ble_eq_true rfl)
theorem zc_233 {a0 : Nat} : zcall zP sv (d + 1) 233 [.ref a0] h = zrun zP sv (zcall zP sv d) 233 0 [.val (.ref a0), .unset] [] h := zcall_s (n := 2) rfl rfl (Nat.le_of_ble_eq_true rfl)
theorem zc_234 {a0 : Nat} {x1 : Int32} : zcall zP sv (d + 1) 234 [.ref a0, .int x1] h = zrun zP sv (zcall zP sv d) 234 0 [.val (.ref a0), .val (.int x1)] [] h := zcall_s (n := 2) rfl rfl (Nat.le_of_ble_eq_true rfl)
theorem zc_235 {a0 : Nat} : zcall zP sv (d + 1) 235 [.ref a0] h = zrun zP sv (zcall zP sv d) 235 0 [.val (.ref a0)] [] h := zcall_s (n := 1) rfl rfl (Nat.le_of_ble_eq_true rfl)
theorem zc_236 {a0 : Nat} {x1 : Int32} : zcall zP sv (d + 1) 236 [.ref a0, .int x1] h = zrun zP sv (zcall zP sv d) 236 0 [.val (.ref a0), .val (.int x1), .unset] [] h := zcall_s (n := 3) rfl rfl (Nat.le_of_ble_eq_true rfl)
theorem zc_237 {a0 : Nat} {x1 : Int32} : zcall zP sv (d + 1) 237 [.ref a0, .int x1] h = zrun zP sv (zcall zP sv d) 237 0 [.val (.ref a0), .val (.int x1)] [] h := zcall_s (n := 2) rfl rfl (Nat.le_of_ble_eq_true rfl)
theorem zc_238 {a0 : Nat} {x1 : Int32} : zcall zP sv (d + 1) 238 [.ref a0, .int x1] h = zrun zP sv (zcall zP sv d) 238 0 [.val (.ref a0), .val (.int x1), .unset, .unset] [] h := zcall_s (n := 4) rfl rfl (Nat.le_of_ble_eq_true rfl)
theorem zc_239 {a0 : Nat} {x1 : Int32} : zcall zP sv (d + 1) 239 [.ref a0, .int x1] h = zrun zP sv (zcall zP sv d) 239 0 [.val (.ref a0), .val (.int x1)] [] h := zcall_s (n := 2) rfl rfl (Nat.le_of_ble_eq_true rfl)
theorem zc_240 {a0 : Nat} {x1 : Int32} {x2 : Int32} : zcall zP sv (d + 1) 240 [.ref a0, .int x1, .int x2] h = zrun zP sv (zcall zP sv d) 240 0 [.val (.ref a0), .val (.int x1), .val (.int x2), .unset] [] h := zcall_s (n := 4) rfl rfl (Nat.le_of_ble_eq_true rfl)
theorem zc_241 {a0 : Nat} {x1 : Int32} {x2 : Int32} : zcall zP sv (d + 1) 241 [.ref a0, .int x1, .int x2] h = zrun zP sv (zcall zP sv d) 241 0 [.val (.ref a0), .val (.int x1), .val (.int x2)] [] h := zcall_s (n := 3) rfl rfl (Nat.le_of_ble_eq_true rfl)
theorem zc_242 {a0 : Nat} {x1 : Int32} : zcall zP sv (d + 1) 242 [.ref a0, .int x1] h = zrun zP sv (zcall zP sv d) 242 0 [.val (.ref a0), .val (.int x1), .unset, .unset] [] h := zcall_s (n := 4) rfl rfl (Nat.le_of_ble_eq_true rfl)
theorem zc_243 {a0 : Nat} {x1 : Int32} {x2 : Int32} {x3 : Int32} : zcall zP sv (d + 1) 243 [.ref a0, .int x1, .int x2, .int x3] h = zrun zP sv (zcall zP sv d) 243 0 [.val (.ref a0), .val (.int x1), .val (.int x2), .val (.int x3), .unset, .unset, .unset] [] h := zcall_s (n := 7) rfl rfl (Nat.le_of_ble_eq_true rfl)
theorem zc_244 {a0 : Nat} {x1 : Int32} {x2 : Int32} {x3 : Int32} : zcall zP sv (d + 1) 244 [.ref a0, .int x1, .int x2, .int x3] h = zrun zP sv (zcall zP sv d) 244 0 [.val (.ref a0), .val (.int x1), .val (.int x2), .val (.int x3)] [] h := zcall_s (n := 4) rfl rfl (Nat.le_of_ble_eq_true rfl)
theorem zc_245 {a0 : Nat} {x1 : Int32} {x2 : Int32} : zcall zP sv (d + 1) 245 [.ref a0, .int x1, .int x2] h = zrun zP sv (zcall zP sv d) 245 0 [.val (.ref a0), .val (.int x1), .val (.int x2), .unset] [] h := zcall_s (n := 4) rfl rfl (Nat.le_of_ble_eq_true rfl)
theorem zc_246 {a0 : Nat} {x1 : Int32} {x2 : Int32} : zcall zP sv (d + 1) 246 [.ref a0, .int x1, .int x2] h = zrun zP sv (zcall zP sv d) 246 0 [.val (.ref a0), .val (.int x1), .val (.int x2)] [] h := zcall_s (n := 3) rfl rfl (Nat.le_of_ble_eq_true rfl)
theorem zc_247 {a0 : Nat} {x1 : Int32} : zcall zP sv (d + 1) 247 [.ref a0, .int x1] h = zrun zP sv (zcall zP sv d) 247 0 [.val (.ref a0), .val (.int x1), .unset] [] h := zcall_s (n := 3) rfl rfl (Nat.le_of_ble_eq_true rfl)
theorem zc_248 {a0 : Nat} {x1 : Int32} : zcall zP sv (d + 1) 248 [.ref a0, .int x1] h = zrun zP sv (zcall zP sv d) 248 0 [.val (.ref a0), .val (.int x1)] [] h := zcall_s (n := 2) rfl rfl (Nat.le_of_ble_eq_true rfl)
theorem zc_249 {a0 : Nat} : zcall zP sv (d + 1) 249 [.ref a0] h = zrun zP sv (zcall zP sv d) 249 0 [.val (.ref a0)] [] h := zcall_s (n := 1) rfl rfl (Nat.le_of_ble_eq_true rfl)
theorem zc_250 {a0 : Nat} {x1 : Int32} : zcall zP sv (d + 1) 250 [.ref a0, .int x1] h = zrun zP sv (zcall zP sv d) 250 0 [.val (.ref a0), .val (.int x1)] [] h := zcall_s (n := 2) rfl rfl (Nat.le_of_ble_eq_true rfl)
theorem zc_251 {a0 : Nat} : zcall zP sv (d + 1) 251 [.ref a0] h = zrun zP sv (zcall zP sv d) 251 0 [.val (.ref a0)] [] h := zcall_s (n := 1) rfl rfl (Nat.le_of_ble_eq_true rfl)
theorem zc_252 {a0 : Nat} {x1 : Int32} : zcall zP sv (d + 1) 252 [.ref a0, .int x1] h = zrun zP sv (zcall zP sv d) 252 0 [.val (.ref a0), .val (.int x1)] [] h := zcall_s (n := 2) rfl rfl (Nat.le_of_ble_eq_true rfl)
theorem zc_253 {a0 : Nat} {x1 : Int32} : zcall zP sv (d + 1) 253 [.ref a0, .int x1] h = zrun zP sv (zcall zP sv d) 253 0 [.val (.ref a0), .val (.int x1)] [] h := zcall_s (n := 2) rfl rfl (Nat.le_of_ble_eq_true rfl)
theorem zc_254 {a0 : Nat} {x1 : Int32} : zcall zP sv (d + 1) 254 [.ref a0, .int x1] h = zrun zP sv (zcall zP sv d) 254 0 [.val (.ref a0), .val (.int x1)] [] h := zcall_s (n := 2) rfl rfl (Nat.le_of_ble_eq_true rfl)
theorem zc_255 {a0 : Nat} {x1 : Int32} {x2 : Int32} : zcall zP sv (d + 1) 255 [.ref a0, .int x1, .int x2] h = zrun zP sv (zcall zP sv d) 255 0 [.val (.ref a0), .val (.int x1), .val (.int x2)] [] h := zcall_s (n := 3) rfl rfl (Nat.le_of_ble_eq_true rfl)
theorem zc_256 {a0 : Nat} {x1 : Int32} : zcall zP sv (d + 1) 256 [.ref a0, .int x1] h = zrun zP sv (zcall zP sv d) 256 0 [.val (.ref a0), .val (.int x1)] [] h := zcall_s (n := 2) rfl rfl (Nat.le_of_ble_eq_true rfl)
theorem zc_257 {a0 : Nat} {x1 : Int32} : zcall zP sv (d + 1) 257 [.ref a0, .int x1] h = zrun zP sv (zcall zP sv d) 257 0 [.val (.ref a0), .val (.int x1), .unset, .unset] [] h := zcall_s (n := 4) rfl rfl (Nat.le_of_ble_eq_true rfl)
theorem zc_258 {a0 : Nat} {x1 : Int32} {x2 : Int32} : zcall zP sv (d + 1) 258 [.ref a0, .int x1, .int x2] h = zrun zP sv (zcall zP sv d) 258 0 [.val (.ref a0), .val (.int x1), .val (.int x2), .unset, .unset] [] h := zcall_s (n := 5) rfl rfl (Nat.le_of_ble_eq_true rfl)
theorem zc_259 {a0 : Nat} {x1 : Int32} {x2 : Int32} : zcall zP sv (d + 1) 259 [.ref a0, .int x1, .int x2] h = zrun zP sv (zcall zP sv d) 259 0 [.val (.ref a0), .val (.int x1), .val (.int x2), .unset] [] h := zcall_s (n := 4) rfl rfl (Nat.le_of_ble_eq_true rfl)
theorem zc_260 {a0 : Nat} {x1 : Int32} {x2 : Int32} : zcall zP sv (d + 1) 260 [.ref a0, .int x1, .int x2] h = zrun zP sv (zcall zP sv d) 260 0 [.val (.ref a0), .val (.int x1), .val (.int x2), .unset, .unset] [] h := zcall_s (n := 5) rfl rfl (Nat.le_of_ble_eq_true rfl)
theorem zc_261 {a0 : Nat} {x1 : Int32} : zcall zP sv (d + 1) 261 [.ref a0, .int x1] h = zrun zP sv (zcall zP sv d) 261 0 [.val (.ref a0), .val (.int x1), .unset, .unset] [] h := zcall_s (n := 4) rfl rfl (Nat.le_of_ble_eq_true rfl)
theorem zc_262 {a0 : Nat} {x1 : Int32} : zcall zP sv (d + 1) 262 [.ref a0, .int x1] h = zrun zP sv (zcall zP sv d) 262 0 [.val (.ref a0), .val (.int x1)] [] h := zcall_s (n := 2) rfl rfl (Nat.le_of_ble_eq_true rfl)
theorem zc_263 {a0 : Nat} {x1 : Int32} {x2 : Int32} : zcall zP sv (d + 1) 263 [.ref a0, .int x1, .int x2] h = zrun zP sv (zcall zP sv d) 263 0 [.val (.ref a0), .val (.int x1), .val (.int x2), .unset, .unset, .unset, .unset, .unset] [] h := zcall_s (n := 8) rfl rfl (Nat.le_of_ble_eq_true rfl)
theorem zc_264 {a0 : Nat} {x1 : Int32} : zcall zP sv (d + 1) 264 [.ref a0, .int x1] h = zrun zP sv (zcall zP sv d) 264 0 [.val (.ref a0), .val (.int x1)] [] h := zcall_s (n := 2) rfl rfl (Nat.le_of_ble_eq_true rfl)
theorem zc_265 {a0 : Nat} {x1 : Int32} : zcall zP sv (d + 1) 265 [.ref a0, .int x1] h = zrun zP sv (zcall zP sv d) 265 0 [.val (.ref a0), .val (.int x1)] [] h := zcall_s (n := 2) rfl rfl (Nat.le_of_ble_eq_true rfl)
theorem zc_266 {a0 : Nat} {x1 : Int32} {x2 : Int32} : zcall zP sv (d + 1) 266 [.ref a0, .int x1, .int x2] h = zrun zP sv (zcall zP sv d) 266 0 [.val (.ref a0), .val (.int x1), .val (.int x2)] [] h := zcall_s (n := 3) rfl rfl (Nat.le_of_ble_eq_true rfl)
theorem zc_267 {a0 : Nat} {x1 : Int32} {x2 : Int32} : zcall zP sv (d + 1) 267 [.ref a0, .int x1, .int x2] h = zrun zP sv (zcall zP sv d) 267 0 [.val (.ref a0), .val (.int x1), .val (.int x2)] [] h := zcall_s (n := 3) rfl rfl (Nat.le_of_ble_eq_true rfl)
theorem zc_268 {a0 : Nat} {x1 : Int32} : zcall zP sv (d + 1) 268 [.ref a0, .int x1] h = zrun zP sv (zcall zP sv d) 268 0 [.val (.ref a0), .val (.int x1)] [] h := zcall_s (n := 2) rfl rfl (Nat.le_of_ble_eq_true rfl)
theorem zc_269 {a0 : Nat} {x1 : Int32} : zcall zP sv (d + 1) 269 [.ref a0, .int x1] h = zrun zP sv (zcall zP sv d) 269 0 [.val (.ref a0), .val (.int x1)] [] h := zcall_s (n := 2) rfl rfl (Nat.le_of_ble_eq_true rfl)
theorem zc_270 {a0 : Nat} {x1 : Int32} {x2 : Int32} {x3 : Int32} {x4 : Int32} : zcall zP sv (d + 1) 270 [.ref a0, .int x1, .int x2, .int x3, .int x4] h = zrun zP sv (zcall zP sv d) 270 0 [.val (.ref a0), .val (.int x1), .val (.int x2), .val (.int x3), .val (.int x4)] [] h := zcall_s (n := 5) rfl rfl (Nat.le_of_ble_eq_true rfl)
theorem zc_271 {a0 : Nat} {x1 : Int32} {x2 : Int32} {x3 : Int32} : zcall zP sv (d + 1) 271 [.ref a0, .int x1, .int x2, .int x3] h = zrun zP sv (zcall zP sv d) 271 0 [.val (.ref a0), .val (.int x1), .val (.int x2), .val (.int x3), .unset, .unset, .unset, .unset, .unset, .unset, .unset, .unset] [] h := zcall_s (n := 12) rfl rfl (Nat.le_of_ble_eq_true rfl)
theorem zc_272 {a0 : Nat} {x1 : Int32} {x2 : Int32} : zcall zP sv (d + 1) 272 [.ref a0, .int x1, .int x2] h = zrun zP sv (zcall zP sv d) 272 0 [.val (.ref a0), .val (.int x1), .val (.int x2), .unset] [] h := zcall_s (n := 4) rfl rfl (Nat.le_of_ble_eq_true rfl)
theorem zc_273 {a0 : Nat} {x1 : Int32} : zcall zP sv (d + 1) 273 [.ref a0, .int x1] h = zrun zP sv (zcall zP sv d) 273 0 [.val (.ref a0), .val (.int x1)] [] h := zcall_s (n := 2) rfl rfl (Nat.le_of_ble_eq_true rfl)
theorem zc_274 {a0 : Nat} {x1 : Int32} : zcall zP sv (d + 1) 274 [.ref a0, .int x1] h = zrun zP sv (zcall zP sv d) 274 0 [.val (.ref a0), .val (.int x1)] [] h := zcall_s (n := 2) rfl rfl (Nat.le_of_ble_eq_true rfl)
theorem zc_275 {a0 : Nat} {x1 : Int32} : zcall zP sv (d + 1) 275 [.ref a0, .int x1] h = zrun zP sv (zcall zP sv d) 275 0 [.val (.ref a0), .val (.int x1)] [] h := zcall_s (n := 2) rfl rfl (Nat.le_of_ble_eq_true rfl)
theorem zc_276 {a0 : Nat} {x1 : Int32} : zcall zP sv (d + 1) 276 [.ref a0, .int x1] h = zrun zP sv (zcall zP sv d) 276 0 [.val (.ref a0), .val (.int x1), .unset] [] h := zcall_s (n := 3) rfl rfl (Nat.le_of_ble_eq_true rfl)
theorem zc_277 {a0 : Nat} {x1 : Int32} {x2 : Int32} : zcall zP sv (d + 1) 277 [.ref a0, .int x1, .int x2] h = zrun zP sv (zcall zP sv d) 277 0 [.val (.ref a0), .val (.int x1), .val (.int x2), .unset] [] h := zcall_s (n := 4) rfl rfl (Nat.le_of_ble_eq_true rfl)
theorem zc_278 {a0 : Nat} {x1 : Int32} {x2 : Int32} : zcall zP sv (d + 1) 278 [.ref a0, .int x1, .int x2] h = zrun zP sv (zcall zP sv d) 278 0 [.val (.ref a0), .val (.int x1), .val (.int x2)] [] h := zcall_s (n := 3) rfl rfl (Nat.le_of_ble_eq_true rfl)
theorem zc_279 {a0 : Nat} {x1 : Int32} {x2 : Int32} : zcall zP sv (d + 1) 279 [.ref a0, .int x1, .int x2] h = zrun zP sv (zcall zP sv d) 279 0 [.val (.ref a0), .val (.int x1), .val (.int x2)] [] h := zcall_s (n := 3) rfl rfl (Nat.le_of_ble_eq_true rfl)
theorem zc_280 {a0 : Nat} {x1 : Int32} : zcall zP sv (d + 1) 280 [.ref a0, .int x1] h = zrun zP sv (zcall zP sv d) 280 0 [.val (.ref a0), .val (.int x1)] [] h := zcall_s (n := 2) rfl rfl (Nat.le_of_ble_eq_true rfl)
theorem zc_281 {a0 : Nat} {x1 : Int64} : zcall zP sv (d + 1) 281 [.ref a0, .long x1] h = zrun zP sv (zcall zP sv d) 281 0 [.val (.ref a0), .val (.long x1), .second] [] h := zcall_s (n := 3) rfl rfl (Nat.le_of_ble_eq_true rfl)
theorem zc_282 {a0 : Nat} {x1 : Int32} : zcall zP sv (d + 1) 282 [.ref a0, .int x1] h = zrun zP sv (zcall zP sv d) 282 0 [.val (.ref a0), .val (.int x1)] [] h := zcall_s (n := 2) rfl rfl (Nat.le_of_ble_eq_true rfl)
theorem zc_283 {a0 : Nat} {x1 : Int32} : zcall zP sv (d + 1) 283 [.ref a0, .int x1] h = zrun zP sv (zcall zP sv d) 283 0 [.val (.ref a0), .val (.int x1)] [] h := zcall_s (n := 2) rfl rfl (Nat.le_of_ble_eq_true rfl)
theorem zc_284 {a0 : Nat} {x1 : Int32} {x2 : Int32} : zcall zP sv (d + 1) 284 [.ref a0, .int x1, .int x2] h = zrun zP sv (zcall zP sv d) 284 0 [.val (.ref a0), .val (.int x1), .val (.int x2), .unset] [] h := zcall_s (n := 4) rfl rfl (Nat.le_of_ble_eq_true rfl)
theorem zc_285 {a0 : Nat} {x1 : Int32} {x2 : Int32} : zcall zP sv (d + 1) 285 [.ref a0, .int x1, .int x2] h = zrun zP sv (zcall zP sv d) 285 0 [.val (.ref a0), .val (.int x1), .val (.int x2), .unset, .unset, .unset] [] h := zcall_s (n := 6) rfl rfl (Nat.le_of_ble_eq_true rfl)
theorem zc_286 {a0 : Nat} {x1 : Int32} : zcall zP sv (d + 1) 286 [.ref a0, .int x1] h = zrun zP sv (zcall zP sv d) 286 0 [.val (.ref a0), .val (.int x1), .unset] [] h := zcall_s (n := 3) rfl rfl (Nat.le_of_ble_eq_true rfl)
theorem zc_287 {a0 : Nat} {x1 : Int32} : zcall zP sv (d + 1) 287 [.ref a0, .int x1] h = zrun zP sv (zcall zP sv d) 287 0 [.val (.ref a0), .val (.int x1)] [] h := zcall_s (n := 2) rfl rfl (Nat.le_of_ble_eq_true rfl)
theorem zc_288 {a0 : Nat} {x1 : Int32} : zcall zP sv (d + 1) 288 [.ref a0, .int x1] h = zrun zP sv (zcall zP sv d) 288 0 [.val (.ref a0), .val (.int x1)] [] h := zcall_s (n := 2) rfl rfl (Nat.le_of_ble_eq_true rfl)
theorem zc_289 {a0 : Nat} {x1 : Int32} : zcall zP sv (d + 1) 289 [.ref a0, .int x1] h = zrun zP sv (zcall zP sv d) 289 0 [.val (.ref a0), .val (.int x1), .unset, .unset, .unset, .unset] [] h := zcall_s (n := 6) rfl rfl (Nat.le_of_ble_eq_true rfl)
theorem zc_290 {a0 : Nat} : zcall zP sv (d + 1) 290 [.ref a0] h = zrun zP sv (zcall zP sv d) 290 0 [.val (.ref a0)] [] h := zcall_s (n := 1) rfl rfl (Nat.le_of_ble_eq_true rfl)
theorem zc_291 {a0 : Nat} : zcall zP sv (d + 1) 291 [.ref a0] h = zrun zP sv (zcall zP sv d) 291 0 [.val (.ref a0), .unset, .unset] [] h := zcall_s (n := 3) rfl rfl (Nat.le_of_ble_eq_true rfl)
theorem zc_292 {a0 : Nat} {x1 : Int32} : zcall zP sv (d + 1) 292 [.ref a0, .int x1] h = zrun zP sv (zcall zP sv d) 292 0 [.val (.ref a0), .val (.int x1)] [] h := zcall_s (n := 2) rfl rfl (Nat.le_of_ble_eq_true rfl)
theorem zc_293 {a0 : Nat} : zcall zP sv (d + 1) 293 [.ref a0] h = zrun zP sv (zcall zP sv d) 293 0 [.val (.ref a0)] [] h := zcall_s (n := 1) rfl rfl (Nat.le_of_ble_eq_true rfl)
theorem zc_294 {a0 : Nat} : zcall zP sv (d + 1) 294 [.ref a0] h = zrun zP sv (zcall zP sv d) 294 0 [.val (.ref a0)] [] h := zcall_s (n := 1) rfl rfl (Nat.le_of_ble_eq_true rfl)
theorem zc_295 {a0 : Nat} : zcall zP sv (d + 1) 295 [.ref a0] h = zrun zP sv (zcall zP sv d) 295 0 [.val (.ref a0)] [] h := zcall_s (n := 1) rfl rfl (Nat.le_of_ble_eq_true rfl)
theorem zc_296 {a0 : Nat} : zcall zP sv (d + 1) 296 [.ref a0] h = zrun zP sv (zcall zP sv d) 296 0 [.val (.ref a0), .unset] [] h := zcall_s (n := 2) rfl rfl (Nat.le_of_ble_eq_true rfl)
theorem zc_297 {a0 : Nat} : zcall zP sv (d + 1) 297 [.ref a0] h = zrun zP sv (zcall zP sv d) 297 0 [.val (.ref a0), .unset] [] h := zcall_s (n := 2) rfl rfl (Nat.le_of_ble_eq_true rfl)
theorem zc_298 {a0 : Nat} : zcall zP sv (d + 1) 298 [.ref a0] h = zrun zP sv (zcall zP sv d) 298 0 [.val (.ref a0), .unset] [] h := zcall_s (n := 2) rfl rfl (Nat.le_of_ble_eq_true rfl)
theorem zc_300 {a0 : Nat} {x1 : Int32} {a2 : Nat} : zcall zP sv (d + 1) 300 [.ref a0, .int x1, .ref a2] h = zrun zP sv (zcall zP sv d) 300 0 [.val (.ref a0), .val (.int x1), .val (.ref a2), .unset] [] h := zcall_s (n := 4) rfl rfl (Nat.le_of_ble_eq_true rfl)
theorem zc_301 {a0 : Nat} {a1 : Nat} : zcall zP sv (d + 1) 301 [.ref a0, .ref a1] h = zrun zP sv (zcall zP sv d) 301 0 [.val (.ref a0), .val (.ref a1), .unset] [] h := zcall_s (n := 3) rfl rfl (Nat.le_of_ble_eq_true rfl)
theorem zc_302 {a0 : Nat} {x1 : Int32} {a2 : Nat} : zcall zP sv (d + 1) 302 [.ref a0, .int x1, .ref a2] h = zrun zP sv (zcall zP sv d) 302 0 [.val (.ref a0), .val (.int x1), .val (.ref a2), .unset] [] h := zcall_s (n := 4) rfl rfl (Nat.le_of_ble_eq_true rfl)
theorem zc_303 {a0 : Nat} {x1 : Int32} {a2 : Nat} : zcall zP sv (d + 1) 303 [.ref a0, .int x1, .ref a2] h = zrun zP sv (zcall zP sv d) 303 0 [.val (.ref a0), .val (.int x1), .val (.ref a2), .unset] [] h := zcall_s (n := 4) rfl rfl (Nat.le_of_ble_eq_true rfl)
theorem zc_304 {a0 : Nat} {x1 : Int32} {x2 : Int32} {a3 : Nat} : zcall zP sv (d + 1) 304 [.ref a0, .int x1, .int x2, .ref a3] h = zrun zP sv (zcall zP sv d) 304 0 [.val (.ref a0), .val (.int x1), .val (.int x2), .val (.ref a3), .unset] [] h := zcall_s (n := 5) rfl rfl (Nat.le_of_ble_eq_true rfl)
theorem zc_305 {a0 : Nat} {x1 : Int32} {x2 : Int32} {x3 : Int32} {a4 : Nat} : zcall zP sv (d + 1) 305 [.ref a0, .int x1, .int x2, .int x3, .ref a4] h = zrun zP sv (zcall zP sv d) 305 0 [.val (.ref a0), .val (.int x1), .val (.int x2), .val (.int x3), .val (.ref a4), .unset] [] h := zcall_s (n := 6) rfl rfl (Nat.le_of_ble_eq_true rfl)
theorem zc_306 {a0 : Nat} {x1 : Int32} {x2 : Int32} {a3 : Nat} : zcall zP sv (d + 1) 306 [.ref a0, .int x1, .int x2, .ref a3] h = zrun zP sv (zcall zP sv d) 306 0 [.val (.ref a0), .val (.int x1), .val (.int x2), .val (.ref a3), .unset] [] h := zcall_s (n := 5) rfl rfl (Nat.le_of_ble_eq_true rfl)
theorem zc_307 {a0 : Nat} {x1 : Int32} {a2 : Nat} : zcall zP sv (d + 1) 307 [.ref a0, .int x1, .ref a2] h = zrun zP sv (zcall zP sv d) 307 0 [.val (.ref a0), .val (.int x1), .val (.ref a2), .unset] [] h := zcall_s (n := 4) rfl rfl (Nat.le_of_ble_eq_true rfl)
theorem zc_308 {a0 : Nat} {x1 : Int32} {a2 : Nat} : zcall zP sv (d + 1) 308 [.ref a0, .int x1, .ref a2] h = zrun zP sv (zcall zP sv d) 308 0 [.val (.ref a0), .val (.int x1), .val (.ref a2), .unset] [] h := zcall_s (n := 4) rfl rfl (Nat.le_of_ble_eq_true rfl)
theorem zc_309 {a0 : Nat} {x1 : Int32} {a2 : Nat} : zcall zP sv (d + 1) 309 [.ref a0, .int x1, .ref a2] h = zrun zP sv (zcall zP sv d) 309 0 [.val (.ref a0), .val (.int x1), .val (.ref a2), .unset] [] h := zcall_s (n := 4) rfl rfl (Nat.le_of_ble_eq_true rfl)
theorem zc_310 {a0 : Nat} {x1 : Int32} {a2 : Nat} : zcall zP sv (d + 1) 310 [.ref a0, .int x1, .ref a2] h = zrun zP sv (zcall zP sv d) 310 0 [.val (.ref a0), .val (.int x1), .val (.ref a2), .unset] [] h := zcall_s (n := 4) rfl rfl (Nat.le_of_ble_eq_true rfl)
theorem zc_311 {a0 : Nat} {x1 : Int32} {x2 : Int32} {a3 : Nat} : zcall zP sv (d + 1) 311 [.ref a0, .int x1, .int x2, .ref a3] h = zrun zP sv (zcall zP sv d) 311 0 [.val (.ref a0), .val (.int x1), .val (.int x2), .val (.ref a3), .unset] [] h := zcall_s (n := 5) rfl rfl (Nat.le_of_ble_eq_true rfl)
theorem zc_312 {a0 : Nat} {x1 : Int32} {a2 : Nat} : zcall zP sv (d + 1) 312 [.ref a0, .int x1, .ref a2] h = zrun zP sv (zcall zP sv d) 312 0 [.val (.ref a0), .val (.int x1), .val (.ref a2), .unset] [] h := zcall_s (n := 4) rfl rfl (Nat.le_of_ble_eq_true rfl)
theorem zc_313 {a0 : Nat} {x1 : Int32} {a2 : Nat} : zcall zP sv (d + 1) 313 [.ref a0, .int x1, .ref a2] h = zrun zP sv (zcall zP sv d) 313 0 [.val (.ref a0), .val (.int x1), .val (.ref a2), .unset] [] h := zcall_s (n := 4) rfl rfl (Nat.le_of_ble_eq_true rfl)
theorem zc_314 {a0 : Nat} {x1 : Int32} {x2 : Int32} {a3 : Nat} : zcall zP sv (d + 1) 314 [.ref a0, .int x1, .int x2, .ref a3] h = zrun zP sv (zcall zP sv d) 314 0 [.val (.ref a0), .val (.int x1), .val (.int x2), .val (.ref a3), .unset] [] h := zcall_s (n := 5) rfl rfl (Nat.le_of_ble_eq_true rfl)
theorem zc_315 {a0 : Nat} {x1 : Int32} {a2 : Nat} : zcall zP sv (d + 1) 315 [.ref a0, .int x1, .ref a2] h = zrun zP sv (zcall zP sv d) 315 0 [.val (.ref a0), .val (.int x1), .val (.ref a2), .unset] [] h := zcall_s (n := 4) rfl rfl (Nat.le_of_ble_eq_true rfl)
theorem zc_316 {a0 : Nat} {x1 : Int32} {a2 : Nat} : zcall zP sv (d + 1) 316 [.ref a0, .int x1, .ref a2] h = zrun zP sv (zcall zP sv d) 316 0 [.val (.ref a0), .val (.int x1), .val (.ref a2), .unset] [] h := zcall_s (n := 4) rfl rfl (Nat.le_of_ble_eq_true rfl)
theorem zc_317 {a0 : Nat} {x1 : Int32} {x2 : Int32} {a3 : Nat} : zcall zP sv (d + 1) 317 [.ref a0, .int x1, .int x2, .ref a3] h = zrun zP sv (zcall zP sv d) 317 0 [.val (.ref a0), .val (.int x1), .val (.int x2), .val (.ref a3), .unset] [] h := zcall_s (n := 5) rfl rfl (Nat.le_of_ble_eq_true rfl)
theorem zc_318 {a0 : Nat} {x1 : Int32} {a2 : Nat} : zcall zP sv (d + 1) 318 [.ref a0, .int x1, .ref a2] h = zrun zP sv (zcall zP sv d) 318 0 [.val (.ref a0), .val (.int x1), .val (.ref a2), .unset] [] h := zcall_s (n := 4) rfl rfl (Nat.le_of_ble_eq_true rfl)
theorem zc_319 {a0 : Nat} {x1 : Int32} {a2 : Nat} : zcall zP sv (d + 1) 319 [.ref a0, .int x1, .ref a2] h = zrun zP sv (zcall zP sv d) 319 0 [.val (.ref a0), .val (.int x1), .val (.ref a2), .unset] [] h := zcall_s (n := 4) rfl rfl (Nat.le_of_ble_eq_true rfl)
theorem zc_320 {a0 : Nat} {x1 : Int32} {x2 : Int32} {a3 : Nat} : zcall zP sv (d + 1) 320 [.ref a0, .int x1, .int x2, .ref a3] h = zrun zP sv (zcall zP sv d) 320 0 [.val (.ref a0), .val (.int x1), .val (.int x2), .val (.ref a3), .unset] [] h := zcall_s (n := 5) rfl rfl (Nat.le_of_ble_eq_true rfl)
theorem zc_321 {a0 : Nat} {x1 : Int32} {x2 : Int32} {a3 : Nat} : zcall zP sv (d + 1) 321 [.ref a0, .int x1, .int x2, .ref a3] h = zrun zP sv (zcall zP sv d) 321 0 [.val (.ref a0), .val (.int x1), .val (.int x2), .val (.ref a3), .unset] [] h := zcall_s (n := 5) rfl rfl (Nat.le_of_ble_eq_true rfl)
theorem zc_322 {a0 : Nat} {x1 : Int32} {a2 : Nat} : zcall zP sv (d + 1) 322 [.ref a0, .int x1, .ref a2] h = zrun zP sv (zcall zP sv d) 322 0 [.val (.ref a0), .val (.int x1), .val (.ref a2), .unset] [] h := zcall_s (n := 4) rfl rfl (Nat.le_of_ble_eq_true rfl)
theorem zc_323 {a0 : Nat} {x1 : Int32} {a2 : Nat} : zcall zP sv (d + 1) 323 [.ref a0, .int x1, .ref a2] h = zrun zP sv (zcall zP sv d) 323 0 [.val (.ref a0), .val (.int x1), .val (.ref a2), .unset] [] h := zcall_s (n := 4) rfl rfl (Nat.le_of_ble_eq_true rfl)
theorem zc_324 {a0 : Nat} {x1 : Int32} {a2 : Nat} : zcall zP sv (d + 1) 324 [.ref a0, .int x1, .ref a2] h = zrun zP sv (zcall zP sv d) 324 0 [.val (.ref a0), .val (.int x1), .val (.ref a2), .unset] [] h := zcall_s (n := 4) rfl rfl (Nat.le_of_ble_eq_true rfl)
theorem zc_325 {a0 : Nat} {x1 : Int32} {a2 : Nat} : zcall zP sv (d + 1) 325 [.ref a0, .int x1, .ref a2] h = zrun zP sv (zcall zP sv d) 325 0 [.val (.ref a0), .val (.int x1), .val (.ref a2), .unset] [] h := zcall_s (n := 4) rfl rfl (Nat.le_of_ble_eq_true rfl)
theorem zc_326 {a0 : Nat} {x1 : Int32} {a2 : Nat} : zcall zP sv (d + 1) 326 [.ref a0, .int x1, .ref a2] h = zrun zP sv (zcall zP sv d) 326 0 [.val (.ref a0), .val (.int x1), .val (.ref a2), .unset] [] h := zcall_s (n := 4) rfl rfl (Nat.le_of_ble_eq_true rfl)
theorem zc_327 {a0 : Nat} {x1 : Int32} {a2 : Nat} : zcall zP sv (d + 1) 327 [.ref a0, .int x1, .ref a2] h = zrun zP sv (zcall zP sv d) 327 0 [.val (.ref a0), .val (.int x1), .val (.ref a2), .unset] [] h := zcall_s (n := 4) rfl rfl (Nat.le_of_ble_eq_true rfl)
theorem zc_328 {a0 : Nat} {x1 : Int32} {x2 : Int32} {a3 : Nat} : zcall zP sv (d + 1) 328 [.ref a0, .int x1, .int x2, .ref a3] h = zrun zP sv (zcall zP sv d) 328 0 [.val (.ref a0), .val (.int x1), .val (.int x2), .val (.ref a3), .unset] [] h := zcall_s (n := 5) rfl rfl (Nat.le_of_ble_eq_true rfl)
theorem zc_329 {a0 : Nat} {x1 : Int32} {x2 : Int32} {a3 : Nat} : zcall zP sv (d + 1) 329 [.ref a0, .int x1, .int x2, .ref a3] h = zrun zP sv (zcall zP sv d) 329 0 [.val (.ref a0), .val (.int x1), .val (.int x2), .val (.ref a3), .unset] [] h := zcall_s (n := 5) rfl rfl (Nat.le_of_ble_eq_true rfl)
theorem zc_330 {a0 : Nat} {x1 : Int32} {x2 : Int32} {a3 : Nat} : zcall zP sv (d + 1) 330 [.ref a0, .int x1, .int x2, .ref a3] h = zrun zP sv (zcall zP sv d) 330 0 [.val (.ref a0), .val (.int x1), .val (.int x2), .val (.ref a3), .unset] [] h := zcall_s (n := 5) rfl rfl (Nat.le_of_ble_eq_true rfl)
theorem zc_331 {a0 : Nat} {x1 : Int32} {a2 : Nat} : zcall zP sv (d + 1) 331 [.ref a0, .int x1, .ref a2] h = zrun zP sv (zcall zP sv d) 331 0 [.val (.ref a0), .val (.int x1), .val (.ref a2), .unset] [] h := zcall_s (n := 4) rfl rfl (Nat.le_of_ble_eq_true rfl)
theorem zc_332 {a0 : Nat} {x1 : Int32} {a2 : Nat} : zcall zP sv (d + 1) 332 [.ref a0, .int x1, .ref a2] h = zrun zP sv (zcall zP sv d) 332 0 [.val (.ref a0), .val (.int x1), .val (.ref a2), .unset] [] h := zcall_s (n := 4) rfl rfl (Nat.le_of_ble_eq_true rfl)
theorem zc_333 {a0 : Nat} {x1 : Int32} {a2 : Nat} : zcall zP sv (d + 1) 333 [.ref a0, .int x1, .ref a2] h = zrun zP sv (zcall zP sv d) 333 0 [.val (.ref a0), .val (.int x1), .val (.ref a2), .unset] [] h := zcall_s (n := 4) rfl rfl (Nat.le_of_ble_eq_true rfl)
theorem zc_334 {a0 : Nat} {a1 : Nat} : zcall zP sv (d + 1) 334 [.ref a0, .ref a1] h = zrun zP sv (zcall zP sv d) 334 0 [.val (.ref a0), .val (.ref a1), .unset] [] h := zcall_s (n := 3) rfl rfl (Nat.le_of_ble_eq_true rfl)
theorem zc_335 {a0 : Nat} {x1 : Int32} {a2 : Nat} : zcall zP sv (d + 1) 335 [.ref a0, .int x1, .ref a2] h = zrun zP sv (zcall zP sv d) 335 0 [.val (.ref a0), .val (.int x1), .val (.ref a2), .unset] [] h := zcall_s (n := 4) rfl rfl (Nat.le_of_ble_eq_true rfl)
theorem zc_336 {a0 : Nat} {a1 : Nat} : zcall zP sv (d + 1) 336 [.ref a0, .ref a1] h = zrun zP sv (zcall zP sv d) 336 0 [.val (.ref a0), .val (.ref a1), .unset] [] h := zcall_s (n := 3) rfl rfl (Nat.le_of_ble_eq_true rfl)
theorem zc_337 {a0 : Nat} {a1 : Nat} : zcall zP sv (d + 1) 337 [.ref a0, .ref a1] h = zrun zP sv (zcall zP sv d) 337 0 [.val (.ref a0), .val (.ref a1), .unset] [] h := zcall_s (n := 3) rfl rfl (Nat.le_of_ble_eq_true rfl)
theorem zc_338 {a0 : Nat} {a1 : Nat} : zcall zP sv (d + 1) 338 [.ref a0, .ref a1] h = zrun zP sv (zcall zP sv d) 338 0 [.val (.ref a0), .val (.ref a1), .unset] [] h := zcall_s (n := 3) rfl rfl (Nat.le_of_ble_eq_true rfl)
theorem zr0_0 {S : Nat} : (zext h (zC0 h.2.1) S).1 h.2.1 = (1, [.ref (h.2.1 + 1), .int (-1), .ref (h.2.1 + 3), .ref (h.2.1 + 7), .int 0, .ref (h.2.1 + 11), .ref (h.2.1 + 45), .ref (h.2.1 + 54), .ref (h.2.1 + 63), .ref (h.2.1 + 75), .ref (h.2.1 + 78), .ref (h.2.1 + 85), .ref (h.2.1 + 97)]) := zext_1 (k := 0) rfl
theorem zr0_1 {S : Nat} : (zext h (zC0 h.2.1) S).1 (h.2.1 + 1) = (2, [.ref (h.2.1 + 2), .int 0, .int 0, .int 0]) := zext_1 (k := 1) rfl
theorem zr0_2 {S : Nat} : (zext h (zC0 h.2.1) S).1 (h.2.1 + 2) = (24, List.replicate 16 (.int 0)) := zext_1 (k := 2) rfl
theorem zr0_3 {S : Nat} : (zext h (zC0 h.2.1) S).1 (h.2.1 + 3) = (3, [.ref (h.2.1 + 4), .int 0, .ref (h.2.1 + 5), .int (nI 2), .int 0]) := zext_1 (k := 3) rfl
theorem zr0_4 {S : Nat} : (zext h (zC0 h.2.1) S).1 (h.2.1 + 4) = (25, List.replicate 6 .null) := zext_1 (k := 4) rfl
theorem zr0_5 {S : Nat} : (zext h (zC0 h.2.1) S).1 (h.2.1 + 5) = (4, [.ref (h.2.1 + 6)]) := zext_1 (k := 5) rfl
theorem zr0_6 {S : Nat} : (zext h (zC0 h.2.1) S).1 (h.2.1 + 6) = (20, List.replicate 6 (.int 0)) := zext_1 (k := 6) rfl
theorem zr0_7 {S : Nat} : (zext h (zC0 h.2.1) S).1 (h.2.1 + 7) = (3, [.ref (h.2.1 + 8), .int 0, .ref (h.2.1 + 9), .int (nI 2), .int 0]) := zext_1 (k := 7) rfl
theorem zr0_8 {S : Nat} : (zext h (zC0 h.2.1) S).1 (h.2.1 + 8) = (25, List.replicate 6 .null) := zext_1 (k := 8) rfl
theorem zr0_9 {S : Nat} : (zext h (zC0 h.2.1) S).1 (h.2.1 + 9) = (4, [.ref (h.2.1 + 10)]) := zext_1 (k := 9) rfl
theorem zr0_10 {S : Nat} : (zext h (zC0 h.2.1) S).1 (h.2.1 + 10) = (20, List.replicate 6 (.int 0)) := zext_1 (k := 10) rfl
theorem zr0_11 {S : Nat} : (zext h (zC0 h.2.1) S).1 (h.2.1 + 11) = (5, [.ref (h.2.1 + 12), .int 0, .int 0]) := zext_1 (k := 11) rfl
theorem zr0_12 {S : Nat} : (zext h (zC0 h.2.1) S).1 (h.2.1 + 12) = (26, [.ref (h.2.1 + 13), .ref (h.2.1 + 17), .ref (h.2.1 + 21), .ref (h.2.1 + 25), .ref (h.2.1 + 29), .ref (h.2.1 + 33), .ref (h.2.1 + 37), .ref (h.2.1 + 41)]) := zext_1 (k := 12) rfl
theorem zr0_13 {S : Nat} : (zext h (zC0 h.2.1) S).1 (h.2.1 + 13) = (3, [.ref (h.2.1 + 14), .int 0, .ref (h.2.1 + 15), .int (nI 2), .int 0]) := zext_1 (k := 13) rfl
theorem zr0_14 {S : Nat} : (zext h (zC0 h.2.1) S).1 (h.2.1 + 14) = (25, List.replicate 6 .null) := zext_1 (k := 14) rfl
theorem zr0_15 {S : Nat} : (zext h (zC0 h.2.1) S).1 (h.2.1 + 15) = (4, [.ref (h.2.1 + 16)]) := zext_1 (k := 15) rfl
theorem zr0_16 {S : Nat} : (zext h (zC0 h.2.1) S).1 (h.2.1 + 16) = (20, List.replicate 6 (.int 0)) := zext_1 (k := 16) rfl
theorem zr0_17 {S : Nat} : (zext h (zC0 h.2.1) S).1 (h.2.1 + 17) = (3, [.ref (h.2.1 + 18), .int 0, .ref (h.2.1 + 19), .int (nI 2), .int 0]) := zext_1 (k := 17) rfl
theorem zr0_18 {S : Nat} : (zext h (zC0 h.2.1) S).1 (h.2.1 + 18) = (25, List.replicate 6 .null) := zext_1 (k := 18) rfl
theorem zr0_19 {S : Nat} : (zext h (zC0 h.2.1) S).1 (h.2.1 + 19) = (4, [.ref (h.2.1 + 20)]) := zext_1 (k := 19) rfl
theorem zr0_20 {S : Nat} : (zext h (zC0 h.2.1) S).1 (h.2.1 + 20) = (20, List.replicate 6 (.int 0)) := zext_1 (k := 20) rfl
theorem zr0_21 {S : Nat} : (zext h (zC0 h.2.1) S).1 (h.2.1 + 21) = (3, [.ref (h.2.1 + 22), .int 0, .ref (h.2.1 + 23), .int (nI 2), .int 0]) := zext_1 (k := 21) rfl
theorem zr0_22 {S : Nat} : (zext h (zC0 h.2.1) S).1 (h.2.1 + 22) = (25, List.replicate 6 .null) := zext_1 (k := 22) rfl
theorem zr0_23 {S : Nat} : (zext h (zC0 h.2.1) S).1 (h.2.1 + 23) = (4, [.ref (h.2.1 + 24)]) := zext_1 (k := 23) rfl
theorem zr0_24 {S : Nat} : (zext h (zC0 h.2.1) S).1 (h.2.1 + 24) = (20, List.replicate 6 (.int 0)) := zext_1 (k := 24) rfl
theorem zr0_25 {S : Nat} : (zext h (zC0 h.2.1) S).1 (h.2.1 + 25) = (3, [.ref (h.2.1 + 26), .int 0, .ref (h.2.1 + 27), .int (nI 2), .int 0]) := zext_1 (k := 25) rfl
theorem zr0_26 {S : Nat} : (zext h (zC0 h.2.1) S).1 (h.2.1 + 26) = (25, List.replicate 6 .null) := zext_1 (k := 26) rfl
theorem zr0_27 {S : Nat} : (zext h (zC0 h.2.1) S).1 (h.2.1 + 27) = (4, [.ref (h.2.1 + 28)]) := zext_1 (k := 27) rfl
theorem zr0_28 {S : Nat} : (zext h (zC0 h.2.1) S).1 (h.2.1 + 28) = (20, List.replicate 6 (.int 0)) := zext_1 (k := 28) rfl
theorem zr0_29 {S : Nat} : (zext h (zC0 h.2.1) S).1 (h.2.1 + 29) = (3, [.ref (h.2.1 + 30), .int 0, .ref (h.2.1 + 31), .int (nI 2), .int 0]) := zext_1 (k := 29) rfl
theorem zr0_30 {S : Nat} : (zext h (zC0 h.2.1) S).1 (h.2.1 + 30) = (25, List.replicate 6 .null) := zext_1 (k := 30) rfl
theorem zr0_31 {S : Nat} : (zext h (zC0 h.2.1) S).1 (h.2.1 + 31) = (4, [.ref (h.2.1 + 32)]) := zext_1 (k := 31) rfl
theorem zr0_32 {S : Nat} : (zext h (zC0 h.2.1) S).1 (h.2.1 + 32) = (20, List.replicate 6 (.int 0)) := zext_1 (k := 32) rfl
theorem zr0_33 {S : Nat} : (zext h (zC0 h.2.1) S).1 (h.2.1 + 33) = (3, [.ref (h.2.1 + 34), .int 0, .ref (h.2.1 + 35), .int (nI 2), .int 0]) := zext_1 (k := 33) rfl
theorem zr0_34 {S : Nat} : (zext h (zC0 h.2.1) S).1 (h.2.1 + 34) = (25, List.replicate 6 .null) := zext_1 (k := 34) rfl
theorem zr0_35 {S : Nat} : (zext h (zC0 h.2.1) S).1 (h.2.1 + 35) = (4, [.ref (h.2.1 + 36)]) := zext_1 (k := 35) rfl
theorem zr0_36 {S : Nat} : (zext h (zC0 h.2.1) S).1 (h.2.1 + 36) = (20, List.replicate 6 (.int 0)) := zext_1 (k := 36) rfl
theorem zr0_37 {S : Nat} : (zext h (zC0 h.2.1) S).1 (h.2.1 + 37) = (3, [.ref (h.2.1 + 38), .int 0, .ref (h.2.1 + 39), .int (nI 2), .int 0]) := zext_1 (k := 37) rfl
theorem zr0_38 {S : Nat} : (zext h (zC0 h.2.1) S).1 (h.2.1 + 38) = (25, List.replicate 6 .null) := zext_1 (k := 38) rfl
theorem zr0_39 {S : Nat} : (zext h (zC0 h.2.1) S).1 (h.2.1 + 39) = (4, [.ref (h.2.1 + 40)]) := zext_1 (k := 39) rfl
theorem zr0_40 {S : Nat} : (zext h (zC0 h.2.1) S).1 (h.2.1 + 40) = (20, List.replicate 6 (.int 0)) := zext_1 (k := 40) rfl
theorem zr0_41 {S : Nat} : (zext h (zC0 h.2.1) S).1 (h.2.1 + 41) = (3, [.ref (h.2.1 + 42), .int 0, .ref (h.2.1 + 43), .int (nI 2), .int 0]) := zext_1 (k := 41) rfl
theorem zr0_42 {S : Nat} : (zext h (zC0 h.2.1) S).1 (h.2.1 + 42) = (25, List.replicate 6 .null) := zext_1 (k := 42) rfl
theorem zr0_43 {S : Nat} : (zext h (zC0 h.2.1) S).1 (h.2.1 + 43) = (4, [.ref (h.2.1 + 44)]) := zext_1 (k := 43) rfl
theorem zr0_44 {S : Nat} : (zext h (zC0 h.2.1) S).1 (h.2.1 + 44) = (20, List.replicate 6 (.int 0)) := zext_1 (k := 44) rfl
theorem zr0_45 {S : Nat} : (zext h (zC0 h.2.1) S).1 (h.2.1 + 45) = (6, [.ref (h.2.1 + 46), .ref (h.2.1 + 48), .ref (h.2.1 + 50), .ref (h.2.1 + 52), .int (nI 124), .int 0]) := zext_1 (k := 45) rfl
theorem zr0_46 {S : Nat} : (zext h (zC0 h.2.1) S).1 (h.2.1 + 46) = (4, [.ref (h.2.1 + 47)]) := zext_1 (k := 46) rfl
theorem zr0_47 {S : Nat} : (zext h (zC0 h.2.1) S).1 (h.2.1 + 47) = (20, List.replicate 124 (.int 0)) := zext_1 (k := 47) rfl
theorem zr0_48 {S : Nat} : (zext h (zC0 h.2.1) S).1 (h.2.1 + 48) = (4, [.ref (h.2.1 + 49)]) := zext_1 (k := 48) rfl
theorem zr0_49 {S : Nat} : (zext h (zC0 h.2.1) S).1 (h.2.1 + 49) = (20, List.replicate 124 (.int 0)) := zext_1 (k := 49) rfl
theorem zr0_50 {S : Nat} : (zext h (zC0 h.2.1) S).1 (h.2.1 + 50) = (4, [.ref (h.2.1 + 51)]) := zext_1 (k := 50) rfl
theorem zr0_51 {S : Nat} : (zext h (zC0 h.2.1) S).1 (h.2.1 + 51) = (20, List.replicate 124 (.int 0)) := zext_1 (k := 51) rfl
theorem zr0_52 {S : Nat} : (zext h (zC0 h.2.1) S).1 (h.2.1 + 52) = (4, [.ref (h.2.1 + 53)]) := zext_1 (k := 52) rfl
theorem zr0_53 {S : Nat} : (zext h (zC0 h.2.1) S).1 (h.2.1 + 53) = (20, List.replicate 124 (.int 0)) := zext_1 (k := 53) rfl
theorem zr0_54 {S : Nat} : (zext h (zC0 h.2.1) S).1 (h.2.1 + 54) = (6, [.ref (h.2.1 + 55), .ref (h.2.1 + 57), .ref (h.2.1 + 59), .ref (h.2.1 + 61), .int (nI 124), .int 0]) := zext_1 (k := 54) rfl
theorem zr0_55 {S : Nat} : (zext h (zC0 h.2.1) S).1 (h.2.1 + 55) = (4, [.ref (h.2.1 + 56)]) := zext_1 (k := 55) rfl
theorem zr0_56 {S : Nat} : (zext h (zC0 h.2.1) S).1 (h.2.1 + 56) = (20, List.replicate 124 (.int 0)) := zext_1 (k := 56) rfl
theorem zr0_57 {S : Nat} : (zext h (zC0 h.2.1) S).1 (h.2.1 + 57) = (4, [.ref (h.2.1 + 58)]) := zext_1 (k := 57) rfl
theorem zr0_58 {S : Nat} : (zext h (zC0 h.2.1) S).1 (h.2.1 + 58) = (20, List.replicate 124 (.int 0)) := zext_1 (k := 58) rfl
theorem zr0_59 {S : Nat} : (zext h (zC0 h.2.1) S).1 (h.2.1 + 59) = (4, [.ref (h.2.1 + 60)]) := zext_1 (k := 59) rfl
theorem zr0_60 {S : Nat} : (zext h (zC0 h.2.1) S).1 (h.2.1 + 60) = (20, List.replicate 124 (.int 0)) := zext_1 (k := 60) rfl
theorem zr0_61 {S : Nat} : (zext h (zC0 h.2.1) S).1 (h.2.1 + 61) = (4, [.ref (h.2.1 + 62)]) := zext_1 (k := 61) rfl
theorem zr0_62 {S : Nat} : (zext h (zC0 h.2.1) S).1 (h.2.1 + 62) = (20, List.replicate 124 (.int 0)) := zext_1 (k := 62) rfl
theorem zr0_63 {S : Nat} : (zext h (zC0 h.2.1) S).1 (h.2.1 + 63) = (7, [.ref (h.2.1 + 64), .ref (h.2.1 + 66), .int 0]) := zext_1 (k := 63) rfl
theorem zr0_64 {S : Nat} : (zext h (zC0 h.2.1) S).1 (h.2.1 + 64) = (8, [.ref (h.2.1 + 65), .int 0]) := zext_1 (k := 64) rfl
theorem zr0_65 {S : Nat} : (zext h (zC0 h.2.1) S).1 (h.2.1 + 65) = (21, List.replicate 60 (.int 0)) := zext_1 (k := 65) rfl
theorem zr0_66 {S : Nat} : (zext h (zC0 h.2.1) S).1 (h.2.1 + 66) = (6, [.ref (h.2.1 + 67), .ref (h.2.1 + 69), .ref (h.2.1 + 71), .ref (h.2.1 + 73), .int (nI 60), .int 0]) := zext_1 (k := 66) rfl
theorem zr0_67 {S : Nat} : (zext h (zC0 h.2.1) S).1 (h.2.1 + 67) = (4, [.ref (h.2.1 + 68)]) := zext_1 (k := 67) rfl
theorem zr0_68 {S : Nat} : (zext h (zC0 h.2.1) S).1 (h.2.1 + 68) = (20, List.replicate 60 (.int 0)) := zext_1 (k := 68) rfl
theorem zr0_69 {S : Nat} : (zext h (zC0 h.2.1) S).1 (h.2.1 + 69) = (4, [.ref (h.2.1 + 70)]) := zext_1 (k := 69) rfl
theorem zr0_70 {S : Nat} : (zext h (zC0 h.2.1) S).1 (h.2.1 + 70) = (20, List.replicate 60 (.int 0)) := zext_1 (k := 70) rfl
theorem zr0_71 {S : Nat} : (zext h (zC0 h.2.1) S).1 (h.2.1 + 71) = (4, [.ref (h.2.1 + 72)]) := zext_1 (k := 71) rfl
theorem zr0_72 {S : Nat} : (zext h (zC0 h.2.1) S).1 (h.2.1 + 72) = (20, List.replicate 60 (.int 0)) := zext_1 (k := 72) rfl
theorem zr0_73 {S : Nat} : (zext h (zC0 h.2.1) S).1 (h.2.1 + 73) = (4, [.ref (h.2.1 + 74)]) := zext_1 (k := 73) rfl
theorem zr0_74 {S : Nat} : (zext h (zC0 h.2.1) S).1 (h.2.1 + 74) = (20, List.replicate 60 (.int 0)) := zext_1 (k := 74) rfl
theorem zr0_75 {S : Nat} : (zext h (zC0 h.2.1) S).1 (h.2.1 + 75) = (9, [.ref (h.2.1 + 76)]) := zext_1 (k := 75) rfl
theorem zr0_76 {S : Nat} : (zext h (zC0 h.2.1) S).1 (h.2.1 + 76) = (4, [.ref (h.2.1 + 77)]) := zext_1 (k := 76) rfl
theorem zr0_77 {S : Nat} : (zext h (zC0 h.2.1) S).1 (h.2.1 + 77) = (20, List.replicate 124 (.int 0)) := zext_1 (k := 77) rfl
theorem zr0_78 {S : Nat} : (zext h (zC0 h.2.1) S).1 (h.2.1 + 78) = (10, [.ref (h.2.1 + 79), .ref (h.2.1 + 81), .ref (h.2.1 + 83)]) := zext_1 (k := 78) rfl
theorem zr0_79 {S : Nat} : (zext h (zC0 h.2.1) S).1 (h.2.1 + 79) = (4, [.ref (h.2.1 + 80)]) := zext_1 (k := 79) rfl
theorem zr0_80 {S : Nat} : (zext h (zC0 h.2.1) S).1 (h.2.1 + 80) = (20, List.replicate 124 (.int 0)) := zext_1 (k := 80) rfl
theorem zr0_81 {S : Nat} : (zext h (zC0 h.2.1) S).1 (h.2.1 + 81) = (4, [.ref (h.2.1 + 82)]) := zext_1 (k := 81) rfl
theorem zr0_82 {S : Nat} : (zext h (zC0 h.2.1) S).1 (h.2.1 + 82) = (20, List.replicate 124 (.int 0)) := zext_1 (k := 82) rfl
theorem zr0_83 {S : Nat} : (zext h (zC0 h.2.1) S).1 (h.2.1 + 83) = (4, [.ref (h.2.1 + 84)]) := zext_1 (k := 83) rfl
theorem zr0_84 {S : Nat} : (zext h (zC0 h.2.1) S).1 (h.2.1 + 84) = (20, List.replicate 124 (.int 0)) := zext_1 (k := 84) rfl
theorem zr0_85 {S : Nat} : (zext h (zC0 h.2.1) S).1 (h.2.1 + 85) = (11, [.ref (h.2.1 + 86), .ref (h.2.1 + 95)]) := zext_1 (k := 85) rfl
theorem zr0_86 {S : Nat} : (zext h (zC0 h.2.1) S).1 (h.2.1 + 86) = (6, [.ref (h.2.1 + 87), .ref (h.2.1 + 89), .ref (h.2.1 + 91), .ref (h.2.1 + 93), .int (nI 62), .int 0]) := zext_1 (k := 86) rfl
theorem zr0_87 {S : Nat} : (zext h (zC0 h.2.1) S).1 (h.2.1 + 87) = (4, [.ref (h.2.1 + 88)]) := zext_1 (k := 87) rfl
theorem zr0_88 {S : Nat} : (zext h (zC0 h.2.1) S).1 (h.2.1 + 88) = (20, List.replicate 62 (.int 0)) := zext_1 (k := 88) rfl
theorem zr0_89 {S : Nat} : (zext h (zC0 h.2.1) S).1 (h.2.1 + 89) = (4, [.ref (h.2.1 + 90)]) := zext_1 (k := 89) rfl
theorem zr0_90 {S : Nat} : (zext h (zC0 h.2.1) S).1 (h.2.1 + 90) = (20, List.replicate 62 (.int 0)) := zext_1 (k := 90) rfl
theorem zr0_91 {S : Nat} : (zext h (zC0 h.2.1) S).1 (h.2.1 + 91) = (4, [.ref (h.2.1 + 92)]) := zext_1 (k := 91) rfl
theorem zr0_92 {S : Nat} : (zext h (zC0 h.2.1) S).1 (h.2.1 + 92) = (20, List.replicate 62 (.int 0)) := zext_1 (k := 92) rfl
theorem zr0_93 {S : Nat} : (zext h (zC0 h.2.1) S).1 (h.2.1 + 93) = (4, [.ref (h.2.1 + 94)]) := zext_1 (k := 93) rfl
theorem zr0_94 {S : Nat} : (zext h (zC0 h.2.1) S).1 (h.2.1 + 94) = (20, List.replicate 62 (.int 0)) := zext_1 (k := 94) rfl
theorem zr0_95 {S : Nat} : (zext h (zC0 h.2.1) S).1 (h.2.1 + 95) = (4, [.ref (h.2.1 + 96)]) := zext_1 (k := 95) rfl
theorem zr0_96 {S : Nat} : (zext h (zC0 h.2.1) S).1 (h.2.1 + 96) = (20, List.replicate 31 (.int 0)) := zext_1 (k := 96) rfl
theorem zr0_97 {S : Nat} : (zext h (zC0 h.2.1) S).1 (h.2.1 + 97) = (12, [.ref (h.2.1 + 105), .ref (h.2.1 + 107), .ref (h.2.1 + 109), .ref (h.2.1 + 111), .ref (h.2.1 + 113), .int 0, .ref (h.2.1 + 98), .ref (h.2.1 + 115), .ref (h.2.1 + 117), .int 0]) := zext_1 (k := 97) rfl
theorem zr0_98 {S : Nat} : (zext h (zC0 h.2.1) S).1 (h.2.1 + 98) = (10, [.ref (h.2.1 + 99), .ref (h.2.1 + 101), .ref (h.2.1 + 103)]) := zext_1 (k := 98) rfl
theorem zr0_99 {S : Nat} : (zext h (zC0 h.2.1) S).1 (h.2.1 + 99) = (4, [.ref (h.2.1 + 100)]) := zext_1 (k := 99) rfl
theorem zr0_100 {S : Nat} : (zext h (zC0 h.2.1) S).1 (h.2.1 + 100) = (20, List.replicate 124 (.int 0)) := zext_1 (k := 100) rfl
theorem zr0_101 {S : Nat} : (zext h (zC0 h.2.1) S).1 (h.2.1 + 101) = (4, [.ref (h.2.1 + 102)]) := zext_1 (k := 101) rfl
theorem zr0_102 {S : Nat} : (zext h (zC0 h.2.1) S).1 (h.2.1 + 102) = (20, List.replicate 124 (.int 0)) := zext_1 (k := 102) rfl
theorem zr0_103 {S : Nat} : (zext h (zC0 h.2.1) S).1 (h.2.1 + 103) = (4, [.ref (h.2.1 + 104)]) := zext_1 (k := 103) rfl
theorem zr0_104 {S : Nat} : (zext h (zC0 h.2.1) S).1 (h.2.1 + 104) = (20, List.replicate 124 (.int 0)) := zext_1 (k := 104) rfl
theorem zr0_105 {S : Nat} : (zext h (zC0 h.2.1) S).1 (h.2.1 + 105) = (4, [.ref (h.2.1 + 106)]) := zext_1 (k := 105) rfl
theorem zr0_106 {S : Nat} : (zext h (zC0 h.2.1) S).1 (h.2.1 + 106) = (20, List.replicate 62 (.int 0)) := zext_1 (k := 106) rfl
theorem zr0_107 {S : Nat} : (zext h (zC0 h.2.1) S).1 (h.2.1 + 107) = (4, [.ref (h.2.1 + 108)]) := zext_1 (k := 107) rfl
theorem zr0_108 {S : Nat} : (zext h (zC0 h.2.1) S).1 (h.2.1 + 108) = (20, List.replicate 62 (.int 0)) := zext_1 (k := 108) rfl
theorem zr0_109 {S : Nat} : (zext h (zC0 h.2.1) S).1 (h.2.1 + 109) = (4, [.ref (h.2.1 + 110)]) := zext_1 (k := 109) rfl
theorem zr0_110 {S : Nat} : (zext h (zC0 h.2.1) S).1 (h.2.1 + 110) = (20, List.replicate 62 (.int 0)) := zext_1 (k := 110) rfl
theorem zr0_111 {S : Nat} : (zext h (zC0 h.2.1) S).1 (h.2.1 + 111) = (4, [.ref (h.2.1 + 112)]) := zext_1 (k := 111) rfl
theorem zr0_112 {S : Nat} : (zext h (zC0 h.2.1) S).1 (h.2.1 + 112) = (20, List.replicate 62 (.int 0)) := zext_1 (k := 112) rfl
theorem zr0_113 {S : Nat} : (zext h (zC0 h.2.1) S).1 (h.2.1 + 113) = (4, [.ref (h.2.1 + 114)]) := zext_1 (k := 113) rfl
theorem zr0_114 {S : Nat} : (zext h (zC0 h.2.1) S).1 (h.2.1 + 114) = (20, List.replicate 62 (.int 0)) := zext_1 (k := 114) rfl
theorem zr0_115 {S : Nat} : (zext h (zC0 h.2.1) S).1 (h.2.1 + 115) = (4, [.ref (h.2.1 + 116)]) := zext_1 (k := 115) rfl
theorem zr0_116 {S : Nat} : (zext h (zC0 h.2.1) S).1 (h.2.1 + 116) = (20, List.replicate 7 (.int 0)) := zext_1 (k := 116) rfl
theorem zr0_117 {S : Nat} : (zext h (zC0 h.2.1) S).1 (h.2.1 + 117) = (4, [.ref (h.2.1 + 118)]) := zext_1 (k := 117) rfl
theorem zr0_118 {S : Nat} : (zext h (zC0 h.2.1) S).1 (h.2.1 + 118) = (20, List.replicate 11 (.int 0)) := zext_1 (k := 118) rfl
theorem zr0_119 {S : Nat} : (zext h (zC0 h.2.1) S).1 (h.2.1 + 119) = (13, [.ref (h.2.1 + 120), .ref (h.2.1 + 121), .ref (h.2.1 + 122), .int 0, .ref (h.2.1 + 123), .int 0, .ref (h.2.1 + 124), .ref (h.2.1 + 125), .int 0, .ref (h.2.1 + 126), .ref (h.2.1 + 127), .int 0, .ref (h.2.1 + 128), .ref (h.2.1 + 129), .ref (h.2.1 + 130), .ref (h.2.1 + 131), .ref (h.2.1 + 132), .ref (h.2.1 + 133), .ref (h.2.1 + 134), .int 0, .int 0, .int 0, .int 0, .ref (h.2.1 + 135), .int 0, .ref (h.2.1 + 136), .int 0, .int 0, .int 0, .int (-1), .int 0, .int 0]) := zext_1 (k := 119) rfl
theorem zr0_120 {S : Nat} : (zext h (zC0 h.2.1) S).1 (h.2.1 + 120) = (20, (List.replicate 387 (.int 0)).set 1 (.int (nI 2))) := zext_1 (k := 120) rfl
theorem zr0_121 {S : Nat} : (zext h (zC0 h.2.1) S).1 (h.2.1 + 121) = (20, List.replicate 387 (.int 0)) := zext_1 (k := 121) rfl
theorem zr0_122 {S : Nat} : (zext h (zC0 h.2.1) S).1 (h.2.1 + 122) = (20, List.replicate 3096 (.int 0)) := zext_1 (k := 122) rfl
theorem zr0_123 {S : Nat} : (zext h (zC0 h.2.1) S).1 (h.2.1 + 123) = (20, List.replicate 387 (.int 0)) := zext_1 (k := 123) rfl
theorem zr0_124 {S : Nat} : (zext h (zC0 h.2.1) S).1 (h.2.1 + 124) = (21, List.replicate 700 (.int 0)) := zext_1 (k := 124) rfl
theorem zr0_125 {S : Nat} : (zext h (zC0 h.2.1) S).1 (h.2.1 + 125) = (20, List.replicate 700 (.int 0)) := zext_1 (k := 125) rfl
theorem zr0_126 {S : Nat} : (zext h (zC0 h.2.1) S).1 (h.2.1 + 126) = (21, List.replicate 700 (.int 0)) := zext_1 (k := 126) rfl
theorem zr0_127 {S : Nat} : (zext h (zC0 h.2.1) S).1 (h.2.1 + 127) = (20, List.replicate 700 (.int 0)) := zext_1 (k := 127) rfl
theorem zr0_128 {S : Nat} : (zext h (zC0 h.2.1) S).1 (h.2.1 + 128) = (20, List.replicate 700 (.int 0)) := zext_1 (k := 128) rfl
theorem zr0_129 {S : Nat} : (zext h (zC0 h.2.1) S).1 (h.2.1 + 129) = (20, List.replicate 700 (.int 0)) := zext_1 (k := 129) rfl
theorem zr0_130 {S : Nat} : (zext h (zC0 h.2.1) S).1 (h.2.1 + 130) = (20, List.replicate 700 (.int 0)) := zext_1 (k := 130) rfl
theorem zr0_131 {S : Nat} : (zext h (zC0 h.2.1) S).1 (h.2.1 + 131) = (21, List.replicate 700 (.int 0)) := zext_1 (k := 131) rfl
theorem zr0_132 {S : Nat} : (zext h (zC0 h.2.1) S).1 (h.2.1 + 132) = (20, List.replicate 700 (.int 0)) := zext_1 (k := 132) rfl
theorem zr0_133 {S : Nat} : (zext h (zC0 h.2.1) S).1 (h.2.1 + 133) = (20, List.replicate 700 (.int 0)) := zext_1 (k := 133) rfl
theorem zr0_134 {S : Nat} : (zext h (zC0 h.2.1) S).1 (h.2.1 + 134) = (20, List.replicate 700 (.int 0)) := zext_1 (k := 134) rfl
theorem zr0_135 {S : Nat} : (zext h (zC0 h.2.1) S).1 (h.2.1 + 135) = (21, List.replicate 700 (.int 0)) := zext_1 (k := 135) rfl
theorem zr0_136 {S : Nat} : (zext h (zC0 h.2.1) S).1 (h.2.1 + 136) = (21, List.replicate 60 (.int 0)) := zext_1 (k := 136) rfl
theorem zr0_137 {S : Nat} : (zext h (zC0 h.2.1) S).1 (h.2.1 + 137) = (22, [.long 0]) := zext_1 (k := 137) rfl
theorem zr0_138 {S : Nat} : (zext h (zC0 h.2.1) S).1 (h.2.1 + 138) = (23, [.double 0]) := zext_1 (k := 138) rfl
set_option maxRecDepth 10000 in
theorem zr0_sz {S : Nat} : (zext h (zC0 h.2.1) S).2.1 = h.2.1 + 139 := rfl
theorem zr0_sl {S : Nat} : (zext h (zC0 h.2.1) S).2.2 = h.2.2 + S := rfl
end ZCX

theorem zty_0i {x : Int32} : zty 0 (.int x) = true := rfl
theorem zty_4r {a : Nat} : zty 4 (.ref a) = true := rfl
theorem zty_4n : zty 4 .null = true := rfl
theorem zty_50 : zty 5 (.int 0) = true := rfl
theorem zty_51 : zty 5 (.int (nI 1)) = true := rfl
section ZCA
variable {sv : Nat → Value} {d : Nat} {h : zH}
theorem c_173x {r : Nat} {w0 w2 w3 w4 : Value} {x : Int32} (hr : h.1 r = (3, [w0, .int 0, w2, w3, w4])) : zcall zP sv (d + 1) 173 [.ref r, .int x] h = some (.inl (some .null), h) := by
  by_cases h1 : x < 0
  · simp only [zc_173, zs_173_0, zs_173_1, zs_173_4, zs_173_5, zs_173_5n, zs_173_6, zs_173_9, zs_173_12, zs_173_13, zs_173_13n, zs_173_14, zs_173_17, zs_173_18, zs_173_21, zs_173_21n, zs_173_22, zs_173_25, zs_173_26, zs_173_27, zs_173_30, zs_173_31, zs_173_31n, zrc_3, zf_3_0, zp_3_0, zp_3_0n, zf_3_1, zp_3_1, zf_3_2, zp_3_2, zp_3_2n, zf_3_3, zp_3_3, zf_3_4, zp_3_4, hr, if_pos h1, zgd_t, zty_4n]
  · simp only [zc_173, zs_173_0, zs_173_1, zs_173_4, zs_173_5, zs_173_5n, zs_173_6, zs_173_9, zs_173_12, zs_173_13, zs_173_13n, zs_173_14, zs_173_17, zs_173_18, zs_173_21, zs_173_21n, zs_173_22, zs_173_25, zs_173_26, zs_173_27, zs_173_30, zs_173_31, zs_173_31n, zrc_3, zf_3_0, zp_3_0, zp_3_0n, zf_3_1, zp_3_1, zf_3_2, zp_3_2, zp_3_2n, zf_3_3, zp_3_3, zf_3_4, zp_3_4, hr, if_neg h1, zgd_t, zty_4n]
theorem c_70x {r q : Nat} {w0 w1 w3 w4 w5 w6 w7 w8 w9 wa wb wc u0 u2 u3 u4 : Value} {x : Int32} (hr : h.1 r = (1, [w0, w1, .ref q, w3, w4, w5, w6, w7, w8, w9, wa, wb, wc])) (hq : h.1 q = (3, [u0, .int 0, u2, u3, u4])) : zcall zP sv (d + 2) 70 [.ref r, .int x] h = some (.inr 2, zext h [(0, [])] 6) := by
  simp (disch := first | exact znw_u | exact hq) only [zc_70, zs_70_0, zs_70_0n, zs_70_1, zs_70_4, zs_70_5, zs_70_8, zs_70_8n, zs_70_9, zs_70_9n, zs_70_10, zs_70_10n, zs_70_13, zs_70_24, zs_70_24n, zs_70_25, zs_70_25n, zrc_1, zf_1_0, zp_1_0, zp_1_0n, zf_1_1, zp_1_1, zf_1_2, zp_1_2, zp_1_2n, zf_1_3, zp_1_3, zp_1_3n, zf_1_4, zp_1_40, zp_1_41, zf_1_5, zp_1_5, zp_1_5n, zf_1_6, zp_1_6, zp_1_6n, zf_1_7, zp_1_7, zp_1_7n, zf_1_8, zp_1_8, zp_1_8n, zf_1_9, zp_1_9, zp_1_9n, zf_1_10, zp_1_10, zp_1_10n, zf_1_11, zp_1_11, zp_1_11n, zf_1_12, zp_1_12, zp_1_12n, zrc_3, zf_3_0, zp_3_0, zp_3_0n, zf_3_1, zp_3_1, zf_3_2, zp_3_2, zp_3_2n, zf_3_3, zp_3_3, zf_3_4, zp_3_4, hr, hq, c_173x hq, zbk_v, zts_s, zgd_t, zext_of]
theorem zneg1 {x : Int32} (hx : ¬ x < 0) : 0 - nI 1 < x := by
  have e1 : ((0 : Int32) - nI 1).toInt = -1 := by decide +kernel
  rw [Int32.lt_iff_toInt_lt] at hx ⊢
  rw [e1]
  have e2 : (0 : Int32).toInt = 0 := by decide +kernel
  omega
theorem c_199x {x : Int32} : zcall zP sv (d + 1) 199 [.int x, .int 0, .int (0 - nI 1)] h = some (.inl (some (.int 0)), h) := by
  by_cases h1 : x < 0
  · simp only [zc_199, zs_199_0, zs_199_1, zs_199_2, zs_199_5, zs_199_6, zs_199_7, zs_199_10, zs_199_11, zs_199_14, zs_199_15, if_pos h1, zgd_t, zty_50]
  · simp only [zc_199, zs_199_0, zs_199_1, zs_199_2, zs_199_5, zs_199_6, zs_199_7, zs_199_10, zs_199_11, zs_199_14, zs_199_15, if_neg h1, if_pos (zneg1 h1), zgd_t, zty_50]
theorem c_203x {r q : Nat} {w1 w2 w3 w4 w5 w6 w7 w8 w9 w10 w11 w12 w13 w14 w15 w16 w17 w18 w19 w20 w21 w22 w23 w24 w25 w26 w27 w28 w29 w30 w31 : Value} {vs : List Value} {x : Int32} (hr : h.1 r = (13, [.ref q, w1, w2, w3, w4, w5, w6, w7, w8, w9, w10, w11, w12, w13, w14, w15, w16, w17, w18, w19, w20, w21, w22, w23, w24, w25, w26, w27, w28, w29, w30, w31])) (hq : h.1 q = (20, .int 0 :: vs)) : zcall zP sv (d + 2) 203 [.ref r, .int x] h = some (.inl (some (.int 0)), h) := by
  simp (disch := first | exact hq) only [zc_203, zs_203_0, zs_203_1, zs_203_2, zs_203_3, zs_203_6, zs_203_7, zs_203_8, zs_203_9, zs_203_10, zs_203_13, zrc_13, zf_13_0, zp_13_0, zp_13_0n, zf_13_1, zp_13_1, zp_13_1n, zf_13_2, zp_13_2, zp_13_2n, zf_13_3, zp_13_3, zf_13_4, zp_13_4, zp_13_4n, zf_13_5, zp_13_50, zp_13_51, zf_13_6, zp_13_6, zp_13_6n, zf_13_7, zp_13_7, zp_13_7n, zf_13_8, zp_13_8, zf_13_9, zp_13_9, zp_13_9n, zf_13_10, zp_13_10, zp_13_10n, zf_13_11, zp_13_11, zf_13_12, zp_13_12, zp_13_12n, zf_13_13, zp_13_13, zp_13_13n, zf_13_14, zp_13_14, zp_13_14n, zf_13_15, zp_13_15, zp_13_15n, zf_13_16, zp_13_16, zp_13_16n, zf_13_17, zp_13_17, zp_13_17n, zf_13_18, zp_13_18, zp_13_18n, zf_13_19, zp_13_19, zf_13_20, zp_13_20, zf_13_21, zp_13_21, zf_13_22, zp_13_22, zf_13_23, zp_13_23, zp_13_23n, zf_13_24, zp_13_24, zf_13_25, zp_13_25, zp_13_25n, zf_13_26, zp_13_26, zf_13_27, zp_13_27, zf_13_28, zp_13_28, zf_13_29, zp_13_29, zf_13_30, zp_13_30, zf_13_31, zp_13_31, hr, hq, zael_0, c_199x, zbk_v, zts_s, zgd_t, zty_50]
theorem c_198x {r : Nat} {w0 w1 w2 w3 w4 w5 w6 w7 w8 w9 w10 w11 w12 w13 w14 w15 w16 w17 w18 w19 w20 w21 w22 w23 w24 w25 w26 w27 w28 w29 w30 w31 : Value} {x : Int32} (hr : h.1 r = (13, [w0, w1, w2, w3, w4, w5, w6, w7, w8, w9, w10, w11, w12, w13, w14, w15, w16, w17, w18, w19, w20, w21, w22, w23, w24, w25, w26, w27, w28, w29, w30, w31])) : zcall zP sv (d + 1) 198 [.ref r, .int x] h = some (.inl (some (.int 0)), zup h r (13, [w0, w1, w2, w3, w4, w5, w6, w7, w8, w9, w10, w11, w12, w13, w14, w15, w16, w17, w18, w19, w20, w21, w22, w23, w24, w25, w26, w27, w28, w29, w30, .int x])) := by
  simp only [zc_198, zs_198_0, zs_198_1, zs_198_2, zs_198_5, zs_198_6, zrc_13, zf_13_0, zp_13_0, zp_13_0n, zf_13_1, zp_13_1, zp_13_1n, zf_13_2, zp_13_2, zp_13_2n, zf_13_3, zp_13_3, zf_13_4, zp_13_4, zp_13_4n, zf_13_5, zp_13_50, zp_13_51, zf_13_6, zp_13_6, zp_13_6n, zf_13_7, zp_13_7, zp_13_7n, zf_13_8, zp_13_8, zf_13_9, zp_13_9, zp_13_9n, zf_13_10, zp_13_10, zp_13_10n, zf_13_11, zp_13_11, zf_13_12, zp_13_12, zp_13_12n, zf_13_13, zp_13_13, zp_13_13n, zf_13_14, zp_13_14, zp_13_14n, zf_13_15, zp_13_15, zp_13_15n, zf_13_16, zp_13_16, zp_13_16n, zf_13_17, zp_13_17, zp_13_17n, zf_13_18, zp_13_18, zp_13_18n, zf_13_19, zp_13_19, zf_13_20, zp_13_20, zf_13_21, zp_13_21, zf_13_22, zp_13_22, zf_13_23, zp_13_23, zp_13_23n, zf_13_24, zp_13_24, zf_13_25, zp_13_25, zp_13_25n, zf_13_26, zp_13_26, zf_13_27, zp_13_27, zf_13_28, zp_13_28, zf_13_29, zp_13_29, zf_13_30, zp_13_30, zf_13_31, zp_13_31, hr, zgd_t, zty_0i]
theorem c_197x {r : Nat} {w0 w1 w2 w3 w4 w5 w6 w7 w8 w9 w10 w11 w12 w13 w14 w15 w16 w17 w18 w19 w20 w21 w22 w23 w24 w25 w26 w27 w28 w29 w30 : Value} {x : Int32} (hr : h.1 r = (13, [w0, w1, w2, w3, w4, w5, w6, w7, w8, w9, w10, w11, w12, w13, w14, w15, w16, w17, w18, w19, w20, w21, w22, w23, w24, w25, w26, w27, w28, w29, w30, .int x])) : zcall zP sv (d + 1) 197 [.ref r] h = some (.inl (some (.int x)), h) := by
  simp only [zc_197, zs_197_0, zs_197_1, zs_197_4, zrc_13, zf_13_0, zp_13_0, zp_13_0n, zf_13_1, zp_13_1, zp_13_1n, zf_13_2, zp_13_2, zp_13_2n, zf_13_3, zp_13_3, zf_13_4, zp_13_4, zp_13_4n, zf_13_5, zp_13_50, zp_13_51, zf_13_6, zp_13_6, zp_13_6n, zf_13_7, zp_13_7, zp_13_7n, zf_13_8, zp_13_8, zf_13_9, zp_13_9, zp_13_9n, zf_13_10, zp_13_10, zp_13_10n, zf_13_11, zp_13_11, zf_13_12, zp_13_12, zp_13_12n, zf_13_13, zp_13_13, zp_13_13n, zf_13_14, zp_13_14, zp_13_14n, zf_13_15, zp_13_15, zp_13_15n, zf_13_16, zp_13_16, zp_13_16n, zf_13_17, zp_13_17, zp_13_17n, zf_13_18, zp_13_18, zp_13_18n, zf_13_19, zp_13_19, zf_13_20, zp_13_20, zf_13_21, zp_13_21, zf_13_22, zp_13_22, zf_13_23, zp_13_23, zp_13_23n, zf_13_24, zp_13_24, zf_13_25, zp_13_25, zp_13_25n, zf_13_26, zp_13_26, zf_13_27, zp_13_27, zf_13_28, zp_13_28, zf_13_29, zp_13_29, zf_13_30, zp_13_30, zf_13_31, zp_13_31, hr, zgd_t, zty_0i]
end ZCA

theorem zup_self {h : zH} {a : Nat} {c : zC} (hc : h.1 a = c) : zup h a c = h := by
  subst hc
  unfold zup
  refine Prod.ext (funext fun q => ?_) rfl
  show (if q = a then h.1 a else h.1 q) = h.1 q
  by_cases h1 : q = a
  · rw [if_pos h1, h1]
  · rw [if_neg h1]
theorem nI_1' {i : Nat} : nI i + nI 1 = nI (i + 1) := nI_add i 1
section ZCB
variable {sv : Nat → Value} {d : Nat} {C : zCall}
theorem c_200l {r p q : Nat} {w2 w3 w4 w5 w6 w7 w8 w9 w10 w11 w12 w13 w14 w15 w16 w17 w18 w19 w20 w21 w22 w23 w24 w25 w26 w27 w28 w29 w30 w31 : Value} {A : List Value} (hpq : p ≠ q) (hrq : r ≠ q) (hA : A.length = 387) (hi : ∀ i, i < 387 → ∃ y : Int32, A[i]? = some (.int y)) : ∀ n i (h : zH) (B : List Value), i + n = 387 → h.1 r = (13, [.ref p, .ref q, w2, w3, w4, w5, w6, w7, w8, w9, w10, w11, w12, w13, w14, w15, w16, w17, w18, w19, w20, w21, w22, w23, w24, w25, w26, w27, w28, w29, w30, w31]) → h.1 p = (20, A) → h.1 q = (20, B) → B.length = 387 → (∀ j, j < i → B[j]? = A[j]?) → zrun zP sv C 200 7 [.val (.ref r), .val (.int (nI i))] [] h = some (.inl none, zup h q (20, A)) := by
  intro n
  induction n with
  | zero =>
    intro i h B hin hr hp hq hB he
    have e0 : B = A := List.ext_getElem? fun j => by
      by_cases hj : j < i
      · exact he j hj
      · rw [List.getElem?_eq_none (by omega), List.getElem?_eq_none (by omega)]
    subst e0
    rw [zs_200_7, zs_200_8, zs_200_11, if_neg (nI_nlt (by omega) (by omega)), zs_200_32, zup_self hq]
  | succ n ih =>
    intro i h B hin hr hp hq hB he
    obtain ⟨y, hy⟩ := hi i (by omega)
    have e1 : zrun zP sv C 200 7 [.val (.ref r), .val (.int (nI i))] [] h = zrun zP sv C 200 7 [.val (.ref r), .val (.int (nI (i + 1)))] [] (zup h q (20, B.set i (.int y))) := by
      rw [zs_200_7, zs_200_8, zs_200_11, if_pos (nI_lt (by omega) (by omega)), zs_200_14, zs_200_15, hr, zf_13_1, zs_200_18, zs_200_19, zs_200_20, hr, zf_13_0, zs_200_23, zs_200_24, hp, zael_k hy (by omega), zs_200_25, hq, zaset_k (by omega) (by omega), zs_200_26, zs_200_29, nI_1']
    rw [e1, ih (i + 1) _ (B.set i (.int y)) (by omega) (by rw [zup_ne hrq, hr]) (by rw [zup_ne hpq, hp]) zup_at (by rw [List.length_set, hB]) fun j hj => ?_, zup_up]
    by_cases hj2 : j = i
    · subst hj2
      rw [List.getElem?_set_self (by omega), hy]
    · rw [List.getElem?_set_ne (by omega), he j (by omega)]
theorem c_200x {h : zH} {r p q : Nat} {w2 w3 w4 w5 w6 w7 w8 w9 w10 w11 w12 w13 w14 w15 w16 w17 w18 w19 w20 w21 w22 w23 w24 w25 w26 w27 w28 w29 w30 w31 : Value} {A B : List Value} (hr : h.1 r = (13, [.ref p, .ref q, w2, w3, w4, w5, w6, w7, w8, w9, w10, w11, w12, w13, w14, w15, w16, w17, w18, w19, w20, w21, w22, w23, w24, w25, w26, w27, w28, w29, w30, w31])) (hp : h.1 p = (20, A)) (hq : h.1 q = (20, B)) (hpq : p ≠ q) (hrq : r ≠ q) (hrp : r ≠ p) (hA : A.length = 387) (hB : B.length = 387) (hi : ∀ i, i < 387 → ∃ y : Int32, A[i]? = some (.int y)) : zcall zP sv (d + 1) 200 [.ref r] h = some (.inl none, zup (zup h r (13, [.ref p, .ref q, w2, w3, w4, w5, w6, w7, w8, w9, w10, w11, w12, w13, w14, w15, w16, w17, w18, w19, w20, w21, w22, w23, w24, w25, w26, w27, w28, w29, w30, .int 0])) q (20, A)) := by
  have e1 := c_200l (sv := sv) (C := zcall zP sv d) (w31 := .int 0) hpq hrq hA hi 387 0 (zup h r (13, [.ref p, .ref q, w2, w3, w4, w5, w6, w7, w8, w9, w10, w11, w12, w13, w14, w15, w16, w17, w18, w19, w20, w21, w22, w23, w24, w25, w26, w27, w28, w29, w30, .int 0])) B rfl zup_at (by rw [zup_ne (Ne.symm hrp), hp]) (by rw [zup_ne (Ne.symm hrq), hq]) hB (fun j hj => absurd hj (Nat.not_lt_zero j))
  rw [nI_0] at e1
  rw [zc_200, zs_200_0, zs_200_1, zs_200_2, hr, zp_13_31, zs_200_5, zs_200_6 znw_u, e1]
end ZCB

section ZCE
variable {sv : Nat → Value} {d : Nat} {h : zH}
theorem c_202x {r : Nat} {w0 w1 w2 w3 w4 w5 w6 w7 w8 w9 w10 w11 w12 w13 w14 w15 w16 w17 w18 w19 w20 w21 w22 w23 w24 w25 w26 w27 w28 w29 w30 w31 : Value} {c : Nat} (hr : h.1 r = (13, [w0, w1, w2, w3, w4, w5, w6, w7, w8, w9, w10, w11, w12, w13, w14, w15, w16, w17, w18, w19, w20, w21, w22, w23, w24, w25, w26, w27, w28, w29, w30, w31])) (h0 : 0 < c) (h1 : c < 2 ^ 31) : zcall zP sv (d + 2) 202 [.ref r, .int (nI c)] h = some (.inl (some (.int 0)), zup h r (13, [w0, w1, w2, w3, w4, w5, w6, w7, w8, w9, w10, w11, w12, w13, w14, w15, w16, w17, w18, w19, w20, w21, w22, w23, w24, w25, w26, w27, w28, w29, w30, .int (nI c)])) := by
  have hp : (0 : Int32) < nI c := by rw [← nI_0]; exact nI_lt h0 h1
  simp (disch := exact hr) only [zc_202, zs_202_0, zs_202_1, zs_202_4, zs_202_5, zs_202_6, zs_202_9, zs_202_10, zs_202_11, zs_202_14, zs_202_16, zs_202_19, zs_202_20, zs_202_21, zs_202_22, zs_202_25, zs_202_28, zs_202_29, zs_202_32, zs_202_33, zs_202_34, zs_202_37, zs_202_40, zs_202_41, zs_202_42, zs_202_43, zs_202_44, zs_202_47, zs_202_50, zs_202_51, zs_202_52, zs_202_55, zs_202_56, zs_202_57, zs_202_60, zs_202_61, zs_202_62, zs_202_63, zs_202_66, zs_202_69, zs_202_70, zs_202_73, zs_202_76, zs_202_77, zs_202_80, zs_202_81, zs_202_82, zs_202_83, zs_202_84, zs_202_87, zs_202_88, zs_202_89, zs_202_90, zs_202_93, zs_202_96, zs_202_97, zs_202_98, zs_202_101, zs_202_102, zs_202_103, zs_202_106, zs_202_107, zs_202_110, if_pos hp, hr, zrc_13, c_198x hr, zbk_v, zts_s, zgd_t, zty_0i]
theorem c_236x {r q : Nat} {w1 w2 w3 w4 w5 w6 w7 w8 w9 w10 w11 w12 w13 w14 w15 w16 w17 w18 w19 w20 w21 w22 w23 w24 w25 w26 w27 w28 w29 w30 w31 : Value} {vs : List Value} {x : Int32} (hr : h.1 r = (13, [.ref q, w1, w2, w3, w4, w5, w6, w7, w8, w9, w10, w11, w12, w13, w14, w15, w16, w17, w18, w19, w20, w21, w22, w23, w24, w25, w26, w27, w28, w29, w30, w31])) (hq : h.1 q = (20, .int 0 :: vs)) : zcall zP sv (d + 3) 236 [.ref r, .int x] h = some (.inl (some (.int (nI 1))), h) := by
  simp only [zc_236, zs_236_0, zs_236_1, zs_236_2, zs_236_5, zs_236_8, zs_236_9, hr, zrc_13, c_203x hr hq, zbk_v, zts_s, zgd_t, zty_0i, if_true, ne_eq, not_true, if_false]
theorem c_237x {r p q : Nat} {w2 w3 w4 w5 w6 w7 w8 w9 w10 w11 w12 w13 w14 w15 w16 w17 w18 w19 w20 w21 w22 w23 w24 w25 w26 w27 w28 w29 w30 w31 : Value} {A B : List Value} {x : Int32} (hr : h.1 r = (13, [.ref p, .ref q, w2, w3, w4, w5, w6, w7, w8, w9, w10, w11, w12, w13, w14, w15, w16, w17, w18, w19, w20, w21, w22, w23, w24, w25, w26, w27, w28, w29, w30, w31])) (hp : h.1 p = (20, .int 0 :: A)) (hq : h.1 q = (20, B)) (hpq : p ≠ q) (hrq : r ≠ q) (hrp : r ≠ p) (hA : A.length = 386) (hB : B.length = 387) (hi : ∀ i, i < 387 → ∃ y : Int32, (.int 0 :: A)[i]? = some (.int y)) : zcall zP sv (d + 4) 237 [.ref r, .int x] h = some (.inl (some (.int 0)), zup (zup (zup h r (13, [.ref p, .ref q, w2, w3, w4, w5, w6, w7, w8, w9, w10, w11, w12, w13, w14, w15, w16, w17, w18, w19, w20, w21, w22, w23, w24, w25, w26, w27, w28, w29, w30, .int 0])) q (20, .int 0 :: A)) r (13, [.ref p, .ref q, w2, w3, w4, w5, w6, w7, w8, w9, w10, w11, w12, w13, w14, w15, w16, w17, w18, w19, w20, w21, w22, w23, w24, w25, w26, w27, w28, w29, w30, .int (nI 1)])) := by
  have e1 := c_200x (sv := sv) (d := d + 2) hr hp hq hpq hrq hrp (by rw [List.length_cons, hA]) hB hi
  have hr2 : (zup (zup h r (13, [.ref p, .ref q, w2, w3, w4, w5, w6, w7, w8, w9, w10, w11, w12, w13, w14, w15, w16, w17, w18, w19, w20, w21, w22, w23, w24, w25, w26, w27, w28, w29, w30, .int 0])) q (20, .int 0 :: A)).1 r = (13, [.ref p, .ref q, w2, w3, w4, w5, w6, w7, w8, w9, w10, w11, w12, w13, w14, w15, w16, w17, w18, w19, w20, w21, w22, w23, w24, w25, w26, w27, w28, w29, w30, .int 0]) := by rw [zup_ne hrq, zup_at]
  have hp2 : (zup (zup h r (13, [.ref p, .ref q, w2, w3, w4, w5, w6, w7, w8, w9, w10, w11, w12, w13, w14, w15, w16, w17, w18, w19, w20, w21, w22, w23, w24, w25, w26, w27, w28, w29, w30, .int 0])) q (20, .int 0 :: A)).1 p = (20, .int 0 :: A) := by rw [zup_ne hpq, zup_ne (Ne.symm hrp), hp]
  simp only [zc_237, zs_237_0, zs_237_1, zs_237_4, zs_237_5, zs_237_6, zs_237_7, zs_237_10, zs_237_13, hr, hr2, zrc_13, e1, c_236x hr2 hp2, c_202x hr2 (show 0 < 1 by decide) (show 1 < 2 ^ 31 by decide), zbk_v, zts_s, zts_n, zgd_t, zty_0i]
end ZCE

theorem nI_4l1 : ((nI 4 : Int32) < nI 1) = False := by decide +kernel
theorem nI_1e0 : (nI 1 = 0) = False := by decide +kernel
theorem nI_0l1 : ((0 : Int32) < nI 1) = True := by decide +kernel
theorem nI_0ln : ((0 : Int32) < (-1)) = False := by decide +kernel
theorem nI_e11 : (nI 1 = nI 1) = True := by decide +kernel
theorem zty_70 : zty 7 (.int (nI 97)) = true := by decide +kernel

def zcpy (A C : List Value) (u n : Nat) : List Value := C.take u ++ A.take n ++ C.drop (u + n)
theorem zcpy_0 {A C : List Value} {u : Nat} : zcpy A C u 0 = C := by
  unfold zcpy
  rw [List.take_zero, List.append_nil, Nat.add_zero, List.take_append_drop]
theorem zcpy_len {A C : List Value} {u n : Nat} (hC : u + n ≤ C.length) (hA : n ≤ A.length) : (zcpy A C u n).length = C.length := by
  unfold zcpy
  rw [List.length_append, List.length_append, List.length_take, List.length_take, List.length_drop]
  omega
theorem zcpy_set {A C : List Value} {u n : Nat} {y : Value} (hC : u + n < C.length) (hA : A[n]? = some y) : (zcpy A C u n).set (u + n) y = zcpy A C u (n + 1) := by
  have hn : n < A.length := (List.getElem?_eq_some_iff.mp hA).1
  unfold zcpy
  have e1 : (C.take u ++ A.take n).length = u + n := by
    rw [List.length_append, List.length_take, List.length_take]; omega
  rw [List.set_append_right _ _ (by omega), e1, Nat.sub_self, List.drop_eq_getElem_cons hC, List.set_cons_zero, List.take_succ, hA, List.append_assoc, List.append_assoc, List.append_assoc]
  rfl
theorem nI_mulx {a b : Nat} : nI a * nI b = nI (a * b) := by
  apply Int32.toBitVec_inj.mp
  show BitVec.ofNat 32 a * BitVec.ofNat 32 b = BitVec.ofNat 32 (a * b)
  exact (BitVec.ofNat_mul ..).symm
section ZCG
variable {sv : Nat → Value} {d : Nat} {CC : zCall}
theorem c_202l {r q kk u : Nat} {w0 w4 w5 w6 w7 w8 w9 w10 w11 w12 w13 w14 w15 w16 w17 w18 w19 w20 w21 w22 w23 w24 w25 w26 w27 w28 w29 w30 w31 : Value} {l1 : Slot} {A C : List Value} (hqk : q ≠ kk) (hrk : r ≠ kk) (hu : u < 8) (hA : A.length = 387) (hC : C.length = 3096) (hi : ∀ i, i < 387 → ∃ y : Int32, A[i]? = some (.int y)) : ∀ n i (h : zH), i + n = 387 → h.1 r = (13, [w0, .ref q, .ref kk, .int (nI u), w4, w5, w6, w7, w8, w9, w10, w11, w12, w13, w14, w15, w16, w17, w18, w19, w20, w21, w22, w23, w24, w25, w26, w27, w28, w29, w30, w31]) → h.1 q = (20, A) → h.1 kk = (20, zcpy A C (387 * u) i) → zrun zP sv CC 202 62 [.val (.ref r), l1, .val (.int (nI i))] [] h = zrun zP sv CC 202 96 [.val (.ref r), l1, .val (.int (nI 387))] [] (zup h kk (20, zcpy A C (387 * u) 387)) := by
  intro n
  induction n with
  | zero =>
    intro i h hin hr hq hk
    obtain rfl : i = 387 := by omega
    rw [zs_202_62, zs_202_63, zs_202_66, if_neg (nI_nlt (by omega) (by omega)), zup_self hk]
  | succ n ih =>
    intro i h hin hr hq hk
    obtain ⟨y, hy⟩ := hi i (by omega)
    have e1 : zrun zP sv CC 202 62 [.val (.ref r), l1, .val (.int (nI i))] [] h = zrun zP sv CC 202 62 [.val (.ref r), l1, .val (.int (nI (i + 1)))] [] (zup h kk (20, zcpy A C (387 * u) (i + 1))) := by
      rw [zs_202_62, zs_202_63, zs_202_66, if_pos (nI_lt (by omega) (by omega)), zs_202_69, zs_202_70, hr, zf_13_2, zs_202_73, zs_202_76, zs_202_77, hr, zf_13_3, zs_202_80, zs_202_81, zs_202_82, zs_202_83, zs_202_84, hr, zf_13_1, zs_202_87, zs_202_88, hq, zael_k hy (by omega), zs_202_89, nI_mulx, nI_add, hk, zaset_k (by rw [zcpy_len (by omega) (by omega)]; omega) (by omega), zcpy_set (by omega) hy, zs_202_90, zs_202_93, nI_1']
    rw [e1, ih (i + 1) _ (by omega) (by rw [zup_ne hrk, hr]) (by rw [zup_ne hqk, hq]) zup_at, zup_up]
theorem c_202y {h : zH} {r q kk u : Nat} {w0 w4 w5 w6 w7 w8 w9 w10 w11 w12 w13 w14 w15 w16 w17 w18 w19 w20 w21 w22 w23 w24 w25 w26 w27 w28 w29 w31 : Value} {w30 : Int32} {A C : List Value} (hr : h.1 r = (13, [w0, .ref q, .ref kk, .int (nI u), w4, w5, w6, w7, w8, w9, w10, w11, w12, w13, w14, w15, w16, w17, w18, w19, w20, w21, w22, w23, w24, w25, w26, w27, w28, w29, .int w30, w31])) (hq : h.1 q = (20, A)) (hk : h.1 kk = (20, C)) (hqk : q ≠ kk) (hrk : r ≠ kk) (hu : u < 8) (hA : A.length = 387) (hC : C.length = 3096) (hi : ∀ i, i < 387 → ∃ y : Int32, A[i]? = some (.int y)) : zcall zP sv (d + 1) 202 [.ref r, .int 0] h = some (.inl (some (.int w30)), zup (zup h kk (20, zcpy A C (387 * u) 387)) r (13, [w0, .ref q, .ref kk, .int (nI (u + 1)), w4, w5, w6, w7, w8, w9, w10, w11, w12, w13, w14, w15, w16, w17, w18, w19, w20, w21, w22, w23, w24, w25, w26, w27, w28, w29, .int w30, w31])) := by
  have e1 := c_202l (sv := sv) (CC := zcall zP sv d) (l1 := .val (.int 0)) hqk hrk hu hA hC hi 387 0 h rfl hr hq (by rw [zcpy_0, hk])
  rw [nI_0] at e1
  have hr1 : (zup h kk (20, zcpy A C (387 * u) 387)).1 r = (13, [w0, .ref q, .ref kk, .int (nI u), w4, w5, w6, w7, w8, w9, w10, w11, w12, w13, w14, w15, w16, w17, w18, w19, w20, w21, w22, w23, w24, w25, w26, w27, w28, w29, .int w30, w31]) := by rw [zup_ne hrk, hr]
  have h00 : ¬ (0 : Int32) < 0 := by decide
  have h8 : ¬ nI u = nI 8 := by
    intro h9
    have := congrArg Int32.toInt h9
    rw [nI_toInt (by omega), nI_toInt (by omega)] at this
    omega
  rw [zc_202, zs_202_0, zs_202_1, if_neg h00, zs_202_10, zs_202_11, hr, zf_13_3, zs_202_14, zs_202_16, if_neg h8, zs_202_60, zs_202_61 znw_u, e1, zs_202_96, zs_202_97, zs_202_98, hr1, zf_13_3, zs_202_101, zs_202_102, zs_202_103, hr1, nI_1', zp_13_3, zs_202_106, zs_202_107, zup_at, zf_13_30, zs_202_110]
theorem c_297l {r p q : Nat} {w1 w2 w3 w5 w6 w7 w8 w9 w10 w11 w12 w13 w14 w15 w16 w17 w18 w19 w20 w21 w22 w23 w24 w25 w26 w27 w28 w29 w30 w31 : Value} {A : List Value} (hpq : p ≠ q) (hrq : r ≠ q) (hA : A.length = 387) (hi : ∀ i, i < 387 → ∃ y : Int32, A[i]? = some (.int y)) : ∀ n i (h : zH) (B : List Value), i + n = 387 → h.1 r = (13, [.ref p, w1, w2, w3, .ref q, w5, w6, w7, w8, w9, w10, w11, w12, w13, w14, w15, w16, w17, w18, w19, w20, w21, w22, w23, w24, w25, w26, w27, w28, w29, w30, w31]) → h.1 p = (20, A) → h.1 q = (20, B) → B.length = 387 → (∀ j, j < i → B[j]? = A[j]?) → zrun zP sv CC 297 12 [.val (.ref r), .val (.int (nI i))] [] h = zrun zP sv CC 297 37 [.val (.ref r), .val (.int (nI 387))] [] (zup h q (20, A)) := by
  intro n
  induction n with
  | zero =>
    intro i h B hin hr hp hq hB he
    obtain rfl : i = 387 := by omega
    have e0 : B = A := List.ext_getElem? fun j => by
      by_cases hj : j < 387
      · exact he j hj
      · rw [List.getElem?_eq_none (by omega), List.getElem?_eq_none (by omega)]
    subst e0
    rw [zs_297_12, zs_297_13, zs_297_16, if_neg (nI_nlt (by omega) (by omega)), zup_self hq]
  | succ n ih =>
    intro i h B hin hr hp hq hB he
    obtain ⟨y, hy⟩ := hi i (by omega)
    have e1 : zrun zP sv CC 297 12 [.val (.ref r), .val (.int (nI i))] [] h = zrun zP sv CC 297 12 [.val (.ref r), .val (.int (nI (i + 1)))] [] (zup h q (20, B.set i (.int y))) := by
      rw [zs_297_12, zs_297_13, zs_297_16, if_pos (nI_lt (by omega) (by omega)), zs_297_19, zs_297_20, hr, zf_13_4, zs_297_23, zs_297_24, zs_297_25, hr, zf_13_0, zs_297_28, zs_297_29, hp, zael_k hy (by omega), zs_297_30, hq, zaset_k (by omega) (by omega), zs_297_31, zs_297_34, nI_1']
    rw [e1, ih (i + 1) _ (B.set i (.int y)) (by omega) (by rw [zup_ne hrq, hr]) (by rw [zup_ne hpq, hp]) zup_at (by rw [List.length_set, hB]) fun j hj => ?_, zup_up]
    by_cases hj2 : j = i
    · subst hj2
      rw [List.getElem?_set_self (by omega), hy]
    · rw [List.getElem?_set_ne (by omega), he j (by omega)]
theorem c_297x {h : zH} {r p q : Nat} {w1 w2 w3 w5 w6 w7 w8 w9 w10 w11 w12 w13 w14 w15 w16 w17 w18 w19 w20 w21 w22 w23 w24 w25 w26 w27 w28 w29 w30 w31 : Value} {A B : List Value} {c : Int32} (hr : h.1 r = (13, [.ref p, w1, w2, w3, .ref q, w5, w6, w7, w8, w9, w10, w11, w12, w13, w14, w15, w16, w17, w18, w19, w20, w21, w22, w23, w24, w25, w26, w27, w28, w29, w30, w31])) (hp : h.1 p = (20, .int c :: A)) (hq : h.1 q = (20, B)) (hpq : p ≠ q) (hrq : r ≠ q) (hrp : r ≠ p) (hA : A.length = 386) (hB : B.length = 387) (hi : ∀ i, i < 387 → ∃ y : Int32, (.int c :: A)[i]? = some (.int y)) : zcall zP sv (d + 1) 297 [.ref r] h = some (.inl (some (.int c)), zup (zup h r (13, [.ref p, w1, w2, w3, .ref q, .int (nI 1), w6, w7, w8, w9, w10, w11, w12, w13, w14, w15, w16, w17, w18, w19, w20, w21, w22, w23, w24, w25, w26, w27, w28, w29, w30, .int 0])) q (20, .int c :: A)) := by
  have hr1 : (zup h r (13, [.ref p, w1, w2, w3, .ref q, .int (nI 1), w6, w7, w8, w9, w10, w11, w12, w13, w14, w15, w16, w17, w18, w19, w20, w21, w22, w23, w24, w25, w26, w27, w28, w29, w30, .int 0])).1 r = (13, [.ref p, w1, w2, w3, .ref q, .int (nI 1), w6, w7, w8, w9, w10, w11, w12, w13, w14, w15, w16, w17, w18, w19, w20, w21, w22, w23, w24, w25, w26, w27, w28, w29, w30, .int 0]) := zup_at
  have e1 := c_297l (sv := sv) (CC := zcall zP sv d) hpq hrq (by rw [List.length_cons, hA]) hi 387 0 (zup h r (13, [.ref p, w1, w2, w3, .ref q, .int (nI 1), w6, w7, w8, w9, w10, w11, w12, w13, w14, w15, w16, w17, w18, w19, w20, w21, w22, w23, w24, w25, w26, w27, w28, w29, w30, .int 0])) B rfl hr1 (by rw [zup_ne (Ne.symm hrp), hp]) (by rw [zup_ne (Ne.symm hrq), hq]) hB (fun j hj => absurd hj (Nat.not_lt_zero j))
  rw [nI_0] at e1
  have hp2 : (zup (zup h r (13, [.ref p, w1, w2, w3, .ref q, .int (nI 1), w6, w7, w8, w9, w10, w11, w12, w13, w14, w15, w16, w17, w18, w19, w20, w21, w22, w23, w24, w25, w26, w27, w28, w29, w30, .int 0])) q (20, .int c :: A)).1 p = (20, .int c :: A) := by rw [zup_ne hpq, zup_ne (Ne.symm hrp), hp]
  have hr2 : (zup (zup h r (13, [.ref p, w1, w2, w3, .ref q, .int (nI 1), w6, w7, w8, w9, w10, w11, w12, w13, w14, w15, w16, w17, w18, w19, w20, w21, w22, w23, w24, w25, w26, w27, w28, w29, w30, .int 0])) q (20, .int c :: A)).1 r = (13, [.ref p, w1, w2, w3, .ref q, .int (nI 1), w6, w7, w8, w9, w10, w11, w12, w13, w14, w15, w16, w17, w18, w19, w20, w21, w22, w23, w24, w25, w26, w27, w28, w29, w30, .int 0]) := by rw [zup_ne hrq, zup_at]
  rw [zc_297, zs_297_0, zs_297_1, zs_297_2, hr, zp_13_31, zs_297_5, zs_297_6, zs_297_7, zup_at, zp_13_51, zup_up, zs_297_10, zs_297_11 znw_u, e1, zs_297_37, zs_297_38, hr2, zf_13_0, zs_297_41, zs_297_42, hp2, zael_0, zs_297_43]
end ZCG

section ZCH
variable {sv : Nat → Value} {d : Nat} {CC : zCall}
theorem c_165k {h : zH} {r q i : Nat} {vs : List Value} {y : Int32} (hr : h.1 r = (4, [.ref q])) (hq : h.1 q = (20, vs)) (hl : vs.length < 2 ^ 31) (hv : vs[i]? = some (.int y)) : zcall zP sv (d + 1) 165 [.ref r, .int (nI i)] h = some (.inl (some (.int y)), h) := by
  have hi := (List.getElem?_eq_some_iff.mp hv).1
  rw [zc_165, zs_165_0, zs_165_1, if_neg (nI_pos (by omega)), zs_165_4, zs_165_5, zs_165_6, hr, zf_4_0, zs_165_9, hq, zaln_k (by decide), zs_165_10, if_pos (nI_lt hi hl), zs_165_13, zs_165_14, hr, zf_4_0, zs_165_17, zs_165_18, hq, zael_k hv (by omega), zs_165_19, zs_165_23]
theorem c_167l {r p q t : Nat} {A : List Value} (hpq : p ≠ q) (hrq : r ≠ q) (htq : t ≠ q) (hl : A.length < 2 ^ 31) (hi : ∀ i, i < A.length → ∃ y : Int32, A[i]? = some (.int y)) : ∀ n i (h : zH) (B : List Value), i + n = A.length → h.1 r = (4, [.ref q]) → h.1 t = (4, [.ref p]) → h.1 p = (20, A) → h.1 q = (20, B) → B.length = A.length → (∀ j, j < i → B[j]? = A[j]?) → zrun zP sv (zcall zP sv (d + 1)) 167 2 [.val (.ref r), .val (.ref t), .val (.int (nI i))] [] h = some (.inl none, zup h q (20, A)) := by
  intro n
  induction n with
  | zero =>
    intro i h B hin hr ht hp hq hB he
    obtain rfl : i = A.length := by omega
    have e0 : B = A := List.ext_getElem? fun j => by
      by_cases hj : j < A.length
      · exact he j hj
      · rw [List.getElem?_eq_none (by omega), List.getElem?_eq_none (by omega)]
    subst e0
    rw [zs_167_2, zs_167_3, zs_167_4, hr, zf_4_0, zs_167_7, hq, zaln_k (by decide), zs_167_8, if_neg (nI_nlt (by omega) (by omega)), zs_167_28, zup_self hq]
  | succ n ih =>
    intro i h B hin hr ht hp hq hB he
    obtain ⟨y, hy⟩ := hi i (by omega)
    have e1 : zrun zP sv (zcall zP sv (d + 1)) 167 2 [.val (.ref r), .val (.ref t), .val (.int (nI i))] [] h = zrun zP sv (zcall zP sv (d + 1)) 167 2 [.val (.ref r), .val (.ref t), .val (.int (nI (i + 1)))] [] (zup h q (20, B.set i (.int y))) := by
      rw [zs_167_2, zs_167_3, zs_167_4, hr, zf_4_0, zs_167_7, hq, zaln_k (by decide), zs_167_8, hB, if_pos (nI_lt (by omega) (by omega)), zs_167_11, zs_167_12, hr, zf_4_0, zs_167_15, zs_167_16, zs_167_17, zs_167_18, ht, zrc_4, c_165k ht hp hl hy, zbk_v, zts_s, zs_167_21, hq, zaset_k (by omega) (by omega), zs_167_22, zs_167_25, nI_1']
    rw [e1, ih (i + 1) _ (B.set i (.int y)) (by omega) (by rw [zup_ne hrq, hr]) (by rw [zup_ne htq, ht]) (by rw [zup_ne hpq, hp]) zup_at (by rw [List.length_set, hB]) fun j hj => ?_, zup_up]
    by_cases hj2 : j = i
    · subst hj2
      rw [List.getElem?_set_self (by omega), hy]
    · rw [List.getElem?_set_ne (by omega), he j (by omega)]
theorem c_167x {h : zH} {r p q t : Nat} {A B : List Value} (hr : h.1 r = (4, [.ref q])) (ht : h.1 t = (4, [.ref p])) (hp : h.1 p = (20, A)) (hq : h.1 q = (20, B)) (hpq : p ≠ q) (hrq : r ≠ q) (htq : t ≠ q) (hl : A.length < 2 ^ 31) (hB : B.length = A.length) (hi : ∀ i, i < A.length → ∃ y : Int32, A[i]? = some (.int y)) : zcall zP sv (d + 2) 167 [.ref r, .ref t] h = some (.inl none, zup h q (20, A)) := by
  have e1 := c_167l (sv := sv) (d := d) hpq hrq htq hl hi A.length 0 h B (Nat.zero_add _) hr ht hp hq hB (fun j hj => absurd hj (Nat.not_lt_zero j))
  rw [nI_0] at e1
  rw [zc_167, zs_167_0, zs_167_1 znw_u, e1]
theorem zasn_k {kd i : Nat} {vs : List Value} {K : zC → zR} (hi : i < vs.length) (h2 : i < 2 ^ 31) : zasn (kd, vs) kd (nI i) K = K (kd, vs.set i .null) := by
  unfold zasn zix
  rw [nI_clamp h2, if_pos ⟨rfl, by rw [decide_eq_true (nI_pos h2), decide_eq_true hi]; rfl⟩]
theorem c_180l {r s f : Nat} {w2 w3 w4 u0 u2 u3 u4 : Value} (hrf : r ≠ f) (hsf : s ≠ f) : ∀ n i (h : zH) (B : List Value), i + n = 6 → h.1 r = (3, [.ref f, .int 0, w2, w3, w4]) → h.1 s = (3, [u0, .int 0, u2, u3, u4]) → h.1 f = (25, B) → B.length = 6 → (∀ j, j < i → B[j]? = some .null) → zrun zP sv (zcall zP sv (d + 1)) 180 10 [.val (.ref r), .val (.ref s), .val (.int (nI i))] [] h = zrun zP sv (zcall zP sv (d + 1)) 180 36 [.val (.ref r), .val (.ref s), .val (.int (nI 6))] [] (zup h f (25, List.replicate 6 .null)) := by
  intro n
  induction n with
  | zero =>
    intro i h B hin hr hs hf hB he
    obtain rfl : i = 6 := by omega
    have e0 : B = List.replicate 6 .null := List.ext_getElem? fun j => by
      by_cases hj : j < 6
      · rw [he j hj, List.getElem?_replicate_of_lt hj]
      · rw [List.getElem?_eq_none (by omega), List.getElem?_eq_none (by rw [List.length_replicate]; omega)]
    subst e0
    rw [zs_180_10, zs_180_11, zs_180_12, hr, zf_3_0, zs_180_15, hf, zaln_k (by decide), zs_180_16, if_neg (nI_nlt (by omega) (by omega)), zup_self hf]
  | succ n ih =>
    intro i h B hin hr hs hf hB he
    have e1 : zrun zP sv (zcall zP sv (d + 1)) 180 10 [.val (.ref r), .val (.ref s), .val (.int (nI i))] [] h = zrun zP sv (zcall zP sv (d + 1)) 180 10 [.val (.ref r), .val (.ref s), .val (.int (nI (i + 1)))] [] (zup h f (25, B.set i .null)) := by
      rw [zs_180_10, zs_180_11, zs_180_12, hr, zf_3_0, zs_180_15, hf, zaln_k (by decide), zs_180_16, hB, if_pos (nI_lt (by omega) (by omega)), zs_180_19, zs_180_20, hr, zf_3_0, zs_180_23, zs_180_24, zs_180_25, zs_180_26, hs, zrc_3, c_173x hs, zbk_v, zts_s, zs_180_29n, hf, zasn_k (by omega) (by omega), zs_180_30, zs_180_33, nI_1']
    rw [e1, ih (i + 1) _ (B.set i .null) (by omega) (by rw [zup_ne hrf, hr]) (by rw [zup_ne hsf, hs]) zup_at (by rw [List.length_set, hB]) fun j hj => ?_, zup_up]
    by_cases hj2 : j = i
    · subst hj2
      rw [List.getElem?_set_self (by omega)]
    · rw [List.getElem?_set_ne (by omega), he j (by omega)]
theorem c_180x {h : zH} {r f l a s g m b : Nat} {w1 : Value} {x3 x4 u3 u4 : Int32} {F A B : List Value} (hr : h.1 r = (3, [.ref f, w1, .ref l, .int x3, .int x4])) (hs : h.1 s = (3, [.ref g, .int 0, .ref m, .int u3, .int u4])) (hf : h.1 f = (25, F)) (hl : h.1 l = (4, [.ref a])) (hm : h.1 m = (4, [.ref b])) (ha : h.1 a = (20, A)) (hb : h.1 b = (20, B)) (hF : F.length = 6) (hA : A.length = 6) (hB : B.length = 6) (hi : ∀ i, i < B.length → ∃ y : Int32, B[i]? = some (.int y))
    (n1 : r ≠ f) (n2 : r ≠ s) (n3 : r ≠ l) (n4 : r ≠ m) (n5 : r ≠ a) (n6 : r ≠ b) (n7 : f ≠ s) (n8 : f ≠ l) (n9 : f ≠ m) (na : f ≠ a) (nb : f ≠ b) (nc : a ≠ s) (nd : a ≠ l) (ne : a ≠ m) (nf : a ≠ b) : zcall zP sv (d + 3) 180 [.ref r, .ref s] h = some (.inl none, zup (zup (zup h f (25, List.replicate 6 .null)) a (20, B)) r (3, [.ref f, .int 0, .ref l, .int u3, .int u4])) := by
  have hr1 : (zup h r (3, [.ref f, .int 0, .ref l, .int x3, .int x4])).1 r = (3, [.ref f, .int 0, .ref l, .int x3, .int x4]) := zup_at
  have e1 := c_180l (sv := sv) (d := d + 1) (n1) (Ne.symm n7) 6 0 (zup h r (3, [.ref f, .int 0, .ref l, .int x3, .int x4])) F rfl hr1 (by rw [zup_ne (Ne.symm n2), hs]) (by rw [zup_ne (Ne.symm n1), hf]) hF (fun j hj => absurd hj (Nat.not_lt_zero j))
  rw [nI_0] at e1
  rw [zc_180, zs_180_0, zs_180_1, zs_180_2, hs, zf_3_1, zs_180_5, hr, zp_3_1, zs_180_8, zs_180_9 znw_u, e1]
  have hr2 : (zup (zup h r (3, [.ref f, .int 0, .ref l, .int x3, .int x4])) f (25, List.replicate 6 .null)).1 r = (3, [.ref f, .int 0, .ref l, .int x3, .int x4]) := by rw [zup_ne n1, zup_at]
  have hs2 : (zup (zup h r (3, [.ref f, .int 0, .ref l, .int x3, .int x4])) f (25, List.replicate 6 .null)).1 s = (3, [.ref g, .int 0, .ref m, .int u3, .int u4]) := by rw [zup_ne (Ne.symm n7), zup_ne (Ne.symm n2), hs]
  have hl2 : (zup (zup h r (3, [.ref f, .int 0, .ref l, .int x3, .int x4])) f (25, List.replicate 6 .null)).1 l = (4, [.ref a]) := by rw [zup_ne (Ne.symm n8), zup_ne (Ne.symm n3), hl]
  have hm2 : (zup (zup h r (3, [.ref f, .int 0, .ref l, .int x3, .int x4])) f (25, List.replicate 6 .null)).1 m = (4, [.ref b]) := by rw [zup_ne (Ne.symm n9), zup_ne (Ne.symm n4), hm]
  have ha2 : (zup (zup h r (3, [.ref f, .int 0, .ref l, .int x3, .int x4])) f (25, List.replicate 6 .null)).1 a = (20, A) := by rw [zup_ne (Ne.symm na), zup_ne (Ne.symm n5), ha]
  have hb2 : (zup (zup h r (3, [.ref f, .int 0, .ref l, .int x3, .int x4])) f (25, List.replicate 6 .null)).1 b = (20, B) := by rw [zup_ne (Ne.symm nb), zup_ne (Ne.symm n6), hb]
  rw [zs_180_36, zs_180_37, hr2, zf_3_2, zs_180_40, zs_180_41, hs2, zf_3_2, zs_180_44, hl2, zrc_4, c_167x hl2 hm2 hb2 ha2 (Ne.symm nf) (Ne.symm nd) (Ne.symm ne) (by omega) (by omega) hi, zbk_v, zts_n]
  have hr3 : (zup (zup (zup h r (3, [.ref f, .int 0, .ref l, .int x3, .int x4])) f (25, List.replicate 6 .null)) a (20, B)).1 r = (3, [.ref f, .int 0, .ref l, .int x3, .int x4]) := by rw [zup_ne n5, hr2]
  have hs3 : (zup (zup (zup h r (3, [.ref f, .int 0, .ref l, .int x3, .int x4])) f (25, List.replicate 6 .null)) a (20, B)).1 s = (3, [.ref g, .int 0, .ref m, .int u3, .int u4]) := by rw [zup_ne (Ne.symm nc), hs2]
  rw [zs_180_47, zs_180_48, zs_180_49, hs3, zf_3_3, zs_180_52, hr3, zp_3_3, zs_180_55, zs_180_56, zs_180_57, zup_ne (Ne.symm n2), hs3, zf_3_4, zs_180_60, zup_at, zp_3_4, zs_180_63, zup_up]
  refine congrArg (fun x : zH => (some ((.inl none : zO), x) : zR)) ?_
  refine Prod.ext (funext fun z => ?_) rfl
  unfold zup
  dsimp only
  by_cases h1 : z = r
  · simp only [if_pos h1]
  · by_cases h2 : z = a
    · simp only [if_neg h1, if_pos h2]
    · by_cases h3 : z = f
      · simp only [if_neg h1, if_neg h2, if_pos h3]
      · simp only [if_neg h1, if_neg h2, if_neg h3]
end ZCH

theorem zvar_of {c : Int32} (h1 : ¬ c < nI 97) (h2 : ¬ nI 102 < c) : ∃ j, j < 6 ∧ c = nI (97 + j) := by
  have e97 : (nI 97).toInt = 97 := nI_toInt (by decide)
  have e102 : (nI 102).toInt = 102 := nI_toInt (by decide)
  rw [Int32.lt_iff_toInt_lt] at h1 h2
  obtain ⟨j, hj, rfl⟩ := nI_of (x := c) (by rw [Int32.lt_iff_toInt_lt]; show ¬ c.toInt < 0; omega)
  rw [nI_toInt hj] at h1 h2
  exact ⟨j - 97, by omega, by congr 1; omega⟩
theorem nI_sub' {a j : Nat} : nI (a + j) - nI a = nI j := by
  rw [Nat.add_comm, ← nI_add, Int32.add_sub_cancel]
