def zcpy (A C : List Value) (u n : Nat) : List Value := C.take u ++ A.take n ++ C.drop (u + n)
theorem zcpy_0 {A C : List Value} {u : Nat} : zcpy A C u 0 = C := by
  unfold zcpy
  rw [List.take_zero, List.append_nil, Nat.add_zero, List.take_append_drop]
theorem zcpy_len {A C : List Value} {u n : Nat} (hC : u + n ≤ C.length) (hA : n ≤ A.length) : (zcpy A C u n).length = C.length := by
  unfold zcpy
  rw [List.length_append, List.length_append, List.length_take, List.length_take, List.length_drop]
  omega
theorem zcpy_set {A C : List Value} {u n : Nat} {y : Value} (hC : u + n < C.length) (hA : A[n]? = some y) : (zcpy A C u n).set (u + n) y = zcpy A C u (n + 1) := by
  have hn : n < A.length := (List.getElem?_eq_some_iff.mp hA).1
  unfold zcpy
  have e1 : (C.take u ++ A.take n).length = u + n := by
    rw [List.length_append, List.length_take, List.length_take]; omega
  rw [List.set_append_right _ _ (by omega), e1, Nat.sub_self, List.drop_eq_getElem_cons hC, List.set_cons_zero, List.take_succ, hA, List.append_assoc, List.append_assoc, List.append_assoc]
  rfl
theorem nI_mulx {a b : Nat} : nI a * nI b = nI (a * b) := by
  apply Int32.toBitVec_inj.mp
  show BitVec.ofNat 32 a * BitVec.ofNat 32 b = BitVec.ofNat 32 (a * b)
  exact (BitVec.ofNat_mul ..).symm
section ZCG
variable {sv : Nat → Value} {d : Nat} {CC : zCall}
theorem c_202l {r q kk u : Nat} {w0 w4 w5 w6 w7 w8 w9 w10 w11 w12 w13 w14 w15 w16 w17 w18 w19 w20 w21 w22 w23 w24 w25 w26 w27 w28 w29 w30 w31 : Value} {l1 : Slot} {A C : List Value} (hqk : q ≠ kk) (hrk : r ≠ kk) (hu : u < 8) (hA : A.length = 387) (hC : C.length = 3096) (hi : ∀ i, i < 387 → ∃ y : Int32, A[i]? = some (.int y)) : ∀ n i (h : zH), i + n = 387 → h.1 r = (13, [w0, .ref q, .ref kk, .int (nI u), w4, w5, w6, w7, w8, w9, w10, w11, w12, w13, w14, w15, w16, w17, w18, w19, w20, w21, w22, w23, w24, w25, w26, w27, w28, w29, w30, w31]) → h.1 q = (20, A) → h.1 kk = (20, zcpy A C (387 * u) i) → zrun zP sv CC 202 62 [.val (.ref r), l1, .val (.int (nI i))] [] h = zrun zP sv CC 202 96 [.val (.ref r), l1, .val (.int (nI 387))] [] (zup h kk (20, zcpy A C (387 * u) 387)) := by
  intro n
  induction n with
  | zero =>
    intro i h hin hr hq hk
    obtain rfl : i = 387 := by omega
    rw [zs_202_62, zs_202_63, zs_202_66, if_neg (nI_nlt (by omega) (by omega)), zup_self hk]
  | succ n ih =>
    intro i h hin hr hq hk
    obtain ⟨y, hy⟩ := hi i (by omega)
    have e1 : zrun zP sv CC 202 62 [.val (.ref r), l1, .val (.int (nI i))] [] h = zrun zP sv CC 202 62 [.val (.ref r), l1, .val (.int (nI (i + 1)))] [] (zup h kk (20, zcpy A C (387 * u) (i + 1))) := by
      rw [zs_202_62, zs_202_63, zs_202_66, if_pos (nI_lt (by omega) (by omega)), zs_202_69, zs_202_70, hr, zf_13_2, zs_202_73, zs_202_76, zs_202_77, hr, zf_13_3, zs_202_80, zs_202_81, zs_202_82, zs_202_83, zs_202_84, hr, zf_13_1, zs_202_87, zs_202_88, hq, zael_k hy (by omega), zs_202_89, nI_mulx, nI_add, hk, zaset_k (by rw [zcpy_len (by omega) (by omega)]; omega) (by omega), zcpy_set (by omega) hy, zs_202_90, zs_202_93, nI_1']
    rw [e1, ih (i + 1) _ (by omega) (by rw [zup_ne hrk, hr]) (by rw [zup_ne hqk, hq]) zup_at, zup_up]
theorem c_202y {h : zH} {r q kk u : Nat} {w0 w4 w5 w6 w7 w8 w9 w10 w11 w12 w13 w14 w15 w16 w17 w18 w19 w20 w21 w22 w23 w24 w25 w26 w27 w28 w29 w31 : Value} {w30 : Int32} {A C : List Value} (hr : h.1 r = (13, [w0, .ref q, .ref kk, .int (nI u), w4, w5, w6, w7, w8, w9, w10, w11, w12, w13, w14, w15, w16, w17, w18, w19, w20, w21, w22, w23, w24, w25, w26, w27, w28, w29, .int w30, w31])) (hq : h.1 q = (20, A)) (hk : h.1 kk = (20, C)) (hqk : q ≠ kk) (hrk : r ≠ kk) (hu : u < 8) (hA : A.length = 387) (hC : C.length = 3096) (hi : ∀ i, i < 387 → ∃ y : Int32, A[i]? = some (.int y)) : zcall zP sv (d + 1) 202 [.ref r, .int 0] h = some (.inl (some (.int w30)), zup (zup h kk (20, zcpy A C (387 * u) 387)) r (13, [w0, .ref q, .ref kk, .int (nI (u + 1)), w4, w5, w6, w7, w8, w9, w10, w11, w12, w13, w14, w15, w16, w17, w18, w19, w20, w21, w22, w23, w24, w25, w26, w27, w28, w29, .int w30, w31])) := by
  have e1 := c_202l (sv := sv) (CC := zcall zP sv d) (l1 := .val (.int 0)) hqk hrk hu hA hC hi 387 0 h rfl hr hq (by rw [zcpy_0, hk])
  rw [nI_0] at e1
  have hr1 : (zup h kk (20, zcpy A C (387 * u) 387)).1 r = (13, [w0, .ref q, .ref kk, .int (nI u), w4, w5, w6, w7, w8, w9, w10, w11, w12, w13, w14, w15, w16, w17, w18, w19, w20, w21, w22, w23, w24, w25, w26, w27, w28, w29, .int w30, w31]) := by rw [zup_ne hrk, hr]
  have h00 : ¬ (0 : Int32) < 0 := by decide
  have h8 : ¬ nI u = nI 8 := by
    intro h9
    have := congrArg Int32.toInt h9
    rw [nI_toInt (by omega), nI_toInt (by omega)] at this
    omega
  rw [zc_202, zs_202_0, zs_202_1, if_neg h00, zs_202_10, zs_202_11, hr, zf_13_3, zs_202_14, zs_202_16, if_neg h8, zs_202_60, zs_202_61 znw_u, e1, zs_202_96, zs_202_97, zs_202_98, hr1, zf_13_3, zs_202_101, zs_202_102, zs_202_103, hr1, nI_1', zp_13_3, zs_202_106, zs_202_107, zup_at, zf_13_30, zs_202_110]
theorem c_297l {r p q : Nat} {w1 w2 w3 w5 w6 w7 w8 w9 w10 w11 w12 w13 w14 w15 w16 w17 w18 w19 w20 w21 w22 w23 w24 w25 w26 w27 w28 w29 w30 w31 : Value} {A : List Value} (hpq : p ≠ q) (hrq : r ≠ q) (hA : A.length = 387) (hi : ∀ i, i < 387 → ∃ y : Int32, A[i]? = some (.int y)) : ∀ n i (h : zH) (B : List Value), i + n = 387 → h.1 r = (13, [.ref p, w1, w2, w3, .ref q, w5, w6, w7, w8, w9, w10, w11, w12, w13, w14, w15, w16, w17, w18, w19, w20, w21, w22, w23, w24, w25, w26, w27, w28, w29, w30, w31]) → h.1 p = (20, A) → h.1 q = (20, B) → B.length = 387 → (∀ j, j < i → B[j]? = A[j]?) → zrun zP sv CC 297 12 [.val (.ref r), .val (.int (nI i))] [] h = zrun zP sv CC 297 37 [.val (.ref r), .val (.int (nI 387))] [] (zup h q (20, A)) := by
  intro n
  induction n with
  | zero =>
    intro i h B hin hr hp hq hB he
    obtain rfl : i = 387 := by omega
    have e0 : B = A := List.ext_getElem? fun j => by
      by_cases hj : j < 387
      · exact he j hj
      · rw [List.getElem?_eq_none (by omega), List.getElem?_eq_none (by omega)]
    subst e0
    rw [zs_297_12, zs_297_13, zs_297_16, if_neg (nI_nlt (by omega) (by omega)), zup_self hq]
  | succ n ih =>
    intro i h B hin hr hp hq hB he
    obtain ⟨y, hy⟩ := hi i (by omega)
    have e1 : zrun zP sv CC 297 12 [.val (.ref r), .val (.int (nI i))] [] h = zrun zP sv CC 297 12 [.val (.ref r), .val (.int (nI (i + 1)))] [] (zup h q (20, B.set i (.int y))) := by
      rw [zs_297_12, zs_297_13, zs_297_16, if_pos (nI_lt (by omega) (by omega)), zs_297_19, zs_297_20, hr, zf_13_4, zs_297_23, zs_297_24, zs_297_25, hr, zf_13_0, zs_297_28, zs_297_29, hp, zael_k hy (by omega), zs_297_30, hq, zaset_k (by omega) (by omega), zs_297_31, zs_297_34, nI_1']
    rw [e1, ih (i + 1) _ (B.set i (.int y)) (by omega) (by rw [zup_ne hrq, hr]) (by rw [zup_ne hpq, hp]) zup_at (by rw [List.length_set, hB]) fun j hj => ?_, zup_up]
    by_cases hj2 : j = i
    · subst hj2
      rw [List.getElem?_set_self (by omega), hy]
    · rw [List.getElem?_set_ne (by omega), he j (by omega)]
theorem c_297x {h : zH} {r p q : Nat} {w1 w2 w3 w5 w6 w7 w8 w9 w10 w11 w12 w13 w14 w15 w16 w17 w18 w19 w20 w21 w22 w23 w24 w25 w26 w27 w28 w29 w30 w31 : Value} {A B : List Value} {c : Int32} (hr : h.1 r = (13, [.ref p, w1, w2, w3, .ref q, w5, w6, w7, w8, w9, w10, w11, w12, w13, w14, w15, w16, w17, w18, w19, w20, w21, w22, w23, w24, w25, w26, w27, w28, w29, w30, w31])) (hp : h.1 p = (20, .int c :: A)) (hq : h.1 q = (20, B)) (hpq : p ≠ q) (hrq : r ≠ q) (hrp : r ≠ p) (hA : A.length = 386) (hB : B.length = 387) (hi : ∀ i, i < 387 → ∃ y : Int32, (.int c :: A)[i]? = some (.int y)) : zcall zP sv (d + 1) 297 [.ref r] h = some (.inl (some (.int c)), zup (zup h r (13, [.ref p, w1, w2, w3, .ref q, .int (nI 1), w6, w7, w8, w9, w10, w11, w12, w13, w14, w15, w16, w17, w18, w19, w20, w21, w22, w23, w24, w25, w26, w27, w28, w29, w30, .int 0])) q (20, .int c :: A)) := by
  have hr1 : (zup h r (13, [.ref p, w1, w2, w3, .ref q, .int (nI 1), w6, w7, w8, w9, w10, w11, w12, w13, w14, w15, w16, w17, w18, w19, w20, w21, w22, w23, w24, w25, w26, w27, w28, w29, w30, .int 0])).1 r = (13, [.ref p, w1, w2, w3, .ref q, .int (nI 1), w6, w7, w8, w9, w10, w11, w12, w13, w14, w15, w16, w17, w18, w19, w20, w21, w22, w23, w24, w25, w26, w27, w28, w29, w30, .int 0]) := zup_at
  have e1 := c_297l (sv := sv) (CC := zcall zP sv d) hpq hrq (by rw [List.length_cons, hA]) hi 387 0 (zup h r (13, [.ref p, w1, w2, w3, .ref q, .int (nI 1), w6, w7, w8, w9, w10, w11, w12, w13, w14, w15, w16, w17, w18, w19, w20, w21, w22, w23, w24, w25, w26, w27, w28, w29, w30, .int 0])) B rfl hr1 (by rw [zup_ne (Ne.symm hrp), hp]) (by rw [zup_ne (Ne.symm hrq), hq]) hB (fun j hj => absurd hj (Nat.not_lt_zero j))
  rw [nI_0] at e1
  have hp2 : (zup (zup h r (13, [.ref p, w1, w2, w3, .ref q, .int (nI 1), w6, w7, w8, w9, w10, w11, w12, w13, w14, w15, w16, w17, w18, w19, w20, w21, w22, w23, w24, w25, w26, w27, w28, w29, w30, .int 0])) q (20, .int c :: A)).1 p = (20, .int c :: A) := by rw [zup_ne hpq, zup_ne (Ne.symm hrp), hp]
  have hr2 : (zup (zup h r (13, [.ref p, w1, w2, w3, .ref q, .int (nI 1), w6, w7, w8, w9, w10, w11, w12, w13, w14, w15, w16, w17, w18, w19, w20, w21, w22, w23, w24, w25, w26, w27, w28, w29, w30, .int 0])) q (20, .int c :: A)).1 r = (13, [.ref p, w1, w2, w3, .ref q, .int (nI 1), w6, w7, w8, w9, w10, w11, w12, w13, w14, w15, w16, w17, w18, w19, w20, w21, w22, w23, w24, w25, w26, w27, w28, w29, w30, .int 0]) := by rw [zup_ne hrq, zup_at]
  rw [zc_297, zs_297_0, zs_297_1, zs_297_2, hr, zp_13_31, zs_297_5, zs_297_6, zs_297_7, zup_at, zp_13_51, zup_up, zs_297_10, zs_297_11 znw_u, e1, zs_297_37, zs_297_38, hr2, zf_13_0, zs_297_41, zs_297_42, hp2, zael_0, zs_297_43]
end ZCG
