theorem zup_self {h : zH} {a : Nat} {c : zC} (hc : h.1 a = c) : zup h a c = h := by
  subst hc
  unfold zup
  refine Prod.ext (funext fun q => ?_) rfl
  show (if q = a then h.1 a else h.1 q) = h.1 q
  by_cases h1 : q = a
  · rw [if_pos h1, h1]
  · rw [if_neg h1]
theorem nI_1' {i : Nat} : nI i + nI 1 = nI (i + 1) := nI_add i 1
section ZCB
variable {sv : Nat → Value} {d : Nat} {C : zCall}
theorem c_200l {r p q : Nat} {w2 w3 w4 w5 w6 w7 w8 w9 w10 w11 w12 w13 w14 w15 w16 w17 w18 w19 w20 w21 w22 w23 w24 w25 w26 w27 w28 w29 w30 w31 : Value} {A : List Value} (hpq : p ≠ q) (hrq : r ≠ q) (hA : A.length = 387) (hi : ∀ i, i < 387 → ∃ y : Int32, A[i]? = some (.int y)) : ∀ n i (h : zH) (B : List Value), i + n = 387 → h.1 r = (13, [.ref p, .ref q, w2, w3, w4, w5, w6, w7, w8, w9, w10, w11, w12, w13, w14, w15, w16, w17, w18, w19, w20, w21, w22, w23, w24, w25, w26, w27, w28, w29, w30, w31]) → h.1 p = (20, A) → h.1 q = (20, B) → B.length = 387 → (∀ j, j < i → B[j]? = A[j]?) → zrun zP sv C 200 7 [.val (.ref r), .val (.int (nI i))] [] h = some (.inl none, zup h q (20, A)) := by
  intro n
  induction n with
  | zero =>
    intro i h B hin hr hp hq hB he
    have e0 : B = A := List.ext_getElem? fun j => by
      by_cases hj : j < i
      · exact he j hj
      · rw [List.getElem?_eq_none (by omega), List.getElem?_eq_none (by omega)]
    subst e0
    rw [zs_200_7, zs_200_8, zs_200_11, if_neg (nI_nlt (by omega) (by omega)), zs_200_32, zup_self hq]
  | succ n ih =>
    intro i h B hin hr hp hq hB he
    obtain ⟨y, hy⟩ := hi i (by omega)
    have e1 : zrun zP sv C 200 7 [.val (.ref r), .val (.int (nI i))] [] h = zrun zP sv C 200 7 [.val (.ref r), .val (.int (nI (i + 1)))] [] (zup h q (20, B.set i (.int y))) := by
      rw [zs_200_7, zs_200_8, zs_200_11, if_pos (nI_lt (by omega) (by omega)), zs_200_14, zs_200_15, hr, zf_13_1, zs_200_18, zs_200_19, zs_200_20, hr, zf_13_0, zs_200_23, zs_200_24, hp, zael_k hy (by omega), zs_200_25, hq, zaset_k (by omega) (by omega), zs_200_26, zs_200_29, nI_1']
    rw [e1, ih (i + 1) _ (B.set i (.int y)) (by omega) (by rw [zup_ne hrq, hr]) (by rw [zup_ne hpq, hp]) zup_at (by rw [List.length_set, hB]) fun j hj => ?_, zup_up]
    by_cases hj2 : j = i
    · subst hj2
      rw [List.getElem?_set_self (by omega), hy]
    · rw [List.getElem?_set_ne (by omega), he j (by omega)]
theorem c_200x {h : zH} {r p q : Nat} {w2 w3 w4 w5 w6 w7 w8 w9 w10 w11 w12 w13 w14 w15 w16 w17 w18 w19 w20 w21 w22 w23 w24 w25 w26 w27 w28 w29 w30 w31 : Value} {A B : List Value} (hr : h.1 r = (13, [.ref p, .ref q, w2, w3, w4, w5, w6, w7, w8, w9, w10, w11, w12, w13, w14, w15, w16, w17, w18, w19, w20, w21, w22, w23, w24, w25, w26, w27, w28, w29, w30, w31])) (hp : h.1 p = (20, A)) (hq : h.1 q = (20, B)) (hpq : p ≠ q) (hrq : r ≠ q) (hrp : r ≠ p) (hA : A.length = 387) (hB : B.length = 387) (hi : ∀ i, i < 387 → ∃ y : Int32, A[i]? = some (.int y)) : zcall zP sv (d + 1) 200 [.ref r] h = some (.inl none, zup (zup h r (13, [.ref p, .ref q, w2, w3, w4, w5, w6, w7, w8, w9, w10, w11, w12, w13, w14, w15, w16, w17, w18, w19, w20, w21, w22, w23, w24, w25, w26, w27, w28, w29, w30, .int 0])) q (20, A)) := by
  have e1 := c_200l (sv := sv) (C := zcall zP sv d) (w31 := .int 0) hpq hrq hA hi 387 0 (zup h r (13, [.ref p, .ref q, w2, w3, w4, w5, w6, w7, w8, w9, w10, w11, w12, w13, w14, w15, w16, w17, w18, w19, w20, w21, w22, w23, w24, w25, w26, w27, w28, w29, w30, .int 0])) B rfl zup_at (by rw [zup_ne (Ne.symm hrp), hp]) (by rw [zup_ne (Ne.symm hrq), hq]) hB (fun j hj => absurd hj (Nat.not_lt_zero j))
  rw [nI_0] at e1
  rw [zc_200, zs_200_0, zs_200_1, zs_200_2, hr, zp_13_31, zs_200_5, zs_200_6 znw_u, e1]
end ZCB
