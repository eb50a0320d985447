section ZQV
variable {sv : Nat → Value} {d : Nat} {m : Nat}
def nL (n : Nat) : Int64 := Int64.ofNat n
theorem nL_10 : (10 : Int64) = nL 10 := rfl
theorem nL_48 : (48 : Int64) = nL 48 := rfl
theorem nL_div {n : Nat} (hn : n < 2 ^ 63) : nL n / 10 = nL (n / 10) := (Int64.ofNat_div (a := n) (b := 10) hn (by decide)).symm
theorem nL_mod {n : Nat} (hn : n < 2 ^ 63) : nL n - nL n / 10 * 10 = nL (n % 10) := by
  rw [nL_div hn, nL_10]
  have e1 : nL (n / 10) * nL 10 = nL (n / 10 * 10) := (Int64.ofNat_mul _ _).symm
  have e2 : nL n = nL (n / 10 * 10) + nL (n % 10) := by
    have := Int64.ofNat_add (n / 10 * 10) (n % 10)
    rw [show n / 10 * 10 + n % 10 = n by omega] at this
    exact this
  rw [e1]
  conv => lhs; lhs; rw [e2]
  rw [Int64.add_comm, Int64.add_sub_cancel]
theorem nL_add {a b : Nat} : nL a + nL b = nL (a + b) := (Int64.ofNat_add a b).symm
theorem nL_32 {a : Nat} : (nL a).toInt32 = nI a := Int64.toInt32_ofNat' ..
theorem nL_toInt {n : Nat} (hn : n < 2 ^ 63) : (nL n).toInt = n := Int64.toInt_ofNat_of_lt hn
theorem nL_cmp {n : Nat} (hn : n < 2 ^ 63) : (0 < lg_cmp (nL n) 9) = (9 < n) := by
  have z1 : (0 : Int32) < 1 := by decide +kernel
  have z2 : ¬ (0 : Int32) < 0 := by decide +kernel
  have z3 : ¬ (0 : Int32) < -1 := by decide +kernel
  have e9 : (9 : Int64) = nL 9 := rfl
  have h9 : (nL 9).toInt = 9 := nL_toInt (by decide)
  have hn' := nL_toInt hn
  unfold lg_cmp
  apply propext
  rw [e9]
  by_cases c : nL n > nL 9
  · rw [if_pos c]
    have : (nL 9).toInt < (nL n).toInt := Int64.lt_iff_toInt_lt.mp c
    exact ⟨fun _ => by omega, fun _ => z1⟩
  · rw [if_neg c]
    have c' : ¬ (nL 9).toInt < (nL n).toInt := fun q => c (Int64.lt_iff_toInt_lt.mpr q)
    by_cases c2 : nL n = nL 9
    · rw [if_pos c2]
      exact ⟨fun q => absurd q z2, fun q => by omega⟩
    · rw [if_neg c2]
      exact ⟨fun q => absurd q z3, fun q => by omega⟩
/-- while the model writes: its output is o -/
def zWr (h : zH) (m : Nat) (F : Nat → Int32) (o : List Int32) : Prop := h.1 m = (13, zMF m F) ∧ F 24 = nI o.length ∧ zTx h (m + 16) 700 o ∧ ∀ x, x ∈ o → ychr x
def zow (m : Nat) (h h' : zH) : Prop := (∀ q, q ≠ m → q ≠ m + 16 → h'.1 q = h.1 q) ∧ h'.2 = h.2
theorem zow_rfl {h : zH} : zow m h h := ⟨fun _ _ _ => rfl, rfl⟩
theorem zow_tr {h h' h'' : zH} (h1 : zow m h h') (h2 : zow m h' h'') : zow m h h'' := ⟨fun q a b => (h2.1 q a b).trans (h1.1 q a b), h2.2.trans h1.2⟩
/-- from lo to hi signs more -/
def zAp (m : Nat) (F : Nat → Int32) (o : List Int32) (lo hi : Nat) (h : zH) (r : zR) (v : Option Value) : Prop := ∃ (h' : zH) (G : Nat → Int32) (p : List Int32), r = some (.inl v, h') ∧ zWr h' m G (o ++ p) ∧ lo ≤ p.length ∧ p.length ≤ hi ∧ (∀ j, j ≠ 24 → G j = F j) ∧ zow m h h'
theorem e_280 {h : zH} {F : Nat → Int32} {o : List Int32} {c : Int32} (hw : zWr h m F o) (hl : o.length < 700) (hc : ynr c = c) (hk : ychr c) : zAp m F o 1 1 h (zcall zP sv (d + 1) 280 [.ref m, .int c] h) none := by
  obtain ⟨m0, m24, ⟨B, b1, b2, b3, b4⟩, mx⟩ := hw
  have e1 := @zsC B o.length c
  refine ⟨zup (zup h m (13, zMF m (yup F 24 (nI (o.length + 1))))) (m + 16) (21, (B.set o.length c).map Value.int), yup F 24 (nI (o.length + 1)), [c], ?_, ⟨by rw [zup_ne (by omega), zup_at], by rw [yup_eq, List.length_append]; rfl, ⟨B.set o.length c, zup_at, by rw [List.length_set, b2], by rw [List.length_append]; exact ytk_set b3 (by omega), by rw [List.length_append]; show o.length + 1 ≤ 700; omega⟩, ?_⟩, Nat.le_refl 1, Nat.le_refl 1, fun j hj => yup_ne hj, ⟨fun q q1 q2 => by rw [zup_ne q2, zup_ne q1], rfl⟩⟩
  · simp (disch := omega) only [zc_280, zs_280_0, zs_280_0n, zs_280_1, zs_280_4, zs_280_4n, zs_280_5, zs_280_6, zs_280_9, zs_280_10, zs_280_11, zs_280_12, zs_280_15, zs_280_16, zs_280_17, m0, zmf_23, zmf_24, m24, zmp_24, nI_1', zup_at, zup_ne, b1, e1, hc]
  · intro x hx
    rw [List.mem_append, List.mem_singleton] at hx
    rcases hx with hx | hx
    · exact mx x hx
    · rw [hx]; exact hk
/-- how many digits a number has (fuel first) -/
def ydgn : Nat → Nat → Nat
  | 0, _ => 1
  | f + 1, n => if 9 < n then ydgn f (n / 10) + 1 else 1
theorem ydgn_le : ∀ f n, ydgn f n ≤ f + 1 ∧ 1 ≤ ydgn f n
  | 0, n => ⟨Nat.le_refl 1, Nat.le_refl 1⟩
  | f + 1, n => by
    obtain ⟨h1, h2⟩ := ydgn_le f (n / 10)
    unfold ydgn
    split <;> omega
theorem ydig_nr : ∀ k, k < 10 → (nI (48 + k)).toUInt32.toUInt16.toUInt32.toInt32 = nI (48 + k) ∧ ((nI (48 + k)).toUInt32 % 65536).toInt32 = nI (48 + k) ∧ zty 7 (.int (nI (48 + k))) = true := by decide +kernel
theorem e_281 : ∀ (f n : Nat) (h : zH) (F : Nat → Int32) (o : List Int32) (D : Nat), n < 10 ^ (f + 1) → n < 2 ^ 62 → o.length + f + 1 ≤ 700 → f + 2 ≤ D → zWr h m F o → zAp m F o (ydgn f n) (ydgn f n) h (zcall zP sv D 281 [.ref m, .long (nL n)] h) none := by
  intro f
  induction f with
  | zero =>
    intro n h F o D hn h62 hl hD hw
    obtain ⟨D, rfl⟩ : ∃ D', D = D' + 2 := ⟨D - 2, by omega⟩
    have h10 : n < 10 := hn
    obtain ⟨q1, q2, q3⟩ := ydig_nr (n % 10) (by omega)
    have c0 := nL_cmp (n := n) (by omega)
    have c1 : ¬ (0 < lg_cmp (nL n) 9) := by rw [c0]; omega
    have hm := hw.1
    obtain ⟨h1, G, p, e1, w1, l1, l2, g1, k1⟩ := e_280 (sv := sv) (d := D) (c := nI (48 + n % 10)) hw (by omega) q1 q3
    refine ⟨h1, G, p, ?_, w1, l1, l2, g1, k1⟩
    simp (disch := first | exact znw_u | exact znw_i) only [zc_281, zs_281_0, zs_281_1, zs_281_4, zs_281_5, if_neg c1, zs_281_17, zs_281_18, zs_281_21, zs_281_22, zs_281_25, zs_281_26, zs_281_27, zs_281_28, zs_281_29, zs_281_32, nL_mod (show n < 2 ^ 63 by omega), nL_48, nL_add, nL_32, q2, hm, zrc_13v, e1, zbk_v, zts_n, List.cons_append, List.nil_append]
  | succ f ih =>
    intro n h F o D hn h62 hl hD hw
    obtain ⟨D, rfl⟩ : ∃ D', D = D' + 2 := ⟨D - 2, by omega⟩
    obtain ⟨q1, q2, q3⟩ := ydig_nr (n % 10) (by omega)
    have c0 := nL_cmp (n := n) (by omega)
    have hm := hw.1
    by_cases c : 9 < n
    · have c1 : (0 < lg_cmp (nL n) 9) := by rw [c0]; exact c
      obtain ⟨h1, G, p, e1, w1, l1, l2, g1, k1⟩ := ih (n / 10) h F o (D + 1) (by rw [Nat.pow_succ] at hn; omega) (by omega) (by omega) (by omega) hw
      have hm1 := w1.1
      have hdl := ydgn_le f (n / 10)
      obtain ⟨h2, G2, p2, e2, w2, l3, l4, g2, k2⟩ := e_280 (sv := sv) (d := D) (c := nI (48 + n % 10)) w1 (by rw [List.length_append]; omega) q1 q3
      have md : nL n - nL (n / 10) * 10 = nL (n % 10) := by rw [← nL_div (show n < 2 ^ 63 by omega)]; exact nL_mod (by omega)
      have ey : ydgn (f + 1) n = ydgn f (n / 10) + 1 := by conv => lhs; unfold ydgn; rw [if_pos c]
      refine ⟨h2, G2, p ++ p2, ?_, by rw [← List.append_assoc]; exact w2, by rw [List.length_append]; omega, by rw [List.length_append]; omega, fun j hj => (g2 j hj).trans (g1 j hj), zow_tr k1 k2⟩
      simp (disch := first | exact znw_u | exact znw_i) only [zc_281, zs_281_0, zs_281_1, zs_281_4, zs_281_5, if_pos c1, zs_281_8, zs_281_9, zs_281_10, zs_281_13, zs_281_14, zs_281_17, zs_281_18, zs_281_21, zs_281_22, zs_281_25, zs_281_26, zs_281_27, zs_281_28, zs_281_29, zs_281_32, nL_div (show n < 2 ^ 63 by omega), md, nL_48, nL_add, nL_32, q2, hm, hm1, zrc_13v, e1, e2, zbk_v, zts_n, List.cons_append, List.nil_append]
    · have c1 : ¬ (0 < lg_cmp (nL n) 9) := by rw [c0]; exact c
      obtain ⟨h1, G, p, e1, w1, l1, l2, g1, k1⟩ := e_280 (sv := sv) (d := D) (c := nI (48 + n % 10)) hw (by omega) q1 q3
      have ey : ydgn (f + 1) n = 1 := by unfold ydgn; rw [if_neg c]
      rw [ey]
      refine ⟨h1, G, p, ?_, w1, l1, l2, g1, k1⟩
      simp (disch := first | exact znw_u | exact znw_i) only [zc_281, zs_281_0, zs_281_1, zs_281_4, zs_281_5, if_neg c1, zs_281_17, zs_281_18, zs_281_21, zs_281_22, zs_281_25, zs_281_26, zs_281_27, zs_281_28, zs_281_29, zs_281_32, nL_mod (show n < 2 ^ 63 by omega), nL_48, nL_add, nL_32, q2, hm, zrc_13v, e1, zbk_v, zts_n, List.cons_append, List.nil_append]
/-- how many signs a number is written with -/
def yilen (x : Int32) : Nat := (if x < 0 then 1 else 0) + ydgn 9 x.toInt.natAbs
theorem yilen_le (x : Int32) : yilen x ≤ 11 := by
  unfold yilen
  have := (ydgn_le 9 x.toInt.natAbs).1
  split <;> omega
theorem nL_abs (x : Int32) : (if 0 < x.toInt64 then x.toInt64 else -x.toInt64) = nL x.toInt.natAbs := by
  have h1 := Int32.toInt_toInt64 x
  have h2 := Int32.toInt_lt x
  have h3 := Int32.le_toInt x
  apply Int64.toInt_inj.mp
  rw [nL_toInt (by omega)]
  by_cases c : 0 < x.toInt64
  · have c' : (0 : Int64).toInt < x.toInt64.toInt := Int64.lt_iff_toInt_lt.mp c
    have z : (0 : Int64).toInt = 0 := rfl
    rw [if_pos c, h1]
    omega
  · have c' : ¬ (0 : Int64).toInt < x.toInt64.toInt := fun q => c (Int64.lt_iff_toInt_lt.mpr q)
    have z : (0 : Int64).toInt = 0 := rfl
    rw [if_neg c, Int64.toInt_neg, h1]
    rw [Int.bmod_eq_of_le (by omega) (by omega)]
    omega
theorem e_282 {x : Int32} {h : zH} {F : Nat → Int32} {o : List Int32} (hw : zWr h m F o) (hl : o.length + 11 ≤ 700) : zAp m F o (yilen x) (yilen x) h (zcall zP sv (d + 12) 282 [.ref m, .int x] h) none := by
  have hm := hw.1
  have h2 := Int32.toInt_lt x
  have h3 := Int32.le_toInt x
  have e45 : ynr (nI 45) = nI 45 := by decide +kernel
  have k45 : ychr (nI 45) := by show zty 7 (.int (nI 45)) = true; decide +kernel
  have hdl := ydgn_le 9 x.toInt.natAbs
  by_cases c : x < 0
  · obtain ⟨h1, G, p, e1, w1, l1, l2, g1, k1⟩ := e_280 (sv := sv) (d := d + 10) (c := nI 45) hw (by omega) e45 k45
    obtain ⟨h4, G2, p2, e2, w2, l3, l4, g2, k2⟩ := e_281 (sv := sv) (m := m) 9 x.toInt.natAbs h1 G (o ++ p) (d + 11) (by omega) (by omega) (by rw [List.length_append]; omega) (by omega) w1
    have hm1 := w1.1
    have ey : yilen x = 1 + ydgn 9 x.toInt.natAbs := by unfold yilen; rw [if_pos c]
    refine ⟨h4, G2, p ++ p2, ?_, by rw [← List.append_assoc]; exact w2, by rw [List.length_append]; omega, by rw [List.length_append]; omega, fun j hj => (g2 j hj).trans (g1 j hj), zow_tr k1 k2⟩
    simp (disch := first | exact znw_u | exact znw_i) only [zc_282, zs_282_0, zs_282_1, zs_282_4, zs_282_5, zs_282_7, zs_282_10, zs_282_11, zs_282_12, zs_282_13, zs_282_16, zs_282_19, if_pos c, nL_abs, hm, hm1, zrc_13v, e1, e2, zbk_v, zts_n, List.cons_append, List.nil_append]
  · obtain ⟨h4, G2, p2, e2, w2, l3, l4, g2, k2⟩ := e_281 (sv := sv) (m := m) 9 x.toInt.natAbs h F o (d + 11) (by omega) (by omega) (by omega) (by omega) hw
    have ey : yilen x = ydgn 9 x.toInt.natAbs := by unfold yilen; rw [if_neg c]; omega
    refine ⟨h4, G2, p2, ?_, w2, by omega, by omega, g2, k2⟩
    simp (disch := first | exact znw_u | exact znw_i) only [zc_282, zs_282_0, zs_282_1, zs_282_10, zs_282_11, zs_282_12, zs_282_13, zs_282_16, zs_282_19, if_neg c, nL_abs, hm, zrc_13v, e2, zbk_v, zts_n, List.cons_append, List.nil_append]
theorem yopn_nr : ∀ k, k < 20 → nI k - nI k / nI 10 * nI 10 = nI (k % 10) ∧ (nI (k % 10)).toInt64 = nL (k % 10) := by decide +kernel
theorem e_283 {k : Nat} {h : zH} {F : Nat → Int32} {o : List Int32} (hk : k < 20) (hw : zWr h m F o) (hl : o.length + 2 ≤ 700) : zAp m F o 2 2 h (zcall zP sv (d + 3) 283 [.ref m, .int (nI k)] h) none := by
  have hm := hw.1
  have e114 : ynr (nI 114) = nI 114 := by decide +kernel
  have k114 : ychr (nI 114) := by show zty 7 (.int (nI 114)) = true; decide +kernel
  have e109 : ynr (nI 109) = nI 109 := by decide +kernel
  have k109 : ychr (nI 109) := by show zty 7 (.int (nI 109)) = true; decide +kernel
  obtain ⟨q1, q2⟩ := yopn_nr k hk
  by_cases c : nI k < nI 10
  · obtain ⟨h1, G, p, e1, w1, l1, l2, g1, k1⟩ := e_280 (sv := sv) (d := d + 1) (c := nI 114) hw (by omega) e114 k114
    obtain ⟨h4, G2, p2, e2, w2, l3, l4, g2, k2⟩ := e_281 (sv := sv) (m := m) 0 (k % 10) h1 G (o ++ p) (d + 2) (by omega) (by omega) (by rw [List.length_append]; omega) (by omega) w1
    have hm1 := w1.1
    have ey : ydgn 0 (k % 10) = 1 := rfl
    refine ⟨h4, G2, p ++ p2, ?_, by rw [← List.append_assoc]; exact w2, by rw [List.length_append]; omega, by rw [List.length_append]; omega, fun j hj => (g2 j hj).trans (g1 j hj), zow_tr k1 k2⟩
    simp (disch := first | exact znw_u | exact znw_i) only [zc_283, zs_283_0, zs_283_1, zs_283_2, zs_283_4, zs_283_7, zs_283_9, zs_283_14, zs_283_17, zs_283_18, zs_283_19, zs_283_21, zs_283_22, zs_283_23, zs_283_26, if_pos c, q1, q2, hm, hm1, zrc_13v, e1, e2, zbk_v, zts_n, List.cons_append, List.nil_append]
  · obtain ⟨h1, G, p, e1, w1, l1, l2, g1, k1⟩ := e_280 (sv := sv) (d := d + 1) (c := nI 109) hw (by omega) e109 k109
    obtain ⟨h4, G2, p2, e2, w2, l3, l4, g2, k2⟩ := e_281 (sv := sv) (m := m) 0 (k % 10) h1 G (o ++ p) (d + 2) (by omega) (by omega) (by rw [List.length_append]; omega) (by omega) w1
    have hm1 := w1.1
    have ey : ydgn 0 (k % 10) = 1 := rfl
    refine ⟨h4, G2, p ++ p2, ?_, by rw [← List.append_assoc]; exact w2, by rw [List.length_append]; omega, by rw [List.length_append]; omega, fun j hj => (g2 j hj).trans (g1 j hj), zow_tr k1 k2⟩
    simp (disch := first | exact znw_u | exact znw_i) only [zc_283, zs_283_0, zs_283_1, zs_283_2, zs_283_4, zs_283_12, zs_283_14, zs_283_17, zs_283_18, zs_283_19, zs_283_21, zs_283_22, zs_283_23, zs_283_26, if_neg c, q1, q2, hm, hm1, zrc_13v, e1, e2, zbk_v, zts_n, List.cons_append, List.nil_append]
end ZQV
