section ZQV
variable {sv : Nat → Value} {d : Nat} {m : Nat}
def nL (n : Nat) : Int64 := Int64.ofNat n
theorem nL_10 : (10 : Int64) = nL 10 := rfl
theorem nL_48 : (48 : Int64) = nL 48 := rfl
theorem nL_div {n : Nat} (hn : n < 2 ^ 63) : nL n / 10 = nL (n / 10) := (Int64.ofNat_div (a := n) (b := 10) hn (by decide)).symm
theorem nL_mod {n : Nat} (hn : n < 2 ^ 63) : nL n - nL n / 10 * 10 = nL (n % 10) := by
  rw [nL_div hn, nL_10]
  have e1 : nL (n / 10) * nL 10 = nL (n / 10 * 10) := (Int64.ofNat_mul _ _).symm
  have e2 : nL n = nL (n / 10 * 10) + nL (n % 10) := by
    have := Int64.ofNat_add (n / 10 * 10) (n % 10)
    rw [show n / 10 * 10 + n % 10 = n by omega] at this
    exact this
  rw [e1]
  conv => lhs; lhs; rw [e2]
  rw [Int64.add_comm, Int64.add_sub_cancel]
theorem nL_add {a b : Nat} : nL a + nL b = nL (a + b) := (Int64.ofNat_add a b).symm
theorem nL_32 {a : Nat} : (nL a).toInt32 = nI a := Int64.toInt32_ofNat' ..
theorem nL_toInt {n : Nat} (hn : n < 2 ^ 63) : (nL n).toInt = n := Int64.toInt_ofNat_of_lt hn
theorem nL_cmp {n : Nat} (hn : n < 2 ^ 63) : (0 < lg_cmp (nL n) 9) = (9 < n) := by
  have z1 : (0 : Int32) < 1 := by decide +kernel
  have z2 : ¬ (0 : Int32) < 0 := by decide +kernel
  have z3 : ¬ (0 : Int32) < -1 := by decide +kernel
  have e9 : (9 : Int64) = nL 9 := rfl
  have h9 : (nL 9).toInt = 9 := nL_toInt (by decide)
  have hn' := nL_toInt hn
  unfold lg_cmp
  apply propext
  rw [e9]
  by_cases c : nL n > nL 9
  · rw [if_pos c]
    have : (nL 9).toInt < (nL n).toInt := Int64.lt_iff_toInt_lt.mp c
    exact ⟨fun _ => by omega, fun _ => z1⟩
  · rw [if_neg c]
    have c' : ¬ (nL 9).toInt < (nL n).toInt := fun q => c (Int64.lt_iff_toInt_lt.mpr q)
    by_cases c2 : nL n = nL 9
    · rw [if_pos c2]
      exact ⟨fun q => absurd q z2, fun q => by omega⟩
    · rw [if_neg c2]
      exact ⟨fun q => absurd q z3, fun q => by omega⟩
/-- while the model writes: its output is o -/
def zWr (h : zH) (m : Nat) (F : Nat → Int32) (o : List Int32) : Prop := h.1 m = (13, zMF m F) ∧ F 24 = nI o.length ∧ zTx h (m + 16) 700 o ∧ ∀ x, x ∈ o → ychr x
def zow (m : Nat) (h h' : zH) : Prop := (∀ q, q ≠ m → q ≠ m + 16 → h'.1 q = h.1 q) ∧ h'.2 = h.2
theorem zow_rfl {h : zH} : zow m h h := ⟨fun _ _ _ => rfl, rfl⟩
theorem zow_tr {h h' h'' : zH} (h1 : zow m h h') (h2 : zow m h' h'') : zow m h h'' := ⟨fun q a b => (h2.1 q a b).trans (h1.1 q a b), h2.2.trans h1.2⟩
/-- from lo to hi signs more -/
def zAp (m : Nat) (F : Nat → Int32) (o : List Int32) (lo hi : Nat) (h : zH) (r : zR) (v : Option Value) : Prop := ∃ (h' : zH) (G : Nat → Int32) (p : List Int32), r = some (.inl v, h') ∧ zWr h' m G (o ++ p) ∧ lo ≤ p.length ∧ p.length ≤ hi ∧ (∀ j, j ≠ 24 → G j = F j) ∧ zow m h h'
theorem e_280 {h : zH} {F : Nat → Int32} {o : List Int32} {c : Int32} (hw : zWr h m F o) (hl : o.length < 700) (hc : ynr c = c) (hk : ychr c) : zAp m F o 1 1 h (zcall zP sv (d + 1) 280 [.ref m, .int c] h) none := by
  obtain ⟨m0, m24, ⟨B, b1, b2, b3, b4⟩, mx⟩ := hw
  have e1 := @zsC B o.length c
  refine ⟨zup (zup h m (13, zMF m (yup F 24 (nI (o.length + 1))))) (m + 16) (21, (B.set o.length c).map Value.int), yup F 24 (nI (o.length + 1)), [c], ?_, ⟨by rw [zup_ne (by omega), zup_at], by rw [yup_eq, List.length_append]; rfl, ⟨B.set o.length c, zup_at, by rw [List.length_set, b2], by rw [List.length_append]; exact ytk_set b3 (by omega), by rw [List.length_append]; show o.length + 1 ≤ 700; omega⟩, ?_⟩, Nat.le_refl 1, Nat.le_refl 1, fun j hj => yup_ne hj, ⟨fun q q1 q2 => by rw [zup_ne q2, zup_ne q1], rfl⟩⟩
  · simp (disch := omega) only [zc_280, zs_280_0, zs_280_1, zs_280_4, zs_280_5, zs_280_6, zs_280_9, zs_280_10, zs_280_11, zs_280_12, zs_280_15, zs_280_16, zs_280_17, m0, zmf_23, zmf_24, m24, zmp_24, nI_1', zup_at, zup_ne, b1, e1, hc]
  · intro x hx
    rw [List.mem_append, List.mem_singleton] at hx
    rcases hx with hx | hx
    · exact mx x hx
    · rw [hx]; exact hk
/-- how many digits a number has (fuel first) -/
def ydgn : Nat → Nat → Nat
  | 0, _ => 1
  | f + 1, n => if 9 < n then ydgn f (n / 10) + 1 else 1
theorem ydgn_le : ∀ f n, ydgn f n ≤ f + 1 ∧ 1 ≤ ydgn f n
  | 0, n => ⟨Nat.le_refl 1, Nat.le_refl 1⟩
  | f + 1, n => by
    obtain ⟨h1, h2⟩ := ydgn_le f (n / 10)
    unfold ydgn
    split <;> omega
theorem ydig_nr : ∀ k, k < 10 → (nI (48 + k)).toUInt32.toUInt16.toUInt32.toInt32 = nI (48 + k) ∧ ((nI (48 + k)).toUInt32 % 65536).toInt32 = nI (48 + k) ∧ zty 7 (.int (nI (48 + k))) = true := by decide +kernel
theorem e_281 : ∀ (f n : Nat) (h : zH) (F : Nat → Int32) (o : List Int32) (D : Nat), n < 10 ^ (f + 1) → n < 2 ^ 62 → o.length + f + 1 ≤ 700 → f + 2 ≤ D → zWr h m F o → zAp m F o (ydgn f n) (ydgn f n) h (zcall zP sv D 281 [.ref m, .long (nL n)] h) none := by
  intro f
  induction f with
  | zero =>
    intro n h F o D hn h62 hl hD hw
    obtain ⟨D, rfl⟩ : ∃ D', D = D' + 2 := ⟨D - 2, by omega⟩
    have h10 : n < 10 := hn
    obtain ⟨q1, q2, q3⟩ := ydig_nr (n % 10) (by omega)
    have c0 := nL_cmp (n := n) (by omega)
    have c1 : ¬ (0 < lg_cmp (nL n) 9) := by rw [c0]; omega
    have hm := hw.1
    obtain ⟨h1, G, p, e1, w1, l1, l2, g1, k1⟩ := e_280 (sv := sv) (d := D) (c := nI (48 + n % 10)) hw (by omega) q1 q3
    refine ⟨h1, G, p, ?_, w1, l1, l2, g1, k1⟩
    simp (disch := first | exact znw_u | exact znw_i) only [zc_281, zs_281_0, zs_281_1, zs_281_4, zs_281_5, if_neg c1, zs_281_17, zs_281_18, zs_281_21, zs_281_22, zs_281_25, zs_281_26, zs_281_27, zs_281_28, zs_281_29, zs_281_32, nL_mod (show n < 2 ^ 63 by omega), nL_48, nL_add, nL_32, q2, hm, zrc_13v, e1, zbk_v, zts_n, List.cons_append, List.nil_append]
  | succ f ih =>
    intro n h F o D hn h62 hl hD hw
    obtain ⟨D, rfl⟩ : ∃ D', D = D' + 2 := ⟨D - 2, by omega⟩
    obtain ⟨q1, q2, q3⟩ := ydig_nr (n % 10) (by omega)
    have c0 := nL_cmp (n := n) (by omega)
    have hm := hw.1
    by_cases c : 9 < n
    · have c1 : (0 < lg_cmp (nL n) 9) := by rw [c0]; exact c
      obtain ⟨h1, G, p, e1, w1, l1, l2, g1, k1⟩ := ih (n / 10) h F o (D + 1) (by rw [Nat.pow_succ] at hn; omega) (by omega) (by omega) (by omega) hw
      have hm1 := w1.1
      have hdl := ydgn_le f (n / 10)
      obtain ⟨h2, G2, p2, e2, w2, l3, l4, g2, k2⟩ := e_280 (sv := sv) (d := D) (c := nI (48 + n % 10)) w1 (by rw [List.length_append]; omega) q1 q3
      have md : nL n - nL (n / 10) * 10 = nL (n % 10) := by rw [← nL_div (show n < 2 ^ 63 by omega)]; exact nL_mod (by omega)
      have ey : ydgn (f + 1) n = ydgn f (n / 10) + 1 := by conv => lhs; unfold ydgn; rw [if_pos c]
      refine ⟨h2, G2, p ++ p2, ?_, by rw [← List.append_assoc]; exact w2, by rw [List.length_append]; omega, by rw [List.length_append]; omega, fun j hj => (g2 j hj).trans (g1 j hj), zow_tr k1 k2⟩
      simp (disch := first | exact znw_u | exact znw_i) only [zc_281, zs_281_0, zs_281_1, zs_281_4, zs_281_5, if_pos c1, zs_281_8, zs_281_9, zs_281_10, zs_281_13, zs_281_14, zs_281_17, zs_281_18, zs_281_21, zs_281_22, zs_281_25, zs_281_26, zs_281_27, zs_281_28, zs_281_29, zs_281_32, nL_div (show n < 2 ^ 63 by omega), md, nL_48, nL_add, nL_32, q2, hm, hm1, zrc_13v, e1, e2, zbk_v, zts_n, List.cons_append, List.nil_append]
    · have c1 : ¬ (0 < lg_cmp (nL n) 9) := by rw [c0]; exact c
      obtain ⟨h1, G, p, e1, w1, l1, l2, g1, k1⟩ := e_280 (sv := sv) (d := D) (c := nI (48 + n % 10)) hw (by omega) q1 q3
      have ey : ydgn (f + 1) n = 1 := by unfold ydgn; rw [if_neg c]
      rw [ey]
      refine ⟨h1, G, p, ?_, w1, l1, l2, g1, k1⟩
      simp (disch := first | exact znw_u | exact znw_i) only [zc_281, zs_281_0, zs_281_1, zs_281_4, zs_281_5, if_neg c1, zs_281_17, zs_281_18, zs_281_21, zs_281_22, zs_281_25, zs_281_26, zs_281_27, zs_281_28, zs_281_29, zs_281_32, nL_mod (show n < 2 ^ 63 by omega), nL_48, nL_add, nL_32, q2, hm, zrc_13v, e1, zbk_v, zts_n, List.cons_append, List.nil_append]
/-- how many signs a number is written with -/
def yilen (x : Int32) : Nat := (if x < 0 then 1 else 0) + ydgn 9 x.toInt.natAbs
theorem yilen_le (x : Int32) : yilen x ≤ 11 := by
  unfold yilen
  have := (ydgn_le 9 x.toInt.natAbs).1
  split <;> omega
theorem nL_abs (x : Int32) : (if 0 < x.toInt64 then x.toInt64 else -x.toInt64) = nL x.toInt.natAbs := by
  have h1 := Int32.toInt_toInt64 x
  have h2 := Int32.toInt_lt x
  have h3 := Int32.le_toInt x
  apply Int64.toInt_inj.mp
  rw [nL_toInt (by omega)]
  by_cases c : 0 < x.toInt64
  · have c' : (0 : Int64).toInt < x.toInt64.toInt := Int64.lt_iff_toInt_lt.mp c
    have z : (0 : Int64).toInt = 0 := rfl
    rw [if_pos c, h1]
    omega
  · have c' : ¬ (0 : Int64).toInt < x.toInt64.toInt := fun q => c (Int64.lt_iff_toInt_lt.mpr q)
    have z : (0 : Int64).toInt = 0 := rfl
    rw [if_neg c, Int64.toInt_neg, h1]
    rw [Int.bmod_eq_of_le (by omega) (by omega)]
    omega
theorem e_282 {x : Int32} {h : zH} {F : Nat → Int32} {o : List Int32} (hw : zWr h m F o) (hl : o.length + 11 ≤ 700) : zAp m F o (yilen x) (yilen x) h (zcall zP sv (d + 12) 282 [.ref m, .int x] h) none := by
  have hm := hw.1
  have h2 := Int32.toInt_lt x
  have h3 := Int32.le_toInt x
  have e45 : ynr (nI 45) = nI 45 := by decide +kernel
  have k45 : ychr (nI 45) := by show zty 7 (.int (nI 45)) = true; decide +kernel
  have hdl := ydgn_le 9 x.toInt.natAbs
  by_cases c : x < 0
  · obtain ⟨h1, G, p, e1, w1, l1, l2, g1, k1⟩ := e_280 (sv := sv) (d := d + 10) (c := nI 45) hw (by omega) e45 k45
    obtain ⟨h4, G2, p2, e2, w2, l3, l4, g2, k2⟩ := e_281 (sv := sv) (m := m) 9 x.toInt.natAbs h1 G (o ++ p) (d + 11) (by omega) (by omega) (by rw [List.length_append]; omega) (by omega) w1
    have hm1 := w1.1
    have ey : yilen x = 1 + ydgn 9 x.toInt.natAbs := by unfold yilen; rw [if_pos c]
    refine ⟨h4, G2, p ++ p2, ?_, by rw [← List.append_assoc]; exact w2, by rw [List.length_append]; omega, by rw [List.length_append]; omega, fun j hj => (g2 j hj).trans (g1 j hj), zow_tr k1 k2⟩
    simp (disch := first | exact znw_u | exact znw_i) only [zc_282, zs_282_0, zs_282_1, zs_282_4, zs_282_5, zs_282_7, zs_282_10, zs_282_11, zs_282_12, zs_282_13, zs_282_16, zs_282_19, if_pos c, nL_abs, hm, hm1, zrc_13v, e1, e2, zbk_v, zts_n, List.cons_append, List.nil_append]
  · obtain ⟨h4, G2, p2, e2, w2, l3, l4, g2, k2⟩ := e_281 (sv := sv) (m := m) 9 x.toInt.natAbs h F o (d + 11) (by omega) (by omega) (by omega) (by omega) hw
    have ey : yilen x = ydgn 9 x.toInt.natAbs := by unfold yilen; rw [if_neg c]; omega
    refine ⟨h4, G2, p2, ?_, w2, by omega, by omega, g2, k2⟩
    simp (disch := first | exact znw_u | exact znw_i) only [zc_282, zs_282_0, zs_282_1, zs_282_10, zs_282_11, zs_282_12, zs_282_13, zs_282_16, zs_282_19, if_neg c, nL_abs, hm, zrc_13v, e2, zbk_v, zts_n, List.cons_append, List.nil_append]
theorem yopn_nr : ∀ k, k < 20 → nI k - nI k / nI 10 * nI 10 = nI (k % 10) ∧ (nI (k % 10)).toInt64 = nL (k % 10) := by decide +kernel
theorem e_283 {k : Nat} {h : zH} {F : Nat → Int32} {o : List Int32} (hk : k < 20) (hw : zWr h m F o) (hl : o.length + 2 ≤ 700) : zAp m F o 2 2 h (zcall zP sv (d + 3) 283 [.ref m, .int (nI k)] h) none := by
  have hm := hw.1
  have e114 : ynr (nI 114) = nI 114 := by decide +kernel
  have k114 : ychr (nI 114) := by show zty 7 (.int (nI 114)) = true; decide +kernel
  have e109 : ynr (nI 109) = nI 109 := by decide +kernel
  have k109 : ychr (nI 109) := by show zty 7 (.int (nI 109)) = true; decide +kernel
  obtain ⟨q1, q2⟩ := yopn_nr k hk
  by_cases c : nI k < nI 10
  · obtain ⟨h1, G, p, e1, w1, l1, l2, g1, k1⟩ := e_280 (sv := sv) (d := d + 1) (c := nI 114) hw (by omega) e114 k114
    obtain ⟨h4, G2, p2, e2, w2, l3, l4, g2, k2⟩ := e_281 (sv := sv) (m := m) 0 (k % 10) h1 G (o ++ p) (d + 2) (by omega) (by omega) (by rw [List.length_append]; omega) (by omega) w1
    have hm1 := w1.1
    have ey : ydgn 0 (k % 10) = 1 := rfl
    refine ⟨h4, G2, p ++ p2, ?_, by rw [← List.append_assoc]; exact w2, by rw [List.length_append]; omega, by rw [List.length_append]; omega, fun j hj => (g2 j hj).trans (g1 j hj), zow_tr k1 k2⟩
    simp (disch := first | exact znw_u | exact znw_i) only [zc_283, zs_283_0, zs_283_1, zs_283_2, zs_283_4, zs_283_7, zs_283_9, zs_283_14, zs_283_17, zs_283_18, zs_283_19, zs_283_21, zs_283_22, zs_283_23, zs_283_26, if_pos c, q1, q2, hm, hm1, zrc_13v, e1, e2, zbk_v, zts_n, List.cons_append, List.nil_append]
  · obtain ⟨h1, G, p, e1, w1, l1, l2, g1, k1⟩ := e_280 (sv := sv) (d := d + 1) (c := nI 109) hw (by omega) e109 k109
    obtain ⟨h4, G2, p2, e2, w2, l3, l4, g2, k2⟩ := e_281 (sv := sv) (m := m) 0 (k % 10) h1 G (o ++ p) (d + 2) (by omega) (by omega) (by rw [List.length_append]; omega) (by omega) w1
    have hm1 := w1.1
    have ey : ydgn 0 (k % 10) = 1 := rfl
    refine ⟨h4, G2, p ++ p2, ?_, by rw [← List.append_assoc]; exact w2, by rw [List.length_append]; omega, by rw [List.length_append]; omega, fun j hj => (g2 j hj).trans (g1 j hj), zow_tr k1 k2⟩
    simp (disch := first | exact znw_u | exact znw_i) only [zc_283, zs_283_0, zs_283_1, zs_283_2, zs_283_4, zs_283_12, zs_283_14, zs_283_17, zs_283_18, zs_283_19, zs_283_21, zs_283_22, zs_283_23, zs_283_26, if_neg c, q1, q2, hm, hm1, zrc_13v, e1, e2, zbk_v, zts_n, List.cons_append, List.nil_append]
end ZQV

section ZQW
variable {sv : Nat → Value} {d : Nat} {m : Nat} {h : zH} {w : yW} {th : Int32} {i : Nat} {t : yT} {M : Nat}
/-- another output -/
def yso (w : yW) (o : List Int32) : yW := (w.1, w.2.1, w.2.2.1, w.2.2.2.1, w.2.2.2.2.1, w.2.2.2.2.2.1, o)
/-- how many signs an instruction is written with -/
def ywil (x : yI) : Nat := if x.1 = nI 99 then 3 + yilen x.2.2.1 else if x.1 = nI 118 then 4 else if x.1 = nI 115 then 5 else if x.1 = nI 110 then 6 else 8
theorem ypl_lt : ∀ x, x ≤ 12 → ∃ k, k < 20 ∧ ypl (nI x) = nI k := by
  intro x hx
  have h1 : ∀ x, x ≤ 12 → ypl (nI x) = nI (if 3 < x then x + 6 else x) := by decide +kernel
  exact ⟨_, by split <;> omega, h1 x hx⟩
theorem ylet_w {v : Int32} (hv : ylet v = true) : nI 97 + (v - nI 97) = v ∧ (v.toUInt32 % 65536).toInt32 = v ∧ ynr v = v ∧ ychr v := by
  obtain ⟨k, hk, rfl⟩ := ylet_of hv
  have h1 : ∀ k, k < 6 → nI 97 + (nI (97 + k) - nI 97) = nI (97 + k) ∧ ((nI (97 + k)).toUInt32 % 65536).toInt32 = nI (97 + k) ∧ ynr (nI (97 + k)) = nI (97 + k) ∧ zty 7 (.int (nI (97 + k))) = true := by decide +kernel
  exact h1 k hk
theorem yis_w {k : Int32} (hk : yis k = true) : ychr k := by
  have h1 : zty 7 (.int (nI 43)) = true ∧ zty 7 (.int (nI 45)) = true ∧ zty 7 (.int (nI 42)) = true := by decide +kernel
  rcases yis_k hk with g | g | g <;> rw [g]
  · exact h1.1
  · exact h1.2.1
  · exact h1.2.2
/-- what a writing call does: another output, and its length -/
def zMw (m : Nat) (h : zH) (r : zR) (n : Nat) (w : yW) : Prop := ∃ (h' : zH) (o : List Int32), r = some (.inl (some (.int (nI n))), h') ∧ zMdl h' m (yso w o) 0 ∧ zmw m h h' ∧ o.length = n ∧ (∀ x, x ∈ o → ychr x)
theorem zMw_of {F G : Nat → Int32} {h h1 h2 : zH} {o : List Int32} {n : Nat} {r : zR} (hr : r = some (.inl (some (.int (nI n))), h2)) (hf : F 31 = 0) (hw : zWk h m F (ycur w)) (hT : ∃ T, zTab h (m + 2) T) (hR : zRst h m F w) (hA : yAok (ycur w)) (hk : zmw m h1 h) (hz : zWr h2 m G o) (hG : ∀ j, j ≠ 24 → G j = F j) (ho : zow m h h2) (hn : o.length = n) : zMw m h1 r n w := by
  obtain ⟨T, hT⟩ := hT
  obtain ⟨z0, z24, zt, zx⟩ := hz
  obtain ⟨⟨r3, r5, _, r26, r29, r8⟩, rk, ⟨S, rS, rS'⟩, _, r17⟩ := hR
  refine ⟨h2, o, hr, ⟨G, by rw [hG _ (by omega), hf], zWk_cg hw z0 (fun q hq => ho.1 q (by omega) (by omega)), ⟨T, zTab_cg hT (ho.1 _ (by omega) (by omega))⟩, ⟨⟨by rw [hG _ (by omega), r3]; rfl, by rw [hG _ (by omega), r5]; rfl, z24, by rw [hG _ (by omega), r26]; rfl, by rw [hG _ (by omega), r29]; rfl, r8⟩, ?_, ⟨S, zTab_cg rS (ho.1 _ (by omega) (by omega)), rS'⟩, zt, zTx_cg r17 (ho.1 _ (by omega) (by omega))⟩, hA⟩, zmw_tr hk ⟨fun q hq => ho.1 q (by omega) (by omega), ho.2⟩, hn, zx⟩
  obtain ⟨K, k1, k2, k3⟩ := rk
  exact ⟨K, by rw [ho.1 _ (by omega) (by omega), k1], k2, k3⟩
theorem e_284x {x y : Int32} (hM : zMdl h m w th) (hR : (ycur w).2.2.1 = nI M) (hx : yinF (ycur w) x = false) : zMC m h (zcall zP sv (d + 9) 284 [.ref m, .int x, .int y] h) 0 w (nI 1) := by
  obtain ⟨h1, e1, m1, k1⟩ := e_277x (sv := sv) (d := d) (y := y) hM hR hx
  have r0 : ∀ X : zR, zrc (h.1 m) 13 X = X := fun X => zMdl_rc hM
  refine ⟨h1, ?_, m1, k1⟩
  simp only [zc_284, zs_284_0, zs_284_1, zs_284_2, zs_284_3, zs_284_6, zs_284_9, zs_284_10, r0, e1, zbk_v, zts_s, ↓reduceIte, List.cons_append, List.nil_append]
theorem e_284o {y : Int32} (hM : zMdl h m w th) (hi : (ycur w).1[i]? = some t) (hR : (ycur w).2.2.1 = nI M) (h1M : 1 ≤ M) (hM4 : M ≤ 4) (hy : yinC (yco M t 0 0) y = false) : zMC m h (zcall zP sv (d + 13) 284 [.ref m, .int (nI i), .int y] h) 0 w (nI 1) := by
  obtain ⟨h1, e1, m1, k1⟩ := e_277o (sv := sv) (d := d) (y := y) hM hi hR h1M hM4 hy
  have r0 : ∀ X : zR, zrc (h.1 m) 13 X = X := fun X => zMdl_rc hM
  refine ⟨h1, ?_, m1, k1⟩
  simp only [zc_284, zs_284_0, zs_284_1, zs_284_2, zs_284_3, zs_284_6, zs_284_9, zs_284_10, r0, e1, zbk_v, zts_s, ↓reduceIte, List.cons_append, List.nil_append]
theorem e_284 {n : Nat} {x : yI} (hM : zMdl h m w th) (hi : (ycur w).1[i]? = some t) (hR : (ycur w).2.2.1 = nI M) (h1M : 1 ≤ M) (hM4 : M ≤ 4) (hy : yinC (yco M t 0 0) (nI n) = true) (hx : (yco M t 0 0)[n]? = some x) : zMw m h (zcall zP sv (d + 14) 284 [.ref m, .int (nI i), .int (nI n)] h) (ywil x) w := by
  obtain ⟨h1, e1, m1, k1⟩ := e_277 (sv := sv) (d := d + 1) hM hi hR h1M hM4 hy
  have r0 : ∀ X : zR, zrc (h.1 m) 13 X = X := fun X => zMdl_rc hM
  obtain ⟨F1, f31, ⟨s0, _, _, _, _, sC⟩, a3, a4, a5, a6, tk⟩ := m1
  have ok := yco_ok hM4 (ysz t) t (Nat.le_refl _) (by have := tk.2.1; omega) tk.1 0 0 (by omega) (by have := tk.2.2; omega) x (List.mem_of_getElem? hx)
  obtain ⟨g12, g13, g14, g15⟩ := zCdM_at sC hx
  obtain ⟨X12, x12⟩ : ∃ X, h1.1 (m + 12) = X := ⟨_, rfl⟩
  obtain ⟨X13, x13⟩ : ∃ X, h1.1 (m + 13) = X := ⟨_, rfl⟩
  obtain ⟨X14, x14⟩ : ∃ X, h1.1 (m + 14) = X := ⟨_, rfl⟩
  obtain ⟨X15, x15⟩ : ∃ X, h1.1 (m + 15) = X := ⟨_, rfl⟩
  rw [x12] at g12
  rw [x13] at g13
  rw [x14] at g14
  rw [x15] at g15
  obtain ⟨h2, hh2⟩ : ∃ h2, h2 = zup h1 m (13, zMF m (yup F1 24 0)) := ⟨_, rfl⟩
  obtain ⟨_, _, _, ⟨B, b1, b2, b3, b4⟩, _⟩ := id a5
  have w2 : zWr h2 m (yup F1 24 0) [] := ⟨by rw [hh2, zup_at], yup_eq, ⟨B, by rw [hh2, zup_ne (by omega), b1], b2, rfl, Nat.zero_le _⟩, fun x hx => by cases hx⟩
  have f2 : ∀ a, a ≠ m → a ≠ m + 16 → h2.1 a = h1.1 a := fun a a1 _ => by rw [hh2, zup_ne a1]
  have k2 : zow m h1 h2 := ⟨f2, by rw [hh2]; rfl⟩
  have v2 : ∀ j, j ≠ 24 → yup F1 24 0 j = F1 j := fun j hj => yup_ne hj
  have y12 : h2.1 (m + 12) = X12 := by rw [f2 _ (by omega) (by omega), x12]
  have y13 : h2.1 (m + 13) = X13 := by rw [f2 _ (by omega) (by omega), x13]
  have y14 : h2.1 (m + 14) = X14 := by rw [f2 _ (by omega) (by omega), x14]
  have y15 : h2.1 (m + 15) = X15 := by rw [f2 _ (by omega) (by omega), x15]
  have t0 := w2.1
  have n10 : ¬ nI 1 = 0 := by decide +kernel
  have e61 : ynr (nI 61) = nI 61 := by decide +kernel
  have c61 : ychr (nI 61) := by show zty 7 (.int (nI 61)) = true; decide +kernel
  have e45 : ynr (nI 45) = nI 45 := by decide +kernel
  have c45 : ychr (nI 45) := by show zty 7 (.int (nI 45)) = true; decide +kernel
  have p1 : ¬ nI 99 = nI 115 := by decide +kernel
  have p2 : ¬ nI 118 = nI 115 := by decide +kernel
  have p3 : ¬ nI 118 = nI 99 := by decide +kernel
  have p4 : ¬ nI 115 = nI 99 := by decide +kernel
  have p5 : ¬ nI 115 = nI 118 := by decide +kernel
  have p6 : ¬ nI 110 = nI 99 := by decide +kernel
  have p7 : ¬ nI 110 = nI 118 := by decide +kernel
  have p8 : ¬ nI 110 = nI 115 := by decide +kernel
  obtain ⟨⟨b, hb, eb⟩, hcase⟩ := ok
  have head : [zrun zP sv (zcall zP sv (d + 13)) 284 23 [.val (.ref m), .val (.int (nI i)), .val (.int (nI n)), .val (.int x.1)] [] h2] = [zcall zP sv (d + 14) 284 [.ref m, .int (nI i), .int (nI n)] h] := by
    simp (disch := first | exact znw_u | exact znw_i) only [zc_284, zs_284_0, zs_284_1, zs_284_2, zs_284_3, zs_284_6, zs_284_11, zs_284_12, zs_284_13, zs_284_16, zs_284_17, zs_284_20, zs_284_21, zs_284_22, r0, e1, zbk_v, zts_s, if_neg n10, s0, zmp_24, ← hh2, t0, zmf_15, y12, g12, List.cons_append, List.nil_append]
  have head := (List.cons.inj head).1
  rw [← head]
  rcases hcase with g | g | g | g | g
  · obtain ⟨k, b', nn, ll, rr⟩ := x
    have g : k = nI 99 := g
    subst g
    have eb : b' = nI b := eb
    subst eb
    have e0 : ylf (nI 99, nI b, nn, ll, rr) = nn := by unfold ylf; rw [if_pos rfl]
    rw [e0] at g14
    have hl := yilen_le nn
    obtain ⟨h3, G3, q3, e3, w3, l3, l3', v3, k3⟩ := e_283 (sv := sv) (d := d + 10) (show b < 20 by omega) w2 (by show 0 + 2 ≤ 700; omega)
    have t3 := w3.1
    have y13_3 : h3.1 (m + 13) = X13 := by rw [k3.1 _ (by omega) (by omega), y13]
    have y14_3 : h3.1 (m + 14) = X14 := by rw [k3.1 _ (by omega) (by omega), y14]
    have y15_3 : h3.1 (m + 15) = X15 := by rw [k3.1 _ (by omega) (by omega), y15]
    obtain ⟨h4, G4, q4, e4, w4, l4, l4', v4, k4⟩ := e_280 (sv := sv) (d := d + 12) (c := nI 61) w3 (by simp only [List.length_append, List.length_nil]; omega) e61 c61
    have t4 := w4.1
    have y13_4 : h4.1 (m + 13) = X13 := by rw [k4.1 _ (by omega) (by omega), y13_3]
    have y14_4 : h4.1 (m + 14) = X14 := by rw [k4.1 _ (by omega) (by omega), y14_3]
    have y15_4 : h4.1 (m + 15) = X15 := by rw [k4.1 _ (by omega) (by omega), y15_3]
    obtain ⟨h5, G5, q5, e5, w5, l5, l5', v5, k5⟩ := e_282 (sv := sv) (d := d + 1) (x := nn) w4 (by simp only [List.length_append, List.length_nil]; omega)
    have t5 := w5.1
    have y13_5 : h5.1 (m + 13) = X13 := by rw [k5.1 _ (by omega) (by omega), y13_4]
    have y14_5 : h5.1 (m + 14) = X14 := by rw [k5.1 _ (by omega) (by omega), y14_4]
    have y15_5 : h5.1 (m + 15) = X15 := by rw [k5.1 _ (by omega) (by omega), y15_4]
    have m24 := w5.2.1
    have hlen : ([] ++ q3 ++ q4 ++ q5).length = ywil (nI 99, nI b, nn, ll, rr) := by
      simp only [List.length_append, List.length_nil]
      unfold ywil
      rw [if_pos rfl]
      show 0 + _ + _ + _ = 3 + yilen nn
      omega
    rw [hlen] at m24
    refine zMw_of ?_ f31 a3 a4 a5 a6 k1 w5 (fun j hj => (v5 j hj).trans ((v4 j hj).trans ((v3 j hj).trans (v2 j hj)))) (zow_tr (zow_tr (zow_tr k2 k3) k4) k5) hlen
    simp (disch := first | exact znw_u | exact znw_i) only [zs_284_23, zs_284_24, zs_284_25, zs_284_27, zs_284_42, zs_284_43, zs_284_46, zs_284_47, zs_284_48, zs_284_51, zs_284_52, zs_284_54, zs_284_57, zs_284_58, zs_284_60, zs_284_63, zs_284_64, zs_284_65, zs_284_68, zs_284_69, zs_284_70, zs_284_73, zs_284_167, zs_284_168, zs_284_171, t0, zmf_16, zmf_17, zmf_18, zmf_24, y13, y14, y15, g13, g14, g15, zrc_13v, zbk_v, zts_n, e3, e4, e5, t3, t4, t5, y13_3, y14_3, y15_3, y13_4, y14_4, y15_4, y13_5, y14_5, y15_5, m24, if_neg p1, ↓reduceIte, List.cons_append, List.nil_append]
  · obtain ⟨k, b', nn, ll, rr⟩ := x
    have gl : ylet nn = true := g.2
    have g : k = nI 118 := g.1
    subst g
    have eb : b' = nI b := eb
    subst eb
    have e0 : ylf (nI 118, nI b, nn, ll, rr) = nn - nI 97 := by unfold ylf; rw [if_neg p3, if_pos rfl]
    rw [e0] at g14
    obtain ⟨z1, z2, z3, z4⟩ := ylet_w gl
    obtain ⟨h3, G3, q3, e3, w3, l3, l3', v3, k3⟩ := e_283 (sv := sv) (d := d + 10) (show b < 20 by omega) w2 (by show 0 + 2 ≤ 700; omega)
    have t3 := w3.1
    have y13_3 : h3.1 (m + 13) = X13 := by rw [k3.1 _ (by omega) (by omega), y13]
    have y14_3 : h3.1 (m + 14) = X14 := by rw [k3.1 _ (by omega) (by omega), y14]
    have y15_3 : h3.1 (m + 15) = X15 := by rw [k3.1 _ (by omega) (by omega), y15]
    obtain ⟨h4, G4, q4, e4, w4, l4, l4', v4, k4⟩ := e_280 (sv := sv) (d := d + 12) (c := nI 61) w3 (by simp only [List.length_append, List.length_nil]; omega) e61 c61
    have t4 := w4.1
    have y13_4 : h4.1 (m + 13) = X13 := by rw [k4.1 _ (by omega) (by omega), y13_3]
    have y14_4 : h4.1 (m + 14) = X14 := by rw [k4.1 _ (by omega) (by omega), y14_3]
    have y15_4 : h4.1 (m + 15) = X15 := by rw [k4.1 _ (by omega) (by omega), y15_3]
    obtain ⟨h5, G5, q5, e5, w5, l5, l5', v5, k5⟩ := e_280 (sv := sv) (d := d + 12) (c := nn) w4 (by simp only [List.length_append, List.length_nil]; omega) z3 z4
    have t5 := w5.1
    have y13_5 : h5.1 (m + 13) = X13 := by rw [k5.1 _ (by omega) (by omega), y13_4]
    have y14_5 : h5.1 (m + 14) = X14 := by rw [k5.1 _ (by omega) (by omega), y14_4]
    have y15_5 : h5.1 (m + 15) = X15 := by rw [k5.1 _ (by omega) (by omega), y15_4]
    have m24 := w5.2.1
    have hlen : ([] ++ q3 ++ q4 ++ q5).length = ywil (nI 118, nI b, nn, ll, rr) := by
      simp only [List.length_append, List.length_nil]
      unfold ywil
      rw [if_neg p3, if_pos rfl]
      show 0 + _ + _ + _ = 4
      omega
    rw [hlen] at m24
    refine zMw_of ?_ f31 a3 a4 a5 a6 k1 w5 (fun j hj => (v5 j hj).trans ((v4 j hj).trans ((v3 j hj).trans (v2 j hj)))) (zow_tr (zow_tr (zow_tr k2 k3) k4) k5) hlen
    simp (disch := first | exact znw_u | exact znw_i) only [zs_284_23, zs_284_24, zs_284_25, zs_284_27, zs_284_42, zs_284_43, zs_284_46, zs_284_47, zs_284_48, zs_284_51, zs_284_52, zs_284_54, zs_284_57, zs_284_58, zs_284_60, zs_284_76, zs_284_77, zs_284_79, zs_284_82, zs_284_83, zs_284_85, zs_284_86, zs_284_89, zs_284_90, zs_284_91, zs_284_92, zs_284_93, zs_284_96, zs_284_167, zs_284_168, zs_284_171, t0, zmf_16, zmf_17, zmf_18, zmf_24, y13, y14, y15, g13, g14, g15, zrc_13v, zbk_v, zts_n, e3, e4, e5, t3, t4, t5, y13_3, y14_3, y15_3, y13_4, y14_4, y15_4, y13_5, y14_5, y15_5, m24, if_neg p2, if_neg p3, z1, z2, ↓reduceIte, List.cons_append, List.nil_append]
  · obtain ⟨k, b', nn, ll, rr⟩ := x
    have gl : ll = b' := g.2
    have g : k = nI 110 := g.1
    subst g
    have eb : b' = nI b := eb
    subst eb
    subst gl
    have e0 : ylf (nI 110, nI b, nn, nI b, rr) = nI b := by unfold ylf; rw [if_neg p6, if_neg p7, if_pos rfl]
    rw [e0] at g14
    obtain ⟨h3, G3, q3, e3, w3, l3, l3', v3, k3⟩ := e_283 (sv := sv) (d := d + 10) (show b < 20 by omega) w2 (by show 0 + 2 ≤ 700; omega)
    have t3 := w3.1
    have y13_3 : h3.1 (m + 13) = X13 := by rw [k3.1 _ (by omega) (by omega), y13]
    have y14_3 : h3.1 (m + 14) = X14 := by rw [k3.1 _ (by omega) (by omega), y14]
    have y15_3 : h3.1 (m + 15) = X15 := by rw [k3.1 _ (by omega) (by omega), y15]
    obtain ⟨h4, G4, q4, e4, w4, l4, l4', v4, k4⟩ := e_280 (sv := sv) (d := d + 12) (c := nI 61) w3 (by simp only [List.length_append, List.length_nil]; omega) e61 c61
    have t4 := w4.1
    have y13_4 : h4.1 (m + 13) = X13 := by rw [k4.1 _ (by omega) (by omega), y13_3]
    have y14_4 : h4.1 (m + 14) = X14 := by rw [k4.1 _ (by omega) (by omega), y14_3]
    have y15_4 : h4.1 (m + 15) = X15 := by rw [k4.1 _ (by omega) (by omega), y15_3]
    obtain ⟨h5, G5, q5, e5, w5, l5, l5', v5, k5⟩ := e_280 (sv := sv) (d := d + 12) (c := nI 45) w4 (by simp only [List.length_append, List.length_nil]; omega) e45 c45
    have t5 := w5.1
    have y13_5 : h5.1 (m + 13) = X13 := by rw [k5.1 _ (by omega) (by omega), y13_4]
    have y14_5 : h5.1 (m + 14) = X14 := by rw [k5.1 _ (by omega) (by omega), y14_4]
    have y15_5 : h5.1 (m + 15) = X15 := by rw [k5.1 _ (by omega) (by omega), y15_4]
    obtain ⟨h6, G6, q6, e6, w6, l6, l6', v6, k6⟩ := e_283 (sv := sv) (d := d + 10) (show b < 20 by omega) w5 (by simp only [List.length_append, List.length_nil]; omega)
    have t6 := w6.1
    have y13_6 : h6.1 (m + 13) = X13 := by rw [k6.1 _ (by omega) (by omega), y13_5]
    have y14_6 : h6.1 (m + 14) = X14 := by rw [k6.1 _ (by omega) (by omega), y14_5]
    have y15_6 : h6.1 (m + 15) = X15 := by rw [k6.1 _ (by omega) (by omega), y15_5]
    have m24 := w6.2.1
    have hlen : ([] ++ q3 ++ q4 ++ q5 ++ q6).length = ywil (nI 110, nI b, nn, nI b, rr) := by
      simp only [List.length_append, List.length_nil]
      unfold ywil
      rw [if_neg p6, if_neg p7, if_neg p8, if_pos rfl]
      show 0 + _ + _ + _ + _ = 6
      omega
    rw [hlen] at m24
    refine zMw_of ?_ f31 a3 a4 a5 a6 k1 w6 (fun j hj => (v6 j hj).trans ((v5 j hj).trans ((v4 j hj).trans ((v3 j hj).trans (v2 j hj))))) (zow_tr (zow_tr (zow_tr (zow_tr k2 k3) k4) k5) k6) hlen
    simp (disch := first | exact znw_u | exact znw_i) only [zs_284_23, zs_284_24, zs_284_25, zs_284_27, zs_284_42, zs_284_43, zs_284_46, zs_284_47, zs_284_48, zs_284_51, zs_284_52, zs_284_54, zs_284_57, zs_284_58, zs_284_60, zs_284_76, zs_284_77, zs_284_79, zs_284_99, zs_284_100, zs_284_102, zs_284_118, zs_284_119, zs_284_121, zs_284_124, zs_284_125, zs_284_127, zs_284_130, zs_284_131, zs_284_132, zs_284_135, zs_284_136, zs_284_137, zs_284_140, zs_284_141, zs_284_143, zs_284_151, zs_284_152, zs_284_154, zs_284_167, zs_284_168, zs_284_171, t0, zmf_16, zmf_17, zmf_18, zmf_24, y13, y14, y15, g13, g14, g15, zrc_13v, zbk_v, zts_n, e3, e4, e5, e6, t3, t4, t5, t6, y13_3, y14_3, y15_3, y13_4, y14_4, y15_4, y13_5, y14_5, y15_5, y13_6, y14_6, y15_6, m24, if_neg p6, if_neg p7, if_neg p8, ↓reduceIte, List.cons_append, List.nil_append]
  · obtain ⟨k, b', nn, ll, rr⟩ := x
    obtain ⟨j, hj, ej⟩ := g.2.1
    have g : k = nI 115 := g.1
    subst g
    have eb : b' = nI b := eb
    subst eb
    have ej : nn = nI j := ej
    subst ej
    have e0 : ylf (nI 115, nI b, nI j, ll, rr) = nI j := by unfold ylf; rw [if_neg p4, if_neg p5, if_neg (Ne.symm p8), if_pos rfl]
    rw [e0] at g14
    obtain ⟨h3, G3, q3, e3, w3, l3, l3', v3, k3⟩ := e_283 (sv := sv) (d := d + 10) (show 10 + j < 20 by omega) w2 (by show 0 + 2 ≤ 700; omega)
    have t3 := w3.1
    have y13_3 : h3.1 (m + 13) = X13 := by rw [k3.1 _ (by omega) (by omega), y13]
    have y14_3 : h3.1 (m + 14) = X14 := by rw [k3.1 _ (by omega) (by omega), y14]
    have y15_3 : h3.1 (m + 15) = X15 := by rw [k3.1 _ (by omega) (by omega), y15]
    obtain ⟨h4, G4, q4, e4, w4, l4, l4', v4, k4⟩ := e_280 (sv := sv) (d := d + 12) (c := nI 61) w3 (by simp only [List.length_append, List.length_nil]; omega) e61 c61
    have t4 := w4.1
    have y13_4 : h4.1 (m + 13) = X13 := by rw [k4.1 _ (by omega) (by omega), y13_3]
    have y14_4 : h4.1 (m + 14) = X14 := by rw [k4.1 _ (by omega) (by omega), y14_3]
    have y15_4 : h4.1 (m + 15) = X15 := by rw [k4.1 _ (by omega) (by omega), y15_3]
    obtain ⟨h5, G5, q5, e5, w5, l5, l5', v5, k5⟩ := e_283 (sv := sv) (d := d + 10) (show b < 20 by omega) w4 (by simp only [List.length_append, List.length_nil]; omega)
    have t5 := w5.1
    have y13_5 : h5.1 (m + 13) = X13 := by rw [k5.1 _ (by omega) (by omega), y13_4]
    have y14_5 : h5.1 (m + 14) = X14 := by rw [k5.1 _ (by omega) (by omega), y14_4]
    have y15_5 : h5.1 (m + 15) = X15 := by rw [k5.1 _ (by omega) (by omega), y15_4]
    have m24 := w5.2.1
    have hlen : ([] ++ q3 ++ q4 ++ q5).length = ywil (nI 115, nI b, nI j, ll, rr) := by
      simp only [List.length_append, List.length_nil]
      unfold ywil
      rw [if_neg p4, if_neg p5, if_pos rfl]
      show 0 + _ + _ + _ = 5
      omega
    rw [hlen] at m24
    refine zMw_of ?_ f31 a3 a4 a5 a6 k1 w5 (fun j hj => (v5 j hj).trans ((v4 j hj).trans ((v3 j hj).trans (v2 j hj)))) (zow_tr (zow_tr (zow_tr k2 k3) k4) k5) hlen
    simp (disch := first | exact znw_u | exact znw_i) only [zs_284_23, zs_284_24, zs_284_25, zs_284_27, zs_284_30, zs_284_32, zs_284_33, zs_284_36, zs_284_37, zs_284_38, zs_284_39, zs_284_48, zs_284_51, zs_284_52, zs_284_54, zs_284_57, zs_284_58, zs_284_60, zs_284_76, zs_284_77, zs_284_79, zs_284_99, zs_284_100, zs_284_102, zs_284_105, zs_284_106, zs_284_107, zs_284_110, zs_284_111, zs_284_112, zs_284_115, zs_284_167, zs_284_168, zs_284_171, t0, zmf_16, zmf_17, zmf_18, zmf_24, y13, y14, y15, g13, g14, g15, zrc_13v, zbk_v, zts_n, e3, e4, e5, t3, t4, t5, y13_3, y14_3, y15_3, y13_4, y14_4, y15_4, y13_5, y14_5, y15_5, m24, if_neg p4, if_neg p5, nI_add, ↓reduceIte, List.cons_append, List.nil_append]
  · obtain ⟨k, b', nn, ll, rr⟩ := x
    obtain ⟨gk, ⟨xx, hxx, exx⟩, ⟨yy, hyy, eyy⟩⟩ := g
    have gk : yis k = true := gk
    have exx : ll = nI xx := exx
    have eyy : rr = nI yy := eyy
    subst exx eyy
    have eb : b' = nI b := eb
    subst eb
    obtain ⟨u1, u2, u3, u4⟩ := yis_ne gk
    have e0 : ylf (k, nI b, nn, nI xx, nI yy) = ypl (nI xx) := by unfold ylf; rw [if_neg u1, if_neg u2, if_neg u3, if_neg u4]
    have e0' : yrt (k, nI b, nn, nI xx, nI yy) = ypl (nI yy) := by unfold yrt; rw [if_pos gk]
    obtain ⟨kx, hkx, ekx⟩ := ypl_lt xx hxx
    obtain ⟨ky, hky, eky⟩ := ypl_lt yy hyy
    rw [e0, ekx] at g14
    rw [e0', eky] at g15
    obtain ⟨h3, G3, q3, e3, w3, l3, l3', v3, k3⟩ := e_283 (sv := sv) (d := d + 10) (show b < 20 by omega) w2 (by show 0 + 2 ≤ 700; omega)
    have t3 := w3.1
    have y13_3 : h3.1 (m + 13) = X13 := by rw [k3.1 _ (by omega) (by omega), y13]
    have y14_3 : h3.1 (m + 14) = X14 := by rw [k3.1 _ (by omega) (by omega), y14]
    have y15_3 : h3.1 (m + 15) = X15 := by rw [k3.1 _ (by omega) (by omega), y15]
    obtain ⟨h4, G4, q4, e4, w4, l4, l4', v4, k4⟩ := e_280 (sv := sv) (d := d + 12) (c := nI 61) w3 (by simp only [List.length_append, List.length_nil]; omega) e61 c61
    have t4 := w4.1
    have y13_4 : h4.1 (m + 13) = X13 := by rw [k4.1 _ (by omega) (by omega), y13_3]
    have y14_4 : h4.1 (m + 14) = X14 := by rw [k4.1 _ (by omega) (by omega), y14_3]
    have y15_4 : h4.1 (m + 15) = X15 := by rw [k4.1 _ (by omega) (by omega), y15_3]
    obtain ⟨h5, G5, q5, e5, w5, l5, l5', v5, k5⟩ := e_283 (sv := sv) (d := d + 10) hkx w4 (by simp only [List.length_append, List.length_nil]; omega)
    have t5 := w5.1
    have y13_5 : h5.1 (m + 13) = X13 := by rw [k5.1 _ (by omega) (by omega), y13_4]
    have y14_5 : h5.1 (m + 14) = X14 := by rw [k5.1 _ (by omega) (by omega), y14_4]
    have y15_5 : h5.1 (m + 15) = X15 := by rw [k5.1 _ (by omega) (by omega), y15_4]
    obtain ⟨h6, G6, q6, e6, w6, l6, l6', v6, k6⟩ := e_280 (sv := sv) (d := d + 12) (c := k) w5 (by simp only [List.length_append, List.length_nil]; omega) (yis_nr gk) (yis_w gk)
    have t6 := w6.1
    have y13_6 : h6.1 (m + 13) = X13 := by rw [k6.1 _ (by omega) (by omega), y13_5]
    have y14_6 : h6.1 (m + 14) = X14 := by rw [k6.1 _ (by omega) (by omega), y14_5]
    have y15_6 : h6.1 (m + 15) = X15 := by rw [k6.1 _ (by omega) (by omega), y15_5]
    obtain ⟨h7, G7, q7, e7, w7, l7, l7', v7, k7⟩ := e_283 (sv := sv) (d := d + 10) hky w6 (by simp only [List.length_append, List.length_nil]; omega)
    have t7 := w7.1
    have y13_7 : h7.1 (m + 13) = X13 := by rw [k7.1 _ (by omega) (by omega), y13_6]
    have y14_7 : h7.1 (m + 14) = X14 := by rw [k7.1 _ (by omega) (by omega), y14_6]
    have y15_7 : h7.1 (m + 15) = X15 := by rw [k7.1 _ (by omega) (by omega), y15_6]
    have m24 := w7.2.1
    have hlen : ([] ++ q3 ++ q4 ++ q5 ++ q6 ++ q7).length = ywil (k, nI b, nn, nI xx, nI yy) := by
      simp only [List.length_append, List.length_nil]
      unfold ywil
      rw [if_neg u1, if_neg u2, if_neg u4, if_neg u3]
      show 0 + _ + _ + _ + _ + _ = 8
      omega
    rw [hlen] at m24
    refine zMw_of ?_ f31 a3 a4 a5 a6 k1 w7 (fun j hj => (v7 j hj).trans ((v6 j hj).trans ((v5 j hj).trans ((v4 j hj).trans ((v3 j hj).trans (v2 j hj)))))) (zow_tr (zow_tr (zow_tr (zow_tr (zow_tr k2 k3) k4) k5) k6) k7) hlen
    simp (disch := first | exact znw_u | exact znw_i) only [zs_284_23, zs_284_24, zs_284_25, zs_284_27, zs_284_42, zs_284_43, zs_284_46, zs_284_47, zs_284_48, zs_284_51, zs_284_52, zs_284_54, zs_284_57, zs_284_58, zs_284_60, zs_284_76, zs_284_77, zs_284_79, zs_284_99, zs_284_100, zs_284_102, zs_284_118, zs_284_119, zs_284_121, zs_284_130, zs_284_131, zs_284_132, zs_284_135, zs_284_136, zs_284_137, zs_284_140, zs_284_141, zs_284_143, zs_284_146, zs_284_147, zs_284_148, zs_284_151, zs_284_152, zs_284_154, zs_284_157, zs_284_158, zs_284_159, zs_284_162, zs_284_163, zs_284_164, zs_284_167, zs_284_168, zs_284_171, t0, zmf_16, zmf_17, zmf_18, zmf_24, y13, y14, y15, g13, g14, g15, zrc_13v, zbk_v, zts_n, e3, e4, e5, e6, e7, t3, t4, t5, t6, t7, y13_3, y14_3, y15_3, y13_4, y14_4, y15_4, y13_5, y14_5, y15_5, y13_6, y14_6, y15_6, y13_7, y14_7, y15_7, m24, if_neg u1, if_neg u2, if_neg u3, if_neg u4, ↓reduceIte, List.cons_append, List.nil_append]
end ZQW

section ZQX
variable {sv : Nat → Value} {d : Nat} {m : Nat}
def yow (k : Int32) : Int32 := if k = nI 43 then nI 1 else if k = nI 45 then nI 1 else if k = nI 42 then nI 2 else nI 3
theorem e_285a {p : yP} {n D : Nat} {k v lev : Int32} {h : zH} {F : Nat → Int32} {o : List Int32} (hl : zLst h (m + 5) (m + 6) p) (hi : p[n]? = some (k, v)) (hw : zWr h m F o) (ho : o.length < 700) : ∃ (h1 : zH) (G : Nat → Int32) (q : List Int32), zrun zP sv (zcall zP sv (D + 1)) 285 0 [.val (.ref m), .val (.int (nI n)), .val (.int lev), .unset, .unset, .unset] [] h = zrun zP sv (zcall zP sv (D + 1)) 285 53 [.val (.ref m), .val (.int (nI n)), .val (.int lev), .val (.int k), .val (.int (yow k)), .val (.int (nI (n + 1)))] [] h1 ∧ zWr h1 m G (o ++ q) ∧ q.length ≤ 1 ∧ (∀ j, j ≠ 24 → G j = F j) ∧ zow m h h1 := by
  obtain ⟨A, B, a1, a2, a3, a4, a5⟩ := e_look hl hi
  have m0 := hw.1
  have e40 : ynr (nI 40) = nI 40 := by decide +kernel
  have c40 : ychr (nI 40) := by show zty 7 (.int (nI 40)) = true; decide +kernel
  obtain ⟨own, hown⟩ : ∃ own, own = yow k := ⟨_, rfl⟩
  have s1 : zrun zP sv (zcall zP sv (D + 1)) 285 0 [.val (.ref m), .val (.int (nI n)), .val (.int lev), .unset, .unset, .unset] [] h = zrun zP sv (zcall zP sv (D + 1)) 285 36 [.val (.ref m), .val (.int (nI n)), .val (.int lev), .val (.int k), .val (.int own), .unset] [] h := by
    rw [hown]
    unfold yow
    by_cases q1 : k = nI 43
    · rw [if_pos q1]
      simp (disch := first | exact znw_u | exact znw_i) only [zs_285_0, zs_285_1, zs_285_4, zs_285_5, zs_285_6, zs_285_7, zs_285_8, zs_285_10, zs_285_19, zs_285_20, zs_285_34, m0, zmf_6, a1, a3, if_pos q1]
    · rw [if_neg q1]
      by_cases q2 : k = nI 45
      · rw [if_pos q2]
        simp (disch := first | exact znw_u | exact znw_i) only [zs_285_0, zs_285_1, zs_285_4, zs_285_5, zs_285_6, zs_285_7, zs_285_8, zs_285_10, zs_285_13, zs_285_14, zs_285_16, zs_285_19, zs_285_20, zs_285_34, m0, zmf_6, a1, a3, if_neg q1, if_pos q2]
      · rw [if_neg q2]
        by_cases q3 : k = nI 42
        · rw [if_pos q3]
          simp (disch := first | exact znw_u | exact znw_i) only [zs_285_0, zs_285_1, zs_285_4, zs_285_5, zs_285_6, zs_285_7, zs_285_8, zs_285_10, zs_285_13, zs_285_14, zs_285_16, zs_285_23, zs_285_24, zs_285_26, zs_285_29, zs_285_30, zs_285_34, m0, zmf_6, a1, a3, if_neg q1, if_neg q2, if_pos q3]
        · rw [if_neg q3]
          simp (disch := first | exact znw_u | exact znw_i) only [zs_285_0, zs_285_1, zs_285_4, zs_285_5, zs_285_6, zs_285_7, zs_285_8, zs_285_10, zs_285_13, zs_285_14, zs_285_16, zs_285_23, zs_285_24, zs_285_26, zs_285_33, zs_285_34, m0, zmf_6, a1, a3, if_neg q1, if_neg q2, if_neg q3]
  rw [s1, ← hown]
  by_cases c : own < lev
  · obtain ⟨h1, G, q, e1, w1, l1, l2, g1, k1⟩ := e_280 (sv := sv) (d := D) (c := nI 40) hw ho e40 c40
    refine ⟨h1, G, q, ?_, w1, l2, g1, k1⟩
    simp (disch := first | exact znw_u | exact znw_i) only [zs_285_36, zs_285_38, zs_285_39, zs_285_42, zs_285_43, zs_285_45, zs_285_48, zs_285_49, zs_285_50, zs_285_51, if_pos c, m0, zrc_13v, e1, zbk_v, zts_n, nI_1', List.cons_append, List.nil_append]
  · refine ⟨h, F, [], ?_, by rw [List.append_nil]; exact hw, Nat.zero_le _, fun _ _ => rfl, zow_rfl⟩
    simp (disch := first | exact znw_u | exact znw_i) only [zs_285_36, zs_285_38, zs_285_39, zs_285_48, zs_285_49, zs_285_50, zs_285_51, if_neg c, nI_1']
theorem e_285c {D : Nat} {own lev y : Int32} {l1 l3 : Slot} {h : zH} {F : Nat → Int32} {o : List Int32} (hw : zWr h m F o) (ho : o.length < 700) : zAp m F o 0 1 h (zrun zP sv (zcall zP sv (D + 1)) 285 146 [.val (.ref m), l1, .val (.int lev), l3, .val (.int own), .val (.int y)] [] h) (some (.int y)) := by
  have m0 := hw.1
  have e41 : ynr (nI 41) = nI 41 := by decide +kernel
  have c41 : ychr (nI 41) := by show zty 7 (.int (nI 41)) = true; decide +kernel
  by_cases c : own < lev
  · obtain ⟨h1, G, q, e1, w1, l1, l2, g1, k1⟩ := e_280 (sv := sv) (d := D) (c := nI 41) hw ho e41 c41
    refine ⟨h1, G, q, ?_, w1, Nat.zero_le _, l2, g1, k1⟩
    simp (disch := first | exact znw_u | exact znw_i) only [zs_285_146, zs_285_148, zs_285_149, zs_285_152, zs_285_153, zs_285_155, zs_285_158, zs_285_160, if_pos c, m0, zrc_13v, e1, zbk_v, zts_n, List.cons_append, List.nil_append]
  · refine ⟨h, F, [], ?_, by rw [List.append_nil]; exact hw, Nat.zero_le _, Nat.zero_le _, fun _ _ => rfl, zow_rfl⟩
    simp (disch := first | exact znw_u | exact znw_i) only [zs_285_146, zs_285_148, zs_285_149, zs_285_158, zs_285_160, if_neg c]
theorem e_285 {p : yP} : ∀ (n : Nat) (t : yT), ysz t ≤ n → ytw t = true → ∀ (pre post : yP) (D : Nat) (lev : Int32) (h : zH) (F : Nat → Int32) (o : List Int32), ydp t + 12 ≤ D → p = pre ++ ypr t ++ post → zLst h (m + 5) (m + 6) p → zWr h m F o → o.length + 13 * ysz t ≤ 700 → zAp m F o 0 (13 * ysz t) h (zcall zP sv D 285 [.ref m, .int (nI pre.length), .int lev] h) (some (.int (nI (pre.length + ysz t))))
  | 0, t, hn, ht, pre, post, D, lev, h, F, o, hD, hp, hl, hw, ho => by
    have := ytw_sz ht
    omega
  | n + 1, .leaf, hn, ht, pre, post, D, lev, h, F, o, hD, hp, hl, hw, ho => by cases ht
  | n + 1, .inner z k v l r, hn, ht, pre, post, D, lev, h, F, o, hD, hp, hl, hw, ho => by
    have hn' : ysz l + ysz r + 1 ≤ n + 1 := hn
    have hD' : max (ydp l) (ydp r) + 1 + 12 ≤ D := hD
    have ho' : o.length + 13 * (ysz l + ysz r + 1) ≤ 700 := ho
    obtain ⟨D, rfl⟩ : ∃ D', D = D' + 13 := ⟨D - 13, by omega⟩
    have e0 : p = pre ++ (k, yva k v) :: (ypr l ++ ypr r ++ post) := by
      rw [hp]
      show pre ++ (k, yva k v) :: (ypr l ++ ypr r) ++ post = _
      rw [List.append_assoc]; rfl
    have hi : p[pre.length]? = some (k, yva k v) := by
      rw [e0, List.getElem?_append_right (Nat.le_refl _), Nat.sub_self]; rfl
    obtain ⟨h1, G1, q1, e1, w1, b1, v1, k1⟩ := e_285a (sv := sv) (m := m) (D := D + 11) (lev := lev) hl hi hw (by omega)
    have hl1 : zLst h1 (m + 5) (m + 6) p := zLst_cg hl (k1.1 _ (by omega) (by omega)) (k1.1 _ (by omega) (by omega))
    have m1 := w1.1
    obtain ⟨A, B, a1, a2, a3, a4, a5⟩ := e_look hl1 hi
    have hlen1 : (o ++ q1).length = o.length + q1.length := List.length_append
    have sz : ysz (.inner z k v l r) = ysz l + ysz r + 1 := rfl
    have p3 : ¬ nI 118 = nI 99 := by decide +kernel
    have p6 : ¬ nI 110 = nI 99 := by decide +kernel
    have p7 : ¬ nI 110 = nI 118 := by decide +kernel
    have e45 : ynr (nI 45) = nI 45 := by decide +kernel
    have c45 : ychr (nI 45) := by show zty 7 (.int (nI 45)) = true; decide +kernel
    rw [zc_285, e1]
    rcases ytw_el ht with g0 | g0 | g0 | g0
    · obtain ⟨g1, g2, g3⟩ := g0
      subst g1 g2 g3
      have ev : yva (nI 99) v = v := by unfold yva; rw [if_neg (Ne.symm p3)]
      rw [ev] at a4
      have hy := yilen_le v
      obtain ⟨h2, G2, q2, e2, w2, _, b2, v2, k2⟩ := e_282 (sv := sv) (d := D) (x := v) w1 (by omega)
      obtain ⟨h3, G3, q3, e3, w3, _, b3, v3, k3⟩ := e_285c (sv := sv) (D := D + 11) (own := yow (nI 99)) (lev := lev) (y := nI (pre.length + 1)) (l1 := .val (.int (nI pre.length))) (l3 := .val (.int (nI 99))) w2 (by rw [List.length_append]; omega)
      refine ⟨h3, G3, q1 ++ q2 ++ q3, ?_, by rw [← List.append_assoc, ← List.append_assoc]; exact w3, Nat.zero_le _, by rw [List.length_append, List.length_append]; show _ ≤ 13 * (0 + 0 + 1); omega, fun j hj => (v3 j hj).trans ((v2 j hj).trans (v1 j hj)), zow_tr k1 (zow_tr k2 k3)⟩
      show _ = some (Sum.inl (some (Value.int (nI (pre.length + 1)))), h3)
      rw [← e3]
      simp (disch := first | exact znw_u | exact znw_i) only [zs_285_53, zs_285_54, zs_285_56, zs_285_59, zs_285_60, zs_285_61, zs_285_64, zs_285_65, zs_285_66, zs_285_69, m1, zmf_7, a2, a4, zrc_13v, e2, zbk_v, zts_n, ↓reduceIte, List.cons_append, List.nil_append]
    · obtain ⟨g1, gl, g2, g3⟩ := g0
      subst g1 g2 g3
      have ev : yva (nI 118) v = v - nI 97 := by unfold yva; rw [if_pos rfl]
      rw [ev] at a4
      obtain ⟨z1, z2, z3, z4⟩ := ylet_w gl
      obtain ⟨h2, G2, q2, e2, w2, _, b2, v2, k2⟩ := e_280 (sv := sv) (d := D + 11) (c := v) w1 (by omega) z3 z4
      obtain ⟨h3, G3, q3, e3, w3, _, b3, v3, k3⟩ := e_285c (sv := sv) (D := D + 11) (own := yow (nI 118)) (lev := lev) (y := nI (pre.length + 1)) (l1 := .val (.int (nI pre.length))) (l3 := .val (.int (nI 118))) w2 (by rw [List.length_append]; omega)
      refine ⟨h3, G3, q1 ++ q2 ++ q3, ?_, by rw [← List.append_assoc, ← List.append_assoc]; exact w3, Nat.zero_le _, by rw [List.length_append, List.length_append]; show _ ≤ 13 * (0 + 0 + 1); omega, fun j hj => (v3 j hj).trans ((v2 j hj).trans (v1 j hj)), zow_tr k1 (zow_tr k2 k3)⟩
      show _ = some (Sum.inl (some (Value.int (nI (pre.length + 1)))), h3)
      rw [← e3]
      simp (disch := first | exact znw_u | exact znw_i) only [zs_285_53, zs_285_54, zs_285_56, zs_285_72, zs_285_73, zs_285_75, zs_285_78, zs_285_79, zs_285_81, zs_285_82, zs_285_85, zs_285_86, zs_285_87, zs_285_88, zs_285_89, zs_285_92, if_neg p3, m1, zmf_7, a2, a4, z1, z2, zrc_13v, e2, zbk_v, zts_n, ↓reduceIte, List.cons_append, List.nil_append]
    · obtain ⟨g1, gv, g2, g3⟩ := g0
      subst g1 gv g3
      have hD3 : max (ydp l) 0 + 1 + 12 ≤ D + 13 := hD'
      have ho3 : o.length + 13 * (ysz l + 0 + 1) ≤ 700 := ho'
      have hn3 : ysz l + 0 + 1 ≤ n + 1 := hn'
      have l1 : (pre ++ [(nI 110, yva (nI 110) 0)]).length = pre.length + 1 := List.length_append
      obtain ⟨h2, G2, q2, e2, w2, _, b2, v2, k2⟩ := e_280 (sv := sv) (d := D + 11) (c := nI 45) w1 (by omega) e45 c45
      have hl2 : zLst h2 (m + 5) (m + 6) p := zLst_cg hl1 (k2.1 _ (by omega) (by omega)) (k2.1 _ (by omega) (by omega))
      have m2 := w2.1
      obtain ⟨h3, G3, q3, e3, w3, _, b3, v3, k3⟩ := e_285 (p := p) n l (by omega) g2 (pre ++ [(nI 110, yva (nI 110) 0)]) post (D + 12) (nI 3) h2 G2 (o ++ q1 ++ q2) (by omega) (by rw [e0]; simp only [List.append_assoc, List.cons_append, List.nil_append, ypr]) hl2 w2 (by rw [List.length_append]; omega)
      rw [l1] at e3
      obtain ⟨h4, G4, q4, e4, w4, _, b4, v4, k4⟩ := e_285c (sv := sv) (D := D + 11) (own := yow (nI 110)) (lev := lev) (y := nI (pre.length + 1 + ysz l)) (l1 := .val (.int (nI pre.length))) (l3 := .val (.int (nI 110))) w3 (by rw [List.length_append, List.length_append]; omega)
      refine ⟨h4, G4, q1 ++ q2 ++ q3 ++ q4, ?_, by rw [← List.append_assoc, ← List.append_assoc, ← List.append_assoc]; exact w4, Nat.zero_le _, by rw [List.length_append, List.length_append, List.length_append]; show _ ≤ 13 * (ysz l + 0 + 1); omega, fun j hj => (v4 j hj).trans ((v3 j hj).trans ((v2 j hj).trans (v1 j hj))), zow_tr k1 (zow_tr k2 (zow_tr k3 k4))⟩
      rw [show pre.length + ysz (.inner z (nI 110) 0 l .leaf) = pre.length + 1 + ysz l by show pre.length + (ysz l + 0 + 1) = _; omega, ← e4]
      simp (disch := first | exact znw_u | exact znw_i) only [zs_285_53, zs_285_54, zs_285_56, zs_285_72, zs_285_73, zs_285_75, zs_285_95, zs_285_96, zs_285_98, zs_285_101, zs_285_102, zs_285_104, zs_285_107, zs_285_108, zs_285_110, zs_285_111, zs_285_114, zs_285_116, if_neg p6, if_neg p7, m1, m2, zrc_13v, e2, e3, zbk_v, zts_n, zts_s, ↓reduceIte, List.cons_append, List.nil_append]
    · obtain ⟨gk, gv, g2, g3⟩ := g0
      subst gv
      obtain ⟨u1, u2, u3, u4⟩ := yis_ne gk
      have l1 : (pre ++ [(k, yva k 0)]).length = pre.length + 1 := List.length_append
      have l2 : (pre ++ [(k, yva k 0)] ++ ypr l).length = pre.length + 1 + ysz l := by rw [List.length_append, l1, ypr_len]
      have epl : p = (pre ++ [(k, yva k 0)]) ++ ypr l ++ (ypr r ++ post) := by rw [e0]; simp only [List.append_assoc, List.cons_append, List.nil_append]
      have epr : p = (pre ++ [(k, yva k 0)] ++ ypr l) ++ ypr r ++ post := by rw [e0]; simp only [List.append_assoc, List.cons_append, List.nil_append]
      have hlz := ytw_sz g2
      have hrz := ytw_sz g3
      obtain ⟨h2, G2, q2, e2, w2, _, b2, v2, k2⟩ := e_285 (p := p) n l (by omega) g2 _ _ (D + 12) (yow k) h1 G1 (o ++ q1) (by omega) epl hl1 w1 (by omega)
      rw [l1] at e2
      have hl2 : zLst h2 (m + 5) (m + 6) p := zLst_cg hl1 (k2.1 _ (by omega) (by omega)) (k2.1 _ (by omega) (by omega))
      have m2 := w2.1
      obtain ⟨h3, G3, q3, e3, w3, _, b3, v3, k3⟩ := e_280 (sv := sv) (d := D + 11) (c := k) w2 (by rw [List.length_append]; omega) (yis_nr gk) (yis_w gk)
      have hl3 : zLst h3 (m + 5) (m + 6) p := zLst_cg hl2 (k3.1 _ (by omega) (by omega)) (k3.1 _ (by omega) (by omega))
      have m3 := w3.1
      obtain ⟨h4, G4, q4, e4, w4, _, b4, v4, k4⟩ := e_285 (p := p) n r (by omega) g3 _ _ (D + 12) (yow k + nI 1) h3 G3 (o ++ q1 ++ q2 ++ q3) (by omega) epr hl3 w3 (by rw [List.length_append, List.length_append]; omega)
      rw [l2] at e4
      obtain ⟨h5, G5, q5, e5, w5, _, b5, v5, k5⟩ := e_285c (sv := sv) (D := D + 11) (own := yow k) (lev := lev) (y := nI (pre.length + 1 + ysz l + ysz r)) (l1 := .val (.int (nI pre.length))) (l3 := .val (.int k)) w4 (by rw [List.length_append, List.length_append, List.length_append]; omega)
      refine ⟨h5, G5, q1 ++ q2 ++ q3 ++ q4 ++ q5, ?_, by rw [← List.append_assoc, ← List.append_assoc, ← List.append_assoc, ← List.append_assoc]; exact w5, Nat.zero_le _, by rw [List.length_append, List.length_append, List.length_append, List.length_append]; show _ ≤ 13 * (ysz l + ysz r + 1); omega, fun j hj => (v5 j hj).trans ((v4 j hj).trans ((v3 j hj).trans ((v2 j hj).trans (v1 j hj)))), zow_tr k1 (zow_tr k2 (zow_tr k3 (zow_tr k4 k5)))⟩
      rw [show pre.length + ysz (.inner z k 0 l r) = pre.length + 1 + ysz l + ysz r by show pre.length + (ysz l + ysz r + 1) = _; omega, ← e5]
      simp (disch := first | exact znw_u | exact znw_i) only [zs_285_53, zs_285_54, zs_285_56, zs_285_72, zs_285_73, zs_285_75, zs_285_95, zs_285_96, zs_285_98, zs_285_119, zs_285_120, zs_285_122, zs_285_124, zs_285_127, zs_285_129, zs_285_130, zs_285_131, zs_285_134, zs_285_135, zs_285_137, zs_285_139, zs_285_140, zs_285_141, zs_285_144, if_neg u1, if_neg u2, if_neg u3, m1, m2, m3, zrc_13v, e2, e3, e4, zbk_v, zts_n, zts_s, ↓reduceIte, List.cons_append, List.nil_append]
/-- the length that a writing call answers, where it isn't compared -/
def zMu (m : Nat) (h : zH) (r : zR) (w : yW) : Prop := ∃ n, n ≤ 700 ∧ zMw m h r n w
theorem e_286x {h : zH} {w : yW} {th x : Int32} (hM : zMdl h m w th) (hx : yinF (ycur w) x = false) : zMC m h (zcall zP sv (d + 7) 286 [.ref m, .int x] h) 0 w (nI 1) := by
  obtain ⟨h1, e1, m1, k1⟩ := e_252x (sv := sv) (d := d) hM hx
  have r0 : ∀ X : zR, zrc (h.1 m) 13 X = X := fun X => zMdl_rc hM
  refine ⟨h1, ?_, m1, k1⟩
  simp only [zc_286, zs_286_0, zs_286_1, zs_286_2, zs_286_5, zs_286_8, zs_286_9, r0, e1, zbk_v, zts_s, ↓reduceIte, List.cons_append, List.nil_append]
theorem e_286 {h : zH} {w : yW} {th : Int32} {i : Nat} {t : yT} (hM : zMdl h m w th) (hi : (ycur w).1[i]? = some t) : zMu m h (zcall zP sv (d + 21) 286 [.ref m, .int (nI i)] h) w := by
  obtain ⟨h1, e1, m1, k1⟩ := e_252 (sv := sv) (d := d + 14) hM hi
  have r0 : ∀ X : zR, zrc (h.1 m) 13 X = X := fun X => zMdl_rc hM
  obtain ⟨F1, f31, f8, l5, a3, a4, a5, a6, tk⟩ := m1
  have s0 : h1.1 m = (13, zMF m F1) := a3.1
  obtain ⟨h2, hh2⟩ : ∃ h2, h2 = zup h1 m (13, zMF m (yup F1 24 0)) := ⟨_, rfl⟩
  obtain ⟨_, _, _, ⟨B, b1, b2, b3, b4⟩, _⟩ := id a5
  have w2 : zWr h2 m (yup F1 24 0) [] := ⟨by rw [hh2, zup_at], yup_eq, ⟨B, by rw [hh2, zup_ne (by omega), b1], b2, rfl, Nat.zero_le _⟩, fun x hx => by cases hx⟩
  have f2 : ∀ a, a ≠ m → a ≠ m + 16 → h2.1 a = h1.1 a := fun a a1 _ => by rw [hh2, zup_ne a1]
  have k2 : zow m h1 h2 := ⟨f2, by rw [hh2]; rfl⟩
  have t0 := w2.1
  have tk2 := tk.2.1
  have tk3 := tk.2.2
  obtain ⟨h3, G3, q3, e3, w3, _, b3', v3, k3⟩ := e_285 (sv := sv) (m := m) (p := ypr t) (ysz t) t (Nat.le_refl _) tk.1 [] [] (d + 20) (nI 1) h2 _ [] (by omega) (by rw [List.nil_append, List.append_nil]) (zLst_cg l5 (f2 _ (by omega) (by omega)) (f2 _ (by omega) (by omega))) w2 (by show 0 + 13 * ysz t ≤ 700; omega)
  rw [List.length_nil, nI_0] at e3
  have m24 := w3.2.1
  have m3 := w3.1
  have n10 : ¬ nI 1 = 0 := by decide +kernel
  refine ⟨_, ?_, zMw_of (n := ([] ++ q3).length) ?_ f31 a3 a4 a5 a6 k1 w3 (fun j hj => (v3 j hj).trans (yup_ne hj)) (zow_tr k2 k3) rfl⟩
  · show ([] ++ q3).length ≤ 700
    rw [List.nil_append]; omega
  · simp (disch := first | exact znw_u | exact znw_i) only [zc_286, zs_286_0, zs_286_1, zs_286_2, zs_286_5, zs_286_10, zs_286_11, zs_286_12, zs_286_15, zs_286_16, zs_286_17, zs_286_18, zs_286_21, zs_286_22, zs_286_23, zs_286_26, r0, e1, if_neg n10, s0, zmp_24, ← hh2, t0, zrc_13v, e3, m3, zmf_24, m24, zbk_v, zts_s, List.cons_append, List.nil_append]
/-- outputChar -/
def yinO (o : List Int32) (x : Int32) : Bool := decide (¬ x < 0) && decide (¬ nI o.length - nI 1 < x)
theorem e_287x {h : zH} {w : yW} {th x : Int32} (hM : zMdl h m w th) (hx : yinO (yout w) x = false) : zMC m h (zcall zP sv (d + 2) 287 [.ref m, .int x] h) (nI 97) w (nI 1) := by
  obtain ⟨F, g, q1, q2, _, _, hR, _⟩ := zMdl_31 (x := nI 1) hM
  have r24 := hR.1.2.2.1
  have E : zcall zP sv (d + 1) 199 [.int x, .int 0, .int (nI (yout w).length - nI 1)] h = some (.inl (some (.int (yb (yinO (yout w) x)))), h) := e_199 (d := d)
  rw [hx, yb_f] at E
  have n10 : ¬ nI 1 = 0 := by decide +kernel
  have z7 : zty 7 (.int (nI 97)) = true := by decide +kernel
  refine ⟨_, ?_, q1, q2⟩
  simp (disch := first | exact znw_u | exact znw_i) only [zc_287, zs_287_0, zs_287_1, zs_287_2, zs_287_3, zs_287_4, zs_287_7, zs_287_8, zs_287_9, zs_287_12, zs_287_19, zs_287_20, zs_287_23, zs_287_24, zs_287_27, zs_287_39, zs_287_41, g, zmf_24, r24, E, zbk_v, zts_s, zmp_31, zup_at, zmf_31, yup_eq, if_neg n10, z7, zgd_t, ↓reduceIte, List.cons_append, List.nil_append]
theorem e_287 {h : zH} {w : yW} {th c : Int32} {n : Nat} (hM : zMdl h m w th) (hx : yinO (yout w) (nI n) = true) (hn : (yout w)[n]? = some c) (hc : ychr c) : zMC m h (zcall zP sv (d + 2) 287 [.ref m, .int (nI n)] h) c w 0 := by
  obtain ⟨F, g, q1, q2, _, _, hR, _⟩ := zMdl_31 (x := 0) hM
  have r24 := hR.1.2.2.1
  obtain ⟨_, _, _, ⟨B, b1, b2, b3, b4⟩, _⟩ := hR
  have E : zcall zP sv (d + 1) 199 [.int (nI n), .int 0, .int (nI (yout w).length - nI 1)] h = some (.inl (some (.int (yb (yinO (yout w) (nI n))))), h) := e_199 (d := d)
  rw [hx, yb_t] at E
  have n10 : ¬ nI 1 = 0 := by decide +kernel
  have hnl := (List.getElem?_eq_some_iff.mp hn).1
  have g1 : ∀ Kv, zael (21, B.map Value.int) 21 (nI n) Kv = Kv (.int c) := fun Kv => zaelv (by rw [List.getElem?_map, ytk_at b3 hn]; rfl) (by omega)
  have hc' : zty 7 (.int c) = true := hc
  refine ⟨_, ?_, q1, q2⟩
  simp (disch := first | exact znw_u | exact znw_i | omega) only [zc_287, zs_287_0, zs_287_1, zs_287_2, zs_287_3, zs_287_4, zs_287_7, zs_287_8, zs_287_9, zs_287_12, zs_287_15, zs_287_16, zs_287_20, zs_287_23, zs_287_24, zs_287_27, zs_287_30, zs_287_31, zs_287_34, zs_287_35, zs_287_36, zs_287_41, g, zmf_23, zmf_24, r24, E, zbk_v, zts_s, zmp_31, zup_at, zup_ne, zmf_31, yup_eq, if_neg n10, b1, g1, hc', zgd_t, ↓reduceIte, List.cons_append, List.nil_append]
end ZQX
