section ZSB
variable {sv : Nat → Value} {d : Nat}
def ynb (y : Int32) : Int32 := y.toInt8.toInt32
theorem zsB {A : List Int32} {i : Nat} {y : Int32} {Kc : zC → zR} (h : i < A.length) (h2 : A.length < 2 ^ 31) : zaset (24, A.map Value.int) 24 (nI i) (.int y) Kc = Kc (24, (A.set i (ynb y)).map Value.int) := by
  unfold zaset zix
  rw [nI_clamp (by omega), if_pos ⟨rfl, by rw [decide_eq_true (nI_pos (by omega)), decide_eq_true (by rw [List.length_map]; omega)]; rfl⟩, List.map_set]
  rfl
theorem ynb_ty (y : Int32) : zty 6 (.int (ynb y)) = true := by
  have h1 := Int8.toInt_lt y.toInt8
  have h2 := Int8.le_toInt y.toInt8
  have e : (ynb y).toInt = y.toInt8.toInt := Int8.toInt_toInt32 _
  have a : (-128 : Int32).toInt = -128 := by decide
  have b : (127 : Int32).toInt = 127 := by decide
  show (decide (-128 ≤ ynb y) && decide (ynb y ≤ 127)) = true
  rw [Bool.and_eq_true]
  exact ⟨decide_eq_true (Int32.le_iff_toInt_le.mpr (by rw [e, a]; omega)), decide_eq_true (Int32.le_iff_toInt_le.mpr (by rw [e, b]; omega))⟩
theorem yasc : ∀ k, k < 128 → ynb (nI k) = nI k ∧ ynb (nI k).toInt8.toInt32 = nI k ∧ ¬ nI 255 < nI k := by decide +kernel
theorem yset_ty {B : List Int32} {i : Nat} {y : Int32} (hB : ∀ x, x ∈ B → zty 6 (.int x) = true) : ∀ x, x ∈ B.set i (ynb y) → zty 6 (.int x) = true := fun x hx => by
  rcases List.mem_or_eq_of_mem_set hx with h | h
  · exact hB x h
  · rw [h]; exact ynb_ty y
/-- a sign appended -/
theorem d_16 {h : zH} {r v k : Nat} {B o : List Int32} (hs : sv 0 = .int (nI 1)) (hb : zBl h r v B o) (ho : o.length + 1 ≤ 450) (hk : k < 128) : ∃ (h' : zH) (v' : Nat) (B' : List Int32), zcall zP sv (d + 4) 16 [.ref r, .int (nI k)] h = some (.inl (some (.ref r)), h') ∧ zBl h' r v' B' (o ++ [nI k]) ∧ (v' = v ∨ h.2.1 ≤ v') ∧ zbo r v B B' h h' := by
  obtain ⟨h1, v1, B1, e4, b1, w1, f1, l1⟩ := d_4 (sv := sv) (d := d) (k := o.length + 1) hb ho
  have rc : ∀ X : zR, zrc (h.1 r) 2 X = X := fun X => zBl_rc hb X
  have rc1 : ∀ X : zR, zrc (h1.1 r) 2 X = X := fun X => zBl_rc b1 X
  have e8 : zcall zP sv (d + 3) 8 [.ref r] h1 = _ := d_8 (d := d + 2) hs b1
  obtain ⟨⟨u0, e0⟩, _⟩ := hb
  obtain ⟨⟨u, e⟩, ev, ⟨hr, hv, hvr⟩, h3, h4, hL, hty⟩ := b1
  obtain ⟨a1, a2, a3⟩ := yasc k hk
  have e17 : zcall zP sv (d + 3) 17 [.int (nI k)] h1 = some (.inl (some (.int (nI 1))), h1) := by
    simp only [zc_17, zs_17_0, zs_17_1, zs_17_4, zs_17_7, zs_17_8, zs_17_11, zs_17_12, if_neg a3, zgd_t, zty_51]
  have eb := @zsB B1 o.length (nI k).toInt8.toInt32
  have hl : (o ++ [nI k]).length = o.length + 1 := List.length_append
  refine ⟨zup (zup h1 r (2, [.ref v1, .int 0, .int u, .int (nI (o.length + 1))])) v1 (24, (B1.set o.length (nI k)).map Value.int), v1, B1.set o.length (nI k), ?_, ⟨⟨u, by rw [zup_ne (Ne.symm hvr), zup_at, hl]⟩, zup_at, ⟨hr, hv, hvr⟩, by rw [hl, List.length_set]; exact l1, by rw [hl]; exact ytk_set h4 (by omega), by rw [List.length_set]; exact hL, by rw [← a1]; exact yset_ty hty⟩, w1, ⟨fun q q1 q2 q3 => ?_, f1.2.1, by rw [List.length_set]; exact f1.2.2.1, by rw [List.length_set]; exact f1.2.2.2.1, by rw [List.length_set]; exact f1.2.2.2.2⟩⟩
  · simp (disch := first | exact znw_u | exact znw_i | omega) only [zc_16, zs_16_0, zs_16_0n, zs_16_1, zs_16_1n, zs_16_2, zs_16_5, zs_16_6, zs_16_7, zs_16_10, zs_16_10n, zs_16_11, zs_16_14, zs_16_17, zs_16_18, zs_16_21, zs_16_24, zs_16_24n, zs_16_25, zs_16_28, zs_16_28n, zs_16_29, zs_16_30, zs_16_33, zs_16_34, zs_16_35, zs_16_36, zs_16_39, zs_16_40, zs_16_41, zs_16_42, zs_16_45, zs_16_45n, zs_16_46, zs_16_49, zs_16_52, zs_16_52n, zs_16_56, zs_16_56n, zs_16_57, zs_16_60, zs_16_60n, zs_16_61, zs_16_62, zs_16_65, zs_16_66, zs_16_67, zs_16_68, zs_16_71, zs_16_75, zs_16_75n, zs_16_76, zs_16_76n, e0, e, zrc_2, zf_2_0, zp_2_0, zp_2_0n, zf_2_1, zp_2_10, zp_2_11, zf_2_2, zp_2_20, zp_2_21, zf_2_3, zp_2_3, nI_1', rc, rc1, e4, e8, e17, nI_1e0, zup_ne, zup_at, ev, eb, a2, hvr, Ne.symm hvr, ne_eq, not_false_eq_true, zbk_v, zts_s, zts_n, ↓reduceIte, List.cons_append, List.nil_append]
  · rw [zup_ne (by omega), zup_ne q2, f1.1 q q1 q2 q3]
theorem d_15 {h : zH} {r v k : Nat} {B o : List Int32} (hs : sv 0 = .int (nI 1)) (hb : zBl h r v B o) (ho : o.length + 1 ≤ 450) (hk : k < 128) : zAd r v B o h (zcall zP sv (d + 5) 15 [.ref r, .int (nI k)] h) (some (.ref r)) 1 1 := by
  obtain ⟨h1, v1, B1, e, b1, w1, f1⟩ := d_16 (sv := sv) (d := d) hs hb ho hk
  have rc : ∀ X : zR, zrc (h.1 r) 2 X = X := fun X => zBl_rc hb X
  refine ⟨h1, v1, B1, [nI k], ?_, b1, w1, f1, Nat.le_refl 1, Nat.le_refl 1⟩
  simp (disch := first | exact znw_u | exact znw_i) only [zc_15, zs_15_0, zs_15_0n, zs_15_1, zs_15_2, zs_15_5, zs_15_5n, zs_15_6, zs_15_6n, zs_15_7, zs_15_7n, rc, e, zbk_v, zts_s, List.cons_append, List.nil_append]
/-- how many signs a number takes -/
theorem nP_lt {n i : Nat} (hn : n ≤ 2 ^ 31) (hi : i ≤ 9) : (-(nI (10 ^ i)) < -(nI n)) = (n < 10 ^ i) := by
  have p : 10 ^ i ≤ 10 ^ 9 := Nat.pow_le_pow_right (by decide) hi
  have e1 : (-(nI (10 ^ i))).toInt = -((10 ^ i : Nat) : Int) := nI_neg (by omega)
  have e2 : (-(nI n)).toInt = -(n : Int) := by
    rcases Nat.lt_or_ge n (2 ^ 31) with h | h
    · exact nI_neg h
    · have : n = 2 ^ 31 := by omega
      subst this
      decide
  apply propext
  constructor
  · intro q
    have := Int32.lt_iff_toInt_lt.mp q
    omega
  · intro q
    exact Int32.lt_iff_toInt_lt.mpr (by omega)
theorem d_11l {n s : Nat} {h : zH} (hn : n ≤ 2 ^ 31) (hs : s ≤ 1) : ∀ f i, f + i = 10 → 1 ≤ i → zrun zP sv (zcall zP sv d) 11 16 [.val (.int (-(nI n))), .val (.int (nI s)), .val (.int (-(nI (10 ^ i)))), .val (.int (nI i))] [] h = some (.inl (some (.int (nI (i - 1 + ydgn f (n / 10 ^ (i - 1)) + s)))), h) := by
  intro f
  induction f with
  | zero =>
    intro i hi h1
    obtain rfl : i = 10 := by omega
    have c1 : ¬ nI 10 < nI 10 := by decide
    have e : nI 10 + nI s = nI (10 - 1 + ydgn 0 (n / 10 ^ (10 - 1)) + s) := by
      rw [nI_add]
      rfl
    rw [← e]
    simp only [zs_11_16, zs_11_17, zs_11_19, zs_11_42, zs_11_44, zs_11_45, zs_11_46, if_neg c1]
  | succ f ih =>
    intro i hi h1
    have c1 : nI i < nI 10 := nI_lt (by omega) (by decide)
    have c0 := nP_lt (n := n) hn (show i ≤ 9 by omega)
    have hp : 10 ^ i = 10 ^ (i - 1) * 10 := by
      rw [← Nat.pow_succ]
      congr 1
      omega
    have hpos : 0 < 10 ^ (i - 1) := Nat.pow_pos (by decide)
    by_cases c : n < 10 ^ i
    · have c2 : (-(nI (10 ^ i)) < -(nI n)) := by rw [c0]; exact c
      have hq : n / 10 ^ (i - 1) < 10 := by
        rw [Nat.div_lt_iff_lt_mul hpos]
        omega
      have ey : ydgn (f + 1) (n / 10 ^ (i - 1)) = 1 := by
        unfold ydgn
        rw [if_neg (by omega)]
      have e : nI i + nI s = nI (i - 1 + ydgn (f + 1) (n / 10 ^ (i - 1)) + s) := by
        rw [nI_add, ey]
        congr 1
        omega
      rw [← e]
      simp only [zs_11_16, zs_11_17, zs_11_19, zs_11_22, zs_11_23, zs_11_24, zs_11_27, zs_11_28, zs_11_29, zs_11_30, if_pos c1, if_pos c2]
    · have c2 : ¬ (-(nI (10 ^ i)) < -(nI n)) := by rw [c0]; exact c
      have hq : 10 ≤ n / 10 ^ (i - 1) := by
        rw [Nat.le_div_iff_mul_le hpos]
        omega
      have ey : ydgn (f + 1) (n / 10 ^ (i - 1)) = ydgn f (n / 10 ^ i) + 1 := by
        conv => lhs; unfold ydgn
        rw [if_pos (by omega), Nat.div_div_eq_div_mul, ← hp]
      have i2 := ih (i + 1) (by omega) (by omega)
      rw [show i + 1 - 1 = i by omega] at i2
      rw [ey, show i - 1 + (ydgn f (n / 10 ^ i) + 1) + s = i + ydgn f (n / 10 ^ i) + s by omega, ← i2]
      have em : nI 10 * -(nI (10 ^ i)) = -(nI (10 ^ (i + 1))) := by
        rw [Int32.mul_neg, nI_mulx, Nat.mul_comm, ← Nat.pow_succ]
      have em' : -(nI (10 ^ i)) * nI 10 = -(nI (10 ^ (i + 1))) := by rw [Int32.mul_comm, em]
      have eb : zrun zP sv (zcall zP sv d) 11 36 [.val (.int (-(nI n))), .val (.int (nI s)), .val (.int (-(nI (10 ^ (i + 1))))), .val (.int (nI i))] [] h = zrun zP sv (zcall zP sv d) 11 16 [.val (.int (-(nI n))), .val (.int (nI s)), .val (.int (-(nI (10 ^ (i + 1))))), .val (.int (nI (i + 1)))] [] h := by rw [zs_11_36, zs_11_39, nI_1']
      rw [← eb]
      simp (disch := first | exact znw_u | exact znw_i) only [zs_11_16, zs_11_17, zs_11_19, zs_11_22, zs_11_23, zs_11_24, zs_11_31, zs_11_33, zs_11_34, zs_11_35, if_pos c1, if_neg c2, em, em']
/-- a number's sign and size -/
theorem yabs (x : Int32) : x.toInt.natAbs ≤ 2 ^ 31 ∧ (x < 0 → x = -(nI x.toInt.natAbs)) ∧ (¬ x < 0 → -x = -(nI x.toInt.natAbs)) := by
  have h2 := Int32.toInt_lt x
  have h3 := Int32.le_toInt x
  have z0 : (0 : Int32).toInt = 0 := rfl
  have hle : x.toInt.natAbs ≤ 2 ^ 31 := by omega
  have e2 : (-(nI x.toInt.natAbs)).toInt = -(x.toInt.natAbs : Int) := by
    rcases Nat.lt_or_ge x.toInt.natAbs (2 ^ 31) with h | h
    · exact nI_neg h
    · have : x.toInt.natAbs = 2 ^ 31 := by omega
      rw [this]
      decide
  refine ⟨hle, fun hx => ?_, fun hx => ?_⟩
  · have := Int32.lt_iff_toInt_lt.mp hx
    apply Int32.toInt_inj.mp
    rw [e2]
    omega
  · have : ¬ x.toInt < (0 : Int32).toInt := fun q => hx (Int32.lt_iff_toInt_lt.mpr q)
    apply Int32.toInt_inj.mp
    rw [e2, Int32.toInt_neg, Int.bmod_eq_of_le (by omega) (by omega)]
    omega
theorem d_11 {x : Int32} {h : zH} : zcall zP sv (d + 1) 11 [.int x] h = some (.inl (some (.int (nI (yilen x)))), h) := by
  obtain ⟨hle, hn, hp⟩ := yabs x
  have m10 : (-10 : Int32) = -(nI (10 ^ 1)) := by decide
  by_cases c : x < 0
  · have e := d_11l (sv := sv) (d := d) (n := x.toInt.natAbs) (s := 1) (h := h) hle (Nat.le_refl 1) 9 1 rfl (Nat.le_refl 1)
    have ey : yilen x = 1 - 1 + ydgn 9 (x.toInt.natAbs / 10 ^ (1 - 1)) + 1 := by
      unfold yilen
      rw [if_pos c]
      simp only [Nat.sub_self, Nat.pow_zero, Nat.div_one]
      omega
    rw [ey, ← e]
    conv => lhs; rw [hn c]
    rw [hn c] at c
    simp (disch := first | exact znw_u | exact znw_i) only [zc_11, zs_11_0, zs_11_1, zs_11_2, zs_11_3, zs_11_11, zs_11_13, zs_11_14, zs_11_15, if_pos c, m10]
  · have e := d_11l (sv := sv) (d := d) (n := x.toInt.natAbs) (s := 0) (h := h) hle (Nat.zero_le 1) 9 1 rfl (Nat.le_refl 1)
    have ey : yilen x = 1 - 1 + ydgn 9 (x.toInt.natAbs / 10 ^ (1 - 1)) + 0 := by
      unfold yilen
      rw [if_neg c]
      simp only [Nat.sub_self, Nat.pow_zero, Nat.div_one]
      omega
    rw [ey, ← e, nI_0, ← hp c]
    simp (disch := first | exact znw_u | exact znw_i) only [zc_11, zs_11_0, zs_11_1, zs_11_2, zs_11_3, zs_11_6, zs_11_7, zs_11_8, zs_11_9, zs_11_10, zs_11_11, zs_11_13, zs_11_14, zs_11_15, if_neg c, m10]
end ZSB
