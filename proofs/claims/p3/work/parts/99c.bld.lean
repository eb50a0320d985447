section ZSC
variable {sv : Nat → Value} {d : Nat}
/-- the library's digits -/
def zDg (sv : Nat → Value) (h : zH) : Prop := ∃ (a1 a2 : Nat) (O T : List Int32), sv 1 = .ref a1 ∧ sv 2 = .ref a2 ∧ h.1 a1 = (27, O.map Value.int) ∧ h.1 a2 = (27, T.map Value.int) ∧ O.length = 100 ∧ T.length = 100 ∧ a1 < h.2.1 ∧ a2 < h.2.1
theorem zael_r {F : List Int32} {kd i : Nat} {K : Value → zR} (hi : i < F.length) (h2 : i < 2 ^ 31) : zael (kd, F.map Value.int) kd (nI i) K = K (.int F[i]) := zael_k (by rw [List.getElem?_map, List.getElem?_eq_getElem hi]; rfl) h2
theorem nN_div {n : Nat} (hn : n ≤ 2 ^ 31) : -(nI n) / nI 100 = -(nI (n / 100)) := by
  have e2 : (-(nI n)).toInt = -(n : Int) := by
    rcases Nat.lt_or_ge n (2 ^ 31) with h | h
    · exact nI_neg h
    · have : n = 2 ^ 31 := by omega
      subst this
      decide
  apply Int32.toInt_inj.mp
  rw [Int32.toInt_div, e2, nI_neg (show n / 100 < 2 ^ 31 by omega), nI_toInt (show 100 < 2 ^ 31 by decide)]
  rw [Int.neg_tdiv]
  have : (n : Int).tdiv (100 : Nat) = ((n / 100 : Nat) : Int) := by
    rw [Int.tdiv_eq_ediv_of_nonneg (by omega)]
    rfl
  rw [this]
  exact Int.bmod_eq_of_le (by omega) (by omega)
theorem nN_mod {n : Nat} (hn : n ≤ 2 ^ 31) : -(nI (n / 100)) * nI 100 - -(nI n) = nI (n % 100) := by
  rw [Int32.neg_mul, nI_mulx, Int32.sub_neg, Int32.add_comm, ← Int32.sub_eq_add_neg]
  have e : nI n = nI (n / 100 * 100) + nI (n % 100) := by
    rw [nI_add]
    congr 1
    omega
  rw [e, Int32.add_comm, Int32.add_sub_cancel]
theorem nN_100 {n : Nat} (hn : n ≤ 2 ^ 31) : ((-100 : Int32) < -(nI n)) = (n < 100) := by
  have m : (-100 : Int32) = -(nI (10 ^ 2)) := by decide
  rw [m]
  exact nP_lt hn (by decide)
theorem nN_9 {n : Nat} (hn : n < 100) : (-(nI n) < (-9 : Int32)) = (9 < n) := by
  have m : (-9 : Int32).toInt = -9 := by decide
  have e := nI_neg (n := n) (by omega)
  apply propext
  constructor
  · intro q
    have := Int32.lt_iff_toInt_lt.mp q
    omega
  · intro q
    exact Int32.lt_iff_toInt_lt.mpr (by omega)
/-- what a run that writes numbers does -/
def zGch (v base : Nat) (B : List Int32) (h : zH) (r : zR) : Prop := ∃ (h' : zH) (B' : List Int32), r = some (.inl (some (.int (nI base))), h') ∧ h'.1 v = (24, B'.map Value.int) ∧ B'.length = B.length ∧ (∀ i, i < base → B'[i]? = B[i]?) ∧ (∀ x, x ∈ B' → zty 6 (.int x) = true) ∧ (∀ q, q ≠ v → h'.1 q = h.1 q) ∧ h'.2 = h.2
theorem nI_d {n : Nat} : nI (n + 1) + (-1) = nI n := by rw [nI_mm, nI_m]
theorem d_12e {v base s n : Nat} {B : List Int32} {l1 l3 l4 : Slot} {h : zH} (hD : zDg sv h) (hv : h.1 v = (24, B.map Value.int)) (hty : ∀ x, x ∈ B → zty 6 (.int x) = true) (hs : s ≤ 1) (hn : n < 100) (hl : base + s + (if 9 < n then 2 else 1) ≤ B.length) (hB : B.length ≤ 1000) : zGch v base B h (zrun zP sv (zcall zP sv d) 12 72 [.val (.int (-(nI n))), l1, .val (.ref v), l3, l4, .val (.int (nI (base + s + (if 9 < n then 2 else 1)))), .val (.int (nI s))] [] h) := by
  obtain ⟨a1, a2, O, T, s1, s2, g1, g2, o1, t1, _, _⟩ := hD
  have n1 : v ≠ a1 := fun q => by
    rw [q, g1] at hv
    exact absurd (Prod.mk.inj hv).1 (by decide)
  have n2 : v ≠ a2 := fun q => by
    rw [q, g2] at hv
    exact absurd (Prod.mk.inj hv).1 (by decide)
  have rO : ∀ K, zael (27, O.map Value.int) 27 (nI n) K = K (.int (O[n]'(by omega))) := fun K => zael_r (by omega) (by omega)
  have rT : ∀ K, zael (27, T.map Value.int) 27 (nI n) K = K (.int (T[n]'(by omega))) := fun K => zael_r (by omega) (by omega)
  have nn : -(-(nI n)) = nI n := Int32.neg_neg
  have c9 := nN_9 hn
  -- the sign's end
  have tail : ∀ (h1 : zH) (B1 : List Int32), h1.1 v = (24, B1.map Value.int) → B1.length = B.length → (∀ i, i < base + s → B1[i]? = B[i]?) → (∀ x, x ∈ B1 → zty 6 (.int x) = true) → (∀ q, q ≠ v → h1.1 q = h.1 q) → h1.2 = h.2 → zGch v base B h (zrun zP sv (zcall zP sv d) 12 104 [.val (.int (-(nI n))), l1, .val (.ref v), l3, l4, .val (.int (nI (base + s))), .val (.int (nI s))] [] h1) := by
    intro h1 B1 k1 k2 k3 k4 k5 k6
    rcases (show s = 0 ∨ s = 1 by omega) with rfl | rfl
    · refine ⟨h1, B1, ?_, k1, k2, k3, k4, k5, k6⟩
      rw [nI_0, Nat.add_zero]
      simp only [zs_12_104, zs_12_106, zs_12_118, zs_12_120, ↓reduceIte]
    · have zb := @zsB B1 base (nI 45)
      refine ⟨zup h1 v (24, (B1.set base (ynb (nI 45))).map Value.int), B1.set base (ynb (nI 45)), ?_, zup_at, by rw [List.length_set, k2], fun i hi => by rw [List.getElem?_set_ne (by omega)]; exact k3 i (by omega), yset_ty k4, fun q hq => by rw [zup_ne hq, k5 q hq], by rw [← k6]; rfl⟩
      simp (disch := first | exact znw_u | exact znw_i | omega) only [zs_12_104, zs_12_106, zs_12_109, zs_12_110, zs_12_113, zs_12_115, zs_12_117, zs_12_118, zs_12_120, nI_1e0, nI_d, k1, zb, ↓reduceIte]
  by_cases c : 9 < n
  · have c' : -(nI n) < (-9 : Int32) := by rw [c9]; exact c
    rw [if_pos c] at hl ⊢
    have zb1 := @zsB B (base + s + 1) (O[n]'(by omega))
    have zb2 := @zsB (B.set (base + s + 1) (ynb (O[n]'(by omega)))) (base + s) (T[n]'(by omega))
    have hl2 : (B.set (base + s + 1) (ynb (O[n]'(by omega)))).length = B.length := List.length_set
    obtain ⟨h1, hh1⟩ : ∃ h1, h1 = zup h v (24, (B.set (base + s + 1) (ynb (O[n]'(by omega)))).map Value.int) := ⟨_, rfl⟩
    have k1 : h1.1 v = (24, (B.set (base + s + 1) (ynb (O[n]'(by omega)))).map Value.int) := by rw [hh1, zup_at]
    have ka : h1.1 a2 = (27, T.map Value.int) := by rw [hh1, zup_ne (Ne.symm n2), g2]
    obtain ⟨h', B', e, w⟩ := tail (zup h1 v (24, ((B.set (base + s + 1) (ynb (O[n]'(by omega)))).set (base + s) (ynb (T[n]'(by omega)))).map Value.int)) _ zup_at (by rw [List.length_set, hl2]) (fun i hi => by rw [List.getElem?_set_ne (by omega), List.getElem?_set_ne (by omega)]) (yset_ty (yset_ty hty)) (fun q hq => by rw [zup_ne hq, hh1, zup_ne hq]) (by rw [hh1]; rfl)
    refine ⟨h', B', ?_, w⟩
    rw [← e]
    rw [show base + s + 2 = base + s + 1 + 1 by omega]
    simp (disch := first | exact znw_u | exact znw_i | omega) only [zs_12_72, zs_12_73, zs_12_76, zs_12_78, zs_12_81, zs_12_82, zs_12_83, zs_12_84, zs_12_85, zs_12_86, zs_12_88, zs_12_91, zs_12_92, zs_12_95, zs_12_97, zs_12_100, zs_12_101, zs_12_102, zs_12_103, nI_d, s1, s2, g1, hv, nn, rO, rT, zb1, ← hh1, k1, ka, zb2, hl2, if_pos c']
  · have c' : ¬ -(nI n) < (-9 : Int32) := by rw [c9]; exact c
    rw [if_neg c] at hl ⊢
    have zb1 := @zsB B (base + s) (O[n]'(by omega))
    obtain ⟨h', B', e, w⟩ := tail (zup h v (24, (B.set (base + s) (ynb (O[n]'(by omega)))).map Value.int)) _ zup_at (by rw [List.length_set]) (fun i hi => by rw [List.getElem?_set_ne (by omega)]) (yset_ty hty) (fun q hq => by rw [zup_ne hq]) rfl
    refine ⟨h', B', ?_, w⟩
    rw [← e]
    simp (disch := first | exact znw_u | exact znw_i | omega) only [zs_12_72, zs_12_73, zs_12_76, zs_12_78, zs_12_81, zs_12_82, zs_12_83, zs_12_84, zs_12_85, zs_12_86, zs_12_88, nI_d, s1, g1, hv, nn, rO, zb1, if_neg c']
theorem ydgn_100 {f n : Nat} (hn : n < 100) (hf : n < 10 ^ (f + 1)) : ydgn f n = if 9 < n then 2 else 1 := by
  cases f with
  | zero =>
    have : n < 10 := hf
    rw [if_neg (by omega)]
    rfl
  | succ f =>
    unfold ydgn
    by_cases c : 9 < n
    · rw [if_pos c, if_pos c]
      cases f with
      | zero => rfl
      | succ f =>
        unfold ydgn
        rw [if_neg (by omega)]
    · rw [if_neg c, if_neg c]
theorem ydgn_2 {f n : Nat} (hn : 100 ≤ n) (hf : n < 10 ^ (f + 1)) : ∃ g, f = g + 2 ∧ ydgn f n = ydgn g (n / 100) + 2 ∧ n / 100 < 10 ^ (g + 1) := by
  match f, hf with
  | 0, hf =>
    have : n < 10 := hf
    omega
  | 1, hf =>
    have : n < 100 := hf
    omega
  | g + 2, hf =>
    refine ⟨g, rfl, ?_, ?_⟩
    · conv => lhs; unfold ydgn
      rw [if_pos (by omega)]
      conv => lhs; lhs; unfold ydgn
      rw [if_pos (by omega), Nat.div_div_eq_div_mul]
    · have e : 10 ^ (g + 2 + 1) = 10 ^ (g + 1) * 100 := by
        rw [Nat.pow_succ, Nat.pow_succ, Nat.mul_assoc]
      rw [e] at hf
      rw [Nat.div_lt_iff_lt_mul (by decide)]
      exact hf
theorem zDg_v {v : Nat} {h h' : zH} (hD : zDg sv h) (hv : (h.1 v).1 = 24) (h1 : ∀ q, q ≠ v → h'.1 q = h.1 q) (h2 : h'.2 = h.2) : zDg sv h' := by
  obtain ⟨a1, a2, O, T, s1, s2, g1, g2, o1, t1, b1, b2⟩ := hD
  have n1 : a1 ≠ v := fun q => by
    rw [← q, g1] at hv
    exact absurd (show (27 : Nat) = 24 from hv) (by decide)
  have n2 : a2 ≠ v := fun q => by
    rw [← q, g2] at hv
    exact absurd (show (27 : Nat) = 24 from hv) (by decide)
  exact ⟨a1, a2, O, T, s1, s2, by rw [h1 _ n1, g1], by rw [h1 _ n2, g2], o1, t1, by rw [h2]; exact b1, by rw [h2]; exact b2⟩
theorem d_12l {v base s : Nat} {l1 : Slot} (hs : s ≤ 1) : ∀ (m f n : Nat), n ≤ m → n < 10 ^ (f + 1) → n ≤ 2 ^ 31 → ∀ (B : List Int32) (h : zH) (l3 l4 : Slot), znw l3 = true → znw l4 = true → zDg sv h → h.1 v = (24, B.map Value.int) → (∀ x, x ∈ B → zty 6 (.int x) = true) → base + s + ydgn f n ≤ B.length → B.length ≤ 1000 → zGch v base B h (zrun zP sv (zcall zP sv d) 12 22 [.val (.int (-(nI n))), l1, .val (.ref v), l3, l4, .val (.int (nI (base + s + ydgn f n))), .val (.int (nI s))] [] h) := by
  intro m
  induction m with
  | zero =>
    intro f n hnm hf hn B h l3 l4 w3 w4 hD hv hty hl hB
    obtain rfl : n = 0 := by omega
    have c1 : ((-100 : Int32) < -(nI 0)) := by rw [nN_100 (by omega)]; decide
    rw [ydgn_100 (by decide) hf] at hl ⊢
    have e := d_12e (d := d) (l1 := l1) (l3 := l3) (l4 := l4) hD hv hty hs (show 0 < 100 by decide) hl hB
    simp only [zs_12_22, zs_12_23, zs_12_25, if_pos c1]
    exact e
  | succ m ih =>
    intro f n hnm hf hn B h l3 l4 w3 w4 hD hv hty hl hB
    by_cases c : n < 100
    · have c1 : ((-100 : Int32) < -(nI n)) := by rw [nN_100 hn]; exact c
      rw [ydgn_100 c hf] at hl ⊢
      have e := d_12e (d := d) (l1 := l1) (l3 := l3) (l4 := l4) hD hv hty hs c hl hB
      simp only [zs_12_22, zs_12_23, zs_12_25, if_pos c1]
      exact e
    · have c1 : ¬ ((-100 : Int32) < -(nI n)) := by rw [nN_100 hn]; exact c
      obtain ⟨g, rfl, ey, hg⟩ := ydgn_2 (show 100 ≤ n by omega) hf
      rw [ey] at hl ⊢
      have hD' := hD
      obtain ⟨a1, a2, O, T, s1, s2, g1, g2, o1, t1, _, _⟩ := hD
      have n1 : v ≠ a1 := fun q => by
        rw [q, g1] at hv
        exact absurd (Prod.mk.inj hv).1 (by decide)
      have n2 : v ≠ a2 := fun q => by
        rw [q, g2] at hv
        exact absurd (Prod.mk.inj hv).1 (by decide)
      have hm : n % 100 < 100 := Nat.mod_lt _ (by decide)
      have rO : ∀ K, zael (27, O.map Value.int) 27 (nI (n % 100)) K = K (.int (O[n % 100]'(by omega))) := fun K => zael_r (by omega) (by omega)
      have rT : ∀ K, zael (27, T.map Value.int) 27 (nI (n % 100)) K = K (.int (T[n % 100]'(by omega))) := fun K => zael_r (by omega) (by omega)
      have zb1 := @zsB B (base + s + ydgn g (n / 100) + 1) (O[n % 100]'(by omega))
      have zb2 := @zsB (B.set (base + s + ydgn g (n / 100) + 1) (ynb (O[n % 100]'(by omega)))) (base + s + ydgn g (n / 100)) (T[n % 100]'(by omega))
      have hl2 : (B.set (base + s + ydgn g (n / 100) + 1) (ynb (O[n % 100]'(by omega)))).length = B.length := List.length_set
      obtain ⟨h1, hh1⟩ : ∃ h1, h1 = zup h v (24, (B.set (base + s + ydgn g (n / 100) + 1) (ynb (O[n % 100]'(by omega)))).map Value.int) := ⟨_, rfl⟩
      have k1 : h1.1 v = (24, (B.set (base + s + ydgn g (n / 100) + 1) (ynb (O[n % 100]'(by omega)))).map Value.int) := by rw [hh1, zup_at]
      have ka : h1.1 a2 = (27, T.map Value.int) := by rw [hh1, zup_ne (Ne.symm n2), g2]
      obtain ⟨h2, hh2⟩ : ∃ h2, h2 = zup h1 v (24, ((B.set (base + s + ydgn g (n / 100) + 1) (ynb (O[n % 100]'(by omega)))).set (base + s + ydgn g (n / 100)) (ynb (T[n % 100]'(by omega)))).map Value.int) := ⟨_, rfl⟩
      have k2 : ∀ q, q ≠ v → h2.1 q = h.1 q := fun q hq => by rw [hh2, zup_ne hq, hh1, zup_ne hq]
      have k3 : h2.2 = h.2 := by rw [hh2, hh1]; rfl
      obtain ⟨h', B', e, p1, p2, p3, p4, p5, p6⟩ := ih g (n / 100) (by omega) hg (by omega) _ h2 (.val (.int (-(nI (n / 100))))) (.val (.int (nI (n % 100)))) znw_i znw_i (zDg_v hD' (by rw [hv]) k2 k3) (by rw [hh2, zup_at]) (yset_ty (yset_ty hty)) (by rw [List.length_set, hl2]; omega) (by rw [List.length_set, hl2]; exact hB)
      refine ⟨h', B', ?_, p1, by rw [p2, List.length_set, hl2], fun i hi => by rw [p3 i hi, List.getElem?_set_ne (by omega), List.getElem?_set_ne (by omega)], p4, fun q hq => (p5 q hq).trans (k2 q hq), p6.trans k3⟩
      rw [← e, show base + s + (ydgn g (n / 100) + 2) = base + s + ydgn g (n / 100) + 1 + 1 by omega]
      have eb : zrun zP sv (zcall zP sv d) 12 69 [.val (.int (-(nI (n / 100)))), l1, .val (.ref v), .val (.int (-(nI (n / 100)))), .val (.int (nI (n % 100))), .val (.int (nI (base + s + ydgn g (n / 100)))), .val (.int (nI s))] [] h2 = zrun zP sv (zcall zP sv d) 12 22 [.val (.int (-(nI (n / 100)))), l1, .val (.ref v), .val (.int (-(nI (n / 100)))), .val (.int (nI (n % 100))), .val (.int (nI (base + s + ydgn g (n / 100)))), .val (.int (nI s))] [] h2 := by rw [zs_12_69]
      rw [← eb]
      simp (disch := first | exact w3 | exact w4 | exact znw_u | exact znw_i | omega) only [zs_12_22, zs_12_23, zs_12_25, zs_12_28, zs_12_29, zs_12_31, zs_12_32, zs_12_33, zs_12_34, zs_12_36, zs_12_37, zs_12_38, zs_12_39, zs_12_41, zs_12_42, zs_12_43, zs_12_44, zs_12_47, zs_12_49, zs_12_52, zs_12_54, zs_12_55, zs_12_56, zs_12_57, zs_12_60, zs_12_62, zs_12_65, zs_12_67, zs_12_68, if_neg c1, nN_div, nN_mod, nI_d, s1, s2, g1, hv, rO, rT, zb1, ← hh1, k1, ka, zb2, hl2, ← hh2]
theorem d_12 {v base : Nat} {x : Int32} {B : List Int32} {h : zH} (hD : zDg sv h) (hv : h.1 v = (24, B.map Value.int)) (hty : ∀ y, y ∈ B → zty 6 (.int y) = true) (hl : base + yilen x ≤ B.length) (hB : B.length ≤ 1000) : zGch v base B h (zcall zP sv (d + 1) 12 [.int x, .int (nI (base + yilen x)), .ref v] h) := by
  obtain ⟨hle, hn, hp⟩ := yabs x
  have h10 : x.toInt.natAbs < 10 ^ (9 + 1) := by omega
  by_cases c : x < 0
  · have ey : yilen x = 1 + ydgn 9 x.toInt.natAbs := by unfold yilen; rw [if_pos c]
    rw [ey] at hl ⊢
    obtain ⟨h', B', e, w⟩ := d_12l (sv := sv) (d := d) (v := v) (base := base) (s := 1) (l1 := .val (.int (nI (base + (1 + ydgn 9 x.toInt.natAbs))))) (Nat.le_refl 1) x.toInt.natAbs 9 x.toInt.natAbs (Nat.le_refl _) h10 hle B h .unset .unset znw_u znw_u hD hv hty (by omega) hB
    refine ⟨h', B', ?_, w⟩
    rw [← e]
    rw [← hn c, Nat.add_assoc]
    simp (disch := first | exact znw_u | exact znw_i) only [zc_12, zs_12_0, zs_12_1, zs_12_3, zs_12_4, zs_12_7, zs_12_8, zs_12_12, zs_12_14, zs_12_16, if_pos c, nI_1e0, ↓reduceIte]
  · have ey : yilen x = ydgn 9 x.toInt.natAbs := by unfold yilen; rw [if_neg c]; omega
    rw [ey] at hl ⊢
    obtain ⟨h', B', e, w⟩ := d_12l (sv := sv) (d := d) (v := v) (base := base) (s := 0) (l1 := .val (.int (nI (base + ydgn 9 x.toInt.natAbs)))) (Nat.zero_le 1) x.toInt.natAbs 9 x.toInt.natAbs (Nat.le_refl _) h10 hle B h .unset .unset znw_u znw_u hD hv hty (by omega) hB
    refine ⟨h', B', ?_, w⟩
    rw [← e]
    rw [← hp c, Nat.add_zero, nI_0]
    simp (disch := first | exact znw_u | exact znw_i) only [zc_12, zs_12_0, zs_12_1, zs_12_3, zs_12_4, zs_12_11, zs_12_12, zs_12_14, zs_12_16, zs_12_19, zs_12_20, zs_12_21, if_neg c, Nat.add_zero, ↓reduceIte]
theorem zDg_bo {r v : Nat} {B B' : List Int32} {h h' : zH} (hD : zDg sv h) (hr : (h.1 r).1 = 2) (hv : (h.1 v).1 = 24) (hf : zbo r v B B' h h') : zDg sv h' := by
  obtain ⟨a1, a2, O, T, s1, s2, g1, g2, o1, t1, b1, b2⟩ := hD
  have n1 : a1 ≠ v := fun q => by rw [← q, g1] at hv; exact absurd (show (27 : Nat) = 24 from hv) (by decide)
  have n2 : a2 ≠ v := fun q => by rw [← q, g2] at hv; exact absurd (show (27 : Nat) = 24 from hv) (by decide)
  have n3 : a1 ≠ r := fun q => by rw [← q, g1] at hr; exact absurd (show (27 : Nat) = 2 from hr) (by decide)
  have n4 : a2 ≠ r := fun q => by rw [← q, g2] at hr; exact absurd (show (27 : Nat) = 2 from hr) (by decide)
  have := hf.2.1
  exact ⟨a1, a2, O, T, s1, s2, by rw [hf.1 _ b1 n3 n1, g1], by rw [hf.1 _ b2 n4 n2, g2], o1, t1, by omega, by omega⟩
theorem zBl_k {h : zH} {r v : Nat} {B o : List Int32} (hb : zBl h r v B o) : (h.1 r).1 = 2 ∧ (h.1 v).1 = 24 := by
  obtain ⟨⟨u, e⟩, ev, _⟩ := hb
  exact ⟨by rw [e], by rw [ev]⟩
/-- a number appended -/
theorem d_9 {h : zH} {r v : Nat} {x : Int32} {B o : List Int32} (hs : sv 0 = .int (nI 1)) (hD : zDg sv h) (hb : zBl h r v B o) (ho : o.length + 11 ≤ 450) : zAd r v B o h (zcall zP sv (d + 5) 9 [.ref r, .int x] h) (some (.ref r)) (yilen x) (yilen x) := by
  have hy := yilen_le x
  obtain ⟨h1, v1, B1, e4, b1, w1, f1, l1⟩ := d_4 (sv := sv) (d := d) (k := o.length + yilen x) hb (by omega)
  have kb := zBl_k hb
  have hD1 := zDg_bo hD kb.1 kb.2 f1
  have rc : ∀ X : zR, zrc (h.1 r) 2 X = X := fun X => zBl_rc hb X
  have rc1 : ∀ X : zR, zrc (h1.1 r) 2 X = X := fun X => zBl_rc b1 X
  have e8 : zcall zP sv (d + 3) 8 [.ref r] h1 = _ := d_8 (d := d + 2) hs b1
  have e11 : zcall zP sv (d + 3) 11 [.int x] h = _ := d_11 (sv := sv) (d := d + 2)
  obtain ⟨⟨u0, e0⟩, _⟩ := hb
  obtain ⟨⟨u, e⟩, ev, ⟨hr, hv, hvr⟩, h3, h4, hL, hty⟩ := b1
  obtain ⟨h2, B2, e12, p1, p2, p3, p4, p5, p6⟩ := d_12 (sv := sv) (d := d + 2) (x := x) (base := o.length) hD1 ev hty l1 hL
  have er : h2.1 r = (2, [.ref v1, .int 0, .int u, .int (nI o.length)]) := by rw [p5 r (Ne.symm hvr), e]
  have hl : (o ++ (B2.drop o.length).take (yilen x)).length = o.length + yilen x := by
    rw [List.length_append, List.length_take, List.length_drop]
    omega
  have e10 : zcall zP sv (d + 4) 10 [.ref r, .int x] h = some (.inl (some (.ref r)), zup h2 r (2, [.ref v1, .int 0, .int u, .int (nI (o.length + yilen x))])) := by
    simp (disch := first | exact znw_u | exact znw_i) only [zc_10, zs_10_0, zs_10_0n, zs_10_1, zs_10_4, zs_10_5, zs_10_6, zs_10_7, zs_10_10, zs_10_11, zs_10_12, zs_10_12n, zs_10_13, zs_10_14, zs_10_17, zs_10_17n, zs_10_18, zs_10_21, zs_10_24, zs_10_25, zs_10_26, zs_10_26n, zs_10_27, zs_10_30, zs_10_33, zs_10_34, zs_10_37, zs_10_38, zs_10_39, zs_10_40, zs_10_40n, zs_10_41, zs_10_48, zs_10_48n, zs_10_49, zs_10_50, zs_10_53, zs_10_53n, zs_10_54, zs_10_54n, e0, e, er, zrc_2, zf_2_0, zp_2_0, zp_2_0n, zf_2_1, zp_2_10, zp_2_11, zf_2_2, zp_2_20, zp_2_21, zf_2_3, zp_2_3, e11, nI_add, rc, rc1, e4, e8, e12, nI_1e0, zbk_v, zts_s, zts_n, ↓reduceIte, List.cons_append, List.nil_append]
  refine ⟨zup h2 r (2, [.ref v1, .int 0, .int u, .int (nI (o.length + yilen x))]), v1, B2, (B2.drop o.length).take (yilen x), ?_, ⟨⟨u, by rw [zup_at, hl]⟩, by rw [zup_ne hvr, p1], ⟨by show r < h2.2.1; rw [p6]; exact hr, by show v1 < h2.2.1; rw [p6]; exact hv, hvr⟩, by rw [hl, p2]; exact l1, ?_, by rw [p2]; exact hL, p4⟩, w1, ⟨fun q q1 q2 q3 => ?_, by show h.2.1 ≤ h2.2.1; rw [p6]; exact f1.2.1, by show h2.2.1 + _ ≤ _; rw [p6, p2]; exact f1.2.2.1, by show h2.2.2 + _ ≤ _; rw [p6, p2]; exact f1.2.2.2.1, by rw [p2]; exact f1.2.2.2.2⟩, ?_, ?_⟩
  · simp (disch := first | exact znw_u | exact znw_i) only [zc_9, zs_9_0, zs_9_0n, zs_9_1, zs_9_2, zs_9_5, zs_9_5n, zs_9_6, zs_9_6n, zs_9_7, zs_9_7n, rc, e10, zbk_v, zts_s, List.cons_append, List.nil_append]
  · rw [hl, List.take_add]
    congr 1
    refine Eq.trans ?_ h4
    apply List.ext_getElem?
    intro i
    by_cases hi : i < o.length
    · rw [List.getElem?_take_of_lt hi, List.getElem?_take_of_lt hi, p3 i hi]
    · rw [List.getElem?_eq_none (by rw [List.length_take]; omega), List.getElem?_eq_none (by rw [List.length_take]; omega)]
  · have hq : q ≠ v1 := by omega
    rw [zup_ne q2, p5 q hq, f1.1 q q1 q2 q3]
  · rw [List.length_take, List.length_drop]
    omega
  · rw [List.length_take, List.length_drop]
    omega
end ZSC
