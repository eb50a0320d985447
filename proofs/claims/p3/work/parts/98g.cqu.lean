section ZRG
variable {sv : Nat → Value} {d : Nat} {h : zH} {m : Nat} {w : yW} {i M : Nat} {t : yT}
theorem ytm_g {ns : List yN} {k : Nat} (hw : ywf ns) (hk : k < ns.length) : (ytm ns)[k]? = some (ygt (ytm ns) (nI k)) := by
  have hl := hw.1
  have h1 : k < (ytm ns).length := by rw [ytm_l]; exact hk
  unfold ygt
  rw [if_neg (nI_pos (by omega)), nI_clamp (by omega), List.getElem?_eq_getElem h1]
  congr 1
  rw [List.getD_eq_getElem?_getD, List.getElem?_eq_getElem h1]
  rfl
/-- whether none of n nodes from j on stands for b -/
def yfq (ns : List yN) (b : yT) : Nat → Nat → Bool
  | _, 0 => true
  | j, n + 1 => !yeq b (ygt (ytm ns) (nI j)) && yfq ns b (j + 1) n
theorem d_79l {a mt k : Nat} {ns : List yN} (hw : ywf ns) (ht : zTre h a mt ns) (hB : yBd 8 ns) (hk : k < ns.length) : ∀ n j, j + n = k → zrun zP sv (zcall zP sv (d + 12)) 79 2 [.val (.ref a), .val (.int (nI k)), .val (.int (nI j))] [] h = some (.inl (some (.int (yb (yfq ns (ygt (ytm ns) (nI k)) j n)))), h) := by
  have hl := hw.1
  intro n
  induction n with
  | zero =>
    intro j hj
    obtain rfl : j = k := by omega
    rw [show yfq ns (ygt (ytm ns) (nI j)) j 0 = true from rfl, yb_t]
    simp only [zs_79_0, zs_79_1, zs_79_2, zs_79_3, zs_79_4, zs_79_7, zs_79_7n, zs_79_8, zs_79_9, zs_79_9n, zs_79_10, zs_79_11, zs_79_12, zs_79_15, zs_79_18, zs_79_19, zs_79_26, zs_79_27, Int32.lt_irrefl, zgd_t, zty_51, ↓reduceIte]
  | succ n ih =>
    intro j hj
    have c1 : nI j < nI k := nI_lt (by omega) (by omega)
    have hd : ydp (ygt (ytm ns) (nI k)) ≤ 8 := by
      have h1 : (ytm ns)[k]? = some (ygt (ytm ns) (nI k)) := ytm_g hw hk
      exact hB k _ h1
    have e1 : zcall zP sv (d + 12) 85 [.ref a, .int (nI k), .ref a, .int (nI j), .int (nI 1)] h = _ := d_85 (sv := sv) hw hw ht ht _ _ (nI k) (nI j) (d + 12) 1 (Or.inr ⟨k, hk, rfl⟩) (Or.inr ⟨j, by omega, rfl⟩) rfl rfl (by omega) (by omega)
    have e2 := ih (j + 1) (by omega)
    show _ = some (Sum.inl (some (Value.int (yb (!yeq (ygt (ytm ns) (nI k)) (ygt (ytm ns) (nI j)) && yfq ns (ygt (ytm ns) (nI k)) (j + 1) n)))), h)
    cases hy : yeq (ygt (ytm ns) (nI k)) (ygt (ytm ns) (nI j)) with
    | true =>
      rw [hy, yb_t] at e1
      rw [Bool.not_true, Bool.false_and, yb_f]
      simp only [zs_79_0, zs_79_1, zs_79_2, zs_79_3, zs_79_4, zs_79_7, zs_79_7n, zs_79_8, zs_79_9, zs_79_9n, zs_79_10, zs_79_11, zs_79_12, zs_79_15, zs_79_18, zs_79_19, zs_79_26, zs_79_27, if_pos c1, e1, nI_1e0, zbk_v, zts_s, zgd_t, zty_50, ↓reduceIte, List.cons_append, List.nil_append]
    | false =>
      rw [hy, yb_f] at e1
      rw [Bool.not_false, Bool.true_and, ← e2]
      have eb : zrun zP sv (zcall zP sv (d + 12)) 79 20 [.val (.ref a), .val (.int (nI k)), .val (.int (nI j))] [] h = zrun zP sv (zcall zP sv (d + 12)) 79 2 [.val (.ref a), .val (.int (nI k)), .val (.int (nI (j + 1)))] [] h := by rw [zs_79_20, zs_79_23, nI_1']
      rw [← eb]
      simp only [zs_79_0, zs_79_1, zs_79_2, zs_79_3, zs_79_4, zs_79_7, zs_79_7n, zs_79_8, zs_79_9, zs_79_9n, zs_79_10, zs_79_11, zs_79_12, zs_79_15, zs_79_18, zs_79_19, zs_79_26, zs_79_27, if_pos c1, e1, zbk_v, zts_s, ↓reduceIte, List.cons_append, List.nil_append]
theorem d_79 {a mt k : Nat} {ns : List yN} (hw : ywf ns) (ht : zTre h a mt ns) (hB : yBd 8 ns) (hk : k < ns.length) : zcall zP sv (d + 13) 79 [.ref a, .int (nI k)] h = some (.inl (some (.int (yb (yfq ns (ygt (ytm ns) (nI k)) 0 k)))), h) := by
  have e := d_79l (sv := sv) (d := d) hw ht hB hk k 0 (Nat.zero_add _)
  rw [nI_0] at e
  rw [← e]
  simp (disch := first | exact znw_u | exact znw_i) only [zc_79, zs_79_0, zs_79_1]
/-- how many of the first n nodes are the first of their kind -/
def ynq (ns : List yN) (n : Nat) : Nat := (List.range n).countP (fun k => yfq ns (ygt (ytm ns) (nI k)) 0 k)
theorem ynq_s {ns : List yN} {n : Nat} : ynq ns (n + 1) = ynq ns n + (if yfq ns (ygt (ytm ns) (nI n)) 0 n = true then 1 else 0) := by
  unfold ynq
  rw [List.range_succ, List.countP_append, List.countP_singleton]
theorem d_78l {a mt : Nat} {ns : List yN} (hw : ywf ns) (ht : zTre h a mt ns) (hB : yBd 8 ns) (hz : ns.length < 2 ^ 30) : ∀ n j, j + n = ns.length → zrun zP sv (zcall zP sv (d + 13)) 78 4 [.val (.ref a), .val (.int (nI (ynq ns j))), .val (.int (nI j))] [] h = some (.inl (some (.int (nI (ynq ns ns.length)))), h) := by
  have e1 : zcall zP sv (d + 13) 182 [.ref a] h = _ := d_182 (d := d + 12) ht
  have r : ∀ X : zR, zrc (h.1 a) 6 X = X := fun X => zTre_rc ht
  intro n
  induction n with
  | zero =>
    intro j hj
    obtain rfl : j = ns.length := by omega
    simp only [zs_78_4, zs_78_5, zs_78_6, zs_78_9, zs_78_29, zs_78_30, r, e1, zbk_v, zts_s, Int32.lt_irrefl, ↓reduceIte, List.cons_append, List.nil_append]
  | succ n ih =>
    intro j hj
    have c1 : nI j < nI ns.length := nI_lt (by omega) (by omega)
    have e2 := d_79 (sv := sv) (d := d) hw ht hB (k := j) (by omega)
    have eb : ∀ z, zrun zP sv (zcall zP sv (d + 13)) 78 23 [.val (.ref a), .val (.int z), .val (.int (nI j))] [] h = zrun zP sv (zcall zP sv (d + 13)) 78 4 [.val (.ref a), .val (.int z), .val (.int (nI (j + 1)))] [] h := fun z => by rw [zs_78_23, zs_78_26, nI_1']
    rw [← ih (j + 1) (by omega), ynq_s, ← eb]
    cases hy : yfq ns (ygt (ytm ns) (nI j)) 0 j with
    | true =>
      rw [hy, yb_t] at e2
      simp (disch := exact znw_u) only [zs_78_4, zs_78_5, zs_78_6, zs_78_9, zs_78_12, zs_78_13, zs_78_14, zs_78_17, zs_78_20, r, e1, e2, if_pos c1, nI_1e0, nI_1', zbk_v, zts_s, ↓reduceIte, List.cons_append, List.nil_append]
    | false =>
      rw [hy, yb_f] at e2
      simp (disch := exact znw_u) only [zs_78_4, zs_78_5, zs_78_6, zs_78_9, zs_78_12, zs_78_13, zs_78_14, zs_78_17, r, e1, e2, if_pos c1, Bool.false_eq_true, Nat.add_zero, zbk_v, zts_s, ↓reduceIte, List.cons_append, List.nil_append]
theorem d_78 {a mt : Nat} {ns : List yN} (hw : ywf ns) (ht : zTre h a mt ns) (hB : yBd 8 ns) (hz : ns.length < 2 ^ 30) : zcall zP sv (d + 14) 78 [.ref a] h = some (.inl (some (.int (nI (ynq ns ns.length)))), h) := by
  have e := d_78l (sv := sv) (d := d) hw ht hB hz ns.length 0 (Nat.zero_add _)
  rw [show ynq ns 0 = 0 from rfl, nI_0] at e
  rw [← e]
  simp (disch := first | exact znw_u | exact znw_i) only [zc_78, zs_78_0, zs_78_1, zs_78_2, zs_78_3]
theorem d_43 (hc : zCls h m w) (hi : (ycur w).1[i]? = some t) : zEnd h m (zcall zP sv (d + 48) 43 [.ref m, .int (nI i)] h) 0 0 (.inl (some (.int (nI (ynq (ypo 0 t) (ysz t)))))) w := by
  obtain ⟨a, e0, a1, a2, a3, a4⟩ := d_70k (sv := sv) (d := d + 45) hc hi
  have hsz := a4.2.1
  obtain ⟨f1, f2, f3, f4⟩ := yform a4.1 (by omega)
  have e1 := d_78 (sv := sv) (d := d + 33) f1 a3 (yform_bd a4.1 (by omega) a4.2.2) (by omega)
  rw [f3] at e1
  refine zEnd_s hc ?_
  simp (disch := first | exact znw_u | exact znw_i) only [zc_43, zs_43_0, zs_43_0n, zs_43_1, zs_43_2, zs_43_5, zs_43_8, zEC1 hc, e0, e1, zbk_v, zts_s, zts_n, List.cons_append, List.nil_append]
/-- the order by size, of two formulas -/
theorem ydiff : ∀ x, x < 32 → ∀ y, y < 32 → (decide (0 < nI x - nI y) = decide (nI y < nI x)) ∧ decide (nI x - nI y = 0) = decide (nI x = nI y) := by decide +kernel
theorem ybe_of {T : List yT} {f q : Nat} {a b : yT} (ha : T[q]? = some a) (hb : T[f]? = some b) (ka : ytok a) (kb : ytok b) : ybe T f q = if nI (ysz a) = nI (ysz b) then (if nI (ydp a) = nI (ydp b) then decide (nI q < nI f) else decide (nI (ydp b) < nI (ydp a))) else decide (nI (ysz b) < nI (ysz a)) := by
  have e : ybe T f q = (decide (0 < ymo a b) || (decide (ymo a b = 0) && decide (nI q < nI f))) := by
    unfold ybe
    rw [ha, hb]
  obtain ⟨s1, s2⟩ := ydiff (ysz a) (by have := ka.2.1; omega) (ysz b) (by have := kb.2.1; omega)
  obtain ⟨p1, p2⟩ := ydiff (ydp a) (by have := ka.2.2; omega) (ydp b) (by have := kb.2.2; omega)
  rw [e]
  unfold ymo
  by_cases c : nI (ysz a) = nI (ysz b)
  · have c' : nI (ysz a) - nI (ysz b) = 0 := of_decide_eq_true (by rw [s2]; exact decide_eq_true c)
    rw [if_pos c', if_pos c, p1, p2]
    by_cases c2 : nI (ydp a) = nI (ydp b)
    · rw [if_pos c2, c2, decide_eq_true rfl, decide_eq_false Int32.lt_irrefl, Bool.false_or, Bool.true_and]
    · rw [if_neg c2, decide_eq_false c2, Bool.false_and, Bool.or_false]
  · have c' : ¬ nI (ysz a) - nI (ysz b) = 0 := fun z => c (of_decide_eq_true (by rw [← s2]; exact decide_eq_true z))
    rw [if_neg c', if_neg c, s1, s2, decide_eq_false c, Bool.false_and, Bool.or_false]
theorem zfr_78 {h' : zH} {A B C : List Int32} (hc : zCls h m w) (hf : zfr (m + 78) (m + 85) h h') (hg : zGau h' (m + 78) A B C) : zCls h' m w := zCls_g hc hf hg
theorem d_81 {q f : Nat} {a b : yT} (hc : zCls h m w) (hq : (ycur w).1[q]? = some a) (hf : (ycur w).1[f]? = some b) : ∃ h', zcall zP sv (d + 46) 81 [.ref m, .int (nI q), .int (nI f)] h = some (.inl (some (.int (yb (ybe (ycur w).1 f q)))), h') ∧ zCls h' m w ∧ zfr (m + 78) (m + 85) h h' := by
  obtain ⟨x, e0, a1, a2, a3, a4⟩ := d_70k (sv := sv) (d := d + 43) hc hq
  obtain ⟨y, e1, b1, b2, b3, b4⟩ := d_70k (sv := sv) (d := d + 43) hc hf
  have q1 := zCls_0 hc
  have hsz := a4.2.1
  have hsz2 := b4.2.1
  have hdp := a4.2.2
  have hdp2 := b4.2.2
  have s1 : zcall zP sv (d + 45) 182 [.ref x] h = _ := d_182 (d := d + 44) a3
  have s2 : zcall zP sv (d + 45) 182 [.ref y] h = _ := d_182 (d := d + 44) b3
  rw [ypo_len] at s1 s2
  have r1 : ∀ X : zR, zrc (h.1 x) 6 X = X := fun X => zTre_rc a3
  have r2 : ∀ X : zR, zrc (h.1 y) 6 X = X := fun X => zTre_rc b3
  rw [ybe_of hq hf a4 b4]
  by_cases c : nI (ysz a) = nI (ysz b)
  · rw [if_pos c]
    obtain ⟨f1, f2, f3, f4⟩ := yform a4.1 (by omega)
    obtain ⟨g1, g2, g3, g4⟩ := yform b4.1 (by omega)
    obtain ⟨A, B, C, hg⟩ := zgau_ex hc
    obtain ⟨h1, A', k1, k2, k3, k4⟩ := d_118 (sv := sv) (d := d + 41) (rt := nI (ysz a - 1)) f1 (by omega) (by omega) a3 hg
    rw [yQ_g k3 (Or.inr ⟨ysz a - 1, by omega, rfl⟩) (Nat.le_refl _) f1.1, f2, yfo_L a (by omega)] at k1
    have hc1 := zCls_g hc k4 k2
    have q2 := zCls_0 hc1
    have b3' := zTre_fr b3 k4 (by omega)
    obtain ⟨h2, A2, k5, k6, k7, k8⟩ := d_118 (sv := sv) (d := d + 41) (rt := nI (ysz b - 1)) g1 (by omega) (by omega) b3' k2
    rw [yQ_g k7 (Or.inr ⟨ysz b - 1, by omega, rfl⟩) (Nat.le_refl _) g1.1, g2, yfo_L b (by omega)] at k5
    have hc2 := zCls_g hc1 k8 k6
    have e5 : zcall zP sv (d + 45) 183 [.ref x] h = _ := d_183 (d := d + 44) a3
    have e6 : zcall zP sv (d + 45) 183 [.ref y] h1 = _ := d_183 (d := d + 44) b3'
    rw [yroot_sub f4] at e5
    rw [yroot_sub g4] at e6
    have r2' : ∀ X : zR, zrc (h1.1 y) 6 X = X := fun X => zTre_rc b3'
    have rg : ∀ X : zR, zrc (h.1 (m + 78)) 10 X = X := fun X => zGau_rc hg
    have rg' : ∀ X : zR, zrc (h1.1 (m + 78)) 10 X = X := fun X => zGau_rc k2
    refine ⟨h2, ?_, hc2, zfr_tr k4 k8⟩
    by_cases c2 : nI (ydp a) = nI (ydp b)
    · rw [if_pos c2]
      by_cases c3 : nI q < nI f
      · rw [decide_eq_true c3, yb_t]
        simp (disch := first | exact znw_u | exact znw_i) only [zc_81, zs_81_0, zs_81_0n, zs_81_1, zs_81_2, zs_81_5, zs_81_5n, zs_81_6, zs_81_6n, zs_81_7, zs_81_8, zs_81_11, zs_81_11n, zs_81_13, zs_81_13n, zs_81_14, zs_81_17, zs_81_17n, zs_81_19, zs_81_22, zs_81_25, zs_81_25n, zs_81_26, zs_81_29, zs_81_29n, zs_81_31, zs_81_34, zs_81_37, zs_81_38, zs_81_41, zs_81_42, zs_81_43, zs_81_43n, zs_81_44, zs_81_47, zs_81_47n, zs_81_48, zs_81_48n, zs_81_49, zs_81_52, zs_81_55, zs_81_57, zs_81_57n, zs_81_58, zs_81_61, zs_81_61n, zs_81_63, zs_81_63n, zs_81_65, zs_81_68, zs_81_71, zs_81_73, zs_81_75, zs_81_77, zs_81_80, zs_81_82, zs_81_84, zs_81_87, zs_81_88, zs_81_91, zs_81_92, zs_81_93, zs_81_94, zs_81_95, zs_81_98, zs_81_99, zs_81_102, zs_81_103, q1, q2, zECc, zrc_1, zf_1_0, zp_1_0, zp_1_0n, zf_1_1, zp_1_1, zf_1_2, zp_1_2, zp_1_2n, zf_1_3, zp_1_3, zp_1_3n, zf_1_4, zp_1_40, zp_1_41, zf_1_5, zp_1_5, zp_1_5n, zf_1_6, zp_1_6, zp_1_6n, zf_1_7, zp_1_7, zp_1_7n, zf_1_8, zp_1_8, zp_1_8n, zf_1_9, zp_1_9, zp_1_9n, zf_1_10, zp_1_10, zp_1_10n, zf_1_11, zp_1_11, zp_1_11n, zf_1_12, zp_1_12, zp_1_12n, zEC1 hc, e0, e1, r1, r2, r2', s1, s2, if_pos c, rg, rg', e5, e6, k1, k5, if_pos c2, if_pos c3, zbk_v, zts_s, zgd_t, zty_51, ↓reduceIte, List.cons_append, List.nil_append]
      · rw [decide_eq_false c3, yb_f]
        simp (disch := first | exact znw_u | exact znw_i) only [zc_81, zs_81_0, zs_81_0n, zs_81_1, zs_81_2, zs_81_5, zs_81_5n, zs_81_6, zs_81_6n, zs_81_7, zs_81_8, zs_81_11, zs_81_11n, zs_81_13, zs_81_13n, zs_81_14, zs_81_17, zs_81_17n, zs_81_19, zs_81_22, zs_81_25, zs_81_25n, zs_81_26, zs_81_29, zs_81_29n, zs_81_31, zs_81_34, zs_81_37, zs_81_38, zs_81_41, zs_81_42, zs_81_43, zs_81_43n, zs_81_44, zs_81_47, zs_81_47n, zs_81_48, zs_81_48n, zs_81_49, zs_81_52, zs_81_55, zs_81_57, zs_81_57n, zs_81_58, zs_81_61, zs_81_61n, zs_81_63, zs_81_63n, zs_81_65, zs_81_68, zs_81_71, zs_81_73, zs_81_75, zs_81_77, zs_81_80, zs_81_82, zs_81_84, zs_81_87, zs_81_88, zs_81_91, zs_81_92, zs_81_93, zs_81_94, zs_81_95, zs_81_98, zs_81_99, zs_81_102, zs_81_103, q1, q2, zECc, zrc_1, zf_1_0, zp_1_0, zp_1_0n, zf_1_1, zp_1_1, zf_1_2, zp_1_2, zp_1_2n, zf_1_3, zp_1_3, zp_1_3n, zf_1_4, zp_1_40, zp_1_41, zf_1_5, zp_1_5, zp_1_5n, zf_1_6, zp_1_6, zp_1_6n, zf_1_7, zp_1_7, zp_1_7n, zf_1_8, zp_1_8, zp_1_8n, zf_1_9, zp_1_9, zp_1_9n, zf_1_10, zp_1_10, zp_1_10n, zf_1_11, zp_1_11, zp_1_11n, zf_1_12, zp_1_12, zp_1_12n, zEC1 hc, e0, e1, r1, r2, r2', s1, s2, if_pos c, rg, rg', e5, e6, k1, k5, if_pos c2, if_neg c3, zbk_v, zts_s, zgd_t, zty_50, ↓reduceIte, List.cons_append, List.nil_append]
    · rw [if_neg c2]
      by_cases c3 : nI (ydp b) < nI (ydp a)
      · rw [decide_eq_true c3, yb_t]
        simp (disch := first | exact znw_u | exact znw_i) only [zc_81, zs_81_0, zs_81_0n, zs_81_1, zs_81_2, zs_81_5, zs_81_5n, zs_81_6, zs_81_6n, zs_81_7, zs_81_8, zs_81_11, zs_81_11n, zs_81_13, zs_81_13n, zs_81_14, zs_81_17, zs_81_17n, zs_81_19, zs_81_22, zs_81_25, zs_81_25n, zs_81_26, zs_81_29, zs_81_29n, zs_81_31, zs_81_34, zs_81_37, zs_81_38, zs_81_41, zs_81_42, zs_81_43, zs_81_43n, zs_81_44, zs_81_47, zs_81_47n, zs_81_48, zs_81_48n, zs_81_49, zs_81_52, zs_81_55, zs_81_57, zs_81_57n, zs_81_58, zs_81_61, zs_81_61n, zs_81_63, zs_81_63n, zs_81_65, zs_81_68, zs_81_71, zs_81_73, zs_81_75, zs_81_77, zs_81_80, zs_81_82, zs_81_84, zs_81_87, zs_81_88, zs_81_91, zs_81_92, zs_81_93, zs_81_94, zs_81_95, zs_81_98, zs_81_99, zs_81_102, zs_81_103, q1, q2, zECc, zrc_1, zf_1_0, zp_1_0, zp_1_0n, zf_1_1, zp_1_1, zf_1_2, zp_1_2, zp_1_2n, zf_1_3, zp_1_3, zp_1_3n, zf_1_4, zp_1_40, zp_1_41, zf_1_5, zp_1_5, zp_1_5n, zf_1_6, zp_1_6, zp_1_6n, zf_1_7, zp_1_7, zp_1_7n, zf_1_8, zp_1_8, zp_1_8n, zf_1_9, zp_1_9, zp_1_9n, zf_1_10, zp_1_10, zp_1_10n, zf_1_11, zp_1_11, zp_1_11n, zf_1_12, zp_1_12, zp_1_12n, zEC1 hc, e0, e1, r1, r2, r2', s1, s2, if_pos c, rg, rg', e5, e6, k1, k5, if_neg c2, if_pos c3, zbk_v, zts_s, zgd_t, zty_51, ↓reduceIte, List.cons_append, List.nil_append]
      · rw [decide_eq_false c3, yb_f]
        simp (disch := first | exact znw_u | exact znw_i) only [zc_81, zs_81_0, zs_81_0n, zs_81_1, zs_81_2, zs_81_5, zs_81_5n, zs_81_6, zs_81_6n, zs_81_7, zs_81_8, zs_81_11, zs_81_11n, zs_81_13, zs_81_13n, zs_81_14, zs_81_17, zs_81_17n, zs_81_19, zs_81_22, zs_81_25, zs_81_25n, zs_81_26, zs_81_29, zs_81_29n, zs_81_31, zs_81_34, zs_81_37, zs_81_38, zs_81_41, zs_81_42, zs_81_43, zs_81_43n, zs_81_44, zs_81_47, zs_81_47n, zs_81_48, zs_81_48n, zs_81_49, zs_81_52, zs_81_55, zs_81_57, zs_81_57n, zs_81_58, zs_81_61, zs_81_61n, zs_81_63, zs_81_63n, zs_81_65, zs_81_68, zs_81_71, zs_81_73, zs_81_75, zs_81_77, zs_81_80, zs_81_82, zs_81_84, zs_81_87, zs_81_88, zs_81_91, zs_81_92, zs_81_93, zs_81_94, zs_81_95, zs_81_98, zs_81_99, zs_81_102, zs_81_103, q1, q2, zECc, zrc_1, zf_1_0, zp_1_0, zp_1_0n, zf_1_1, zp_1_1, zf_1_2, zp_1_2, zp_1_2n, zf_1_3, zp_1_3, zp_1_3n, zf_1_4, zp_1_40, zp_1_41, zf_1_5, zp_1_5, zp_1_5n, zf_1_6, zp_1_6, zp_1_6n, zf_1_7, zp_1_7, zp_1_7n, zf_1_8, zp_1_8, zp_1_8n, zf_1_9, zp_1_9, zp_1_9n, zf_1_10, zp_1_10, zp_1_10n, zf_1_11, zp_1_11, zp_1_11n, zf_1_12, zp_1_12, zp_1_12n, zEC1 hc, e0, e1, r1, r2, r2', s1, s2, if_pos c, rg, rg', e5, e6, k1, k5, if_neg c2, if_neg c3, zbk_v, zts_s, zgd_t, zty_50, ↓reduceIte, List.cons_append, List.nil_append]
  · rw [if_neg c]
    refine ⟨h, ?_, hc, zfr_rfl⟩
    by_cases c3 : nI (ysz b) < nI (ysz a)
    · rw [decide_eq_true c3, yb_t]
      simp (disch := first | exact znw_u | exact znw_i) only [zc_81, zs_81_0, zs_81_0n, zs_81_1, zs_81_2, zs_81_5, zs_81_5n, zs_81_6, zs_81_6n, zs_81_7, zs_81_8, zs_81_11, zs_81_11n, zs_81_13, zs_81_13n, zs_81_14, zs_81_17, zs_81_17n, zs_81_19, zs_81_22, zs_81_25, zs_81_25n, zs_81_26, zs_81_29, zs_81_29n, zs_81_31, zs_81_34, zs_81_37, zs_81_38, zs_81_41, zs_81_42, zs_81_43, zs_81_43n, zs_81_44, zs_81_47, zs_81_47n, zs_81_48, zs_81_48n, zs_81_49, zs_81_52, zs_81_55, zs_81_57, zs_81_57n, zs_81_58, zs_81_61, zs_81_61n, zs_81_63, zs_81_63n, zs_81_65, zs_81_68, zs_81_71, zs_81_73, zs_81_75, zs_81_77, zs_81_80, zs_81_82, zs_81_84, zs_81_87, zs_81_88, zs_81_91, zs_81_92, zs_81_93, zs_81_94, zs_81_95, zs_81_98, zs_81_99, zs_81_102, zs_81_103, q1, zECc, zrc_1, zf_1_0, zp_1_0, zp_1_0n, zf_1_1, zp_1_1, zf_1_2, zp_1_2, zp_1_2n, zf_1_3, zp_1_3, zp_1_3n, zf_1_4, zp_1_40, zp_1_41, zf_1_5, zp_1_5, zp_1_5n, zf_1_6, zp_1_6, zp_1_6n, zf_1_7, zp_1_7, zp_1_7n, zf_1_8, zp_1_8, zp_1_8n, zf_1_9, zp_1_9, zp_1_9n, zf_1_10, zp_1_10, zp_1_10n, zf_1_11, zp_1_11, zp_1_11n, zf_1_12, zp_1_12, zp_1_12n, zEC1 hc, e0, e1, r1, r2, s1, s2, if_neg c, if_pos c3, zbk_v, zts_s, zgd_t, zty_51, ↓reduceIte, List.cons_append, List.nil_append]
    · rw [decide_eq_false c3, yb_f]
      simp (disch := first | exact znw_u | exact znw_i) only [zc_81, zs_81_0, zs_81_0n, zs_81_1, zs_81_2, zs_81_5, zs_81_5n, zs_81_6, zs_81_6n, zs_81_7, zs_81_8, zs_81_11, zs_81_11n, zs_81_13, zs_81_13n, zs_81_14, zs_81_17, zs_81_17n, zs_81_19, zs_81_22, zs_81_25, zs_81_25n, zs_81_26, zs_81_29, zs_81_29n, zs_81_31, zs_81_34, zs_81_37, zs_81_38, zs_81_41, zs_81_42, zs_81_43, zs_81_43n, zs_81_44, zs_81_47, zs_81_47n, zs_81_48, zs_81_48n, zs_81_49, zs_81_52, zs_81_55, zs_81_57, zs_81_57n, zs_81_58, zs_81_61, zs_81_61n, zs_81_63, zs_81_63n, zs_81_65, zs_81_68, zs_81_71, zs_81_73, zs_81_75, zs_81_77, zs_81_80, zs_81_82, zs_81_84, zs_81_87, zs_81_88, zs_81_91, zs_81_92, zs_81_93, zs_81_94, zs_81_95, zs_81_98, zs_81_99, zs_81_102, zs_81_103, q1, zECc, zrc_1, zf_1_0, zp_1_0, zp_1_0n, zf_1_1, zp_1_1, zf_1_2, zp_1_2, zp_1_2n, zf_1_3, zp_1_3, zp_1_3n, zf_1_4, zp_1_40, zp_1_41, zf_1_5, zp_1_5, zp_1_5n, zf_1_6, zp_1_6, zp_1_6n, zf_1_7, zp_1_7, zp_1_7n, zf_1_8, zp_1_8, zp_1_8n, zf_1_9, zp_1_9, zp_1_9n, zf_1_10, zp_1_10, zp_1_10n, zf_1_11, zp_1_11, zp_1_11n, zf_1_12, zp_1_12, zp_1_12n, zEC1 hc, e0, e1, r1, r2, s1, s2, if_neg c, if_neg c3, zbk_v, zts_s, zgd_t, zty_50, ↓reduceIte, List.cons_append, List.nil_append]
theorem ybe_self {T : List yT} {f : Nat} {a : yT} (ha : T[f]? = some a) (ka : ytok a) : ybe T f f = false := by
  rw [ybe_of ha ha ka ka, if_pos rfl, if_pos rfl]
  exact decide_eq_false Int32.lt_irrefl
theorem d_80l {f : Nat} {b : yT} (hf : (ycur w).1[f]? = some b) : ∀ n q (h : zH), q + n = (ycur w).1.length → zCls h m w → ∃ h', zrun zP sv (zcall zP sv (d + 46)) 80 4 [.val (.ref m), .val (.int (nI f)), .val (.int (nI (ybn (ycur w).1 f q))), .val (.int (nI q))] [] h = some (.inl (some (.int (nI (ybn (ycur w).1 f (ycur w).1.length)))), h') ∧ zCls h' m w ∧ zfr (m + 78) (m + 85) h h' := by
  intro n
  induction n with
  | zero =>
    intro q h hq hc
    obtain rfl : q = (ycur w).1.length := by omega
    have q1 := zCls_0 hc
    have e1 : zcall zP sv (d + 46) 169 [.ref (m + 3)] h = _ := zcur_n hc (d + 45)
    refine ⟨h, ?_, hc, zfr_rfl⟩
    simp only [zs_80_4, zs_80_5, zs_80_6, zs_80_9, zs_80_12, zs_80_38, zs_80_39, q1, zECc, zrc_1, zf_1_0, zp_1_0, zp_1_0n, zf_1_1, zp_1_1, zf_1_2, zp_1_2, zp_1_2n, zf_1_3, zp_1_3, zp_1_3n, zf_1_4, zp_1_40, zp_1_41, zf_1_5, zp_1_5, zp_1_5n, zf_1_6, zp_1_6, zp_1_6n, zf_1_7, zp_1_7, zp_1_7n, zf_1_8, zp_1_8, zp_1_8n, zf_1_9, zp_1_9, zp_1_9n, zf_1_10, zp_1_10, zp_1_10n, zf_1_11, zp_1_11, zp_1_11n, zf_1_12, zp_1_12, zp_1_12n, zcur_r hc, e1, zbk_v, zts_s, Int32.lt_irrefl, ↓reduceIte, List.cons_append, List.nil_append]
  | succ n ih =>
    intro q h hq hc
    have q1 := zCls_0 hc
    have hA := zcur_ok hc
    have h6 := hA.1
    have hfl := (List.getElem?_eq_some_iff.mp hf).1
    have c1 : nI q < nI (ycur w).1.length := nI_lt (by omega) (by omega)
    obtain ⟨a, ha⟩ : ∃ a, (ycur w).1[q]? = some a := ⟨_, List.getElem?_eq_getElem (by omega)⟩
    have e1 : zcall zP sv (d + 46) 169 [.ref (m + 3)] h = _ := zcur_n hc (d + 45)
    have eb : ∀ (h : zH) z, zrun zP sv (zcall zP sv (d + 46)) 80 32 [.val (.ref m), .val (.int (nI f)), .val (.int z), .val (.int (nI q))] [] h = zrun zP sv (zcall zP sv (d + 46)) 80 4 [.val (.ref m), .val (.int (nI f)), .val (.int z), .val (.int (nI (q + 1)))] [] h := fun h z => by rw [zs_80_32, zs_80_35, nI_1']
    by_cases c2 : nI q = nI f
    · obtain rfl : q = f := (nI_eq (by omega) (by omega)).mp c2
      obtain ⟨h2, e2, s2, f2⟩ := ih (q + 1) h (by omega) hc
      refine ⟨h2, ?_, s2, f2⟩
      rw [← e2, ybn_s, ybe_self ha (hA.2.1 _ (List.mem_of_getElem? ha)), ← eb]
      simp (disch := first | exact znw_u | exact znw_i) only [zs_80_4, zs_80_5, zs_80_6, zs_80_9, zs_80_12, zs_80_15, zs_80_16, zs_80_17, q1, zECc, zrc_1, zf_1_0, zp_1_0, zp_1_0n, zf_1_1, zp_1_1, zf_1_2, zp_1_2, zp_1_2n, zf_1_3, zp_1_3, zp_1_3n, zf_1_4, zp_1_40, zp_1_41, zf_1_5, zp_1_5, zp_1_5n, zf_1_6, zp_1_6, zp_1_6n, zf_1_7, zp_1_7, zp_1_7n, zf_1_8, zp_1_8, zp_1_8n, zf_1_9, zp_1_9, zp_1_9n, zf_1_10, zp_1_10, zp_1_10n, zf_1_11, zp_1_11, zp_1_11n, zf_1_12, zp_1_12, zp_1_12n, zcur_r hc, e1, if_pos c1, Bool.false_eq_true, Nat.add_zero, zbk_v, zts_s, ↓reduceIte, List.cons_append, List.nil_append]
    · obtain ⟨h1, e3, s1, f1⟩ := d_81 (sv := sv) (d := d) hc ha hf
      obtain ⟨h2, e2, s2, f2⟩ := ih (q + 1) h1 (by omega) s1
      refine ⟨h2, ?_, s2, zfr_tr f1 f2⟩
      rw [← e2, ybn_s, ← eb]
      cases hy : ybe (ycur w).1 f q with
      | true =>
        rw [hy, yb_t] at e3
        simp (disch := first | exact znw_u | exact znw_i) only [zs_80_4, zs_80_5, zs_80_6, zs_80_9, zs_80_12, zs_80_15, zs_80_16, zs_80_17, zs_80_20, zs_80_21, zs_80_22, zs_80_23, zs_80_26, zs_80_29, q1, zECc, zrc_1, zf_1_0, zp_1_0, zp_1_0n, zf_1_1, zp_1_1, zf_1_2, zp_1_2, zp_1_2n, zf_1_3, zp_1_3, zp_1_3n, zf_1_4, zp_1_40, zp_1_41, zf_1_5, zp_1_5, zp_1_5n, zf_1_6, zp_1_6, zp_1_6n, zf_1_7, zp_1_7, zp_1_7n, zf_1_8, zp_1_8, zp_1_8n, zf_1_9, zp_1_9, zp_1_9n, zf_1_10, zp_1_10, zp_1_10n, zf_1_11, zp_1_11, zp_1_11n, zf_1_12, zp_1_12, zp_1_12n, zcur_r hc, zEC1 hc, e1, e3, if_pos c1, if_neg c2, nI_1e0, nI_1', zbk_v, zts_s, ↓reduceIte, List.cons_append, List.nil_append]
      | false =>
        rw [hy, yb_f] at e3
        simp (disch := first | exact znw_u | exact znw_i) only [zs_80_4, zs_80_5, zs_80_6, zs_80_9, zs_80_12, zs_80_15, zs_80_16, zs_80_17, zs_80_20, zs_80_21, zs_80_22, zs_80_23, zs_80_26, q1, zECc, zrc_1, zf_1_0, zp_1_0, zp_1_0n, zf_1_1, zp_1_1, zf_1_2, zp_1_2, zp_1_2n, zf_1_3, zp_1_3, zp_1_3n, zf_1_4, zp_1_40, zp_1_41, zf_1_5, zp_1_5, zp_1_5n, zf_1_6, zp_1_6, zp_1_6n, zf_1_7, zp_1_7, zp_1_7n, zf_1_8, zp_1_8, zp_1_8n, zf_1_9, zp_1_9, zp_1_9n, zf_1_10, zp_1_10, zp_1_10n, zf_1_11, zp_1_11, zp_1_11n, zf_1_12, zp_1_12, zp_1_12n, zcur_r hc, zEC1 hc, e1, e3, if_pos c1, if_neg c2, Bool.false_eq_true, Nat.add_zero, zbk_v, zts_s, ↓reduceIte, List.cons_append, List.nil_append]
theorem d_80 {f : Nat} {b : yT} (hc : zCls h m w) (hf : (ycur w).1[f]? = some b) : ∃ h', zcall zP sv (d + 47) 80 [.ref m, .int (nI f)] h = some (.inl (some (.int (nI (ybn (ycur w).1 f (ycur w).1.length)))), h') ∧ zCls h' m w ∧ zfr (m + 78) (m + 85) h h' := by
  obtain ⟨h', e, s, f1⟩ := d_80l (sv := sv) (d := d) (m := m) hf (ycur w).1.length 0 h (Nat.zero_add _) hc
  rw [show ybn (ycur w).1 f 0 = 0 from rfl, nI_0] at e
  refine ⟨h', ?_, s, f1⟩
  rw [← e]
  simp (disch := first | exact znw_u | exact znw_i) only [zc_80, zs_80_0, zs_80_1, zs_80_2, zs_80_3]
theorem d_60l {x : Int32} : ∀ n k (h : zH), k + n = (ycur w).1.length → zCls h m w → (∀ c, yrk (ycur w).1 x k n = some c → ∃ h', zrun zP sv (zcall zP sv (d + 47)) 60 6 [.val (.ref m), .val (.int x), .val (.int (nI k))] [] h = some (.inl (some (.int (nI c))), h') ∧ zCls h' m w ∧ zfr (m + 78) (m + 85) h h') ∧ (yrk (ycur w).1 x k n = none → ∃ h', zrun zP sv (zcall zP sv (d + 47)) 60 6 [.val (.ref m), .val (.int x), .val (.int (nI k))] [] h = some (.inr 4, zext h' [(0, [])] 6) ∧ zCls h' m w ∧ zfr (m + 78) (m + 85) h h') := by
  intro n
  induction n with
  | zero =>
    intro k h hk hc
    obtain rfl : k = (ycur w).1.length := by omega
    have q1 := zCls_0 hc
    have e1 : zcall zP sv (d + 47) 169 [.ref (m + 3)] h = _ := zcur_n hc (d + 46)
    rw [show yrk (ycur w).1 x (ycur w).1.length 0 = none from rfl]
    refine ⟨fun c hy => (by cases hy), fun _ => ⟨h, ?_, hc, zfr_rfl⟩⟩
    simp only [zs_60_6, zs_60_7, zs_60_8, zs_60_11, zs_60_14, zs_60_34, q1, zECc, zrc_1, zf_1_0, zp_1_0, zp_1_0n, zf_1_1, zp_1_1, zf_1_2, zp_1_2, zp_1_2n, zf_1_3, zp_1_3, zp_1_3n, zf_1_4, zp_1_40, zp_1_41, zf_1_5, zp_1_5, zp_1_5n, zf_1_6, zp_1_6, zp_1_6n, zf_1_7, zp_1_7, zp_1_7n, zf_1_8, zp_1_8, zp_1_8n, zf_1_9, zp_1_9, zp_1_9n, zf_1_10, zp_1_10, zp_1_10n, zf_1_11, zp_1_11, zp_1_11n, zf_1_12, zp_1_12, zp_1_12n, zcur_r hc, e1, zbk_v, zts_s, Int32.lt_irrefl, zext_of, ↓reduceIte, List.cons_append, List.nil_append]
  | succ n ih =>
    intro k h hk hc
    have q1 := zCls_0 hc
    have hA := zcur_ok hc
    have h6 := hA.1
    have c1 : nI k < nI (ycur w).1.length := nI_lt (by omega) (by omega)
    obtain ⟨a, ha⟩ : ∃ a, (ycur w).1[k]? = some a := ⟨_, List.getElem?_eq_getElem (by omega)⟩
    have e1 : zcall zP sv (d + 47) 169 [.ref (m + 3)] h = _ := zcur_n hc (d + 46)
    obtain ⟨h1, e2, s1, f1⟩ := d_80 (sv := sv) (d := d) hc ha
    by_cases c : nI (ybn (ycur w).1 k (ycur w).1.length) = x
    · have q : yrk (ycur w).1 x k (n + 1) = some k := by unfold yrk; rw [if_pos c]
      rw [q]
      refine ⟨fun c' hy => ?_, fun hy => (by cases hy)⟩
      cases hy
      refine ⟨h1, ?_, s1, f1⟩
      simp only [zs_60_6, zs_60_7, zs_60_8, zs_60_11, zs_60_14, zs_60_17, zs_60_18, zs_60_19, zs_60_22, zs_60_23, zs_60_26, zs_60_27, q1, zECc, zrc_1, zf_1_0, zp_1_0, zp_1_0n, zf_1_1, zp_1_1, zf_1_2, zp_1_2, zp_1_2n, zf_1_3, zp_1_3, zp_1_3n, zf_1_4, zp_1_40, zp_1_41, zf_1_5, zp_1_5, zp_1_5n, zf_1_6, zp_1_6, zp_1_6n, zf_1_7, zp_1_7, zp_1_7n, zf_1_8, zp_1_8, zp_1_8n, zf_1_9, zp_1_9, zp_1_9n, zf_1_10, zp_1_10, zp_1_10n, zf_1_11, zp_1_11, zp_1_11n, zf_1_12, zp_1_12, zp_1_12n, zcur_r hc, zEC1 hc, e1, e2, if_pos c1, if_pos c, zbk_v, zts_s, ↓reduceIte, List.cons_append, List.nil_append]
    · have q : yrk (ycur w).1 x k (n + 1) = yrk (ycur w).1 x (k + 1) n := by conv => lhs; unfold yrk; rw [if_neg c]
      obtain ⟨i1, i2⟩ := ih (k + 1) h1 (by omega) s1
      have eb : zrun zP sv (zcall zP sv (d + 47)) 60 28 [.val (.ref m), .val (.int x), .val (.int (nI k))] [] h1 = zrun zP sv (zcall zP sv (d + 47)) 60 6 [.val (.ref m), .val (.int x), .val (.int (nI (k + 1)))] [] h1 := by rw [zs_60_28, zs_60_31, nI_1']
      have e : zrun zP sv (zcall zP sv (d + 47)) 60 6 [.val (.ref m), .val (.int x), .val (.int (nI k))] [] h = zrun zP sv (zcall zP sv (d + 47)) 60 6 [.val (.ref m), .val (.int x), .val (.int (nI (k + 1)))] [] h1 := by
        rw [← eb]
        simp only [zs_60_6, zs_60_7, zs_60_8, zs_60_11, zs_60_14, zs_60_17, zs_60_18, zs_60_19, zs_60_22, zs_60_23, q1, zECc, zrc_1, zf_1_0, zp_1_0, zp_1_0n, zf_1_1, zp_1_1, zf_1_2, zp_1_2, zp_1_2n, zf_1_3, zp_1_3, zp_1_3n, zf_1_4, zp_1_40, zp_1_41, zf_1_5, zp_1_5, zp_1_5n, zf_1_6, zp_1_6, zp_1_6n, zf_1_7, zp_1_7, zp_1_7n, zf_1_8, zp_1_8, zp_1_8n, zf_1_9, zp_1_9, zp_1_9n, zf_1_10, zp_1_10, zp_1_10n, zf_1_11, zp_1_11, zp_1_11n, zf_1_12, zp_1_12, zp_1_12n, zcur_r hc, zEC1 hc, e1, e2, if_pos c1, if_neg c, zbk_v, zts_s, ↓reduceIte, List.cons_append, List.nil_append]
      rw [q, e]
      refine ⟨fun c' hy => ?_, fun hy => ?_⟩
      · obtain ⟨h2, e3, s3, f3⟩ := i1 c' hy
        exact ⟨h2, e3, s3, zfr_tr f1 f3⟩
      · obtain ⟨h2, e3, s3, f3⟩ := i2 hy
        exact ⟨h2, e3, s3, zfr_tr f1 f3⟩
theorem yrk_neg {T : List yT} {x : Int32} (hx : x < 0) : ∀ n k, k + n ≤ T.length → T.length ≤ 6 → yrk T x k n = none
  | 0, _, _, _ => rfl
  | n + 1, k, h1, h6 => by
    have hle : ybn T k T.length ≤ T.length := by
      have := List.countP_le_length (p := ybe T k) (l := List.range T.length)
      rw [List.length_range] at this
      exact this
    have c : ¬ nI (ybn T k T.length) = x := fun z => by
      rw [← z] at hx
      exact nI_pos (n := ybn T k T.length) (by omega) hx
    unfold yrk
    rw [if_neg c]
    exact yrk_neg hx n (k + 1) (by omega) h6
theorem d_60k {x : Int32} {k : Nat} (hc : zCls h m w) (hk : yrk (ycur w).1 x 0 (ycur w).1.length = some k) : zEnd h m (zcall zP sv (d + 48) 60 [.ref m, .int x] h) 0 0 (.inl (some (.int (nI k)))) w := by
  have hA := zcur_ok hc
  have c0 : ¬ x < 0 := fun z => by
    rw [yrk_neg z _ 0 (by omega) hA.1] at hk
    cases hk
  obtain ⟨h', e, s, f⟩ := (d_60l (sv := sv) (d := d) (m := m) (x := x) (ycur w).1.length 0 h (Nat.zero_add _) hc).1 k hk
  rw [nI_0] at e
  refine ⟨h', ?_, s, zfr_fx f (by omega) (by omega)⟩
  rw [← e]
  simp (disch := first | exact znw_u | exact znw_i) only [zc_60, zs_60_0, zs_60_1, zs_60_4, zs_60_5, if_neg c0]
theorem d_60n {x : Int32} (hc : zCls h m w) (hk : yrk (ycur w).1 x 0 (ycur w).1.length = none) : zEnd h m (zcall zP sv (d + 48) 60 [.ref m, .int x] h) 1 6 (.inr 4) w := by
  by_cases c0 : x < 0
  · obtain ⟨t1, t2⟩ := zthrow hc
    refine ⟨_, ?_, t1, t2⟩
    simp (disch := first | exact znw_u | exact znw_i) only [zc_60, zs_60_0, zs_60_1, zs_60_34, if_pos c0, zext_of]
  · obtain ⟨h', e, s, f⟩ := (d_60l (sv := sv) (d := d) (m := m) (x := x) (ycur w).1.length 0 h (Nat.zero_add _) hc).2 hk
    rw [nI_0] at e
    obtain ⟨t1, t2⟩ := zthrow s
    refine ⟨_, ?_, t1, zfx_fr_l f t2 (by omega) (by omega)⟩
    rw [← e]
    simp (disch := first | exact znw_u | exact znw_i) only [zc_60, zs_60_0, zs_60_1, zs_60_4, zs_60_5, if_neg c0]
end ZRG
