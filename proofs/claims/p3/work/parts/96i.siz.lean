section ZQU
variable {sv : Nat → Value} {d : Nat} {m : Nat} {h : zH} {w : yW} {th : Int32} {i : Nat} {t : yT} {M : Nat}
theorem zMdl_rd (hM : zMdl h m w th) : ∃ (F : Nat → Int32) (N : List Int32), h.1 m = (13, zMF m F) ∧ h.1 (m + 1) = (20, N.map Value.int) ∧ (∀ Kv, zael (20, N.map Value.int) 20 0 Kv = Kv (.int (nI (ycur w).1.length))) ∧ (∀ q t, (ycur w).1[q]? = some t → ∀ Kv, zael (20, N.map Value.int) 20 (nI (9 + 63 * q)) Kv = Kv (.int (nI (ysz t)))) := by
  obtain ⟨F, f31, ⟨hm, ⟨N, hN, hn⟩, _⟩, _, _, hA⟩ := hM
  refine ⟨F, N, hm, hN.1, fun Kv => ?_, fun q t hq Kv => ?_⟩
  · rw [← nI_0]
    refine zaelv ?_ (by omega)
    rw [List.getElem?_map, hn.2.1]
    rfl
  · have b := hn.2.2.2.2.2 q t hq
    have hql := (List.getElem?_eq_some_iff.mp hq).1
    have := hA.1
    refine zaelv ?_ (by omega)
    rw [List.getElem?_map, b.1, ypr_len]
    rfl
/-- the order of formulas by size -/
def ymo (a b : yT) : Int32 := if nI (ysz a) - nI (ysz b) = 0 then nI (ydp a) - nI (ydp b) else nI (ysz a) - nI (ysz b)
def ybe (T : List yT) (f q : Nat) : Bool := match T[q]?, T[f]? with
  | some a, some b => decide (0 < ymo a b) || (decide (ymo a b = 0) && decide (nI q < nI f))
  | _, _ => false
def ybn (T : List yT) (f n : Nat) : Nat := (List.range n).countP (ybe T f)
theorem ybn_s {T : List yT} {f n : Nat} : ybn T f (n + 1) = ybn T f n + (if ybe T f n = true then 1 else 0) := by
  unfold ybn
  rw [List.range_succ, List.countP_append, List.countP_singleton]
theorem e_289i {l1 : Slot} {f : Nat} {b : yT} (hf : (ycur w).1[f]? = some b) : ∀ n q (h : zH) (l5 : Slot), znw l5 = true → q + n = (ycur w).1.length → zMdl h m w th → ∃ h' r5, zrun zP sv (zcall zP sv (d + 7)) 289 22 [.val (.ref m), l1, .val (.int (nI f)), .val (.int (nI (ybn (ycur w).1 f q))), .val (.int (nI q)), l5] [] h = zrun zP sv (zcall zP sv (d + 7)) 289 105 [.val (.ref m), l1, .val (.int (nI f)), .val (.int (nI (ybn (ycur w).1 f (ycur w).1.length))), .val (.int (nI (ycur w).1.length)), r5] [] h' ∧ znw r5 = true ∧ zMdl h' m w th ∧ zmw m h h' := by
  intro n
  induction n with
  | zero =>
    intro q h l5 h5 hq hM
    obtain ⟨F, N, g1, g2, g3, g4⟩ := zMdl_rd hM
    obtain rfl : q = (ycur w).1.length := by omega
    refine ⟨h, l5, ?_, h5, hM, zmw_rfl⟩
    simp only [zs_289_22, zs_289_24, zs_289_25, zs_289_28, zs_289_29, zs_289_30, g1, zmf_0, g2, g3, Int32.lt_irrefl, ↓reduceIte]
  | succ n ih =>
    intro q h l5 h5 hq hM
    obtain ⟨F, N, g1, g2, g3, g4⟩ := zMdl_rd hM
    have hA := zMdl_A hM
    have h6 := hA.1
    have c1 : nI q < nI (ycur w).1.length := nI_lt (by omega) (by omega)
    obtain ⟨a, ha⟩ : ∃ a, (ycur w).1[q]? = some a := ⟨_, List.getElem?_eq_getElem (by omega)⟩
    have ga := g4 q a ha
    have gb := g4 f b hf
    have r0 : ∀ X : zR, zrc (h.1 m) 13 X = X := fun X => zMdl_rc hM
    have be : ybe (ycur w).1 f q = (decide (0 < ymo a b) || (decide (ymo a b = 0) && decide (nI q < nI f))) := by
      unfold ybe
      rw [ha, hf]
    have eb : ∀ (h : zH) (c : Nat) (x : Int32), zrun zP sv (zcall zP sv (d + 7)) 289 99 [.val (.ref m), l1, .val (.int (nI f)), .val (.int (nI c)), .val (.int (nI q)), .val (.int x)] [] h = zrun zP sv (zcall zP sv (d + 7)) 289 22 [.val (.ref m), l1, .val (.int (nI f)), .val (.int (nI c)), .val (.int (nI (q + 1))), .val (.int x)] [] h := fun h c x => by rw [zs_289_99, zs_289_102, nI_1']
    have tail : ∀ (h : zH), zrun zP sv (zcall zP sv (d + 7)) 289 80 [.val (.ref m), l1, .val (.int (nI f)), .val (.int (nI (ybn (ycur w).1 f q))), .val (.int (nI q)), .val (.int (ymo a b))] [] h = zrun zP sv (zcall zP sv (d + 7)) 289 22 [.val (.ref m), l1, .val (.int (nI f)), .val (.int (nI (ybn (ycur w).1 f (q + 1)))), .val (.int (nI (q + 1))), .val (.int (ymo a b))] [] h := by
      intro h
      rw [← eb, ybn_s, be]
      by_cases p1 : 0 < ymo a b
      · have q1 : (decide (0 < ymo a b) || (decide (ymo a b = 0) && decide (nI q < nI f))) = true := by rw [decide_eq_true p1, Bool.true_or]
        rw [if_pos q1]
        simp only [zs_289_80, zs_289_82, zs_289_96, if_pos p1, nI_1']
      · by_cases p2 : ymo a b = 0
        · by_cases p3 : nI q < nI f
          · have q1 : (decide (0 < ymo a b) || (decide (ymo a b = 0) && decide (nI q < nI f))) = true := by rw [decide_eq_true p2, decide_eq_true p3, Bool.and_self, Bool.or_true]
            rw [if_pos q1]
            simp only [zs_289_80, zs_289_82, zs_289_85, zs_289_87, zs_289_90, zs_289_92, zs_289_93, zs_289_96, if_neg p1, if_pos p2, if_pos p3, nI_1']
          · have q1 : ¬ (decide (0 < ymo a b) || (decide (ymo a b = 0) && decide (nI q < nI f))) = true := by rw [decide_eq_false p1, decide_eq_false p3, Bool.and_false, Bool.or_false]; exact Bool.false_ne_true
            rw [if_neg q1, Nat.add_zero]
            simp only [zs_289_80, zs_289_82, zs_289_85, zs_289_87, zs_289_90, zs_289_92, zs_289_93, if_neg p1, if_pos p2, if_neg p3, Nat.add_zero]
        · have q1 : ¬ (decide (0 < ymo a b) || (decide (ymo a b = 0) && decide (nI q < nI f))) = true := by rw [decide_eq_false p1, decide_eq_false p2, Bool.false_and, Bool.or_false]; exact Bool.false_ne_true
          rw [if_neg q1, Nat.add_zero]
          simp only [zs_289_80, zs_289_82, zs_289_85, zs_289_87, if_neg p1, if_neg p2, Nat.add_zero]
    by_cases z0 : nI (ysz a) - nI (ysz b) = 0
    · obtain ⟨h1, e1, m1, k1⟩ := e_288 (sv := sv) (d := d) hM ha
      obtain ⟨h2, e2, m2, k2⟩ := e_288 (sv := sv) (d := d) m1 hf
      have r1 : ∀ X : zR, zrc (h1.1 m) 13 X = X := fun X => zMdl_rc m1
      obtain ⟨h3, r5, e3, w5, m3, k3⟩ := ih (q + 1) h2 (.val (.int (ymo a b))) znw_i (by omega) m2
      refine ⟨h3, r5, ?_, w5, m3, zmw_tr (zmw_tr k1 k2) k3⟩
      rw [← e3, ← tail]
      have em : ymo a b = nI (ydp a) - nI (ydp b) := by unfold ymo; rw [if_pos z0]
      rw [em]
      simp (disch := first | exact h5 | exact znw_u | exact znw_i) only [zs_289_22, zs_289_24, zs_289_25, zs_289_28, zs_289_29, zs_289_30, zs_289_33, zs_289_34, zs_289_37, zs_289_39, zs_289_41, zs_289_43, zs_289_44, zs_289_45, zs_289_46, zs_289_47, zs_289_50, zs_289_52, zs_289_54, zs_289_55, zs_289_56, zs_289_57, zs_289_58, zs_289_59, zs_289_61, zs_289_63, zs_289_66, zs_289_67, zs_289_69, zs_289_72, zs_289_73, zs_289_74, zs_289_77, zs_289_78, g1, zmf_0, g2, g3, if_pos c1, nI_fb, ga, gb, if_pos z0, zrc_13v, r1, e1, e2, zbk_v, zts_s, List.cons_append, List.nil_append]
    · obtain ⟨h3, r5, e3, w5, m3, k3⟩ := ih (q + 1) h (.val (.int (ymo a b))) znw_i (by omega) hM
      refine ⟨h3, r5, ?_, w5, m3, k3⟩
      rw [← e3, ← tail]
      have em : ymo a b = nI (ysz a) - nI (ysz b) := by unfold ymo; rw [if_neg z0]
      rw [em]
      simp (disch := first | exact h5 | exact znw_u | exact znw_i) only [zs_289_22, zs_289_24, zs_289_25, zs_289_28, zs_289_29, zs_289_30, zs_289_33, zs_289_34, zs_289_37, zs_289_39, zs_289_41, zs_289_43, zs_289_44, zs_289_45, zs_289_46, zs_289_47, zs_289_50, zs_289_52, zs_289_54, zs_289_55, zs_289_56, zs_289_57, zs_289_58, zs_289_59, zs_289_61, zs_289_63, g1, zmf_0, g2, g3, if_pos c1, nI_fb, ga, gb, if_neg z0]
/-- the formula of a rank, of n from k on -/
def yrk (T : List yT) (x : Int32) : Nat → Nat → Option Nat
  | _, 0 => none
  | k, n + 1 => if nI (ybn T k T.length) = x then some k else yrk T x (k + 1) n
theorem e_289l {x : Int32} : ∀ n k (h : zH) (l3 l4 l5 : Slot), znw l3 = true → znw l4 = true → znw l5 = true → k + n = (ycur w).1.length → zMdl h m w 0 → ∃ h', zrun zP sv (zcall zP sv (d + 7)) 289 7 [.val (.ref m), .val (.int x), .val (.int (nI k)), l3, l4, l5] [] h = some (.inl (some (.int (match yrk (ycur w).1 x k n with | some c => nI c | none => 0))), h') ∧ zMdl h' m w (match yrk (ycur w).1 x k n with | some _ => 0 | none => nI 1) ∧ zmw m h h' := by
  intro n
  induction n with
  | zero =>
    intro k h l3 l4 l5 h3 h4 h5 hk hM
    obtain ⟨F, N, g1, g2, g3, g4⟩ := zMdl_rd hM
    obtain rfl : k = (ycur w).1.length := by omega
    obtain ⟨F', g, q1, q2, _⟩ := zMdl_31 (x := nI 1) hM
    have E2 : zcall zP sv (d + 7) 198 [.ref m, .int (nI 1)] h = _ := e_198 (sv := sv) (d := d + 6) g
    rw [show yrk (ycur w).1 x (ycur w).1.length 0 = none from rfl]
    refine ⟨_, ?_, q1, q2⟩
    simp only [zs_289_7, zs_289_8, zs_289_9, zs_289_12, zs_289_13, zs_289_14, zs_289_118, zs_289_119, zs_289_120, zs_289_123, g1, zmf_0, g2, g3, Int32.lt_irrefl, zrc_13v, E2, zbk_v, zts_s, ↓reduceIte, List.cons_append, List.nil_append]
  | succ n ih =>
    intro k h l3 l4 l5 h3 h4 h5 hk hM
    obtain ⟨F, N, g1, g2, g3, g4⟩ := zMdl_rd hM
    have hA := zMdl_A hM
    have h6 := hA.1
    have c1 : nI k < nI (ycur w).1.length := nI_lt (by omega) (by omega)
    obtain ⟨a, ha⟩ : ∃ a, (ycur w).1[k]? = some a := ⟨_, List.getElem?_eq_getElem (by omega)⟩
    obtain ⟨h1, r5, e1, w5, m1, k1⟩ := e_289i (sv := sv) (d := d) (l1 := .val (.int x)) ha (ycur w).1.length 0 h l5 h5 (Nat.zero_add _) hM
    rw [show ybn (ycur w).1 k 0 = 0 from rfl, nI_0] at e1
    by_cases c : nI (ybn (ycur w).1 k (ycur w).1.length) = x
    · have q : yrk (ycur w).1 x k (n + 1) = some k := by unfold yrk; rw [if_pos c]
      rw [q]
      refine ⟨h1, ?_, m1, k1⟩
      simp (disch := first | exact h3 | exact h4 | exact h5 | exact znw_u | exact znw_i) only [zs_289_7, zs_289_8, zs_289_9, zs_289_12, zs_289_13, zs_289_14, zs_289_17, zs_289_18, zs_289_19, zs_289_20, g1, zmf_0, g2, g3, if_pos c1, e1, zs_289_105, zs_289_106, zs_289_107, if_pos c, zs_289_110, zs_289_111]
    · have q : yrk (ycur w).1 x k (n + 1) = yrk (ycur w).1 x (k + 1) n := by conv => lhs; unfold yrk; rw [if_neg c]
      rw [q]
      obtain ⟨h2, e2, m2, k2⟩ := ih (k + 1) h1 (.val (.int (nI (ybn (ycur w).1 k (ycur w).1.length)))) (.val (.int (nI (ycur w).1.length))) r5 znw_i znw_i w5 (by omega) m1
      refine ⟨h2, ?_, m2, zmw_tr k1 k2⟩
      rw [← e2]
      have eb : ∀ l3 l4 l5, zrun zP sv (zcall zP sv (d + 7)) 289 112 [.val (.ref m), .val (.int x), .val (.int (nI k)), l3, l4, l5] [] h1 = zrun zP sv (zcall zP sv (d + 7)) 289 7 [.val (.ref m), .val (.int x), .val (.int (nI (k + 1))), l3, l4, l5] [] h1 := fun l3 l4 l5 => by rw [zs_289_112, zs_289_115, nI_1']
      rw [← eb]
      simp (disch := first | exact h3 | exact h4 | exact h5 | exact znw_u | exact znw_i) only [zs_289_7, zs_289_8, zs_289_9, zs_289_12, zs_289_13, zs_289_14, zs_289_17, zs_289_18, zs_289_19, zs_289_20, g1, zmf_0, g2, g3, if_pos c1, e1, zs_289_105, zs_289_106, zs_289_107, if_neg c]
theorem e_289 {x : Int32} (hM : zMdl h m w th) : zMC m h (zcall zP sv (d + 8) 289 [.ref m, .int x] h) (match yrk (ycur w).1 x 0 (ycur w).1.length with | some c => nI c | none => 0) w (match yrk (ycur w).1 x 0 (ycur w).1.length with | some _ => 0 | none => nI 1) := by
  obtain ⟨F, g, q1, q2, _⟩ := zMdl_31 (x := 0) hM
  obtain ⟨h', e, m1, k1⟩ := e_289l (sv := sv) (d := d) (x := x) (ycur w).1.length 0 _ .unset .unset .unset znw_u znw_u znw_u (Nat.zero_add _) q1
  rw [nI_0] at e
  refine ⟨h', ?_, m1, zmw_tr q2 k1⟩
  rw [← e]
  simp (disch := first | exact znw_u | exact znw_i) only [zc_289, zs_289_0, zs_289_1, zs_289_2, zs_289_5, zs_289_6, g, zmp_31]
/-- the nodes of the first n formulas -/
def ysu' (T : List yT) (n : Nat) : Nat := ((T.take n).map ysz).sum
theorem ysu'_s {T : List yT} {n : Nat} {a : yT} (ha : T[n]? = some a) : ysu' T (n + 1) = ysu' T n + ysz a := by
  unfold ysu'
  rw [List.take_add_one, ha, List.map_append, List.sum_append]
  rfl
theorem ysu'_le {T : List yT} (hT : ∀ t, t ∈ T → ytok t) : ∀ n, ysu' T n ≤ 31 * n
  | 0 => by
    unfold ysu'
    exact Nat.le_refl _
  | n + 1 => by
    have ih := ysu'_le hT n
    cases ha : T[n]? with
    | none =>
      have : T.take (n + 1) = T.take n := by
        rw [List.take_add_one, ha]
        exact List.append_nil _
      unfold ysu' at ih ⊢
      rw [this]
      omega
    | some a =>
      rw [ysu'_s ha]
      have := (hT a (List.mem_of_getElem? ha)).2.1
      omega
theorem e_291l (hM : zMdl h m w th) : ∀ n k, k + n = (ycur w).1.length → zrun zP sv (zcall zP sv d) 291 9 [.val (.ref m), .val (.int (nI (ysu' (ycur w).1 k))), .val (.int (nI k))] [] h = zrun zP sv (zcall zP sv d) 291 40 [.val (.ref m), .val (.int (nI (ysu' (ycur w).1 (ycur w).1.length))), .val (.int (nI (ycur w).1.length))] [] h := by
  obtain ⟨F, N, g1, g2, g3, g4⟩ := zMdl_rd hM
  have hA := zMdl_A hM
  have h6 := hA.1
  intro n
  induction n with
  | zero =>
    intro k hk
    obtain rfl : k = (ycur w).1.length := by omega
    simp only [zs_291_9, zs_291_10, zs_291_11, zs_291_14, zs_291_15, zs_291_16, g1, zmf_0, g2, g3, Int32.lt_irrefl, ↓reduceIte]
  | succ n ih =>
    intro k hk
    have c1 : nI k < nI (ycur w).1.length := nI_lt (by omega) (by omega)
    obtain ⟨a, ha⟩ : ∃ a, (ycur w).1[k]? = some a := ⟨_, List.getElem?_eq_getElem (by omega)⟩
    have ga := g4 k a ha
    rw [← ih (k + 1) (by omega), ysu'_s ha]
    have eb : ∀ x, zrun zP sv (zcall zP sv d) 291 34 [.val (.ref m), .val (.int x), .val (.int (nI k))] [] h = zrun zP sv (zcall zP sv d) 291 9 [.val (.ref m), .val (.int x), .val (.int (nI (k + 1)))] [] h := fun x => by rw [zs_291_34, zs_291_37, nI_1']
    rw [← eb]
    simp (disch := first | exact znw_u | exact znw_i) only [zs_291_9, zs_291_10, zs_291_11, zs_291_14, zs_291_15, zs_291_16, zs_291_19, zs_291_20, zs_291_21, zs_291_24, zs_291_26, zs_291_28, zs_291_29, zs_291_30, zs_291_31, zs_291_32, zs_291_33, g1, zmf_0, g2, g3, if_pos c1, nI_fb, ga, nI_add]
theorem yddiv : ∀ b, b < 7 → 1 ≤ b → ∀ a, a < 187 → decide (FP.ddiv (FP.i2d (nI a)) (FP.i2d (nI b)) &&& 0x7fffffffffffffff ≤ 0x7ff0000000000000) = true := by decide +kernel
theorem e_291n (hM : zMdl h m w th) (hn : (ycur w).1.length = 0) : zMV m h (zcall zP sv (d + 2) 291 [.ref m] h) (.double (FP.i2d 0)) w (nI 1) := by
  obtain ⟨F, g, q1, q2, _⟩ := zMdl_31 (x := 0) hM
  have e := e_291l (sv := sv) (d := d + 1) q1 (ycur w).1.length 0 (Nat.zero_add _)
  rw [show ysu' (ycur w).1 0 = 0 from rfl, nI_0] at e
  obtain ⟨F', N', g1, g2, g3, g4⟩ := zMdl_rd q1
  obtain ⟨F2, g', q1', q2', _⟩ := zMdl_31 (x := nI 1) q1
  have E2 : zcall zP sv (d + 1) 198 [.ref m, .int (nI 1)] _ = _ := e_198 (sv := sv) (d := d) g'
  rw [hn, nI_0] at g3
  refine ⟨_, ?_, q1', zmw_tr q2 q2'⟩
  have hr : ∀ X : zR, zrc ((zup h m (13, zMF m (yup F 31 0))).1 m) 13 X = X := fun X => zMdl_rc q1
  simp (disch := first | exact znw_u | exact znw_i) only [zc_291, zs_291_0, zs_291_1, zs_291_2, zs_291_5, zs_291_6, zs_291_7, zs_291_8, g, zmp_31]
  rw [e]
  simp (disch := first | exact znw_u | exact znw_i) only [zs_291_40, zs_291_41, zs_291_44, zs_291_45, zs_291_46, zs_291_49, zs_291_50, zs_291_51, zs_291_54, zs_291_55, zs_291_68, g1, zmf_0, g2, g3, zrc_13v, E2, zbk_v, zts_s, ↓reduceIte, List.cons_append, List.nil_append]
theorem e_291 (hM : zMdl h m w th) (hn : 0 < (ycur w).1.length) : zMV m h (zcall zP sv (d + 2) 291 [.ref m] h) (.double (FP.ddiv (FP.i2d (nI (ysu' (ycur w).1 (ycur w).1.length))) (FP.i2d (nI (ycur w).1.length)))) w 0 := by
  obtain ⟨F, g, q1, q2, _⟩ := zMdl_31 (x := 0) hM
  have e := e_291l (sv := sv) (d := d + 1) q1 (ycur w).1.length 0 (Nat.zero_add _)
  rw [show ysu' (ycur w).1 0 = 0 from rfl, nI_0] at e
  obtain ⟨F', N', g1, g2, g3, g4⟩ := zMdl_rd q1
  have hA := zMdl_A hM
  have h6 := hA.1
  have hs := ysu'_le hA.2.1 (ycur w).1.length
  have hz : (nI (ycur w).1.length = 0) = False := eq_false (nI_ne0 hn (by omega))
  have hd := yddiv (ycur w).1.length (by omega) hn (ysu' (ycur w).1 (ycur w).1.length) (by omega)
  refine ⟨_, ?_, q1, q2⟩
  simp (disch := first | exact znw_u | exact znw_i) only [zc_291, zs_291_0, zs_291_1, zs_291_2, zs_291_5, zs_291_6, zs_291_7, zs_291_8, g, zmp_31]
  rw [e]
  simp (disch := first | exact znw_u | exact znw_i) only [zs_291_40, zs_291_41, zs_291_44, zs_291_45, zs_291_46, zs_291_58, zs_291_59, zs_291_60, zs_291_61, zs_291_64, zs_291_65, zs_291_66, zs_291_67, zs_291_68, g1, zmf_0, g2, g3, hz, hd, zgd_t, ↓reduceIte]
end ZQU
