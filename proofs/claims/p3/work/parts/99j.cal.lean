section ZSJ
variable {sv : Nat → Value} {m b : Nat} {xs : List Int32} {h : zH} {w : yW} {o2 : List Int32} {th : Int32}
theorem ylti {l : List yT} {i : Nat} {t : yT} (hi : l[i]? = some t) : i < l.length := (List.getElem?_eq_some_iff.mp hi).1
theorem yreg4 {x : Int32} (q1 : ¬ x < nI 1) (q2 : ¬ nI 4 < x) : ∃ M, 1 ≤ M ∧ M ≤ 4 ∧ x = nI M := by
  rcases ycase x (n := 5) (by omega) with z | ⟨i, hi, rfl⟩
  · exfalso
    rcases z with z | z
    · exact q1 (Int32.lt_trans z (by decide +kernel))
    · have a1 := Int32.not_lt.mp q2
      exact z (Int32.lt_of_le_of_lt a1 (by decide +kernel))
  · refine ⟨i, ?_, by omega, rfl⟩
    refine Nat.le_of_not_lt fun z => q1 ?_
    exact nI_lt z (by omega)
theorem zbu_le (hc : zCls h m w) : w.1.length ≤ 60 := by
  obtain ⟨_, _, _, _, _, ⟨pos, ns, _, hi, _⟩, _⟩ := hc
  exact hi.2.2.1
theorem yadd_le (hc : zCls h m w) : (yadd w.1).2 ≤ 60 := by
  have h6 := zbu_le hc
  obtain ⟨_, _, _, _, _, ⟨pos, ns, hp⟩, _⟩ := hc
  obtain ⟨_, _, _, _, _, _, _, z, _⟩ := d_152 (sv := fun _ => .int 0) (d := 0) hp
  omega
theorem zkep_ok (hc : zCls h m w) : yAok (ykep w) := by
  obtain ⟨_, _, _, ⟨S, _, s⟩, _⟩ := hc
  exact s.2.2
theorem zhis_ok (hc : zCls h m w) {A : yA} {HA : List yA} (hk : yhis w = A :: HA) : yAok A := by
  obtain ⟨_, _, _, _, ⟨H, _, hl, hs⟩, _⟩ := hc
  have hk' : w.2.2.2.2.2.1 = A :: HA := hk
  rw [hk'] at hl hs
  cases H with
  | nil => cases hl
  | cons S H => exact (hs 0 S A rfl rfl).2.2

theorem t_feed {x1 : Int32} (T : zTi sv h m b xs w o2 th) : ∃ k bv w1 o3 th' out, k ≤ 4 ∧ zSt sv m b xs h (zcall zP sv 60 300 [.ref m, .int x1, .ref (m + 137)] h) (fun h1 => zcall zP sv 60 231 [.ref (m + 119), .int x1] h1) k bv w1 o3 th' out ∧ (∃ a0, bv = .int a0) ∧ th' = nI k ∧ (k = 0 → ∃ a : Int32, bv = .int a ∧ out = (22, .long a.toInt64)) := by
  have hc := T.1
  have hk := T.2.2.1
  have ho := T.2.2.2.1
  have r1 := zEC1 hc
  have h6 := zbu_le hc
  have e := d_24 (sv := sv) (d := 56) (x := x1) hc
  by_cases hl : w.1.length < 60
  · rw [if_pos hl, if_pos hl] at e
    exact ⟨0, _, _, o2, _, _, by omega, zst_v T (zEnd_y hc (e)) (by omega) (by omega) (hk) (fun h1 l e q => p_300v r1 e q) (fun h1 q => zMC_x (e_231 (w := yso w o2) (d := 57) q hl)) ho, ⟨_, rfl⟩, rfl, fun _ => ⟨_, rfl, rfl⟩⟩
  · rw [if_neg hl, if_neg hl] at e
    exact ⟨1, _, _, o2, _, (22, .null), by omega, zst_e T (zEnd_y hc (e)) (by omega) (by omega) (hk) (fun h1 e => p_300e_0 r1 e) (by decide) (fun h1 q => zMC_x (e_231x (w := yso w o2) (d := 57) q (show w.1.length = 60 by omega))) ho, ⟨_, rfl⟩, rfl, fun z => absurd z (by decide)⟩
theorem t_addFormula (T : zTi sv h m b xs w o2 th) : ∃ k bv w1 o3 th' out, k ≤ 4 ∧ zSt sv m b xs h (zcall zP sv 60 301 [.ref m, .ref (m + 137)] h) (fun h1 => zcall zP sv 60 235 [.ref (m + 119)] h1) k bv w1 o3 th' out ∧ (∃ a0, bv = .int a0) ∧ th' = nI k ∧ (k = 0 → ∃ a : Int32, bv = .int a ∧ out = (22, .long a.toInt64)) := by
  have hc := T.1
  have hk := T.2.2.1
  have ho := T.2.2.2.1
  have r1 := zEC1 hc
  have e := d_26 (sv := sv) (d := 12) hc
  have h6 := zTi_6 T
  have hp := yadd_le hc
  unfold yaddF at e
  cases hn : (yadd w.1).1 with
  | none =>
    rw [hn] at e
    exact ⟨1, _, _, o2, _, (22, .null), by omega, zst_e T (zEnd_y hc (e)) (by omega) (by omega) (⟨hk.1, hk.2.1, hk.2.2.1, Or.inr (nI_pos (by omega))⟩) (fun h1 e => p_301e_1 r1 e) (by decide) (fun h1 q => zMC_x (e_235n (w := yso w o2) (d := 15) q hn)) ho, ⟨_, rfl⟩, rfl, fun z => absurd z (by decide)⟩
  | some t =>
    rw [hn] at e
    by_cases hl : (ycur w).1.length = 6
    · simp only [hl, if_true] at e
      exact ⟨2, _, _, o2, _, (22, .null), by omega, zst_e T (zEnd_y hc (e)) (by omega) (by omega) (hk) (fun h1 e => p_301e_0 r1 e) (by decide) (fun h1 q => zMC_x (e_235f (w := yso w o2) (d := 15) q hn hl)) ho, ⟨_, rfl⟩, rfl, fun z => absurd z (by decide)⟩
    · by_cases hb : ysz t ≤ 31 ∧ ydp t ≤ 8
      · simp only [hl, hb, and_self, if_true, if_false] at e
        exact ⟨0, _, _, o2, _, _, by omega, zst_v T (zEnd_y hc (e)) (by omega) (by omega) (yWok_w (w := w) hk hk.1 rfl rfl rfl) (fun h1 l e q => p_301v r1 e q) (fun h1 q => zMC_x (e_235 (w := yso w o2) (d := 15) q hn (show (ycur w).1.length < 6 by omega) hb)) ho, ⟨_, rfl⟩, rfl, fun _ => ⟨_, rfl, rfl⟩⟩
      · simp only [hl, hb, if_false] at e
        exact ⟨3, _, _, o2, _, (22, .null), by omega, zst_e T (zEnd_y hc (e)) (by omega) (by omega) (hk) (fun h1 e => p_301e_3 r1 e) (by decide) (fun h1 q => zMC_x (e_235b (w := yso w o2) (d := 15) q hn (show (ycur w).1.length < 6 by omega) hb)) ho, ⟨_, rfl⟩, rfl, fun z => absurd z (by decide)⟩
theorem t_removeFormula {x1 : Int32} (T : zTi sv h m b xs w o2 th) : ∃ k bv w1 o3 th' out, k ≤ 4 ∧ zSt sv m b xs h (zcall zP sv 60 302 [.ref m, .int x1, .ref (m + 137)] h) (fun h1 => zcall zP sv 60 237 [.ref (m + 119), .int x1] h1) k bv w1 o3 th' out ∧ (∃ a0, bv = .int a0) ∧ th' = nI k ∧ (k = 0 → ∃ a : Int32, bv = .int a ∧ out = (22, .long a.toInt64)) := by
  have hc := T.1
  have hk := T.2.2.1
  have ho := T.2.2.2.1
  have r1 := zEC1 hc
  rcases ytr_or x1 T with z | ⟨i, t, rfl, hi⟩
  · have zx := yinF_no (zTi_6 T) z
    exact ⟨1, _, _, o2, _, (22, .null), by omega, zst_e T (zEnd_y hc (d_27n (d := 53) hc z)) (by omega) (by omega) (hk) (fun h1 e => p_302e_2 r1 e) (by decide) (fun h1 q => zMC_x (e_237x (w := yso w o2) (d := 35) q zx)) ho, ⟨_, rfl⟩, rfl, fun z => absurd z (by decide)⟩
  · exact ⟨0, _, _, o2, _, _, by omega, zst_v T (zEnd_y hc (d_27 (d := 53) hc (ylti hi))) (by omega) (by omega) (yWok_w hk hk.1 rfl rfl rfl) (fun h1 l e q => p_302v r1 e q) (fun h1 q => zMC_x (e_237 (w := yso w o2) (d := 35) q (ylti hi))) ho, ⟨_, rfl⟩, rfl, fun _ => ⟨_, rfl, rfl⟩⟩
theorem t_simplify {x1 : Int32} (T : zTi sv h m b xs w o2 th) : ∃ k bv w1 o3 th' out, k ≤ 4 ∧ zSt sv m b xs h (zcall zP sv 60 303 [.ref m, .int x1, .ref (m + 137)] h) (fun h1 => zcall zP sv 60 239 [.ref (m + 119), .int x1] h1) k bv w1 o3 th' out ∧ (∃ a0, bv = .int a0) ∧ th' = nI k ∧ (k = 0 → ∃ a : Int32, bv = .int a ∧ out = (22, .long a.toInt64)) := by
  have hc := T.1
  have hk := T.2.2.1
  have ho := T.2.2.2.1
  have r1 := zEC1 hc
  rcases ytr_or x1 T with z | ⟨i, t, rfl, hi⟩
  · have zx := yinF_no (zTi_6 T) z
    exact ⟨1, _, _, o2, _, (22, .null), by omega, zst_e T (zEnd_y hc (d_28n (d := 12) hc z)) (by omega) (by omega) (hk) (fun h1 e => p_303e_2 r1 e) (by decide) (fun h1 q => zMC_x (e_239x (w := yso w o2) (d := 35) q zx)) ho, ⟨_, rfl⟩, rfl, fun z => absurd z (by decide)⟩
  · exact ⟨0, _, _, o2, _, _, by omega, zst_v T (zEnd_y hc (d_28 (d := 12) hc hi)) (by omega) (by omega) (yWok_w hk hk.1 rfl rfl rfl) (fun h1 l e q => p_303v r1 e q) (fun h1 q => zMC_x (e_239 (w := yso w o2) (d := 35) q hi)) ho, ⟨_, rfl⟩, rfl, fun _ => ⟨_, rfl, rfl⟩⟩
theorem t_differentiate {x1 : Int32} {x2 : Int32} (T : zTi sv h m b xs w o2 th) : ∃ k bv w1 o3 th' out, k ≤ 4 ∧ zSt sv m b xs h (zcall zP sv 60 304 [.ref m, .int x1, .int x2, .ref (m + 137)] h) (fun h1 => zcall zP sv 60 241 [.ref (m + 119), .int x1, .int x2] h1) k bv w1 o3 th' out ∧ (∃ a0, bv = .int a0) ∧ th' = nI k ∧ (k = 0 → ∃ a : Int32, bv = .int a ∧ out = (22, .long a.toInt64)) := by
  have hc := T.1
  have hk := T.2.2.1
  have ho := T.2.2.2.1
  have r1 := zEC1 hc
  rcases ytr_or x1 T with z | ⟨i, t, rfl, hi⟩
  · have zx := yinF_no (zTi_6 T) z
    exact ⟨1, _, _, o2, _, (22, .null), by omega, zst_e T (zEnd_y hc (d_29n (d := 11) hc z)) (by omega) (by omega) (hk) (fun h1 e => p_304e_2 r1 e) (by decide) (fun h1 q => zMC_x (e_241x (w := yso w o2) (d := 35) q zx)) ho, ⟨_, rfl⟩, rfl, fun z => absurd z (by decide)⟩
  · have e := d_29 (sv := sv) (d := 11) (c := x2) hc hi
    have h6 := zTi_6 T
    unfold yderF at e
    cases hl : ylet x2 with
    | false =>
      simp only [hl, if_true] at e
      exact ⟨2, _, _, o2, _, (22, .null), by omega, zst_e T (zEnd_y hc (e)) (by omega) (by omega) (hk) (fun h1 e => p_304e_1 r1 e) (by decide) (fun h1 q => zMC_x (e_241a (w := yso w o2) (d := 35) q (ylti hi) hl)) ho, ⟨_, rfl⟩, rfl, fun z => absurd z (by decide)⟩
    | true =>
      by_cases h7 : (ycur w).1.length = 6
      · simp only [hl, h7, Bool.true_eq_false, if_true, if_false] at e
        exact ⟨3, _, _, o2, _, (22, .null), by omega, zst_e T (zEnd_y hc (e)) (by omega) (by omega) (hk) (fun h1 e => p_304e_0 r1 e) (by decide) (fun h1 q => zMC_x (e_241b (w := yso w o2) (d := 35) q (ylti hi) hl h7)) ho, ⟨_, rfl⟩, rfl, fun z => absurd z (by decide)⟩
      · by_cases hb : ysz (ysim (yder x2 t)) ≤ 31 ∧ ydp (ysim (yder x2 t)) ≤ 8
        · simp only [hl, h7, hb, and_self, Bool.true_eq_false, if_true, if_false] at e
          exact ⟨0, _, _, o2, _, _, by omega, zst_v T (zEnd_y hc (e)) (by omega) (by omega) (yWok_w hk hk.1 rfl rfl rfl) (fun h1 l e q => p_304v r1 e q) (fun h1 q => zMC_x (e_241 (w := yso w o2) (d := 35) q hi hl (show (ycur w).1.length < 6 by omega) hb)) ho, ⟨_, rfl⟩, rfl, fun _ => ⟨_, rfl, rfl⟩⟩
        · simp only [hl, h7, hb, Bool.true_eq_false, if_false] at e
          exact ⟨4, _, _, o2, _, (22, .null), by omega, zst_e T (zEnd_y hc (e)) (by omega) (by omega) (hk) (fun h1 e => p_304e_3 r1 e) (by decide) (fun h1 q => zMC_x (e_241c (w := yso w o2) (d := 35) q hi hl (show (ycur w).1.length < 6 by omega) hb)) ho, ⟨_, rfl⟩, rfl, fun z => absurd z (by decide)⟩
theorem t_substitute {x1 : Int32} {x2 : Int32} {x3 : Int32} (T : zTi sv h m b xs w o2 th) : ∃ k bv w1 o3 th' out, k ≤ 4 ∧ zSt sv m b xs h (zcall zP sv 60 305 [.ref m, .int x1, .int x2, .int x3, .ref (m + 137)] h) (fun h1 => zcall zP sv 60 244 [.ref (m + 119), .int x1, .int x2, .int x3] h1) k bv w1 o3 th' out ∧ (∃ a0, bv = .int a0) ∧ th' = nI k ∧ (k = 0 → ∃ a : Int32, bv = .int a ∧ out = (22, .long a.toInt64)) := by
  have hc := T.1
  have hk := T.2.2.1
  have ho := T.2.2.2.1
  have r1 := zEC1 hc
  rcases ytr_or x1 T with z | ⟨i, t, rfl, hi⟩
  · have zx : (yinF (ycur w) x1 && yinF (ycur w) x3) = false := by rw [yinF_no (zTi_6 T) z, Bool.false_and]
    exact ⟨1, _, _, o2, _, (22, .null), by omega, zst_e T (zEnd_y hc (d_30n (d := 11) hc z)) (by omega) (by omega) (hk) (fun h1 e => p_305e_2 r1 e) (by decide) (fun h1 q => zMC_x (e_244x (w := yso w o2) (d := 35) q zx)) ho, ⟨_, rfl⟩, rfl, fun z => absurd z (by decide)⟩
  · rcases ytr_or x3 T with z | ⟨j, u, rfl, hj⟩
    · have zx : (yinF (ycur w) (nI i) && yinF (ycur w) x3) = false := by rw [yinF_no (zTi_6 T) z, Bool.and_false]
      exact ⟨1, _, _, o2, _, (22, .null), by omega, zst_e T (zEnd_y hc (d_30m (d := 11) hc hi z)) (by omega) (by omega) (hk) (fun h1 e => p_305e_2 r1 e) (by decide) (fun h1 q => zMC_x (e_244x (w := yso w o2) (d := 35) q zx)) ho, ⟨_, rfl⟩, rfl, fun z => absurd z (by decide)⟩
    · have e := d_30 (sv := sv) (d := 11) (c := x2) hc hi hj
      unfold yinsF at e
      cases hl : ylet x2 with
      | false =>
        simp only [hl, if_true] at e
        exact ⟨2, _, _, o2, _, (22, .null), by omega, zst_e T (zEnd_y hc (e)) (by omega) (by omega) (hk) (fun h1 e => p_305e_1 r1 e) (by decide) (fun h1 q => zMC_x (e_244a (w := yso w o2) (d := 35) q (ylti hi) (ylti hj) hl)) ho, ⟨_, rfl⟩, rfl, fun z => absurd z (by decide)⟩
      | true =>
        by_cases hb : ysz (yins x2 u t) ≤ 31 ∧ ydp (yins x2 u t) ≤ 8
        · simp only [hl, hb, and_self, Bool.true_eq_false, if_true, if_false] at e
          exact ⟨0, _, _, o2, _, _, by omega, zst_v T (zEnd_y hc (e)) (by omega) (by omega) (yWok_w hk hk.1 rfl rfl rfl) (fun h1 l e q => p_305v r1 e q) (fun h1 q => zMC_x (e_244 (w := yso w o2) (d := 35) q hi hj hl hb)) ho, ⟨_, rfl⟩, rfl, fun _ => ⟨_, rfl, rfl⟩⟩
        · simp only [hl, hb, Bool.true_eq_false, if_false] at e
          exact ⟨3, _, _, o2, _, (22, .null), by omega, zst_e T (zEnd_y hc (e)) (by omega) (by omega) (hk) (fun h1 e => p_305e_3 r1 e) (by decide) (fun h1 q => zMC_x (e_244b (w := yso w o2) (d := 35) q hi hj hl hb)) ho, ⟨_, rfl⟩, rfl, fun z => absurd z (by decide)⟩
theorem t_setVariable {x1 : Int32} {x2 : Int32} (T : zTi sv h m b xs w o2 th) : ∃ k bv w1 o3 th' out, k ≤ 4 ∧ zSt sv m b xs h (zcall zP sv 60 306 [.ref m, .int x1, .int x2, .ref (m + 137)] h) (fun h1 => zcall zP sv 60 246 [.ref (m + 119), .int x1, .int x2] h1) k bv w1 o3 th' out ∧ (∃ a0, bv = .int a0) ∧ th' = nI k ∧ (k = 0 → ∃ a : Int32, bv = .int a ∧ out = (22, .long a.toInt64)) := by
  have hc := T.1
  have hk := T.2.2.1
  have ho := T.2.2.2.1
  have r1 := zEC1 hc
  cases hb : (ylet x1 && (decide (¬ x2 < -999) && decide (¬ nI 999 < x2))) with
  | false =>
    exact ⟨1, _, _, o2, _, (22, .null), by omega, zst_e T (zEnd_y hc (d_31n (d := 53) hc (by
      cases hl : ylet x1 with
      | false => exact Or.inl rfl
      | true =>
        rw [hl, Bool.true_and, Bool.and_eq_false_iff] at hb
        refine Or.inr (hb.imp (fun z => ?_) (fun z => ?_))
        · exact Decidable.byContradiction fun n => by simp [n] at z
        · exact Decidable.byContradiction fun n => by simp [n] at z))) (by omega) (by omega) (hk) (fun h1 e => p_306e_1 r1 e) (by decide) (fun h1 q => zMC_x (e_246x (w := yso w o2) (d := 35) q hb)) ho, ⟨_, rfl⟩, rfl, fun z => absurd z (by decide)⟩
  | true =>
    have hb2 := hb
    rw [Bool.and_eq_true, Bool.and_eq_true] at hb2
    exact ⟨0, _, _, o2, _, _, by omega, zst_v T (zEnd_y hc (d_31 (d := 53) hc hb2.1 (of_decide_eq_true hb2.2.1) (of_decide_eq_true hb2.2.2))) (by omega) (by omega) (yWok_w hk hk.1 rfl rfl rfl) (fun h1 l e q => p_306v r1 e q) (fun h1 q => zMC_x (e_246 (w := yso w o2) (d := 35) q hb)) ho, ⟨_, rfl⟩, rfl, fun _ => ⟨_, rfl, rfl⟩⟩
theorem t_setRegisters {x1 : Int32} (T : zTi sv h m b xs w o2 th) : ∃ k bv w1 o3 th' out, k ≤ 4 ∧ zSt sv m b xs h (zcall zP sv 60 307 [.ref m, .int x1, .ref (m + 137)] h) (fun h1 => zcall zP sv 60 248 [.ref (m + 119), .int x1] h1) k bv w1 o3 th' out ∧ (∃ a0, bv = .int a0) ∧ th' = nI k ∧ (k = 0 → ∃ a : Int32, bv = .int a ∧ out = (22, .long a.toInt64)) := by
  have hc := T.1
  have hk := T.2.2.1
  have ho := T.2.2.2.1
  have r1 := zEC1 hc
  cases hb : (decide (¬ x1 < nI 1) && decide (¬ nI 4 < x1)) with
  | false =>
    exact ⟨1, _, _, o2, _, (22, .null), by omega, zst_e T (zEnd_y hc (d_32n (d := 53) hc (by
      rw [Bool.and_eq_false_iff] at hb
      refine hb.imp (fun z => ?_) (fun z => ?_)
      · exact Decidable.byContradiction fun n => by simp [n] at z
      · exact Decidable.byContradiction fun n => by simp [n] at z))) (by omega) (by omega) (hk) (fun h1 e => p_307e_1 r1 e) (by decide) (fun h1 q => zMC_x (e_248x (w := yso w o2) (d := 35) q hb)) ho, ⟨_, rfl⟩, rfl, fun z => absurd z (by decide)⟩
  | true =>
    have hb2 := hb
    rw [Bool.and_eq_true] at hb2
    have q1 := of_decide_eq_true hb2.1
    have q2 := of_decide_eq_true hb2.2
    have hr : ∃ M, 1 ≤ M ∧ M ≤ 4 ∧ x1 = nI M := yreg4 q1 q2
    exact ⟨0, _, _, o2, _, _, by omega, zst_v T (zEnd_y hc (d_32 (d := 53) hc q1 q2)) (by omega) (by omega) (yWok_w hk hr rfl rfl rfl) (fun h1 l e q => p_307v r1 e q) (fun h1 q => zMC_x (e_248 (w := yso w o2) (d := 35) q hb)) ho, ⟨_, rfl⟩, rfl, fun _ => ⟨_, rfl, rfl⟩⟩
theorem t_variable {x1 : Int32} (T : zTi sv h m b xs w o2 th) : ∃ k bv w1 o3 th' out, k ≤ 4 ∧ zSt sv m b xs h (zcall zP sv 60 308 [.ref m, .int x1, .ref (m + 137)] h) (fun h1 => zcall zP sv 60 250 [.ref (m + 119), .int x1] h1) k bv w1 o3 th' out ∧ (∃ a0, bv = .int a0) ∧ th' = nI k ∧ (k = 0 → ∃ a : Int32, bv = .int a ∧ out = (22, .long a.toInt64)) := by
  have hc := T.1
  have hk := T.2.2.1
  have ho := T.2.2.2.1
  have r1 := zEC1 hc
  cases hl : ylet x1 with
  | false =>
    exact ⟨1, _, _, o2, _, (22, .null), by omega, zst_e T (zEnd_y hc (d_34n (d := 11) hc hl)) (by omega) (by omega) (hk) (fun h1 e => p_308e_1 r1 e) (by decide) (fun h1 q => zMC_x (e_250x (w := yso w o2) (d := 53) q hl)) ho, ⟨_, rfl⟩, rfl, fun z => absurd z (by decide)⟩
  | true =>
    exact ⟨0, _, _, o2, _, _, by omega, zst_v T (zEnd_y hc (d_34 (d := 11) hc hl)) (by omega) (by omega) (hk) (fun h1 l e q => p_308v r1 e q) (fun h1 q => zMC_x (e_250 (w := yso w o2) (d := 53) q hl)) ho, ⟨_, rfl⟩, rfl, fun _ => ⟨_, rfl, rfl⟩⟩
theorem t_errorPosition (T : zTi sv h m b xs w o2 th) : ∃ k bv w1 o3 th' out, k ≤ 4 ∧ zSt sv m b xs h (zcall zP sv 60 336 [.ref m, .ref (m + 137)] h) (fun h1 => zcall zP sv 60 294 [.ref (m + 119)] h1) k bv w1 o3 th' out ∧ (∃ a0, bv = .int a0) ∧ th' = nI k ∧ (k = 0 → ∃ a : Int32, bv = .int a ∧ out = (22, .long a.toInt64)) := by
  have hc := T.1
  have hk := T.2.2.1
  have ho := T.2.2.2.1
  have r1 := zEC1 hc
  by_cases he : w.2.1 = -1
  · exact ⟨1, _, _, o2, _, (22, .null), by omega, zst_e T (zEnd_y hc (d_65n (d := 11) hc he)) (by omega) (by omega) (hk) (fun h1 e => p_336e_4 r1 e) (by decide) (fun h1 q => zMC_x (e_294n (w := yso w o2) (d := 57) q he)) ho, ⟨_, rfl⟩, rfl, fun z => absurd z (by decide)⟩
  · exact ⟨0, _, _, o2, _, _, by omega, zst_v T (zEnd_y hc (d_65 (d := 11) hc he)) (by omega) (by omega) (hk) (fun h1 l e q => p_336v r1 e q) (fun h1 q => zMC_x (e_294 (w := yso w o2) (d := 57) q (hk.2.2.2.resolve_left he))) ho, ⟨_, rfl⟩, rfl, fun _ => ⟨_, rfl, rfl⟩⟩
theorem t_undo (T : zTi sv h m b xs w o2 th) : ∃ k bv w1 o3 th' out, k ≤ 4 ∧ zSt sv m b xs h (zcall zP sv 60 337 [.ref m, .ref (m + 137)] h) (fun h1 => zcall zP sv 60 296 [.ref (m + 119)] h1) k bv w1 o3 th' out ∧ (∃ a0, bv = .int a0) ∧ th' = nI k ∧ (k = 0 → ∃ a : Int32, bv = .int a ∧ out = (22, .long a.toInt64)) := by
  have hc := T.1
  have hk := T.2.2.1
  have ho := T.2.2.2.1
  have r1 := zEC1 hc
  cases hh : yhis w with
  | nil =>
    exact ⟨1, _, _, o2, _, (22, .null), by omega, zst_e T (zEnd_y hc (d_67n (d := 53) hc hh)) (by omega) (by omega) (hk) (fun h1 e => p_337e_0 r1 e) (by decide) (fun h1 q => zMC_x (e_296n (w := yso w o2) (d := 57) q hh)) ho, ⟨_, rfl⟩, rfl, fun z => absurd z (by decide)⟩
  | cons A HA =>
    exact ⟨0, _, _, o2, _, _, by omega, zst_v T (zEnd_y hc (d_67 (d := 53) hc hh)) (by omega) (by omega) (⟨hk.2.2.1 A (by rw [hh]; exact List.mem_cons_self), hk.2.1, fun B hB => hk.2.2.1 B (by rw [hh]; exact List.mem_cons_of_mem _ hB), hk.2.2.2⟩) (fun h1 l e q => p_337v r1 e q) (fun h1 q => zMC_x (e_296 (w := yso w o2) (d := 57) q hh (show yAok A from zhis_ok hc hh))) ho, ⟨_, rfl⟩, rfl, fun _ => ⟨_, rfl, rfl⟩⟩
theorem t_restore (T : zTi sv h m b xs w o2 th) : ∃ k bv w1 o3 th' out, k ≤ 4 ∧ zSt sv m b xs h (zcall zP sv 60 338 [.ref m, .ref (m + 137)] h) (fun h1 => zcall zP sv 60 298 [.ref (m + 119)] h1) k bv w1 o3 th' out ∧ (∃ a0, bv = .int a0) ∧ th' = nI k ∧ (k = 0 → ∃ a : Int32, bv = .int a ∧ out = (22, .long a.toInt64)) := by
  have hc := T.1
  have hk := T.2.2.1
  have ho := T.2.2.2.1
  have r1 := zEC1 hc
  cases hh : w.2.2.1 with
  | false =>
    exact ⟨1, _, _, o2, _, (22, .null), by omega, zst_e T (zEnd_y hc (d_69n (d := 53) hc hh)) (by omega) (by omega) (hk) (fun h1 e => p_338e_0 r1 e) (by decide) (fun h1 q => zMC_x (e_298n (w := yso w o2) (d := 57) q hh)) ho, ⟨_, rfl⟩, rfl, fun z => absurd z (by decide)⟩
  | true =>
    exact ⟨0, _, _, o2, _, _, by omega, zst_v T (zEnd_y hc (d_69 (d := 53) hc hh)) (by omega) (by omega) (⟨hk.2.1, hk.2.1, fun B hB => absurd hB List.not_mem_nil, hk.2.2.2⟩) (fun h1 l e q => p_338v r1 e q) (fun h1 q => zMC_x (e_298 (w := yso w o2) (d := 57) q hh (show yAok (ykep w) from zkep_ok hc))) ho, ⟨_, rfl⟩, rfl, fun _ => ⟨_, rfl, rfl⟩⟩
theorem t_clearBuffer (T : zTi sv h m b xs w o2 th) : ∃ v w1 o3 th', zSq sv m b xs h (zcall zP sv 60 25 [.ref m] h) (fun h1 => zcall zP sv 60 232 [.ref (m + 119)] h1) (.int v) (.int v) w1 o3 th' := by
  have hc := T.1
  have hk := T.2.2.1
  have ho := T.2.2.2.1
  exact ⟨_, _, o2, _, zsq_v T (zEnd_y hc (d_25 (d := 57) hc)) (by omega) (by omega) (hk) (fun h1 q => zMC_x (e_232 (w := yso w o2) (d := 57) q)) ho⟩
theorem t_formulaCount (T : zTi sv h m b xs w o2 th) : ∃ v w1 o3 th', zSq sv m b xs h (zcall zP sv 60 33 [.ref m] h) (fun h1 => zcall zP sv 60 249 [.ref (m + 119)] h1) (.int v) (.int v) w1 o3 th' := by
  have hc := T.1
  have hk := T.2.2.1
  have ho := T.2.2.2.1
  exact ⟨_, _, o2, _, zsq_v T (zEnd_y hc (d_33 (d := 12) hc)) (by omega) (by omega) (hk) (fun h1 q => zMC_x (e_249 (w := yso w o2) (d := 57) q)) ho⟩
theorem t_registers (T : zTi sv h m b xs w o2 th) : ∃ v w1 o3 th', zSq sv m b xs h (zcall zP sv 60 35 [.ref m] h) (fun h1 => zcall zP sv 60 251 [.ref (m + 119)] h1) (.int v) (.int v) w1 o3 th' := by
  have hc := T.1
  have hk := T.2.2.1
  have ho := T.2.2.2.1
  exact ⟨_, _, o2, _, zsq_v T (zEnd_y hc (d_35 (d := 12) hc)) (by omega) (by omega) (hk) (fun h1 q => zMC_x (e_251 (w := yso w o2) (d := 57) q)) ho⟩
theorem t_removedNodes (T : zTi sv h m b xs w o2 th) : ∃ v w1 o3 th', zSq sv m b xs h (zcall zP sv 60 61 [.ref m] h) (fun h1 => zcall zP sv 60 290 [.ref (m + 119)] h1) (.int v) (.int v) w1 o3 th' := by
  have hc := T.1
  have hk := T.2.2.1
  have ho := T.2.2.2.1
  exact ⟨_, _, o2, _, zsq_v T (zEnd_y hc (d_61 (d := 12) hc)) (by omega) (by omega) (hk) (fun h1 q => zMC_x (e_290 (w := yso w o2) (d := 57) q)) ho⟩
theorem t_undoCount (T : zTi sv h m b xs w o2 th) : ∃ v w1 o3 th', zSq sv m b xs h (zcall zP sv 60 66 [.ref m] h) (fun h1 => zcall zP sv 60 295 [.ref (m + 119)] h1) (.int v) (.int v) w1 o3 th' := by
  have hc := T.1
  have hk := T.2.2.1
  have ho := T.2.2.2.1
  exact ⟨_, _, o2, _, zsq_v T (zEnd_y hc (d_66 (d := 12) hc)) (by omega) (by omega) (hk) (fun h1 q => zMC_x (e_295 (w := yso w o2) (d := 57) q)) ho⟩
theorem t_save (T : zTi sv h m b xs w o2 th) : ∃ v w1 o3 th', zSq sv m b xs h (zcall zP sv 60 68 [.ref m] h) (fun h1 => zcall zP sv 60 297 [.ref (m + 119)] h1) (.int v) (.int v) w1 o3 th' := by
  have hc := T.1
  have hk := T.2.2.1
  have ho := T.2.2.2.1
  exact ⟨_, _, o2, _, zsq_v T (zEnd_y hc (d_68 (d := 54) hc)) (by omega) (by omega) (⟨hk.1, hk.1, hk.2.2.1, hk.2.2.2⟩) (fun h1 q => zMC_x (e_297 (w := yso w o2) (d := 57) q)) ho⟩
theorem t_isConsistent (T : zTi sv h m b xs w o2 th) : ∃ (c : Bool) (w1 : yW) (o3 : List Int32) (th' : Int32), zSq sv m b xs h (zcall zP sv 60 64 [.ref m] h) (fun h1 => zcall zP sv 60 293 [.ref (m + 119)] h1) (.int (yb c)) (.int (nI 1)) w1 o3 th' ∧ ((∀ M, (ycur w).2.2.1 = nI M → 1 ≤ M → M ≤ 4 → ∀ t, t ∈ (ycur w).1 → ycon (ycur w).2.1 M t) → c = true) := by
  have hc := T.1
  have hk := T.2.2.1
  have ho := T.2.2.2.1
  obtain ⟨M, h1M, hM4, hR⟩ := id hk.1
  obtain ⟨c, z1, z2⟩ := d_64 (sv := sv) (d := 9) hc hR h1M hM4
  exact ⟨c, _, _, _, zsq_v T (zEnd_y hc z2) (by omega) (by omega) hk (fun h1 q => zMC_x (e_293 (d := 57) q)) ho, fun z => z1 (z M hR h1M hM4)⟩
end ZSJ
