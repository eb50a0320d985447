section ZSI
variable {sv : Nat → Value} {m b : Nat} {xs : List Int32} {h : zH} {w : yW} {o2 : List Int32} {th : Int32}
theorem yinF_no {A : yA} {x : Int32} (hA : A.1.length ≤ 6) (hx : x < 0 ∨ ¬ x < nI A.1.length) : yinF A x = false := by
  rcases yinF_or hA x with ⟨i, hi, rfl⟩ | z
  · rcases hx with q | q
    · exact absurd q (nI_pos (by omega))
    · exact absurd (nI_lt hi (by omega)) q
  · exact z
theorem zMC_x {w : yW} {m2 : Nat} {h : zH} {r : zR} {a th : Int32} (hz : zMC m2 h r a w th) : ∃ h2, r = some (.inl (some (.int a)), h2) ∧ zMdl h2 m2 w th ∧ zmw m2 h h2 := hz
theorem zTi_6 (T : zTi sv h m b xs w o2 th) : (ycur w).1.length ≤ 6 := (zcur_ok T.1).1
theorem ytr_or (x : Int32) (T : zTi sv h m b xs w o2 th) : (x < 0 ∨ ¬ x < nI (ycur w).1.length) ∨ ∃ i t, x = nI i ∧ (ycur w).1[i]? = some t := by
  have h6 := zTi_6 T
  rcases ycase x (n := (ycur w).1.length) (by omega) with z | ⟨i, hi, rfl⟩
  · exact Or.inl z
  · exact Or.inr ⟨i, _, rfl, List.getElem?_eq_getElem hi⟩
theorem yff2 : ∀ b, b < 63 → ∀ a, a ≤ b → 1 ≤ b → decide (FP.f2d (FP.fdiv (FP.i2f (nI a)) (FP.i2f (nI b))) &&& 9223372036854775807 ≤ 9218868437227405312) = true := by decide +kernel
theorem yff3 : ∀ b, b < 63 → ∀ a, a ≤ b → 1 ≤ b → Op.cmpValue (FP.dcmp (FP.f2d (FP.fdiv (FP.i2f (nI a)) (FP.i2f (nI b)))) (FP.f2d (FP.fdiv (FP.i2f (nI a)) (FP.i2f (nI b))))) .l = 0 := by decide +kernel

theorem t_nodeCount {x1 : Int32} (T : zTi sv h m b xs w o2 th) : ∃ k bv w1 o3 th' out, k ≤ 4 ∧ zSt sv m b xs h (zcall zP sv 60 309 [.ref m, .int x1, .ref (m + 137)] h) (fun h1 => zcall zP sv 60 253 [.ref (m + 119), .int x1] h1) k bv w1 o3 th' out ∧ (∃ a0, bv = .int a0) ∧ th' = nI k ∧ (k = 0 → ∃ a : Int32, bv = .int a ∧ out = (22, .long a.toInt64)) := by
  have hc := T.1
  have hk := T.2.2.1
  have ho := T.2.2.2.1
  have r1 := zEC1 hc
  rcases ytr_or x1 T with z | ⟨i, t, rfl, hi⟩
  · have zx := yinF_no (zTi_6 T) z
    exact ⟨1, _, _, _, _, (22, .null), by omega, zst_e T (zEnd_y hc (d_36n (d := 11) hc z)) (by omega) (by omega) hk (fun h1 e => p_309e_2 r1 e) (by decide) (fun h1 q => zMC_x (e_253x (d := 53) q zx)) ho, ⟨_, rfl⟩, rfl, fun z => absurd z (by decide)⟩
  · exact ⟨0, _, _, _, _, _, by omega, zst_v T (zEnd_y hc (d_36 (d := 11) hc hi)) (by omega) (by omega) hk (fun h1 l e q => p_309v r1 e q) (fun h1 q => zMC_x (e_253 (d := 53) q hi)) ho, ⟨_, rfl⟩, rfl, fun _ => ⟨_, rfl, rfl⟩⟩
theorem t_depth {x1 : Int32} (T : zTi sv h m b xs w o2 th) : ∃ k bv w1 o3 th' out, k ≤ 4 ∧ zSt sv m b xs h (zcall zP sv 60 310 [.ref m, .int x1, .ref (m + 137)] h) (fun h1 => zcall zP sv 60 254 [.ref (m + 119), .int x1] h1) k bv w1 o3 th' out ∧ (∃ a0, bv = .int a0) ∧ th' = nI k ∧ (k = 0 → ∃ a : Int32, bv = .int a ∧ out = (22, .long a.toInt64)) := by
  have hc := T.1
  have hk := T.2.2.1
  have ho := T.2.2.2.1
  have r1 := zEC1 hc
  rcases ytr_or x1 T with z | ⟨i, t, rfl, hi⟩
  · have zx := yinF_no (zTi_6 T) z
    exact ⟨1, _, _, _, _, (22, .null), by omega, zst_e T (zEnd_y hc (d_37n (d := 11) hc z)) (by omega) (by omega) hk (fun h1 e => p_310e_2 r1 e) (by decide) (fun h1 q => zMC_x (e_254x (d := 53) q zx)) ho, ⟨_, rfl⟩, rfl, fun z => absurd z (by decide)⟩
  · have tk := (zcur_ok hc).2.1 t (List.mem_of_getElem? hi)
    exact ⟨0, _, _, _, _, _, by omega, zst_v T (zEnd_y hc (d_37 (d := 11) hc hi)) (by omega) (by omega) hk (fun h1 l e q => p_310v r1 e q) (fun h1 q => zMC_x (by
      obtain ⟨N, _, z⟩ := e_254 (d := 53) q hi
      rw [ymf1 t tk.1 (by have := tk.2.2; omega)] at z
      exact z)) ho, ⟨_, rfl⟩, rfl, fun _ => ⟨_, rfl, rfl⟩⟩
theorem zst_va {A rc : zR} {Bf : zH → zR} {N K : Nat} {y : Int64} {v : Value} {o3 : List Int32} {th' : Int32} {w1 : yW} (T : zTi sv h m b xs w o2 th) (hC : ∃ h1, rc = some (.inl (some v), h1) ∧ zCls h1 m w1 ∧ zfy m N K h h1) (hN : N ≤ 1000) (hK : K ≤ 2000) (hk : yWok w1) (hP : ∀ h1 l, rc = some (.inl (some v), h1) → h1.1 (m + 137) = (22, [.long l]) → A = some (.inl (some (.int 0)), zup h1 (m + 137) (22, [.long y]))) (hM : ∀ h1, zMdl h1 (m + 119) (yso w o2) th → ∃ (a : Int32) (h2 : zH), Bf h1 = some (.inl (some (.int a)), h2) ∧ zMdl h2 (m + 119) (yso w1 o3) th' ∧ zmw (m + 119) h1 h2) (ho : ∀ x, x ∈ o3 → ychr x) : ∃ k bv w1 o3 th' out, k ≤ 4 ∧ zSt sv m b xs h A Bf k bv w1 o3 th' out ∧ ∃ a0, bv = .int a0 := by
  obtain ⟨h1, e1, c1, f1⟩ := hC
  have T1 := zTj_c T c1 f1 hk
  obtain ⟨l, t7⟩ := T1.2.2.2.2.2.1
  have e2 := hP h1 l e1 t7
  have T2 := zTj_o (y := y) T1
  obtain ⟨a, h2, e3, m2, f2⟩ := hM _ T2.2.1
  exact ⟨0, _, _, _, _, (22, .long y), by omega, ⟨_, h2, by rw [e2, nI_0], fun X => zMdl_rc T2.2.1, T2.2.2.2.2.1.2, e3, zTj_m T2 m2 f2 ho, zgr_of f1 f2.2 hN hK, fun _ => ⟨fun _ => by rw [f2.1 _ (by omega), zup_at], fun q => (by cases q)⟩⟩, _, rfl⟩
theorem t_degree {x1 : Int32} (T : zTi sv h m b xs w o2 th) : ∃ k bv w1 o3 th' out, k ≤ 4 ∧ zSt sv m b xs h (zcall zP sv 60 312 [.ref m, .int x1, .ref (m + 137)] h) (fun h1 => zcall zP sv 60 256 [.ref (m + 119), .int x1] h1) k bv w1 o3 th' out ∧ (∃ a0, bv = .int a0) ∧ th' = nI k ∧ (k = 0 → ∃ a : Int32, bv = .int a ∧ out = (22, .long a.toInt64)) := by
  have hc := T.1
  have hk := T.2.2.1
  have ho := T.2.2.2.1
  have r1 := zEC1 hc
  rcases ytr_or x1 T with z | ⟨i, t, rfl, hi⟩
  · have zx := yinF_no (zTi_6 T) z
    exact ⟨1, _, _, _, _, (22, .null), by omega, zst_e T (zEnd_y hc (d_39n (d := 11) hc z)) (by omega) (by omega) hk (fun h1 e => p_312e_2 r1 e) (by decide) (fun h1 q => zMC_x (e_256x (d := 53) q zx)) ho, ⟨_, rfl⟩, rfl, fun z => absurd z (by decide)⟩
  · have tk := (zcur_ok hc).2.1 t (List.mem_of_getElem? hi)
    have ks := tk.2.1
    exact ⟨0, _, _, _, _, _, by omega, zst_v T (zEnd_y hc (d_39 (d := 11) hc hi)) (by omega) (by omega) hk (fun h1 l e q => p_312v r1 e q) (fun h1 q => zMC_x (by
      obtain ⟨N, hN, z⟩ := e_256 (sv := sv) (d := 53) q hi
      rw [show yfo (ymf 2 N) t = yfo yfP t from ((ydg_P tk.1 (by omega)).2 N).trans (ydg_P tk.1 (by omega)).1.symm] at z
      exact z)) ho, ⟨_, rfl⟩, rfl, fun _ => ⟨_, rfl, rfl⟩⟩
theorem t_isConstant {x1 : Int32} (T : zTi sv h m b xs w o2 th) : ∃ k bv w1 o3 th' out, k ≤ 4 ∧ zSt sv m b xs h (zcall zP sv 60 313 [.ref m, .int x1, .ref (m + 137)] h) (fun h1 => zcall zP sv 60 257 [.ref (m + 119), .int x1] h1) k bv w1 o3 th' out ∧ (∃ a0, bv = .int a0) ∧ th' = nI k ∧ (k = 0 → ∃ c : Bool, bv = .int (yb c) ∧ out = (22, .long (if c = true then 1 else 0))) := by
  have hc := T.1
  have hk := T.2.2.1
  have ho := T.2.2.2.1
  have r1 := zEC1 hc
  rcases ytr_or x1 T with z | ⟨i, t, rfl, hi⟩
  · have zx := yinF_no (zTi_6 T) z
    exact ⟨1, _, _, _, _, (22, .null), by omega, zst_e T (zEnd_y hc (d_40n (d := 11) hc z)) (by omega) (by omega) hk (fun h1 e => p_313e_2 r1 e) (by decide) (fun h1 q => zMC_x (e_257x (d := 53) q zx)) ho, ⟨_, rfl⟩, rfl, fun z => absurd z (by decide)⟩
  · exact ⟨0, _, _, _, _, _, by omega, zst_v T (zEnd_y hc (d_40 (d := 11) hc hi)) (by omega) (by omega) hk (fun h1 l e q => p_313v r1 e q) (fun h1 q => zMC_x (by
      have z := e_257 (sv := sv) (d := 53) q hi
      rw [show decide (yvc (ypr t) = 0) = !yvr (ypo 0 t) from by rw [yvr_vc, Bool.not_not]] at z
      exact z)) ho, ⟨_, rfl⟩, rfl, fun _ => ⟨_, rfl, rfl⟩⟩
theorem t_distinctParts {x1 : Int32} (T : zTi sv h m b xs w o2 th) : ∃ k bv w1 o3 th' out, k ≤ 4 ∧ zSt sv m b xs h (zcall zP sv 60 315 [.ref m, .int x1, .ref (m + 137)] h) (fun h1 => zcall zP sv 60 261 [.ref (m + 119), .int x1] h1) k bv w1 o3 th' out ∧ (∃ a0, bv = .int a0) := by
  have hc := T.1
  have hk := T.2.2.1
  have ho := T.2.2.2.1
  have r1 := zEC1 hc
  rcases ytr_or x1 T with z | ⟨i, t, rfl, hi⟩
  · have zx := yinF_no (zTi_6 T) z
    exact ⟨1, _, _, _, _, (22, .null), by omega, zst_e T (zEnd_y hc (d_42n (d := 11) hc z)) (by omega) (by omega) hk (fun h1 e => p_315e_2 r1 e) (by decide) (fun h1 q => zMC_x (e_261x (d := 53) q zx)) ho, ⟨_, rfl⟩⟩
  · obtain ⟨B0, _, zc⟩ := d_42 (sv := sv) (d := 11) hc hi
    exact ⟨0, _, _, _, _, _, by omega, zst_v T (zEnd_y hc zc) (by omega) (by omega) hk (fun h1 l e q => p_315v r1 e q) (fun h1 q => zMC_x (e_261 (d := 53) q hi)) ho, ⟨_, rfl⟩⟩
theorem t_distinctPartsByComparison {x1 : Int32} (T : zTi sv h m b xs w o2 th) : ∃ k bv w1 o3 th' out, k ≤ 4 ∧ zSt sv m b xs h (zcall zP sv 60 316 [.ref m, .int x1, .ref (m + 137)] h) (fun h1 => zcall zP sv 60 262 [.ref (m + 119), .int x1] h1) k bv w1 o3 th' out ∧ (∃ a0, bv = .int a0) := by
  have hc := T.1
  have hk := T.2.2.1
  have ho := T.2.2.2.1
  have r1 := zEC1 hc
  rcases ytr_or x1 T with z | ⟨i, t, rfl, hi⟩
  · have zx := yinF_no (zTi_6 T) z
    exact ⟨1, _, _, _, _, (22, .null), by omega, zst_e T (zEnd_y hc (d_43n (d := 11) hc z)) (by omega) (by omega) hk (fun h1 e => p_316e_2 r1 e) (by decide) (fun h1 q => zMC_x (e_262w (d := 52) q (e_261x (d := 52) q zx))) ho, ⟨_, rfl⟩⟩
  · exact ⟨0, _, _, _, _, _, by omega, zst_v T (zEnd_y hc (d_43 (d := 11) hc hi)) (by omega) (by omega) hk (fun h1 l e q => p_316v r1 e q) (fun h1 q => zMC_x (e_262w (d := 52) q (e_261 (d := 52) q hi))) ho, ⟨_, rfl⟩⟩
theorem t_value {x1 : Int32} (T : zTi sv h m b xs w o2 th) : ∃ k bv w1 o3 th' out, k ≤ 4 ∧ zSt sv m b xs h (zcall zP sv 60 318 [.ref m, .int x1, .ref (m + 137)] h) (fun h1 => zcall zP sv 60 264 [.ref (m + 119), .int x1] h1) k bv w1 o3 th' out ∧ (∃ a0, bv = .int a0) ∧ th' = nI k ∧ (k = 0 → ∃ a : Int32, bv = .int a ∧ out = (22, .long a.toInt64)) := by
  have hc := T.1
  have hk := T.2.2.1
  have ho := T.2.2.2.1
  have r1 := zEC1 hc
  rcases ytr_or x1 T with z | ⟨i, t, rfl, hi⟩
  · have zx := yinF_no (zTi_6 T) z
    exact ⟨1, _, _, _, _, (22, .null), by omega, zst_e T (zEnd_y hc (d_45n (d := 11) hc z)) (by omega) (by omega) hk (fun h1 e => p_318e_2 r1 e) (by decide) (fun h1 q => zMC_x (e_264x (d := 53) q zx)) ho, ⟨_, rfl⟩, rfl, fun z => absurd z (by decide)⟩
  · have tk := (zcur_ok hc).2.1 t (List.mem_of_getElem? hi)
    have ks := tk.2.1
    exact ⟨0, _, _, _, _, _, by omega, zst_v T (zEnd_y hc (d_45 (d := 11) hc hi)) (by omega) (by omega) hk (fun h1 l e q => p_318v r1 e q) (fun h1 q => zMC_x (by
      obtain ⟨N, hN, z⟩ := e_264 (sv := sv) (d := 53) q hi
      rw [yval_N hN (show yAok (ycur (yso w o2)) from zcur_ok (w := w) hc) tk.1] at z
      exact z)) ho, ⟨_, rfl⟩, rfl, fun _ => ⟨_, rfl, rfl⟩⟩
theorem t_codeLength {x1 : Int32} (T : zTi sv h m b xs w o2 th) : ∃ k bv w1 o3 th' out, k ≤ 4 ∧ zSt sv m b xs h (zcall zP sv 60 324 [.ref m, .int x1, .ref (m + 137)] h) (fun h1 => zcall zP sv 60 273 [.ref (m + 119), .int x1] h1) k bv w1 o3 th' out ∧ (∃ a0, bv = .int a0) ∧ th' = nI k ∧ (k = 0 → ∃ a : Int32, bv = .int a ∧ out = (22, .long a.toInt64)) := by
  have hc := T.1
  have hk := T.2.2.1
  have ho := T.2.2.2.1
  have r1 := zEC1 hc
  obtain ⟨M, h1M, hM4, hR⟩ := id hk.1
  rcases ytr_or x1 T with z | ⟨i, t, rfl, hi⟩
  · have zx := yinF_no (zTi_6 T) z
    exact ⟨1, _, _, _, _, (22, .null), by omega, zst_e T (zEnd_y hc (d_51n (d := 11) hc z)) (by omega) (by omega) hk (fun h1 e => p_324e_2 r1 e) (by decide) (fun h1 q => zMC_x (e_273x (d := 52) q hR zx)) ho, ⟨_, rfl⟩, rfl, fun z => absurd z (by decide)⟩
  · exact ⟨0, _, _, _, _, _, by omega, zst_v T (zEnd_y hc (d_51 (d := 11) hc hi hR h1M hM4)) (by omega) (by omega) hk (fun h1 l e q => p_324v r1 e q) (fun h1 q => zMC_x (e_273 (d := 48) q hi hR h1M hM4)) ho, ⟨_, rfl⟩, rfl, fun _ => ⟨_, rfl, rfl⟩⟩
theorem t_storeCount {x1 : Int32} (T : zTi sv h m b xs w o2 th) : ∃ k bv w1 o3 th' out, k ≤ 4 ∧ zSt sv m b xs h (zcall zP sv 60 325 [.ref m, .int x1, .ref (m + 137)] h) (fun h1 => zcall zP sv 60 274 [.ref (m + 119), .int x1] h1) k bv w1 o3 th' out ∧ (∃ a0, bv = .int a0) ∧ th' = nI k ∧ (k = 0 → ∃ a : Int32, bv = .int a ∧ out = (22, .long a.toInt64)) := by
  have hc := T.1
  have hk := T.2.2.1
  have ho := T.2.2.2.1
  have r1 := zEC1 hc
  obtain ⟨M, h1M, hM4, hR⟩ := id hk.1
  rcases ytr_or x1 T with z | ⟨i, t, rfl, hi⟩
  · have zx := yinF_no (zTi_6 T) z
    exact ⟨1, _, _, _, _, (22, .null), by omega, zst_e T (zEnd_y hc (d_52n (d := 11) hc z)) (by omega) (by omega) hk (fun h1 e => p_325e_2 r1 e) (by decide) (fun h1 q => zMC_x (e_274x (d := 52) q hR zx)) ho, ⟨_, rfl⟩, rfl, fun z => absurd z (by decide)⟩
  · exact ⟨0, _, _, _, _, _, by omega, zst_v T (zEnd_y hc (d_52 (d := 11) hc hi hR h1M hM4)) (by omega) (by omega) hk (fun h1 l e q => p_325v r1 e q) (fun h1 q => zMC_x (e_274 (d := 48) q hi hR h1M hM4)) ho, ⟨_, rfl⟩, rfl, fun _ => ⟨_, rfl, rfl⟩⟩
theorem t_slotCount {x1 : Int32} (T : zTi sv h m b xs w o2 th) : ∃ k bv w1 o3 th' out, k ≤ 4 ∧ zSt sv m b xs h (zcall zP sv 60 326 [.ref m, .int x1, .ref (m + 137)] h) (fun h1 => zcall zP sv 60 275 [.ref (m + 119), .int x1] h1) k bv w1 o3 th' out ∧ (∃ a0, bv = .int a0) ∧ th' = nI k ∧ (k = 0 → ∃ a : Int32, bv = .int a ∧ out = (22, .long a.toInt64)) := by
  have hc := T.1
  have hk := T.2.2.1
  have ho := T.2.2.2.1
  have r1 := zEC1 hc
  obtain ⟨M, h1M, hM4, hR⟩ := id hk.1
  rcases ytr_or x1 T with z | ⟨i, t, rfl, hi⟩
  · have zx := yinF_no (zTi_6 T) z
    exact ⟨1, _, _, _, _, (22, .null), by omega, zst_e T (zEnd_y hc (d_53n (d := 11) hc z)) (by omega) (by omega) hk (fun h1 e => p_326e_2 r1 e) (by decide) (fun h1 q => zMC_x (e_275x (d := 52) q hR zx)) ho, ⟨_, rfl⟩, rfl, fun z => absurd z (by decide)⟩
  · exact ⟨0, _, _, _, _, _, by omega, zst_v T (zEnd_y hc (d_53 (d := 11) hc hi hR h1M hM4)) (by omega) (by omega) hk (fun h1 l e q => p_326v r1 e q) (fun h1 q => zMC_x (e_275 (d := 48) q hi hR h1M hM4)) ho, ⟨_, rfl⟩, rfl, fun _ => ⟨_, rfl, rfl⟩⟩
theorem t_storeShare {x1 : Int32} (T : zTi sv h m b xs w o2 th) : ∃ k bv w1 o3 th' out, k ≤ 4 ∧ zSt sv m b xs h (zcall zP sv 60 335 [.ref m, .int x1, .ref (m + 138)] h) (fun h1 => zcall zP sv 60 292 [.ref (m + 119), .int x1] h1) k bv w1 o3 th' out ∧ (∃ a0, bv = .float a0) ∧ th' = nI k ∧ (k = 0 → ∃ y : UInt32, bv = .float y ∧ out = (23, .double (FP.f2d y)) ∧ decide (FP.f2d y &&& 9223372036854775807 ≤ 9218868437227405312) = true ∧ Op.cmpValue (FP.dcmp (FP.f2d y) (FP.f2d y)) .l = 0) := by
  have hc := T.1
  have hk := T.2.2.1
  have ho := T.2.2.2.1
  have r1 := zEC1 hc
  obtain ⟨M, h1M, hM4, hR⟩ := id hk.1
  rcases ytr_or x1 T with z | ⟨i, t, rfl, hi⟩
  · have zx := yinF_no (zTi_6 T) z
    exact ⟨1, _, _, _, _, (23, .null), by omega, zst_e T (zEnd_y hc (d_63n (d := 11) hc z)) (by omega) (by omega) hk (fun h1 e => p_335e_2 r1 e) (by decide) (fun h1 q => e_292x (d := 52) q hR zx) ho, ⟨_, rfl⟩, rfl, fun z => absurd z (by decide)⟩
  · have tk := (zcur_ok hc).2.1 t (List.mem_of_getElem? hi)
    have hz := tk.2.1
    have hlen := yco_len (M := M) (ysz t) t (Nat.le_refl _) tk.1 0 0
    have hfd := yff2 (yco M t 0 0).length (by omega) _ (ycs_le (q := yco M t 0 0)) (yco_pos tk.1)
    exact ⟨0, _, _, _, _, _, by omega, zst_d T (zEnd_y hc (d_63 (d := 11) hc hi hR h1M hM4)) (by omega) (by omega) hk (fun h1 l e q => p_335v r1 hfd e q) (fun h1 q => e_292 (d := 48) q hi hR h1M hM4) ho, ⟨_, rfl⟩, rfl, fun _ => ⟨_, rfl, rfl, hfd, yff3 (yco M t 0 0).length (by omega) _ (ycs_le (q := yco M t 0 0)) (yco_pos tk.1)⟩⟩
theorem t_valueByCode {x1 : Int32} (T : zTi sv h m b xs w o2 th) : ∃ k bv w1 o3 th' out, k ≤ 4 ∧ zSt sv m b xs h (zcall zP sv 60 319 [.ref m, .int x1, .ref (m + 137)] h) (fun h1 => zcall zP sv 60 265 [.ref (m + 119), .int x1] h1) k bv w1 o3 th' out ∧ (∃ a0, bv = .int a0) := by
  have hc := T.1
  have hk := T.2.2.1
  have ho := T.2.2.2.1
  have r1 := zEC1 hc
  obtain ⟨M, h1M, hM4, hR⟩ := id hk.1
  rcases ytr_or x1 T with z | ⟨i, t, rfl, hi⟩
  · have zx := yinF_no (zTi_6 T) z
    exact ⟨1, _, _, _, _, (22, .null), by omega, zst_e T (zEnd_y hc (d_46n (d := 11) hc z)) (by omega) (by omega) hk (fun h1 e => p_319e_2 r1 e) (by decide) (fun h1 q => zMC_x (e_265w (d := 52) q (e_264x (d := 52) q zx))) ho, ⟨_, rfl⟩⟩
  · have hM : ∀ h1, zMdl h1 (m + 119) (yso w o2) th → ∃ (a : Int32) (h2 : zH), zcall zP sv 60 265 [.ref (m + 119), .int (nI i)] h1 = some (.inl (some (.int a)), h2) ∧ zMdl h2 (m + 119) (yso w o2) 0 ∧ zmw (m + 119) h1 h2 := fun h1 q => by
      obtain ⟨N, _, z⟩ := e_264 (sv := sv) (d := 52) q hi
      exact ⟨_, e_265w (d := 52) q z⟩
    obtain ⟨P, _, zc⟩ := d_46 (sv := sv) (d := 11) hc hi hR h1M hM4
    exact zst_va T (zEnd_y hc zc) (by omega) (by omega) hk (fun h1 l e q => p_319v r1 e q) hM ho
theorem t_neededRegisters {x1 : Int32} (T : zTi sv h m b xs w o2 th) : ∃ k bv w1 o3 th' out, k ≤ 4 ∧ zSt sv m b xs h (zcall zP sv 60 322 [.ref m, .int x1, .ref (m + 137)] h) (fun h1 => zcall zP sv 60 268 [.ref (m + 119), .int x1] h1) k bv w1 o3 th' out ∧ (∃ a0, bv = .int a0) ∧ th' = nI k ∧ (k = 0 → ∃ a : Int32, bv = .int a ∧ out = (22, .long a.toInt64)) := by
  have hc := T.1
  have hk := T.2.2.1
  have ho := T.2.2.2.1
  have r1 := zEC1 hc
  rcases ytr_or x1 T with z | ⟨i, t, rfl, hi⟩
  · have zx := yinF_no (zTi_6 T) z
    exact ⟨1, _, _, _, _, (22, .null), by omega, zst_e T (zEnd_y hc (d_49n (d := 11) hc z)) (by omega) (by omega) hk (fun h1 e => p_322e_2 r1 e) (by decide) (fun h1 q => zMC_x (e_268x (d := 53) q zx)) ho, ⟨_, rfl⟩, rfl, fun z => absurd z (by decide)⟩
  · have tk := (zcur_ok hc).2.1 t (List.mem_of_getElem? hi)
    have ks := tk.2.1
    exact ⟨0, _, _, _, _, _, by omega, zst_v T (zEnd_y hc (d_49 (d := 11) hc hi)) (by omega) (by omega) hk (fun h1 l e q => p_322v r1 e q) (fun h1 q => zMC_x (by
      obtain ⟨N, hN, z⟩ := e_268 (sv := sv) (d := 53) q hi
      rw [yreg_D tk.1] at z
      exact z)) ho, ⟨_, rfl⟩, rfl, fun _ => ⟨_, rfl, rfl⟩⟩
theorem t_neededRegistersByOrders {x1 : Int32} (T : zTi sv h m b xs w o2 th) : ∃ k bv w1 o3 th' out, k ≤ 4 ∧ zSt sv m b xs h (zcall zP sv 60 323 [.ref m, .int x1, .ref (m + 137)] h) (fun h1 => zcall zP sv 60 269 [.ref (m + 119), .int x1] h1) k bv w1 o3 th' out ∧ (∃ a0, bv = .int a0) ∧ th' = nI k ∧ (k = 0 → ∃ a : Int32, bv = .int a ∧ out = (22, .long a.toInt64)) := by
  have hc := T.1
  have hk := T.2.2.1
  have ho := T.2.2.2.1
  have r1 := zEC1 hc
  rcases ytr_or x1 T with z | ⟨i, t, rfl, hi⟩
  · have zx := yinF_no (zTi_6 T) z
    exact ⟨1, _, _, _, _, (22, .null), by omega, zst_e T (zEnd_y hc (d_50n (d := 11) hc z)) (by omega) (by omega) hk (fun h1 e => p_323e_2 r1 e) (by decide) (fun h1 q => zMC_x (e_269w (d := 52) q (e_268x (d := 52) q zx))) ho, ⟨_, rfl⟩, rfl, fun z => absurd z (by decide)⟩
  · have tk := (zcur_ok hc).2.1 t (List.mem_of_getElem? hi)
    have ks := tk.2.1
    exact ⟨0, _, _, _, _, _, by omega, zst_v T (zEnd_y hc (d_50 (d := 11) hc hi)) (by omega) (by omega) hk (fun h1 l e q => p_323v r1 e q) (fun h1 q => zMC_x (by
      obtain ⟨N, hN, z⟩ := e_268 (sv := sv) (d := 52) q hi
      rw [yreg_D tk.1, show yfo yfD t = yfo yfO t from by obtain ⟨n, _, r1, r2⟩ := yreg_n tk.1 (by omega); rw [r1, r2]] at z
      exact e_269w (d := 52) q z)) ho, ⟨_, rfl⟩, rfl, fun _ => ⟨_, rfl, rfl⟩⟩
theorem t_leastRegistersWithoutStore {x1 : Int32} (T : zTi sv h m b xs w o2 th) : ∃ k bv w1 o3 th' out, k ≤ 4 ∧ zSt sv m b xs h (zcall zP sv 60 327 [.ref m, .int x1, .ref (m + 137)] h) (fun h1 => zcall zP sv 60 276 [.ref (m + 119), .int x1] h1) k bv w1 o3 th' out ∧ (∃ a0, bv = .int a0) ∧ th' = nI k ∧ (k = 0 → ∃ a : Int32, bv = .int a ∧ out = (22, .long a.toInt64)) := by
  have hc := T.1
  have hk := T.2.2.1
  have ho := T.2.2.2.1
  have r1 := zEC1 hc
  rcases ytr_or x1 T with z | ⟨i, t, rfl, hi⟩
  · have zx := yinF_no (zTi_6 T) z
    exact ⟨1, _, _, _, _, (22, .null), by omega, zst_e T (zEnd_y hc (d_54n (d := 11) hc z)) (by omega) (by omega) hk (fun h1 e => p_327e_2 r1 e) (by decide) (fun h1 q => zMC_x (e_276x (d := 52) q zx)) ho, ⟨_, rfl⟩, rfl, fun z => absurd z (by decide)⟩
  · cases hl : ylr t 1 4 with
    | some c =>
      have e := fun h1 (q : zMdl h1 (m + 119) (yso w o2) th) => e_276 (sv := sv) (d := 48) q hi
      rw [hl] at e
      exact ⟨0, _, _, _, _, _, by omega, zst_v T (zEnd_y hc (d_54k (d := 11) hc hi hl)) (by omega) (by omega) hk (fun h1 l e q => p_327v r1 e q) (fun h1 q => zMC_x (e h1 q)) ho, ⟨_, rfl⟩, rfl, fun _ => ⟨_, rfl, rfl⟩⟩
    | none =>
      have e := fun h1 (q : zMdl h1 (m + 119) (yso w o2) th) => e_276 (sv := sv) (d := 48) q hi
      rw [hl] at e
      exact ⟨2, _, _, _, _, (22, .null), by omega, zst_e T (zEnd_y hc (d_54m (d := 11) hc hi hl)) (by omega) (by omega) hk (fun h1 e => p_327e_4 r1 e) (by decide) (fun h1 q => zMC_x (e h1 q)) ho, ⟨_, rfl⟩, rfl, fun z => absurd z (by decide)⟩
theorem t_occurrences {x1 : Int32} {x2 : Int32} (T : zTi sv h m b xs w o2 th) : ∃ k bv w1 o3 th' out, k ≤ 4 ∧ zSt sv m b xs h (zcall zP sv 60 311 [.ref m, .int x1, .int x2, .ref (m + 137)] h) (fun h1 => zcall zP sv 60 255 [.ref (m + 119), .int x1, .int x2] h1) k bv w1 o3 th' out ∧ (∃ a0, bv = .int a0) ∧ th' = nI k ∧ (k = 0 → ∃ a : Int32, bv = .int a ∧ out = (22, .long a.toInt64)) := by
  have hc := T.1
  have hk := T.2.2.1
  have ho := T.2.2.2.1
  have r1 := zEC1 hc
  rcases ytr_or x1 T with z | ⟨i, t, rfl, hi⟩
  · have zx := yinF_no (zTi_6 T) z
    exact ⟨1, _, _, _, _, (22, .null), by omega, zst_e T (zEnd_y hc (d_38n (d := 11) hc z)) (by omega) (by omega) hk (fun h1 e => p_311e_2 r1 e) (by decide) (fun h1 q => zMC_x (e_255x (d := 53) q zx)) ho, ⟨_, rfl⟩, rfl, fun z => absurd z (by decide)⟩
  · cases hl : ylet x2 with
    | false =>
      exact ⟨2, _, _, _, _, (22, .null), by omega, zst_e T (zEnd_y hc (d_38l (d := 11) hc hi hl)) (by omega) (by omega) hk (fun h1 e => p_311e_1 r1 e) (by decide) (fun h1 q => zMC_x (e_255a (d := 53) q hi hl)) ho, ⟨_, rfl⟩, rfl, fun z => absurd z (by decide)⟩
    | true =>
      exact ⟨0, _, _, _, _, _, by omega, zst_v T (zEnd_y hc (d_38 (d := 11) hc hi hl)) (by omega) (by omega) hk (fun h1 l e q => p_311v r1 e q) (fun h1 q => zMC_x (by
        have z := e_255 (sv := sv) (d := 53) q hi hl
        rw [← yoc_ct t 0] at z
        exact z)) ho, ⟨_, rfl⟩, rfl, fun _ => ⟨_, rfl, rfl⟩⟩
theorem t_slope {x1 : Int32} {x2 : Int32} (T : zTi sv h m b xs w o2 th) : ∃ k bv w1 o3 th' out, k ≤ 4 ∧ zSt sv m b xs h (zcall zP sv 60 320 [.ref m, .int x1, .int x2, .ref (m + 137)] h) (fun h1 => zcall zP sv 60 266 [.ref (m + 119), .int x1, .int x2] h1) k bv w1 o3 th' out ∧ (∃ a0, bv = .int a0) ∧ th' = nI k ∧ (k = 0 → ∃ a : Int32, bv = .int a ∧ out = (22, .long a.toInt64)) := by
  have hc := T.1
  have hk := T.2.2.1
  have ho := T.2.2.2.1
  have r1 := zEC1 hc
  rcases ytr_or x1 T with z | ⟨i, t, rfl, hi⟩
  · have zx := yinF_no (zTi_6 T) z
    exact ⟨1, _, _, _, _, (22, .null), by omega, zst_e T (zEnd_y hc (d_47n (d := 11) hc z)) (by omega) (by omega) hk (fun h1 e => p_320e_2 r1 e) (by decide) (fun h1 q => zMC_x (e_266x (d := 53) q zx)) ho, ⟨_, rfl⟩, rfl, fun z => absurd z (by decide)⟩
  · cases hl : ylet x2 with
    | false =>
      exact ⟨2, _, _, _, _, (22, .null), by omega, zst_e T (zEnd_y hc (d_47l (d := 11) hc hi hl)) (by omega) (by omega) hk (fun h1 e => p_320e_1 r1 e) (by decide) (fun h1 q => zMC_x (e_266a (d := 53) q hi hl)) ho, ⟨_, rfl⟩, rfl, fun z => absurd z (by decide)⟩
    | true =>
      have tk := (zcur_ok hc).2.1 t (List.mem_of_getElem? hi)
      exact ⟨0, _, _, _, _, _, by omega, zst_v T (zEnd_y hc (d_47 (d := 11) hc hi hl)) (by omega) (by omega) hk (fun h1 l e q => p_320v r1 e q) (fun h1 q => zMC_x (by
        obtain ⟨N, hN, z⟩ := e_266 (sv := sv) (d := 53) q hi hl
        rw [yslo_e hN (show yAok (ycur (yso w o2)) from zcur_ok (w := w) hc) tk.1] at z
        exact z)) ho, ⟨_, rfl⟩, rfl, fun _ => ⟨_, rfl, rfl⟩⟩
theorem t_slopeByDerivative {x1 : Int32} {x2 : Int32} (T : zTi sv h m b xs w o2 th) : ∃ k bv w1 o3 th' out, k ≤ 4 ∧ zSt sv m b xs h (zcall zP sv 60 321 [.ref m, .int x1, .int x2, .ref (m + 137)] h) (fun h1 => zcall zP sv 60 267 [.ref (m + 119), .int x1, .int x2] h1) k bv w1 o3 th' out ∧ (∃ a0, bv = .int a0) ∧ th' = nI k ∧ (k = 0 → ∃ a : Int32, bv = .int a ∧ out = (22, .long a.toInt64)) := by
  have hc := T.1
  have hk := T.2.2.1
  have ho := T.2.2.2.1
  have r1 := zEC1 hc
  rcases ytr_or x1 T with z | ⟨i, t, rfl, hi⟩
  · have zx := yinF_no (zTi_6 T) z
    exact ⟨1, _, _, _, _, (22, .null), by omega, zst_e T (zEnd_y hc (d_48n (d := 11) hc z)) (by omega) (by omega) hk (fun h1 e => p_321e_2 r1 e) (by decide) (fun h1 q => zMC_x (e_267w (d := 52) q (e_266x (d := 52) q zx))) ho, ⟨_, rfl⟩, rfl, fun z => absurd z (by decide)⟩
  · cases hl : ylet x2 with
    | false =>
      exact ⟨2, _, _, _, _, (22, .null), by omega, zst_e T (zEnd_y hc (d_48l (d := 11) hc hi hl)) (by omega) (by omega) hk (fun h1 e => p_321e_1 r1 e) (by decide) (fun h1 q => zMC_x (e_267w (d := 52) q (e_266a (d := 52) q hi hl))) ho, ⟨_, rfl⟩, rfl, fun z => absurd z (by decide)⟩
    | true =>
      have tk := (zcur_ok hc).2.1 t (List.mem_of_getElem? hi)
      exact ⟨0, _, _, _, _, _, by omega, zst_v T (zEnd_y hc (d_48 (d := 11) hc hi hl)) (by omega) (by omega) hk (fun h1 l e q => p_321v r1 e q) (fun h1 q => zMC_x (by
        obtain ⟨N, hN, z⟩ := e_266 (sv := sv) (d := 52) q hi hl
        rw [yslo_e hN (show yAok (ycur (yso w o2)) from zcur_ok (w := w) hc) tk.1, show ysl2 (ycur (yso w o2)).2.1 x2 t = yfo (yfR (ycur (yso w o2)).2.1) (yder x2 t) from (yder_v tk.1).symm] at z
        exact e_267w (d := 52) q z)) ho, ⟨_, rfl⟩, rfl, fun _ => ⟨_, rfl, rfl⟩⟩
theorem t_isSame {x1 : Int32} {x2 : Int32} (T : zTi sv h m b xs w o2 th) : ∃ k bv w1 o3 th' out, k ≤ 4 ∧ zSt sv m b xs h (zcall zP sv 60 314 [.ref m, .int x1, .int x2, .ref (m + 137)] h) (fun h1 => zcall zP sv 60 259 [.ref (m + 119), .int x1, .int x2] h1) k bv w1 o3 th' out ∧ (∃ a0, bv = .int a0) ∧ th' = nI k ∧ (k = 0 → ∃ c : Bool, bv = .int (yb c) ∧ out = (22, .long (if c = true then 1 else 0))) := by
  have hc := T.1
  have hk := T.2.2.1
  have ho := T.2.2.2.1
  have r1 := zEC1 hc
  rcases ytr_or x1 T with z | ⟨i, t, rfl, hi⟩
  · have zx : (yinF (ycur w) x1 && yinF (ycur w) x2) = false := by rw [yinF_no (zTi_6 T) z, Bool.false_and]
    exact ⟨1, _, _, _, _, (22, .null), by omega, zst_e T (zEnd_y hc (d_41n (d := 11) hc z)) (by omega) (by omega) hk (fun h1 e => p_314e_2 r1 e) (by decide) (fun h1 q => zMC_x (e_259x (d := 53) q zx)) ho, ⟨_, rfl⟩, rfl, fun z => absurd z (by decide)⟩
  · rcases ytr_or x2 T with z | ⟨j, u, rfl, hj⟩
    · have zx : (yinF (ycur w) (nI i) && yinF (ycur w) x2) = false := by rw [yinF_no (zTi_6 T) z, Bool.and_false]
      exact ⟨1, _, _, _, _, (22, .null), by omega, zst_e T (zEnd_y hc (d_41m (d := 11) hc hi z)) (by omega) (by omega) hk (fun h1 e => p_314e_2 r1 e) (by decide) (fun h1 q => zMC_x (e_259x (d := 53) q zx)) ho, ⟨_, rfl⟩, rfl, fun z => absurd z (by decide)⟩
    · exact ⟨0, _, _, _, _, _, by omega, zst_v T (zEnd_y hc (d_41 (d := 11) hc hi hj)) (by omega) (by omega) hk (fun h1 l e q => p_314v r1 e q) (fun h1 q => zMC_x (by
          have z := e_259 (sv := sv) (d := 53) q hi hj
          rw [← yeq_pr ((zcur_ok hc).2.1 t (List.mem_of_getElem? hi)).1 ((zcur_ok hc).2.1 u (List.mem_of_getElem? hj)).1] at z
          exact z)) ho, ⟨_, rfl⟩, rfl, fun _ => ⟨_, rfl, rfl⟩⟩
theorem t_commonParts {x1 : Int32} {x2 : Int32} (T : zTi sv h m b xs w o2 th) : ∃ k bv w1 o3 th' out, k ≤ 4 ∧ zSt sv m b xs h (zcall zP sv 60 317 [.ref m, .int x1, .int x2, .ref (m + 137)] h) (fun h1 => zcall zP sv 60 263 [.ref (m + 119), .int x1, .int x2] h1) k bv w1 o3 th' out ∧ (∃ a0, bv = .int a0) := by
  have hc := T.1
  have hk := T.2.2.1
  have ho := T.2.2.2.1
  have r1 := zEC1 hc
  rcases ytr_or x1 T with z | ⟨i, t, rfl, hi⟩
  · have zx : (yinF (ycur w) x1 && yinF (ycur w) x2) = false := by rw [yinF_no (zTi_6 T) z, Bool.false_and]
    exact ⟨1, _, _, _, _, (22, .null), by omega, zst_e T (zEnd_y hc (d_44n (d := 11) hc z)) (by omega) (by omega) hk (fun h1 e => p_317e_2 r1 e) (by decide) (fun h1 q => zMC_x (e_263x (d := 53) q zx)) ho, ⟨_, rfl⟩⟩
  · rcases ytr_or x2 T with z | ⟨j, u, rfl, hj⟩
    · have zx : (yinF (ycur w) (nI i) && yinF (ycur w) x2) = false := by rw [yinF_no (zTi_6 T) z, Bool.and_false]
      exact ⟨1, _, _, _, _, (22, .null), by omega, zst_e T (zEnd_y hc (d_44m (d := 11) hc hi z)) (by omega) (by omega) hk (fun h1 e => p_317e_2 r1 e) (by decide) (fun h1 q => zMC_x (e_263x (d := 53) q zx)) ho, ⟨_, rfl⟩⟩
    · obtain ⟨B0, B1, _, _, zc⟩ := d_44 (sv := sv) (d := 11) hc hi hj
      exact ⟨0, _, _, _, _, _, by omega, zst_v T (zEnd_y hc (zc)) (by omega) (by omega) hk (fun h1 l e q => p_317v r1 e q) (fun h1 q => zMC_x (e_263 (d := 53) q hi hj)) ho, ⟨_, rfl⟩⟩
theorem ytr_in (x : Int32) (q : List yI) (hq : q.length < 2 ^ 30) : ((x < 0 ∨ ¬ x < nI q.length) ∧ yinC q x = false) ∨ ∃ n y, x = nI n ∧ q[n]? = some y ∧ yinC q (nI n) = true := by
  cases hx : yinC q x with
  | true =>
    obtain ⟨n, y, rfl, hy⟩ := yinC_n hx hq
    exact Or.inr ⟨n, y, rfl, hy, hx⟩
  | false =>
    refine Or.inl ⟨?_, rfl⟩
    rcases ycase x (n := q.length) (by omega) with z | ⟨i, hi, rfl⟩
    · exact z
    · exfalso
      have a1 : ¬ nI i < 0 := nI_pos (by omega)
      have a2 : ¬ nI q.length - nI 1 < nI i := by
        rw [show q.length = q.length - 1 + 1 by omega, nI_m]
        exact nI_nlt (by omega) (by omega)
      unfold yinC at hx
      rw [decide_eq_true a1, decide_eq_true a2] at hx
      cases hx
theorem t_instructionKind {x1 : Int32} {x2 : Int32} (T : zTi sv h m b xs w o2 th) : ∃ k bv w1 o3 th' out, k ≤ 4 ∧ zSt sv m b xs h (zcall zP sv 60 328 [.ref m, .int x1, .int x2, .ref (m + 137)] h) (fun h1 => zcall zP sv 60 278 [.ref (m + 119), .int x1, .int x2] h1) k bv w1 o3 th' out ∧ (∃ a0, bv = .int a0) ∧ th' = nI k ∧ (k = 0 → ∃ a : Int32, bv = .int a ∧ out = (22, .long a.toInt64)) := by
  have hc := T.1
  have hk := T.2.2.1
  have ho := T.2.2.2.1
  have r1 := zEC1 hc
  obtain ⟨M, h1M, hM4, hR⟩ := id hk.1
  rcases ytr_or x1 T with z | ⟨i, t, rfl, hi⟩
  · have zx := yinF_no (zTi_6 T) z
    exact ⟨1, _, _, _, _, (22, .null), by omega, zst_e T (zEnd_y hc (d_55n (d := 11) hc z)) (by omega) (by omega) hk (fun h1 e => p_328e_2 r1 e) (by decide) (fun h1 q => zMC_x (e_278x (d := 51) q hR zx)) ho, ⟨_, rfl⟩, rfl, fun z => absurd z (by decide)⟩
  · have tk := (zcur_ok hc).2.1 t (List.mem_of_getElem? hi)
    have hlen := yco_len (M := M) (ysz t) t (Nat.le_refl _) tk.1 0 0
    rcases ytr_in x2 (yco M t 0 0) (by have := tk.2.1; omega) with ⟨z, zi⟩ | ⟨n, y, rfl, hy, zi⟩
    · skip
      exact ⟨1, _, _, _, _, (22, .null), by omega, zst_e T (zEnd_y hc (d_55o (d := 11) hc hi hR h1M hM4 z)) (by omega) (by omega) hk (fun h1 e => p_328e_2 r1 e) (by decide) (fun h1 q => zMC_x (e_278o (d := 47) q hi hR h1M hM4 zi)) ho, ⟨_, rfl⟩, rfl, fun z => absurd z (by decide)⟩
    · skip
      exact ⟨0, _, _, _, _, _, by omega, zst_v T (zEnd_y hc (d_55 (d := 11) hc hi hR h1M hM4 hy)) (by omega) (by omega) hk (fun h1 l e q => p_328v r1 e q) (fun h1 q => zMC_x (e_278 (d := 47) q hi hR h1M hM4 zi hy)) ho, ⟨_, rfl⟩, rfl, fun _ => ⟨_, rfl, rfl⟩⟩
theorem t_instructionRegister {x1 : Int32} {x2 : Int32} (T : zTi sv h m b xs w o2 th) : ∃ k bv w1 o3 th' out, k ≤ 4 ∧ zSt sv m b xs h (zcall zP sv 60 329 [.ref m, .int x1, .int x2, .ref (m + 137)] h) (fun h1 => zcall zP sv 60 279 [.ref (m + 119), .int x1, .int x2] h1) k bv w1 o3 th' out ∧ (∃ a0, bv = .int a0) ∧ th' = nI k ∧ (k = 0 → ∃ a : Int32, bv = .int a ∧ out = (22, .long a.toInt64)) := by
  have hc := T.1
  have hk := T.2.2.1
  have ho := T.2.2.2.1
  have r1 := zEC1 hc
  obtain ⟨M, h1M, hM4, hR⟩ := id hk.1
  rcases ytr_or x1 T with z | ⟨i, t, rfl, hi⟩
  · have zx := yinF_no (zTi_6 T) z
    exact ⟨1, _, _, _, _, (22, .null), by omega, zst_e T (zEnd_y hc (d_56n (d := 11) hc z)) (by omega) (by omega) hk (fun h1 e => p_329e_2 r1 e) (by decide) (fun h1 q => zMC_x (e_279x (d := 51) q hR zx)) ho, ⟨_, rfl⟩, rfl, fun z => absurd z (by decide)⟩
  · have tk := (zcur_ok hc).2.1 t (List.mem_of_getElem? hi)
    have hlen := yco_len (M := M) (ysz t) t (Nat.le_refl _) tk.1 0 0
    rcases ytr_in x2 (yco M t 0 0) (by have := tk.2.1; omega) with ⟨z, zi⟩ | ⟨n, y, rfl, hy, zi⟩
    · skip
      exact ⟨1, _, _, _, _, (22, .null), by omega, zst_e T (zEnd_y hc (d_56o (d := 11) hc hi hR h1M hM4 z)) (by omega) (by omega) hk (fun h1 e => p_329e_2 r1 e) (by decide) (fun h1 q => zMC_x (e_279o (d := 47) q hi hR h1M hM4 zi)) ho, ⟨_, rfl⟩, rfl, fun z => absurd z (by decide)⟩
    · skip
      exact ⟨0, _, _, _, _, _, by omega, zst_v T (zEnd_y hc (d_56 (d := 11) hc hi hR h1M hM4 hy)) (by omega) (by omega) hk (fun h1 l e q => p_329v r1 e q) (fun h1 q => zMC_x (e_279 (d := 47) q hi hR h1M hM4 zi hy)) ho, ⟨_, rfl⟩, rfl, fun _ => ⟨_, rfl, rfl⟩⟩
theorem t_writeInstruction {x1 : Int32} {x2 : Int32} (hs : sv 0 = .int (nI 1)) (T : zTi sv h m b xs w o2 th) : ∃ k bv w1 o3 th' out, k ≤ 4 ∧ zSt sv m b xs h (zcall zP sv 60 330 [.ref m, .int x1, .int x2, .ref (m + 137)] h) (fun h1 => zcall zP sv 60 284 [.ref (m + 119), .int x1, .int x2] h1) k bv w1 o3 th' out ∧ (∃ a0, bv = .int a0) ∧ th' = nI k ∧ (k = 0 → ∃ a : Int32, bv = .int a ∧ out = (22, .long a.toInt64)) := by
  have hc := T.1
  have hk := T.2.2.1
  have ho := T.2.2.2.1
  have r1 := zEC1 hc
  obtain ⟨M, h1M, hM4, hR⟩ := id hk.1
  rcases ytr_or x1 T with z | ⟨i, t, rfl, hi⟩
  · have zx := yinF_no (zTi_6 T) z
    exact ⟨1, _, _, _, _, (22, .null), by omega, zst_e T (zEnd_y hc (d_57n (d := 11) hc z)) (by omega) (by omega) hk (fun h1 e => p_330e_2 r1 e) (by decide) (fun h1 q => zMC_x (e_284x (d := 51) q hR zx)) ho, ⟨_, rfl⟩, rfl, fun z => absurd z (by decide)⟩
  · have tk := (zcur_ok hc).2.1 t (List.mem_of_getElem? hi)
    have hlen := yco_len (M := M) (ysz t) t (Nat.le_refl _) tk.1 0 0
    rcases ytr_in x2 (yco M t 0 0) (by have := tk.2.1; omega) with ⟨z, zi⟩ | ⟨n, y, rfl, hy, zi⟩
    · skip
      exact ⟨1, _, _, _, _, (22, .null), by omega, zst_e T (zEnd_y hc (d_57o (d := 11) hc hi hR h1M hM4 z)) (by omega) (by omega) hk (fun h1 e => p_330e_2 r1 e) (by decide) (fun h1 q => zMC_x (e_284o (d := 47) q hi hR h1M hM4 zi)) ho, ⟨_, rfl⟩, rfl, fun z => absurd z (by decide)⟩
    · obtain ⟨h1, o, e1, c1, f1⟩ := d_57 (sv := sv) (d := 11) hs (zDm_g T.2.2.2.2.2.2.2 (by have := hc.1; omega)) hc hi hR h1M hM4 hy
      have T1 := zTj_c T c1 f1 hk
      obtain ⟨l, t7⟩ := T1.2.2.2.2.2.1
      have e2 := p_330v (h := h) (m := m) (o := m + 137) (D := 59) r1 e1 t7
      have T2 := zTj_o (y := (nI (ywil y)).toInt64) T1
      obtain ⟨h2, o3, e3, m2, f2, _, hch⟩ := e_284 (sv := sv) (d := 46) T2.2.1 hi hR h1M hM4 zi hy
      exact ⟨0, _, _, o3, _, (22, .long (nI (ywil y)).toInt64), by omega, ⟨_, h2, by rw [e2, nI_0], fun X => zMdl_rc T2.2.1, T2.2.2.2.2.1.2, e3, zTj_m T2 m2 f2 hch, zgr_of f1 f2.2 (by omega) (by omega), fun _ => ⟨fun _ => by rw [f2.1 _ (by omega), zup_at], fun q => (by cases q)⟩⟩, ⟨_, rfl⟩, rfl, fun _ => ⟨_, rfl, rfl⟩⟩
theorem t_writeFormula {x1 : Int32} (hs : sv 0 = .int (nI 1)) (T : zTi sv h m b xs w o2 th) : ∃ k bv w1 o3 th' out, k ≤ 4 ∧ zSt sv m b xs h (zcall zP sv 60 331 [.ref m, .int x1, .ref (m + 137)] h) (fun h1 => zcall zP sv 60 286 [.ref (m + 119), .int x1] h1) k bv w1 o3 th' out ∧ (∃ a0, bv = .int a0) := by
  have hc := T.1
  have hk := T.2.2.1
  have ho := T.2.2.2.1
  have r1 := zEC1 hc
  rcases ytr_or x1 T with z | ⟨i, t, rfl, hi⟩
  · have zx := yinF_no (zTi_6 T) z
    exact ⟨1, _, _, _, _, (22, .null), by omega, zst_e T (zEnd_y hc (d_58n (d := 11) hc z)) (by omega) (by omega) hk (fun h1 e => p_331e_2 r1 e) (by decide) (fun h1 q => zMC_x (e_286x (d := 53) q zx)) ho, ⟨_, rfl⟩⟩
  · obtain ⟨nn, h1, o, e1, c1, f1⟩ := d_58 (sv := sv) (d := 11) hs (zDm_g T.2.2.2.2.2.2.2 (by have := hc.1; omega)) hc hi
    have T1 := zTj_c T c1 f1 hk
    obtain ⟨l, t7⟩ := T1.2.2.2.2.2.1
    have e2 := p_331v (h := h) (m := m) (o := m + 137) (D := 59) r1 e1 t7
    have T2 := zTj_o (y := (nI nn).toInt64) T1
    obtain ⟨n2, _, h2, o3, e3, m2, f2, _, hch⟩ := e_286 (sv := sv) (d := 39) T2.2.1 hi
    exact ⟨0, _, _, o3, _, (22, .long (nI nn).toInt64), by omega, ⟨_, h2, by rw [e2, nI_0], fun X => zMdl_rc T2.2.1, T2.2.2.2.2.1.2, e3, zTj_m T2 m2 f2 hch, zgr_of f1 f2.2 (by omega) (by omega), fun _ => ⟨fun _ => by rw [f2.1 _ (by omega), zup_at], fun q => (by cases q)⟩⟩, _, rfl⟩
theorem ytr_o (x : Int32) (o : List Int32) (ho : o.length < 2 ^ 30) : yinO o x = false ∨ ∃ n c, x = nI n ∧ o[n]? = some c ∧ yinO o (nI n) = true := by
  cases hx : yinO o x with
  | false => exact Or.inl rfl
  | true =>
    have hx' := hx
    unfold yinO at hx
    rw [Bool.and_eq_true] at hx
    have h1 := of_decide_eq_true hx.1
    have h2 := of_decide_eq_true hx.2
    obtain ⟨n, hn, rfl⟩ := nI_of h1
    have hn2 : n < o.length := by
      refine Nat.lt_of_not_le fun z => h2 ?_
      rcases Nat.eq_zero_or_pos o.length with c | c
      · rw [c]
        exact Int32.lt_of_lt_of_le (b := 0) (by decide +kernel) (nI_pos' hn)
      · rw [show o.length = o.length - 1 + 1 by omega, nI_m]
        exact nI_lt (by omega) hn
    exact Or.inr ⟨n, _, rfl, List.getElem?_eq_getElem hn2, hx'⟩
theorem t_outputChar {x1 : Int32} (h3 : zty 4 (sv 3) = true) (T : zTi sv h m b xs w o2 th) : ∃ k bv w1 o3 th' out, k ≤ 4 ∧ zSt sv m b xs h (zcall zP sv 60 332 [.ref m, .int x1, .ref (m + 137)] h) (fun h1 => zcall zP sv 60 287 [.ref (m + 119), .int x1] h1) k bv w1 o3 th' out ∧ (∃ a0, bv = .int a0) := by
  have hc := T.1
  have hk := T.2.2.1
  have ho := T.2.2.2.1
  have r1 := zEC1 hc
  have hM : ∀ h1, zMdl h1 (m + 119) (yso w o2) th → ∃ (a : Int32) (h2 : zH) (th' : Int32), zcall zP sv 60 287 [.ref (m + 119), .int x1] h1 = some (.inl (some (.int a)), h2) ∧ zMdl h2 (m + 119) (yso w o2) th' ∧ zmw (m + 119) h1 h2 := fun h1 q => by
    have hl : (yout (yso w o2)).length ≤ 700 := by
      obtain ⟨F, _, _, _, hr, _⟩ := q
      obtain ⟨_, _, _, ⟨B, _, _, _, z⟩, _⟩ := hr
      exact z
    rcases ytr_o x1 (yout (yso w o2)) (by omega) with z | ⟨n, c, rfl, hc, z⟩
    · obtain ⟨h2, e, g1, g2⟩ := e_287x (sv := sv) (d := 58) q z
      exact ⟨_, h2, _, e, g1, g2⟩
    · obtain ⟨h2, e, g1, g2⟩ := e_287 (sv := sv) (d := 58) q z hc (ho c (List.mem_of_getElem? hc))
      exact ⟨_, h2, _, e, g1, g2⟩
  rcases ycase x1 (n := (yout w).length) (by have hb := zCls_bl hc; obtain ⟨v, B, hb, _⟩ := hb; have := hb.2.2.2.1; have := hb.2.2.2.2.2.1; omega) with z | ⟨n, hn, rfl⟩
  · obtain ⟨h1, e1, c1, f1⟩ := zEnd_y hc (d_59n (sv := sv) (d := 11) hc z)
    have T1 := zTj_c T c1 f1 hk
    have e2 := p_332e_2 (h := h) (m := m) (o := m + 137) (D := 59) r1 e1
    obtain ⟨a, h2, th', e3, m2, f2⟩ := hM _ T1.2.1
    exact ⟨1, _, _, _, _, (22, .null), by omega, ⟨_, h2, e2, fun X => zMdl_rc T1.2.1, T1.2.2.2.2.1.2, e3, zTj_m T1 m2 f2 ho, zgr_of f1 f2.2 (by omega) (by omega), fun z => absurd z (by decide)⟩, _, rfl⟩
  · obtain ⟨c, zc⟩ := d_59 (sv := sv) (d := 11) h3 hc hn
    obtain ⟨h1, e1, c1, f1⟩ := zEnd_y hc zc
    have T1 := zTj_c T c1 f1 hk
    obtain ⟨l, t7⟩ := T1.2.2.2.2.2.1
    have e2 := p_332v (h := h) (m := m) (o := m + 137) (D := 59) r1 e1 t7
    have T2 := zTj_o (y := c.toInt64) T1
    obtain ⟨a, h2, th', e3, m2, f2⟩ := hM _ T2.2.1
    exact ⟨0, _, _, _, _, (22, .long c.toInt64), by omega, ⟨_, h2, by rw [e2, nI_0], fun X => zMdl_rc T2.2.1, T2.2.2.2.2.1.2, e3, zTj_m T2 m2 f2 ho, zgr_of f1 f2.2 (by omega) (by omega), fun _ => ⟨fun _ => by rw [f2.1 _ (by omega), zup_at], fun q => (by cases q)⟩⟩, _, rfl⟩
theorem t_formulaBySize {x1 : Int32} (T : zTi sv h m b xs w o2 th) : ∃ k bv w1 o3 th' out, k ≤ 4 ∧ zSt sv m b xs h (zcall zP sv 60 333 [.ref m, .int x1, .ref (m + 137)] h) (fun h1 => zcall zP sv 60 289 [.ref (m + 119), .int x1] h1) k bv w1 o3 th' out ∧ (∃ a0, bv = .int a0) ∧ th' = nI k ∧ (k = 0 → ∃ a : Int32, bv = .int a ∧ out = (22, .long a.toInt64)) := by
  have hc := T.1
  have hk := T.2.2.1
  have ho := T.2.2.2.1
  have r1 := zEC1 hc
  cases hy : yrk (ycur w).1 x1 0 (ycur w).1.length with
  | some c =>
    have e := fun h1 (q : zMdl h1 (m + 119) (yso w o2) th) => e_289 (sv := sv) (d := 52) (x := x1) q
    have hy' : yrk (ycur (yso w o2)).1 x1 0 (ycur (yso w o2)).1.length = some c := hy
    rw [hy'] at e
    exact ⟨0, _, _, _, _, _, by omega, zst_v T (zEnd_y hc (d_60k (d := 11) hc hy)) (by omega) (by omega) hk (fun h1 l e q => p_333v r1 e q) (fun h1 q => zMC_x (e h1 q)) ho, ⟨_, rfl⟩, rfl, fun _ => ⟨_, rfl, rfl⟩⟩
  | none =>
    have e := fun h1 (q : zMdl h1 (m + 119) (yso w o2) th) => e_289 (sv := sv) (d := 52) (x := x1) q
    have hy' : yrk (ycur (yso w o2)).1 x1 0 (ycur (yso w o2)).1.length = none := hy
    rw [hy'] at e
    exact ⟨1, _, _, _, _, (22, .null), by omega, zst_e T (zEnd_y hc (d_60n (d := 11) hc hy)) (by omega) (by omega) hk (fun h1 e => p_333e_4 r1 e) (by decide) (fun h1 q => zMC_x (e h1 q)) ho, ⟨_, rfl⟩, rfl, fun z => absurd z (by decide)⟩
theorem t_meanNodes (T : zTi sv h m b xs w o2 th) : ∃ k bv w1 o3 th' out, k ≤ 4 ∧ zSt sv m b xs h (zcall zP sv 60 334 [.ref m, .ref (m + 138)] h) (fun h1 => zcall zP sv 60 291 [.ref (m + 119)] h1) k bv w1 o3 th' out ∧ (∃ a0, bv = .double a0) ∧ th' = nI k ∧ (k = 0 → ∃ y : UInt64, bv = .double y ∧ out = (23, .double y)) := by
  have hc := T.1
  have hk := T.2.2.1
  have ho := T.2.2.2.1
  have r1 := zEC1 hc
  by_cases hn : (ycur w).1.length = 0
  · exact ⟨1, _, _, _, _, (23, .null), by omega, zst_e T (zEnd_y hc (d_62n (d := 11) hc hn)) (by omega) (by omega) hk (fun h1 e => p_334e_5 r1 e) (by decide) (fun h1 q => e_291n (d := 58) q hn) ho, ⟨_, rfl⟩, rfl, fun z => absurd z (by decide)⟩
  · exact ⟨0, _, _, _, _, _, by omega, zst_d T (zEnd_y hc (d_62 (d := 11) hc (by omega))) (by omega) (by omega) hk (fun h1 l e q => p_334v r1 e q) (fun h1 q => e_291 (d := 58) q (show 0 < (ycur (yso w o2)).1.length by show 0 < (ycur w).1.length; omega)) ho, ⟨_, rfl⟩, rfl, fun _ => ⟨_, rfl, rfl⟩⟩
end ZSI
