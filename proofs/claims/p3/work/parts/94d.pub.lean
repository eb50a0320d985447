theorem yAok_era {A : yA} {i : Nat} (hA : yAok A) (hi : i < A.1.length) : yAok (A.1.eraseIdx i, A.2) := ⟨by show (A.1.eraseIdx i).length ≤ 6; rw [List.length_eraseIdx_of_lt hi]; have := hA.1; omega, fun t ht => hA.2.1 t (List.mem_of_mem_eraseIdx ht), hA.2.2⟩
theorem yAok_set {A : yA} {i : Nat} {t : yT} {B : List Int32 × Int32 × Int32} (hA : yAok A) (ht : ytok t) (hB : B.1.length = 6) : yAok (A.1.set i t, B) := ⟨by show (A.1.set i t).length ≤ 6; rw [List.length_set]; exact hA.1, fun u hu => (List.mem_or_eq_of_mem_set hu).elim (hA.2.1 u) (fun q => by rw [q]; exact ht), hB⟩
theorem yAok_app {A : yA} {t : yT} (hA : yAok A) (ht : ytok t) (hl : A.1.length < 6) : yAok (A.1 ++ [t], A.2) := ⟨by show (A.1 ++ [t]).length ≤ 6; rw [List.length_append, List.length_singleton]; omega, fun u hu => (List.mem_append.mp hu).elim (hA.2.1 u) (fun q => by rw [List.mem_singleton.mp q]; exact ht), hA.2.2⟩
theorem yAok_oth {A : yA} {B : List Int32 × Int32 × Int32} (hA : yAok A) (hB : B.1.length = 6) : yAok (A.1, B) := ⟨hA.1, hA.2.1, hB⟩
theorem ys_lnn {A : List Int32} {x y : Int32} : (ys A x y).length = A.length := by
  unfold ys
  split
  · rfl
  · rw [List.length_set]
theorem zMdl_A {h : zH} {m : Nat} {w : yW} {th : Int32} (hM : zMdl h m w th) : yAok (ycur w) := by
  obtain ⟨_, _, _, _, _, hA⟩ := hM
  exact hA
section ZMO
variable {sv : Nat → Value} {d : Nat} {m : Nat} {F : Nat → Int32} {h : zH} {w : yW} {th : Int32} {A : yA}
theorem zWo_0 {r : zR} {F1 : Nat → Int32} {A : yA} {ans : Int32} (e : ∃ (h2 : zH) (F2 : Nat → Int32), r = some (.inl (some (.int 0)), h2) ∧ zWk h2 m F2 A ∧ F2 30 = ans ∧ yff F1 F2 ∧ zwf m h h2) : zWo r m h F1 0 A ans := by
  obtain ⟨h2, F2, e1, e2, e3, e4⟩ := e
  exact ⟨h2, F2, by rw [nI_0]; exact e1, e2, fun _ => e3, e4⟩
theorem zWo_n {r : zR} {F1 : Nat → Int32} {A : yA} {no : Nat} {ans : Int32} (hw : zWk h m F1 A) (h0 : 0 < no) (e : r = some (.inl (some (.int (nI no))), h)) : zWo r m h F1 no A ans := ⟨h, F1, e, hw, fun q => absurd q (by omega), yff_rfl, zwf_rfl⟩
theorem zWo_m {r : zR} {F1 : Nat → Int32} {A : yA} {no : Nat} {ans : Int32} (h0 : 0 < no) (e : ∃ (h2 : zH) (F2 : Nat → Int32), r = some (.inl (some (.int (nI no))), h2) ∧ zWk h2 m F2 A ∧ yff F1 F2 ∧ zwf m h h2) : zWo r m h F1 no A ans := by
  obtain ⟨h2, F2, e1, e2, e4⟩ := e
  exact ⟨h2, F2, e1, e2, fun q => absurd q (by omega), e4⟩
theorem e_237 {i : Nat} (hM : zMdl h m w th) (hi : i < (ycur w).1.length) : zMC m h (zcall zP sv (d + 25) 237 [.ref m, .int (nI i)] h) (nI ((ycur w).1.length - 1)) (ysc (yrec w) ((ycur w).1.eraseIdx i, (ycur w).2)) 0 := by
  have e := e_2370 (sv := sv) (d := d) (no := 0) (A := ((ycur w).1.eraseIdx i, (ycur w).2)) (ans := nI ((ycur w).1.length - 1)) (x0 := nI i) hM (by decide) (fun _ => yAok_era (zMdl_A hM) hi) (fun q => absurd q (by decide)) (fun h1 F1 w1 => zWo_0 (e_236 (sv := sv) (d := d + 4) w1 (zMdl_A hM) hi))
  rw [nI_0] at e
  exact e
theorem e_237x {x : Int32} (hM : zMdl h m w th) (hx : yinF (ycur w) x = false) : zMC m h (zcall zP sv (d + 25) 237 [.ref m, .int x] h) 0 w (nI 1) :=
  e_2370 (sv := sv) (d := d) (no := 1) (A := ycur w) (ans := 0) (x0 := x) hM (by decide) (fun q => absurd q (by decide)) (fun _ => rfl) (fun h1 F1 w1 => zWo_n w1 (by decide) (e_236x (sv := sv) (d := d + 4) w1 hx))
theorem e_239 {i : Nat} {t : yT} (hM : zMdl h m w th) (hi : (ycur w).1[i]? = some t) : zMC m h (zcall zP sv (d + 25) 239 [.ref m, .int (nI i)] h) (nI (ysz t - ysz (ysim t))) (ysc (yrec w) ((ycur w).1.set i (ysim t), (ycur w).2.1, (ycur w).2.2.1, (ycur w).2.2.2 + nI (ysz t - ysz (ysim t)))) 0 := by
  obtain ⟨t1, t2, t3⟩ := (zMdl_A hM).2.1 t (List.mem_of_getElem? hi)
  have hst := ysz_ysim t
  have hdt := ydp_ysim t
  have e := e_2390 (sv := sv) (d := d) (no := 0) (A := ((ycur w).1.set i (ysim t), (ycur w).2.1, (ycur w).2.2.1, (ycur w).2.2.2 + nI (ysz t - ysz (ysim t)))) (ans := nI (ysz t - ysz (ysim t))) (x0 := nI i) hM (by decide) (fun _ => yAok_set (zMdl_A hM) ⟨ytw_ysim t t1, by omega, by omega⟩ (zMdl_A hM).2.2) (fun q => absurd q (by decide)) (fun h1 F1 w1 => zWo_0 (e_238 (sv := sv) (d := d + 4) w1 (zMdl_A hM) hi))
  rw [nI_0] at e
  exact e
theorem e_239x {x : Int32} (hM : zMdl h m w th) (hx : yinF (ycur w) x = false) : zMC m h (zcall zP sv (d + 25) 239 [.ref m, .int x] h) 0 w (nI 1) :=
  e_2390 (sv := sv) (d := d) (no := 1) (A := ycur w) (ans := 0) (x0 := x) hM (by decide) (fun q => absurd q (by decide)) (fun _ => rfl) (fun h1 F1 w1 => zWo_n w1 (by decide) (e_238x (sv := sv) (d := d + 4) w1 hx))
theorem e_241x {x c : Int32} (hM : zMdl h m w th) (hx : yinF (ycur w) x = false) : zMC m h (zcall zP sv (d + 25) 241 [.ref m, .int x, .int c] h) 0 w (nI 1) :=
  e_2410 (sv := sv) (d := d) (no := 1) (A := ycur w) (ans := 0) (x0 := x) (x1 := c) hM (by decide) (fun q => absurd q (by decide)) (fun _ => rfl) (fun h1 F1 w1 => zWo_n w1 (by decide) (e_240x (sv := sv) (d := d + 3) w1 hx))
theorem e_241a {i : Nat} {c : Int32} (hM : zMdl h m w th) (hi : i < (ycur w).1.length) (hc : ylet c = false) : zMC m h (zcall zP sv (d + 25) 241 [.ref m, .int (nI i), .int c] h) 0 w (nI 2) :=
  e_2410 (sv := sv) (d := d) (no := 2) (A := ycur w) (ans := 0) (x0 := nI i) (x1 := c) hM (by decide) (fun q => absurd q (by decide)) (fun _ => rfl) (fun h1 F1 w1 => zWo_n w1 (by decide) (e_240a (sv := sv) (d := d + 3) w1 (zMdl_A hM) hi hc))
theorem e_241b {i : Nat} {c : Int32} (hM : zMdl h m w th) (hi : i < (ycur w).1.length) (hc : ylet c = true) (hl : (ycur w).1.length = 6) : zMC m h (zcall zP sv (d + 25) 241 [.ref m, .int (nI i), .int c] h) 0 w (nI 3) :=
  e_2410 (sv := sv) (d := d) (no := 3) (A := ycur w) (ans := 0) (x0 := nI i) (x1 := c) hM (by decide) (fun q => absurd q (by decide)) (fun _ => rfl) (fun h1 F1 w1 => zWo_n w1 (by decide) (e_240b (sv := sv) (d := d + 3) w1 (zMdl_A hM) hi hc hl))
theorem nI_31 : nI 3 + nI 1 = nI 4 := by rw [nI_add]
theorem e_241c {i : Nat} {c : Int32} {t : yT} (hM : zMdl h m w th) (hi : (ycur w).1[i]? = some t) (hc : ylet c = true) (hl : (ycur w).1.length < 6) (hb : ¬ (ysz (ysim (yder c t)) ≤ 31 ∧ ydp (ysim (yder c t)) ≤ 8)) : zMC m h (zcall zP sv (d + 25) 241 [.ref m, .int (nI i), .int c] h) 0 w (nI 4) := by
  obtain ⟨t1, t2, t3⟩ := (zMdl_A hM).2.1 t (List.mem_of_getElem? hi)
  have hst := ysz_ysim (yder c t)
  have hsd := ysz_yder (c := c) t 8 t3
  refine e_2410 (sv := sv) (d := d) (no := 4) (A := ycur w) (ans := 0) (x0 := nI i) (x1 := c) hM (by decide) (fun q => absurd q (by decide)) (fun _ => rfl) (fun h1 F1 w1 => zWo_m (by decide) ?_)
  obtain ⟨h2, F2, e, w2, l2, f2, k2⟩ := e_240m (sv := sv) (d := d + 3) w1 (zMdl_A hM) hi hc hl
  obtain ⟨h3, F3, e3, w3, f3, k3⟩ := e_234b (sv := sv) (d := d + 3) (f := nI 3) w2 l2 (ytw_ysim _ (ytw_yder t t1)) (by omega) (zMdl_A hM) hl hb
  rw [nI_31] at e3
  exact ⟨h3, F3, e _ _ e3, w3, yff_tr f2 f3, zwf_tr k2 k3⟩
theorem e_241 {i : Nat} {c : Int32} {t : yT} (hM : zMdl h m w th) (hi : (ycur w).1[i]? = some t) (hc : ylet c = true) (hl : (ycur w).1.length < 6) (hb : ysz (ysim (yder c t)) ≤ 31 ∧ ydp (ysim (yder c t)) ≤ 8) : zMC m h (zcall zP sv (d + 25) 241 [.ref m, .int (nI i), .int c] h) (nI (ycur w).1.length) (ysc (yrec w) ((ycur w).1 ++ [ysim (yder c t)], (ycur w).2)) 0 := by
  obtain ⟨t1, t2, t3⟩ := (zMdl_A hM).2.1 t (List.mem_of_getElem? hi)
  have ts := ytw_ysim _ (ytw_yder (c := c) t t1)
  have e0 := e_2410 (sv := sv) (d := d) (no := 0) (A := ((ycur w).1 ++ [ysim (yder c t)], (ycur w).2)) (ans := nI (ycur w).1.length) (x0 := nI i) (x1 := c) hM (by decide) (fun _ => yAok_app (zMdl_A hM) ⟨ts, hb.1, hb.2⟩ hl) (fun q => absurd q (by decide)) (fun h1 F1 w1 => zWo_0 (by
    obtain ⟨h2, F2, e, w2, l2, f2, k2⟩ := e_240m (sv := sv) (d := d + 3) w1 (zMdl_A hM) hi hc hl
    obtain ⟨h3, F3, e3, w3, f30, f3, k3⟩ := e_234c (sv := sv) (d := d + 3) (f := nI 3) w2 l2 ts (by omega) (zMdl_A hM) hl hb
    exact ⟨h3, F3, e _ _ e3, w3, f30, yff_tr f2 f3, zwf_tr k2 k3⟩))
  rw [nI_0] at e0
  exact e0
theorem e_244x {x c y : Int32} (hM : zMdl h m w th) (hx : (yinF (ycur w) x && yinF (ycur w) y) = false) : zMC m h (zcall zP sv (d + 25) 244 [.ref m, .int x, .int c, .int y] h) 0 w (nI 1) :=
  e_2440 (sv := sv) (d := d) (no := 1) (A := ycur w) (ans := 0) (x0 := x) (x1 := c) (x2 := y) hM (by decide) (fun q => absurd q (by decide)) (fun _ => rfl) (fun h1 F1 w1 => zWo_n w1 (by decide) (e_243x (sv := sv) (d := d + 3) w1 (zMdl_A hM) hx))
theorem e_244a {i j : Nat} {c : Int32} (hM : zMdl h m w th) (hi : i < (ycur w).1.length) (hj : j < (ycur w).1.length) (hc : ylet c = false) : zMC m h (zcall zP sv (d + 25) 244 [.ref m, .int (nI i), .int c, .int (nI j)] h) 0 w (nI 2) :=
  e_2440 (sv := sv) (d := d) (no := 2) (A := ycur w) (ans := 0) (x0 := nI i) (x1 := c) (x2 := nI j) hM (by decide) (fun q => absurd q (by decide)) (fun _ => rfl) (fun h1 F1 w1 => zWo_n w1 (by decide) (e_243a (sv := sv) (d := d + 3) w1 (zMdl_A hM) hi hj hc))
theorem e_244b {i j : Nat} {c : Int32} {t u : yT} (hM : zMdl h m w th) (hi : (ycur w).1[i]? = some t) (hj : (ycur w).1[j]? = some u) (hc : ylet c = true) (hb : ¬ (ysz (yins c u t) ≤ 31 ∧ ydp (yins c u t) ≤ 8)) : zMC m h (zcall zP sv (d + 25) 244 [.ref m, .int (nI i), .int c, .int (nI j)] h) 0 w (nI 3) :=
  e_2440 (sv := sv) (d := d) (no := 3) (A := ycur w) (ans := 0) (x0 := nI i) (x1 := c) (x2 := nI j) hM (by decide) (fun q => absurd q (by decide)) (fun _ => rfl) (fun h1 F1 w1 => zWo_m (by decide) (e_243b (sv := sv) (d := d + 3) w1 (zMdl_A hM) hi hj hc hb))
theorem e_244 {i j : Nat} {c : Int32} {t u : yT} (hM : zMdl h m w th) (hi : (ycur w).1[i]? = some t) (hj : (ycur w).1[j]? = some u) (hc : ylet c = true) (hb : ysz (yins c u t) ≤ 31 ∧ ydp (yins c u t) ≤ 8) : zMC m h (zcall zP sv (d + 25) 244 [.ref m, .int (nI i), .int c, .int (nI j)] h) (nI (ysz (yins c u t))) (ysc (yrec w) ((ycur w).1.set i (yins c u t), (ycur w).2)) 0 := by
  obtain ⟨t1, t2, t3⟩ := (zMdl_A hM).2.1 t (List.mem_of_getElem? hi)
  obtain ⟨u1, u2, u3⟩ := (zMdl_A hM).2.1 u (List.mem_of_getElem? hj)
  have e0 := e_2440 (sv := sv) (d := d) (no := 0) (A := ((ycur w).1.set i (yins c u t), (ycur w).2)) (ans := nI (ysz (yins c u t))) (x0 := nI i) (x1 := c) (x2 := nI j) hM (by decide) (fun _ => yAok_set (zMdl_A hM) ⟨ytw_yins u1 t t1, hb.1, hb.2⟩ (zMdl_A hM).2.2) (fun q => absurd q (by decide)) (fun h1 F1 w1 => zWo_0 (e_243c (sv := sv) (d := d + 3) w1 (zMdl_A hM) hi hj hc hb))
  rw [nI_0] at e0
  exact e0
theorem e_246x {c x : Int32} (hM : zMdl h m w th) (hb : (ylet c && (decide (¬ x < -999) && decide (¬ nI 999 < x))) = false) : zMC m h (zcall zP sv (d + 25) 246 [.ref m, .int c, .int x] h) 0 w (nI 1) :=
  e_2460 (sv := sv) (d := d) (no := 1) (A := ycur w) (ans := 0) (x0 := c) (x1 := x) hM (by decide) (fun q => absurd q (by decide)) (fun _ => rfl) (fun h1 F1 w1 => zWo_n w1 (by decide) (e_245x (sv := sv) (d := d + 4) w1.1 hb))
theorem e_246 {c x : Int32} (hM : zMdl h m w th) (hb : (ylet c && (decide (¬ x < -999) && decide (¬ nI 999 < x))) = true) : zMC m h (zcall zP sv (d + 25) 246 [.ref m, .int c, .int x] h) (yg (ycur w).2.1 (c - nI 97)) (ysc (yrec w) ((ycur w).1, ys (ycur w).2.1 (c - nI 97) x, (ycur w).2.2)) 0 := by
  have e0 := e_2460 (sv := sv) (d := d) (no := 0) (A := ((ycur w).1, ys (ycur w).2.1 (c - nI 97) x, (ycur w).2.2)) (ans := yg (ycur w).2.1 (c - nI 97)) (x0 := c) (x1 := x) hM (by decide) (fun _ => yAok_oth (zMdl_A hM) (by show (ys _ _ _).length = 6; rw [ys_lnn]; exact (zMdl_A hM).2.2)) (fun q => absurd q (by decide)) (fun h1 F1 w1 => zWo_0 (e_245 (sv := sv) (d := d + 4) w1 (zMdl_A hM) hb))
  rw [nI_0] at e0
  exact e0
theorem e_248x {x : Int32} (hM : zMdl h m w th) (hb : (decide (¬ x < nI 1) && decide (¬ nI 4 < x)) = false) : zMC m h (zcall zP sv (d + 25) 248 [.ref m, .int x] h) 0 w (nI 1) :=
  e_2480 (sv := sv) (d := d) (no := 1) (A := ycur w) (ans := 0) (x0 := x) hM (by decide) (fun q => absurd q (by decide)) (fun _ => rfl) (fun h1 F1 w1 => zWo_n w1 (by decide) (e_247x (sv := sv) (d := d + 4) w1.1 hb))
theorem e_248 {x : Int32} (hM : zMdl h m w th) (hb : (decide (¬ x < nI 1) && decide (¬ nI 4 < x)) = true) : zMC m h (zcall zP sv (d + 25) 248 [.ref m, .int x] h) (ycur w).2.2.1 (ysc (yrec w) ((ycur w).1, (ycur w).2.1, x, (ycur w).2.2.2)) 0 := by
  have e0 := e_2480 (sv := sv) (d := d) (no := 0) (A := ((ycur w).1, (ycur w).2.1, x, (ycur w).2.2.2)) (ans := (ycur w).2.2.1) (x0 := x) hM (by decide) (fun _ => yAok_oth (zMdl_A hM) (zMdl_A hM).2.2) (fun q => absurd q (by decide)) (fun h1 F1 w1 => zWo_0 (e_247 (sv := sv) (d := d + 4) w1 hb))
  rw [nI_0] at e0
  exact e0
end ZMO
