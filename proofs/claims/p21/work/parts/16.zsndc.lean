/-! The checks are sound. -/
section ZCK
variable {P : zProg} {L : zL} {zW : List Jvm.Cond} {cl : List vw_C} {G : zG} {ss : Nat → String × String × String} {np : Nat → Nat} {own nm : String} {cc : ByteArray} {T : List zE} {pc : Nat}
theorem zc0_ok (hT : ∀ e ∈ T, zmean P L zW cl G ss np own e) {i j : Nat} {x : Int} {n : Nat} (h : zc0 (decode cc pc) T x n = true) : zlkI P zW cl ss own nm cc pc (0, i, j, x, n) := by
  unfold zc0 at h
  show (∃ q, decode cc pc = .ok (.iconst q, 1) ∧ n = 1 ∧ Int32.ofInt q = Int32.ofInt x) ∨ (∃ q, decode cc pc = .ok (.bipush q, 2) ∧ n = 2 ∧ (Int8.ofInt q).toInt32 = Int32.ofInt x) ∨ (∃ q, decode cc pc = .ok (.sipush q, 3) ∧ n = 3 ∧ (Int16.ofInt q).toInt32 = Int32.ofInt x) ∨
      (∃ q, decode cc pc = .ok (.ldc q, 2) ∧ n = 2 ∧ Cond.constant own q (Int32.ofInt x) ∈ zW) ∨ (∃ q, decode cc pc = .ok (.ldc_w q, 3) ∧ n = 3 ∧ Cond.constant own q (Int32.ofInt x) ∈ zW)
  split at h
  · next q e => simp only [Bool.and_eq_true, beq_iff_eq, decide_eq_true_eq] at h; exact Or.inl ⟨q, e, h⟩
  · next q e => simp only [Bool.and_eq_true, beq_iff_eq, decide_eq_true_eq] at h; exact Or.inr (Or.inl ⟨q, e, h⟩)
  · next q e => simp only [Bool.and_eq_true, beq_iff_eq, decide_eq_true_eq] at h; exact Or.inr (Or.inr (Or.inl ⟨q, e, h⟩))
  · next q e => simp only [Bool.and_eq_true, beq_iff_eq] at h; exact Or.inr (Or.inr (Or.inr (Or.inl ⟨q, e, h.1, hT _ (zhas_mem h.2)⟩)))
  · next q e => simp only [Bool.and_eq_true, beq_iff_eq] at h; exact Or.inr (Or.inr (Or.inr (Or.inr ⟨q, e, h.1, hT _ (zhas_mem h.2)⟩)))
  · cases h
theorem zc2_ok (hT : ∀ e ∈ T, zmean P L zW cl G ss np own e) {i j : Nat} {x : Int} {n : Nat} (h : zc2 (decode cc pc) T x n = true) : zlkI P zW cl ss own nm cc pc (2, i, j, x, n) := by
  unfold zc2 at h
  show (∃ q : Fin 2, decode cc pc = .ok (.lconst q, 1) ∧ n = 1 ∧ Int64.ofNat (q : Nat) = Int64.ofInt x) ∨ (∃ q, decode cc pc = .ok (.ldc2_w q, 3) ∧ n = 3 ∧ Cond.constantLong own q (Int64.ofInt x) ∈ zW)
  split at h
  · next q e => simp only [Bool.and_eq_true, beq_iff_eq, decide_eq_true_eq] at h; exact Or.inl ⟨q, e, h⟩
  · next q e => simp only [Bool.and_eq_true, beq_iff_eq] at h; exact Or.inr ⟨q, e, h.1, hT _ (zhas_mem h.2)⟩
  · cases h
theorem zc4_ok {i t : Nat} {x : Int} {n : Nat} (h : zc4 (decode cc pc) i t n = true) : zlkI P zW cl ss own nm cc pc (4, i, t, x, n) := by
  unfold zc4 at h
  simp only [Bool.and_eq_true, Bool.or_eq_true, beq_iff_eq, decide_eq_true_eq] at h
  obtain ⟨ht, h⟩ := h
  show (t = 0 ∧ ((∃ q : Fin 4, decode cc pc = .ok (.iload_n q, 1) ∧ (q : Nat) = i ∧ n = 1) ∨ (decode cc pc = .ok (.iload i, 2) ∧ n = 2))) ∨ (t = 1 ∧ ((∃ q : Fin 4, decode cc pc = .ok (.lload_n q, 1) ∧ (q : Nat) = i ∧ n = 1) ∨ (decode cc pc = .ok (.lload i, 2) ∧ n = 2))) ∨
      (t = 2 ∧ ((∃ q : Fin 4, decode cc pc = .ok (.fload_n q, 1) ∧ (q : Nat) = i ∧ n = 1) ∨ (decode cc pc = .ok (.fload i, 2) ∧ n = 2))) ∨ (t = 3 ∧ ((∃ q : Fin 4, decode cc pc = .ok (.dload_n q, 1) ∧ (q : Nat) = i ∧ n = 1) ∨ (decode cc pc = .ok (.dload i, 2) ∧ n = 2))) ∨
      (t = 4 ∧ ((∃ q : Fin 4, decode cc pc = .ok (.aload_n q, 1) ∧ (q : Nat) = i ∧ n = 1) ∨ (decode cc pc = .ok (.aload i, 2) ∧ n = 2)))
  rcases h with ⟨hn, h⟩ | ⟨hn, h⟩
  · split at h
    · next hi =>
      have e := zdis_ok h
      rcases (show t = 0 ∨ t = 1 ∨ t = 2 ∨ t = 3 ∨ t = 4 by omega) with rfl | rfl | rfl | rfl | rfl
      · exact Or.inl ⟨rfl, Or.inl ⟨⟨i, hi⟩, e, rfl, hn⟩⟩
      · exact Or.inr (Or.inl ⟨rfl, Or.inl ⟨⟨i, hi⟩, e, rfl, hn⟩⟩)
      · exact Or.inr (Or.inr (Or.inl ⟨rfl, Or.inl ⟨⟨i, hi⟩, e, rfl, hn⟩⟩))
      · exact Or.inr (Or.inr (Or.inr (Or.inl ⟨rfl, Or.inl ⟨⟨i, hi⟩, e, rfl, hn⟩⟩)))
      · exact Or.inr (Or.inr (Or.inr (Or.inr ⟨rfl, Or.inl ⟨⟨i, hi⟩, e, rfl, hn⟩⟩)))
    · cases h
  · have e := zdis_ok h
    rcases (show t = 0 ∨ t = 1 ∨ t = 2 ∨ t = 3 ∨ t = 4 by omega) with rfl | rfl | rfl | rfl | rfl
    · exact Or.inl ⟨rfl, Or.inr ⟨e, hn⟩⟩
    · exact Or.inr (Or.inl ⟨rfl, Or.inr ⟨e, hn⟩⟩)
    · exact Or.inr (Or.inr (Or.inl ⟨rfl, Or.inr ⟨e, hn⟩⟩))
    · exact Or.inr (Or.inr (Or.inr (Or.inl ⟨rfl, Or.inr ⟨e, hn⟩⟩)))
    · exact Or.inr (Or.inr (Or.inr (Or.inr ⟨rfl, Or.inr ⟨e, hn⟩⟩)))
theorem zc5_ok {i t : Nat} {x : Int} {n : Nat} (h : zc5 (decode cc pc) i t n = true) : zlkI P zW cl ss own nm cc pc (5, i, t, x, n) := by
  unfold zc5 at h
  simp only [Bool.and_eq_true, Bool.or_eq_true, beq_iff_eq, decide_eq_true_eq] at h
  show (t = 0 ∧ ((∃ q : Fin 4, decode cc pc = .ok (.istore_n q, 1) ∧ (q : Nat) = i ∧ n = 1) ∨ (decode cc pc = .ok (.istore i, 2) ∧ n = 2))) ∨ (t = 4 ∧ ((∃ q : Fin 4, decode cc pc = .ok (.astore_n q, 1) ∧ (q : Nat) = i ∧ n = 1) ∨ (decode cc pc = .ok (.astore i, 2) ∧ n = 2))) ∨
      (t = 2 ∧ decode cc pc = .ok (.fstore i, 2) ∧ n = 2) ∨ (t = 3 ∧ decode cc pc = .ok (.dstore i, 2) ∧ n = 2)
  rcases h with ⟨⟨ht, hn⟩, h⟩ | ⟨⟨ht, hn⟩, h⟩
  · split at h
    · next hi =>
      have e := zdis_ok h
      rcases ht with rfl | rfl
      · exact Or.inl ⟨rfl, Or.inl ⟨⟨i, hi⟩, e, rfl, hn⟩⟩
      · exact Or.inr (Or.inl ⟨rfl, Or.inl ⟨⟨i, hi⟩, e, rfl, hn⟩⟩)
    · cases h
  · have e := zdis_ok h
    rcases ht with rfl | rfl | rfl | rfl
    · exact Or.inl ⟨rfl, Or.inr ⟨e, hn⟩⟩
    · exact Or.inr (Or.inl ⟨rfl, Or.inr ⟨e, hn⟩⟩)
    · exact Or.inr (Or.inr (Or.inl ⟨rfl, e, hn⟩))
    · exact Or.inr (Or.inr (Or.inr ⟨rfl, e, hn⟩))
theorem zc7_ok {o j : Nat} {x : Int} {n : Nat} (hn : n = 1) (ho : o < 11) (h : zdis (decode cc pc) (zbinI o) 1 = true) : zlkI P zW cl ss own nm cc pc (7, o, j, x, n) := by
  have e := zdis_ok h
  refine ⟨hn, ?_⟩
  rcases (show o = 0 ∨ o = 1 ∨ o = 2 ∨ o = 3 ∨ o = 4 ∨ o = 5 ∨ o = 6 ∨ o = 7 ∨ o = 8 ∨ o = 9 ∨ o = 10 by omega) with rfl | rfl | rfl | rfl | rfl | rfl | rfl | rfl | rfl | rfl | rfl <;> simp only [e, zbinI] <;> simp
theorem zc8_ok {o j : Nat} {x : Int} {n : Nat} (hn : n = 1) (ho : o < 4) (h : zdis (decode cc pc) (zlbinI o) 1 = true) : zlkI P zW cl ss own nm cc pc (8, o, j, x, n) := by
  have e := zdis_ok h
  refine ⟨hn, ?_⟩
  rcases (show o = 0 ∨ o = 1 ∨ o = 2 ∨ o = 3 by omega) with rfl | rfl | rfl | rfl <;> simp only [e, zlbinI] <;> simp
theorem zc9_ok {o j : Nat} {x : Int} {n : Nat} (hn : n = 1) (ho : o < 9) (h : zdis (decode cc pc) (zunI o) 1 = true) : zlkI P zW cl ss own nm cc pc (9, o, j, x, n) := by
  have e := zdis_ok h
  refine ⟨hn, ?_⟩
  rcases (show o = 0 ∨ o = 1 ∨ o = 2 ∨ o = 3 ∨ o = 4 ∨ o = 5 ∨ o = 6 ∨ o = 7 ∨ o = 8 by omega) with rfl | rfl | rfl | rfl | rfl | rfl | rfl | rfl | rfl <;> simp only [e, zunI] <;> simp
theorem zc10_ok {o j : Nat} {x : Int} {n : Nat} (hn : n = 1) (ho : o < 5) (h : zdis (decode cc pc) (zcmpI o) 1 = true) : zlkI P zW cl ss own nm cc pc (10, o, j, x, n) := by
  have e := zdis_ok h
  refine ⟨hn, ?_⟩
  rcases (show o = 0 ∨ o = 1 ∨ o = 2 ∨ o = 3 ∨ o = 4 by omega) with rfl | rfl | rfl | rfl | rfl <;> simp only [e, zcmpI] <;> simp
theorem zc11_ok {o j : Nat} {x : Int} {n : Nat} (hn : n = 1) (ho : o < 5) (h : zdis (decode cc pc) (zstkI o) 1 = true) : zlkI P zW cl ss own nm cc pc (11, o, j, x, n) := by
  have e := zdis_ok h
  refine ⟨hn, ?_⟩
  rcases (show o = 0 ∨ o = 1 ∨ o = 2 ∨ o = 3 ∨ o = 4 by omega) with rfl | rfl | rfl | rfl | rfl <;> simp only [e, zstkI] <;> simp
theorem zc12_ok {o j : Nat} {x : Int} {n : Nat} (h : zc12 (decode cc pc) pc o j = true) : zlkI P zW cl ss own nm cc pc (12, o, j, x, n) := by
  unfold zc12 at h
  split at h
  · next cnd off e =>
    simp only [Bool.and_eq_true, decide_eq_true_eq] at h
    obtain ⟨⟨h1, rfl⟩, h3⟩ := h
    exact ⟨h1, off, e, zckN_ok h3⟩
  · cases h
theorem zc13_ok {o j : Nat} {x : Int} {n : Nat} (h : zc13 (decode cc pc) pc o j = true) : zlkI P zW cl ss own nm cc pc (13, o, j, x, n) := by
  unfold zc13 at h
  split at h
  · next cnd off e =>
    simp only [Bool.and_eq_true, decide_eq_true_eq] at h
    obtain ⟨⟨h1, rfl⟩, h3⟩ := h
    exact ⟨h1, off, e, zckN_ok h3⟩
  · cases h
theorem zc14_ok {o j : Nat} {x : Int} {n : Nat} (h : zc14 (decode cc pc) pc o j = true) : zlkI P zW cl ss own nm cc pc (14, o, j, x, n) := by
  unfold zc14 at h
  split at h
  · next off e =>
    simp only [Bool.and_eq_true, decide_eq_true_eq] at h
    exact ⟨off, Or.inl ⟨h.1, e⟩, zckN_ok h.2⟩
  · next off e =>
    simp only [Bool.and_eq_true, decide_eq_true_eq] at h
    exact ⟨off, Or.inr ⟨h.1, e⟩, zckN_ok h.2⟩
  · cases h
theorem zc15_ok {i j : Nat} {x : Int} {n : Nat} (h : zc15 (decode cc pc) pc j = true) : zlkI P zW cl ss own nm cc pc (15, i, j, x, n) := by
  unfold zc15 at h
  split at h
  · next off e => exact ⟨off, e, zckN_ok h⟩
  · cases h
theorem zc16_ok (hT : ∀ e ∈ T, zmean P L zW cl G ss np own e) {kd j : Nat} {x : Int} {n : Nat} (h : zc16 (decode cc pc) T kd j = true) : zlkI P zW cl ss own nm cc pc (16, kd, j, x, n) := by
  unfold zc16 at h
  split at h
  · next q e =>
    obtain ⟨ci, C, T9, N, ref, h1, h2, h3, h4, h5, h6⟩ := hT _ (zhas_mem h)
    exact ⟨ci, C, T9, N, q, ref, h1, h2, h3, h4, h5, h6, e⟩
  · cases h
theorem zc17_ok (hT : ∀ e ∈ T, zmean P L zW cl G ss np own e) {ini : Bool} (hi : ini = true → nm = "<init>") {kd j : Nat} {x : Int} {n : Nat} (h : zc17 (decode cc pc) ini T kd j x = true) : zlkI P zW cl ss own nm cc pc (17, kd, j, x, n) := by
  unfold zc17 at h
  split at h
  · next q e =>
    rw [Bool.or_eq_true, Bool.and_eq_true] at h
    rcases h with h | ⟨h0, h⟩
    · obtain ⟨ci, C, T9, N, ref, h1, h2, h3, h4, h5, h6, h7, h8⟩ := hT _ (zhas_mem h)
      exact ⟨ci, C, T9, N, q, ref, h1, h2, h3, h4, h5, h6, (fun h9 => by rw [h7] at h9; cases h9), h8, e⟩
    · obtain ⟨ci, C, T9, N, ref, h1, h2, h3, h4, h5, h6, h7, h8⟩ := hT _ (zhas_mem h)
      exact ⟨ci, C, T9, N, q, ref, h1, h2, h3, h4, h5, h6, (fun _ => ⟨hi h0, h7⟩), h8, e⟩
  · cases h
theorem zc18_ok {kd j : Nat} {x : Int} {n : Nat} (h1 : 20 ≤ kd) (h2 : kd < 29) (h : zdis (decode cc pc) (zaldI kd) 1 = true) : zlkI P zW cl ss own nm cc pc (18, kd, j, x, n) := by
  refine ⟨h1, _, zdis_ok h, ?_⟩
  rcases (show kd = 20 ∨ kd = 21 ∨ kd = 22 ∨ kd = 23 ∨ kd = 24 ∨ kd = 25 ∨ kd = 26 ∨ kd = 27 ∨ kd = 28 by omega) with rfl | rfl | rfl | rfl | rfl | rfl | rfl | rfl | rfl <;> simp [zaldI, ztyK, FieldType.isReference]
theorem zc19_ok {kd j : Nat} {x : Int} {n : Nat} (h1 : 20 ≤ kd) (h2 : kd < 25) (h : zdis (decode cc pc) (zastI kd) 1 = true) : zlkI P zW cl ss own nm cc pc (19, kd, j, x, n) := by
  refine ⟨_, zdis_ok h, ?_⟩
  rcases (show kd = 20 ∨ kd = 21 ∨ kd = 22 ∨ kd = 23 ∨ kd = 24 by omega) with rfl | rfl | rfl | rfl | rfl <;> simp [zastI]
theorem zc22_ok (hT : ∀ e ∈ T, zmean P L zW cl G ss np own e) {kd j : Nat} {x : Int} {n : Nat} (h : zc22 (decode cc pc) T kd = true) : zlkI P zW cl ss own nm cc pc (22, kd, j, x, n) := by
  unfold zc22 at h
  split at h
  · next q e =>
    obtain ⟨ci, C, T9, N, h1, h2, h3, h4⟩ := hT _ (zhas_mem h)
    exact ⟨ci, C, T9, N, q, h1, h2, h3, h4, e⟩
  · cases h
theorem zc23_ok (hT : ∀ e ∈ T, zmean P L zW cl G ss np own e) {kd j : Nat} {x : Int} {n : Nat} (h : zc23 (decode cc pc) T kd n = true) : zlkI P zW cl ss own nm cc pc (23, kd, j, x, n) := by
  unfold zc23 at h
  split at h
  · next a e =>
    simp only [Bool.and_eq_true, beq_iff_eq, decide_eq_true_eq] at h
    obtain ⟨⟨⟨⟨h1, h2⟩, h3⟩, h4⟩, h5⟩ := h
    have hm := hT _ (zhas_mem h5)
    refine Or.inl ⟨h1, h2, h3, a, ?_, ?_, e⟩
    · rw [← h4]
      rcases (show kd = 20 ∨ kd = 21 ∨ kd = 22 ∨ kd = 23 ∨ kd = 24 by omega) with rfl | rfl | rfl | rfl | rfl <;> rfl
    · rw [← h4]
      rcases (show kd = 20 ∨ kd = 21 ∨ kd = 22 ∨ kd = 23 ∨ kd = 24 by omega) with rfl | rfl | rfl | rfl | rfl <;> exact hm
  · next q e =>
    simp only [Bool.and_eq_true, beq_iff_eq] at h
    obtain ⟨h1, h2⟩ := h
    obtain ⟨g1, g2, C, g3, g4, g5⟩ := hT _ (zhas_mem h2)
    exact Or.inr ⟨h1, g1, g2, C, q, g3, g4, g5, e⟩
  · cases h
theorem zc24_ok (hT : ∀ e ∈ T, zmean P L zW cl G ss np own e) {i j : Nat} {x : Int} (h : zc24 (decode cc pc) np T i j x = true) : zlkC P L zW cl own cc pc i j x.toNat := by
  unfold zc24 at h
  split at h
  · next q e =>
    simp only [Bool.and_eq_true, Bool.or_eq_true, beq_iff_eq] at h
    obtain ⟨h | h, hj⟩ := h
    · obtain ⟨⟨g1, g2, g3, g4, g5⟩, ci, T9, N, f1, f2, f3, f4, f5, f6, f7⟩ := hT _ (zhas_mem h)
      exact ⟨g1, g2, g3, g4, q, np i, g5, Or.inl ⟨ci, T9, N, f1, f2, f3, f4, hj, e, f5, f6, f7⟩⟩
    · obtain ⟨⟨g1, g2, g3, g4, g5⟩, ci, C, T9, N, f1, f2, f3, f4, f5, f6, f7, f8⟩ := hT _ (zhas_mem h)
      exact ⟨g1, g2, g3, g4, q, np i, g5, Or.inr (Or.inr (Or.inr (Or.inr (Or.inr (Or.inr ⟨ci, C, T9, N, f1, f2, f3, f4, hj, e, f5, f6, f7, f8⟩)))))⟩
  · next q e =>
    simp only [Bool.and_eq_true, Bool.or_eq_true, beq_iff_eq] at h
    obtain ⟨(h | h) | h, hj⟩ := h
    · obtain ⟨⟨g1, g2, g3, g4, g5⟩, f1, f2, f3⟩ := hT _ (zhas_mem h)
      exact ⟨g1, g2, g3, g4, q, np i, g5, Or.inr (Or.inl ⟨f1, hj, e, f2, f3⟩)⟩
    · obtain ⟨⟨g1, g2, g3, g4, g5⟩, host, f1, f2, f3⟩ := hT _ (zhas_mem h)
      exact ⟨g1, g2, g3, g4, q, np i, g5, Or.inr (Or.inr (Or.inl ⟨host, f1, hj, e, f2, f3⟩))⟩
    · obtain ⟨⟨g1, g2, g3, g4, g5⟩, f1, f2, f3⟩ := hT _ (zhas_mem h)
      exact ⟨g1, g2, g3, g4, q, np i, g5, Or.inr (Or.inr (Or.inr (Or.inl ⟨f1, hj, e, f2, f3⟩)))⟩
  · next q e =>
    simp only [Bool.and_eq_true, Bool.or_eq_true, beq_iff_eq] at h
    obtain ⟨h | h, hj⟩ := h
    · obtain ⟨⟨g1, g2, g3, g4, g5⟩, f1, f2, f3, f4, f5, f6⟩ := hT _ (zhas_mem h)
      exact ⟨g1, g2, g3, g4, q, np i, g5, Or.inr (Or.inr (Or.inr (Or.inr (Or.inl ⟨f1, f2, f3, hj, e, f4, f5, f6⟩))))⟩
    · obtain ⟨⟨g1, g2, g3, g4, g5⟩, ci, C, T9, N, f1, f2, f3, f4, f5, f6, f7, f8, f9⟩ := hT _ (zhas_mem h)
      exact ⟨g1, g2, g3, g4, q, np i, g5, Or.inr (Or.inr (Or.inr (Or.inr (Or.inr (Or.inl ⟨ci, C, T9, N, f1, f2, f3, f4, hj, e, f5, f6, f7, f8, f9⟩)))))⟩
  · cases h
theorem zc25_ok (hT : ∀ e ∈ T, zmean P L zW cl G ss np own e) {i j : Nat} {x : Int} {n : Nat} (h : zc25 (decode cc pc) T = true) : zlkI P zW cl ss own nm cc pc (25, i, j, x, n) := by
  unfold zc25 at h
  split at h
  · next q e =>
    obtain ⟨h1, h2, h3⟩ := hT _ (zhas_mem h)
    exact ⟨q, e, h1, h2, h3⟩
  · cases h
theorem zc26_ok {k t : Nat} (h : zc26 (decode cc pc) (L.2.2.1 k) t = true) : zlkR L cc pc k t := by
  unfold zc26 at h
  unfold zlkR
  split at h
  · next e => exact Or.inl ⟨rfl, zdis_ok h, e⟩
  · next e => exact Or.inr (Or.inl ⟨rfl, zdis_ok h, e⟩)
  · next e => exact Or.inr (Or.inr (Or.inl ⟨rfl, zdis_ok h, e⟩))
  · next e => exact Or.inr (Or.inr (Or.inr (Or.inl ⟨rfl, zdis_ok h, e⟩)))
  · next e => exact Or.inr (Or.inr (Or.inr (Or.inr (Or.inl ⟨rfl, zdis_ok h, e⟩))))
  · next e => exact Or.inr (Or.inr (Or.inr (Or.inr (Or.inr (Or.inl ⟨rfl, zdis_ok h, e⟩)))))
  · next e => exact Or.inr (Or.inr (Or.inr (Or.inr (Or.inr (Or.inr ⟨rfl, zdis_ok h, _, e, Or.inl ⟨_, rfl⟩⟩)))))
  · next e => exact Or.inr (Or.inr (Or.inr (Or.inr (Or.inr (Or.inr ⟨rfl, zdis_ok h, _, e, Or.inr ⟨_, rfl⟩⟩)))))
  · cases h
theorem zc28_ok (hT : ∀ e ∈ T, zmean P L zW cl G ss np own e) {E : Nat} (h : zc28 cc T pc E = true) : zlkX L zW G own cc pc E := by
  unfold zc28 at h
  split at h
  · next q s e1 e2 e3 =>
    split at h
    · next c e4 =>
      rw [Bool.and_eq_true] at h
      obtain ⟨ix, rx, text, Y0, names, g0, g1, g2, g3, g4, g5, g6, g7⟩ := hT _ (zhas_mem h.1)
      exact ⟨q, s, c, ix, rx, text, Y0, names, g0, g1, g2, g3, g4, g5, g6, g7, e1, e2, Or.inl ⟨e3, e4, zdis_ok h.2⟩⟩
    · cases h
  · next q s e1 e2 e3 =>
    split at h
    · next c e4 =>
      rw [Bool.and_eq_true] at h
      obtain ⟨ix, rx, text, Y0, names, g0, g1, g2, g3, g4, g5, g6, g7⟩ := hT _ (zhas_mem h.1)
      exact ⟨q, s, c, ix, rx, text, Y0, names, g0, g1, g2, g3, g4, g5, g6, g7, e1, e2, Or.inr ⟨e3, e4, zdis_ok h.2⟩⟩
    · cases h
  · cases h
theorem zc29_ok {i j : Nat} {x : Int} {n : Nat} (h : zc29 (decode cc pc) (P.2.2.2.1 i) pc j = true) : zlkI P zW cl ss own nm cc pc (29, i, j, x, n) := by
  unfold zc29 at h
  split at h
  · next dflt ps len e =>
    simp only [Bool.and_eq_true] at h
    obtain ⟨⟨⟨h1, h2⟩, h3⟩, h4⟩ := h
    exact Or.inl ⟨dflt, ps, len, e, h1, zckN_ok h2, of_decide_eq_true h3, h4⟩
  · next dflt lo hi offs len e =>
    simp only [Bool.and_eq_true] at h
    obtain ⟨⟨⟨h1, h2⟩, h3⟩, h4⟩ := h
    exact Or.inr ⟨dflt, lo, hi, offs, len, e, zckN_ok h1, of_decide_eq_true h2, of_decide_eq_true h3, h4⟩
  · cases h
theorem zc30_ok (hT : ∀ e ∈ T, zmean P L zW cl G ss np own e) {i j : Nat} {x : Int} {n : Nat} (h : zc30 (decode cc pc) T i = true) : zlkI P zW cl ss own nm cc pc (30, i, j, x, n) := by
  unfold zc30 at h
  split at h
  · next q e =>
    obtain ⟨h1, ref, h2, h3⟩ := hT _ (zhas_mem h)
    exact ⟨h1, q, ref, e, h2, h3⟩
  · cases h
theorem zc31_ok (hT : ∀ e ∈ T, zmean P L zW cl G ss np own e) {i j : Nat} {x : Int} {n : Nat} (h : zc31 (decode cc pc) T i = true) : zlkI P zW cl ss own nm cc pc (31, i, j, x, n) := by
  unfold zc31 at h
  split at h
  · next q e => exact ⟨q, e, hT _ (zhas_mem h)⟩
  · cases h
set_option maxHeartbeats 4000000 in
theorem zck_ok {k : Nat} {ini : Bool} (hT : ∀ e ∈ T, zmean P L zW cl G ss np (L.1 k).cls e) (hi : ini = true → (L.1 k).name = "<init>") (h : zck P.2.2.2.1 np ini (L.2.1 k) (L.2.2.1 k) (decide (L.2.2.2.1 k = [])) T pc (P.1 k pc) = true) : zlk P L zW cl G ss k pc := by
  unfold zlk
  revert h
  generalize P.1 k pc = I
  intro h
  unfold zck at h
  split at h
  · exact zc0_ok hT h
  · simp only [Bool.and_eq_true, beq_iff_eq] at h; exact ⟨zdis_ok h.2, h.1⟩
  · exact zc2_ok hT h
  · simp only [Bool.and_eq_true, beq_iff_eq] at h; exact ⟨zdis_ok h.2, h.1⟩
  · exact zc4_ok h
  · exact zc5_ok h
  · simp only [Bool.and_eq_true, beq_iff_eq] at h; exact ⟨zdis_ok h.2, h.1⟩
  · simp only [Bool.and_eq_true, beq_iff_eq, decide_eq_true_eq] at h; exact zc7_ok h.1.1 h.1.2 h.2
  · simp only [Bool.and_eq_true, beq_iff_eq, decide_eq_true_eq] at h; exact zc8_ok h.1.1 h.1.2 h.2
  · simp only [Bool.and_eq_true, beq_iff_eq, decide_eq_true_eq] at h; exact zc9_ok h.1.1 h.1.2 h.2
  · simp only [Bool.and_eq_true, beq_iff_eq, decide_eq_true_eq] at h; exact zc10_ok h.1.1 h.1.2 h.2
  · simp only [Bool.and_eq_true, beq_iff_eq, decide_eq_true_eq] at h; exact zc11_ok h.1.1 h.1.2 h.2
  · exact zc12_ok h
  · exact zc13_ok h
  · exact zc14_ok h
  · exact zc15_ok h
  · exact zc16_ok hT h
  · exact zc17_ok hT hi h
  · simp only [Bool.and_eq_true, decide_eq_true_eq] at h; exact zc18_ok h.1.1 h.1.2 h.2
  · simp only [Bool.and_eq_true, decide_eq_true_eq] at h; exact zc19_ok h.1.1 h.1.2 h.2
  · rw [Bool.and_eq_true] at h; exact ⟨zdis_ok h.2, hT _ (zhas_mem h.1)⟩
  · exact zdis_ok h
  · exact zc22_ok hT h
  · exact zc23_ok hT h
  · exact zc24_ok hT h
  · exact zc25_ok hT h
  · exact zc26_ok h
  · simp only [Bool.and_eq_true, decide_eq_true_eq] at h; exact ⟨zdis_ok h.1, h.2⟩
  · simp only [Bool.and_eq_true, decide_eq_true_eq] at h; exact ⟨zc28_ok hT h.2, h.1⟩
  · exact zc29_ok h
  · exact zc30_ok hT h
  · exact zc31_ok hT h
  · cases h
end ZCK
def z99 : zI := (99, 0, 0, 0, 0)
/-- a method's instructions with their places -/
abbrev zM : Type := List (Nat × zI)
def zlu (m : zM) (pc : Nat) : zI := match m with
  | [] => z99
  | q :: r => if q.1 = pc then q.2 else zlu r pc
/-- the check over a method's instructions -/
def zall (f : Nat → zI → Bool) (m : zM) : Bool := m.all (fun q => Nat.ble 32 q.2.1 || f q.1 q.2)
theorem zall_app {f : Nat → zI → Bool} {a b : zM} (h1 : zall f a = true) (h2 : zall f b = true) : zall f (a ++ b) = true := by
  unfold zall at *
  rw [List.all_append, h1, h2]
  rfl
theorem zall_ok {f : Nat → zI → Bool} {m : zM} {pc : Nat} (h : zall f m = true) (hp : (zlu m pc).1 ≤ 31) : f pc (zlu m pc) = true := by
  unfold zall at h
  induction m with
  | nil =>
    have h9 : (99 : Nat) ≤ 31 := hp
    omega
  | cons q r ih =>
    rw [List.all_cons, Bool.and_eq_true, Bool.or_eq_true] at h
    unfold zlu at hp ⊢
    by_cases hq : q.1 = pc
    · rw [if_pos hq] at hp ⊢
      rcases h.1 with h1 | h1
      · have := Nat.le_of_ble_eq_true h1
        omega
      · rw [← hq]
        exact h1
    · rw [if_neg hq] at hp ⊢
      exact ih h.2 hp
/-- a method without handlers -/
theorem zmok_of {P : zProg} {L : zL} {zW : List Jvm.Cond} {cl : List vw_C} {G : zG} {ss : Nat → String × String × String} {np : Nat → Nat} {T : List zE} {k : Nat} {ini : Bool} {m : zM} {cc : ByteArray} {ret : Option FieldType} {own : String}
    (hT : ∀ e ∈ T, zmean P L zW cl G ss np own e) (h1 : plainName own = true) (ho : (L.1 k).cls = own) (hcc : L.2.1 k = cc) (hret : L.2.2.1 k = ret) (hm : P.1 k = zlu m) (hl : P.2.1 k ≤ 80) (hi : ini = true → (L.1 k).name = "<init>") (hh : L.2.2.2.1 k = []) (hh2 : P.2.2.1 k = [])
    (h : zall (zck P.2.2.2.1 np ini cc ret true T) m = true) : zmok P L zW cl G ss k := by
  subst ho hcc hret
  refine ⟨h1, hl, by rw [hh, hh2]; exact trivial, fun h9 => absurd hh h9, fun pc hp => ?_⟩
  have e : P.1 k pc = zlu m pc := by rw [hm]
  refine zck_ok hT hi ?_
  rw [e] at hp ⊢
  rw [hh]
  exact zall_ok h hp
/-- a method with handlers -/
theorem zmok_hof {P : zProg} {L : zL} {zW : List Jvm.Cond} {cl : List vw_C} {G : zG} {ss : Nat → String × String × String} {np : Nat → Nat} {T : List zE} {k : Nat} {m : zM} {cc : ByteArray} {own : String}
    (hT : ∀ e ∈ T, zmean P L zW cl G ss np own e) (h1 : plainName own = true) (ho : (L.1 k).cls = own) (hcc : L.2.1 k = cc) (hret : L.2.2.1 k = some .int) (hm : P.1 k = zlu m) (hl : P.2.1 k ≤ 80) (hh : zlkH L zW G own cc (P.2.2.1 k) (L.2.2.2.1 k)) (hn : (decide (L.2.2.2.1 k = [])) = false)
    (h : zall (zck P.2.2.2.1 np false cc (some .int) false T) m = true) : zmok P L zW cl G ss k := by
  subst ho hcc
  refine ⟨h1, hl, hh, fun h9 => hret, fun pc hp => ?_⟩
  have e : P.1 k pc = zlu m pc := by rw [hm]
  refine zck_ok (ini := false) hT (fun h9 => by cases h9) ?_
  rw [e] at hp ⊢
  rw [hn, hret]
  exact zall_ok h hp
def zix2 {α : Type} (d : α) (L : List (List α)) (k : Nat) : α := (L.getD (k / 16) []).getD (k % 16) d
/-- a private method of a class is selected for an object of a class below it, as another method of that class is -/
theorem z_sel_inh {C : String} {y0 y : MethodName} {s : State} {args : Array Value} (hc : y0.cls = y.cls) (hy : y.cls ≠ "java/lang/invoke/MethodHandle" ∧ y.cls ≠ "java/lang/invoke/VarHandle")
    (h1 : (Cond.selects C y0 y0).before args s = true) (hpriv : (Cond.privateMethod y).before args s = true) (hinst : (Cond.instanceMethod y).before args s = true) : (Cond.selects C y y).before args s = true := by
  obtain ⟨c, r, m0, q1, q2, q3, q4, kM, hkM, hni⟩ := Cond.selects_spec h1
  obtain ⟨mk, methM, hnamed, hmethM, -, -⟩ := Cond.instanceMethod_spec hinst
  have hfound : s.methodFound? y.cls y.name y.desc = some mk := State.methodFound?_of_named hnamed hy
  have e1 := findClass_of_methodNamed q3
  have e2 := findClass_of_methodNamed hnamed
  rw [hc] at e1
  have hcls : mk.cls = m0.cls := Option.some.inj (e2.symm.trans e1)
  have hsel : selectMethod {} s.vm c mk = .method mk := selectMethod_private hmethM (Cond.privateMethod_at hpriv mk methM hnamed hmethM)
  simp only [Cond.before, Cond.holds, Cond.value, q1, hfound, hnamed, hsel, hcls, hkM]
  simp; exact hni
