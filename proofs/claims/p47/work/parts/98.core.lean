section ZRA
variable {sv : Nat → Value} {d : Nat}
/-- the slots that are taken: the first j of seven -/
def ybsy (j : Nat) : List Int32 := List.replicate j (nI 1) ++ List.replicate (7 - j) 0
theorem ybsy_1 : ∀ j, j < 7 → ys (ybsy j) (nI j) (nI 1) = ybsy (j + 1) := by decide +kernel
theorem ybsy_0 : ∀ j, j < 7 → ys (ybsy (j + 1)) (nI j) 0 = ybsy j := by decide +kernel
theorem ybsy_g1 : ∀ j, j < 8 → ∀ i, i < j → yg (ybsy j) (nI i) = nI 1 := by decide +kernel
theorem ybsy_g0 : ∀ j, j < 7 → yg (ybsy j) (nI j) = 0 := by decide +kernel
def zCdl (c : Nat) (le ma : Int32) : zC := (12, [.ref (c + 8), .ref (c + 10), .ref (c + 12), .ref (c + 14), .ref (c + 16), .int le, .ref (c + 1), .ref (c + 18), .ref (c + 20), .int ma])
def zCdr (h : zH) (c : Nat) (q : List yI) : Prop := ∃ K R N L E : List Int32, (zRow h (c + 8) K ∧ zRow h (c + 10) R ∧ zRow h (c + 12) N ∧ zRow h (c + 14) L ∧ zRow h (c + 16) E) ∧ (K.length = 62 ∧ R.length = 62 ∧ N.length = 62 ∧ L.length = 62 ∧ E.length = 62) ∧ (K.take q.length = q.map (fun i => i.1) ∧ R.take q.length = q.map (fun i => i.2.1) ∧ N.take q.length = q.map (fun i => i.2.2.1) ∧ L.take q.length = q.map (fun i => i.2.2.2.1) ∧ E.take q.length = q.map (fun i => i.2.2.2.2)) ∧ q.length ≤ 62
/-- the class's code: instructions q, machine ma, its gauge's rows, its places P, j slots taken -/
def zCdC (h : zH) (c : Nat) (q : List yI) (ma : Int32) (A B C P : List Int32) (j : Nat) : Prop := h.1 c = zCdl c (nI q.length) ma ∧ zGau h (c + 1) A B C ∧ zCdr h c q ∧ zRow h (c + 18) (ybsy j) ∧ zRow h (c + 20) P ∧ P.length = 11
theorem zCdC_rc {h : zH} {c : Nat} {q : List yI} {ma : Int32} {A B C P : List Int32} {j : Nat} {X : zR} (hc : zCdC h c q ma A B C P j) : zrc (h.1 c) 12 X = X := by
  rw [hc.1]
  exact zrc_k
theorem d_111 {h : zH} {c : Nat} {q : List yI} {ma : Int32} {A B C P : List Int32} {j : Nat} {k r n x y : Int32} (hc : zCdC h c q ma A B C P j) (hq : q.length < 62) : ∃ h', zcall zP sv (d + 2) 111 [.ref c, .int k, .int r, .int n, .int x, .int y] h = some (.inl none, h') ∧ zCdC h' c (q ++ [(k, r, n, x, y)]) ma A B C P j ∧ zfr c (c + 22) h h' := by
  obtain ⟨c0, hg, ⟨K, R, N, L, E, ⟨k1, k2, k3, k4, k5⟩, ⟨l1, l2, l3, l4, l5⟩, ⟨t1, t2, t3, t4, t5⟩, _⟩, hb, hp, hpl⟩ := hc
  obtain ⟨h1, hh1⟩ : ∃ h1, h1 = zup h (c + 8 + 1) (20, (ys K (nI q.length) k).map Value.int) := ⟨_, rfl⟩
  obtain ⟨h2, hh2⟩ : ∃ h2, h2 = zup h1 (c + 10 + 1) (20, (ys R (nI q.length) r).map Value.int) := ⟨_, rfl⟩
  obtain ⟨h3, hh3⟩ : ∃ h3, h3 = zup h2 (c + 12 + 1) (20, (ys N (nI q.length) n).map Value.int) := ⟨_, rfl⟩
  obtain ⟨h4, hh4⟩ : ∃ h4, h4 = zup h3 (c + 14 + 1) (20, (ys L (nI q.length) x).map Value.int) := ⟨_, rfl⟩
  obtain ⟨h5, hh5⟩ : ∃ h5, h5 = zup h4 (c + 16 + 1) (20, (ys E (nI q.length) y).map Value.int) := ⟨_, rfl⟩
  have e1 : zcall zP sv (d + 1) 166 [.ref (c + 8), .int (nI q.length), .int k] h = _ := d_166 k1
  rw [← hh1] at e1
  have e2 : zcall zP sv (d + 1) 166 [.ref (c + 10), .int (nI q.length), .int r] h1 = _ := d_166 (by rw [hh1]; exact zRow_up k2 (by omega) (by omega))
  rw [← hh2] at e2
  have e3 : zcall zP sv (d + 1) 166 [.ref (c + 12), .int (nI q.length), .int n] h2 = _ := d_166 (by rw [hh2, hh1]; exact zRow_up (zRow_up k3 (by omega) (by omega)) (by omega) (by omega))
  rw [← hh3] at e3
  have e4 : zcall zP sv (d + 1) 166 [.ref (c + 14), .int (nI q.length), .int x] h3 = _ := d_166 (by rw [hh3, hh2, hh1]; exact zRow_up (zRow_up (zRow_up k4 (by omega) (by omega)) (by omega) (by omega)) (by omega) (by omega))
  rw [← hh4] at e4
  have e5 : zcall zP sv (d + 1) 166 [.ref (c + 16), .int (nI q.length), .int y] h4 = _ := d_166 (by rw [hh4, hh3, hh2, hh1]; exact zRow_up (zRow_up (zRow_up (zRow_up k5 (by omega) (by omega)) (by omega) (by omega)) (by omega) (by omega)) (by omega) (by omega))
  rw [← hh5] at e5
  have f : ∀ z, z ≠ c + 9 → z ≠ c + 11 → z ≠ c + 13 → z ≠ c + 15 → z ≠ c + 17 → h5.1 z = h.1 z := fun z z1 z2 z3 z4 z5 => by rw [hh5, zup_ne (by omega), hh4, zup_ne (by omega), hh3, zup_ne (by omega), hh2, zup_ne (by omega), hh1, zup_ne (by omega)]
  have a1 : h1.1 c = zCdl c (nI q.length) ma := by rw [hh1, zup_ne (by omega), c0]
  have a2 : h2.1 c = zCdl c (nI q.length) ma := by rw [hh2, zup_ne (by omega), a1]
  have a3 : h3.1 c = zCdl c (nI q.length) ma := by rw [hh3, zup_ne (by omega), a2]
  have a4 : h4.1 c = zCdl c (nI q.length) ma := by rw [hh4, zup_ne (by omega), a3]
  have a5 : h5.1 c = zCdl c (nI q.length) ma := by rw [hh5, zup_ne (by omega), a4]
  have b1 : ∀ X : zR, zrc (h.1 (c + 8)) 4 X = X := fun X => zRow_rc k1
  have b2 : ∀ X : zR, zrc (h1.1 (c + 10)) 4 X = X := fun X => by rw [hh1, zup_ne (by omega)]; exact zRow_rc k2
  have b3 : ∀ X : zR, zrc (h2.1 (c + 12)) 4 X = X := fun X => by rw [hh2, zup_ne (by omega), hh1, zup_ne (by omega)]; exact zRow_rc k3
  have b4 : ∀ X : zR, zrc (h3.1 (c + 14)) 4 X = X := fun X => by rw [hh3, zup_ne (by omega), hh2, zup_ne (by omega), hh1, zup_ne (by omega)]; exact zRow_rc k4
  have b5 : ∀ X : zR, zrc (h4.1 (c + 16)) 4 X = X := fun X => by rw [hh4, zup_ne (by omega), hh3, zup_ne (by omega), hh2, zup_ne (by omega), hh1, zup_ne (by omega)]; exact zRow_rc k5
  have hl : (q ++ [(k, r, n, x, y)]).length = q.length + 1 := List.length_append
  have c1 : nI q.length < nI 62 := nI_lt hq (by decide)
  have g : ∀ z, z ≠ c → (zup h5 c (zCdl c (nI (q.length + 1)) ma)).1 z = h5.1 z := fun z hz => zup_ne hz
  refine ⟨zup h5 c (zCdl c (nI (q.length + 1)) ma), ?_, ⟨by rw [zup_at, hl], zGau_cg hg (fun z z1 z2 => by rw [g _ (by omega), f _ (by omega) (by omega) (by omega) (by omega) (by omega)]), ⟨K.set q.length k, R.set q.length r, N.set q.length n, L.set q.length x, E.set q.length y, ⟨⟨?_, ?_, ?_⟩, ⟨?_, ?_, ?_⟩, ⟨?_, ?_, ?_⟩, ⟨?_, ?_, ?_⟩, ⟨?_, ?_, ?_⟩⟩, ⟨by rw [List.length_set, l1], by rw [List.length_set, l2], by rw [List.length_set, l3], by rw [List.length_set, l4], by rw [List.length_set, l5]⟩, ⟨?_, ?_, ?_, ?_, ?_⟩, by rw [hl]; omega⟩, zRow_cg hb (fun z z1 z2 => by rw [g _ (by omega), f _ (by omega) (by omega) (by omega) (by omega) (by omega)]), zRow_cg hp (fun z z1 z2 => by rw [g _ (by omega), f _ (by omega) (by omega) (by omega) (by omega) (by omega)]), hpl⟩, ⟨fun z hz => by rw [g _ (by omega), f _ (by omega) (by omega) (by omega) (by omega) (by omega)], by rw [hh5, hh4, hh3, hh2, hh1]; rfl⟩⟩
  · simp (disch := exact znw_u) only [zc_111, zs_111_0, zs_111_1, zs_111_4, zs_111_6, zs_111_9, zs_111_10, zs_111_13, zs_111_14, zs_111_17, zs_111_18, zs_111_21, zs_111_22, zs_111_25, zs_111_26, zs_111_29, zs_111_30, zs_111_33, zs_111_34, zs_111_37, zs_111_38, zs_111_41, zs_111_42, zs_111_45, zs_111_46, zs_111_49, zs_111_50, zs_111_53, zs_111_55, zs_111_58, zs_111_59, zs_111_62, zs_111_63, zs_111_66, zs_111_68, zs_111_71, zs_111_72, zs_111_73, zs_111_76, zs_111_77, zs_111_78, zs_111_81, c0, a1, a2, a3, a4, a5, zCdl, zrc_12, zf_12_0, zp_12_0, zp_12_0n, zf_12_1, zp_12_1, zp_12_1n, zf_12_2, zp_12_2, zp_12_2n, zf_12_3, zp_12_3, zp_12_3n, zf_12_4, zp_12_4, zp_12_4n, zf_12_5, zp_12_5, zf_12_6, zp_12_6, zp_12_6n, zf_12_7, zp_12_7, zp_12_7n, zf_12_8, zp_12_8, zp_12_8n, zf_12_9, zp_12_9, if_pos c1, b1, b2, b3, b4, b5, e1, e2, e3, e4, e5, zbk_v, zts_s, zts_n, nI_1', List.cons_append, List.nil_append]
  · rw [g _ (by omega), f _ (by omega) (by omega) (by omega) (by omega) (by omega)]; exact k1.1
  · rw [g _ (by omega), hh5, zup_ne (by omega), hh4, zup_ne (by omega), hh3, zup_ne (by omega), hh2, zup_ne (by omega), hh1, zup_at, ys_k (by omega)]
  · rw [List.length_set]; exact k1.2.2
  · rw [g _ (by omega), f _ (by omega) (by omega) (by omega) (by omega) (by omega)]; exact k2.1
  · rw [g _ (by omega), hh5, zup_ne (by omega), hh4, zup_ne (by omega), hh3, zup_ne (by omega), hh2, zup_at, ys_k (by omega)]
  · rw [List.length_set]; exact k2.2.2
  · rw [g _ (by omega), f _ (by omega) (by omega) (by omega) (by omega) (by omega)]; exact k3.1
  · rw [g _ (by omega), hh5, zup_ne (by omega), hh4, zup_ne (by omega), hh3, zup_at, ys_k (by omega)]
  · rw [List.length_set]; exact k3.2.2
  · rw [g _ (by omega), f _ (by omega) (by omega) (by omega) (by omega) (by omega)]; exact k4.1
  · rw [g _ (by omega), hh5, zup_ne (by omega), hh4, zup_at, ys_k (by omega)]
  · rw [List.length_set]; exact k4.2.2
  · rw [g _ (by omega), f _ (by omega) (by omega) (by omega) (by omega) (by omega)]; exact k5.1
  · rw [g _ (by omega), hh5, zup_at, ys_k (by omega)]
  · rw [List.length_set]; exact k5.2.2
  · rw [hl, ytk_set t1 (by omega), List.map_append]; rfl
  · rw [hl, ytk_set t2 (by omega), List.map_append]; rfl
  · rw [hl, ytk_set t3 (by omega), List.map_append]; rfl
  · rw [hl, ytk_set t4 (by omega), List.map_append]; rfl
  · rw [hl, ytk_set t5 (by omega), List.map_append]; rfl
theorem d_110l {h : zH} {c : Nat} {q : List yI} {ma : Int32} {A B C P : List Int32} {j : Nat} (hc : zCdC h c q ma A B C P j) (hj : j < 7) : ∀ n i, i + n = j → zrun zP sv (zcall zP sv (d + 1)) 110 2 [.val (.ref c), .val (.int (nI i))] [] h = zrun zP sv (zcall zP sv (d + 1)) 110 25 [.val (.ref c), .val (.int (nI j))] [] h := by
  have c0 := hc.1
  have hb := hc.2.2.2.1
  intro n
  induction n with
  | zero =>
    intro i hi
    obtain rfl : i = j := by omega
    have e1 : zcall zP sv (d + 1) 165 [.ref (c + 18), .int (nI i)] h = _ := d_165 hb
    rw [ybsy_g0 i hj] at e1
    have c1 : nI i < nI 7 := nI_lt hj (by decide)
    simp (disch := exact znw_u) only [zs_110_2, zs_110_3, zs_110_5, zs_110_8, zs_110_9, zs_110_12, zs_110_13, zs_110_16, c0, zCdl, zrc_12, zf_12_0, zp_12_0, zp_12_0n, zf_12_1, zp_12_1, zp_12_1n, zf_12_2, zp_12_2, zp_12_2n, zf_12_3, zp_12_3, zp_12_3n, zf_12_4, zp_12_4, zp_12_4n, zf_12_5, zp_12_5, zf_12_6, zp_12_6, zp_12_6n, zf_12_7, zp_12_7, zp_12_7n, zf_12_8, zp_12_8, zp_12_8n, zf_12_9, zp_12_9, if_pos c1, zRow_rc hb, e1, zbk_v, zts_s, ↓reduceIte, List.cons_append, List.nil_append]
  | succ n ih =>
    intro i hi
    have e1 : zcall zP sv (d + 1) 165 [.ref (c + 18), .int (nI i)] h = _ := d_165 hb
    rw [ybsy_g1 j (by omega) i (by omega)] at e1
    have c1 : nI i < nI 7 := nI_lt (by omega) (by decide)
    rw [← ih (i + 1) (by omega)]
    have eb : zrun zP sv (zcall zP sv (d + 1)) 110 19 [.val (.ref c), .val (.int (nI i))] [] h = zrun zP sv (zcall zP sv (d + 1)) 110 2 [.val (.ref c), .val (.int (nI (i + 1)))] [] h := by rw [zs_110_19, zs_110_22, nI_1']
    rw [← eb]
    simp (disch := exact znw_u) only [zs_110_2, zs_110_3, zs_110_5, zs_110_8, zs_110_9, zs_110_12, zs_110_13, zs_110_16, c0, zCdl, zrc_12, zf_12_0, zp_12_0, zp_12_0n, zf_12_1, zp_12_1, zp_12_1n, zf_12_2, zp_12_2, zp_12_2n, zf_12_3, zp_12_3, zp_12_3n, zf_12_4, zp_12_4, zp_12_4n, zf_12_5, zp_12_5, zf_12_6, zp_12_6, zp_12_6n, zf_12_7, zp_12_7, zp_12_7n, zf_12_8, zp_12_8, zp_12_8n, zf_12_9, zp_12_9, if_pos c1, zRow_rc hb, e1, zbk_v, zts_s, nI_1e0, ↓reduceIte, List.cons_append, List.nil_append]
theorem zCdC_bz {h : zH} {c : Nat} {q : List yI} {ma : Int32} {A B C P : List Int32} {j i : Nat} (hc : zCdC h c q ma A B C P j) : zCdC (zup h (c + 18 + 1) (20, (ybsy i).map Value.int)) c q ma A B C P i ∨ ¬ (ybsy i).length = (ybsy j).length := by
  by_cases hl : (ybsy i).length = (ybsy j).length
  · refine Or.inl ?_
    obtain ⟨c0, hg, ⟨K, R, N, L, E, ⟨k1, k2, k3, k4, k5⟩, w⟩, hb, hp, hpl⟩ := hc
    exact ⟨by rw [zup_ne (by omega), c0], zGau_cg hg (fun z z1 z2 => zup_ne (by omega)), ⟨K, R, N, L, E, ⟨zRow_up k1 (by omega) (by omega), zRow_up k2 (by omega) (by omega), zRow_up k3 (by omega) (by omega), zRow_up k4 (by omega) (by omega), zRow_up k5 (by omega) (by omega)⟩, w⟩, zRow_new hb hl, zRow_up hp (by omega) (by omega), hpl⟩
  · exact Or.inr hl
theorem ybsy_len : ∀ j, j < 8 → (ybsy j).length = 7 := by decide
theorem zCdC_b {h : zH} {c : Nat} {q : List yI} {ma : Int32} {A B C P : List Int32} {j i : Nat} (hc : zCdC h c q ma A B C P j) (hi : i < 8) (hj : j < 8) : zCdC (zup h (c + 18 + 1) (20, (ybsy i).map Value.int)) c q ma A B C P i := by
  rcases zCdC_bz (i := i) hc with g | g
  · exact g
  · exact absurd (by rw [ybsy_len i hi, ybsy_len j hj]) g
theorem d_110 {h : zH} {c : Nat} {q : List yI} {ma : Int32} {A B C P : List Int32} {j : Nat} (hc : zCdC h c q ma A B C P j) (hj : j < 7) : ∃ h', zcall zP sv (d + 2) 110 [.ref c] h = some (.inl (some (.int (nI j))), h') ∧ zCdC h' c q ma A B C P (j + 1) ∧ zfr c (c + 22) h h' := by
  have c0 := hc.1
  have hb := hc.2.2.2.1
  have e := d_110l (sv := sv) (d := d) hc hj j 0 (Nat.zero_add _)
  rw [nI_0] at e
  have e1 : zcall zP sv (d + 1) 166 [.ref (c + 18), .int (nI j), .int (nI 1)] h = _ := d_166 hb
  rw [ybsy_1 j hj] at e1
  refine ⟨_, ?_, zCdC_b hc (by omega) (by omega), zfr_up (by omega) (by omega)⟩
  simp (disch := exact znw_u) only [zc_110, zs_110_0, zs_110_1, e, zs_110_25, zs_110_26, zs_110_29, zs_110_30, zs_110_31, zs_110_34, zs_110_35, c0, zCdl, zrc_12, zf_12_0, zp_12_0, zp_12_0n, zf_12_1, zp_12_1, zp_12_1n, zf_12_2, zp_12_2, zp_12_2n, zf_12_3, zp_12_3, zp_12_3n, zf_12_4, zp_12_4, zp_12_4n, zf_12_5, zp_12_5, zf_12_6, zp_12_6, zp_12_6n, zf_12_7, zp_12_7, zp_12_7n, zf_12_8, zp_12_8, zp_12_8n, zf_12_9, zp_12_9, zRow_rc hb, e1, zbk_v, zts_n, List.cons_append, List.nil_append]
end ZRA

section ZRB
variable {sv : Nat → Value} {d : Nat}
theorem d_126 {h : zH} {g : Nat} {A B C : List Int32} {x : Int32} (hg : zGau h g A B C) : zcall zP sv (d + 2) 126 [.ref g, .int x] h = some (.inl (some (.int (yg C x))), h) := by
  have e : zcall zP sv (d + 1) 165 [.ref (g + 5), .int x] h = _ := d_165 hg.2.2.2.1
  simp (disch := exact znw_u) only [zc_126, zs_126_0, zs_126_1, zs_126_4, zs_126_5, zs_126_8, hg.1, zGc, zrc_10, zf_10_0, zp_10_0, zp_10_0n, zf_10_1, zp_10_1, zp_10_1n, zf_10_2, zp_10_2, zp_10_2n, zRow_rc hg.2.2.2.1, e, zbk_v, zts_s, List.cons_append, List.nil_append]
/-- what the class's method translateNode does for the term u at a node x -/
def zTrC (sv : Nat → Value) (D c t mt M : Nat) (ns : List yN) (x : Int32) (u : yT) : Prop := ∀ (b j ℓ : Nat) (q : List yI) (h : zH) (A B C P : List Int32), zCdC h c q (nI M) A B C P j → zTre h t mt ns → yQ yfD ns C ns.length → q.length + 2 * ysz u ≤ 62 → j + ydp u ≤ 8 → ℓ + ydp u ≤ 41 → b < M → M ≤ 4 → ∃ h', zcall zP sv D 108 [.ref c, .ref t, .int x, .int (nI b), .int (nI ℓ)] h = some (.inl none, h') ∧ zCdC h' c (q ++ yco M u b j) (nI M) A B C P j ∧ zfr c (c + 22) h h'
theorem d_109b {D c t mt M b j ℓ : Nat} {ns : List yN} {h : zH} {nd : yN} {n : Nat} {x5 x6 xo : Int32} {u : yT} {cc : Bool} {q : List yI} {A B C P : List Int32} {l9 l10 l11 : Slot} (h9 : znw l9 = true) (h10 : znw l10 = true) (h11 : znw l11 = true) (hd : t + 9 ≤ c ∨ c + 22 ≤ t) (hT : zTrC sv (D + 2) c t mt M ns xo u) (hnd : ns[n]? = some nd) (hw : ywf ns) (hxo : ych ns.length xo) (hu : ygt (ytm ns) xo = u) (htw : ytw u = true) (hk : yis nd.1 = true) (hc : zCdC h c q (nI M) A B C P j) (ht : zTre h t mt ns) (hQ : yQ yfD ns C ns.length) (hq : q.length + 2 * ysz u + 1 ≤ 62) (hj : j + 1 + ydp u ≤ 8) (hL : ℓ + 1 + ydp u ≤ 41) (hb : b < M) (hM : M ≤ 4) : ∃ h', zrun zP sv (zcall zP sv (D + 2)) 109 78 [.val (.ref c), .val (.ref t), .val (.int (nI n)), .val (.int (nI b)), .val (.int (nI ℓ)), .val (.int x5), .val (.int x6), .val (.int (yb cc)), .val (.int xo), l9, l10, l11] [] h = some (.inl none, h') ∧ zCdC h' c (q ++ (if yfo yfD u < nI M - nI b then yco M u (b + 1) j ++ [yi2 cc nd.1 (nI b) (nI b) (nI (b + 1))] else (nI 115, nI b, nI j, nI b, -1) :: (yco M u b (j + 1) ++ [yi2 cc nd.1 (nI b) (nI (4 + j)) (nI b)]))) (nI M) A B C P j ∧ zfr c (c + 22) h h' := by
  obtain ⟨w, n1, n2, n3⟩ := yfD_n u htw (by omega)
  have hdp : 1 ≤ ydp u := by
    cases u with
    | leaf => cases htw
    | inner _ _ _ l r => show 1 ≤ max (ydp l) (ydp r) + 1; omega
  have hg := hc.2.1
  have c0 := hc.1
  have e126 : zcall zP sv (D + 2) 126 [.ref (c + 1), .int xo] h = _ := d_126 (d := D) (x := xo) hg
  rw [yQ_g hQ hxo (Nat.le_refl _) hw.1, hu] at e126
  have hlen := yco_len (M := M) (ysz u) u (Nat.le_refl _) htw
  have zM : nI M - nI b = nI (M - b) := nI_subn (by omega)
  have grc : ∀ X : zR, zrc (h.1 (c + 1)) 10 X = X := fun X => zGau_rc hg
  have crc : ∀ X : zR, zrc (h.1 c) 12 X = X := fun X => zCdC_rc hc
  by_cases c1 : yfo yfD u < nI M - nI b
  · rw [if_pos c1]
    have hbM : b + 1 < M := by
      rw [n3, zM] at c1
      have : w < M - b := Nat.lt_of_not_le fun z => nI_nlt z (by omega) c1
      omega
    obtain ⟨h1, e1, s1, f1⟩ := hT (b + 1) j (ℓ + 1) q h A B C P hc ht hQ (by omega) (by omega) (by omega) hbM hM
    have hlb := hlen (b + 1) j
    have ht1 := zTre_fr ht f1 (by omega)
    have crc1 : ∀ X : zR, zrc (h1.1 c) 12 X = X := fun X => zCdC_rc s1
    have trc1 : ∀ X : zR, zrc (h1.1 t) 6 X = X := fun X => zTre_rc ht1
    have e184 : zcall zP sv (D + 2) 184 [.ref t, .int (nI n)] h1 = _ := d_184 (d := D) ht1 hnd
    cases cc with
    | true =>
      obtain ⟨h2, e2, s2, f2⟩ := d_111 (sv := sv) (d := D) (k := nd.1) (r := nI b) (n := 0) (x := nI b) (y := nI (b + 1)) s1 (by rw [List.length_append]; omega)
      refine ⟨h2, ?_, by rw [← List.append_assoc]; exact s2, zfr_tr f1 f2⟩
      simp (disch := first | exact h9 | exact h10 | exact h11 | exact znw_u | exact znw_i) only [zs_109_2, zs_109_7, zs_109_14, zs_109_15, zs_109_18, zs_109_20, zs_109_23, zs_109_24, zs_109_27, zs_109_29, zs_109_32, zs_109_35, zs_109_36, zs_109_39, zs_109_40, zs_109_42, zs_109_44, zs_109_47, zs_109_49, zs_109_52, zs_109_54, zs_109_56, zs_109_57, zs_109_58, zs_109_60, zs_109_63, zs_109_65, zs_109_68, zs_109_70, zs_109_71, zs_109_73, zs_109_74, zs_109_75, zs_109_78, zs_109_79, zs_109_81, zs_109_82, zs_109_83, zs_109_84, zs_109_86, zs_109_87, zs_109_90, zs_109_92, zs_109_95, zs_109_96, zs_109_99, zs_109_100, zs_109_101, zs_109_104, zs_109_105, zs_109_106, zs_109_108, zs_109_109, zs_109_110, zs_109_111, zs_109_113, zs_109_114, zs_109_115, zs_109_118, zs_109_121, zs_109_122, zs_109_125, zs_109_127, zs_109_128, zs_109_130, zs_109_131, zs_109_133, zs_109_134, zs_109_135, zs_109_138, zs_109_139, zs_109_140, zs_109_142, zs_109_143, zs_109_145, zs_109_146, zs_109_147, zs_109_150, zs_109_151, zs_109_154, zs_109_156, zs_109_157, zs_109_160, zs_109_161, zs_109_163, zs_109_164, zs_109_166, zs_109_167, zs_109_169, zs_109_170, zs_109_171, zs_109_172, zs_109_175, zs_109_176, zs_109_177, zs_109_179, zs_109_182, zs_109_184, zs_109_187, zs_109_189, zs_109_191, zs_109_194, zs_109_196, zs_109_199, zs_109_201, zs_109_204, c0, zCdl, zrc_12, zf_12_0, zp_12_0, zp_12_0n, zf_12_1, zp_12_1, zp_12_1n, zf_12_2, zp_12_2, zp_12_2n, zf_12_3, zp_12_3, zp_12_3n, zf_12_4, zp_12_4, zp_12_4n, zf_12_5, zp_12_5, zf_12_6, zp_12_6, zp_12_6n, zf_12_7, zp_12_7, zp_12_7n, zf_12_8, zp_12_8, zp_12_8n, zf_12_9, zp_12_9, if_pos c1, grc, crc, crc1, trc1, e126, e1, e184, e2, nI_1', yb_t, nI_1e0, zbk_v, zts_s, zts_n, ↓reduceIte, List.cons_append, List.nil_append]
    | false =>
      obtain ⟨h2, e2, s2, f2⟩ := d_111 (sv := sv) (d := D) (k := nd.1) (r := nI b) (n := 0) (x := nI (b + 1)) (y := nI b) s1 (by rw [List.length_append]; omega)
      refine ⟨h2, ?_, by rw [← List.append_assoc]; exact s2, zfr_tr f1 f2⟩
      simp (disch := first | exact h9 | exact h10 | exact h11 | exact znw_u | exact znw_i) only [zs_109_2, zs_109_7, zs_109_14, zs_109_15, zs_109_18, zs_109_20, zs_109_23, zs_109_24, zs_109_27, zs_109_29, zs_109_32, zs_109_35, zs_109_36, zs_109_39, zs_109_40, zs_109_42, zs_109_44, zs_109_47, zs_109_49, zs_109_52, zs_109_54, zs_109_56, zs_109_57, zs_109_58, zs_109_60, zs_109_63, zs_109_65, zs_109_68, zs_109_70, zs_109_71, zs_109_73, zs_109_74, zs_109_75, zs_109_78, zs_109_79, zs_109_81, zs_109_82, zs_109_83, zs_109_84, zs_109_86, zs_109_87, zs_109_90, zs_109_92, zs_109_95, zs_109_96, zs_109_99, zs_109_100, zs_109_101, zs_109_104, zs_109_105, zs_109_106, zs_109_108, zs_109_109, zs_109_110, zs_109_111, zs_109_113, zs_109_114, zs_109_115, zs_109_118, zs_109_121, zs_109_122, zs_109_125, zs_109_127, zs_109_128, zs_109_130, zs_109_131, zs_109_133, zs_109_134, zs_109_135, zs_109_138, zs_109_139, zs_109_140, zs_109_142, zs_109_143, zs_109_145, zs_109_146, zs_109_147, zs_109_150, zs_109_151, zs_109_154, zs_109_156, zs_109_157, zs_109_160, zs_109_161, zs_109_163, zs_109_164, zs_109_166, zs_109_167, zs_109_169, zs_109_170, zs_109_171, zs_109_172, zs_109_175, zs_109_176, zs_109_177, zs_109_179, zs_109_182, zs_109_184, zs_109_187, zs_109_189, zs_109_191, zs_109_194, zs_109_196, zs_109_199, zs_109_201, zs_109_204, c0, zCdl, zrc_12, zf_12_0, zp_12_0, zp_12_0n, zf_12_1, zp_12_1, zp_12_1n, zf_12_2, zp_12_2, zp_12_2n, zf_12_3, zp_12_3, zp_12_3n, zf_12_4, zp_12_4, zp_12_4n, zf_12_5, zp_12_5, zf_12_6, zp_12_6, zp_12_6n, zf_12_7, zp_12_7, zp_12_7n, zf_12_8, zp_12_8, zp_12_8n, zf_12_9, zp_12_9, if_pos c1, grc, crc, crc1, trc1, e126, e1, e184, e2, nI_1', yb_f, nI_1e0, zbk_v, zts_s, zts_n, ↓reduceIte, List.cons_append, List.nil_append]
  · rw [if_neg c1]
    obtain ⟨hA, eA, sA, fA⟩ := d_110 (sv := sv) (d := D) hc (by omega)
    have cA : ∀ X : zR, zrc (hA.1 c) 12 X = X := fun X => zCdC_rc sA
    obtain ⟨hB, eB, sB, fB⟩ := d_111 (sv := sv) (d := D) (k := nI 115) (r := nI b) (n := nI j) (x := nI b) (y := -1) sA (by omega)
    have cB : ∀ X : zR, zrc (hB.1 c) 12 X = X := fun X => zCdC_rc sB
    have htB := zTre_fr ht (zfr_tr fA fB) (by omega)
    have len1 : (q ++ [(nI 115, nI b, nI j, nI b, -1)]).length = q.length + 1 := List.length_append
    obtain ⟨h1, e1, s1, f1⟩ := hT b (j + 1) (ℓ + 1) _ hB A B C P sB htB hQ (by rw [len1]; omega) (by omega) (by omega) hb hM
    have hlb := hlen b (j + 1)
    have c01 := s1.1
    have hb1 := s1.2.2.2.1
    have e166 : zcall zP sv (D + 2) 166 [.ref (c + 18), .int (nI j), .int 0] h1 = _ := d_166 (d := D + 1) hb1
    rw [ybsy_0 j (by omega)] at e166
    have brc : ∀ X : zR, zrc (h1.1 (c + 18)) 4 X = X := fun X => zRow_rc hb1
    have sC := zCdC_b (i := j) s1 (by omega) (by omega)
    obtain ⟨hC, hhC⟩ : ∃ hC, hC = zup h1 (c + 18 + 1) (20, (ybsy j).map Value.int) := ⟨_, rfl⟩
    rw [← hhC] at sC e166
    have fC : zfr c (c + 22) h1 hC := by rw [hhC]; exact zfr_up (by omega) (by omega)
    have htC := zTre_fr htB (zfr_tr f1 fC) (by omega)
    have cC : ∀ X : zR, zrc (hC.1 c) 12 X = X := fun X => zCdC_rc sC
    have tC : ∀ X : zR, zrc (hC.1 t) 6 X = X := fun X => zTre_rc htC
    have e184 : zcall zP sv (D + 2) 184 [.ref t, .int (nI n)] hC = _ := d_184 (d := D) htC hnd
    have eq1 : q ++ ((nI 115, nI b, nI j, nI b, -1) :: (yco M u b (j + 1) ++ [yi2 cc nd.1 (nI b) (nI (4 + j)) (nI b)])) = q ++ [(nI 115, nI b, nI j, nI b, -1)] ++ yco M u b (j + 1) ++ [yi2 cc nd.1 (nI b) (nI (4 + j)) (nI b)] := by
      simp only [List.append_assoc, List.cons_append, List.nil_append]
    rw [eq1]
    cases cc with
    | true =>
      obtain ⟨h2, e2, s2, f2⟩ := d_111 (sv := sv) (d := D) (k := nd.1) (r := nI b) (n := 0) (x := nI (4 + j)) (y := nI b) sC (by rw [List.length_append, len1]; omega)
      refine ⟨h2, ?_, s2, zfr_tr (zfr_tr (zfr_tr (zfr_tr fA fB) f1) fC) f2⟩
      simp (disch := first | exact h9 | exact h10 | exact h11 | exact znw_u | exact znw_i) only [zs_109_2, zs_109_7, zs_109_14, zs_109_15, zs_109_18, zs_109_20, zs_109_23, zs_109_24, zs_109_27, zs_109_29, zs_109_32, zs_109_35, zs_109_36, zs_109_39, zs_109_40, zs_109_42, zs_109_44, zs_109_47, zs_109_49, zs_109_52, zs_109_54, zs_109_56, zs_109_57, zs_109_58, zs_109_60, zs_109_63, zs_109_65, zs_109_68, zs_109_70, zs_109_71, zs_109_73, zs_109_74, zs_109_75, zs_109_78, zs_109_79, zs_109_81, zs_109_82, zs_109_83, zs_109_84, zs_109_86, zs_109_87, zs_109_90, zs_109_92, zs_109_95, zs_109_96, zs_109_99, zs_109_100, zs_109_101, zs_109_104, zs_109_105, zs_109_106, zs_109_108, zs_109_109, zs_109_110, zs_109_111, zs_109_113, zs_109_114, zs_109_115, zs_109_118, zs_109_121, zs_109_122, zs_109_125, zs_109_127, zs_109_128, zs_109_130, zs_109_131, zs_109_133, zs_109_134, zs_109_135, zs_109_138, zs_109_139, zs_109_140, zs_109_142, zs_109_143, zs_109_145, zs_109_146, zs_109_147, zs_109_150, zs_109_151, zs_109_154, zs_109_156, zs_109_157, zs_109_160, zs_109_161, zs_109_163, zs_109_164, zs_109_166, zs_109_167, zs_109_169, zs_109_170, zs_109_171, zs_109_172, zs_109_175, zs_109_176, zs_109_177, zs_109_179, zs_109_182, zs_109_184, zs_109_187, zs_109_189, zs_109_191, zs_109_194, zs_109_196, zs_109_199, zs_109_201, zs_109_204, c0, c01, zCdl, zrc_12, zf_12_0, zp_12_0, zp_12_0n, zf_12_1, zp_12_1, zp_12_1n, zf_12_2, zp_12_2, zp_12_2n, zf_12_3, zp_12_3, zp_12_3n, zf_12_4, zp_12_4, zp_12_4n, zf_12_5, zp_12_5, zf_12_6, zp_12_6, zp_12_6n, zf_12_7, zp_12_7, zp_12_7n, zf_12_8, zp_12_8, zp_12_8n, zf_12_9, zp_12_9, if_neg c1, grc, crc, cA, cB, cC, brc, tC, e126, eA, eB, e1, e166, e184, e2, nI_1', nI_add, yb_t, nI_1e0, zbk_v, zts_s, zts_n, ↓reduceIte, List.cons_append, List.nil_append]
    | false =>
      obtain ⟨h2, e2, s2, f2⟩ := d_111 (sv := sv) (d := D) (k := nd.1) (r := nI b) (n := 0) (x := nI b) (y := nI (4 + j)) sC (by rw [List.length_append, len1]; omega)
      refine ⟨h2, ?_, s2, zfr_tr (zfr_tr (zfr_tr (zfr_tr fA fB) f1) fC) f2⟩
      simp (disch := first | exact h9 | exact h10 | exact h11 | exact znw_u | exact znw_i) only [zs_109_2, zs_109_7, zs_109_14, zs_109_15, zs_109_18, zs_109_20, zs_109_23, zs_109_24, zs_109_27, zs_109_29, zs_109_32, zs_109_35, zs_109_36, zs_109_39, zs_109_40, zs_109_42, zs_109_44, zs_109_47, zs_109_49, zs_109_52, zs_109_54, zs_109_56, zs_109_57, zs_109_58, zs_109_60, zs_109_63, zs_109_65, zs_109_68, zs_109_70, zs_109_71, zs_109_73, zs_109_74, zs_109_75, zs_109_78, zs_109_79, zs_109_81, zs_109_82, zs_109_83, zs_109_84, zs_109_86, zs_109_87, zs_109_90, zs_109_92, zs_109_95, zs_109_96, zs_109_99, zs_109_100, zs_109_101, zs_109_104, zs_109_105, zs_109_106, zs_109_108, zs_109_109, zs_109_110, zs_109_111, zs_109_113, zs_109_114, zs_109_115, zs_109_118, zs_109_121, zs_109_122, zs_109_125, zs_109_127, zs_109_128, zs_109_130, zs_109_131, zs_109_133, zs_109_134, zs_109_135, zs_109_138, zs_109_139, zs_109_140, zs_109_142, zs_109_143, zs_109_145, zs_109_146, zs_109_147, zs_109_150, zs_109_151, zs_109_154, zs_109_156, zs_109_157, zs_109_160, zs_109_161, zs_109_163, zs_109_164, zs_109_166, zs_109_167, zs_109_169, zs_109_170, zs_109_171, zs_109_172, zs_109_175, zs_109_176, zs_109_177, zs_109_179, zs_109_182, zs_109_184, zs_109_187, zs_109_189, zs_109_191, zs_109_194, zs_109_196, zs_109_199, zs_109_201, zs_109_204, c0, c01, zCdl, zrc_12, zf_12_0, zp_12_0, zp_12_0n, zf_12_1, zp_12_1, zp_12_1n, zf_12_2, zp_12_2, zp_12_2n, zf_12_3, zp_12_3, zp_12_3n, zf_12_4, zp_12_4, zp_12_4n, zf_12_5, zp_12_5, zf_12_6, zp_12_6, zp_12_6n, zf_12_7, zp_12_7, zp_12_7n, zf_12_8, zp_12_8, zp_12_8n, zf_12_9, zp_12_9, if_neg c1, grc, crc, cA, cB, cC, brc, tC, e126, eA, eB, e1, e166, e184, e2, nI_1', nI_add, yb_f, nI_1e0, zbk_v, zts_s, zts_n, ↓reduceIte, List.cons_append, List.nil_append]
theorem d_109 {D c t mt M b j ℓ : Nat} {ns : List yN} {h : zH} {nd : yN} {n : Nat} {q : List yI} {A B C P : List Int32} (hd : t + 9 ≤ c ∨ c + 22 ≤ t) (hTl : zTrC sv (D + 2) c t mt M ns nd.2.2.1 (ygt (ytm ns) nd.2.2.1)) (hTr : zTrC sv (D + 2) c t mt M ns nd.2.2.2 (ygt (ytm ns) nd.2.2.2)) (hnd : ns[n]? = some nd) (hw : ywf ns) (hl : ytw (ygt (ytm ns) nd.2.2.1) = true) (hr : ytw (ygt (ytm ns) nd.2.2.2) = true) (hk : yis nd.1 = true) (hc : zCdC h c q (nI M) A B C P j) (ht : zTre h t mt ns) (hQ : yQ yfD ns C ns.length) (hq : q.length + 2 * (ysz (ygt (ytm ns) nd.2.2.1) + ysz (ygt (ytm ns) nd.2.2.2) + 1) ≤ 62) (hj : j + (max (ydp (ygt (ytm ns) nd.2.2.1)) (ydp (ygt (ytm ns) nd.2.2.2)) + 1) ≤ 8) (hL : ℓ + (max (ydp (ygt (ytm ns) nd.2.2.1)) (ydp (ygt (ytm ns) nd.2.2.2)) + 1) ≤ 41) (hb : b < M) (hM : M ≤ 4) : ∃ h', zcall zP sv (D + 3) 109 [.ref c, .ref t, .int (nI n), .int (nI b), .int (nI ℓ)] h = some (.inl none, h') ∧ zCdC h' c (q ++ yco M (ymk nd.1 nd.2.1 (ygt (ytm ns) nd.2.2.1) (ygt (ytm ns) nd.2.2.2)) b j) (nI M) A B C P j ∧ zfr c (c + 22) h h' := by
  have hch := ych_lt hw hnd
  have hln := hw.1
  have hnl := (List.getElem?_eq_some_iff.mp hnd).1
  have hg := hc.2.1
  have c0 := hc.1
  have chl : ych ns.length nd.2.2.1 := hch.1
  have chr' : ych ns.length nd.2.2.2 := hch.2
  generalize hle : ygt (ytm ns) nd.2.2.1 = l at *
  generalize hre : ygt (ytm ns) nd.2.2.2 = r at *
  have el : zcall zP sv (D + 2) 126 [.ref (c + 1), .int nd.2.2.1] h = _ := d_126 (d := D) hg
  have er : zcall zP sv (D + 2) 126 [.ref (c + 1), .int nd.2.2.2] h = _ := d_126 (d := D) hg
  rw [yQ_g hQ chl (Nat.le_refl _) hln, hle] at el
  rw [yQ_g hQ chr' (Nat.le_refl _) hln, hre] at er
  have grc : ∀ X : zR, zrc (h.1 (c + 1)) 10 X = X := fun X => zGau_rc hg
  have crc : ∀ X : zR, zrc (h.1 c) 12 X = X := fun X => zCdC_rc hc
  have trc : ∀ X : zR, zrc (h.1 t) 6 X = X := fun X => zTre_rc ht
  have e186 : zcall zP sv (D + 2) 186 [.ref t, .int (nI n)] h = _ := d_186 (d := D) ht hnd
  have e187 : zcall zP sv (D + 2) 187 [.ref t, .int (nI n)] h = _ := d_187 (d := D) ht hnd
  have hsz := (yot_sz (l := l) (r := r)).1
  have hdl := (yot_sz (l := l) (r := r)).2
  obtain ⟨w1, w2⟩ := yot_tw hl hr
  have hfz := ytw_sz w1
  have hoz := ytw_sz w2
  have pos : ∃ xf xo, zTrC sv (D + 2) c t mt M ns xf (yfi l r) ∧ zTrC sv (D + 2) c t mt M ns xo (yot l r) ∧ ych ns.length xo ∧ ygt (ytm ns) xo = yot l r ∧ zcall zP sv (D + 3) 109 [.ref c, .ref t, .int (nI n), .int (nI b), .int (nI ℓ)] h = zbk (zcall zP sv (D + 2) 108 [.ref c, .ref t, .int xf, .int (nI b), .int (nI (ℓ + 1))] h) (fun v h' => zrun zP sv (zcall zP sv (D + 2)) 109 78 [.val (.ref c), .val (.ref t), .val (.int (nI n)), .val (.int (nI b)), .val (.int (nI ℓ)), .val (.int nd.2.2.1), .val (.int nd.2.2.2), .val (.int (yb (!decide (yfo yfD l < yfo yfD r)))), .val (.int xo), .unset, .unset, .unset] (v.toList ++ []) h') (fun E h' => some (.inr E, h')) := by
    by_cases c1 : yfo yfD l < yfo yfD r
    · refine ⟨nd.2.2.2, nd.2.2.1, ?_, ?_, chl, ?_, ?_⟩
      · unfold yfi; rw [if_pos c1]; exact hTr
      · unfold yot; rw [if_pos c1]; exact hTl
      · unfold yot; rw [if_pos c1]; exact hle
      · rw [decide_eq_true c1, Bool.not_true, yb_f]
        simp (disch := first | exact znw_u | exact znw_i) only [zc_109, zs_109_0, zs_109_1, zs_109_2, zs_109_5, zs_109_7, zs_109_8, zs_109_9, zs_109_12, zs_109_14, zs_109_15, zs_109_18, zs_109_20, zs_109_23, zs_109_24, zs_109_27, zs_109_29, zs_109_32, zs_109_35, zs_109_36, zs_109_39, zs_109_40, zs_109_42, zs_109_44, zs_109_47, zs_109_49, zs_109_52, zs_109_54, zs_109_56, zs_109_57, zs_109_58, zs_109_60, zs_109_63, zs_109_65, zs_109_68, zs_109_70, zs_109_71, zs_109_73, zs_109_74, zs_109_75, zs_109_79, zs_109_81, zs_109_82, zs_109_83, zs_109_84, zs_109_86, zs_109_87, zs_109_90, zs_109_92, zs_109_95, zs_109_96, zs_109_99, zs_109_100, zs_109_101, zs_109_104, zs_109_105, zs_109_106, zs_109_108, zs_109_109, zs_109_110, zs_109_111, zs_109_113, zs_109_114, zs_109_115, zs_109_118, zs_109_121, zs_109_122, zs_109_125, zs_109_127, zs_109_128, zs_109_130, zs_109_131, zs_109_133, zs_109_134, zs_109_135, zs_109_138, zs_109_139, zs_109_140, zs_109_142, zs_109_143, zs_109_145, zs_109_146, zs_109_147, zs_109_150, zs_109_151, zs_109_154, zs_109_156, zs_109_157, zs_109_160, zs_109_161, zs_109_163, zs_109_164, zs_109_166, zs_109_167, zs_109_169, zs_109_170, zs_109_171, zs_109_172, zs_109_175, zs_109_176, zs_109_177, zs_109_179, zs_109_182, zs_109_184, zs_109_187, zs_109_189, zs_109_191, zs_109_194, zs_109_196, zs_109_199, zs_109_201, zs_109_204, c0, zCdl, zrc_12, zf_12_0, zp_12_0, zp_12_0n, zf_12_1, zp_12_1, zp_12_1n, zf_12_2, zp_12_2, zp_12_2n, zf_12_3, zp_12_3, zp_12_3n, zf_12_4, zp_12_4, zp_12_4n, zf_12_5, zp_12_5, zf_12_6, zp_12_6, zp_12_6n, zf_12_7, zp_12_7, zp_12_7n, zf_12_8, zp_12_8, zp_12_8n, zf_12_9, zp_12_9, if_pos c1, grc, crc, trc, el, er, e186, e187, nI_1', zbk_v, zts_s, zts_n, ↓reduceIte, List.cons_append, List.nil_append]
    · refine ⟨nd.2.2.1, nd.2.2.2, ?_, ?_, chr', ?_, ?_⟩
      · unfold yfi; rw [if_neg c1]; exact hTl
      · unfold yot; rw [if_neg c1]; exact hTr
      · unfold yot; rw [if_neg c1]; exact hre
      · rw [decide_eq_false c1, Bool.not_false, yb_t]
        simp (disch := first | exact znw_u | exact znw_i) only [zc_109, zs_109_0, zs_109_1, zs_109_2, zs_109_5, zs_109_7, zs_109_8, zs_109_9, zs_109_12, zs_109_14, zs_109_15, zs_109_18, zs_109_20, zs_109_23, zs_109_24, zs_109_27, zs_109_29, zs_109_32, zs_109_35, zs_109_36, zs_109_39, zs_109_40, zs_109_42, zs_109_44, zs_109_47, zs_109_49, zs_109_52, zs_109_54, zs_109_56, zs_109_57, zs_109_58, zs_109_60, zs_109_63, zs_109_65, zs_109_68, zs_109_70, zs_109_71, zs_109_73, zs_109_74, zs_109_75, zs_109_79, zs_109_81, zs_109_82, zs_109_83, zs_109_84, zs_109_86, zs_109_87, zs_109_90, zs_109_92, zs_109_95, zs_109_96, zs_109_99, zs_109_100, zs_109_101, zs_109_104, zs_109_105, zs_109_106, zs_109_108, zs_109_109, zs_109_110, zs_109_111, zs_109_113, zs_109_114, zs_109_115, zs_109_118, zs_109_121, zs_109_122, zs_109_125, zs_109_127, zs_109_128, zs_109_130, zs_109_131, zs_109_133, zs_109_134, zs_109_135, zs_109_138, zs_109_139, zs_109_140, zs_109_142, zs_109_143, zs_109_145, zs_109_146, zs_109_147, zs_109_150, zs_109_151, zs_109_154, zs_109_156, zs_109_157, zs_109_160, zs_109_161, zs_109_163, zs_109_164, zs_109_166, zs_109_167, zs_109_169, zs_109_170, zs_109_171, zs_109_172, zs_109_175, zs_109_176, zs_109_177, zs_109_179, zs_109_182, zs_109_184, zs_109_187, zs_109_189, zs_109_191, zs_109_194, zs_109_196, zs_109_199, zs_109_201, zs_109_204, c0, zCdl, zrc_12, zf_12_0, zp_12_0, zp_12_0n, zf_12_1, zp_12_1, zp_12_1n, zf_12_2, zp_12_2, zp_12_2n, zf_12_3, zp_12_3, zp_12_3n, zf_12_4, zp_12_4, zp_12_4n, zf_12_5, zp_12_5, zf_12_6, zp_12_6, zp_12_6n, zf_12_7, zp_12_7, zp_12_7n, zf_12_8, zp_12_8, zp_12_8n, zf_12_9, zp_12_9, if_neg c1, grc, crc, trc, el, er, e186, e187, nI_1', nI_1e0, zbk_v, zts_s, zts_n, ↓reduceIte, List.cons_append, List.nil_append]
  obtain ⟨xf, xo, C1, C2, cho, hxo, e0⟩ := pos
  obtain ⟨h1, e1, s1, f1⟩ := C1 b j (ℓ + 1) q h A B C P hc ht hQ (by omega) (by omega) (by omega) hb hM
  have hlb := yco_len (M := M) (ysz (yfi l r)) (yfi l r) (Nat.le_refl _) w1 b j
  obtain ⟨h2, e2, s2, f2⟩ := d_109b (sv := sv) (D := D) (t := t) (mt := mt) (x5 := nd.2.2.1) (x6 := nd.2.2.2) (cc := !decide (yfo yfD l < yfo yfD r)) (l9 := .unset) (l10 := .unset) (l11 := .unset) (ℓ := ℓ) znw_u znw_u znw_u hd C2 hnd hw cho hxo w2 hk s1 (zTre_fr ht f1 (by omega)) hQ (by rw [List.length_append]; omega) (by omega) (by omega) hb hM
  refine ⟨h2, by rw [e0, e1, zbk_v, zts_n]; exact e2, ?_, zfr_tr f1 f2⟩
  rw [show ymk nd.1 nd.2.1 l r = .inner 0 nd.1 nd.2.1 l r from rfl, yco_o hk]
  rw [yi2_o, yi2_o] at s2
  by_cases c1 : yfo yfD (yot l r) < nI M - nI b
  · rw [if_pos c1] at s2 ⊢
    rw [← List.append_assoc]
    exact s2
  · rw [if_neg c1] at s2 ⊢
    rw [← List.append_assoc]
    exact s2
end ZRB

section ZRC
variable {sv : Nat → Value} {d : Nat}
theorem d_108 {c t mt M : Nat} {ns : List yN} (hd : t + 9 ≤ c ∨ c + 22 ≤ t) (hw : ywf ns) : ∀ (n : Nat) (u : yT) (x : Int32) (D : Nat), ydp u ≤ n → ytw u = true → ych ns.length x → ygt (ytm ns) x = u → 2 * ydp u + 1 ≤ D → zTrC sv D c t mt M ns x u
  | 0, u, x, D, hn, ht, hx, hu, hD => by
    cases u with
    | leaf => cases ht
    | inner _ _ _ l r =>
      have : max (ydp l) (ydp r) + 1 ≤ 0 := hn
      omega
  | n + 1, u, x, D, hn, htw, hx, hu, hD => by
    intro b j ℓ q h A B C P hc ht hQ hq hj hL hb hM
    have hln := hw.1
    rcases hx with rfl | ⟨i, hi, rfl⟩
    · rw [ygt_n] at hu
      subst hu
      cases htw
    · obtain ⟨nd, hnd⟩ := ynd_ex hi
      have hch := ych_lt hw hnd
      rw [ygt_at hw hnd] at hu
      have e : u = .inner 0 nd.1 nd.2.1 (ygt (ytm ns) nd.2.2.1) (ygt (ytm ns) nd.2.2.2) := hu.symm
      generalize hle : ygt (ytm ns) nd.2.2.1 = l at *
      generalize hre : ygt (ytm ns) nd.2.2.2 = r at *
      subst e
      have hD' : 2 * (max (ydp l) (ydp r) + 1) + 1 ≤ D := hD
      have hn' : max (ydp l) (ydp r) + 1 ≤ n + 1 := hn
      have hj' : j + (max (ydp l) (ydp r) + 1) ≤ 8 := hj
      have hL' : ℓ + (max (ydp l) (ydp r) + 1) ≤ 41 := hL
      have hq' : q.length + 2 * (ysz l + ysz r + 1) ≤ 62 := hq
      obtain ⟨D, rfl⟩ : ∃ D', D = D' + 3 := ⟨D - 3, by omega⟩
      have crc : ∀ X : zR, zrc (h.1 c) 12 X = X := fun X => zCdC_rc hc
      have trc : ∀ X : zR, zrc (h.1 t) 6 X = X := fun X => zTre_rc ht
      have c40 : ¬ nI 40 < nI ℓ := nI_nlt (by omega) (by omega)
      have e184 : zcall zP sv (D + 2) 184 [.ref t, .int (nI i)] h = _ := d_184 (d := D) ht hnd
      have e185 : zcall zP sv (D + 2) 185 [.ref t, .int (nI i)] h = _ := d_185 (d := D) ht hnd
      have e83 : zcall zP sv (D + 2) 83 [.int nd.1] h = _ := d_83 (d := D + 1)
      have p9 : yis (nI 99) = false := by decide +kernel
      have p8 : yis (nI 118) = false := by decide +kernel
      have p0 : yis (nI 110) = false := by decide +kernel
      have q1 : ¬ nI 99 = nI 110 := by decide +kernel
      have q2 : ¬ nI 118 = nI 110 := by decide +kernel
      rcases ytw_el htw with g0 | g0 | g0 | g0
      · rw [yco_c (Or.inl g0.1)]
        obtain ⟨h1, e1, s1, f1⟩ := d_111 (sv := sv) (d := D) (k := nd.1) (r := nI b) (n := nd.2.1) (x := -1) (y := -1) hc (by omega)
        refine ⟨h1, ?_, s1, f1⟩
        rw [g0.1] at e83 e184 e1
        rw [p9, yb_f] at e83
        simp (disch := first | exact znw_u | exact znw_i) only [zc_108, zs_108_0, zs_108_2, zs_108_4, zs_108_7, zs_108_8, zs_108_9, zs_108_10, zs_108_13, zs_108_15, zs_108_17, zs_108_20, zs_108_23, zs_108_24, zs_108_25, zs_108_26, zs_108_27, zs_108_29, zs_108_32, zs_108_35, zs_108_37, zs_108_39, zs_108_42, zs_108_43, zs_108_44, zs_108_45, zs_108_46, zs_108_49, zs_108_50, zs_108_52, zs_108_53, zs_108_54, zs_108_57, zs_108_58, zs_108_60, zs_108_61, zs_108_62, zs_108_63, zs_108_64, zs_108_67, zs_108_70, zs_108_71, zs_108_73, zs_108_74, zs_108_75, zs_108_76, zs_108_79, zs_108_80, zs_108_81, zs_108_84, if_neg c40, crc, trc, e184, e185, e83, e1, if_neg q1, zbk_v, zts_s, zts_n, ↓reduceIte, List.cons_append, List.nil_append]
      · rw [yco_c (Or.inr g0.1)]
        obtain ⟨h1, e1, s1, f1⟩ := d_111 (sv := sv) (d := D) (k := nd.1) (r := nI b) (n := nd.2.1) (x := -1) (y := -1) hc (by omega)
        refine ⟨h1, ?_, s1, f1⟩
        rw [g0.1] at e83 e184 e1
        rw [p8, yb_f] at e83
        simp (disch := first | exact znw_u | exact znw_i) only [zc_108, zs_108_0, zs_108_2, zs_108_4, zs_108_7, zs_108_8, zs_108_9, zs_108_10, zs_108_13, zs_108_15, zs_108_17, zs_108_20, zs_108_23, zs_108_24, zs_108_25, zs_108_26, zs_108_27, zs_108_29, zs_108_32, zs_108_35, zs_108_37, zs_108_39, zs_108_42, zs_108_43, zs_108_44, zs_108_45, zs_108_46, zs_108_49, zs_108_50, zs_108_52, zs_108_53, zs_108_54, zs_108_57, zs_108_58, zs_108_60, zs_108_61, zs_108_62, zs_108_63, zs_108_64, zs_108_67, zs_108_70, zs_108_71, zs_108_73, zs_108_74, zs_108_75, zs_108_76, zs_108_79, zs_108_80, zs_108_81, zs_108_84, if_neg c40, crc, trc, e184, e185, e83, e1, if_neg q2, zbk_v, zts_s, zts_n, ↓reduceIte, List.cons_append, List.nil_append]
      · obtain ⟨g1, gv, g2, g3⟩ := g0
        have e186 : zcall zP sv (D + 2) 186 [.ref t, .int (nI i)] h = _ := d_186 (d := D) ht hnd
        rw [g1, yco_n, ← List.append_assoc]
        have hld : max (ydp l) 0 = ydp l := Nat.max_eq_left (Nat.zero_le _)
        have hrz : ydp r = 0 := by rw [g3]; rfl
        have hrs : ysz r = 0 := by rw [g3]; rfl
        obtain ⟨h1, e1, s1, f1⟩ := d_108 (c := c) (t := t) (mt := mt) (M := M) hd hw n l nd.2.2.1 (D + 2) (by omega) g2 hch.1 hle (by omega) b j (ℓ + 1) q h A B C P hc ht hQ (by omega) (by omega) (by omega) hb hM
        have hlb := yco_len (M := M) (ysz l) l (Nat.le_refl _) g2 b j
        have crc1 : ∀ X : zR, zrc (h1.1 c) 12 X = X := fun X => zCdC_rc s1
        obtain ⟨h2, e2, s2, f2⟩ := d_111 (sv := sv) (d := D) (k := nI 110) (r := nI b) (n := 0) (x := nI b) (y := -1) s1 (by rw [List.length_append]; omega)
        refine ⟨h2, ?_, s2, zfr_tr f1 f2⟩
        rw [g1] at e83 e184
        rw [p0, yb_f] at e83
        simp (disch := first | exact znw_u | exact znw_i) only [zc_108, zs_108_0, zs_108_2, zs_108_4, zs_108_7, zs_108_8, zs_108_9, zs_108_10, zs_108_13, zs_108_15, zs_108_17, zs_108_20, zs_108_23, zs_108_24, zs_108_25, zs_108_26, zs_108_27, zs_108_29, zs_108_32, zs_108_35, zs_108_37, zs_108_39, zs_108_42, zs_108_43, zs_108_44, zs_108_45, zs_108_46, zs_108_49, zs_108_50, zs_108_52, zs_108_53, zs_108_54, zs_108_57, zs_108_58, zs_108_60, zs_108_61, zs_108_62, zs_108_63, zs_108_64, zs_108_67, zs_108_70, zs_108_71, zs_108_73, zs_108_74, zs_108_75, zs_108_76, zs_108_79, zs_108_80, zs_108_81, zs_108_84, if_neg c40, crc, crc1, trc, e184, e186, e83, e1, e2, nI_1', zbk_v, zts_s, zts_n, ↓reduceIte, List.cons_append, List.nil_append]
      · obtain ⟨gk, gv, g2, g3⟩ := g0
        have hlz := ytw_sz g2
        have Tl := d_108 (c := c) (t := t) (mt := mt) (M := M) hd hw n l nd.2.2.1 (D + 1) (by omega) g2 hch.1 hle (by omega)
        have Tr := d_108 (c := c) (t := t) (mt := mt) (M := M) hd hw n r nd.2.2.2 (D + 1) (by omega) g3 hch.2 hre (by omega)
        have hlr : 1 ≤ ydp l := by
          cases l with
          | leaf => cases g2
          | inner _ _ _ a b => show 1 ≤ max (ydp a) (ydp b) + 1; omega
        obtain ⟨D, rfl⟩ : ∃ D', D = D' + 1 := ⟨D - 1, by omega⟩
        obtain ⟨h1, e1, s1, f1⟩ := d_109 (sv := sv) (D := D) (M := M) (ℓ := ℓ) (b := b) hd (by rw [hle]; exact Tl) (by rw [hre]; exact Tr) hnd hw (by rw [hle]; exact g2) (by rw [hre]; exact g3) gk hc ht hQ (by rw [hle, hre]; omega) (by rw [hle, hre]; omega) (by rw [hle, hre]; omega) hb hM
        rw [hle, hre] at s1
        refine ⟨h1, ?_, s1, f1⟩
        rw [gk, yb_t] at e83
        simp (disch := first | exact znw_u | exact znw_i) only [zc_108, zs_108_0, zs_108_2, zs_108_4, zs_108_7, zs_108_8, zs_108_9, zs_108_10, zs_108_13, zs_108_15, zs_108_17, zs_108_20, zs_108_23, zs_108_24, zs_108_25, zs_108_26, zs_108_27, zs_108_29, zs_108_32, zs_108_35, zs_108_37, zs_108_39, zs_108_42, zs_108_43, zs_108_44, zs_108_45, zs_108_46, zs_108_49, zs_108_50, zs_108_52, zs_108_53, zs_108_54, zs_108_57, zs_108_58, zs_108_60, zs_108_61, zs_108_62, zs_108_63, zs_108_64, zs_108_67, zs_108_70, zs_108_71, zs_108_73, zs_108_74, zs_108_75, zs_108_76, zs_108_79, zs_108_80, zs_108_81, zs_108_84, if_neg c40, crc, trc, e184, e83, e1, nI_1e0, zbk_v, zts_s, zts_n, ↓reduceIte, List.cons_append, List.nil_append]
theorem ybsy_00 {S : List Int32} (h7 : S.length = 7) (h0 : ∀ x, x ∈ S → x = 0) : S = ybsy 0 := by
  rw [show ybsy 0 = List.replicate 7 0 from rfl, ← h7]
  exact List.eq_replicate_iff.mpr ⟨rfl, h0⟩
theorem zCod_of {h : zH} {c : Nat} {q : List yI} {ma : Int32} {A B C P : List Int32} (hc : zCdC h c q ma A B C P 0) : zCod h c := by
  obtain ⟨c0, hg, ⟨K, R, N, L, E, ⟨k1, k2, k3, k4, k5⟩, ⟨l1, l2, l3, l4, l5⟩, _⟩, hb, hp, hpl⟩ := hc
  exact ⟨⟨nI q.length, ma, c0⟩, ⟨A, B, C, hg⟩, ⟨K, k1, l1⟩, ⟨R, k2, l2⟩, ⟨N, k3, l3⟩, ⟨L, k4, l4⟩, ⟨E, k5, l5⟩, ⟨_, hb, rfl, fun x hx => List.eq_of_mem_replicate hx⟩, ⟨P, hp, hpl⟩⟩
theorem d_107 {h : zH} {c t mt M : Nat} {u : yT} (hd : t + 9 ≤ c ∨ c + 22 ≤ t) (hc : zCod h c) (ht : zTre h t mt (ypo 0 u)) (hu : ytok u) (h1M : 1 ≤ M) (hM : M ≤ 4) : ∃ h' A B C P, zcall zP sv (d + 20) 107 [.ref c, .ref t, .int (nI M)] h = some (.inl none, h') ∧ zCdC h' c (yco M u 0 0) (nI M) A B C P 0 ∧ zfr c (c + 22) h h' := by
  obtain ⟨⟨le, ma, c0⟩, ⟨A, B, C, hg⟩, ⟨K, k1, l1⟩, ⟨R, k2, l2⟩, ⟨N, k3, l3⟩, ⟨L, k4, l4⟩, ⟨E, k5, l5⟩, ⟨S, hb, s7, s0⟩, ⟨P, hp, hpl⟩⟩ := hc
  have hS := ybsy_00 s7 s0
  subst hS
  obtain ⟨tw, t31, t8⟩ := hu
  obtain ⟨f1, f2, f3, f4⟩ := yform tw (by omega)
  obtain ⟨h1, C', e1, g1, r1, f5⟩ := d_125 (sv := sv) (d := d + 15) f1 (show c + 1 + 7 ≤ t ∨ t + 9 ≤ c + 1 by omega) (by omega) ht hg
  have ht1 := zTre_fr ht f5 (by omega)
  have c1 : h1.1 c = (12, [.ref (c + 8), .ref (c + 10), .ref (c + 12), .ref (c + 14), .ref (c + 16), .int le, .ref (c + 1), .ref (c + 18), .ref (c + 20), .int ma]) := by rw [f5.1 _ (by omega), c0]
  obtain ⟨h2, hh2⟩ : ∃ h2, h2 = zup (zup h1 c (zCdl c le (nI M))) c (zCdl c 0 (nI M)) := ⟨_, rfl⟩
  have f2' : ∀ z, z ≠ c → h2.1 z = h1.1 z := fun z hz => by rw [hh2, zup_ne hz, zup_ne hz]
  have fr2 : zfr c (c + 22) h1 h2 := ⟨fun z hz => f2' z (by omega), by rw [hh2]; rfl⟩
  have cg : ∀ lo hi, c < lo → hi ≤ c + 1 → zcg lo hi h h2 := fun lo hi a b z z1 z2 => by omega
  have f12 : ∀ z, c + 8 ≤ z → h2.1 z = h.1 z := fun z hz => by rw [f2' z (by omega), f5.1 z (by omega)]
  have s2 : zCdC h2 c [] (nI M) A B C' P 0 := ⟨by rw [hh2, zup_at]; show zCdl c 0 (nI M) = zCdl c (nI 0) (nI M); rw [nI_0], zGau_cg g1 (fun z z1 z2 => f2' z (by omega)), ⟨K, R, N, L, E, ⟨zRow_cg k1 (fun z z1 z2 => f12 z (by omega)), zRow_cg k2 (fun z z1 z2 => f12 z (by omega)), zRow_cg k3 (fun z z1 z2 => f12 z (by omega)), zRow_cg k4 (fun z z1 z2 => f12 z (by omega)), zRow_cg k5 (fun z z1 z2 => f12 z (by omega))⟩, ⟨l1, l2, l3, l4, l5⟩, ⟨rfl, rfl, rfl, rfl, rfl⟩, Nat.zero_le _⟩, zRow_cg hb (fun z z1 z2 => f12 z (by omega)), zRow_cg hp (fun z z1 z2 => f12 z (by omega)), hpl⟩
  have ht2 := zTre_fr ht1 fr2 (by omega)
  obtain ⟨h3, e3, s3, f6⟩ := d_108 (sv := sv) (c := c) (t := t) (mt := mt) (M := M) hd f1 (ydp u) u (nI (ysz u - 1)) (d + 19) (Nat.le_refl _) tw (Or.inr ⟨ysz u - 1, by rw [f3]; omega, rfl⟩) f2 (by omega) 0 0 1 [] h2 A B C' P s2 ht2 r1 (by show 0 + 2 * ysz u ≤ 62; omega) (by omega) (by omega) (by omega) hM
  rw [List.nil_append] at s3
  rw [nI_0] at e3
  have e183 : zcall zP sv (d + 19) 183 [.ref t] h2 = _ := d_183 (d := d + 18) ht2
  rw [yroot_sub f4] at e183
  have grc : ∀ X : zR, zrc (h.1 (c + 1)) 10 X = X := fun X => zGau_rc hg
  have trc : ∀ X : zR, zrc (h2.1 t) 6 X = X := fun X => zTre_rc ht2
  have crc : ∀ X : zR, zrc (h2.1 c) 12 X = X := fun X => zCdC_rc s2
  refine ⟨h3, A, B, C', P, ?_, s3, zfr_tr (zfr_tr (zfr_mono f5 (by omega) (by omega)) fr2) f6⟩
  rw [zCdl, zCdl] at hh2
  simp (disch := first | exact znw_u | exact znw_i) only [zc_107, zs_107_0, zs_107_1, zs_107_4, zs_107_5, zs_107_8, zs_107_9, zs_107_10, zs_107_11, zs_107_14, zs_107_15, zs_107_16, zs_107_19, zs_107_20, zs_107_21, zs_107_22, zs_107_25, zs_107_26, zs_107_27, zs_107_30, c0, c1, zrc_12, zf_12_0, zp_12_0, zp_12_0n, zf_12_1, zp_12_1, zp_12_1n, zf_12_2, zp_12_2, zp_12_2n, zf_12_3, zp_12_3, zp_12_3n, zf_12_4, zp_12_4, zp_12_4n, zf_12_5, zp_12_5, zf_12_6, zp_12_6, zp_12_6n, zf_12_7, zp_12_7, zp_12_7n, zf_12_8, zp_12_8, zp_12_8n, zf_12_9, zp_12_9, grc, trc, crc, e1, zup_at, ← hh2, e183, e3, zbk_v, zts_s, zts_n, ↓reduceIte, List.cons_append, List.nil_append]
end ZRC

section ZRD
variable {sv : Nat → Value} {d : Nat}
theorem zRow_at {h : zH} {r n : Nat} {A B : List Int32} {k : Nat} {x : Int32} (hr : zRow h r A) (ht : A.take k = B) (hx : B[n]? = some x) : zcall zP sv (d + 1) 165 [.ref r, .int (nI n)] h = some (.inl (some (.int x)), h) := by
  have h1 := ytk_at ht hx
  have h2 := (List.getElem?_eq_some_iff.mp h1).1
  have h3 := hr.2.2
  have e := d_165 (sv := sv) (d := d) (x := nI n) hr
  rw [yg_e (by omega) h1] at e
  exact e
section
variable {h : zH} {c : Nat} {q : List yI} {ma : Int32} {A B C P : List Int32} {j n : Nat} {x : yI}
theorem zCdC_at (hc : zCdC h c q ma A B C P j) (hx : q[n]? = some x) : zcall zP sv (d + 1) 165 [.ref (c + 8), .int (nI n)] h = some (.inl (some (.int x.1)), h) ∧ zcall zP sv (d + 1) 165 [.ref (c + 10), .int (nI n)] h = some (.inl (some (.int x.2.1)), h) ∧ zcall zP sv (d + 1) 165 [.ref (c + 12), .int (nI n)] h = some (.inl (some (.int x.2.2.1)), h) ∧ zcall zP sv (d + 1) 165 [.ref (c + 14), .int (nI n)] h = some (.inl (some (.int x.2.2.2.1)), h) ∧ zcall zP sv (d + 1) 165 [.ref (c + 16), .int (nI n)] h = some (.inl (some (.int x.2.2.2.2)), h) := by
  obtain ⟨c0, hg, ⟨K, R, N, L, E, ⟨k1, k2, k3, k4, k5⟩, ⟨l1, l2, l3, l4, l5⟩, ⟨t1, t2, t3, t4, t5⟩, _⟩, _⟩ := hc
  exact ⟨zRow_at k1 t1 (by rw [List.getElem?_map, hx]; rfl), zRow_at k2 t2 (by rw [List.getElem?_map, hx]; rfl), zRow_at k3 t3 (by rw [List.getElem?_map, hx]; rfl), zRow_at k4 t4 (by rw [List.getElem?_map, hx]; rfl), zRow_at k5 t5 (by rw [List.getElem?_map, hx]; rfl)⟩
theorem zCdC_rr (hc : zCdC h c q ma A B C P j) : (∀ X : zR, zrc (h.1 (c + 8)) 4 X = X) ∧ (∀ X : zR, zrc (h.1 (c + 10)) 4 X = X) ∧ (∀ X : zR, zrc (h.1 (c + 12)) 4 X = X) ∧ (∀ X : zR, zrc (h.1 (c + 14)) 4 X = X) ∧ (∀ X : zR, zrc (h.1 (c + 16)) 4 X = X) ∧ ∀ X : zR, zrc (h.1 (c + 20)) 4 X = X := by
  obtain ⟨c0, hg, ⟨K, R, N, L, E, ⟨k1, k2, k3, k4, k5⟩, _⟩, _, hp, _⟩ := hc
  exact ⟨fun X => zRow_rc k1, fun X => zRow_rc k2, fun X => zRow_rc k3, fun X => zRow_rc k4, fun X => zRow_rc k5, fun X => zRow_rc hp⟩
theorem zCdC_len (hc : zCdC h c q ma A B C P j) : q.length ≤ 62 := by
  obtain ⟨c0, hg, ⟨K, R, N, L, E, _, _, _, z⟩, _⟩ := hc
  exact z
theorem d_102 (hc : zCdC h c q ma A B C P j) : zcall zP sv (d + 1) 102 [.ref c] h = some (.inl (some (.int (nI q.length))), h) := by
  simp only [zc_102, zs_102_0, zs_102_1, zs_102_4, hc.1, zCdl, zrc_12, zf_12_0, zp_12_0, zp_12_0n, zf_12_1, zp_12_1, zp_12_1n, zf_12_2, zp_12_2, zp_12_2n, zf_12_3, zp_12_3, zp_12_3n, zf_12_4, zp_12_4, zp_12_4n, zf_12_5, zp_12_5, zf_12_6, zp_12_6, zp_12_6n, zf_12_7, zp_12_7, zp_12_7n, zf_12_8, zp_12_8, zp_12_8n, zf_12_9, zp_12_9]
theorem d_103 (hc : zCdC h c q ma A B C P j) (hx : q[n]? = some x) (hk : zty 7 (.int x.1) = true) (hk2 : (x.1.toUInt32 % 65536).toInt32 = x.1) : zcall zP sv (d + 2) 103 [.ref c, .int (nI n)] h = some (.inl (some (.int x.1)), h) := by
  have e := (zCdC_at (sv := sv) (d := d) hc hx).1
  have r := (zCdC_rr hc).1
  simp (disch := exact znw_u) only [zc_103, zs_103_0, zs_103_1, zs_103_4, zs_103_5, zs_103_8, zs_103_9, hc.1, zCdl, zrc_12, zf_12_0, zp_12_0, zp_12_0n, zf_12_1, zp_12_1, zp_12_1n, zf_12_2, zp_12_2, zp_12_2n, zf_12_3, zp_12_3, zp_12_3n, zf_12_4, zp_12_4, zp_12_4n, zf_12_5, zp_12_5, zf_12_6, zp_12_6, zp_12_6n, zf_12_7, zp_12_7, zp_12_7n, zf_12_8, zp_12_8, zp_12_8n, zf_12_9, zp_12_9, r, e, zbk_v, zts_s, hk2, hk, zgd_t, List.cons_append, List.nil_append]
theorem d_104 (hc : zCdC h c q ma A B C P j) (hx : q[n]? = some x) : zcall zP sv (d + 2) 104 [.ref c, .int (nI n)] h = some (.inl (some (.int x.2.1)), h) := by
  have e := (zCdC_at (sv := sv) (d := d) hc hx).2.1
  have r := (zCdC_rr hc).2.1
  simp (disch := exact znw_u) only [zc_104, zs_104_0, zs_104_1, zs_104_4, zs_104_5, zs_104_8, hc.1, zCdl, zrc_12, zf_12_0, zp_12_0, zp_12_0n, zf_12_1, zp_12_1, zp_12_1n, zf_12_2, zp_12_2, zp_12_2n, zf_12_3, zp_12_3, zp_12_3n, zf_12_4, zp_12_4, zp_12_4n, zf_12_5, zp_12_5, zf_12_6, zp_12_6, zp_12_6n, zf_12_7, zp_12_7, zp_12_7n, zf_12_8, zp_12_8, zp_12_8n, zf_12_9, zp_12_9, r, e, zbk_v, zts_s, List.cons_append, List.nil_append]
theorem d_105l (hc : zCdC h c q ma A B C P j) : ∀ n i, i + n = q.length → zrun zP sv (zcall zP sv (d + 1)) 105 4 [.val (.ref c), .val (.int (nI (ycs (q.take i)))), .val (.int (nI i))] [] h = some (.inl (some (.int (nI (ycs q)))), h) := by
  have c0 := hc.1
  have r := (zCdC_rr hc).1
  have hl := zCdC_len hc
  intro n
  induction n with
  | zero =>
    intro i hi
    obtain rfl : i = q.length := by omega
    rw [List.take_length]
    simp only [zs_105_4, zs_105_5, zs_105_6, zs_105_9, zs_105_34, zs_105_35, c0, zCdl, zrc_12, zf_12_0, zp_12_0, zp_12_0n, zf_12_1, zp_12_1, zp_12_1n, zf_12_2, zp_12_2, zp_12_2n, zf_12_3, zp_12_3, zp_12_3n, zf_12_4, zp_12_4, zp_12_4n, zf_12_5, zp_12_5, zf_12_6, zp_12_6, zp_12_6n, zf_12_7, zp_12_7, zp_12_7n, zf_12_8, zp_12_8, zp_12_8n, zf_12_9, zp_12_9, Int32.lt_irrefl, ↓reduceIte]
  | succ n ih =>
    intro i hi
    have c1 : nI i < nI q.length := nI_lt (by omega) (by omega)
    obtain ⟨x, hx⟩ : ∃ x, q[i]? = some x := ⟨_, List.getElem?_eq_getElem (by omega)⟩
    have e := (zCdC_at (sv := sv) (d := d) hc hx).1
    have i2 := ih (i + 1) (by omega)
    have ht : q.take (i + 1) = q.take i ++ [x] := by rw [List.take_add_one, hx]; rfl
    rw [ht] at i2
    have eb : ∀ z, zrun zP sv (zcall zP sv (d + 1)) 105 28 [.val (.ref c), .val (.int z), .val (.int (nI i))] [] h = zrun zP sv (zcall zP sv (d + 1)) 105 4 [.val (.ref c), .val (.int z), .val (.int (nI (i + 1)))] [] h := fun z => by rw [zs_105_28, zs_105_31, nI_1']
    rw [← i2, ← eb]
    by_cases g : x.1 = nI 115
    · rw [ycs_2 g]
      simp (disch := exact znw_u) only [zs_105_4, zs_105_5, zs_105_6, zs_105_9, zs_105_12, zs_105_13, zs_105_16, zs_105_17, zs_105_20, zs_105_22, zs_105_25, c0, zCdl, zrc_12, zf_12_0, zp_12_0, zp_12_0n, zf_12_1, zp_12_1, zp_12_1n, zf_12_2, zp_12_2, zp_12_2n, zf_12_3, zp_12_3, zp_12_3n, zf_12_4, zp_12_4, zp_12_4n, zf_12_5, zp_12_5, zf_12_6, zp_12_6, zp_12_6n, zf_12_7, zp_12_7, zp_12_7n, zf_12_8, zp_12_8, zp_12_8n, zf_12_9, zp_12_9, if_pos c1, r, e, zbk_v, zts_s, if_pos g, nI_1', List.cons_append, List.nil_append]
    · rw [ycs_1 g]
      simp (disch := exact znw_u) only [zs_105_4, zs_105_5, zs_105_6, zs_105_9, zs_105_12, zs_105_13, zs_105_16, zs_105_17, zs_105_20, zs_105_22, c0, zCdl, zrc_12, zf_12_0, zp_12_0, zp_12_0n, zf_12_1, zp_12_1, zp_12_1n, zf_12_2, zp_12_2, zp_12_2n, zf_12_3, zp_12_3, zp_12_3n, zf_12_4, zp_12_4, zp_12_4n, zf_12_5, zp_12_5, zf_12_6, zp_12_6, zp_12_6n, zf_12_7, zp_12_7, zp_12_7n, zf_12_8, zp_12_8, zp_12_8n, zf_12_9, zp_12_9, if_pos c1, r, e, zbk_v, zts_s, if_neg g, List.cons_append, List.nil_append]
theorem d_105 (hc : zCdC h c q ma A B C P j) : zcall zP sv (d + 2) 105 [.ref c] h = some (.inl (some (.int (nI (ycs q)))), h) := by
  have e := d_105l (sv := sv) (d := d) hc q.length 0 (Nat.zero_add _)
  rw [show ycs (q.take 0) = 0 from rfl, nI_0] at e
  rw [← e]
  simp (disch := first | exact znw_u | exact znw_i) only [zc_105, zs_105_0, zs_105_1, zs_105_2, zs_105_3]
theorem d_106l (hc : zCdC h c q ma A B C P j) (ho : ∀ x, x ∈ q → x.1 = nI 115 → ∃ s, s ≤ 8 ∧ x.2.2.1 = nI s) : ∀ n i, i + n = q.length → yslo (q.take i) ≤ 9 → zrun zP sv (zcall zP sv (d + 1)) 106 4 [.val (.ref c), .val (.int (nI (yslo (q.take i)))), .val (.int (nI i))] [] h = some (.inl (some (.int (nI (yslo q)))), h) := by
  have c0 := hc.1
  have r := (zCdC_rr hc).1
  have r2 := (zCdC_rr hc).2.2.1
  have hl := zCdC_len hc
  intro n
  induction n with
  | zero =>
    intro i hi _
    obtain rfl : i = q.length := by omega
    rw [List.take_length]
    simp only [zs_106_4, zs_106_5, zs_106_6, zs_106_9, zs_106_46, zs_106_47, c0, zCdl, zrc_12, zf_12_0, zp_12_0, zp_12_0n, zf_12_1, zp_12_1, zp_12_1n, zf_12_2, zp_12_2, zp_12_2n, zf_12_3, zp_12_3, zp_12_3n, zf_12_4, zp_12_4, zp_12_4n, zf_12_5, zp_12_5, zf_12_6, zp_12_6, zp_12_6n, zf_12_7, zp_12_7, zp_12_7n, zf_12_8, zp_12_8, zp_12_8n, zf_12_9, zp_12_9, Int32.lt_irrefl, ↓reduceIte]
  | succ n ih =>
    intro i hi h9
    have c1 : nI i < nI q.length := nI_lt (by omega) (by omega)
    obtain ⟨x, hx⟩ : ∃ x, q[i]? = some x := ⟨_, List.getElem?_eq_getElem (by omega)⟩
    obtain ⟨e, _, e2, _⟩ := zCdC_at (sv := sv) (d := d) hc hx
    have i2 := ih (i + 1) (by omega)
    have ht : q.take (i + 1) = q.take i ++ [x] := by rw [List.take_add_one, hx]; rfl
    rw [ht] at i2
    have eb : ∀ z, zrun zP sv (zcall zP sv (d + 1)) 106 40 [.val (.ref c), .val (.int z), .val (.int (nI i))] [] h = zrun zP sv (zcall zP sv (d + 1)) 106 4 [.val (.ref c), .val (.int z), .val (.int (nI (i + 1)))] [] h := fun z => by rw [zs_106_40, zs_106_43, nI_1']
    by_cases g : x.1 = nI 115
    · obtain ⟨s, hs, es⟩ := ho x (List.mem_of_getElem? hx) g
      rw [yslo_2 g es (by omega)] at i2
      rw [← i2 (by omega), ← eb]
      have em : (if nI (yslo (q.take i)) < nI (s + 1) then nI (s + 1) else nI (yslo (q.take i))) = nI (max (yslo (q.take i)) (s + 1)) := nI_ltn (by omega) (by omega)
      rw [es] at e2
      simp (disch := first | exact znw_u | exact znw_i) only [zs_106_4, zs_106_5, zs_106_6, zs_106_9, zs_106_12, zs_106_13, zs_106_16, zs_106_17, zs_106_20, zs_106_22, zs_106_25, zs_106_26, zs_106_27, zs_106_30, zs_106_31, zs_106_34, zs_106_35, zs_106_36, zs_106_39, c0, zCdl, zrc_12, zf_12_0, zp_12_0, zp_12_0n, zf_12_1, zp_12_1, zp_12_1n, zf_12_2, zp_12_2, zp_12_2n, zf_12_3, zp_12_3, zp_12_3n, zf_12_4, zp_12_4, zp_12_4n, zf_12_5, zp_12_5, zf_12_6, zp_12_6, zp_12_6n, zf_12_7, zp_12_7, zp_12_7n, zf_12_8, zp_12_8, zp_12_8n, zf_12_9, zp_12_9, if_pos c1, r, r2, e, e2, zbk_v, zts_s, if_pos g, nI_1', em, List.cons_append, List.nil_append]
    · rw [yslo_1 g] at i2
      rw [← i2 h9, ← eb]
      simp (disch := exact znw_u) only [zs_106_4, zs_106_5, zs_106_6, zs_106_9, zs_106_12, zs_106_13, zs_106_16, zs_106_17, zs_106_20, zs_106_22, c0, zCdl, zrc_12, zf_12_0, zp_12_0, zp_12_0n, zf_12_1, zp_12_1, zp_12_1n, zf_12_2, zp_12_2, zp_12_2n, zf_12_3, zp_12_3, zp_12_3n, zf_12_4, zp_12_4, zp_12_4n, zf_12_5, zp_12_5, zf_12_6, zp_12_6, zp_12_6n, zf_12_7, zp_12_7, zp_12_7n, zf_12_8, zp_12_8, zp_12_8n, zf_12_9, zp_12_9, if_pos c1, r, e, zbk_v, zts_s, if_neg g, List.cons_append, List.nil_append]
theorem d_106 (hc : zCdC h c q ma A B C P j) (ho : ∀ x, x ∈ q → x.1 = nI 115 → ∃ s, s ≤ 8 ∧ x.2.2.1 = nI s) : zcall zP sv (d + 2) 106 [.ref c] h = some (.inl (some (.int (nI (yslo q)))), h) := by
  have e := d_106l (sv := sv) (d := d) hc ho q.length 0 (Nat.zero_add _) (Nat.zero_le _)
  rw [show yslo (q.take 0) = 0 from rfl, nI_0] at e
  rw [← e]
  simp (disch := first | exact znw_u | exact znw_i) only [zc_106, zs_106_0, zs_106_1, zs_106_2, zs_106_3]
end
/-- the class with the code of a formula written -/
def zClC (h : zH) (m : Nat) (w : yW) (q : List yI) : Prop := zCls h m w ∧ ∃ ma A B C P, zCdC h (m + 97) q ma A B C P 0
section
variable {h : zH} {m : Nat} {w : yW} {i M : Nat} {t : yT}
theorem zCls_cod {h' : zH} (hc : zCls h m w) (hf : zfr (m + 97) (m + 119) h h') (hd : zCod h' (m + 97)) : zCls h' m w := by
  refine zCls_q hc (zcg_fr hf (by omega)) (zcg_fr hf (by omega)) (zkp_fr hf (by omega)) ?_
  obtain ⟨⟨n1, a1⟩, ⟨n2, a2⟩, ⟨P, a3⟩, ⟨A, B, C, a4⟩, a5, a6⟩ := hc.2.2.2.2.2.2.1
  exact ⟨⟨n1, zTre_cg a1 (zcg_fr hf (by omega))⟩, ⟨n2, zTre_cg a2 (zcg_fr hf (by omega))⟩, ⟨P, zAl_cg a3 (zcg_fr hf (by omega))⟩, ⟨A, B, C, zGau_cg a4 (zcg_fr hf (by omega))⟩, zNum_cg a5 (zcg_fr hf (by omega)), hd⟩
theorem d_tr {a : Nat} (hc : zCls h m w) (ha : m + 139 ≤ a) (ht : zTre h a (ysz t) (ypo 0 t)) (hk : ytok t) (h1M : 1 ≤ M) (hM : M ≤ 4) : ∃ h', zcall zP sv (d + 20) 107 [.ref (m + 97), .ref a, .int (nI M)] h = some (.inl none, h') ∧ zClC h' m w (yco M t 0 0) ∧ zfr (m + 97) (m + 119) h h' := by
  obtain ⟨h', A, B, C, P, e, s, f⟩ := d_107 (sv := sv) (d := d) (c := m + 97) (by omega) hc.2.2.2.2.2.2.1.2.2.2.2.2 ht hk h1M hM
  exact ⟨h', e, ⟨zCls_cod hc f (zCod_of s), _, _, _, _, _, s⟩, f⟩
/-- the code of a formula on the machine that is set -/
theorem d_trq (hc : zCls h m w) (hi : (ycur w).1[i]? = some t) (hR : (ycur w).2.2.1 = nI M) (h1M : 1 ≤ M) (hM : M ≤ 4) : ∃ (a : Nat) (h' : zH), zcall zP sv (d + 47) 70 [.ref m, .int (nI i)] h = some (.inl (some (.ref a)), h) ∧ zcall zP sv (d + 47) 171 [.ref (m + 3)] h = some (.inl (some (.int (nI M))), h) ∧ (∀ X : zR, zrc (h.1 (m + 3)) 3 X = X) ∧ (∀ X : zR, zrc (h.1 (m + 97)) 12 X = X) ∧ zcall zP sv (d + 47) 107 [.ref (m + 97), .ref a, .int (nI M)] h = some (.inl none, h') ∧ zClC h' m w (yco M t 0 0) ∧ zfr (m + 97) (m + 119) h h' ∧ ytok t := by
  obtain ⟨a, e0, a1, a2, a3, a4⟩ := d_70k (sv := sv) (d := d + 45) hc hi
  obtain ⟨S, s1, s2⟩ := zcur_ex hc
  have e1 : zcall zP sv (d + 47) 171 [.ref (m + 3)] h = _ := d_171 (d := d + 46) s1
  rw [s2.1, hR] at e1
  obtain ⟨h', e2, s3, f⟩ := d_tr (sv := sv) (d := d + 27) hc a1 a3 a4 h1M hM
  obtain ⟨⟨le, ma, c0⟩, _⟩ := hc.2.2.2.2.2.2.1.2.2.2.2.2
  exact ⟨a, h', e0, e1, fun X => by rw [s1.1]; exact zrc_k, fun X => by rw [c0]; exact zrc_k, e2, s3, f, a4⟩
end
end ZRD

section ZRE
variable {sv : Nat → Value} {d : Nat} {h : zH} {m : Nat} {w : yW} {i M : Nat} {t : yT}
theorem zfx_fr_l {lo hi a b N K : Nat} {h h1 h' : zH} (hf : zfr a b h h1) (h2 : zfx lo hi N K h1 h') (ha : lo ≤ a) (hb : b ≤ hi) : zfx lo hi N K h h' := zfx_mono (zfx_tr (zfx_fr hf ha hb) h2) (Nat.le_refl _) (Nat.le_refl _) (by omega) (by omega)
theorem zEnd_c {h' : zH} {r : zR} {o : zO} (hr : r = some (o, h')) (hc : zCls h' m w) (hf : zfr (m + 97) (m + 119) h h') : zEnd h m r 0 0 o w := ⟨h', hr, hc, zfr_fx hf (by omega) (by omega)⟩
theorem d_51 (hc : zCls h m w) (hi : (ycur w).1[i]? = some t) (hR : (ycur w).2.2.1 = nI M) (h1M : 1 ≤ M) (hM : M ≤ 4) : zEnd h m (zcall zP sv (d + 48) 51 [.ref m, .int (nI i)] h) 0 0 (.inl (some (.int (nI (yco M t 0 0).length)))) w := by
  have q1 := zCls_0 hc
  obtain ⟨a, h1, e0, e1, r3, r12, e2, ⟨s1, ma, A, B, C, P, s2⟩, f, tk⟩ := d_trq (sv := sv) (d := d) hc hi hR h1M hM
  have q2 := zCls_0 s1
  have r12' : ∀ X : zR, zrc (h1.1 (m + 97)) 12 X = X := fun X => zCdC_rc s2
  have e3 : zcall zP sv (d + 47) 102 [.ref (m + 97)] h1 = _ := d_102 (d := d + 46) s2
  refine zEnd_c ?_ s1 f
  simp (disch := exact znw_u) only [zc_51, zs_51_0, zs_51_1, zs_51_4, zs_51_5, zs_51_6, zs_51_9, zs_51_10, zs_51_13, zs_51_16, zs_51_19, zs_51_20, zs_51_23, zs_51_26, q1, q2, zECc, zrc_1, zf_1_0, zp_1_0, zp_1_0n, zf_1_1, zp_1_1, zf_1_2, zp_1_2, zp_1_2n, zf_1_3, zp_1_3, zp_1_3n, zf_1_4, zp_1_40, zp_1_41, zf_1_5, zp_1_5, zp_1_5n, zf_1_6, zp_1_6, zp_1_6n, zf_1_7, zp_1_7, zp_1_7n, zf_1_8, zp_1_8, zp_1_8n, zf_1_9, zp_1_9, zp_1_9n, zf_1_10, zp_1_10, zp_1_10n, zf_1_11, zp_1_11, zp_1_11n, zf_1_12, zp_1_12, zp_1_12n, zEC1 hc, e0, r3, e1, r12, r12', e2, e3, zbk_v, zts_s, zts_n, List.cons_append, List.nil_append]
theorem d_52 (hc : zCls h m w) (hi : (ycur w).1[i]? = some t) (hR : (ycur w).2.2.1 = nI M) (h1M : 1 ≤ M) (hM : M ≤ 4) : zEnd h m (zcall zP sv (d + 48) 52 [.ref m, .int (nI i)] h) 0 0 (.inl (some (.int (nI (ycs (yco M t 0 0)))))) w := by
  have q1 := zCls_0 hc
  obtain ⟨a, h1, e0, e1, r3, r12, e2, ⟨s1, ma, A, B, C, P, s2⟩, f, tk⟩ := d_trq (sv := sv) (d := d) hc hi hR h1M hM
  have q2 := zCls_0 s1
  have r12' : ∀ X : zR, zrc (h1.1 (m + 97)) 12 X = X := fun X => zCdC_rc s2
  have e3 : zcall zP sv (d + 47) 105 [.ref (m + 97)] h1 = _ := d_105 (d := d + 45) s2
  refine zEnd_c ?_ s1 f
  simp (disch := exact znw_u) only [zc_52, zs_52_0, zs_52_1, zs_52_4, zs_52_5, zs_52_6, zs_52_9, zs_52_10, zs_52_13, zs_52_16, zs_52_19, zs_52_20, zs_52_23, zs_52_26, q1, q2, zECc, zrc_1, zf_1_0, zp_1_0, zp_1_0n, zf_1_1, zp_1_1, zf_1_2, zp_1_2, zp_1_2n, zf_1_3, zp_1_3, zp_1_3n, zf_1_4, zp_1_40, zp_1_41, zf_1_5, zp_1_5, zp_1_5n, zf_1_6, zp_1_6, zp_1_6n, zf_1_7, zp_1_7, zp_1_7n, zf_1_8, zp_1_8, zp_1_8n, zf_1_9, zp_1_9, zp_1_9n, zf_1_10, zp_1_10, zp_1_10n, zf_1_11, zp_1_11, zp_1_11n, zf_1_12, zp_1_12, zp_1_12n, zEC1 hc, e0, r3, e1, r12, r12', e2, e3, zbk_v, zts_s, zts_n, List.cons_append, List.nil_append]
theorem yco_o8 (hM : M ≤ 4) (h1M : 1 ≤ M) (tk : ytok t) : ∀ x, x ∈ yco M t 0 0 → yIok x := fun x hx => yco_ok hM (ysz t) t (Nat.le_refl _) (by have := tk.2.1; omega) tk.1 0 0 (by omega) (by have := tk.2.2; omega) x hx
theorem yIok_s {x : yI} (hx : yIok x) (h : x.1 = nI 115) : ∃ s, s ≤ 8 ∧ x.2.2.1 = nI s := by
  have p1 : ¬ nI 115 = nI 99 := by decide +kernel
  have p2 : ¬ nI 115 = nI 118 := by decide +kernel
  have p3 : ¬ nI 115 = nI 110 := by decide +kernel
  have p4 : ¬ yis (nI 115) = true := by decide +kernel
  obtain ⟨_, g⟩ := hx
  rw [h] at g
  rcases g with g | g | g | g | g
  · exact absurd g p1
  · exact absurd g.1 p2
  · exact absurd g.1 p3
  · exact g.2.1
  · exact absurd g.1 p4
theorem d_53 (hc : zCls h m w) (hi : (ycur w).1[i]? = some t) (hR : (ycur w).2.2.1 = nI M) (h1M : 1 ≤ M) (hM : M ≤ 4) : zEnd h m (zcall zP sv (d + 48) 53 [.ref m, .int (nI i)] h) 0 0 (.inl (some (.int (nI (yslo (yco M t 0 0)))))) w := by
  have q1 := zCls_0 hc
  obtain ⟨a, h1, e0, e1, r3, r12, e2, ⟨s1, ma, A, B, C, P, s2⟩, f, tk⟩ := d_trq (sv := sv) (d := d) hc hi hR h1M hM
  have q2 := zCls_0 s1
  have r12' : ∀ X : zR, zrc (h1.1 (m + 97)) 12 X = X := fun X => zCdC_rc s2
  have e3 : zcall zP sv (d + 47) 106 [.ref (m + 97)] h1 = _ := d_106 (d := d + 45) s2 (fun x hx h5 => yIok_s (yco_o8 hM h1M tk x hx) h5)
  refine zEnd_c ?_ s1 f
  simp (disch := exact znw_u) only [zc_53, zs_53_0, zs_53_1, zs_53_4, zs_53_5, zs_53_6, zs_53_9, zs_53_10, zs_53_13, zs_53_16, zs_53_19, zs_53_20, zs_53_23, zs_53_26, q1, q2, zECc, zrc_1, zf_1_0, zp_1_0, zp_1_0n, zf_1_1, zp_1_1, zf_1_2, zp_1_2, zp_1_2n, zf_1_3, zp_1_3, zp_1_3n, zf_1_4, zp_1_40, zp_1_41, zf_1_5, zp_1_5, zp_1_5n, zf_1_6, zp_1_6, zp_1_6n, zf_1_7, zp_1_7, zp_1_7n, zf_1_8, zp_1_8, zp_1_8n, zf_1_9, zp_1_9, zp_1_9n, zf_1_10, zp_1_10, zp_1_10n, zf_1_11, zp_1_11, zp_1_11n, zf_1_12, zp_1_12, zp_1_12n, zEC1 hc, e0, r3, e1, r12, r12', e2, e3, zbk_v, zts_s, zts_n, List.cons_append, List.nil_append]
theorem d_63 (hc : zCls h m w) (hi : (ycur w).1[i]? = some t) (hR : (ycur w).2.2.1 = nI M) (h1M : 1 ≤ M) (hM : M ≤ 4) : zEnd h m (zcall zP sv (d + 48) 63 [.ref m, .int (nI i)] h) 0 0 (.inl (some (.float (FP.fdiv (FP.i2f (nI (ycs (yco M t 0 0)))) (FP.i2f (nI (yco M t 0 0).length)))))) w := by
  have q1 := zCls_0 hc
  obtain ⟨a, h1, e0, e1, r3, r12, e2, ⟨s1, ma, A, B, C, P, s2⟩, f, tk⟩ := d_trq (sv := sv) (d := d) hc hi hR h1M hM
  have q2 := zCls_0 s1
  have r12' : ∀ X : zR, zrc (h1.1 (m + 97)) 12 X = X := fun X => zCdC_rc s2
  have e3 : zcall zP sv (d + 47) 105 [.ref (m + 97)] h1 = _ := d_105 (d := d + 45) s2
  have e4 : zcall zP sv (d + 47) 102 [.ref (m + 97)] h1 = _ := d_102 (d := d + 46) s2
  have hz := tk.2.1
  have hlen := yco_len (M := M) (ysz t) t (Nat.le_refl _) tk.1 0 0
  have hp := yco_pos (M := M) (b := 0) (j := 0) tk.1
  have hfd := yfdiv (yco M t 0 0).length (by omega) _ (ycs_le (q := yco M t 0 0)) hp
  have hz0 : (nI (yco M t 0 0).length = 0) = False := eq_false (nI_ne0 (by omega) (by omega))
  refine zEnd_c ?_ s1 f
  simp (disch := exact znw_u) only [zc_63, zs_63_0, zs_63_1, zs_63_4, zs_63_5, zs_63_6, zs_63_9, zs_63_10, zs_63_13, zs_63_16, zs_63_19, zs_63_20, zs_63_23, zs_63_26, zs_63_29, zs_63_30, zs_63_31, zs_63_32, zs_63_35, zs_63_38, zs_63_39, zs_63_40, zs_63_43, zs_63_46, zs_63_47, zs_63_48, q1, q2, zECc, zrc_1, zf_1_0, zp_1_0, zp_1_0n, zf_1_1, zp_1_1, zf_1_2, zp_1_2, zp_1_2n, zf_1_3, zp_1_3, zp_1_3n, zf_1_4, zp_1_40, zp_1_41, zf_1_5, zp_1_5, zp_1_5n, zf_1_6, zp_1_6, zp_1_6n, zf_1_7, zp_1_7, zp_1_7n, zf_1_8, zp_1_8, zp_1_8n, zf_1_9, zp_1_9, zp_1_9n, zf_1_10, zp_1_10, zp_1_10n, zf_1_11, zp_1_11, zp_1_11n, zf_1_12, zp_1_12, zp_1_12n, zEC1 hc, e0, r3, e1, r12, r12', e2, e3, e4, hz0, hfd, zgd_t, zbk_v, zts_s, zts_n, ↓reduceIte, List.cons_append, List.nil_append]
/-- whether an index is one of the code's instructions -/
theorem d_71k {n : Nat} {q : List yI} (hc : zClC h m w q) (hn : n < q.length) : zcall zP sv (d + 2) 71 [.ref m, .int (nI n)] h = some (.inl none, h) := by
  obtain ⟨s1, ma, A, B, C, P, s2⟩ := hc
  have q2 := zCls_0 s1
  have hl := zCdC_len s2
  have r12' : ∀ X : zR, zrc (h.1 (m + 97)) 12 X = X := fun X => zCdC_rc s2
  have e4 : zcall zP sv (d + 1) 102 [.ref (m + 97)] h = _ := d_102 (d := d) s2
  have c0 : ¬ nI n < 0 := nI_pos (by omega)
  have c1 : nI n < nI q.length := nI_lt hn (by omega)
  simp (disch := exact znw_u) only [zc_71, zs_71_0, zs_71_1, zs_71_4, zs_71_5, zs_71_6, zs_71_9, zs_71_12, zs_71_15, zs_71_26, q2, zECc, zrc_1, zf_1_0, zp_1_0, zp_1_0n, zf_1_1, zp_1_1, zf_1_2, zp_1_2, zp_1_2n, zf_1_3, zp_1_3, zp_1_3n, zf_1_4, zp_1_40, zp_1_41, zf_1_5, zp_1_5, zp_1_5n, zf_1_6, zp_1_6, zp_1_6n, zf_1_7, zp_1_7, zp_1_7n, zf_1_8, zp_1_8, zp_1_8n, zf_1_9, zp_1_9, zp_1_9n, zf_1_10, zp_1_10, zp_1_10n, zf_1_11, zp_1_11, zp_1_11n, zf_1_12, zp_1_12, zp_1_12n, r12', e4, if_neg c0, if_pos c1, zbk_v, zts_s, List.cons_append, List.nil_append]
theorem d_71n {x : Int32} {q : List yI} (hc : zClC h m w q) (hx : x < 0 ∨ ¬ x < nI q.length) : zcall zP sv (d + 2) 71 [.ref m, .int x] h = some (.inr 2, zext h [(0, [])] 6) := by
  obtain ⟨s1, ma, A, B, C, P, s2⟩ := hc
  have q2 := zCls_0 s1
  have r12' : ∀ X : zR, zrc (h.1 (m + 97)) 12 X = X := fun X => zCdC_rc s2
  have e4 : zcall zP sv (d + 1) 102 [.ref (m + 97)] h = _ := d_102 (d := d) s2
  by_cases c0 : x < 0
  · simp (disch := exact znw_u) only [zc_71, zs_71_0, zs_71_1, zs_71_4, zs_71_5, zs_71_6, zs_71_9, zs_71_12, zs_71_15, zs_71_26, if_pos c0, zext_of]
  · have c1 := hx.resolve_left c0
    simp (disch := exact znw_u) only [zc_71, zs_71_0, zs_71_1, zs_71_4, zs_71_5, zs_71_6, zs_71_9, zs_71_12, zs_71_15, zs_71_26, q2, zECc, zrc_1, zf_1_0, zp_1_0, zp_1_0n, zf_1_1, zp_1_1, zf_1_2, zp_1_2, zp_1_2n, zf_1_3, zp_1_3, zp_1_3n, zf_1_4, zp_1_40, zp_1_41, zf_1_5, zp_1_5, zp_1_5n, zf_1_6, zp_1_6, zp_1_6n, zf_1_7, zp_1_7, zp_1_7n, zf_1_8, zp_1_8, zp_1_8n, zf_1_9, zp_1_9, zp_1_9n, zf_1_10, zp_1_10, zp_1_10n, zf_1_11, zp_1_11, zp_1_11n, zf_1_12, zp_1_12, zp_1_12n, r12', e4, if_neg c0, if_neg c1, zbk_v, zts_s, zext_of, List.cons_append, List.nil_append]
theorem zEnd_ct {h1 : zH} {r : zR} (hr : r = some (.inr 2, zext h1 [(0, [])] 6)) (hc : zCls h1 m w) (hf : zfr (m + 97) (m + 119) h h1) : zEnd h m r 1 6 (.inr 2) w := by
  obtain ⟨t1, t2⟩ := zthrow hc
  exact ⟨_, hr, t1, zfx_fr_l hf t2 (by omega) (by omega)⟩
theorem d_55o {x : Int32} (hc : zCls h m w) (hi : (ycur w).1[i]? = some t) (hR : (ycur w).2.2.1 = nI M) (h1M : 1 ≤ M) (hM : M ≤ 4) (hx : x < 0 ∨ ¬ x < nI (yco M t 0 0).length) : zEnd h m (zcall zP sv (d + 48) 55 [.ref m, .int (nI i), .int x] h) 1 6 (.inr 2) w := by
  have q1 := zCls_0 hc
  obtain ⟨a, h1, e0, e1, r3, r12, e2, s, f, tk⟩ := d_trq (sv := sv) (d := d) hc hi hR h1M hM
  have e3 : zcall zP sv (d + 47) 71 [.ref m, .int x] h1 = _ := d_71n (d := d + 45) s hx
  have r1 := zEC1 s.1
  refine zEnd_ct ?_ s.1 f
  simp (disch := exact znw_u) only [zc_55, zs_55_0, zs_55_1, zs_55_4, zs_55_5, zs_55_6, zs_55_9, zs_55_10, zs_55_13, zs_55_16, zs_55_19, zs_55_20, zs_55_21, zs_55_24, zs_55_25, zs_55_28, zs_55_29, zs_55_32, q1, zECc, zrc_1, zf_1_0, zp_1_0, zp_1_0n, zf_1_1, zp_1_1, zf_1_2, zp_1_2, zp_1_2n, zf_1_3, zp_1_3, zp_1_3n, zf_1_4, zp_1_40, zp_1_41, zf_1_5, zp_1_5, zp_1_5n, zf_1_6, zp_1_6, zp_1_6n, zf_1_7, zp_1_7, zp_1_7n, zf_1_8, zp_1_8, zp_1_8n, zf_1_9, zp_1_9, zp_1_9n, zf_1_10, zp_1_10, zp_1_10n, zf_1_11, zp_1_11, zp_1_11n, zf_1_12, zp_1_12, zp_1_12n, zEC1 hc, r1, e0, r3, e1, r12, e2, e3, zbk_v, zbk_x, zts_s, zts_n, List.cons_append, List.nil_append]
theorem d_56o {x : Int32} (hc : zCls h m w) (hi : (ycur w).1[i]? = some t) (hR : (ycur w).2.2.1 = nI M) (h1M : 1 ≤ M) (hM : M ≤ 4) (hx : x < 0 ∨ ¬ x < nI (yco M t 0 0).length) : zEnd h m (zcall zP sv (d + 48) 56 [.ref m, .int (nI i), .int x] h) 1 6 (.inr 2) w := by
  have q1 := zCls_0 hc
  obtain ⟨a, h1, e0, e1, r3, r12, e2, s, f, tk⟩ := d_trq (sv := sv) (d := d) hc hi hR h1M hM
  have e3 : zcall zP sv (d + 47) 71 [.ref m, .int x] h1 = _ := d_71n (d := d + 45) s hx
  have r1 := zEC1 s.1
  refine zEnd_ct ?_ s.1 f
  simp (disch := exact znw_u) only [zc_56, zs_56_0, zs_56_1, zs_56_4, zs_56_5, zs_56_6, zs_56_9, zs_56_10, zs_56_13, zs_56_16, zs_56_19, zs_56_20, zs_56_21, zs_56_24, zs_56_25, zs_56_28, zs_56_29, zs_56_32, q1, zECc, zrc_1, zf_1_0, zp_1_0, zp_1_0n, zf_1_1, zp_1_1, zf_1_2, zp_1_2, zp_1_2n, zf_1_3, zp_1_3, zp_1_3n, zf_1_4, zp_1_40, zp_1_41, zf_1_5, zp_1_5, zp_1_5n, zf_1_6, zp_1_6, zp_1_6n, zf_1_7, zp_1_7, zp_1_7n, zf_1_8, zp_1_8, zp_1_8n, zf_1_9, zp_1_9, zp_1_9n, zf_1_10, zp_1_10, zp_1_10n, zf_1_11, zp_1_11, zp_1_11n, zf_1_12, zp_1_12, zp_1_12n, zEC1 hc, r1, e0, r3, e1, r12, e2, e3, zbk_v, zbk_x, zts_s, zts_n, List.cons_append, List.nil_append]
theorem d_57o {x : Int32} (hc : zCls h m w) (hi : (ycur w).1[i]? = some t) (hR : (ycur w).2.2.1 = nI M) (h1M : 1 ≤ M) (hM : M ≤ 4) (hx : x < 0 ∨ ¬ x < nI (yco M t 0 0).length) : zEnd h m (zcall zP sv (d + 48) 57 [.ref m, .int (nI i), .int x] h) 1 6 (.inr 2) w := by
  have q1 := zCls_0 hc
  obtain ⟨a, h1, e0, e1, r3, r12, e2, s, f, tk⟩ := d_trq (sv := sv) (d := d) hc hi hR h1M hM
  have e3 : zcall zP sv (d + 47) 71 [.ref m, .int x] h1 = _ := d_71n (d := d + 45) s hx
  have r1 := zEC1 s.1
  refine zEnd_ct ?_ s.1 f
  simp (disch := exact znw_u) only [zc_57, zs_57_0, zs_57_1, zs_57_4, zs_57_5, zs_57_6, zs_57_9, zs_57_10, zs_57_13, zs_57_16, zs_57_19, zs_57_20, zs_57_21, zs_57_24, zs_57_25, zs_57_28, zs_57_29, zs_57_32, zs_57_33, zs_57_36, zs_57_37, zs_57_38, zs_57_41, zs_57_44, zs_57_45, zs_57_48, zs_57_51, q1, zECc, zrc_1, zf_1_0, zp_1_0, zp_1_0n, zf_1_1, zp_1_1, zf_1_2, zp_1_2, zp_1_2n, zf_1_3, zp_1_3, zp_1_3n, zf_1_4, zp_1_40, zp_1_41, zf_1_5, zp_1_5, zp_1_5n, zf_1_6, zp_1_6, zp_1_6n, zf_1_7, zp_1_7, zp_1_7n, zf_1_8, zp_1_8, zp_1_8n, zf_1_9, zp_1_9, zp_1_9n, zf_1_10, zp_1_10, zp_1_10n, zf_1_11, zp_1_11, zp_1_11n, zf_1_12, zp_1_12, zp_1_12n, zEC1 hc, r1, e0, r3, e1, r12, e2, e3, zbk_v, zbk_x, zts_s, zts_n, List.cons_append, List.nil_append]
theorem yIok_c2 {x : yI} (hx : yIok x) : (x.1.toUInt32 % 65536).toInt32 = x.1 := by
  have e : ((nI 99).toUInt32 % 65536).toInt32 = nI 99 ∧ ((nI 118).toUInt32 % 65536).toInt32 = nI 118 ∧ ((nI 110).toUInt32 % 65536).toInt32 = nI 110 ∧ ((nI 115).toUInt32 % 65536).toInt32 = nI 115 ∧ ((nI 43).toUInt32 % 65536).toInt32 = nI 43 ∧ ((nI 45).toUInt32 % 65536).toInt32 = nI 45 ∧ ((nI 42).toUInt32 % 65536).toInt32 = nI 42 := by decide +kernel
  obtain ⟨e1, e2, e3, e4, e5, e6, e7⟩ := e
  rcases hx.2 with g | g | g | g | g
  · rw [g]; exact e1
  · rw [g.1]; exact e2
  · rw [g.1]; exact e3
  · rw [g.1]; exact e4
  · rcases yis_k g.1 with z | z | z <;> rw [z]
    · exact e5
    · exact e6
    · exact e7
theorem d_55 {n : Nat} {x : yI} (hc : zCls h m w) (hi : (ycur w).1[i]? = some t) (hR : (ycur w).2.2.1 = nI M) (h1M : 1 ≤ M) (hM : M ≤ 4) (hx : (yco M t 0 0)[n]? = some x) : zEnd h m (zcall zP sv (d + 48) 55 [.ref m, .int (nI i), .int (nI n)] h) 0 0 (.inl (some (.int x.1))) w := by
  have q1 := zCls_0 hc
  obtain ⟨a, h1, e0, e1, r3, r12, e2, s, f, tk⟩ := d_trq (sv := sv) (d := d) hc hi hR h1M hM
  have e3 : zcall zP sv (d + 47) 71 [.ref m, .int (nI n)] h1 = _ := d_71k (d := d + 45) s (List.getElem?_eq_some_iff.mp hx).1
  have r1 := zEC1 s.1
  obtain ⟨s1, ma, A, B, C, P, s2⟩ := s
  have ok := yco_o8 hM h1M tk x (List.mem_of_getElem? hx)
  have q2 := zCls_0 s1
  have r12' : ∀ X : zR, zrc (h1.1 (m + 97)) 12 X = X := fun X => zCdC_rc s2
  have e4 : zcall zP sv (d + 47) 103 [.ref (m + 97), .int (nI n)] h1 = _ := d_103 (d := d + 45) s2 hx (yIok_c ok) (yIok_c2 ok)
  refine zEnd_c ?_ s1 f
  simp (disch := exact znw_u) only [zc_55, zs_55_0, zs_55_1, zs_55_4, zs_55_5, zs_55_6, zs_55_9, zs_55_10, zs_55_13, zs_55_16, zs_55_19, zs_55_20, zs_55_21, zs_55_24, zs_55_25, zs_55_28, zs_55_29, zs_55_32, q1, q2, zECc, zrc_1, zf_1_0, zp_1_0, zp_1_0n, zf_1_1, zp_1_1, zf_1_2, zp_1_2, zp_1_2n, zf_1_3, zp_1_3, zp_1_3n, zf_1_4, zp_1_40, zp_1_41, zf_1_5, zp_1_5, zp_1_5n, zf_1_6, zp_1_6, zp_1_6n, zf_1_7, zp_1_7, zp_1_7n, zf_1_8, zp_1_8, zp_1_8n, zf_1_9, zp_1_9, zp_1_9n, zf_1_10, zp_1_10, zp_1_10n, zf_1_11, zp_1_11, zp_1_11n, zf_1_12, zp_1_12, zp_1_12n, zEC1 hc, r1, e0, r3, e1, r12, r12', e2, e3, e4, zbk_v, zbk_x, zts_s, zts_n, yIok_c ok, zgd_t, List.cons_append, List.nil_append]
theorem d_56 {n : Nat} {x : yI} (hc : zCls h m w) (hi : (ycur w).1[i]? = some t) (hR : (ycur w).2.2.1 = nI M) (h1M : 1 ≤ M) (hM : M ≤ 4) (hx : (yco M t 0 0)[n]? = some x) : zEnd h m (zcall zP sv (d + 48) 56 [.ref m, .int (nI i), .int (nI n)] h) 0 0 (.inl (some (.int x.2.1))) w := by
  have q1 := zCls_0 hc
  obtain ⟨a, h1, e0, e1, r3, r12, e2, s, f, tk⟩ := d_trq (sv := sv) (d := d) hc hi hR h1M hM
  have e3 : zcall zP sv (d + 47) 71 [.ref m, .int (nI n)] h1 = _ := d_71k (d := d + 45) s (List.getElem?_eq_some_iff.mp hx).1
  have r1 := zEC1 s.1
  obtain ⟨s1, ma, A, B, C, P, s2⟩ := s
  have q2 := zCls_0 s1
  have r12' : ∀ X : zR, zrc (h1.1 (m + 97)) 12 X = X := fun X => zCdC_rc s2
  have e4 : zcall zP sv (d + 47) 104 [.ref (m + 97), .int (nI n)] h1 = _ := d_104 (d := d + 45) s2 hx
  refine zEnd_c ?_ s1 f
  simp (disch := exact znw_u) only [zc_56, zs_56_0, zs_56_1, zs_56_4, zs_56_5, zs_56_6, zs_56_9, zs_56_10, zs_56_13, zs_56_16, zs_56_19, zs_56_20, zs_56_21, zs_56_24, zs_56_25, zs_56_28, zs_56_29, zs_56_32, q1, q2, zECc, zrc_1, zf_1_0, zp_1_0, zp_1_0n, zf_1_1, zp_1_1, zf_1_2, zp_1_2, zp_1_2n, zf_1_3, zp_1_3, zp_1_3n, zf_1_4, zp_1_40, zp_1_41, zf_1_5, zp_1_5, zp_1_5n, zf_1_6, zp_1_6, zp_1_6n, zf_1_7, zp_1_7, zp_1_7n, zf_1_8, zp_1_8, zp_1_8n, zf_1_9, zp_1_9, zp_1_9n, zf_1_10, zp_1_10, zp_1_10n, zf_1_11, zp_1_11, zp_1_11n, zf_1_12, zp_1_12, zp_1_12n, zEC1 hc, r1, e0, r3, e1, r12, r12', e2, e3, e4, zbk_v, zbk_x, zts_s, zts_n, List.cons_append, List.nil_append]
theorem zEnd_tr0 {h1 : zH} {r : zR} {N K : Nat} {o : zO} (hf : zfr (m + 97) (m + 119) h h1) (he : zEnd h1 m r N K o w) : zEnd h m r N K o w := by
  obtain ⟨h', e, c, f⟩ := he
  exact ⟨h', e, c, zfx_fr_l hf f (by omega) (by omega)⟩
theorem d_54l {a : Nat} (tk : ytok t) (ham : m + 139 ≤ a) : ∀ n k (h : zH), 1 ≤ k → k + n = 5 → zCls h m w → zTre h a (ysz t) (ypo 0 t) → (∀ c, ylr t k n = some c → zEnd h m (zrun zP sv (zcall zP sv (d + 47)) 54 8 [.val (.ref m), .val (.int (nI i)), .val (.ref a), .val (.int (nI k))] [] h) 0 0 (.inl (some (.int (nI c)))) w) ∧ (ylr t k n = none → zEnd h m (zrun zP sv (zcall zP sv (d + 47)) 54 8 [.val (.ref m), .val (.int (nI i)), .val (.ref a), .val (.int (nI k))] [] h) 1 6 (.inr 4) w) := by
  intro n
  induction n with
  | zero =>
    intro k h h1 hk hc ht
    obtain rfl : k = 5 := by omega
    refine ⟨fun c hy => (by rw [show ylr t 5 0 = none from rfl] at hy; cases hy), fun _ => ?_⟩
    obtain ⟨t1, t2⟩ := zthrow hc
    have c1 : nI 4 < nI 5 := by decide +kernel
    refine ⟨_, ?_, t1, t2⟩
    simp (disch := exact znw_u) only [zs_54_0, zs_54_1, zs_54_2, zs_54_5, zs_54_6, zs_54_7, zs_54_8, zs_54_9, zs_54_10, zs_54_13, zs_54_14, zs_54_17, zs_54_18, zs_54_19, zs_54_22, zs_54_23, zs_54_26, zs_54_29, zs_54_32, zs_54_33, zs_54_40, if_pos c1, zext_of]
  | succ n ih =>
    intro k h h1 hk hc ht
    obtain ⟨h2, e2, ⟨s1, ma, A, B, C, P, s2⟩, f⟩ := d_tr (sv := sv) (d := d + 27) hc ham ht tk h1 (show k ≤ 4 by omega)
    have q1 := zCls_0 hc
    have q2 := zCls_0 s1
    have c1 : ¬ nI 4 < nI k := nI_nlt (by omega) (by omega)
    have e3 : zcall zP sv (d + 47) 105 [.ref (m + 97)] h2 = _ := d_105 (d := d + 45) s2
    have r12' : ∀ X : zR, zrc (h2.1 (m + 97)) 12 X = X := fun X => zCdC_rc s2
    obtain ⟨⟨le, ma0, c0⟩, _⟩ := hc.2.2.2.2.2.2.1.2.2.2.2.2
    have r12 : ∀ X : zR, zrc (h.1 (m + 97)) 12 X = X := fun X => by rw [c0]; exact zrc_k
    by_cases c : ycs (yco k t 0 0) = 0
    · have q : ylr t k (n + 1) = some k := by unfold ylr; rw [if_pos c]
      rw [q]
      rw [c, nI_0] at e3
      refine ⟨fun c hy => ?_, fun hy => (by cases hy)⟩
      cases hy
      refine zEnd_c ?_ s1 f
      simp (disch := exact znw_u) only [zs_54_0, zs_54_1, zs_54_2, zs_54_5, zs_54_6, zs_54_7, zs_54_8, zs_54_9, zs_54_10, zs_54_13, zs_54_14, zs_54_17, zs_54_18, zs_54_19, zs_54_22, zs_54_23, zs_54_26, zs_54_29, zs_54_32, zs_54_33, zs_54_40, if_neg c1, q1, q2, zECc, zrc_1, zf_1_0, zp_1_0, zp_1_0n, zf_1_1, zp_1_1, zf_1_2, zp_1_2, zp_1_2n, zf_1_3, zp_1_3, zp_1_3n, zf_1_4, zp_1_40, zp_1_41, zf_1_5, zp_1_5, zp_1_5n, zf_1_6, zp_1_6, zp_1_6n, zf_1_7, zp_1_7, zp_1_7n, zf_1_8, zp_1_8, zp_1_8n, zf_1_9, zp_1_9, zp_1_9n, zf_1_10, zp_1_10, zp_1_10n, zf_1_11, zp_1_11, zp_1_11n, zf_1_12, zp_1_12, zp_1_12n, r12, r12', e2, e3, zbk_v, zts_s, zts_n, ↓reduceIte, List.cons_append, List.nil_append]
    · have q : ylr t k (n + 1) = ylr t (k + 1) n := by conv => lhs; unfold ylr; rw [if_neg c]
      have hz : (nI (ycs (yco k t 0 0)) = 0) = False := by
        have h3 := ycs_le (q := yco k t 0 0)
        have h4 : (yco k t 0 0).length + 1 ≤ 2 * ysz t := yco_len (ysz t) t (Nat.le_refl _) tk.1 0 0
        have h5 := tk.2.1
        exact eq_false (nI_ne0 (by omega) (by omega))
      obtain ⟨i1, i2⟩ := ih (k + 1) h2 (by omega) (by omega) s1 (zTre_fr ht f (by omega))
      have eb : zrun zP sv (zcall zP sv (d + 47)) 54 34 [.val (.ref m), .val (.int (nI i)), .val (.ref a), .val (.int (nI k))] [] h2 = zrun zP sv (zcall zP sv (d + 47)) 54 8 [.val (.ref m), .val (.int (nI i)), .val (.ref a), .val (.int (nI (k + 1)))] [] h2 := by rw [zs_54_34, zs_54_37, nI_1']
      have e : zrun zP sv (zcall zP sv (d + 47)) 54 8 [.val (.ref m), .val (.int (nI i)), .val (.ref a), .val (.int (nI k))] [] h = zrun zP sv (zcall zP sv (d + 47)) 54 8 [.val (.ref m), .val (.int (nI i)), .val (.ref a), .val (.int (nI (k + 1)))] [] h2 := by
        rw [← eb]
        simp (disch := exact znw_u) only [zs_54_0, zs_54_1, zs_54_2, zs_54_5, zs_54_6, zs_54_7, zs_54_8, zs_54_9, zs_54_10, zs_54_13, zs_54_14, zs_54_17, zs_54_18, zs_54_19, zs_54_22, zs_54_23, zs_54_26, zs_54_29, zs_54_32, zs_54_33, zs_54_40, if_neg c1, q1, q2, zECc, zrc_1, zf_1_0, zp_1_0, zp_1_0n, zf_1_1, zp_1_1, zf_1_2, zp_1_2, zp_1_2n, zf_1_3, zp_1_3, zp_1_3n, zf_1_4, zp_1_40, zp_1_41, zf_1_5, zp_1_5, zp_1_5n, zf_1_6, zp_1_6, zp_1_6n, zf_1_7, zp_1_7, zp_1_7n, zf_1_8, zp_1_8, zp_1_8n, zf_1_9, zp_1_9, zp_1_9n, zf_1_10, zp_1_10, zp_1_10n, zf_1_11, zp_1_11, zp_1_11n, zf_1_12, zp_1_12, zp_1_12n, r12, r12', e2, e3, hz, zbk_v, zts_s, zts_n, ↓reduceIte, List.cons_append, List.nil_append]
      rw [q, e]
      exact ⟨fun c hy => zEnd_tr0 f (i1 c hy), fun hy => zEnd_tr0 f (i2 hy)⟩
theorem d_54k {k : Nat} (hc : zCls h m w) (hi : (ycur w).1[i]? = some t) (hk : ylr t 1 4 = some k) : zEnd h m (zcall zP sv (d + 48) 54 [.ref m, .int (nI i)] h) 0 0 (.inl (some (.int (nI k)))) w := by
  obtain ⟨a, e0, a1, a2, a3, a4⟩ := d_70k (sv := sv) (d := d + 45) hc hi
  obtain ⟨h', e, c, f⟩ := (d_54l (sv := sv) (d := d) (i := i) a4 a1 4 1 h (Nat.le_refl 1) rfl hc a3).1 k hk
  refine ⟨h', ?_, c, f⟩
  rw [← e]
  simp (disch := first | exact znw_u | exact znw_i) only [zc_54, zs_54_0, zs_54_1, zs_54_2, zs_54_5, zs_54_6, zs_54_7, zEC1 hc, e0, zbk_v, zts_s, List.cons_append, List.nil_append]
theorem d_54m (hc : zCls h m w) (hi : (ycur w).1[i]? = some t) (hk : ylr t 1 4 = none) : zEnd h m (zcall zP sv (d + 48) 54 [.ref m, .int (nI i)] h) 1 6 (.inr 4) w := by
  obtain ⟨a, e0, a1, a2, a3, a4⟩ := d_70k (sv := sv) (d := d + 45) hc hi
  obtain ⟨h', e, c, f⟩ := (d_54l (sv := sv) (d := d) (i := i) a4 a1 4 1 h (Nat.le_refl 1) rfl hc a3).2 hk
  refine ⟨h', ?_, c, f⟩
  rw [← e]
  simp (disch := first | exact znw_u | exact znw_i) only [zc_54, zs_54_0, zs_54_1, zs_54_2, zs_54_5, zs_54_6, zs_54_7, zEC1 hc, e0, zbk_v, zts_s, List.cons_append, List.nil_append]
end ZRE

section ZRF
variable {sv : Nat → Value} {d : Nat} {h : zH} {m : Nat} {w : yW} {i M : Nat} {t : yT}
/-- occurrences and variables among a formula's nodes -/
def yoc (c : Int32) (ns : List yN) : Nat := ns.countP (fun nd => decide (nd.1 = nI 118 ∧ nd.2.1 = c))
theorem d_38r {a : Nat} {c : Int32} {ns : List yN} {mt : Nat} {l0 l1 : Slot} (ht : zTre h a mt ns) (hl : ns.length < 2 ^ 30) : ∀ n k, k + n = ns.length → zrun zP sv (zcall zP sv (d + 3)) 38 16 [l0, l1, .val (.int c), .val (.ref a), .val (.int (nI (yoc c (ns.take k)))), .val (.int (nI k))] [] h = some (.inl (some (.int (nI (yoc c ns)))), h) := by
  have e1 : zcall zP sv (d + 3) 182 [.ref a] h = _ := d_182 (d := d + 2) ht
  have r : ∀ X : zR, zrc (h.1 a) 6 X = X := fun X => zTre_rc ht
  intro n
  induction n with
  | zero =>
    intro k hk
    obtain rfl : k = ns.length := by omega
    rw [List.take_length]
    simp only [zs_38_16, zs_38_18, zs_38_19, zs_38_22, zs_38_44, zs_38_46, r, e1, zbk_v, zts_s, Int32.lt_irrefl, ↓reduceIte, List.cons_append, List.nil_append]
  | succ n ih =>
    intro k hk
    have c1 : nI k < nI ns.length := nI_lt (by omega) (by omega)
    obtain ⟨nd, hnd⟩ := ynd_ex (ns := ns) (i := k) (by omega)
    have e2 : zcall zP sv (d + 3) 188 [.ref a, .int (nI k), .int c] h = _ := d_188 (d := d) ht hnd
    have i2 := ih (k + 1) (by omega)
    have hta : ns.take (k + 1) = ns.take k ++ [nd] := by rw [List.take_add_one, hnd]; rfl
    have hcc : yoc c (ns.take (k + 1)) = yoc c (ns.take k) + (if nd.1 = nI 118 ∧ nd.2.1 = c then 1 else 0) := by
      rw [hta]
      unfold yoc
      rw [List.countP_append, List.countP_singleton]
      by_cases g : nd.1 = nI 118 ∧ nd.2.1 = c
      · rw [decide_eq_true g, if_pos g]; rfl
      · rw [decide_eq_false g, if_neg g]; rfl
    have eb : ∀ z, zrun zP sv (zcall zP sv (d + 3)) 38 38 [l0, l1, .val (.int c), .val (.ref a), .val (.int z), .val (.int (nI k))] [] h = zrun zP sv (zcall zP sv (d + 3)) 38 16 [l0, l1, .val (.int c), .val (.ref a), .val (.int z), .val (.int (nI (k + 1)))] [] h := fun z => by rw [zs_38_38, zs_38_41, nI_1']
    rw [← i2, ← eb, hcc]
    by_cases g : nd.1 = nI 118 ∧ nd.2.1 = c
    · rw [if_pos g] at e2 ⊢
      simp (disch := exact znw_u) only [zs_38_16, zs_38_18, zs_38_19, zs_38_22, zs_38_25, zs_38_26, zs_38_28, zs_38_29, zs_38_32, zs_38_35, r, e1, e2, if_pos c1, nI_1e0, nI_1', zbk_v, zts_s, ↓reduceIte, List.cons_append, List.nil_append]
    · rw [if_neg g] at e2 ⊢
      simp (disch := exact znw_u) only [zs_38_16, zs_38_18, zs_38_19, zs_38_22, zs_38_25, zs_38_26, zs_38_28, zs_38_29, zs_38_32, r, e1, e2, if_pos c1, nI_1e0, Nat.add_zero, zbk_v, zts_s, ↓reduceIte, List.cons_append, List.nil_append]
theorem d_38 {c : Int32} (hc : zCls h m w) (hi : (ycur w).1[i]? = some t) (hl : ylet c = true) : zEnd h m (zcall zP sv (d + 48) 38 [.ref m, .int (nI i), .int c] h) 0 0 (.inl (some (.int (nI (yoc c (ypo 0 t)))))) w := by
  obtain ⟨a, e0, a1, a2, a3, a4⟩ := d_70k (sv := sv) (d := d + 45) hc hi
  have hsz := a4.2.1
  have e1 := d_38r (sv := sv) (d := d + 44) (c := c) (l0 := .val (.ref m)) (l1 := .val (.int (nI i))) a3 (by rw [ypo_len]; omega) (ypo 0 t).length 0 (Nat.zero_add _)
  rw [show yoc c ((ypo 0 t).take 0) = 0 from rfl, nI_0] at e1
  have e2 : zcall zP sv (d + 47) 72 [.int c] h = _ := d_72 (d := d + 46) hl
  refine zEnd_s hc ?_
  rw [← e1]
  simp (disch := first | exact znw_u | exact znw_i) only [zc_38, zs_38_0, zs_38_1, zs_38_2, zs_38_5, zs_38_6, zs_38_7, zs_38_10, zs_38_11, zs_38_13, zs_38_14, zEC1 hc, e0, e2, zbk_v, zts_s, zts_n, List.cons_append, List.nil_append]
def yvr (ns : List yN) : Bool := ns.any (fun nd => decide (nd.1 = nI 118))
theorem d_40r {a : Nat} {ns : List yN} {mt : Nat} {l0 l1 : Slot} (ht : zTre h a mt ns) (hl : ns.length < 2 ^ 30) : ∀ n k, k + n = ns.length → zrun zP sv (zcall zP sv (d + 3)) 40 8 [l0, l1, .val (.ref a), .val (.int (nI k))] [] h = some (.inl (some (.int (yb (!yvr (ns.drop k))))), h) := by
  have e1 : zcall zP sv (d + 3) 182 [.ref a] h = _ := d_182 (d := d + 2) ht
  have r : ∀ X : zR, zrc (h.1 a) 6 X = X := fun X => zTre_rc ht
  intro n
  induction n with
  | zero =>
    intro k hk
    obtain rfl : k = ns.length := by omega
    rw [List.drop_length, show (!yvr []) = true from rfl, yb_t]
    simp only [zs_40_0, zs_40_1, zs_40_2, zs_40_5, zs_40_6, zs_40_7, zs_40_8, zs_40_9, zs_40_10, zs_40_13, zs_40_16, zs_40_17, zs_40_18, zs_40_21, zs_40_23, zs_40_26, zs_40_27, zs_40_34, zs_40_35, r, e1, zbk_v, zts_s, Int32.lt_irrefl, zgd_t, zty_51, ↓reduceIte, List.cons_append, List.nil_append]
  | succ n ih =>
    intro k hk
    have c1 : nI k < nI ns.length := nI_lt (by omega) (by omega)
    obtain ⟨nd, hnd⟩ := ynd_ex (ns := ns) (i := k) (by omega)
    have e2 : zcall zP sv (d + 3) 184 [.ref a, .int (nI k)] h = _ := d_184 (d := d + 1) ht hnd
    have hdr : ns.drop k = nd :: ns.drop (k + 1) := by
      rw [List.drop_eq_getElem_cons (by omega)]
      rw [List.getElem?_eq_getElem (by omega)] at hnd
      rw [Option.some.inj hnd]
    have hv : yvr (ns.drop k) = (decide (nd.1 = nI 118) || yvr (ns.drop (k + 1))) := by rw [hdr]; rfl
    by_cases g : nd.1 = nI 118
    · rw [hv, decide_eq_true g, Bool.true_or, Bool.not_true, yb_f]
      simp only [zs_40_0, zs_40_1, zs_40_2, zs_40_5, zs_40_6, zs_40_7, zs_40_8, zs_40_9, zs_40_10, zs_40_13, zs_40_16, zs_40_17, zs_40_18, zs_40_21, zs_40_23, zs_40_26, zs_40_27, zs_40_34, zs_40_35, r, e1, e2, if_pos c1, if_pos g, zbk_v, zts_s, zgd_t, zty_50, ↓reduceIte, List.cons_append, List.nil_append]
    · rw [hv, decide_eq_false g, Bool.false_or, ← ih (k + 1) (by omega)]
      have eb : zrun zP sv (zcall zP sv (d + 3)) 40 28 [l0, l1, .val (.ref a), .val (.int (nI k))] [] h = zrun zP sv (zcall zP sv (d + 3)) 40 8 [l0, l1, .val (.ref a), .val (.int (nI (k + 1)))] [] h := by rw [zs_40_28, zs_40_31, nI_1']
      rw [← eb]
      simp only [zs_40_0, zs_40_1, zs_40_2, zs_40_5, zs_40_6, zs_40_7, zs_40_8, zs_40_9, zs_40_10, zs_40_13, zs_40_16, zs_40_17, zs_40_18, zs_40_21, zs_40_23, zs_40_26, zs_40_27, zs_40_34, zs_40_35, r, e1, e2, if_pos c1, if_neg g, zbk_v, zts_s, ↓reduceIte, List.cons_append, List.nil_append]
theorem d_40 (hc : zCls h m w) (hi : (ycur w).1[i]? = some t) : zEnd h m (zcall zP sv (d + 48) 40 [.ref m, .int (nI i)] h) 0 0 (.inl (some (.int (yb (!yvr (ypo 0 t)))))) w := by
  obtain ⟨a, e0, a1, a2, a3, a4⟩ := d_70k (sv := sv) (d := d + 45) hc hi
  have hsz := a4.2.1
  have e1 := d_40r (sv := sv) (d := d + 44) (l0 := .val (.ref m)) (l1 := .val (.int (nI i))) a3 (by rw [ypo_len]; omega) (ypo 0 t).length 0 (Nat.zero_add _)
  rw [List.drop_zero, nI_0] at e1
  refine zEnd_s hc ?_
  rw [← e1]
  simp (disch := first | exact znw_u | exact znw_i) only [zc_40, zs_40_0, zs_40_1, zs_40_2, zs_40_5, zs_40_6, zs_40_7, zEC1 hc, e0, zbk_v, zts_s, zts_n, List.cons_append, List.nil_append]
theorem zcur_n (hc : zCls h m w) : ∀ D, zcall zP sv (D + 1) 169 [.ref (m + 3)] h = some (.inl (some (.int (nI (ycur w).1.length))), h) := fun D => by
  obtain ⟨S, s1, s2⟩ := zcur_ex hc
  have e := d_169 (sv := sv) (d := D) s1
  rw [s2.2.1.1] at e
  exact e
theorem zcur_r (hc : zCls h m w) : ∀ X : zR, zrc (h.1 (m + 3)) 3 X = X := fun X => by
  obtain ⟨S, s1, s2⟩ := zcur_ex hc
  rw [s1.1]
  exact zrc_k
theorem zcur_ok (hc : zCls h m w) : yAok (ycur w) := by
  obtain ⟨S, s1, s2⟩ := zcur_ex hc
  exact s2.2.2
theorem d_62r (hc : zCls h m w) : ∀ n k, k + n = (ycur w).1.length → zrun zP sv (zcall zP sv (d + 47)) 62 27 [.val (.ref m), .val (.int (nI (ycur w).1.length)), .val (.int (nI (ysu' (ycur w).1 k))), .val (.int (nI k))] [] h = zrun zP sv (zcall zP sv (d + 47)) 62 49 [.val (.ref m), .val (.int (nI (ycur w).1.length)), .val (.int (nI (ysu' (ycur w).1 (ycur w).1.length))), .val (.int (nI (ycur w).1.length))] [] h := by
  have hA := zcur_ok hc
  have h6 := hA.1
  have r1 := zEC1 hc
  intro n
  induction n with
  | zero =>
    intro k hk
    obtain rfl : k = (ycur w).1.length := by omega
    simp only [zs_62_27, zs_62_28, zs_62_29, Int32.lt_irrefl, ↓reduceIte]
  | succ n ih =>
    intro k hk
    have c1 : nI k < nI (ycur w).1.length := nI_lt (by omega) (by omega)
    obtain ⟨b, hb⟩ : ∃ b, (ycur w).1[k]? = some b := ⟨_, List.getElem?_eq_getElem (by omega)⟩
    obtain ⟨a, e0, a1, a2, a3, a4⟩ := d_70k (sv := sv) (d := d + 45) hc hb
    have e1 : zcall zP sv (d + 47) 182 [.ref a] h = _ := d_182 (d := d + 46) a3
    rw [ypo_len] at e1
    have r6 : ∀ X : zR, zrc (h.1 a) 6 X = X := fun X => zTre_rc a3
    rw [← ih (k + 1) (by omega), ysu'_s hb]
    have eb : ∀ z, zrun zP sv (zcall zP sv (d + 47)) 62 43 [.val (.ref m), .val (.int (nI (ycur w).1.length)), .val (.int z), .val (.int (nI k))] [] h = zrun zP sv (zcall zP sv (d + 47)) 62 27 [.val (.ref m), .val (.int (nI (ycur w).1.length)), .val (.int z), .val (.int (nI (k + 1)))] [] h := fun z => by rw [zs_62_43, zs_62_46, nI_1']
    rw [← eb]
    simp (disch := first | exact znw_u | exact znw_i) only [zs_62_27, zs_62_28, zs_62_29, zs_62_32, zs_62_33, zs_62_34, zs_62_35, zs_62_38, zs_62_41, zs_62_42, if_pos c1, r1, e0, r6, e1, nI_add, zbk_v, zts_s, List.cons_append, List.nil_append]
theorem d_62n (hc : zCls h m w) (hn : (ycur w).1.length = 0) : zEnd h m (zcall zP sv (d + 48) 62 [.ref m] h) 1 6 (.inr 5) w := by
  obtain ⟨t1, t2⟩ := zthrow hc
  have q1 := zCls_0 hc
  have e1 : zcall zP sv (d + 47) 169 [.ref (m + 3)] h = _ := zcur_n hc (d + 46)
  rw [hn, nI_0] at e1
  refine ⟨_, ?_, t1, t2⟩
  simp (disch := first | exact znw_u | exact znw_i) only [zc_62, zs_62_0, zs_62_1, zs_62_4, zs_62_7, zs_62_8, zs_62_9, zs_62_12, q1, zECc, zrc_1, zf_1_0, zp_1_0, zp_1_0n, zf_1_1, zp_1_1, zf_1_2, zp_1_2, zp_1_2n, zf_1_3, zp_1_3, zp_1_3n, zf_1_4, zp_1_40, zp_1_41, zf_1_5, zp_1_5, zp_1_5n, zf_1_6, zp_1_6, zp_1_6n, zf_1_7, zp_1_7, zp_1_7n, zf_1_8, zp_1_8, zp_1_8n, zf_1_9, zp_1_9, zp_1_9n, zf_1_10, zp_1_10, zp_1_10n, zf_1_11, zp_1_11, zp_1_11n, zf_1_12, zp_1_12, zp_1_12n, zcur_r hc, e1, zbk_v, zts_s, zext_of, ↓reduceIte, List.cons_append, List.nil_append]
theorem d_62 (hc : zCls h m w) (hn : 0 < (ycur w).1.length) : zEnd h m (zcall zP sv (d + 48) 62 [.ref m] h) 0 0 (.inl (some (.double (FP.ddiv (FP.i2d (nI (ysu' (ycur w).1 (ycur w).1.length))) (FP.i2d (nI (ycur w).1.length)))))) w := by
  have q1 := zCls_0 hc
  have hA := zcur_ok hc
  have h6 := hA.1
  have e1 : zcall zP sv (d + 47) 169 [.ref (m + 3)] h = _ := zcur_n hc (d + 46)
  have e2 := d_62r (sv := sv) (d := d) hc (ycur w).1.length 0 (Nat.zero_add _)
  rw [show ysu' (ycur w).1 0 = 0 from rfl, nI_0] at e2
  have hs := ysu'_le hA.2.1 (ycur w).1.length
  have hz : (nI (ycur w).1.length = 0) = False := eq_false (nI_ne0 hn (by omega))
  have hd := yddiv (ycur w).1.length (by omega) hn (ysu' (ycur w).1 (ycur w).1.length) (by omega)
  refine zEnd_s hc ?_
  simp (disch := first | exact znw_u | exact znw_i) only [zc_62, zs_62_0, zs_62_1, zs_62_4, zs_62_7, zs_62_8, zs_62_9, zs_62_23, zs_62_24, zs_62_25, zs_62_26, q1, zECc, zrc_1, zf_1_0, zp_1_0, zp_1_0n, zf_1_1, zp_1_1, zf_1_2, zp_1_2, zp_1_2n, zf_1_3, zp_1_3, zp_1_3n, zf_1_4, zp_1_40, zp_1_41, zf_1_5, zp_1_5, zp_1_5n, zf_1_6, zp_1_6, zp_1_6n, zf_1_7, zp_1_7, zp_1_7n, zf_1_8, zp_1_8, zp_1_8n, zf_1_9, zp_1_9, zp_1_9n, zf_1_10, zp_1_10, zp_1_10n, zf_1_11, zp_1_11, zp_1_11n, zf_1_12, zp_1_12, zp_1_12n, zcur_r hc, e1, hz, zbk_v, zts_s, ↓reduceIte, List.cons_append, List.nil_append]
  rw [e2]
  simp (disch := first | exact znw_u | exact znw_i) only [zs_62_49, zs_62_50, zs_62_51, zs_62_52, zs_62_53, zs_62_54, hd, zgd_t]
end ZRF

section ZRG
variable {sv : Nat → Value} {d : Nat} {h : zH} {m : Nat} {w : yW} {i M : Nat} {t : yT}
theorem ytm_g {ns : List yN} {k : Nat} (hw : ywf ns) (hk : k < ns.length) : (ytm ns)[k]? = some (ygt (ytm ns) (nI k)) := by
  have hl := hw.1
  have h1 : k < (ytm ns).length := by rw [ytm_l]; exact hk
  unfold ygt
  rw [if_neg (nI_pos (by omega)), nI_clamp (by omega), List.getElem?_eq_getElem h1]
  congr 1
  rw [List.getD_eq_getElem?_getD, List.getElem?_eq_getElem h1]
  rfl
/-- whether none of n nodes from j on stands for b -/
def yfq (ns : List yN) (b : yT) : Nat → Nat → Bool
  | _, 0 => true
  | j, n + 1 => !yeq b (ygt (ytm ns) (nI j)) && yfq ns b (j + 1) n
theorem d_79l {a mt k : Nat} {ns : List yN} (hw : ywf ns) (ht : zTre h a mt ns) (hB : yBd 8 ns) (hk : k < ns.length) : ∀ n j, j + n = k → zrun zP sv (zcall zP sv (d + 12)) 79 2 [.val (.ref a), .val (.int (nI k)), .val (.int (nI j))] [] h = some (.inl (some (.int (yb (yfq ns (ygt (ytm ns) (nI k)) j n)))), h) := by
  have hl := hw.1
  intro n
  induction n with
  | zero =>
    intro j hj
    obtain rfl : j = k := by omega
    rw [show yfq ns (ygt (ytm ns) (nI j)) j 0 = true from rfl, yb_t]
    simp only [zs_79_0, zs_79_1, zs_79_2, zs_79_3, zs_79_4, zs_79_7, zs_79_8, zs_79_9, zs_79_10, zs_79_11, zs_79_12, zs_79_15, zs_79_18, zs_79_19, zs_79_26, zs_79_27, Int32.lt_irrefl, zgd_t, zty_51, ↓reduceIte]
  | succ n ih =>
    intro j hj
    have c1 : nI j < nI k := nI_lt (by omega) (by omega)
    have hd : ydp (ygt (ytm ns) (nI k)) ≤ 8 := by
      have h1 : (ytm ns)[k]? = some (ygt (ytm ns) (nI k)) := ytm_g hw hk
      exact hB k _ h1
    have e1 : zcall zP sv (d + 12) 85 [.ref a, .int (nI k), .ref a, .int (nI j), .int (nI 1)] h = _ := d_85 (sv := sv) hw hw ht ht _ _ (nI k) (nI j) (d + 12) 1 (Or.inr ⟨k, hk, rfl⟩) (Or.inr ⟨j, by omega, rfl⟩) rfl rfl (by omega) (by omega)
    have e2 := ih (j + 1) (by omega)
    show _ = some (Sum.inl (some (Value.int (yb (!yeq (ygt (ytm ns) (nI k)) (ygt (ytm ns) (nI j)) && yfq ns (ygt (ytm ns) (nI k)) (j + 1) n)))), h)
    cases hy : yeq (ygt (ytm ns) (nI k)) (ygt (ytm ns) (nI j)) with
    | true =>
      rw [hy, yb_t] at e1
      rw [Bool.not_true, Bool.false_and, yb_f]
      simp only [zs_79_0, zs_79_1, zs_79_2, zs_79_3, zs_79_4, zs_79_7, zs_79_8, zs_79_9, zs_79_10, zs_79_11, zs_79_12, zs_79_15, zs_79_18, zs_79_19, zs_79_26, zs_79_27, if_pos c1, e1, nI_1e0, zbk_v, zts_s, zgd_t, zty_50, ↓reduceIte, List.cons_append, List.nil_append]
    | false =>
      rw [hy, yb_f] at e1
      rw [Bool.not_false, Bool.true_and, ← e2]
      have eb : zrun zP sv (zcall zP sv (d + 12)) 79 20 [.val (.ref a), .val (.int (nI k)), .val (.int (nI j))] [] h = zrun zP sv (zcall zP sv (d + 12)) 79 2 [.val (.ref a), .val (.int (nI k)), .val (.int (nI (j + 1)))] [] h := by rw [zs_79_20, zs_79_23, nI_1']
      rw [← eb]
      simp only [zs_79_0, zs_79_1, zs_79_2, zs_79_3, zs_79_4, zs_79_7, zs_79_8, zs_79_9, zs_79_10, zs_79_11, zs_79_12, zs_79_15, zs_79_18, zs_79_19, zs_79_26, zs_79_27, if_pos c1, e1, zbk_v, zts_s, ↓reduceIte, List.cons_append, List.nil_append]
theorem d_79 {a mt k : Nat} {ns : List yN} (hw : ywf ns) (ht : zTre h a mt ns) (hB : yBd 8 ns) (hk : k < ns.length) : zcall zP sv (d + 13) 79 [.ref a, .int (nI k)] h = some (.inl (some (.int (yb (yfq ns (ygt (ytm ns) (nI k)) 0 k)))), h) := by
  have e := d_79l (sv := sv) (d := d) hw ht hB hk k 0 (Nat.zero_add _)
  rw [nI_0] at e
  rw [← e]
  simp (disch := first | exact znw_u | exact znw_i) only [zc_79, zs_79_0, zs_79_1]
/-- how many of the first n nodes are the first of their kind -/
def ynq (ns : List yN) (n : Nat) : Nat := (List.range n).countP (fun k => yfq ns (ygt (ytm ns) (nI k)) 0 k)
theorem ynq_s {ns : List yN} {n : Nat} : ynq ns (n + 1) = ynq ns n + (if yfq ns (ygt (ytm ns) (nI n)) 0 n = true then 1 else 0) := by
  unfold ynq
  rw [List.range_succ, List.countP_append, List.countP_singleton]
theorem d_78l {a mt : Nat} {ns : List yN} (hw : ywf ns) (ht : zTre h a mt ns) (hB : yBd 8 ns) (hz : ns.length < 2 ^ 30) : ∀ n j, j + n = ns.length → zrun zP sv (zcall zP sv (d + 13)) 78 4 [.val (.ref a), .val (.int (nI (ynq ns j))), .val (.int (nI j))] [] h = some (.inl (some (.int (nI (ynq ns ns.length)))), h) := by
  have e1 : zcall zP sv (d + 13) 182 [.ref a] h = _ := d_182 (d := d + 12) ht
  have r : ∀ X : zR, zrc (h.1 a) 6 X = X := fun X => zTre_rc ht
  intro n
  induction n with
  | zero =>
    intro j hj
    obtain rfl : j = ns.length := by omega
    simp only [zs_78_4, zs_78_5, zs_78_6, zs_78_9, zs_78_29, zs_78_30, r, e1, zbk_v, zts_s, Int32.lt_irrefl, ↓reduceIte, List.cons_append, List.nil_append]
  | succ n ih =>
    intro j hj
    have c1 : nI j < nI ns.length := nI_lt (by omega) (by omega)
    have e2 := d_79 (sv := sv) (d := d) hw ht hB (k := j) (by omega)
    have eb : ∀ z, zrun zP sv (zcall zP sv (d + 13)) 78 23 [.val (.ref a), .val (.int z), .val (.int (nI j))] [] h = zrun zP sv (zcall zP sv (d + 13)) 78 4 [.val (.ref a), .val (.int z), .val (.int (nI (j + 1)))] [] h := fun z => by rw [zs_78_23, zs_78_26, nI_1']
    rw [← ih (j + 1) (by omega), ynq_s, ← eb]
    cases hy : yfq ns (ygt (ytm ns) (nI j)) 0 j with
    | true =>
      rw [hy, yb_t] at e2
      simp (disch := exact znw_u) only [zs_78_4, zs_78_5, zs_78_6, zs_78_9, zs_78_12, zs_78_13, zs_78_14, zs_78_17, zs_78_20, r, e1, e2, if_pos c1, nI_1e0, nI_1', zbk_v, zts_s, ↓reduceIte, List.cons_append, List.nil_append]
    | false =>
      rw [hy, yb_f] at e2
      simp (disch := exact znw_u) only [zs_78_4, zs_78_5, zs_78_6, zs_78_9, zs_78_12, zs_78_13, zs_78_14, zs_78_17, r, e1, e2, if_pos c1, Bool.false_eq_true, Nat.add_zero, zbk_v, zts_s, ↓reduceIte, List.cons_append, List.nil_append]
theorem d_78 {a mt : Nat} {ns : List yN} (hw : ywf ns) (ht : zTre h a mt ns) (hB : yBd 8 ns) (hz : ns.length < 2 ^ 30) : zcall zP sv (d + 14) 78 [.ref a] h = some (.inl (some (.int (nI (ynq ns ns.length)))), h) := by
  have e := d_78l (sv := sv) (d := d) hw ht hB hz ns.length 0 (Nat.zero_add _)
  rw [show ynq ns 0 = 0 from rfl, nI_0] at e
  rw [← e]
  simp (disch := first | exact znw_u | exact znw_i) only [zc_78, zs_78_0, zs_78_1, zs_78_2, zs_78_3]
theorem d_43 (hc : zCls h m w) (hi : (ycur w).1[i]? = some t) : zEnd h m (zcall zP sv (d + 48) 43 [.ref m, .int (nI i)] h) 0 0 (.inl (some (.int (nI (ynq (ypo 0 t) (ysz t)))))) w := by
  obtain ⟨a, e0, a1, a2, a3, a4⟩ := d_70k (sv := sv) (d := d + 45) hc hi
  have hsz := a4.2.1
  obtain ⟨f1, f2, f3, f4⟩ := yform a4.1 (by omega)
  have e1 := d_78 (sv := sv) (d := d + 33) f1 a3 (yform_bd a4.1 (by omega) a4.2.2) (by omega)
  rw [f3] at e1
  refine zEnd_s hc ?_
  simp (disch := first | exact znw_u | exact znw_i) only [zc_43, zs_43_0, zs_43_1, zs_43_2, zs_43_5, zs_43_8, zEC1 hc, e0, e1, zbk_v, zts_s, zts_n, List.cons_append, List.nil_append]
/-- the order by size, of two formulas -/
theorem ydiff : ∀ x, x < 32 → ∀ y, y < 32 → (decide (0 < nI x - nI y) = decide (nI y < nI x)) ∧ decide (nI x - nI y = 0) = decide (nI x = nI y) := by decide +kernel
theorem ybe_of {T : List yT} {f q : Nat} {a b : yT} (ha : T[q]? = some a) (hb : T[f]? = some b) (ka : ytok a) (kb : ytok b) : ybe T f q = if nI (ysz a) = nI (ysz b) then (if nI (ydp a) = nI (ydp b) then decide (nI q < nI f) else decide (nI (ydp b) < nI (ydp a))) else decide (nI (ysz b) < nI (ysz a)) := by
  have e : ybe T f q = (decide (0 < ymo a b) || (decide (ymo a b = 0) && decide (nI q < nI f))) := by
    unfold ybe
    rw [ha, hb]
  obtain ⟨s1, s2⟩ := ydiff (ysz a) (by have := ka.2.1; omega) (ysz b) (by have := kb.2.1; omega)
  obtain ⟨p1, p2⟩ := ydiff (ydp a) (by have := ka.2.2; omega) (ydp b) (by have := kb.2.2; omega)
  rw [e]
  unfold ymo
  by_cases c : nI (ysz a) = nI (ysz b)
  · have c' : nI (ysz a) - nI (ysz b) = 0 := of_decide_eq_true (by rw [s2]; exact decide_eq_true c)
    rw [if_pos c', if_pos c, p1, p2]
    by_cases c2 : nI (ydp a) = nI (ydp b)
    · rw [if_pos c2, c2, decide_eq_true rfl, decide_eq_false Int32.lt_irrefl, Bool.false_or, Bool.true_and]
    · rw [if_neg c2, decide_eq_false c2, Bool.false_and, Bool.or_false]
  · have c' : ¬ nI (ysz a) - nI (ysz b) = 0 := fun z => c (of_decide_eq_true (by rw [← s2]; exact decide_eq_true z))
    rw [if_neg c', if_neg c, s1, s2, decide_eq_false c, Bool.false_and, Bool.or_false]
theorem zfr_78 {h' : zH} {A B C : List Int32} (hc : zCls h m w) (hf : zfr (m + 78) (m + 85) h h') (hg : zGau h' (m + 78) A B C) : zCls h' m w := zCls_g hc hf hg
theorem d_81 {q f : Nat} {a b : yT} (hc : zCls h m w) (hq : (ycur w).1[q]? = some a) (hf : (ycur w).1[f]? = some b) : ∃ h', zcall zP sv (d + 46) 81 [.ref m, .int (nI q), .int (nI f)] h = some (.inl (some (.int (yb (ybe (ycur w).1 f q)))), h') ∧ zCls h' m w ∧ zfr (m + 78) (m + 85) h h' := by
  obtain ⟨x, e0, a1, a2, a3, a4⟩ := d_70k (sv := sv) (d := d + 43) hc hq
  obtain ⟨y, e1, b1, b2, b3, b4⟩ := d_70k (sv := sv) (d := d + 43) hc hf
  have q1 := zCls_0 hc
  have hsz := a4.2.1
  have hsz2 := b4.2.1
  have hdp := a4.2.2
  have hdp2 := b4.2.2
  have s1 : zcall zP sv (d + 45) 182 [.ref x] h = _ := d_182 (d := d + 44) a3
  have s2 : zcall zP sv (d + 45) 182 [.ref y] h = _ := d_182 (d := d + 44) b3
  rw [ypo_len] at s1 s2
  have r1 : ∀ X : zR, zrc (h.1 x) 6 X = X := fun X => zTre_rc a3
  have r2 : ∀ X : zR, zrc (h.1 y) 6 X = X := fun X => zTre_rc b3
  rw [ybe_of hq hf a4 b4]
  by_cases c : nI (ysz a) = nI (ysz b)
  · rw [if_pos c]
    obtain ⟨f1, f2, f3, f4⟩ := yform a4.1 (by omega)
    obtain ⟨g1, g2, g3, g4⟩ := yform b4.1 (by omega)
    obtain ⟨A, B, C, hg⟩ := zgau_ex hc
    obtain ⟨h1, A', k1, k2, k3, k4⟩ := d_118 (sv := sv) (d := d + 41) (rt := nI (ysz a - 1)) f1 (by omega) (by omega) a3 hg
    rw [yQ_g k3 (Or.inr ⟨ysz a - 1, by omega, rfl⟩) (Nat.le_refl _) f1.1, f2, yfo_L a (by omega)] at k1
    have hc1 := zCls_g hc k4 k2
    have q2 := zCls_0 hc1
    have b3' := zTre_fr b3 k4 (by omega)
    obtain ⟨h2, A2, k5, k6, k7, k8⟩ := d_118 (sv := sv) (d := d + 41) (rt := nI (ysz b - 1)) g1 (by omega) (by omega) b3' k2
    rw [yQ_g k7 (Or.inr ⟨ysz b - 1, by omega, rfl⟩) (Nat.le_refl _) g1.1, g2, yfo_L b (by omega)] at k5
    have hc2 := zCls_g hc1 k8 k6
    have e5 : zcall zP sv (d + 45) 183 [.ref x] h = _ := d_183 (d := d + 44) a3
    have e6 : zcall zP sv (d + 45) 183 [.ref y] h1 = _ := d_183 (d := d + 44) b3'
    rw [yroot_sub f4] at e5
    rw [yroot_sub g4] at e6
    have r2' : ∀ X : zR, zrc (h1.1 y) 6 X = X := fun X => zTre_rc b3'
    have rg : ∀ X : zR, zrc (h.1 (m + 78)) 10 X = X := fun X => zGau_rc hg
    have rg' : ∀ X : zR, zrc (h1.1 (m + 78)) 10 X = X := fun X => zGau_rc k2
    refine ⟨h2, ?_, hc2, zfr_tr k4 k8⟩
    by_cases c2 : nI (ydp a) = nI (ydp b)
    · rw [if_pos c2]
      by_cases c3 : nI q < nI f
      · rw [decide_eq_true c3, yb_t]
        simp (disch := first | exact znw_u | exact znw_i) only [zc_81, zs_81_0, zs_81_1, zs_81_2, zs_81_5, zs_81_6, zs_81_7, zs_81_8, zs_81_11, zs_81_13, zs_81_14, zs_81_17, zs_81_19, zs_81_22, zs_81_25, zs_81_26, zs_81_29, zs_81_31, zs_81_34, zs_81_37, zs_81_38, zs_81_41, zs_81_42, zs_81_43, zs_81_44, zs_81_47, zs_81_48, zs_81_49, zs_81_52, zs_81_55, zs_81_57, zs_81_58, zs_81_61, zs_81_63, zs_81_65, zs_81_68, zs_81_71, zs_81_73, zs_81_75, zs_81_77, zs_81_80, zs_81_82, zs_81_84, zs_81_87, zs_81_88, zs_81_91, zs_81_92, zs_81_93, zs_81_94, zs_81_95, zs_81_98, zs_81_99, zs_81_102, zs_81_103, q1, q2, zECc, zrc_1, zf_1_0, zp_1_0, zp_1_0n, zf_1_1, zp_1_1, zf_1_2, zp_1_2, zp_1_2n, zf_1_3, zp_1_3, zp_1_3n, zf_1_4, zp_1_40, zp_1_41, zf_1_5, zp_1_5, zp_1_5n, zf_1_6, zp_1_6, zp_1_6n, zf_1_7, zp_1_7, zp_1_7n, zf_1_8, zp_1_8, zp_1_8n, zf_1_9, zp_1_9, zp_1_9n, zf_1_10, zp_1_10, zp_1_10n, zf_1_11, zp_1_11, zp_1_11n, zf_1_12, zp_1_12, zp_1_12n, zEC1 hc, e0, e1, r1, r2, r2', s1, s2, if_pos c, rg, rg', e5, e6, k1, k5, if_pos c2, if_pos c3, zbk_v, zts_s, zgd_t, zty_51, ↓reduceIte, List.cons_append, List.nil_append]
      · rw [decide_eq_false c3, yb_f]
        simp (disch := first | exact znw_u | exact znw_i) only [zc_81, zs_81_0, zs_81_1, zs_81_2, zs_81_5, zs_81_6, zs_81_7, zs_81_8, zs_81_11, zs_81_13, zs_81_14, zs_81_17, zs_81_19, zs_81_22, zs_81_25, zs_81_26, zs_81_29, zs_81_31, zs_81_34, zs_81_37, zs_81_38, zs_81_41, zs_81_42, zs_81_43, zs_81_44, zs_81_47, zs_81_48, zs_81_49, zs_81_52, zs_81_55, zs_81_57, zs_81_58, zs_81_61, zs_81_63, zs_81_65, zs_81_68, zs_81_71, zs_81_73, zs_81_75, zs_81_77, zs_81_80, zs_81_82, zs_81_84, zs_81_87, zs_81_88, zs_81_91, zs_81_92, zs_81_93, zs_81_94, zs_81_95, zs_81_98, zs_81_99, zs_81_102, zs_81_103, q1, q2, zECc, zrc_1, zf_1_0, zp_1_0, zp_1_0n, zf_1_1, zp_1_1, zf_1_2, zp_1_2, zp_1_2n, zf_1_3, zp_1_3, zp_1_3n, zf_1_4, zp_1_40, zp_1_41, zf_1_5, zp_1_5, zp_1_5n, zf_1_6, zp_1_6, zp_1_6n, zf_1_7, zp_1_7, zp_1_7n, zf_1_8, zp_1_8, zp_1_8n, zf_1_9, zp_1_9, zp_1_9n, zf_1_10, zp_1_10, zp_1_10n, zf_1_11, zp_1_11, zp_1_11n, zf_1_12, zp_1_12, zp_1_12n, zEC1 hc, e0, e1, r1, r2, r2', s1, s2, if_pos c, rg, rg', e5, e6, k1, k5, if_pos c2, if_neg c3, zbk_v, zts_s, zgd_t, zty_50, ↓reduceIte, List.cons_append, List.nil_append]
    · rw [if_neg c2]
      by_cases c3 : nI (ydp b) < nI (ydp a)
      · rw [decide_eq_true c3, yb_t]
        simp (disch := first | exact znw_u | exact znw_i) only [zc_81, zs_81_0, zs_81_1, zs_81_2, zs_81_5, zs_81_6, zs_81_7, zs_81_8, zs_81_11, zs_81_13, zs_81_14, zs_81_17, zs_81_19, zs_81_22, zs_81_25, zs_81_26, zs_81_29, zs_81_31, zs_81_34, zs_81_37, zs_81_38, zs_81_41, zs_81_42, zs_81_43, zs_81_44, zs_81_47, zs_81_48, zs_81_49, zs_81_52, zs_81_55, zs_81_57, zs_81_58, zs_81_61, zs_81_63, zs_81_65, zs_81_68, zs_81_71, zs_81_73, zs_81_75, zs_81_77, zs_81_80, zs_81_82, zs_81_84, zs_81_87, zs_81_88, zs_81_91, zs_81_92, zs_81_93, zs_81_94, zs_81_95, zs_81_98, zs_81_99, zs_81_102, zs_81_103, q1, q2, zECc, zrc_1, zf_1_0, zp_1_0, zp_1_0n, zf_1_1, zp_1_1, zf_1_2, zp_1_2, zp_1_2n, zf_1_3, zp_1_3, zp_1_3n, zf_1_4, zp_1_40, zp_1_41, zf_1_5, zp_1_5, zp_1_5n, zf_1_6, zp_1_6, zp_1_6n, zf_1_7, zp_1_7, zp_1_7n, zf_1_8, zp_1_8, zp_1_8n, zf_1_9, zp_1_9, zp_1_9n, zf_1_10, zp_1_10, zp_1_10n, zf_1_11, zp_1_11, zp_1_11n, zf_1_12, zp_1_12, zp_1_12n, zEC1 hc, e0, e1, r1, r2, r2', s1, s2, if_pos c, rg, rg', e5, e6, k1, k5, if_neg c2, if_pos c3, zbk_v, zts_s, zgd_t, zty_51, ↓reduceIte, List.cons_append, List.nil_append]
      · rw [decide_eq_false c3, yb_f]
        simp (disch := first | exact znw_u | exact znw_i) only [zc_81, zs_81_0, zs_81_1, zs_81_2, zs_81_5, zs_81_6, zs_81_7, zs_81_8, zs_81_11, zs_81_13, zs_81_14, zs_81_17, zs_81_19, zs_81_22, zs_81_25, zs_81_26, zs_81_29, zs_81_31, zs_81_34, zs_81_37, zs_81_38, zs_81_41, zs_81_42, zs_81_43, zs_81_44, zs_81_47, zs_81_48, zs_81_49, zs_81_52, zs_81_55, zs_81_57, zs_81_58, zs_81_61, zs_81_63, zs_81_65, zs_81_68, zs_81_71, zs_81_73, zs_81_75, zs_81_77, zs_81_80, zs_81_82, zs_81_84, zs_81_87, zs_81_88, zs_81_91, zs_81_92, zs_81_93, zs_81_94, zs_81_95, zs_81_98, zs_81_99, zs_81_102, zs_81_103, q1, q2, zECc, zrc_1, zf_1_0, zp_1_0, zp_1_0n, zf_1_1, zp_1_1, zf_1_2, zp_1_2, zp_1_2n, zf_1_3, zp_1_3, zp_1_3n, zf_1_4, zp_1_40, zp_1_41, zf_1_5, zp_1_5, zp_1_5n, zf_1_6, zp_1_6, zp_1_6n, zf_1_7, zp_1_7, zp_1_7n, zf_1_8, zp_1_8, zp_1_8n, zf_1_9, zp_1_9, zp_1_9n, zf_1_10, zp_1_10, zp_1_10n, zf_1_11, zp_1_11, zp_1_11n, zf_1_12, zp_1_12, zp_1_12n, zEC1 hc, e0, e1, r1, r2, r2', s1, s2, if_pos c, rg, rg', e5, e6, k1, k5, if_neg c2, if_neg c3, zbk_v, zts_s, zgd_t, zty_50, ↓reduceIte, List.cons_append, List.nil_append]
  · rw [if_neg c]
    refine ⟨h, ?_, hc, zfr_rfl⟩
    by_cases c3 : nI (ysz b) < nI (ysz a)
    · rw [decide_eq_true c3, yb_t]
      simp (disch := first | exact znw_u | exact znw_i) only [zc_81, zs_81_0, zs_81_1, zs_81_2, zs_81_5, zs_81_6, zs_81_7, zs_81_8, zs_81_11, zs_81_13, zs_81_14, zs_81_17, zs_81_19, zs_81_22, zs_81_25, zs_81_26, zs_81_29, zs_81_31, zs_81_34, zs_81_37, zs_81_38, zs_81_41, zs_81_42, zs_81_43, zs_81_44, zs_81_47, zs_81_48, zs_81_49, zs_81_52, zs_81_55, zs_81_57, zs_81_58, zs_81_61, zs_81_63, zs_81_65, zs_81_68, zs_81_71, zs_81_73, zs_81_75, zs_81_77, zs_81_80, zs_81_82, zs_81_84, zs_81_87, zs_81_88, zs_81_91, zs_81_92, zs_81_93, zs_81_94, zs_81_95, zs_81_98, zs_81_99, zs_81_102, zs_81_103, q1, zECc, zrc_1, zf_1_0, zp_1_0, zp_1_0n, zf_1_1, zp_1_1, zf_1_2, zp_1_2, zp_1_2n, zf_1_3, zp_1_3, zp_1_3n, zf_1_4, zp_1_40, zp_1_41, zf_1_5, zp_1_5, zp_1_5n, zf_1_6, zp_1_6, zp_1_6n, zf_1_7, zp_1_7, zp_1_7n, zf_1_8, zp_1_8, zp_1_8n, zf_1_9, zp_1_9, zp_1_9n, zf_1_10, zp_1_10, zp_1_10n, zf_1_11, zp_1_11, zp_1_11n, zf_1_12, zp_1_12, zp_1_12n, zEC1 hc, e0, e1, r1, r2, s1, s2, if_neg c, if_pos c3, zbk_v, zts_s, zgd_t, zty_51, ↓reduceIte, List.cons_append, List.nil_append]
    · rw [decide_eq_false c3, yb_f]
      simp (disch := first | exact znw_u | exact znw_i) only [zc_81, zs_81_0, zs_81_1, zs_81_2, zs_81_5, zs_81_6, zs_81_7, zs_81_8, zs_81_11, zs_81_13, zs_81_14, zs_81_17, zs_81_19, zs_81_22, zs_81_25, zs_81_26, zs_81_29, zs_81_31, zs_81_34, zs_81_37, zs_81_38, zs_81_41, zs_81_42, zs_81_43, zs_81_44, zs_81_47, zs_81_48, zs_81_49, zs_81_52, zs_81_55, zs_81_57, zs_81_58, zs_81_61, zs_81_63, zs_81_65, zs_81_68, zs_81_71, zs_81_73, zs_81_75, zs_81_77, zs_81_80, zs_81_82, zs_81_84, zs_81_87, zs_81_88, zs_81_91, zs_81_92, zs_81_93, zs_81_94, zs_81_95, zs_81_98, zs_81_99, zs_81_102, zs_81_103, q1, zECc, zrc_1, zf_1_0, zp_1_0, zp_1_0n, zf_1_1, zp_1_1, zf_1_2, zp_1_2, zp_1_2n, zf_1_3, zp_1_3, zp_1_3n, zf_1_4, zp_1_40, zp_1_41, zf_1_5, zp_1_5, zp_1_5n, zf_1_6, zp_1_6, zp_1_6n, zf_1_7, zp_1_7, zp_1_7n, zf_1_8, zp_1_8, zp_1_8n, zf_1_9, zp_1_9, zp_1_9n, zf_1_10, zp_1_10, zp_1_10n, zf_1_11, zp_1_11, zp_1_11n, zf_1_12, zp_1_12, zp_1_12n, zEC1 hc, e0, e1, r1, r2, s1, s2, if_neg c, if_neg c3, zbk_v, zts_s, zgd_t, zty_50, ↓reduceIte, List.cons_append, List.nil_append]
theorem ybe_self {T : List yT} {f : Nat} {a : yT} (ha : T[f]? = some a) (ka : ytok a) : ybe T f f = false := by
  rw [ybe_of ha ha ka ka, if_pos rfl, if_pos rfl]
  exact decide_eq_false Int32.lt_irrefl
theorem d_80l {f : Nat} {b : yT} (hf : (ycur w).1[f]? = some b) : ∀ n q (h : zH), q + n = (ycur w).1.length → zCls h m w → ∃ h', zrun zP sv (zcall zP sv (d + 46)) 80 4 [.val (.ref m), .val (.int (nI f)), .val (.int (nI (ybn (ycur w).1 f q))), .val (.int (nI q))] [] h = some (.inl (some (.int (nI (ybn (ycur w).1 f (ycur w).1.length)))), h') ∧ zCls h' m w ∧ zfr (m + 78) (m + 85) h h' := by
  intro n
  induction n with
  | zero =>
    intro q h hq hc
    obtain rfl : q = (ycur w).1.length := by omega
    have q1 := zCls_0 hc
    have e1 : zcall zP sv (d + 46) 169 [.ref (m + 3)] h = _ := zcur_n hc (d + 45)
    refine ⟨h, ?_, hc, zfr_rfl⟩
    simp only [zs_80_4, zs_80_5, zs_80_6, zs_80_9, zs_80_12, zs_80_38, zs_80_39, q1, zECc, zrc_1, zf_1_0, zp_1_0, zp_1_0n, zf_1_1, zp_1_1, zf_1_2, zp_1_2, zp_1_2n, zf_1_3, zp_1_3, zp_1_3n, zf_1_4, zp_1_40, zp_1_41, zf_1_5, zp_1_5, zp_1_5n, zf_1_6, zp_1_6, zp_1_6n, zf_1_7, zp_1_7, zp_1_7n, zf_1_8, zp_1_8, zp_1_8n, zf_1_9, zp_1_9, zp_1_9n, zf_1_10, zp_1_10, zp_1_10n, zf_1_11, zp_1_11, zp_1_11n, zf_1_12, zp_1_12, zp_1_12n, zcur_r hc, e1, zbk_v, zts_s, Int32.lt_irrefl, ↓reduceIte, List.cons_append, List.nil_append]
  | succ n ih =>
    intro q h hq hc
    have q1 := zCls_0 hc
    have hA := zcur_ok hc
    have h6 := hA.1
    have hfl := (List.getElem?_eq_some_iff.mp hf).1
    have c1 : nI q < nI (ycur w).1.length := nI_lt (by omega) (by omega)
    obtain ⟨a, ha⟩ : ∃ a, (ycur w).1[q]? = some a := ⟨_, List.getElem?_eq_getElem (by omega)⟩
    have e1 : zcall zP sv (d + 46) 169 [.ref (m + 3)] h = _ := zcur_n hc (d + 45)
    have eb : ∀ (h : zH) z, zrun zP sv (zcall zP sv (d + 46)) 80 32 [.val (.ref m), .val (.int (nI f)), .val (.int z), .val (.int (nI q))] [] h = zrun zP sv (zcall zP sv (d + 46)) 80 4 [.val (.ref m), .val (.int (nI f)), .val (.int z), .val (.int (nI (q + 1)))] [] h := fun h z => by rw [zs_80_32, zs_80_35, nI_1']
    by_cases c2 : nI q = nI f
    · obtain rfl : q = f := (nI_eq (by omega) (by omega)).mp c2
      obtain ⟨h2, e2, s2, f2⟩ := ih (q + 1) h (by omega) hc
      refine ⟨h2, ?_, s2, f2⟩
      rw [← e2, ybn_s, ybe_self ha (hA.2.1 _ (List.mem_of_getElem? ha)), ← eb]
      simp (disch := first | exact znw_u | exact znw_i) only [zs_80_4, zs_80_5, zs_80_6, zs_80_9, zs_80_12, zs_80_15, zs_80_16, zs_80_17, q1, zECc, zrc_1, zf_1_0, zp_1_0, zp_1_0n, zf_1_1, zp_1_1, zf_1_2, zp_1_2, zp_1_2n, zf_1_3, zp_1_3, zp_1_3n, zf_1_4, zp_1_40, zp_1_41, zf_1_5, zp_1_5, zp_1_5n, zf_1_6, zp_1_6, zp_1_6n, zf_1_7, zp_1_7, zp_1_7n, zf_1_8, zp_1_8, zp_1_8n, zf_1_9, zp_1_9, zp_1_9n, zf_1_10, zp_1_10, zp_1_10n, zf_1_11, zp_1_11, zp_1_11n, zf_1_12, zp_1_12, zp_1_12n, zcur_r hc, e1, if_pos c1, Bool.false_eq_true, Nat.add_zero, zbk_v, zts_s, ↓reduceIte, List.cons_append, List.nil_append]
    · obtain ⟨h1, e3, s1, f1⟩ := d_81 (sv := sv) (d := d) hc ha hf
      obtain ⟨h2, e2, s2, f2⟩ := ih (q + 1) h1 (by omega) s1
      refine ⟨h2, ?_, s2, zfr_tr f1 f2⟩
      rw [← e2, ybn_s, ← eb]
      cases hy : ybe (ycur w).1 f q with
      | true =>
        rw [hy, yb_t] at e3
        simp (disch := first | exact znw_u | exact znw_i) only [zs_80_4, zs_80_5, zs_80_6, zs_80_9, zs_80_12, zs_80_15, zs_80_16, zs_80_17, zs_80_20, zs_80_21, zs_80_22, zs_80_23, zs_80_26, zs_80_29, q1, zECc, zrc_1, zf_1_0, zp_1_0, zp_1_0n, zf_1_1, zp_1_1, zf_1_2, zp_1_2, zp_1_2n, zf_1_3, zp_1_3, zp_1_3n, zf_1_4, zp_1_40, zp_1_41, zf_1_5, zp_1_5, zp_1_5n, zf_1_6, zp_1_6, zp_1_6n, zf_1_7, zp_1_7, zp_1_7n, zf_1_8, zp_1_8, zp_1_8n, zf_1_9, zp_1_9, zp_1_9n, zf_1_10, zp_1_10, zp_1_10n, zf_1_11, zp_1_11, zp_1_11n, zf_1_12, zp_1_12, zp_1_12n, zcur_r hc, zEC1 hc, e1, e3, if_pos c1, if_neg c2, nI_1e0, nI_1', zbk_v, zts_s, ↓reduceIte, List.cons_append, List.nil_append]
      | false =>
        rw [hy, yb_f] at e3
        simp (disch := first | exact znw_u | exact znw_i) only [zs_80_4, zs_80_5, zs_80_6, zs_80_9, zs_80_12, zs_80_15, zs_80_16, zs_80_17, zs_80_20, zs_80_21, zs_80_22, zs_80_23, zs_80_26, q1, zECc, zrc_1, zf_1_0, zp_1_0, zp_1_0n, zf_1_1, zp_1_1, zf_1_2, zp_1_2, zp_1_2n, zf_1_3, zp_1_3, zp_1_3n, zf_1_4, zp_1_40, zp_1_41, zf_1_5, zp_1_5, zp_1_5n, zf_1_6, zp_1_6, zp_1_6n, zf_1_7, zp_1_7, zp_1_7n, zf_1_8, zp_1_8, zp_1_8n, zf_1_9, zp_1_9, zp_1_9n, zf_1_10, zp_1_10, zp_1_10n, zf_1_11, zp_1_11, zp_1_11n, zf_1_12, zp_1_12, zp_1_12n, zcur_r hc, zEC1 hc, e1, e3, if_pos c1, if_neg c2, Bool.false_eq_true, Nat.add_zero, zbk_v, zts_s, ↓reduceIte, List.cons_append, List.nil_append]
theorem d_80 {f : Nat} {b : yT} (hc : zCls h m w) (hf : (ycur w).1[f]? = some b) : ∃ h', zcall zP sv (d + 47) 80 [.ref m, .int (nI f)] h = some (.inl (some (.int (nI (ybn (ycur w).1 f (ycur w).1.length)))), h') ∧ zCls h' m w ∧ zfr (m + 78) (m + 85) h h' := by
  obtain ⟨h', e, s, f1⟩ := d_80l (sv := sv) (d := d) (m := m) hf (ycur w).1.length 0 h (Nat.zero_add _) hc
  rw [show ybn (ycur w).1 f 0 = 0 from rfl, nI_0] at e
  refine ⟨h', ?_, s, f1⟩
  rw [← e]
  simp (disch := first | exact znw_u | exact znw_i) only [zc_80, zs_80_0, zs_80_1, zs_80_2, zs_80_3]
theorem d_60l {x : Int32} : ∀ n k (h : zH), k + n = (ycur w).1.length → zCls h m w → (∀ c, yrk (ycur w).1 x k n = some c → ∃ h', zrun zP sv (zcall zP sv (d + 47)) 60 6 [.val (.ref m), .val (.int x), .val (.int (nI k))] [] h = some (.inl (some (.int (nI c))), h') ∧ zCls h' m w ∧ zfr (m + 78) (m + 85) h h') ∧ (yrk (ycur w).1 x k n = none → ∃ h', zrun zP sv (zcall zP sv (d + 47)) 60 6 [.val (.ref m), .val (.int x), .val (.int (nI k))] [] h = some (.inr 4, zext h' [(0, [])] 6) ∧ zCls h' m w ∧ zfr (m + 78) (m + 85) h h') := by
  intro n
  induction n with
  | zero =>
    intro k h hk hc
    obtain rfl : k = (ycur w).1.length := by omega
    have q1 := zCls_0 hc
    have e1 : zcall zP sv (d + 47) 169 [.ref (m + 3)] h = _ := zcur_n hc (d + 46)
    rw [show yrk (ycur w).1 x (ycur w).1.length 0 = none from rfl]
    refine ⟨fun c hy => (by cases hy), fun _ => ⟨h, ?_, hc, zfr_rfl⟩⟩
    simp only [zs_60_6, zs_60_7, zs_60_8, zs_60_11, zs_60_14, zs_60_34, q1, zECc, zrc_1, zf_1_0, zp_1_0, zp_1_0n, zf_1_1, zp_1_1, zf_1_2, zp_1_2, zp_1_2n, zf_1_3, zp_1_3, zp_1_3n, zf_1_4, zp_1_40, zp_1_41, zf_1_5, zp_1_5, zp_1_5n, zf_1_6, zp_1_6, zp_1_6n, zf_1_7, zp_1_7, zp_1_7n, zf_1_8, zp_1_8, zp_1_8n, zf_1_9, zp_1_9, zp_1_9n, zf_1_10, zp_1_10, zp_1_10n, zf_1_11, zp_1_11, zp_1_11n, zf_1_12, zp_1_12, zp_1_12n, zcur_r hc, e1, zbk_v, zts_s, Int32.lt_irrefl, zext_of, ↓reduceIte, List.cons_append, List.nil_append]
  | succ n ih =>
    intro k h hk hc
    have q1 := zCls_0 hc
    have hA := zcur_ok hc
    have h6 := hA.1
    have c1 : nI k < nI (ycur w).1.length := nI_lt (by omega) (by omega)
    obtain ⟨a, ha⟩ : ∃ a, (ycur w).1[k]? = some a := ⟨_, List.getElem?_eq_getElem (by omega)⟩
    have e1 : zcall zP sv (d + 47) 169 [.ref (m + 3)] h = _ := zcur_n hc (d + 46)
    obtain ⟨h1, e2, s1, f1⟩ := d_80 (sv := sv) (d := d) hc ha
    by_cases c : nI (ybn (ycur w).1 k (ycur w).1.length) = x
    · have q : yrk (ycur w).1 x k (n + 1) = some k := by unfold yrk; rw [if_pos c]
      rw [q]
      refine ⟨fun c' hy => ?_, fun hy => (by cases hy)⟩
      cases hy
      refine ⟨h1, ?_, s1, f1⟩
      simp only [zs_60_6, zs_60_7, zs_60_8, zs_60_11, zs_60_14, zs_60_17, zs_60_18, zs_60_19, zs_60_22, zs_60_23, zs_60_26, zs_60_27, q1, zECc, zrc_1, zf_1_0, zp_1_0, zp_1_0n, zf_1_1, zp_1_1, zf_1_2, zp_1_2, zp_1_2n, zf_1_3, zp_1_3, zp_1_3n, zf_1_4, zp_1_40, zp_1_41, zf_1_5, zp_1_5, zp_1_5n, zf_1_6, zp_1_6, zp_1_6n, zf_1_7, zp_1_7, zp_1_7n, zf_1_8, zp_1_8, zp_1_8n, zf_1_9, zp_1_9, zp_1_9n, zf_1_10, zp_1_10, zp_1_10n, zf_1_11, zp_1_11, zp_1_11n, zf_1_12, zp_1_12, zp_1_12n, zcur_r hc, zEC1 hc, e1, e2, if_pos c1, if_pos c, zbk_v, zts_s, ↓reduceIte, List.cons_append, List.nil_append]
    · have q : yrk (ycur w).1 x k (n + 1) = yrk (ycur w).1 x (k + 1) n := by conv => lhs; unfold yrk; rw [if_neg c]
      obtain ⟨i1, i2⟩ := ih (k + 1) h1 (by omega) s1
      have eb : zrun zP sv (zcall zP sv (d + 47)) 60 28 [.val (.ref m), .val (.int x), .val (.int (nI k))] [] h1 = zrun zP sv (zcall zP sv (d + 47)) 60 6 [.val (.ref m), .val (.int x), .val (.int (nI (k + 1)))] [] h1 := by rw [zs_60_28, zs_60_31, nI_1']
      have e : zrun zP sv (zcall zP sv (d + 47)) 60 6 [.val (.ref m), .val (.int x), .val (.int (nI k))] [] h = zrun zP sv (zcall zP sv (d + 47)) 60 6 [.val (.ref m), .val (.int x), .val (.int (nI (k + 1)))] [] h1 := by
        rw [← eb]
        simp only [zs_60_6, zs_60_7, zs_60_8, zs_60_11, zs_60_14, zs_60_17, zs_60_18, zs_60_19, zs_60_22, zs_60_23, q1, zECc, zrc_1, zf_1_0, zp_1_0, zp_1_0n, zf_1_1, zp_1_1, zf_1_2, zp_1_2, zp_1_2n, zf_1_3, zp_1_3, zp_1_3n, zf_1_4, zp_1_40, zp_1_41, zf_1_5, zp_1_5, zp_1_5n, zf_1_6, zp_1_6, zp_1_6n, zf_1_7, zp_1_7, zp_1_7n, zf_1_8, zp_1_8, zp_1_8n, zf_1_9, zp_1_9, zp_1_9n, zf_1_10, zp_1_10, zp_1_10n, zf_1_11, zp_1_11, zp_1_11n, zf_1_12, zp_1_12, zp_1_12n, zcur_r hc, zEC1 hc, e1, e2, if_pos c1, if_neg c, zbk_v, zts_s, ↓reduceIte, List.cons_append, List.nil_append]
      rw [q, e]
      refine ⟨fun c' hy => ?_, fun hy => ?_⟩
      · obtain ⟨h2, e3, s3, f3⟩ := i1 c' hy
        exact ⟨h2, e3, s3, zfr_tr f1 f3⟩
      · obtain ⟨h2, e3, s3, f3⟩ := i2 hy
        exact ⟨h2, e3, s3, zfr_tr f1 f3⟩
theorem yrk_neg {T : List yT} {x : Int32} (hx : x < 0) : ∀ n k, k + n ≤ T.length → T.length ≤ 6 → yrk T x k n = none
  | 0, _, _, _ => rfl
  | n + 1, k, h1, h6 => by
    have hle : ybn T k T.length ≤ T.length := by
      have := List.countP_le_length (p := ybe T k) (l := List.range T.length)
      rw [List.length_range] at this
      exact this
    have c : ¬ nI (ybn T k T.length) = x := fun z => by
      rw [← z] at hx
      exact nI_pos (n := ybn T k T.length) (by omega) hx
    unfold yrk
    rw [if_neg c]
    exact yrk_neg hx n (k + 1) (by omega) h6
theorem d_60k {x : Int32} {k : Nat} (hc : zCls h m w) (hk : yrk (ycur w).1 x 0 (ycur w).1.length = some k) : zEnd h m (zcall zP sv (d + 48) 60 [.ref m, .int x] h) 0 0 (.inl (some (.int (nI k)))) w := by
  have hA := zcur_ok hc
  have c0 : ¬ x < 0 := fun z => by
    rw [yrk_neg z _ 0 (by omega) hA.1] at hk
    cases hk
  obtain ⟨h', e, s, f⟩ := (d_60l (sv := sv) (d := d) (m := m) (x := x) (ycur w).1.length 0 h (Nat.zero_add _) hc).1 k hk
  rw [nI_0] at e
  refine ⟨h', ?_, s, zfr_fx f (by omega) (by omega)⟩
  rw [← e]
  simp (disch := first | exact znw_u | exact znw_i) only [zc_60, zs_60_0, zs_60_1, zs_60_4, zs_60_5, if_neg c0]
theorem d_60n {x : Int32} (hc : zCls h m w) (hk : yrk (ycur w).1 x 0 (ycur w).1.length = none) : zEnd h m (zcall zP sv (d + 48) 60 [.ref m, .int x] h) 1 6 (.inr 4) w := by
  by_cases c0 : x < 0
  · obtain ⟨t1, t2⟩ := zthrow hc
    refine ⟨_, ?_, t1, t2⟩
    simp (disch := first | exact znw_u | exact znw_i) only [zc_60, zs_60_0, zs_60_1, zs_60_34, if_pos c0, zext_of]
  · obtain ⟨h', e, s, f⟩ := (d_60l (sv := sv) (d := d) (m := m) (x := x) (ycur w).1.length 0 h (Nat.zero_add _) hc).2 hk
    rw [nI_0] at e
    obtain ⟨t1, t2⟩ := zthrow s
    refine ⟨_, ?_, t1, zfx_fr_l f t2 (by omega) (by omega)⟩
    rw [← e]
    simp (disch := first | exact znw_u | exact znw_i) only [zc_60, zs_60_0, zs_60_1, zs_60_4, zs_60_5, if_neg c0]
end ZRG

section ZRH
variable {sv : Nat → Value} {d : Nat} {m t g : Nat} {ns : List yN}
/-- a node's slope, from its parts' slopes a, b and values x, y -/
def yst2 (c k v a b x y : Int32) : Int32 := if k = nI 42 then a * y + x * b else if k = nI 99 ∨ k = nI 118 then (if k = nI 118 ∧ v = c then nI 1 else 0) else yop k a b
def ysl2 (T : List Int32) (c : Int32) : yT → Int32
  | .leaf => 0
  | .inner _ k v l r => yst2 c k v (ysl2 T c l) (ysl2 T c r) (yfo (yfR T) l) (yfo (yfR T) r)
def yQs (f : yT → Int32) (ns : List yN) (A : List Int32) (i : Nat) : Prop := ∀ (j : Nat) (t : yT), j < i → (ytm ns)[j]? = some t → A[j]? = some (f t)
theorem yQs_g {f : yT → Int32} {A : List Int32} {i : Nat} {x : Int32} (h0 : f .leaf = 0) (hq : yQs f ns A i) (hx : ych i x) (hi : i ≤ ns.length) (hl : ns.length < 2 ^ 31) : yg A x = f (ygt (ytm ns) x) := by
  rcases hx with rfl | ⟨j, hj, rfl⟩
  · rw [yg_n, ygt_n, h0]
  · have e1 : (ytm ns)[j]? = some ((ytm ns)[j]'(by rw [ytm_l]; omega)) := List.getElem?_eq_getElem _
    rw [yg_e (by omega) (hq j _ hj e1), ygt_k (by omega), List.getD_eq_getElem?_getD, e1]
    rfl
theorem yQs_s {f : yT → Int32} {A : List Int32} {i : Nat} {nd : yN} {y : Int32} (hw : ywf ns) (hi : ns[i]? = some nd) (hA : i < A.length) (hy : y = f (ymk nd.1 nd.2.1 (ygt (ytm ns) nd.2.2.1) (ygt (ytm ns) nd.2.2.2))) (hq : yQs f ns A i) : yQs f ns (A.set i y) (i + 1) := by
  intro j t hj ht
  by_cases h1 : j = i
  · subst h1
    rw [ytm_at hw hi] at ht
    injection ht with ht
    subst ht
    rw [List.getElem?_set_self hA, hy]
  · rw [List.getElem?_set_ne (Ne.symm h1)]
    exact hq j t (by omega) ht
theorem d_124 {h : zH} {i : Nat} {nd : yN} {A B C : List Int32} {c : Int32} (ht : zTre h t m ns) (hg : zGau h g A B C) (hnd : ns[i]? = some nd) : zcall zP sv (d + 4) 124 [.ref g, .ref t, .int (nI i), .int c] h = some (.inl (some (.int (yst2 c nd.1 nd.2.1 (yg B nd.2.2.1) (yg B nd.2.2.2) (yg A nd.2.2.1) (yg A nd.2.2.2)))), h) := by
  have e0 := hg.1
  have e188 : zcall zP sv (d + 3) 188 [.ref t, .int (nI i), .int c] h = _ := d_188 (d := d) ht hnd
  unfold yst2
  have n1 : ¬ nI 99 = nI 118 := by decide +kernel
  by_cases h1 : nd.1 = nI 42
  · simp (disch := first | exact znw_u | exact znw_i) only [zc_124, zs_124_0, zs_124_1, zs_124_2, zs_124_5, zs_124_7, zs_124_8, zs_124_9, zs_124_12, zs_124_14, zs_124_15, zs_124_16, zs_124_19, zs_124_21, zs_124_23, zs_124_25, zs_124_28, zs_124_29, zs_124_32, zs_124_34, zs_124_37, zs_124_38, zs_124_41, zs_124_43, zs_124_46, zs_124_47, zs_124_48, zs_124_51, zs_124_53, zs_124_56, zs_124_57, zs_124_60, zs_124_62, zs_124_65, zs_124_66, zs_124_67, zs_124_68, zs_124_70, zs_124_72, zs_124_75, zs_124_77, zs_124_79, zs_124_82, zs_124_83, zs_124_84, zs_124_85, zs_124_88, zs_124_91, zs_124_92, zs_124_95, zs_124_96, zs_124_97, zs_124_99, zs_124_100, zs_124_103, zs_124_105, zs_124_108, zs_124_109, zs_124_112, zs_124_114, zs_124_117, zs_124_120, zTre_rc ht, e0, zGc, zrc_10, zf_10_0, zp_10_0, zp_10_0n, zf_10_1, zp_10_1, zp_10_1n, zf_10_2, zp_10_2, zp_10_2n, zRow_rc hg.2.1, d_165 hg.2.1, zRow_rc hg.2.2.1, d_165 hg.2.2.1, d_184 ht hnd, d_186 ht hnd, d_187 ht hnd, zbk_v, zts_s, if_pos h1, List.cons_append, List.nil_append]
  · rw [if_neg h1]
    by_cases h2 : nd.1 = nI 99
    · have h3 : ¬ (nd.1 = nI 118 ∧ nd.2.1 = c) := fun z => n1 (by rw [← h2, z.1])
      rw [if_pos (Or.inl h2)]
      rw [if_neg h3] at e188 ⊢
      simp (disch := first | exact znw_u | exact znw_i) only [zc_124, zs_124_0, zs_124_1, zs_124_2, zs_124_5, zs_124_7, zs_124_8, zs_124_9, zs_124_12, zs_124_14, zs_124_15, zs_124_16, zs_124_19, zs_124_21, zs_124_23, zs_124_25, zs_124_28, zs_124_29, zs_124_32, zs_124_34, zs_124_37, zs_124_38, zs_124_41, zs_124_43, zs_124_46, zs_124_47, zs_124_48, zs_124_51, zs_124_53, zs_124_56, zs_124_57, zs_124_60, zs_124_62, zs_124_65, zs_124_66, zs_124_67, zs_124_68, zs_124_70, zs_124_72, zs_124_75, zs_124_77, zs_124_79, zs_124_82, zs_124_83, zs_124_84, zs_124_85, zs_124_88, zs_124_91, zs_124_92, zs_124_95, zs_124_96, zs_124_97, zs_124_99, zs_124_100, zs_124_103, zs_124_105, zs_124_108, zs_124_109, zs_124_112, zs_124_114, zs_124_117, zs_124_120, zTre_rc ht, e0, zGc, zrc_10, zf_10_0, zp_10_0, zp_10_0n, zf_10_1, zp_10_1, zp_10_1n, zf_10_2, zp_10_2, zp_10_2n, d_184 ht hnd, d_186 ht hnd, d_187 ht hnd, e188, zbk_v, zts_s, if_neg h1, if_pos h2, ↓reduceIte, List.cons_append, List.nil_append]
    · by_cases h3 : nd.1 = nI 118
      · rw [if_pos (Or.inr h3)]
        by_cases h4 : nd.1 = nI 118 ∧ nd.2.1 = c
        · rw [if_pos h4] at e188 ⊢
          simp (disch := first | exact znw_u | exact znw_i) only [zc_124, zs_124_0, zs_124_1, zs_124_2, zs_124_5, zs_124_7, zs_124_8, zs_124_9, zs_124_12, zs_124_14, zs_124_15, zs_124_16, zs_124_19, zs_124_21, zs_124_23, zs_124_25, zs_124_28, zs_124_29, zs_124_32, zs_124_34, zs_124_37, zs_124_38, zs_124_41, zs_124_43, zs_124_46, zs_124_47, zs_124_48, zs_124_51, zs_124_53, zs_124_56, zs_124_57, zs_124_60, zs_124_62, zs_124_65, zs_124_66, zs_124_67, zs_124_68, zs_124_70, zs_124_72, zs_124_75, zs_124_77, zs_124_79, zs_124_82, zs_124_83, zs_124_84, zs_124_85, zs_124_88, zs_124_91, zs_124_92, zs_124_95, zs_124_96, zs_124_97, zs_124_99, zs_124_100, zs_124_103, zs_124_105, zs_124_108, zs_124_109, zs_124_112, zs_124_114, zs_124_117, zs_124_120, zTre_rc ht, e0, zGc, zrc_10, zf_10_0, zp_10_0, zp_10_0n, zf_10_1, zp_10_1, zp_10_1n, zf_10_2, zp_10_2, zp_10_2n, d_184 ht hnd, d_186 ht hnd, d_187 ht hnd, e188, zbk_v, zts_s, if_neg h1, if_neg h2, if_pos h3, nI_1e0, ↓reduceIte, List.cons_append, List.nil_append]
        · rw [if_neg h4] at e188 ⊢
          simp (disch := first | exact znw_u | exact znw_i) only [zc_124, zs_124_0, zs_124_1, zs_124_2, zs_124_5, zs_124_7, zs_124_8, zs_124_9, zs_124_12, zs_124_14, zs_124_15, zs_124_16, zs_124_19, zs_124_21, zs_124_23, zs_124_25, zs_124_28, zs_124_29, zs_124_32, zs_124_34, zs_124_37, zs_124_38, zs_124_41, zs_124_43, zs_124_46, zs_124_47, zs_124_48, zs_124_51, zs_124_53, zs_124_56, zs_124_57, zs_124_60, zs_124_62, zs_124_65, zs_124_66, zs_124_67, zs_124_68, zs_124_70, zs_124_72, zs_124_75, zs_124_77, zs_124_79, zs_124_82, zs_124_83, zs_124_84, zs_124_85, zs_124_88, zs_124_91, zs_124_92, zs_124_95, zs_124_96, zs_124_97, zs_124_99, zs_124_100, zs_124_103, zs_124_105, zs_124_108, zs_124_109, zs_124_112, zs_124_114, zs_124_117, zs_124_120, zTre_rc ht, e0, zGc, zrc_10, zf_10_0, zp_10_0, zp_10_0n, zf_10_1, zp_10_1, zp_10_1n, zf_10_2, zp_10_2, zp_10_2n, d_184 ht hnd, d_186 ht hnd, d_187 ht hnd, e188, zbk_v, zts_s, if_neg h1, if_neg h2, if_pos h3, ↓reduceIte, List.cons_append, List.nil_append]
      · rw [if_neg (fun z => z.elim h2 h3)]
        simp (disch := first | exact znw_u | exact znw_i) only [zc_124, zs_124_0, zs_124_1, zs_124_2, zs_124_5, zs_124_7, zs_124_8, zs_124_9, zs_124_12, zs_124_14, zs_124_15, zs_124_16, zs_124_19, zs_124_21, zs_124_23, zs_124_25, zs_124_28, zs_124_29, zs_124_32, zs_124_34, zs_124_37, zs_124_38, zs_124_41, zs_124_43, zs_124_46, zs_124_47, zs_124_48, zs_124_51, zs_124_53, zs_124_56, zs_124_57, zs_124_60, zs_124_62, zs_124_65, zs_124_66, zs_124_67, zs_124_68, zs_124_70, zs_124_72, zs_124_75, zs_124_77, zs_124_79, zs_124_82, zs_124_83, zs_124_84, zs_124_85, zs_124_88, zs_124_91, zs_124_92, zs_124_95, zs_124_96, zs_124_97, zs_124_99, zs_124_100, zs_124_103, zs_124_105, zs_124_108, zs_124_109, zs_124_112, zs_124_114, zs_124_117, zs_124_120, zTre_rc ht, e0, zGc, zrc_10, zf_10_0, zp_10_0, zp_10_0n, zf_10_1, zp_10_1, zp_10_1n, zf_10_2, zp_10_2, zp_10_2n, zRow_rc hg.2.2.1, d_165 hg.2.2.1, d_184 ht hnd, d_186 ht hnd, d_187 ht hnd, d_84, zbk_v, zts_s, if_neg h1, if_neg h2, if_neg h3, List.cons_append, List.nil_append]
theorem d_123l {l : Nat} {T : List Int32} {c : Int32} (hw : ywf ns) (hd : g + 7 ≤ t ∨ t + 9 ≤ g) (hn : ns.length ≤ 124) (hdl : g + 7 ≤ l ∨ l + 2 ≤ g) : ∀ n i (h : zH) (A B C : List Int32), i + n = ns.length → zTre h t m ns → zGau h g A B C → zRow h l T → yQ (yfR T) ns A i → yQs (ysl2 T c) ns B i → ∃ h' A' B', zrun zP sv (zcall zP sv (d + 4)) 123 3 [.val (.ref g), .val (.ref t), .val (.int c), .val (.ref l), .val (.int (nI i))] [] h = some (.inl (some (.int (yg B' (nI ns.length - nI 1)))), h') ∧ zGau h' g A' B' C ∧ yQ (yfR T) ns A' ns.length ∧ yQs (ysl2 T c) ns B' ns.length ∧ zfr g (g + 7) h h' := by
  intro n
  induction n with
  | zero =>
    intro i h A B C hi ht hg hl2 hq hs
    obtain rfl : i = ns.length := by omega
    have f0 : ¬ nI ns.length < nI ns.length := nI_nlt (Nat.le_refl _) hw.1
    have e0 := hg.1
    refine ⟨h, A, B, ?_, hg, hq, hs, zfr_rfl⟩
    simp only [zs_123_0, zs_123_1, zs_123_3, zs_123_5, zs_123_6, zs_123_9, zs_123_12, zs_123_13, zs_123_16, zs_123_18, zs_123_19, zs_123_20, zs_123_22, zs_123_23, zs_123_26, zs_123_29, zs_123_30, zs_123_33, zs_123_35, zs_123_36, zs_123_37, zs_123_39, zs_123_40, zs_123_43, zs_123_52, zs_123_53, zs_123_56, zs_123_57, zs_123_60, zs_123_63, zTre_rc ht, d_182 ht, d_183 ht, if_neg f0, e0, zGc, zrc_10, zf_10_0, zp_10_0, zp_10_0n, zf_10_1, zp_10_1, zp_10_1n, zf_10_2, zp_10_2, zp_10_2n, zRow_rc hg.2.2.1, d_165 hg.2.2.1, zbk_v, zts_s, List.cons_append, List.nil_append]
  | succ n ih =>
    intro i h A B C hi ht hg hl2 hq hs
    obtain ⟨nd, hnd⟩ := ynd_ex (ns := ns) (i := i) (by omega)
    have hl := hw.1
    have hch := hw.2 i nd hnd
    have f0 : nI i < nI ns.length := nI_lt (by omega) hl
    have e0 := hg.1
    have hA := hg.2.2.2.2.1
    have hB := hg.2.2.2.2.2.1
    have s0 : ysl2 T c .leaf = 0 := rfl
    obtain ⟨y, hy⟩ : ∃ y, y = yst2 c nd.1 nd.2.1 (yg B nd.2.2.1) (yg B nd.2.2.2) (yg A nd.2.2.1) (yg A nd.2.2.2) := ⟨_, rfl⟩
    have hy2 : y = ysl2 T c (ymk nd.1 nd.2.1 (ygt (ytm ns) nd.2.2.1) (ygt (ytm ns) nd.2.2.2)) := by
      rw [hy, yQs_g s0 hs hch.1 (by omega) hl, yQs_g s0 hs hch.2 (by omega) hl, yQ_g hq hch.1 (by omega) hl, yQ_g hq hch.2 (by omega) hl]
      rfl
    have k1 : zcall zP sv (d + 4) 124 [.ref g, .ref t, .int (nI i), .int c] h = _ := d_124 (d := d) ht hg hnd
    rw [← hy] at k1
    have e1 : zcall zP sv (d + 4) 166 [.ref (g + 3), .int (nI i), .int y] h = _ := d_166 (d := d + 3) hg.2.2.1
    have g1 := zGau_2 (A' := ys B (nI i) y) hg (by rw [ys_len, hB])
    have f1 : zfr g (g + 7) h (zup h (g + 3 + 1) (20, (ys B (nI i) y).map Value.int)) := zfr_up (by omega) (by omega)
    obtain ⟨h1, hh1⟩ : ∃ h1, h1 = zup h (g + 3 + 1) (20, (ys B (nI i) y).map Value.int) := ⟨_, rfl⟩
    rw [← hh1] at e1 g1 f1
    have ht1 := zTre_fr ht f1 (by omega)
    have hr1 := zRow_fr hl2 f1 (by omega)
    have e01 := g1.1
    have k2 : zcall zP sv (d + 4) 122 [.ref g, .ref t, .int (nI i), .ref l] h1 = _ := d_122 (d := d + 1) ht1 g1 hnd hr1
    have e2 : zcall zP sv (d + 4) 166 [.ref (g + 1), .int (nI i), .int (yfR T nd.1 nd.2.1 (yg A nd.2.2.1) (yg A nd.2.2.2))] h1 = _ := d_166 (d := d + 3) g1.2.1
    have g2 := zGau_1 (A' := ys A (nI i) (yfR T nd.1 nd.2.1 (yg A nd.2.2.1) (yg A nd.2.2.2))) g1 (by rw [ys_len, hA])
    have f2 : zfr g (g + 7) h1 (zup h1 (g + 1 + 1) (20, (ys A (nI i) (yfR T nd.1 nd.2.1 (yg A nd.2.2.1) (yg A nd.2.2.2))).map Value.int)) := zfr_up (by omega) (by omega)
    obtain ⟨h2, hh2⟩ : ∃ h2, h2 = zup h1 (g + 1 + 1) (20, (ys A (nI i) (yfR T nd.1 nd.2.1 (yg A nd.2.2.1) (yg A nd.2.2.2))).map Value.int) := ⟨_, rfl⟩
    rw [← hh2] at e2 g2 f2
    have q1 := yQ_s hw hnd (by omega) hq
    have q2 := yQs_s (f := ysl2 T c) (A := B) (y := y) hw hnd (by omega) hy2 hs
    rw [ys_k (by omega), ys_k (by omega)] at g2
    obtain ⟨h', A', B', e3, w1, w2, w3, w4⟩ := ih (i + 1) h2 _ _ _ (by omega) (zTre_fr ht1 f2 (by omega)) g2 (zRow_fr hr1 f2 (by omega)) q1 q2
    refine ⟨h', A', B', ?_, w1, w2, w3, zfr_tr (zfr_tr f1 f2) w4⟩
    rw [← e3]
    have eb : zrun zP sv (zcall zP sv (d + 4)) 123 46 [.val (.ref g), .val (.ref t), .val (.int c), .val (.ref l), .val (.int (nI i))] [] h2 = zrun zP sv (zcall zP sv (d + 4)) 123 3 [.val (.ref g), .val (.ref t), .val (.int c), .val (.ref l), .val (.int (nI (i + 1)))] [] h2 := by rw [zs_123_46, zs_123_49, nI_1']
    rw [← eb]
    have r3 : ∀ X : zR, zrc (h.1 (g + 3)) 4 X = X := fun X => zRow_rc hg.2.2.1
    have r1 : ∀ X : zR, zrc (h1.1 (g + 1)) 4 X = X := fun X => zRow_rc g1.2.1
    simp (disch := first | exact znw_u | exact znw_i) only [zs_123_0, zs_123_1, zs_123_3, zs_123_5, zs_123_6, zs_123_9, zs_123_12, zs_123_13, zs_123_16, zs_123_18, zs_123_19, zs_123_20, zs_123_22, zs_123_23, zs_123_26, zs_123_29, zs_123_30, zs_123_33, zs_123_35, zs_123_36, zs_123_37, zs_123_39, zs_123_40, zs_123_43, zs_123_52, zs_123_53, zs_123_56, zs_123_57, zs_123_60, zs_123_63, zTre_rc ht, d_182 ht, e0, e01, zGc, zrc_10, zf_10_0, zp_10_0, zp_10_0n, zf_10_1, zp_10_1, zp_10_1n, zf_10_2, zp_10_2, zp_10_2n, r3, r1, zGau_rc hg, zGau_rc g1, if_pos f0, k1, e1, k2, e2, zbk_v, zts_s, zts_n, List.cons_append, List.nil_append]
theorem d_123 {h : zH} {l : Nat} {T : List Int32} {c : Int32} {A B C : List Int32} (hw : ywf ns) (hd : g + 7 ≤ t ∨ t + 9 ≤ g) (hn : ns.length ≤ 124) (hdl : g + 7 ≤ l ∨ l + 2 ≤ g) (ht : zTre h t m ns) (hg : zGau h g A B C) (hl2 : zRow h l T) : ∃ h' A' B', zcall zP sv (d + 5) 123 [.ref g, .ref t, .int c, .ref l] h = some (.inl (some (.int (yg B' (nI ns.length - nI 1)))), h') ∧ zGau h' g A' B' C ∧ yQ (yfR T) ns A' ns.length ∧ yQs (ysl2 T c) ns B' ns.length ∧ zfr g (g + 7) h h' := by
  obtain ⟨h', A', B', e, w⟩ := d_123l (sv := sv) (d := d) (m := m) (c := c) hw hd hn hdl ns.length 0 h A B C (Nat.zero_add _) ht hg hl2 yQ_0 (fun j t hj => absurd hj (Nat.not_lt_zero j))
  refine ⟨h', A', B', ?_, w⟩
  rw [nI_0] at e
  rw [← e]
  simp (disch := first | exact znw_u | exact znw_i) only [zc_123, zs_123_0, zs_123_1]
end ZRH
section ZRI
variable {sv : Nat → Value} {d : Nat} {h : zH} {m : Nat} {w : yW} {i : Nat} {t : yT}
theorem d_47 {c : Int32} (hc : zCls h m w) (hi : (ycur w).1[i]? = some t) (hl : ylet c = true) : zEnd h m (zcall zP sv (d + 48) 47 [.ref m, .int (nI i), .int c] h) 0 0 (.inl (some (.int (ysl2 (ycur w).2.1 c t)))) w := by
  have q1 := zCls_0 hc
  obtain ⟨a, e0, a1, a2, a3, a4⟩ := d_70k (sv := sv) (d := d + 45) hc hi
  have hsz := a4.2.1
  obtain ⟨f1, f2, f3, f4⟩ := yform a4.1 (by omega)
  obtain ⟨A, B, C, hg⟩ := zgau_ex hc
  obtain ⟨S, s1, s2⟩ := zcur_ex hc
  have hV : S.2.1 = (ycur w).2.1 := by rw [s2.1]
  have s3 := s1.2.2.1
  rw [hV] at s3
  have e72 : zcall zP sv (d + 47) 72 [.int c] h = _ := d_72 (d := d + 46) hl
  obtain ⟨h1, A', B', e1, g1, _, r1, f5⟩ := d_123 (sv := sv) (d := d + 42) (c := c) f1 (show m + 78 + 7 ≤ a ∨ a + 9 ≤ m + 78 by omega) (by omega) (show m + 78 + 7 ≤ m + 3 + 2 ∨ m + 3 + 2 + 2 ≤ m + 78 by omega) a3 hg s3
  rw [yroot_sub f4, yQs_g (f := ysl2 (ycur w).2.1 c) rfl r1 (Or.inr ⟨ysz t - 1, by omega, rfl⟩) (Nat.le_refl _) f1.1, f2] at e1
  refine zEnd_q hc ?_ f5 g1
  simp (disch := exact znw_u) only [zc_47, zs_47_0, zs_47_1, zs_47_2, zs_47_5, zs_47_6, zs_47_7, zs_47_10, zs_47_11, zs_47_14, zs_47_15, zs_47_16, zs_47_17, zs_47_20, zs_47_23, zs_47_26, q1, zECc, zrc_1, zf_1_0, zp_1_0, zp_1_0n, zf_1_1, zp_1_1, zf_1_2, zp_1_2, zp_1_2n, zf_1_3, zp_1_3, zp_1_3n, zf_1_4, zp_1_40, zp_1_41, zf_1_5, zp_1_5, zp_1_5n, zf_1_6, zp_1_6, zp_1_6n, zf_1_7, zp_1_7, zp_1_7n, zf_1_8, zp_1_8, zp_1_8n, zf_1_9, zp_1_9, zp_1_9n, zf_1_10, zp_1_10, zp_1_10n, zf_1_11, zp_1_11, zp_1_11n, zf_1_12, zp_1_12, zp_1_12n, zEC1 hc, e0, e72, zSta_rc s1, d_170 s1, zGau_rc hg, e1, zbk_v, zts_s, zts_n, List.cons_append, List.nil_append]
/-- a tree's derivative in the rough tree -/
theorem d_der {a : Nat} {c : Int32} (hc : zCls h m w) (a1 : m + 139 ≤ a) (a3 : zTre h a (ysz t) (ypo 0 t)) (a4 : ytok t) : ∃ h1 os x, zcall zP sv (d + 47) 93 [.ref (m + 75), .ref a, .int c, .ref (m + 45)] h = some (.inl (some (.int x)), h1) ∧ zCls h1 m w ∧ zTre h1 (m + 45) 124 os ∧ ywf os ∧ os.length ≤ 124 ∧ ych os.length x ∧ ygt (ytm os) x = yder c t ∧ zf2 (m + 45) (m + 54) (m + 75) (m + 78) h h1 ∧ ∀ X : zR, zrc (h.1 (m + 75)) 9 X = X := by
  have cs := hc.2.2.2.2.2.2.1
  have hsz := a4.2.1
  have hdp := a4.2.2
  obtain ⟨f1, f2, f3, f4⟩ := yform a4.1 (by omega)
  obtain ⟨n1, b1⟩ := cs.1
  obtain ⟨P, b3⟩ := cs.2.2.1
  have hbd : yBd 8 (ypo 0 t) := yform_bd a4.1 (by omega) hdp
  obtain ⟨h1, os, P1, x, e1, o1, o2, oB, o3, o4, o5, o6, o7⟩ := d_93 (sv := sv) (d := d + 42) (c := c) f1 (by omega) (by omega) (show a + 9 ≤ m + 45 ∨ m + 45 + 9 ≤ a by omega) (show a + 9 ≤ m + 75 ∨ m + 75 + 3 ≤ a by omega) (by omega) a3 b1 b3 (B := 16) (fun j u hu => by
    have h8 := ydp_yder (c := c) u
    have h9 := hbd j u hu
    omega) (fun j u hu => by
    have h9 := hbd j u hu
    omega)
  rw [f3, f2] at o6
  have C1 := zCls_f2 hc o7 (by omega) (by omega) (by omega) (by omega) (by omega) (by omega) (zScr_ro cs o7 o3 o4)
  exact ⟨h1, os, x, e1, C1, o3, o2, o1, o5, o6, o7, fun X => by rw [b3.1]; exact zrc_k⟩
/-- the value of a tree at a root, in the rough tree -/
theorem d_val {os : List yN} {x : Int32} (hc : zCls h m w) (ht : zTre h (m + 45) 124 os) (hw : ywf os) (hl : os.length ≤ 124) (hx : ych os.length x) : ∃ h', zcall zP sv (d + 47) 121 [.ref (m + 78), .ref (m + 45), .int x, .ref (m + 3 + 2)] h = some (.inl (some (.int (yfo (yfR (ycur w).2.1) (ygt (ytm os) x)))), h') ∧ zCls h' m w ∧ zfr (m + 78) (m + 85) h h' ∧ (∀ X : zR, zrc (h.1 (m + 78)) 10 X = X) ∧ zcall zP sv (d + 47) 170 [.ref (m + 3)] h = some (.inl (some (.ref (m + 3 + 2))), h) := by
  obtain ⟨A, B, C, hg⟩ := zgau_ex hc
  obtain ⟨S, s1, s2⟩ := zcur_ex hc
  have hV : S.2.1 = (ycur w).2.1 := by rw [s2.1]
  have s3 := s1.2.2.1
  rw [hV] at s3
  obtain ⟨h1, A', e1, g1, r1, f5⟩ := d_121 (sv := sv) (d := d + 43) (rt := x) hw (show m + 78 + 7 ≤ m + 45 ∨ m + 45 + 9 ≤ m + 78 by omega) (by omega) (show m + 78 + 7 ≤ m + 3 + 2 ∨ m + 3 + 2 + 2 ≤ m + 78 by omega) ht hg s3
  rw [yQ_g r1 hx (Nat.le_refl _) hw.1] at e1
  exact ⟨h1, e1, zCls_g hc f5 g1, f5, fun X => zGau_rc hg, d_170 s1⟩
theorem zf2_fx {h' : zH} {a b c e lo hi : Nat} (hf : zf2 a b c e h h') (h1 : lo ≤ a) (h2 : b ≤ hi) (h3 : lo ≤ c) (h4 : e ≤ hi) : zfx lo hi 0 0 h h' := ⟨fun q _ hq => hf.1 q (by omega) (by omega), by rw [hf.2]; exact Nat.le_refl _, by rw [hf.2]; exact Nat.le_refl _, by rw [hf.2]; exact Nat.le_refl _⟩
theorem d_48 {c : Int32} (hc : zCls h m w) (hi : (ycur w).1[i]? = some t) (hl : ylet c = true) : zEnd h m (zcall zP sv (d + 48) 48 [.ref m, .int (nI i), .int c] h) 0 0 (.inl (some (.int (yfo (yfR (ycur w).2.1) (yder c t))))) w := by
  have q1 := zCls_0 hc
  obtain ⟨a, e0, a1, a2, a3, a4⟩ := d_70k (sv := sv) (d := d + 45) hc hi
  have e72 : zcall zP sv (d + 47) 72 [.int c] h = _ := d_72 (d := d + 46) hl
  obtain ⟨h1, os, x, e1, c1, t1, w1, l1, x1, x2, f1, r9⟩ := d_der (sv := sv) (d := d) (c := c) hc a1 a3 a4
  obtain ⟨h2, e2, c2, f2, r10, e170⟩ := d_val (sv := sv) (d := d) c1 t1 w1 l1 x1
  rw [x2] at e2
  have q2 := zCls_0 c1
  refine ⟨h2, ?_, c2, zfx_mono (zfx_tr (zf2_fx f1 (show m ≤ m + 45 by omega) (show m + 54 ≤ m + 119 by omega) (by omega) (by omega)) (zfr_fx f2 (by omega) (by omega))) (Nat.le_refl _) (Nat.le_refl _) (by omega) (by omega)⟩
  simp (disch := exact znw_u) only [zc_48, zs_48_0, zs_48_1, zs_48_2, zs_48_5, zs_48_6, zs_48_7, zs_48_10, zs_48_11, zs_48_14, zs_48_15, zs_48_16, zs_48_17, zs_48_20, zs_48_23, zs_48_25, zs_48_26, zs_48_29, zs_48_30, zs_48_33, zs_48_35, zs_48_36, zs_48_39, zs_48_42, zs_48_45, q1, q2, zECc, zrc_1, zf_1_0, zp_1_0, zp_1_0n, zf_1_1, zp_1_1, zf_1_2, zp_1_2, zp_1_2n, zf_1_3, zp_1_3, zp_1_3n, zf_1_4, zp_1_40, zp_1_41, zf_1_5, zp_1_5, zp_1_5n, zf_1_6, zp_1_6, zp_1_6n, zf_1_7, zp_1_7, zp_1_7n, zf_1_8, zp_1_8, zp_1_8n, zf_1_9, zp_1_9, zp_1_9n, zf_1_10, zp_1_10, zp_1_10n, zf_1_11, zp_1_11, zp_1_11n, zf_1_12, zp_1_12, zp_1_12n, zEC1 hc, e0, e72, r9, e1, zcur_r c1, e170, r10, e2, zbk_v, zts_s, zts_n, List.cons_append, List.nil_append]
end ZRI

section ZRJ
variable {sv : Nat → Value} {d : Nat} {u : Nat}
/-- the numbering: parts ps, numbers B -/
def zNmC (h : zH) (u : Nat) (ps : List yN) (B : List Int32) : Prop := h.1 u = (11, [.ref (u + 1), .ref (u + 10)]) ∧ zTre h (u + 1) 62 ps ∧ zRow h (u + 10) B ∧ B.length = 31
def yfd (nd : yN) : List yN → Nat → Option Nat
  | [], _ => none
  | x :: r, k => if x = nd then some k else yfd nd r (k + 1)
def ynst (ps : List yN) (nd : yN) : Int32 × List yN := match yfd nd ps 0 with
  | some k => (nI k, ps)
  | none => if ps.length < 62 then (nI ps.length, ps ++ [nd]) else (-1, ps)
theorem d_147l {h : zH} {ps : List yN} {B : List Int32} {nd : yN} (hc : zNmC h u ps B) : ∀ n j, j + n = ps.length → (∀ k, yfd nd (ps.drop j) j = some k → zrun zP sv (zcall zP sv (d + 2)) 147 3 [.val (.ref u), .val (.int nd.1), .val (.int nd.2.1), .val (.int nd.2.2.1), .val (.int nd.2.2.2), .val (.int (nI j))] [] h = some (.inl (some (.int (nI k))), h)) ∧ (yfd nd (ps.drop j) j = none → zrun zP sv (zcall zP sv (d + 2)) 147 3 [.val (.ref u), .val (.int nd.1), .val (.int nd.2.1), .val (.int nd.2.2.1), .val (.int nd.2.2.2), .val (.int (nI j))] [] h = zrun zP sv (zcall zP sv (d + 2)) 147 77 [.val (.ref u), .val (.int nd.1), .val (.int nd.2.1), .val (.int nd.2.2.1), .val (.int nd.2.2.2), .val (.int (nI ps.length))] [] h) := by
  obtain ⟨c0, ht, _⟩ := hc
  have hlen : ps.length ≤ 62 := by
    obtain ⟨K, N, L, R, _, _, ⟨_, _, _, _, z⟩, _⟩ := ht
    exact z
  have e1 : zcall zP sv (d + 2) 182 [.ref (u + 1)] h = _ := d_182 (d := d + 1) ht
  have r : ∀ X : zR, zrc (h.1 (u + 1)) 6 X = X := fun X => zTre_rc ht
  intro n
  induction n with
  | zero =>
    intro j hj
    obtain rfl : j = ps.length := by omega
    rw [List.drop_length]
    refine ⟨fun k hk => (by cases hk), fun _ => ?_⟩
    simp only [zs_147_3, zs_147_5, zs_147_6, zs_147_9, zs_147_12, c0, zrc_11, zf_11_0, zp_11_0, zp_11_0n, zf_11_1, zp_11_1, zp_11_1n, r, e1, zbk_v, zts_s, Int32.lt_irrefl, ↓reduceIte, List.cons_append, List.nil_append]
  | succ n ih =>
    intro j hj
    have c1 : nI j < nI ps.length := nI_lt (by omega) (by omega)
    obtain ⟨x, hx⟩ := ynd_ex (ns := ps) (i := j) (by omega)
    have hdr : ps.drop j = x :: ps.drop (j + 1) := by
      rw [List.drop_eq_getElem_cons (by omega)]
      rw [List.getElem?_eq_getElem (by omega)] at hx
      rw [Option.some.inj hx]
    have k4 : zcall zP sv (d + 2) 184 [.ref (u + 1), .int (nI j)] h = _ := d_184 (d := d) ht hx
    have k5 : zcall zP sv (d + 2) 185 [.ref (u + 1), .int (nI j)] h = _ := d_185 (d := d) ht hx
    have k6 : zcall zP sv (d + 2) 186 [.ref (u + 1), .int (nI j)] h = _ := d_186 (d := d) ht hx
    have k7 : zcall zP sv (d + 2) 187 [.ref (u + 1), .int (nI j)] h = _ := d_187 (d := d) ht hx
    have eb : zrun zP sv (zcall zP sv (d + 2)) 147 71 [.val (.ref u), .val (.int nd.1), .val (.int nd.2.1), .val (.int nd.2.2.1), .val (.int nd.2.2.2), .val (.int (nI j))] [] h = zrun zP sv (zcall zP sv (d + 2)) 147 3 [.val (.ref u), .val (.int nd.1), .val (.int nd.2.1), .val (.int nd.2.2.1), .val (.int nd.2.2.2), .val (.int (nI (j + 1)))] [] h := by rw [zs_147_71, zs_147_74, nI_1']
    obtain ⟨i1, i2⟩ := ih (j + 1) (by omega)
    rw [hdr]
    by_cases c : x = nd
    · subst c
      have q : yfd x (x :: ps.drop (j + 1)) j = some j := by unfold yfd; rw [if_pos rfl]
      rw [q]
      refine ⟨fun k hk => ?_, fun hk => (by cases hk)⟩
      cases hk
      simp only [zs_147_0, zs_147_1, zs_147_3, zs_147_5, zs_147_6, zs_147_9, zs_147_12, zs_147_15, zs_147_16, zs_147_19, zs_147_21, zs_147_24, zs_147_25, zs_147_28, zs_147_29, zs_147_32, zs_147_34, zs_147_37, zs_147_38, zs_147_41, zs_147_42, zs_147_45, zs_147_47, zs_147_50, zs_147_51, zs_147_54, zs_147_55, zs_147_58, zs_147_60, zs_147_63, zs_147_65, zs_147_68, zs_147_70, zs_147_78, zs_147_81, zs_147_82, zs_147_83, zs_147_84, zs_147_86, zs_147_89, c0, zrc_11, zf_11_0, zp_11_0, zp_11_0n, zf_11_1, zp_11_1, zp_11_1n, r, e1, k4, k5, k6, k7, if_pos c1, zbk_v, zts_s, ↓reduceIte, List.cons_append, List.nil_append]
    · have q : yfd nd (x :: ps.drop (j + 1)) j = yfd nd (ps.drop (j + 1)) (j + 1) := by conv => lhs; unfold yfd; rw [if_neg c]
      have e : zrun zP sv (zcall zP sv (d + 2)) 147 3 [.val (.ref u), .val (.int nd.1), .val (.int nd.2.1), .val (.int nd.2.2.1), .val (.int nd.2.2.2), .val (.int (nI j))] [] h = zrun zP sv (zcall zP sv (d + 2)) 147 3 [.val (.ref u), .val (.int nd.1), .val (.int nd.2.1), .val (.int nd.2.2.1), .val (.int nd.2.2.2), .val (.int (nI (j + 1)))] [] h := by
        rw [← eb]
        by_cases p1 : x.1 = nd.1
        · by_cases p2 : x.2.1 = nd.2.1
          · by_cases p3 : x.2.2.1 = nd.2.2.1
            · have p4 : ¬ x.2.2.2 = nd.2.2.2 := fun z => c (Prod.ext p1 (Prod.ext p2 (Prod.ext p3 z)))
              simp only [zs_147_0, zs_147_1, zs_147_3, zs_147_5, zs_147_6, zs_147_9, zs_147_12, zs_147_15, zs_147_16, zs_147_19, zs_147_21, zs_147_24, zs_147_25, zs_147_28, zs_147_29, zs_147_32, zs_147_34, zs_147_37, zs_147_38, zs_147_41, zs_147_42, zs_147_45, zs_147_47, zs_147_50, zs_147_51, zs_147_54, zs_147_55, zs_147_58, zs_147_60, zs_147_63, zs_147_65, zs_147_68, zs_147_70, zs_147_78, zs_147_81, zs_147_82, zs_147_83, zs_147_84, zs_147_86, zs_147_89, c0, zrc_11, zf_11_0, zp_11_0, zp_11_0n, zf_11_1, zp_11_1, zp_11_1n, r, e1, k4, k5, k6, k7, if_pos c1, if_pos p1, if_pos p2, if_pos p3, if_neg p4, zbk_v, zts_s, List.cons_append, List.nil_append]
            · simp only [zs_147_0, zs_147_1, zs_147_3, zs_147_5, zs_147_6, zs_147_9, zs_147_12, zs_147_15, zs_147_16, zs_147_19, zs_147_21, zs_147_24, zs_147_25, zs_147_28, zs_147_29, zs_147_32, zs_147_34, zs_147_37, zs_147_38, zs_147_41, zs_147_42, zs_147_45, zs_147_47, zs_147_50, zs_147_51, zs_147_54, zs_147_55, zs_147_58, zs_147_60, zs_147_63, zs_147_65, zs_147_68, zs_147_70, zs_147_78, zs_147_81, zs_147_82, zs_147_83, zs_147_84, zs_147_86, zs_147_89, c0, zrc_11, zf_11_0, zp_11_0, zp_11_0n, zf_11_1, zp_11_1, zp_11_1n, r, e1, k4, k5, k6, if_pos c1, if_pos p1, if_pos p2, if_neg p3, zbk_v, zts_s, List.cons_append, List.nil_append]
          · simp only [zs_147_0, zs_147_1, zs_147_3, zs_147_5, zs_147_6, zs_147_9, zs_147_12, zs_147_15, zs_147_16, zs_147_19, zs_147_21, zs_147_24, zs_147_25, zs_147_28, zs_147_29, zs_147_32, zs_147_34, zs_147_37, zs_147_38, zs_147_41, zs_147_42, zs_147_45, zs_147_47, zs_147_50, zs_147_51, zs_147_54, zs_147_55, zs_147_58, zs_147_60, zs_147_63, zs_147_65, zs_147_68, zs_147_70, zs_147_78, zs_147_81, zs_147_82, zs_147_83, zs_147_84, zs_147_86, zs_147_89, c0, zrc_11, zf_11_0, zp_11_0, zp_11_0n, zf_11_1, zp_11_1, zp_11_1n, r, e1, k4, k5, if_pos c1, if_pos p1, if_neg p2, zbk_v, zts_s, List.cons_append, List.nil_append]
        · simp only [zs_147_0, zs_147_1, zs_147_3, zs_147_5, zs_147_6, zs_147_9, zs_147_12, zs_147_15, zs_147_16, zs_147_19, zs_147_21, zs_147_24, zs_147_25, zs_147_28, zs_147_29, zs_147_32, zs_147_34, zs_147_37, zs_147_38, zs_147_41, zs_147_42, zs_147_45, zs_147_47, zs_147_50, zs_147_51, zs_147_54, zs_147_55, zs_147_58, zs_147_60, zs_147_63, zs_147_65, zs_147_68, zs_147_70, zs_147_78, zs_147_81, zs_147_82, zs_147_83, zs_147_84, zs_147_86, zs_147_89, c0, zrc_11, zf_11_0, zp_11_0, zp_11_0n, zf_11_1, zp_11_1, zp_11_1n, r, e1, k4, if_pos c1, if_neg p1, zbk_v, zts_s, List.cons_append, List.nil_append]
      rw [q, e]
      exact ⟨i1, i2⟩
theorem d_147 {h : zH} {ps : List yN} {B : List Int32} {nd : yN} (hc : zNmC h u ps B) : ∃ h', zcall zP sv (d + 3) 147 [.ref u, .int nd.1, .int nd.2.1, .int nd.2.2.1, .int nd.2.2.2] h = some (.inl (some (.int (ynst ps nd).1)), h') ∧ zNmC h' u (ynst ps nd).2 B ∧ zfr u (u + 12) h h' := by
  have hc' := hc
  obtain ⟨c0, ht, hr, hb⟩ := hc
  have hlen : ps.length ≤ 62 := by
    obtain ⟨K, N, L, R, _, _, ⟨_, _, _, _, z⟩, _⟩ := ht
    exact z
  obtain ⟨i1, i2⟩ := d_147l (sv := sv) (d := d) (nd := nd) hc' ps.length 0 (Nat.zero_add _)
  rw [List.drop_zero, nI_0] at i1 i2
  have e0 : zcall zP sv (d + 3) 147 [.ref u, .int nd.1, .int nd.2.1, .int nd.2.2.1, .int nd.2.2.2] h = zrun zP sv (zcall zP sv (d + 2)) 147 3 [.val (.ref u), .val (.int nd.1), .val (.int nd.2.1), .val (.int nd.2.2.1), .val (.int nd.2.2.2), .val (.int 0)] [] h := by
    simp (disch := first | exact znw_u | exact znw_i) only [zc_147, zs_147_0, zs_147_1]
  have r : ∀ X : zR, zrc (h.1 (u + 1)) 6 X = X := fun X => zTre_rc ht
  rw [e0]
  unfold ynst
  cases hf : yfd nd ps 0 with
  | some k => exact ⟨h, i1 k hf, hc', zfr_rfl⟩
  | none =>
    by_cases c : ps.length < 62
    · obtain ⟨h', e, t1, f⟩ := d_191 (sv := sv) (d := d) (k := nd.1) (n := nd.2.1) (l := nd.2.2.1) (r := nd.2.2.2) ht c
      simp only [if_pos c]
      refine ⟨h', ?_, ⟨by rw [f.1 _ (by omega), c0], t1, zRow_fr hr f (by omega), hb⟩, zfr_mono f (by omega) (by omega)⟩
      rw [i2 hf]
      simp only [zs_147_77, zs_147_78, zs_147_81, zs_147_82, zs_147_83, zs_147_84, zs_147_86, zs_147_89, c0, zrc_11, zf_11_0, zp_11_0, zp_11_0n, zf_11_1, zp_11_1, zp_11_1n, r, e, zbk_v, zts_s, List.cons_append, List.nil_append]
    · have e := d_191f (sv := sv) (d := d) (k := nd.1) (n := nd.2.1) (l := nd.2.2.1) (r := nd.2.2.2) ht (show ps.length = 62 by omega)
      simp only [if_neg c]
      refine ⟨h, ?_, hc', zfr_rfl⟩
      rw [i2 hf]
      simp only [zs_147_77, zs_147_78, zs_147_81, zs_147_82, zs_147_83, zs_147_84, zs_147_86, zs_147_89, c0, zrc_11, zf_11_0, zp_11_0, zp_11_0n, zf_11_1, zp_11_1, zp_11_1n, r, e, zbk_v, zts_s, List.cons_append, List.nil_append]
def ynof (B : List Int32) (x : Int32) : Int32 := if x = -1 then -1 else yg B x
theorem d_146 {h : zH} {ps : List yN} {B : List Int32} {x : Int32} (hc : zNmC h u ps B) : zcall zP sv (d + 2) 146 [.ref u, .int x] h = some (.inl (some (.int (ynof B x))), h) := by
  have e : zcall zP sv (d + 1) 165 [.ref (u + 10), .int x] h = _ := d_165 hc.2.2.1
  unfold ynof
  by_cases c : x = -1
  · rw [if_pos c]
    simp only [zc_146, zs_146_0, zs_146_1, zs_146_2, zs_146_5, zs_146_6, zs_146_9, zs_146_10, zs_146_13, zs_146_14, zs_146_17, if_pos c]
  · rw [if_neg c]
    simp only [zc_146, zs_146_0, zs_146_1, zs_146_2, zs_146_5, zs_146_6, zs_146_9, zs_146_10, zs_146_13, zs_146_14, zs_146_17, if_neg c, hc.1, zrc_11, zf_11_0, zp_11_0, zp_11_0n, zf_11_1, zp_11_1, zp_11_1n, zRow_rc hc.2.2.1, e, zbk_v, zts_s, List.cons_append, List.nil_append]
/-- what including a tree's nodes does -/
def yinc : List yN → Nat → List yN × List Int32 → List yN × List Int32
  | [], _, s => s
  | nd :: r, i, s => yinc r (i + 1) ((ynst s.1 (nd.1, nd.2.1, ynof s.2 nd.2.2.1, ynof s.2 nd.2.2.2)).2, ys s.2 (nI i) (ynst s.1 (nd.1, nd.2.1, ynof s.2 nd.2.2.1, ynof s.2 nd.2.2.2)).1)
theorem d_145l {a mt : Nat} {ns : List yN} (hd : a + 9 ≤ u ∨ u + 12 ≤ a) (hn : ns.length ≤ 31) : ∀ n i (h : zH) (ps : List yN) (B : List Int32), i + n = ns.length → zTre h a mt ns → zNmC h u ps B → ∃ h', zrun zP sv (zcall zP sv (d + 3)) 145 2 [.val (.ref u), .val (.ref a), .val (.int (nI i))] [] h = some (.inl none, h') ∧ zNmC h' u (yinc (ns.drop i) i (ps, B)).1 (yinc (ns.drop i) i (ps, B)).2 ∧ zfr u (u + 12) h h' := by
  intro n
  induction n with
  | zero =>
    intro i h ps B hi ht hc
    obtain rfl : i = ns.length := by omega
    have e1 : zcall zP sv (d + 3) 182 [.ref a] h = _ := d_182 (d := d + 2) ht
    refine ⟨h, ?_, by rw [List.drop_length]; exact hc, zfr_rfl⟩
    simp only [zs_145_2, zs_145_3, zs_145_4, zs_145_7, zs_145_56, zTre_rc ht, e1, zbk_v, zts_s, Int32.lt_irrefl, ↓reduceIte, List.cons_append, List.nil_append]
  | succ n ih =>
    intro i h ps B hi ht hc
    have c1 : nI i < nI ns.length := nI_lt (by omega) (by omega)
    obtain ⟨nd, hnd⟩ := ynd_ex (ns := ns) (i := i) (by omega)
    have hdr : ns.drop i = nd :: ns.drop (i + 1) := by
      rw [List.drop_eq_getElem_cons (by omega)]
      have hnd2 := hnd
      rw [List.getElem?_eq_getElem (by omega)] at hnd2
      rw [Option.some.inj hnd2]
    have c0 := hc.1
    have hB := hc.2.2.2
    have e1 : zcall zP sv (d + 3) 182 [.ref a] h = _ := d_182 (d := d + 2) ht
    have k4 : zcall zP sv (d + 3) 184 [.ref a, .int (nI i)] h = _ := d_184 (d := d + 1) ht hnd
    have k5 : zcall zP sv (d + 3) 185 [.ref a, .int (nI i)] h = _ := d_185 (d := d + 1) ht hnd
    have k6 : zcall zP sv (d + 3) 186 [.ref a, .int (nI i)] h = _ := d_186 (d := d + 1) ht hnd
    have k7 : zcall zP sv (d + 3) 187 [.ref a, .int (nI i)] h = _ := d_187 (d := d + 1) ht hnd
    have n6 : ∀ x, zcall zP sv (d + 3) 146 [.ref u, .int x] h = some (.inl (some (.int (ynof B x))), h) := fun x => d_146 (d := d + 1) hc
    obtain ⟨h1, e2, s1, f1⟩ := d_147 (sv := sv) (d := d) (nd := (nd.1, nd.2.1, ynof B nd.2.2.1, ynof B nd.2.2.2)) hc
    have e2' : zcall zP sv (d + 3) 147 [.ref u, .int nd.1, .int nd.2.1, .int (ynof B nd.2.2.1), .int (ynof B nd.2.2.2)] h = _ := e2
    have ht1 := zTre_fr ht f1 (by omega)
    have hr1 := s1.2.2.1
    have e3 : zcall zP sv (d + 3) 166 [.ref (u + 10), .int (nI i), .int (ynst ps (nd.1, nd.2.1, ynof B nd.2.2.1, ynof B nd.2.2.2)).1] h1 = _ := d_166 (d := d + 2) hr1
    obtain ⟨h2, hh2⟩ : ∃ h2, h2 = zup h1 (u + 10 + 1) (20, (ys B (nI i) (ynst ps (nd.1, nd.2.1, ynof B nd.2.2.1, ynof B nd.2.2.2)).1).map Value.int) := ⟨_, rfl⟩
    rw [← hh2] at e3
    have f2 : zfr u (u + 12) h1 h2 := by rw [hh2]; exact zfr_up (by omega) (by omega)
    have s2 : zNmC h2 u (ynst ps (nd.1, nd.2.1, ynof B nd.2.2.1, ynof B nd.2.2.2)).2 (ys B (nI i) (ynst ps (nd.1, nd.2.1, ynof B nd.2.2.1, ynof B nd.2.2.2)).1) := ⟨by rw [hh2, zup_ne (by omega), s1.1], zTre_cg s1.2.1 (fun z z1 z2 => by rw [hh2, zup_ne (by omega)]), by rw [hh2]; exact zRow_new hr1 ys_len, by rw [ys_len, hB]⟩
    obtain ⟨h3, e4, s3, f3⟩ := ih (i + 1) h2 _ _ (by omega) (zTre_fr ht1 f2 (by omega)) s2
    refine ⟨h3, ?_, by rw [hdr]; exact s3, zfr_tr (zfr_tr f1 f2) f3⟩
    rw [← e4]
    have eb : zrun zP sv (zcall zP sv (d + 3)) 145 50 [.val (.ref u), .val (.ref a), .val (.int (nI i))] [] h2 = zrun zP sv (zcall zP sv (d + 3)) 145 2 [.val (.ref u), .val (.ref a), .val (.int (nI (i + 1)))] [] h2 := by rw [zs_145_50, zs_145_53, nI_1']
    rw [← eb]
    have ru : ∀ X : zR, zrc (h.1 u) 11 X = X := fun X => by rw [c0]; exact zrc_k
    have r1 : ∀ X : zR, zrc (h1.1 (u + 10)) 4 X = X := fun X => zRow_rc hr1
    simp (disch := first | exact znw_u | exact znw_i) only [zs_145_0, zs_145_1, zs_145_2, zs_145_3, zs_145_4, zs_145_7, zs_145_10, zs_145_11, zs_145_14, zs_145_15, zs_145_16, zs_145_17, zs_145_18, zs_145_21, zs_145_22, zs_145_23, zs_145_26, zs_145_27, zs_145_28, zs_145_29, zs_145_32, zs_145_35, zs_145_36, zs_145_37, zs_145_38, zs_145_41, zs_145_44, zs_145_47, zs_145_56, zTre_rc ht, e1, if_pos c1, c0, zrc_11, zf_11_0, zp_11_0, zp_11_0n, zf_11_1, zp_11_1, zp_11_1n, k4, k5, k6, k7, n6, ru, e2', r1, e3, zbk_v, zts_s, zts_n, List.cons_append, List.nil_append]
theorem d_145 {a mt : Nat} {ns : List yN} {h : zH} {ps : List yN} {B : List Int32} (hd : a + 9 ≤ u ∨ u + 12 ≤ a) (hn : ns.length ≤ 31) (ht : zTre h a mt ns) (hc : zNmC h u ps B) : ∃ h', zcall zP sv (d + 4) 145 [.ref u, .ref a] h = some (.inl none, h') ∧ zNmC h' u (yinc ns 0 (ps, B)).1 (yinc ns 0 (ps, B)).2 ∧ zfr u (u + 12) h h' := by
  obtain ⟨h', e, s, f⟩ := d_145l (sv := sv) (d := d) hd hn ns.length 0 h ps B (Nat.zero_add _) ht hc
  rw [List.drop_zero] at s
  rw [nI_0] at e
  refine ⟨h', ?_, s, f⟩
  rw [← e]
  simp (disch := first | exact znw_u | exact znw_i) only [zc_145, zs_145_0, zs_145_1]
end ZRJ
section ZRK
variable {sv : Nat → Value} {d : Nat} {h : zH} {m : Nat} {w : yW} {i j : Nat} {t s : yT}
theorem zCls_num {h' : zH} {ps : List yN} {B : List Int32} (hc : zCls h m w) (hf : zfr (m + 85) (m + 97) h h') (hd : zNmC h' (m + 85) ps B) : zCls h' m w := by
  refine zCls_q hc (zcg_fr hf (by omega)) (zcg_fr hf (by omega)) (zkp_fr hf (by omega)) ?_
  obtain ⟨⟨n1, a1⟩, ⟨n2, a2⟩, ⟨P, a3⟩, ⟨A, B', C, a4⟩, a5, a6⟩ := hc.2.2.2.2.2.2.1
  exact ⟨⟨n1, zTre_cg a1 (zcg_fr hf (by omega))⟩, ⟨n2, zTre_cg a2 (zcg_fr hf (by omega))⟩, ⟨P, zAl_cg a3 (zcg_fr hf (by omega))⟩, ⟨A, B', C, zGau_cg a4 (zcg_fr hf (by omega))⟩, ⟨hd.1, ⟨ps, hd.2.1⟩, B, hd.2.2.1, hd.2.2.2⟩, zCod_cg a6 (zcg_fr hf (by omega))⟩
/-- the parts of a formula by numbers -/
theorem d_77 {a : Nat} (hc : zCls h m w) (a1 : m + 139 ≤ a) (a3 : zTre h a (ysz t) (ypo 0 t)) (a4 : ytok t) : ∃ h' B0 , zcall zP sv (d + 46) 77 [.ref m, .ref a] h = some (.inl (some (.int (nI (yinc (ypo 0 t) 0 ([], B0)).1.length))), h') ∧ zCls h' m w ∧ zNmC h' (m + 85) (yinc (ypo 0 t) 0 ([], B0)).1 (yinc (ypo 0 t) 0 ([], B0)).2 ∧ B0.length = 31 ∧ zfr (m + 85) (m + 97) h h' := by
  have q1 := zCls_0 hc
  obtain ⟨n0, ⟨ps, n1⟩, B, n2, n3⟩ := hc.2.2.2.2.2.2.1.2.2.2.2.1
  have hsz := a4.2.1
  obtain ⟨h1, e1, t1, f1⟩ := d_190 (sv := sv) (d := d + 43) n1
  have s1 : zNmC h1 (m + 85) [] B := ⟨by rw [f1.1 _ (by omega), n0], t1, zRow_fr n2 f1 (by omega), n3⟩
  have f1' : zfr (m + 85) (m + 97) h h1 := zfr_mono f1 (by omega) (by omega)
  have c1 := zCls_num hc f1' s1
  have q2 := zCls_0 c1
  obtain ⟨h2, e2, s2, f2⟩ := d_145 (sv := sv) (d := d + 41) (u := m + 85) (show a + 9 ≤ m + 85 ∨ m + 85 + 12 ≤ a by omega) (by rw [ypo_len]; omega) (zTre_fr a3 f1' (by omega)) s1
  have c2 := zCls_num c1 f2 s2
  have q3 := zCls_0 c2
  have e3 : zcall zP sv (d + 44) 182 [.ref (m + 85 + 1)] h2 = _ := d_182 (d := d + 43) s2.2.1
  have e143 : zcall zP sv (d + 45) 143 [.ref (m + 85)] h = some (.inl none, h1) := by
    simp only [zc_143, zs_143_0, zs_143_1, zs_143_4, zs_143_7, n0, zrc_11, zf_11_0, zp_11_0, zp_11_0n, zf_11_1, zp_11_1, zp_11_1n, zTre_rc n1, e1, zbk_v, zts_n, List.cons_append, List.nil_append]
  have e144 : zcall zP sv (d + 45) 144 [.ref (m + 85)] h2 = some (.inl (some (.int (nI (yinc (ypo 0 t) 0 ([], B)).1.length))), h2) := by
    simp only [zc_144, zs_144_0, zs_144_1, zs_144_4, zs_144_7, s2.1, zrc_11, zf_11_0, zp_11_0, zp_11_0n, zf_11_1, zp_11_1, zp_11_1n, zTre_rc s2.2.1, e3, zbk_v, zts_s, List.cons_append, List.nil_append]
  have r : ∀ X : zR, zrc (h.1 (m + 85)) 11 X = X := fun X => by rw [n0]; exact zrc_k
  have r1 : ∀ X : zR, zrc (h1.1 (m + 85)) 11 X = X := fun X => by rw [s1.1]; exact zrc_k
  have r2 : ∀ X : zR, zrc (h2.1 (m + 85)) 11 X = X := fun X => by rw [s2.1]; exact zrc_k
  refine ⟨h2, B, ?_, c2, s2, n3, zfr_tr f1' f2⟩
  simp (disch := exact znw_u) only [zc_77, zs_77_0, zs_77_1, zs_77_4, zs_77_7, zs_77_8, zs_77_11, zs_77_12, zs_77_15, zs_77_16, zs_77_19, zs_77_22, q1, q2, q3, zECc, zrc_1, zf_1_0, zp_1_0, zp_1_0n, zf_1_1, zp_1_1, zf_1_2, zp_1_2, zp_1_2n, zf_1_3, zp_1_3, zp_1_3n, zf_1_4, zp_1_40, zp_1_41, zf_1_5, zp_1_5, zp_1_5n, zf_1_6, zp_1_6, zp_1_6n, zf_1_7, zp_1_7, zp_1_7n, zf_1_8, zp_1_8, zp_1_8n, zf_1_9, zp_1_9, zp_1_9n, zf_1_10, zp_1_10, zp_1_10n, zf_1_11, zp_1_11, zp_1_11n, zf_1_12, zp_1_12, zp_1_12n, r, r1, r2, e143, e2, e144, zbk_v, zts_s, zts_n, List.cons_append, List.nil_append]
theorem d_42 (hc : zCls h m w) (hi : (ycur w).1[i]? = some t) : ∃ B0, B0.length = 31 ∧ zEnd h m (zcall zP sv (d + 48) 42 [.ref m, .int (nI i)] h) 0 0 (.inl (some (.int (nI (yinc (ypo 0 t) 0 ([], B0)).1.length)))) w := by
  obtain ⟨a, e0, a1, a2, a3, a4⟩ := d_70k (sv := sv) (d := d + 45) hc hi
  obtain ⟨h1, B0, e1, c1, s1, b1, f1⟩ := d_77 (sv := sv) (d := d + 1) hc a1 a3 a4
  refine ⟨B0, b1, h1, ?_, c1, zfr_fx f1 (by omega) (by omega)⟩
  simp (disch := exact znw_u) only [zc_42, zs_42_0, zs_42_1, zs_42_2, zs_42_3, zs_42_6, zs_42_9, zEC1 hc, e0, e1, zbk_v, zts_s, zts_n, List.cons_append, List.nil_append]
theorem d_44 (hc : zCls h m w) (hi : (ycur w).1[i]? = some t) (hj : (ycur w).1[j]? = some s) : ∃ B0 B1, B0.length = 31 ∧ B1.length = 31 ∧ zEnd h m (zcall zP sv (d + 48) 44 [.ref m, .int (nI i), .int (nI j)] h) 0 0 (.inl (some (.int (nI (yinc (ypo 0 t) 0 ([], B1)).1.length + nI (yinc (ypo 0 s) 0 ([], B0)).1.length - nI (yinc (ypo 0 s) 0 (yinc (ypo 0 t) 0 ([], B1))).1.length)))) w := by
  have q1 := zCls_0 hc
  obtain ⟨a, e0, a1, a2, a3, a4⟩ := d_70k (sv := sv) (d := d + 45) hc hi
  obtain ⟨b, e0', b1, b2, b3, b4⟩ := d_70k (sv := sv) (d := d + 45) hc hj
  obtain ⟨h1, B0, e1, c1, s1, l1, f1⟩ := d_77 (sv := sv) (d := d + 1) hc b1 b3 b4
  have a3' := zTre_fr a3 f1 (by omega)
  have b3' := zTre_fr b3 f1 (by omega)
  obtain ⟨h2, B1, e2, c2, s2, l2, f2⟩ := d_77 (sv := sv) (d := d + 1) c1 a1 a3' a4
  have b3'' := zTre_fr b3' f2 (by omega)
  have hsz := b4.2.1
  obtain ⟨h3, e3, s3, f3⟩ := d_145 (sv := sv) (d := d + 43) (u := m + 85) (show b + 9 ≤ m + 85 ∨ m + 85 + 12 ≤ b by omega) (by rw [ypo_len]; omega) b3'' s2
  have c3 := zCls_num c2 f3 s3
  have q2 := zCls_0 c2
  have q3 := zCls_0 c3
  have e182 : zcall zP sv (d + 46) 182 [.ref (m + 85 + 1)] h3 = _ := d_182 (d := d + 45) s3.2.1
  have e144 : zcall zP sv (d + 47) 144 [.ref (m + 85)] h3 = some (.inl (some (.int (nI (yinc (ypo 0 s) 0 (yinc (ypo 0 t) 0 ([], B1))).1.length))), h3) := by
    simp only [zc_144, zs_144_0, zs_144_1, zs_144_4, zs_144_7, s3.1, zrc_11, zf_11_0, zp_11_0, zp_11_0n, zf_11_1, zp_11_1, zp_11_1n, zTre_rc s3.2.1, e182, zbk_v, zts_s, List.cons_append, List.nil_append]
  have r2 : ∀ X : zR, zrc (h2.1 (m + 85)) 11 X = X := fun X => by rw [s2.1]; exact zrc_k
  have r3 : ∀ X : zR, zrc (h3.1 (m + 85)) 11 X = X := fun X => by rw [s3.1]; exact zrc_k
  refine ⟨B0, B1, l1, l2, h3, ?_, c3, zfx_mono (zfx_tr (zfx_tr (zfr_fx f1 (by omega) (by omega)) (zfr_fx f2 (by omega) (by omega))) (zfr_fx f3 (by omega) (by omega))) (Nat.le_refl _) (Nat.le_refl _) (by omega) (by omega)⟩
  simp (disch := exact znw_u) only [zc_44, zs_44_0, zs_44_1, zs_44_2, zs_44_5, zs_44_6, zs_44_7, zs_44_8, zs_44_11, zs_44_13, zs_44_14, zs_44_16, zs_44_19, zs_44_21, zs_44_22, zs_44_23, zs_44_26, zs_44_28, zs_44_29, zs_44_32, zs_44_34, zs_44_37, zs_44_39, zs_44_41, zs_44_42, zs_44_43, zs_44_46, zs_44_49, zs_44_50, q2, q3, zECc, zrc_1, zf_1_0, zp_1_0, zp_1_0n, zf_1_1, zp_1_1, zf_1_2, zp_1_2, zp_1_2n, zf_1_3, zp_1_3, zp_1_3n, zf_1_4, zp_1_40, zp_1_41, zf_1_5, zp_1_5, zp_1_5n, zf_1_6, zp_1_6, zp_1_6n, zf_1_7, zp_1_7, zp_1_7n, zf_1_8, zp_1_8, zp_1_8n, zf_1_9, zp_1_9, zp_1_9n, zf_1_10, zp_1_10, zp_1_10n, zf_1_11, zp_1_11, zp_1_11n, zf_1_12, zp_1_12, zp_1_12n, zEC1 hc, zEC1 c1, e0, e0', e1, e2, r2, r3, e3, e144, zbk_v, zts_s, zts_n, List.cons_append, List.nil_append]
end ZRK

section ZRL
variable {sv : Nat → Value} {d : Nat}
/-- what an instruction does to the machine's places -/
def yexe (T P : List Int32) (i : yI) : List Int32 := if i.1 = nI 99 then ys P i.2.1 i.2.2.1 else if i.1 = nI 118 then ys P i.2.1 (yg T (i.2.2.1 - nI 97)) else if i.1 = nI 115 then ys P (nI 4 + i.2.2.1) (yg P i.2.1) else ys P i.2.1 (yop i.1 (yg P i.2.2.2.1) (yg P i.2.2.2.2))
theorem yexe_len {T P : List Int32} {i : yI} : (yexe T P i).length = P.length := by
  unfold yexe
  split
  · exact ys_len
  · split
    · exact ys_len
    · split <;> exact ys_len
theorem zCdC_p {h : zH} {c : Nat} {q : List yI} {ma : Int32} {A B C P P' : List Int32} {j : Nat} (hc : zCdC h c q ma A B C P j) (hl : P'.length = P.length) : zCdC (zup h (c + 20 + 1) (20, P'.map Value.int)) c q ma A B C P' j := by
  obtain ⟨c0, hg, ⟨K, R, N, L, E, ⟨k1, k2, k3, k4, k5⟩, w⟩, hb, hp, hpl⟩ := hc
  exact ⟨by rw [zup_ne (by omega), c0], zGau_cg hg (fun z z1 z2 => zup_ne (by omega)), ⟨K, R, N, L, E, ⟨zRow_up k1 (by omega) (by omega), zRow_up k2 (by omega) (by omega), zRow_up k3 (by omega) (by omega), zRow_up k4 (by omega) (by omega), zRow_up k5 (by omega) (by omega)⟩, w⟩, zRow_up hb (by omega) (by omega), zRow_new hp hl, by rw [hl, hpl]⟩
theorem d_113 {h : zH} {c l n : Nat} {q : List yI} {ma : Int32} {A B C P T : List Int32} {j : Nat} {x : yI} (hc : zCdC h c q ma A B C P j) (hx : q[n]? = some x) (hl : zRow h l T) : zcall zP sv (d + 2) 113 [.ref c, .int (nI n), .ref l] h = some (.inl none, zup h (c + 20 + 1) (20, (yexe T P x).map Value.int)) := by
  obtain ⟨k1, k2, k3, k4, k5⟩ := zCdC_at (sv := sv) (d := d) hc hx
  obtain ⟨r1, r2, r3, r4, r5, r6⟩ := zCdC_rr hc
  have c0 := hc.1
  have hp := hc.2.2.2.2.1
  have g : ∀ y, zcall zP sv (d + 1) 165 [.ref (c + 20), .int y] h = some (.inl (some (.int (yg P y))), h) := fun y => d_165 hp
  have gl : ∀ y, zcall zP sv (d + 1) 165 [.ref l, .int y] h = some (.inl (some (.int (yg T y))), h) := fun y => d_165 hl
  have s : ∀ y z, zcall zP sv (d + 1) 166 [.ref (c + 20), .int y, .int z] h = some (.inl none, zup h (c + 20 + 1) (20, (ys P y z).map Value.int)) := fun y z => d_166 hp
  have o : ∀ k a b, zcall zP sv (d + 1) 84 [.int k, .int a, .int b] h = _ := fun k a b => d_84
  have rl : ∀ X : zR, zrc (h.1 l) 4 X = X := fun X => zRow_rc hl
  unfold yexe
  by_cases h1 : x.1 = nI 99
  · rw [if_pos h1]
    simp (disch := first | exact znw_u | exact znw_i) only [zc_113, zs_113_0, zs_113_1, zs_113_4, zs_113_5, zs_113_8, zs_113_9, zs_113_10, zs_113_13, zs_113_14, zs_113_17, zs_113_19, zs_113_20, zs_113_23, zs_113_24, zs_113_27, zs_113_29, zs_113_30, zs_113_32, zs_113_35, zs_113_36, zs_113_39, zs_113_41, zs_113_43, zs_113_46, zs_113_49, zs_113_50, zs_113_52, zs_113_55, zs_113_56, zs_113_59, zs_113_61, zs_113_62, zs_113_64, zs_113_66, zs_113_67, zs_113_70, zs_113_73, zs_113_76, zs_113_77, zs_113_79, zs_113_82, zs_113_83, zs_113_86, zs_113_87, zs_113_89, zs_113_90, zs_113_91, zs_113_94, zs_113_96, zs_113_99, zs_113_102, zs_113_105, zs_113_106, zs_113_109, zs_113_111, zs_113_112, zs_113_113, zs_113_116, zs_113_117, zs_113_120, zs_113_121, zs_113_124, zs_113_127, zs_113_128, zs_113_131, zs_113_132, zs_113_135, zs_113_136, zs_113_139, zs_113_142, zs_113_145, zs_113_148, c0, zCdl, zrc_12, zf_12_0, zp_12_0, zp_12_0n, zf_12_1, zp_12_1, zp_12_1n, zf_12_2, zp_12_2, zp_12_2n, zf_12_3, zp_12_3, zp_12_3n, zf_12_4, zp_12_4, zp_12_4n, zf_12_5, zp_12_5, zf_12_6, zp_12_6, zp_12_6n, zf_12_7, zp_12_7, zp_12_7n, zf_12_8, zp_12_8, zp_12_8n, zf_12_9, zp_12_9, r1, r2, r3, r6, k1, k2, k3, s, if_pos h1, zbk_v, zts_s, zts_n, List.cons_append, List.nil_append]
  · rw [if_neg h1]
    by_cases h2 : x.1 = nI 118
    · rw [if_pos h2]
      simp (disch := first | exact znw_u | exact znw_i) only [zc_113, zs_113_0, zs_113_1, zs_113_4, zs_113_5, zs_113_8, zs_113_9, zs_113_10, zs_113_13, zs_113_14, zs_113_17, zs_113_19, zs_113_20, zs_113_23, zs_113_24, zs_113_27, zs_113_29, zs_113_30, zs_113_32, zs_113_35, zs_113_36, zs_113_39, zs_113_41, zs_113_43, zs_113_46, zs_113_49, zs_113_50, zs_113_52, zs_113_55, zs_113_56, zs_113_59, zs_113_61, zs_113_62, zs_113_64, zs_113_66, zs_113_67, zs_113_70, zs_113_73, zs_113_76, zs_113_77, zs_113_79, zs_113_82, zs_113_83, zs_113_86, zs_113_87, zs_113_89, zs_113_90, zs_113_91, zs_113_94, zs_113_96, zs_113_99, zs_113_102, zs_113_105, zs_113_106, zs_113_109, zs_113_111, zs_113_112, zs_113_113, zs_113_116, zs_113_117, zs_113_120, zs_113_121, zs_113_124, zs_113_127, zs_113_128, zs_113_131, zs_113_132, zs_113_135, zs_113_136, zs_113_139, zs_113_142, zs_113_145, zs_113_148, c0, zCdl, zrc_12, zf_12_0, zp_12_0, zp_12_0n, zf_12_1, zp_12_1, zp_12_1n, zf_12_2, zp_12_2, zp_12_2n, zf_12_3, zp_12_3, zp_12_3n, zf_12_4, zp_12_4, zp_12_4n, zf_12_5, zp_12_5, zf_12_6, zp_12_6, zp_12_6n, zf_12_7, zp_12_7, zp_12_7n, zf_12_8, zp_12_8, zp_12_8n, zf_12_9, zp_12_9, r1, r2, r3, r6, rl, gl, k1, k2, k3, s, if_neg h1, if_pos h2, zbk_v, zts_s, zts_n, List.cons_append, List.nil_append]
    · rw [if_neg h2]
      by_cases h3 : x.1 = nI 115
      · rw [if_pos h3]
        simp (disch := first | exact znw_u | exact znw_i) only [zc_113, zs_113_0, zs_113_1, zs_113_4, zs_113_5, zs_113_8, zs_113_9, zs_113_10, zs_113_13, zs_113_14, zs_113_17, zs_113_19, zs_113_20, zs_113_23, zs_113_24, zs_113_27, zs_113_29, zs_113_30, zs_113_32, zs_113_35, zs_113_36, zs_113_39, zs_113_41, zs_113_43, zs_113_46, zs_113_49, zs_113_50, zs_113_52, zs_113_55, zs_113_56, zs_113_59, zs_113_61, zs_113_62, zs_113_64, zs_113_66, zs_113_67, zs_113_70, zs_113_73, zs_113_76, zs_113_77, zs_113_79, zs_113_82, zs_113_83, zs_113_86, zs_113_87, zs_113_89, zs_113_90, zs_113_91, zs_113_94, zs_113_96, zs_113_99, zs_113_102, zs_113_105, zs_113_106, zs_113_109, zs_113_111, zs_113_112, zs_113_113, zs_113_116, zs_113_117, zs_113_120, zs_113_121, zs_113_124, zs_113_127, zs_113_128, zs_113_131, zs_113_132, zs_113_135, zs_113_136, zs_113_139, zs_113_142, zs_113_145, zs_113_148, c0, zCdl, zrc_12, zf_12_0, zp_12_0, zp_12_0n, zf_12_1, zp_12_1, zp_12_1n, zf_12_2, zp_12_2, zp_12_2n, zf_12_3, zp_12_3, zp_12_3n, zf_12_4, zp_12_4, zp_12_4n, zf_12_5, zp_12_5, zf_12_6, zp_12_6, zp_12_6n, zf_12_7, zp_12_7, zp_12_7n, zf_12_8, zp_12_8, zp_12_8n, zf_12_9, zp_12_9, r1, r2, r3, r6, g, k1, k2, k3, s, if_neg h1, if_neg h2, if_pos h3, zbk_v, zts_s, zts_n, List.cons_append, List.nil_append]
      · rw [if_neg h3]
        simp (disch := first | exact znw_u | exact znw_i) only [zc_113, zs_113_0, zs_113_1, zs_113_4, zs_113_5, zs_113_8, zs_113_9, zs_113_10, zs_113_13, zs_113_14, zs_113_17, zs_113_19, zs_113_20, zs_113_23, zs_113_24, zs_113_27, zs_113_29, zs_113_30, zs_113_32, zs_113_35, zs_113_36, zs_113_39, zs_113_41, zs_113_43, zs_113_46, zs_113_49, zs_113_50, zs_113_52, zs_113_55, zs_113_56, zs_113_59, zs_113_61, zs_113_62, zs_113_64, zs_113_66, zs_113_67, zs_113_70, zs_113_73, zs_113_76, zs_113_77, zs_113_79, zs_113_82, zs_113_83, zs_113_86, zs_113_87, zs_113_89, zs_113_90, zs_113_91, zs_113_94, zs_113_96, zs_113_99, zs_113_102, zs_113_105, zs_113_106, zs_113_109, zs_113_111, zs_113_112, zs_113_113, zs_113_116, zs_113_117, zs_113_120, zs_113_121, zs_113_124, zs_113_127, zs_113_128, zs_113_131, zs_113_132, zs_113_135, zs_113_136, zs_113_139, zs_113_142, zs_113_145, zs_113_148, c0, zCdl, zrc_12, zf_12_0, zp_12_0, zp_12_0n, zf_12_1, zp_12_1, zp_12_1n, zf_12_2, zp_12_2, zp_12_2n, zf_12_3, zp_12_3, zp_12_3n, zf_12_4, zp_12_4, zp_12_4n, zf_12_5, zp_12_5, zf_12_6, zp_12_6, zp_12_6n, zf_12_7, zp_12_7, zp_12_7n, zf_12_8, zp_12_8, zp_12_8n, zf_12_9, zp_12_9, r1, r2, r3, r4, r5, r6, g, o, k1, k2, k3, k4, k5, s, if_neg h1, if_neg h2, if_neg h3, zbk_v, zts_s, zts_n, List.cons_append, List.nil_append]
theorem d_112l {c l : Nat} {q : List yI} {ma : Int32} {A B C T : List Int32} {j : Nat} (hd : c + 22 ≤ l ∨ l + 2 ≤ c) : ∀ n i (h : zH) (P : List Int32), i + n = q.length → zCdC h c q ma A B C P j → zRow h l T → ∃ h' P', zrun zP sv (zcall zP sv (d + 2)) 112 2 [.val (.ref c), .val (.ref l), .val (.int (nI i))] [] h = some (.inl (some (.int (yg ((q.drop i).foldl (yexe T) P) 0))), h') ∧ zCdC h' c q ma A B C P' j ∧ zfr c (c + 22) h h' := by
  intro n
  induction n with
  | zero =>
    intro i h P hi hc hl
    obtain rfl : i = q.length := by omega
    obtain ⟨r1, r2, r3, r4, r5, r6⟩ := zCdC_rr hc
    have c0 := hc.1
    have g : zcall zP sv (d + 2) 165 [.ref (c + 20), .int 0] h = _ := d_165 (d := d + 1) hc.2.2.2.2.1
    refine ⟨h, P, ?_, hc, zfr_rfl⟩
    rw [List.drop_length]
    simp (disch := first | exact znw_u | exact znw_i) only [zs_112_0, zs_112_1, zs_112_2, zs_112_3, zs_112_4, zs_112_7, zs_112_10, zs_112_11, zs_112_12, zs_112_13, zs_112_22, zs_112_23, zs_112_26, zs_112_27, zs_112_30, c0, zCdl, zrc_12, zf_12_0, zp_12_0, zp_12_0n, zf_12_1, zp_12_1, zp_12_1n, zf_12_2, zp_12_2, zp_12_2n, zf_12_3, zp_12_3, zp_12_3n, zf_12_4, zp_12_4, zp_12_4n, zf_12_5, zp_12_5, zf_12_6, zp_12_6, zp_12_6n, zf_12_7, zp_12_7, zp_12_7n, zf_12_8, zp_12_8, zp_12_8n, zf_12_9, zp_12_9, r6, g, Int32.lt_irrefl, zbk_v, zts_s, ↓reduceIte, List.cons_append, List.nil_append]
    rfl
  | succ n ih =>
    intro i h P hi hc hl
    have hq := zCdC_len hc
    have c1 : nI i < nI q.length := nI_lt (by omega) (by omega)
    obtain ⟨x, hx⟩ : ∃ x, q[i]? = some x := ⟨_, List.getElem?_eq_getElem (by omega)⟩
    have hdr : q.drop i = x :: q.drop (i + 1) := by
      rw [List.drop_eq_getElem_cons (by omega)]
      have hx2 := hx
      rw [List.getElem?_eq_getElem (by omega)] at hx2
      rw [Option.some.inj hx2]
    have c0 := hc.1
    have e1 := d_113 (sv := sv) (d := d) hc hx hl
    have s1 := zCdC_p (P' := yexe T P x) hc yexe_len
    obtain ⟨h1, hh1⟩ : ∃ h1, h1 = zup h (c + 20 + 1) (20, (yexe T P x).map Value.int) := ⟨_, rfl⟩
    rw [← hh1] at e1 s1
    have f1 : zfr c (c + 22) h h1 := by rw [hh1]; exact zfr_up (by omega) (by omega)
    obtain ⟨h2, P', e2, s2, f2⟩ := ih (i + 1) h1 _ (by omega) s1 (zRow_fr hl f1 (by omega))
    refine ⟨h2, P', ?_, s2, zfr_tr f1 f2⟩
    rw [hdr, List.foldl_cons, ← e2]
    have eb : zrun zP sv (zcall zP sv (d + 2)) 112 16 [.val (.ref c), .val (.ref l), .val (.int (nI i))] [] h1 = zrun zP sv (zcall zP sv (d + 2)) 112 2 [.val (.ref c), .val (.ref l), .val (.int (nI (i + 1)))] [] h1 := by rw [zs_112_16, zs_112_19, nI_1']
    rw [← eb]
    simp (disch := first | exact znw_u | exact znw_i) only [zs_112_0, zs_112_1, zs_112_2, zs_112_3, zs_112_4, zs_112_7, zs_112_10, zs_112_11, zs_112_12, zs_112_13, zs_112_22, zs_112_23, zs_112_26, zs_112_27, zs_112_30, c0, zCdl, zrc_12, zf_12_0, zp_12_0, zp_12_0n, zf_12_1, zp_12_1, zp_12_1n, zf_12_2, zp_12_2, zp_12_2n, zf_12_3, zp_12_3, zp_12_3n, zf_12_4, zp_12_4, zp_12_4n, zf_12_5, zp_12_5, zf_12_6, zp_12_6, zp_12_6n, zf_12_7, zp_12_7, zp_12_7n, zf_12_8, zp_12_8, zp_12_8n, zf_12_9, zp_12_9, zCdC_rc hc, e1, if_pos c1, zbk_v, zts_n, ↓reduceIte, List.cons_append, List.nil_append]
theorem d_112 {h : zH} {c l : Nat} {q : List yI} {ma : Int32} {A B C P T : List Int32} {j : Nat} (hd : c + 22 ≤ l ∨ l + 2 ≤ c) (hc : zCdC h c q ma A B C P j) (hl : zRow h l T) : ∃ h' P', zcall zP sv (d + 3) 112 [.ref c, .ref l] h = some (.inl (some (.int (yg (q.foldl (yexe T) P) 0))), h') ∧ zCdC h' c q ma A B C P' j ∧ zfr c (c + 22) h h' := by
  obtain ⟨h', P', e, w⟩ := d_112l (sv := sv) (d := d) (c := c) hd q.length 0 h P (Nat.zero_add _) hc hl
  rw [List.drop_zero, nI_0] at e
  refine ⟨h', P', ?_, w⟩
  rw [← e]
  simp (disch := first | exact znw_u | exact znw_i) only [zc_112, zs_112_0, zs_112_1]
end ZRL
section ZRM
variable {sv : Nat → Value} {d : Nat} {h : zH} {m : Nat} {w : yW} {i M : Nat} {t : yT}
theorem zcur_let (hc : zCls h m w) : zRow h (m + 3 + 2) (ycur w).2.1 ∧ ∀ D, zcall zP sv (D + 1) 170 [.ref (m + 3)] h = some (.inl (some (.ref (m + 3 + 2))), h) := by
  obtain ⟨S, s1, s2⟩ := zcur_ex hc
  have hV : S.2.1 = (ycur w).2.1 := by rw [s2.1]
  have s3 := s1.2.2.1
  rw [hV] at s3
  exact ⟨s3, fun D => d_170 s1⟩
/-- the value of a formula by its code -/
theorem d_76 {a : Nat} (hc : zCls h m w) (a1 : m + 139 ≤ a) (a3 : zTre h a (ysz t) (ypo 0 t)) (a4 : ytok t) (hR : (ycur w).2.2.1 = nI M) (h1M : 1 ≤ M) (hM : M ≤ 4) : ∃ h' P, P.length = 11 ∧ zcall zP sv (d + 46) 76 [.ref m, .ref a] h = some (.inl (some (.int (yg ((yco M t 0 0).foldl (yexe (ycur w).2.1) P) 0))), h') ∧ zCls h' m w ∧ zfr (m + 97) (m + 119) h h' := by
  have q1 := zCls_0 hc
  obtain ⟨S, s1, s2⟩ := zcur_ex hc
  have e171 : zcall zP sv (d + 45) 171 [.ref (m + 3)] h = _ := d_171 (d := d + 44) s1
  rw [s2.1, hR] at e171
  obtain ⟨h1, e1, ⟨c1, ma, A, B, C, P, k1⟩, f1⟩ := d_tr (sv := sv) (d := d + 25) hc a1 a3 a4 h1M hM
  have q2 := zCls_0 c1
  obtain ⟨l1, l2⟩ := zcur_let (sv := sv) c1
  have e170 := l2 (d + 44)
  obtain ⟨h2, P', e2, k2, f2⟩ := d_112 (sv := sv) (d := d + 42) (c := m + 97) (l := m + 3 + 2) (by omega) k1 l1
  have c2 := zCls_cod c1 f2 (zCod_of k2)
  obtain ⟨⟨le, ma0, c0⟩, _⟩ := hc.2.2.2.2.2.2.1.2.2.2.2.2
  have r12 : ∀ X : zR, zrc (h.1 (m + 97)) 12 X = X := fun X => by rw [c0]; exact zrc_k
  have r12' : ∀ X : zR, zrc (h1.1 (m + 97)) 12 X = X := fun X => zCdC_rc k1
  refine ⟨h2, P, k1.2.2.2.2.2, ?_, c2, zfr_tr f1 f2⟩
  simp (disch := first | exact znw_u | exact znw_i) only [zc_76, zs_76_0, zs_76_1, zs_76_4, zs_76_5, zs_76_6, zs_76_9, zs_76_12, zs_76_15, zs_76_16, zs_76_19, zs_76_20, zs_76_23, zs_76_26, zs_76_29, q1, q2, zECc, zrc_1, zf_1_0, zp_1_0, zp_1_0n, zf_1_1, zp_1_1, zf_1_2, zp_1_2, zp_1_2n, zf_1_3, zp_1_3, zp_1_3n, zf_1_4, zp_1_40, zp_1_41, zf_1_5, zp_1_5, zp_1_5n, zf_1_6, zp_1_6, zp_1_6n, zf_1_7, zp_1_7, zp_1_7n, zf_1_8, zp_1_8, zp_1_8n, zf_1_9, zp_1_9, zp_1_9n, zf_1_10, zp_1_10, zp_1_10n, zf_1_11, zp_1_11, zp_1_11n, zf_1_12, zp_1_12, zp_1_12n, zcur_r hc, zcur_r c1, e171, r12, r12', e1, e170, e2, zbk_v, zts_s, zts_n, List.cons_append, List.nil_append]
theorem d_46 (hc : zCls h m w) (hi : (ycur w).1[i]? = some t) (hR : (ycur w).2.2.1 = nI M) (h1M : 1 ≤ M) (hM : M ≤ 4) : ∃ P : List Int32, P.length = 11 ∧ zEnd h m (zcall zP sv (d + 48) 46 [.ref m, .int (nI i)] h) 0 0 (.inl (some (.int (yg ((yco M t 0 0).foldl (yexe (ycur w).2.1) P) 0)))) w := by
  obtain ⟨a, e0, a1, a2, a3, a4⟩ := d_70k (sv := sv) (d := d + 45) hc hi
  obtain ⟨h1, P, p1, e1, c1, f1⟩ := d_76 (sv := sv) (d := d + 1) hc a1 a3 a4 hR h1M hM
  refine ⟨P, p1, zEnd_c ?_ c1 f1⟩
  simp (disch := exact znw_u) only [zc_46, zs_46_0, zs_46_1, zs_46_2, zs_46_3, zs_46_6, zs_46_9, zEC1 hc, e0, e1, zbk_v, zts_s, zts_n, List.cons_append, List.nil_append]
end ZRM

section ZRN
variable {sv : Nat → Value} {d : Nat} {m : Nat} {w : yW} {i M : Nat} {t : yT}
theorem ylet_n : ∀ k, k < 6 → ylet (nI (97 + k)) = true := by decide +kernel
theorem ylet_k : ∀ k, k < 6 → (¬ nI 102 < nI (97 + k)) ∧ ((nI (97 + k) + nI 1).toUInt32 % 65536).toInt32 = nI (97 + (k + 1)) := by decide +kernel
/-- what is asked of a formula's slopes, letter by letter -/
theorem d_82l {a : Nat} (a1 : m + 139 ≤ a) (a4 : ytok t) : ∀ n k (h : zH) (l3 l4 : Slot), znw l3 = true → znw l4 = true → k + n = 6 → zCls h m w → zTre h a (ysz t) (ypo 0 t) → ∃ (b : Bool) (h' : zH), zrun zP sv (zcall zP sv (d + 47)) 82 3 [.val (.ref m), .val (.ref a), .val (.int (nI (97 + k))), l3, l4] [] h = some (.inl (some (.int (yb b))), h') ∧ zCls h' m w ∧ zfx m (m + 119) 0 0 h h' ∧ ((∀ c, ylet c = true → ysl2 (ycur w).2.1 c t = yfo (yfR (ycur w).2.1) (yder c t)) → b = true) := by
  have hsz := a4.2.1
  obtain ⟨f1, f2, f3, f4⟩ := yform a4.1 (by omega)
  intro n
  induction n with
  | zero =>
    intro k h l3 l4 w3 w4 hk hc ht
    obtain rfl : k = 6 := by omega
    have c1 : nI 102 < nI (97 + 6) := by decide +kernel
    refine ⟨true, h, ?_, hc, zfx_rfl, fun _ => rfl⟩
    rw [yb_t]
    simp only [zs_82_3, zs_82_4, zs_82_6, zs_82_75, zs_82_76, if_pos c1, zgd_t, zty_51]
  | succ n ih =>
    intro k h l3 l4 w3 w4 hk hc ht
    obtain ⟨c1, c2⟩ := ylet_k k (by omega)
    have q1 := zCls_0 hc
    obtain ⟨A, B, C, hg⟩ := zgau_ex hc
    obtain ⟨s3, s4⟩ := zcur_let (sv := sv) hc
    have e170 := s4 (d + 46)
    obtain ⟨h1, A', B', e1, g1, _, r1, f5⟩ := d_123 (sv := sv) (d := d + 42) (c := nI (97 + k)) f1 (show m + 78 + 7 ≤ a ∨ a + 9 ≤ m + 78 by omega) (by omega) (show m + 78 + 7 ≤ m + 3 + 2 ∨ m + 3 + 2 + 2 ≤ m + 78 by omega) ht hg s3
    rw [yroot_sub f4, yQs_g (f := ysl2 (ycur w).2.1 (nI (97 + k))) rfl r1 (Or.inr ⟨ysz t - 1, by omega, rfl⟩) (Nat.le_refl _) f1.1, f2] at e1
    have hc1 := zCls_g hc f5 g1
    have q2 := zCls_0 hc1
    have ht1 := zTre_fr ht f5 (by omega)
    obtain ⟨h2, os, x, e2, hc2, t1, w1, l1, x1, x2, f6, r9⟩ := d_der (sv := sv) (d := d) (c := nI (97 + k)) hc1 a1 ht1 a4
    have q3 := zCls_0 hc2
    obtain ⟨h3, e3, hc3, f7, r10, e170'⟩ := d_val (sv := sv) (d := d) hc2 t1 w1 l1 x1
    rw [x2] at e3
    have ht2 : zTre h2 a (ysz t) (ypo 0 t) := zTre_cg ht1 (fun z z1 z2 => f6.1 z (by omega) (by omega))
    have ht3 := zTre_fr ht2 f7 (by omega)
    have fx : zfx m (m + 119) 0 0 h h3 := zfx_mono (zfx_tr (zfx_tr (zfr_fx f5 (by omega) (by omega)) (zf2_fx f6 (show m ≤ m + 45 by omega) (show m + 54 ≤ m + 119 by omega) (by omega) (by omega))) (zfr_fx f7 (by omega) (by omega))) (Nat.le_refl _) (Nat.le_refl _) (by omega) (by omega)
    have rg : ∀ X : zR, zrc (h.1 (m + 78)) 10 X = X := fun X => zGau_rc hg
    by_cases c : ysl2 (ycur w).2.1 (nI (97 + k)) t = yfo (yfR (ycur w).2.1) (yder (nI (97 + k)) t)
    · obtain ⟨b, h4, e4, hc4, fx4, hb⟩ := ih (k + 1) h3 (.val (.int (ysl2 (ycur w).2.1 (nI (97 + k)) t))) (.val (.int x)) znw_i znw_i (by omega) hc3 ht3
      refine ⟨b, h4, ?_, hc4, zfx_mono (zfx_tr fx fx4) (Nat.le_refl _) (Nat.le_refl _) (by omega) (by omega), hb⟩
      rw [← e4]
      have eb : zrun zP sv (zcall zP sv (d + 47)) 82 67 [.val (.ref m), .val (.ref a), .val (.int (nI (97 + k))), .val (.int (ysl2 (ycur w).2.1 (nI (97 + k)) t)), .val (.int x)] [] h3 = zrun zP sv (zcall zP sv (d + 47)) 82 3 [.val (.ref m), .val (.ref a), .val (.int (nI (97 + (k + 1)))), .val (.int (ysl2 (ycur w).2.1 (nI (97 + k)) t)), .val (.int x)] [] h3 := by
        simp (disch := first | exact znw_u | exact znw_i) only [zs_82_67, zs_82_68, zs_82_69, zs_82_70, zs_82_71, zs_82_72, c2]
      rw [← eb]
      simp (disch := first | exact w3 | exact w4 | exact znw_u | exact znw_i) only [zs_82_0, zs_82_2, zs_82_3, zs_82_4, zs_82_6, zs_82_9, zs_82_10, zs_82_13, zs_82_14, zs_82_15, zs_82_16, zs_82_19, zs_82_22, zs_82_25, zs_82_26, zs_82_27, zs_82_30, zs_82_31, zs_82_32, zs_82_33, zs_82_36, zs_82_39, zs_82_41, zs_82_42, zs_82_43, zs_82_46, zs_82_47, zs_82_50, zs_82_52, zs_82_53, zs_82_56, zs_82_59, zs_82_62, zs_82_65, zs_82_66, zs_82_75, zs_82_76, if_neg c1, q1, q2, q3, zECc, zrc_1, zf_1_0, zp_1_0, zp_1_0n, zf_1_1, zp_1_1, zf_1_2, zp_1_2, zp_1_2n, zf_1_3, zp_1_3, zp_1_3n, zf_1_4, zp_1_40, zp_1_41, zf_1_5, zp_1_5, zp_1_5n, zf_1_6, zp_1_6, zp_1_6n, zf_1_7, zp_1_7, zp_1_7n, zf_1_8, zp_1_8, zp_1_8n, zf_1_9, zp_1_9, zp_1_9n, zf_1_10, zp_1_10, zp_1_10n, zf_1_11, zp_1_11, zp_1_11n, zf_1_12, zp_1_12, zp_1_12n, zcur_r hc, zcur_r hc2, e170, e170', rg, r9, r10, e1, e2, e3, if_pos c, zbk_v, zts_s, zts_n, List.cons_append, List.nil_append]
    · refine ⟨false, h3, ?_, hc3, fx, fun z => absurd (z _ (ylet_n k (by omega))) c⟩
      rw [yb_f]
      simp (disch := first | exact w3 | exact w4 | exact znw_u | exact znw_i) only [zs_82_0, zs_82_2, zs_82_3, zs_82_4, zs_82_6, zs_82_9, zs_82_10, zs_82_13, zs_82_14, zs_82_15, zs_82_16, zs_82_19, zs_82_22, zs_82_25, zs_82_26, zs_82_27, zs_82_30, zs_82_31, zs_82_32, zs_82_33, zs_82_36, zs_82_39, zs_82_41, zs_82_42, zs_82_43, zs_82_46, zs_82_47, zs_82_50, zs_82_52, zs_82_53, zs_82_56, zs_82_59, zs_82_62, zs_82_65, zs_82_66, zs_82_75, zs_82_76, if_neg c1, q1, q2, q3, zECc, zrc_1, zf_1_0, zp_1_0, zp_1_0n, zf_1_1, zp_1_1, zf_1_2, zp_1_2, zp_1_2n, zf_1_3, zp_1_3, zp_1_3n, zf_1_4, zp_1_40, zp_1_41, zf_1_5, zp_1_5, zp_1_5n, zf_1_6, zp_1_6, zp_1_6n, zf_1_7, zp_1_7, zp_1_7n, zf_1_8, zp_1_8, zp_1_8n, zf_1_9, zp_1_9, zp_1_9n, zf_1_10, zp_1_10, zp_1_10n, zf_1_11, zp_1_11, zp_1_11n, zf_1_12, zp_1_12, zp_1_12n, zcur_r hc, zcur_r hc2, e170, e170', rg, r9, r10, e1, e2, e3, if_neg c, zgd_t, zty_50, zbk_v, zts_s, zts_n, List.cons_append, List.nil_append]
theorem d_82 {a : Nat} {h : zH} (a1 : m + 139 ≤ a) (a4 : ytok t) (hc : zCls h m w) (ht : zTre h a (ysz t) (ypo 0 t)) : ∃ (b : Bool) (h' : zH), zcall zP sv (d + 48) 82 [.ref m, .ref a] h = some (.inl (some (.int (yb b))), h') ∧ zCls h' m w ∧ zfx m (m + 119) 0 0 h h' ∧ ((∀ c, ylet c = true → ysl2 (ycur w).2.1 c t = yfo (yfR (ycur w).2.1) (yder c t)) → b = true) := by
  obtain ⟨b, h', e, z⟩ := d_82l (sv := sv) (d := d) a1 a4 6 0 h .unset .unset znw_u znw_u rfl hc ht
  refine ⟨b, h', ?_, z⟩
  rw [← e]
  simp (disch := first | exact znw_u | exact znw_i) only [zc_82, zs_82_0, zs_82_2]
/-- what makes a formula consistent -/
def ycon (T : List Int32) (M : Nat) (t : yT) : Prop := (∀ P : List Int32, P.length = 11 → yfo (yfR T) t = yg ((yco M t 0 0).foldl (yexe T) P) 0) ∧ (∀ B0 : List Int32, B0.length = 31 → (yinc (ypo 0 t) 0 ([], B0)).1.length = ynq (ypo 0 t) (ysz t)) ∧ yfo yfD t = yfo yfO t ∧ ∀ c, ylet c = true → ysl2 T c t = yfo (yfR T) (yder c t)
theorem d_64l (hR : (ycur w).2.2.1 = nI M) (h1M : 1 ≤ M) (hM : M ≤ 4) : ∀ n k (h : zH) (l2 l3 : Slot), znw l2 = true → znw l3 = true → k + n = (ycur w).1.length → zCls h m w → ∃ (b : Bool) (h' : zH), zrun zP sv (zcall zP sv (d + 50)) 64 2 [.val (.ref m), .val (.int (nI k)), l2, l3] [] h = some (.inl (some (.int (yb b))), h') ∧ zCls h' m w ∧ zfx m (m + 119) 0 0 h h' ∧ ((∀ t, t ∈ (ycur w).1 → ycon (ycur w).2.1 M t) → b = true) := by
  intro n
  induction n with
  | zero =>
    intro k h l2 l3 w2 w3 hk hc
    obtain rfl : k = (ycur w).1.length := by omega
    have q1 := zCls_0 hc
    have e1 : zcall zP sv (d + 50) 169 [.ref (m + 3)] h = _ := zcur_n hc (d + 49)
    refine ⟨true, h, ?_, hc, zfx_rfl, fun _ => rfl⟩
    rw [yb_t]
    simp only [zs_64_2, zs_64_3, zs_64_4, zs_64_7, zs_64_10, zs_64_103, zs_64_104, q1, zECc, zrc_1, zf_1_0, zp_1_0, zp_1_0n, zf_1_1, zp_1_1, zf_1_2, zp_1_2, zp_1_2n, zf_1_3, zp_1_3, zp_1_3n, zf_1_4, zp_1_40, zp_1_41, zf_1_5, zp_1_5, zp_1_5n, zf_1_6, zp_1_6, zp_1_6n, zf_1_7, zp_1_7, zp_1_7n, zf_1_8, zp_1_8, zp_1_8n, zf_1_9, zp_1_9, zp_1_9n, zf_1_10, zp_1_10, zp_1_10n, zf_1_11, zp_1_11, zp_1_11n, zf_1_12, zp_1_12, zp_1_12n, zcur_r hc, e1, zbk_v, zts_s, zgd_t, zty_51, Int32.lt_irrefl, ↓reduceIte, List.cons_append, List.nil_append]
  | succ n ih =>
    intro k h l2 l3 w2 w3 hk hc
    have q1 := zCls_0 hc
    have hA := zcur_ok hc
    have h6 := hA.1
    have c1 : nI k < nI (ycur w).1.length := nI_lt (by omega) (by omega)
    obtain ⟨t, ht⟩ : ∃ t, (ycur w).1[k]? = some t := ⟨_, List.getElem?_eq_getElem (by omega)⟩
    have e1 : zcall zP sv (d + 50) 169 [.ref (m + 3)] h = _ := zcur_n hc (d + 49)
    obtain ⟨a, e0, a1, a2, a3, a4⟩ := d_70k (sv := sv) (d := d + 48) hc ht
    have hsz := a4.2.1
    obtain ⟨f1, f2, f3, f4⟩ := yform a4.1 (by omega)
    have hmem := List.mem_of_getElem? ht
    have e183 : zcall zP sv (d + 50) 183 [.ref a] h = _ := d_183 (d := d + 49) a3
    rw [yroot_sub f4] at e183
    obtain ⟨A, B, C, hg⟩ := zgau_ex hc
    obtain ⟨s3, s4⟩ := zcur_let (sv := sv) hc
    have e170 := s4 (d + 49)
    obtain ⟨h1, A', k1, g1, r1, p1⟩ := d_121 (sv := sv) (d := d + 46) (rt := nI (ysz t - 1)) f1 (show m + 78 + 7 ≤ a ∨ a + 9 ≤ m + 78 by omega) (by omega) (show m + 78 + 7 ≤ m + 3 + 2 ∨ m + 3 + 2 + 2 ≤ m + 78 by omega) a3 hg s3
    rw [yQ_g r1 (Or.inr ⟨ysz t - 1, by omega, rfl⟩) (Nat.le_refl _) f1.1, f2] at k1
    have hc1 := zCls_g hc p1 g1
    have ht1 := zTre_fr a3 p1 (by omega)
    obtain ⟨h2, P, hP, k2, hc2, p2⟩ := d_76 (sv := sv) (d := d + 4) hc1 a1 ht1 a4 hR h1M hM
    have ht2 := zTre_fr ht1 p2 (by omega)
    have rg : ∀ X : zR, zrc (h.1 (m + 78)) 10 X = X := fun X => zGau_rc hg
    have fx2 : zfx m (m + 119) 0 0 h h2 := zfx_mono (zfx_tr (zfr_fx p1 (by omega) (by omega)) (zfr_fx p2 (by omega) (by omega))) (Nat.le_refl _) (Nat.le_refl _) (by omega) (by omega)
    by_cases v1 : yfo (yfR (ycur w).2.1) t = yg ((yco M t 0 0).foldl (yexe (ycur w).2.1) P) 0
    · obtain ⟨h3, B0, k3, hc3, _, hB0, p3⟩ := d_77 (sv := sv) (d := d + 4) hc2 a1 ht2 a4
      have ht3 := zTre_fr ht2 p3 (by omega)
      have k4 := d_78 (sv := sv) (d := d + 36) f1 ht3 (yform_bd a4.1 (by omega) a4.2.2) (by omega)
      rw [f3] at k4
      have fx3 : zfx m (m + 119) 0 0 h h3 := zfx_mono (zfx_tr fx2 (zfr_fx p3 (by omega) (by omega))) (Nat.le_refl _) (Nat.le_refl _) (by omega) (by omega)
      by_cases v2 : nI (yinc (ypo 0 t) 0 ([], B0)).1.length = nI (ynq (ypo 0 t) (ysz t))
      · have q3 := zCls_0 hc3
        obtain ⟨A3, B3, C3, hg3⟩ := zgau_ex hc3
        obtain ⟨h4, C4, k5, g4, r4, p4⟩ := d_125 (sv := sv) (d := d + 46) f1 (show m + 78 + 7 ≤ a ∨ a + 9 ≤ m + 78 by omega) (by omega) ht3 hg3
        rw [yroot_sub f4, yQ_g r4 (Or.inr ⟨ysz t - 1, by omega, rfl⟩) (Nat.le_refl _) f1.1, f2] at k5
        have hc4 := zCls_g hc3 p4 g4
        have q4 := zCls_0 hc4
        have ht4 := zTre_fr ht3 p4 (by omega)
        obtain ⟨h5, A5, k6, g5, r5, p5⟩ := d_128 (sv := sv) (d := d + 46) f1 (show m + 78 + 7 ≤ a ∨ a + 9 ≤ m + 78 by omega) (by omega) ht4 g4
        rw [yroot_sub f4, yQ_g r5 (Or.inr ⟨ysz t - 1, by omega, rfl⟩) (Nat.le_refl _) f1.1, f2] at k6
        have hc5 := zCls_g hc4 p5 g5
        have ht5 := zTre_fr ht4 p5 (by omega)
        have rg3 : ∀ X : zR, zrc (h3.1 (m + 78)) 10 X = X := fun X => zGau_rc hg3
        have rg4 : ∀ X : zR, zrc (h4.1 (m + 78)) 10 X = X := fun X => zGau_rc g4
        have fx5 : zfx m (m + 119) 0 0 h h5 := zfx_mono (zfx_tr (zfx_tr fx3 (zfr_fx p4 (by omega) (by omega))) (zfr_fx p5 (by omega) (by omega))) (Nat.le_refl _) (Nat.le_refl _) (by omega) (by omega)
        by_cases v3 : yfo yfD t = yfo yfO t
        · obtain ⟨b5, h6', k7, hc6, fx6, hb6⟩ := d_82 (sv := sv) (d := d + 2) a1 a4 hc5 ht5
          have fx6' : zfx m (m + 119) 0 0 h h6' := zfx_mono (zfx_tr fx5 fx6) (Nat.le_refl _) (Nat.le_refl _) (by omega) (by omega)
          cases b5 with
          | true =>
            obtain ⟨b, h7, e7, hc7, fx7, hb⟩ := ih (k + 1) h6' (.val (.ref a)) (.val (.int (nI 1))) rfl znw_i (by omega) hc6
            refine ⟨b, h7, ?_, hc7, zfx_mono (zfx_tr fx6' fx7) (Nat.le_refl _) (Nat.le_refl _) (by omega) (by omega), hb⟩
            rw [← e7]
            have eb : zrun zP sv (zcall zP sv (d + 50)) 64 97 [.val (.ref m), .val (.int (nI k)), .val (.ref a), .val (.int (nI 1))] [] h6' = zrun zP sv (zcall zP sv (d + 50)) 64 2 [.val (.ref m), .val (.int (nI (k + 1))), .val (.ref a), .val (.int (nI 1))] [] h6' := by rw [zs_64_97, zs_64_100, nI_1']
            rw [← eb]
            rw [yb_t] at k7
            simp (disch := first | exact w2 | exact w3 | exact znw_u | exact znw_i) only [zs_64_0, zs_64_1, zs_64_2, zs_64_3, zs_64_4, zs_64_7, zs_64_10, zs_64_13, zs_64_14, zs_64_15, zs_64_18, zs_64_19, zs_64_20, zs_64_23, zs_64_24, zs_64_25, zs_64_28, zs_64_29, zs_64_32, zs_64_35, zs_64_38, zs_64_39, zs_64_40, zs_64_43, zs_64_46, zs_64_47, zs_64_48, zs_64_51, zs_64_52, zs_64_55, zs_64_58, zs_64_59, zs_64_62, zs_64_63, zs_64_66, zs_64_67, zs_64_70, zs_64_71, zs_64_74, zs_64_77, zs_64_78, zs_64_79, zs_64_82, zs_64_85, zs_64_86, zs_64_89, zs_64_90, zs_64_91, zs_64_92, zs_64_95, zs_64_96, zs_64_103, zs_64_104, q1, q3, q4, zECc, zrc_1, zf_1_0, zp_1_0, zp_1_0n, zf_1_1, zp_1_1, zf_1_2, zp_1_2, zp_1_2n, zf_1_3, zp_1_3, zp_1_3n, zf_1_4, zp_1_40, zp_1_41, zf_1_5, zp_1_5, zp_1_5n, zf_1_6, zp_1_6, zp_1_6n, zf_1_7, zp_1_7, zp_1_7n, zf_1_8, zp_1_8, zp_1_8n, zf_1_9, zp_1_9, zp_1_9n, zf_1_10, zp_1_10, zp_1_10n, zf_1_11, zp_1_11, zp_1_11n, zf_1_12, zp_1_12, zp_1_12n, zcur_r hc, e1, if_pos c1, zEC1 hc, zEC1 hc1, zEC1 hc2, zEC1 hc5, e0, zTre_rc a3, e183, e170, rg, rg3, rg4, k1, k2, if_pos v1, k3, k4, if_pos v2, k5, k6, if_pos v3, k7, nI_1e0, zbk_v, zts_s, zts_n, ↓reduceIte, List.cons_append, List.nil_append]
          | false =>
            refine ⟨false, h6', ?_, hc6, fx6', fun z => hb6 (z t hmem).2.2.2⟩
            rw [yb_f] at k7 ⊢
            simp (disch := first | exact w2 | exact w3 | exact znw_u | exact znw_i) only [zs_64_0, zs_64_1, zs_64_2, zs_64_3, zs_64_4, zs_64_7, zs_64_10, zs_64_13, zs_64_14, zs_64_15, zs_64_18, zs_64_19, zs_64_20, zs_64_23, zs_64_24, zs_64_25, zs_64_28, zs_64_29, zs_64_32, zs_64_35, zs_64_38, zs_64_39, zs_64_40, zs_64_43, zs_64_46, zs_64_47, zs_64_48, zs_64_51, zs_64_52, zs_64_55, zs_64_58, zs_64_59, zs_64_62, zs_64_63, zs_64_66, zs_64_67, zs_64_70, zs_64_71, zs_64_74, zs_64_77, zs_64_78, zs_64_79, zs_64_82, zs_64_85, zs_64_86, zs_64_89, zs_64_90, zs_64_91, zs_64_92, zs_64_95, zs_64_96, zs_64_103, zs_64_104, q1, q3, q4, zECc, zrc_1, zf_1_0, zp_1_0, zp_1_0n, zf_1_1, zp_1_1, zf_1_2, zp_1_2, zp_1_2n, zf_1_3, zp_1_3, zp_1_3n, zf_1_4, zp_1_40, zp_1_41, zf_1_5, zp_1_5, zp_1_5n, zf_1_6, zp_1_6, zp_1_6n, zf_1_7, zp_1_7, zp_1_7n, zf_1_8, zp_1_8, zp_1_8n, zf_1_9, zp_1_9, zp_1_9n, zf_1_10, zp_1_10, zp_1_10n, zf_1_11, zp_1_11, zp_1_11n, zf_1_12, zp_1_12, zp_1_12n, zcur_r hc, e1, if_pos c1, zEC1 hc, zEC1 hc1, zEC1 hc2, zEC1 hc5, e0, zTre_rc a3, e183, e170, rg, rg3, rg4, k1, k2, if_pos v1, k3, k4, if_pos v2, k5, k6, if_pos v3, k7, nI_1e0, zbk_v, zts_s, zts_n, zgd_t, zty_50, ↓reduceIte, List.cons_append, List.nil_append]
        · refine ⟨false, h5, ?_, hc5, fx5, fun z => absurd (z t hmem).2.2.1 v3⟩
          rw [yb_f]
          simp (disch := first | exact w2 | exact w3 | exact znw_u | exact znw_i) only [zs_64_0, zs_64_1, zs_64_2, zs_64_3, zs_64_4, zs_64_7, zs_64_10, zs_64_13, zs_64_14, zs_64_15, zs_64_18, zs_64_19, zs_64_20, zs_64_23, zs_64_24, zs_64_25, zs_64_28, zs_64_29, zs_64_32, zs_64_35, zs_64_38, zs_64_39, zs_64_40, zs_64_43, zs_64_46, zs_64_47, zs_64_48, zs_64_51, zs_64_52, zs_64_55, zs_64_58, zs_64_59, zs_64_62, zs_64_63, zs_64_66, zs_64_67, zs_64_70, zs_64_71, zs_64_74, zs_64_77, zs_64_78, zs_64_79, zs_64_82, zs_64_85, zs_64_86, zs_64_89, zs_64_90, zs_64_91, zs_64_92, zs_64_95, zs_64_96, zs_64_103, zs_64_104, q1, q3, q4, zECc, zrc_1, zf_1_0, zp_1_0, zp_1_0n, zf_1_1, zp_1_1, zf_1_2, zp_1_2, zp_1_2n, zf_1_3, zp_1_3, zp_1_3n, zf_1_4, zp_1_40, zp_1_41, zf_1_5, zp_1_5, zp_1_5n, zf_1_6, zp_1_6, zp_1_6n, zf_1_7, zp_1_7, zp_1_7n, zf_1_8, zp_1_8, zp_1_8n, zf_1_9, zp_1_9, zp_1_9n, zf_1_10, zp_1_10, zp_1_10n, zf_1_11, zp_1_11, zp_1_11n, zf_1_12, zp_1_12, zp_1_12n, zcur_r hc, e1, if_pos c1, zEC1 hc, zEC1 hc1, zEC1 hc2, e0, zTre_rc a3, e183, e170, rg, rg3, rg4, k1, k2, if_pos v1, k3, k4, if_pos v2, k5, k6, if_neg v3, nI_1e0, zbk_v, zts_s, zts_n, zgd_t, zty_50, ↓reduceIte, List.cons_append, List.nil_append]
      · refine ⟨false, h3, ?_, hc3, fx3, fun z => absurd (congrArg nI ((z t hmem).2.1 B0 hB0)) v2⟩
        rw [yb_f]
        simp (disch := first | exact w2 | exact w3 | exact znw_u | exact znw_i) only [zs_64_0, zs_64_1, zs_64_2, zs_64_3, zs_64_4, zs_64_7, zs_64_10, zs_64_13, zs_64_14, zs_64_15, zs_64_18, zs_64_19, zs_64_20, zs_64_23, zs_64_24, zs_64_25, zs_64_28, zs_64_29, zs_64_32, zs_64_35, zs_64_38, zs_64_39, zs_64_40, zs_64_43, zs_64_46, zs_64_47, zs_64_48, zs_64_51, zs_64_52, zs_64_55, zs_64_58, zs_64_59, zs_64_62, zs_64_63, zs_64_66, zs_64_67, zs_64_70, zs_64_71, zs_64_74, zs_64_77, zs_64_78, zs_64_79, zs_64_82, zs_64_85, zs_64_86, zs_64_89, zs_64_90, zs_64_91, zs_64_92, zs_64_95, zs_64_96, zs_64_103, zs_64_104, q1, zECc, zrc_1, zf_1_0, zp_1_0, zp_1_0n, zf_1_1, zp_1_1, zf_1_2, zp_1_2, zp_1_2n, zf_1_3, zp_1_3, zp_1_3n, zf_1_4, zp_1_40, zp_1_41, zf_1_5, zp_1_5, zp_1_5n, zf_1_6, zp_1_6, zp_1_6n, zf_1_7, zp_1_7, zp_1_7n, zf_1_8, zp_1_8, zp_1_8n, zf_1_9, zp_1_9, zp_1_9n, zf_1_10, zp_1_10, zp_1_10n, zf_1_11, zp_1_11, zp_1_11n, zf_1_12, zp_1_12, zp_1_12n, zcur_r hc, e1, if_pos c1, zEC1 hc, zEC1 hc1, zEC1 hc2, e0, zTre_rc a3, e183, e170, rg, k1, k2, if_pos v1, k3, k4, if_neg v2, nI_1e0, zbk_v, zts_s, zts_n, zgd_t, zty_50, ↓reduceIte, List.cons_append, List.nil_append]
    · refine ⟨false, h2, ?_, hc2, fx2, fun z => absurd ((z t hmem).1 P hP) v1⟩
      rw [yb_f]
      simp (disch := first | exact w2 | exact w3 | exact znw_u | exact znw_i) only [zs_64_0, zs_64_1, zs_64_2, zs_64_3, zs_64_4, zs_64_7, zs_64_10, zs_64_13, zs_64_14, zs_64_15, zs_64_18, zs_64_19, zs_64_20, zs_64_23, zs_64_24, zs_64_25, zs_64_28, zs_64_29, zs_64_32, zs_64_35, zs_64_38, zs_64_39, zs_64_40, zs_64_43, zs_64_46, zs_64_47, zs_64_48, zs_64_51, zs_64_52, zs_64_55, zs_64_58, zs_64_59, zs_64_62, zs_64_63, zs_64_66, zs_64_67, zs_64_70, zs_64_71, zs_64_74, zs_64_77, zs_64_78, zs_64_79, zs_64_82, zs_64_85, zs_64_86, zs_64_89, zs_64_90, zs_64_91, zs_64_92, zs_64_95, zs_64_96, zs_64_103, zs_64_104, q1, zECc, zrc_1, zf_1_0, zp_1_0, zp_1_0n, zf_1_1, zp_1_1, zf_1_2, zp_1_2, zp_1_2n, zf_1_3, zp_1_3, zp_1_3n, zf_1_4, zp_1_40, zp_1_41, zf_1_5, zp_1_5, zp_1_5n, zf_1_6, zp_1_6, zp_1_6n, zf_1_7, zp_1_7, zp_1_7n, zf_1_8, zp_1_8, zp_1_8n, zf_1_9, zp_1_9, zp_1_9n, zf_1_10, zp_1_10, zp_1_10n, zf_1_11, zp_1_11, zp_1_11n, zf_1_12, zp_1_12, zp_1_12n, zcur_r hc, e1, if_pos c1, zEC1 hc, zEC1 hc1, e0, zTre_rc a3, e183, e170, rg, k1, k2, if_neg v1, nI_1e0, zbk_v, zts_s, zts_n, zgd_t, zty_50, ↓reduceIte, List.cons_append, List.nil_append]
theorem d_64 {h : zH} (hc : zCls h m w) (hR : (ycur w).2.2.1 = nI M) (h1M : 1 ≤ M) (hM : M ≤ 4) : ∃ b : Bool, ((∀ t, t ∈ (ycur w).1 → ycon (ycur w).2.1 M t) → b = true) ∧ zEnd h m (zcall zP sv (d + 51) 64 [.ref m] h) 0 0 (.inl (some (.int (yb b)))) w := by
  obtain ⟨b, h', e, hc', fx, hb⟩ := d_64l (sv := sv) (d := d) hR h1M hM (ycur w).1.length 0 h .unset .unset znw_u znw_u (Nat.zero_add _) hc
  rw [nI_0] at e
  refine ⟨b, hb, h', ?_, hc', fx⟩
  rw [← e]
  simp (disch := first | exact znw_u | exact znw_i) only [zc_64, zs_64_0, zs_64_1]
end ZRN
