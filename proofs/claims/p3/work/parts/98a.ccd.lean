section ZRA
variable {sv : Nat → Value} {d : Nat}
/-- the slots that are taken: the first j of seven -/
def ybsy (j : Nat) : List Int32 := List.replicate j (nI 1) ++ List.replicate (7 - j) 0
theorem ybsy_1 : ∀ j, j < 7 → ys (ybsy j) (nI j) (nI 1) = ybsy (j + 1) := by decide +kernel
theorem ybsy_0 : ∀ j, j < 7 → ys (ybsy (j + 1)) (nI j) 0 = ybsy j := by decide +kernel
theorem ybsy_g1 : ∀ j, j < 8 → ∀ i, i < j → yg (ybsy j) (nI i) = nI 1 := by decide +kernel
theorem ybsy_g0 : ∀ j, j < 7 → yg (ybsy j) (nI j) = 0 := by decide +kernel
def zCdl (c : Nat) (le ma : Int32) : zC := (12, [.ref (c + 8), .ref (c + 10), .ref (c + 12), .ref (c + 14), .ref (c + 16), .int le, .ref (c + 1), .ref (c + 18), .ref (c + 20), .int ma])
def zCdr (h : zH) (c : Nat) (q : List yI) : Prop := ∃ K R N L E : List Int32, (zRow h (c + 8) K ∧ zRow h (c + 10) R ∧ zRow h (c + 12) N ∧ zRow h (c + 14) L ∧ zRow h (c + 16) E) ∧ (K.length = 62 ∧ R.length = 62 ∧ N.length = 62 ∧ L.length = 62 ∧ E.length = 62) ∧ (K.take q.length = q.map (fun i => i.1) ∧ R.take q.length = q.map (fun i => i.2.1) ∧ N.take q.length = q.map (fun i => i.2.2.1) ∧ L.take q.length = q.map (fun i => i.2.2.2.1) ∧ E.take q.length = q.map (fun i => i.2.2.2.2)) ∧ q.length ≤ 62
/-- the class's code: instructions q, machine ma, its gauge's rows, its places P, j slots taken -/
def zCdC (h : zH) (c : Nat) (q : List yI) (ma : Int32) (A B C P : List Int32) (j : Nat) : Prop := h.1 c = zCdl c (nI q.length) ma ∧ zGau h (c + 1) A B C ∧ zCdr h c q ∧ zRow h (c + 18) (ybsy j) ∧ zRow h (c + 20) P ∧ P.length = 11
theorem zCdC_rc {h : zH} {c : Nat} {q : List yI} {ma : Int32} {A B C P : List Int32} {j : Nat} {X : zR} (hc : zCdC h c q ma A B C P j) : zrc (h.1 c) 12 X = X := by
  rw [hc.1]
  exact zrc_k
theorem d_111 {h : zH} {c : Nat} {q : List yI} {ma : Int32} {A B C P : List Int32} {j : Nat} {k r n x y : Int32} (hc : zCdC h c q ma A B C P j) (hq : q.length < 62) : ∃ h', zcall zP sv (d + 2) 111 [.ref c, .int k, .int r, .int n, .int x, .int y] h = some (.inl none, h') ∧ zCdC h' c (q ++ [(k, r, n, x, y)]) ma A B C P j ∧ zfr c (c + 22) h h' := by
  obtain ⟨c0, hg, ⟨K, R, N, L, E, ⟨k1, k2, k3, k4, k5⟩, ⟨l1, l2, l3, l4, l5⟩, ⟨t1, t2, t3, t4, t5⟩, _⟩, hb, hp, hpl⟩ := hc
  obtain ⟨h1, hh1⟩ : ∃ h1, h1 = zup h (c + 8 + 1) (20, (ys K (nI q.length) k).map Value.int) := ⟨_, rfl⟩
  obtain ⟨h2, hh2⟩ : ∃ h2, h2 = zup h1 (c + 10 + 1) (20, (ys R (nI q.length) r).map Value.int) := ⟨_, rfl⟩
  obtain ⟨h3, hh3⟩ : ∃ h3, h3 = zup h2 (c + 12 + 1) (20, (ys N (nI q.length) n).map Value.int) := ⟨_, rfl⟩
  obtain ⟨h4, hh4⟩ : ∃ h4, h4 = zup h3 (c + 14 + 1) (20, (ys L (nI q.length) x).map Value.int) := ⟨_, rfl⟩
  obtain ⟨h5, hh5⟩ : ∃ h5, h5 = zup h4 (c + 16 + 1) (20, (ys E (nI q.length) y).map Value.int) := ⟨_, rfl⟩
  have e1 : zcall zP sv (d + 1) 166 [.ref (c + 8), .int (nI q.length), .int k] h = _ := d_166 k1
  rw [← hh1] at e1
  have e2 : zcall zP sv (d + 1) 166 [.ref (c + 10), .int (nI q.length), .int r] h1 = _ := d_166 (by rw [hh1]; exact zRow_up k2 (by omega) (by omega))
  rw [← hh2] at e2
  have e3 : zcall zP sv (d + 1) 166 [.ref (c + 12), .int (nI q.length), .int n] h2 = _ := d_166 (by rw [hh2, hh1]; exact zRow_up (zRow_up k3 (by omega) (by omega)) (by omega) (by omega))
  rw [← hh3] at e3
  have e4 : zcall zP sv (d + 1) 166 [.ref (c + 14), .int (nI q.length), .int x] h3 = _ := d_166 (by rw [hh3, hh2, hh1]; exact zRow_up (zRow_up (zRow_up k4 (by omega) (by omega)) (by omega) (by omega)) (by omega) (by omega))
  rw [← hh4] at e4
  have e5 : zcall zP sv (d + 1) 166 [.ref (c + 16), .int (nI q.length), .int y] h4 = _ := d_166 (by rw [hh4, hh3, hh2, hh1]; exact zRow_up (zRow_up (zRow_up (zRow_up k5 (by omega) (by omega)) (by omega) (by omega)) (by omega) (by omega)) (by omega) (by omega))
  rw [← hh5] at e5
  have f : ∀ z, z ≠ c + 9 → z ≠ c + 11 → z ≠ c + 13 → z ≠ c + 15 → z ≠ c + 17 → h5.1 z = h.1 z := fun z z1 z2 z3 z4 z5 => by rw [hh5, zup_ne (by omega), hh4, zup_ne (by omega), hh3, zup_ne (by omega), hh2, zup_ne (by omega), hh1, zup_ne (by omega)]
  have a1 : h1.1 c = zCdl c (nI q.length) ma := by rw [hh1, zup_ne (by omega), c0]
  have a2 : h2.1 c = zCdl c (nI q.length) ma := by rw [hh2, zup_ne (by omega), a1]
  have a3 : h3.1 c = zCdl c (nI q.length) ma := by rw [hh3, zup_ne (by omega), a2]
  have a4 : h4.1 c = zCdl c (nI q.length) ma := by rw [hh4, zup_ne (by omega), a3]
  have a5 : h5.1 c = zCdl c (nI q.length) ma := by rw [hh5, zup_ne (by omega), a4]
  have b1 : ∀ X : zR, zrc (h.1 (c + 8)) 4 X = X := fun X => zRow_rc k1
  have b2 : ∀ X : zR, zrc (h1.1 (c + 10)) 4 X = X := fun X => by rw [hh1, zup_ne (by omega)]; exact zRow_rc k2
  have b3 : ∀ X : zR, zrc (h2.1 (c + 12)) 4 X = X := fun X => by rw [hh2, zup_ne (by omega), hh1, zup_ne (by omega)]; exact zRow_rc k3
  have b4 : ∀ X : zR, zrc (h3.1 (c + 14)) 4 X = X := fun X => by rw [hh3, zup_ne (by omega), hh2, zup_ne (by omega), hh1, zup_ne (by omega)]; exact zRow_rc k4
  have b5 : ∀ X : zR, zrc (h4.1 (c + 16)) 4 X = X := fun X => by rw [hh4, zup_ne (by omega), hh3, zup_ne (by omega), hh2, zup_ne (by omega), hh1, zup_ne (by omega)]; exact zRow_rc k5
  have hl : (q ++ [(k, r, n, x, y)]).length = q.length + 1 := List.length_append
  have c1 : nI q.length < nI 62 := nI_lt hq (by decide)
  have g : ∀ z, z ≠ c → (zup h5 c (zCdl c (nI (q.length + 1)) ma)).1 z = h5.1 z := fun z hz => zup_ne hz
  refine ⟨zup h5 c (zCdl c (nI (q.length + 1)) ma), ?_, ⟨by rw [zup_at, hl], zGau_cg hg (fun z z1 z2 => by rw [g _ (by omega), f _ (by omega) (by omega) (by omega) (by omega) (by omega)]), ⟨K.set q.length k, R.set q.length r, N.set q.length n, L.set q.length x, E.set q.length y, ⟨⟨?_, ?_, ?_⟩, ⟨?_, ?_, ?_⟩, ⟨?_, ?_, ?_⟩, ⟨?_, ?_, ?_⟩, ⟨?_, ?_, ?_⟩⟩, ⟨by rw [List.length_set, l1], by rw [List.length_set, l2], by rw [List.length_set, l3], by rw [List.length_set, l4], by rw [List.length_set, l5]⟩, ⟨?_, ?_, ?_, ?_, ?_⟩, by rw [hl]; omega⟩, zRow_cg hb (fun z z1 z2 => by rw [g _ (by omega), f _ (by omega) (by omega) (by omega) (by omega) (by omega)]), zRow_cg hp (fun z z1 z2 => by rw [g _ (by omega), f _ (by omega) (by omega) (by omega) (by omega) (by omega)]), hpl⟩, ⟨fun z hz => by rw [g _ (by omega), f _ (by omega) (by omega) (by omega) (by omega) (by omega)], by rw [hh5, hh4, hh3, hh2, hh1]; rfl⟩⟩
  · simp (disch := exact znw_u) only [zc_111, zs_111_0, zs_111_0n, zs_111_1, zs_111_4, zs_111_6, zs_111_9, zs_111_9n, zs_111_10, zs_111_13, zs_111_13n, zs_111_14, zs_111_17, zs_111_18, zs_111_21, zs_111_21n, zs_111_22, zs_111_25, zs_111_25n, zs_111_26, zs_111_29, zs_111_30, zs_111_33, zs_111_33n, zs_111_34, zs_111_37, zs_111_37n, zs_111_38, zs_111_41, zs_111_42, zs_111_45, zs_111_45n, zs_111_46, zs_111_49, zs_111_49n, zs_111_50, zs_111_53, zs_111_55, zs_111_58, zs_111_58n, zs_111_59, zs_111_62, zs_111_62n, zs_111_63, zs_111_66, zs_111_68, zs_111_71, zs_111_71n, zs_111_72, zs_111_73, zs_111_76, zs_111_77, zs_111_78, zs_111_81, c0, a1, a2, a3, a4, a5, zCdl, zrc_12, zf_12_0, zp_12_0, zp_12_0n, zf_12_1, zp_12_1, zp_12_1n, zf_12_2, zp_12_2, zp_12_2n, zf_12_3, zp_12_3, zp_12_3n, zf_12_4, zp_12_4, zp_12_4n, zf_12_5, zp_12_5, zf_12_6, zp_12_6, zp_12_6n, zf_12_7, zp_12_7, zp_12_7n, zf_12_8, zp_12_8, zp_12_8n, zf_12_9, zp_12_9, if_pos c1, b1, b2, b3, b4, b5, e1, e2, e3, e4, e5, zbk_v, zts_s, zts_n, nI_1', List.cons_append, List.nil_append]
  · rw [g _ (by omega), f _ (by omega) (by omega) (by omega) (by omega) (by omega)]; exact k1.1
  · rw [g _ (by omega), hh5, zup_ne (by omega), hh4, zup_ne (by omega), hh3, zup_ne (by omega), hh2, zup_ne (by omega), hh1, zup_at, ys_k (by omega)]
  · rw [List.length_set]; exact k1.2.2
  · rw [g _ (by omega), f _ (by omega) (by omega) (by omega) (by omega) (by omega)]; exact k2.1
  · rw [g _ (by omega), hh5, zup_ne (by omega), hh4, zup_ne (by omega), hh3, zup_ne (by omega), hh2, zup_at, ys_k (by omega)]
  · rw [List.length_set]; exact k2.2.2
  · rw [g _ (by omega), f _ (by omega) (by omega) (by omega) (by omega) (by omega)]; exact k3.1
  · rw [g _ (by omega), hh5, zup_ne (by omega), hh4, zup_ne (by omega), hh3, zup_at, ys_k (by omega)]
  · rw [List.length_set]; exact k3.2.2
  · rw [g _ (by omega), f _ (by omega) (by omega) (by omega) (by omega) (by omega)]; exact k4.1
  · rw [g _ (by omega), hh5, zup_ne (by omega), hh4, zup_at, ys_k (by omega)]
  · rw [List.length_set]; exact k4.2.2
  · rw [g _ (by omega), f _ (by omega) (by omega) (by omega) (by omega) (by omega)]; exact k5.1
  · rw [g _ (by omega), hh5, zup_at, ys_k (by omega)]
  · rw [List.length_set]; exact k5.2.2
  · rw [hl, ytk_set t1 (by omega), List.map_append]; rfl
  · rw [hl, ytk_set t2 (by omega), List.map_append]; rfl
  · rw [hl, ytk_set t3 (by omega), List.map_append]; rfl
  · rw [hl, ytk_set t4 (by omega), List.map_append]; rfl
  · rw [hl, ytk_set t5 (by omega), List.map_append]; rfl
theorem d_110l {h : zH} {c : Nat} {q : List yI} {ma : Int32} {A B C P : List Int32} {j : Nat} (hc : zCdC h c q ma A B C P j) (hj : j < 7) : ∀ n i, i + n = j → zrun zP sv (zcall zP sv (d + 1)) 110 2 [.val (.ref c), .val (.int (nI i))] [] h = zrun zP sv (zcall zP sv (d + 1)) 110 25 [.val (.ref c), .val (.int (nI j))] [] h := by
  have c0 := hc.1
  have hb := hc.2.2.2.1
  intro n
  induction n with
  | zero =>
    intro i hi
    obtain rfl : i = j := by omega
    have e1 : zcall zP sv (d + 1) 165 [.ref (c + 18), .int (nI i)] h = _ := d_165 hb
    rw [ybsy_g0 i hj] at e1
    have c1 : nI i < nI 7 := nI_lt hj (by decide)
    simp (disch := exact znw_u) only [zs_110_2, zs_110_3, zs_110_5, zs_110_8, zs_110_9, zs_110_12, zs_110_13, zs_110_16, c0, zCdl, zrc_12, zf_12_0, zp_12_0, zp_12_0n, zf_12_1, zp_12_1, zp_12_1n, zf_12_2, zp_12_2, zp_12_2n, zf_12_3, zp_12_3, zp_12_3n, zf_12_4, zp_12_4, zp_12_4n, zf_12_5, zp_12_5, zf_12_6, zp_12_6, zp_12_6n, zf_12_7, zp_12_7, zp_12_7n, zf_12_8, zp_12_8, zp_12_8n, zf_12_9, zp_12_9, if_pos c1, zRow_rc hb, e1, zbk_v, zts_s, ↓reduceIte, List.cons_append, List.nil_append]
  | succ n ih =>
    intro i hi
    have e1 : zcall zP sv (d + 1) 165 [.ref (c + 18), .int (nI i)] h = _ := d_165 hb
    rw [ybsy_g1 j (by omega) i (by omega)] at e1
    have c1 : nI i < nI 7 := nI_lt (by omega) (by decide)
    rw [← ih (i + 1) (by omega)]
    have eb : zrun zP sv (zcall zP sv (d + 1)) 110 19 [.val (.ref c), .val (.int (nI i))] [] h = zrun zP sv (zcall zP sv (d + 1)) 110 2 [.val (.ref c), .val (.int (nI (i + 1)))] [] h := by rw [zs_110_19, zs_110_22, nI_1']
    rw [← eb]
    simp (disch := exact znw_u) only [zs_110_2, zs_110_3, zs_110_5, zs_110_8, zs_110_9, zs_110_12, zs_110_13, zs_110_16, c0, zCdl, zrc_12, zf_12_0, zp_12_0, zp_12_0n, zf_12_1, zp_12_1, zp_12_1n, zf_12_2, zp_12_2, zp_12_2n, zf_12_3, zp_12_3, zp_12_3n, zf_12_4, zp_12_4, zp_12_4n, zf_12_5, zp_12_5, zf_12_6, zp_12_6, zp_12_6n, zf_12_7, zp_12_7, zp_12_7n, zf_12_8, zp_12_8, zp_12_8n, zf_12_9, zp_12_9, if_pos c1, zRow_rc hb, e1, zbk_v, zts_s, nI_1e0, ↓reduceIte, List.cons_append, List.nil_append]
theorem zCdC_bz {h : zH} {c : Nat} {q : List yI} {ma : Int32} {A B C P : List Int32} {j i : Nat} (hc : zCdC h c q ma A B C P j) : zCdC (zup h (c + 18 + 1) (20, (ybsy i).map Value.int)) c q ma A B C P i ∨ ¬ (ybsy i).length = (ybsy j).length := by
  by_cases hl : (ybsy i).length = (ybsy j).length
  · refine Or.inl ?_
    obtain ⟨c0, hg, ⟨K, R, N, L, E, ⟨k1, k2, k3, k4, k5⟩, w⟩, hb, hp, hpl⟩ := hc
    exact ⟨by rw [zup_ne (by omega), c0], zGau_cg hg (fun z z1 z2 => zup_ne (by omega)), ⟨K, R, N, L, E, ⟨zRow_up k1 (by omega) (by omega), zRow_up k2 (by omega) (by omega), zRow_up k3 (by omega) (by omega), zRow_up k4 (by omega) (by omega), zRow_up k5 (by omega) (by omega)⟩, w⟩, zRow_new hb hl, zRow_up hp (by omega) (by omega), hpl⟩
  · exact Or.inr hl
theorem ybsy_len : ∀ j, j < 8 → (ybsy j).length = 7 := by decide
theorem zCdC_b {h : zH} {c : Nat} {q : List yI} {ma : Int32} {A B C P : List Int32} {j i : Nat} (hc : zCdC h c q ma A B C P j) (hi : i < 8) (hj : j < 8) : zCdC (zup h (c + 18 + 1) (20, (ybsy i).map Value.int)) c q ma A B C P i := by
  rcases zCdC_bz (i := i) hc with g | g
  · exact g
  · exact absurd (by rw [ybsy_len i hi, ybsy_len j hj]) g
theorem d_110 {h : zH} {c : Nat} {q : List yI} {ma : Int32} {A B C P : List Int32} {j : Nat} (hc : zCdC h c q ma A B C P j) (hj : j < 7) : ∃ h', zcall zP sv (d + 2) 110 [.ref c] h = some (.inl (some (.int (nI j))), h') ∧ zCdC h' c q ma A B C P (j + 1) ∧ zfr c (c + 22) h h' := by
  have c0 := hc.1
  have hb := hc.2.2.2.1
  have e := d_110l (sv := sv) (d := d) hc hj j 0 (Nat.zero_add _)
  rw [nI_0] at e
  have e1 : zcall zP sv (d + 1) 166 [.ref (c + 18), .int (nI j), .int (nI 1)] h = _ := d_166 hb
  rw [ybsy_1 j hj] at e1
  refine ⟨_, ?_, zCdC_b hc (by omega) (by omega), zfr_up (by omega) (by omega)⟩
  simp (disch := exact znw_u) only [zc_110, zs_110_0, zs_110_1, e, zs_110_25, zs_110_26, zs_110_29, zs_110_30, zs_110_31, zs_110_34, zs_110_35, c0, zCdl, zrc_12, zf_12_0, zp_12_0, zp_12_0n, zf_12_1, zp_12_1, zp_12_1n, zf_12_2, zp_12_2, zp_12_2n, zf_12_3, zp_12_3, zp_12_3n, zf_12_4, zp_12_4, zp_12_4n, zf_12_5, zp_12_5, zf_12_6, zp_12_6, zp_12_6n, zf_12_7, zp_12_7, zp_12_7n, zf_12_8, zp_12_8, zp_12_8n, zf_12_9, zp_12_9, zRow_rc hb, e1, zbk_v, zts_n, List.cons_append, List.nil_append]
end ZRA
