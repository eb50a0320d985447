section ZRL
variable {sv : Nat → Value} {d : Nat}
/-- what an instruction does to the machine's places -/
def yexe (T P : List Int32) (i : yI) : List Int32 := if i.1 = nI 99 then ys P i.2.1 i.2.2.1 else if i.1 = nI 118 then ys P i.2.1 (yg T (i.2.2.1 - nI 97)) else if i.1 = nI 115 then ys P (nI 4 + i.2.2.1) (yg P i.2.1) else ys P i.2.1 (yop i.1 (yg P i.2.2.2.1) (yg P i.2.2.2.2))
theorem yexe_len {T P : List Int32} {i : yI} : (yexe T P i).length = P.length := by
  unfold yexe
  split
  · exact ys_len
  · split
    · exact ys_len
    · split <;> exact ys_len
theorem zCdC_p {h : zH} {c : Nat} {q : List yI} {ma : Int32} {A B C P P' : List Int32} {j : Nat} (hc : zCdC h c q ma A B C P j) (hl : P'.length = P.length) : zCdC (zup h (c + 20 + 1) (20, P'.map Value.int)) c q ma A B C P' j := by
  obtain ⟨c0, hg, ⟨K, R, N, L, E, ⟨k1, k2, k3, k4, k5⟩, w⟩, hb, hp, hpl⟩ := hc
  exact ⟨by rw [zup_ne (by omega), c0], zGau_cg hg (fun z z1 z2 => zup_ne (by omega)), ⟨K, R, N, L, E, ⟨zRow_up k1 (by omega) (by omega), zRow_up k2 (by omega) (by omega), zRow_up k3 (by omega) (by omega), zRow_up k4 (by omega) (by omega), zRow_up k5 (by omega) (by omega)⟩, w⟩, zRow_up hb (by omega) (by omega), zRow_new hp hl, by rw [hl, hpl]⟩
theorem d_113 {h : zH} {c l n : Nat} {q : List yI} {ma : Int32} {A B C P T : List Int32} {j : Nat} {x : yI} (hc : zCdC h c q ma A B C P j) (hx : q[n]? = some x) (hl : zRow h l T) : zcall zP sv (d + 2) 113 [.ref c, .int (nI n), .ref l] h = some (.inl none, zup h (c + 20 + 1) (20, (yexe T P x).map Value.int)) := by
  obtain ⟨k1, k2, k3, k4, k5⟩ := zCdC_at (sv := sv) (d := d) hc hx
  obtain ⟨r1, r2, r3, r4, r5, r6⟩ := zCdC_rr hc
  have c0 := hc.1
  have hp := hc.2.2.2.2.1
  have g : ∀ y, zcall zP sv (d + 1) 165 [.ref (c + 20), .int y] h = some (.inl (some (.int (yg P y))), h) := fun y => d_165 hp
  have gl : ∀ y, zcall zP sv (d + 1) 165 [.ref l, .int y] h = some (.inl (some (.int (yg T y))), h) := fun y => d_165 hl
  have s : ∀ y z, zcall zP sv (d + 1) 166 [.ref (c + 20), .int y, .int z] h = some (.inl none, zup h (c + 20 + 1) (20, (ys P y z).map Value.int)) := fun y z => d_166 hp
  have o : ∀ k a b, zcall zP sv (d + 1) 84 [.int k, .int a, .int b] h = _ := fun k a b => d_84
  have rl : ∀ X : zR, zrc (h.1 l) 4 X = X := fun X => zRow_rc hl
  unfold yexe
  by_cases h1 : x.1 = nI 99
  · rw [if_pos h1]
    simp (disch := first | exact znw_u | exact znw_i) only [zc_113, zs_113_0, zs_113_0n, zs_113_1, zs_113_4, zs_113_5, zs_113_8, zs_113_9, zs_113_9n, zs_113_10, zs_113_13, zs_113_14, zs_113_17, zs_113_19, zs_113_19n, zs_113_20, zs_113_23, zs_113_24, zs_113_27, zs_113_29, zs_113_30, zs_113_32, zs_113_35, zs_113_35n, zs_113_36, zs_113_39, zs_113_41, zs_113_43, zs_113_46, zs_113_49, zs_113_50, zs_113_52, zs_113_55, zs_113_55n, zs_113_56, zs_113_59, zs_113_61, zs_113_61n, zs_113_62, zs_113_64, zs_113_66, zs_113_67, zs_113_70, zs_113_73, zs_113_76, zs_113_77, zs_113_79, zs_113_82, zs_113_82n, zs_113_83, zs_113_86, zs_113_87, zs_113_89, zs_113_90, zs_113_90n, zs_113_91, zs_113_94, zs_113_96, zs_113_99, zs_113_102, zs_113_105, zs_113_105n, zs_113_106, zs_113_109, zs_113_111, zs_113_112, zs_113_112n, zs_113_113, zs_113_116, zs_113_116n, zs_113_117, zs_113_120, zs_113_121, zs_113_124, zs_113_127, zs_113_127n, zs_113_128, zs_113_131, zs_113_131n, zs_113_132, zs_113_135, zs_113_136, zs_113_139, zs_113_142, zs_113_145, zs_113_148, c0, zCdl, zrc_12, zf_12_0, zp_12_0, zp_12_0n, zf_12_1, zp_12_1, zp_12_1n, zf_12_2, zp_12_2, zp_12_2n, zf_12_3, zp_12_3, zp_12_3n, zf_12_4, zp_12_4, zp_12_4n, zf_12_5, zp_12_5, zf_12_6, zp_12_6, zp_12_6n, zf_12_7, zp_12_7, zp_12_7n, zf_12_8, zp_12_8, zp_12_8n, zf_12_9, zp_12_9, r1, r2, r3, r6, k1, k2, k3, s, if_pos h1, zbk_v, zts_s, zts_n, List.cons_append, List.nil_append]
  · rw [if_neg h1]
    by_cases h2 : x.1 = nI 118
    · rw [if_pos h2]
      simp (disch := first | exact znw_u | exact znw_i) only [zc_113, zs_113_0, zs_113_0n, zs_113_1, zs_113_4, zs_113_5, zs_113_8, zs_113_9, zs_113_9n, zs_113_10, zs_113_13, zs_113_14, zs_113_17, zs_113_19, zs_113_19n, zs_113_20, zs_113_23, zs_113_24, zs_113_27, zs_113_29, zs_113_30, zs_113_32, zs_113_35, zs_113_35n, zs_113_36, zs_113_39, zs_113_41, zs_113_43, zs_113_46, zs_113_49, zs_113_50, zs_113_52, zs_113_55, zs_113_55n, zs_113_56, zs_113_59, zs_113_61, zs_113_61n, zs_113_62, zs_113_64, zs_113_66, zs_113_67, zs_113_70, zs_113_73, zs_113_76, zs_113_77, zs_113_79, zs_113_82, zs_113_82n, zs_113_83, zs_113_86, zs_113_87, zs_113_89, zs_113_90, zs_113_90n, zs_113_91, zs_113_94, zs_113_96, zs_113_99, zs_113_102, zs_113_105, zs_113_105n, zs_113_106, zs_113_109, zs_113_111, zs_113_112, zs_113_112n, zs_113_113, zs_113_116, zs_113_116n, zs_113_117, zs_113_120, zs_113_121, zs_113_124, zs_113_127, zs_113_127n, zs_113_128, zs_113_131, zs_113_131n, zs_113_132, zs_113_135, zs_113_136, zs_113_139, zs_113_142, zs_113_145, zs_113_148, c0, zCdl, zrc_12, zf_12_0, zp_12_0, zp_12_0n, zf_12_1, zp_12_1, zp_12_1n, zf_12_2, zp_12_2, zp_12_2n, zf_12_3, zp_12_3, zp_12_3n, zf_12_4, zp_12_4, zp_12_4n, zf_12_5, zp_12_5, zf_12_6, zp_12_6, zp_12_6n, zf_12_7, zp_12_7, zp_12_7n, zf_12_8, zp_12_8, zp_12_8n, zf_12_9, zp_12_9, r1, r2, r3, r6, rl, gl, k1, k2, k3, s, if_neg h1, if_pos h2, zbk_v, zts_s, zts_n, List.cons_append, List.nil_append]
    · rw [if_neg h2]
      by_cases h3 : x.1 = nI 115
      · rw [if_pos h3]
        simp (disch := first | exact znw_u | exact znw_i) only [zc_113, zs_113_0, zs_113_0n, zs_113_1, zs_113_4, zs_113_5, zs_113_8, zs_113_9, zs_113_9n, zs_113_10, zs_113_13, zs_113_14, zs_113_17, zs_113_19, zs_113_19n, zs_113_20, zs_113_23, zs_113_24, zs_113_27, zs_113_29, zs_113_30, zs_113_32, zs_113_35, zs_113_35n, zs_113_36, zs_113_39, zs_113_41, zs_113_43, zs_113_46, zs_113_49, zs_113_50, zs_113_52, zs_113_55, zs_113_55n, zs_113_56, zs_113_59, zs_113_61, zs_113_61n, zs_113_62, zs_113_64, zs_113_66, zs_113_67, zs_113_70, zs_113_73, zs_113_76, zs_113_77, zs_113_79, zs_113_82, zs_113_82n, zs_113_83, zs_113_86, zs_113_87, zs_113_89, zs_113_90, zs_113_90n, zs_113_91, zs_113_94, zs_113_96, zs_113_99, zs_113_102, zs_113_105, zs_113_105n, zs_113_106, zs_113_109, zs_113_111, zs_113_112, zs_113_112n, zs_113_113, zs_113_116, zs_113_116n, zs_113_117, zs_113_120, zs_113_121, zs_113_124, zs_113_127, zs_113_127n, zs_113_128, zs_113_131, zs_113_131n, zs_113_132, zs_113_135, zs_113_136, zs_113_139, zs_113_142, zs_113_145, zs_113_148, c0, zCdl, zrc_12, zf_12_0, zp_12_0, zp_12_0n, zf_12_1, zp_12_1, zp_12_1n, zf_12_2, zp_12_2, zp_12_2n, zf_12_3, zp_12_3, zp_12_3n, zf_12_4, zp_12_4, zp_12_4n, zf_12_5, zp_12_5, zf_12_6, zp_12_6, zp_12_6n, zf_12_7, zp_12_7, zp_12_7n, zf_12_8, zp_12_8, zp_12_8n, zf_12_9, zp_12_9, r1, r2, r3, r6, g, k1, k2, k3, s, if_neg h1, if_neg h2, if_pos h3, zbk_v, zts_s, zts_n, List.cons_append, List.nil_append]
      · rw [if_neg h3]
        simp (disch := first | exact znw_u | exact znw_i) only [zc_113, zs_113_0, zs_113_0n, zs_113_1, zs_113_4, zs_113_5, zs_113_8, zs_113_9, zs_113_9n, zs_113_10, zs_113_13, zs_113_14, zs_113_17, zs_113_19, zs_113_19n, zs_113_20, zs_113_23, zs_113_24, zs_113_27, zs_113_29, zs_113_30, zs_113_32, zs_113_35, zs_113_35n, zs_113_36, zs_113_39, zs_113_41, zs_113_43, zs_113_46, zs_113_49, zs_113_50, zs_113_52, zs_113_55, zs_113_55n, zs_113_56, zs_113_59, zs_113_61, zs_113_61n, zs_113_62, zs_113_64, zs_113_66, zs_113_67, zs_113_70, zs_113_73, zs_113_76, zs_113_77, zs_113_79, zs_113_82, zs_113_82n, zs_113_83, zs_113_86, zs_113_87, zs_113_89, zs_113_90, zs_113_90n, zs_113_91, zs_113_94, zs_113_96, zs_113_99, zs_113_102, zs_113_105, zs_113_105n, zs_113_106, zs_113_109, zs_113_111, zs_113_112, zs_113_112n, zs_113_113, zs_113_116, zs_113_116n, zs_113_117, zs_113_120, zs_113_121, zs_113_124, zs_113_127, zs_113_127n, zs_113_128, zs_113_131, zs_113_131n, zs_113_132, zs_113_135, zs_113_136, zs_113_139, zs_113_142, zs_113_145, zs_113_148, c0, zCdl, zrc_12, zf_12_0, zp_12_0, zp_12_0n, zf_12_1, zp_12_1, zp_12_1n, zf_12_2, zp_12_2, zp_12_2n, zf_12_3, zp_12_3, zp_12_3n, zf_12_4, zp_12_4, zp_12_4n, zf_12_5, zp_12_5, zf_12_6, zp_12_6, zp_12_6n, zf_12_7, zp_12_7, zp_12_7n, zf_12_8, zp_12_8, zp_12_8n, zf_12_9, zp_12_9, r1, r2, r3, r4, r5, r6, g, o, k1, k2, k3, k4, k5, s, if_neg h1, if_neg h2, if_neg h3, zbk_v, zts_s, zts_n, List.cons_append, List.nil_append]
theorem d_112l {c l : Nat} {q : List yI} {ma : Int32} {A B C T : List Int32} {j : Nat} (hd : c + 22 ≤ l ∨ l + 2 ≤ c) : ∀ n i (h : zH) (P : List Int32), i + n = q.length → zCdC h c q ma A B C P j → zRow h l T → ∃ h' P', zrun zP sv (zcall zP sv (d + 2)) 112 2 [.val (.ref c), .val (.ref l), .val (.int (nI i))] [] h = some (.inl (some (.int (yg ((q.drop i).foldl (yexe T) P) 0))), h') ∧ zCdC h' c q ma A B C P' j ∧ zfr c (c + 22) h h' := by
  intro n
  induction n with
  | zero =>
    intro i h P hi hc hl
    obtain rfl : i = q.length := by omega
    obtain ⟨r1, r2, r3, r4, r5, r6⟩ := zCdC_rr hc
    have c0 := hc.1
    have g : zcall zP sv (d + 2) 165 [.ref (c + 20), .int 0] h = _ := d_165 (d := d + 1) hc.2.2.2.2.1
    refine ⟨h, P, ?_, hc, zfr_rfl⟩
    rw [List.drop_length]
    simp (disch := first | exact znw_u | exact znw_i) only [zs_112_0, zs_112_1, zs_112_2, zs_112_3, zs_112_3n, zs_112_4, zs_112_7, zs_112_10, zs_112_10n, zs_112_11, zs_112_12, zs_112_12n, zs_112_13, zs_112_22, zs_112_22n, zs_112_23, zs_112_26, zs_112_27, zs_112_30, c0, zCdl, zrc_12, zf_12_0, zp_12_0, zp_12_0n, zf_12_1, zp_12_1, zp_12_1n, zf_12_2, zp_12_2, zp_12_2n, zf_12_3, zp_12_3, zp_12_3n, zf_12_4, zp_12_4, zp_12_4n, zf_12_5, zp_12_5, zf_12_6, zp_12_6, zp_12_6n, zf_12_7, zp_12_7, zp_12_7n, zf_12_8, zp_12_8, zp_12_8n, zf_12_9, zp_12_9, r6, g, Int32.lt_irrefl, zbk_v, zts_s, ↓reduceIte, List.cons_append, List.nil_append]
    rfl
  | succ n ih =>
    intro i h P hi hc hl
    have hq := zCdC_len hc
    have c1 : nI i < nI q.length := nI_lt (by omega) (by omega)
    obtain ⟨x, hx⟩ : ∃ x, q[i]? = some x := ⟨_, List.getElem?_eq_getElem (by omega)⟩
    have hdr : q.drop i = x :: q.drop (i + 1) := by
      rw [List.drop_eq_getElem_cons (by omega)]
      have hx2 := hx
      rw [List.getElem?_eq_getElem (by omega)] at hx2
      rw [Option.some.inj hx2]
    have c0 := hc.1
    have e1 := d_113 (sv := sv) (d := d) hc hx hl
    have s1 := zCdC_p (P' := yexe T P x) hc yexe_len
    obtain ⟨h1, hh1⟩ : ∃ h1, h1 = zup h (c + 20 + 1) (20, (yexe T P x).map Value.int) := ⟨_, rfl⟩
    rw [← hh1] at e1 s1
    have f1 : zfr c (c + 22) h h1 := by rw [hh1]; exact zfr_up (by omega) (by omega)
    obtain ⟨h2, P', e2, s2, f2⟩ := ih (i + 1) h1 _ (by omega) s1 (zRow_fr hl f1 (by omega))
    refine ⟨h2, P', ?_, s2, zfr_tr f1 f2⟩
    rw [hdr, List.foldl_cons, ← e2]
    have eb : zrun zP sv (zcall zP sv (d + 2)) 112 16 [.val (.ref c), .val (.ref l), .val (.int (nI i))] [] h1 = zrun zP sv (zcall zP sv (d + 2)) 112 2 [.val (.ref c), .val (.ref l), .val (.int (nI (i + 1)))] [] h1 := by rw [zs_112_16, zs_112_19, nI_1']
    rw [← eb]
    simp (disch := first | exact znw_u | exact znw_i) only [zs_112_0, zs_112_1, zs_112_2, zs_112_3, zs_112_3n, zs_112_4, zs_112_7, zs_112_10, zs_112_10n, zs_112_11, zs_112_12, zs_112_12n, zs_112_13, zs_112_22, zs_112_22n, zs_112_23, zs_112_26, zs_112_27, zs_112_30, c0, zCdl, zrc_12, zf_12_0, zp_12_0, zp_12_0n, zf_12_1, zp_12_1, zp_12_1n, zf_12_2, zp_12_2, zp_12_2n, zf_12_3, zp_12_3, zp_12_3n, zf_12_4, zp_12_4, zp_12_4n, zf_12_5, zp_12_5, zf_12_6, zp_12_6, zp_12_6n, zf_12_7, zp_12_7, zp_12_7n, zf_12_8, zp_12_8, zp_12_8n, zf_12_9, zp_12_9, zCdC_rc hc, e1, if_pos c1, zbk_v, zts_n, ↓reduceIte, List.cons_append, List.nil_append]
theorem d_112 {h : zH} {c l : Nat} {q : List yI} {ma : Int32} {A B C P T : List Int32} {j : Nat} (hd : c + 22 ≤ l ∨ l + 2 ≤ c) (hc : zCdC h c q ma A B C P j) (hl : zRow h l T) : ∃ h' P', zcall zP sv (d + 3) 112 [.ref c, .ref l] h = some (.inl (some (.int (yg (q.foldl (yexe T) P) 0))), h') ∧ zCdC h' c q ma A B C P' j ∧ zfr c (c + 22) h h' := by
  obtain ⟨h', P', e, w⟩ := d_112l (sv := sv) (d := d) (c := c) hd q.length 0 h P (Nat.zero_add _) hc hl
  rw [List.drop_zero, nI_0] at e
  refine ⟨h', P', ?_, w⟩
  rw [← e]
  simp (disch := first | exact znw_u | exact znw_i) only [zc_112, zs_112_0, zs_112_1]
end ZRL
section ZRM
variable {sv : Nat → Value} {d : Nat} {h : zH} {m : Nat} {w : yW} {i M : Nat} {t : yT}
theorem zcur_let (hc : zCls h m w) : zRow h (m + 3 + 2) (ycur w).2.1 ∧ ∀ D, zcall zP sv (D + 1) 170 [.ref (m + 3)] h = some (.inl (some (.ref (m + 3 + 2))), h) := by
  obtain ⟨S, s1, s2⟩ := zcur_ex hc
  have hV : S.2.1 = (ycur w).2.1 := by rw [s2.1]
  have s3 := s1.2.2.1
  rw [hV] at s3
  exact ⟨s3, fun D => d_170 s1⟩
/-- the value of a formula by its code -/
theorem d_76 {a : Nat} (hc : zCls h m w) (a1 : m + 139 ≤ a) (a3 : zTre h a (ysz t) (ypo 0 t)) (a4 : ytok t) (hR : (ycur w).2.2.1 = nI M) (h1M : 1 ≤ M) (hM : M ≤ 4) : ∃ h' P, P.length = 11 ∧ zcall zP sv (d + 46) 76 [.ref m, .ref a] h = some (.inl (some (.int (yg ((yco M t 0 0).foldl (yexe (ycur w).2.1) P) 0))), h') ∧ zCls h' m w ∧ zfr (m + 97) (m + 119) h h' := by
  have q1 := zCls_0 hc
  obtain ⟨S, s1, s2⟩ := zcur_ex hc
  have e171 : zcall zP sv (d + 45) 171 [.ref (m + 3)] h = _ := d_171 (d := d + 44) s1
  rw [s2.1, hR] at e171
  obtain ⟨h1, e1, ⟨c1, ma, A, B, C, P, k1⟩, f1⟩ := d_tr (sv := sv) (d := d + 25) hc a1 a3 a4 h1M hM
  have q2 := zCls_0 c1
  obtain ⟨l1, l2⟩ := zcur_let (sv := sv) c1
  have e170 := l2 (d + 44)
  obtain ⟨h2, P', e2, k2, f2⟩ := d_112 (sv := sv) (d := d + 42) (c := m + 97) (l := m + 3 + 2) (by omega) k1 l1
  have c2 := zCls_cod c1 f2 (zCod_of k2)
  obtain ⟨⟨le, ma0, c0⟩, _⟩ := hc.2.2.2.2.2.2.1.2.2.2.2.2
  have r12 : ∀ X : zR, zrc (h.1 (m + 97)) 12 X = X := fun X => by rw [c0]; exact zrc_k
  have r12' : ∀ X : zR, zrc (h1.1 (m + 97)) 12 X = X := fun X => zCdC_rc k1
  refine ⟨h2, P, k1.2.2.2.2.2, ?_, c2, zfr_tr f1 f2⟩
  simp (disch := first | exact znw_u | exact znw_i) only [zc_76, zs_76_0, zs_76_0n, zs_76_1, zs_76_4, zs_76_4n, zs_76_5, zs_76_5n, zs_76_6, zs_76_9, zs_76_12, zs_76_15, zs_76_15n, zs_76_16, zs_76_19, zs_76_19n, zs_76_20, zs_76_23, zs_76_26, zs_76_29, q1, q2, zECc, zrc_1, zf_1_0, zp_1_0, zp_1_0n, zf_1_1, zp_1_1, zf_1_2, zp_1_2, zp_1_2n, zf_1_3, zp_1_3, zp_1_3n, zf_1_4, zp_1_40, zp_1_41, zf_1_5, zp_1_5, zp_1_5n, zf_1_6, zp_1_6, zp_1_6n, zf_1_7, zp_1_7, zp_1_7n, zf_1_8, zp_1_8, zp_1_8n, zf_1_9, zp_1_9, zp_1_9n, zf_1_10, zp_1_10, zp_1_10n, zf_1_11, zp_1_11, zp_1_11n, zf_1_12, zp_1_12, zp_1_12n, zcur_r hc, zcur_r c1, e171, r12, r12', e1, e170, e2, zbk_v, zts_s, zts_n, List.cons_append, List.nil_append]
theorem d_46 (hc : zCls h m w) (hi : (ycur w).1[i]? = some t) (hR : (ycur w).2.2.1 = nI M) (h1M : 1 ≤ M) (hM : M ≤ 4) : ∃ P : List Int32, P.length = 11 ∧ zEnd h m (zcall zP sv (d + 48) 46 [.ref m, .int (nI i)] h) 0 0 (.inl (some (.int (yg ((yco M t 0 0).foldl (yexe (ycur w).2.1) P) 0)))) w := by
  obtain ⟨a, e0, a1, a2, a3, a4⟩ := d_70k (sv := sv) (d := d + 45) hc hi
  obtain ⟨h1, P, p1, e1, c1, f1⟩ := d_76 (sv := sv) (d := d + 1) hc a1 a3 a4 hR h1M hM
  refine ⟨P, p1, zEnd_c ?_ c1 f1⟩
  simp (disch := exact znw_u) only [zc_46, zs_46_0, zs_46_0n, zs_46_1, zs_46_1n, zs_46_2, zs_46_3, zs_46_6, zs_46_9, zEC1 hc, e0, e1, zbk_v, zts_s, zts_n, List.cons_append, List.nil_append]
end ZRM
