theorem zty_5x {c : Prop} [Decidable c] : zty 5 (.int (if c then nI 1 else 0)) = true := by
  by_cases h : c
  · rw [if_pos h]; rfl
  · rw [if_neg h]; rfl
section ZDC
variable {sv : Nat → Value} {d : Nat} {h : zH} {t m : Nat} {ns : List yN}
theorem d_184n (ht : zTre h t m ns) : zcall zP sv (d + 2) 184 [.ref t, .int (-1)] h = some (.inl (some (.int 0)), h) := by
  obtain ⟨K, N, L, R, h0, hr, _⟩ := ht
  rw [zc_184, zs_184_0, zs_184_1, h0, zTc, zf_6_0, zs_184_4, zs_184_5, zRow_rc hr.1, d_165 hr.1, zbk_v, zts_s, zs_184_8, yg_n]
theorem d_188 {i : Nat} {c : Int32} {nd : yN} (ht : zTre h t m ns) (hi : ns[i]? = some nd) : zcall zP sv (d + 3) 188 [.ref t, .int (nI i), .int c] h = some (.inl (some (.int (if nd.1 = nI 118 ∧ nd.2.1 = c then nI 1 else 0))), h) := by
  rw [zc_188, zs_188_0, zs_188_1, zs_188_2, zTre_rc ht, d_184 ht hi, zbk_v, zts_s, zs_188_5, zs_188_7]
  by_cases h1 : nd.1 = nI 118
  · rw [if_pos h1, zs_188_10, zs_188_11, zs_188_12, zTre_rc ht, d_185 ht hi, zbk_v, zts_s, zs_188_15, zs_188_16]
    by_cases h2 : nd.2.1 = c
    · rw [if_pos h2, zs_188_19, zs_188_20, zs_188_24, if_pos ⟨h1, h2⟩, zty_51, zgd_t]
    · rw [if_neg h2, zs_188_23, zs_188_24, if_neg (fun h3 => h2 h3.2), zty_50, zgd_t]
  · rw [if_neg h1, zs_188_23, zs_188_24, if_neg (fun h3 => h1 h3.1), zty_50, zgd_t]
theorem d_189 {i : Nat} {c : Int32} {nd : yN} (ht : zTre h t m ns) (hi : ns[i]? = some nd) : zcall zP sv (d + 3) 189 [.ref t, .int (nI i), .int c] h = some (.inl (some (.int (if nd.1 = nI 99 ∧ nd.2.1 = c then nI 1 else 0))), h) := by
  rw [zc_189, zs_189_0, zs_189_1, zs_189_2, zTre_rc ht, d_184 ht hi, zbk_v, zts_s, zs_189_5, zs_189_7]
  by_cases h1 : nd.1 = nI 99
  · rw [if_pos h1, zs_189_10, zs_189_11, zs_189_12, zTre_rc ht, d_185 ht hi, zbk_v, zts_s, zs_189_15, zs_189_16]
    by_cases h2 : nd.2.1 = c
    · rw [if_pos h2, zs_189_19, zs_189_20, zs_189_24, if_pos ⟨h1, h2⟩, zty_51, zgd_t]
    · rw [if_neg h2, zs_189_23, zs_189_24, if_neg (fun h3 => h2 h3.2), zty_50, zgd_t]
  · rw [if_neg h1, zs_189_23, zs_189_24, if_neg (fun h3 => h1 h3.1), zty_50, zgd_t]
theorem d_192 {x : Int32} (ht : zTre h t m ns) (hn : ns.length < m) : ∃ h', zcall zP sv (d + 3) 192 [.ref t, .int x] h = some (.inl (some (.int (nI ns.length))), h') ∧ zTre h' t m (ns ++ [(nI 99, x, -1, -1)]) ∧ zfr t (t + 9) h h' := by
  obtain ⟨h', e, w⟩ := d_191 (sv := sv) (d := d) (k := nI 99) (n := x) (l := -1) (r := -1) ht hn
  exact ⟨h', by rw [zc_192, zs_192_0, zs_192_1, zs_192_3, zs_192_4, zs_192_5, zs_192_6, zTre_rc ht, e, zbk_v, zts_s, zs_192_9], w⟩
theorem d_192f {x : Int32} (ht : zTre h t m ns) (hn : ns.length = m) : zcall zP sv (d + 3) 192 [.ref t, .int x] h = some (.inl (some (.int (-1))), h) := by
  rw [zc_192, zs_192_0, zs_192_1, zs_192_3, zs_192_4, zs_192_5, zs_192_6, zTre_rc ht, d_191f ht hn, zbk_v, zts_s, zs_192_9]
theorem d_193 {x : Int32} (ht : zTre h t m ns) (hn : ns.length < m) : ∃ h', zcall zP sv (d + 3) 193 [.ref t, .int x] h = some (.inl (some (.int (nI ns.length))), h') ∧ zTre h' t m (ns ++ [(nI 110, 0, x, -1)]) ∧ zfr t (t + 9) h h' := by
  obtain ⟨h', e, w⟩ := d_191 (sv := sv) (d := d) (k := nI 110) (n := 0) (l := x) (r := -1) ht hn
  exact ⟨h', by rw [zc_193, zs_193_0, zs_193_1, zs_193_3, zs_193_4, zs_193_5, zs_193_6, zTre_rc ht, e, zbk_v, zts_s, zs_193_9], w⟩
theorem d_193f {x : Int32} (ht : zTre h t m ns) (hn : ns.length = m) : zcall zP sv (d + 3) 193 [.ref t, .int x] h = some (.inl (some (.int (-1))), h) := by
  rw [zc_193, zs_193_0, zs_193_1, zs_193_3, zs_193_4, zs_193_5, zs_193_6, zTre_rc ht, d_191f ht hn, zbk_v, zts_s, zs_193_9]
theorem d_194 {k x y : Int32} (ht : zTre h t m ns) (hn : ns.length < m) : ∃ h', zcall zP sv (d + 3) 194 [.ref t, .int k, .int x, .int y] h = some (.inl (some (.int (nI ns.length))), h') ∧ zTre h' t m (ns ++ [(k, 0, x, y)]) ∧ zfr t (t + 9) h h' := by
  obtain ⟨h', e, w⟩ := d_191 (sv := sv) (d := d) (k := k) (n := 0) (l := x) (r := y) ht hn
  exact ⟨h', by rw [zc_194, zs_194_0, zs_194_1, zs_194_2, zs_194_3, zs_194_4, zs_194_5, zTre_rc ht, e, zbk_v, zts_s, zs_194_8], w⟩
theorem d_194f {k x y : Int32} (ht : zTre h t m ns) (hn : ns.length = m) : zcall zP sv (d + 3) 194 [.ref t, .int k, .int x, .int y] h = some (.inl (some (.int (-1))), h) := by
  rw [zc_194, zs_194_0, zs_194_1, zs_194_2, zs_194_3, zs_194_4, zs_194_5, zTre_rc ht, d_191f ht hn, zbk_v, zts_s, zs_194_8]
theorem d_195l {t2 m2 : Nat} {ms : List yN} (hd : t + 9 ≤ t2 ∨ t2 + 9 ≤ t) (hm : ms.length ≤ m) : ∀ n i (h : zH), i + n = ms.length → zTre h t m (ms.take i) → zTre h t2 m2 ms → ∃ h', zrun zP sv (zcall zP sv (d + 2)) 195 6 [.val (.ref t), .val (.ref t2), .val (.int (nI i))] [] h = some (.inl none, h') ∧ zTre h' t m ms ∧ zfr t (t + 9) h h' := by
  intro n
  induction n with
  | zero =>
    intro i h hi ht ht2
    have hl := zTre_lt ht2
    obtain rfl : i = ms.length := by omega
    rw [List.take_length] at ht
    refine ⟨h, ?_, ht, zfr_rfl⟩
    rw [zs_195_6, zs_195_7, zs_195_8, zTre_rc ht2, d_182 ht2, zbk_v, zts_s, zs_195_11, if_neg (nI_nlt (by omega) (by omega)), zs_195_45]
  | succ n ih =>
    intro i h hi ht ht2
    have hl := zTre_lt ht2
    obtain ⟨nd, hnd⟩ : ∃ nd, ms[i]? = some nd := ⟨ms[i]'(by omega), List.getElem?_eq_getElem (by omega)⟩
    have hlen : (ms.take i).length = i := by rw [List.length_take]; omega
    obtain ⟨h1, e1, w1, f1⟩ := d_191 (sv := sv) (d := d) (k := nd.1) (n := nd.2.1) (l := nd.2.2.1) (r := nd.2.2.2) ht (by omega)
    have w2 : zTre h1 t m (ms.take (i + 1)) := by rw [List.take_add_one, hnd]; exact w1
    obtain ⟨h2, e2, w3, f2⟩ := ih (i + 1) h1 (by omega) w2 (zTre_fr ht2 f1 (by omega))
    refine ⟨h2, ?_, w3, zfr_tr f1 f2⟩
    rw [zs_195_6, zs_195_7, zs_195_8, zTre_rc ht2, d_182 ht2, zbk_v, zts_s, zs_195_11, if_pos (nI_lt (by omega) (by omega)), zs_195_14, zs_195_15, zs_195_16, zs_195_17, zTre_rc ht2, d_184 ht2 hnd, zbk_v, zts_s, zs_195_20, zs_195_21, zs_195_22, zTre_rc ht2, d_185 ht2 hnd, zbk_v, zts_s, zs_195_25, zs_195_26, zs_195_27, zTre_rc ht2, d_186 ht2 hnd, zbk_v, zts_s, zs_195_30, zs_195_31, zs_195_32, zTre_rc ht2, d_187 ht2 hnd, zbk_v, zts_s, zs_195_35, zTre_rc ht, e1, zbk_v, zts_s, zs_195_38, zs_195_39, zs_195_42, nI_1', e2]
theorem d_195 {t2 m2 : Nat} {ms : List yN} (ht : zTre h t m ns) (ht2 : zTre h t2 m2 ms) (hd : t + 9 ≤ t2 ∨ t2 + 9 ≤ t) (hm : ms.length ≤ m) : ∃ h', zcall zP sv (d + 3) 195 [.ref t, .ref t2] h = some (.inl none, h') ∧ zTre h' t m ms ∧ zfr t (t + 9) h h' := by
  obtain ⟨h1, e1, w1, f1⟩ := d_190 (sv := sv) (d := d + 1) ht
  obtain ⟨h2, e2, w2, f2⟩ := d_195l (sv := sv) (d := d) hd hm ms.length 0 h1 (Nat.zero_add _) (by rw [List.take_zero]; exact w1) (zTre_fr ht2 f1 (by omega))
  rw [nI_0] at e2
  refine ⟨h2, ?_, w2, zfr_tr f1 f2⟩
  rw [zc_195, zs_195_0, zs_195_1, zTre_rc ht, e1, zbk_v, zts_n, zs_195_4, zs_195_5 znw_u, e2]
end ZDC
