/-- what a part of the model's parser answers -/
def zMR (m : Nat) (F : Nat → Int32) (cs : List Int32) (op : Nat) (qs : yP) (h : zH) (res : zR) (r : Option yT × Nat) : Prop := ∃ (h' : zH) (qs' : yP), res = some (.inl (some (.int (yb r.1.isSome))), h') ∧ zPs h' m F cs r.2 op qs' ∧ zfm m h h' ∧ qs'.length ≤ r.2 ∧ ynk qs' ∧ ∀ t, r.1 = some t → qs' = qs ++ ypr t
def yMP (sv : Nat → Value) (m : Nat) (F : Nat → Int32) (cs : List Int32) (K c f md o : Nat) : Prop := ∀ (op pos : Nat) (h : zH) (qs : yP) (D : Nat), ymu o op pos < f → 5 * (7 - op) + c ≤ D → op ≤ 6 → zPs h m F cs pos op qs → qs.length ≤ pos → ynk qs → zMR m F cs op qs h (zcall zP sv D K [.ref m] h) (ypa cs f md none op pos)
section ZPC
variable {sv : Nat → Value} {d : Nat} {m : Nat} {F : Nat → Int32} {h : zH} {cs : List Int32} {pos op : Nat} {qs : yP}
theorem zMR_tr {h1 : zH} {qs1 : yP} {res : zR} {r : Option yT × Nat} (hr : zMR m F cs op qs h1 res r) (hf : zfm m h h1) : zMR m F cs op qs h res r := by
  obtain ⟨h', qs', e, a1, a2, a3⟩ := hr
  exact ⟨h', qs', e, a1, zfm_tr hf a2, a3⟩
theorem zPs_make {k v : Int32} (hp : zPs h m F cs pos op qs) (hl : qs.length < 700) (hk : ynr k = k) : ∃ h', zcall zP sv (d + 1) 216 [.ref m, .int k, .int v] h = some (.inl none, h') ∧ zPs h' m F cs pos op (qs ++ [(k, v)]) ∧ zfm m h h' := by
  obtain ⟨⟨G, g, g1, g2, g3, g4, g5⟩, a, b, c⟩ := hp
  have hmd : zMd h m G qs := ⟨by unfold zMo; rw [yup_self g3]; exact g, a⟩
  obtain ⟨h', e, w1, w2⟩ := e_216 (sv := sv) (d := d) (k := k) (v := v) hmd hl hk
  exact ⟨h', e, ⟨⟨_, w1.1, (yup_ne (by omega)).trans g1, (yup_ne (by omega)).trans g2, yup_eq, (yup_ne (by omega)).trans g4, fun k k1 k2 k3 => (yup_ne k3).trans (g5 k k1 k2 k3)⟩, w1.2, zTx_cg b (w2.1 _ (by omega) (by omega) (by omega)), c⟩, w2⟩
theorem ypr_ywr : ∀ (n : Nat) (t : yT), ypr (ywr n t) = List.replicate n (nI 110, (0 : Int32)) ++ ypr t
  | 0, t => rfl
  | n + 1, t => by
    show ypr (ywr n (ymk (nI 110) 0 t .leaf)) = _
    rw [ypr_ywr n, ypr_mk, List.replicate_succ', List.append_assoc]
    show _ ++ (nI 110, yva (nI 110) 0) :: (ypr t ++ []) = _
    rw [List.append_nil]
    rfl
theorem ynk_rep {n : Nat} : ynk (List.replicate n (nI 110, (0 : Int32))) := fun q hq => by
  rw [List.eq_of_mem_replicate hq]
  exact ynr_110
theorem n4532 : nI 45 ≠ nI 32 := by decide +kernel
/-- the negations -/
theorem e_230n : ∀ (k n : Nat) (h : zH) (pos : Nat) (qs : yP), n + k = 6 → zPs h m F cs pos op qs → qs.length ≤ pos → ∃ (h' : zH) (n' : Nat), zrun zP sv (zcall zP sv (d + 2)) 230 2 [.val (.ref m), .val (.int (nI n))] [] h = zrun zP sv (zcall zP sv (d + 2)) 230 30 [.val (.ref m), .val (.int (nI n'))] [] h' ∧ zPs h' m F cs (pos + yng cs pos k) op (qs ++ List.replicate (yng cs pos k) (nI 110, (0 : Int32))) ∧ zfm m h h' := by
  intro k
  induction k with
  | zero =>
    intro n h pos qs hn hp hq
    obtain rfl : n = 6 := by omega
    refine ⟨h, 6, ?_, ?_, zfm_rfl⟩
    · simp only [zs_230_0, zs_230_1, zs_230_2, zs_230_3, zs_230_5, zs_230_8, zs_230_8n, zs_230_9, zs_230_11, zs_230_14, zs_230_17, zs_230_17n, zs_230_18, zs_230_20, zs_230_21, zs_230_24, zs_230_27, zs_230_31, zs_230_33, zs_230_35, zs_230_38, zs_230_41, zs_230_41n, zs_230_42, zs_230_45, zs_230_45n, zs_230_46, zs_230_47, zs_230_50, zs_230_51, zs_230_52, zs_230_53, zs_230_56, zs_230_57, zs_230_59, zs_230_60, zs_230_61, zs_230_61n, zs_230_62, zs_230_64, zs_230_66, zs_230_69, zs_230_72, zs_230_74, zs_230_75, zs_230_76, zs_230_76n, zs_230_77, zs_230_80, zs_230_80n, zs_230_81, zs_230_82, zs_230_85, zs_230_86, zs_230_87, zs_230_88, zs_230_91, zs_230_92, zs_230_93, zs_230_95, zs_230_96, zs_230_97, zs_230_97n, zs_230_98, zs_230_100, zs_230_101, zs_230_104, zs_230_105, zs_230_106, zs_230_106n, zs_230_107, zs_230_109, zs_230_111, zs_230_114, zs_230_117, zs_230_117n, zs_230_118, zs_230_120, zs_230_120n, zs_230_121, zs_230_124, zs_230_124n, zs_230_125, zs_230_126, zs_230_129, zs_230_130, zs_230_131, zs_230_132, zs_230_135, zs_230_136, zs_230_138, zs_230_139, zs_230_142, zs_230_143, zs_230_144, zs_230_144n, zs_230_145, zs_230_148, zs_230_150, zs_230_153, zs_230_153n, zs_230_154, zs_230_156, zs_230_159, zs_230_162, zs_230_163, zs_230_164, zs_230_164n, zs_230_165, zs_230_166, zs_230_169, zs_230_170, zs_230_171, zs_230_174, zs_230_174n, zs_230_175, zs_230_178, zs_230_181, zs_230_181n, zs_230_182, zs_230_184, zs_230_187, zs_230_190, zs_230_191, zs_230_194, zs_230_195, zs_230_196, zs_230_196n, zs_230_197, zs_230_198, zs_230_201, zs_230_202, zs_230_203, zs_230_206, zs_230_207, Int32.lt_irrefl, ↓reduceIte]
    · have z : yng cs pos 0 = 0 := by unfold yng; rfl
      rw [z, Nat.add_zero]
      show zPs h m F cs pos op (qs ++ [])
      rw [List.append_nil]
      exact hp
  | succ k ih =>
    intro n h pos qs hn hp hq
    have hln := zPs_ln hp
    have g1 : nI n < nI 6 := nI_lt (by omega) (by omega)
    have hr : ∀ X : zR, zrc (h.1 m) 13 X = X := fun X => zPs_rc hp
    obtain ⟨h1, e1, p1, f1⟩ := e_225 (sv := sv) (d := d + 1) hp n4532
    have E1 : zcall zP sv (d + 2) 225 [.ref m, .int (nI 45)] h = _ := e1
    have z : yng cs pos (k + 1) = if ycat cs pos = nI 45 then yng cs (pos + 1) k + 1 else 0 := by
      conv => lhs; unfold yng
    rw [z]
    by_cases hc : ycat cs pos = nI 45
    · rw [if_pos hc]
      rw [if_pos hc] at p1
      rw [decide_eq_true hc, yb_t] at E1
      obtain ⟨h2, e2, p2, f2⟩ := zPs_make (sv := sv) (d := d + 1) (k := nI 110) (v := 0) p1 (by omega) ynr_110
      have E2 : zcall zP sv (d + 2) 216 [.ref m, .int (nI 110), .int 0] h1 = _ := e2
      obtain ⟨h', n', e, q1, q2⟩ := ih (n + 1) h2 (pos + 1) _ (by omega) p2 (by rw [List.length_append, List.length_singleton]; omega)
      refine ⟨h', n', ?_, ?_, zfm_tr f1 (zfm_tr f2 q2)⟩
      · have hr1 : ∀ X : zR, zrc (h1.1 m) 13 X = X := fun X => zPs_rc p1
        have eb : ∀ g : zH, zrun zP sv (zcall zP sv (d + 2)) 230 24 [.val (.ref m), .val (.int (nI n))] [] g = zrun zP sv (zcall zP sv (d + 2)) 230 2 [.val (.ref m), .val (.int (nI (n + 1)))] [] g := fun g => by rw [zs_230_24, zs_230_27, nI_1']
        rw [← e, ← eb]
        simp only [zs_230_0, zs_230_1, zs_230_2, zs_230_3, zs_230_5, zs_230_8, zs_230_8n, zs_230_9, zs_230_11, zs_230_14, zs_230_17, zs_230_17n, zs_230_18, zs_230_20, zs_230_21, zs_230_27, zs_230_31, zs_230_33, zs_230_35, zs_230_38, zs_230_41, zs_230_41n, zs_230_42, zs_230_45, zs_230_45n, zs_230_46, zs_230_47, zs_230_50, zs_230_51, zs_230_52, zs_230_53, zs_230_56, zs_230_57, zs_230_59, zs_230_60, zs_230_61, zs_230_61n, zs_230_62, zs_230_64, zs_230_66, zs_230_69, zs_230_72, zs_230_74, zs_230_75, zs_230_76, zs_230_76n, zs_230_77, zs_230_80, zs_230_80n, zs_230_81, zs_230_82, zs_230_85, zs_230_86, zs_230_87, zs_230_88, zs_230_91, zs_230_92, zs_230_93, zs_230_95, zs_230_96, zs_230_97, zs_230_97n, zs_230_98, zs_230_100, zs_230_101, zs_230_104, zs_230_105, zs_230_106, zs_230_106n, zs_230_107, zs_230_109, zs_230_111, zs_230_114, zs_230_117, zs_230_117n, zs_230_118, zs_230_120, zs_230_120n, zs_230_121, zs_230_124, zs_230_124n, zs_230_125, zs_230_126, zs_230_129, zs_230_130, zs_230_131, zs_230_132, zs_230_135, zs_230_136, zs_230_138, zs_230_139, zs_230_142, zs_230_143, zs_230_144, zs_230_144n, zs_230_145, zs_230_148, zs_230_150, zs_230_153, zs_230_153n, zs_230_154, zs_230_156, zs_230_159, zs_230_162, zs_230_163, zs_230_164, zs_230_164n, zs_230_165, zs_230_166, zs_230_169, zs_230_170, zs_230_171, zs_230_174, zs_230_174n, zs_230_175, zs_230_178, zs_230_181, zs_230_181n, zs_230_182, zs_230_184, zs_230_187, zs_230_190, zs_230_191, zs_230_194, zs_230_195, zs_230_196, zs_230_196n, zs_230_197, zs_230_198, zs_230_201, zs_230_202, zs_230_203, zs_230_206, zs_230_207, if_pos g1, hr, E1, hr1, E2, zbk_v, zts_s, zts_n, nI_1e0, ↓reduceIte]
      · rw [show pos + (yng cs (pos + 1) k + 1) = pos + 1 + yng cs (pos + 1) k by omega, List.replicate_succ, ← List.singleton_append, ← List.append_assoc]
        exact q1
    · rw [if_neg hc]
      rw [if_neg hc] at p1
      rw [decide_eq_false hc, yb_f] at E1
      refine ⟨h1, n, ?_, ?_, f1⟩
      · simp only [zs_230_0, zs_230_1, zs_230_2, zs_230_3, zs_230_5, zs_230_8, zs_230_8n, zs_230_9, zs_230_11, zs_230_14, zs_230_17, zs_230_17n, zs_230_18, zs_230_20, zs_230_21, zs_230_24, zs_230_27, zs_230_31, zs_230_33, zs_230_35, zs_230_38, zs_230_41, zs_230_41n, zs_230_42, zs_230_45, zs_230_45n, zs_230_46, zs_230_47, zs_230_50, zs_230_51, zs_230_52, zs_230_53, zs_230_56, zs_230_57, zs_230_59, zs_230_60, zs_230_61, zs_230_61n, zs_230_62, zs_230_64, zs_230_66, zs_230_69, zs_230_72, zs_230_74, zs_230_75, zs_230_76, zs_230_76n, zs_230_77, zs_230_80, zs_230_80n, zs_230_81, zs_230_82, zs_230_85, zs_230_86, zs_230_87, zs_230_88, zs_230_91, zs_230_92, zs_230_93, zs_230_95, zs_230_96, zs_230_97, zs_230_97n, zs_230_98, zs_230_100, zs_230_101, zs_230_104, zs_230_105, zs_230_106, zs_230_106n, zs_230_107, zs_230_109, zs_230_111, zs_230_114, zs_230_117, zs_230_117n, zs_230_118, zs_230_120, zs_230_120n, zs_230_121, zs_230_124, zs_230_124n, zs_230_125, zs_230_126, zs_230_129, zs_230_130, zs_230_131, zs_230_132, zs_230_135, zs_230_136, zs_230_138, zs_230_139, zs_230_142, zs_230_143, zs_230_144, zs_230_144n, zs_230_145, zs_230_148, zs_230_150, zs_230_153, zs_230_153n, zs_230_154, zs_230_156, zs_230_159, zs_230_162, zs_230_163, zs_230_164, zs_230_164n, zs_230_165, zs_230_166, zs_230_169, zs_230_170, zs_230_171, zs_230_174, zs_230_174n, zs_230_175, zs_230_178, zs_230_181, zs_230_181n, zs_230_182, zs_230_184, zs_230_187, zs_230_190, zs_230_191, zs_230_194, zs_230_195, zs_230_196, zs_230_196n, zs_230_197, zs_230_198, zs_230_201, zs_230_202, zs_230_203, zs_230_206, zs_230_207, if_pos g1, hr, E1, zbk_v, zts_s, ↓reduceIte]
      · show zPs h1 m F cs pos op (qs ++ [])
        rw [List.append_nil]
        exact p1
end ZPC
