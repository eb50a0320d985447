def yinF (A : yA) (x : Int32) : Bool := decide (¬ x < 0) && decide (¬ nI A.1.length - nI 1 < x)
theorem yinF_or {A : yA} (hA : A.1.length ≤ 6) (x : Int32) : (∃ i, i < A.1.length ∧ x = nI i) ∨ yinF A x = false := by
  by_cases h0 : x < 0
  · exact Or.inr (by unfold yinF; rw [decide_eq_false (fun q => q h0), Bool.false_and])
  · obtain ⟨k, hk, rfl⟩ := nI_of h0
    by_cases hl : k < A.1.length
    · exact Or.inl ⟨k, hl, rfl⟩
    · refine Or.inr ?_
      have z : nI A.1.length - nI 1 < nI k := by
        by_cases hz : A.1.length = 0
        · rw [hz]
          exact Int32.lt_of_lt_of_le (b := 0) (by decide +kernel) (nI_pos' hk)
        · obtain ⟨n, hn⟩ : ∃ n, A.1.length = n + 1 := ⟨A.1.length - 1, by omega⟩
          rw [hn, nI_m]
          exact nI_lt (by omega) hk
      have z2 : decide (¬ nI A.1.length - nI 1 < nI k) = false := decide_eq_false (fun q => q z)
      unfold yinF
      rw [z2, Bool.and_false]
def zWo (r : zR) (m : Nat) (h1 : zH) (F1 : Nat → Int32) (no : Nat) (A : yA) (ans : Int32) : Prop := ∃ (h2 : zH) (F2 : Nat → Int32), r = some (.inl (some (.int (nI no))), h2) ∧ zWk h2 m F2 A ∧ (no = 0 → F2 30 = ans) ∧ yff F1 F2 ∧ zwf m h1 h2
/-- a call's end -/
def zMC (m : Nat) (h : zH) (r : zR) (ans : Int32) (w : yW) (th : Int32) : Prop := ∃ h', r = some (.inl (some (.int ans)), h') ∧ zMdl h' m w th ∧ zmw m h h'
section ZMM
variable {sv : Nat → Value} {d : Nat} {m : Nat} {F : Nat → Int32} {h : zH} {w : yW} {th : Int32} {A : yA}
theorem e_203x {x : Int32} (hw : zWk h m F A) (hx : yinF A x = false) : zcall zP sv (d + 2) 203 [.ref m, .int x] h = some (.inl (some (.int 0)), h) := by
  obtain ⟨hm, ⟨N, hN, hn⟩, _⟩ := hw
  have e := e_203 (sv := sv) (d := d) (x := x) hm hN hn
  unfold yinF at hx
  rw [hx, yb_f] at e
  exact e
theorem e_236x {x : Int32} (hw : zWk h m F A) (hx : yinF A x = false) : zcall zP sv (d + 20) 236 [.ref m, .int x] h = some (.inl (some (.int (nI 1))), h) := by
  have E : zcall zP sv (d + 19) 203 [.ref m, .int x] h = _ := e_203x (sv := sv) (d := d + 17) hw hx
  have hr : ∀ X : zR, zrc (h.1 m) 13 X = X := fun X => zMo_rc hw.1
  simp only [zc_236, zs_236_0, zs_236_0n, zs_236_1, zs_236_2, zs_236_5, zs_236_8, zs_236_9, zs_236_10, zs_236_10n, zs_236_11, zs_236_14, zs_236_15, zs_236_16, zs_236_17, zs_236_18, zs_236_19, zs_236_20, zs_236_22, zs_236_24, zs_236_25, zs_236_26, zs_236_27, zs_236_28, zs_236_29, zs_236_31, zs_236_33, zs_236_33n, zs_236_34, zs_236_37, zs_236_38, zs_236_39, zs_236_40, zs_236_41, zs_236_44, zs_236_44n, zs_236_45, zs_236_48, zs_236_49, zs_236_49n, zs_236_50, zs_236_53, zs_236_54, zs_236_56, zs_236_57, zs_236_58, zs_236_59, zs_236_62, zs_236_65, zs_236_65n, zs_236_66, zs_236_66n, zs_236_67, zs_236_70, zs_236_71, zs_236_72, zs_236_75, hr, E, zbk_v, zts_s, ↓reduceIte]
theorem e_238x {x : Int32} (hw : zWk h m F A) (hx : yinF A x = false) : zcall zP sv (d + 20) 238 [.ref m, .int x] h = some (.inl (some (.int (nI 1))), h) := by
  have E : zcall zP sv (d + 19) 203 [.ref m, .int x] h = _ := e_203x (sv := sv) (d := d + 17) hw hx
  have hr : ∀ X : zR, zrc (h.1 m) 13 X = X := fun X => zMo_rc hw.1
  simp only [zc_238, zs_238_0, zs_238_0n, zs_238_1, zs_238_2, zs_238_5, zs_238_8, zs_238_9, zs_238_10, zs_238_10n, zs_238_11, zs_238_12, zs_238_15, zs_238_15n, zs_238_16, zs_238_19, zs_238_20, zs_238_20n, zs_238_21, zs_238_22, zs_238_25, zs_238_25n, zs_238_26, zs_238_27, zs_238_30, zs_238_31, zs_238_31n, zs_238_32, zs_238_35, zs_238_35n, zs_238_36, zs_238_37, zs_238_40, zs_238_40n, zs_238_41, zs_238_44, zs_238_45, zs_238_46, zs_238_47, zs_238_48, zs_238_48n, zs_238_49, zs_238_52, zs_238_53, zs_238_54, zs_238_55, zs_238_55n, zs_238_56, zs_238_57, zs_238_57n, zs_238_58, zs_238_61, zs_238_62, zs_238_65, hr, E, zbk_v, zts_s, ↓reduceIte]
theorem e_240x {x c : Int32} (hw : zWk h m F A) (hx : yinF A x = false) : zcall zP sv (d + 21) 240 [.ref m, .int x, .int c] h = some (.inl (some (.int (nI 1))), h) := by
  have E : zcall zP sv (d + 20) 203 [.ref m, .int x] h = _ := e_203x (sv := sv) (d := d + 18) hw hx
  have hr : ∀ X : zR, zrc (h.1 m) 13 X = X := fun X => zMo_rc hw.1
  simp only [zc_240, zs_240_0, zs_240_0n, zs_240_1, zs_240_2, zs_240_5, zs_240_8, zs_240_9, zs_240_10, zs_240_11, zs_240_14, zs_240_17, zs_240_18, zs_240_19, zs_240_19n, zs_240_20, zs_240_23, zs_240_24, zs_240_25, zs_240_27, zs_240_30, zs_240_31, zs_240_32, zs_240_32n, zs_240_33, zs_240_34, zs_240_37, zs_240_37n, zs_240_38, zs_240_39, zs_240_42, zs_240_42n, zs_240_43, zs_240_44, zs_240_45, zs_240_47, zs_240_48, zs_240_51, zs_240_52, zs_240_52n, zs_240_53, zs_240_56, zs_240_56n, zs_240_57, zs_240_58, zs_240_61, zs_240_61n, zs_240_62, zs_240_63, zs_240_66, zs_240_67, zs_240_67n, zs_240_68, zs_240_69, zs_240_72, hr, E, zbk_v, zts_s, ↓reduceIte]
theorem e_243x {x c y : Int32} (hw : zWk h m F A) (hA : yAok A) (hx : (yinF A x && yinF A y) = false) : zcall zP sv (d + 21) 243 [.ref m, .int x, .int c, .int y] h = some (.inl (some (.int (nI 1))), h) := by
  have hr : ∀ X : zR, zrc (h.1 m) 13 X = X := fun X => zMo_rc hw.1
  rcases yinF_or hA.1 x with ⟨i, hi, rfl⟩ | hx1
  · obtain ⟨hm, ⟨N, hN, hn⟩, _⟩ := id hw
    have E : zcall zP sv (d + 20) 203 [.ref m, .int (nI i)] h = some (.inl (some (.int (nI 1))), h) := e_203t (sv := sv) (d := d + 18) hm hN hn hi hA.1
    rcases yinF_or hA.1 y with ⟨j, hj, rfl⟩ | hy1
    · exfalso
      have t : ∀ i, i < A.1.length → yinF A (nI i) = true := fun i hi => by
        obtain ⟨n, hn2⟩ : ∃ n, A.1.length = n + 1 := ⟨A.1.length - 1, by omega⟩
        have h6 := hA.1
        unfold yinF
        rw [decide_eq_true (nI_pos (by omega)), hn2, nI_m, decide_eq_true (nI_nlt (by omega) (by omega))]
        rfl
      rw [t i hi, t j hj] at hx
      cases hx
    · have E' : zcall zP sv (d + 20) 203 [.ref m, .int y] h = _ := e_203x (sv := sv) (d := d + 18) hw hy1
      simp only [zc_243, zs_243_0, zs_243_0n, zs_243_1, zs_243_2, zs_243_5, zs_243_8, zs_243_8n, zs_243_9, zs_243_10, zs_243_13, zs_243_16, zs_243_17, zs_243_18, zs_243_19, zs_243_22, zs_243_25, zs_243_26, zs_243_27, zs_243_27n, zs_243_28, zs_243_29, zs_243_32, zs_243_34, zs_243_36, zs_243_37, zs_243_38, zs_243_39, zs_243_41, zs_243_41n, zs_243_42, zs_243_45, zs_243_45n, zs_243_46, zs_243_47, zs_243_49, zs_243_50, zs_243_53, zs_243_53n, zs_243_54, zs_243_57, zs_243_59, zs_243_60, zs_243_61, zs_243_62, zs_243_63, zs_243_64, zs_243_66, zs_243_69, zs_243_70, zs_243_71, zs_243_71n, zs_243_72, zs_243_73, zs_243_76, zs_243_77, zs_243_79, zs_243_81, zs_243_81n, zs_243_82, zs_243_85, zs_243_88, zs_243_88n, zs_243_89, zs_243_92, zs_243_94, zs_243_95, zs_243_97, zs_243_100, zs_243_100n, zs_243_101, zs_243_104, zs_243_106, zs_243_107, zs_243_108, zs_243_110, zs_243_111, zs_243_114, zs_243_114n, zs_243_115, zs_243_115n, zs_243_116, zs_243_119, zs_243_121, zs_243_122, zs_243_122n, zs_243_123, zs_243_126, zs_243_128, zs_243_129, zs_243_132, zs_243_135, zs_243_136, zs_243_138, zs_243_140, zs_243_140n, zs_243_141, zs_243_144, zs_243_146, zs_243_147, zs_243_150, zs_243_150n, zs_243_151, zs_243_151n, zs_243_152, zs_243_155, zs_243_157, zs_243_158, zs_243_159, zs_243_160, zs_243_162, zs_243_163, zs_243_164, zs_243_165, zs_243_166, zs_243_166n, zs_243_167, zs_243_170, zs_243_172, zs_243_173, zs_243_174, zs_243_175, zs_243_177, zs_243_178, zs_243_179, zs_243_180, zs_243_183, zs_243_186, zs_243_189, zs_243_192, zs_243_195, zs_243_195n, zs_243_196, zs_243_199, zs_243_199n, zs_243_200, zs_243_203, zs_243_206, zs_243_207, zs_243_208, zs_243_208n, zs_243_209, zs_243_210, zs_243_213, zs_243_213n, zs_243_214, zs_243_214n, zs_243_215, zs_243_218, zs_243_221, hr, E, E', zbk_v, zts_s, nI_1e0, ↓reduceIte]
  · have E : zcall zP sv (d + 20) 203 [.ref m, .int x] h = _ := e_203x (sv := sv) (d := d + 18) hw hx1
    simp only [zc_243, zs_243_0, zs_243_0n, zs_243_1, zs_243_2, zs_243_5, zs_243_8, zs_243_8n, zs_243_9, zs_243_10, zs_243_13, zs_243_16, zs_243_17, zs_243_18, zs_243_19, zs_243_22, zs_243_25, zs_243_26, zs_243_27, zs_243_27n, zs_243_28, zs_243_29, zs_243_32, zs_243_34, zs_243_36, zs_243_37, zs_243_38, zs_243_39, zs_243_41, zs_243_41n, zs_243_42, zs_243_45, zs_243_45n, zs_243_46, zs_243_47, zs_243_49, zs_243_50, zs_243_53, zs_243_53n, zs_243_54, zs_243_57, zs_243_59, zs_243_60, zs_243_61, zs_243_62, zs_243_63, zs_243_64, zs_243_66, zs_243_69, zs_243_70, zs_243_71, zs_243_71n, zs_243_72, zs_243_73, zs_243_76, zs_243_77, zs_243_79, zs_243_81, zs_243_81n, zs_243_82, zs_243_85, zs_243_88, zs_243_88n, zs_243_89, zs_243_92, zs_243_94, zs_243_95, zs_243_97, zs_243_100, zs_243_100n, zs_243_101, zs_243_104, zs_243_106, zs_243_107, zs_243_108, zs_243_110, zs_243_111, zs_243_114, zs_243_114n, zs_243_115, zs_243_115n, zs_243_116, zs_243_119, zs_243_121, zs_243_122, zs_243_122n, zs_243_123, zs_243_126, zs_243_128, zs_243_129, zs_243_132, zs_243_135, zs_243_136, zs_243_138, zs_243_140, zs_243_140n, zs_243_141, zs_243_144, zs_243_146, zs_243_147, zs_243_150, zs_243_150n, zs_243_151, zs_243_151n, zs_243_152, zs_243_155, zs_243_157, zs_243_158, zs_243_159, zs_243_160, zs_243_162, zs_243_163, zs_243_164, zs_243_165, zs_243_166, zs_243_166n, zs_243_167, zs_243_170, zs_243_172, zs_243_173, zs_243_174, zs_243_175, zs_243_177, zs_243_178, zs_243_179, zs_243_180, zs_243_183, zs_243_186, zs_243_189, zs_243_192, zs_243_195, zs_243_195n, zs_243_196, zs_243_199, zs_243_199n, zs_243_200, zs_243_203, zs_243_206, zs_243_207, zs_243_208, zs_243_208n, zs_243_209, zs_243_210, zs_243_213, zs_243_213n, zs_243_214, zs_243_214n, zs_243_215, zs_243_218, zs_243_221, hr, E, zbk_v, zts_s, ↓reduceIte]
/-- a change: try, work, end -/
theorem zM_do {C : zH → zR} {no : Nat} {A : yA} {ans : Int32} (hM : zMdl h m w th) (hno : no < 100) (hA : no = 0 → yAok A) (hA2 : 0 < no → A = ycur w) (hW : ∀ (h1 : zH) (F1 : Nat → Int32), zWk h1 m F1 (ycur w) → zWo (C h1) m h1 F1 no A ans) : ∃ h1 h2 h3, zcall zP sv (d + 24) 200 [.ref m] h = some (.inl none, h1) ∧ C h1 = some (.inl (some (.int (nI no))), h2) ∧ zcall zP sv (d + 24) 202 [.ref m, .int (nI no)] h2 = some (.inl (some (.int (if no = 0 then ans else 0))), h3) ∧ (∀ X : zR, zrc (h.1 m) 13 X = X) ∧ (∀ X : zR, zrc (h1.1 m) 13 X = X) ∧ (∀ X : zR, zrc (h2.1 m) 13 X = X) ∧ zMdl h3 m (if no = 0 then ysc (yrec w) A else w) (nI no) ∧ zmw m h h3 := by
  have hm0 : ∀ X : zR, zrc (h.1 m) 13 X = X := by
    obtain ⟨F, _, hw, _⟩ := hM
    exact fun X => zMo_rc hw.1
  obtain ⟨h1, F1, T, e1, w1, f31, hT, hn, hr, hA0, k1⟩ := zM_try (sv := sv) (d := d + 23) hM
  obtain ⟨h2, F2, e2, w2, f30, ff, wf⟩ := hW h1 F1 w1
  have hr2 := zRst_wf hr ff wf
  have hT2 : zTab h2 (m + 2) T := zTab_cg hT (wf.1 _ (by omega) (by omega) (by omega))
  by_cases h0 : no = 0
  · subst h0
    obtain ⟨h3, e3, g1, g2⟩ := zM_ok (sv := sv) (d := d + 23) w2 (ff.2.2.2.2.2.trans f31) hT2 hn hr2 (hA rfl)
    rw [f30 rfl] at e3
    rw [nI_0]
    rw [nI_0] at e2
    exact ⟨h1, h2, h3, e1, e2, e3, hm0, fun X => zMo_rc w1.1, fun X => zMo_rc w2.1, g1, zmw_tr k1 (zmw_tr (zwf_mw wf) g2)⟩
  · obtain rfl := hA2 (by omega)
    obtain ⟨h3, e3, g1, g2⟩ := zM_fail (sv := sv) (d := d + 22) w2 hT2 hr2 hA0 (by omega) hno
    rw [if_neg h0, if_neg h0]
    exact ⟨h1, h2, h3, e1, e2, e3, hm0, fun X => zMo_rc w1.1, fun X => zMo_rc w2.1, g1, zmw_tr k1 (zmw_tr (zwf_mw wf) g2)⟩
end ZMM
