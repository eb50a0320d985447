def yout (w : yW) : List Int32 := w.2.2.2.2.2.2
def zTx (h : zH) (a n : Nat) (cs : List Int32) : Prop := ∃ B : List Int32, h.1 a = (21, B.map Value.int) ∧ B.length = n ∧ B.take cs.length = cs ∧ cs.length ≤ n
theorem zTx_cg {h h' : zH} {a n : Nat} {cs : List Int32} (ht : zTx h a n cs) (h1 : h'.1 a = h.1 a) : zTx h' a n cs := by
  obtain ⟨B, b1, b2⟩ := ht
  exact ⟨B, h1.trans b1, b2⟩
/-- the part of the model that a change leaves -/
def zRst (h : zH) (m : Nat) (F : Nat → Int32) (w : yW) : Prop := (F 3 = nI (yhis w).length ∧ F 5 = yb w.2.2.1 ∧ F 24 = nI (yout w).length ∧ F 26 = nI w.1.length ∧ F 29 = w.2.1 ∧ (yhis w).length ≤ 8) ∧ zKep h (m + 3) (yhis w) ∧ (∃ S, zTab h (m + 4) S ∧ (w.2.2.1 = true → yNow S (ykep w))) ∧ zTx h (m + 16) 700 (yout w) ∧ zTx h (m + 17) 60 w.1
/-- the model stands for w; thrown was th -/
def zMdl (h : zH) (m : Nat) (w : yW) (th : Int32) : Prop := ∃ F : Nat → Int32, F 31 = th ∧ zWk h m F (ycur w) ∧ (∃ T, zTab h (m + 2) T) ∧ zRst h m F w ∧ yAok (ycur w)
def zmw (m : Nat) (h h' : zH) : Prop := (∀ q, q < m ∨ m + 18 ≤ q → h'.1 q = h.1 q) ∧ h'.2 = h.2
theorem zmw_rfl {m : Nat} {h : zH} : zmw m h h := ⟨fun _ _ => rfl, rfl⟩
theorem zmw_tr {m : Nat} {h h' h'' : zH} (h1 : zmw m h h') (h2 : zmw m h' h'') : zmw m h h'' := ⟨fun q a => (h2.1 q a).trans (h1.1 q a), h2.2.trans h1.2⟩
theorem zwf_mw {m : Nat} {h h' : zH} (h1 : zwf m h h') : zmw m h h' := ⟨fun q a => h1.1 q (by omega) (by omega) (by omega), h1.2⟩
theorem zRst_cg {h h' : zH} {m : Nat} {F F' : Nat → Int32} {w : yW} (hr : zRst h m F w) (hf : F' 3 = F 3 ∧ F' 5 = F 5 ∧ F' 24 = F 24 ∧ F' 26 = F 26 ∧ F' 29 = F 29) (h3 : h'.1 (m + 3) = h.1 (m + 3)) (h4 : h'.1 (m + 4) = h.1 (m + 4)) (h16 : h'.1 (m + 16) = h.1 (m + 16)) (h17 : h'.1 (m + 17) = h.1 (m + 17)) : zRst h' m F' w := by
  obtain ⟨⟨a1, a2, a3, a4, a5, a6⟩, b, ⟨S, c1, c2⟩, e1, e2⟩ := hr
  obtain ⟨f1, f2, f3, f4, f5⟩ := hf
  exact ⟨⟨f1.trans a1, f2.trans a2, f3.trans a3, f4.trans a4, f5.trans a5, a6⟩, zKep_cg b h3, ⟨S, zTab_cg c1 h4, c2⟩, zTx_cg e1 h16, zTx_cg e2 h17⟩
theorem zRst_wf {h h' : zH} {m : Nat} {F F' : Nat → Int32} {w : yW} (hr : zRst h m F w) (hf : yff F F') (hw : zwf m h h') : zRst h' m F' w := zRst_cg hr ⟨hf.1, hf.2.1, hf.2.2.1, hf.2.2.2.1, hf.2.2.2.2.1⟩ (hw.1 _ (by omega) (by omega) (by omega)) (hw.1 _ (by omega) (by omega) (by omega)) (hw.1 _ (by omega) (by omega) (by omega)) (hw.1 _ (by omega) (by omega) (by omega))
theorem zWk_cg {h h' : zH} {m : Nat} {F F' : Nat → Int32} {A : yA} (hw : zWk h m F A) (h0 : h'.1 m = (13, zMF m F')) (hk : ∀ q, q = m + 1 ∨ (m + 5 ≤ q ∧ q < m + 16) → h'.1 q = h.1 q) : zWk h' m F' A := by
  obtain ⟨_, ⟨N, n1, n2⟩, ⟨p, p1⟩, ⟨p', p2⟩, ⟨S, T, s1, s2, s3, s4⟩, c2, c3, c4, c5, c6⟩ := hw
  exact ⟨h0, ⟨N, zTab_cg n1 (hk _ (by omega)), n2⟩, ⟨p, zLst_cg p1 (hk _ (by omega)) (hk _ (by omega))⟩, ⟨p', zLst_cg p2 (hk _ (by omega)) (hk _ (by omega))⟩, ⟨S, T, (hk _ (by omega)).trans s1, s2, (hk _ (by omega)).trans s3, s4⟩, zArr_cg c2 (hk _ (by omega)), zArr_cg c3 (hk _ (by omega)), zArr_cg c4 (hk _ (by omega)), zArr_cg c5 (hk _ (by omega)), zArr_cg c6 (hk _ (by omega))⟩
section ZML
variable {sv : Nat → Value} {d : Nat} {m : Nat} {F : Nat → Int32} {h : zH} {w : yW} {th : Int32}
theorem zM_try (hM : zMdl h m w th) : ∃ (h1 : zH) (F1 : Nat → Int32) (T : List Int32), zcall zP sv (d + 1) 200 [.ref m] h = some (.inl none, h1) ∧ zWk h1 m F1 (ycur w) ∧ F1 31 = 0 ∧ zTab h1 (m + 2) T ∧ yNow T (ycur w) ∧ zRst h1 m F1 w ∧ yAok (ycur w) ∧ zmw m h h1 := by
  obtain ⟨F, _, hw, ⟨T, hT⟩, hr, hA⟩ := hM
  obtain ⟨hm, ⟨N, hN, hn⟩, hs⟩ := id hw
  refine ⟨_, yup F 31 0, N, e_200 hm hN hT, zWk_cg hw (by rw [zup_ne (by omega), zup_at]) (fun q hq => by rw [zup_ne (by omega), zup_ne (by omega)]), yup_eq, ⟨zup_at, hN.2⟩, hn, zRst_cg hr ⟨yup_ne (by omega), yup_ne (by omega), yup_ne (by omega), yup_ne (by omega), yup_ne (by omega)⟩ (by rw [zup_ne (by omega), zup_ne (by omega)]) (by rw [zup_ne (by omega), zup_ne (by omega)]) (by rw [zup_ne (by omega), zup_ne (by omega)]) (by rw [zup_ne (by omega), zup_ne (by omega)]), hA, ⟨fun q hq => by rw [zup_ne (by omega), zup_ne (by omega)], rfl⟩⟩
theorem zM_fail {T : List Int32} {no : Nat} (hw : zWk h m F (ycur w)) (hT : zTab h (m + 2) T) (hr : zRst h m F w) (hA : yAok (ycur w)) (h0 : 0 < no) (h1 : no < 100) : ∃ h', zcall zP sv (d + 2) 202 [.ref m, .int (nI no)] h = some (.inl (some (.int 0)), h') ∧ zMdl h' m w (nI no) ∧ zmw m h h' := by
  have hm := hw.1
  refine ⟨zup h m (13, zMF m (yup F 31 (nI no))), c_202x (sv := sv) (d := d) hm h0 (by omega), ⟨yup F 31 (nI no), yup_eq, zWk_cg hw zup_at (fun q hq => zup_ne (by omega)), ⟨T, zTab_cg hT (zup_ne (by omega))⟩, zRst_cg hr ⟨yup_ne (by omega), yup_ne (by omega), yup_ne (by omega), yup_ne (by omega), yup_ne (by omega)⟩ (zup_ne (by omega)) (zup_ne (by omega)) (zup_ne (by omega)) (zup_ne (by omega)), hA⟩, ⟨fun q hq => zup_ne (by omega), rfl⟩⟩
theorem zM_ok {T : List Int32} {A : yA} (hw : zWk h m F A) (h31 : F 31 = 0) (hT : zTab h (m + 2) T) (hn : yNow T (ycur w)) (hr : zRst h m F w) (hA : yAok A) : ∃ h', zcall zP sv (d + 1) 202 [.ref m, .int 0] h = some (.inl (some (.int (F 30))), h') ∧ zMdl h' m (ysc (yrec w) A) 0 ∧ zmw m h h' := by
  have hm := hw.1
  obtain ⟨⟨a1, a2, a3, a4, a5, a6⟩, b, ⟨S, c1, c2⟩, e1, e2⟩ := hr
  obtain ⟨h', e, g1, g2, g3, g4⟩ := e_202 (sv := sv) (d := d) hm a1 a6 hT hn b
  refine ⟨h', e, ⟨yup F 3 (nI ((ycur w :: yhis w).take 8).length), (yup_ne (by omega)).trans h31, zWk_cg hw g1 (fun q hq => g3 q (by omega) (by omega)), ⟨T, zTab_cg hT (g3 _ (by omega) (by omega))⟩, ⟨⟨yup_eq, (yup_ne (by omega)).trans a2, (yup_ne (by omega)).trans a3, (yup_ne (by omega)).trans a4, (yup_ne (by omega)).trans a5, ?_⟩, g2, ⟨S, zTab_cg c1 (g3 _ (by omega) (by omega)), c2⟩, zTx_cg e1 (g3 _ (by omega) (by omega)), zTx_cg e2 (g3 _ (by omega) (by omega))⟩, hA⟩, ⟨fun q hq => g3 q (by omega) (by omega), g4⟩⟩
  show ((ycur w :: yhis w).take 8).length ≤ 8
  rw [List.length_take]
  omega
end ZML

def yinF (A : yA) (x : Int32) : Bool := decide (¬ x < 0) && decide (¬ nI A.1.length - nI 1 < x)
theorem yinF_or {A : yA} (hA : A.1.length ≤ 6) (x : Int32) : (∃ i, i < A.1.length ∧ x = nI i) ∨ yinF A x = false := by
  by_cases h0 : x < 0
  · exact Or.inr (by unfold yinF; rw [decide_eq_false (fun q => q h0), Bool.false_and])
  · obtain ⟨k, hk, rfl⟩ := nI_of h0
    by_cases hl : k < A.1.length
    · exact Or.inl ⟨k, hl, rfl⟩
    · refine Or.inr ?_
      have z : nI A.1.length - nI 1 < nI k := by
        by_cases hz : A.1.length = 0
        · rw [hz]
          exact Int32.lt_of_lt_of_le (b := 0) (by decide +kernel) (nI_pos' hk)
        · obtain ⟨n, hn⟩ : ∃ n, A.1.length = n + 1 := ⟨A.1.length - 1, by omega⟩
          rw [hn, nI_m]
          exact nI_lt (by omega) hk
      have z2 : decide (¬ nI A.1.length - nI 1 < nI k) = false := decide_eq_false (fun q => q z)
      unfold yinF
      rw [z2, Bool.and_false]
def zWo (r : zR) (m : Nat) (h1 : zH) (F1 : Nat → Int32) (no : Nat) (A : yA) (ans : Int32) : Prop := ∃ (h2 : zH) (F2 : Nat → Int32), r = some (.inl (some (.int (nI no))), h2) ∧ zWk h2 m F2 A ∧ (no = 0 → F2 30 = ans) ∧ yff F1 F2 ∧ zwf m h1 h2
/-- a call's end -/
def zMC (m : Nat) (h : zH) (r : zR) (ans : Int32) (w : yW) (th : Int32) : Prop := ∃ h', r = some (.inl (some (.int ans)), h') ∧ zMdl h' m w th ∧ zmw m h h'
section ZMM
variable {sv : Nat → Value} {d : Nat} {m : Nat} {F : Nat → Int32} {h : zH} {w : yW} {th : Int32} {A : yA}
theorem e_203x {x : Int32} (hw : zWk h m F A) (hx : yinF A x = false) : zcall zP sv (d + 2) 203 [.ref m, .int x] h = some (.inl (some (.int 0)), h) := by
  obtain ⟨hm, ⟨N, hN, hn⟩, _⟩ := hw
  have e := e_203 (sv := sv) (d := d) (x := x) hm hN hn
  unfold yinF at hx
  rw [hx, yb_f] at e
  exact e
theorem e_236x {x : Int32} (hw : zWk h m F A) (hx : yinF A x = false) : zcall zP sv (d + 20) 236 [.ref m, .int x] h = some (.inl (some (.int (nI 1))), h) := by
  have E : zcall zP sv (d + 19) 203 [.ref m, .int x] h = _ := e_203x (sv := sv) (d := d + 17) hw hx
  have hr : ∀ X : zR, zrc (h.1 m) 13 X = X := fun X => zMo_rc hw.1
  simp only [zc_236, zs_236_0, zs_236_1, zs_236_2, zs_236_5, zs_236_8, zs_236_9, zs_236_10, zs_236_11, zs_236_14, zs_236_15, zs_236_16, zs_236_17, zs_236_18, zs_236_19, zs_236_20, zs_236_22, zs_236_24, zs_236_25, zs_236_26, zs_236_27, zs_236_28, zs_236_29, zs_236_31, zs_236_33, zs_236_34, zs_236_37, zs_236_38, zs_236_39, zs_236_40, zs_236_41, zs_236_44, zs_236_45, zs_236_48, zs_236_49, zs_236_50, zs_236_53, zs_236_54, zs_236_56, zs_236_57, zs_236_58, zs_236_59, zs_236_62, zs_236_65, zs_236_66, zs_236_67, zs_236_70, zs_236_71, zs_236_72, zs_236_75, hr, E, zbk_v, zts_s, ↓reduceIte]
theorem e_238x {x : Int32} (hw : zWk h m F A) (hx : yinF A x = false) : zcall zP sv (d + 20) 238 [.ref m, .int x] h = some (.inl (some (.int (nI 1))), h) := by
  have E : zcall zP sv (d + 19) 203 [.ref m, .int x] h = _ := e_203x (sv := sv) (d := d + 17) hw hx
  have hr : ∀ X : zR, zrc (h.1 m) 13 X = X := fun X => zMo_rc hw.1
  simp only [zc_238, zs_238_0, zs_238_1, zs_238_2, zs_238_5, zs_238_8, zs_238_9, zs_238_10, zs_238_11, zs_238_12, zs_238_15, zs_238_16, zs_238_19, zs_238_20, zs_238_21, zs_238_22, zs_238_25, zs_238_26, zs_238_27, zs_238_30, zs_238_31, zs_238_32, zs_238_35, zs_238_36, zs_238_37, zs_238_40, zs_238_41, zs_238_44, zs_238_45, zs_238_46, zs_238_47, zs_238_48, zs_238_49, zs_238_52, zs_238_53, zs_238_54, zs_238_55, zs_238_56, zs_238_57, zs_238_58, zs_238_61, zs_238_62, zs_238_65, hr, E, zbk_v, zts_s, ↓reduceIte]
theorem e_240x {x c : Int32} (hw : zWk h m F A) (hx : yinF A x = false) : zcall zP sv (d + 21) 240 [.ref m, .int x, .int c] h = some (.inl (some (.int (nI 1))), h) := by
  have E : zcall zP sv (d + 20) 203 [.ref m, .int x] h = _ := e_203x (sv := sv) (d := d + 18) hw hx
  have hr : ∀ X : zR, zrc (h.1 m) 13 X = X := fun X => zMo_rc hw.1
  simp only [zc_240, zs_240_0, zs_240_1, zs_240_2, zs_240_5, zs_240_8, zs_240_9, zs_240_10, zs_240_11, zs_240_14, zs_240_17, zs_240_18, zs_240_19, zs_240_20, zs_240_23, zs_240_24, zs_240_25, zs_240_27, zs_240_30, zs_240_31, zs_240_32, zs_240_33, zs_240_34, zs_240_37, zs_240_38, zs_240_39, zs_240_42, zs_240_43, zs_240_44, zs_240_45, zs_240_47, zs_240_48, zs_240_51, zs_240_52, zs_240_53, zs_240_56, zs_240_57, zs_240_58, zs_240_61, zs_240_62, zs_240_63, zs_240_66, zs_240_67, zs_240_68, zs_240_69, zs_240_72, hr, E, zbk_v, zts_s, ↓reduceIte]
theorem e_243x {x c y : Int32} (hw : zWk h m F A) (hA : yAok A) (hx : (yinF A x && yinF A y) = false) : zcall zP sv (d + 21) 243 [.ref m, .int x, .int c, .int y] h = some (.inl (some (.int (nI 1))), h) := by
  have hr : ∀ X : zR, zrc (h.1 m) 13 X = X := fun X => zMo_rc hw.1
  rcases yinF_or hA.1 x with ⟨i, hi, rfl⟩ | hx1
  · obtain ⟨hm, ⟨N, hN, hn⟩, _⟩ := id hw
    have E : zcall zP sv (d + 20) 203 [.ref m, .int (nI i)] h = some (.inl (some (.int (nI 1))), h) := e_203t (sv := sv) (d := d + 18) hm hN hn hi hA.1
    rcases yinF_or hA.1 y with ⟨j, hj, rfl⟩ | hy1
    · exfalso
      have t : ∀ i, i < A.1.length → yinF A (nI i) = true := fun i hi => by
        obtain ⟨n, hn2⟩ : ∃ n, A.1.length = n + 1 := ⟨A.1.length - 1, by omega⟩
        have h6 := hA.1
        unfold yinF
        rw [decide_eq_true (nI_pos (by omega)), hn2, nI_m, decide_eq_true (nI_nlt (by omega) (by omega))]
        rfl
      rw [t i hi, t j hj] at hx
      cases hx
    · have E' : zcall zP sv (d + 20) 203 [.ref m, .int y] h = _ := e_203x (sv := sv) (d := d + 18) hw hy1
      simp only [zc_243, zs_243_0, zs_243_1, zs_243_2, zs_243_5, zs_243_8, zs_243_9, zs_243_10, zs_243_13, zs_243_16, zs_243_17, zs_243_18, zs_243_19, zs_243_22, zs_243_25, zs_243_26, zs_243_27, zs_243_28, zs_243_29, zs_243_32, zs_243_34, zs_243_36, zs_243_37, zs_243_38, zs_243_39, zs_243_41, zs_243_42, zs_243_45, zs_243_46, zs_243_47, zs_243_49, zs_243_50, zs_243_53, zs_243_54, zs_243_57, zs_243_59, zs_243_60, zs_243_61, zs_243_62, zs_243_63, zs_243_64, zs_243_66, zs_243_69, zs_243_70, zs_243_71, zs_243_72, zs_243_73, zs_243_76, zs_243_77, zs_243_79, zs_243_81, zs_243_82, zs_243_85, zs_243_88, zs_243_89, zs_243_92, zs_243_94, zs_243_95, zs_243_97, zs_243_100, zs_243_101, zs_243_104, zs_243_106, zs_243_107, zs_243_108, zs_243_110, zs_243_111, zs_243_114, zs_243_115, zs_243_116, zs_243_119, zs_243_121, zs_243_122, zs_243_123, zs_243_126, zs_243_128, zs_243_129, zs_243_132, zs_243_135, zs_243_136, zs_243_138, zs_243_140, zs_243_141, zs_243_144, zs_243_146, zs_243_147, zs_243_150, zs_243_151, zs_243_152, zs_243_155, zs_243_157, zs_243_158, zs_243_159, zs_243_160, zs_243_162, zs_243_163, zs_243_164, zs_243_165, zs_243_166, zs_243_167, zs_243_170, zs_243_172, zs_243_173, zs_243_174, zs_243_175, zs_243_177, zs_243_178, zs_243_179, zs_243_180, zs_243_183, zs_243_186, zs_243_189, zs_243_192, zs_243_195, zs_243_196, zs_243_199, zs_243_200, zs_243_203, zs_243_206, zs_243_207, zs_243_208, zs_243_209, zs_243_210, zs_243_213, zs_243_214, zs_243_215, zs_243_218, zs_243_221, hr, E, E', zbk_v, zts_s, nI_1e0, ↓reduceIte]
  · have E : zcall zP sv (d + 20) 203 [.ref m, .int x] h = _ := e_203x (sv := sv) (d := d + 18) hw hx1
    simp only [zc_243, zs_243_0, zs_243_1, zs_243_2, zs_243_5, zs_243_8, zs_243_9, zs_243_10, zs_243_13, zs_243_16, zs_243_17, zs_243_18, zs_243_19, zs_243_22, zs_243_25, zs_243_26, zs_243_27, zs_243_28, zs_243_29, zs_243_32, zs_243_34, zs_243_36, zs_243_37, zs_243_38, zs_243_39, zs_243_41, zs_243_42, zs_243_45, zs_243_46, zs_243_47, zs_243_49, zs_243_50, zs_243_53, zs_243_54, zs_243_57, zs_243_59, zs_243_60, zs_243_61, zs_243_62, zs_243_63, zs_243_64, zs_243_66, zs_243_69, zs_243_70, zs_243_71, zs_243_72, zs_243_73, zs_243_76, zs_243_77, zs_243_79, zs_243_81, zs_243_82, zs_243_85, zs_243_88, zs_243_89, zs_243_92, zs_243_94, zs_243_95, zs_243_97, zs_243_100, zs_243_101, zs_243_104, zs_243_106, zs_243_107, zs_243_108, zs_243_110, zs_243_111, zs_243_114, zs_243_115, zs_243_116, zs_243_119, zs_243_121, zs_243_122, zs_243_123, zs_243_126, zs_243_128, zs_243_129, zs_243_132, zs_243_135, zs_243_136, zs_243_138, zs_243_140, zs_243_141, zs_243_144, zs_243_146, zs_243_147, zs_243_150, zs_243_151, zs_243_152, zs_243_155, zs_243_157, zs_243_158, zs_243_159, zs_243_160, zs_243_162, zs_243_163, zs_243_164, zs_243_165, zs_243_166, zs_243_167, zs_243_170, zs_243_172, zs_243_173, zs_243_174, zs_243_175, zs_243_177, zs_243_178, zs_243_179, zs_243_180, zs_243_183, zs_243_186, zs_243_189, zs_243_192, zs_243_195, zs_243_196, zs_243_199, zs_243_200, zs_243_203, zs_243_206, zs_243_207, zs_243_208, zs_243_209, zs_243_210, zs_243_213, zs_243_214, zs_243_215, zs_243_218, zs_243_221, hr, E, zbk_v, zts_s, ↓reduceIte]
/-- a change: try, work, end -/
theorem zM_do {C : zH → zR} {no : Nat} {A : yA} {ans : Int32} (hM : zMdl h m w th) (hno : no < 100) (hA : no = 0 → yAok A) (hA2 : 0 < no → A = ycur w) (hW : ∀ (h1 : zH) (F1 : Nat → Int32), zWk h1 m F1 (ycur w) → zWo (C h1) m h1 F1 no A ans) : ∃ h1 h2 h3, zcall zP sv (d + 24) 200 [.ref m] h = some (.inl none, h1) ∧ C h1 = some (.inl (some (.int (nI no))), h2) ∧ zcall zP sv (d + 24) 202 [.ref m, .int (nI no)] h2 = some (.inl (some (.int (if no = 0 then ans else 0))), h3) ∧ (∀ X : zR, zrc (h.1 m) 13 X = X) ∧ (∀ X : zR, zrc (h1.1 m) 13 X = X) ∧ (∀ X : zR, zrc (h2.1 m) 13 X = X) ∧ zMdl h3 m (if no = 0 then ysc (yrec w) A else w) (nI no) ∧ zmw m h h3 := by
  have hm0 : ∀ X : zR, zrc (h.1 m) 13 X = X := by
    obtain ⟨F, _, hw, _⟩ := hM
    exact fun X => zMo_rc hw.1
  obtain ⟨h1, F1, T, e1, w1, f31, hT, hn, hr, hA0, k1⟩ := zM_try (sv := sv) (d := d + 23) hM
  obtain ⟨h2, F2, e2, w2, f30, ff, wf⟩ := hW h1 F1 w1
  have hr2 := zRst_wf hr ff wf
  have hT2 : zTab h2 (m + 2) T := zTab_cg hT (wf.1 _ (by omega) (by omega) (by omega))
  by_cases h0 : no = 0
  · subst h0
    obtain ⟨h3, e3, g1, g2⟩ := zM_ok (sv := sv) (d := d + 23) w2 (ff.2.2.2.2.2.trans f31) hT2 hn hr2 (hA rfl)
    rw [f30 rfl] at e3
    rw [nI_0]
    rw [nI_0] at e2
    exact ⟨h1, h2, h3, e1, e2, e3, hm0, fun X => zMo_rc w1.1, fun X => zMo_rc w2.1, g1, zmw_tr k1 (zmw_tr (zwf_mw wf) g2)⟩
  · obtain rfl := hA2 (by omega)
    obtain ⟨h3, e3, g1, g2⟩ := zM_fail (sv := sv) (d := d + 22) w2 hT2 hr2 hA0 (by omega) hno
    rw [if_neg h0, if_neg h0]
    exact ⟨h1, h2, h3, e1, e2, e3, hm0, fun X => zMo_rc w1.1, fun X => zMo_rc w2.1, g1, zmw_tr k1 (zmw_tr (zwf_mw wf) g2)⟩
end ZMM

section ZMN
variable {sv : Nat → Value} {d : Nat} {m : Nat} {F : Nat → Int32} {h : zH} {w : yW} {th : Int32}
theorem e_2370 {x0 : Int32} {no : Nat} {A : yA} {ans : Int32} (hM : zMdl h m w th) (hno : no < 100) (hA : no = 0 → yAok A) (hA2 : 0 < no → A = ycur w) (hW : ∀ (h1 : zH) (F1 : Nat → Int32), zWk h1 m F1 (ycur w) → zWo (zcall zP sv (d + 24) 236 [.ref m, .int x0] h1) m h1 F1 no A ans) : zMC m h (zcall zP sv (d + 25) 237 [.ref m, .int x0] h) (if no = 0 then ans else 0) (if no = 0 then ysc (yrec w) A else w) (nI no) := by
  obtain ⟨h1, h2, h3, e1, e2, e3, r0, r1, r2, g1, g2⟩ := zM_do (sv := sv) (d := d) (C := zcall zP sv (d + 24) 236 [.ref m, .int x0]) hM hno hA hA2 hW
  refine ⟨h3, ?_, g1, g2⟩
  have e2' : zcall zP sv (d + 24) 236 [.ref m, .int x0] h1 = _ := e2
  simp only [zc_237, zs_237_0, zs_237_1, zs_237_4, zs_237_5, zs_237_6, zs_237_7, zs_237_10, zs_237_13, r0, r1, r2, e1, e2', e3, zbk_v, zts_s, zts_n, List.cons_append, List.nil_append]
theorem e_2390 {x0 : Int32} {no : Nat} {A : yA} {ans : Int32} (hM : zMdl h m w th) (hno : no < 100) (hA : no = 0 → yAok A) (hA2 : 0 < no → A = ycur w) (hW : ∀ (h1 : zH) (F1 : Nat → Int32), zWk h1 m F1 (ycur w) → zWo (zcall zP sv (d + 24) 238 [.ref m, .int x0] h1) m h1 F1 no A ans) : zMC m h (zcall zP sv (d + 25) 239 [.ref m, .int x0] h) (if no = 0 then ans else 0) (if no = 0 then ysc (yrec w) A else w) (nI no) := by
  obtain ⟨h1, h2, h3, e1, e2, e3, r0, r1, r2, g1, g2⟩ := zM_do (sv := sv) (d := d) (C := zcall zP sv (d + 24) 238 [.ref m, .int x0]) hM hno hA hA2 hW
  refine ⟨h3, ?_, g1, g2⟩
  have e2' : zcall zP sv (d + 24) 238 [.ref m, .int x0] h1 = _ := e2
  simp only [zc_239, zs_239_0, zs_239_1, zs_239_4, zs_239_5, zs_239_6, zs_239_7, zs_239_10, zs_239_13, r0, r1, r2, e1, e2', e3, zbk_v, zts_s, zts_n, List.cons_append, List.nil_append]
theorem e_2410 {x0 x1 : Int32} {no : Nat} {A : yA} {ans : Int32} (hM : zMdl h m w th) (hno : no < 100) (hA : no = 0 → yAok A) (hA2 : 0 < no → A = ycur w) (hW : ∀ (h1 : zH) (F1 : Nat → Int32), zWk h1 m F1 (ycur w) → zWo (zcall zP sv (d + 24) 240 [.ref m, .int x0, .int x1] h1) m h1 F1 no A ans) : zMC m h (zcall zP sv (d + 25) 241 [.ref m, .int x0, .int x1] h) (if no = 0 then ans else 0) (if no = 0 then ysc (yrec w) A else w) (nI no) := by
  obtain ⟨h1, h2, h3, e1, e2, e3, r0, r1, r2, g1, g2⟩ := zM_do (sv := sv) (d := d) (C := zcall zP sv (d + 24) 240 [.ref m, .int x0, .int x1]) hM hno hA hA2 hW
  refine ⟨h3, ?_, g1, g2⟩
  have e2' : zcall zP sv (d + 24) 240 [.ref m, .int x0, .int x1] h1 = _ := e2
  simp only [zc_241, zs_241_0, zs_241_1, zs_241_4, zs_241_5, zs_241_6, zs_241_7, zs_241_8, zs_241_11, zs_241_14, r0, r1, r2, e1, e2', e3, zbk_v, zts_s, zts_n, List.cons_append, List.nil_append]
theorem e_2440 {x0 x1 x2 : Int32} {no : Nat} {A : yA} {ans : Int32} (hM : zMdl h m w th) (hno : no < 100) (hA : no = 0 → yAok A) (hA2 : 0 < no → A = ycur w) (hW : ∀ (h1 : zH) (F1 : Nat → Int32), zWk h1 m F1 (ycur w) → zWo (zcall zP sv (d + 24) 243 [.ref m, .int x0, .int x1, .int x2] h1) m h1 F1 no A ans) : zMC m h (zcall zP sv (d + 25) 244 [.ref m, .int x0, .int x1, .int x2] h) (if no = 0 then ans else 0) (if no = 0 then ysc (yrec w) A else w) (nI no) := by
  obtain ⟨h1, h2, h3, e1, e2, e3, r0, r1, r2, g1, g2⟩ := zM_do (sv := sv) (d := d) (C := zcall zP sv (d + 24) 243 [.ref m, .int x0, .int x1, .int x2]) hM hno hA hA2 hW
  refine ⟨h3, ?_, g1, g2⟩
  have e2' : zcall zP sv (d + 24) 243 [.ref m, .int x0, .int x1, .int x2] h1 = _ := e2
  simp only [zc_244, zs_244_0, zs_244_1, zs_244_4, zs_244_5, zs_244_6, zs_244_7, zs_244_8, zs_244_9, zs_244_12, zs_244_15, r0, r1, r2, e1, e2', e3, zbk_v, zts_s, zts_n, List.cons_append, List.nil_append]
theorem e_2460 {x0 x1 : Int32} {no : Nat} {A : yA} {ans : Int32} (hM : zMdl h m w th) (hno : no < 100) (hA : no = 0 → yAok A) (hA2 : 0 < no → A = ycur w) (hW : ∀ (h1 : zH) (F1 : Nat → Int32), zWk h1 m F1 (ycur w) → zWo (zcall zP sv (d + 24) 245 [.ref m, .int x0, .int x1] h1) m h1 F1 no A ans) : zMC m h (zcall zP sv (d + 25) 246 [.ref m, .int x0, .int x1] h) (if no = 0 then ans else 0) (if no = 0 then ysc (yrec w) A else w) (nI no) := by
  obtain ⟨h1, h2, h3, e1, e2, e3, r0, r1, r2, g1, g2⟩ := zM_do (sv := sv) (d := d) (C := zcall zP sv (d + 24) 245 [.ref m, .int x0, .int x1]) hM hno hA hA2 hW
  refine ⟨h3, ?_, g1, g2⟩
  have e2' : zcall zP sv (d + 24) 245 [.ref m, .int x0, .int x1] h1 = _ := e2
  simp only [zc_246, zs_246_0, zs_246_1, zs_246_4, zs_246_5, zs_246_6, zs_246_7, zs_246_8, zs_246_11, zs_246_14, r0, r1, r2, e1, e2', e3, zbk_v, zts_s, zts_n, List.cons_append, List.nil_append]
theorem e_2480 {x0 : Int32} {no : Nat} {A : yA} {ans : Int32} (hM : zMdl h m w th) (hno : no < 100) (hA : no = 0 → yAok A) (hA2 : 0 < no → A = ycur w) (hW : ∀ (h1 : zH) (F1 : Nat → Int32), zWk h1 m F1 (ycur w) → zWo (zcall zP sv (d + 24) 247 [.ref m, .int x0] h1) m h1 F1 no A ans) : zMC m h (zcall zP sv (d + 25) 248 [.ref m, .int x0] h) (if no = 0 then ans else 0) (if no = 0 then ysc (yrec w) A else w) (nI no) := by
  obtain ⟨h1, h2, h3, e1, e2, e3, r0, r1, r2, g1, g2⟩ := zM_do (sv := sv) (d := d) (C := zcall zP sv (d + 24) 247 [.ref m, .int x0]) hM hno hA hA2 hW
  refine ⟨h3, ?_, g1, g2⟩
  have e2' : zcall zP sv (d + 24) 247 [.ref m, .int x0] h1 = _ := e2
  simp only [zc_248, zs_248_0, zs_248_1, zs_248_4, zs_248_5, zs_248_6, zs_248_7, zs_248_10, zs_248_13, r0, r1, r2, e1, e2', e3, zbk_v, zts_s, zts_n, List.cons_append, List.nil_append]
end ZMN

theorem yAok_era {A : yA} {i : Nat} (hA : yAok A) (hi : i < A.1.length) : yAok (A.1.eraseIdx i, A.2) := ⟨by show (A.1.eraseIdx i).length ≤ 6; rw [List.length_eraseIdx_of_lt hi]; have := hA.1; omega, fun t ht => hA.2.1 t (List.mem_of_mem_eraseIdx ht), hA.2.2⟩
theorem yAok_set {A : yA} {i : Nat} {t : yT} {B : List Int32 × Int32 × Int32} (hA : yAok A) (ht : ytok t) (hB : B.1.length = 6) : yAok (A.1.set i t, B) := ⟨by show (A.1.set i t).length ≤ 6; rw [List.length_set]; exact hA.1, fun u hu => (List.mem_or_eq_of_mem_set hu).elim (hA.2.1 u) (fun q => by rw [q]; exact ht), hB⟩
theorem yAok_app {A : yA} {t : yT} (hA : yAok A) (ht : ytok t) (hl : A.1.length < 6) : yAok (A.1 ++ [t], A.2) := ⟨by show (A.1 ++ [t]).length ≤ 6; rw [List.length_append, List.length_singleton]; omega, fun u hu => (List.mem_append.mp hu).elim (hA.2.1 u) (fun q => by rw [List.mem_singleton.mp q]; exact ht), hA.2.2⟩
theorem yAok_oth {A : yA} {B : List Int32 × Int32 × Int32} (hA : yAok A) (hB : B.1.length = 6) : yAok (A.1, B) := ⟨hA.1, hA.2.1, hB⟩
theorem ys_lnn {A : List Int32} {x y : Int32} : (ys A x y).length = A.length := by
  unfold ys
  split
  · rfl
  · rw [List.length_set]
theorem zMdl_A {h : zH} {m : Nat} {w : yW} {th : Int32} (hM : zMdl h m w th) : yAok (ycur w) := by
  obtain ⟨_, _, _, _, _, hA⟩ := hM
  exact hA
section ZMO
variable {sv : Nat → Value} {d : Nat} {m : Nat} {F : Nat → Int32} {h : zH} {w : yW} {th : Int32} {A : yA}
theorem zWo_0 {r : zR} {F1 : Nat → Int32} {A : yA} {ans : Int32} (e : ∃ (h2 : zH) (F2 : Nat → Int32), r = some (.inl (some (.int 0)), h2) ∧ zWk h2 m F2 A ∧ F2 30 = ans ∧ yff F1 F2 ∧ zwf m h h2) : zWo r m h F1 0 A ans := by
  obtain ⟨h2, F2, e1, e2, e3, e4⟩ := e
  exact ⟨h2, F2, by rw [nI_0]; exact e1, e2, fun _ => e3, e4⟩
theorem zWo_n {r : zR} {F1 : Nat → Int32} {A : yA} {no : Nat} {ans : Int32} (hw : zWk h m F1 A) (h0 : 0 < no) (e : r = some (.inl (some (.int (nI no))), h)) : zWo r m h F1 no A ans := ⟨h, F1, e, hw, fun q => absurd q (by omega), yff_rfl, zwf_rfl⟩
theorem zWo_m {r : zR} {F1 : Nat → Int32} {A : yA} {no : Nat} {ans : Int32} (h0 : 0 < no) (e : ∃ (h2 : zH) (F2 : Nat → Int32), r = some (.inl (some (.int (nI no))), h2) ∧ zWk h2 m F2 A ∧ yff F1 F2 ∧ zwf m h h2) : zWo r m h F1 no A ans := by
  obtain ⟨h2, F2, e1, e2, e4⟩ := e
  exact ⟨h2, F2, e1, e2, fun q => absurd q (by omega), e4⟩
theorem e_237 {i : Nat} (hM : zMdl h m w th) (hi : i < (ycur w).1.length) : zMC m h (zcall zP sv (d + 25) 237 [.ref m, .int (nI i)] h) (nI ((ycur w).1.length - 1)) (ysc (yrec w) ((ycur w).1.eraseIdx i, (ycur w).2)) 0 := by
  have e := e_2370 (sv := sv) (d := d) (no := 0) (A := ((ycur w).1.eraseIdx i, (ycur w).2)) (ans := nI ((ycur w).1.length - 1)) (x0 := nI i) hM (by decide) (fun _ => yAok_era (zMdl_A hM) hi) (fun q => absurd q (by decide)) (fun h1 F1 w1 => zWo_0 (e_236 (sv := sv) (d := d + 4) w1 (zMdl_A hM) hi))
  rw [nI_0] at e
  exact e
theorem e_237x {x : Int32} (hM : zMdl h m w th) (hx : yinF (ycur w) x = false) : zMC m h (zcall zP sv (d + 25) 237 [.ref m, .int x] h) 0 w (nI 1) :=
  e_2370 (sv := sv) (d := d) (no := 1) (A := ycur w) (ans := 0) (x0 := x) hM (by decide) (fun q => absurd q (by decide)) (fun _ => rfl) (fun h1 F1 w1 => zWo_n w1 (by decide) (e_236x (sv := sv) (d := d + 4) w1 hx))
theorem e_239 {i : Nat} {t : yT} (hM : zMdl h m w th) (hi : (ycur w).1[i]? = some t) : zMC m h (zcall zP sv (d + 25) 239 [.ref m, .int (nI i)] h) (nI (ysz t - ysz (ysim t))) (ysc (yrec w) ((ycur w).1.set i (ysim t), (ycur w).2.1, (ycur w).2.2.1, (ycur w).2.2.2 + nI (ysz t - ysz (ysim t)))) 0 := by
  obtain ⟨t1, t2, t3⟩ := (zMdl_A hM).2.1 t (List.mem_of_getElem? hi)
  have hst := ysz_ysim t
  have hdt := ydp_ysim t
  have e := e_2390 (sv := sv) (d := d) (no := 0) (A := ((ycur w).1.set i (ysim t), (ycur w).2.1, (ycur w).2.2.1, (ycur w).2.2.2 + nI (ysz t - ysz (ysim t)))) (ans := nI (ysz t - ysz (ysim t))) (x0 := nI i) hM (by decide) (fun _ => yAok_set (zMdl_A hM) ⟨ytw_ysim t t1, by omega, by omega⟩ (zMdl_A hM).2.2) (fun q => absurd q (by decide)) (fun h1 F1 w1 => zWo_0 (e_238 (sv := sv) (d := d + 4) w1 (zMdl_A hM) hi))
  rw [nI_0] at e
  exact e
theorem e_239x {x : Int32} (hM : zMdl h m w th) (hx : yinF (ycur w) x = false) : zMC m h (zcall zP sv (d + 25) 239 [.ref m, .int x] h) 0 w (nI 1) :=
  e_2390 (sv := sv) (d := d) (no := 1) (A := ycur w) (ans := 0) (x0 := x) hM (by decide) (fun q => absurd q (by decide)) (fun _ => rfl) (fun h1 F1 w1 => zWo_n w1 (by decide) (e_238x (sv := sv) (d := d + 4) w1 hx))
theorem e_241x {x c : Int32} (hM : zMdl h m w th) (hx : yinF (ycur w) x = false) : zMC m h (zcall zP sv (d + 25) 241 [.ref m, .int x, .int c] h) 0 w (nI 1) :=
  e_2410 (sv := sv) (d := d) (no := 1) (A := ycur w) (ans := 0) (x0 := x) (x1 := c) hM (by decide) (fun q => absurd q (by decide)) (fun _ => rfl) (fun h1 F1 w1 => zWo_n w1 (by decide) (e_240x (sv := sv) (d := d + 3) w1 hx))
theorem e_241a {i : Nat} {c : Int32} (hM : zMdl h m w th) (hi : i < (ycur w).1.length) (hc : ylet c = false) : zMC m h (zcall zP sv (d + 25) 241 [.ref m, .int (nI i), .int c] h) 0 w (nI 2) :=
  e_2410 (sv := sv) (d := d) (no := 2) (A := ycur w) (ans := 0) (x0 := nI i) (x1 := c) hM (by decide) (fun q => absurd q (by decide)) (fun _ => rfl) (fun h1 F1 w1 => zWo_n w1 (by decide) (e_240a (sv := sv) (d := d + 3) w1 (zMdl_A hM) hi hc))
theorem e_241b {i : Nat} {c : Int32} (hM : zMdl h m w th) (hi : i < (ycur w).1.length) (hc : ylet c = true) (hl : (ycur w).1.length = 6) : zMC m h (zcall zP sv (d + 25) 241 [.ref m, .int (nI i), .int c] h) 0 w (nI 3) :=
  e_2410 (sv := sv) (d := d) (no := 3) (A := ycur w) (ans := 0) (x0 := nI i) (x1 := c) hM (by decide) (fun q => absurd q (by decide)) (fun _ => rfl) (fun h1 F1 w1 => zWo_n w1 (by decide) (e_240b (sv := sv) (d := d + 3) w1 (zMdl_A hM) hi hc hl))
theorem nI_31 : nI 3 + nI 1 = nI 4 := by rw [nI_add]
theorem e_241c {i : Nat} {c : Int32} {t : yT} (hM : zMdl h m w th) (hi : (ycur w).1[i]? = some t) (hc : ylet c = true) (hl : (ycur w).1.length < 6) (hb : ¬ (ysz (ysim (yder c t)) ≤ 31 ∧ ydp (ysim (yder c t)) ≤ 8)) : zMC m h (zcall zP sv (d + 25) 241 [.ref m, .int (nI i), .int c] h) 0 w (nI 4) := by
  obtain ⟨t1, t2, t3⟩ := (zMdl_A hM).2.1 t (List.mem_of_getElem? hi)
  have hst := ysz_ysim (yder c t)
  have hsd := ysz_yder (c := c) t 8 t3
  refine e_2410 (sv := sv) (d := d) (no := 4) (A := ycur w) (ans := 0) (x0 := nI i) (x1 := c) hM (by decide) (fun q => absurd q (by decide)) (fun _ => rfl) (fun h1 F1 w1 => zWo_m (by decide) ?_)
  obtain ⟨h2, F2, e, w2, l2, f2, k2⟩ := e_240m (sv := sv) (d := d + 3) w1 (zMdl_A hM) hi hc hl
  obtain ⟨h3, F3, e3, w3, f3, k3⟩ := e_234b (sv := sv) (d := d + 3) (f := nI 3) w2 l2 (ytw_ysim _ (ytw_yder t t1)) (by omega) (zMdl_A hM) hl hb
  rw [nI_31] at e3
  exact ⟨h3, F3, e _ _ e3, w3, yff_tr f2 f3, zwf_tr k2 k3⟩
theorem e_241 {i : Nat} {c : Int32} {t : yT} (hM : zMdl h m w th) (hi : (ycur w).1[i]? = some t) (hc : ylet c = true) (hl : (ycur w).1.length < 6) (hb : ysz (ysim (yder c t)) ≤ 31 ∧ ydp (ysim (yder c t)) ≤ 8) : zMC m h (zcall zP sv (d + 25) 241 [.ref m, .int (nI i), .int c] h) (nI (ycur w).1.length) (ysc (yrec w) ((ycur w).1 ++ [ysim (yder c t)], (ycur w).2)) 0 := by
  obtain ⟨t1, t2, t3⟩ := (zMdl_A hM).2.1 t (List.mem_of_getElem? hi)
  have ts := ytw_ysim _ (ytw_yder (c := c) t t1)
  have e0 := e_2410 (sv := sv) (d := d) (no := 0) (A := ((ycur w).1 ++ [ysim (yder c t)], (ycur w).2)) (ans := nI (ycur w).1.length) (x0 := nI i) (x1 := c) hM (by decide) (fun _ => yAok_app (zMdl_A hM) ⟨ts, hb.1, hb.2⟩ hl) (fun q => absurd q (by decide)) (fun h1 F1 w1 => zWo_0 (by
    obtain ⟨h2, F2, e, w2, l2, f2, k2⟩ := e_240m (sv := sv) (d := d + 3) w1 (zMdl_A hM) hi hc hl
    obtain ⟨h3, F3, e3, w3, f30, f3, k3⟩ := e_234c (sv := sv) (d := d + 3) (f := nI 3) w2 l2 ts (by omega) (zMdl_A hM) hl hb
    exact ⟨h3, F3, e _ _ e3, w3, f30, yff_tr f2 f3, zwf_tr k2 k3⟩))
  rw [nI_0] at e0
  exact e0
theorem e_244x {x c y : Int32} (hM : zMdl h m w th) (hx : (yinF (ycur w) x && yinF (ycur w) y) = false) : zMC m h (zcall zP sv (d + 25) 244 [.ref m, .int x, .int c, .int y] h) 0 w (nI 1) :=
  e_2440 (sv := sv) (d := d) (no := 1) (A := ycur w) (ans := 0) (x0 := x) (x1 := c) (x2 := y) hM (by decide) (fun q => absurd q (by decide)) (fun _ => rfl) (fun h1 F1 w1 => zWo_n w1 (by decide) (e_243x (sv := sv) (d := d + 3) w1 (zMdl_A hM) hx))
theorem e_244a {i j : Nat} {c : Int32} (hM : zMdl h m w th) (hi : i < (ycur w).1.length) (hj : j < (ycur w).1.length) (hc : ylet c = false) : zMC m h (zcall zP sv (d + 25) 244 [.ref m, .int (nI i), .int c, .int (nI j)] h) 0 w (nI 2) :=
  e_2440 (sv := sv) (d := d) (no := 2) (A := ycur w) (ans := 0) (x0 := nI i) (x1 := c) (x2 := nI j) hM (by decide) (fun q => absurd q (by decide)) (fun _ => rfl) (fun h1 F1 w1 => zWo_n w1 (by decide) (e_243a (sv := sv) (d := d + 3) w1 (zMdl_A hM) hi hj hc))
theorem e_244b {i j : Nat} {c : Int32} {t u : yT} (hM : zMdl h m w th) (hi : (ycur w).1[i]? = some t) (hj : (ycur w).1[j]? = some u) (hc : ylet c = true) (hb : ¬ (ysz (yins c u t) ≤ 31 ∧ ydp (yins c u t) ≤ 8)) : zMC m h (zcall zP sv (d + 25) 244 [.ref m, .int (nI i), .int c, .int (nI j)] h) 0 w (nI 3) :=
  e_2440 (sv := sv) (d := d) (no := 3) (A := ycur w) (ans := 0) (x0 := nI i) (x1 := c) (x2 := nI j) hM (by decide) (fun q => absurd q (by decide)) (fun _ => rfl) (fun h1 F1 w1 => zWo_m (by decide) (e_243b (sv := sv) (d := d + 3) w1 (zMdl_A hM) hi hj hc hb))
theorem e_244 {i j : Nat} {c : Int32} {t u : yT} (hM : zMdl h m w th) (hi : (ycur w).1[i]? = some t) (hj : (ycur w).1[j]? = some u) (hc : ylet c = true) (hb : ysz (yins c u t) ≤ 31 ∧ ydp (yins c u t) ≤ 8) : zMC m h (zcall zP sv (d + 25) 244 [.ref m, .int (nI i), .int c, .int (nI j)] h) (nI (ysz (yins c u t))) (ysc (yrec w) ((ycur w).1.set i (yins c u t), (ycur w).2)) 0 := by
  obtain ⟨t1, t2, t3⟩ := (zMdl_A hM).2.1 t (List.mem_of_getElem? hi)
  obtain ⟨u1, u2, u3⟩ := (zMdl_A hM).2.1 u (List.mem_of_getElem? hj)
  have e0 := e_2440 (sv := sv) (d := d) (no := 0) (A := ((ycur w).1.set i (yins c u t), (ycur w).2)) (ans := nI (ysz (yins c u t))) (x0 := nI i) (x1 := c) (x2 := nI j) hM (by decide) (fun _ => yAok_set (zMdl_A hM) ⟨ytw_yins u1 t t1, hb.1, hb.2⟩ (zMdl_A hM).2.2) (fun q => absurd q (by decide)) (fun h1 F1 w1 => zWo_0 (e_243c (sv := sv) (d := d + 3) w1 (zMdl_A hM) hi hj hc hb))
  rw [nI_0] at e0
  exact e0
theorem e_246x {c x : Int32} (hM : zMdl h m w th) (hb : (ylet c && (decide (¬ x < -999) && decide (¬ nI 999 < x))) = false) : zMC m h (zcall zP sv (d + 25) 246 [.ref m, .int c, .int x] h) 0 w (nI 1) :=
  e_2460 (sv := sv) (d := d) (no := 1) (A := ycur w) (ans := 0) (x0 := c) (x1 := x) hM (by decide) (fun q => absurd q (by decide)) (fun _ => rfl) (fun h1 F1 w1 => zWo_n w1 (by decide) (e_245x (sv := sv) (d := d + 4) w1.1 hb))
theorem e_246 {c x : Int32} (hM : zMdl h m w th) (hb : (ylet c && (decide (¬ x < -999) && decide (¬ nI 999 < x))) = true) : zMC m h (zcall zP sv (d + 25) 246 [.ref m, .int c, .int x] h) (yg (ycur w).2.1 (c - nI 97)) (ysc (yrec w) ((ycur w).1, ys (ycur w).2.1 (c - nI 97) x, (ycur w).2.2)) 0 := by
  have e0 := e_2460 (sv := sv) (d := d) (no := 0) (A := ((ycur w).1, ys (ycur w).2.1 (c - nI 97) x, (ycur w).2.2)) (ans := yg (ycur w).2.1 (c - nI 97)) (x0 := c) (x1 := x) hM (by decide) (fun _ => yAok_oth (zMdl_A hM) (by show (ys _ _ _).length = 6; rw [ys_lnn]; exact (zMdl_A hM).2.2)) (fun q => absurd q (by decide)) (fun h1 F1 w1 => zWo_0 (e_245 (sv := sv) (d := d + 4) w1 (zMdl_A hM) hb))
  rw [nI_0] at e0
  exact e0
theorem e_248x {x : Int32} (hM : zMdl h m w th) (hb : (decide (¬ x < nI 1) && decide (¬ nI 4 < x)) = false) : zMC m h (zcall zP sv (d + 25) 248 [.ref m, .int x] h) 0 w (nI 1) :=
  e_2480 (sv := sv) (d := d) (no := 1) (A := ycur w) (ans := 0) (x0 := x) hM (by decide) (fun q => absurd q (by decide)) (fun _ => rfl) (fun h1 F1 w1 => zWo_n w1 (by decide) (e_247x (sv := sv) (d := d + 4) w1.1 hb))
theorem e_248 {x : Int32} (hM : zMdl h m w th) (hb : (decide (¬ x < nI 1) && decide (¬ nI 4 < x)) = true) : zMC m h (zcall zP sv (d + 25) 248 [.ref m, .int x] h) (ycur w).2.2.1 (ysc (yrec w) ((ycur w).1, (ycur w).2.1, x, (ycur w).2.2.2)) 0 := by
  have e0 := e_2480 (sv := sv) (d := d) (no := 0) (A := ((ycur w).1, (ycur w).2.1, x, (ycur w).2.2.2)) (ans := (ycur w).2.2.1) (x0 := x) hM (by decide) (fun _ => yAok_oth (zMdl_A hM) (zMdl_A hM).2.2) (fun q => absurd q (by decide)) (fun h1 F1 w1 => zWo_0 (e_247 (sv := sv) (d := d + 4) w1 hb))
  rw [nI_0] at e0
  exact e0
end ZMO

/-- the model reads: at pos, op parentheses open, qs made -/
def zPs (h : zH) (m : Nat) (F : Nat → Int32) (cs : List Int32) (pos op : Nat) (qs : yP) : Prop := (∃ G : Nat → Int32, h.1 m = (13, zMF m G) ∧ G 27 = nI pos ∧ G 28 = nI op ∧ G 11 = nI qs.length ∧ G 26 = nI cs.length ∧ ∀ k, k ≠ 27 → k ≠ 28 → k ≠ 11 → G k = F k) ∧ zLst h (m + 7) (m + 8) qs ∧ zTx h (m + 17) 60 cs ∧ pos ≤ cs.length
theorem ycat_of {cs : List Int32} {pos : Nat} {x : Int32} (h : cs[pos]? = some x) : ycat cs pos = x := by
  unfold ycat
  rw [List.getD_eq_getElem?_getD, h]
  rfl
theorem ycat_end {cs : List Int32} {pos : Nat} (h : cs.length ≤ pos) : ycat cs pos = nI 32 := by
  unfold ycat
  rw [List.getD_eq_getElem?_getD, List.getElem?_eq_none h]
  rfl
section ZPA
variable {sv : Nat → Value} {d : Nat} {m : Nat} {F : Nat → Int32} {h : zH} {cs : List Int32} {pos op : Nat} {qs : yP}
theorem zPs_rc {X : zR} (hp : zPs h m F cs pos op qs) : zrc (h.1 m) 13 X = X := by
  obtain ⟨⟨G, g, _⟩, _⟩ := hp
  rw [g]
  exact zrc_k
theorem zPs_txt (hp : zPs h m F cs pos op qs) (hl : pos < cs.length) : ∃ B : List Int32, h.1 (m + 17) = (21, B.map Value.int) ∧ ∀ Kv, zael (21, B.map Value.int) 21 (nI pos) Kv = Kv (.int (ycat cs pos)) := by
  obtain ⟨_, _, ⟨B, b1, b2, b3, b4⟩, _⟩ := hp
  have hx : B[pos]? = some (ycat cs pos) := by
    have e : cs[pos]? = some (ycat cs pos) := by
      rw [ycat_of (List.getElem?_eq_getElem hl)]
      exact List.getElem?_eq_getElem hl
    exact ytk_at b3 e
  exact ⟨B, b1, fun Kv => zaelv (by rw [List.getElem?_map, hx]; rfl) (by omega)⟩
theorem zPs_at {pos' : Nat} (hp : zPs h m F cs pos op qs) (hl : pos' ≤ cs.length) : ∃ G : Nat → Int32, h.1 m = (13, zMF m G) ∧ G 27 = nI pos ∧ G 28 = nI op ∧ G 11 = nI qs.length ∧ G 26 = nI cs.length ∧ zPs (zup h m (13, zMF m (yup G 27 (nI pos')))) m F cs pos' op qs := by
  obtain ⟨⟨G, g, g1, g2, g3, g4, g5⟩, a, b, c⟩ := hp
  exact ⟨G, g, g1, g2, g3, g4, ⟨yup G 27 (nI pos'), zup_at, yup_eq, (yup_ne (by omega)).trans g2, (yup_ne (by omega)).trans g3, (yup_ne (by omega)).trans g4, fun k k1 k2 k3 => (yup_ne k1).trans (g5 k k1 k2 k3)⟩, zLst_cg a (zup_ne (by omega)) (zup_ne (by omega)), zTx_cg b (zup_ne (by omega)), hl⟩
theorem zPs_op {op' : Nat} (hp : zPs h m F cs pos op qs) : ∃ G : Nat → Int32, h.1 m = (13, zMF m G) ∧ G 27 = nI pos ∧ G 28 = nI op ∧ G 11 = nI qs.length ∧ G 26 = nI cs.length ∧ zPs (zup h m (13, zMF m (yup G 28 (nI op')))) m F cs pos op' qs := by
  obtain ⟨⟨G, g, g1, g2, g3, g4, g5⟩, a, b, c⟩ := hp
  exact ⟨G, g, g1, g2, g3, g4, ⟨yup G 28 (nI op'), zup_at, (yup_ne (by omega)).trans g1, yup_eq, (yup_ne (by omega)).trans g3, (yup_ne (by omega)).trans g4, fun k k1 k2 k3 => (yup_ne k2).trans (g5 k k1 k2 k3)⟩, zLst_cg a (zup_ne (by omega)) (zup_ne (by omega)), zTx_cg b (zup_ne (by omega)), c⟩
theorem zPs_ln (hp : zPs h m F cs pos op qs) : cs.length ≤ 60 ∧ pos ≤ cs.length := by
  obtain ⟨_, _, ⟨B, b1, b2, b3, b4⟩, c⟩ := hp
  exact ⟨b4, c⟩
theorem zmf_27' {G : Nat → Int32} {Kv : Value → zR} : zfld (13, zMF m G) 13 27 Kv = Kv (.int (G 27)) := zf_13_27
/-- takes -/
theorem e_225 {c : Int32} (hp : zPs h m F cs pos op qs) (hc : c ≠ nI 32) : ∃ h', zcall zP sv (d + 1) 225 [.ref m, .int c] h = some (.inl (some (.int (yb (decide (ycat cs pos = c))))), h') ∧ zPs h' m F cs (if ycat cs pos = c then pos + 1 else pos) op qs ∧ zfm m h h' := by
  have hln := zPs_ln hp
  by_cases hl : pos < cs.length
  · obtain ⟨B, b1, b2⟩ := zPs_txt hp hl
    obtain ⟨G, g, g1, g2, g3, g4, hp'⟩ := zPs_at (pos' := pos + 1) hp (by omega)
    have n1 : ¬ nI pos = nI cs.length := fun q => absurd ((nI_eq (by omega) (by omega)).mp q) (by omega)
    by_cases hq : ycat cs pos = c
    · rw [if_pos hq, decide_eq_true hq]
      refine ⟨_, ?_, hp', ⟨fun q q1 q2 q3 => zup_ne q1, rfl⟩⟩
      simp only [zc_225, zs_225_0, zs_225_1, zs_225_4, zs_225_5, zs_225_8, zs_225_11, zs_225_12, zs_225_15, zs_225_16, zs_225_19, zs_225_20, zs_225_21, zs_225_24, zs_225_25, zs_225_26, zs_225_27, zs_225_28, zs_225_31, zs_225_32, zs_225_33, zs_225_36, zs_225_37, g, zmf_25, zmf_26, zmf_27, g1, g4, if_neg n1, b1, b2, hq, ↓reduceIte, nI_1', zmp_27, zgd_t, zty_51, yb_t]
    · rw [if_neg hq, decide_eq_false hq]
      refine ⟨h, ?_, hp, zfm_rfl⟩
      simp only [zc_225, zs_225_0, zs_225_1, zs_225_4, zs_225_5, zs_225_8, zs_225_11, zs_225_12, zs_225_15, zs_225_16, zs_225_19, zs_225_20, zs_225_21, zs_225_24, zs_225_25, zs_225_26, zs_225_27, zs_225_28, zs_225_31, zs_225_32, zs_225_33, zs_225_36, zs_225_37, g, zmf_25, zmf_26, zmf_27, g1, g4, if_neg n1, b1, b2, if_neg hq, zgd_t, zty_50, yb_f]
  · have he : pos = cs.length := by omega
    have hq : ¬ ycat cs pos = c := by
      rw [ycat_end (by omega)]
      exact fun q => hc q.symm
    obtain ⟨⟨G, g, g1, g2, g3, g4, g5⟩, _⟩ := id hp
    rw [if_neg hq, decide_eq_false hq]
    refine ⟨h, ?_, hp, zfm_rfl⟩
    have n1 : nI pos = nI cs.length := by rw [he]
    simp only [zc_225, zs_225_0, zs_225_1, zs_225_4, zs_225_5, zs_225_8, zs_225_11, zs_225_12, zs_225_15, zs_225_16, zs_225_19, zs_225_20, zs_225_21, zs_225_24, zs_225_25, zs_225_26, zs_225_27, zs_225_28, zs_225_31, zs_225_32, zs_225_33, zs_225_36, zs_225_37, g, zmf_26, zmf_27, g1, g4, if_pos n1, zgd_t, zty_50, yb_f]
theorem e_226 {lo hi : Int32} (hp : zPs h m F cs pos op qs) (hlo : nI 32 < lo) : zcall zP sv (d + 2) 226 [.ref m, .int lo, .int hi] h = some (.inl (some (.int (yb (decide (¬ ycat cs pos < lo) && decide (¬ hi < ycat cs pos))))), h) := by
  have hln := zPs_ln hp
  obtain ⟨⟨G, g, g1, g2, g3, g4, g5⟩, _⟩ := id hp
  by_cases hl : pos < cs.length
  · obtain ⟨B, b1, b2⟩ := zPs_txt hp hl
    have n1 : nI pos < nI cs.length := nI_lt hl (by omega)
    have e1 := e_199 (sv := sv) (d := d) (h := h) (x := ycat cs pos) (a := lo) (b := hi)
    cases hb : (decide (¬ ycat cs pos < lo) && decide (¬ hi < ycat cs pos)) with
    | true =>
      rw [hb, yb_t] at e1
      simp only [zc_226, zs_226_0, zs_226_1, zs_226_4, zs_226_5, zs_226_8, zs_226_11, zs_226_12, zs_226_15, zs_226_16, zs_226_19, zs_226_20, zs_226_21, zs_226_22, zs_226_25, zs_226_28, zs_226_29, zs_226_32, zs_226_33, g, zmf_25, zmf_26, zmf_27, g1, g4, if_pos n1, b1, b2, e1, zbk_v, zts_s, nI_1e0, ↓reduceIte, zgd_t, zty_51, yb_t]
    | false =>
      rw [hb, yb_f] at e1
      simp only [zc_226, zs_226_0, zs_226_1, zs_226_4, zs_226_5, zs_226_8, zs_226_11, zs_226_12, zs_226_15, zs_226_16, zs_226_19, zs_226_20, zs_226_21, zs_226_22, zs_226_25, zs_226_28, zs_226_29, zs_226_32, zs_226_33, g, zmf_25, zmf_26, zmf_27, g1, g4, if_pos n1, b1, b2, e1, zbk_v, zts_s, ↓reduceIte, zgd_t, zty_50, yb_f]
  · have n1 : ¬ nI pos < nI cs.length := nI_nlt (by omega) (by omega)
    rw [ycat_end (by omega), decide_eq_false (fun q => q hlo), Bool.false_and]
    simp only [zc_226, zs_226_0, zs_226_1, zs_226_4, zs_226_5, zs_226_8, zs_226_11, zs_226_12, zs_226_15, zs_226_16, zs_226_19, zs_226_20, zs_226_21, zs_226_22, zs_226_25, zs_226_28, zs_226_29, zs_226_32, zs_226_33, g, zmf_26, zmf_27, g1, g4, if_neg n1, zgd_t, zty_50, yb_f]
end ZPA

theorem ysh_tk {A L : List Int32} {p n : Nat} {k : Int32} (hA : n + 1 ≤ A.length) (hL : L.length = n) (hp : p ≤ n) (h1 : ∀ i, i < p → A[i]? = L[i]?) (h2 : ∀ i, p ≤ i → i < n → A[i + 1]? = L[i]?) : (A.set p k).take (n + 1) = L.take p ++ k :: L.drop p := by
  apply List.ext_getElem?
  intro i
  rw [List.getElem?_take]
  have htl : (L.take p).length = p := by rw [List.length_take]; omega
  by_cases hi : i < n + 1
  · rw [if_pos hi]
    by_cases c1 : i < p
    · rw [List.getElem?_set_ne (by omega), h1 i c1, List.getElem?_append_left (by omega), List.getElem?_take, if_pos c1]
    · rw [List.getElem?_append_right (by omega), htl]
      by_cases c2 : i = p
      · subst c2
        rw [List.getElem?_set_self (by omega), Nat.sub_self]
        rfl
      · obtain ⟨j, rfl⟩ : ∃ j, i = j + 1 := ⟨i - 1, by omega⟩
        rw [List.getElem?_set_ne (by omega), h2 j (by omega) (by omega), show j + 1 - p = (j - p) + 1 by omega, List.getElem?_cons_succ, List.getElem?_drop, show p + (j - p) = j by omega]
  · rw [if_neg hi]
    refine (List.getElem?_eq_none ?_).symm
    rw [List.length_append, List.length_cons, List.length_drop, htl]
    omega
section ZPB
variable {sv : Nat → Value} {d : Nat} {m : Nat} {F : Nat → Int32} {h : zH} {cs : List Int32} {pos op : Nat} {qs : yP}
theorem e_227l {C : Nat → List Value → zH → zR} {L : yP} {p : Nat} {k : Int32} {G : Nat → Int32} (hL : L.length < 700) (hp : p ≤ L.length) (hk : ynk L) : ∀ r q (h : zH) (A B : List Int32), q = p + r → q ≤ L.length → h.1 m = (13, zMF m G) → h.1 (m + 7) = (21, A.map Value.int) → h.1 (m + 8) = (20, B.map Value.int) → A.length = 700 → B.length = 700 → (∀ i, i < q → A[i]? = (L.map (fun q => q.1))[i]?) → (∀ i, q ≤ i → i < L.length → A[i + 1]? = (L.map (fun q => q.1))[i]?) → (∀ i, i < q → B[i]? = (L.map (fun q => q.2))[i]?) → (∀ i, q ≤ i → i < L.length → B[i + 1]? = (L.map (fun q => q.2))[i]?) → ∃ (h' : zH) (A' B' : List Int32), zrun zP sv C 227 5 [.val (.ref m), .val (.int k), .val (.int (nI p)), .val (.int (nI q))] [] h = zrun zP sv C 227 44 [.val (.ref m), .val (.int k), .val (.int (nI p)), .val (.int (nI p))] [] h' ∧ h'.1 (m + 7) = (21, A'.map Value.int) ∧ h'.1 (m + 8) = (20, B'.map Value.int) ∧ A'.length = 700 ∧ B'.length = 700 ∧ (∀ i, i < p → A'[i]? = (L.map (fun q => q.1))[i]?) ∧ (∀ i, p ≤ i → i < L.length → A'[i + 1]? = (L.map (fun q => q.1))[i]?) ∧ (∀ i, i < p → B'[i]? = (L.map (fun q => q.2))[i]?) ∧ (∀ i, p ≤ i → i < L.length → B'[i + 1]? = (L.map (fun q => q.2))[i]?) ∧ (∀ q, q ≠ m + 7 → q ≠ m + 8 → h'.1 q = h.1 q) ∧ h'.2 = h.2 := by
  intro r
  induction r with
  | zero =>
    intro q h A B hq hql hm ha hb hal hbl a1 a2 b1 b2
    obtain rfl : q = p := by omega
    refine ⟨h, A, B, ?_, ha, hb, hal, hbl, a1, a2, b1, b2, fun _ _ _ => rfl, rfl⟩
    simp only [zs_227_0, zs_227_1, zs_227_4, zs_227_5, zs_227_6, zs_227_7, zs_227_10, zs_227_11, zs_227_14, zs_227_15, zs_227_16, zs_227_19, zs_227_20, zs_227_21, zs_227_22, zs_227_23, zs_227_24, zs_227_25, zs_227_28, zs_227_29, zs_227_30, zs_227_33, zs_227_34, zs_227_35, zs_227_36, zs_227_37, zs_227_38, zs_227_41, zs_227_45, zs_227_48, zs_227_49, zs_227_50, zs_227_51, zs_227_52, zs_227_55, zs_227_56, zs_227_57, zs_227_58, zs_227_59, zs_227_60, zs_227_63, zs_227_64, zs_227_65, zs_227_68, Int32.lt_irrefl, ↓reduceIte]
  | succ r ih =>
    intro q h A B hq hql hm ha hb hal hbl a1 a2 b1 b2
    obtain ⟨q', rfl⟩ : ∃ q', q = q' + 1 := ⟨q - 1, by omega⟩
    obtain ⟨x, hx⟩ : ∃ x, L[q']? = some x := ⟨_, List.getElem?_eq_getElem (by omega)⟩
    have x1 : (L.map (fun q => q.1))[q']? = some x.1 := by rw [List.getElem?_map, hx]; rfl
    have x2 : (L.map (fun q => q.2))[q']? = some x.2 := by rw [List.getElem?_map, hx]; rfl
    have g1 : nI p < nI (q' + 1) := nI_lt (by omega) (by omega)
    have ea : ∀ Kv, zael (21, A.map Value.int) 21 (nI q') Kv = Kv (.int x.1) := fun Kv => zaelv (by rw [List.getElem?_map, a1 q' (by omega), x1]; rfl) (by omega)
    have eb : ∀ Kv, zael (20, B.map Value.int) 20 (nI q') Kv = Kv (.int x.2) := fun Kv => zaelv (by rw [List.getElem?_map, b1 q' (by omega), x2]; rfl) (by omega)
    have hkx := hk x (List.mem_of_getElem? hx)
    have s1 : ∀ Kc : zC → zR, zaset (21, A.map Value.int) 21 (nI (q' + 1)) (.int x.1) Kc = Kc (21, (A.set (q' + 1) (ynr x.1)).map Value.int) := fun Kc => zsC (by omega) (by omega)
    have s2 : ∀ Kc : zC → zR, zaset (20, B.map Value.int) 20 (nI (q' + 1)) (.int x.2) Kc = Kc (20, (B.set (q' + 1) x.2).map Value.int) := fun Kc => zsI (by omega) (by omega)
    obtain ⟨h', A', B', e, w⟩ := ih q' (zup (zup h (m + 7) (21, (A.set (q' + 1) x.1).map Value.int)) (m + 8) (20, (B.set (q' + 1) x.2).map Value.int)) (A.set (q' + 1) x.1) (B.set (q' + 1) x.2) (by omega) (by omega) (by rw [zup_ne (by omega), zup_ne (by omega), hm]) (by rw [zup_ne (by omega), zup_at]) zup_at (by rw [List.length_set, hal]) (by rw [List.length_set, hbl]) (fun i hi => by rw [List.getElem?_set_ne (by omega), a1 i (by omega)]) (fun i i1 i2 => by
      by_cases c : i = q'
      · subst c
        rw [List.getElem?_set_self (by omega), x1]
      · rw [List.getElem?_set_ne (by omega), a2 i (by omega) i2]) (fun i hi => by rw [List.getElem?_set_ne (by omega), b1 i (by omega)]) (fun i i1 i2 => by
      by_cases c : i = q'
      · subst c
        rw [List.getElem?_set_self (by omega), x2]
      · rw [List.getElem?_set_ne (by omega), b2 i (by omega) i2])
    obtain ⟨w1, w2, w3, w4, w5, w6, w7, w8, w9, w10⟩ := w
    refine ⟨h', A', B', ?_, w1, w2, w3, w4, w5, w6, w7, w8, fun y y1 y2 => by rw [w9 y y1 y2, zup_ne y2, zup_ne y1], w10⟩
    have e2 : ∀ g : zH, zrun zP sv C 227 38 [.val (.ref m), .val (.int k), .val (.int (nI p)), .val (.int (nI (q' + 1)))] [] g = zrun zP sv C 227 5 [.val (.ref m), .val (.int k), .val (.int (nI p)), .val (.int (nI q'))] [] g := fun g => by rw [zs_227_38, zs_227_41, nI_mm, nI_m]
    rw [← e, ← e2]
    simp (disch := omega) only [zs_227_5, zs_227_6, zs_227_7, zs_227_10, zs_227_11, zs_227_14, zs_227_15, zs_227_16, zs_227_19, zs_227_20, zs_227_21, zs_227_22, zs_227_23, zs_227_24, zs_227_25, zs_227_28, zs_227_29, zs_227_30, zs_227_33, zs_227_34, zs_227_35, zs_227_36, zs_227_37, if_pos g1, hm, zmf_9, zmf_10, ha, hb, nI_m, ea, eb, s1, s2, hkx, zup_ne, zup_at]
/-- puts: an operator ahead of what was made from a place on -/
theorem e_227 {rest : yP} {k : Int32} (hp : zPs h m F cs pos op (qs ++ rest)) (hk : ynk (qs ++ rest)) (hkk : ynr k = k) (hl : (qs ++ rest).length < 700) : ∃ h', zcall zP sv (d + 1) 227 [.ref m, .int k, .int (nI qs.length)] h = some (.inl none, h') ∧ zPs h' m F cs pos op (qs ++ (k, 0) :: rest) ∧ zfm m h h' := by
  obtain ⟨⟨G, g, g1, g2, g3, g4, g5⟩, ⟨A, B, a1, a2, a3, a4, a5, a6, a7⟩, t1, t2⟩ := hp
  have hla : (qs ++ rest).length = qs.length + rest.length := List.length_append
  have i1 : ∀ (X : List Int32) (f : Int32 × Int32 → Int32), X.take (qs ++ rest).length = (qs ++ rest).map f → ∀ i, i < (qs ++ rest).length → X[i]? = ((qs ++ rest).map f)[i]? := fun X f e i hi => by rw [← e, List.getElem?_take, if_pos hi]
  obtain ⟨h', A', B', e, w1, w2, w3, w4, w5, w6, w7, w8, w9, w10⟩ := e_227l (sv := sv) (C := zcall zP sv d) (m := m) (L := qs ++ rest) (p := qs.length) (k := k) (G := G) hl (by omega) hk rest.length (qs ++ rest).length h A B hla (Nat.le_refl _) g a1 a2 a3 a4 (fun i hi => i1 A _ a5 i hi) (fun i j1 j2 => absurd j2 (by omega)) (fun i hi => i1 B _ a6 i hi) (fun i j1 j2 => absurd j2 (by omega))
  have m1 : h'.1 m = (13, zMF m G) := by rw [w9 m (by omega) (by omega), g]
  have s1 : ∀ Kc : zC → zR, zaset (21, A'.map Value.int) 21 (nI qs.length) (.int k) Kc = Kc (21, (A'.set qs.length (ynr k)).map Value.int) := fun Kc => zsC (by omega) (by omega)
  have s2 : ∀ Kc : zC → zR, zaset (20, B'.map Value.int) 20 (nI qs.length) (.int 0) Kc = Kc (20, (B'.set qs.length 0).map Value.int) := fun Kc => zsI (by omega) (by omega)
  have hln : (qs ++ (k, (0 : Int32)) :: rest).length = (qs ++ rest).length + 1 := by rw [List.length_append, List.length_append, List.length_cons]; omega
  have ml : ∀ f : Int32 × Int32 → Int32, ((qs ++ rest).map f).length = (qs ++ rest).length := fun f => List.length_map ..
  have sp : ∀ f : Int32 × Int32 → Int32, ((qs ++ rest).map f).take qs.length ++ f (k, 0) :: ((qs ++ rest).map f).drop qs.length = (qs ++ (k, 0) :: rest).map f := fun f => by
    rw [← List.map_take, ← List.map_drop, List.take_left, List.drop_left, List.map_append, List.map_cons]
  refine ⟨zup (zup (zup h' (m + 7) (21, (A'.set qs.length k).map Value.int)) (m + 8) (20, (B'.set qs.length 0).map Value.int)) m (13, zMF m (yup G 11 (nI ((qs ++ rest).length + 1)))), ?_, ⟨⟨yup G 11 (nI ((qs ++ rest).length + 1)), zup_at, (yup_ne (by omega)).trans g1, (yup_ne (by omega)).trans g2, by rw [yup_eq, hln], (yup_ne (by omega)).trans g4, fun k k1 k2 k3 => (yup_ne k3).trans (g5 k k1 k2 k3)⟩, ⟨A'.set qs.length k, B'.set qs.length 0, by rw [zup_ne (by omega), zup_ne (by omega), zup_at], by rw [zup_ne (by omega), zup_at], by rw [List.length_set, w3], by rw [List.length_set, w4], ?_, ?_, by rw [hln]; omega⟩, zTx_cg t1 (by rw [zup_ne (by omega), zup_ne (by omega), zup_ne (by omega), w9 _ (by omega) (by omega)]), t2⟩, ⟨fun q q1 q2 q3 => by rw [zup_ne q1, zup_ne q3, zup_ne q2, w9 q q2 q3], w10⟩⟩
  · rw [zc_227]
    have e0 : zrun zP sv (zcall zP sv d) 227 0 [.val (.ref m), .val (.int k), .val (.int (nI qs.length)), .unset] [] h = zrun zP sv (zcall zP sv d) 227 5 [.val (.ref m), .val (.int k), .val (.int (nI qs.length)), .val (.int (nI (qs ++ rest).length))] [] h := by
      simp (disch := exact znw_u) only [zs_227_0, zs_227_1, zs_227_4, zs_227_6, zs_227_7, zs_227_10, zs_227_11, zs_227_14, zs_227_15, zs_227_16, zs_227_19, zs_227_20, zs_227_21, zs_227_22, zs_227_23, zs_227_24, zs_227_25, zs_227_28, zs_227_29, zs_227_30, zs_227_33, zs_227_34, zs_227_35, zs_227_36, zs_227_37, zs_227_38, zs_227_41, zs_227_44, zs_227_45, zs_227_48, zs_227_49, zs_227_50, zs_227_51, zs_227_52, zs_227_55, zs_227_56, zs_227_57, zs_227_58, zs_227_59, zs_227_60, zs_227_63, zs_227_64, zs_227_65, zs_227_68, g, zmf_11, g3]
    rw [e0, e]
    simp (disch := omega) only [zs_227_0, zs_227_1, zs_227_4, zs_227_5, zs_227_6, zs_227_7, zs_227_10, zs_227_11, zs_227_14, zs_227_15, zs_227_16, zs_227_19, zs_227_20, zs_227_21, zs_227_22, zs_227_23, zs_227_24, zs_227_25, zs_227_28, zs_227_29, zs_227_30, zs_227_33, zs_227_34, zs_227_35, zs_227_36, zs_227_37, zs_227_38, zs_227_41, zs_227_44, zs_227_45, zs_227_48, zs_227_49, zs_227_50, zs_227_51, zs_227_52, zs_227_55, zs_227_56, zs_227_57, zs_227_58, zs_227_59, zs_227_60, zs_227_63, zs_227_64, zs_227_65, zs_227_68, m1, zmf_9, zmf_10, zmf_11, w1, w2, s1, s2, hkk, zup_ne, zup_at, g3, nI_1', zmp_11]
  · rw [hln, ysh_tk (n := (qs ++ rest).length) (by omega) (ml _) (by omega) w5 w6]
    exact sp _
  · rw [hln, ysh_tk (n := (qs ++ rest).length) (by omega) (ml _) (by omega) w7 w8]
    exact sp _
end ZPB

/-- what a part of the model's parser answers -/
def zMR (m : Nat) (F : Nat → Int32) (cs : List Int32) (op : Nat) (qs : yP) (h : zH) (res : zR) (r : Option yT × Nat) : Prop := ∃ (h' : zH) (qs' : yP), res = some (.inl (some (.int (yb r.1.isSome))), h') ∧ zPs h' m F cs r.2 op qs' ∧ zfm m h h' ∧ qs'.length ≤ r.2 ∧ ynk qs' ∧ ∀ t, r.1 = some t → qs' = qs ++ ypr t
def yMP (sv : Nat → Value) (m : Nat) (F : Nat → Int32) (cs : List Int32) (K c f md o : Nat) : Prop := ∀ (op pos : Nat) (h : zH) (qs : yP) (D : Nat), ymu o op pos < f → 5 * (7 - op) + c ≤ D → op ≤ 6 → zPs h m F cs pos op qs → qs.length ≤ pos → ynk qs → zMR m F cs op qs h (zcall zP sv D K [.ref m] h) (ypa cs f md none op pos)
section ZPC
variable {sv : Nat → Value} {d : Nat} {m : Nat} {F : Nat → Int32} {h : zH} {cs : List Int32} {pos op : Nat} {qs : yP}
theorem zMR_tr {h1 : zH} {qs1 : yP} {res : zR} {r : Option yT × Nat} (hr : zMR m F cs op qs h1 res r) (hf : zfm m h h1) : zMR m F cs op qs h res r := by
  obtain ⟨h', qs', e, a1, a2, a3⟩ := hr
  exact ⟨h', qs', e, a1, zfm_tr hf a2, a3⟩
theorem zPs_make {k v : Int32} (hp : zPs h m F cs pos op qs) (hl : qs.length < 700) (hk : ynr k = k) : ∃ h', zcall zP sv (d + 1) 216 [.ref m, .int k, .int v] h = some (.inl none, h') ∧ zPs h' m F cs pos op (qs ++ [(k, v)]) ∧ zfm m h h' := by
  obtain ⟨⟨G, g, g1, g2, g3, g4, g5⟩, a, b, c⟩ := hp
  have hmd : zMd h m G qs := ⟨by unfold zMo; rw [yup_self g3]; exact g, a⟩
  obtain ⟨h', e, w1, w2⟩ := e_216 (sv := sv) (d := d) (k := k) (v := v) hmd hl hk
  exact ⟨h', e, ⟨⟨_, w1.1, (yup_ne (by omega)).trans g1, (yup_ne (by omega)).trans g2, yup_eq, (yup_ne (by omega)).trans g4, fun k k1 k2 k3 => (yup_ne k3).trans (g5 k k1 k2 k3)⟩, w1.2, zTx_cg b (w2.1 _ (by omega) (by omega) (by omega)), c⟩, w2⟩
theorem ypr_ywr : ∀ (n : Nat) (t : yT), ypr (ywr n t) = List.replicate n (nI 110, (0 : Int32)) ++ ypr t
  | 0, t => rfl
  | n + 1, t => by
    show ypr (ywr n (ymk (nI 110) 0 t .leaf)) = _
    rw [ypr_ywr n, ypr_mk, List.replicate_succ', List.append_assoc]
    show _ ++ (nI 110, yva (nI 110) 0) :: (ypr t ++ []) = _
    rw [List.append_nil]
    rfl
theorem ynk_rep {n : Nat} : ynk (List.replicate n (nI 110, (0 : Int32))) := fun q hq => by
  rw [List.eq_of_mem_replicate hq]
  exact ynr_110
theorem n4532 : nI 45 ≠ nI 32 := by decide +kernel
/-- the negations -/
theorem e_230n : ∀ (k n : Nat) (h : zH) (pos : Nat) (qs : yP), n + k = 6 → zPs h m F cs pos op qs → qs.length ≤ pos → ∃ (h' : zH) (n' : Nat), zrun zP sv (zcall zP sv (d + 2)) 230 2 [.val (.ref m), .val (.int (nI n))] [] h = zrun zP sv (zcall zP sv (d + 2)) 230 30 [.val (.ref m), .val (.int (nI n'))] [] h' ∧ zPs h' m F cs (pos + yng cs pos k) op (qs ++ List.replicate (yng cs pos k) (nI 110, (0 : Int32))) ∧ zfm m h h' := by
  intro k
  induction k with
  | zero =>
    intro n h pos qs hn hp hq
    obtain rfl : n = 6 := by omega
    refine ⟨h, 6, ?_, ?_, zfm_rfl⟩
    · simp only [zs_230_0, zs_230_1, zs_230_2, zs_230_3, zs_230_5, zs_230_8, zs_230_9, zs_230_11, zs_230_14, zs_230_17, zs_230_18, zs_230_20, zs_230_21, zs_230_24, zs_230_27, zs_230_31, zs_230_33, zs_230_35, zs_230_38, zs_230_41, zs_230_42, zs_230_45, zs_230_46, zs_230_47, zs_230_50, zs_230_51, zs_230_52, zs_230_53, zs_230_56, zs_230_57, zs_230_59, zs_230_60, zs_230_61, zs_230_62, zs_230_64, zs_230_66, zs_230_69, zs_230_72, zs_230_74, zs_230_75, zs_230_76, zs_230_77, zs_230_80, zs_230_81, zs_230_82, zs_230_85, zs_230_86, zs_230_87, zs_230_88, zs_230_91, zs_230_92, zs_230_93, zs_230_95, zs_230_96, zs_230_97, zs_230_98, zs_230_100, zs_230_101, zs_230_104, zs_230_105, zs_230_106, zs_230_107, zs_230_109, zs_230_111, zs_230_114, zs_230_117, zs_230_118, zs_230_120, zs_230_121, zs_230_124, zs_230_125, zs_230_126, zs_230_129, zs_230_130, zs_230_131, zs_230_132, zs_230_135, zs_230_136, zs_230_138, zs_230_139, zs_230_142, zs_230_143, zs_230_144, zs_230_145, zs_230_148, zs_230_150, zs_230_153, zs_230_154, zs_230_156, zs_230_159, zs_230_162, zs_230_163, zs_230_164, zs_230_165, zs_230_166, zs_230_169, zs_230_170, zs_230_171, zs_230_174, zs_230_175, zs_230_178, zs_230_181, zs_230_182, zs_230_184, zs_230_187, zs_230_190, zs_230_191, zs_230_194, zs_230_195, zs_230_196, zs_230_197, zs_230_198, zs_230_201, zs_230_202, zs_230_203, zs_230_206, zs_230_207, Int32.lt_irrefl, ↓reduceIte]
    · have z : yng cs pos 0 = 0 := by unfold yng; rfl
      rw [z, Nat.add_zero]
      show zPs h m F cs pos op (qs ++ [])
      rw [List.append_nil]
      exact hp
  | succ k ih =>
    intro n h pos qs hn hp hq
    have hln := zPs_ln hp
    have g1 : nI n < nI 6 := nI_lt (by omega) (by omega)
    have hr : ∀ X : zR, zrc (h.1 m) 13 X = X := fun X => zPs_rc hp
    obtain ⟨h1, e1, p1, f1⟩ := e_225 (sv := sv) (d := d + 1) hp n4532
    have E1 : zcall zP sv (d + 2) 225 [.ref m, .int (nI 45)] h = _ := e1
    have z : yng cs pos (k + 1) = if ycat cs pos = nI 45 then yng cs (pos + 1) k + 1 else 0 := by
      conv => lhs; unfold yng
    rw [z]
    by_cases hc : ycat cs pos = nI 45
    · rw [if_pos hc]
      rw [if_pos hc] at p1
      rw [decide_eq_true hc, yb_t] at E1
      obtain ⟨h2, e2, p2, f2⟩ := zPs_make (sv := sv) (d := d + 1) (k := nI 110) (v := 0) p1 (by omega) ynr_110
      have E2 : zcall zP sv (d + 2) 216 [.ref m, .int (nI 110), .int 0] h1 = _ := e2
      obtain ⟨h', n', e, q1, q2⟩ := ih (n + 1) h2 (pos + 1) _ (by omega) p2 (by rw [List.length_append, List.length_singleton]; omega)
      refine ⟨h', n', ?_, ?_, zfm_tr f1 (zfm_tr f2 q2)⟩
      · have hr1 : ∀ X : zR, zrc (h1.1 m) 13 X = X := fun X => zPs_rc p1
        have eb : ∀ g : zH, zrun zP sv (zcall zP sv (d + 2)) 230 24 [.val (.ref m), .val (.int (nI n))] [] g = zrun zP sv (zcall zP sv (d + 2)) 230 2 [.val (.ref m), .val (.int (nI (n + 1)))] [] g := fun g => by rw [zs_230_24, zs_230_27, nI_1']
        rw [← e, ← eb]
        simp only [zs_230_0, zs_230_1, zs_230_2, zs_230_3, zs_230_5, zs_230_8, zs_230_9, zs_230_11, zs_230_14, zs_230_17, zs_230_18, zs_230_20, zs_230_21, zs_230_27, zs_230_31, zs_230_33, zs_230_35, zs_230_38, zs_230_41, zs_230_42, zs_230_45, zs_230_46, zs_230_47, zs_230_50, zs_230_51, zs_230_52, zs_230_53, zs_230_56, zs_230_57, zs_230_59, zs_230_60, zs_230_61, zs_230_62, zs_230_64, zs_230_66, zs_230_69, zs_230_72, zs_230_74, zs_230_75, zs_230_76, zs_230_77, zs_230_80, zs_230_81, zs_230_82, zs_230_85, zs_230_86, zs_230_87, zs_230_88, zs_230_91, zs_230_92, zs_230_93, zs_230_95, zs_230_96, zs_230_97, zs_230_98, zs_230_100, zs_230_101, zs_230_104, zs_230_105, zs_230_106, zs_230_107, zs_230_109, zs_230_111, zs_230_114, zs_230_117, zs_230_118, zs_230_120, zs_230_121, zs_230_124, zs_230_125, zs_230_126, zs_230_129, zs_230_130, zs_230_131, zs_230_132, zs_230_135, zs_230_136, zs_230_138, zs_230_139, zs_230_142, zs_230_143, zs_230_144, zs_230_145, zs_230_148, zs_230_150, zs_230_153, zs_230_154, zs_230_156, zs_230_159, zs_230_162, zs_230_163, zs_230_164, zs_230_165, zs_230_166, zs_230_169, zs_230_170, zs_230_171, zs_230_174, zs_230_175, zs_230_178, zs_230_181, zs_230_182, zs_230_184, zs_230_187, zs_230_190, zs_230_191, zs_230_194, zs_230_195, zs_230_196, zs_230_197, zs_230_198, zs_230_201, zs_230_202, zs_230_203, zs_230_206, zs_230_207, if_pos g1, hr, E1, hr1, E2, zbk_v, zts_s, zts_n, nI_1e0, ↓reduceIte]
      · rw [show pos + (yng cs (pos + 1) k + 1) = pos + 1 + yng cs (pos + 1) k by omega, List.replicate_succ, ← List.singleton_append, ← List.append_assoc]
        exact q1
    · rw [if_neg hc]
      rw [if_neg hc] at p1
      rw [decide_eq_false hc, yb_f] at E1
      refine ⟨h1, n, ?_, ?_, f1⟩
      · simp only [zs_230_0, zs_230_1, zs_230_2, zs_230_3, zs_230_5, zs_230_8, zs_230_9, zs_230_11, zs_230_14, zs_230_17, zs_230_18, zs_230_20, zs_230_21, zs_230_24, zs_230_27, zs_230_31, zs_230_33, zs_230_35, zs_230_38, zs_230_41, zs_230_42, zs_230_45, zs_230_46, zs_230_47, zs_230_50, zs_230_51, zs_230_52, zs_230_53, zs_230_56, zs_230_57, zs_230_59, zs_230_60, zs_230_61, zs_230_62, zs_230_64, zs_230_66, zs_230_69, zs_230_72, zs_230_74, zs_230_75, zs_230_76, zs_230_77, zs_230_80, zs_230_81, zs_230_82, zs_230_85, zs_230_86, zs_230_87, zs_230_88, zs_230_91, zs_230_92, zs_230_93, zs_230_95, zs_230_96, zs_230_97, zs_230_98, zs_230_100, zs_230_101, zs_230_104, zs_230_105, zs_230_106, zs_230_107, zs_230_109, zs_230_111, zs_230_114, zs_230_117, zs_230_118, zs_230_120, zs_230_121, zs_230_124, zs_230_125, zs_230_126, zs_230_129, zs_230_130, zs_230_131, zs_230_132, zs_230_135, zs_230_136, zs_230_138, zs_230_139, zs_230_142, zs_230_143, zs_230_144, zs_230_145, zs_230_148, zs_230_150, zs_230_153, zs_230_154, zs_230_156, zs_230_159, zs_230_162, zs_230_163, zs_230_164, zs_230_165, zs_230_166, zs_230_169, zs_230_170, zs_230_171, zs_230_174, zs_230_175, zs_230_178, zs_230_181, zs_230_182, zs_230_184, zs_230_187, zs_230_190, zs_230_191, zs_230_194, zs_230_195, zs_230_196, zs_230_197, zs_230_198, zs_230_201, zs_230_202, zs_230_203, zs_230_206, zs_230_207, if_pos g1, hr, E1, zbk_v, zts_s, ↓reduceIte]
      · show zPs h1 m F cs pos op (qs ++ [])
        rw [List.append_nil]
        exact p1
end ZPC

theorem yisd_of {c : Int32} (h : yisd c = true) : ∃ v, v < 10 ∧ c = nI (48 + v) := by
  unfold yisd at h
  rw [Bool.and_eq_true] at h
  have h1 := of_decide_eq_true h.1
  have h2 := of_decide_eq_true h.2
  have h0 : ¬ c < 0 := fun q => h1 (Int32.lt_trans q (by decide +kernel))
  obtain ⟨k, hk, rfl⟩ := nI_of h0
  have h3 : ¬ k < 48 := fun q => h1 (nI_lt q (by decide))
  have h4 : ¬ 57 < k := fun q => h2 (nI_lt q hk)
  exact ⟨k - 48, by omega, by rw [show 48 + (k - 48) = k by omega]⟩
theorem yisd_x {c : Int32} (h : yisd c = true) : ¬ c = nI 40 ∧ ylet c = false := by
  obtain ⟨v, hv, rfl⟩ := yisd_of h
  refine ⟨fun q => absurd ((nI_eq (by omega) (by omega)).mp q) (by omega), ?_⟩
  unfold ylet
  rw [decide_eq_false (fun q => q (nI_lt (by omega) (by omega))), Bool.false_and]
theorem ylet_x {c : Int32} (h : ylet c = true) : ¬ c = nI 40 ∧ yisd c = false := by
  obtain ⟨v, hv, rfl⟩ := ylet_of h
  refine ⟨fun q => absurd ((nI_eq (by omega) (by omega)).mp q) (by omega), ?_⟩
  have z : nI 57 < nI (97 + v) := nI_lt (by omega) (by omega)
  have z2 : decide (¬ nI 57 < nI (97 + v)) = false := decide_eq_false (fun q => q z)
  unfold yisd
  rw [z2, Bool.and_false]
theorem n3248 : nI 32 < nI 48 := by decide +kernel
theorem n3297 : nI 32 < nI 97 := by decide +kernel
theorem n4032 : nI 40 ≠ nI 32 := by decide +kernel
theorem n4132 : nI 41 ≠ nI 32 := by decide +kernel
theorem ynk_one {k v : Int32} (h : ynr k = k) : ynk [(k, v)] := ynk_cons h ynk_nil
theorem i32_as {a b c : Int32} : a + b - c = a + (b - c) := by rw [Int32.sub_eq_add_neg, Int32.sub_eq_add_neg, Int32.add_assoc]
theorem i32_pm {a : Int32} : a + nI 1 - nI 1 = a := Int32.add_sub_cancel ..
section ZPD
variable {sv : Nat → Value} {d : Nat} {m : Nat} {F : Nat → Int32} {h : zH} {cs : List Int32} {pos op : Nat} {qs : yP}
/-- a number -/
theorem e_230d {x : Int32} (hp : zPs h m F cs pos op qs) (hq : qs.length ≤ pos) (hk : ynk qs) (hd : yisd (ycat cs pos) = true) : zMR m F cs op qs h (zrun zP sv (zcall zP sv (d + 2)) 230 30 [.val (.ref m), .val (.int x)] [] h) (ynum2 cs pos) := by
  have hln := zPs_ln hp
  have E1 := e_226 (sv := sv) (d := d) (lo := nI 48) (hi := nI 57) hp n3248
  have hd0 := hd
  unfold yisd at hd
  rw [hd, yb_t] at E1
  have hl : pos < cs.length := by
    by_cases hl : pos < cs.length
    · exact hl
    · exfalso
      rw [ycat_end (by omega)] at hd0
      exact absurd hd0 (by decide +kernel)
  have hr : ∀ X : zR, zrc (h.1 m) 13 X = X := fun X => zPs_rc hp
  obtain ⟨B, b1, b2⟩ := zPs_txt hp hl
  obtain ⟨G, g, g1, g2, g3, g4, hp1⟩ := zPs_at (pos' := pos + 1) hp (by omega)
  obtain ⟨h1, hh1⟩ : ∃ h1, h1 = zup h m (13, zMF m (yup G 27 (nI (pos + 1)))) := ⟨_, rfl⟩
  rw [← hh1] at hp1
  have f1 : zfm m h h1 := by
    rw [hh1]
    exact ⟨fun q q1 q2 q3 => zup_ne q1, rfl⟩
  have S1 : zrun zP sv (zcall zP sv (d + 2)) 230 30 [.val (.ref m), .val (.int x)] [] h = zrun zP sv (zcall zP sv (d + 2)) 230 61 [.val (.ref m), .val (.int (ycat cs pos - nI 48))] [] h1 := by
    rw [hh1]
    simp (disch := first | exact znw_i | omega) only [zs_230_0, zs_230_1, zs_230_3, zs_230_5, zs_230_8, zs_230_9, zs_230_11, zs_230_14, zs_230_17, zs_230_18, zs_230_20, zs_230_21, zs_230_24, zs_230_27, zs_230_30, zs_230_31, zs_230_33, zs_230_35, zs_230_38, zs_230_41, zs_230_42, zs_230_45, zs_230_46, zs_230_47, zs_230_50, zs_230_51, zs_230_52, zs_230_53, zs_230_56, zs_230_57, zs_230_59, zs_230_60, zs_230_62, zs_230_64, zs_230_66, zs_230_69, zs_230_72, zs_230_74, zs_230_75, zs_230_76, zs_230_77, zs_230_80, zs_230_81, zs_230_82, zs_230_85, zs_230_86, zs_230_87, zs_230_88, zs_230_91, zs_230_92, zs_230_93, zs_230_95, zs_230_96, zs_230_97, zs_230_98, zs_230_100, zs_230_101, zs_230_104, zs_230_105, zs_230_106, zs_230_107, zs_230_109, zs_230_111, zs_230_114, zs_230_117, zs_230_118, zs_230_120, zs_230_121, zs_230_124, zs_230_125, zs_230_126, zs_230_129, zs_230_130, zs_230_131, zs_230_132, zs_230_135, zs_230_136, zs_230_138, zs_230_139, zs_230_142, zs_230_143, zs_230_144, zs_230_145, zs_230_148, zs_230_150, zs_230_153, zs_230_154, zs_230_156, zs_230_159, zs_230_162, zs_230_163, zs_230_164, zs_230_165, zs_230_166, zs_230_169, zs_230_170, zs_230_171, zs_230_174, zs_230_175, zs_230_178, zs_230_181, zs_230_182, zs_230_184, zs_230_187, zs_230_190, zs_230_191, zs_230_194, zs_230_195, zs_230_196, zs_230_197, zs_230_198, zs_230_201, zs_230_202, zs_230_203, zs_230_206, zs_230_207, hr, zrc_13v, E1, zbk_v, zts_s, nI_1e0, ↓reduceIte, g, zmf_25, zmf_27, g1, nI_1', zmp_27, zup_ne, b1, b2]
  rw [S1]
  refine zMR_tr (h1 := h1) (qs1 := qs) ?_ f1
  have hr1 : ∀ X : zR, zrc (h1.1 m) 13 X = X := fun X => zPs_rc hp1
  have E2 := e_226 (sv := sv) (d := d) (lo := nI 48) (hi := nI 57) hp1 n3248
  have hfold : (decide (¬ ycat cs (pos + 1) < nI 48) && decide (¬ nI 57 < ycat cs (pos + 1))) = yisd (ycat cs (pos + 1)) := rfl
  rw [hfold] at E2
  unfold ynum2
  by_cases hd2 : yisd (ycat cs (pos + 1)) = true
  · rw [if_pos hd2]
    rw [hd2, yb_t] at E2
    have hl2 : pos + 1 < cs.length := by
      by_cases hl2 : pos + 1 < cs.length
      · exact hl2
      · exfalso
        rw [ycat_end (by omega)] at hd2
        exact absurd hd2 (by decide +kernel)
    obtain ⟨B', b3, b4⟩ := zPs_txt hp1 hl2
    obtain ⟨G', k0, k1, k2, k3, k4, hp2⟩ := zPs_at (pos' := pos + 2) hp1 (by omega)
    obtain ⟨h2, hh2⟩ : ∃ h2, h2 = zup h1 m (13, zMF m (yup G' 27 (nI (pos + 2)))) := ⟨_, rfl⟩
    rw [← hh2] at hp2
    have f2 : zfm m h1 h2 := by
      rw [hh2]
      exact ⟨fun q q1 q2 q3 => zup_ne q1, rfl⟩
    have S2 : zrun zP sv (zcall zP sv (d + 2)) 230 61 [.val (.ref m), .val (.int (ycat cs pos - nI 48))] [] h1 = zrun zP sv (zcall zP sv (d + 2)) 230 97 [.val (.ref m), .val (.int (nI 10 * (ycat cs pos - nI 48) + (ycat cs (pos + 1) - nI 48)))] [] h2 := by
      rw [hh2]
      have e12 : nI (pos + 1 + 1) = nI (pos + 2) := rfl
      simp (disch := first | exact znw_i | omega) only [zs_230_0, zs_230_1, zs_230_3, zs_230_5, zs_230_8, zs_230_9, zs_230_11, zs_230_14, zs_230_17, zs_230_18, zs_230_20, zs_230_21, zs_230_24, zs_230_27, zs_230_30, zs_230_31, zs_230_33, zs_230_35, zs_230_38, zs_230_41, zs_230_42, zs_230_45, zs_230_46, zs_230_47, zs_230_50, zs_230_51, zs_230_52, zs_230_53, zs_230_56, zs_230_57, zs_230_59, zs_230_60, zs_230_61, zs_230_62, zs_230_64, zs_230_66, zs_230_69, zs_230_72, zs_230_74, zs_230_75, zs_230_76, zs_230_77, zs_230_80, zs_230_81, zs_230_82, zs_230_85, zs_230_86, zs_230_87, zs_230_88, zs_230_91, zs_230_92, zs_230_93, zs_230_95, zs_230_96, zs_230_98, zs_230_100, zs_230_101, zs_230_104, zs_230_105, zs_230_106, zs_230_107, zs_230_109, zs_230_111, zs_230_114, zs_230_117, zs_230_118, zs_230_120, zs_230_121, zs_230_124, zs_230_125, zs_230_126, zs_230_129, zs_230_130, zs_230_131, zs_230_132, zs_230_135, zs_230_136, zs_230_138, zs_230_139, zs_230_142, zs_230_143, zs_230_144, zs_230_145, zs_230_148, zs_230_150, zs_230_153, zs_230_154, zs_230_156, zs_230_159, zs_230_162, zs_230_163, zs_230_164, zs_230_165, zs_230_166, zs_230_169, zs_230_170, zs_230_171, zs_230_174, zs_230_175, zs_230_178, zs_230_181, zs_230_182, zs_230_184, zs_230_187, zs_230_190, zs_230_191, zs_230_194, zs_230_195, zs_230_196, zs_230_197, zs_230_198, zs_230_201, zs_230_202, zs_230_203, zs_230_206, zs_230_207, hr1, zrc_13v, E2, zbk_v, zts_s, nI_1e0, ↓reduceIte, k0, zmf_25, zmf_27, k1, nI_1', e12, zmp_27, zup_ne, b3, b4, i32_as]
    rw [S2]
    have hr2 : ∀ X : zR, zrc (h2.1 m) 13 X = X := fun X => zPs_rc hp2
    obtain ⟨h3, e3, p3, f3⟩ := zPs_make (sv := sv) (d := d + 1) (k := nI 99) (v := nI 10 * (ycat cs pos - nI 48) + (ycat cs (pos + 1) - nI 48)) hp2 (by omega) ynr_99
    have E3 : zcall zP sv (d + 2) 216 [.ref m, .int (nI 99), .int (nI 10 * (ycat cs pos - nI 48) + (ycat cs (pos + 1) - nI 48))] h2 = _ := e3
    refine ⟨h3, _, ?_, p3, zfm_tr f2 f3, by rw [List.length_append, List.length_singleton]; omega, ynk_app hk (ynk_one ynr_99), fun t ht => ?_⟩
    · simp only [zs_230_0, zs_230_1, zs_230_3, zs_230_5, zs_230_8, zs_230_9, zs_230_11, zs_230_14, zs_230_17, zs_230_18, zs_230_20, zs_230_21, zs_230_24, zs_230_27, zs_230_30, zs_230_31, zs_230_33, zs_230_35, zs_230_38, zs_230_41, zs_230_42, zs_230_45, zs_230_46, zs_230_47, zs_230_50, zs_230_51, zs_230_52, zs_230_53, zs_230_56, zs_230_57, zs_230_59, zs_230_60, zs_230_61, zs_230_62, zs_230_64, zs_230_66, zs_230_69, zs_230_72, zs_230_74, zs_230_75, zs_230_76, zs_230_77, zs_230_80, zs_230_81, zs_230_82, zs_230_85, zs_230_86, zs_230_87, zs_230_88, zs_230_91, zs_230_92, zs_230_93, zs_230_95, zs_230_96, zs_230_97, zs_230_98, zs_230_100, zs_230_101, zs_230_104, zs_230_105, zs_230_106, zs_230_107, zs_230_109, zs_230_111, zs_230_114, zs_230_117, zs_230_118, zs_230_120, zs_230_121, zs_230_124, zs_230_125, zs_230_126, zs_230_129, zs_230_130, zs_230_131, zs_230_132, zs_230_135, zs_230_136, zs_230_138, zs_230_139, zs_230_142, zs_230_143, zs_230_144, zs_230_145, zs_230_148, zs_230_150, zs_230_153, zs_230_154, zs_230_156, zs_230_159, zs_230_162, zs_230_163, zs_230_164, zs_230_165, zs_230_166, zs_230_169, zs_230_170, zs_230_171, zs_230_174, zs_230_175, zs_230_178, zs_230_181, zs_230_182, zs_230_184, zs_230_187, zs_230_190, zs_230_191, zs_230_194, zs_230_195, zs_230_196, zs_230_197, zs_230_198, zs_230_201, zs_230_202, zs_230_203, zs_230_206, zs_230_207, hr2, E3, zbk_v, zts_n, zgd_t, zty_51, Option.isSome_some, yb_t]
    · obtain rfl := Option.some.inj ht
      rw [ypr_cn]
  · rw [if_neg hd2]
    rw [Bool.eq_false_iff.mpr hd2, yb_f] at E2
    obtain ⟨h3, e3, p3, f3⟩ := zPs_make (sv := sv) (d := d + 1) (k := nI 99) (v := ycat cs pos - nI 48) hp1 (by omega) ynr_99
    have E3 : zcall zP sv (d + 2) 216 [.ref m, .int (nI 99), .int (ycat cs pos - nI 48)] h1 = _ := e3
    refine ⟨h3, _, ?_, p3, f3, by rw [List.length_append, List.length_singleton]; omega, ynk_app hk (ynk_one ynr_99), fun t ht => ?_⟩
    · simp only [zs_230_0, zs_230_1, zs_230_3, zs_230_5, zs_230_8, zs_230_9, zs_230_11, zs_230_14, zs_230_17, zs_230_18, zs_230_20, zs_230_21, zs_230_24, zs_230_27, zs_230_30, zs_230_31, zs_230_33, zs_230_35, zs_230_38, zs_230_41, zs_230_42, zs_230_45, zs_230_46, zs_230_47, zs_230_50, zs_230_51, zs_230_52, zs_230_53, zs_230_56, zs_230_57, zs_230_59, zs_230_60, zs_230_61, zs_230_62, zs_230_64, zs_230_66, zs_230_69, zs_230_72, zs_230_74, zs_230_75, zs_230_76, zs_230_77, zs_230_80, zs_230_81, zs_230_82, zs_230_85, zs_230_86, zs_230_87, zs_230_88, zs_230_91, zs_230_92, zs_230_93, zs_230_95, zs_230_96, zs_230_97, zs_230_98, zs_230_100, zs_230_101, zs_230_104, zs_230_105, zs_230_106, zs_230_107, zs_230_109, zs_230_111, zs_230_114, zs_230_117, zs_230_118, zs_230_120, zs_230_121, zs_230_124, zs_230_125, zs_230_126, zs_230_129, zs_230_130, zs_230_131, zs_230_132, zs_230_135, zs_230_136, zs_230_138, zs_230_139, zs_230_142, zs_230_143, zs_230_144, zs_230_145, zs_230_148, zs_230_150, zs_230_153, zs_230_154, zs_230_156, zs_230_159, zs_230_162, zs_230_163, zs_230_164, zs_230_165, zs_230_166, zs_230_169, zs_230_170, zs_230_171, zs_230_174, zs_230_175, zs_230_178, zs_230_181, zs_230_182, zs_230_184, zs_230_187, zs_230_190, zs_230_191, zs_230_194, zs_230_195, zs_230_196, zs_230_197, zs_230_198, zs_230_201, zs_230_202, zs_230_203, zs_230_206, zs_230_207, hr1, E2, E3, zbk_v, zts_s, zts_n, zgd_t, zty_51, Option.isSome_some, yb_t, ↓reduceIte]
    · obtain rfl := Option.some.inj ht
      rw [ypr_cn]
end ZPD

section ZPE
variable {sv : Nat → Value} {d : Nat} {m : Nat} {F : Nat → Int32} {h : zH} {cs : List Int32} {pos op : Nat} {qs : yP}
/-- a letter -/
theorem e_230v {x : Int32} (hp : zPs h m F cs pos op qs) (hq : qs.length ≤ pos) (hk : ynk qs) (hd : ylet (ycat cs pos) = true) : zMR m F cs op qs h (zrun zP sv (zcall zP sv (d + 2)) 230 30 [.val (.ref m), .val (.int x)] [] h) (some (ymk (nI 118) (ycat cs pos) .leaf .leaf), pos + 1) := by
  have hln := zPs_ln hp
  have E1 := e_226 (sv := sv) (d := d) (lo := nI 48) (hi := nI 57) hp n3248
  have hy : (decide (¬ ycat cs pos < nI 48) && decide (¬ nI 57 < ycat cs pos)) = false := (ylet_x hd).2
  rw [hy, yb_f] at E1
  have E2 := e_226 (sv := sv) (d := d) (lo := nI 97) (hi := nI 102) hp n3297
  have hy2 : (decide (¬ ycat cs pos < nI 97) && decide (¬ nI 102 < ycat cs pos)) = true := hd
  rw [hy2, yb_t] at E2
  have hl : pos < cs.length := by
    by_cases hl : pos < cs.length
    · exact hl
    · exfalso
      rw [ycat_end (by omega)] at hd
      exact absurd hd (by decide +kernel)
  have hr : ∀ X : zR, zrc (h.1 m) 13 X = X := fun X => zPs_rc hp
  obtain ⟨B, b1, b2⟩ := zPs_txt hp hl
  obtain ⟨G, g, g1, g2, g3, g4, hp1⟩ := zPs_at (pos' := pos + 1) hp (by omega)
  obtain ⟨h1, hh1⟩ : ∃ h1, h1 = zup h m (13, zMF m (yup G 27 (nI (pos + 1)))) := ⟨_, rfl⟩
  rw [← hh1] at hp1
  have f1 : zfm m h h1 := by
    rw [hh1]
    exact ⟨fun q q1 q2 q3 => zup_ne q1, rfl⟩
  have hr1 : ∀ X : zR, zrc (h1.1 m) 13 X = X := fun X => zPs_rc hp1
  obtain ⟨h3, e3, p3, f3⟩ := zPs_make (sv := sv) (d := d + 1) (k := nI 118) (v := ycat cs pos - nI 97) hp1 (by omega) ynr_118
  have E3 : zcall zP sv (d + 2) 216 [.ref m, .int (nI 118), .int (ycat cs pos - nI 97)] h1 = _ := e3
  refine ⟨h3, _, ?_, p3, zfm_tr f1 f3, by rw [List.length_append, List.length_singleton]; show qs.length + 1 ≤ pos + 1; omega, ynk_app hk (ynk_one ynr_118), fun t ht => ?_⟩
  · rw [hh1] at E3 hr1
    simp (disch := first | exact znw_i | omega) only [zs_230_0, zs_230_1, zs_230_3, zs_230_5, zs_230_8, zs_230_9, zs_230_11, zs_230_14, zs_230_17, zs_230_18, zs_230_20, zs_230_21, zs_230_24, zs_230_27, zs_230_30, zs_230_31, zs_230_33, zs_230_35, zs_230_38, zs_230_41, zs_230_42, zs_230_45, zs_230_46, zs_230_47, zs_230_50, zs_230_51, zs_230_52, zs_230_53, zs_230_56, zs_230_57, zs_230_59, zs_230_60, zs_230_61, zs_230_62, zs_230_64, zs_230_66, zs_230_69, zs_230_72, zs_230_74, zs_230_75, zs_230_76, zs_230_77, zs_230_80, zs_230_81, zs_230_82, zs_230_85, zs_230_86, zs_230_87, zs_230_88, zs_230_91, zs_230_92, zs_230_93, zs_230_95, zs_230_96, zs_230_97, zs_230_98, zs_230_100, zs_230_101, zs_230_104, zs_230_105, zs_230_106, zs_230_107, zs_230_109, zs_230_111, zs_230_114, zs_230_117, zs_230_118, zs_230_120, zs_230_121, zs_230_124, zs_230_125, zs_230_126, zs_230_129, zs_230_130, zs_230_131, zs_230_132, zs_230_135, zs_230_136, zs_230_138, zs_230_139, zs_230_142, zs_230_143, zs_230_144, zs_230_145, zs_230_148, zs_230_150, zs_230_153, zs_230_154, zs_230_156, zs_230_159, zs_230_162, zs_230_163, zs_230_164, zs_230_165, zs_230_166, zs_230_169, zs_230_170, zs_230_171, zs_230_174, zs_230_175, zs_230_178, zs_230_181, zs_230_182, zs_230_184, zs_230_187, zs_230_190, zs_230_191, zs_230_194, zs_230_195, zs_230_196, zs_230_197, zs_230_198, zs_230_201, zs_230_202, zs_230_203, zs_230_206, zs_230_207, hr, hr1, E1, E2, E3, zbk_v, zts_s, zts_n, nI_1e0, ↓reduceIte, g, zmf_25, zmf_27, g1, nI_1', zmp_27, zup_ne, zrc_13v, b1, b2, zgd_t, zty_51, Option.isSome_some, yb_t]
  · obtain rfl := Option.some.inj ht
    rw [ypr_mk, yva_v]
    rfl
theorem ypu_v {f p : Nat} (hd : ylet (ycat cs p) = true) : ypu cs f op p = (some (ymk (nI 118) (ycat cs p) .leaf .leaf), p + 1) := by
  unfold ypu
  rw [if_neg (fun q => (ylet_x hd).1 q.1), if_pos hd]
theorem ypu_d {f p : Nat} (hd : yisd (ycat cs p) = true) : ypu cs f op p = ynum2 cs p := by
  unfold ypu
  rw [if_neg (fun q => (yisd_x hd).1 q.1), if_neg (by rw [(yisd_x hd).2]; decide), if_pos hd]
theorem ypu_n {f p : Nat} (h1 : ¬ (ycat cs p = nI 40 ∧ op < 6)) (h2 : ¬ ylet (ycat cs p) = true) (h3 : ¬ yisd (ycat cs p) = true) : ypu cs f op p = (none, p) := by
  unfold ypu
  rw [if_neg h1, if_neg h2, if_neg h3]
/-- what is in parentheses, or nothing -/
theorem e_230p {f : Nat} {x : Int32} (hI : yMP sv m F cs 228 6 f 0 4) (hop : op ≤ 6) (hmu : op < 6 → ymu 4 (op + 1) (pos + 1) < f) (hD : op < 6 → 5 * (7 - (op + 1)) + 6 ≤ d + 2) (hp : zPs h m F cs pos op qs) (hq : qs.length ≤ pos) (hk : ynk qs) (h2 : ¬ ylet (ycat cs pos) = true) (h3 : ¬ yisd (ycat cs pos) = true) : zMR m F cs op qs h (zrun zP sv (zcall zP sv (d + 2)) 230 30 [.val (.ref m), .val (.int x)] [] h) (ypu cs f op pos) := by
  have hln := zPs_ln hp
  have E1 := e_226 (sv := sv) (d := d) (lo := nI 48) (hi := nI 57) hp n3248
  have hy : (decide (¬ ycat cs pos < nI 48) && decide (¬ nI 57 < ycat cs pos)) = false := Bool.eq_false_iff.mpr h3
  rw [hy, yb_f] at E1
  have E2 := e_226 (sv := sv) (d := d) (lo := nI 97) (hi := nI 102) hp n3297
  have hy2 : (decide (¬ ycat cs pos < nI 97) && decide (¬ nI 102 < ycat cs pos)) = false := Bool.eq_false_iff.mpr h2
  rw [hy2, yb_f] at E2
  have hr : ∀ X : zR, zrc (h.1 m) 13 X = X := fun X => zPs_rc hp
  obtain ⟨G, g, g1, g2, g3, g4, _⟩ := zPs_op (op' := op + 1) hp
  have z28 : ∀ (G : Nat → Int32) (Kv : Value → zR), zfld (13, zMF m G) 13 28 Kv = Kv (.int (G 28)) := fun G Kv => zf_13_28
  by_cases ho : op < 6
  · have n6 : ¬ nI op = nI 6 := fun q => absurd ((nI_eq (by omega) (by omega)).mp q) (by omega)
    obtain ⟨h1, e1, p1, f1⟩ := e_225 (sv := sv) (d := d + 1) hp n4032
    have E3 : zcall zP sv (d + 2) 225 [.ref m, .int (nI 40)] h = _ := e1
    by_cases hc : ycat cs pos = nI 40
    · rw [if_pos hc] at p1
      rw [decide_eq_true hc, yb_t] at E3
      have hr1 : ∀ X : zR, zrc (h1.1 m) 13 X = X := fun X => zPs_rc p1
      obtain ⟨G1, k, k1, k2, k3, k4, hp2⟩ := zPs_op (op' := op + 1) p1
      obtain ⟨h2', hh2⟩ : ∃ h2', h2' = zup h1 m (13, zMF m (yup G1 28 (nI (op + 1)))) := ⟨_, rfl⟩
      rw [← hh2] at hp2
      have f2 : zfm m h1 h2' := by
        rw [hh2]
        exact ⟨fun q q1 q2 q3 => zup_ne q1, rfl⟩
      have hr2 : ∀ X : zR, zrc (h2'.1 m) 13 X = X := fun X => zPs_rc hp2
      obtain ⟨h3', qs3, e3, p3, f3, l3, n3, r3⟩ := hI (op + 1) (pos + 1) h2' qs (d + 2) (hmu ho) (hD ho) (by omega) hp2 (by omega) hk
      have S1 : zrun zP sv (zcall zP sv (d + 2)) 230 30 [.val (.ref m), .val (.int x)] [] h = zrun zP sv (zcall zP sv (d + 2)) 230 178 [.val (.ref m), .val (.int x)] [.int (yb (ypa cs f 0 none (op + 1) (pos + 1)).1.isSome)] h3' := by
        rw [hh2] at e3 hr2
        simp (disch := first | exact znw_i | omega) only [zs_230_0, zs_230_1, zs_230_3, zs_230_5, zs_230_8, zs_230_9, zs_230_11, zs_230_14, zs_230_17, zs_230_18, zs_230_20, zs_230_21, zs_230_24, zs_230_27, zs_230_30, zs_230_31, zs_230_33, zs_230_35, zs_230_38, zs_230_41, zs_230_42, zs_230_45, zs_230_46, zs_230_47, zs_230_50, zs_230_51, zs_230_52, zs_230_53, zs_230_56, zs_230_57, zs_230_59, zs_230_60, zs_230_61, zs_230_62, zs_230_64, zs_230_66, zs_230_69, zs_230_72, zs_230_74, zs_230_75, zs_230_76, zs_230_77, zs_230_80, zs_230_81, zs_230_82, zs_230_85, zs_230_86, zs_230_87, zs_230_88, zs_230_91, zs_230_92, zs_230_93, zs_230_95, zs_230_96, zs_230_97, zs_230_98, zs_230_100, zs_230_101, zs_230_104, zs_230_105, zs_230_106, zs_230_107, zs_230_109, zs_230_111, zs_230_114, zs_230_117, zs_230_118, zs_230_120, zs_230_121, zs_230_124, zs_230_125, zs_230_126, zs_230_129, zs_230_130, zs_230_131, zs_230_132, zs_230_135, zs_230_136, zs_230_138, zs_230_139, zs_230_142, zs_230_143, zs_230_144, zs_230_145, zs_230_148, zs_230_150, zs_230_153, zs_230_154, zs_230_156, zs_230_159, zs_230_162, zs_230_163, zs_230_164, zs_230_165, zs_230_166, zs_230_169, zs_230_170, zs_230_171, zs_230_174, zs_230_175, zs_230_181, zs_230_182, zs_230_184, zs_230_187, zs_230_190, zs_230_191, zs_230_194, zs_230_195, zs_230_196, zs_230_197, zs_230_198, zs_230_201, zs_230_202, zs_230_203, zs_230_206, zs_230_207, hr, hr1, hr2, E1, E2, E3, e3, zbk_v, zts_s, nI_1e0, ↓reduceIte, g, g2, z28, if_neg n6, k, k2, nI_1', zmp_28, zrc_13v]
      rw [S1]
      have hr3 : ∀ X : zR, zrc (h3'.1 m) 13 X = X := fun X => zPs_rc p3
      have tail : ∀ (b : Bool) (h4 : zH) (p' : Nat), zPs h4 m F cs p' (op + 1) qs3 → zfm m h3' h4 → ∃ h5, zrun zP sv (zcall zP sv (d + 2)) 230 195 [.val (.ref m), .val (.int x)] [.int (yb b)] h4 = some (.inl (some (.int (yb b))), h5) ∧ zPs h5 m F cs p' op qs3 ∧ zfm m h h5 := by
        intro b h4 p' hp4 hf4
        obtain ⟨G4, w, w1, w2, w3, w4, hp5⟩ := zPs_op (op' := op) hp4
        refine ⟨_, ?_, hp5, zfm_tr f1 (zfm_tr f2 (zfm_tr f3 (zfm_tr hf4 ⟨fun q q1 q2 q3 => zup_ne q1, rfl⟩)))⟩
        simp (disch := first | exact znw_i | omega) only [zs_230_0, zs_230_1, zs_230_3, zs_230_5, zs_230_8, zs_230_9, zs_230_11, zs_230_14, zs_230_17, zs_230_18, zs_230_20, zs_230_21, zs_230_24, zs_230_27, zs_230_30, zs_230_31, zs_230_33, zs_230_35, zs_230_38, zs_230_41, zs_230_42, zs_230_45, zs_230_46, zs_230_47, zs_230_50, zs_230_51, zs_230_52, zs_230_53, zs_230_56, zs_230_57, zs_230_59, zs_230_60, zs_230_61, zs_230_62, zs_230_64, zs_230_66, zs_230_69, zs_230_72, zs_230_74, zs_230_75, zs_230_76, zs_230_77, zs_230_80, zs_230_81, zs_230_82, zs_230_85, zs_230_86, zs_230_87, zs_230_88, zs_230_91, zs_230_92, zs_230_93, zs_230_95, zs_230_96, zs_230_97, zs_230_98, zs_230_100, zs_230_101, zs_230_104, zs_230_105, zs_230_106, zs_230_107, zs_230_109, zs_230_111, zs_230_114, zs_230_117, zs_230_118, zs_230_120, zs_230_121, zs_230_124, zs_230_125, zs_230_126, zs_230_129, zs_230_130, zs_230_131, zs_230_132, zs_230_135, zs_230_136, zs_230_138, zs_230_139, zs_230_142, zs_230_143, zs_230_144, zs_230_145, zs_230_148, zs_230_150, zs_230_153, zs_230_154, zs_230_156, zs_230_159, zs_230_162, zs_230_163, zs_230_164, zs_230_165, zs_230_166, zs_230_169, zs_230_170, zs_230_171, zs_230_174, zs_230_175, zs_230_178, zs_230_181, zs_230_182, zs_230_184, zs_230_187, zs_230_190, zs_230_191, zs_230_194, zs_230_195, zs_230_196, zs_230_197, zs_230_198, zs_230_201, zs_230_202, zs_230_203, zs_230_206, zs_230_207, w, z28, w2, nI_m, zmp_28, zgd_t, zty_yb]
      unfold ypu
      rw [if_pos ⟨hc, ho⟩]
      by_cases hs : (ypa cs f 0 none (op + 1) (pos + 1)).1.isSome = true
      · rw [hs, yb_t]
        obtain ⟨h4, e4, p4, f4⟩ := e_225 (sv := sv) (d := d + 1) p3 n4132
        have E4 : zcall zP sv (d + 2) 225 [.ref m, .int (nI 41)] h3' = _ := e4
        by_cases hc2 : ycat cs (ypa cs f 0 none (op + 1) (pos + 1)).2 = nI 41
        · rw [if_pos hc2] at p4
          rw [decide_eq_true hc2, yb_t] at E4
          obtain ⟨h5, e5, p5, f5⟩ := tail true h4 _ p4 f4
          rw [yb_t] at e5
          rw [if_pos ⟨rfl, hc2⟩]
          refine ⟨h5, qs3, ?_, p5, f5, by show qs3.length ≤ _ + 1; omega, n3, r3⟩
          simp only [zs_230_178, zs_230_181, zs_230_182, zs_230_184, zs_230_187, zs_230_190, zs_230_191, hr3, E4, zbk_v, zts_s, nI_1e0, ↓reduceIte]
          rw [e5, hs, yb_t]
        · rw [if_neg hc2] at p4
          rw [decide_eq_false hc2, yb_f] at E4
          obtain ⟨h5, e5, p5, f5⟩ := tail false h4 _ p4 f4
          rw [yb_f] at e5
          rw [if_neg (fun q => hc2 q.2)]
          refine ⟨h5, qs3, ?_, p5, f5, l3, n3, fun t ht => by cases ht⟩
          simp only [zs_230_178, zs_230_181, zs_230_182, zs_230_184, zs_230_187, zs_230_194, hr3, E4, zbk_v, zts_s, nI_1e0, ↓reduceIte]
          rw [e5]
          rfl
      · obtain ⟨h5, e5, p5, f5⟩ := tail false h3' _ p3 zfm_rfl
        rw [yb_f] at e5
        rw [if_neg (fun q => hs q.1), Bool.eq_false_iff.mpr hs, yb_f]
        refine ⟨h5, qs3, ?_, p5, f5, l3, n3, fun t ht => by cases ht⟩
        simp only [zs_230_178, zs_230_194, ↓reduceIte]
        rw [e5]
        rfl
    · rw [if_neg hc] at p1
      rw [decide_eq_false hc, yb_f] at E3
      rw [ypu_n (fun q => hc q.1) h2 h3]
      refine ⟨h1, qs, ?_, p1, f1, hq, hk, fun t ht => by cases ht⟩
      simp only [zs_230_0, zs_230_1, zs_230_3, zs_230_5, zs_230_8, zs_230_9, zs_230_11, zs_230_14, zs_230_17, zs_230_18, zs_230_20, zs_230_21, zs_230_24, zs_230_27, zs_230_30, zs_230_31, zs_230_33, zs_230_35, zs_230_38, zs_230_41, zs_230_42, zs_230_45, zs_230_46, zs_230_47, zs_230_50, zs_230_51, zs_230_52, zs_230_53, zs_230_56, zs_230_57, zs_230_59, zs_230_60, zs_230_61, zs_230_62, zs_230_64, zs_230_66, zs_230_69, zs_230_72, zs_230_74, zs_230_75, zs_230_76, zs_230_77, zs_230_80, zs_230_81, zs_230_82, zs_230_85, zs_230_86, zs_230_87, zs_230_88, zs_230_91, zs_230_92, zs_230_93, zs_230_95, zs_230_96, zs_230_97, zs_230_98, zs_230_100, zs_230_101, zs_230_104, zs_230_105, zs_230_106, zs_230_107, zs_230_109, zs_230_111, zs_230_114, zs_230_117, zs_230_118, zs_230_120, zs_230_121, zs_230_124, zs_230_125, zs_230_126, zs_230_129, zs_230_130, zs_230_131, zs_230_132, zs_230_135, zs_230_136, zs_230_138, zs_230_139, zs_230_142, zs_230_143, zs_230_144, zs_230_145, zs_230_148, zs_230_150, zs_230_153, zs_230_154, zs_230_156, zs_230_159, zs_230_162, zs_230_163, zs_230_164, zs_230_165, zs_230_166, zs_230_169, zs_230_170, zs_230_171, zs_230_174, zs_230_175, zs_230_178, zs_230_181, zs_230_182, zs_230_184, zs_230_187, zs_230_190, zs_230_191, zs_230_194, zs_230_195, zs_230_196, zs_230_197, zs_230_198, zs_230_201, zs_230_202, zs_230_203, zs_230_206, zs_230_207, hr, E1, E2, E3, zbk_v, zts_s, ↓reduceIte, g, g2, z28, if_neg n6, zgd_t, zty_50, zrc_13v, Option.isSome_none, yb_f]
  · obtain rfl : op = 6 := by omega
    rw [ypu_n (fun q => ho q.2) h2 h3]
    refine ⟨h, qs, ?_, hp, zfm_rfl, hq, hk, fun t ht => by cases ht⟩
    simp only [zs_230_0, zs_230_1, zs_230_3, zs_230_5, zs_230_8, zs_230_9, zs_230_11, zs_230_14, zs_230_17, zs_230_18, zs_230_20, zs_230_21, zs_230_24, zs_230_27, zs_230_30, zs_230_31, zs_230_33, zs_230_35, zs_230_38, zs_230_41, zs_230_42, zs_230_45, zs_230_46, zs_230_47, zs_230_50, zs_230_51, zs_230_52, zs_230_53, zs_230_56, zs_230_57, zs_230_59, zs_230_60, zs_230_61, zs_230_62, zs_230_64, zs_230_66, zs_230_69, zs_230_72, zs_230_74, zs_230_75, zs_230_76, zs_230_77, zs_230_80, zs_230_81, zs_230_82, zs_230_85, zs_230_86, zs_230_87, zs_230_88, zs_230_91, zs_230_92, zs_230_93, zs_230_95, zs_230_96, zs_230_97, zs_230_98, zs_230_100, zs_230_101, zs_230_104, zs_230_105, zs_230_106, zs_230_107, zs_230_109, zs_230_111, zs_230_114, zs_230_117, zs_230_118, zs_230_120, zs_230_121, zs_230_124, zs_230_125, zs_230_126, zs_230_129, zs_230_130, zs_230_131, zs_230_132, zs_230_135, zs_230_136, zs_230_138, zs_230_139, zs_230_142, zs_230_143, zs_230_144, zs_230_145, zs_230_148, zs_230_150, zs_230_153, zs_230_154, zs_230_156, zs_230_159, zs_230_162, zs_230_163, zs_230_164, zs_230_165, zs_230_166, zs_230_169, zs_230_170, zs_230_171, zs_230_174, zs_230_175, zs_230_178, zs_230_181, zs_230_182, zs_230_184, zs_230_187, zs_230_190, zs_230_191, zs_230_194, zs_230_195, zs_230_196, zs_230_197, zs_230_198, zs_230_201, zs_230_202, zs_230_203, zs_230_206, zs_230_207, hr, E1, E2, zbk_v, zts_s, ↓reduceIte, g, g2, z28, zgd_t, zty_50, zrc_13v, Option.isSome_none, yb_f]
end ZPE

def yML (sv : Nat → Value) (m : Nat) (F : Nat → Int32) (cs : List Int32) (K c f md o : Nat) : Prop := ∀ (op pos : Nat) (h : zH) (a : Option yT) (qs qs1 : yP) (D : Nat), ymu o op pos < f → 5 * (7 - op) + c ≤ D → op ≤ 6 → zPs h m F cs pos op qs1 → qs1.length ≤ pos → ynk qs1 → (∀ t, a = some t → qs1 = qs ++ ypr t) → zMR m F cs op qs h (zrun zP sv (zcall zP sv D) K 10 [.val (.ref m), .val (.int (nI qs.length)), .val (.int (yb a.isSome))] [] h) (ypa cs f md a op pos)
theorem y_btw {c k : Int32} : (decide (¬ c < k) && decide (¬ k < c)) = decide (c = k) := by
  by_cases h : c = k
  · subst h
    rw [decide_eq_true (p := ¬ c < c) Int32.lt_irrefl, decide_eq_true rfl]
    rfl
  · rw [decide_eq_false h]
    rcases Int32.lt_or_lt_of_ne h with q | q
    · rw [decide_eq_false (fun z => z q), Bool.false_and]
    · have z2 : decide (¬ k < c) = false := decide_eq_false (fun z => z q)
      rw [z2, Bool.and_false]
theorem ynr_42 : ynr (nI 42) = nI 42 := by decide +kernel
theorem ynr_43 : ynr (nI 43) = nI 43 := by decide +kernel
theorem ynr_45 : ynr (nI 45) = nI 45 := by decide +kernel
theorem n4232 : nI 42 ≠ nI 32 := by decide +kernel
theorem n3243 : nI 32 < nI 43 := by decide +kernel
theorem n3245 : nI 32 < nI 45 := by decide +kernel
theorem yva_0 {k : Int32} (h : k ≠ nI 118) : yva k 0 = 0 := if_neg h
theorem n42118 : nI 42 ≠ nI 118 := by decide +kernel
theorem n43118 : nI 43 ≠ nI 118 := by decide +kernel
theorem n45118 : nI 45 ≠ nI 118 := by decide +kernel
section ZPF
variable {sv : Nat → Value} {m : Nat} {F : Nat → Int32} {cs : List Int32}
theorem e_230 {f : Nat} (hI : yMP sv m F cs 228 6 f 0 4) : yMP sv m F cs 230 4 (f + 1) 4 0 := by
  intro op pos h qs D hmu hD hop hp hq hk
  have hmu2 : 400 * (7 - op) + 5 * (61 - pos) + 0 < f + 1 := hmu
  obtain ⟨d, rfl⟩ : ∃ d, D = d + 3 := ⟨D - 3, by omega⟩
  rw [ypa_4]
  obtain ⟨h1, n', e1, p1, f1⟩ := e_230n (sv := sv) (d := d) 6 0 h pos qs rfl hp hq
  have hyn : ∀ k pos, yng cs pos k ≤ k := by
    intro k
    induction k with
    | zero => intro pos; unfold yng; exact Nat.le_refl _
    | succ k ih =>
      intro pos
      have z : yng cs pos (k + 1) = if ycat cs pos = nI 45 then yng cs (pos + 1) k + 1 else 0 := by
        conv => lhs; unfold yng
      rw [z]
      split
      · have := ih (pos + 1); omega
      · exact Nat.zero_le _
  have hq1 : (qs ++ List.replicate (yng cs pos 6) (nI 110, (0 : Int32))).length ≤ pos + yng cs pos 6 := by
    rw [List.length_append, List.length_replicate]
    omega
  have hk1 : ynk (qs ++ List.replicate (yng cs pos 6) (nI 110, (0 : Int32))) := ynk_app hk ynk_rep
  have key : zMR m F cs op (qs ++ List.replicate (yng cs pos 6) (nI 110, (0 : Int32))) h1 (zrun zP sv (zcall zP sv (d + 2)) 230 30 [.val (.ref m), .val (.int (nI n'))] [] h1) (ypu cs f op (pos + yng cs pos 6)) := by
    by_cases hd : yisd (ycat cs (pos + yng cs pos 6)) = true
    · rw [ypu_d hd]
      exact e_230d p1 hq1 hk1 hd
    · by_cases hv : ylet (ycat cs (pos + yng cs pos 6)) = true
      · rw [ypu_v hv]
        exact e_230v p1 hq1 hk1 hv
      · exact e_230p hI hop (fun ho => by
          show 400 * (7 - (op + 1)) + 5 * (61 - (pos + yng cs pos 6 + 1)) + 4 < f
          omega) (fun ho => by omega) p1 hq1 hk1 hv hd
  have e0 : zcall zP sv (d + 3) 230 [.ref m] h = zrun zP sv (zcall zP sv (d + 2)) 230 30 [.val (.ref m), .val (.int (nI n'))] [] h1 := by
    rw [← e1, zc_230]
    simp (disch := exact znw_u) only [zs_230_0, zs_230_1, nI_0]
  rw [e0]
  obtain ⟨h', qs', e, a1, a2, a3, a4, a5⟩ := key
  refine ⟨h', qs', ?_, a1, zfm_tr f1 a2, a3, a4, fun t ht => ?_⟩
  · rw [e]
    dsimp only
    rw [Option.isSome_map]
  · obtain ⟨u, hu, rfl⟩ := Option.map_eq_some_iff.mp ht
    rw [a5 u hu, ypr_ywr, List.append_assoc]
theorem e_229l {f : Nat} (hA : yMP sv m F cs 230 4 f 4 0) (hL : yML sv m F cs 229 4 f 3 1) : yML sv m F cs 229 4 (f + 1) 3 1 := by
  intro op pos h a qs qs1 D hmu hD hop hp hq hk ha
  have hmu2 : 400 * (7 - op) + 5 * (61 - pos) + 1 < f + 1 := hmu
  have hln := zPs_ln hp
  cases a with
  | none =>
    rw [ypa_3n]
    refine ⟨h, qs1, ?_, hp, zfm_rfl, hq, hk, fun t ht => by cases ht⟩
    simp only [Option.isSome_none, yb_f, zs_229_0, zs_229_1, zs_229_4, zs_229_5, zs_229_6, zs_229_9, zs_229_10, zs_229_11, zs_229_14, zs_229_15, zs_229_17, zs_229_20, zs_229_23, zs_229_24, zs_229_26, zs_229_27, zs_229_30, zs_229_31, zs_229_34, zs_229_38, zs_229_39, ↓reduceIte, zgd_t, zty_50]
  | some t =>
    obtain rfl := ha t rfl
    obtain ⟨d, rfl⟩ : ∃ d, D = d + 1 := ⟨D - 1, by omega⟩
    have hr : ∀ X : zR, zrc (h.1 m) 13 X = X := fun X => zPs_rc hp
    obtain ⟨h1, e1, p1, f1⟩ := e_225 (sv := sv) (d := d) hp n4232
    rw [ypa_3s]
    by_cases hc : ycat cs pos = nI 42
    · rw [if_pos hc, hc]
      rw [if_pos hc] at p1
      rw [decide_eq_true hc, yb_t] at e1
      have hr1 : ∀ X : zR, zrc (h1.1 m) 13 X = X := fun X => zPs_rc p1
      obtain ⟨h2, e2, p2, f2⟩ := e_227 (sv := sv) (d := d) (k := nI 42) p1 hk ynr_42 (by omega)
      have hr2 : ∀ X : zR, zrc (h2.1 m) 13 X = X := fun X => zPs_rc p2
      have hl2 : (qs ++ (nI 42, (0 : Int32)) :: ypr t).length = (qs ++ ypr t).length + 1 := by rw [List.length_append, List.length_append, List.length_cons]; omega
      have hk2 : ynk (qs ++ (nI 42, (0 : Int32)) :: ypr t) := ynk_app (fun q hq => hk q (List.mem_append_left _ hq)) (ynk_cons ynr_42 (fun q hq => hk q (List.mem_append_right _ hq)))
      have hle : pos + 1 ≤ cs.length := (zPs_ln p1).2
      obtain ⟨h3, qs3, e3, p3, f3, l3, n3, r3⟩ := hA op (pos + 1) h2 _ (d + 1) (by
        show 400 * (7 - op) + 5 * (61 - (pos + 1)) + 0 < f
        omega) (by omega) hop p2 (by omega) hk2
      have hmono := (ypa_sz (cs := cs) f 4 none op (pos + 1)).1
      have q := hL op (ypa cs f 4 none op (pos + 1)).2 h3 ((ypa cs f 4 none op (pos + 1)).1.map (fun u => ymk (nI 42) 0 t u)) qs qs3 (d + 1) (by
        show 400 * (7 - op) + 5 * (61 - (ypa cs f 4 none op (pos + 1)).2) + 1 < f
        omega) hD hop p3 l3 n3 (fun t' ht' => by
          obtain ⟨u, hu, rfl⟩ := Option.map_eq_some_iff.mp ht'
          rw [r3 u hu, ypr_mk, yva_0 n42118, List.append_assoc]
          rfl)
      rw [Option.isSome_map] at q
      have S : zrun zP sv (zcall zP sv (d + 1)) 229 10 [.val (.ref m), .val (.int (nI qs.length)), .val (.int (yb (some t).isSome))] [] h = zrun zP sv (zcall zP sv (d + 1)) 229 10 [.val (.ref m), .val (.int (nI qs.length)), .val (.int (yb (ypa cs f 4 none op (pos + 1)).1.isSome))] [] h3 := by
        have eb : zrun zP sv (zcall zP sv (d + 1)) 229 35 [.val (.ref m), .val (.int (nI qs.length)), .val (.int (yb (ypa cs f 4 none op (pos + 1)).1.isSome))] [] h3 = zrun zP sv (zcall zP sv (d + 1)) 229 10 [.val (.ref m), .val (.int (nI qs.length)), .val (.int (yb (ypa cs f 4 none op (pos + 1)).1.isSome))] [] h3 := zs_229_35
        rw [← eb]
        simp (disch := exact znw_i) only [Option.isSome_some, yb_t, zs_229_1, zs_229_4, zs_229_5, zs_229_6, zs_229_9, zs_229_10, zs_229_11, zs_229_14, zs_229_15, zs_229_17, zs_229_20, zs_229_23, zs_229_24, zs_229_26, zs_229_27, zs_229_30, zs_229_31, zs_229_34, zs_229_38, zs_229_39, nI_1e0, hr, e1, hr1, e2, hr2, e3, zbk_v, zts_s, zts_n, ↓reduceIte]
      rw [S]
      exact zMR_tr (qs1 := qs) q (zfm_tr f1 (zfm_tr f2 f3))
    · rw [if_neg hc]
      rw [if_neg hc] at p1
      rw [decide_eq_false hc, yb_f] at e1
      refine ⟨h1, _, ?_, p1, f1, hq, hk, fun t' ht' => by cases ht'; rfl⟩
      simp only [Option.isSome_some, yb_t, zs_229_0, zs_229_1, zs_229_4, zs_229_5, zs_229_6, zs_229_9, zs_229_10, zs_229_11, zs_229_14, zs_229_15, zs_229_17, zs_229_20, zs_229_23, zs_229_24, zs_229_26, zs_229_27, zs_229_30, zs_229_31, zs_229_34, zs_229_38, zs_229_39, nI_1e0, hr, e1, zbk_v, zts_s, ↓reduceIte, zgd_t, zty_51]
theorem e_229 {f : Nat} (hA : yMP sv m F cs 230 4 f 4 0) (hL : yML sv m F cs 229 4 f 3 1) : yMP sv m F cs 229 5 (f + 1) 2 2 := by
  intro op pos h qs D hmu hD hop hp hq hk
  have hmu2 : 400 * (7 - op) + 5 * (61 - pos) + 2 < f + 1 := hmu
  obtain ⟨d, rfl⟩ : ∃ d, D = d + 1 := ⟨D - 1, by omega⟩
  rw [ypa_2]
  obtain ⟨h1, qs1, e1, p1, f1, l1, n1, r1⟩ := hA op pos h qs d (by
    show 400 * (7 - op) + 5 * (61 - pos) + 0 < f
    omega) (by omega) hop hp hq hk
  have hmono := (ypa_sz (cs := cs) f 4 none op pos).1
  have q := hL op (ypa cs f 4 none op pos).2 h1 (ypa cs f 4 none op pos).1 qs qs1 d (by
    show 400 * (7 - op) + 5 * (61 - (ypa cs f 4 none op pos).2) + 1 < f
    omega) (by omega) hop p1 l1 n1 r1
  obtain ⟨⟨G, g, g1, g2, g3, g4, g5⟩, _⟩ := id hp
  have e0 : zcall zP sv (d + 1) 229 [.ref m] h = zrun zP sv (zcall zP sv d) 229 10 [.val (.ref m), .val (.int (nI qs.length)), .val (.int (yb (ypa cs f 4 none op pos).1.isSome))] [] h1 := by
    simp (disch := exact znw_u) only [zc_229, zs_229_0, zs_229_1, zs_229_4, zs_229_5, zs_229_6, zs_229_9, g, zmf_11, g3, zrc_13v, e1, zbk_v, zts_s]
  rw [e0]
  exact zMR_tr (qs1 := qs) q f1
end ZPF

section ZPG
variable {sv : Nat → Value} {m : Nat} {F : Nat → Int32} {cs : List Int32}
theorem e_228l {f : Nat} (hA : yMP sv m F cs 229 5 f 2 2) (hL : yML sv m F cs 228 5 f 1 3) : yML sv m F cs 228 5 (f + 1) 1 3 := by
  intro op pos h a qs qs1 D hmu hD hop hp hq hk ha
  have hmu2 : 400 * (7 - op) + 5 * (61 - pos) + 3 < f + 1 := hmu
  have hln := zPs_ln hp
  cases a with
  | none =>
    rw [ypa_1n]
    refine ⟨h, qs1, ?_, hp, zfm_rfl, hq, hk, fun t ht => by cases ht⟩
    simp only [Option.isSome_none, yb_f, zs_228_0, zs_228_1, zs_228_4, zs_228_5, zs_228_6, zs_228_9, zs_228_10, zs_228_11, zs_228_14, zs_228_15, zs_228_17, zs_228_19, zs_228_22, zs_228_25, zs_228_26, zs_228_28, zs_228_30, zs_228_33, zs_228_36, zs_228_37, zs_228_38, zs_228_41, zs_228_42, zs_228_43, zs_228_46, zs_228_47, zs_228_48, zs_228_49, zs_228_52, zs_228_53, zs_228_54, zs_228_57, zs_228_58, zs_228_61, zs_228_65, zs_228_66, ↓reduceIte, zgd_t, zty_50]
  | some t =>
    obtain rfl := ha t rfl
    obtain ⟨d, rfl⟩ : ∃ d, D = d + 2 := ⟨D - 2, by omega⟩
    have hr : ∀ X : zR, zrc (h.1 m) 13 X = X := fun X => zPs_rc hp
    have E1 := e_226 (sv := sv) (d := d) (lo := nI 43) (hi := nI 43) hp n3243
    have E2 := e_226 (sv := sv) (d := d) (lo := nI 45) (hi := nI 45) hp n3245
    rw [y_btw] at E1 E2
    rw [ypa_1s]
    by_cases hc : ycat cs pos = nI 43 ∨ ycat cs pos = nI 45
    · rw [if_pos hc]
      have hkn : ynr (ycat cs pos) = ycat cs pos := hc.elim (fun q => by rw [q]; exact ynr_43) (fun q => by rw [q]; exact ynr_45)
      have hk118 : ycat cs pos ≠ nI 118 := hc.elim (fun q => by rw [q]; exact n43118) (fun q => by rw [q]; exact n45118)
      have hl : pos < cs.length := by
        by_cases hl : pos < cs.length
        · exact hl
        · exfalso
          rw [ycat_end (by omega)] at hc
          exact absurd hc (by decide +kernel)
      obtain ⟨B, b1, b2⟩ := zPs_txt hp hl
      obtain ⟨G, g, g1, g2, g3, g4, p1⟩ := zPs_at (pos' := pos + 1) hp (by omega)
      obtain ⟨h1, hh1⟩ : ∃ h1, h1 = zup h m (13, zMF m (yup G 27 (nI (pos + 1)))) := ⟨_, rfl⟩
      rw [← hh1] at p1
      have f1 : zfm m h h1 := by
        rw [hh1]
        exact ⟨fun q q1 q2 q3 => zup_ne q1, rfl⟩
      have hr1 : ∀ X : zR, zrc (h1.1 m) 13 X = X := fun X => zPs_rc p1
      obtain ⟨h2, e2, p2, f2⟩ := e_227 (sv := sv) (d := d + 1) (k := ycat cs pos) p1 hk hkn (by omega)
      have E3 : zcall zP sv (d + 2) 227 [.ref m, .int (ycat cs pos), .int (nI qs.length)] h1 = _ := e2
      have hr2 : ∀ X : zR, zrc (h2.1 m) 13 X = X := fun X => zPs_rc p2
      have hl2 : (qs ++ (ycat cs pos, (0 : Int32)) :: ypr t).length = (qs ++ ypr t).length + 1 := by rw [List.length_append, List.length_append, List.length_cons]; omega
      have hk2 : ynk (qs ++ (ycat cs pos, (0 : Int32)) :: ypr t) := ynk_app (fun q hq => hk q (List.mem_append_left _ hq)) (ynk_cons hkn (fun q hq => hk q (List.mem_append_right _ hq)))
      obtain ⟨h3, qs3, e3, p3, f3, l3, n3, r3⟩ := hA op (pos + 1) h2 _ (d + 2) (by
        show 400 * (7 - op) + 5 * (61 - (pos + 1)) + 2 < f
        omega) (by omega) hop p2 (by omega) hk2
      have hmono := (ypa_sz (cs := cs) f 2 none op (pos + 1)).1
      have q := hL op (ypa cs f 2 none op (pos + 1)).2 h3 ((ypa cs f 2 none op (pos + 1)).1.map (fun u => ymk (ycat cs pos) 0 t u)) qs qs3 (d + 2) (by
        show 400 * (7 - op) + 5 * (61 - (ypa cs f 2 none op (pos + 1)).2) + 3 < f
        omega) hD hop p3 l3 n3 (fun t' ht' => by
          obtain ⟨u, hu, rfl⟩ := Option.map_eq_some_iff.mp ht'
          rw [r3 u hu, ypr_mk, yva_0 hk118, List.append_assoc]
          rfl)
      rw [Option.isSome_map] at q
      have S0 : zrun zP sv (zcall zP sv (d + 2)) 228 10 [.val (.ref m), .val (.int (nI qs.length)), .val (.int (yb (some t).isSome))] [] h = zrun zP sv (zcall zP sv (d + 2)) 228 36 [.val (.ref m), .val (.int (nI qs.length)), .val (.int (nI 1))] [] h := by
        by_cases c1 : ycat cs pos = nI 43
        · rw [decide_eq_true c1, yb_t] at E1
          simp only [Option.isSome_some, yb_t, zs_228_10, zs_228_11, zs_228_14, zs_228_15, zs_228_17, zs_228_19, zs_228_22, nI_1e0, hr, E1, zbk_v, zts_s, ↓reduceIte]
        · have c2 : ycat cs pos = nI 45 := hc.resolve_left c1
          rw [decide_eq_false c1, yb_f] at E1
          rw [decide_eq_true c2, yb_t] at E2
          simp only [Option.isSome_some, yb_t, zs_228_10, zs_228_11, zs_228_14, zs_228_15, zs_228_17, zs_228_19, zs_228_22, zs_228_25, zs_228_26, zs_228_28, zs_228_30, zs_228_33, nI_1e0, hr, E1, E2, zbk_v, zts_s, ↓reduceIte]
      have S : zrun zP sv (zcall zP sv (d + 2)) 228 36 [.val (.ref m), .val (.int (nI qs.length)), .val (.int (nI 1))] [] h = zrun zP sv (zcall zP sv (d + 2)) 228 10 [.val (.ref m), .val (.int (nI qs.length)), .val (.int (yb (ypa cs f 2 none op (pos + 1)).1.isSome))] [] h3 := by
        have eb : zrun zP sv (zcall zP sv (d + 2)) 228 62 [.val (.ref m), .val (.int (nI qs.length)), .val (.int (yb (ypa cs f 2 none op (pos + 1)).1.isSome))] [] h3 = zrun zP sv (zcall zP sv (d + 2)) 228 10 [.val (.ref m), .val (.int (nI qs.length)), .val (.int (yb (ypa cs f 2 none op (pos + 1)).1.isSome))] [] h3 := zs_228_62
        rw [← eb]
        rw [hh1] at E3 hr1
        simp (disch := first | exact znw_i | omega) only [zs_228_36, zs_228_37, zs_228_38, zs_228_41, zs_228_42, zs_228_43, zs_228_46, zs_228_47, zs_228_48, zs_228_49, zs_228_52, zs_228_53, zs_228_54, zs_228_57, zs_228_58, zs_228_61, g, zmf_25, zmf_27, g1, nI_1', zmp_27, zup_ne, b1, b2, zrc_13v, hr, hr1, E3, hr2, e3, zbk_v, zts_s, zts_n]
      rw [S0, S]
      exact zMR_tr (qs1 := qs) q (zfm_tr f1 (zfm_tr f2 f3))
    · rw [if_neg hc]
      have c1 : ¬ ycat cs pos = nI 43 := fun q => hc (Or.inl q)
      have c2 : ¬ ycat cs pos = nI 45 := fun q => hc (Or.inr q)
      rw [decide_eq_false c1, yb_f] at E1
      rw [decide_eq_false c2, yb_f] at E2
      refine ⟨h, _, ?_, hp, zfm_rfl, hq, hk, fun t' ht' => by cases ht'; rfl⟩
      simp only [Option.isSome_some, yb_t, zs_228_0, zs_228_1, zs_228_4, zs_228_5, zs_228_6, zs_228_9, zs_228_10, zs_228_11, zs_228_14, zs_228_15, zs_228_17, zs_228_19, zs_228_22, zs_228_25, zs_228_26, zs_228_28, zs_228_30, zs_228_33, zs_228_36, zs_228_37, zs_228_38, zs_228_41, zs_228_42, zs_228_43, zs_228_46, zs_228_47, zs_228_48, zs_228_49, zs_228_52, zs_228_53, zs_228_54, zs_228_57, zs_228_58, zs_228_61, zs_228_65, zs_228_66, nI_1e0, hr, E1, E2, zbk_v, zts_s, ↓reduceIte, zgd_t, zty_51]
theorem e_228 {f : Nat} (hA : yMP sv m F cs 229 5 f 2 2) (hL : yML sv m F cs 228 5 f 1 3) : yMP sv m F cs 228 6 (f + 1) 0 4 := by
  intro op pos h qs D hmu hD hop hp hq hk
  have hmu2 : 400 * (7 - op) + 5 * (61 - pos) + 4 < f + 1 := hmu
  obtain ⟨d, rfl⟩ : ∃ d, D = d + 1 := ⟨D - 1, by omega⟩
  rw [ypa_0]
  obtain ⟨h1, qs1, e1, p1, f1, l1, n1, r1⟩ := hA op pos h qs d (by
    show 400 * (7 - op) + 5 * (61 - pos) + 2 < f
    omega) (by omega) hop hp hq hk
  have hmono := (ypa_sz (cs := cs) f 2 none op pos).1
  have q := hL op (ypa cs f 2 none op pos).2 h1 (ypa cs f 2 none op pos).1 qs qs1 d (by
    show 400 * (7 - op) + 5 * (61 - (ypa cs f 2 none op pos).2) + 3 < f
    omega) (by omega) hop p1 l1 n1 r1
  obtain ⟨⟨G, g, g1, g2, g3, g4, g5⟩, _⟩ := id hp
  have e0 : zcall zP sv (d + 1) 228 [.ref m] h = zrun zP sv (zcall zP sv d) 228 10 [.val (.ref m), .val (.int (nI qs.length)), .val (.int (yb (ypa cs f 2 none op pos).1.isSome))] [] h1 := by
    simp (disch := exact znw_u) only [zc_228, zs_228_0, zs_228_1, zs_228_4, zs_228_5, zs_228_6, zs_228_9, g, zmf_11, g3, zrc_13v, e1, zbk_v, zts_s]
  rw [e0]
  exact zMR_tr (qs1 := qs) q f1
theorem e_par : ∀ f : Nat, yMP sv m F cs 228 6 f 0 4 ∧ yML sv m F cs 228 5 f 1 3 ∧ yMP sv m F cs 229 5 f 2 2 ∧ yML sv m F cs 229 4 f 3 1 ∧ yMP sv m F cs 230 4 f 4 0 := by
  intro f
  induction f with
  | zero => exact ⟨fun op pos h qs D hmu => absurd hmu (Nat.not_lt_zero _), fun op pos h a qs qs1 D hmu => absurd hmu (Nat.not_lt_zero _), fun op pos h qs D hmu => absurd hmu (Nat.not_lt_zero _), fun op pos h a qs qs1 D hmu => absurd hmu (Nat.not_lt_zero _), fun op pos h qs D hmu => absurd hmu (Nat.not_lt_zero _)⟩
  | succ f ih =>
    obtain ⟨i0, i1, i2, i3, i4⟩ := ih
    exact ⟨e_228 i2 i1, e_228l i2 i1, e_229 i4 i3, e_229l i4 i3, e_230 i0⟩
end ZPG

theorem zWk_fm {h h' : zH} {m : Nat} {F G : Nat → Int32} {A : yA} {qs : yP} (hw : zWk h m F A) (hf : zfm m h h') (h0 : h'.1 m = (13, zMF m G)) (hl : zLst h' (m + 7) (m + 8) qs) : zWk h' m G A := by
  obtain ⟨_, ⟨N, n1, n2⟩, hs⟩ := hw
  obtain ⟨⟨p, p1⟩, _⟩ := id hs
  exact ⟨h0, ⟨N, zTab_cg n1 (hf.1 _ (by omega) (by omega) (by omega)), n2⟩, zScm_of hs (zLst_cg p1 (hf.1 _ (by omega) (by omega) (by omega)) (hf.1 _ (by omega) (by omega) (by omega))) hl (fun a ha => hf.1 a (by omega) (by omega) (by omega))⟩
theorem zfm_wf {m : Nat} {h h' : zH} (hf : zfm m h h') : zwf m h h' := ⟨fun q q1 q2 q3 => hf.1 q q1 (by omega) (by omega), hf.2⟩
/-- what adding leaves of the numbers: the text is used up, the fault may be new -/
def yfb (F F' : Nat → Int32) (e : Int32) : Prop := F' 3 = F 3 ∧ F' 5 = F 5 ∧ F' 24 = F 24 ∧ F' 26 = nI 0 ∧ F' 29 = e ∧ F' 31 = F 31
section ZAD
variable {sv : Nat → Value} {d : Nat} {m : Nat} {F : Nat → Int32} {h : zH} {cs : List Int32} {A : yA}
theorem e_233p (hw : zWk h m F A) (h26 : F 26 = nI cs.length) (htx : zTx h (m + 17) 60 cs) : ∃ (h1 : zH) (G : Nat → Int32) (qs : yP), zcall zP sv (d + 44) 233 [.ref m] h = zrun zP sv (zcall zP sv (d + 43)) 233 45 [.val (.ref m), .val (.int (yb (yadd cs).1.isSome))] [.int (yb (yadd cs).1.isSome)] (zup h1 m (13, zMF m (yup G 26 0))) ∧ zWk h1 m G A ∧ G 27 = nI (yadd cs).2 ∧ G 11 = nI qs.length ∧ (∀ k, k ≠ 27 → k ≠ 28 → k ≠ 11 → G k = F k) ∧ zLst h1 (m + 7) (m + 8) qs ∧ (∀ t, (yadd cs).1 = some t → qs = ypr t ∧ ysz t ≤ 60) ∧ zfm m h h1 := by
  obtain ⟨hm, _, hs⟩ := id hw
  unfold zMo at hm
  obtain ⟨_, ⟨p1, l7⟩, _⟩ := hs
  have hp0 : zPs (zup h m (13, zMF m (yup (yup (yup F 27 0) 11 0) 28 0))) m F cs 0 0 [] := ⟨⟨yup (yup (yup F 27 0) 11 0) 28 0, zup_at, by rw [yup_ne (by omega), yup_ne (by omega), yup_eq, nI_0], by rw [yup_eq, nI_0], by rw [yup_ne (by omega), yup_eq]; exact nI_0.symm, by rw [yup_ne (by omega), yup_ne (by omega), yup_ne (by omega), h26], fun k k1 k2 k3 => by rw [yup_ne k2, yup_ne k3, yup_ne k1]⟩, zLst_cg (zLst_0 l7) (zup_ne (by omega)) (zup_ne (by omega)), zTx_cg htx (zup_ne (by omega)), Nat.zero_le _⟩
  obtain ⟨h1, qs, e1, p2, f1, l1, n1, r1⟩ := (e_par (sv := sv) (m := m) (F := F) (cs := cs) 4000).1 0 0 _ [] (d + 43) (by show 400 * (7 - 0) + 5 * (61 - 0) + 4 < 4000; omega) (by omega) (by omega) hp0 (Nat.le_refl _) ynk_nil
  obtain ⟨⟨G, g, g1, g2, g3, g4, g5⟩, l2, t2, c2⟩ := id p2
  have hsz := (ypa_sz (cs := cs) 4000 0 none 0 0).2
  have hcl : cs.length ≤ 60 := t2.choose_spec.2.2.2
  have hf0 : zfm m h (zup h m (13, zMF m (yup (yup (yup F 27 0) 11 0) 28 0))) := ⟨fun q q1 q2 q3 => zup_ne q1, rfl⟩
  have ff := zfm_tr hf0 f1
  refine ⟨h1, G, qs, ?_, zWk_fm hw ff g l2, g1, g3, g5, l2, fun t ht => ?_, ff⟩
  · have hr0 : ∀ X : zR, zrc ((zup h m (13, zMF m (yup (yup (yup F 27 0) 11 0) 28 0))).1 m) 13 X = X := fun X => zPs_rc hp0
    have S1 : zcall zP sv (d + 44) 233 [.ref m] h = zrun zP sv (zcall zP sv (d + 43)) 233 19 [.val (.ref m), .unset] [.int (yb (ypa cs 4000 0 none 0 0).1.isSome)] h1 := by
      rw [zc_233]
      simp only [zs_233_0, zs_233_1, zs_233_2, zs_233_5, zs_233_6, zs_233_7, zs_233_10, zs_233_11, zs_233_12, zs_233_15, zs_233_16, hm, zmp_27, zup_at, zmp_11, zup_up, zmp_28, zrc_13v, e1, zbk_v, zts_s]
    rw [S1]
    unfold yadd
    by_cases hs : (ypa cs 4000 0 none 0 0).1.isSome = true
    · by_cases hc : (ypa cs 4000 0 none 0 0).2 = cs.length
      · rw [if_pos hc]
        dsimp only
        rw [hs, yb_t]
        have ec : nI (ypa cs 4000 0 none 0 0).2 = nI cs.length := by rw [hc]
        simp (disch := exact znw_u) only [zs_233_19, zs_233_22, zs_233_23, zs_233_26, zs_233_27, zs_233_30, zs_233_33, zs_233_34, zs_233_38, zs_233_39, zs_233_40, zs_233_41, zs_233_44, nI_1e0, ↓reduceIte, g, zmf_27, zmf_26, g1, g4, ec, zmp_26]
      · rw [if_neg hc]
        dsimp only
        have ec : ¬ nI (ypa cs 4000 0 none 0 0).2 = nI cs.length := fun q => hc ((nI_eq (by omega) (by omega)).mp q)
        rw [hs, yb_t, Option.isSome_none, yb_f]
        simp (disch := exact znw_u) only [zs_233_19, zs_233_22, zs_233_23, zs_233_26, zs_233_27, zs_233_30, zs_233_37, zs_233_38, zs_233_39, zs_233_40, zs_233_41, zs_233_44, nI_1e0, ↓reduceIte, g, zmf_27, zmf_26, g1, g4, if_neg ec, zmp_26]
    · have hn : (ypa cs 4000 0 none 0 0).1 = none := by
        cases hx : (ypa cs 4000 0 none 0 0).1 with
        | none => rfl
        | some t => rw [hx] at hs; exact absurd rfl hs
      rw [hn]
      have e0 : (if (ypa cs 4000 0 none 0 0).2 = cs.length then (none : Option yT) else none) = none := by split <;> rfl
      rw [e0]
      dsimp only
      rw [Option.isSome_none, yb_f]
      simp (disch := exact znw_u) only [zs_233_19, zs_233_37, zs_233_38, zs_233_39, zs_233_40, zs_233_41, zs_233_44, ↓reduceIte, g, zmp_26]
  · have ht2 : (ypa cs 4000 0 none 0 0).1 = some t := by
      unfold yadd at ht
      dsimp only at ht
      split at ht
      · exact ht
      · cases ht
    refine ⟨by have := r1 t ht2; rw [List.nil_append] at this; exact this, ?_⟩
    have z := hsz t ht2
    have z2 : yas (none : Option yT) = 0 := rfl
    omega
end ZAD

section ZAE
variable {sv : Nat → Value} {d : Nat} {m : Nat} {F : Nat → Int32} {h : zH} {w : yW} {th : Int32} {cs : List Int32} {A : yA}
theorem yfb_up {G : Nat → Int32} (hg : ∀ k, k ≠ 27 → k ≠ 28 → k ≠ 11 → G k = F k) : yfb F (yup G 26 0) (F 29) := ⟨(yup_ne (by omega)).trans (hg 3 (by omega) (by omega) (by omega)), (yup_ne (by omega)).trans (hg 5 (by omega) (by omega) (by omega)), (yup_ne (by omega)).trans (hg 24 (by omega) (by omega) (by omega)), yup_eq.trans nI_0.symm, (yup_ne (by omega)).trans (hg 29 (by omega) (by omega) (by omega)), (yup_ne (by omega)).trans (hg 31 (by omega) (by omega) (by omega))⟩
theorem yfb_ff {F' F'' : Nat → Int32} {e : Int32} (h1 : yfb F F' e) (h2 : yff F' F'') : yfb F F'' e := ⟨h2.1.trans h1.1, h2.2.1.trans h1.2.1, h2.2.2.1.trans h1.2.2.1, h2.2.2.2.1.trans h1.2.2.2.1, h2.2.2.2.2.1.trans h1.2.2.2.2.1, h2.2.2.2.2.2.trans h1.2.2.2.2.2⟩
theorem zRst_b {h h' : zH} {F' : Nat → Int32} {e : Int32} (hr : zRst h m F w) (hf : yfb F F' e) (hw : zwf m h h') : zRst h' m F' (yse (ysb w []) e) := by
  obtain ⟨⟨a1, a2, a3, a4, a5, a6⟩, b, ⟨S, c1, c2⟩, e1, ⟨B, b1, b2, b3, b4⟩⟩ := hr
  obtain ⟨f1, f2, f3, f4, f5, _⟩ := hf
  have k3 := hw.1 (m + 3) (by omega) (by omega) (by omega)
  exact ⟨⟨f1.trans a1, f2.trans a2, f3.trans a3, f4, f5, a6⟩, zKep_cg b k3, ⟨S, zTab_cg c1 (hw.1 _ (by omega) (by omega) (by omega)), c2⟩, zTx_cg e1 (hw.1 _ (by omega) (by omega) (by omega)), ⟨B, (hw.1 _ (by omega) (by omega) (by omega)).trans b1, b2, rfl, Nat.zero_le _⟩⟩
theorem e_233n (hw : zWk h m F A) (h26 : F 26 = nI cs.length) (htx : zTx h (m + 17) 60 cs) (hn : (yadd cs).1 = none) : ∃ (h' : zH) (F' : Nat → Int32), zcall zP sv (d + 44) 233 [.ref m] h = some (.inl (some (.int (nI 1))), h') ∧ zWk h' m F' A ∧ yfb F F' (nI (yadd cs).2) ∧ zwf m h h' := by
  obtain ⟨h1, G, qs, e, w1, g1, g2, g3, l1, r1, f1⟩ := e_233p (sv := sv) (d := d) hw h26 htx
  rw [hn, Option.isSome_none, yb_f] at e
  refine ⟨zup (zup h1 m (13, zMF m (yup G 26 0))) m (13, zMF m (yup (yup G 26 0) 29 (G 27))), _, ?_, zWk_cg w1 zup_at (fun q hq => by rw [zup_ne (by omega), zup_ne (by omega)]), ?_, zwf_tr (zfm_wf f1) ⟨fun q q1 q2 q3 => by rw [zup_ne q1, zup_ne q1], rfl⟩⟩
  · have v27 : yup G 26 0 27 = G 27 := yup_ne (by omega)
    rw [e]
    simp only [zs_233_45, zs_233_48, zs_233_49, zs_233_50, zs_233_53, zs_233_56, zs_233_57, zup_at, zmf_27, v27, zmp_29, ↓reduceIte]
  · obtain ⟨y1, y2, y3, y4, y5, y6⟩ := yfb_up g3
    exact ⟨(yup_ne (by omega)).trans y1, (yup_ne (by omega)).trans y2, (yup_ne (by omega)).trans y3, (yup_ne (by omega)).trans y4, yup_eq.trans g1, (yup_ne (by omega)).trans y6⟩
theorem e_233s {t : yT} (hw : zWk h m F A) (h26 : F 26 = nI cs.length) (htx : zTx h (m + 17) 60 cs) (hn : (yadd cs).1 = some t) : ∃ (h1 : zH) (F1 : Nat → Int32), (∀ (x : Int32) (h' : zH), zcall zP sv (d + 43) 234 [.ref m, .int (nI 2)] h1 = some (.inl (some (.int x)), h') → zcall zP sv (d + 44) 233 [.ref m] h = some (.inl (some (.int x)), h')) ∧ zWk h1 m (yup F1 11 (nI (ysz t))) A ∧ zLst h1 (m + 7) (m + 8) (ypr t) ∧ yfb F F1 (F 29) ∧ ysz t ≤ 60 ∧ zwf m h h1 := by
  obtain ⟨h1, G, qs, e, w1, g1, g2, g3, l1, r1, f1⟩ := e_233p (sv := sv) (d := d) hw h26 htx
  obtain ⟨rfl, hz⟩ := r1 t hn
  rw [hn, Option.isSome_some, yb_t] at e
  have v11 : yup (yup G 26 0) 11 (nI (ysz t)) = yup G 26 0 := yup_self (by rw [yup_ne (by omega), g2, ypr_len])
  refine ⟨zup h1 m (13, zMF m (yup G 26 0)), yup G 26 0, ?_, ?_, zLst_cg l1 (zup_ne (by omega)) (zup_ne (by omega)), yfb_up g3, hz, zwf_tr (zfm_wf f1) ⟨fun q q1 q2 q3 => by rw [zup_ne q1], rfl⟩⟩
  · intro x h' ex
    have hr : ∀ X : zR, zrc ((zup h1 m (13, zMF m (yup G 26 0))).1 m) 13 X = X := fun X => zMo_rc zMo_up
    rw [e]
    simp only [zs_233_45, zs_233_58, zs_233_59, zs_233_60, zs_233_63, nI_1e0, hr, ex, zbk_v, zts_s, ↓reduceIte]
  · rw [v11]
    exact zWk_cg w1 zup_at (fun q hq => by rw [zup_ne (by omega)])
/-- addFormula -/
theorem e_235x {no : Nat} {e : Int32} (hM : zMdl h m w th) (h0 : 0 < no) (hno : no < 100) (hW : ∀ (h1 : zH) (F1 : Nat → Int32), zWk h1 m F1 (ycur w) → F1 26 = nI w.1.length → zTx h1 (m + 17) 60 w.1 → F1 29 = w.2.1 → ∃ (h' : zH) (F' : Nat → Int32), zcall zP sv (d + 44) 233 [.ref m] h1 = some (.inl (some (.int (nI no))), h') ∧ zWk h' m F' (ycur w) ∧ yfb F1 F' e ∧ zwf m h1 h') : zMC m h (zcall zP sv (d + 45) 235 [.ref m] h) 0 (yse (ysb w []) e) (nI no) := by
  have hm0 : ∀ X : zR, zrc (h.1 m) 13 X = X := by
    obtain ⟨F, _, hw, _⟩ := hM
    exact fun X => zMo_rc hw.1
  obtain ⟨h1, F1, T, e1, w1, f31, hT, hn, hr, hA0, k1⟩ := zM_try (sv := sv) (d := d + 43) hM
  obtain ⟨h2, F2, e2, w2, ff, wf⟩ := hW h1 F1 w1 hr.1.2.2.2.1 hr.2.2.2.2 hr.1.2.2.2.2.1
  have hr2 := zRst_b hr ff wf
  have hT2 : zTab h2 (m + 2) T := zTab_cg hT (wf.1 _ (by omega) (by omega) (by omega))
  obtain ⟨h3, e3, g1, g2⟩ := zM_fail (sv := sv) (d := d + 42) (w := yse (ysb w []) e) w2 hT2 hr2 hA0 h0 hno
  have r1 : ∀ X : zR, zrc (h1.1 m) 13 X = X := fun X => zMo_rc w1.1
  have r2 : ∀ X : zR, zrc (h2.1 m) 13 X = X := fun X => zMo_rc w2.1
  refine ⟨h3, ?_, g1, zmw_tr k1 (zmw_tr (zwf_mw wf) g2)⟩
  have E1 : zcall zP sv (d + 44) 200 [.ref m] h = _ := e1
  have E3 : zcall zP sv (d + 44) 202 [.ref m, .int (nI no)] h2 = _ := e3
  simp only [zc_235, zs_235_0, zs_235_1, zs_235_4, zs_235_5, zs_235_6, zs_235_9, zs_235_12, hm0, r1, r2, E1, e2, E3, zbk_v, zts_s, zts_n, List.cons_append, List.nil_append]
theorem e_235n (hM : zMdl h m w th) (hn : (yadd w.1).1 = none) : zMC m h (zcall zP sv (d + 45) 235 [.ref m] h) 0 (yse (ysb w []) (nI (yadd w.1).2)) (nI 1) :=
  e_235x hM (by decide) (by decide) (fun h1 F1 w1 f26 tx _ => e_233n w1 f26 tx hn)
theorem e_235f {t : yT} (hM : zMdl h m w th) (hn : (yadd w.1).1 = some t) (hl : (ycur w).1.length = 6) : zMC m h (zcall zP sv (d + 45) 235 [.ref m] h) 0 (ysb w []) (nI 2) :=
  e_235x (e := w.2.1) hM (by decide) (by decide) (fun h1 F1 w1 f26 tx f29 => by
    obtain ⟨h2, F2, e, w2, l2, fb, hz, k2⟩ := e_233s (sv := sv) (d := d) w1 f26 tx hn
    rw [f29] at fb
    exact ⟨h2, _, e _ _ (e_234a (sv := sv) (d := d + 23) w2 hl), w2, ⟨(yup_ne (by omega)).trans fb.1, (yup_ne (by omega)).trans fb.2.1, (yup_ne (by omega)).trans fb.2.2.1, (yup_ne (by omega)).trans fb.2.2.2.1, (yup_ne (by omega)).trans fb.2.2.2.2.1, (yup_ne (by omega)).trans fb.2.2.2.2.2⟩, k2⟩)
theorem nI_21 : nI 2 + nI 1 = nI 3 := by rw [nI_add]
theorem yadd_tw {cs : List Int32} {t : yT} (hn : (yadd cs).1 = some t) : ytw t = true := by
  unfold yadd at hn
  dsimp only at hn
  split at hn
  · exact ypa_tw 4000 0 none 0 0 (fun t h => by cases h) t hn
  · cases hn
theorem e_235b {t : yT} (hM : zMdl h m w th) (hn : (yadd w.1).1 = some t) (hl : (ycur w).1.length < 6) (hb : ¬ (ysz t ≤ 31 ∧ ydp t ≤ 8)) : zMC m h (zcall zP sv (d + 45) 235 [.ref m] h) 0 (ysb w []) (nI 3) :=
  e_235x (e := w.2.1) hM (by decide) (by decide) (fun h1 F1 w1 f26 tx f29 => by
    obtain ⟨h2, F2, e, w2, l2, fb, hz, k2⟩ := e_233s (sv := sv) (d := d) w1 f26 tx hn
    rw [f29] at fb
    obtain ⟨h3, F3, e3, w3, f3, k3⟩ := e_234b (sv := sv) (d := d + 23) (f := nI 2) w2 l2 (yadd_tw hn) (by omega) (zMdl_A hM) hl hb
    rw [nI_21] at e3
    exact ⟨h3, F3, e _ _ e3, w3, yfb_ff fb f3, zwf_tr k2 k3⟩)
theorem e_235 {t : yT} (hM : zMdl h m w th) (hn : (yadd w.1).1 = some t) (hl : (ycur w).1.length < 6) (hb : ysz t ≤ 31 ∧ ydp t ≤ 8) : zMC m h (zcall zP sv (d + 45) 235 [.ref m] h) (nI (ycur w).1.length) (ysc (yrec (ysb w [])) ((ycur w).1 ++ [t], (ycur w).2)) 0 := by
  have hm0 : ∀ X : zR, zrc (h.1 m) 13 X = X := by
    obtain ⟨F, _, hw, _⟩ := hM
    exact fun X => zMo_rc hw.1
  have hA := zMdl_A hM
  obtain ⟨h1, F1, T, e1, w1, f31, hT, hnT, hr, hA0, k1⟩ := zM_try (sv := sv) (d := d + 43) hM
  obtain ⟨h2, F2, e, w2, l2, fb, hz, k2⟩ := e_233s (sv := sv) (d := d) w1 hr.1.2.2.2.1 hr.2.2.2.2 hn
  rw [hr.1.2.2.2.2.1] at fb
  obtain ⟨h3, F3, e3, w3, f30, f3, k3⟩ := e_234c (sv := sv) (d := d + 23) (f := nI 2) w2 l2 (yadd_tw hn) (by omega) hA hl hb
  have fb3 := yfb_ff fb f3
  have wf := zwf_tr k2 k3
  have hr2 := zRst_b hr fb3 wf
  have hT2 : zTab h3 (m + 2) T := zTab_cg hT (wf.1 _ (by omega) (by omega) (by omega))
  obtain ⟨h4, e4, g1, g2⟩ := zM_ok (sv := sv) (d := d + 43) (w := yse (ysb w []) w.2.1) w3 (fb3.2.2.2.2.2.trans f31) hT2 hnT hr2 (yAok_app hA ⟨yadd_tw hn, hb.1, hb.2⟩ hl)
  rw [f30] at e4
  have r1 : ∀ X : zR, zrc (h1.1 m) 13 X = X := fun X => zMo_rc w1.1
  have r3 : ∀ X : zR, zrc (h3.1 m) 13 X = X := fun X => zMo_rc w3.1
  refine ⟨h4, ?_, g1, zmw_tr k1 (zmw_tr (zwf_mw wf) g2)⟩
  have E1 : zcall zP sv (d + 44) 200 [.ref m] h = _ := e1
  have E2 := e _ _ e3
  have E4 : zcall zP sv (d + 44) 202 [.ref m, .int 0] h3 = _ := e4
  simp only [zc_235, zs_235_0, zs_235_1, zs_235_4, zs_235_5, zs_235_6, zs_235_9, zs_235_12, hm0, r1, r3, E1, E2, E4, zbk_v, zts_s, zts_n, List.cons_append, List.nil_append]
end ZAE

section ZOT
variable {sv : Nat → Value} {d : Nat} {m : Nat} {F : Nat → Int32} {h : zH} {w : yW} {th : Int32}
theorem e_197 (hM : zMdl h m w th) : zcall zP sv (d + 1) 197 [.ref m] h = some (.inl (some (.int th)), h) := by
  obtain ⟨F, f31, ⟨hm, _⟩, _⟩ := hM
  unfold zMo at hm
  simp only [zc_197, zs_197_0, zs_197_1, zs_197_4, hm, zmf_31, f31]
/-- only numbers 31 (thrown) change -/
theorem zMdl_31 {x : Int32} (hM : zMdl h m w th) : ∃ F : Nat → Int32, h.1 m = (13, zMF m F) ∧ zMdl (zup h m (13, zMF m (yup F 31 x))) m w x ∧ zmw m h (zup h m (13, zMF m (yup F 31 x))) ∧ zWk h m F (ycur w) ∧ (∃ T, zTab h (m + 2) T) ∧ zRst h m F w ∧ yAok (ycur w) := by
  obtain ⟨F, f31, hw, ⟨T, hT⟩, hr, hA⟩ := hM
  exact ⟨F, hw.1, ⟨yup F 31 x, yup_eq, zWk_cg hw zup_at (fun q hq => zup_ne (by omega)), ⟨T, zTab_cg hT (zup_ne (by omega))⟩, zRst_cg hr ⟨yup_ne (by omega), yup_ne (by omega), yup_ne (by omega), yup_ne (by omega), yup_ne (by omega)⟩ (zup_ne (by omega)) (zup_ne (by omega)) (zup_ne (by omega)) (zup_ne (by omega)), hA⟩, ⟨fun q hq => zup_ne (by omega), rfl⟩, hw, ⟨T, hT⟩, hr, hA⟩
theorem e_231x {x : Int32} (hM : zMdl h m w th) (hl : w.1.length = 60) : zMC m h (zcall zP sv (d + 3) 231 [.ref m, .int x] h) 0 w (nI 1) := by
  obtain ⟨F, g, g1, g2, hw, hT, hr, hA⟩ := zMdl_31 (x := nI 1) hM
  refine ⟨_, ?_, g1, g2⟩
  have e26 : yup F 31 0 26 = nI 60 := by rw [yup_ne (by omega), hr.1.2.2.2.1, hl]
  have E := e_198 (sv := sv) (d := d + 1) (x := nI 1) (h := zup h m (13, zMF m (yup F 31 0))) (m := m) (F := yup F 31 0) zMo_up
  rw [yup_yup, zup_up] at E
  simp only [zc_231, zs_231_0, zs_231_1, zs_231_2, zs_231_5, zs_231_6, zs_231_9, zs_231_11, zs_231_14, zs_231_15, zs_231_16, zs_231_19, zs_231_20, zs_231_21, zs_231_24, zs_231_25, zs_231_26, zs_231_29, zs_231_30, zs_231_31, zs_231_32, zs_231_35, zs_231_36, zs_231_37, zs_231_38, zs_231_41, g, zmp_31, zup_at, zmf_26, e26, zrc_13v, E, zbk_v, zts_s, ↓reduceIte]
theorem e_231 {x : Int32} (hM : zMdl h m w th) (hl : w.1.length < 60) : zMC m h (zcall zP sv (d + 3) 231 [.ref m, .int x] h) (nI (w.1.length + 1)) (ysb w (w.1 ++ [ynr x])) 0 := by
  obtain ⟨F, g, g1, g2, hw, ⟨T, hT⟩, hr, hA⟩ := zMdl_31 (x := 0) hM
  obtain ⟨⟨a1, a2, a3, a4, a5, a6⟩, b, ⟨S, c1, c2⟩, e1, ⟨B, b1, b2, b3, b4⟩⟩ := hr
  have e26 : yup F 31 0 26 = nI w.1.length := by rw [yup_ne (by omega), a4]
  have n60 : ¬ nI w.1.length = nI 60 := fun q => absurd ((nI_eq (by omega) (by omega)).mp q) (by omega)
  have s1 : ∀ Kc : zC → zR, zaset (21, B.map Value.int) 21 (nI w.1.length) (.int x) Kc = Kc (21, (B.set w.1.length (ynr x)).map Value.int) := fun Kc => zsC (by omega) (by omega)
  have hln : (w.1 ++ [ynr x]).length = w.1.length + 1 := by rw [List.length_append, List.length_singleton]
  have hne : m + 17 ≠ m := by omega
  have hne2 : m ≠ m + 17 := by omega
  refine ⟨zup (zup h m (13, zMF m (yup (yup F 31 0) 26 (nI (w.1.length + 1))))) (m + 17) (21, (B.set w.1.length (ynr x)).map Value.int), ?_, ⟨yup (yup F 31 0) 26 (nI (w.1.length + 1)), by rw [yup_ne (by omega), yup_eq], zWk_cg hw (by rw [zup_ne (by omega), zup_at]) (fun q hq => by rw [zup_ne (by omega), zup_ne (by omega)]), ⟨T, zTab_cg hT (by rw [zup_ne (by omega), zup_ne (by omega)])⟩, ⟨⟨by rw [yup_ne (by omega), yup_ne (by omega)]; exact a1, by rw [yup_ne (by omega), yup_ne (by omega)]; exact a2, by rw [yup_ne (by omega), yup_ne (by omega)]; exact a3, by rw [yup_eq]; show _ = nI (w.1 ++ [ynr x]).length; rw [hln], by rw [yup_ne (by omega), yup_ne (by omega)]; exact a5, a6⟩, zKep_cg b (by rw [zup_ne (by omega), zup_ne (by omega)]), ⟨S, zTab_cg c1 (by rw [zup_ne (by omega), zup_ne (by omega)]), c2⟩, zTx_cg e1 (by rw [zup_ne (by omega), zup_ne (by omega)]), ⟨B.set w.1.length (ynr x), zup_at, by rw [List.length_set, b2], ?_, by show (w.1 ++ [ynr x]).length ≤ 60; rw [hln]; omega⟩⟩, hA⟩, ⟨fun q hq => by rw [zup_ne (by omega), zup_ne (by omega)], rfl⟩⟩
  · simp (disch := first | exact hne | exact hne2) only [zc_231, zs_231_0, zs_231_1, zs_231_2, zs_231_5, zs_231_6, zs_231_9, zs_231_11, zs_231_14, zs_231_15, zs_231_16, zs_231_19, zs_231_20, zs_231_21, zs_231_24, zs_231_25, zs_231_26, zs_231_29, zs_231_30, zs_231_31, zs_231_32, zs_231_35, zs_231_36, zs_231_37, zs_231_38, zs_231_41, g, zmp_31, zup_at, zmf_26, zmf_25, e26, if_neg n60, nI_1', zmp_26, zup_up, zup_ne, b1, s1, yup_eq, ↓reduceIte]
  · show (B.set w.1.length (ynr x)).take (w.1 ++ [ynr x]).length = w.1 ++ [ynr x]
    rw [hln]
    exact ytk_set b3 (by omega)
theorem e_232 (hM : zMdl h m w th) : zMC m h (zcall zP sv (d + 3) 232 [.ref m] h) (nI w.1.length) (ysb w []) 0 := by
  obtain ⟨F, g, g1, g2, hw, ⟨T, hT⟩, hr, hA⟩ := zMdl_31 (x := 0) hM
  have e26 : yup F 31 0 26 = nI w.1.length := by rw [yup_ne (by omega), hr.1.2.2.2.1]
  refine ⟨zup h m (13, zMF m (yup (yup F 31 0) 26 0)), ?_, ⟨yup (yup F 31 0) 26 0, by rw [yup_ne (by omega), yup_eq], zWk_cg hw zup_at (fun q hq => zup_ne (by omega)), ⟨T, zTab_cg hT (zup_ne (by omega))⟩, ?_, hA⟩, ⟨fun q hq => zup_ne (by omega), rfl⟩⟩
  · simp (disch := exact znw_u) only [zc_232, zs_232_0, zs_232_1, zs_232_2, zs_232_5, zs_232_6, zs_232_9, zs_232_10, zs_232_11, zs_232_12, zs_232_15, zs_232_16, g, zmp_31, zup_at, zmf_26, e26, zmp_26, zup_up]
  · obtain ⟨⟨a1, a2, a3, a4, a5, a6⟩, b, ⟨S, c1, c2⟩, e1, ⟨B, b1, b2, b3, b4⟩⟩ := hr
    exact ⟨⟨by rw [yup_ne (by omega), yup_ne (by omega)]; exact a1, by rw [yup_ne (by omega), yup_ne (by omega)]; exact a2, by rw [yup_ne (by omega), yup_ne (by omega)]; exact a3, by rw [yup_eq]; exact nI_0.symm, by rw [yup_ne (by omega), yup_ne (by omega)]; exact a5, a6⟩, zKep_cg b (zup_ne (by omega)), ⟨S, zTab_cg c1 (zup_ne (by omega)), c2⟩, zTx_cg e1 (zup_ne (by omega)), ⟨B, (zup_ne (by omega)).trans b1, b2, rfl, Nat.zero_le _⟩⟩
end ZOT

theorem yl_ext {A B : List Int32} {n : Nat} (h1 : A.length = n) (h2 : B.length = n) (h : ∀ i, i < n → A[i]? = B[i]?) : A = B := by
  apply List.ext_getElem?
  intro i
  by_cases hi : i < n
  · exact h i hi
  · rw [List.getElem?_eq_none (by omega), List.getElem?_eq_none (by omega)]
section ZUN
variable {sv : Nat → Value} {d : Nat} {m : Nat} {F : Nat → Int32} {h : zH} {w : yW} {th : Int32}
theorem e_296l {u : Nat} {K : List Int32} (hu : u < 8) (h3 : F 3 = nI u) (hK : K.length = 3096) : ∀ n k (h : zH) (N : List Int32), k + n = 387 → h.1 m = (13, zMF m F) → h.1 (m + 3) = (20, K.map Value.int) → zTab h (m + 1) N → (∀ i, i < k → N[i]? = K[387 * u + i]?) → ∃ (h' : zH) (N' : List Int32), zrun zP sv (zcall zP sv d) 296 30 [.val (.ref m), .val (.int (nI k))] [] h = some (.inl (some (.int (nI u))), h') ∧ zTab h' (m + 1) N' ∧ (∀ i, i < 387 → N'[i]? = K[387 * u + i]?) ∧ (∀ q, q ≠ m + 1 → h'.1 q = h.1 q) ∧ h'.2 = h.2 := by
  intro n
  induction n with
  | zero =>
    intro k h N hk hm hk3 hN g1
    obtain rfl : k = 387 := by omega
    refine ⟨h, N, ?_, hN, g1, fun _ _ => rfl, rfl⟩
    simp only [zs_296_0, zs_296_1, zs_296_2, zs_296_5, zs_296_6, zs_296_9, zs_296_12, zs_296_13, zs_296_14, zs_296_17, zs_296_18, zs_296_19, zs_296_20, zs_296_23, zs_296_24, zs_296_25, zs_296_28, zs_296_29, zs_296_30, zs_296_31, zs_296_34, zs_296_37, zs_296_38, zs_296_41, zs_296_42, zs_296_43, zs_296_46, zs_296_49, zs_296_50, zs_296_53, zs_296_54, zs_296_55, zs_296_56, zs_296_57, zs_296_61, zs_296_64, zs_296_65, zs_296_68, Int32.lt_irrefl, ↓reduceIte, hm, zmf_3, h3]
  | succ n ih =>
    intro k h N hk hm hk3 hN g1
    have hN1 := hN.1
    have hN2 := hN.2
    obtain ⟨y, hy⟩ : ∃ y, K[387 * u + k]? = some y := ⟨_, List.getElem?_eq_getElem (by omega)⟩
    have ey : ∀ Kv, zael (20, K.map Value.int) 20 (nI (387 * u + k)) Kv = Kv (.int y) := fun Kv => zaelv (by rw [List.getElem?_map, hy]; rfl) (by omega)
    have s1 : ∀ Kc : zC → zR, zaset (20, N.map Value.int) 20 (nI k) (.int y) Kc = Kc (20, (N.set k y).map Value.int) := fun Kc => zsI (by omega) (by omega)
    have c1 : nI k < nI 387 := nI_lt (by omega) (by omega)
    obtain ⟨h', N', e, q1, q2, q3, q4⟩ := ih (k + 1) (zup h (m + 1) (20, (N.set k y).map Value.int)) (N.set k y) (by omega) (by rw [zup_ne (by omega), hm]) (by rw [zup_ne (by omega), hk3]) ⟨zup_at, by rw [List.length_set, hN2]⟩ (fun i hi => by
      by_cases hik : i = k
      · subst hik
        rw [List.getElem?_set_self (by omega), hy]
      · rw [List.getElem?_set_ne (by omega), g1 i (by omega)])
    refine ⟨h', N', ?_, q1, q2, fun q hq => by rw [q3 q hq, zup_ne hq], q4⟩
    rw [← e]
    have eb : ∀ g : zH, zrun zP sv (zcall zP sv d) 296 58 [.val (.ref m), .val (.int (nI k))] [] g = zrun zP sv (zcall zP sv d) 296 30 [.val (.ref m), .val (.int (nI (k + 1)))] [] g := fun g => by rw [zs_296_58, zs_296_61, nI_1']
    rw [← eb]
    simp only [zs_296_30, zs_296_31, zs_296_34, zs_296_37, zs_296_38, zs_296_41, zs_296_42, zs_296_43, zs_296_46, zs_296_49, zs_296_50, zs_296_53, zs_296_54, zs_296_55, zs_296_56, zs_296_57, if_pos c1, hm, zmf_0, zmf_2, zmf_3, h3, hk3, hN1, nI_mulx, nI_add, ey, s1]
theorem e_298l {S : List Int32} (hS : S.length = 387) : ∀ n k (h : zH) (N : List Int32), k + n = 387 → h.1 m = (13, zMF m F) → h.1 (m + 4) = (20, S.map Value.int) → zTab h (m + 1) N → (∀ i, i < k → N[i]? = S[i]?) → ∃ h' : zH, zrun zP sv (zcall zP sv d) 298 20 [.val (.ref m), .val (.int (nI k))] [] h = zrun zP sv (zcall zP sv d) 298 45 [.val (.ref m), .val (.int (nI 387))] [] h' ∧ zTab h' (m + 1) S ∧ (∀ q, q ≠ m + 1 → h'.1 q = h.1 q) ∧ h'.2 = h.2 := by
  intro n
  induction n with
  | zero =>
    intro k h N hk hm hk3 hN g1
    obtain rfl : k = 387 := by omega
    obtain rfl : N = S := yl_ext hN.2 hS g1
    refine ⟨h, ?_, hN, fun _ _ => rfl, rfl⟩
    simp only [zs_298_20, zs_298_21, zs_298_24, Int32.lt_irrefl, ↓reduceIte]
  | succ n ih =>
    intro k h N hk hm hk3 hN g1
    have hN1 := hN.1
    have hN2 := hN.2
    obtain ⟨y, hy⟩ : ∃ y, S[k]? = some y := ⟨_, List.getElem?_eq_getElem (by omega)⟩
    have ey : ∀ Kv, zael (20, S.map Value.int) 20 (nI k) Kv = Kv (.int y) := fun Kv => zaelv (by rw [List.getElem?_map, hy]; rfl) (by omega)
    have s1 : ∀ Kc : zC → zR, zaset (20, N.map Value.int) 20 (nI k) (.int y) Kc = Kc (20, (N.set k y).map Value.int) := fun Kc => zsI (by omega) (by omega)
    have c1 : nI k < nI 387 := nI_lt (by omega) (by omega)
    obtain ⟨h', e, q1, q3, q4⟩ := ih (k + 1) (zup h (m + 1) (20, (N.set k y).map Value.int)) (N.set k y) (by omega) (by rw [zup_ne (by omega), hm]) (by rw [zup_ne (by omega), hk3]) ⟨zup_at, by rw [List.length_set, hN2]⟩ (fun i hi => by
      by_cases hik : i = k
      · subst hik
        rw [List.getElem?_set_self (by omega), hy]
      · rw [List.getElem?_set_ne (by omega), g1 i (by omega)])
    refine ⟨h', ?_, q1, fun q hq => by rw [q3 q hq, zup_ne hq], q4⟩
    rw [← e]
    have eb : ∀ g : zH, zrun zP sv (zcall zP sv d) 298 39 [.val (.ref m), .val (.int (nI k))] [] g = zrun zP sv (zcall zP sv d) 298 20 [.val (.ref m), .val (.int (nI (k + 1)))] [] g := fun g => by rw [zs_298_39, zs_298_42, nI_1']
    rw [← eb]
    simp only [zs_298_20, zs_298_21, zs_298_24, zs_298_27, zs_298_28, zs_298_31, zs_298_32, zs_298_33, zs_298_36, zs_298_37, zs_298_38, if_pos c1, hm, zmf_0, zmf_4, hk3, hN1, ey, s1]
theorem e_296n (hM : zMdl h m w th) (hk : yhis w = []) : zMC m h (zcall zP sv (d + 3) 296 [.ref m] h) 0 w (nI 1) := by
  obtain ⟨F, g, g1, g2, hw, hT, hr, hA⟩ := zMdl_31 (x := nI 1) hM
  refine ⟨_, ?_, g1, g2⟩
  have e3 : yup F 31 0 3 = 0 := by rw [yup_ne (by omega), hr.1.1, hk]; exact nI_0
  have E := e_198 (sv := sv) (d := d + 1) (x := nI 1) (h := zup h m (13, zMF m (yup F 31 0))) (m := m) (F := yup F 31 0) zMo_up
  rw [yup_yup, zup_up] at E
  simp only [zc_296, zs_296_0, zs_296_1, zs_296_2, zs_296_5, zs_296_6, zs_296_9, zs_296_12, zs_296_13, zs_296_14, zs_296_17, zs_296_18, zs_296_19, zs_296_20, zs_296_23, zs_296_24, zs_296_25, zs_296_28, zs_296_29, zs_296_30, zs_296_31, zs_296_34, zs_296_37, zs_296_38, zs_296_41, zs_296_42, zs_296_43, zs_296_46, zs_296_49, zs_296_50, zs_296_53, zs_296_54, zs_296_55, zs_296_56, zs_296_57, zs_296_61, zs_296_64, zs_296_65, zs_296_68, g, zmp_31, zup_at, zmf_3, e3, zrc_13v, E, zbk_v, zts_s, ↓reduceIte]
theorem e_298n (hM : zMdl h m w th) (hk : w.2.2.1 = false) : zMC m h (zcall zP sv (d + 3) 298 [.ref m] h) 0 w (nI 1) := by
  obtain ⟨F, g, g1, g2, hw, hT, hr, hA⟩ := zMdl_31 (x := nI 1) hM
  refine ⟨_, ?_, g1, g2⟩
  have e5 : yup F 31 0 5 = 0 := by rw [yup_ne (by omega), hr.1.2.1, hk]; rfl
  have E := e_198 (sv := sv) (d := d + 1) (x := nI 1) (h := zup h m (13, zMF m (yup F 31 0))) (m := m) (F := yup F 31 0) zMo_up
  rw [yup_yup, zup_up] at E
  simp only [zc_298, zs_298_0, zs_298_1, zs_298_2, zs_298_5, zs_298_6, zs_298_9, zs_298_12, zs_298_13, zs_298_14, zs_298_17, zs_298_18, zs_298_19, zs_298_20, zs_298_21, zs_298_24, zs_298_27, zs_298_28, zs_298_31, zs_298_32, zs_298_33, zs_298_36, zs_298_37, zs_298_38, zs_298_42, zs_298_45, zs_298_46, zs_298_47, zs_298_50, zs_298_51, zs_298_54, zs_298_55, zs_298_56, g, zmp_31, zup_at, zmf_5, e5, zrc_13v, E, zbk_v, zts_s, ↓reduceIte]
theorem zWk_n {h h' : zH} {F G : Nat → Int32} {A B : yA} {N : List Int32} (hw : zWk h m F A) (h0 : h'.1 m = (13, zMF m G)) (hN : zTab h' (m + 1) N) (hn : yNow N B) (hk : ∀ q, m + 5 ≤ q → q < m + 16 → h'.1 q = h.1 q) : zWk h' m G B := by
  obtain ⟨_, _, ⟨p, p1⟩, ⟨p', p2⟩, ⟨S, T, s1, s2, s3, s4⟩, c2, c3, c4, c5, c6⟩ := hw
  exact ⟨h0, ⟨N, hN, hn⟩, ⟨p, zLst_cg p1 (hk _ (by omega) (by omega)) (hk _ (by omega) (by omega))⟩, ⟨p', zLst_cg p2 (hk _ (by omega) (by omega)) (hk _ (by omega) (by omega))⟩, ⟨S, T, (hk _ (by omega) (by omega)).trans s1, s2, (hk _ (by omega) (by omega)).trans s3, s4⟩, zArr_cg c2 (hk _ (by omega) (by omega)), zArr_cg c3 (hk _ (by omega) (by omega)), zArr_cg c4 (hk _ (by omega) (by omega)), zArr_cg c5 (hk _ (by omega) (by omega)), zArr_cg c6 (hk _ (by omega) (by omega))⟩
theorem e_296 {A : yA} {HA : List yA} (hM : zMdl h m w th) (hk : yhis w = A :: HA) (hok : yAok A) : zMC m h (zcall zP sv (d + 3) 296 [.ref m] h) (nI HA.length) (ysh (ysc w A) HA) 0 := by
  obtain ⟨F, g, _, _, hw, ⟨T, hT⟩, hr, hA⟩ := zMdl_31 (x := 0) hM
  obtain ⟨⟨a1, a2, a3, a4, a5, a6⟩, ⟨K, b1, b2, b3⟩, ⟨S, c1, c2⟩, e1, e2⟩ := hr
  rw [hk, List.length_cons] at a1 a6
  obtain ⟨_, ⟨N, hN, hn⟩, _⟩ := id hw
  have e3 : yup F 31 0 3 = nI (HA.length + 1) := by rw [yup_ne (by omega), a1]
  have n0 : ¬ nI (HA.length + 1) = 0 := nI_ne0 (by omega) (by omega)
  obtain ⟨h', N', e, q1, q2, q3, q4⟩ := e_296l (sv := sv) (d := d + 2) (m := m) (F := yup (yup F 31 0) 3 (nI HA.length)) (u := HA.length) (K := K) (by omega) yup_eq b2 387 0 (zup h m (13, zMF m (yup (yup F 31 0) 3 (nI HA.length)))) N (Nat.zero_add _) zup_at (by rw [zup_ne (by omega), b1]) (zTab_cg hN (zup_ne (by omega))) (fun i hi => absurd hi (Nat.not_lt_zero i))
  rw [nI_0] at e
  obtain ⟨N0, z1, z2⟩ := b3 0 A (by rw [hk]; rfl)
  have hlen : (yhis w).length - 1 - 0 = HA.length := by rw [hk, List.length_cons]; omega
  rw [hlen] at z2
  obtain rfl : N' = N0 := yl_ext q1.2 z1.1 (fun i hi => by rw [q2 i hi, z2 i hi])
  have fr : ∀ q, q ≠ m → q ≠ m + 1 → h'.1 q = h.1 q := fun q n0 n1 => by rw [q3 q n1, zup_ne n0]
  refine ⟨h', ?_, ⟨yup (yup F 31 0) 3 (nI HA.length), by rw [yup_ne (by omega), yup_eq], zWk_n hw (by rw [q3 m (by omega), zup_at]) q1 z1 (fun q n1 n2 => fr q (by omega) (by omega)), ⟨T, zTab_cg hT (fr _ (by omega) (by omega))⟩, ⟨⟨yup_eq, by rw [yup_ne (by omega), yup_ne (by omega)]; exact a2, by rw [yup_ne (by omega), yup_ne (by omega)]; exact a3, by rw [yup_ne (by omega), yup_ne (by omega)]; exact a4, by rw [yup_ne (by omega), yup_ne (by omega)]; exact a5, by show HA.length ≤ 8; omega⟩, ⟨K, (fr _ (by omega) (by omega)).trans b1, b2, fun j B hB => ?_⟩, ⟨S, zTab_cg c1 (fr _ (by omega) (by omega)), c2⟩, zTx_cg e1 (fr _ (by omega) (by omega)), zTx_cg e2 (fr _ (by omega) (by omega))⟩, hok⟩, ⟨fun q hq => fr q (by omega) (by omega), q4⟩⟩
  · rw [zc_296]
    simp (disch := exact znw_u) only [zs_296_0, zs_296_1, zs_296_2, zs_296_5, zs_296_6, zs_296_9, zs_296_18, zs_296_19, zs_296_20, zs_296_23, zs_296_24, zs_296_25, zs_296_28, zs_296_29, g, zmp_31, zup_at, zmf_3, e3, if_neg n0, nI_m, zmp_3, zup_up]
    exact e
  · have hB2 : HA[j]? = some B := hB
    have hj := (List.getElem?_eq_some_iff.mp hB2).1
    obtain ⟨N1, y1, y2⟩ := b3 (j + 1) B (by rw [hk]; exact hB2)
    refine ⟨N1, y1, fun i hi => ?_⟩
    have z := y2 i hi
    rw [hk, List.length_cons, show HA.length + 1 - 1 - (j + 1) = HA.length - 1 - j by omega] at z
    exact z
theorem e_298 (hM : zMdl h m w th) (hk : w.2.2.1 = true) (hok : yAok (ykep w)) : zMC m h (zcall zP sv (d + 3) 298 [.ref m] h) (nI (ykep w).1.length) (ysh (ysc w (ykep w)) []) 0 := by
  obtain ⟨F, g, _, _, hw, ⟨T, hT⟩, hr, hA⟩ := zMdl_31 (x := 0) hM
  obtain ⟨⟨a1, a2, a3, a4, a5, a6⟩, ⟨K, b1, b2, b3⟩, ⟨S, c1, c2⟩, e1, e2⟩ := hr
  obtain ⟨_, ⟨N, hN, hn⟩, _⟩ := id hw
  have hS := c2 hk
  have e5 : yup F 31 0 5 = nI 1 := by rw [yup_ne (by omega), a2, hk]; rfl
  obtain ⟨h', e, q1, q3, q4⟩ := e_298l (sv := sv) (d := d + 2) (m := m) (F := yup F 31 0) c1.2 387 0 (zup h m (13, zMF m (yup F 31 0))) N (Nat.zero_add _) zup_at (by rw [zup_ne (by omega)]; exact c1.1) (zTab_cg hN (zup_ne (by omega))) (fun i hi => absurd hi (Nat.not_lt_zero i))
  rw [nI_0] at e
  have fr : ∀ q, q ≠ m → q ≠ m + 1 → h'.1 q = h.1 q := fun q n0 n1 => by rw [q3 q n1, zup_ne n0]
  have m1 : h'.1 m = (13, zMF m (yup F 31 0)) := by rw [q3 m (by omega), zup_at]
  have q1' := q1.1
  have e0 := yNow_0 hS rfl
  refine ⟨zup h' m (13, zMF m (yup (yup F 31 0) 3 0)), ?_, ⟨yup (yup F 31 0) 3 0, by rw [yup_ne (by omega), yup_eq], zWk_n hw zup_at (zTab_cg q1 (zup_ne (by omega))) hS (fun q n1 n2 => by rw [zup_ne (by omega), fr q (by omega) (by omega)]), ⟨T, zTab_cg hT (by rw [zup_ne (by omega), fr _ (by omega) (by omega)])⟩, ⟨⟨yup_eq.trans nI_0.symm, by rw [yup_ne (by omega), yup_ne (by omega)]; exact a2, by rw [yup_ne (by omega), yup_ne (by omega)]; exact a3, by rw [yup_ne (by omega), yup_ne (by omega)]; exact a4, by rw [yup_ne (by omega), yup_ne (by omega)]; exact a5, Nat.zero_le _⟩, ⟨K, by rw [zup_ne (by omega), fr _ (by omega) (by omega), b1], b2, fun j B hB => by cases hB⟩, ⟨S, zTab_cg c1 (by rw [zup_ne (by omega), fr _ (by omega) (by omega)]), c2⟩, zTx_cg e1 (by rw [zup_ne (by omega), fr _ (by omega) (by omega)]), zTx_cg e2 (by rw [zup_ne (by omega), fr _ (by omega) (by omega)])⟩, hok⟩, ⟨fun q hq => by rw [zup_ne (by omega), fr q (by omega) (by omega)], q4⟩⟩
  rw [zc_298]
  have hne : m + 1 ≠ m := by omega
  simp (disch := exact znw_u) only [zs_298_0, zs_298_1, zs_298_2, zs_298_5, zs_298_6, zs_298_9, zs_298_18, zs_298_19, g, zmp_31, zup_at, zmf_5, e5, nI_1e0, ↓reduceIte]
  rw [e]
  simp (disch := exact hne) only [zs_298_0, zs_298_1, zs_298_2, zs_298_5, zs_298_6, zs_298_9, zs_298_12, zs_298_13, zs_298_14, zs_298_17, zs_298_18, zs_298_19, zs_298_21, zs_298_24, zs_298_27, zs_298_28, zs_298_31, zs_298_32, zs_298_33, zs_298_36, zs_298_37, zs_298_38, zs_298_42, zs_298_45, zs_298_46, zs_298_47, zs_298_50, zs_298_51, zs_298_54, zs_298_55, zs_298_56, m1, zmp_3, zmf_0, zup_at, zup_ne, q1', e0]
end ZUN

section ZSV
variable {sv : Nat → Value} {d : Nat} {m : Nat} {F : Nat → Int32} {h : zH} {w : yW} {th : Int32}
theorem e_297 (hM : zMdl h m w th) : zMC m h (zcall zP sv (d + 3) 297 [.ref m] h) (nI (ycur w).1.length) (ysi (ysk w (ycur w)) true) 0 := by
  obtain ⟨F, g, _, _, hw, ⟨T, hT⟩, hr, hA⟩ := zMdl_31 (x := 0) hM
  obtain ⟨⟨a1, a2, a3, a4, a5, a6⟩, b, ⟨S, c1, c2⟩, e1, e2⟩ := hr
  obtain ⟨_, ⟨N, hN, hn⟩, _⟩ := id hw
  obtain ⟨n0, N', rfl⟩ : ∃ n0 N', N = n0 :: N' := by
    cases N with
    | nil => exact absurd hN.2 (by decide)
    | cons a b => exact ⟨a, b, rfl⟩
  have hn0 : n0 = nI (ycur w).1.length := Option.some.inj hn.2.1
  have hl : N'.length = 386 := by
    have z := hN.2
    rw [List.length_cons] at z
    omega
  have e := c_297x (sv := sv) (d := d + 2) (h := h) (r := m) (p := m + 1) (q := m + 4) (A := N'.map Value.int) (B := S.map Value.int) (c := n0) g hN.1 c1.1 (by omega) (by omega) (by omega) (by rw [List.length_map, hl]) (by rw [List.length_map, c1.2]) (fun i hi => ⟨(n0 :: N')[i]'(by rw [hN.2]; exact hi), by
    show ((n0 :: N').map Value.int)[i]? = _
    rw [List.getElem?_map, List.getElem?_eq_getElem (by rw [hN.2]; exact hi)]; rfl⟩)
  rw [hn0] at e
  refine ⟨zup (zup h m (13, zMF m (yup (yup F 31 0) 5 (nI 1)))) (m + 4) (20, (n0 :: N').map Value.int), by rw [← hn0] at e ⊢; exact e, ⟨yup (yup F 31 0) 5 (nI 1), by rw [yup_ne (by omega), yup_eq], zWk_cg hw (by rw [zup_ne (by omega), zup_at]) (fun q hq => by rw [zup_ne (by omega), zup_ne (by omega)]), ⟨T, zTab_cg hT (by rw [zup_ne (by omega), zup_ne (by omega)])⟩, ⟨⟨by rw [yup_ne (by omega), yup_ne (by omega)]; exact a1, yup_eq, by rw [yup_ne (by omega), yup_ne (by omega)]; exact a3, by rw [yup_ne (by omega), yup_ne (by omega)]; exact a4, by rw [yup_ne (by omega), yup_ne (by omega)]; exact a5, a6⟩, zKep_cg b (by rw [zup_ne (by omega), zup_ne (by omega)]), ⟨n0 :: N', ⟨zup_at, hN.2⟩, fun _ => hn⟩, zTx_cg e1 (by rw [zup_ne (by omega), zup_ne (by omega)]), zTx_cg e2 (by rw [zup_ne (by omega), zup_ne (by omega)])⟩, hA⟩, ⟨fun q hq => by rw [zup_ne (by omega), zup_ne (by omega)], rfl⟩⟩
/-- a question that only resets thrown -/
theorem e_249 (hM : zMdl h m w th) : zMC m h (zcall zP sv (d + 3) 249 [.ref m] h) (nI (ycur w).1.length) w 0 := by
  obtain ⟨F, g, g1, g2, hw, _, hr, hA⟩ := zMdl_31 (x := 0) hM
  obtain ⟨_, ⟨N, hN, hn⟩, _⟩ := id hw
  have hN1 := hN.1
  have e0 := yNow_0 hn rfl
  refine ⟨_, ?_, g1, g2⟩
  have hne : m + 1 ≠ m := by omega
  simp (disch := exact hne) only [zc_249, zs_249_0, zs_249_1, zs_249_2, zs_249_5, zs_249_6, zs_249_9, zs_249_10, zs_249_11, g, zmp_31, zmf_0, zup_at, zup_ne, hN1, e0]
theorem e_251 (hM : zMdl h m w th) : zMC m h (zcall zP sv (d + 3) 251 [.ref m] h) (ycur w).2.2.1 w 0 := by
  obtain ⟨F, g, g1, g2, hw, _, hr, hA⟩ := zMdl_31 (x := 0) hM
  obtain ⟨_, ⟨N, hN, hn⟩, _⟩ := id hw
  have hN1 := hN.1
  have e0 : ∀ Kv, zael (20, N.map Value.int) 20 (nI 1) Kv = Kv (.int (ycur w).2.2.1) := fun Kv => zaelv (by rw [List.getElem?_map, hn.2.2.1]; rfl) (by decide)
  refine ⟨_, ?_, g1, g2⟩
  have hne : m + 1 ≠ m := by omega
  simp (disch := exact hne) only [zc_251, zs_251_0, zs_251_1, zs_251_2, zs_251_5, zs_251_6, zs_251_9, zs_251_10, zs_251_11, g, zmp_31, zmf_0, zup_at, zup_ne, hN1, e0]
theorem e_290 (hM : zMdl h m w th) : zMC m h (zcall zP sv (d + 3) 290 [.ref m] h) (ycur w).2.2.2 w 0 := by
  obtain ⟨F, g, g1, g2, hw, _, hr, hA⟩ := zMdl_31 (x := 0) hM
  obtain ⟨_, ⟨N, hN, hn⟩, _⟩ := id hw
  have hN1 := hN.1
  have e0 : ∀ Kv, zael (20, N.map Value.int) 20 (nI 2) Kv = Kv (.int (ycur w).2.2.2) := fun Kv => zaelv (by rw [List.getElem?_map, hn.2.2.2.1]; rfl) (by decide)
  refine ⟨_, ?_, g1, g2⟩
  have hne : m + 1 ≠ m := by omega
  simp (disch := exact hne) only [zc_290, zs_290_0, zs_290_1, zs_290_2, zs_290_5, zs_290_6, zs_290_9, zs_290_10, zs_290_11, g, zmp_31, zmf_0, zup_at, zup_ne, hN1, e0]
theorem e_295 (hM : zMdl h m w th) : zMC m h (zcall zP sv (d + 3) 295 [.ref m] h) (nI (yhis w).length) w 0 := by
  obtain ⟨F, g, g1, g2, hw, _, hr, hA⟩ := zMdl_31 (x := 0) hM
  have e3 : yup F 31 0 3 = nI (yhis w).length := by rw [yup_ne (by omega), hr.1.1]
  refine ⟨_, ?_, g1, g2⟩
  simp only [zc_295, zs_295_0, zs_295_1, zs_295_2, zs_295_5, zs_295_6, zs_295_9, g, zmp_31, zmf_3, zup_at, e3]
theorem e_293 (hM : zMdl h m w th) : zMC m h (zcall zP sv (d + 3) 293 [.ref m] h) (nI 1) w 0 := by
  obtain ⟨F, g, g1, g2, hw, _, hr, hA⟩ := zMdl_31 (x := 0) hM
  refine ⟨_, ?_, g1, g2⟩
  simp only [zc_293, zs_293_0, zs_293_1, zs_293_2, zs_293_5, zs_293_6, g, zmp_31, zgd_t, zty_51]
theorem e_294n (hM : zMdl h m w th) (he : w.2.1 = -1) : zMC m h (zcall zP sv (d + 3) 294 [.ref m] h) 0 w (nI 1) := by
  obtain ⟨F, g, g1, g2, hw, _, hr, hA⟩ := zMdl_31 (x := nI 1) hM
  have e3 : yup F 31 0 29 = -1 := by rw [yup_ne (by omega), hr.1.2.2.2.2.1, he]
  have E := e_198 (sv := sv) (d := d + 1) (x := nI 1) (h := zup h m (13, zMF m (yup F 31 0))) (m := m) (F := yup F 31 0) zMo_up
  rw [yup_yup, zup_up] at E
  have hneg : (-1 : Int32) < 0 := by decide +kernel
  refine ⟨_, ?_, g1, g2⟩
  simp only [zc_294, zs_294_0, zs_294_1, zs_294_2, zs_294_5, zs_294_6, zs_294_9, zs_294_12, zs_294_13, zs_294_14, zs_294_17, zs_294_20, zs_294_21, zs_294_24, g, zmp_31, zmf_29, zup_at, e3, if_pos hneg, zrc_13v, E, zbk_v, zts_s]
theorem e_294 (hM : zMdl h m w th) (he : ¬ w.2.1 < 0) : zMC m h (zcall zP sv (d + 3) 294 [.ref m] h) w.2.1 w 0 := by
  obtain ⟨F, g, g1, g2, hw, _, hr, hA⟩ := zMdl_31 (x := 0) hM
  have e3 : yup F 31 0 29 = w.2.1 := by rw [yup_ne (by omega), hr.1.2.2.2.2.1]
  refine ⟨_, ?_, g1, g2⟩
  simp only [zc_294, zs_294_0, zs_294_1, zs_294_2, zs_294_5, zs_294_6, zs_294_9, zs_294_12, zs_294_13, zs_294_14, zs_294_17, zs_294_20, zs_294_21, zs_294_24, g, zmp_31, zmf_29, zup_at, e3, if_neg he]
end ZSV

/-- the model stands for w and looks at t -/
def zMdL (h : zH) (m : Nat) (w : yW) (t : yT) : Prop := ∃ F : Nat → Int32, F 31 = 0 ∧ F 8 = nI (ysz t) ∧ zLst h (m + 5) (m + 6) (ypr t) ∧ zWk h m F (ycur w) ∧ (∃ T, zTab h (m + 2) T) ∧ zRst h m F w ∧ yAok (ycur w) ∧ ytok t
theorem zMdL_M {h : zH} {m : Nat} {w : yW} {t : yT} (hM : zMdL h m w t) : zMdl h m w 0 := by
  obtain ⟨F, a, _, _, b⟩ := hM
  exact ⟨F, a, b.1, b.2.1, b.2.2.1, b.2.2.2.1⟩
section ZQA
variable {sv : Nat → Value} {d : Nat} {m : Nat} {F : Nat → Int32} {h : zH} {w : yW} {th : Int32} {i : Nat} {t : yT}
theorem e_252x {x : Int32} (hM : zMdl h m w th) (hx : yinF (ycur w) x = false) : ∃ h', zcall zP sv (d + 6) 252 [.ref m, .int x] h = some (.inl (some (.int 0)), h') ∧ zMdl h' m w (nI 1) ∧ zmw m h h' := by
  obtain ⟨F, g, g1, g2, hw, _, hr, hA⟩ := zMdl_31 (x := nI 1) hM
  have E : zcall zP sv (d + 5) 203 [.ref m, .int x] h = _ := e_203x (sv := sv) (d := d + 3) hw hx
  refine ⟨_, ?_, g1, g2⟩
  simp only [zc_252, zs_252_0, zs_252_1, zs_252_2, zs_252_3, zs_252_6, zs_252_9, zs_252_10, zs_252_13, zs_252_14, zs_252_17, zs_252_18, zs_252_21, zs_252_24, zs_252_25, zs_252_26, zs_252_29, zs_252_30, zs_252_33, zs_252_36, zs_252_37, zs_252_40, zs_252_41, g, zrc_13v, E, zbk_v, zts_s, zmp_31, zup_at, zmf_31, yup_eq, nI_1e0, List.cons_append, List.nil_append, zgd_t, zty_50, ↓reduceIte]
theorem e_252 (hM : zMdl h m w th) (hi : (ycur w).1[i]? = some t) : ∃ h', zcall zP sv (d + 6) 252 [.ref m, .int (nI i)] h = some (.inl (some (.int (nI 1))), h') ∧ zMdL h' m w t ∧ zmw m h h' := by
  obtain ⟨F, g, g1, g2, hw, ⟨T, hT⟩, hr, hA⟩ := zMdl_31 (x := 0) hM
  obtain ⟨hm, ⟨N, hN, hn⟩, hs⟩ := id hw
  obtain ⟨⟨p0, l5⟩, ⟨p1, l7⟩, _⟩ := id hs
  have hil := (List.getElem?_eq_some_iff.mp hi).1
  have hlt := ypr_len t
  have E : zcall zP sv (d + 5) 203 [.ref m, .int (nI i)] h = _ := e_203t (sv := sv) (d := d + 3) hm hN hn hil hA.1
  obtain ⟨h1, e2, a1, a2, a3, a4⟩ := e_206 (sv := sv) (d := d + 4) (F := yup F 31 0) (h := zup h m (13, zMF m (yup F 31 0))) (hn.2.2.2.2.2 i t hi) zMo_up (zTab_cg hN (zup_ne (by omega))) (zLst_cg l5 (zup_ne (by omega)) (zup_ne (by omega)))
  rw [hlt] at a1
  have a1' := a1
  unfold zMo at a1'
  have E2 : zcall zP sv (d + 5) 206 [.ref m, .int (nI i)] (zup h m (13, zMF m (yup F 31 0))) = _ := e2
  have fr : ∀ q, q ≠ m → q ≠ m + 5 → q ≠ m + 6 → h1.1 q = h.1 q := fun q n0 n5 n6 => by rw [a3 q n0 n5 n6, zup_ne n0]
  have v31 : yup (yup F 31 0) 8 (nI (ysz t)) 31 = 0 := by rw [yup_ne (by omega), yup_eq]
  refine ⟨h1, ?_, ⟨yup (yup F 31 0) 8 (nI (ysz t)), v31, yup_eq, a2, ⟨a1, ⟨N, zTab_cg hN (fr _ (by omega) (by omega) (by omega)), hn⟩, zScm_of hs a2 (zLst_cg l7 (fr _ (by omega) (by omega) (by omega)) (fr _ (by omega) (by omega) (by omega))) (fun a ha => fr a (by omega) (by omega) (by omega))⟩, ⟨T, zTab_cg hT (fr _ (by omega) (by omega) (by omega))⟩, zRst_cg hr ⟨by rw [yup_ne (by omega), yup_ne (by omega)], by rw [yup_ne (by omega), yup_ne (by omega)], by rw [yup_ne (by omega), yup_ne (by omega)], by rw [yup_ne (by omega), yup_ne (by omega)], by rw [yup_ne (by omega), yup_ne (by omega)]⟩ (fr _ (by omega) (by omega) (by omega)) (fr _ (by omega) (by omega) (by omega)) (fr _ (by omega) (by omega) (by omega)) (fr _ (by omega) (by omega) (by omega)), hA, hA.2.1 t (List.mem_of_getElem? hi)⟩, ⟨fun q hq => fr q (by omega) (by omega) (by omega), a4⟩⟩
  simp only [zc_252, zs_252_0, zs_252_1, zs_252_2, zs_252_3, zs_252_6, zs_252_9, zs_252_10, zs_252_13, zs_252_14, zs_252_17, zs_252_18, zs_252_21, zs_252_24, zs_252_25, zs_252_26, zs_252_29, zs_252_30, zs_252_33, zs_252_36, zs_252_37, zs_252_40, zs_252_41, g, zrc_13v, E, zbk_v, zts_s, zts_n, zmp_31, zup_at, zmf_31, yup_eq, nI_1e0, List.cons_append, List.nil_append, E2, a1', v31, zgd_t, zty_51, ↓reduceIte]
/-- finds over what is looked at -/
theorem zMdL_f {k : Nat} (hk : k < 4) (hM : zMdL h m w t) : ∃ (h' : zH) (N : List Int32), zcall zP sv (d + 3) 213 [.ref m, .int (nI k)] h = some (.inl (some (.int (yfo (ymf k N) t))), h') ∧ zTab h (m + 1) N ∧ yNow N (ycur w) ∧ zMdL h' m w t ∧ zmw m h h' ∧ zFS h' m [yfo (ymf k N) t] 0 (yfs (ymf k N) t) ∧ zfw m h h' := by
  obtain ⟨F, f31, f8, l5, hw, ⟨T, hT⟩, hr, hA, ht⟩ := hM
  obtain ⟨hm, ⟨N, hN, hn⟩, hs⟩ := id hw
  obtain ⟨_, ⟨p1, l7⟩, hsf, c2, c3, c4, c5, c6⟩ := id hs
  obtain ⟨h', e, q1, q2⟩ := e_213 (sv := sv) (d := d) hk ht.1 (by have := ht.2.1; omega) hm f8 l5 hN.1 hN.2 hsf
  have fr : ∀ q, q ≠ m + 9 → q ≠ m + 10 → h'.1 q = h.1 q := q2.1
  have l5' : zLst h' (m + 5) (m + 6) (ypr t) := zLst_cg l5 (fr _ (by omega) (by omega)) (fr _ (by omega) (by omega))
  refine ⟨h', N, e, hN, hn, ⟨F, f31, f8, l5', ⟨by unfold zMo at hm ⊢; rw [fr m (by omega) (by omega), hm], ⟨N, zTab_cg hN (fr _ (by omega) (by omega)), hn⟩, ⟨⟨_, l5'⟩, ⟨_, zLst_cg l7 (fr _ (by omega) (by omega)) (fr _ (by omega) (by omega))⟩, zFS_SF q1, zArr_cg c2 (fr _ (by omega) (by omega)), zArr_cg c3 (fr _ (by omega) (by omega)), zArr_cg c4 (fr _ (by omega) (by omega)), zArr_cg c5 (fr _ (by omega) (by omega)), zArr_cg c6 (fr _ (by omega) (by omega))⟩⟩, ⟨T, zTab_cg hT (fr _ (by omega) (by omega))⟩, zRst_cg hr ⟨rfl, rfl, rfl, rfl, rfl⟩ (fr _ (by omega) (by omega)) (fr _ (by omega) (by omega)) (fr _ (by omega) (by omega)) (fr _ (by omega) (by omega)), hA, ht⟩, ⟨fun q hq => fr q (by omega) (by omega), q2.2⟩, q1, q2⟩
theorem zMdL_rc {X : zR} (hM : zMdL h m w t) : zrc (h.1 m) 13 X = X := by
  obtain ⟨F, _, _, _, hw, _⟩ := hM
  exact zMo_rc hw.1
theorem zMdl_rc {X : zR} (hM : zMdl h m w th) : zrc (h.1 m) 13 X = X := by
  obtain ⟨F, _, hw, _⟩ := hM
  exact zMo_rc hw.1
theorem e_253 (hM : zMdl h m w th) (hi : (ycur w).1[i]? = some t) : zMC m h (zcall zP sv (d + 7) 253 [.ref m, .int (nI i)] h) (nI (ysz t)) w 0 := by
  obtain ⟨h1, e1, m1, k1⟩ := e_252 (sv := sv) (d := d) hM hi
  have r0 : ∀ X : zR, zrc (h.1 m) 13 X = X := fun X => zMdl_rc hM
  refine ⟨h1, ?_, zMdL_M m1, k1⟩
  obtain ⟨F, f31, f8, _, ⟨hm, _⟩, _⟩ := m1
  unfold zMo at hm
  simp only [zc_253, zs_253_0, zs_253_1, zs_253_2, zs_253_5, zs_253_8, zs_253_9, zs_253_12, zs_253_15, zs_253_16, r0, e1, zbk_v, zts_s, nI_1e0, hm, zmf_8, f8, ↓reduceIte]
theorem e_253x {x : Int32} (hM : zMdl h m w th) (hx : yinF (ycur w) x = false) : zMC m h (zcall zP sv (d + 7) 253 [.ref m, .int x] h) 0 w (nI 1) := by
  obtain ⟨h1, e1, m1, k1⟩ := e_252x (sv := sv) (d := d) hM hx
  have r0 : ∀ X : zR, zrc (h.1 m) 13 X = X := fun X => zMdl_rc hM
  refine ⟨h1, ?_, m1, k1⟩
  simp only [zc_253, zs_253_0, zs_253_1, zs_253_2, zs_253_5, zs_253_8, zs_253_9, zs_253_12, zs_253_15, zs_253_16, r0, e1, zbk_v, zts_s, ↓reduceIte]
end ZQA

section ZQB
variable {sv : Nat → Value} {d : Nat} {m : Nat} {F : Nat → Int32} {h : zH} {w : yW} {th : Int32} {i : Nat} {t : yT}
theorem e_254 (hM : zMdl h m w th) (hi : (ycur w).1[i]? = some t) : ∃ N, yNow N (ycur w) ∧ zMC m h (zcall zP sv (d + 7) 254 [.ref m, .int (nI i)] h) (yfo (ymf 1 N) t) w 0 := by
  obtain ⟨h1, e1, m1, k1⟩ := e_252 (sv := sv) (d := d) hM hi
  obtain ⟨h2, N, e2, _, hn, m2, k2, _, _⟩ := zMdL_f (sv := sv) (d := d + 3) (k := 1) (by decide) m1
  have r0 : ∀ X : zR, zrc (h.1 m) 13 X = X := fun X => zMdl_rc hM
  have r1 : ∀ X : zR, zrc (h1.1 m) 13 X = X := fun X => zMdL_rc m1
  have E2 : zcall zP sv (d + 6) 213 [.ref m, .int (nI 1)] h1 = some (.inl (some (.int (yfo (ymf 1 N) t))), h2) := by
    first
    | exact e2
    | (rw [nI_0] at e2; exact e2)
  refine ⟨N, hn, h2, ?_, zMdL_M m2, zmw_tr k1 k2⟩
  simp only [zc_254, zs_254_0, zs_254_1, zs_254_2, zs_254_5, zs_254_8, zs_254_9, zs_254_10, zs_254_13, zs_254_16, zs_254_17, r0, r1, e1, E2, zbk_v, zts_s, nI_1e0, ↓reduceIte]
theorem e_254x {x : Int32} (hM : zMdl h m w th) (hx : yinF (ycur w) x = false) : zMC m h (zcall zP sv (d + 7) 254 [.ref m, .int x] h) 0 w (nI 1) := by
  obtain ⟨h1, e1, m1, k1⟩ := e_252x (sv := sv) (d := d) hM hx
  have r0 : ∀ X : zR, zrc (h.1 m) 13 X = X := fun X => zMdl_rc hM
  refine ⟨h1, ?_, m1, k1⟩
  simp only [zc_254, zs_254_0, zs_254_1, zs_254_2, zs_254_5, zs_254_8, zs_254_9, zs_254_10, zs_254_13, zs_254_16, zs_254_17, r0, e1, zbk_v, zts_s, ↓reduceIte]
theorem e_256 (hM : zMdl h m w th) (hi : (ycur w).1[i]? = some t) : ∃ N, yNow N (ycur w) ∧ zMC m h (zcall zP sv (d + 7) 256 [.ref m, .int (nI i)] h) (yfo (ymf 2 N) t) w 0 := by
  obtain ⟨h1, e1, m1, k1⟩ := e_252 (sv := sv) (d := d) hM hi
  obtain ⟨h2, N, e2, _, hn, m2, k2, _, _⟩ := zMdL_f (sv := sv) (d := d + 3) (k := 2) (by decide) m1
  have r0 : ∀ X : zR, zrc (h.1 m) 13 X = X := fun X => zMdl_rc hM
  have r1 : ∀ X : zR, zrc (h1.1 m) 13 X = X := fun X => zMdL_rc m1
  have E2 : zcall zP sv (d + 6) 213 [.ref m, .int (nI 2)] h1 = some (.inl (some (.int (yfo (ymf 2 N) t))), h2) := by
    first
    | exact e2
    | (rw [nI_0] at e2; exact e2)
  refine ⟨N, hn, h2, ?_, zMdL_M m2, zmw_tr k1 k2⟩
  simp only [zc_256, zs_256_0, zs_256_1, zs_256_2, zs_256_5, zs_256_8, zs_256_9, zs_256_10, zs_256_13, zs_256_16, zs_256_17, r0, r1, e1, E2, zbk_v, zts_s, nI_1e0, ↓reduceIte]
theorem e_256x {x : Int32} (hM : zMdl h m w th) (hx : yinF (ycur w) x = false) : zMC m h (zcall zP sv (d + 7) 256 [.ref m, .int x] h) 0 w (nI 1) := by
  obtain ⟨h1, e1, m1, k1⟩ := e_252x (sv := sv) (d := d) hM hx
  have r0 : ∀ X : zR, zrc (h.1 m) 13 X = X := fun X => zMdl_rc hM
  refine ⟨h1, ?_, m1, k1⟩
  simp only [zc_256, zs_256_0, zs_256_1, zs_256_2, zs_256_5, zs_256_8, zs_256_9, zs_256_10, zs_256_13, zs_256_16, zs_256_17, r0, e1, zbk_v, zts_s, ↓reduceIte]
theorem e_264 (hM : zMdl h m w th) (hi : (ycur w).1[i]? = some t) : ∃ N, yNow N (ycur w) ∧ zMC m h (zcall zP sv (d + 7) 264 [.ref m, .int (nI i)] h) (yfo (ymf 0 N) t) w 0 := by
  obtain ⟨h1, e1, m1, k1⟩ := e_252 (sv := sv) (d := d) hM hi
  obtain ⟨h2, N, e2, _, hn, m2, k2, _, _⟩ := zMdL_f (sv := sv) (d := d + 3) (k := 0) (by decide) m1
  have r0 : ∀ X : zR, zrc (h.1 m) 13 X = X := fun X => zMdl_rc hM
  have r1 : ∀ X : zR, zrc (h1.1 m) 13 X = X := fun X => zMdL_rc m1
  have E2 : zcall zP sv (d + 6) 213 [.ref m, .int 0] h1 = some (.inl (some (.int (yfo (ymf 0 N) t))), h2) := by
    first
    | exact e2
    | (rw [nI_0] at e2; exact e2)
  refine ⟨N, hn, h2, ?_, zMdL_M m2, zmw_tr k1 k2⟩
  simp only [zc_264, zs_264_0, zs_264_1, zs_264_2, zs_264_5, zs_264_8, zs_264_9, zs_264_10, zs_264_13, zs_264_16, zs_264_17, r0, r1, e1, E2, zbk_v, zts_s, nI_1e0, ↓reduceIte]
theorem e_264x {x : Int32} (hM : zMdl h m w th) (hx : yinF (ycur w) x = false) : zMC m h (zcall zP sv (d + 7) 264 [.ref m, .int x] h) 0 w (nI 1) := by
  obtain ⟨h1, e1, m1, k1⟩ := e_252x (sv := sv) (d := d) hM hx
  have r0 : ∀ X : zR, zrc (h.1 m) 13 X = X := fun X => zMdl_rc hM
  refine ⟨h1, ?_, m1, k1⟩
  simp only [zc_264, zs_264_0, zs_264_1, zs_264_2, zs_264_5, zs_264_8, zs_264_9, zs_264_10, zs_264_13, zs_264_16, zs_264_17, r0, e1, zbk_v, zts_s, ↓reduceIte]
theorem e_268 (hM : zMdl h m w th) (hi : (ycur w).1[i]? = some t) : ∃ N, yNow N (ycur w) ∧ zMC m h (zcall zP sv (d + 7) 268 [.ref m, .int (nI i)] h) (yfo (ymf 3 N) t) w 0 := by
  obtain ⟨h1, e1, m1, k1⟩ := e_252 (sv := sv) (d := d) hM hi
  obtain ⟨h2, N, e2, _, hn, m2, k2, _, _⟩ := zMdL_f (sv := sv) (d := d + 3) (k := 3) (by decide) m1
  have r0 : ∀ X : zR, zrc (h.1 m) 13 X = X := fun X => zMdl_rc hM
  have r1 : ∀ X : zR, zrc (h1.1 m) 13 X = X := fun X => zMdL_rc m1
  have E2 : zcall zP sv (d + 6) 213 [.ref m, .int (nI 3)] h1 = some (.inl (some (.int (yfo (ymf 3 N) t))), h2) := by
    first
    | exact e2
    | (rw [nI_0] at e2; exact e2)
  refine ⟨N, hn, h2, ?_, zMdL_M m2, zmw_tr k1 k2⟩
  simp only [zc_268, zs_268_0, zs_268_1, zs_268_2, zs_268_5, zs_268_8, zs_268_9, zs_268_10, zs_268_13, zs_268_16, zs_268_17, r0, r1, e1, E2, zbk_v, zts_s, nI_1e0, ↓reduceIte]
theorem e_268x {x : Int32} (hM : zMdl h m w th) (hx : yinF (ycur w) x = false) : zMC m h (zcall zP sv (d + 7) 268 [.ref m, .int x] h) 0 w (nI 1) := by
  obtain ⟨h1, e1, m1, k1⟩ := e_252x (sv := sv) (d := d) hM hx
  have r0 : ∀ X : zR, zrc (h.1 m) 13 X = X := fun X => zMdl_rc hM
  refine ⟨h1, ?_, m1, k1⟩
  simp only [zc_268, zs_268_0, zs_268_1, zs_268_2, zs_268_5, zs_268_8, zs_268_9, zs_268_10, zs_268_13, zs_268_16, zs_268_17, r0, e1, zbk_v, zts_s, ↓reduceIte]
theorem e_265w {x a th' : Int32} (hM : zMdl h m w th) (hc : zMC m h (zcall zP sv (d + 7) 264 [.ref m, .int x] h) a w th') : zMC m h (zcall zP sv (d + 8) 265 [.ref m, .int x] h) a w th' := by
  obtain ⟨h1, e1, m1, k1⟩ := hc
  have r0 : ∀ X : zR, zrc (h.1 m) 13 X = X := fun X => zMdl_rc hM
  refine ⟨h1, ?_, m1, k1⟩
  simp only [zc_265, zs_265_0, zs_265_1, zs_265_2, zs_265_5, r0, e1, zbk_v, zts_s]
theorem e_269w {x a th' : Int32} (hM : zMdl h m w th) (hc : zMC m h (zcall zP sv (d + 7) 268 [.ref m, .int x] h) a w th') : zMC m h (zcall zP sv (d + 8) 269 [.ref m, .int x] h) a w th' := by
  obtain ⟨h1, e1, m1, k1⟩ := hc
  have r0 : ∀ X : zR, zrc (h.1 m) 13 X = X := fun X => zMdl_rc hM
  refine ⟨h1, ?_, m1, k1⟩
  simp only [zc_269, zs_269_0, zs_269_1, zs_269_2, zs_269_5, r0, e1, zbk_v, zts_s]
theorem zMdL_31 {x : Int32} (hM : zMdL h m w t) : ∃ F : Nat → Int32, h.1 m = (13, zMF m F) ∧ zMdl (zup h m (13, zMF m (yup F 31 x))) m w x ∧ zmw m h (zup h m (13, zMF m (yup F 31 x))) := by
  obtain ⟨F, g, g1, g2, _⟩ := zMdl_31 (x := x) (zMdL_M hM)
  exact ⟨F, g, g1, g2⟩
theorem e_255x {x c : Int32} (hM : zMdl h m w th) (hx : yinF (ycur w) x = false) : zMC m h (zcall zP sv (d + 7) 255 [.ref m, .int x, .int c] h) 0 w (nI 1) := by
  obtain ⟨h1, e1, m1, k1⟩ := e_252x (sv := sv) (d := d) hM hx
  have r0 : ∀ X : zR, zrc (h.1 m) 13 X = X := fun X => zMdl_rc hM
  refine ⟨h1, ?_, m1, k1⟩
  simp only [zc_255, zs_255_0, zs_255_1, zs_255_2, zs_255_5, zs_255_8, zs_255_9, zs_255_10, zs_255_11, zs_255_14, zs_255_17, zs_255_18, zs_255_19, zs_255_21, zs_255_22, zs_255_25, zs_255_28, zs_255_29, zs_255_30, zs_255_33, r0, e1, zbk_v, zts_s, ↓reduceIte]
theorem e_255a {c : Int32} (hM : zMdl h m w th) (hi : (ycur w).1[i]? = some t) (hc : ylet c = false) : zMC m h (zcall zP sv (d + 7) 255 [.ref m, .int (nI i), .int c] h) 0 w (nI 2) := by
  obtain ⟨h1, e1, m1, k1⟩ := e_252 (sv := sv) (d := d) hM hi
  have r0 : ∀ X : zR, zrc (h.1 m) 13 X = X := fun X => zMdl_rc hM
  have r1 : ∀ X : zR, zrc (h1.1 m) 13 X = X := fun X => zMdL_rc m1
  have E2 : zcall zP sv (d + 6) 204 [.int c] h1 = _ := e_204 (sv := sv) (d := d + 4) (c := c)
  rw [hc, yb_f] at E2
  obtain ⟨F, g, g1, g2⟩ := zMdL_31 (x := nI 2) m1
  have E3 : zcall zP sv (d + 6) 198 [.ref m, .int (nI 2)] h1 = _ := e_198 (sv := sv) (d := d + 5) (x := nI 2) (F := F) g
  refine ⟨_, ?_, g1, zmw_tr k1 g2⟩
  simp only [zc_255, zs_255_0, zs_255_1, zs_255_2, zs_255_5, zs_255_8, zs_255_9, zs_255_10, zs_255_11, zs_255_14, zs_255_17, zs_255_18, zs_255_19, zs_255_21, zs_255_22, zs_255_25, zs_255_28, zs_255_29, zs_255_30, zs_255_33, r0, r1, e1, E2, E3, zbk_v, zts_s, nI_1e0, ↓reduceIte]
theorem e_255 {c : Int32} (hM : zMdl h m w th) (hi : (ycur w).1[i]? = some t) (hc : ylet c = true) : zMC m h (zcall zP sv (d + 7) 255 [.ref m, .int (nI i), .int c] h) (nI (yct (c - nI 97) (ypr t))) w 0 := by
  obtain ⟨h1, e1, m1, k1⟩ := e_252 (sv := sv) (d := d) hM hi
  have r0 : ∀ X : zR, zrc (h.1 m) 13 X = X := fun X => zMdl_rc hM
  have r1 : ∀ X : zR, zrc (h1.1 m) 13 X = X := fun X => zMdL_rc m1
  have E2 : zcall zP sv (d + 6) 204 [.int c] h1 = _ := e_204 (sv := sv) (d := d + 4) (c := c)
  rw [hc, yb_t] at E2
  have m1' := zMdL_M m1
  obtain ⟨F, f31, f8, l5, ⟨hm, _⟩, _⟩ := m1
  have E3 : zcall zP sv (d + 6) 242 [.ref m, .int (c - nI 97)] h1 = _ := e_242 (sv := sv) (d := d + 5) (x := c - nI 97) hm (by rw [f8, ypr_len]) l5
  refine ⟨h1, ?_, m1', k1⟩
  simp only [zc_255, zs_255_0, zs_255_1, zs_255_2, zs_255_5, zs_255_8, zs_255_9, zs_255_10, zs_255_11, zs_255_14, zs_255_17, zs_255_18, zs_255_19, zs_255_21, zs_255_22, zs_255_25, zs_255_28, zs_255_29, zs_255_30, zs_255_33, r0, r1, e1, E2, E3, zbk_v, zts_s, nI_1e0, ↓reduceIte]
theorem e_250x {c : Int32} (hM : zMdl h m w th) (hc : ylet c = false) : zMC m h (zcall zP sv (d + 7) 250 [.ref m, .int c] h) 0 w (nI 1) := by
  obtain ⟨F, g, g1, g2, hw, _, hr, hA⟩ := zMdl_31 (x := nI 1) hM
  have E2 : zcall zP sv (d + 6) 204 [.int c] h = _ := e_204 (sv := sv) (d := d + 4) (c := c)
  rw [hc, yb_f] at E2
  refine ⟨_, ?_, g1, g2⟩
  simp only [zc_250, zs_250_0, zs_250_1, zs_250_2, zs_250_5, zs_250_8, zs_250_9, zs_250_12, zs_250_13, zs_250_16, zs_250_17, zs_250_20, zs_250_23, zs_250_24, zs_250_27, zs_250_28, zs_250_29, zs_250_30, zs_250_32, zs_250_33, zs_250_34, zs_250_37, zs_250_38, g, E2, zmp_31, zmf_31, zup_at, yup_eq, zbk_v, zts_s, nI_1e0, List.cons_append, List.nil_append, ↓reduceIte]
theorem e_250 {c : Int32} (hM : zMdl h m w th) (hc : ylet c = true) : zMC m h (zcall zP sv (d + 7) 250 [.ref m, .int c] h) (yg (ycur w).2.1 (c - nI 97)) w 0 := by
  obtain ⟨F, g, g1, g2, hw, _, hr, hA⟩ := zMdl_31 (x := 0) hM
  obtain ⟨v, hv, rfl⟩ := ylet_of hc
  obtain ⟨_, ⟨N, hN, hn⟩, _⟩ := id hw
  have hN1 := hN.1
  have hA6 := hA.2.2
  have E2 : zcall zP sv (d + 6) 204 [.int (nI (97 + v))] h = _ := e_204 (sv := sv) (d := d + 4) (c := nI (97 + v))
  rw [hc, yb_t] at E2
  have hx : (ycur w).2.1[v]? = some ((ycur w).2.1.getD v 0) := by
    rw [List.getD_eq_getElem?_getD, List.getElem?_eq_getElem (by omega)]
    rfl
  have e0 : ∀ Kv, zael (20, N.map Value.int) 20 (nI (3 + v)) Kv = Kv (.int ((ycur w).2.1.getD v 0)) := fun Kv => zaelv (by rw [List.getElem?_map, hn.2.2.2.2.1 v _ hx]; rfl) (by omega)
  rw [nI_97, yg_nn (by omega)]
  refine ⟨_, ?_, g1, g2⟩
  have hne : m + 1 ≠ m := by omega
  simp (disch := exact hne) only [zc_250, zs_250_0, zs_250_1, zs_250_2, zs_250_5, zs_250_8, zs_250_9, zs_250_12, zs_250_13, zs_250_16, zs_250_17, zs_250_20, zs_250_23, zs_250_24, zs_250_27, zs_250_28, zs_250_29, zs_250_30, zs_250_32, zs_250_33, zs_250_34, zs_250_37, zs_250_38, g, E2, zmp_31, zmf_31, zmf_0, zup_at, zup_ne, yup_eq, hN1, nI_397, e0, zbk_v, zts_s, nI_1e0, List.cons_append, List.nil_append, ↓reduceIte]
end ZQB

def yvc (p : yP) : Nat := p.countP (fun q => decide (q.1 = nI 118))
section ZQC
variable {sv : Nat → Value} {d : Nat} {m : Nat} {F : Nat → Int32} {h : zH} {w : yW} {th : Int32} {i : Nat} {t : yT}
theorem yvc_tk {p : yP} {j : Nat} {y : Int32 × Int32} (hy : p[j]? = some y) : yvc (p.take (j + 1)) = yvc (p.take j) + (if y.1 = nI 118 then 1 else 0) := by
  unfold yvc
  rw [List.take_add_one, hy, List.countP_append]
  show _ + List.countP _ [y] = _
  rw [List.countP_singleton]
  by_cases c : y.1 = nI 118
  · rw [if_pos (decide_eq_true c), if_pos c]
  · rw [if_neg (by rw [decide_eq_false c]; decide), if_neg c]
theorem e_257l {l1 : Slot} {p : yP} (hm : h.1 m = (13, zMF m F)) (h8 : F 8 = nI p.length) (hl : zLst h (m + 5) (m + 6) p) : ∀ n j, j + n = p.length → zrun zP sv (zcall zP sv d) 257 14 [.val (.ref m), l1, .val (.int (nI (yvc (p.take j)))), .val (.int (nI j))] [] h = zrun zP sv (zcall zP sv d) 257 42 [.val (.ref m), l1, .val (.int (nI (yvc p))), .val (.int (nI p.length))] [] h := by
  have hlp : p.length ≤ 700 := by
    obtain ⟨_, _, _, _, _, _, _, _, b⟩ := hl
    exact b
  intro n
  induction n with
  | zero =>
    intro j hj
    obtain rfl : j = p.length := by omega
    simp only [zs_257_14, zs_257_15, zs_257_16, zs_257_19, hm, zmf_8, h8, Int32.lt_irrefl, ↓reduceIte, List.take_length]
  | succ n ih =>
    intro j hj
    obtain ⟨y, hy⟩ : ∃ y, p[j]? = some y := ⟨_, List.getElem?_eq_getElem (by omega)⟩
    obtain ⟨A, B, a1, a2, a3, a4, a5⟩ := e_look (k := y.1) (v := y.2) hl hy
    have e := ih (j + 1) (by omega)
    have g1 : nI j < nI p.length := nI_lt (by omega) (by omega)
    rw [yvc_tk hy] at e
    rw [← e]
    have eb : ∀ c : Nat, zrun zP sv (zcall zP sv d) 257 36 [.val (.ref m), l1, .val (.int (nI c)), .val (.int (nI j))] [] h = zrun zP sv (zcall zP sv d) 257 14 [.val (.ref m), l1, .val (.int (nI c)), .val (.int (nI (j + 1)))] [] h := fun c => by rw [zs_257_36, zs_257_39, nI_1']
    rw [← eb]
    by_cases c1 : y.1 = nI 118
    · rw [if_pos c1]
      simp only [zs_257_14, zs_257_15, zs_257_16, zs_257_19, zs_257_22, zs_257_23, zs_257_26, zs_257_27, zs_257_28, zs_257_30, zs_257_33, hm, zmf_6, zmf_8, h8, if_pos g1, a1, a3, c1, ↓reduceIte, nI_1']
    · rw [if_neg c1, Nat.add_zero]
      simp only [zs_257_14, zs_257_15, zs_257_16, zs_257_19, zs_257_22, zs_257_23, zs_257_26, zs_257_27, zs_257_28, zs_257_30, hm, zmf_6, zmf_8, h8, if_pos g1, a1, a3, if_neg c1]
theorem e_257x {x : Int32} (hM : zMdl h m w th) (hx : yinF (ycur w) x = false) : zMC m h (zcall zP sv (d + 7) 257 [.ref m, .int x] h) 0 w (nI 1) := by
  obtain ⟨h1, e1, m1, k1⟩ := e_252x (sv := sv) (d := d) hM hx
  have r0 : ∀ X : zR, zrc (h.1 m) 13 X = X := fun X => zMdl_rc hM
  refine ⟨h1, ?_, m1, k1⟩
  simp only [zc_257, zs_257_0, zs_257_1, zs_257_2, zs_257_5, zs_257_8, zs_257_9, r0, e1, zbk_v, zts_s, zgd_t, zty_50, ↓reduceIte]
theorem e_257 (hM : zMdl h m w th) (hi : (ycur w).1[i]? = some t) : zMC m h (zcall zP sv (d + 7) 257 [.ref m, .int (nI i)] h) (yb (decide (yvc (ypr t) = 0))) w 0 := by
  obtain ⟨h1, e1, m1, k1⟩ := e_252 (sv := sv) (d := d) hM hi
  have r0 : ∀ X : zR, zrc (h.1 m) 13 X = X := fun X => zMdl_rc hM
  have m1' := zMdL_M m1
  obtain ⟨F, f31, f8, l5, ⟨hm, _⟩, _, _, _, ht⟩ := m1
  unfold zMo at hm
  have q := e_257l (sv := sv) (d := d + 6) (l1 := .val (.int (nI i))) hm (by rw [f8, ypr_len]) l5 (ypr t).length 0 (Nat.zero_add _)
  have z0 : yvc ((ypr t).take 0) = 0 := rfl
  rw [z0, nI_0] at q
  have hle : yvc (ypr t) ≤ (ypr t).length := List.countP_le_length
  rw [ypr_len] at hle
  refine ⟨h1, ?_, m1', k1⟩
  simp (disch := first | exact znw_u | exact znw_i) only [zc_257, zs_257_0, zs_257_1, zs_257_2, zs_257_5, zs_257_10, zs_257_11, zs_257_12, zs_257_13, r0, e1, zbk_v, zts_s, nI_1e0, ↓reduceIte]
  rw [q]
  by_cases hv : yvc (ypr t) = 0
  · rw [hv, decide_eq_true rfl, yb_t]
    simp only [zs_257_42, zs_257_43, zs_257_46, zs_257_47, zs_257_51, nI_0, zgd_t, zty_51, ↓reduceIte]
  · have hv0 : ¬ nI (yvc (ypr t)) = 0 := nI_ne0 (by omega) (by have := ht.2.1; omega)
    rw [decide_eq_false hv, yb_f]
    simp only [zs_257_42, zs_257_43, zs_257_50, zs_257_51, if_neg hv0, zgd_t, zty_50]
end ZQC

section ZQD
variable {sv : Nat → Value} {d : Nat} {m : Nat} {F : Nat → Int32} {h : zH} {w : yW} {th : Int32} {i j : Nat} {t u : yT}
theorem e_258a {l1 l2 l4 : Slot} {p : yP} (hk : ynk p) (h8 : F 8 = nI p.length) : ∀ n j (h : zH), j + n = p.length → zMd h m F (p.take j) → zLst h (m + 5) (m + 6) p → ∃ h', zrun zP sv (zcall zP sv (d + 1)) 258 46 [.val (.ref m), l1, l2, .val (.int (nI j)), l4] [] h = zrun zP sv (zcall zP sv (d + 1)) 258 76 [.val (.ref m), l1, l2, .val (.int (nI p.length)), l4] [] h' ∧ zMd h' m F p ∧ zfm m h h' := by
  intro n
  induction n with
  | zero =>
    intro j h hj hm hl
    obtain rfl : j = p.length := by omega
    rw [List.take_length] at hm
    refine ⟨h, ?_, hm, zfm_rfl⟩
    have hm1 := hm.1
    unfold zMo at hm1
    have v8 : yup F 11 (nI p.length) 8 = nI p.length := by rw [yup_ne (by omega), h8]
    simp only [zs_258_46, zs_258_47, zs_258_48, zs_258_51, hm1, zmf_8, v8, Int32.lt_irrefl, ↓reduceIte]
  | succ n ih =>
    intro j h hj hm hl
    obtain ⟨y, hy⟩ : ∃ y, p[j]? = some y := ⟨_, List.getElem?_eq_getElem (by omega)⟩
    obtain ⟨A, B, a1, a2, a3, a4, a5⟩ := e_look (k := y.1) (v := y.2) hl hy
    have hlp : p.length ≤ 700 := by
      obtain ⟨_, _, _, _, _, _, _, _, b⟩ := hl
      exact b
    have hjl : (p.take j).length = j := by rw [List.length_take]; omega
    have hm1 := hm.1
    unfold zMo at hm1
    have v8 : yup F 11 (nI (p.take j).length) 8 = nI p.length := by rw [yup_ne (by omega), h8]
    have g1 : nI j < nI p.length := nI_lt (by omega) (by omega)
    have hr : ∀ X : zR, zrc (h.1 m) 13 X = X := fun X => zMd_rc hm
    obtain ⟨h1, e1, b1, b2⟩ := e_216 (sv := sv) (d := d) (k := y.1) (v := y.2) hm (by omega) (hk y (List.mem_of_getElem? hy))
    have htk : p.take (j + 1) = p.take j ++ [y] := by rw [List.take_add_one, hy]; rfl
    rw [← htk] at b1
    obtain ⟨h', e, q1, q2⟩ := ih (j + 1) h1 (by omega) b1 (zLst_fm hl b2)
    refine ⟨h', ?_, q1, zfm_tr b2 q2⟩
    rw [← e]
    have eb : zrun zP sv (zcall zP sv (d + 1)) 258 70 [.val (.ref m), l1, l2, .val (.int (nI j)), l4] [] h1 = zrun zP sv (zcall zP sv (d + 1)) 258 46 [.val (.ref m), l1, l2, .val (.int (nI (j + 1))), l4] [] h1 := by rw [zs_258_70, zs_258_73, nI_1']
    rw [← eb]
    simp only [zs_258_46, zs_258_47, zs_258_48, zs_258_51, zs_258_54, zs_258_55, zs_258_56, zs_258_59, zs_258_60, zs_258_61, zs_258_62, zs_258_65, zs_258_66, zs_258_67, hm1, zmf_6, zmf_7, zmf_8, v8, if_pos g1, a1, a2, a3, a4, zrc_13v, hr, e1, zbk_v, zts_n]
theorem e_258b {l1 l2 : Slot} {G : Nat → Int32} {p q : yP} {x3 : Int32} (hk : ynk p) (hg : G 11 = nI p.length) (hl2 : q.length + p.length ≤ 700) : ∀ n j (h : zH), j + n = p.length → h.1 m = (13, zMF m (yup G 8 (nI (q.length + j)))) → zLst h (m + 7) (m + 8) p → zLst h (m + 5) (m + 6) (q ++ p.take j) → ∃ h', zrun zP sv (zcall zP sv (d + 1)) 258 89 [.val (.ref m), l1, l2, .val (.int x3), .val (.int (nI j))] [] h = some (.inl (some (.int x3)), h') ∧ h'.1 m = (13, zMF m (yup G 8 (nI (q ++ p).length))) ∧ zLst h' (m + 5) (m + 6) (q ++ p) ∧ (∀ a, a ≠ m → a ≠ m + 5 → a ≠ m + 6 → h'.1 a = h.1 a) ∧ h'.2 = h.2 := by
  intro n
  induction n with
  | zero =>
    intro j h hj hm hp hl
    obtain rfl : j = p.length := by omega
    rw [List.take_length] at hl
    have v11 : yup G 8 (nI (q.length + p.length)) 11 = nI p.length := by rw [yup_ne (by omega), hg]
    refine ⟨h, ?_, by rw [List.length_append]; exact hm, hl, fun _ _ _ _ => rfl, rfl⟩
    simp only [zs_258_89, zs_258_91, zs_258_92, zs_258_95, zs_258_143, zs_258_144, hm, zmf_11, v11, Int32.lt_irrefl, ↓reduceIte]
  | succ n ih =>
    intro j h hj hm hp hl
    obtain ⟨y, hy⟩ : ∃ y, p[j]? = some y := ⟨_, List.getElem?_eq_getElem (by omega)⟩
    obtain ⟨A, B, a1, a2, a3, a4, a5⟩ := e_made (k := y.1) (v := y.2) hp hy
    have hky := hk y (List.mem_of_getElem? hy)
    obtain ⟨A', B', b1, b2, b3, b4, b5, b6, b7⟩ := hl
    have hjl : (q ++ p.take j).length = q.length + j := by rw [List.length_append, List.length_take]; omega
    rw [hjl] at b5 b6
    have s1 : ∀ Kc : zC → zR, zaset (21, A'.map Value.int) 21 (nI (q.length + j)) (.int y.1) Kc = Kc (21, (A'.set (q.length + j) (ynr y.1)).map Value.int) := fun Kc => zsC (by omega) (by omega)
    have s2 : ∀ Kc : zC → zR, zaset (20, B'.map Value.int) 20 (nI (q.length + j)) (.int y.2) Kc = Kc (20, (B'.set (q.length + j) y.2).map Value.int) := fun Kc => zsI (by omega) (by omega)
    have htk : q ++ p.take (j + 1) = (q ++ p.take j) ++ [y] := by rw [List.take_add_one, hy, List.append_assoc]; rfl
    have htl : (q ++ p.take (j + 1)).length = q.length + j + 1 := by rw [htk, List.length_append, hjl]; rfl
    have g1 : nI j < nI p.length := nI_lt (by omega) (by omega)
    have v11 : yup G 8 (nI (q.length + j)) 11 = nI p.length := by rw [yup_ne (by omega), hg]
    have w1 : zLst (zup (zup (zup h (m + 5) (21, (A'.set (q.length + j) y.1).map Value.int)) m (13, zMF m (yup G 8 (nI (q.length + j + 1))))) (m + 6) (20, (B'.set (q.length + j) y.2).map Value.int)) (m + 5) (m + 6) (q ++ p.take (j + 1)) := by
      refine ⟨A'.set (q.length + j) y.1, B'.set (q.length + j) y.2, by rw [zup_ne (by omega), zup_ne (by omega), zup_at], zup_at, by rw [List.length_set, b3], by rw [List.length_set, b4], ?_, ?_, by rw [htl]; omega⟩
      · rw [htl, ytk_set b5 (by omega), htk, List.map_append, List.map_append, List.map_append]; rfl
      · rw [htl, ytk_set b6 (by omega), htk, List.map_append, List.map_append, List.map_append]; rfl
    obtain ⟨h', e, q1, q2, q3, q4⟩ := ih (j + 1) _ (by omega) (by rw [zup_ne (by omega), zup_at]; rfl) (zLst_cg hp (by rw [zup_ne (by omega), zup_ne (by omega), zup_ne (by omega)]) (by rw [zup_ne (by omega), zup_ne (by omega), zup_ne (by omega)])) w1
    refine ⟨h', ?_, q1, q2, fun a n0 n5 n6 => by rw [q3 a n0 n5 n6, zup_ne n6, zup_ne n0, zup_ne n5], q4⟩
    rw [← e]
    have eb : ∀ g : zH, zrun zP sv (zcall zP sv (d + 1)) 258 137 [.val (.ref m), l1, l2, .val (.int x3), .val (.int (nI j))] [] g = zrun zP sv (zcall zP sv (d + 1)) 258 89 [.val (.ref m), l1, l2, .val (.int x3), .val (.int (nI (j + 1)))] [] g := fun g => by rw [zs_258_137, zs_258_140, nI_1']
    rw [← eb]
    simp (disch := omega) only [zs_258_89, zs_258_91, zs_258_92, zs_258_95, zs_258_98, zs_258_99, zs_258_102, zs_258_103, zs_258_106, zs_258_107, zs_258_110, zs_258_112, zs_258_113, zs_258_114, zs_258_115, zs_258_118, zs_258_119, zs_258_120, zs_258_123, zs_258_124, zs_258_125, zs_258_126, zs_258_129, zs_258_130, zs_258_133, zs_258_135, zs_258_136, hm, zmf_6, zmf_7, zmf_8, zmf_9, zmf_10, zmf_11, v11, yup_eq, yup_yup, if_pos g1, a1, a2, a3, a4, b1, b2, s1, hky, zup_ne, zup_at, nI_1', zmp_8, s2]
end ZQD

/-- the model stands for w and looks at the nodes p -/
def zMdP (h : zH) (m : Nat) (w : yW) (p : yP) : Prop := ∃ F : Nat → Int32, F 31 = 0 ∧ F 8 = nI p.length ∧ zLst h (m + 5) (m + 6) p ∧ zWk h m F (ycur w) ∧ (∃ T, zTab h (m + 2) T) ∧ zRst h m F w ∧ yAok (ycur w)
theorem zMdP_M {h : zH} {m : Nat} {w : yW} {p : yP} (hM : zMdP h m w p) : zMdl h m w 0 := by
  obtain ⟨F, a, _, _, b⟩ := hM
  exact ⟨F, a, b⟩
section ZQE
variable {sv : Nat → Value} {d : Nat} {m : Nat} {F : Nat → Int32} {h : zH} {w : yW} {th : Int32} {i j : Nat} {t u : yT}
theorem e_258x {x y : Int32} (hM : zMdl h m w th) (hx : (yinF (ycur w) x && yinF (ycur w) y) = false) : ∃ h', zcall zP sv (d + 6) 258 [.ref m, .int x, .int y] h = some (.inl (some (.int (-1))), h') ∧ zMdl h' m w (nI 1) ∧ zmw m h h' := by
  obtain ⟨F, g, g1, g2, hw, _, hr, hA⟩ := zMdl_31 (x := nI 1) hM
  have c1 : (0 : Int32) < nI 1 := by decide +kernel
  refine ⟨_, ?_, g1, g2⟩
  rcases yinF_or hA.1 x with ⟨i, hi, rfl⟩ | hx1
  · obtain ⟨hm, ⟨N, hN, hn⟩, _⟩ := id hw
    have E : zcall zP sv (d + 5) 203 [.ref m, .int (nI i)] h = some (.inl (some (.int (nI 1))), h) := e_203t (sv := sv) (d := d + 3) hm hN hn hi hA.1
    rcases yinF_or hA.1 y with ⟨j, hj, rfl⟩ | hy1
    · exfalso
      have t : ∀ i, i < (ycur w).1.length → yinF (ycur w) (nI i) = true := fun i hi => by
        obtain ⟨n, hn2⟩ : ∃ n, (ycur w).1.length = n + 1 := ⟨(ycur w).1.length - 1, by omega⟩
        have h6 := hA.1
        unfold yinF
        rw [decide_eq_true (nI_pos (by omega)), hn2, nI_m, decide_eq_true (nI_nlt (by omega) (by omega))]
        rfl
      rw [t i hi, t j hj] at hx
      cases hx
    · have E' : zcall zP sv (d + 5) 203 [.ref m, .int y] h = _ := e_203x (sv := sv) (d := d + 3) hw hy1
      simp only [zc_258, zs_258_0, zs_258_1, zs_258_2, zs_258_3, zs_258_6, zs_258_9, zs_258_10, zs_258_11, zs_258_14, zs_258_21, zs_258_22, zs_258_25, zs_258_26, zs_258_29, zs_258_32, zs_258_33, g, zrc_13v, E, E', zbk_v, zts_s, nI_1e0, List.cons_append, List.nil_append, zmp_31, zup_at, zmf_31, yup_eq, if_pos c1, ↓reduceIte]
  · have E : zcall zP sv (d + 5) 203 [.ref m, .int x] h = _ := e_203x (sv := sv) (d := d + 3) hw hx1
    simp only [zc_258, zs_258_0, zs_258_1, zs_258_2, zs_258_3, zs_258_6, zs_258_21, zs_258_22, zs_258_25, zs_258_26, zs_258_29, zs_258_32, zs_258_33, g, zrc_13v, E, zbk_v, zts_s, nI_1e0, List.cons_append, List.nil_append, zmp_31, zup_at, zmf_31, yup_eq, if_pos c1, ↓reduceIte]
theorem e_258 (hM : zMdl h m w th) (hi : (ycur w).1[i]? = some t) (hj : (ycur w).1[j]? = some u) : ∃ h', zcall zP sv (d + 6) 258 [.ref m, .int (nI i), .int (nI j)] h = some (.inl (some (.int (nI (ysz t)))), h') ∧ zMdP h' m w (ypr t ++ ypr u) ∧ zmw m h h' := by
  obtain ⟨F, g, _, _, hw, ⟨T, hT⟩, hr, hA⟩ := zMdl_31 (x := 0) hM
  obtain ⟨hm, ⟨N, hN, hn⟩, hs⟩ := id hw
  obtain ⟨⟨p0, l5⟩, ⟨p1, l7⟩, _⟩ := id hs
  have hil := (List.getElem?_eq_some_iff.mp hi).1
  have hjl := (List.getElem?_eq_some_iff.mp hj).1
  have ht := hA.2.1 t (List.mem_of_getElem? hi)
  have hu := hA.2.1 u (List.mem_of_getElem? hj)
  have hlt := ypr_len t
  have hlu := ypr_len u
  have E : zcall zP sv (d + 5) 203 [.ref m, .int (nI i)] h = _ := e_203t (sv := sv) (d := d + 3) hm hN hn hil hA.1
  have E' : zcall zP sv (d + 5) 203 [.ref m, .int (nI j)] h = _ := e_203t (sv := sv) (d := d + 3) hm hN hn hjl hA.1
  obtain ⟨h1, hh1⟩ : ∃ h1, h1 = zup h m (13, zMF m (yup (yup F 31 0) 11 0)) := ⟨_, rfl⟩
  have m1 : h1.1 m = (13, zMF m (yup (yup F 31 0) 11 0)) := by rw [hh1, zup_at]
  have f1 : ∀ q, q ≠ m → h1.1 q = h.1 q := fun q n0 => by rw [hh1, zup_ne n0]
  obtain ⟨h2, e2, a1, a2, a3, a4⟩ := e_206 (sv := sv) (d := d + 4) (h := h1) (hn.2.2.2.2.2 j u hj) m1 (zTab_cg hN (f1 _ (by omega))) (zLst_cg l5 (f1 _ (by omega)) (f1 _ (by omega)))
  have E2 : zcall zP sv (d + 5) 206 [.ref m, .int (nI j)] h1 = _ := e2
  have hself : yup (yup (yup (yup F 31 0) 11 0) 8 (nI (ypr u).length)) 11 (nI ((ypr u).take 0).length) = yup (yup (yup F 31 0) 11 0) 8 (nI (ypr u).length) := yup_self (by rw [yup_ne (by omega), yup_eq]; exact nI_0.symm)
  have hmd : zMd h2 m (yup (yup (yup F 31 0) 11 0) 8 (nI (ypr u).length)) ((ypr u).take 0) := ⟨by rw [hself]; exact a1, zLst_cg (zLst_0 l7) (by rw [a3 _ (by omega) (by omega) (by omega), f1 _ (by omega)]) (by rw [a3 _ (by omega) (by omega) (by omega), f1 _ (by omega)])⟩
  obtain ⟨h3, e3, b1, b2⟩ := e_258a (sv := sv) (d := d + 4) (m := m) (l1 := .val (.int (nI i))) (l2 := .val (.int (nI j))) (l4 := .unset) (p := ypr u) (ynk_ypr u (Or.inr hu.1)) yup_eq (ypr u).length 0 h2 (Nat.zero_add _) hmd a2
  have fr3 : ∀ q, q ≠ m → q ≠ m + 5 → q ≠ m + 6 → q ≠ m + 7 → q ≠ m + 8 → h3.1 q = h.1 q := fun q n0 n5 n6 n7 n8 => by rw [b2.1 q n0 n7 n8, a3 q n0 n5 n6, f1 q n0]
  obtain ⟨h4, e4, c1, c2, c3, c4⟩ := e_206 (sv := sv) (d := d + 4) (h := h3) (hn.2.2.2.2.2 i t hi) b1.1 (zTab_cg hN (fr3 _ (by omega) (by omega) (by omega) (by omega) (by omega))) (zLst_fm a2 b2)
  have E4 : zcall zP sv (d + 5) 206 [.ref m, .int (nI i)] h3 = _ := e4
  have c1' := c1
  unfold zMo at c1'
  obtain ⟨h5, e5, g5, l5', fr5, q5⟩ := e_258b (sv := sv) (d := d + 4) (m := m) (l1 := .val (.int (nI i))) (l2 := .val (.int (nI j))) (G := yup (yup (yup (yup F 31 0) 11 0) 8 (nI (ypr u).length)) 11 (nI (ypr u).length)) (p := ypr u) (q := ypr t) (x3 := nI (ypr t).length) (ynk_ypr u (Or.inr hu.1)) yup_eq (by have := ht.2.1; have := hu.2.1; omega) (ypr u).length 0 h4 (Nat.zero_add _) c1' (zLst_cg b1.2 (c3 _ (by omega) (by omega) (by omega)) (c3 _ (by omega) (by omega) (by omega))) (by rw [List.take_zero, List.append_nil]; exact c2)
  rw [nI_0] at e3 e5
  have fr : ∀ q, q ≠ m → q ≠ m + 5 → q ≠ m + 6 → q ≠ m + 7 → q ≠ m + 8 → h5.1 q = h.1 q := fun q n0 n5 n6 n7 n8 => by rw [fr5 q n0 n5 n6, c3 q n0 n5 n6, fr3 q n0 n5 n6 n7 n8]
  refine ⟨h5, ?_, ⟨_, ?_, yup_eq, l5', ⟨g5, ⟨N, zTab_cg hN (fr _ (by omega) (by omega) (by omega) (by omega) (by omega)), hn⟩, zScm_of hs l5' (zLst_cg b1.2 (by rw [fr5 _ (by omega) (by omega) (by omega), c3 _ (by omega) (by omega) (by omega)]) (by rw [fr5 _ (by omega) (by omega) (by omega), c3 _ (by omega) (by omega) (by omega)])) (fun a ha => fr a (by omega) (by omega) (by omega) (by omega) (by omega))⟩, ⟨T, zTab_cg hT (fr _ (by omega) (by omega) (by omega) (by omega) (by omega))⟩, zRst_cg hr ⟨?_, ?_, ?_, ?_, ?_⟩ (fr _ (by omega) (by omega) (by omega) (by omega) (by omega)) (fr _ (by omega) (by omega) (by omega) (by omega) (by omega)) (fr _ (by omega) (by omega) (by omega) (by omega) (by omega)) (fr _ (by omega) (by omega) (by omega) (by omega) (by omega)), hA⟩, ⟨fun q hq => fr q (by omega) (by omega) (by omega) (by omega) (by omega), by rw [q5, c4, b2.2, a4, hh1]; rfl⟩⟩
  · have v31 : yup F 31 0 31 = 0 := yup_eq
    have v8 : yup (yup (yup (yup (yup F 31 0) 11 0) 8 (nI (ypr u).length)) 11 (nI (ypr u).length)) 8 (nI (ypr t).length) 8 = nI (ypr t).length := yup_eq
    have hr1 : ∀ X : zR, zrc (h1.1 m) 13 X = X := fun X => by rw [m1]; exact zrc_k
    have hr3 : ∀ X : zR, zrc (h3.1 m) 13 X = X := fun X => zMd_rc b1
    have S1 : zcall zP sv (d + 6) 258 [.ref m, .int (nI i), .int (nI j)] h = zrun zP sv (zcall zP sv (d + 5)) 258 46 [.val (.ref m), .val (.int (nI i)), .val (.int (nI j)), .val (.int 0), .unset] [] h2 := by
      rw [hh1] at E2 hr1
      rw [zc_258]
      simp (disch := exact znw_u) only [zs_258_0, zs_258_1, zs_258_2, zs_258_3, zs_258_6, zs_258_9, zs_258_10, zs_258_11, zs_258_14, zs_258_17, zs_258_18, zs_258_22, zs_258_25, zs_258_26, zs_258_29, zs_258_34, zs_258_35, zs_258_36, zs_258_39, zs_258_40, zs_258_41, zs_258_44, zs_258_45, g, zrc_13v, E, E', E2, zbk_v, zts_s, zts_n, nI_1e0, List.cons_append, List.nil_append, zmp_31, zup_at, zup_up, zmf_31, v31, zmp_11, Int32.lt_irrefl, hr1, ↓reduceIte]
    rw [S1, e3]
    simp (disch := first | exact znw_u | exact znw_i) only [zs_258_76, zs_258_77, zs_258_78, zs_258_81, zs_258_82, zs_258_85, zs_258_86, zs_258_87, hr3, E4, zbk_v, zts_n, c1', zmf_8, v8]
    rw [e5, hlt]
  · rw [yup_ne (by omega), yup_ne (by omega), yup_ne (by omega), yup_ne (by omega), yup_eq]
  all_goals rw [yup_ne (by omega), yup_ne (by omega), yup_ne (by omega), yup_ne (by omega), yup_ne (by omega)]
end ZQE

section ZQF
variable {sv : Nat → Value} {d : Nat} {m : Nat} {F : Nat → Int32} {h : zH} {ps P Q : yP} {x y : Nat}
theorem e_210l (hm : h.1 m = (13, zMF m F)) (hl : zLst h (m + 5) (m + 6) ps) (hP : ∀ k, k < P.length → ps[x + k]? = P[k]?) (hQ : ∀ k, k < Q.length → ps[y + k]? = Q[k]?) (hPQ : P.length = Q.length) (h7 : P.length ≤ 700) : ∀ n j (sm : Bool), j + n = P.length → zrun zP sv (zcall zP sv d) 210 29 [.val (.ref m), .val (.int (nI x)), .val (.int (nI y)), .val (.int (nI P.length)), .val (.int (yb sm)), .val (.int (nI j))] [] h = some (.inl (some (.int (yb (sm && decide (P.drop j = Q.drop j))))), h) := by
  intro n
  induction n with
  | zero =>
    intro j sm hj
    obtain rfl : j = P.length := by omega
    rw [List.drop_eq_nil_of_le (Nat.le_refl _), List.drop_eq_nil_of_le (by omega), decide_eq_true rfl, Bool.and_true]
    simp only [zs_210_29, zs_210_31, zs_210_32, zs_210_95, zs_210_97, Int32.lt_irrefl, ↓reduceIte, zgd_t, zty_yb]
  | succ n ih =>
    intro j sm hj
    have g1 : nI j < nI P.length := nI_lt (by omega) (by omega)
    cases sm with
    | false =>
      rw [Bool.false_and, yb_f]
      simp only [zs_210_29, zs_210_31, zs_210_32, zs_210_35, zs_210_37, zs_210_95, zs_210_97, if_pos g1, ↓reduceIte, zgd_t, zty_50]
    | true =>
      obtain ⟨p, hp⟩ : ∃ p, P[j]? = some p := ⟨_, List.getElem?_eq_getElem (by omega)⟩
      obtain ⟨q, hq⟩ : ∃ q, Q[j]? = some q := ⟨_, List.getElem?_eq_getElem (by omega)⟩
      have hp2 : ps[x + j]? = some (p.1, p.2) := by rw [hP j (by omega), hp]
      have hq2 : ps[y + j]? = some (q.1, q.2) := by rw [hQ j (by omega), hq]
      obtain ⟨A, B, a1, a2, a3, a4, a5⟩ := e_look hl hp2
      obtain ⟨A', B', b1, b2, b3, b4, b5⟩ := e_look hl hq2
      rw [a1] at b1
      rw [a2] at b2
      have eA : A'.map Value.int = A.map Value.int := (Prod.mk.inj b1).2.symm
      have eB : B'.map Value.int = B.map Value.int := (Prod.mk.inj b2).2.symm
      rw [eA] at b3
      rw [eB] at b4
      have dp : P.drop j = p :: P.drop (j + 1) := by
        rw [List.drop_eq_getElem_cons (by omega)]
        rw [List.getElem?_eq_getElem (by omega)] at hp
        rw [Option.some.inj hp]
      have dq : Q.drop j = q :: Q.drop (j + 1) := by
        rw [List.drop_eq_getElem_cons (by omega)]
        rw [List.getElem?_eq_getElem (by omega)] at hq
        rw [Option.some.inj hq]
      have e := ih (j + 1) (decide (p = q)) (by omega)
      have hd : (true && decide (P.drop j = Q.drop j)) = (decide (p = q) && decide (P.drop (j + 1) = Q.drop (j + 1))) := by
        rw [dp, dq, Bool.true_and, ← Bool.decide_and]
        exact decide_eq_decide.mpr (by rw [List.cons.injEq])
      rw [hd, ← e]
      have eb : ∀ b : Bool, zrun zP sv (zcall zP sv d) 210 87 [.val (.ref m), .val (.int (nI x)), .val (.int (nI y)), .val (.int (nI P.length)), .val (.int (yb true)), .val (.int (nI j))] [.int (yb b)] h = zrun zP sv (zcall zP sv d) 210 29 [.val (.ref m), .val (.int (nI x)), .val (.int (nI y)), .val (.int (nI P.length)), .val (.int (yb b)), .val (.int (nI (j + 1)))] [] h := fun b => by rw [zs_210_87 znw_i, zs_210_89, zs_210_92, nI_1']
      rw [← eb]
      by_cases c1 : p.1 = q.1
      · by_cases c2 : p.2 = q.2
        · have c : p = q := Prod.ext c1 c2
          rw [decide_eq_true c]
          simp only [zs_210_29, zs_210_31, zs_210_32, zs_210_35, zs_210_37, zs_210_40, zs_210_41, zs_210_44, zs_210_45, zs_210_47, zs_210_48, zs_210_49, zs_210_50, zs_210_53, zs_210_54, zs_210_56, zs_210_57, zs_210_58, zs_210_61, zs_210_62, zs_210_65, zs_210_66, zs_210_68, zs_210_69, zs_210_70, zs_210_71, zs_210_74, zs_210_75, zs_210_77, zs_210_78, zs_210_79, zs_210_82, zs_210_83, if_pos g1, yb_t, nI_1e0, ↓reduceIte, hm, zmf_6, zmf_7, nI_add, a1, a2, a3, a4, b3, b4, if_pos c1, if_pos c2]
        · have c : ¬ p = q := fun z => c2 (by rw [z])
          rw [decide_eq_false c]
          simp only [zs_210_29, zs_210_31, zs_210_32, zs_210_35, zs_210_37, zs_210_40, zs_210_41, zs_210_44, zs_210_45, zs_210_47, zs_210_48, zs_210_49, zs_210_50, zs_210_53, zs_210_54, zs_210_56, zs_210_57, zs_210_58, zs_210_61, zs_210_62, zs_210_65, zs_210_66, zs_210_68, zs_210_69, zs_210_70, zs_210_71, zs_210_74, zs_210_75, zs_210_77, zs_210_78, zs_210_79, zs_210_86, if_pos g1, yb_t, nI_1e0, ↓reduceIte, hm, zmf_6, zmf_7, nI_add, a1, a2, a3, a4, b3, b4, if_pos c1, if_neg c2, yb_f]
      · have c : ¬ p = q := fun z => c1 (by rw [z])
        rw [decide_eq_false c]
        simp only [zs_210_29, zs_210_31, zs_210_32, zs_210_35, zs_210_37, zs_210_40, zs_210_41, zs_210_44, zs_210_45, zs_210_47, zs_210_48, zs_210_49, zs_210_50, zs_210_53, zs_210_54, zs_210_56, zs_210_57, zs_210_58, zs_210_86, if_pos g1, yb_t, nI_1e0, ↓reduceIte, hm, zmf_6, nI_add, a1, a3, b3, if_neg c1, yb_f]
end ZQF

section ZQG
variable {sv : Nat → Value} {d : Nat} {m : Nat} {F : Nat → Int32} {h : zH} {ps : yP}
theorem ysub_at {pre P post : yP} (he : ps = pre ++ P ++ post) : ∀ k, k < P.length → ps[pre.length + k]? = P[k]? := fun k hk => by
  rw [he, List.append_assoc, List.getElem?_append_right (by omega), Nat.add_sub_cancel_left, List.getElem?_append_left hk]
theorem e_210 {a b : yT} {pre post pre' post' : yP} (hm : zMo h m F) (ha : ytw a = true) (hb : ytw b = true) (hl : zLst h (m + 5) (m + 6) ps) (h1 : ps = pre ++ ypr a ++ post) (h2 : ps = pre' ++ ypr b ++ post') : zcall zP sv (d + 3) 210 [.ref m, .int (nI pre.length), .int (nI pre'.length)] h = some (.inl (some (.int (yb (decide (ypr a = ypr b))))), h) := by
  have E1 : zcall zP sv (d + 2) 209 [.ref m, .int (nI pre.length)] h = _ := e_209 (sv := sv) (d := d) hm ha (by rw [← h1]; exact hl)
  have E2 : zcall zP sv (d + 2) 209 [.ref m, .int (nI pre'.length)] h = _ := e_209 (sv := sv) (d := d) hm hb (by rw [← h2]; exact hl)
  have hla := ypr_len a
  have hlb := ypr_len b
  have h7 : ps.length ≤ 700 := by
    obtain ⟨_, _, _, _, _, _, _, _, z⟩ := hl
    exact z
  have n1 : ps.length = pre.length + (ypr a).length + post.length := by rw [h1, List.length_append, List.length_append]
  have n2 : ps.length = pre'.length + (ypr b).length + post'.length := by rw [h2, List.length_append, List.length_append]
  have hr : ∀ X : zR, zrc (h.1 m) 13 X = X := fun X => zMo_rc hm
  rw [zc_210]
  by_cases c : ysz a = ysz b
  · have q := e_210l (sv := sv) (d := d + 2) (P := ypr a) (Q := ypr b) (x := pre.length) (y := pre'.length) hm hl (ysub_at h1) (ysub_at h2) (by rw [hla, hlb, c]) (by omega) (ypr a).length 0 true (Nat.zero_add _)
    rw [List.drop_zero, List.drop_zero, Bool.true_and, nI_0, hla, yb_t] at q
    have c' : nI (ysz a) = nI (ysz b) := by rw [c]
    simp (disch := first | exact znw_u | exact znw_i) only [zs_210_0, zs_210_1, zs_210_2, zs_210_5, zs_210_6, zs_210_7, zs_210_8, zs_210_9, zs_210_10, zs_210_11, zs_210_14, zs_210_15, zs_210_16, zs_210_19, zs_210_20, zs_210_24, zs_210_26, zs_210_27, hr, E1, E2, zbk_v, zts_s, List.cons_append, List.nil_append, nI_sub', if_pos c']
    exact q
  · have c' : ¬ nI (ysz a) = nI (ysz b) := fun q => c ((nI_eq (by omega) (by omega)).mp q)
    have hne : ¬ ypr a = ypr b := fun q => c (by rw [← hla, ← hlb, q])
    rw [decide_eq_false hne, yb_f]
    have hn0 := ytw_sz ha
    have g1 : (0 : Int32) < nI (ysz a) := by rw [← nI_0]; exact nI_lt hn0 (by omega)
    simp (disch := first | exact znw_u | exact znw_i) only [zs_210_0, zs_210_1, zs_210_2, zs_210_5, zs_210_6, zs_210_7, zs_210_8, zs_210_9, zs_210_10, zs_210_11, zs_210_14, zs_210_15, zs_210_16, zs_210_23, zs_210_24, zs_210_26, zs_210_27, zs_210_29, zs_210_31, zs_210_32, zs_210_35, zs_210_37, zs_210_95, zs_210_97, hr, E1, E2, zbk_v, zts_s, List.cons_append, List.nil_append, nI_sub', if_neg c', if_pos g1, ↓reduceIte, zgd_t, zty_50]
end ZQG

section ZQH
variable {sv : Nat → Value} {d : Nat} {m : Nat} {h : zH} {w : yW} {th : Int32} {i j : Nat} {t u : yT}
theorem e_259x {x y : Int32} (hM : zMdl h m w th) (hx : (yinF (ycur w) x && yinF (ycur w) y) = false) : zMC m h (zcall zP sv (d + 7) 259 [.ref m, .int x, .int y] h) 0 w (nI 1) := by
  obtain ⟨h1, e1, m1, k1⟩ := e_258x (sv := sv) (d := d) hM hx
  have r0 : ∀ X : zR, zrc (h.1 m) 13 X = X := fun X => zMdl_rc hM
  have c1 : ¬ (0 : Int32) < -1 := by decide +kernel
  refine ⟨h1, ?_, m1, k1⟩
  simp (disch := first | exact znw_u | exact znw_i) only [zc_259, zs_259_0, zs_259_1, zs_259_2, zs_259_3, zs_259_6, zs_259_7, zs_259_8, zs_259_11, zs_259_12, zs_259_13, zs_259_14, zs_259_17, zs_259_20, zs_259_21, zs_259_24, zs_259_25, r0, e1, zbk_v, zts_s, if_neg c1, zgd_t, zty_50]
theorem e_259 (hM : zMdl h m w th) (hi : (ycur w).1[i]? = some t) (hj : (ycur w).1[j]? = some u) : zMC m h (zcall zP sv (d + 7) 259 [.ref m, .int (nI i), .int (nI j)] h) (yb (decide (ypr t = ypr u))) w 0 := by
  obtain ⟨h1, e1, m1, k1⟩ := e_258 (sv := sv) (d := d) hM hi hj
  have r0 : ∀ X : zR, zrc (h.1 m) 13 X = X := fun X => zMdl_rc hM
  have hA := zMdl_A hM
  have ht := hA.2.1 t (List.mem_of_getElem? hi)
  have hu := hA.2.1 u (List.mem_of_getElem? hj)
  have m1' := zMdP_M m1
  have r1 : ∀ X : zR, zrc (h1.1 m) 13 X = X := fun X => zMdl_rc m1'
  obtain ⟨F, f31, f8, l5, ⟨hm, _⟩, _⟩ := m1
  have E2 : zcall zP sv (d + 6) 210 [.ref m, .int (nI ([] : yP).length), .int (nI (ypr t).length)] h1 = _ := e_210 (sv := sv) (d := d + 3) (pre := []) (post := ypr u) (pre' := ypr t) (post' := []) hm ht.1 hu.1 l5 rfl (by rw [List.append_nil])
  rw [List.length_nil, nI_0, ypr_len] at E2
  have hz := ytw_sz ht.1
  have c1 : (0 : Int32) < nI (ysz t) := by rw [← nI_0]; exact nI_lt hz (by have := ht.2.1; omega)
  refine ⟨h1, ?_, m1', k1⟩
  cases hb : decide (ypr t = ypr u) with
  | true =>
    rw [hb, yb_t] at E2
    simp (disch := first | exact znw_u | exact znw_i) only [zc_259, zs_259_0, zs_259_1, zs_259_2, zs_259_3, zs_259_6, zs_259_7, zs_259_8, zs_259_11, zs_259_12, zs_259_13, zs_259_14, zs_259_17, zs_259_20, zs_259_21, zs_259_24, zs_259_25, r0, e1, r1, E2, zbk_v, zts_s, if_pos c1, nI_1e0, ↓reduceIte, zgd_t, zty_51, yb_t]
  | false =>
    rw [hb, yb_f] at E2
    simp (disch := first | exact znw_u | exact znw_i) only [zc_259, zs_259_0, zs_259_1, zs_259_2, zs_259_3, zs_259_6, zs_259_7, zs_259_8, zs_259_11, zs_259_12, zs_259_13, zs_259_14, zs_259_17, zs_259_20, zs_259_21, zs_259_24, zs_259_25, r0, e1, r1, E2, zbk_v, zts_s, if_pos c1, ↓reduceIte, zgd_t, zty_50, yb_f]
end ZQH

section ZQJ
variable {sv : Nat → Value} {d : Nat} {m : Nat} {F : Nat → Int32} {h : zH} {w : yW} {th : Int32} {i j : Nat} {t u : yT} {p : yP} {L : List yT}
/-- the parts of a term, in prefix order -/
def yts : yT → List yT
  | .leaf => []
  | .inner s k v l r => .inner s k v l r :: (yts l ++ yts r)
def yLs (p : yP) (L : List yT) : Prop := p.length = L.length ∧ ∀ (k : Nat) (a : yT), L[k]? = some a → ytw a = true ∧ ∃ pre post, p = pre ++ ypr a ++ post ∧ pre.length = k
theorem yts_len : ∀ t : yT, (yts t).length = ysz t
  | .leaf => rfl
  | .inner _ _ _ l r => by
    show (yts l ++ yts r).length + 1 = ysz l + ysz r + 1
    rw [List.length_append, yts_len l, yts_len r]
theorem ytw_lr {n : Nat} {k v : Int32} {l r : yT} (h : ytw (.inner n k v l r) = true) : (ytw l = true ∨ l = .leaf) ∧ (ytw r = true ∨ r = .leaf) := by
  have hl : ∀ x : yT, (!ynl x) = true → x = .leaf := fun x hx => by cases x with
    | leaf => rfl
    | inner _ _ _ _ _ => exact absurd hx (by show ¬ ((!true) = true); decide)
  unfold ytw at h
  simp only [Bool.and_eq_true, Bool.or_eq_true] at h
  rcases h.2 with ((z | z) | z) | z
  · exact ⟨Or.inr (hl l z.1.2), Or.inr (hl r z.2)⟩
  · exact ⟨Or.inr (hl l z.1.2), Or.inr (hl r z.2)⟩
  · exact ⟨Or.inl z.1.2, Or.inr (hl r z.2)⟩
  · exact ⟨Or.inl z.1.2, Or.inl z.2⟩
theorem yLs_app {p q : yP} {L M : List yT} (h1 : yLs p L) (h2 : yLs q M) : yLs (p ++ q) (L ++ M) := by
  refine ⟨by rw [List.length_append, List.length_append, h1.1, h2.1], fun k a hk => ?_⟩
  by_cases c : k < L.length
  · rw [List.getElem?_append_left c] at hk
    obtain ⟨z, pre, post, e, l⟩ := h1.2 k a hk
    exact ⟨z, pre, post ++ q, by rw [e]; simp only [List.append_assoc], l⟩
  · rw [List.getElem?_append_right (by omega)] at hk
    obtain ⟨z, pre, post, e, l⟩ := h2.2 _ a hk
    exact ⟨z, p ++ pre, post, by rw [e]; simp only [List.append_assoc], by rw [List.length_append, l, h1.1]; omega⟩
theorem yLs_0 : yLs [] [] := ⟨rfl, fun k a hk => by rw [List.getElem?_nil] at hk; cases hk⟩
theorem yLs_t : ∀ t : yT, (ytw t = true ∨ t = .leaf) → yLs (ypr t) (yts t)
  | .leaf, _ => yLs_0
  | .inner n k v l r, h => by
    have hw : ytw (.inner n k v l r) = true := h.resolve_right (fun z => by cases z)
    have g := yLs_app (yLs_t l (ytw_lr hw).1) (yLs_t r (ytw_lr hw).2)
    refine ⟨by rw [ypr_len, yts_len], fun j a hj => ?_⟩
    cases j with
    | zero =>
      rw [show yts (.inner n k v l r) = .inner n k v l r :: (yts l ++ yts r) from rfl, List.getElem?_cons_zero] at hj
      cases hj
      exact ⟨hw, [], [], by rw [List.nil_append, List.append_nil], rfl⟩
    | succ j =>
      rw [show yts (.inner n k v l r) = .inner n k v l r :: (yts l ++ yts r) from rfl, List.getElem?_cons_succ] at hj
      obtain ⟨z, pre, post, e, l⟩ := g.2 j a hj
      refine ⟨z, (k, yva k v) :: pre, post, ?_, by rw [List.length_cons, l]⟩
      show (k, yva k v) :: (ypr _ ++ ypr _) = _
      rw [e]
      rfl
/-- whether none of n parts from j on is b -/
def yfsr (Q : List yP) (b : Option yP) : Nat → Nat → Bool
  | _, 0 => true
  | j, n + 1 => !decide (Q[j]? = b) && yfsr Q b (j + 1) n
/-- whether a part is the first of its kind -/
def yfst (Q : List yP) (k : Nat) : Bool := yfsr Q Q[k]? 0 k
theorem e_260l (hm : zMo h m F) (hl : zLst h (m + 5) (m + 6) p) (hL : yLs p L) {k : Nat} (hk : k < L.length) {l2 : Slot} : ∀ n j (sm : Bool), j + n = k → zrun zP sv (zcall zP sv (d + 4)) 260 5 [.val (.ref m), .val (.int (nI k)), l2, .val (.int (yb sm)), .val (.int (nI j))] [] h = some (.inl (some (.int (yb (sm && yfsr (L.map ypr) (L.map ypr)[k]? j n)))), h) := by
  have h7 : p.length ≤ 700 := by
    obtain ⟨_, _, _, _, _, _, _, _, z⟩ := hl
    exact z
  have hlen := hL.1
  obtain ⟨b, hb⟩ : ∃ b, L[k]? = some b := ⟨_, List.getElem?_eq_getElem hk⟩
  obtain ⟨bw, pre', post', e2, l2'⟩ := hL.2 k b hb
  have hb' : (L.map ypr)[k]? = some (ypr b) := by rw [List.getElem?_map, hb]; rfl
  have hr : ∀ X : zR, zrc (h.1 m) 13 X = X := fun X => zMo_rc hm
  intro n
  induction n with
  | zero =>
    intro j sm hj
    obtain rfl : j = k := by omega
    rw [show yfsr (L.map ypr) (L.map ypr)[j]? j 0 = true from rfl, Bool.and_true]
    simp only [zs_260_0, zs_260_1, zs_260_2, zs_260_3, zs_260_7, zs_260_8, zs_260_11, zs_260_12, zs_260_15, zs_260_16, zs_260_18, zs_260_19, zs_260_22, zs_260_25, zs_260_26, zs_260_29, zs_260_30, zs_260_31, zs_260_34, zs_260_37, zs_260_38, zs_260_5, Int32.lt_irrefl, ↓reduceIte, zgd_t, zty_yb]
  | succ n ih =>
    intro j sm hj
    have g1 : nI j < nI k := nI_lt (by omega) (by omega)
    obtain ⟨a, ha⟩ : ∃ a, L[j]? = some a := ⟨_, List.getElem?_eq_getElem (by omega)⟩
    obtain ⟨aw, pre, post, e1, l1'⟩ := hL.2 j a ha
    have ha' : (L.map ypr)[j]? = some (ypr a) := by rw [List.getElem?_map, ha]; rfl
    have E : zcall zP sv (d + 4) 210 [.ref m, .int (nI pre.length), .int (nI pre'.length)] h = _ := e_210 (sv := sv) (d := d + 1) hm aw bw hl e1 e2
    rw [l1', l2'] at E
    cases sm with
    | false =>
      rw [Bool.false_and, yb_f]
      simp only [zs_260_5, zs_260_7, zs_260_8, zs_260_11, zs_260_12, zs_260_37, zs_260_38, if_pos g1, ↓reduceIte, zgd_t, zty_50]
    | true =>
      have e := ih (j + 1) (!decide (ypr a = ypr b)) (by omega)
      have hd : (true && yfsr (L.map ypr) (L.map ypr)[k]? j (n + 1)) = (!decide (ypr a = ypr b) && yfsr (L.map ypr) (L.map ypr)[k]? (j + 1) n) := by
        rw [Bool.true_and]
        show (!decide ((L.map ypr)[j]? = (L.map ypr)[k]?) && _) = _
        rw [ha', hb']
        congr 2
        exact decide_eq_decide.mpr (by rw [Option.some.injEq])
      rw [hd, ← e]
      have eb : ∀ b : Bool, zrun zP sv (zcall zP sv (d + 4)) 260 30 [.val (.ref m), .val (.int (nI k)), l2, .val (.int (yb true)), .val (.int (nI j))] [.int (yb b)] h = zrun zP sv (zcall zP sv (d + 4)) 260 5 [.val (.ref m), .val (.int (nI k)), l2, .val (.int (yb b)), .val (.int (nI (j + 1)))] [] h := fun b => by rw [zs_260_30 znw_i, zs_260_31, zs_260_34, nI_1']
      rw [← eb]
      cases hd : decide (ypr a = ypr b) with
      | true =>
        rw [hd] at E
        simp (disch := first | exact znw_u | exact znw_i) only [zs_260_0, zs_260_1, zs_260_2, zs_260_3, zs_260_5, zs_260_7, zs_260_8, zs_260_11, zs_260_12, zs_260_15, zs_260_16, zs_260_18, zs_260_19, zs_260_22, zs_260_25, zs_260_26, zs_260_29, zs_260_37, zs_260_38, if_pos g1, yb_t, nI_1e0, ↓reduceIte, hr, E, zbk_v, zts_s, List.cons_append, List.nil_append, Bool.not_true, yb_f]
      | false =>
        rw [hd] at E
        simp (disch := first | exact znw_u | exact znw_i) only [zs_260_0, zs_260_1, zs_260_2, zs_260_3, zs_260_5, zs_260_7, zs_260_8, zs_260_11, zs_260_12, zs_260_15, zs_260_16, zs_260_18, zs_260_19, zs_260_22, zs_260_25, zs_260_26, zs_260_29, zs_260_37, zs_260_38, if_pos g1, yb_t, nI_1e0, ↓reduceIte, hr, E, zbk_v, zts_s, List.cons_append, List.nil_append, Bool.not_false, yb_f]
theorem e_260 (hm : zMo h m F) (hl : zLst h (m + 5) (m + 6) p) (hL : yLs p L) {k : Nat} (hk : k < L.length) : zcall zP sv (d + 5) 260 [.ref m, .int (nI k), .int 0] h = some (.inl (some (.int (yb (yfst (L.map ypr) k)))), h) := by
  have e := e_260l (sv := sv) (d := d) hm hl hL hk (l2 := .val (.int 0)) k 0 true (Nat.zero_add _)
  rw [Bool.true_and, nI_0, yb_t] at e
  unfold yfst
  rw [← e]
  simp (disch := first | exact znw_u | exact znw_i) only [zc_260, zs_260_0, zs_260_1, zs_260_2, zs_260_3]
/-- how many of n parts from j on are the first of their kind -/
def ynd (Q : List yP) (n : Nat) : Nat := (List.range n).countP (yfst Q)
theorem ynd_s {Q : List yP} {n : Nat} : ynd Q (n + 1) = ynd Q n + (if yfst Q n = true then 1 else 0) := by
  unfold ynd
  rw [List.range_succ, List.countP_append, List.countP_singleton]
theorem e_261l (hm : zMo h m F) (h8 : F 8 = nI p.length) (hl : zLst h (m + 5) (m + 6) p) (hL : yLs p L) {l1 : Slot} : ∀ n j, j + n = L.length → zrun zP sv (zcall zP sv (d + 5)) 261 14 [.val (.ref m), l1, .val (.int (nI (ynd (L.map ypr) j))), .val (.int (nI j))] [] h = some (.inl (some (.int (nI (ynd (L.map ypr) L.length)))), h) := by
  have h7 : p.length ≤ 700 := by
    obtain ⟨_, _, _, _, _, _, _, _, z⟩ := hl
    exact z
  have hlen := hL.1
  have hr : ∀ X : zR, zrc (h.1 m) 13 X = X := fun X => zMo_rc hm
  have hm' : h.1 m = (13, zMF m F) := hm
  intro n
  induction n with
  | zero =>
    intro j hj
    obtain rfl : j = L.length := by omega
    simp only [zs_261_14, zs_261_15, zs_261_16, zs_261_19, zs_261_40, zs_261_41, hm', zmf_8, h8, hlen, Int32.lt_irrefl, ↓reduceIte]
  | succ n ih =>
    intro j hj
    have g1 : nI j < nI L.length := nI_lt (by omega) (by omega)
    have E : zcall zP sv (d + 5) 260 [.ref m, .int (nI j), .int 0] h = _ := e_260 (sv := sv) (d := d) hm hl hL (k := j) (by omega)
    rw [← ih (j + 1) (by omega), ynd_s]
    have eb : ∀ q, zrun zP sv (zcall zP sv (d + 5)) 261 34 [.val (.ref m), l1, .val (.int (nI q)), .val (.int (nI j))] [] h = zrun zP sv (zcall zP sv (d + 5)) 261 14 [.val (.ref m), l1, .val (.int (nI q)), .val (.int (nI (j + 1)))] [] h := fun q => by rw [zs_261_34, zs_261_37, nI_1']
    rw [← eb]
    cases hd : yfst (L.map ypr) j with
    | true =>
      rw [hd] at E
      simp (disch := first | exact znw_u | exact znw_i) only [zs_261_0, zs_261_1, zs_261_2, zs_261_5, zs_261_8, zs_261_9, zs_261_10, zs_261_11, zs_261_12, zs_261_13, zs_261_14, zs_261_15, zs_261_16, zs_261_19, zs_261_22, zs_261_23, zs_261_24, zs_261_25, zs_261_28, zs_261_31, zs_261_40, zs_261_41, hm', zmf_8, h8, hlen, if_pos g1, hr, E, zbk_v, zts_s, yb_t, nI_1e0, nI_1', ↓reduceIte, List.cons_append, List.nil_append, zrc_13v]
    | false =>
      rw [hd] at E
      simp (disch := first | exact znw_u | exact znw_i) only [zs_261_0, zs_261_1, zs_261_2, zs_261_5, zs_261_8, zs_261_9, zs_261_10, zs_261_11, zs_261_12, zs_261_13, zs_261_14, zs_261_15, zs_261_16, zs_261_19, zs_261_22, zs_261_23, zs_261_24, zs_261_25, zs_261_28, zs_261_31, zs_261_40, zs_261_41, hm', zmf_8, h8, hlen, if_pos g1, hr, E, zbk_v, zts_s, yb_f, nI_1e0, Nat.add_zero, Bool.false_eq_true, ↓reduceIte, List.cons_append, List.nil_append, zrc_13v]
theorem e_261x {x : Int32} (hM : zMdl h m w th) (hx : yinF (ycur w) x = false) : zMC m h (zcall zP sv (d + 7) 261 [.ref m, .int x] h) 0 w (nI 1) := by
  obtain ⟨h1, e1, m1, k1⟩ := e_252x (sv := sv) (d := d) hM hx
  have r0 : ∀ X : zR, zrc (h.1 m) 13 X = X := fun X => zMdl_rc hM
  refine ⟨h1, ?_, m1, k1⟩
  simp (disch := first | exact znw_u | exact znw_i) only [zc_261, zs_261_0, zs_261_1, zs_261_2, zs_261_5, zs_261_8, zs_261_9, r0, e1, zbk_v, zts_s, ↓reduceIte, List.cons_append, List.nil_append]
theorem e_261 (hM : zMdl h m w th) (hi : (ycur w).1[i]? = some t) : zMC m h (zcall zP sv (d + 7) 261 [.ref m, .int (nI i)] h) (nI (ynd ((yts t).map ypr) (ysz t))) w 0 := by
  obtain ⟨h1, e1, m1, k1⟩ := e_252 (sv := sv) (d := d) hM hi
  have r0 : ∀ X : zR, zrc (h.1 m) 13 X = X := fun X => zMdl_rc hM
  have mM := zMdL_M m1
  obtain ⟨F, _, f8, l5, ⟨hm, _⟩, _, _, _, tk⟩ := m1
  have E := e_261l (sv := sv) (d := d + 1) hm (by rw [ypr_len, f8]) l5 (yLs_t t (Or.inl tk.1)) (l1 := .val (.int (nI i))) (yts t).length 0 (Nat.zero_add _)
  rw [show ynd ((yts t).map ypr) 0 = 0 from rfl, nI_0, yts_len] at E
  refine ⟨h1, ?_, mM, k1⟩
  simp (disch := first | exact znw_u | exact znw_i) only [zc_261, zs_261_0, zs_261_1, zs_261_2, zs_261_5, zs_261_10, zs_261_11, zs_261_12, zs_261_13, r0, e1, zbk_v, zts_s, nI_1e0, ↓reduceIte, List.cons_append, List.nil_append]
  exact E
theorem e_262w {x a th' : Int32} (hM : zMdl h m w th) (hc : zMC m h (zcall zP sv (d + 7) 261 [.ref m, .int x] h) a w th') : zMC m h (zcall zP sv (d + 8) 262 [.ref m, .int x] h) a w th' := by
  obtain ⟨h1, e1, m1, k1⟩ := hc
  have r0 : ∀ X : zR, zrc (h.1 m) 13 X = X := fun X => zMdl_rc hM
  refine ⟨h1, ?_, m1, k1⟩
  simp (disch := first | exact znw_u | exact znw_i) only [zc_262, zs_262_0, zs_262_1, zs_262_2, zs_262_5, r0, e1, zbk_v, zts_s, List.cons_append, List.nil_append]
end ZQJ

section ZQK
variable {sv : Nat → Value} {d : Nat} {m : Nat} {F : Nat → Int32} {h : zH} {w : yW} {th : Int32} {i j : Nat} {t u : yT} {p : yP} {L : List yT}
/-- whether one of n parts from j on is b -/
def yany (Q : List yP) (b : Option yP) : Nat → Nat → Bool
  | _, 0 => false
  | j, n + 1 => decide (b = Q[j]?) || yany Q b (j + 1) n
theorem e_263i (hm : zMo h m F) (h8 : F 8 = nI p.length) (hl : zLst h (m + 5) (m + 6) p) (hL : yLs p L) {k : Nat} (hk : k < L.length) {l1 l2 l3 l4 : Slot} : ∀ n q (sm : Bool), q + n = L.length → ∃ x : Int32, zrun zP sv (zcall zP sv (d + 5)) 263 25 [.val (.ref m), l1, l2, l3, l4, .val (.int (nI k)), .val (.int (yb sm)), .val (.int (nI q))] [] h = zrun zP sv (zcall zP sv (d + 5)) 263 55 [.val (.ref m), l1, l2, l3, l4, .val (.int (nI k)), .val (.int (yb (sm || yany (L.map ypr) (L.map ypr)[k]? q n))), .val (.int x)] [] h := by
  have h7 : p.length ≤ 700 := by
    obtain ⟨_, _, _, _, _, _, _, _, z⟩ := hl
    exact z
  have hlen := hL.1
  obtain ⟨b, hb⟩ : ∃ b, L[k]? = some b := ⟨_, List.getElem?_eq_getElem hk⟩
  obtain ⟨bw, pre', post', e2, l2'⟩ := hL.2 k b hb
  have hb' : (L.map ypr)[k]? = some (ypr b) := by rw [List.getElem?_map, hb]; rfl
  have hr : ∀ X : zR, zrc (h.1 m) 13 X = X := fun X => zMo_rc hm
  have hm' : h.1 m = (13, zMF m F) := hm
  intro n
  induction n with
  | zero =>
    intro q sm hj
    obtain rfl : q = L.length := by omega
    refine ⟨nI L.length, ?_⟩
    rw [show yany (L.map ypr) (L.map ypr)[k]? L.length 0 = false from rfl, Bool.or_false]
    simp only [zs_263_25, zs_263_27, zs_263_28, zs_263_31, hm', zmf_8, h8, hlen, Int32.lt_irrefl, ↓reduceIte]
  | succ n ih =>
    intro q sm hj
    have g1 : nI q < nI L.length := nI_lt (by omega) (by omega)
    obtain ⟨a, ha⟩ : ∃ a, L[q]? = some a := ⟨_, List.getElem?_eq_getElem (by omega)⟩
    obtain ⟨aw, pre, post, e1, l1'⟩ := hL.2 q a ha
    have ha' : (L.map ypr)[q]? = some (ypr a) := by rw [List.getElem?_map, ha]; rfl
    have E : zcall zP sv (d + 5) 210 [.ref m, .int (nI pre'.length), .int (nI pre.length)] h = _ := e_210 (sv := sv) (d := d + 2) hm bw aw hl e2 e1
    rw [l1', l2'] at E
    cases sm with
    | true =>
      refine ⟨nI q, ?_⟩
      rw [Bool.true_or]
      simp only [zs_263_25, zs_263_27, zs_263_28, zs_263_31, zs_263_34, zs_263_36, yb_t, nI_1e0, hm', zmf_8, h8, hlen, if_pos g1, ↓reduceIte]
    | false =>
      obtain ⟨x, e⟩ := ih (q + 1) (decide (ypr b = ypr a)) (by omega)
      refine ⟨x, ?_⟩
      have hd : (false || yany (L.map ypr) (L.map ypr)[k]? q (n + 1)) = (decide (ypr b = ypr a) || yany (L.map ypr) (L.map ypr)[k]? (q + 1) n) := by
        rw [Bool.false_or]
        show (decide ((L.map ypr)[k]? = (L.map ypr)[q]?) || _) = _
        rw [ha', hb']
        congr 1
        exact decide_eq_decide.mpr (by rw [Option.some.injEq])
      rw [hd, ← e]
      have eb : ∀ b : Bool, zrun zP sv (zcall zP sv (d + 5)) 263 47 [.val (.ref m), l1, l2, l3, l4, .val (.int (nI k)), .val (.int (yb false)), .val (.int (nI q))] [.int (yb b)] h = zrun zP sv (zcall zP sv (d + 5)) 263 25 [.val (.ref m), l1, l2, l3, l4, .val (.int (nI k)), .val (.int (yb b)), .val (.int (nI (q + 1)))] [] h := fun b => by rw [zs_263_47 znw_i, zs_263_49, zs_263_52, nI_1']
      rw [← eb]
      simp (disch := first | exact znw_u | exact znw_i) only [zs_263_0, zs_263_1, zs_263_2, zs_263_3, zs_263_6, zs_263_7, zs_263_8, zs_263_10, zs_263_11, zs_263_13, zs_263_15, zs_263_16, zs_263_19, zs_263_20, zs_263_22, zs_263_23, zs_263_25, zs_263_27, zs_263_28, zs_263_31, zs_263_34, zs_263_36, zs_263_39, zs_263_40, zs_263_42, zs_263_44, zs_263_55, zs_263_57, zs_263_60, zs_263_61, zs_263_63, zs_263_64, zs_263_67, zs_263_70, zs_263_73, zs_263_76, zs_263_79, zs_263_81, hm', zmf_8, h8, hlen, if_pos g1, yb_f, zrc_13v, ↓reduceIte, hr, E, zbk_v, zts_s, List.cons_append, List.nil_append]
/-- how many of the first n parts are first of their kind and among those from s on -/
def ycm (Q : List yP) (s n : Nat) : Nat := (List.range n).countP (fun k => yany Q Q[k]? s (Q.length - s) && yfst Q k)
theorem ycm_s {Q : List yP} {s n : Nat} : ycm Q s (n + 1) = ycm Q s n + (if (yany Q Q[n]? s (Q.length - s) && yfst Q n) = true then 1 else 0) := by
  unfold ycm
  rw [List.range_succ, List.countP_append, List.countP_singleton]
theorem e_263l (hm : zMo h m F) (h8 : F 8 = nI p.length) (hl : zLst h (m + 5) (m + 6) p) (hL : yLs p L) {s : Nat} (hs : s ≤ L.length) {l1 l2 : Slot} : ∀ n j (l6 l7 : Slot), znw l6 = true → znw l7 = true → j + n = s → zrun zP sv (zcall zP sv (d + 5)) 263 13 [.val (.ref m), l1, l2, .val (.int (nI s)), .val (.int (nI (ycm (L.map ypr) s j))), .val (.int (nI j)), l6, l7] [] h = some (.inl (some (.int (nI (ycm (L.map ypr) s s)))), h) := by
  have h7 : p.length ≤ 700 := by
    obtain ⟨_, _, _, _, _, _, _, _, z⟩ := hl
    exact z
  have hlen := hL.1
  have hr : ∀ X : zR, zrc (h.1 m) 13 X = X := fun X => zMo_rc hm
  have hm' : h.1 m = (13, zMF m F) := hm
  intro n
  induction n with
  | zero =>
    intro j l6 l7 w6 w7 hj
    obtain rfl : j = s := by omega
    simp only [zs_263_13, zs_263_15, zs_263_16, zs_263_79, zs_263_81, Int32.lt_irrefl, ↓reduceIte]
  | succ n ih =>
    intro j l6 l7 w6 w7 hj
    have g1 : nI j < nI s := nI_lt (by omega) (by omega)
    have E : zcall zP sv (d + 5) 260 [.ref m, .int (nI j), .int 0] h = _ := e_260 (sv := sv) (d := d) hm hl hL (k := j) (by omega)
    obtain ⟨x, e⟩ := e_263i (sv := sv) (d := d) hm h8 hl hL (k := j) (by omega) (l1 := l1) (l2 := l2) (l3 := .val (.int (nI s))) (l4 := .val (.int (nI (ycm (L.map ypr) s j)))) (L.length - s) s false (by omega)
    rw [Bool.false_or, yb_f] at e
    have i2 := ih (j + 1) (.val (.int (yb (yany (L.map ypr) (L.map ypr)[j]? s (L.length - s))))) (.val (.int x)) znw_i znw_i (by omega)
    rw [← i2, ycm_s, List.length_map]
    have eb : ∀ q z, zrun zP sv (zcall zP sv (d + 5)) 263 73 [.val (.ref m), l1, l2, .val (.int (nI s)), .val (.int (nI q)), .val (.int (nI j)), .val (.int (yb z)), .val (.int x)] [] h = zrun zP sv (zcall zP sv (d + 5)) 263 13 [.val (.ref m), l1, l2, .val (.int (nI s)), .val (.int (nI q)), .val (.int (nI (j + 1))), .val (.int (yb z)), .val (.int x)] [] h := fun q z => by rw [zs_263_73, zs_263_76, nI_1']
    rw [← eb]
    simp (disch := first | exact w6 | exact w7 | exact znw_u | exact znw_i) only [zs_263_13, zs_263_15, zs_263_16, zs_263_19, zs_263_20, zs_263_22, zs_263_23, if_pos g1, e]
    generalize yany (L.map ypr) (L.map ypr)[j]? s (L.length - s) = z
    generalize ycm (L.map ypr) s j = c
    cases z with
    | false => simp only [zs_263_55, zs_263_57, yb_f, Bool.false_and, Bool.false_eq_true, ↓reduceIte, Nat.add_zero]
    | true =>
      cases hd : yfst (L.map ypr) j with
      | true =>
        rw [hd] at E
        simp (disch := first | exact znw_u | exact znw_i) only [zs_263_55, zs_263_57, zs_263_60, zs_263_61, zs_263_63, zs_263_64, zs_263_67, zs_263_70, hr, E, zbk_v, zts_s, yb_t, nI_1e0, nI_1', Bool.and_true, ↓reduceIte, List.cons_append, List.nil_append, zrc_13v]
      | false =>
        rw [hd] at E
        simp (disch := first | exact znw_u | exact znw_i) only [zs_263_55, zs_263_57, zs_263_60, zs_263_61, zs_263_63, zs_263_64, zs_263_67, hr, E, zbk_v, zts_s, yb_t, yb_f, nI_1e0, Bool.and_false, Bool.false_eq_true, Nat.add_zero, ↓reduceIte, List.cons_append, List.nil_append, zrc_13v]
theorem e_263x {x y : Int32} (hM : zMdl h m w th) (hx : (yinF (ycur w) x && yinF (ycur w) y) = false) : zMC m h (zcall zP sv (d + 7) 263 [.ref m, .int x, .int y] h) 0 w (nI 1) := by
  obtain ⟨h1, e1, m1, k1⟩ := e_258x (sv := sv) (d := d) hM hx
  have r0 : ∀ X : zR, zrc (h.1 m) 13 X = X := fun X => zMdl_rc hM
  have c1 : ¬ (0 : Int32) < -1 := by decide +kernel
  refine ⟨h1, ?_, m1, k1⟩
  simp (disch := first | exact znw_u | exact znw_i) only [zc_263, zs_263_0, zs_263_1, zs_263_2, zs_263_3, zs_263_6, zs_263_7, zs_263_8, zs_263_10, zs_263_11, zs_263_13, zs_263_15, zs_263_16, zs_263_79, zs_263_81, r0, e1, zbk_v, zts_s, if_neg c1, List.cons_append, List.nil_append]
theorem e_263 (hM : zMdl h m w th) (hi : (ycur w).1[i]? = some t) (hj : (ycur w).1[j]? = some u) : zMC m h (zcall zP sv (d + 7) 263 [.ref m, .int (nI i), .int (nI j)] h) (nI (ycm ((yts t ++ yts u).map ypr) (ysz t) (ysz t))) w 0 := by
  obtain ⟨h1, e1, m1, k1⟩ := e_258 (sv := sv) (d := d) hM hi hj
  have r0 : ∀ X : zR, zrc (h.1 m) 13 X = X := fun X => zMdl_rc hM
  have hA := zMdl_A hM
  have ht := hA.2.1 t (List.mem_of_getElem? hi)
  have hu := hA.2.1 u (List.mem_of_getElem? hj)
  have mM := zMdP_M m1
  obtain ⟨F, f31, f8, l5, ⟨hm, _⟩, _⟩ := m1
  have E := e_263l (sv := sv) (d := d + 1) hm f8 l5 (yLs_app (yLs_t t (Or.inl ht.1)) (yLs_t u (Or.inl hu.1))) (s := ysz t) (by rw [List.length_append, yts_len]; omega) (l1 := .val (.int (nI i))) (l2 := .val (.int (nI j))) (ysz t) 0 .unset .unset znw_u znw_u (Nat.zero_add _)
  rw [show ycm ((yts t ++ yts u).map ypr) (ysz t) 0 = 0 from rfl, nI_0] at E
  refine ⟨h1, ?_, mM, k1⟩
  simp (disch := first | exact znw_u | exact znw_i) only [zc_263, zs_263_0, zs_263_1, zs_263_2, zs_263_3, zs_263_6, zs_263_7, zs_263_8, zs_263_10, zs_263_11, r0, e1, zbk_v, zts_s, List.cons_append, List.nil_append]
  exact E
end ZQK

section ZQL
variable {sv : Nat → Value} {d : Nat} {m : Nat} {F : Nat → Int32} {h : zH} {w : yW} {th : Int32} {i : Nat} {t : yT}
/-- slopes: of a node from its parts' slopes a, b and values x, y -/
def yst1 (c k v a b x y : Int32) : Int32 := if k = nI 42 then a * y + x * b else if k = nI 118 then (if yva k v = c then nI 1 else 0) else if k = nI 110 then -a else if k = nI 99 then 0 else yop k a b
def ysl (f : Int32 → Int32 → Int32 → Int32 → Int32) (c : Int32) : yT → Int32
  | .leaf => 0
  | .inner _ k v l r => yst1 c k v (ysl f c l) (ysl f c r) (yfo f l) (yfo f r)
def zSl (h : zH) (m : Nat) (s : List Int32) : Prop := ∃ St : List Int32, h.1 (m + 11) = (20, St.map Value.int) ∧ St.length = 700 ∧ St.take s.length = s ∧ s.length ≤ 700
def zsw (m : Nat) (h h' : zH) : Prop := (∀ q, q ≠ m + 11 → h'.1 q = h.1 q) ∧ h'.2 = h.2
theorem zsw_tr {h h' h'' : zH} (h1 : zsw m h h') (h2 : zsw m h' h'') : zsw m h h'' := ⟨fun q a => (h2.1 q a).trans (h1.1 q a), h2.2.trans h1.2⟩
theorem e_214t {l1 l2 l6 l7 : Slot} {s0 args : List Int32} {y : Int32} (hm : zMo h m F) (hs : zSl h m (s0 ++ args)) (hsl : s0.length < 600) (ha : args.length ≤ 2) (hi : i < 700) : ∃ h', zrun zP sv (zcall zP sv (d + 2)) 214 186 [.val (.ref m), l1, l2, .val (.int (nI (s0.length + args.length))), .val (.int (nI i)), .val (.int (nI args.length)), l6, l7, .val (.int y)] [] h = zrun zP sv (zcall zP sv (d + 2)) 214 16 [.val (.ref m), l1, l2, .val (.int (nI (s0.length + 1))), .val (.int (nI i - nI 1)), .val (.int (nI args.length)), l6, l7, .val (.int y)] [] h' ∧ zSl h' m (s0 ++ [y]) ∧ zsw m h h' := by
  obtain ⟨St, b1, b2, b3, b4⟩ := hs
  rw [List.length_append] at b4
  have hm' : h.1 m = (13, zMF m F) := hm
  have z3 : ∀ Kc : zC → zR, zaset (20, St.map Value.int) 20 (nI s0.length) (.int y) Kc = Kc (20, (St.set s0.length y).map Value.int) := fun Kc => zsI (by omega) (by omega)
  have z4 : nI (s0.length + args.length) - nI args.length = nI s0.length := by rw [← nI_add, Int32.add_sub_cancel]
  refine ⟨zup h (m + 11) (20, (St.set s0.length y).map Value.int), ?_, ⟨St.set s0.length y, zup_at, by rw [List.length_set, b2], ?_, by rw [List.length_append]; show s0.length + 1 ≤ 700; omega⟩, ⟨fun q q1 => by rw [zup_ne q1], rfl⟩⟩
  · rw [← nI_mm]
    simp (disch := first | exact znw_i | omega) only [zs_214_186, zs_214_187, zs_214_189, zs_214_190, zs_214_191, zs_214_192, zs_214_195, zs_214_196, zs_214_199, zs_214_201, zs_214_202, zs_214_205, z4, hm', zmf_14, b1, z3, nI_1', zup_ne]
  · have hb : St.take s0.length = s0 := by
      have := congrArg (List.take s0.length) b3
      rw [List.take_take, List.length_append, Nat.min_eq_left (by omega), List.take_left' rfl] at this
      exact this
    rw [show (s0 ++ [y]).length = s0.length + 1 from List.length_append, ytk_set hb (by omega)]
theorem zSl_g {s : List Int32} {x : Int32} (hs : zSl h m (s ++ [x])) (Kv : Value → zR) : zael (h.1 (m + 11)) 20 (nI s.length) Kv = Kv (.int x) := by
  obtain ⟨St, b1, b2, b3, b4⟩ := hs
  rw [List.length_append] at b4
  have b4' : s.length + 1 ≤ 700 := b4
  have hx : St[s.length]? = some x := ytk_at b3 (by rw [List.getElem?_append_right (Nat.le_refl _), Nat.sub_self]; rfl)
  rw [b1]
  exact zaelv (by rw [List.getElem?_map, hx]; rfl) (by omega)
theorem zSl_p {s : List Int32} {x : Int32} (hs : zSl h m (s ++ [x])) : zSl h m s := by
  obtain ⟨St, b1, b2, b3, b4⟩ := hs
  rw [List.length_append] at b4
  refine ⟨St, b1, b2, ?_, by omega⟩
  have := congrArg (List.take s.length) b3
  rw [List.take_take, List.length_append, Nat.min_eq_left (by omega), List.take_left' rfl] at this
  exact this
end ZQL

section ZQM
variable {sv : Nat → Value} {d : Nat} {m : Nat} {F : Nat → Int32} {w : yW} {th : Int32} {i : Nat} {t : yT}
theorem yfs_hd {f : Int32 → Int32 → Int32 → Int32 → Int32} {l : yT} {Fd : List Int32} {q : Nat} (hl : ytw l = true) (hg : (Fd.drop q).take (ysz l) = yfs f l) : Fd[q]? = some (yfo f l) := by
  cases l with
  | leaf => cases hl
  | inner n k v a b =>
    have h1 : ((Fd.drop q).take (ysz a + ysz b + 1))[0]? = some (yfo f (.inner n k v a b)) := by
      rw [show (Fd.drop q).take (ysz a + ysz b + 1) = yfs f (.inner n k v a b) from hg]
      rfl
    rw [List.getElem?_take_of_lt (by omega), List.getElem?_drop, Nat.add_zero] at h1
    exact h1
theorem ydt_l {A B : List Int32} {Fd : List Int32} {q a b : Nat} {x : Int32} (h : (Fd.drop q).take (a + b + 1) = x :: (A ++ B)) (ha : A.length = a) (hb : B.length = b) : (Fd.drop (q + 1)).take a = A ∧ (Fd.drop (q + 1 + a)).take b = B := by
  have h1 := congrArg (List.drop 1) h
  rw [List.drop_take, List.drop_drop, List.drop_succ_cons, List.drop_zero, Nat.add_sub_cancel] at h1
  constructor
  · have h2 := congrArg (List.take a) h1
    rw [List.take_take, Nat.min_eq_left (by omega), List.take_left' ha] at h2
    exact h2
  · have h2 := congrArg (List.drop a) h1
    rw [List.drop_take, List.drop_drop, List.drop_left' ha, Nat.add_sub_cancel_left] at h2
    exact h2
theorem nI_a1 {n : Nat} : nI n + nI 1 = nI (n + 1) := nI_add n 1
theorem e_214l {f : Int32 → Int32 → Int32 → Int32 → Int32} {c : Int32} {l2 : Slot} : ∀ (t : yT), ytw t = true → ∀ (pre post : yP) (s Fd : List Int32) (h : zH) (s5 s6 s7 s8 : Slot), znw s5 = true → znw s6 = true → znw s7 = true → znw s8 = true → zMo h m F → zLst h (m + 5) (m + 6) (pre ++ ypr t ++ post) → h.1 (m + 9) = (20, Fd.map Value.int) → Fd.length = 700 → (Fd.drop pre.length).take (ysz t) = yfs f t → zSl h m s → s.length + ysz t < 600 → ∃ h' r5 r6 r7 r8, zrun zP sv (zcall zP sv (d + 2)) 214 16 [.val (.ref m), .val (.int c), l2, .val (.int (nI s.length)), .val (.int (nI (pre.length + ysz t) - nI 1)), s5, s6, s7, s8] [] h = zrun zP sv (zcall zP sv (d + 2)) 214 16 [.val (.ref m), .val (.int c), l2, .val (.int (nI (s.length + 1))), .val (.int (nI pre.length - nI 1)), r5, r6, r7, r8] [] h' ∧ znw r5 = true ∧ znw r6 = true ∧ znw r7 = true ∧ znw r8 = true ∧ zSl h' m (s ++ [ysl f c t]) ∧ zsw m h h'
  | .leaf, ht => by cases ht
  | .inner z k v l r, ht => by
    intro pre post s Fd h s5 s6 s7 s8 h5 h6 h7 h8 hm hl hN hNl hg hs hlen
    have hlen' : s.length + (ysz l + ysz r + 1) < 600 := hlen
    have e0 : pre ++ ypr (.inner z k v l r) ++ post = pre ++ (k, yva k v) :: (ypr l ++ ypr r ++ post) := by
      show pre ++ (k, yva k v) :: (ypr l ++ ypr r) ++ post = _
      rw [List.append_assoc]; rfl
    have hi : (pre ++ (k, yva k v) :: (ypr l ++ ypr r ++ post))[pre.length]? = some (k, yva k v) := by
      rw [List.getElem?_append_right (Nat.le_refl _), Nat.sub_self]; rfl
    rw [e0] at hl
    have ea : pre ++ (k, yva k v) :: (ypr l ++ ypr r ++ post) = (pre ++ [(k, yva k v)]) ++ ypr l ++ (ypr r ++ post) := by
      rw [List.append_assoc, List.append_assoc, List.append_assoc]; rfl
    have eb : pre ++ (k, yva k v) :: (ypr l ++ ypr r ++ post) = (pre ++ [(k, yva k v)] ++ ypr l) ++ ypr r ++ post := by
      rw [ea]
      simp only [List.append_assoc]
    have l1 : (pre ++ [(k, yva k v)]).length = pre.length + 1 := List.length_append
    have l2' : (pre ++ [(k, yva k v)] ++ ypr l).length = pre.length + 1 + ysz l := by rw [List.length_append, l1, ypr_len]
    have hg' : (Fd.drop pre.length).take (ysz l + ysz r + 1) = yfo f (.inner z k v l r) :: (yfs f l ++ yfs f r) := hg
    obtain ⟨gl, gr⟩ := ydt_l hg' (yfs_len l) (yfs_len r)
    have fwl : ∀ h', zsw m h h' → zMo h' m F ∧ zLst h' (m + 5) (m + 6) (pre ++ (k, yva k v) :: (ypr l ++ ypr r ++ post)) ∧ h'.1 (m + 9) = (20, Fd.map Value.int) := fun h' q => ⟨by unfold zMo at hm ⊢; rw [q.1 m (by omega), hm], zLst_cg hl (q.1 _ (by omega)) (q.1 _ (by omega)), by rw [q.1 _ (by omega), hN]⟩
    have hil : pre.length < 700 := (e_look hl hi).choose_spec.choose_spec.2.2.2.2
    have hki : ¬ nI pre.length < 0 := nI_pos (by omega)
    have g01 : ((0 : Int32) < nI 1) = True := by decide +kernel
    have g00 : ((0 : Int32) < 0) = False := by decide +kernel
    have g02 : ((0 : Int32) < nI 2) = True := by decide +kernel
    have g10 : ((nI 1 : Int32) < 0) = False := by decide +kernel
    have g11 : ((nI 1 : Int32) < nI 1) = False := by decide +kernel
    have g12 : ((nI 1 : Int32) < nI 2) = True := by decide +kernel
    have q02 : ((0 : Int32) = nI 2) = False := by decide +kernel
    have q12 : ((nI 1 : Int32) = nI 2) = False := by decide +kernel
    have q99 : (nI 99 = nI 118) = False := by decide +kernel
    have q98 : (nI 99 = nI 110) = False := by decide +kernel
    have q97 : (nI 118 = nI 110) = False := by decide +kernel
    have q96 : (nI 110 = nI 118) = False := by decide +kernel
    have q95 : ¬ nI 99 = nI 42 := by decide +kernel
    have q94 : ¬ nI 118 = nI 42 := by decide +kernel
    have q93 : ¬ nI 110 = nI 42 := by decide +kernel
    rcases ytw_el ht with g0 | g0 | g0 | g0
    · obtain ⟨g1, g2, g3⟩ := g0
      subst g1 g2 g3
      obtain ⟨A, B, a1, a2, a3, a4, a5⟩ := e_look hl hi
      have hm' : h.1 m = (13, zMF m F) := hm
      obtain ⟨h', e, o1, o2⟩ := e_214t (sv := sv) (d := d) (h := h) (i := pre.length) (l1 := .val (.int c)) (l2 := l2) (l6 := .val (.int 0)) (l7 := .val (.int 0)) (s0 := s) (args := []) (y := 0) hm (by rw [List.append_nil]; exact hs) (by omega) (by decide) (by omega)
      refine ⟨h', .val (.int (nI ([] : List Int32).length)), .val (.int 0), .val (.int 0), .val (.int 0), ?_, rfl, rfl, rfl, rfl, ?_, o2⟩
      · rw [← e]
        rw [show pre.length + ysz (.inner z (nI 99) v .leaf .leaf) = pre.length + 1 from rfl, nI_m, List.length_nil, Nat.add_zero]
        simp (disch := first | exact h5 | exact h6 | exact h7 | exact h8 | exact znw_i) only [zs_214_0, zs_214_1, zs_214_2, zs_214_5, zs_214_6, zs_214_7, zs_214_8, zs_214_9, zs_214_12, zs_214_13, zs_214_14, zs_214_18, zs_214_21, zs_214_22, zs_214_25, zs_214_27, zs_214_28, zs_214_31, zs_214_33, zs_214_35, zs_214_38, zs_214_39, zs_214_42, zs_214_43, zs_214_44, zs_214_45, zs_214_46, zs_214_49, zs_214_50, zs_214_52, zs_214_54, zs_214_55, zs_214_58, zs_214_59, zs_214_62, zs_214_63, zs_214_64, zs_214_65, zs_214_66, zs_214_69, zs_214_70, zs_214_72, zs_214_73, zs_214_76, zs_214_78, zs_214_79, zs_214_81, zs_214_84, zs_214_85, zs_214_88, zs_214_90, zs_214_91, zs_214_92, zs_214_95, zs_214_96, zs_214_99, zs_214_100, zs_214_103, zs_214_105, zs_214_106, zs_214_108, zs_214_111, zs_214_113, zs_214_114, zs_214_117, zs_214_118, zs_214_120, zs_214_122, zs_214_123, zs_214_126, zs_214_127, zs_214_130, zs_214_132, zs_214_133, zs_214_135, zs_214_138, zs_214_140, zs_214_141, zs_214_144, zs_214_145, zs_214_147, zs_214_148, zs_214_149, zs_214_152, zs_214_153, zs_214_154, zs_214_155, zs_214_158, zs_214_160, zs_214_161, zs_214_162, zs_214_163, zs_214_165, zs_214_166, zs_214_167, zs_214_170, zs_214_171, zs_214_174, zs_214_176, zs_214_177, zs_214_179, zs_214_181, zs_214_184, zs_214_187, zs_214_189, zs_214_190, zs_214_191, zs_214_192, zs_214_195, zs_214_196, zs_214_199, zs_214_201, zs_214_202, zs_214_205, zs_214_208, zs_214_209, zs_214_212, zs_214_213, zs_214_214, zs_214_16, if_neg hki, hm', zmf_6, a1, a3, e_205, yar_c, nI_0, Nat.add_zero, g00, g10, q02, q99, q98, zrc_13v, zbk_v, zts_s, ↓reduceIte, List.cons_append, List.nil_append]
      · show zSl h' m (s ++ [yst1 c (nI 99) v 0 0 0 0])
        unfold yst1
        simp only [if_neg q95, q99, q98, ↓reduceIte]
        exact o1
    · obtain ⟨g1, glet, g2, g3⟩ := g0
      subst g1 g2 g3
      obtain ⟨A, B, a1, a2, a3, a4, a5⟩ := e_look hl hi
      have hm' : h.1 m = (13, zMF m F) := hm
      obtain ⟨h', e, o1, o2⟩ := e_214t (sv := sv) (d := d) (h := h) (i := pre.length) (l1 := .val (.int c)) (l2 := l2) (l6 := .val (.int 0)) (l7 := .val (.int 0)) (s0 := s) (args := []) (y := if yva (nI 118) v = c then nI 1 else 0) hm (by rw [List.append_nil]; exact hs) (by omega) (by decide) (by omega)
      refine ⟨h', .val (.int (nI ([] : List Int32).length)), .val (.int 0), .val (.int 0), .val (.int (if yva (nI 118) v = c then nI 1 else 0)), ?_, rfl, rfl, rfl, znw_i, ?_, o2⟩
      · rw [← e]
        rw [show pre.length + ysz (.inner z (nI 118) v .leaf .leaf) = pre.length + 1 from rfl, nI_m, List.length_nil, Nat.add_zero]
        by_cases hv : yva (nI 118) v = c
        · rw [if_pos hv]
          simp (disch := first | exact h5 | exact h6 | exact h7 | exact h8 | exact znw_i) only [zs_214_0, zs_214_1, zs_214_2, zs_214_5, zs_214_6, zs_214_7, zs_214_8, zs_214_9, zs_214_12, zs_214_13, zs_214_14, zs_214_18, zs_214_21, zs_214_22, zs_214_25, zs_214_27, zs_214_28, zs_214_31, zs_214_33, zs_214_35, zs_214_38, zs_214_39, zs_214_42, zs_214_43, zs_214_44, zs_214_45, zs_214_46, zs_214_49, zs_214_50, zs_214_52, zs_214_54, zs_214_55, zs_214_58, zs_214_59, zs_214_62, zs_214_63, zs_214_64, zs_214_65, zs_214_66, zs_214_69, zs_214_70, zs_214_72, zs_214_73, zs_214_76, zs_214_78, zs_214_79, zs_214_81, zs_214_84, zs_214_85, zs_214_88, zs_214_90, zs_214_91, zs_214_92, zs_214_95, zs_214_96, zs_214_99, zs_214_100, zs_214_103, zs_214_105, zs_214_106, zs_214_108, zs_214_111, zs_214_113, zs_214_114, zs_214_117, zs_214_118, zs_214_120, zs_214_122, zs_214_123, zs_214_126, zs_214_127, zs_214_130, zs_214_132, zs_214_133, zs_214_135, zs_214_138, zs_214_140, zs_214_141, zs_214_144, zs_214_145, zs_214_147, zs_214_148, zs_214_149, zs_214_152, zs_214_153, zs_214_154, zs_214_155, zs_214_158, zs_214_160, zs_214_161, zs_214_162, zs_214_163, zs_214_165, zs_214_166, zs_214_167, zs_214_170, zs_214_171, zs_214_174, zs_214_176, zs_214_177, zs_214_179, zs_214_181, zs_214_184, zs_214_187, zs_214_189, zs_214_190, zs_214_191, zs_214_192, zs_214_195, zs_214_196, zs_214_199, zs_214_201, zs_214_202, zs_214_205, zs_214_208, zs_214_209, zs_214_212, zs_214_213, zs_214_214, zs_214_16, if_neg hki, hm', zmf_6, zmf_7, a1, a2, a3, a4, e_205, yar_v, nI_0, Nat.add_zero, g00, g10, q02, if_pos hv, zrc_13v, zbk_v, zts_s, ↓reduceIte, List.cons_append, List.nil_append]
        · rw [if_neg hv]
          simp (disch := first | exact h5 | exact h6 | exact h7 | exact h8 | exact znw_i) only [zs_214_0, zs_214_1, zs_214_2, zs_214_5, zs_214_6, zs_214_7, zs_214_8, zs_214_9, zs_214_12, zs_214_13, zs_214_14, zs_214_18, zs_214_21, zs_214_22, zs_214_25, zs_214_27, zs_214_28, zs_214_31, zs_214_33, zs_214_35, zs_214_38, zs_214_39, zs_214_42, zs_214_43, zs_214_44, zs_214_45, zs_214_46, zs_214_49, zs_214_50, zs_214_52, zs_214_54, zs_214_55, zs_214_58, zs_214_59, zs_214_62, zs_214_63, zs_214_64, zs_214_65, zs_214_66, zs_214_69, zs_214_70, zs_214_72, zs_214_73, zs_214_76, zs_214_78, zs_214_79, zs_214_81, zs_214_84, zs_214_85, zs_214_88, zs_214_90, zs_214_91, zs_214_92, zs_214_95, zs_214_96, zs_214_99, zs_214_100, zs_214_103, zs_214_105, zs_214_106, zs_214_108, zs_214_111, zs_214_113, zs_214_114, zs_214_117, zs_214_118, zs_214_120, zs_214_122, zs_214_123, zs_214_126, zs_214_127, zs_214_130, zs_214_132, zs_214_133, zs_214_135, zs_214_138, zs_214_140, zs_214_141, zs_214_144, zs_214_145, zs_214_147, zs_214_148, zs_214_149, zs_214_152, zs_214_153, zs_214_154, zs_214_155, zs_214_158, zs_214_160, zs_214_161, zs_214_162, zs_214_163, zs_214_165, zs_214_166, zs_214_167, zs_214_170, zs_214_171, zs_214_174, zs_214_176, zs_214_177, zs_214_179, zs_214_181, zs_214_184, zs_214_187, zs_214_189, zs_214_190, zs_214_191, zs_214_192, zs_214_195, zs_214_196, zs_214_199, zs_214_201, zs_214_202, zs_214_205, zs_214_208, zs_214_209, zs_214_212, zs_214_213, zs_214_214, zs_214_16, if_neg hki, hm', zmf_6, zmf_7, a1, a2, a3, a4, e_205, yar_v, nI_0, Nat.add_zero, g00, g10, q02, q97, if_neg hv, zrc_13v, zbk_v, zts_s, ↓reduceIte, List.cons_append, List.nil_append]
      · show zSl h' m (s ++ [yst1 c (nI 118) v 0 0 0 0])
        unfold yst1
        simp only [if_neg q94, ↓reduceIte]
        exact o1
    · obtain ⟨g1, gv, g2, g3⟩ := g0
      subst g1 gv g3
      have hl1 := hl
      rw [ea] at hl1
      obtain ⟨h1, u5, u6, u7, u8, e1, p5, p6, p7, p8, p9, p10⟩ := e_214l (f := f) (c := c) (l2 := l2) l g2 _ _ s Fd h s5 s6 s7 s8 h5 h6 h7 h8 hm hl1 hN hNl (by rw [l1]; exact gl) hs (by omega)
      rw [l1] at e1
      obtain ⟨hm2, hl2, hN2⟩ := fwl h1 p10
      obtain ⟨A, B, a1, a2, a3, a4, a5⟩ := e_look hl2 hi
      have hm' : h1.1 m = (13, zMF m F) := hm2
      have z1 := zSl_g p9
      obtain ⟨h', e, o1, o2⟩ := e_214t (sv := sv) (d := d) (h := h1) (i := pre.length) (l1 := .val (.int c)) (l2 := l2) (l6 := .val (.int (ysl f c l))) (l7 := .val (.int 0)) (s0 := s) (args := [ysl f c l]) (y := -(ysl f c l)) hm2 p9 (by omega) (Nat.le_succ 1) (by omega)
      refine ⟨h', .val (.int (nI [ysl f c l].length)), .val (.int (ysl f c l)), .val (.int 0), .val (.int (-(ysl f c l))), ?_, rfl, rfl, rfl, rfl, ?_, zsw_tr p10 o2⟩
      · rw [← e]
        rw [show pre.length + ysz (.inner z (nI 110) 0 l .leaf) = pre.length + 1 + ysz l by show pre.length + (ysz l + 0 + 1) = _; omega]
        refine e1.trans ?_
        rw [nI_m, show [ysl f c l].length = 1 from rfl]
        simp (disch := first | exact p5 | exact p6 | exact p7 | exact p8 | exact znw_i) only [zs_214_0, zs_214_1, zs_214_2, zs_214_5, zs_214_6, zs_214_7, zs_214_8, zs_214_9, zs_214_12, zs_214_13, zs_214_14, zs_214_18, zs_214_21, zs_214_22, zs_214_25, zs_214_27, zs_214_28, zs_214_31, zs_214_33, zs_214_35, zs_214_38, zs_214_39, zs_214_42, zs_214_43, zs_214_44, zs_214_45, zs_214_46, zs_214_49, zs_214_50, zs_214_52, zs_214_54, zs_214_55, zs_214_58, zs_214_59, zs_214_62, zs_214_63, zs_214_64, zs_214_65, zs_214_66, zs_214_69, zs_214_70, zs_214_72, zs_214_73, zs_214_76, zs_214_78, zs_214_79, zs_214_81, zs_214_84, zs_214_85, zs_214_88, zs_214_90, zs_214_91, zs_214_92, zs_214_95, zs_214_96, zs_214_99, zs_214_100, zs_214_103, zs_214_105, zs_214_106, zs_214_108, zs_214_111, zs_214_113, zs_214_114, zs_214_117, zs_214_118, zs_214_120, zs_214_122, zs_214_123, zs_214_126, zs_214_127, zs_214_130, zs_214_132, zs_214_133, zs_214_135, zs_214_138, zs_214_140, zs_214_141, zs_214_144, zs_214_145, zs_214_147, zs_214_148, zs_214_149, zs_214_152, zs_214_153, zs_214_154, zs_214_155, zs_214_158, zs_214_160, zs_214_161, zs_214_162, zs_214_163, zs_214_165, zs_214_166, zs_214_167, zs_214_170, zs_214_171, zs_214_174, zs_214_176, zs_214_177, zs_214_179, zs_214_181, zs_214_184, zs_214_187, zs_214_189, zs_214_190, zs_214_191, zs_214_192, zs_214_195, zs_214_196, zs_214_199, zs_214_201, zs_214_202, zs_214_205, zs_214_208, zs_214_209, zs_214_212, zs_214_213, zs_214_214, zs_214_16, if_neg hki, hm', zmf_6, zmf_14, a1, a3, z1, nI_m, e_205, yar_n, g01, g11, q12, q96, zrc_13v, zbk_v, zts_s, ↓reduceIte, List.cons_append, List.nil_append]
      · show zSl h' m (s ++ [yst1 c (nI 110) 0 (ysl f c l) 0 (yfo f l) 0])
        unfold yst1
        simp only [if_neg q93, q96, ↓reduceIte]
        exact o1
    · obtain ⟨gk, gv, g2, g3⟩ := g0
      subst gv
      have hl1 := hl
      rw [eb] at hl1
      obtain ⟨h1, u5, u6, u7, u8, e1, p5, p6, p7, p8, p9, p10⟩ := e_214l (f := f) (c := c) (l2 := l2) r g3 _ _ s Fd h s5 s6 s7 s8 h5 h6 h7 h8 hm hl1 hN hNl (by rw [l2']; exact gr) hs (by omega)
      rw [l2'] at e1
      obtain ⟨hm2, hl2, hN2⟩ := fwl h1 p10
      have hl2'' := hl2
      rw [ea] at hl2''
      have ls : (s ++ [ysl f c r]).length = s.length + 1 := List.length_append
      obtain ⟨h2, x5, x6, x7, x8, e2, o5, o6, o7, o8, o9, o10⟩ := e_214l (f := f) (c := c) (l2 := l2) l g2 _ _ (s ++ [ysl f c r]) Fd h1 u5 u6 u7 u8 p5 p6 p7 p8 hm2 hl2'' hN2 hNl (by rw [l1]; exact gl) p9 (by rw [ls]; omega)
      rw [l1, ls] at e2
      obtain ⟨hm3, hl3, hN3⟩ := fwl h2 (zsw_tr p10 o10)
      obtain ⟨A, B, a1, a2, a3, a4, a5⟩ := e_look hl3 hi
      have hm' : h2.1 m = (13, zMF m F) := hm3
      have z1 := zSl_g o9
      rw [ls] at z1
      have z2 := zSl_g (zSl_p o9)
      have m2 : nI (s.length + 1 + 1) - nI 2 = nI s.length := by rw [show s.length + 1 + 1 = s.length + 2 by omega, ← nI_add, Int32.add_sub_cancel]
      have hk9 : ¬ k = nI 118 := fun q => by rw [q] at gk; exact absurd gk (by decide +kernel)
      have hk8 : ¬ k = nI 110 := fun q => by rw [q] at gk; exact absurd gk (by decide +kernel)
      have hk7 : ¬ k = nI 99 := fun q => by rw [q] at gk; exact absurd gk (by decide +kernel)
      have ay := yar_o gk
      have o9' : zSl h2 m (s ++ [ysl f c r, ysl f c l]) := by
        rw [show s ++ [ysl f c r, ysl f c l] = s ++ [ysl f c r] ++ [ysl f c l] by rw [List.append_assoc]; rfl]
        exact o9
      obtain ⟨h', e, v1, v2⟩ := e_214t (sv := sv) (d := d) (h := h2) (i := pre.length) (l1 := .val (.int c)) (l2 := l2) (l6 := .val (.int (ysl f c l))) (l7 := .val (.int (ysl f c r))) (s0 := s) (args := [ysl f c r, ysl f c l]) (y := yst1 c k 0 (ysl f c l) (ysl f c r) (yfo f l) (yfo f r)) hm3 o9' (by omega) (Nat.le_refl 2) (by omega)
      refine ⟨h', .val (.int (nI [ysl f c r, ysl f c l].length)), .val (.int (ysl f c l)), .val (.int (ysl f c r)), .val (.int (yst1 c k 0 (ysl f c l) (ysl f c r) (yfo f l) (yfo f r))), ?_, rfl, rfl, rfl, rfl, v1, zsw_tr (zsw_tr p10 o10) v2⟩
      rw [← e]
      rw [show pre.length + ysz (.inner z k 0 l r) = pre.length + 1 + ysz l + ysz r by show pre.length + (ysz l + ysz r + 1) = _; omega]
      refine e1.trans (e2.trans ?_)
      rw [show [ysl f c r, ysl f c l].length = 2 from rfl, nI_m]
      by_cases hs2 : k = nI 42
      · subst hs2
        have hl3' := hl3
        rw [ea] at hl3'
        have E9 : zcall zP sv (d + 2) 209 [.ref m, .int (nI (pre ++ [(nI 42, yva (nI 42) 0)]).length)] h2 = _ := e_209 (sv := sv) (d := d) hm3 g2 hl3'
        rw [l1] at E9
        have f1 : ∀ Kv, zael (20, Fd.map Value.int) 20 (nI (pre.length + 1)) Kv = Kv (.int (yfo f l)) := fun Kv => zaelv (by rw [List.getElem?_map, yfs_hd g2 gl]; rfl) (by omega)
        have hb5 : pre.length + 1 + ysz l < 2 ^ 31 := by omega
        have f2 : ∀ Kv, zael (20, Fd.map Value.int) 20 (nI (pre.length + 1 + ysz l)) Kv = Kv (.int (yfo f r)) := fun Kv => zaelv (by rw [List.getElem?_map, yfs_hd g3 gr]; rfl) hb5
        unfold yst1
        simp (disch := first | exact o5 | exact o6 | exact o7 | exact o8 | exact znw_i) only [zs_214_0, zs_214_1, zs_214_2, zs_214_5, zs_214_6, zs_214_7, zs_214_8, zs_214_9, zs_214_12, zs_214_13, zs_214_14, zs_214_18, zs_214_21, zs_214_22, zs_214_25, zs_214_27, zs_214_28, zs_214_31, zs_214_33, zs_214_35, zs_214_38, zs_214_39, zs_214_42, zs_214_43, zs_214_44, zs_214_45, zs_214_46, zs_214_49, zs_214_50, zs_214_52, zs_214_54, zs_214_55, zs_214_58, zs_214_59, zs_214_62, zs_214_63, zs_214_64, zs_214_65, zs_214_66, zs_214_69, zs_214_70, zs_214_72, zs_214_73, zs_214_76, zs_214_78, zs_214_79, zs_214_81, zs_214_84, zs_214_85, zs_214_88, zs_214_90, zs_214_91, zs_214_92, zs_214_95, zs_214_96, zs_214_99, zs_214_100, zs_214_103, zs_214_105, zs_214_106, zs_214_108, zs_214_111, zs_214_113, zs_214_114, zs_214_117, zs_214_118, zs_214_120, zs_214_122, zs_214_123, zs_214_126, zs_214_127, zs_214_130, zs_214_132, zs_214_133, zs_214_135, zs_214_138, zs_214_140, zs_214_141, zs_214_144, zs_214_145, zs_214_147, zs_214_148, zs_214_149, zs_214_152, zs_214_153, zs_214_154, zs_214_155, zs_214_158, zs_214_160, zs_214_161, zs_214_162, zs_214_163, zs_214_165, zs_214_166, zs_214_167, zs_214_170, zs_214_171, zs_214_174, zs_214_176, zs_214_177, zs_214_179, zs_214_181, zs_214_184, zs_214_187, zs_214_189, zs_214_190, zs_214_191, zs_214_192, zs_214_195, zs_214_196, zs_214_199, zs_214_201, zs_214_202, zs_214_205, zs_214_208, zs_214_209, zs_214_212, zs_214_213, zs_214_214, zs_214_16, if_neg hki, hm', zmf_6, zmf_12, zmf_14, a1, a3, z1, z2, m2, nI_m, e_205, ay, g02, g12, hk9, hk8, hN3, f1, f2, E9, nI_a1, zrc_13v, zbk_v, zts_s, ↓reduceIte, List.cons_append, List.nil_append]
      · have E1 : ∀ a b, zcall zP sv (d + 2) 211 [.int k, .int a, .int b] h2 = some (.inl (some (.int (yop k a b))), h2) := fun a b => e_211 (d := d + 1) gk
        unfold yst1
        simp (disch := first | exact o5 | exact o6 | exact o7 | exact o8 | exact znw_i) only [zs_214_0, zs_214_1, zs_214_2, zs_214_5, zs_214_6, zs_214_7, zs_214_8, zs_214_9, zs_214_12, zs_214_13, zs_214_14, zs_214_18, zs_214_21, zs_214_22, zs_214_25, zs_214_27, zs_214_28, zs_214_31, zs_214_33, zs_214_35, zs_214_38, zs_214_39, zs_214_42, zs_214_43, zs_214_44, zs_214_45, zs_214_46, zs_214_49, zs_214_50, zs_214_52, zs_214_54, zs_214_55, zs_214_58, zs_214_59, zs_214_62, zs_214_63, zs_214_64, zs_214_65, zs_214_66, zs_214_69, zs_214_70, zs_214_72, zs_214_73, zs_214_76, zs_214_78, zs_214_79, zs_214_81, zs_214_84, zs_214_85, zs_214_88, zs_214_90, zs_214_91, zs_214_92, zs_214_95, zs_214_96, zs_214_99, zs_214_100, zs_214_103, zs_214_105, zs_214_106, zs_214_108, zs_214_111, zs_214_113, zs_214_114, zs_214_117, zs_214_118, zs_214_120, zs_214_122, zs_214_123, zs_214_126, zs_214_127, zs_214_130, zs_214_132, zs_214_133, zs_214_135, zs_214_138, zs_214_140, zs_214_141, zs_214_144, zs_214_145, zs_214_147, zs_214_148, zs_214_149, zs_214_152, zs_214_153, zs_214_154, zs_214_155, zs_214_158, zs_214_160, zs_214_161, zs_214_162, zs_214_163, zs_214_165, zs_214_166, zs_214_167, zs_214_170, zs_214_171, zs_214_174, zs_214_176, zs_214_177, zs_214_179, zs_214_181, zs_214_184, zs_214_187, zs_214_189, zs_214_190, zs_214_191, zs_214_192, zs_214_195, zs_214_196, zs_214_199, zs_214_201, zs_214_202, zs_214_205, zs_214_208, zs_214_209, zs_214_212, zs_214_213, zs_214_214, zs_214_16, if_neg hki, hm', zmf_6, zmf_12, zmf_14, a1, a3, z1, z2, m2, nI_m, e_205, ay, g02, g12, hk9, hk8, hk7, if_neg hs2, E1, zrc_13v, zbk_v, zts_s, ↓reduceIte, List.cons_append, List.nil_append]
end ZQM

section ZQT
variable {sv : Nat → Value} {d : Nat} {m : Nat} {h : zH} {w : yW} {th : Int32} {i : Nat} {t : yT}
theorem e_214 {c : Int32} (hM : zMdL h m w t) : ∃ (h' : zH) (N : List Int32), zcall zP sv (d + 4) 214 [.ref m, .int c] h = some (.inl (some (.int (ysl (ymf 0 N) c t))), h') ∧ yNow N (ycur w) ∧ zMdL h' m w t ∧ zmw m h h' := by
  have r0 : ∀ X : zR, zrc (h.1 m) 13 X = X := fun X => zMdL_rc hM
  obtain ⟨h1, N, e1, hN, hn, m1, k1, ⟨St, Fd, _, d1, d2, d3, d4⟩, fw⟩ := zMdL_f (sv := sv) (d := d) (k := 0) (by decide) hM
  rw [yfs_len] at d3
  rw [nI_0] at e1
  obtain ⟨F, f31, f8, l5, hw, hT, hr, hA, ht⟩ := m1
  obtain ⟨hm, ⟨N1, hN1, hn1⟩, hs⟩ := id hw
  have hm' : h1.1 m = (13, zMF m F) := hm
  obtain ⟨_, ⟨p1, l7⟩, hsf, ⟨S11, c2, c2'⟩, c3, c4, c5, c6⟩ := id hs
  have hl0 : zLst h1 (m + 5) (m + 6) ([] ++ ypr t ++ []) := by rw [List.nil_append, List.append_nil]; exact l5
  obtain ⟨h2, r5, r6, r7, r8, e2, q5, q6, q7, q8, q9, q10⟩ := e_214l (sv := sv) (d := d + 1) (f := ymf 0 N) (c := c) (l2 := .val (.int (yfo (ymf 0 N) t))) t ht.1 [] [] [] Fd h1 .unset .unset .unset .unset znw_u znw_u znw_u znw_u hm hl0 d1 d2 d3 ⟨S11, c2, c2', rfl, Nat.zero_le _⟩ (by have := ht.2.1; show 0 + ysz t < 600; omega)
  have l0 : ([] : yP).length = 0 := rfl
  rw [List.length_nil, l0, Nat.zero_add, nI_0] at e2
  have g0 : (0 - nI 1 : Int32) < 0 := by decide +kernel
  have g2 : h2.1 m = (13, zMF m F) := by rw [q10.1 m (by omega), hm']
  have gS := zSl_g (s := []) q9
  rw [List.length_nil, nI_0] at gS
  have fr : ∀ q, q ≠ m + 11 → h2.1 q = h1.1 q := q10.1
  obtain ⟨S2, s1, s2, _⟩ := q9
  refine ⟨h2, N, ?_, hn, ⟨F, f31, f8, zLst_cg l5 (fr _ (by omega)) (fr _ (by omega)), ⟨g2, ⟨N1, zTab_cg hN1 (fr _ (by omega)), hn1⟩, ⟨⟨_, zLst_cg l5 (fr _ (by omega)) (fr _ (by omega))⟩, ⟨p1, zLst_cg l7 (fr _ (by omega)) (fr _ (by omega))⟩, ?_, ⟨S2, s1, s2⟩, zArr_cg c3 (fr _ (by omega)), zArr_cg c4 (fr _ (by omega)), zArr_cg c5 (fr _ (by omega)), zArr_cg c6 (fr _ (by omega))⟩⟩, ?_, zRst_cg hr ⟨rfl, rfl, rfl, rfl, rfl⟩ (fr _ (by omega)) (fr _ (by omega)) (fr _ (by omega)) (fr _ (by omega)), hA, ht⟩, zmw_tr k1 ⟨fun q hq => fr q (by omega), q10.2⟩⟩
  · simp (disch := first | exact znw_u | exact znw_i) only [zc_214, zs_214_0, zs_214_1, zs_214_2, zs_214_5, zs_214_6, zs_214_7, zs_214_8, zs_214_9, zs_214_12, zs_214_13, zs_214_14, r0, e1, zbk_v, zts_s, hm', zmf_8, f8, List.cons_append, List.nil_append]
    rw [e2]
    simp only [zs_214_16, zs_214_18, if_pos g0, zs_214_208, zs_214_209, zs_214_212, zs_214_213, zs_214_214, g2, zmf_14, gS]
  · obtain ⟨St3, Fd3, s1', s2', s3', s4'⟩ := hsf
    exact ⟨St3, Fd3, by rw [fr _ (by omega), s1'], s2', by rw [fr _ (by omega), s3'], s4'⟩
  · obtain ⟨T, hT⟩ := hT
    exact ⟨T, zTab_cg hT (fr _ (by omega))⟩
theorem e_266x {x c : Int32} (hM : zMdl h m w th) (hx : yinF (ycur w) x = false) : zMC m h (zcall zP sv (d + 7) 266 [.ref m, .int x, .int c] h) 0 w (nI 1) := by
  obtain ⟨h1, e1, m1, k1⟩ := e_252x (sv := sv) (d := d) hM hx
  have r0 : ∀ X : zR, zrc (h.1 m) 13 X = X := fun X => zMdl_rc hM
  refine ⟨h1, ?_, m1, k1⟩
  simp only [zc_266, zs_266_0, zs_266_1, zs_266_2, zs_266_5, zs_266_8, zs_266_9, zs_266_10, zs_266_11, zs_266_14, zs_266_17, zs_266_18, zs_266_19, zs_266_21, zs_266_22, zs_266_25, zs_266_28, zs_266_29, zs_266_30, zs_266_33, r0, e1, zbk_v, zts_s, ↓reduceIte, List.cons_append, List.nil_append]
theorem e_266a {c : Int32} (hM : zMdl h m w th) (hi : (ycur w).1[i]? = some t) (hc : ylet c = false) : zMC m h (zcall zP sv (d + 7) 266 [.ref m, .int (nI i), .int c] h) 0 w (nI 2) := by
  obtain ⟨h1, e1, m1, k1⟩ := e_252 (sv := sv) (d := d) hM hi
  have r0 : ∀ X : zR, zrc (h.1 m) 13 X = X := fun X => zMdl_rc hM
  obtain ⟨F, g, g1, g2⟩ := zMdL_31 (x := nI 2) m1
  have E : zcall zP sv (d + 6) 204 [.int c] h1 = _ := e_204 (sv := sv) (d := d + 4)
  rw [hc, yb_f] at E
  have E2 : zcall zP sv (d + 6) 198 [.ref m, .int (nI 2)] h1 = _ := e_198 (sv := sv) (d := d + 5) g
  refine ⟨_, ?_, g1, zmw_tr k1 g2⟩
  simp only [zc_266, zs_266_0, zs_266_1, zs_266_2, zs_266_5, zs_266_8, zs_266_9, zs_266_10, zs_266_11, zs_266_14, zs_266_17, zs_266_18, zs_266_19, zs_266_21, zs_266_22, zs_266_25, zs_266_28, zs_266_29, zs_266_30, zs_266_33, r0, e1, zbk_v, zts_s, E, E2, nI_1e0, g, zrc_13v, ↓reduceIte, List.cons_append, List.nil_append]
theorem e_266 {c : Int32} (hM : zMdl h m w th) (hi : (ycur w).1[i]? = some t) (hc : ylet c = true) : ∃ N, yNow N (ycur w) ∧ zMC m h (zcall zP sv (d + 7) 266 [.ref m, .int (nI i), .int c] h) (ysl (ymf 0 N) (c - nI 97) t) w 0 := by
  obtain ⟨h1, e1, m1, k1⟩ := e_252 (sv := sv) (d := d) hM hi
  have r0 : ∀ X : zR, zrc (h.1 m) 13 X = X := fun X => zMdl_rc hM
  have r1 : ∀ X : zR, zrc (h1.1 m) 13 X = X := fun X => zMdL_rc m1
  have E : zcall zP sv (d + 6) 204 [.int c] h1 = _ := e_204 (sv := sv) (d := d + 4)
  rw [hc, yb_t] at E
  obtain ⟨h2, N, e2, hn, m2, k2⟩ := e_214 (sv := sv) (d := d + 2) (c := c - nI 97) m1
  refine ⟨N, hn, h2, ?_, zMdL_M m2, zmw_tr k1 k2⟩
  simp only [zc_266, zs_266_0, zs_266_1, zs_266_2, zs_266_5, zs_266_8, zs_266_9, zs_266_10, zs_266_11, zs_266_14, zs_266_17, zs_266_18, zs_266_19, zs_266_21, zs_266_22, zs_266_25, zs_266_28, zs_266_29, zs_266_30, zs_266_33, r0, r1, e1, zbk_v, zts_s, E, e2, nI_1e0, ↓reduceIte, List.cons_append, List.nil_append]
theorem e_267w {x c a th' : Int32} (hM : zMdl h m w th) (hc : zMC m h (zcall zP sv (d + 7) 266 [.ref m, .int x, .int c] h) a w th') : zMC m h (zcall zP sv (d + 8) 267 [.ref m, .int x, .int c] h) a w th' := by
  obtain ⟨h1, e1, m1, k1⟩ := hc
  have r0 : ∀ X : zR, zrc (h.1 m) 13 X = X := fun X => zMdl_rc hM
  refine ⟨h1, ?_, m1, k1⟩
  simp (disch := first | exact znw_u | exact znw_i) only [zc_267, zs_267_0, zs_267_1, zs_267_2, zs_267_3, zs_267_6, r0, e1, zbk_v, zts_s, List.cons_append, List.nil_append]
end ZQT
