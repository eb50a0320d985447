def zAl (h : zH) (al : Nat) (P : List Int32) : Prop := h.1 al = (9, [.ref (al + 1)]) ∧ zRow h (al + 1) P ∧ P.length = 124
theorem zAl_rc {h : zH} {al : Nat} {P : List Int32} {X : zR} (ha : zAl h al P) : zrc (h.1 al) 9 X = X := by
  rw [ha.1]
  exact zrc_k
theorem zAl_fr {h h' : zH} {lo hi al : Nat} {P : List Int32} (ha : zAl h al P) (hf : zfr lo hi h h') (hq : al + 3 ≤ lo ∨ hi ≤ al) : zAl h' al P := ⟨by rw [hf.1 al (by omega), ha.1], zRow_fr ha.2.1 hf (by omega), ha.2.2⟩
theorem zAl_set {h : zH} {al i : Nat} {P : List Int32} {x : Int32} (ha : zAl h al P) (hi : i < 2 ^ 31) : zAl (zup h (al + 1 + 1) (20, (ys P (nI i) x).map Value.int)) al (P.set i x) := by
  rw [ys_k hi]
  exact ⟨by rw [zup_ne (by omega), ha.1], zRow_new ha.2.1 (by rw [List.length_set]), by rw [List.length_set]; exact ha.2.2⟩
/-- the places of the first i nodes: what the map makes of each -/
def yP2 (φ : yT → yT) (ns os : List yN) (P : List Int32) (i : Nat) : Prop := ∀ (j : Nat) (t : yT), j < i → (ytm ns)[j]? = some t → ∃ x, P[j]? = some x ∧ ych os.length x ∧ ygt (ytm os) x = φ t
theorem yP2_0 {φ : yT → yT} {ns os : List yN} {P : List Int32} : yP2 φ ns os P 0 := fun j t hj => absurd hj (Nat.not_lt_zero j)
theorem yP2_app {φ : yT → yT} {ns os e : List yN} {P : List Int32} {i : Nat} (hp : yP2 φ ns os P i) (hl : os.length < 2 ^ 31) : yP2 φ ns (os ++ e) P i := fun j t hj ht => by
  obtain ⟨x, h1, h2, h3⟩ := hp j t hj ht
  exact ⟨x, h1, ych_mono h2 (by rw [List.length_append]; omega), by rw [ygt_pre hl h2, h3]⟩
theorem yP2_s {φ : yT → yT} {ns os : List yN} {P : List Int32} {i : Nat} {x : Int32} {t : yT} (hp : yP2 φ ns os P i) (ht : (ytm ns)[i]? = some t) (hi : i < P.length) (hx : ych os.length x) (hu : ygt (ytm os) x = φ t) : yP2 φ ns os (P.set i x) (i + 1) := fun j u hj hju => by
  by_cases h1 : j = i
  · subst h1
    rw [ht] at hju
    injection hju with hju
    subst hju
    exact ⟨x, by rw [List.getElem?_set_self hi], hx, hu⟩
  · rw [List.getElem?_set_ne (Ne.symm h1)]
    exact hp j u (by omega) hju
section ZDO
variable {sv : Nat → Value} {d : Nat} {h : zH}
theorem d_91 {φ : yT → yT} {ns os : List yN} {P : List Int32} {al i : Nat} {x : Int32} (ha : zAl h al P) (hp : yP2 φ ns os P i) (hx : ych i x) (hi : i ≤ ns.length) (hl : ns.length < 2 ^ 31) (h0 : φ .leaf = .leaf) : ∃ y, zcall zP sv (d + 2) 91 [.ref al, .int x] h = some (.inl (some (.int y)), h) ∧ ych os.length y ∧ ygt (ytm os) y = φ (ygt (ytm ns) x) := by
  rcases hx with rfl | ⟨j, hj, rfl⟩
  · refine ⟨-1, ?_, ych_n, by rw [ygt_n, ygt_n, h0]⟩
    simp only [zc_91, zs_91_0, zs_91_1, zs_91_2, zs_91_5, zs_91_6, zs_91_9, zs_91_9n, zs_91_10, zs_91_13, zs_91_14, zs_91_17, nI_m1e, ↓reduceIte]
  · have e1 : (ytm ns)[j]? = some ((ytm ns)[j]'(by rw [ytm_l]; omega)) := List.getElem?_eq_getElem _
    obtain ⟨y, p1, p2, p3⟩ := hp j _ hj e1
    refine ⟨y, ?_, p2, ?_⟩
    · have g1 : ¬ nI j = -1 := nI_nm1 (by omega)
      simp only [zc_91, zs_91_0, zs_91_1, zs_91_2, zs_91_5, zs_91_6, zs_91_9, zs_91_9n, zs_91_10, zs_91_13, zs_91_14, zs_91_17, if_neg g1, ha.1, zrc_9, zf_9_0, zp_9_0, zp_9_0n, zRow_rc ha.2.1, d_165 ha.2.1, yg_e (show j < 2 ^ 31 by omega) p1, zbk_v, zts_s]
    · rw [p3, ygt_k (by omega), List.getD_eq_getElem?_getD, e1]
      rfl
theorem ysim_mk {k v : Int32} {l r : yT} : ysim (ymk k v l r) = if k = nI 110 then ysn (ysim l) else if yis k = true then ysp k (ysim l) (ysim r) else ymk k v .leaf .leaf := rfl
theorem yis_43 : yis (nI 43) = true := by decide +kernel
theorem yis_45 : yis (nI 45) = true := by decide +kernel
theorem yis_42 : yis (nI 42) = true := by decide +kernel
theorem yis_110 : yis (nI 110) = false := by decide +kernel
theorem d_96 {f m o al i : Nat} {ns os : List yN} {P : List Int32} {nd : yN} (hf : zTre h f m ns) (hwf : ywf ns) (hnd : ns[i]? = some nd) (ha : zAl h al P) (hp : yP2 ysim ns os P i) (ho : zTre h o 124 os) (hw : ywf os) (hl : os.length < 124) (hdp : ∀ x, ych i x → ydp (ysim (ygt (ytm ns) x)) ≤ 40) : yRes h o os (zcall zP sv (d + 45) 96 [.ref al, .ref f, .int (nI i), .ref o] h) (ysim (ymk nd.1 nd.2.1 (ygt (ytm ns) nd.2.2.1) (ygt (ytm ns) nd.2.2.2))) := by
  have hi := (List.getElem?_eq_some_iff.mp hnd).1
  have hc := hwf.2 i nd hnd
  obtain ⟨x, ex, x1, x2⟩ := d_91 (sv := sv) (d := d + 42) ha hp hc.1 (by omega) hwf.1 rfl
  obtain ⟨y, ey, y1, y2⟩ := d_91 (sv := sv) (d := d + 42) ha hp hc.2 (by omega) hwf.1 rfl
  rw [ysim_mk, ← x2, ← y2]
  by_cases h1 : nd.1 = nI 110
  · rw [if_pos h1]
    obtain ⟨h', os', z, e, w⟩ := d_97 (sv := sv) (d := d + 40) ho hw hl x1
    refine ⟨h', os', z, ?_, w⟩
    simp (disch := exact znw_u) only [zc_96, zs_96_0, zs_96_0n, zs_96_1, zs_96_2, zs_96_5, zs_96_7, zs_96_7n, zs_96_8, zs_96_8n, zs_96_9, zs_96_10, zs_96_13, zs_96_16, zs_96_18, zs_96_18n, zs_96_19, zs_96_19n, zs_96_20, zs_96_21, zs_96_24, zs_96_27, zs_96_29, zs_96_31, zs_96_33, zs_96_36, zs_96_38, zs_96_38n, zs_96_39, zs_96_42, zs_96_43, zs_96_45, zs_96_48, zs_96_51, zs_96_51n, zs_96_52, zs_96_54, zs_96_54n, zs_96_55, zs_96_56, zs_96_59, zs_96_60, zs_96_61, zs_96_64, zs_96_65, zs_96_65n, zs_96_66, zs_96_68, zs_96_71, zs_96_73, zs_96_76, zs_96_76n, zs_96_77, zs_96_79, zs_96_82, zs_96_84, zs_96_87, zs_96_87n, zs_96_88, zs_96_90, zs_96_90n, zs_96_91, zs_96_93, zs_96_96, zs_96_96n, zs_96_97, zs_96_99, zs_96_102, zs_96_105, zs_96_108, zs_96_109, zs_96_111, zs_96_113, zs_96_116, zs_96_118, zs_96_120, zs_96_120n, zs_96_121, zs_96_124, zs_96_125, zs_96_127, zs_96_129, zs_96_132, zs_96_134, zs_96_136, zs_96_136n, zs_96_137, zs_96_140, zs_96_143, zs_96_145, zs_96_147, zs_96_147n, zs_96_148, zs_96_151, zTre_rc hf, zAl_rc ha, d_184 hf hnd, d_186 hf hnd, d_187 hf hnd, ex, ey, if_pos h1, e, zbk_v, zts_s]
  · rw [if_neg h1]
    cases h2 : yis nd.1 with
    | false =>
      rw [if_neg (by decide)]
      obtain ⟨h', e, w, f1⟩ := d_191 (sv := sv) (d := d + 42) (k := nd.1) (n := nd.2.1) (l := -1) (r := -1) ho hl
      refine yRes_add (nd := (nd.1, nd.2.1, -1, -1)) ?_ w f1 hl hw ych_n ych_n (by rw [ygt_n])
      simp (disch := exact znw_u) only [zc_96, zs_96_0, zs_96_0n, zs_96_1, zs_96_2, zs_96_5, zs_96_7, zs_96_7n, zs_96_8, zs_96_8n, zs_96_9, zs_96_10, zs_96_13, zs_96_16, zs_96_18, zs_96_18n, zs_96_19, zs_96_19n, zs_96_20, zs_96_21, zs_96_24, zs_96_27, zs_96_29, zs_96_31, zs_96_33, zs_96_36, zs_96_38, zs_96_38n, zs_96_39, zs_96_42, zs_96_43, zs_96_45, zs_96_48, zs_96_51, zs_96_51n, zs_96_52, zs_96_54, zs_96_54n, zs_96_55, zs_96_56, zs_96_59, zs_96_60, zs_96_61, zs_96_64, zs_96_65, zs_96_65n, zs_96_66, zs_96_68, zs_96_71, zs_96_73, zs_96_76, zs_96_76n, zs_96_77, zs_96_79, zs_96_82, zs_96_84, zs_96_87, zs_96_87n, zs_96_88, zs_96_90, zs_96_90n, zs_96_91, zs_96_93, zs_96_96, zs_96_96n, zs_96_97, zs_96_99, zs_96_102, zs_96_105, zs_96_108, zs_96_109, zs_96_111, zs_96_113, zs_96_116, zs_96_118, zs_96_120, zs_96_120n, zs_96_121, zs_96_124, zs_96_125, zs_96_127, zs_96_129, zs_96_132, zs_96_134, zs_96_136, zs_96_136n, zs_96_137, zs_96_140, zs_96_143, zs_96_145, zs_96_147, zs_96_147n, zs_96_148, zs_96_151, zTre_rc hf, zTre_rc ho, zAl_rc ha, d_184 hf hnd, d_185 hf hnd, d_186 hf hnd, d_187 hf hnd, ex, ey, if_neg h1, d_83, h2, yb_f, e, zbk_v, zts_s, ↓reduceIte]
    | true =>
      rw [if_pos rfl]
      unfold ysp
      by_cases h3 : yk (ygt (ytm os) x) = nI 99 ∧ yk (ygt (ytm os) y) = nI 99
      · rw [if_pos h3]
        obtain ⟨h', e, w, f1⟩ := d_192 (sv := sv) (d := d + 41) (x := yop nd.1 (yv (ygt (ytm os) x)) (yv (ygt (ytm os) y))) ho hl
        refine yRes_add (nd := (nI 99, yop nd.1 (yv (ygt (ytm os) x)) (yv (ygt (ytm os) y)), -1, -1)) ?_ w f1 hl hw ych_n ych_n (by rw [ygt_n]; rfl)
        simp (disch := exact znw_u) only [zc_96, zs_96_0, zs_96_0n, zs_96_1, zs_96_2, zs_96_5, zs_96_7, zs_96_7n, zs_96_8, zs_96_8n, zs_96_9, zs_96_10, zs_96_13, zs_96_16, zs_96_18, zs_96_18n, zs_96_19, zs_96_19n, zs_96_20, zs_96_21, zs_96_24, zs_96_27, zs_96_29, zs_96_31, zs_96_33, zs_96_36, zs_96_38, zs_96_38n, zs_96_39, zs_96_42, zs_96_43, zs_96_45, zs_96_48, zs_96_51, zs_96_51n, zs_96_52, zs_96_54, zs_96_54n, zs_96_55, zs_96_56, zs_96_59, zs_96_60, zs_96_61, zs_96_64, zs_96_65, zs_96_65n, zs_96_66, zs_96_68, zs_96_71, zs_96_73, zs_96_76, zs_96_76n, zs_96_77, zs_96_79, zs_96_82, zs_96_84, zs_96_87, zs_96_87n, zs_96_88, zs_96_90, zs_96_90n, zs_96_91, zs_96_93, zs_96_96, zs_96_96n, zs_96_97, zs_96_99, zs_96_102, zs_96_105, zs_96_108, zs_96_109, zs_96_111, zs_96_113, zs_96_116, zs_96_118, zs_96_120, zs_96_120n, zs_96_121, zs_96_124, zs_96_125, zs_96_127, zs_96_129, zs_96_132, zs_96_134, zs_96_136, zs_96_136n, zs_96_137, zs_96_140, zs_96_143, zs_96_145, zs_96_147, zs_96_147n, zs_96_148, zs_96_151, zTre_rc hf, zTre_rc ho, zAl_rc ha, d_184 hf hnd, d_186 hf hnd, d_187 hf hnd, ex, ey, if_neg h1, d_83, h2, yb_t, nI_1e0, d_184g ho hw x1, d_184g ho hw y1, if_pos h3.1, if_pos h3.2, d_185g ho hw x1, d_185g ho hw y1, d_84, e, zbk_v, zts_s, ↓reduceIte]
      · rw [if_neg h3]
        have e0 : zcall zP sv (d + 45) 96 [.ref al, .ref f, .int (nI i), .ref o] h = zrun zP sv (zcall zP sv (d + 44)) 96 109 [.val (.ref al), .val (.ref f), .val (.int (nI i)), .val (.ref o), .val (.int nd.1), .val (.int x), .val (.int y)] [] h := by
          by_cases h4 : yk (ygt (ytm os) x) = nI 99
          · have h5 : ¬ yk (ygt (ytm os) y) = nI 99 := fun h6 => h3 ⟨h4, h6⟩
            simp (disch := exact znw_u) only [zc_96, zs_96_0, zs_96_0n, zs_96_1, zs_96_2, zs_96_5, zs_96_7, zs_96_7n, zs_96_8, zs_96_8n, zs_96_9, zs_96_10, zs_96_13, zs_96_16, zs_96_18, zs_96_18n, zs_96_19, zs_96_19n, zs_96_20, zs_96_21, zs_96_24, zs_96_27, zs_96_29, zs_96_31, zs_96_33, zs_96_36, zs_96_38, zs_96_38n, zs_96_39, zs_96_42, zs_96_43, zs_96_45, zs_96_48, zs_96_51, zs_96_51n, zs_96_52, zs_96_54, zs_96_54n, zs_96_55, zs_96_56, zs_96_59, zs_96_60, zs_96_61, zs_96_64, zs_96_65, zs_96_65n, zs_96_66, zs_96_68, zs_96_71, zs_96_73, zs_96_76, zs_96_76n, zs_96_77, zs_96_79, zs_96_82, zs_96_84, zs_96_87, zs_96_87n, zs_96_88, zs_96_90, zs_96_90n, zs_96_91, zs_96_93, zs_96_96, zs_96_96n, zs_96_97, zs_96_99, zs_96_102, zs_96_105, zs_96_108, zs_96_111, zs_96_113, zs_96_116, zs_96_118, zs_96_120, zs_96_120n, zs_96_121, zs_96_124, zs_96_125, zs_96_127, zs_96_129, zs_96_132, zs_96_134, zs_96_136, zs_96_136n, zs_96_137, zs_96_140, zs_96_143, zs_96_145, zs_96_147, zs_96_147n, zs_96_148, zs_96_151, zTre_rc hf, zTre_rc ho, zAl_rc ha, d_184 hf hnd, d_186 hf hnd, d_187 hf hnd, ex, ey, if_neg h1, d_83, h2, yb_t, nI_1e0, d_184g ho hw x1, d_184g ho hw y1, if_pos h4, if_neg h5, zbk_v, zts_s, ↓reduceIte]
          · simp (disch := exact znw_u) only [zc_96, zs_96_0, zs_96_0n, zs_96_1, zs_96_2, zs_96_5, zs_96_7, zs_96_7n, zs_96_8, zs_96_8n, zs_96_9, zs_96_10, zs_96_13, zs_96_16, zs_96_18, zs_96_18n, zs_96_19, zs_96_19n, zs_96_20, zs_96_21, zs_96_24, zs_96_27, zs_96_29, zs_96_31, zs_96_33, zs_96_36, zs_96_38, zs_96_38n, zs_96_39, zs_96_42, zs_96_43, zs_96_45, zs_96_48, zs_96_51, zs_96_51n, zs_96_52, zs_96_54, zs_96_54n, zs_96_55, zs_96_56, zs_96_59, zs_96_60, zs_96_61, zs_96_64, zs_96_65, zs_96_65n, zs_96_66, zs_96_68, zs_96_71, zs_96_73, zs_96_76, zs_96_76n, zs_96_77, zs_96_79, zs_96_82, zs_96_84, zs_96_87, zs_96_87n, zs_96_88, zs_96_90, zs_96_90n, zs_96_91, zs_96_93, zs_96_96, zs_96_96n, zs_96_97, zs_96_99, zs_96_102, zs_96_105, zs_96_108, zs_96_111, zs_96_113, zs_96_116, zs_96_118, zs_96_120, zs_96_120n, zs_96_121, zs_96_124, zs_96_125, zs_96_127, zs_96_129, zs_96_132, zs_96_134, zs_96_136, zs_96_136n, zs_96_137, zs_96_140, zs_96_143, zs_96_145, zs_96_147, zs_96_147n, zs_96_148, zs_96_151, zTre_rc hf, zTre_rc ho, zAl_rc ha, d_184 hf hnd, d_186 hf hnd, d_187 hf hnd, ex, ey, if_neg h1, d_83, h2, yb_t, nI_1e0, d_184g ho hw x1, if_neg h4, zbk_v, zts_s, ↓reduceIte]
        rw [e0]
        by_cases h4 : nd.1 = nI 43
        · rw [if_pos h4]
          obtain ⟨h', os', z, e, w⟩ := d_98 (sv := sv) (d := d + 40) ho hw hl x1 y1
          refine ⟨h', os', z, ?_, w⟩
          simp (disch := exact znw_u) only [zs_96_0, zs_96_0n, zs_96_1, zs_96_2, zs_96_5, zs_96_7, zs_96_7n, zs_96_8, zs_96_8n, zs_96_9, zs_96_10, zs_96_13, zs_96_16, zs_96_18, zs_96_18n, zs_96_19, zs_96_19n, zs_96_20, zs_96_21, zs_96_24, zs_96_27, zs_96_29, zs_96_31, zs_96_33, zs_96_36, zs_96_38, zs_96_38n, zs_96_39, zs_96_42, zs_96_43, zs_96_45, zs_96_48, zs_96_51, zs_96_51n, zs_96_52, zs_96_54, zs_96_54n, zs_96_55, zs_96_56, zs_96_59, zs_96_60, zs_96_61, zs_96_64, zs_96_65, zs_96_65n, zs_96_66, zs_96_68, zs_96_71, zs_96_73, zs_96_76, zs_96_76n, zs_96_77, zs_96_79, zs_96_82, zs_96_84, zs_96_87, zs_96_87n, zs_96_88, zs_96_90, zs_96_90n, zs_96_91, zs_96_93, zs_96_96, zs_96_96n, zs_96_97, zs_96_99, zs_96_102, zs_96_105, zs_96_108, zs_96_109, zs_96_111, zs_96_113, zs_96_116, zs_96_118, zs_96_120, zs_96_120n, zs_96_121, zs_96_124, zs_96_125, zs_96_127, zs_96_129, zs_96_132, zs_96_134, zs_96_136, zs_96_136n, zs_96_137, zs_96_140, zs_96_143, zs_96_145, zs_96_147, zs_96_147n, zs_96_148, zs_96_151, if_pos h4, e, zbk_v, zts_s]
        · rw [if_neg h4]
          by_cases h5 : nd.1 = nI 45
          · rw [if_pos h5]
            obtain ⟨h', os', z, e, w⟩ := d_99 (sv := sv) (d := d) ho hw hl x1 y1 (by rw [x2]; exact hdp _ hc.1)
            refine ⟨h', os', z, ?_, w⟩
            simp (disch := exact znw_u) only [zs_96_0, zs_96_0n, zs_96_1, zs_96_2, zs_96_5, zs_96_7, zs_96_7n, zs_96_8, zs_96_8n, zs_96_9, zs_96_10, zs_96_13, zs_96_16, zs_96_18, zs_96_18n, zs_96_19, zs_96_19n, zs_96_20, zs_96_21, zs_96_24, zs_96_27, zs_96_29, zs_96_31, zs_96_33, zs_96_36, zs_96_38, zs_96_38n, zs_96_39, zs_96_42, zs_96_43, zs_96_45, zs_96_48, zs_96_51, zs_96_51n, zs_96_52, zs_96_54, zs_96_54n, zs_96_55, zs_96_56, zs_96_59, zs_96_60, zs_96_61, zs_96_64, zs_96_65, zs_96_65n, zs_96_66, zs_96_68, zs_96_71, zs_96_73, zs_96_76, zs_96_76n, zs_96_77, zs_96_79, zs_96_82, zs_96_84, zs_96_87, zs_96_87n, zs_96_88, zs_96_90, zs_96_90n, zs_96_91, zs_96_93, zs_96_96, zs_96_96n, zs_96_97, zs_96_99, zs_96_102, zs_96_105, zs_96_108, zs_96_109, zs_96_111, zs_96_113, zs_96_116, zs_96_118, zs_96_120, zs_96_120n, zs_96_121, zs_96_124, zs_96_125, zs_96_127, zs_96_129, zs_96_132, zs_96_134, zs_96_136, zs_96_136n, zs_96_137, zs_96_140, zs_96_143, zs_96_145, zs_96_147, zs_96_147n, zs_96_148, zs_96_151, if_neg h4, if_pos h5, e, zbk_v, zts_s]
          · rw [if_neg h5]
            obtain ⟨h', os', z, e, w⟩ := d_100 (sv := sv) (d := d + 40) ho hw hl x1 y1
            refine ⟨h', os', z, ?_, w⟩
            simp (disch := exact znw_u) only [zs_96_0, zs_96_0n, zs_96_1, zs_96_2, zs_96_5, zs_96_7, zs_96_7n, zs_96_8, zs_96_8n, zs_96_9, zs_96_10, zs_96_13, zs_96_16, zs_96_18, zs_96_18n, zs_96_19, zs_96_19n, zs_96_20, zs_96_21, zs_96_24, zs_96_27, zs_96_29, zs_96_31, zs_96_33, zs_96_36, zs_96_38, zs_96_38n, zs_96_39, zs_96_42, zs_96_43, zs_96_45, zs_96_48, zs_96_51, zs_96_51n, zs_96_52, zs_96_54, zs_96_54n, zs_96_55, zs_96_56, zs_96_59, zs_96_60, zs_96_61, zs_96_64, zs_96_65, zs_96_65n, zs_96_66, zs_96_68, zs_96_71, zs_96_73, zs_96_76, zs_96_76n, zs_96_77, zs_96_79, zs_96_82, zs_96_84, zs_96_87, zs_96_87n, zs_96_88, zs_96_90, zs_96_90n, zs_96_91, zs_96_93, zs_96_96, zs_96_96n, zs_96_97, zs_96_99, zs_96_102, zs_96_105, zs_96_108, zs_96_109, zs_96_111, zs_96_113, zs_96_116, zs_96_118, zs_96_120, zs_96_120n, zs_96_121, zs_96_124, zs_96_125, zs_96_127, zs_96_129, zs_96_132, zs_96_134, zs_96_136, zs_96_136n, zs_96_137, zs_96_140, zs_96_143, zs_96_145, zs_96_147, zs_96_147n, zs_96_148, zs_96_151, if_neg h4, if_neg h5, e, zbk_v, zts_s]
end ZDO
