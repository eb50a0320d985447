theorem nI_ltn {a b : Nat} (ha : a < 2 ^ 31) (hb : b < 2 ^ 31) : ymx (nI a) (nI b) = nI (max a b) := by
  unfold ymx
  by_cases h : a < b
  · rw [if_pos (nI_lt h hb), Nat.max_eq_right (by omega)]
  · rw [if_neg (nI_nlt (by omega) ha), Nat.max_eq_left (by omega)]
theorem yfo_N : ∀ t : yT, yfo yfN t = nI (ysz t)
  | .leaf => rfl
  | .inner _ k v l r => by
    show nI 1 + yfo yfN l + yfo yfN r = nI (ysz l + ysz r + 1)
    rw [yfo_N l, yfo_N r, nI_add, nI_add]
    congr 1
    omega
theorem yfo_L : ∀ t : yT, ydp t < 2 ^ 31 → yfo yfL t = nI (ydp t)
  | .leaf, _ => rfl
  | .inner _ k v l r, h => by
    have h' : max (ydp l) (ydp r) + 1 < 2 ^ 31 := h
    have m1 := Nat.le_max_left (ydp l) (ydp r)
    have m2 := Nat.le_max_right (ydp l) (ydp r)
    show nI 1 + ymx (yfo yfL l) (yfo yfL r) = nI (max (ydp l) (ydp r) + 1)
    rw [yfo_L l (by omega), yfo_L r (by omega), nI_ltn (by omega) (by omega), nI_add]
    congr 1
    omega
theorem ydp_sz : ∀ t : yT, ydp t ≤ ysz t
  | .leaf => Nat.le_refl _
  | .inner _ k v l r => by
    show max (ydp l) (ydp r) + 1 ≤ ysz l + ysz r + 1
    have := ydp_sz l
    have := ydp_sz r
    omega
/-- equal terms -/
def yeq : yT → yT → Bool
  | .leaf, .leaf => true
  | .inner _ k v l r, .inner _ k' v' l' r' => decide (k = k') && decide (v = v') && yeq l l' && yeq r r'
  | _, _ => false
theorem yeq_mk {k v k' v' : Int32} {l r l' r' : yT} : yeq (ymk k v l r) (ymk k' v' l' r') = (decide (k = k') && decide (v = v') && yeq l l' && yeq r r') := rfl
section ZDI
variable {sv : Nat → Value}
theorem yb_ne {b : Bool} : (yb b = 0) = (b = false) := by
  cases b
  · simp [yb_f]
  · rw [yb_t, nI_1e0]; simp
theorem d_85 {f o m mo : Nat} {h : zH} {ns os : List yN} (hw : ywf ns) (hwo : ywf os) (hf : zTre h f m ns) (ho : zTre h o mo os) : ∀ (t u : yT) (x y : Int32) (D ℓ : Nat), ych ns.length x → ych os.length y → ygt (ytm ns) x = t → ygt (ytm os) y = u → ydp t + 3 ≤ D → ℓ + ydp t ≤ 41 → zcall zP sv D 85 [.ref f, .int x, .ref o, .int y, .int (nI ℓ)] h = some (.inl (some (.int (yb (yeq t u)))), h) := by
  have main : ∀ (n : Nat) (t u : yT), ydp t ≤ n → ∀ (x y : Int32) (D ℓ : Nat), ych ns.length x → ych os.length y → ygt (ytm ns) x = t → ygt (ytm os) y = u → ydp t + 3 ≤ D → ℓ + ydp t ≤ 41 → zcall zP sv D 85 [.ref f, .int x, .ref o, .int y, .int (nI ℓ)] h = some (.inl (some (.int (yb (yeq t u)))), h) := by
    have hl := hw.1
    have hlo := hwo.1
    intro n
    induction n with
    | zero =>
      intro t u hn x y D ℓ hx hy ht hu hD hL
      obtain ⟨d, rfl⟩ : ∃ d, D = d + 1 := ⟨D - 1, by omega⟩
      rcases hx with rfl | ⟨j, hj, rfl⟩
      · rw [ygt_n] at ht
        subst ht
        rcases hy with rfl | ⟨i, hi, rfl⟩
        · rw [ygt_n] at hu
          subst hu
          simp only [zc_85, zs_85_0, zs_85_1, zs_85_2, zs_85_5, zs_85_6, zs_85_7, zs_85_10, zs_85_12, zs_85_14, zs_85_17, zs_85_18, zs_85_19, zs_85_22, zs_85_23, zs_85_24, zs_85_27, zs_85_28, zs_85_31, zs_85_32, zs_85_33, zs_85_33n, zs_85_34, zs_85_35, zs_85_38, zs_85_38n, zs_85_39, zs_85_40, zs_85_43, zs_85_46, zs_85_46n, zs_85_47, zs_85_48, zs_85_51, zs_85_51n, zs_85_52, zs_85_53, zs_85_56, zs_85_59, zs_85_59n, zs_85_60, zs_85_60n, zs_85_61, zs_85_62, zs_85_65, zs_85_65n, zs_85_66, zs_85_66n, zs_85_67, zs_85_68, zs_85_71, zs_85_73, zs_85_74, zs_85_75, zs_85_78, zs_85_81, zs_85_81n, zs_85_82, zs_85_82n, zs_85_83, zs_85_84, zs_85_87, zs_85_87n, zs_85_88, zs_85_88n, zs_85_89, zs_85_90, zs_85_93, zs_85_95, zs_85_96, zs_85_97, zs_85_100, zs_85_103, zs_85_104, zs_85_107, zs_85_108, nI_m1e, ↓reduceIte, zty_51, zgd_t]
          rfl
        · obtain ⟨nd, hnd⟩ := ynd_ex hi
          rw [ygt_at hwo hnd] at hu
          subst hu
          have g1 : ¬ nI i = -1 := nI_nm1 (by omega)
          simp only [zc_85, zs_85_0, zs_85_1, zs_85_2, zs_85_5, zs_85_6, zs_85_7, zs_85_10, zs_85_12, zs_85_14, zs_85_17, zs_85_18, zs_85_19, zs_85_22, zs_85_23, zs_85_24, zs_85_27, zs_85_28, zs_85_31, zs_85_32, zs_85_33, zs_85_33n, zs_85_34, zs_85_35, zs_85_38, zs_85_38n, zs_85_39, zs_85_40, zs_85_43, zs_85_46, zs_85_46n, zs_85_47, zs_85_48, zs_85_51, zs_85_51n, zs_85_52, zs_85_53, zs_85_56, zs_85_59, zs_85_59n, zs_85_60, zs_85_60n, zs_85_61, zs_85_62, zs_85_65, zs_85_65n, zs_85_66, zs_85_66n, zs_85_67, zs_85_68, zs_85_71, zs_85_73, zs_85_74, zs_85_75, zs_85_78, zs_85_81, zs_85_81n, zs_85_82, zs_85_82n, zs_85_83, zs_85_84, zs_85_87, zs_85_87n, zs_85_88, zs_85_88n, zs_85_89, zs_85_90, zs_85_93, zs_85_95, zs_85_96, zs_85_97, zs_85_100, zs_85_103, zs_85_104, zs_85_107, zs_85_108, nI_m1e, if_neg g1, ↓reduceIte, zty_50, zgd_t]
          rfl
      · obtain ⟨nd, hnd⟩ := ynd_ex hj
        rw [ygt_at hw hnd] at ht
        subst ht
        rw [ydp_mk] at hn
        omega
    | succ n ih =>
      intro t u hn x y D ℓ hx hy ht hu hD hL
      obtain ⟨d, rfl⟩ : ∃ d, D = d + 3 := ⟨D - 3, by omega⟩
      rcases hx with rfl | ⟨j, hj, rfl⟩
      · rw [ygt_n] at ht
        subst ht
        rcases hy with rfl | ⟨i, hi, rfl⟩
        · rw [ygt_n] at hu
          subst hu
          simp only [zc_85, zs_85_0, zs_85_1, zs_85_2, zs_85_5, zs_85_6, zs_85_7, zs_85_10, zs_85_12, zs_85_14, zs_85_17, zs_85_18, zs_85_19, zs_85_22, zs_85_23, zs_85_24, zs_85_27, zs_85_28, zs_85_31, zs_85_32, zs_85_33, zs_85_33n, zs_85_34, zs_85_35, zs_85_38, zs_85_38n, zs_85_39, zs_85_40, zs_85_43, zs_85_46, zs_85_46n, zs_85_47, zs_85_48, zs_85_51, zs_85_51n, zs_85_52, zs_85_53, zs_85_56, zs_85_59, zs_85_59n, zs_85_60, zs_85_60n, zs_85_61, zs_85_62, zs_85_65, zs_85_65n, zs_85_66, zs_85_66n, zs_85_67, zs_85_68, zs_85_71, zs_85_73, zs_85_74, zs_85_75, zs_85_78, zs_85_81, zs_85_81n, zs_85_82, zs_85_82n, zs_85_83, zs_85_84, zs_85_87, zs_85_87n, zs_85_88, zs_85_88n, zs_85_89, zs_85_90, zs_85_93, zs_85_95, zs_85_96, zs_85_97, zs_85_100, zs_85_103, zs_85_104, zs_85_107, zs_85_108, nI_m1e, ↓reduceIte, zty_51, zgd_t]
          rfl
        · obtain ⟨nd, hnd⟩ := ynd_ex hi
          rw [ygt_at hwo hnd] at hu
          subst hu
          have g1 : ¬ nI i = -1 := nI_nm1 (by omega)
          simp only [zc_85, zs_85_0, zs_85_1, zs_85_2, zs_85_5, zs_85_6, zs_85_7, zs_85_10, zs_85_12, zs_85_14, zs_85_17, zs_85_18, zs_85_19, zs_85_22, zs_85_23, zs_85_24, zs_85_27, zs_85_28, zs_85_31, zs_85_32, zs_85_33, zs_85_33n, zs_85_34, zs_85_35, zs_85_38, zs_85_38n, zs_85_39, zs_85_40, zs_85_43, zs_85_46, zs_85_46n, zs_85_47, zs_85_48, zs_85_51, zs_85_51n, zs_85_52, zs_85_53, zs_85_56, zs_85_59, zs_85_59n, zs_85_60, zs_85_60n, zs_85_61, zs_85_62, zs_85_65, zs_85_65n, zs_85_66, zs_85_66n, zs_85_67, zs_85_68, zs_85_71, zs_85_73, zs_85_74, zs_85_75, zs_85_78, zs_85_81, zs_85_81n, zs_85_82, zs_85_82n, zs_85_83, zs_85_84, zs_85_87, zs_85_87n, zs_85_88, zs_85_88n, zs_85_89, zs_85_90, zs_85_93, zs_85_95, zs_85_96, zs_85_97, zs_85_100, zs_85_103, zs_85_104, zs_85_107, zs_85_108, nI_m1e, if_neg g1, ↓reduceIte, zty_50, zgd_t]
          rfl
      · obtain ⟨nd, hnd⟩ := ynd_ex hj
        rw [ygt_at hw hnd] at ht
        subst ht
        rw [ydp_mk] at hn hD hL
        have g1 : ¬ nI j = -1 := nI_nm1 (by omega)
        rcases hy with rfl | ⟨i, hi, rfl⟩
        · rw [ygt_n] at hu
          subst hu
          simp only [zc_85, zs_85_0, zs_85_1, zs_85_2, zs_85_5, zs_85_6, zs_85_7, zs_85_10, zs_85_12, zs_85_14, zs_85_17, zs_85_18, zs_85_19, zs_85_22, zs_85_23, zs_85_24, zs_85_27, zs_85_28, zs_85_31, zs_85_32, zs_85_33, zs_85_33n, zs_85_34, zs_85_35, zs_85_38, zs_85_38n, zs_85_39, zs_85_40, zs_85_43, zs_85_46, zs_85_46n, zs_85_47, zs_85_48, zs_85_51, zs_85_51n, zs_85_52, zs_85_53, zs_85_56, zs_85_59, zs_85_59n, zs_85_60, zs_85_60n, zs_85_61, zs_85_62, zs_85_65, zs_85_65n, zs_85_66, zs_85_66n, zs_85_67, zs_85_68, zs_85_71, zs_85_73, zs_85_74, zs_85_75, zs_85_78, zs_85_81, zs_85_81n, zs_85_82, zs_85_82n, zs_85_83, zs_85_84, zs_85_87, zs_85_87n, zs_85_88, zs_85_88n, zs_85_89, zs_85_90, zs_85_93, zs_85_95, zs_85_96, zs_85_97, zs_85_100, zs_85_103, zs_85_104, zs_85_107, zs_85_108, nI_m1e, if_neg g1, ↓reduceIte, zty_50, zgd_t]
          rfl
        · obtain ⟨ne, hne⟩ := ynd_ex hi
          rw [ygt_at hwo hne] at hu
          subst hu
          have g2 : ¬ nI i = -1 := nI_nm1 (by omega)
          have g3 : ¬ nI 40 < nI ℓ := nI_nlt (by omega) (by omega)
          have hc := ych_lt hw hnd
          have hc2 := ych_lt hwo hne
          have m1 := Nat.le_max_left (ydp (ygt (ytm ns) nd.2.2.1)) (ydp (ygt (ytm ns) nd.2.2.2))
          have m2 := Nat.le_max_right (ydp (ygt (ytm ns) nd.2.2.1)) (ydp (ygt (ytm ns) nd.2.2.2))
          have e1 := ih (ygt (ytm ns) nd.2.2.1) (ygt (ytm os) ne.2.2.1) (by omega) nd.2.2.1 ne.2.2.1 (d + 2) (ℓ + 1) hc.1 hc2.1 rfl rfl (by omega) (by omega)
          have e2 := ih (ygt (ytm ns) nd.2.2.2) (ygt (ytm os) ne.2.2.2) (by omega) nd.2.2.2 ne.2.2.2 (d + 2) (ℓ + 1) hc.2 hc2.2 rfl rfl (by omega) (by omega)
          rw [yeq_mk]
          by_cases a1 : nd.1 = ne.1
          · by_cases a2 : nd.2.1 = ne.2.1
            · rw [decide_eq_true a1, decide_eq_true a2]
              cases a3 : yeq (ygt (ytm ns) nd.2.2.1) (ygt (ytm os) ne.2.2.1) with
              | false =>
                rw [a3] at e1
                simp only [zc_85, zs_85_0, zs_85_1, zs_85_2, zs_85_5, zs_85_6, zs_85_7, zs_85_10, zs_85_12, zs_85_14, zs_85_17, zs_85_18, zs_85_19, zs_85_22, zs_85_23, zs_85_24, zs_85_27, zs_85_28, zs_85_31, zs_85_32, zs_85_33, zs_85_33n, zs_85_34, zs_85_35, zs_85_38, zs_85_38n, zs_85_39, zs_85_40, zs_85_43, zs_85_46, zs_85_46n, zs_85_47, zs_85_48, zs_85_51, zs_85_51n, zs_85_52, zs_85_53, zs_85_56, zs_85_59, zs_85_59n, zs_85_60, zs_85_60n, zs_85_61, zs_85_62, zs_85_65, zs_85_65n, zs_85_66, zs_85_66n, zs_85_67, zs_85_68, zs_85_71, zs_85_73, zs_85_74, zs_85_75, zs_85_78, zs_85_81, zs_85_81n, zs_85_82, zs_85_82n, zs_85_83, zs_85_84, zs_85_87, zs_85_87n, zs_85_88, zs_85_88n, zs_85_89, zs_85_90, zs_85_93, zs_85_95, zs_85_96, zs_85_97, zs_85_100, zs_85_103, zs_85_104, zs_85_107, zs_85_108, if_neg g1, if_neg g2, if_neg g3, zTre_rc hf, zTre_rc ho, d_184 hf hnd, d_184 ho hne, d_185 hf hnd, d_185 ho hne, d_186 hf hnd, d_186 ho hne, d_187 hf hnd, d_187 ho hne, if_pos a1, if_pos a2, nI_1', e1, yb_f, zbk_v, zts_s, zgd_t, zty_50, ↓reduceIte]
                rfl
              | true =>
                rw [a3] at e1
                cases a4 : yeq (ygt (ytm ns) nd.2.2.2) (ygt (ytm os) ne.2.2.2) with
                | false =>
                  rw [a4] at e2
                  simp only [zc_85, zs_85_0, zs_85_1, zs_85_2, zs_85_5, zs_85_6, zs_85_7, zs_85_10, zs_85_12, zs_85_14, zs_85_17, zs_85_18, zs_85_19, zs_85_22, zs_85_23, zs_85_24, zs_85_27, zs_85_28, zs_85_31, zs_85_32, zs_85_33, zs_85_33n, zs_85_34, zs_85_35, zs_85_38, zs_85_38n, zs_85_39, zs_85_40, zs_85_43, zs_85_46, zs_85_46n, zs_85_47, zs_85_48, zs_85_51, zs_85_51n, zs_85_52, zs_85_53, zs_85_56, zs_85_59, zs_85_59n, zs_85_60, zs_85_60n, zs_85_61, zs_85_62, zs_85_65, zs_85_65n, zs_85_66, zs_85_66n, zs_85_67, zs_85_68, zs_85_71, zs_85_73, zs_85_74, zs_85_75, zs_85_78, zs_85_81, zs_85_81n, zs_85_82, zs_85_82n, zs_85_83, zs_85_84, zs_85_87, zs_85_87n, zs_85_88, zs_85_88n, zs_85_89, zs_85_90, zs_85_93, zs_85_95, zs_85_96, zs_85_97, zs_85_100, zs_85_103, zs_85_104, zs_85_107, zs_85_108, if_neg g1, if_neg g2, if_neg g3, zTre_rc hf, zTre_rc ho, d_184 hf hnd, d_184 ho hne, d_185 hf hnd, d_185 ho hne, d_186 hf hnd, d_186 ho hne, d_187 hf hnd, d_187 ho hne, if_pos a1, if_pos a2, nI_1', e1, e2, yb_f, yb_t, nI_1e0, zbk_v, zts_s, zgd_t, zty_50, ↓reduceIte]
                  rfl
                | true =>
                  rw [a4] at e2
                  simp only [zc_85, zs_85_0, zs_85_1, zs_85_2, zs_85_5, zs_85_6, zs_85_7, zs_85_10, zs_85_12, zs_85_14, zs_85_17, zs_85_18, zs_85_19, zs_85_22, zs_85_23, zs_85_24, zs_85_27, zs_85_28, zs_85_31, zs_85_32, zs_85_33, zs_85_33n, zs_85_34, zs_85_35, zs_85_38, zs_85_38n, zs_85_39, zs_85_40, zs_85_43, zs_85_46, zs_85_46n, zs_85_47, zs_85_48, zs_85_51, zs_85_51n, zs_85_52, zs_85_53, zs_85_56, zs_85_59, zs_85_59n, zs_85_60, zs_85_60n, zs_85_61, zs_85_62, zs_85_65, zs_85_65n, zs_85_66, zs_85_66n, zs_85_67, zs_85_68, zs_85_71, zs_85_73, zs_85_74, zs_85_75, zs_85_78, zs_85_81, zs_85_81n, zs_85_82, zs_85_82n, zs_85_83, zs_85_84, zs_85_87, zs_85_87n, zs_85_88, zs_85_88n, zs_85_89, zs_85_90, zs_85_93, zs_85_95, zs_85_96, zs_85_97, zs_85_100, zs_85_103, zs_85_104, zs_85_107, zs_85_108, if_neg g1, if_neg g2, if_neg g3, zTre_rc hf, zTre_rc ho, d_184 hf hnd, d_184 ho hne, d_185 hf hnd, d_185 ho hne, d_186 hf hnd, d_186 ho hne, d_187 hf hnd, d_187 ho hne, if_pos a1, if_pos a2, nI_1', e1, e2, yb_t, nI_1e0, zbk_v, zts_s, zgd_t, zty_51, ↓reduceIte]
                  rfl
            · rw [decide_eq_false a2]
              simp only [zc_85, zs_85_0, zs_85_1, zs_85_2, zs_85_5, zs_85_6, zs_85_7, zs_85_10, zs_85_12, zs_85_14, zs_85_17, zs_85_18, zs_85_19, zs_85_22, zs_85_23, zs_85_24, zs_85_27, zs_85_28, zs_85_31, zs_85_32, zs_85_33, zs_85_33n, zs_85_34, zs_85_35, zs_85_38, zs_85_38n, zs_85_39, zs_85_40, zs_85_43, zs_85_46, zs_85_46n, zs_85_47, zs_85_48, zs_85_51, zs_85_51n, zs_85_52, zs_85_53, zs_85_56, zs_85_59, zs_85_59n, zs_85_60, zs_85_60n, zs_85_61, zs_85_62, zs_85_65, zs_85_65n, zs_85_66, zs_85_66n, zs_85_67, zs_85_68, zs_85_71, zs_85_73, zs_85_74, zs_85_75, zs_85_78, zs_85_81, zs_85_81n, zs_85_82, zs_85_82n, zs_85_83, zs_85_84, zs_85_87, zs_85_87n, zs_85_88, zs_85_88n, zs_85_89, zs_85_90, zs_85_93, zs_85_95, zs_85_96, zs_85_97, zs_85_100, zs_85_103, zs_85_104, zs_85_107, zs_85_108, if_neg g1, if_neg g2, if_neg g3, zTre_rc hf, zTre_rc ho, d_184 hf hnd, d_184 ho hne, d_185 hf hnd, d_185 ho hne, if_pos a1, if_neg a2, zbk_v, zts_s, zgd_t, zty_50, ↓reduceIte, Bool.and_false, Bool.false_and, yb_f]
          · rw [decide_eq_false a1]
            simp only [zc_85, zs_85_0, zs_85_1, zs_85_2, zs_85_5, zs_85_6, zs_85_7, zs_85_10, zs_85_12, zs_85_14, zs_85_17, zs_85_18, zs_85_19, zs_85_22, zs_85_23, zs_85_24, zs_85_27, zs_85_28, zs_85_31, zs_85_32, zs_85_33, zs_85_33n, zs_85_34, zs_85_35, zs_85_38, zs_85_38n, zs_85_39, zs_85_40, zs_85_43, zs_85_46, zs_85_46n, zs_85_47, zs_85_48, zs_85_51, zs_85_51n, zs_85_52, zs_85_53, zs_85_56, zs_85_59, zs_85_59n, zs_85_60, zs_85_60n, zs_85_61, zs_85_62, zs_85_65, zs_85_65n, zs_85_66, zs_85_66n, zs_85_67, zs_85_68, zs_85_71, zs_85_73, zs_85_74, zs_85_75, zs_85_78, zs_85_81, zs_85_81n, zs_85_82, zs_85_82n, zs_85_83, zs_85_84, zs_85_87, zs_85_87n, zs_85_88, zs_85_88n, zs_85_89, zs_85_90, zs_85_93, zs_85_95, zs_85_96, zs_85_97, zs_85_100, zs_85_103, zs_85_104, zs_85_107, zs_85_108, if_neg g1, if_neg g2, if_neg g3, zTre_rc hf, zTre_rc ho, d_184 hf hnd, d_184 ho hne, if_neg a1, zbk_v, zts_s, zgd_t, zty_50, ↓reduceIte, Bool.false_and, yb_f]
  exact fun t u => main (ydp t) t u (Nat.le_refl _)
end ZDI
