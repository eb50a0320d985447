theorem ygt_at {ns : List yN} {j : Nat} {nd : yN} (hw : ywf ns) (hnd : ns[j]? = some nd) : ygt (ytm ns) (nI j) = ymk nd.1 nd.2.1 (ygt (ytm ns) nd.2.2.1) (ygt (ytm ns) nd.2.2.2) := by
  have hj := (List.getElem?_eq_some_iff.mp hnd).1
  have := hw.1
  rw [ygt_k (by omega), List.getD_eq_getElem?_getD, ytm_at hw hnd]
  rfl
theorem ych_lt {ns : List yN} {j : Nat} {nd : yN} (hw : ywf ns) (hnd : ns[j]? = some nd) : ych ns.length nd.2.2.1 ∧ ych ns.length nd.2.2.2 := by
  have hj := (List.getElem?_eq_some_iff.mp hnd).1
  exact ⟨ych_mono (hw.2 j nd hnd).1 (by omega), ych_mono (hw.2 j nd hnd).2 (by omega)⟩
theorem ysz_mk {k v : Int32} {l r : yT} : ysz (ymk k v l r) = ysz l + ysz r + 1 := rfl
theorem ydp_mk {k v : Int32} {l r : yT} : ydp (ymk k v l r) = max (ydp l) (ydp r) + 1 := rfl
theorem ypo_mk {k v : Int32} {l r : yT} {o : Nat} : ypo o (ymk k v l r) = ypo o l ++ ypo (o + ysz l) r ++ [(k, v, yri o l, yri (o + ysz l) r)] := rfl
theorem yri_mk {k v : Int32} {l r : yT} {o : Nat} : yri o (ymk k v l r) = nI (o + ysz l + ysz r) := rfl
theorem nI_nm1 {j : Nat} (hj : j < 2 ^ 31) : ¬ nI j = -1 := by
  intro h
  have := congrArg Int32.toInt h
  rw [nI_toInt hj] at this
  have e : (-1 : Int32).toInt = -1 := by decide +kernel
  omega
theorem nI_m1e : ((-1 : Int32) = -1) = True := by decide +kernel
section ZDH
variable {sv : Nat → Value}
theorem d_86 {f o m mo : Nat} {ns : List yN} (hw : ywf ns) (hd : f + 9 ≤ o ∨ o + 9 ≤ f) : ∀ (t : yT) (x : Int32) (D ℓ : Nat) (h : zH) (os : List yN), ych ns.length x → ygt (ytm ns) x = t → ydp t + 3 ≤ D → ℓ + ydp t ≤ 41 → os.length + ysz t ≤ mo → zTre h f m ns → zTre h o mo os → ∃ h', zcall zP sv D 86 [.ref f, .int x, .ref o, .int (nI ℓ)] h = some (.inl (some (.int (yri os.length t))), h') ∧ zTre h' o mo (os ++ ypo os.length t) ∧ zfr o (o + 9) h h' := by
  have main : ∀ (n : Nat) (t : yT), ydp t ≤ n → ∀ (x : Int32) (D ℓ : Nat) (h : zH) (os : List yN), ych ns.length x → ygt (ytm ns) x = t → ydp t + 3 ≤ D → ℓ + ydp t ≤ 41 → os.length + ysz t ≤ mo → zTre h f m ns → zTre h o mo os → ∃ h', zcall zP sv D 86 [.ref f, .int x, .ref o, .int (nI ℓ)] h = some (.inl (some (.int (yri os.length t))), h') ∧ zTre h' o mo (os ++ ypo os.length t) ∧ zfr o (o + 9) h h' := by
    intro n
    induction n with
    | zero =>
      intro t hn x D ℓ h os hx ht hD hL hs hf ho
      obtain ⟨d, rfl⟩ : ∃ d, D = d + 1 := ⟨D - 1, by omega⟩
      rcases hx with rfl | ⟨j, hj, rfl⟩
      · rw [ygt_n] at ht
        subst ht
        refine ⟨h, ?_, by rw [show ypo os.length (.leaf : yT) = [] from rfl, List.append_nil]; exact ho, zfr_rfl⟩
        simp only [zc_86, zs_86_0, zs_86_1, zs_86_2, zs_86_5, zs_86_6, zs_86_8, zs_86_11, zs_86_12, zs_86_13, zs_86_13n, zs_86_14, zs_86_14n, zs_86_15, zs_86_16, zs_86_19, zs_86_19n, zs_86_20, zs_86_21, zs_86_22, zs_86_23, zs_86_26, zs_86_28, zs_86_28n, zs_86_29, zs_86_29n, zs_86_30, zs_86_31, zs_86_34, zs_86_34n, zs_86_35, zs_86_36, zs_86_37, zs_86_38, zs_86_41, zs_86_43, zs_86_43n, zs_86_44, zs_86_44n, zs_86_45, zs_86_46, zs_86_49, zs_86_49n, zs_86_50, zs_86_51, zs_86_54, zs_86_56, zs_86_58, zs_86_61, nI_m1e, ↓reduceIte]
        rfl
      · obtain ⟨nd, hnd⟩ := ynd_ex hj
        rw [ygt_at hw hnd] at ht
        subst ht
        rw [ydp_mk] at hn
        omega
    | succ n ih =>
      intro t hn x D ℓ h os hx ht hD hL hs hf ho
      obtain ⟨d, rfl⟩ : ∃ d, D = d + 3 := ⟨D - 3, by omega⟩
      rcases hx with rfl | ⟨j, hj, rfl⟩
      · rw [ygt_n] at ht
        subst ht
        refine ⟨h, ?_, by rw [show ypo os.length (.leaf : yT) = [] from rfl, List.append_nil]; exact ho, zfr_rfl⟩
        simp only [zc_86, zs_86_0, zs_86_1, zs_86_2, zs_86_5, zs_86_6, zs_86_8, zs_86_11, zs_86_12, zs_86_13, zs_86_13n, zs_86_14, zs_86_14n, zs_86_15, zs_86_16, zs_86_19, zs_86_19n, zs_86_20, zs_86_21, zs_86_22, zs_86_23, zs_86_26, zs_86_28, zs_86_28n, zs_86_29, zs_86_29n, zs_86_30, zs_86_31, zs_86_34, zs_86_34n, zs_86_35, zs_86_36, zs_86_37, zs_86_38, zs_86_41, zs_86_43, zs_86_43n, zs_86_44, zs_86_44n, zs_86_45, zs_86_46, zs_86_49, zs_86_49n, zs_86_50, zs_86_51, zs_86_54, zs_86_56, zs_86_58, zs_86_61, nI_m1e, ↓reduceIte]
        rfl
      · obtain ⟨nd, hnd⟩ := ynd_ex hj
        have hc := ych_lt hw hnd
        have hl := hw.1
        rw [ygt_at hw hnd] at ht
        subst ht
        rw [ydp_mk] at hn hD hL
        rw [ysz_mk] at hs
        have m1 := Nat.le_max_left (ydp (ygt (ytm ns) nd.2.2.1)) (ydp (ygt (ytm ns) nd.2.2.2))
        have m2 := Nat.le_max_right (ydp (ygt (ytm ns) nd.2.2.1)) (ydp (ygt (ytm ns) nd.2.2.2))
        obtain ⟨h1, e1, w1, f1⟩ := ih (ygt (ytm ns) nd.2.2.1) (by omega) nd.2.2.1 (d + 2) (ℓ + 1) h os hc.1 rfl (by omega) (by omega) (by omega) hf ho
        have hlen : (os ++ ypo os.length (ygt (ytm ns) nd.2.2.1)).length = os.length + ysz (ygt (ytm ns) nd.2.2.1) := by rw [List.length_append, ypo_len]
        obtain ⟨h2, e2, w2, f2⟩ := ih (ygt (ytm ns) nd.2.2.2) (by omega) nd.2.2.2 (d + 2) (ℓ + 1) h1 _ hc.2 rfl (by omega) (by omega) (by rw [hlen]; omega) (zTre_fr hf f1 (by omega)) w1
        rw [hlen] at e2 w2
        have hlen2 : (os ++ ypo os.length (ygt (ytm ns) nd.2.2.1) ++ ypo (os.length + ysz (ygt (ytm ns) nd.2.2.1)) (ygt (ytm ns) nd.2.2.2)).length = os.length + ysz (ygt (ytm ns) nd.2.2.1) + ysz (ygt (ytm ns) nd.2.2.2) := by rw [List.length_append, hlen, ypo_len]
        have hf2 := zTre_fr (zTre_fr hf f1 (by omega)) f2 (by omega)
        obtain ⟨h3, e3, w3, f3⟩ := d_191 (sv := sv) (d := d) (k := nd.1) (n := nd.2.1) (l := yri os.length (ygt (ytm ns) nd.2.2.1)) (r := yri (os.length + ysz (ygt (ytm ns) nd.2.2.1)) (ygt (ytm ns) nd.2.2.2)) w2 (by rw [hlen2]; omega)
        rw [hlen2] at e3
        refine ⟨h3, ?_, ?_, zfr_tr (zfr_tr f1 f2) f3⟩
        · have g1 : ¬ nI j = -1 := nI_nm1 (by omega)
          have g2 : ¬ nI 40 < nI ℓ := nI_nlt (by omega) (by omega)
          simp (disch := exact znw_u) only [zc_86, zs_86_0, zs_86_1, zs_86_2, zs_86_5, zs_86_6, zs_86_8, zs_86_11, zs_86_12, zs_86_13, zs_86_13n, zs_86_14, zs_86_14n, zs_86_15, zs_86_16, zs_86_19, zs_86_19n, zs_86_20, zs_86_21, zs_86_22, zs_86_23, zs_86_26, zs_86_28, zs_86_28n, zs_86_29, zs_86_29n, zs_86_30, zs_86_31, zs_86_34, zs_86_34n, zs_86_35, zs_86_36, zs_86_37, zs_86_38, zs_86_41, zs_86_43, zs_86_43n, zs_86_44, zs_86_44n, zs_86_45, zs_86_46, zs_86_49, zs_86_49n, zs_86_50, zs_86_51, zs_86_54, zs_86_56, zs_86_58, zs_86_61, if_neg g1, if_neg g2, zTre_rc hf, zTre_rc hf2, d_186 hf hnd, nI_1', e1, zTre_rc (zTre_fr hf f1 (by omega)), d_187 (zTre_fr hf f1 (by omega)) hnd, e2, d_184 hf2 hnd, d_185 hf2 hnd, zTre_rc w2, e3, zbk_v, zts_s]
          rw [yri_mk]
        · rw [ypo_mk, ← List.append_assoc, ← List.append_assoc]
          exact w3
  exact fun t => main (ydp t) t (Nat.le_refl _)
end ZDH
