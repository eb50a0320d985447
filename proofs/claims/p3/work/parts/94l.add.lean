theorem zWk_fm {h h' : zH} {m : Nat} {F G : Nat → Int32} {A : yA} {qs : yP} (hw : zWk h m F A) (hf : zfm m h h') (h0 : h'.1 m = (13, zMF m G)) (hl : zLst h' (m + 7) (m + 8) qs) : zWk h' m G A := by
  obtain ⟨_, ⟨N, n1, n2⟩, hs⟩ := hw
  obtain ⟨⟨p, p1⟩, _⟩ := id hs
  exact ⟨h0, ⟨N, zTab_cg n1 (hf.1 _ (by omega) (by omega) (by omega)), n2⟩, zScm_of hs (zLst_cg p1 (hf.1 _ (by omega) (by omega) (by omega)) (hf.1 _ (by omega) (by omega) (by omega))) hl (fun a ha => hf.1 a (by omega) (by omega) (by omega))⟩
theorem zfm_wf {m : Nat} {h h' : zH} (hf : zfm m h h') : zwf m h h' := ⟨fun q q1 q2 q3 => hf.1 q q1 (by omega) (by omega), hf.2⟩
/-- what adding leaves of the numbers: the text is used up, the fault may be new -/
def yfb (F F' : Nat → Int32) (e : Int32) : Prop := F' 3 = F 3 ∧ F' 5 = F 5 ∧ F' 24 = F 24 ∧ F' 26 = nI 0 ∧ F' 29 = e ∧ F' 31 = F 31
section ZAD
variable {sv : Nat → Value} {d : Nat} {m : Nat} {F : Nat → Int32} {h : zH} {cs : List Int32} {A : yA}
theorem e_233p (hw : zWk h m F A) (h26 : F 26 = nI cs.length) (htx : zTx h (m + 17) 60 cs) : ∃ (h1 : zH) (G : Nat → Int32) (qs : yP), zcall zP sv (d + 44) 233 [.ref m] h = zrun zP sv (zcall zP sv (d + 43)) 233 45 [.val (.ref m), .val (.int (yb (yadd cs).1.isSome))] [.int (yb (yadd cs).1.isSome)] (zup h1 m (13, zMF m (yup G 26 0))) ∧ zWk h1 m G A ∧ G 27 = nI (yadd cs).2 ∧ G 11 = nI qs.length ∧ (∀ k, k ≠ 27 → k ≠ 28 → k ≠ 11 → G k = F k) ∧ zLst h1 (m + 7) (m + 8) qs ∧ (∀ t, (yadd cs).1 = some t → qs = ypr t ∧ ysz t ≤ 60) ∧ zfm m h h1 := by
  obtain ⟨hm, _, hs⟩ := id hw
  unfold zMo at hm
  obtain ⟨_, ⟨p1, l7⟩, _⟩ := hs
  have hp0 : zPs (zup h m (13, zMF m (yup (yup (yup F 27 0) 11 0) 28 0))) m F cs 0 0 [] := ⟨⟨yup (yup (yup F 27 0) 11 0) 28 0, zup_at, by rw [yup_ne (by omega), yup_ne (by omega), yup_eq, nI_0], by rw [yup_eq, nI_0], by rw [yup_ne (by omega), yup_eq]; exact nI_0.symm, by rw [yup_ne (by omega), yup_ne (by omega), yup_ne (by omega), h26], fun k k1 k2 k3 => by rw [yup_ne k2, yup_ne k3, yup_ne k1]⟩, zLst_cg (zLst_0 l7) (zup_ne (by omega)) (zup_ne (by omega)), zTx_cg htx (zup_ne (by omega)), Nat.zero_le _⟩
  obtain ⟨h1, qs, e1, p2, f1, l1, n1, r1⟩ := (e_par (sv := sv) (m := m) (F := F) (cs := cs) 4000).1 0 0 _ [] (d + 43) (by show 400 * (7 - 0) + 5 * (61 - 0) + 4 < 4000; omega) (by omega) (by omega) hp0 (Nat.le_refl _) ynk_nil
  obtain ⟨⟨G, g, g1, g2, g3, g4, g5⟩, l2, t2, c2⟩ := id p2
  have hsz := (ypa_sz (cs := cs) 4000 0 none 0 0).2
  have hcl : cs.length ≤ 60 := t2.choose_spec.2.2.2
  have hf0 : zfm m h (zup h m (13, zMF m (yup (yup (yup F 27 0) 11 0) 28 0))) := ⟨fun q q1 q2 q3 => zup_ne q1, rfl⟩
  have ff := zfm_tr hf0 f1
  refine ⟨h1, G, qs, ?_, zWk_fm hw ff g l2, g1, g3, g5, l2, fun t ht => ?_, ff⟩
  · have hr0 : ∀ X : zR, zrc ((zup h m (13, zMF m (yup (yup (yup F 27 0) 11 0) 28 0))).1 m) 13 X = X := fun X => zPs_rc hp0
    have S1 : zcall zP sv (d + 44) 233 [.ref m] h = zrun zP sv (zcall zP sv (d + 43)) 233 19 [.val (.ref m), .unset] [.int (yb (ypa cs 4000 0 none 0 0).1.isSome)] h1 := by
      rw [zc_233]
      simp only [zs_233_0, zs_233_1, zs_233_2, zs_233_5, zs_233_6, zs_233_7, zs_233_10, zs_233_11, zs_233_12, zs_233_15, zs_233_16, hm, zmp_27, zup_at, zmp_11, zup_up, zmp_28, zrc_13v, e1, zbk_v, zts_s]
    rw [S1]
    unfold yadd
    by_cases hs : (ypa cs 4000 0 none 0 0).1.isSome = true
    · by_cases hc : (ypa cs 4000 0 none 0 0).2 = cs.length
      · rw [if_pos hc]
        dsimp only
        rw [hs, yb_t]
        have ec : nI (ypa cs 4000 0 none 0 0).2 = nI cs.length := by rw [hc]
        simp (disch := exact znw_u) only [zs_233_19, zs_233_22, zs_233_23, zs_233_26, zs_233_27, zs_233_30, zs_233_33, zs_233_34, zs_233_38, zs_233_39, zs_233_40, zs_233_41, zs_233_44, nI_1e0, ↓reduceIte, g, zmf_27, zmf_26, g1, g4, ec, zmp_26]
      · rw [if_neg hc]
        dsimp only
        have ec : ¬ nI (ypa cs 4000 0 none 0 0).2 = nI cs.length := fun q => hc ((nI_eq (by omega) (by omega)).mp q)
        rw [hs, yb_t, Option.isSome_none, yb_f]
        simp (disch := exact znw_u) only [zs_233_19, zs_233_22, zs_233_23, zs_233_26, zs_233_27, zs_233_30, zs_233_37, zs_233_38, zs_233_39, zs_233_40, zs_233_41, zs_233_44, nI_1e0, ↓reduceIte, g, zmf_27, zmf_26, g1, g4, if_neg ec, zmp_26]
    · have hn : (ypa cs 4000 0 none 0 0).1 = none := by
        cases hx : (ypa cs 4000 0 none 0 0).1 with
        | none => rfl
        | some t => rw [hx] at hs; exact absurd rfl hs
      rw [hn]
      have e0 : (if (ypa cs 4000 0 none 0 0).2 = cs.length then (none : Option yT) else none) = none := by split <;> rfl
      rw [e0]
      dsimp only
      rw [Option.isSome_none, yb_f]
      simp (disch := exact znw_u) only [zs_233_19, zs_233_37, zs_233_38, zs_233_39, zs_233_40, zs_233_41, zs_233_44, ↓reduceIte, g, zmp_26]
  · have ht2 : (ypa cs 4000 0 none 0 0).1 = some t := by
      unfold yadd at ht
      dsimp only at ht
      split at ht
      · exact ht
      · cases ht
    refine ⟨by have := r1 t ht2; rw [List.nil_append] at this; exact this, ?_⟩
    have z := hsz t ht2
    have z2 : yas (none : Option yT) = 0 := rfl
    omega
end ZAD
