section ZSE
variable {sv : Nat → Value} {d : Nat}
theorem d_87 {k : Int32} {h : zH} : zcall zP sv (d + 1) 87 [.int k] h = some (.inl (some (.int (yow k))), h) := by
  unfold yow
  by_cases q1 : k = nI 43
  · rw [if_pos q1]
    simp only [zc_87, zs_87_0, zs_87_1, zs_87_3, zs_87_6, zs_87_7, zs_87_9, zs_87_12, zs_87_13, zs_87_14, zs_87_15, zs_87_17, zs_87_20, zs_87_21, zs_87_24, zs_87_25, if_pos q1]
  · rw [if_neg q1]
    by_cases q2 : k = nI 45
    · rw [if_pos q2]
      simp only [zc_87, zs_87_0, zs_87_1, zs_87_3, zs_87_6, zs_87_7, zs_87_9, zs_87_12, zs_87_13, zs_87_14, zs_87_15, zs_87_17, zs_87_20, zs_87_21, zs_87_24, zs_87_25, if_neg q1, if_pos q2]
    · rw [if_neg q2]
      by_cases q3 : k = nI 42
      · rw [if_pos q3]
        simp only [zc_87, zs_87_0, zs_87_1, zs_87_3, zs_87_6, zs_87_7, zs_87_9, zs_87_12, zs_87_13, zs_87_14, zs_87_15, zs_87_17, zs_87_20, zs_87_21, zs_87_24, zs_87_25, if_neg q1, if_neg q2, if_pos q3]
      · rw [if_neg q3]
        simp only [zc_87, zs_87_0, zs_87_1, zs_87_3, zs_87_6, zs_87_7, zs_87_9, zs_87_12, zs_87_13, zs_87_14, zs_87_15, zs_87_17, zs_87_20, zs_87_21, zs_87_24, zs_87_25, if_neg q1, if_neg q2, if_neg q3]
theorem zTre_kd {h : zH} {t m : Nat} {ns : List yN} (ht : zTre h t m ns) : ∀ q, t ≤ q → q < t + 9 → (h.1 q).1 = 6 ∨ (h.1 q).1 = 4 ∨ (h.1 q).1 = 20 := by
  obtain ⟨K, N, L, R, e, ⟨k1, k2, k3, k4⟩, _⟩ := ht
  intro q q1 q2
  rcases (show q = t ∨ q = t + 1 ∨ q = t + 1 + 1 ∨ q = t + 3 ∨ q = t + 3 + 1 ∨ q = t + 5 ∨ q = t + 5 + 1 ∨ q = t + 7 ∨ q = t + 7 + 1 by omega) with rfl | rfl | rfl | rfl | rfl | rfl | rfl | rfl | rfl
  · rw [e]; exact Or.inl rfl
  · rw [k1.1]; exact Or.inr (Or.inl rfl)
  · rw [k1.2.1]; exact Or.inr (Or.inr rfl)
  · rw [k2.1]; exact Or.inr (Or.inl rfl)
  · rw [k2.2.1]; exact Or.inr (Or.inr rfl)
  · rw [k3.1]; exact Or.inr (Or.inl rfl)
  · rw [k3.2.1]; exact Or.inr (Or.inr rfl)
  · rw [k4.1]; exact Or.inr (Or.inl rfl)
  · rw [k4.2.1]; exact Or.inr (Or.inr rfl)
theorem zTre_bo {h h' : zH} {t m r v : Nat} {ns : List yN} {B B' o : List Int32} (ht : zTre h t m ns) (hb : zBl h r v B o) (hsz : t + 9 ≤ h.2.1) (hf : zbo r v B B' h h') : zTre h' t m ns := by
  have kb := zBl_k hb
  refine zTre_cg ht (fun q q1 q2 => hf.1 q (by omega) (fun z => ?_) (fun z => ?_))
  · have := zTre_kd ht q q1 q2
    rw [z, kb.1] at this
    omega
  · have := zTre_kd ht q q1 q2
    rw [z, kb.2] at this
    omega
def zW9 (sv : Nat → Value) (D t mt : Nat) (ns : List yN) (r : Nat) (x : Int32) (u : yT) : Prop := ∀ (nn : Int32) (ℓ : Nat) (h : zH) (v : Nat) (B o : List Int32), zTre h t mt ns → t + 9 ≤ h.2.1 → zDg sv h → zBl h r v B o → ℓ + ydp u ≤ 41 → o.length + 13 * ysz u ≤ 431 → zAd r v B o h (zcall zP sv D 89 [.ref t, .int x, .int nn, .ref r, .int (nI ℓ)] h) none 0 (13 * ysz u - 2)
def zW8 (sv : Nat → Value) (D t mt : Nat) (ns : List yN) (r : Nat) (x : Int32) (u : yT) : Prop := ∀ (ls nn : Int32) (ℓ : Nat) (h : zH) (v : Nat) (B o : List Int32), zTre h t mt ns → t + 9 ≤ h.2.1 → zDg sv h → zBl h r v B o → ℓ + ydp u ≤ 41 → o.length + 13 * ysz u ≤ 430 → zAd r v B o h (zcall zP sv D 88 [.ref t, .int x, .int ls, .int nn, .ref r, .int (nI ℓ)] h) none 0 (13 * ysz u)
theorem d_88 {D t mt r i : Nat} {ns : List yN} {nd : yN} {u : yT} (hs : sv 0 = .int (nI 1)) (hnd : ns[i]? = some nd) (hu : 1 ≤ ysz u) (W : zW9 sv (D + 6) t mt ns r (nI i) u) : zW8 sv (D + 7) t mt ns r (nI i) u := by
  intro ls nn ℓ h v B o ht hsz hD hb hL ho
  have kb := zBl_k hb
  have rc : ∀ X : zR, zrc (h.1 r) 2 X = X := fun X => zBl_rc hb X
  have trc : ∀ X : zR, zrc (h.1 t) 6 X = X := fun X => zTre_rc ht
  have e184 : zcall zP sv (D + 6) 184 [.ref t, .int (nI i)] h = _ := d_184 (d := D + 4) ht hnd
  have e87 : zcall zP sv (D + 6) 87 [.int nd.1] h = _ := d_87 (d := D + 5)
  -- with parentheses
  have A : ∀ l7 : Slot, zAd r v B o h (zrun zP sv (zcall zP sv (D + 6)) 88 41 [.val (.ref t), .val (.int (nI i)), .val (.int ls), .val (.int nn), .val (.ref r), .val (.int (nI ℓ)), .val (.int nd.1), l7] [] h) none 0 (13 * ysz u) := by
    intro l7
    obtain ⟨h1, v1, B1, q1, e1, b1, w1, f1, l1, l1'⟩ := d_15 (sv := sv) (d := D + 1) (k := 40) hs hb (by omega) (by decide)
    have ht1 := zTre_bo ht hb hsz f1
    have D1 := zDg_bo hD kb.1 kb.2 f1
    have kb1 := zBl_k b1
    have s1 : t + 9 ≤ h1.2.1 := by have := f1.2.1; omega
    obtain ⟨h2, v2, B2, q2, e2, b2, w2, f2, l2, l2'⟩ := W 0 ℓ h1 v1 B1 _ ht1 s1 D1 b1 hL (by rw [List.length_append]; omega)
    have D2 := zDg_bo D1 kb1.1 kb1.2 f2
    obtain ⟨h3, v3, B3, q3, e3, b3, w3, f3, l3, l3'⟩ := d_15 (sv := sv) (d := D + 1) (k := 41) hs b2 (by rw [List.length_append, List.length_append]; omega) (by decide)
    have rc2 : ∀ X : zR, zrc (h2.1 r) 2 X = X := fun X => zBl_rc b2 X
    have z2 := zbo_tr f1 w1 f2
    have u2 : v2 = v ∨ h.2.1 ≤ v2 := by have := f1.2.1; omega
    have z3 := zbo_tr z2 u2 f3
    refine ⟨h3, v3, B3, q1 ++ q2 ++ q3, ?_, by simpa only [List.append_assoc] using b3, by have := z2.2.1; omega, z3, Nat.zero_le _, by rw [List.length_append, List.length_append]; omega⟩
    simp (disch := first | exact znw_u | exact znw_i) only [zs_88_41, zs_88_43, zs_88_45, zs_88_48, zs_88_49, zs_88_50, zs_88_51, zs_88_52, zs_88_54, zs_88_56, zs_88_59, zs_88_61, zs_88_63, zs_88_66, zs_88_67, zs_88_80, rc, rc2, e1, e2, e3, zbk_v, zts_s, zts_n, List.cons_append, List.nil_append]
  have Bp : ∀ l7 : Slot, zAd r v B o h (zrun zP sv (zcall zP sv (D + 6)) 88 70 [.val (.ref t), .val (.int (nI i)), .val (.int ls), .val (.int nn), .val (.ref r), .val (.int (nI ℓ)), .val (.int nd.1), l7] [] h) none 0 (13 * ysz u) := by
    intro l7
    obtain ⟨h2, v2, B2, q2, e2, b2, w2, f2, l2, l2'⟩ := W nn ℓ h v B o ht hsz hD hb hL (by omega)
    refine ⟨h2, v2, B2, q2, ?_, b2, w2, f2, Nat.zero_le _, by omega⟩
    simp (disch := first | exact znw_u | exact znw_i) only [zs_88_70, zs_88_71, zs_88_72, zs_88_73, zs_88_75, zs_88_77, zs_88_80, e2, zbk_v, zts_n, List.cons_append, List.nil_append]
  have hd : ∃ f : Int32, (f = 0 ∨ f = nI 1) ∧ zcall zP sv (D + 7) 88 [.ref t, .int (nI i), .int ls, .int nn, .ref r, .int (nI ℓ)] h = zrun zP sv (zcall zP sv (D + 6)) 88 27 [.val (.ref t), .val (.int (nI i)), .val (.int ls), .val (.int nn), .val (.ref r), .val (.int (nI ℓ)), .val (.int nd.1), .val (.int f)] [] h := by
    by_cases c1 : nd.1 = nI 110
    · by_cases c2 : nn < nI 6
      · refine ⟨0, Or.inl rfl, ?_⟩
        simp (disch := first | exact znw_u | exact znw_i) only [zc_88, zs_88_0, zs_88_1, zs_88_2, zs_88_5, zs_88_7, zs_88_9, zs_88_11, zs_88_14, zs_88_15, zs_88_17, zs_88_24, zs_88_25, trc, e184, if_pos c1, if_pos c2, zbk_v, zts_s, List.cons_append, List.nil_append]
      · refine ⟨nI 1, Or.inr rfl, ?_⟩
        simp (disch := first | exact znw_u | exact znw_i) only [zc_88, zs_88_0, zs_88_1, zs_88_2, zs_88_5, zs_88_7, zs_88_9, zs_88_11, zs_88_14, zs_88_15, zs_88_17, zs_88_20, zs_88_21, zs_88_25, trc, e184, if_pos c1, if_neg c2, zbk_v, zts_s, List.cons_append, List.nil_append]
    · refine ⟨0, Or.inl rfl, ?_⟩
      simp (disch := first | exact znw_u | exact znw_i) only [zc_88, zs_88_0, zs_88_1, zs_88_2, zs_88_5, zs_88_7, zs_88_9, zs_88_11, zs_88_24, zs_88_25, trc, e184, if_neg c1, zbk_v, zts_s, List.cons_append, List.nil_append]
  obtain ⟨f, hf, e0⟩ := hd
  rw [e0]
  by_cases c3 : yow nd.1 < ls
  · obtain ⟨h2, v2, B2, q2, e2, w⟩ := A (.val (.int f))
    refine ⟨h2, v2, B2, q2, ?_, w⟩
    rw [← e2]
    simp (disch := first | exact znw_u | exact znw_i) only [zs_88_27, zs_88_29, zs_88_32, zs_88_33, e87, if_pos c3, zbk_v, zts_s, List.cons_append, List.nil_append]
  · rcases hf with rfl | rfl
    · obtain ⟨h2, v2, B2, q2, e2, w⟩ := Bp (.val (.int 0))
      refine ⟨h2, v2, B2, q2, ?_, w⟩
      rw [← e2]
      simp (disch := first | exact znw_u | exact znw_i) only [zs_88_27, zs_88_29, zs_88_32, zs_88_33, zs_88_36, zs_88_38, e87, if_neg c3, zbk_v, zts_s, ↓reduceIte, List.cons_append, List.nil_append]
    · obtain ⟨h2, v2, B2, q2, e2, w⟩ := A (.val (.int (nI 1)))
      refine ⟨h2, v2, B2, q2, ?_, w⟩
      rw [← e2]
      simp (disch := first | exact znw_u | exact znw_i) only [zs_88_27, zs_88_29, zs_88_32, zs_88_33, zs_88_36, zs_88_38, e87, if_neg c3, nI_1e0, zbk_v, zts_s, ↓reduceIte, List.cons_append, List.nil_append]
theorem d_89 {t mt r : Nat} {ns : List yN} (hs : sv 0 = .int (nI 1)) (hw : ywf ns) : ∀ (n : Nat) (u : yT) (x : Int32) (D : Nat), ydp u ≤ n → ytw u = true → ych ns.length x → ygt (ytm ns) x = u → 2 * ydp u + 4 ≤ D → zW9 sv D t mt ns r x u
  | 0, u, x, D, hn, ht, hx, hu, hD => by
    cases u with
    | leaf => cases ht
    | inner _ _ _ l r =>
      have : max (ydp l) (ydp r) + 1 ≤ 0 := hn
      omega
  | n + 1, u, x, D, hn, htw, hx, hu, hDD => by
    intro nn ℓ h v B o ht hsz hD hb hL ho
    have hln := hw.1
    rcases hx with rfl | ⟨i, hi, rfl⟩
    · rw [ygt_n] at hu
      subst hu
      cases htw
    · obtain ⟨nd, hnd⟩ := ynd_ex hi
      have hch := ych_lt hw hnd
      rw [ygt_at hw hnd] at hu
      have e : u = .inner 0 nd.1 nd.2.1 (ygt (ytm ns) nd.2.2.1) (ygt (ytm ns) nd.2.2.2) := hu.symm
      generalize hle : ygt (ytm ns) nd.2.2.1 = l at *
      generalize hre : ygt (ytm ns) nd.2.2.2 = rr at *
      subst e
      have hD' : 2 * (max (ydp l) (ydp rr) + 1) + 4 ≤ D := hDD
      have hn' : max (ydp l) (ydp rr) + 1 ≤ n + 1 := hn
      have hL' : ℓ + (max (ydp l) (ydp rr) + 1) ≤ 41 := hL
      have ho' : o.length + 13 * (ysz l + ysz rr + 1) ≤ 431 := ho
      have esz : 13 * ysz (.inner 0 nd.1 nd.2.1 l rr : yT) - 2 = 13 * (ysz l + ysz rr + 1) - 2 := rfl
      rw [esz]
      obtain ⟨D, rfl⟩ : ∃ D', D = D' + 6 := ⟨D - 6, by omega⟩
      have kb := zBl_k hb
      have rc : ∀ X : zR, zrc (h.1 r) 2 X = X := fun X => zBl_rc hb X
      have trc : ∀ X : zR, zrc (h.1 t) 6 X = X := fun X => zTre_rc ht
      have c40 : ¬ nI 40 < nI ℓ := nI_nlt (by omega) (by omega)
      have e184 : zcall zP sv (D + 5) 184 [.ref t, .int (nI i)] h = _ := d_184 (d := D + 3) ht hnd
      have e185 : zcall zP sv (D + 5) 185 [.ref t, .int (nI i)] h = _ := d_185 (d := D + 3) ht hnd
      have p3 : ¬ nI 118 = nI 99 := by decide +kernel
      have p6 : ¬ nI 110 = nI 99 := by decide +kernel
      have p7 : ¬ nI 110 = nI 118 := by decide +kernel
      rcases ytw_el htw with g0 | g0 | g0 | g0
      · obtain ⟨g1, g2, g3⟩ := g0
        have hy := yilen_le nd.2.1
        obtain ⟨h1, v1, B1, q1, e1, b1, w1, f1, l1, l1'⟩ := d_9 (sv := sv) (d := D) (x := nd.2.1) hs hD hb (by omega)
        rw [g1] at e184
        refine ⟨h1, v1, B1, q1, ?_, b1, w1, f1, Nat.zero_le _, by omega⟩
        simp (disch := first | exact znw_u | exact znw_i) only [zc_89, zs_89_0, zs_89_2, zs_89_4, zs_89_8, zs_89_9, zs_89_10, zs_89_13, zs_89_15, zs_89_17, zs_89_19, zs_89_22, zs_89_23, zs_89_24, zs_89_25, zs_89_28, zs_89_31, zs_89_32, zs_89_142, if_neg c40, trc, rc, e184, e185, e1, zbk_v, zts_s, zts_n, ↓reduceIte, List.cons_append, List.nil_append]
      · obtain ⟨g1, gl, g2, g3⟩ := g0
        have zl2 := (ylet_w gl).2.1
        obtain ⟨kl, hkl, ekl⟩ := ylet_of gl
        rw [ekl] at zl2 e185
        obtain ⟨h1, v1, B1, q1, e1, b1, w1, f1, l1, l1'⟩ := d_15 (sv := sv) (d := D) (k := 97 + kl) hs hb (by omega) (by omega)
        rw [g1] at e184
        refine ⟨h1, v1, B1, q1, ?_, b1, w1, f1, Nat.zero_le _, by omega⟩
        simp (disch := first | exact znw_u | exact znw_i) only [zc_89, zs_89_0, zs_89_2, zs_89_4, zs_89_8, zs_89_9, zs_89_10, zs_89_13, zs_89_15, zs_89_17, zs_89_19, zs_89_35, zs_89_37, zs_89_39, zs_89_42, zs_89_43, zs_89_44, zs_89_45, zs_89_48, zs_89_49, zs_89_52, zs_89_53, zs_89_142, if_neg c40, trc, rc, e184, e185, if_neg p3, zl2, e1, zbk_v, zts_s, zts_n, ↓reduceIte, List.cons_append, List.nil_append]
      · obtain ⟨g1, gv, g2, g3⟩ := g0
        have hrz : ydp rr = 0 := by rw [g3]; rfl
        have hrs : ysz rr = 0 := by rw [g3]; rfl
        have hlz := ytw_sz g2
        have hlp : 1 ≤ ydp l := by
          cases l with
          | leaf => cases g2
          | inner _ _ _ a b => show 1 ≤ max (ydp a) (ydp b) + 1; omega
        obtain ⟨D, rfl⟩ : ∃ D', D = D' + 2 := ⟨D - 2, by omega⟩
        obtain ⟨h1, v1, B1, q1, e1, b1, w1, f1, l1, l1'⟩ := d_15 (sv := sv) (d := D + 2) (k := 45) hs hb (by omega) (by decide)
        have ht1 := zTre_bo ht hb hsz f1
        have D1 := zDg_bo hD kb.1 kb.2 f1
        have s1 : t + 9 ≤ h1.2.1 := by have := f1.2.1; omega
        obtain ⟨i2, hi2, ei2⟩ : ∃ i2, i2 < ns.length ∧ nd.2.2.1 = nI i2 := by
          rcases hch.1 with z | z
          · rw [z, ygt_n] at hle
            rw [← hle] at g2
            cases g2
          · exact z
        obtain ⟨nd2, hnd2⟩ := ynd_ex hi2
        have W9 := d_89 (t := t) (mt := mt) (r := r) hs hw n l nd.2.2.1 (D + 6) (by omega) g2 hch.1 hle (by omega)
        rw [ei2] at W9
        obtain ⟨h2, v2, B2, q2, e2, b2, w2, f2, l2, l2'⟩ := d_88 (D := D) hs hnd2 hlz W9 (nI 3) (nn + nI 1) (ℓ + 1) h1 v1 B1 _ ht1 s1 D1 b1 (by omega) (by rw [List.length_append]; omega)
        have e186 : zcall zP sv (D + 7) 186 [.ref t, .int (nI i)] h1 = _ := d_186 (d := D + 5) ht1 hnd
        have trc1 : ∀ X : zR, zrc (h1.1 t) 6 X = X := fun X => zTre_rc ht1
        rw [← ei2] at e2
        rw [g1] at e184
        have z2 := zbo_tr f1 w1 f2
        refine ⟨h2, v2, B2, q1 ++ q2, ?_, by rw [← List.append_assoc]; exact b2, by have := f1.2.1; omega, z2, Nat.zero_le _, by rw [List.length_append]; omega⟩
        simp (disch := first | exact znw_u | exact znw_i) only [zc_89, zs_89_0, zs_89_2, zs_89_4, zs_89_8, zs_89_9, zs_89_10, zs_89_13, zs_89_15, zs_89_17, zs_89_19, zs_89_35, zs_89_37, zs_89_39, zs_89_56, zs_89_58, zs_89_60, zs_89_63, zs_89_64, zs_89_66, zs_89_69, zs_89_70, zs_89_71, zs_89_72, zs_89_73, zs_89_76, zs_89_77, zs_89_78, zs_89_79, zs_89_80, zs_89_81, zs_89_83, zs_89_84, zs_89_85, zs_89_88, zs_89_142, if_neg c40, trc, trc1, rc, e184, e186, if_neg p6, if_neg p7, nI_1', e1, e2, zbk_v, zts_s, zts_n, ↓reduceIte, List.cons_append, List.nil_append]
      · obtain ⟨gk, gv, g2, g3⟩ := g0
        obtain ⟨n1, n2, n3, n4⟩ := yis_ne gk
        obtain ⟨kk, hkk, ekk, ck⟩ := yis_ch gk
        have hlz := ytw_sz g2
        have hrz := ytw_sz g3
        have hlp : 1 ≤ ydp l := by
          cases l with
          | leaf => cases g2
          | inner _ _ _ a b => show 1 ≤ max (ydp a) (ydp b) + 1; omega
        obtain ⟨D, rfl⟩ : ∃ D', D = D' + 2 := ⟨D - 2, by omega⟩
        obtain ⟨i2, hi2, ei2⟩ : ∃ i2, i2 < ns.length ∧ nd.2.2.1 = nI i2 := by
          rcases hch.1 with z | z
          · rw [z, ygt_n] at hle
            rw [← hle] at g2
            cases g2
          · exact z
        obtain ⟨i3, hi3, ei3⟩ : ∃ i3, i3 < ns.length ∧ nd.2.2.2 = nI i3 := by
          rcases hch.2 with z | z
          · rw [z, ygt_n] at hre
            rw [← hre] at g3
            cases g3
          · exact z
        obtain ⟨nd2, hnd2⟩ := ynd_ex hi2
        obtain ⟨nd3, hnd3⟩ := ynd_ex hi3
        have Wl := d_89 (t := t) (mt := mt) (r := r) hs hw n l nd.2.2.1 (D + 6) (by omega) g2 hch.1 hle (by omega)
        have Wr := d_89 (t := t) (mt := mt) (r := r) hs hw n rr nd.2.2.2 (D + 6) (by omega) g3 hch.2 hre (by omega)
        rw [ei2] at Wl
        rw [ei3] at Wr
        have e186 : zcall zP sv (D + 7) 186 [.ref t, .int (nI i)] h = _ := d_186 (d := D + 5) ht hnd
        have e87 : zcall zP sv (D + 7) 87 [.int nd.1] h = _ := d_87 (d := D + 6)
        obtain ⟨h1, v1, B1, q1, e1, b1, w1, f1, l1, l1'⟩ := d_88 (D := D) hs hnd2 hlz Wl (yow nd.1) 0 (ℓ + 1) h v B o ht hsz hD hb (by omega) (by omega)
        have ht1 := zTre_bo ht hb hsz f1
        have D1 := zDg_bo hD kb.1 kb.2 f1
        have kb1 := zBl_k b1
        have s1 : t + 9 ≤ h1.2.1 := by have := f1.2.1; omega
        have rc1 : ∀ X : zR, zrc (h1.1 r) 2 X = X := fun X => zBl_rc b1 X
        obtain ⟨h2, v2, B2, q2, e2, b2, w2, f2, l2, l2'⟩ := d_15 (sv := sv) (d := D + 2) (k := kk) hs b1 (by rw [List.length_append]; omega) hkk
        have ht2 := zTre_bo ht1 b1 s1 f2
        have D2 := zDg_bo D1 kb1.1 kb1.2 f2
        have s2 : t + 9 ≤ h2.2.1 := by have := f2.2.1; omega
        have e187 : zcall zP sv (D + 7) 187 [.ref t, .int (nI i)] h2 = _ := d_187 (d := D + 5) ht2 hnd
        have trc2 : ∀ X : zR, zrc (h2.1 t) 6 X = X := fun X => zTre_rc ht2
        obtain ⟨h3, v3, B3, q3, e3, b3, w3, f3, l3, l3'⟩ := d_88 (D := D) hs hnd3 hrz Wr (yow nd.1 + nI 1) 0 (ℓ + 1) h2 v2 B2 _ ht2 s2 D2 b2 (by omega) (by rw [List.length_append, List.length_append]; omega)
        rw [← ei2] at e1
        rw [← ei3] at e3
        have z2 := zbo_tr f1 w1 f2
        have u2 : v2 = v ∨ h.2.1 ≤ v2 := by have := f1.2.1; omega
        have z3 := zbo_tr z2 u2 f3
        refine ⟨h3, v3, B3, q1 ++ q2 ++ q3, ?_, by simpa only [List.append_assoc] using b3, by have := z2.2.1; omega, z3, Nat.zero_le _, by rw [List.length_append, List.length_append]; omega⟩
        rw [← ekk] at ck e2
        simp (disch := first | exact znw_u | exact znw_i) only [zc_89, zs_89_0, zs_89_2, zs_89_4, zs_89_8, zs_89_9, zs_89_10, zs_89_13, zs_89_15, zs_89_17, zs_89_19, zs_89_35, zs_89_37, zs_89_39, zs_89_56, zs_89_58, zs_89_60, zs_89_91, zs_89_93, zs_89_96, zs_89_98, zs_89_99, zs_89_100, zs_89_101, zs_89_104, zs_89_106, zs_89_107, zs_89_108, zs_89_110, zs_89_111, zs_89_112, zs_89_115, zs_89_116, zs_89_118, zs_89_119, zs_89_122, zs_89_123, zs_89_124, zs_89_125, zs_89_126, zs_89_129, zs_89_131, zs_89_132, zs_89_133, zs_89_134, zs_89_135, zs_89_137, zs_89_138, zs_89_139, zs_89_142, if_neg c40, trc, trc2, rc, rc1, e184, e186, e187, e87, if_neg n1, if_neg n2, if_neg n3, ck, nI_1', e1, e2, e3, zbk_v, zts_s, zts_n, ↓reduceIte, List.cons_append, List.nil_append]
end ZSE
