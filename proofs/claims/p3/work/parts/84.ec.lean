theorem zFs_set {h : zH} {m i b : Nat} {as : List Nat} {ts : List yT} {u : yT} (hf : zFs h m as ts) (hi : i < as.length) (hb : m + 139 ≤ b ∧ b + 9 ≤ h.2.1 ∧ zTre h b (ysz u) (ypo 0 u)) : zFs h m (as.set i b) (ts.set i u) := by
  refine ⟨by rw [List.length_set, List.length_set]; exact hf.1, fun j a t h1 h2 => ?_⟩
  have hl := hf.1
  by_cases hj : j = i
  · subst hj
    rw [List.getElem?_set_self hi] at h1
    rw [List.getElem?_set_self (by omega)] at h2
    injection h1 with h1
    injection h2 with h2
    subst h1 h2
    exact hb
  · rw [List.getElem?_set_ne (Ne.symm hj)] at h1 h2
    exact hf.2 j a t h1 h2
theorem zFs_app {h : zH} {m b : Nat} {as : List Nat} {ts : List yT} {u : yT} (hf : zFs h m as ts) (hb : m + 139 ≤ b ∧ b + 9 ≤ h.2.1 ∧ zTre h b (ysz u) (ypo 0 u)) : zFs h m (as ++ [b]) (ts ++ [u]) := by
  have hl := hf.1
  refine ⟨by rw [List.length_append, List.length_append, hl]; rfl, fun j a t h1 h2 => ?_⟩
  by_cases hj : j < as.length
  · rw [List.getElem?_append_left hj] at h1
    rw [List.getElem?_append_left (by omega)] at h2
    exact hf.2 j a t h1 h2
  · rw [List.getElem?_append_right (by omega)] at h1
    rw [List.getElem?_append_right (by omega)] at h2
    have hj2 : j - as.length = 0 := by
      have := (List.getElem?_eq_some_iff.mp h1).1
      have e : [b].length = 1 := rfl
      omega
    rw [hj2] at h1
    rw [show j - ts.length = 0 by omega] at h2
    injection h1 with h1
    injection h2 with h2
    subst h1 h2
    exact hb
theorem zScr_gau {h h' : zH} {m : Nat} {A B C : List Int32} (hs : zScr h m) (hf : ∀ q, q < m + 119 → (q < m + 78 ∨ m + 85 ≤ q) → h'.1 q = h.1 q) (hg : zGau h' (m + 78) A B C) : zScr h' m := by
  obtain ⟨⟨n1, a1⟩, ⟨n2, a2⟩, ⟨P, a3⟩, _, a5, a6⟩ := hs
  exact ⟨⟨n1, zTre_cg a1 (fun q b c => hf q (by omega) (by omega))⟩, ⟨n2, zTre_cg a2 (fun q b c => hf q (by omega) (by omega))⟩, ⟨P, zAl_cg a3 (fun q b c => hf q (by omega) (by omega))⟩, ⟨A, B, C, hg⟩, zNum_cg a5 (fun q b c => hf q (by omega) (by omega)), zCod_cg a6 (fun q b c => hf q (by omega) (by omega))⟩
theorem zScr_ro {h h' : zH} {m : Nat} {ns : List yN} {P : List Int32} (hs : zScr h m) (hf : zf2 (m + 45) (m + 54) (m + 75) (m + 78) h h') (ht : zTre h' (m + 45) 124 ns) (hp : zAl h' (m + 75) P) : zScr h' m := by
  obtain ⟨_, ⟨n2, a2⟩, _, ⟨A, B, C, a4⟩, a5, a6⟩ := hs
  exact ⟨⟨ns, ht⟩, ⟨n2, zTre_cg a2 (zcg_f2 hf (by omega) (by omega))⟩, ⟨P, hp⟩, ⟨A, B, C, zGau_cg a4 (zcg_f2 hf (by omega) (by omega))⟩, zNum_cg a5 (zcg_f2 hf (by omega) (by omega)), zCod_cg a6 (zcg_f2 hf (by omega) (by omega))⟩
theorem zScr_sm {h h' : zH} {m : Nat} {ns : List yN} {P : List Int32} (hs : zScr h m) (hf : zf2 (m + 54) (m + 63) (m + 75) (m + 78) h h') (ht : zTre h' (m + 54) 124 ns) (hp : zAl h' (m + 75) P) : zScr h' m := by
  obtain ⟨⟨n2, a2⟩, _, _, ⟨A, B, C, a4⟩, a5, a6⟩ := hs
  exact ⟨⟨n2, zTre_cg a2 (zcg_f2 hf (by omega) (by omega))⟩, ⟨ns, ht⟩, ⟨P, hp⟩, ⟨A, B, C, zGau_cg a4 (zcg_f2 hf (by omega) (by omega))⟩, zNum_cg a5 (zcg_f2 hf (by omega) (by omega)), zCod_cg a6 (zcg_f2 hf (by omega) (by omega))⟩
theorem zCls_f2 {h h' : zH} {m a b c e : Nat} {w : yW} (hc : zCls h m w) (hf : zf2 a b c e h h') (h1 : m + 45 ≤ a) (h2 : b ≤ m + 63 ∨ m + 75 ≤ a) (h3 : m + 45 ≤ c) (h4 : e ≤ m + 63 ∨ m + 75 ≤ c) (h5 : b ≤ m + 119) (h6 : e ≤ m + 119) (hs : zScr h' m) : zCls h' m w := zCls_q hc (zcg_f2 hf (by omega) (by omega)) (zcg_f2 hf (by omega) (by omega)) ⟨fun q a b => hf.1 q (by omega) (by omega), by rw [hf.2]; exact Nat.le_refl _⟩ hs
section ZEA
variable {sv : Nat → Value} {d : Nat} {h : zH} {m : Nat} {w : yW}
theorem d_175S {s i b : Nat} {S : yS} (hs : zSta h s S) (hi : i < S.1.length) (hb : ∃ vs, h.1 b = (6, vs)) : ∃ h', zcall zP sv (d + 1) 175 [.ref s, .int (nI i), .ref b] h = some (.inl none, h') ∧ zSta h' s (S.1.set i b, S.2) ∧ zfr s (s + 4) h h' := by
  obtain ⟨h1, ⟨F, h2, h3, h4⟩, h5, h6, h7⟩ := hs
  have e1 := d_175 (sv := sv) (d := d) (i := i) (b := b) h1 h2 h3 (by omega) hb
  refine ⟨_, e1, ⟨by rw [zup_ne (by omega), h1, List.length_set], ⟨F.set i (.ref b), zup_at, by rw [List.length_set, h3], fun j hj => ?_⟩, zRow_up h5 (by omega) (by omega), h6, by rw [List.length_set]; exact h7⟩, zfr_up (by omega) (by omega)⟩
  by_cases hj2 : j = i
  · subst hj2
    rw [List.getElem?_set_self (by omega), ygv_k (List.getElem?_set_self hi)]
  · rw [List.getElem?_set_ne (Ne.symm hj2), h4 j hj]
    unfold ygv
    rw [List.getElem?_set_ne (Ne.symm hj2)]
theorem zTre_k6 {t mm : Nat} {ns : List yN} (ht : zTre h t mm ns) : ∃ vs, h.1 t = (6, vs) := by
  obtain ⟨K, N, L, R, e, _⟩ := ht
  exact ⟨_, e⟩
/-- a new formula out of a work tree, at class level -/
theorem d_75E {a ma : Nat} {ns : List yN} {x : Int32} {t : yT} (hc : zCls h m w) (ht : zTre h a ma ns) (hw : ywf ns) (hn : ns.length ≤ 124) (hd : m + 85 ≤ a ∨ a + 9 ≤ m + 78) (hb : a + 9 ≤ h.2.1) (hx : ych ns.length x) (hxt : ygt (ytm ns) x = t) (hs0 : 0 < ysz t) (hs : ysz t ≤ 31) (hdp : ydp t ≤ 40) : ∃ h', zcall zP sv (d + 45) 75 [.ref m, .ref a, .int x] h = some (.inl (some (.ref h.2.1)), h') ∧ zCls h' m w ∧ zfx (m + 78) (m + 85) 9 134 h h' ∧ zTre h' h.2.1 (ysz t) (ypo 0 t) ∧ h'.2.1 = h.2.1 + 9 := by
  have hc' := hc
  have c0 := hc.1
  have cs := hc.2.2.2.2.2.2.1
  obtain ⟨A, B, C, hg⟩ := cs.2.2.2.1
  subst hxt
  obtain ⟨h', A', e, g, T, f, s1, s2⟩ := d_75 (sv := sv) (d := d) (zCls_0 hc) hg ht hw hn hd hb (by omega) hx hs0 (by omega) hdp
  have hfx : zfx (m + 78) (m + 85) 9 134 h h' := ⟨f, by omega, by omega, by omega⟩
  refine ⟨h', e, zCls_q hc' (zcg_fx hfx (by omega) (by omega)) (zcg_fx hfx (by omega) (by omega)) (zkp_fx hfx (by omega)) (zScr_gau cs (fun q q1 q2 => f q (by omega) q2) g), hfx, T, s1⟩
theorem d_28n {x : Int32} (hc : zCls h m w) (hx : x < 0 ∨ ¬ x < nI (ycur w).1.length) : zEnd h m (zcall zP sv (d + 47) 28 [.ref m, .int x] h) 1 6 (.inr 2) w := by
  obtain ⟨t1, t2⟩ := zthrow hc
  refine ⟨_, ?_, t1, t2⟩
  have q1 := zCls_0 hc
  have e1 := d_70n (sv := sv) (d := d + 44) hc hx
  have q5 : ∀ X : zR, zrc (h.1 m) 1 X = X := fun X => by rw [q1]; exact zrc_k
  simp (disch := exact znw_u) only [zc_28, zs_28_0, zs_28_0n, zs_28_1, zs_28_2, zs_28_5, zs_28_5n, zs_28_6, zs_28_6n, zs_28_7, zs_28_10, zs_28_10n, zs_28_11, zs_28_11n, zs_28_12, zs_28_15, zs_28_15n, zs_28_16, zs_28_19, zs_28_22, zs_28_23, zs_28_23n, zs_28_24, zs_28_24n, zs_28_25, zs_28_28, zs_28_29, zs_28_32, zs_28_32n, zs_28_34, zs_28_34n, zs_28_35, zs_28_38, zs_28_38n, zs_28_40, zs_28_43, zs_28_44, zs_28_46, zs_28_46n, zs_28_47, zs_28_50, zs_28_50n, zs_28_51, zs_28_54, zs_28_57, zs_28_57n, zs_28_58, zs_28_61, zs_28_62, zs_28_62n, zs_28_64, zs_28_67, zs_28_67n, zs_28_68, zs_28_71, zs_28_73, zs_28_76, zs_28_78, q5, e1, zbk_x]
theorem zthr_his (hc : zCls h m w) : ∀ X, zrc (h.1 (m + 11)) 5 X = X := fun X => by
  obtain ⟨_, _, _, _, ⟨H, k1, _⟩, _⟩ := hc
  exact zHis_rc k1
theorem d_28 {i : Nat} {t : yT} (hc : zCls h m w) (hi : (ycur w).1[i]? = some t) : zEnd h m (zcall zP sv (d + 47) 28 [.ref m, .int (nI i)] h) 9 134 (.inl (some (.int (nI (ysz t - ysz (ysim t)))))) (ysc (yrec w) ((ycur w).1.set i (ysim t), (ycur w).2.1, (ycur w).2.2.1, (ycur w).2.2.2 + nI (ysz t - ysz (ysim t)))) := by
  have q1 := zCls_0 hc
  have q5 : ∀ X : zR, zrc (h.1 m) 1 X = X := fun X => by rw [q1]; exact zrc_k
  have c0 := hc.1
  have cs := hc.2.2.2.2.2.2.1
  obtain ⟨a, e0, a1, a2, a3, a4⟩ := d_70k (sv := sv) (d := d + 44) hc hi
  have hil := (List.getElem?_eq_some_iff.mp hi).1
  obtain ⟨f1, f2, f3, f4⟩ := yform a4.1 (by have := a4.2.1; omega)
  obtain ⟨n2, b2⟩ := cs.2.1
  obtain ⟨P, b3⟩ := cs.2.2.1
  have hsz := a4.2.1
  have hdp := a4.2.2
  have hroot : nI (ypo 0 t).length - nI 1 = nI (ysz t - 1) := by
    rw [f3]
    conv => lhs; rw [show ysz t = ysz t - 1 + 1 by omega, ← nI_add, Int32.add_sub_cancel]
  have hdps : ∀ x, ych (ypo 0 t).length x → ydp (ysim (ygt (ytm (ypo 0 t)) x)) ≤ 40 := fun x hx => by
    have h1 := ydp_ysim (ygt (ytm (ypo 0 t)) x)
    have h2 : ∀ (u : yT) (ns : List yN) (y : Int32), ywf ns → ych ns.length y → ydp (ygt (ytm ns) y) ≤ ns.length := fun u ns y hw hy => by
      rcases hy with rfl | ⟨j, hj, rfl⟩
      · rw [ygt_n]; exact Nat.zero_le _
      · have : ∀ n j, j ≤ n → j < ns.length → ydp (ygt (ytm ns) (nI j)) ≤ j + 1 := by
          intro n
          induction n with
          | zero =>
            intro j hj hl
            obtain rfl : j = 0 := by omega
            obtain ⟨nd, hnd⟩ := ynd_ex hl
            have hc := hw.2 0 nd hnd
            have z : ∀ y, ych 0 y → ygt (ytm ns) y = .leaf := fun y hy => by
              rcases hy with rfl | ⟨k, hk, _⟩
              · exact ygt_n
              · omega
            rw [ygt_at hw hnd, z _ hc.1, z _ hc.2]
            exact Nat.le_refl _
          | succ n ih =>
            intro j hj hl
            obtain ⟨nd, hnd⟩ := ynd_ex hl
            have hc := hw.2 j nd hnd
            have z : ∀ y, ych j y → ydp (ygt (ytm ns) y) ≤ j := fun y hy => by
              rcases hy with rfl | ⟨k, hk, rfl⟩
              · rw [ygt_n]; exact Nat.zero_le _
              · have := ih k (by omega) (by omega)
                omega
            rw [ygt_at hw hnd, ydp_mk]
            have := z _ hc.1
            have := z _ hc.2
            omega
        have := this j j (Nat.le_refl _) hj
        omega
    have := h2 t (ypo 0 t) x f1 hx
    omega
  obtain ⟨h1, os, P1, x, e1, o1, o2, o3, o4, o5, o6, o7⟩ := d_95 (sv := sv) (d := d) (rt := nI (ysz t - 1)) f1 (by omega) (show a + 9 ≤ m + 54 ∨ m + 54 + 9 ≤ a by omega) (show a + 9 ≤ m + 75 ∨ m + 75 + 3 ≤ a by omega) (by omega) hdps a3 b2 b3 (Or.inr ⟨ysz t - 1, by omega, rfl⟩)
  rw [f2] at o6
  have C1 := zCls_f2 hc o7 (by omega) (by omega) (by omega) (by omega) (by omega) (by omega) (zScr_sm cs o7 o3 o4)
  have hss := ysz_ysim t
  have hds := ydp_ysim t
  have hw2 := ytw_ysim t a4.1
  have k1 : zkp m h h1 := ⟨fun q p1 p2 => o7.1 q (by omega) (by omega), by rw [o7.2]; exact Nat.le_refl _⟩
  obtain ⟨h2, e2, C2, fx2, T2, s2⟩ := d_75E (sv := sv) (d := d + 1) (t := ysim t) C1 o3 o2 (by omega) (by omega) (by rw [o7.2]; omega) o5 o6 (ytw_sz hw2) (by omega) (by omega)
  rw [o7.2] at e2 T2 s2
  have k2 : zkp m h1 h2 := zkp_fx fx2 (by omega)
  have A2 := zTre_cg a3 (fun q p1 p2 => ((zkp_tr k1 k2).1 q (by omega) (by omega)))
  obtain ⟨h3, e3, C3, f3'⟩ := d_132E (sv := sv) (d := d + 42) C2
  obtain ⟨S, s1, s2'⟩ := C3.2.2.1
  have hl : S.1.length = (ycur w).1.length := s2'.2.1.1
  have T3 := zTre_cg T2 (zcg_fr f3' (by omega))
  obtain ⟨h4, e4, w4, f4'⟩ := d_175S (sv := sv) (d := d + 45) (i := i) s1 (by omega) (zTre_k6 T3)
  obtain ⟨h5, e5, w5, f5'⟩ := d_177 (sv := sv) (d := d + 45) (x := nI (ysz t - ysz (ysim t))) w4
  have f45 := zfr_tr f4' f5'
  have k45 := zkp_fr (m := m) f45 (by omega)
  have T5 := zTre_cg T3 (zcg_fr f45 (by omega))
  have q5S : S.2 = (ycur w).2 := s2'.1
  have b3S := s2'.2.2
  have hA5 : zAS h5 m (S.1.set i h.2.1, S.2.1, S.2.2.1, S.2.2.2 + nI (ysz t - ysz (ysim t))) ((ycur w).1.set i (ysim t), (ycur w).2.1, (ycur w).2.2.1, (ycur w).2.2.2 + nI (ysz t - ysz (ysim t))) := by
    refine ⟨by rw [q5S], zFs_set (zFs_kp s2'.2.1 k45) (by omega) ⟨c0, by rw [f45.2, f3'.2, s2]; exact Nat.le_refl _, T5⟩, ?_, fun u hu => ?_, b3S.2.2⟩
    · rw [List.length_set]; exact b3S.1
    · rcases List.mem_or_eq_of_mem_set hu with g | g
      · exact b3S.2.1 u g
      · rw [g]
        exact ⟨hw2, by omega, by omega⟩
  refine ⟨h5, ?_, zCls_cur C3 f45 w5 hA5, ?_⟩
  · have e6 := d_182 (sv := sv) (d := d + 45) A2
    have e7 := d_182 (sv := sv) (d := d + 45) T2
    have q2 : h2.1 m = zECc m w.2.1 (yb w.2.2.1) := zCls_0 C2
    have q3 : h3.1 m = zECc m w.2.1 (yb w.2.2.1) := zCls_0 (w := yrec w) C3
    have q4 : h4.1 m = zECc m w.2.1 (yb w.2.2.1) := by rw [f4'.1 m (by omega), q3]
    have hp1 := zCls_0 C1
    have q6 : ∀ X : zR, zrc (h1.1 m) 1 X = X := fun X => by rw [hp1]; exact zrc_k
    have edec : nI (ypo 0 t).length - nI (ypo 0 (ysim t)).length = nI (ysz t - ysz (ysim t)) := by
      rw [ypo_len, ypo_len]
      conv => lhs; rw [show ysz t = ysz t - ysz (ysim t) + ysz (ysim t) by omega, ← nI_add, Int32.add_sub_cancel]
    simp (disch := exact znw_u) only [zc_28, zs_28_0, zs_28_0n, zs_28_1, zs_28_2, zs_28_5, zs_28_5n, zs_28_6, zs_28_6n, zs_28_7, zs_28_10, zs_28_10n, zs_28_11, zs_28_11n, zs_28_12, zs_28_15, zs_28_15n, zs_28_16, zs_28_19, zs_28_22, zs_28_23, zs_28_23n, zs_28_24, zs_28_24n, zs_28_25, zs_28_28, zs_28_29, zs_28_32, zs_28_32n, zs_28_34, zs_28_34n, zs_28_35, zs_28_38, zs_28_38n, zs_28_40, zs_28_43, zs_28_44, zs_28_46, zs_28_46n, zs_28_47, zs_28_50, zs_28_50n, zs_28_51, zs_28_54, zs_28_57, zs_28_57n, zs_28_58, zs_28_61, zs_28_62, zs_28_62n, zs_28_64, zs_28_67, zs_28_67n, zs_28_68, zs_28_71, zs_28_73, zs_28_76, zs_28_78, q5, e0, q1, hp1, q2, q3, q4, zECc, zrc_1, zf_1_0, zp_1_0, zp_1_0n, zf_1_1, zp_1_1, zf_1_2, zp_1_2, zp_1_2n, zf_1_3, zp_1_3, zp_1_3n, zf_1_4, zp_1_40, zp_1_41, zf_1_5, zp_1_5, zp_1_5n, zf_1_6, zp_1_6, zp_1_6n, zf_1_7, zp_1_7, zp_1_7n, zf_1_8, zp_1_8, zp_1_8n, zf_1_9, zp_1_9, zp_1_9n, zf_1_10, zp_1_10, zp_1_10n, zf_1_11, zp_1_11, zp_1_11n, zf_1_12, zp_1_12, zp_1_12n, zAl_rc b3, zTre_rc a3, d_183 a3, hroot, e1, q6, e2, zTre_rc A2, zTre_rc T2, e6, e7, edec, zthr_his C2, e3, zSta_rc s1, e4, zSta_rc w4, e5, zbk_v, zts_s, zts_n]
  · have g1 : zfx m (m + 119) 0 0 h h1 := ⟨fun q _ p => o7.1 q (by omega) (by omega), by rw [o7.2]; exact Nat.le_refl _, by rw [o7.2]; exact Nat.le_refl _, by rw [o7.2]; exact Nat.le_refl _⟩
    exact zfx_mono (zfx_tr g1 (zfx_tr (zfx_mono fx2 (by omega) (by omega) (Nat.le_refl _) (Nat.le_refl _)) (zfx_tr (zfr_fx f3' (by omega) (by omega)) (zfr_fx f45 (by omega) (by omega))))) (Nat.le_refl _) (Nat.le_refl _) (by omega) (by omega)
end ZEA
